/-! THE REFERENCE, counting -/
theorem brp {c d A B : Prop} : br c (br d A B) B = br (c ∧ d) A B := by
  by_cases k : c
  · rw [brt k]; exact br_cg ⟨fun z => ⟨k, z⟩, fun z => z.2⟩ rfl rfl
  · rw [brf k, brf (fun z => k z.1)]
theorem brq {c d A B : Prop} : br c A (br d A B) = br (c ∨ d) A B := by
  by_cases k : c
  · rw [brt k, brt (.inl k)]
  · rw [brf k]; exact br_cg ⟨.inr, fun z => z.elim (fun z => absurd z k) id⟩ rfl rfl
theorem brn {c d A B : Prop} : br c B (br d A B) = br (¬ c ∧ d) A B := by
  by_cases k : c
  · rw [brt k, brf (fun z => z.1 k)]
  · rw [brf k]; exact br_cg ⟨fun z => ⟨k, z⟩, fun z => z.2⟩ rfl rfl
theorem brm {c d A B : Prop} : br c (br d A B) A = br (¬ c ∨ d) A B := by
  by_cases k : c
  · rw [brt k]; exact br_cg ⟨.inr, fun z => z.elim (fun z => absurd k z) id⟩ rfl rfl
  · rw [brf k, brt (.inl k)]
theorem bre {c d e A B : Prop} : br c (br d A B) (br e A B) = br ((c ∧ d) ∨ (¬ c ∧ e)) A B := by
  by_cases k : c
  · rw [brt k]; exact br_cg ⟨fun z => .inl ⟨k, z⟩, fun z => z.elim (fun z => z.2) (fun z => absurd k z.1)⟩ rfl rfl
  · rw [brf k]; exact br_cg ⟨fun z => .inr ⟨k, z⟩, fun z => z.elim (fun z => absurd z.1 k) (fun z => z.2)⟩ rfl rfl
theorem br_sw {c d A B : Prop} (k : c ↔ ¬ d) : br c B A = br d A B := by
  by_cases q : d
  · rw [brt q, brf (fun z => k.mp z q)]
  · rw [brf q, brt (k.mpr q)]
theorem cn_skip {p : Int → Prop} (m : Nat) (i : Int) (n : Nat) (e : ∀ j, i ≤ j → j < i + m → ¬ p j) : cn p (m + n) i = cn p n (i + m) := by
  induction m generalizing i with
  | zero => rw [Nat.zero_add]; congr 1; omega
  | succ m ih =>
    have e1 : m + 1 + n = (m + n) + 1 := by omega
    rw [e1]
    show b2i (p i) + cn p (m + n) (i + 1) = _
    rw [b2i_f (e i (by omega) (by omega)), ih (i + 1) (fun j h1 h2 => e j (by omega) (by omega)), Int.zero_add]
    congr 1
    omega
section
variable {a : Na} {S : St} {h : Zh} {Q : Zp}
theorem m_isHead (hm : RepM a S h) (iv : Inv S) (k : Int) (hk : nt S k) : WP 120 0 [some (zr (some (a 100 0))), some (zi k)] [] h Q = Q (.inl (some (zi (b2i (S 11 k 0 = k ∧ S 12 k 0 ≠ 2))))) h := by
  obtain ⟨u0, u1⟩ := iv.2.2.1.1
  have k1 := hk.1
  have k2 := hk.2
  simp (disch := first | assumption | omega) only [b_120_0, b_120_10, b_120_20, b_120_24, b_120_25, kont_v, kont_n, kont_x, Nat.reduceAdd, ad_some, kd_some, ixa, and_true, true_and, and_self, eq_self, ne_eq, brT, brF, true_or, or_true, and_imp, hm.c0, hm.c1, hm.c2, hm.c3, hm.c4, hm.c5, hm.c6, hm.c7, hm.c8, hm.c9, hm.c10, hm.c11, hm.c12, hm.c13, hm.c14, hm.c15, hm.c16, hm.c17, hm.c18, hm.c19, hm.c20, hm.c21, hm.c22, hm.c23, hm.c24, hm.c25, hm.c26, hm.c27, hm.c28, hm.c29, hm.c30, hm.c31, hm.c32, hm.c33, hm.c34, hm.c35, hm.c36, hm.c37, hm.c38, hm.c39, hm.c40, hm.c41, hm.c42, hm.c43, hm.c44, hm.c45, hm.c46, hm.c47, hm.c48, hm.c49, hm.c50, hm.c51, hm.c52, hm.c53, hm.c54, hm.c55, hm.c56, hm.c57, hm.c58, hm.c59, hm.c60, hm.c61, hm.c62, hm.c63, hm.c64, hm.c65, hm.c66, hm.c67, hm.c68, hm.c69, hm.c70, hm.c71, hm.c72, hm.c73, hm.c74, hm.c75, hm.c76, hm.c77, aT, inR, brb10, brb01, brbpq, brb1p, brb0p, brbp1, brbp0, brb11, brb00, b2i_0, b2i_1, b2i_01, brN, one_ne0, zz01, oz01, nem, Classical.not_not]
theorem m_isLost (hm : RepM a S h) (iv : Inv S) (k : Int) (hk : nt S k) : WP 121 0 [some (zr (some (a 100 0))), some (zi k)] [] h Q = Q (.inl (some (zi (b2i (S 13 k 0 = S 14 k 0))))) h := by
  obtain ⟨u0, u1⟩ := iv.2.2.1.1
  have k1 := hk.1
  have k2 := hk.2
  simp (disch := first | assumption | omega) only [b_121_0, b_121_15, b_121_19, b_121_20, kont_v, kont_n, kont_x, Nat.reduceAdd, ad_some, kd_some, ixa, and_true, true_and, and_self, eq_self, ne_eq, brT, brF, true_or, or_true, and_imp, hm.c0, hm.c1, hm.c2, hm.c3, hm.c4, hm.c5, hm.c6, hm.c7, hm.c8, hm.c9, hm.c10, hm.c11, hm.c12, hm.c13, hm.c14, hm.c15, hm.c16, hm.c17, hm.c18, hm.c19, hm.c20, hm.c21, hm.c22, hm.c23, hm.c24, hm.c25, hm.c26, hm.c27, hm.c28, hm.c29, hm.c30, hm.c31, hm.c32, hm.c33, hm.c34, hm.c35, hm.c36, hm.c37, hm.c38, hm.c39, hm.c40, hm.c41, hm.c42, hm.c43, hm.c44, hm.c45, hm.c46, hm.c47, hm.c48, hm.c49, hm.c50, hm.c51, hm.c52, hm.c53, hm.c54, hm.c55, hm.c56, hm.c57, hm.c58, hm.c59, hm.c60, hm.c61, hm.c62, hm.c63, hm.c64, hm.c65, hm.c66, hm.c67, hm.c68, hm.c69, hm.c70, hm.c71, hm.c72, hm.c73, hm.c74, hm.c75, hm.c76, hm.c77, aT, inR, brb10, brb01, brbpq, brb1p, brb0p, brbp1, brbp0, brb11, brb00, b2i_0, b2i_1, b2i_01, brN, one_ne0, zz01, oz01, nem, Classical.not_not]
theorem m_overNow (hm : RepM a S h) (iv : Inv S) (u p : Int) (hu : 0 ≤ u ∧ u < S 0 0 0) : WP 136 0 [some (zr (some (a 100 0))), some (zi u), some (zi p), none, none] [] h Q = Q (.inl (some (zi (cn (OV S u p) (S 7 0 0).toNat 0)))) h := by
  obtain ⟨n0, n1⟩ := iv.2.2.1.1
  rw [b_136_0]
  refine loopC (W := fun _ acc i => WP 136 5 [some (zr (some (a 100 0))), some (zi u), some (zi p), some (zi acc), some (zi i)] [] h Q) (R := fun x => Q (.inl (some (zi x))) h) n0 (fun o i acc e1 e2 e3 e4 => ⟨none, ?_⟩) (fun o acc e1 e2 => ?_) none
  · have hk : nt S i := ⟨e1, e2⟩
    show WP 136 5 _ _ _ _ = _
    rw [b_136_5]
    simp (disch := first | assumption | omega) only [b_136_14, b_136_21, b_136_24, b_136_31, b_136_34, b_136_45, b_136_56, b_136_60, b_136_61, b_136_69, kont_v, kont_n, kont_x, Nat.reduceAdd, ad_some, kd_some, ixa, and_true, true_and, and_self, eq_self, ne_eq, brT, brF, true_or, or_true, and_imp, hm.c0, hm.c1, hm.c2, hm.c3, hm.c4, hm.c5, hm.c6, hm.c7, hm.c8, hm.c9, hm.c10, hm.c11, hm.c12, hm.c13, hm.c14, hm.c15, hm.c16, hm.c17, hm.c18, hm.c19, hm.c20, hm.c21, hm.c22, hm.c23, hm.c24, hm.c25, hm.c26, hm.c27, hm.c28, hm.c29, hm.c30, hm.c31, hm.c32, hm.c33, hm.c34, hm.c35, hm.c36, hm.c37, hm.c38, hm.c39, hm.c40, hm.c41, hm.c42, hm.c43, hm.c44, hm.c45, hm.c46, hm.c47, hm.c48, hm.c49, hm.c50, hm.c51, hm.c52, hm.c53, hm.c54, hm.c55, hm.c56, hm.c57, hm.c58, hm.c59, hm.c60, hm.c61, hm.c62, hm.c63, hm.c64, hm.c65, hm.c66, hm.c67, hm.c68, hm.c69, hm.c70, hm.c71, hm.c72, hm.c73, hm.c74, hm.c75, hm.c76, hm.c77, brf, aT, inR, brb10, brb01, brbpq, brb1p, brb0p, brbp1, brbp0, brb11, brb00, b2i_0, b2i_1, b2i_01, brN, one_ne0, zz01, oz01, nem, Classical.not_not, m_isHead hm iv i hk, m_seesNow hm iv u i hk hu, Int.add_zero, brn, brq, brp, brm, bre]
    refine br_sw ?_
    unfold OV
    by_cases c1 : S 11 i 0 = i
    · rw [c1]; grind
    · grind
  · show WP 136 5 _ _ _ _ = _
    rw [b_136_5]
    simp (disch := first | assumption | omega) only [kont_v, kont_n, kont_x, Nat.reduceAdd, ad_some, kd_some, ixa, and_true, true_and, and_self, eq_self, ne_eq, brT, brF, true_or, or_true, and_imp, hm.c0, hm.c1, hm.c2, hm.c3, hm.c4, hm.c5, hm.c6, hm.c7, hm.c8, hm.c9, hm.c10, hm.c11, hm.c12, hm.c13, hm.c14, hm.c15, hm.c16, hm.c17, hm.c18, hm.c19, hm.c20, hm.c21, hm.c22, hm.c23, hm.c24, hm.c25, hm.c26, hm.c27, hm.c28, hm.c29, hm.c30, hm.c31, hm.c32, hm.c33, hm.c34, hm.c35, hm.c36, hm.c37, hm.c38, hm.c39, hm.c40, hm.c41, hm.c42, hm.c43, hm.c44, hm.c45, hm.c46, hm.c47, hm.c48, hm.c49, hm.c50, hm.c51, hm.c52, hm.c53, hm.c54, hm.c55, hm.c56, hm.c57, hm.c58, hm.c59, hm.c60, hm.c61, hm.c62, hm.c63, hm.c64, hm.c65, hm.c66, hm.c67, hm.c68, hm.c69, hm.c70, hm.c71, hm.c72, hm.c73, hm.c74, hm.c75, hm.c76, hm.c77, brt, aT, inR, b_136_69]
theorem m_seen (hm : RepM a S h) (iv : Inv S) (u r : Int) : WP 144 0 [some (zr (some (a 100 0))), some (zi u), some (zi r), none, none] [] h Q = Q (.inl (some (zi (cn (WS S u r) (S 7 0 0).toNat 0)))) h := by
  obtain ⟨n0, n1⟩ := iv.2.2.1.1
  rw [b_144_0]
  refine loopC (W := fun _ acc i => WP 144 5 [some (zr (some (a 100 0))), some (zi u), some (zi r), some (zi acc), some (zi i)] [] h Q) (R := fun x => Q (.inl (some (zi x))) h) n0 (fun o i acc e1 e2 e3 e4 => ⟨none, ?_⟩) (fun o acc e1 e2 => ?_) none
  · have hk : nt S i := ⟨e1, e2⟩
    have hh := (iv_hd iv hk).1
    show WP 144 5 _ _ _ _ = _
    rw [b_144_5]
    simp (disch := first | assumption | omega) only [b_144_14, b_144_26, b_144_39, b_144_42, b_144_46, b_144_47, b_144_55, kont_v, kont_n, kont_x, Nat.reduceAdd, ad_some, kd_some, ixa, and_true, true_and, and_self, eq_self, ne_eq, brT, brF, true_or, or_true, and_imp, hm.c0, hm.c1, hm.c2, hm.c3, hm.c4, hm.c5, hm.c6, hm.c7, hm.c8, hm.c9, hm.c10, hm.c11, hm.c12, hm.c13, hm.c14, hm.c15, hm.c16, hm.c17, hm.c18, hm.c19, hm.c20, hm.c21, hm.c22, hm.c23, hm.c24, hm.c25, hm.c26, hm.c27, hm.c28, hm.c29, hm.c30, hm.c31, hm.c32, hm.c33, hm.c34, hm.c35, hm.c36, hm.c37, hm.c38, hm.c39, hm.c40, hm.c41, hm.c42, hm.c43, hm.c44, hm.c45, hm.c46, hm.c47, hm.c48, hm.c49, hm.c50, hm.c51, hm.c52, hm.c53, hm.c54, hm.c55, hm.c56, hm.c57, hm.c58, hm.c59, hm.c60, hm.c61, hm.c62, hm.c63, hm.c64, hm.c65, hm.c66, hm.c67, hm.c68, hm.c69, hm.c70, hm.c71, hm.c72, hm.c73, hm.c74, hm.c75, hm.c76, hm.c77, brf, aT, inR, brb10, brb01, brbpq, brb1p, brb0p, brbp1, brbp0, brb11, brb00, b2i_0, b2i_1, b2i_01, brN, one_ne0, zz01, oz01, nem, Classical.not_not, m_seesBy hm iv u r _ hh, Int.add_zero, brn, brq, brp, brm, bre]
    exact br_cg ⟨fun z => z, fun z => z⟩ rfl rfl
  · show WP 144 5 _ _ _ _ = _
    rw [b_144_5]
    simp (disch := first | assumption | omega) only [kont_v, kont_n, kont_x, Nat.reduceAdd, ad_some, kd_some, ixa, and_true, true_and, and_self, eq_self, ne_eq, brT, brF, true_or, or_true, and_imp, hm.c0, hm.c1, hm.c2, hm.c3, hm.c4, hm.c5, hm.c6, hm.c7, hm.c8, hm.c9, hm.c10, hm.c11, hm.c12, hm.c13, hm.c14, hm.c15, hm.c16, hm.c17, hm.c18, hm.c19, hm.c20, hm.c21, hm.c22, hm.c23, hm.c24, hm.c25, hm.c26, hm.c27, hm.c28, hm.c29, hm.c30, hm.c31, hm.c32, hm.c33, hm.c34, hm.c35, hm.c36, hm.c37, hm.c38, hm.c39, hm.c40, hm.c41, hm.c42, hm.c43, hm.c44, hm.c45, hm.c46, hm.c47, hm.c48, hm.c49, hm.c50, hm.c51, hm.c52, hm.c53, hm.c54, hm.c55, hm.c56, hm.c57, hm.c58, hm.c59, hm.c60, hm.c61, hm.c62, hm.c63, hm.c64, hm.c65, hm.c66, hm.c67, hm.c68, hm.c69, hm.c70, hm.c71, hm.c72, hm.c73, hm.c74, hm.c75, hm.c76, hm.c77, brt, aT, inR, b_144_55]
end
