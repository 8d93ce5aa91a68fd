/-! THE CLASS: over, lostBy, wouldSee, sign, now, the checksum -/
/-- an adding loop -/
noncomputable def fo (f : Int64 → Int → Int64) (m : Nat) (i : Int) (d : Int64) : Int64 := match m with
  | 0 => d
  | m + 1 => fo f m (i + 1) (f d i)
theorem loopF {W : Option Zv → Int64 → Int → Prop} {R : Int64 → Prop} {f : Int64 → Int → Int64} {N : Int} (n0 : 0 ≤ N)
    (step : ∀ o i d, 0 ≤ i → i < N → ∃ o', W o d i = W o' (f d i) (i + 1))
    (fin : ∀ o d, W o d N = R d) (o : Option Zv) (d : Int64) : W o d 0 = R (fo f N.toNat 0 d) := by
  have key : ∀ (m : Nat) (o : Option Zv) (i : Int) (d : Int64), m = (N - i).toNat → 0 ≤ i → i ≤ N → W o d i = R (fo f m i d) := by
    intro m
    induction m with
    | zero =>
      intro o i d e1 e2 e3
      have e : i = N := by omega
      rw [e, fin o d]
      rfl
    | succ m ih =>
      intro o i d e1 e2 e3
      obtain ⟨o', es⟩ := step o i d e2 (by omega)
      rw [es, ih o' (i + 1) (f d i) (by omega) (by omega) (by omega)]
      rfl
  exact key N.toNat o 0 d (by omega) (by omega) n0
noncomputable def sg (S : St) (v p : Int) : Int := @ite Int (0 ≤ p ∧ p < S 3 v 0) (Classical.propDecidable _) (S 5 (S 4 v p) 0) (-1)
noncomputable def nw9 (S : St) (v p : Int) : Int := fs (fun i => S 4 (S 2 0 0) i = S 4 v p) (S 3 (S 2 0 0) 0).toNat 0
section
variable {a : Na} {S : St} {h : Zh} {Q : Zp}
theorem c_over (hr : RepC a S h) (iv : Inv S) (u p : Int) : WP 53 0 [some (zr (some (a 0 0))), some (zi u), some (zi p), none, none, none] [] h Q = br (0 ≤ u ∧ u < S 0 0 0) (Q (.inl (some (zi (cn (OV S u p) (S 7 0 0).toNat 0)))) h) (thr h 3 Q) := by
  obtain ⟨n0, n1⟩ := iv.2.2.1.1
  simp (disch := first | assumption | omega) only [b_53_0, kont_v, kont_n, kont_x, Nat.reduceAdd, ad_some, kd_some, ixa, and_true, true_and, and_self, eq_self, ne_eq, brT, brF, true_or, or_true, and_imp, hr.c0, hr.c1, hr.c2, hr.c3, hr.c4, hr.c5, hr.c6, hr.c7, hr.c8, hr.c9, hr.c10, hr.c11, hr.c12, hr.c13, hr.c14, hr.c15, hr.c16, hr.c17, hr.c18, hr.c19, hr.c20, hr.c21, hr.c22, hr.c23, hr.c24, hr.c25, hr.c26, hr.c27, hr.c28, hr.c29, hr.c30, hr.c31, hr.c32, hr.c33, hr.c34, hr.c35, hr.c36, hr.c37, hr.c38, hr.c39, hr.c40, hr.c41, hr.c42, hr.c43, hr.c44, hr.c45, hr.c46, hr.c47, hr.c48, hr.c49, hr.c50, hr.c51, hr.c52, hr.c53, hr.c54, hr.c55, hr.c56, hr.c57, hr.c58, hr.c59, hr.c60, hr.c61, hr.c62, hr.c63, hr.c64, hr.c65, hr.c66, hr.c67, hr.c68, hr.c69, hr.c70, aT, inR, c_reqUser hr iv]
  by_cases c : 0 ≤ u ∧ u < S 0 0 0
  · rw [brt c, brt c, b_53_5]
    refine loopC (W := fun o acc i => WP 53 10 [some (zr (some (a 0 0))), some (zi u), some (zi p), some (zi acc), some (zi i), o] [] h Q) (R := fun x => Q (.inl (some (zi x))) h) n0 (fun o i acc e1 e2 e3 e4 => ⟨some (zr (some (a 20 i))), ?_⟩) (fun o acc e1 e2 => ?_) none
    · have hk : nt S i := ⟨e1, e2⟩
      show WP 53 10 _ _ _ _ = _
      rw [b_53_10]
      by_cases c1 : S 11 i 0 = i ∧ S 12 i 0 ≠ 2
      · have hh : hd S i := ⟨hk, c1.1⟩
        have e := hr.c44 i i hk hh c1.1
        simp (disch := first | assumption | omega) only [b_53_19, b_53_33, b_53_36, b_53_43, b_53_46, b_53_58, b_53_61, b_53_64, b_53_70, kont_v, kont_n, kont_x, Nat.reduceAdd, ad_some, kd_some, ixa, and_true, true_and, and_self, eq_self, ne_eq, brT, brF, true_or, or_true, and_imp, hr.c0, hr.c1, hr.c2, hr.c3, hr.c4, hr.c5, hr.c6, hr.c7, hr.c8, hr.c9, hr.c10, hr.c11, hr.c12, hr.c13, hr.c14, hr.c15, hr.c16, hr.c17, hr.c18, hr.c19, hr.c20, hr.c21, hr.c22, hr.c23, hr.c24, hr.c25, hr.c26, hr.c27, hr.c28, hr.c29, hr.c30, hr.c31, hr.c32, hr.c33, hr.c34, hr.c35, hr.c36, hr.c37, hr.c38, hr.c39, hr.c40, hr.c41, hr.c42, hr.c43, hr.c44, hr.c45, hr.c46, hr.c47, hr.c48, hr.c49, hr.c50, hr.c51, hr.c52, hr.c53, hr.c54, hr.c55, hr.c56, hr.c57, hr.c58, hr.c59, hr.c60, hr.c61, hr.c62, hr.c63, hr.c64, hr.c65, hr.c66, hr.c67, hr.c68, hr.c69, hr.c70, brf, aT, inR, brb10, brb01, brbpq, brb1p, brb0p, brbp1, brbp0, brb11, brb00, b2i_0, b2i_1, b2i_01, brN, one_ne0, zz01, oz01, nem, Classical.not_not, c_hngR hr iv i hk, e, c_isSeen hr iv u i hk c, c1.1, c_covers _ p (hr.c56 i hh), brt, c1]
        by_cases s1 : SE S u (S 1 u 0) i
        · rw [brt s1]
          exact br_cg ⟨fun z => ⟨c1, s1, z⟩, fun z => z.2.2⟩ rfl rfl
        · rw [brf s1, brf (fun z => s1 z.2.1)]
      · simp (disch := first | assumption | omega) only [b_53_19, b_53_33, b_53_36, b_53_43, b_53_46, b_53_58, b_53_61, b_53_64, b_53_70, kont_v, kont_n, kont_x, Nat.reduceAdd, ad_some, kd_some, ixa, and_true, true_and, and_self, eq_self, ne_eq, brT, brF, true_or, or_true, and_imp, hr.c0, hr.c1, hr.c2, hr.c3, hr.c4, hr.c5, hr.c6, hr.c7, hr.c8, hr.c9, hr.c10, hr.c11, hr.c12, hr.c13, hr.c14, hr.c15, hr.c16, hr.c17, hr.c18, hr.c19, hr.c20, hr.c21, hr.c22, hr.c23, hr.c24, hr.c25, hr.c26, hr.c27, hr.c28, hr.c29, hr.c30, hr.c31, hr.c32, hr.c33, hr.c34, hr.c35, hr.c36, hr.c37, hr.c38, hr.c39, hr.c40, hr.c41, hr.c42, hr.c43, hr.c44, hr.c45, hr.c46, hr.c47, hr.c48, hr.c49, hr.c50, hr.c51, hr.c52, hr.c53, hr.c54, hr.c55, hr.c56, hr.c57, hr.c58, hr.c59, hr.c60, hr.c61, hr.c62, hr.c63, hr.c64, hr.c65, hr.c66, hr.c67, hr.c68, hr.c69, hr.c70, brf c1, brf, aT, inR, brb10, brb01, brbpq, brb1p, brb0p, brbp1, brbp0, brb11, brb00, b2i_0, b2i_1, b2i_01, brN, one_ne0, zz01, oz01, nem, Classical.not_not, c_hngR hr iv i hk]
        rw [brf (fun z => c1 z.1)]
    · show WP 53 10 _ _ _ _ = _
      rw [b_53_10]
      simp (disch := first | assumption | omega) only [kont_v, kont_n, kont_x, Nat.reduceAdd, ad_some, kd_some, ixa, and_true, true_and, and_self, eq_self, ne_eq, brT, brF, true_or, or_true, and_imp, hr.c0, hr.c1, hr.c2, hr.c3, hr.c4, hr.c5, hr.c6, hr.c7, hr.c8, hr.c9, hr.c10, hr.c11, hr.c12, hr.c13, hr.c14, hr.c15, hr.c16, hr.c17, hr.c18, hr.c19, hr.c20, hr.c21, hr.c22, hr.c23, hr.c24, hr.c25, hr.c26, hr.c27, hr.c28, hr.c29, hr.c30, hr.c31, hr.c32, hr.c33, hr.c34, hr.c35, hr.c36, hr.c37, hr.c38, hr.c39, hr.c40, hr.c41, hr.c42, hr.c43, hr.c44, hr.c45, hr.c46, hr.c47, hr.c48, hr.c49, hr.c50, hr.c51, hr.c52, hr.c53, hr.c54, hr.c55, hr.c56, hr.c57, hr.c58, hr.c59, hr.c60, hr.c61, hr.c62, hr.c63, hr.c64, hr.c65, hr.c66, hr.c67, hr.c68, hr.c69, hr.c70, brt, aT, inR, b_53_70]
  · rw [brf c, brf c]
    simp only [thr, kont_v, kont_n, kont_x, Nat.reduceAdd, ad_some, kd_some, ixa, and_true, true_and, and_self, eq_self, ne_eq, brT, brF, true_or, or_true, and_imp]
theorem c_wouldSee (hr : RepC a S h) (iv : Inv S) (u r : Int) : WP 59 0 [some (zr (some (a 0 0))), some (zi u), some (zi r), none, none] [] h Q = br (0 ≤ u ∧ u < S 0 0 0) (br (0 ≤ r ∧ r ≤ 4) (Q (.inl (some (zi (cn (WS S u r) (S 7 0 0).toNat 0)))) h) (thr h 1 Q)) (thr h 3 Q) := by
  obtain ⟨n0, n1⟩ := iv.2.2.1.1
  simp (disch := first | assumption | omega) only [b_59_0, kont_v, kont_n, kont_x, Nat.reduceAdd, ad_some, kd_some, ixa, and_true, true_and, and_self, eq_self, ne_eq, brT, brF, true_or, or_true, and_imp, hr.c0, hr.c1, hr.c2, hr.c3, hr.c4, hr.c5, hr.c6, hr.c7, hr.c8, hr.c9, hr.c10, hr.c11, hr.c12, hr.c13, hr.c14, hr.c15, hr.c16, hr.c17, hr.c18, hr.c19, hr.c20, hr.c21, hr.c22, hr.c23, hr.c24, hr.c25, hr.c26, hr.c27, hr.c28, hr.c29, hr.c30, hr.c31, hr.c32, hr.c33, hr.c34, hr.c35, hr.c36, hr.c37, hr.c38, hr.c39, hr.c40, hr.c41, hr.c42, hr.c43, hr.c44, hr.c45, hr.c46, hr.c47, hr.c48, hr.c49, hr.c50, hr.c51, hr.c52, hr.c53, hr.c54, hr.c55, hr.c56, hr.c57, hr.c58, hr.c59, hr.c60, hr.c61, hr.c62, hr.c63, hr.c64, hr.c65, hr.c66, hr.c67, hr.c68, hr.c69, hr.c70, aT, inR, c_reqUser hr iv]
  by_cases c : 0 ≤ u ∧ u < S 0 0 0
  · rw [brt c, brt c]
    simp only [b_59_5, b_59_9, kont_v, kont_n, kont_x, Nat.reduceAdd, ad_some, kd_some, ixa, and_true, true_and, and_self, eq_self, ne_eq, brT, brF, true_or, or_true, and_imp, s_isRight, s_reqAr]
    by_cases c2 : 0 ≤ r ∧ r ≤ 4
    · rw [brt c2, brt c2, b_59_12]
      refine loopC (W := fun o acc i => WP 59 17 [some (zr (some (a 0 0))), some (zi u), some (zi r), some (zi acc), some (zi i)] [] h Q) (R := fun x => Q (.inl (some (zi x))) h) n0 (fun o i acc e1 e2 e3 e4 => ⟨none, ?_⟩) (fun o acc e1 e2 => ?_) none
      · have hk : nt S i := ⟨e1, e2⟩
        show WP 59 17 _ _ _ _ = _
        rw [b_59_17]
        by_cases c1 : S 12 i 0 = 2
        · simp (disch := first | assumption | omega) only [b_59_26, b_59_39, b_59_54, b_59_57, b_59_60, b_59_66, kont_v, kont_n, kont_x, Nat.reduceAdd, ad_some, kd_some, ixa, and_true, true_and, and_self, eq_self, ne_eq, brT, brF, true_or, or_true, and_imp, hr.c0, hr.c1, hr.c2, hr.c3, hr.c4, hr.c5, hr.c6, hr.c7, hr.c8, hr.c9, hr.c10, hr.c11, hr.c12, hr.c13, hr.c14, hr.c15, hr.c16, hr.c17, hr.c18, hr.c19, hr.c20, hr.c21, hr.c22, hr.c23, hr.c24, hr.c25, hr.c26, hr.c27, hr.c28, hr.c29, hr.c30, hr.c31, hr.c32, hr.c33, hr.c34, hr.c35, hr.c36, hr.c37, hr.c38, hr.c39, hr.c40, hr.c41, hr.c42, hr.c43, hr.c44, hr.c45, hr.c46, hr.c47, hr.c48, hr.c49, hr.c50, hr.c51, hr.c52, hr.c53, hr.c54, hr.c55, hr.c56, hr.c57, hr.c58, hr.c59, hr.c60, hr.c61, hr.c62, hr.c63, hr.c64, hr.c65, hr.c66, hr.c67, hr.c68, hr.c69, hr.c70, brf, brt, c1, aT, inR, brb10, brb01, brbpq, brb1p, brb0p, brbp1, brbp0, brb11, brb00, b2i_0, b2i_1, b2i_01, brN, one_ne0, zz01, oz01, nem, Classical.not_not]
          rw [brf (fun z => z.1 c1)]
        · have e := c_str hr iv hk
          have hh := iv_hd iv hk
          simp (disch := first | assumption | omega) only [b_59_26, b_59_39, b_59_54, b_59_57, b_59_60, b_59_66, kont_v, kont_n, kont_x, Nat.reduceAdd, ad_some, kd_some, ixa, and_true, true_and, and_self, eq_self, ne_eq, brT, brF, true_or, or_true, and_imp, hr.c0, hr.c1, hr.c2, hr.c3, hr.c4, hr.c5, hr.c6, hr.c7, hr.c8, hr.c9, hr.c10, hr.c11, hr.c12, hr.c13, hr.c14, hr.c15, hr.c16, hr.c17, hr.c18, hr.c19, hr.c20, hr.c21, hr.c22, hr.c23, hr.c24, hr.c25, hr.c26, hr.c27, hr.c28, hr.c29, hr.c30, hr.c31, hr.c32, hr.c33, hr.c34, hr.c35, hr.c36, hr.c37, hr.c38, hr.c39, hr.c40, hr.c41, hr.c42, hr.c43, hr.c44, hr.c45, hr.c46, hr.c47, hr.c48, hr.c49, hr.c50, hr.c51, hr.c52, hr.c53, hr.c54, hr.c55, hr.c56, hr.c57, hr.c58, hr.c59, hr.c60, hr.c61, hr.c62, hr.c63, hr.c64, hr.c65, hr.c66, hr.c67, hr.c68, hr.c69, hr.c70, brf c1, brf, brt, aT, inR, brb10, brb01, brbpq, brb1p, brb0p, brbp1, brbp0, brb11, brb00, b2i_0, b2i_1, b2i_01, brN, one_ne0, zz01, oz01, nem, Classical.not_not, e, c_seenBy _ u r (hr.c47 _ hh)]
          exact br_cg ⟨fun z => ⟨c1, by unfold SE; omega⟩, fun z => by have := z.2; unfold SE at this; omega⟩ rfl rfl
      · show WP 59 17 _ _ _ _ = _
        rw [b_59_17]
        simp (disch := first | assumption | omega) only [kont_v, kont_n, kont_x, Nat.reduceAdd, ad_some, kd_some, ixa, and_true, true_and, and_self, eq_self, ne_eq, brT, brF, true_or, or_true, and_imp, hr.c0, hr.c1, hr.c2, hr.c3, hr.c4, hr.c5, hr.c6, hr.c7, hr.c8, hr.c9, hr.c10, hr.c11, hr.c12, hr.c13, hr.c14, hr.c15, hr.c16, hr.c17, hr.c18, hr.c19, hr.c20, hr.c21, hr.c22, hr.c23, hr.c24, hr.c25, hr.c26, hr.c27, hr.c28, hr.c29, hr.c30, hr.c31, hr.c32, hr.c33, hr.c34, hr.c35, hr.c36, hr.c37, hr.c38, hr.c39, hr.c40, hr.c41, hr.c42, hr.c43, hr.c44, hr.c45, hr.c46, hr.c47, hr.c48, hr.c49, hr.c50, hr.c51, hr.c52, hr.c53, hr.c54, hr.c55, hr.c56, hr.c57, hr.c58, hr.c59, hr.c60, hr.c61, hr.c62, hr.c63, hr.c64, hr.c65, hr.c66, hr.c67, hr.c68, hr.c69, hr.c70, brt, aT, inR, b_59_66]
    · rw [brf c2, brf c2]
      simp only [thr, kont_v, kont_n, kont_x, Nat.reduceAdd, ad_some, kd_some, ixa, and_true, true_and, and_self, eq_self, ne_eq, brT, brF, true_or, or_true, and_imp]
  · rw [brf c, brf c]
    simp only [thr, kont_v, kont_n, kont_x, Nat.reduceAdd, ad_some, kd_some, ixa, and_true, true_and, and_self, eq_self, ne_eq, brT, brF, true_or, or_true, and_imp]
theorem c_lostBy (hr : RepC a S h) (iv : Inv S) (p m : Int) : WP 57 0 [some (zr (some (a 0 0))), some (zi p), some (zi m), none, none] [] h Q = br (0 ≤ p ∧ p < S 3 (S 2 0 0) 0) (br (1 ≤ m ∧ m ≤ S 3 (S 2 0 0) 0 - p) (Q (.inl (some (zi (cn (LB S p m) (S 7 0 0).toNat 0)))) h) (thr h 1 Q)) (thr h 3 Q) := by
  obtain ⟨n0, n1⟩ := iv.2.2.1.1
  obtain ⟨u0, u1⟩ := iv.2.1.1
  obtain ⟨u2, u3⟩ := iv.2.1.2.1 (S 2 0 0) u0 (Int.le_refl _)
  simp (disch := first | assumption | omega) only [b_57_0, kont_v, kont_n, kont_x, Nat.reduceAdd, ad_some, kd_some, ixa, and_true, true_and, and_self, eq_self, ne_eq, brT, brF, true_or, or_true, and_imp, hr.c0, hr.c1, hr.c2, hr.c3, hr.c4, hr.c5, hr.c6, hr.c7, hr.c8, hr.c9, hr.c10, hr.c11, hr.c12, hr.c13, hr.c14, hr.c15, hr.c16, hr.c17, hr.c18, hr.c19, hr.c20, hr.c21, hr.c22, hr.c23, hr.c24, hr.c25, hr.c26, hr.c27, hr.c28, hr.c29, hr.c30, hr.c31, hr.c32, hr.c33, hr.c34, hr.c35, hr.c36, hr.c37, hr.c38, hr.c39, hr.c40, hr.c41, hr.c42, hr.c43, hr.c44, hr.c45, hr.c46, hr.c47, hr.c48, hr.c49, hr.c50, hr.c51, hr.c52, hr.c53, hr.c54, hr.c55, hr.c56, hr.c57, hr.c58, hr.c59, hr.c60, hr.c61, hr.c62, hr.c63, hr.c64, hr.c65, hr.c66, hr.c67, hr.c68, hr.c69, hr.c70, aT, inR, c_reqSign hr iv]
  by_cases c : 0 ≤ p ∧ p < S 3 (S 2 0 0) 0
  · rw [brt c, brt c]
    simp (disch := first | assumption | omega) only [b_57_5, b_57_14, b_57_19, kont_v, kont_n, kont_x, Nat.reduceAdd, ad_some, kd_some, ixa, and_true, true_and, and_self, eq_self, ne_eq, brT, brF, true_or, or_true, and_imp, hr.c0, hr.c1, hr.c2, hr.c3, hr.c4, hr.c5, hr.c6, hr.c7, hr.c8, hr.c9, hr.c10, hr.c11, hr.c12, hr.c13, hr.c14, hr.c15, hr.c16, hr.c17, hr.c18, hr.c19, hr.c20, hr.c21, hr.c22, hr.c23, hr.c24, hr.c25, hr.c26, hr.c27, hr.c28, hr.c29, hr.c30, hr.c31, hr.c32, hr.c33, hr.c34, hr.c35, hr.c36, hr.c37, hr.c38, hr.c39, hr.c40, hr.c41, hr.c42, hr.c43, hr.c44, hr.c45, hr.c46, hr.c47, hr.c48, hr.c49, hr.c50, hr.c51, hr.c52, hr.c53, hr.c54, hr.c55, hr.c56, hr.c57, hr.c58, hr.c59, hr.c60, hr.c61, hr.c62, hr.c63, hr.c64, hr.c65, hr.c66, hr.c67, hr.c68, hr.c69, hr.c70, aT, inR, s_isWithin, s_reqAr, c_tsize hr iv]
    by_cases c2 : 1 ≤ m ∧ m ≤ S 3 (S 2 0 0) 0 - p
    · rw [brt c2, brt c2, b_57_22]
      refine loopC (W := fun o acc i => WP 57 27 [some (zr (some (a 0 0))), some (zi p), some (zi m), some (zi acc), some (zi i)] [] h Q) (R := fun x => Q (.inl (some (zi x))) h) n0 (fun o i acc e1 e2 e3 e4 => ⟨none, ?_⟩) (fun o acc e1 e2 => ?_) none
      · have hk : nt S i := ⟨e1, e2⟩
        show WP 57 27 _ _ _ _ = _
        rw [b_57_27]
        by_cases c1 : S 11 i 0 = i ∧ S 12 i 0 ≠ 2
        · have hh : hd S i := ⟨hk, c1.1⟩
          have e := hr.c44 i i hk hh c1.1
          simp (disch := first | assumption | omega) only [b_57_36, b_57_46, b_57_49, b_57_69, b_57_72, b_57_75, b_57_81, kont_v, kont_n, kont_x, Nat.reduceAdd, ad_some, kd_some, ixa, and_true, true_and, and_self, eq_self, ne_eq, brT, brF, true_or, or_true, and_imp, hr.c0, hr.c1, hr.c2, hr.c3, hr.c4, hr.c5, hr.c6, hr.c7, hr.c8, hr.c9, hr.c10, hr.c11, hr.c12, hr.c13, hr.c14, hr.c15, hr.c16, hr.c17, hr.c18, hr.c19, hr.c20, hr.c21, hr.c22, hr.c23, hr.c24, hr.c25, hr.c26, hr.c27, hr.c28, hr.c29, hr.c30, hr.c31, hr.c32, hr.c33, hr.c34, hr.c35, hr.c36, hr.c37, hr.c38, hr.c39, hr.c40, hr.c41, hr.c42, hr.c43, hr.c44, hr.c45, hr.c46, hr.c47, hr.c48, hr.c49, hr.c50, hr.c51, hr.c52, hr.c53, hr.c54, hr.c55, hr.c56, hr.c57, hr.c58, hr.c59, hr.c60, hr.c61, hr.c62, hr.c63, hr.c64, hr.c65, hr.c66, hr.c67, hr.c68, hr.c69, hr.c70, brf, aT, inR, brb10, brb01, brbpq, brb1p, brb0p, brbp1, brbp0, brb11, brb00, b2i_0, b2i_1, b2i_01, brN, one_ne0, zz01, oz01, nem, Classical.not_not, c_hngR hr iv i hk, e, c_wbl _ p (p + m) (hr.c56 i hh), brt, c1]
          exact br_cg ⟨fun z => ⟨c1, z⟩, fun z => z.2⟩ rfl rfl
        · simp (disch := first | assumption | omega) only [b_57_36, b_57_46, b_57_49, b_57_69, b_57_72, b_57_75, b_57_81, kont_v, kont_n, kont_x, Nat.reduceAdd, ad_some, kd_some, ixa, and_true, true_and, and_self, eq_self, ne_eq, brT, brF, true_or, or_true, and_imp, hr.c0, hr.c1, hr.c2, hr.c3, hr.c4, hr.c5, hr.c6, hr.c7, hr.c8, hr.c9, hr.c10, hr.c11, hr.c12, hr.c13, hr.c14, hr.c15, hr.c16, hr.c17, hr.c18, hr.c19, hr.c20, hr.c21, hr.c22, hr.c23, hr.c24, hr.c25, hr.c26, hr.c27, hr.c28, hr.c29, hr.c30, hr.c31, hr.c32, hr.c33, hr.c34, hr.c35, hr.c36, hr.c37, hr.c38, hr.c39, hr.c40, hr.c41, hr.c42, hr.c43, hr.c44, hr.c45, hr.c46, hr.c47, hr.c48, hr.c49, hr.c50, hr.c51, hr.c52, hr.c53, hr.c54, hr.c55, hr.c56, hr.c57, hr.c58, hr.c59, hr.c60, hr.c61, hr.c62, hr.c63, hr.c64, hr.c65, hr.c66, hr.c67, hr.c68, hr.c69, hr.c70, brf c1, brf, aT, inR, brb10, brb01, brbpq, brb1p, brb0p, brbp1, brbp0, brb11, brb00, b2i_0, b2i_1, b2i_01, brN, one_ne0, zz01, oz01, nem, Classical.not_not, c_hngR hr iv i hk]
          rw [brf (fun z => c1 z.1)]
      · show WP 57 27 _ _ _ _ = _
        rw [b_57_27]
        simp (disch := first | assumption | omega) only [kont_v, kont_n, kont_x, Nat.reduceAdd, ad_some, kd_some, ixa, and_true, true_and, and_self, eq_self, ne_eq, brT, brF, true_or, or_true, and_imp, hr.c0, hr.c1, hr.c2, hr.c3, hr.c4, hr.c5, hr.c6, hr.c7, hr.c8, hr.c9, hr.c10, hr.c11, hr.c12, hr.c13, hr.c14, hr.c15, hr.c16, hr.c17, hr.c18, hr.c19, hr.c20, hr.c21, hr.c22, hr.c23, hr.c24, hr.c25, hr.c26, hr.c27, hr.c28, hr.c29, hr.c30, hr.c31, hr.c32, hr.c33, hr.c34, hr.c35, hr.c36, hr.c37, hr.c38, hr.c39, hr.c40, hr.c41, hr.c42, hr.c43, hr.c44, hr.c45, hr.c46, hr.c47, hr.c48, hr.c49, hr.c50, hr.c51, hr.c52, hr.c53, hr.c54, hr.c55, hr.c56, hr.c57, hr.c58, hr.c59, hr.c60, hr.c61, hr.c62, hr.c63, hr.c64, hr.c65, hr.c66, hr.c67, hr.c68, hr.c69, hr.c70, brt, aT, inR, b_57_81]
    · rw [brf c2, brf c2]
      simp only [thr, kont_v, kont_n, kont_x, Nat.reduceAdd, ad_some, kd_some, ixa, and_true, true_and, and_self, eq_self, ne_eq, brT, brF, true_or, or_true, and_imp]
  · rw [brf c, brf c]
    simp only [thr, kont_v, kont_n, kont_x, Nat.reduceAdd, ad_some, kd_some, ixa, and_true, true_and, and_self, eq_self, ne_eq, brT, brF, true_or, or_true, and_imp]
theorem fs_s (p : Int → Prop) (m : Nat) (i : Int) : fs p (m + 1) i = @ite Int (p i) (Classical.propDecidable _) i (fs p m (i + 1)) := rfl
theorem c_nowL (hr : RepC a S h) (iv : Inv S) (v p x : Int) (m : Nat) : ∀ i, m = (S 3 (S 2 0 0) 0 - i).toNat → 0 ≤ i → WP 28 12 [some (zr (some (a 2 0))), some (zi v), some (zi p), some (zi x), some (zi i)] [] h Q = Q (.inl (some (zi (fs (fun i => S 4 (S 2 0 0) i = x) m i)))) h := by
  obtain ⟨u0, u1⟩ := iv.2.1.1
  obtain ⟨u2, u3⟩ := iv.2.1.2.1 (S 2 0 0) u0 (Int.le_refl _)
  have u4 := Int.le_refl (S 2 0 0)
  induction m with
  | zero =>
    intro i e1 e2
    rw [b_28_12]
    simp (disch := first | assumption | omega) only [b_28_18, b_28_46, kont_v, kont_n, kont_x, Nat.reduceAdd, ad_some, kd_some, ixa, and_true, true_and, and_self, eq_self, ne_eq, brT, brF, true_or, or_true, and_imp, hr.c0, hr.c1, hr.c2, hr.c3, hr.c4, hr.c5, hr.c6, hr.c7, hr.c8, hr.c9, hr.c10, hr.c11, hr.c12, hr.c13, hr.c14, hr.c15, hr.c16, hr.c17, hr.c18, hr.c19, hr.c20, hr.c21, hr.c22, hr.c23, hr.c24, hr.c25, hr.c26, hr.c27, hr.c28, hr.c29, hr.c30, hr.c31, hr.c32, hr.c33, hr.c34, hr.c35, hr.c36, hr.c37, hr.c38, hr.c39, hr.c40, hr.c41, hr.c42, hr.c43, hr.c44, hr.c45, hr.c46, hr.c47, hr.c48, hr.c49, hr.c50, hr.c51, hr.c52, hr.c53, hr.c54, hr.c55, hr.c56, hr.c57, hr.c58, hr.c59, hr.c60, hr.c61, hr.c62, hr.c63, hr.c64, hr.c65, hr.c66, hr.c67, hr.c68, hr.c69, hr.c70, aT, inR, c_tsize hr iv, brt]
    rfl
  | succ m ih =>
    intro i e1 e2
    rw [b_28_12]
    simp (disch := first | assumption | omega) only [b_28_18, b_28_21, b_28_37, b_28_40, b_28_46, kont_v, kont_n, kont_x, Nat.reduceAdd, ad_some, kd_some, ixa, and_true, true_and, and_self, eq_self, ne_eq, brT, brF, true_or, or_true, and_imp, hr.c0, hr.c1, hr.c2, hr.c3, hr.c4, hr.c5, hr.c6, hr.c7, hr.c8, hr.c9, hr.c10, hr.c11, hr.c12, hr.c13, hr.c14, hr.c15, hr.c16, hr.c17, hr.c18, hr.c19, hr.c20, hr.c21, hr.c22, hr.c23, hr.c24, hr.c25, hr.c26, hr.c27, hr.c28, hr.c29, hr.c30, hr.c31, hr.c32, hr.c33, hr.c34, hr.c35, hr.c36, hr.c37, hr.c38, hr.c39, hr.c40, hr.c41, hr.c42, hr.c43, hr.c44, hr.c45, hr.c46, hr.c47, hr.c48, hr.c49, hr.c50, hr.c51, hr.c52, hr.c53, hr.c54, hr.c55, hr.c56, hr.c57, hr.c58, hr.c59, hr.c60, hr.c61, hr.c62, hr.c63, hr.c64, hr.c65, hr.c66, hr.c67, hr.c68, hr.c69, hr.c70, aT, inR, c_tsize hr iv, brf, ih, fs_s]
    by_cases c : S 4 (S 2 0 0) i = x
    · rw [brt c, if_pos c]
    · rw [brf c, if_neg c]
theorem c_now (hr : RepC a S h) (iv : Inv S) (v p : Int) : WP 38 0 [some (zr (some (a 0 0))), some (zi v), some (zi p)] [] h Q = br (0 ≤ v ∧ v ≤ S 2 0 0) (br (0 ≤ p ∧ p < S 3 v 0) (Q (.inl (some (zi (nw9 S v p)))) h) (thr h 3 Q)) (thr h 3 Q) := by
  obtain ⟨u0, u1⟩ := iv.2.1.1
  simp (disch := first | assumption | omega) only [b_38_0, b_38_8, b_38_11, b_38_20, b_38_23, b_38_32, kont_v, kont_n, kont_x, Nat.reduceAdd, ad_some, kd_some, ixa, and_true, true_and, and_self, eq_self, ne_eq, brT, brF, true_or, or_true, and_imp, hr.c0, hr.c1, hr.c2, hr.c3, hr.c4, hr.c5, hr.c6, hr.c7, hr.c8, hr.c9, hr.c10, hr.c11, hr.c12, hr.c13, hr.c14, hr.c15, hr.c16, hr.c17, hr.c18, hr.c19, hr.c20, hr.c21, hr.c22, hr.c23, hr.c24, hr.c25, hr.c26, hr.c27, hr.c28, hr.c29, hr.c30, hr.c31, hr.c32, hr.c33, hr.c34, hr.c35, hr.c36, hr.c37, hr.c38, hr.c39, hr.c40, hr.c41, hr.c42, hr.c43, hr.c44, hr.c45, hr.c46, hr.c47, hr.c48, hr.c49, hr.c50, hr.c51, hr.c52, hr.c53, hr.c54, hr.c55, hr.c56, hr.c57, hr.c58, hr.c59, hr.c60, hr.c61, hr.c62, hr.c63, hr.c64, hr.c65, hr.c66, hr.c67, hr.c68, hr.c69, hr.c70, aT, inR, c_hasVersion hr iv, s_reqIx]
  by_cases c : 0 ≤ v ∧ v ≤ S 2 0 0
  · rw [brt c, brt c]
    simp (disch := first | assumption | omega) only [b_38_0, b_38_8, b_38_11, b_38_20, b_38_23, b_38_32, kont_v, kont_n, kont_x, Nat.reduceAdd, ad_some, kd_some, ixa, and_true, true_and, and_self, eq_self, ne_eq, brT, brF, true_or, or_true, and_imp, hr.c0, hr.c1, hr.c2, hr.c3, hr.c4, hr.c5, hr.c6, hr.c7, hr.c8, hr.c9, hr.c10, hr.c11, hr.c12, hr.c13, hr.c14, hr.c15, hr.c16, hr.c17, hr.c18, hr.c19, hr.c20, hr.c21, hr.c22, hr.c23, hr.c24, hr.c25, hr.c26, hr.c27, hr.c28, hr.c29, hr.c30, hr.c31, hr.c32, hr.c33, hr.c34, hr.c35, hr.c36, hr.c37, hr.c38, hr.c39, hr.c40, hr.c41, hr.c42, hr.c43, hr.c44, hr.c45, hr.c46, hr.c47, hr.c48, hr.c49, hr.c50, hr.c51, hr.c52, hr.c53, hr.c54, hr.c55, hr.c56, hr.c57, hr.c58, hr.c59, hr.c60, hr.c61, hr.c62, hr.c63, hr.c64, hr.c65, hr.c66, hr.c67, hr.c68, hr.c69, hr.c70, aT, inR, c_hasSign hr iv v p c, s_reqIx]
    by_cases c2 : 0 ≤ p ∧ p < S 3 v 0
    · obtain ⟨u2, u3⟩ := iv.2.1.2.1 v c.1 c.2
      have u4 : v ≤ 60 := by omega
      rw [brt c2, brt c2]
      simp (disch := first | assumption | omega) only [b_38_0, b_38_8, b_38_11, b_38_20, b_38_23, b_38_32, b_28_0, kont_v, kont_n, kont_x, Nat.reduceAdd, ad_some, kd_some, ixa, and_true, true_and, and_self, eq_self, ne_eq, brT, brF, true_or, or_true, and_imp, hr.c0, hr.c1, hr.c2, hr.c3, hr.c4, hr.c5, hr.c6, hr.c7, hr.c8, hr.c9, hr.c10, hr.c11, hr.c12, hr.c13, hr.c14, hr.c15, hr.c16, hr.c17, hr.c18, hr.c19, hr.c20, hr.c21, hr.c22, hr.c23, hr.c24, hr.c25, hr.c26, hr.c27, hr.c28, hr.c29, hr.c30, hr.c31, hr.c32, hr.c33, hr.c34, hr.c35, hr.c36, hr.c37, hr.c38, hr.c39, hr.c40, hr.c41, hr.c42, hr.c43, hr.c44, hr.c45, hr.c46, hr.c47, hr.c48, hr.c49, hr.c50, hr.c51, hr.c52, hr.c53, hr.c54, hr.c55, hr.c56, hr.c57, hr.c58, hr.c59, hr.c60, hr.c61, hr.c62, hr.c63, hr.c64, hr.c65, hr.c66, hr.c67, hr.c68, hr.c69, hr.c70, aT, inR, c_nowL hr iv v p (S 4 v p) (S 3 (S 2 0 0) 0).toNat 0 (by omega) (Int.le_refl 0)]
      rfl
    · rw [brf c2, brf c2]
      simp only [thr, kont_v, kont_n, kont_x, Nat.reduceAdd, ad_some, kd_some, ixa, and_true, true_and, and_self, eq_self, ne_eq, brT, brF, true_or, or_true, and_imp]
  · rw [brf c, brf c]
    simp only [thr, kont_v, kont_n, kont_x, Nat.reduceAdd, ad_some, kd_some, ixa, and_true, true_and, and_self, eq_self, ne_eq, brT, brF, true_or, or_true, and_imp]
end
