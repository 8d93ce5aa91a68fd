/-! THE REFERENCE, facts of a note -/
theorem loopD {W : Option Zv → Int → Int → Prop} {R : Int → Prop} {p : Int → Prop} {N : Int} {i0 : Int} (n0 : 0 ≤ i0 ∧ i0 ≤ N)
    (step : ∀ o i acc, i0 ≤ i → i < N → 0 ≤ acc → acc ≤ i → ∃ o', W o acc i = br (p i) (W o' (acc + 1) (i + 1)) (W o' acc (i + 1)))
    (fin : ∀ o acc, 0 ≤ acc → acc ≤ N → W o acc N = R acc) (o : Option Zv) : W o 0 i0 = R (cn p (N - i0).toNat i0) := by
  have key : ∀ (m : Nat) (o : Option Zv) (i acc : Int), m = (N - i).toNat → i0 ≤ i → i ≤ N → 0 ≤ acc → acc ≤ i → W o acc i = R (acc + cn p m i) := by
    intro m
    induction m with
    | zero =>
      intro o i acc e1 e2 e3 e4 e5
      have e : i = N := by omega
      rw [e, fin o acc e4 (by omega)]
      show R acc = R (acc + 0)
      rw [Int.add_zero]
    | succ m ih =>
      intro o i acc e1 e2 e3 e4 e5
      obtain ⟨o', es⟩ := step o i acc e2 (by omega) e4 e5
      rw [es, ih o' (i + 1) (acc + 1) (by omega) (by omega) (by omega) (by omega) (by omega), ih o' (i + 1) acc (by omega) (by omega) (by omega) (by omega) (by omega)]
      show _ = R (acc + (b2i (p i) + cn p m (i + 1)))
      by_cases k : p i
      · rw [brt k, b2i_t k, Int.add_assoc]
      · rw [brf k, b2i_f k, Int.zero_add]
  rw [key (N - i0).toNat o i0 0 rfl (by omega) n0.2 (by omega) (by omega), Int.zero_add]
section
variable {a : Na} {S : St} {h : Zh} {Q : Zp}
theorem iv_rp (iv : Inv S) {k : Int} (hk : nt S k) : RP S k = cn (fun j => S 10 j 0 = k ∧ S 12 j 0 ≠ 2) (S 7 0 0 - (k + 1)).toNat (k + 1) := by
  have k1 := hk.1
  have k2 := hk.2
  unfold RP
  have e : (S 7 0 0).toNat = (k + 1).toNat + (S 7 0 0 - (k + 1)).toNat := by omega
  rw [e, cn_skip]
  · congr 1
    omega
  · intro j h1 h2 h3
    have hj : nt S j := ⟨h1, by omega⟩
    have := iv_par iv hj
    omega
theorem m_replies (hm : RepM a S h) (iv : Inv S) (k : Int) (hk : nt S k) : WP 115 0 [some (zr (some (a 100 0))), some (zi k), none, none] [] h Q = Q (.inl (some (zi (RP S k)))) h := by
  obtain ⟨n0, n1⟩ := iv.2.2.1.1
  have k1 := hk.1
  have k2 := hk.2
  rw [iv_rp iv hk]
  simp (disch := first | assumption | omega) only [b_115_0, aT, inR]
  refine loopD (W := fun _ acc i => WP 115 6 [some (zr (some (a 100 0))), some (zi k), some (zi acc), some (zi i)] [] h Q) (R := fun x => Q (.inl (some (zi x))) h) (N := S 7 0 0) (i0 := k + 1) ⟨by omega, by omega⟩ (fun o i acc e1 e2 e3 e4 => ⟨none, ?_⟩) (fun o acc e1 e2 => ?_) none
  · show WP 115 6 _ _ _ _ = _
    rw [b_115_6]
    simp (disch := first | assumption | omega) only [b_115_14, b_115_25, b_115_35, b_115_39, b_115_40, b_115_48, kont_v, kont_n, kont_x, Nat.reduceAdd, ad_some, kd_some, ixa, and_true, true_and, and_self, eq_self, ne_eq, brT, brF, true_or, or_true, and_imp, hm.c0, hm.c1, hm.c2, hm.c3, hm.c4, hm.c5, hm.c6, hm.c7, hm.c8, hm.c9, hm.c10, hm.c11, hm.c12, hm.c13, hm.c14, hm.c15, hm.c16, hm.c17, hm.c18, hm.c19, hm.c20, hm.c21, hm.c22, hm.c23, hm.c24, hm.c25, hm.c26, hm.c27, hm.c28, hm.c29, hm.c30, hm.c31, hm.c32, hm.c33, hm.c34, hm.c35, hm.c36, hm.c37, hm.c38, hm.c39, hm.c40, hm.c41, hm.c42, hm.c43, hm.c44, hm.c45, hm.c46, hm.c47, hm.c48, hm.c49, hm.c50, hm.c51, hm.c52, hm.c53, hm.c54, hm.c55, hm.c56, hm.c57, hm.c58, hm.c59, hm.c60, hm.c61, hm.c62, hm.c63, hm.c64, hm.c65, hm.c66, hm.c67, hm.c68, hm.c69, hm.c70, hm.c71, hm.c72, hm.c73, hm.c74, hm.c75, hm.c76, hm.c77, brf, aT, inR, brb10, brb01, brbpq, brb1p, brb0p, brbp1, brbp0, brb11, brb00, b2i_0, b2i_1, b2i_01, brN, one_ne0, zz01, oz01, nem, Classical.not_not, Int.add_zero, brn, brq, brp, brm, bre]
    exact br_sw (by omega)
  · show WP 115 6 _ _ _ _ = _
    rw [b_115_6]
    simp (disch := first | assumption | omega) only [kont_v, kont_n, kont_x, Nat.reduceAdd, ad_some, kd_some, ixa, and_true, true_and, and_self, eq_self, ne_eq, brT, brF, true_or, or_true, and_imp, hm.c0, hm.c1, hm.c2, hm.c3, hm.c4, hm.c5, hm.c6, hm.c7, hm.c8, hm.c9, hm.c10, hm.c11, hm.c12, hm.c13, hm.c14, hm.c15, hm.c16, hm.c17, hm.c18, hm.c19, hm.c20, hm.c21, hm.c22, hm.c23, hm.c24, hm.c25, hm.c26, hm.c27, hm.c28, hm.c29, hm.c30, hm.c31, hm.c32, hm.c33, hm.c34, hm.c35, hm.c36, hm.c37, hm.c38, hm.c39, hm.c40, hm.c41, hm.c42, hm.c43, hm.c44, hm.c45, hm.c46, hm.c47, hm.c48, hm.c49, hm.c50, hm.c51, hm.c52, hm.c53, hm.c54, hm.c55, hm.c56, hm.c57, hm.c58, hm.c59, hm.c60, hm.c61, hm.c62, hm.c63, hm.c64, hm.c65, hm.c66, hm.c67, hm.c68, hm.c69, hm.c70, hm.c71, hm.c72, hm.c73, hm.c74, hm.c75, hm.c76, hm.c77, brt, aT, inR, b_115_48]
theorem m_depthL (hm : RepM a S h) (iv : Inv S) (k : Int) (m : Nat) : ∀ t d : Int, t < m → (t = -1 ∨ nt S t) → 0 ≤ d → d + t ≤ 60 → WP 126 9 [some (zr (some (a 100 0))), some (zi k), some (zi d), some (zi t)] [] h Q = Q (.inl (some (zi (d + if t = -1 then 0 else S 23 t 0 + 1)))) h := by
  obtain ⟨n0, n1⟩ := iv.2.2.1.1
  induction m with
  | zero =>
    intro t d e1 e2 e3 e4
    have e : t = -1 := by rcases e2 with e | e; exact e; have := e.1; omega
    rw [b_126_9, brt e, b_126_27, if_pos e, Int.add_zero]
  | succ m ih =>
    intro t d e1 e2 e3 e4
    by_cases e : t = -1
    · rw [b_126_9, brt e, b_126_27, if_pos e, Int.add_zero]
    · have ht : nt S t := by rcases e2 with e2 | e2; exact absurd e2 e; exact e2
      have k1 := ht.1
      have k2 := ht.2
      obtain ⟨-, -, q, -, -, -, -⟩ := iv.2.2.1.2.1 t ht
      have q2 := iv_par iv ht
      have q3 : S 10 t 0 = -1 ∨ nt S (S 10 t 0) := by rcases q2 with q2 | q2; exact .inl q2.1; exact .inr q2.1
      rw [b_126_9, brf e, if_neg e]
      simp (disch := first | assumption | omega) only [b_126_14, kont_v, kont_n, kont_x, Nat.reduceAdd, ad_some, kd_some, ixa, and_true, true_and, and_self, eq_self, ne_eq, brT, brF, true_or, or_true, and_imp, hm.c0, hm.c1, hm.c2, hm.c3, hm.c4, hm.c5, hm.c6, hm.c7, hm.c8, hm.c9, hm.c10, hm.c11, hm.c12, hm.c13, hm.c14, hm.c15, hm.c16, hm.c17, hm.c18, hm.c19, hm.c20, hm.c21, hm.c22, hm.c23, hm.c24, hm.c25, hm.c26, hm.c27, hm.c28, hm.c29, hm.c30, hm.c31, hm.c32, hm.c33, hm.c34, hm.c35, hm.c36, hm.c37, hm.c38, hm.c39, hm.c40, hm.c41, hm.c42, hm.c43, hm.c44, hm.c45, hm.c46, hm.c47, hm.c48, hm.c49, hm.c50, hm.c51, hm.c52, hm.c53, hm.c54, hm.c55, hm.c56, hm.c57, hm.c58, hm.c59, hm.c60, hm.c61, hm.c62, hm.c63, hm.c64, hm.c65, hm.c66, hm.c67, hm.c68, hm.c69, hm.c70, hm.c71, hm.c72, hm.c73, hm.c74, hm.c75, hm.c76, hm.c77, aT, inR]
      rw [ih (S 10 t 0) (d + 1) (by omega) q3 (by omega) (by omega)]
      refine Qi ?_
      rcases q with q | q
      · rw [if_pos q.1]; omega
      · rw [if_neg (by omega)]; omega
theorem m_depth (hm : RepM a S h) (iv : Inv S) (k : Int) (hk : nt S k) : WP 126 0 [some (zr (some (a 100 0))), some (zi k), none, none] [] h Q = Q (.inl (some (zi (S 23 k 0)))) h := by
  obtain ⟨n0, n1⟩ := iv.2.2.1.1
  have k1 := hk.1
  have k2 := hk.2
  obtain ⟨-, -, q, -, -, -, -⟩ := iv.2.2.1.2.1 k hk
  have q2 := iv_par iv hk
  have q3 : S 10 k 0 = -1 ∨ nt S (S 10 k 0) := by rcases q2 with q2 | q2; exact .inl q2.1; exact .inr q2.1
  simp (disch := first | assumption | omega) only [b_126_0, kont_v, kont_n, kont_x, Nat.reduceAdd, ad_some, kd_some, ixa, and_true, true_and, and_self, eq_self, ne_eq, brT, brF, true_or, or_true, and_imp, hm.c0, hm.c1, hm.c2, hm.c3, hm.c4, hm.c5, hm.c6, hm.c7, hm.c8, hm.c9, hm.c10, hm.c11, hm.c12, hm.c13, hm.c14, hm.c15, hm.c16, hm.c17, hm.c18, hm.c19, hm.c20, hm.c21, hm.c22, hm.c23, hm.c24, hm.c25, hm.c26, hm.c27, hm.c28, hm.c29, hm.c30, hm.c31, hm.c32, hm.c33, hm.c34, hm.c35, hm.c36, hm.c37, hm.c38, hm.c39, hm.c40, hm.c41, hm.c42, hm.c43, hm.c44, hm.c45, hm.c46, hm.c47, hm.c48, hm.c49, hm.c50, hm.c51, hm.c52, hm.c53, hm.c54, hm.c55, hm.c56, hm.c57, hm.c58, hm.c59, hm.c60, hm.c61, hm.c62, hm.c63, hm.c64, hm.c65, hm.c66, hm.c67, hm.c68, hm.c69, hm.c70, hm.c71, hm.c72, hm.c73, hm.c74, hm.c75, hm.c76, hm.c77, aT, inR]
  rw [m_depthL hm iv k 60 (S 10 k 0) 0 (by omega) q3 (by omega) (by omega)]
  refine Qi ?_
  rcases q with q | q
  · rw [if_pos q.1]; omega
  · rw [if_neg (by omega)]; omega
theorem m_content (hm : RepM a S h) (iv : Inv S) (k : Int) (hk : nt S k) (hg : S 12 k 0 ≠ 2) : WP 127 0 [some (zr (some (a 100 0))), some (zi k)] [] h Q = Q (.inl (some (zi (CO S k)))) h := by
  obtain ⟨n0, n1⟩ := iv.2.2.1.1
  have k1 := hk.1
  have k2 := hk.2
  obtain ⟨-, -, -, q, -, -, -⟩ := iv.2.2.1.2.1 k hk
  simp (disch := first | assumption | omega) only [b_127_0, b_127_10, b_127_14, b_127_20, kont_v, kont_n, kont_x, Nat.reduceAdd, ad_some, kd_some, ixa, and_true, true_and, and_self, eq_self, ne_eq, brT, brF, true_or, or_true, and_imp, hm.c0, hm.c1, hm.c2, hm.c3, hm.c4, hm.c5, hm.c6, hm.c7, hm.c8, hm.c9, hm.c10, hm.c11, hm.c12, hm.c13, hm.c14, hm.c15, hm.c16, hm.c17, hm.c18, hm.c19, hm.c20, hm.c21, hm.c22, hm.c23, hm.c24, hm.c25, hm.c26, hm.c27, hm.c28, hm.c29, hm.c30, hm.c31, hm.c32, hm.c33, hm.c34, hm.c35, hm.c36, hm.c37, hm.c38, hm.c39, hm.c40, hm.c41, hm.c42, hm.c43, hm.c44, hm.c45, hm.c46, hm.c47, hm.c48, hm.c49, hm.c50, hm.c51, hm.c52, hm.c53, hm.c54, hm.c55, hm.c56, hm.c57, hm.c58, hm.c59, hm.c60, hm.c61, hm.c62, hm.c63, hm.c64, hm.c65, hm.c66, hm.c67, hm.c68, hm.c69, hm.c70, hm.c71, hm.c72, hm.c73, hm.c74, hm.c75, hm.c76, hm.c77, aT, inR]
  unfold CO
  by_cases c : S 12 k 0 = 1
  · rw [brt c, if_neg (by omega)]
  · rw [brf c, if_pos (by omega)]
theorem m_ofNow (hm : RepM a S h) (iv : Inv S) (k w : Int) (hk : nt S k) (hg : S 12 k 0 ≠ 2) (hw : 0 ≤ w ∧ w ≤ 10) : WP 128 0 [some (zr (some (a 100 0))), some (zi k), some (zi w), none] [] h Q = Q (.inl (some (zi (OF S k w)))) h := by
  obtain ⟨n0, n1⟩ := iv.2.2.1.1
  have k1 := hk.1
  have k2 := hk.2
  have hh := iv_hd iv hk
  have j1 := hh.1.1
  have j2 := hh.1.2
  obtain ⟨-, -, -, -, g5, -⟩ := iv.2.2.1.2.2.2.1 _ hh
  rw [b_128_0]
  have : w = 0 ∨ w = 1 ∨ w = 2 ∨ w = 3 ∨ w = 4 ∨ w = 5 ∨ w = 6 ∨ w = 7 ∨ w = 8 ∨ w = 9 ∨ w = 10 := by omega
  rcases this with q | q | q | q | q | q | q | q | q | q | q <;> subst q <;> simp [swA, OF]
  all_goals simp (disch := first | assumption | omega) only [b_128_64, b_128_71, b_128_78, b_128_80, b_128_85, b_128_86, b_128_93, b_128_100, b_128_105, b_128_106, b_128_111, b_128_112, b_128_121, b_128_125, b_128_126, b_128_127, b_128_134, kont_v, kont_n, kont_x, Nat.reduceAdd, ad_some, kd_some, ixa, and_true, true_and, and_self, eq_self, ne_eq, brT, brF, true_or, or_true, and_imp, hm.c0, hm.c1, hm.c2, hm.c3, hm.c4, hm.c5, hm.c6, hm.c7, hm.c8, hm.c9, hm.c10, hm.c11, hm.c12, hm.c13, hm.c14, hm.c15, hm.c16, hm.c17, hm.c18, hm.c19, hm.c20, hm.c21, hm.c22, hm.c23, hm.c24, hm.c25, hm.c26, hm.c27, hm.c28, hm.c29, hm.c30, hm.c31, hm.c32, hm.c33, hm.c34, hm.c35, hm.c36, hm.c37, hm.c38, hm.c39, hm.c40, hm.c41, hm.c42, hm.c43, hm.c44, hm.c45, hm.c46, hm.c47, hm.c48, hm.c49, hm.c50, hm.c51, hm.c52, hm.c53, hm.c54, hm.c55, hm.c56, hm.c57, hm.c58, hm.c59, hm.c60, hm.c61, hm.c62, hm.c63, hm.c64, hm.c65, hm.c66, hm.c67, hm.c68, hm.c69, hm.c70, hm.c71, hm.c72, hm.c73, hm.c74, hm.c75, hm.c76, hm.c77, aT, inR, m_content hm iv k hk hg, m_depth hm iv k hk, m_replies hm iv k hk]
  rcases g5 with g5 | g5
  · rw [brt g5, g5]
  · rw [brf (by omega), g5]
end
