/-! THE CLASS, asking -/
/-- who sees a head's thread, with a right -/
def SE (S : St) (u r k : Int) : Prop := 0 < r ∧ (S 15 k 0 = 2 ∨ (S 15 k 0 = 1 ∧ 2 ≤ r) ∨ S 8 k 0 = u ∨ r = 4)
section
variable {a : Na} {S : St} {h : Zh} {Q : Zp}
theorem c_reqUser (hr : RepC a S h) (iv : Inv S) (u : Int) : WP 61 0 [some (zr (some (a 0 0))), some (zi u)] [] h Q = br (0 ≤ u ∧ u < S 0 0 0) (Q (.inl none) h) (thr h 3 Q) := by
  obtain ⟨u0, u1⟩ := iv.1.1
  simp (disch := first | assumption | omega) only [b_61_0, b_61_11, b_61_14, b_61_24, kont_v, kont_n, kont_x, Nat.reduceAdd, ad_some, kd_some, ixa, and_true, true_and, and_self, eq_self, ne_eq, brT, brF, true_or, or_true, and_imp, hr.c0, hr.c1, aT, inR, s_isWithin, brb10, brb01, brbpq, brb1p, brb0p, brbp1, brbp0, brb11, brb00, b2i_0, b2i_1, b2i_01, brN, one_ne0, zz01, oz01, nem, Classical.not_not, thr]
  exact br_cg (by omega) rfl rfl
theorem c_tsize (hr : RepC a S h) (iv : Inv S) : WP 23 0 [some (zr (some (a 2 0)))] [] h Q = Q (.inl (some (zi (S 3 (S 2 0 0) 0)))) h := by
  obtain ⟨u0, u1⟩ := iv.2.1.1
  simp (disch := first | assumption | omega) only [b_23_0, kont_v, kont_n, kont_x, Nat.reduceAdd, ad_some, kd_some, ixa, and_true, true_and, and_self, eq_self, ne_eq, brT, brF, true_or, or_true, and_imp, hr.c0, hr.c1, hr.c2, hr.c3, hr.c4, hr.c5, hr.c6, hr.c7, hr.c8, hr.c9, hr.c10, hr.c11, hr.c12, hr.c13, hr.c14, hr.c15, hr.c16, hr.c17, hr.c18, hr.c19, hr.c20, hr.c21, hr.c22, hr.c23, hr.c24, hr.c25, hr.c26, hr.c27, hr.c28, hr.c29, hr.c30, hr.c31, hr.c32, hr.c33, hr.c34, hr.c35, hr.c36, hr.c37, hr.c38, hr.c39, hr.c40, hr.c41, hr.c42, hr.c43, hr.c44, hr.c45, hr.c46, hr.c47, hr.c48, hr.c49, hr.c50, hr.c51, hr.c52, hr.c53, hr.c54, hr.c55, hr.c56, hr.c57, hr.c58, hr.c59, hr.c60, hr.c61, hr.c62, hr.c63, hr.c64, hr.c65, hr.c66, hr.c67, hr.c68, hr.c69, hr.c70, aT, inR]
theorem c_reqSign (hr : RepC a S h) (iv : Inv S) (u : Int) : WP 62 0 [some (zr (some (a 0 0))), some (zi u)] [] h Q = br (0 ≤ u ∧ u < S 3 (S 2 0 0) 0) (Q (.inl none) h) (thr h 3 Q) := by
  obtain ⟨u0, u1⟩ := iv.2.1.1
  obtain ⟨u2, u3⟩ := iv.2.1.2.1 (S 2 0 0) u0 (Int.le_refl _)
  simp (disch := first | assumption | omega) only [b_62_0, b_62_9, b_62_14, b_62_17, b_62_28, kont_v, kont_n, kont_x, Nat.reduceAdd, ad_some, kd_some, ixa, and_true, true_and, and_self, eq_self, ne_eq, brT, brF, true_or, or_true, and_imp, hr.c0, hr.c1, hr.c2, hr.c3, hr.c4, hr.c5, hr.c6, hr.c7, hr.c8, hr.c9, hr.c10, hr.c11, hr.c12, hr.c13, hr.c14, hr.c15, hr.c16, hr.c17, hr.c18, hr.c19, hr.c20, hr.c21, hr.c22, hr.c23, hr.c24, hr.c25, hr.c26, hr.c27, hr.c28, hr.c29, hr.c30, hr.c31, hr.c32, hr.c33, hr.c34, hr.c35, hr.c36, hr.c37, hr.c38, hr.c39, hr.c40, hr.c41, hr.c42, hr.c43, hr.c44, hr.c45, hr.c46, hr.c47, hr.c48, hr.c49, hr.c50, hr.c51, hr.c52, hr.c53, hr.c54, hr.c55, hr.c56, hr.c57, hr.c58, hr.c59, hr.c60, hr.c61, hr.c62, hr.c63, hr.c64, hr.c65, hr.c66, hr.c67, hr.c68, hr.c69, hr.c70, c_tsize hr iv, aT, inR, s_isWithin, brb10, brb01, brbpq, brb1p, brb0p, brbp1, brbp0, brb11, brb00, b2i_0, b2i_1, b2i_01, brN, one_ne0, zz01, oz01, nem, Classical.not_not, thr]
  exact br_cg (by omega) rfl rfl
theorem c_room (hr : RepC a S h) (iv : Inv S) (m e : Int) (k1 : -200 ≤ m ∧ m ≤ 200) (k2 : 0 ≤ e ∧ e ≤ 2) : WP 24 0 [some (zr (some (a 2 0))), some (zi m), some (zi e)] [] h Q = Q (.inl (some (zi (b2i (S 3 (S 2 0 0) 0 + m ≤ 200 ∧ S 2 0 0 + e ≤ 60))))) h := by
  obtain ⟨u0, u1⟩ := iv.2.1.1
  obtain ⟨u2, u3⟩ := iv.2.1.2.1 (S 2 0 0) u0 (Int.le_refl _)
  simp (disch := first | assumption | omega) only [b_24_0, b_24_4, b_24_12, b_24_23, b_24_27, b_24_28, kont_v, kont_n, kont_x, Nat.reduceAdd, ad_some, kd_some, ixa, and_true, true_and, and_self, eq_self, ne_eq, brT, brF, true_or, or_true, and_imp, hr.c0, hr.c1, hr.c2, hr.c3, hr.c4, hr.c5, hr.c6, hr.c7, hr.c8, hr.c9, hr.c10, hr.c11, hr.c12, hr.c13, hr.c14, hr.c15, hr.c16, hr.c17, hr.c18, hr.c19, hr.c20, hr.c21, hr.c22, hr.c23, hr.c24, hr.c25, hr.c26, hr.c27, hr.c28, hr.c29, hr.c30, hr.c31, hr.c32, hr.c33, hr.c34, hr.c35, hr.c36, hr.c37, hr.c38, hr.c39, hr.c40, hr.c41, hr.c42, hr.c43, hr.c44, hr.c45, hr.c46, hr.c47, hr.c48, hr.c49, hr.c50, hr.c51, hr.c52, hr.c53, hr.c54, hr.c55, hr.c56, hr.c57, hr.c58, hr.c59, hr.c60, hr.c61, hr.c62, hr.c63, hr.c64, hr.c65, hr.c66, hr.c67, hr.c68, hr.c69, hr.c70, c_tsize hr iv, aT, inR, brb10, brb01, brbpq, brb1p, brb0p, brbp1, brbp0, brb11, brb00, b2i_0, b2i_1, b2i_01, brN, one_ne0, zz01, oz01, nem, Classical.not_not]
  exact Qi (b2i_c (by omega))
theorem c_hasVersion (hr : RepC a S h) (iv : Inv S) (v : Int) : WP 25 0 [some (zr (some (a 2 0))), some (zi v)] [] h Q = Q (.inl (some (zi (b2i (0 ≤ v ∧ v ≤ S 2 0 0))))) h := by
  simp (disch := first | assumption | omega) only [b_25_0, b_25_9, kont_v, kont_n, kont_x, Nat.reduceAdd, ad_some, kd_some, ixa, and_true, true_and, and_self, eq_self, ne_eq, brT, brF, true_or, or_true, and_imp, hr.c0, hr.c1, hr.c2, hr.c3, hr.c4, hr.c5, hr.c6, hr.c7, hr.c8, hr.c9, hr.c10, hr.c11, hr.c12, hr.c13, hr.c14, hr.c15, hr.c16, hr.c17, hr.c18, hr.c19, hr.c20, hr.c21, hr.c22, hr.c23, hr.c24, hr.c25, hr.c26, hr.c27, hr.c28, hr.c29, hr.c30, hr.c31, hr.c32, hr.c33, hr.c34, hr.c35, hr.c36, hr.c37, hr.c38, hr.c39, hr.c40, hr.c41, hr.c42, hr.c43, hr.c44, hr.c45, hr.c46, hr.c47, hr.c48, hr.c49, hr.c50, hr.c51, hr.c52, hr.c53, hr.c54, hr.c55, hr.c56, hr.c57, hr.c58, hr.c59, hr.c60, hr.c61, hr.c62, hr.c63, hr.c64, hr.c65, hr.c66, hr.c67, hr.c68, hr.c69, hr.c70, s_isWithin, aT, inR, brb10, brb01, brbpq, brb1p, brb0p, brbp1, brbp0, brb11, brb00, b2i_0, b2i_1, b2i_01, brN, one_ne0, zz01, oz01, nem, Classical.not_not]
theorem c_hasSign (hr : RepC a S h) (iv : Inv S) (v p : Int) (k : 0 ≤ v ∧ v ≤ S 2 0 0) : WP 26 0 [some (zr (some (a 2 0))), some (zi v), some (zi p)] [] h Q = Q (.inl (some (zi (b2i (0 ≤ p ∧ p < S 3 v 0))))) h := by
  obtain ⟨u0, u1⟩ := iv.2.1.1
  obtain ⟨u2, u3⟩ := iv.2.1.2.1 v k.1 k.2
  simp (disch := first | assumption | omega) only [b_26_0, b_26_13, kont_v, kont_n, kont_x, Nat.reduceAdd, ad_some, kd_some, ixa, and_true, true_and, and_self, eq_self, ne_eq, brT, brF, true_or, or_true, and_imp, hr.c0, hr.c1, hr.c2, hr.c3, hr.c4, hr.c5, hr.c6, hr.c7, hr.c8, hr.c9, hr.c10, hr.c11, hr.c12, hr.c13, hr.c14, hr.c15, hr.c16, hr.c17, hr.c18, hr.c19, hr.c20, hr.c21, hr.c22, hr.c23, hr.c24, hr.c25, hr.c26, hr.c27, hr.c28, hr.c29, hr.c30, hr.c31, hr.c32, hr.c33, hr.c34, hr.c35, hr.c36, hr.c37, hr.c38, hr.c39, hr.c40, hr.c41, hr.c42, hr.c43, hr.c44, hr.c45, hr.c46, hr.c47, hr.c48, hr.c49, hr.c50, hr.c51, hr.c52, hr.c53, hr.c54, hr.c55, hr.c56, hr.c57, hr.c58, hr.c59, hr.c60, hr.c61, hr.c62, hr.c63, hr.c64, hr.c65, hr.c66, hr.c67, hr.c68, hr.c69, hr.c70, s_isWithin, aT, inR, brb10, brb01, brbpq, brb1p, brb0p, brbp1, brbp0, brb11, brb00, b2i_0, b2i_1, b2i_01, brN, one_ne0, zz01, oz01, nem, Classical.not_not]
  exact Qi (b2i_c (by omega))
theorem c_signIn (hr : RepC a S h) (iv : Inv S) (v p : Int) (k : 0 ≤ v ∧ v ≤ S 2 0 0) (k2 : 0 ≤ p ∧ p < S 3 v 0) : WP 27 0 [some (zr (some (a 2 0))), some (zi v), some (zi p)] [] h Q = Q (.inl (some (zi (S 5 (S 4 v p) 0)))) h := by
  obtain ⟨u0, u1⟩ := iv.2.1.1
  obtain ⟨u2, u3⟩ := iv.2.1.2.1 v k.1 k.2
  obtain ⟨u4, u5⟩ := iv.2.1.2.2.1
  obtain ⟨u6, u7⟩ := iv.2.1.2.2.2.1 v p k.1 k.2 k2.1 k2.2
  have w0 : v ≤ 60 := by omega
  simp (disch := first | assumption | omega) only [b_27_0, kont_v, kont_n, kont_x, Nat.reduceAdd, ad_some, kd_some, ixa, and_true, true_and, and_self, eq_self, ne_eq, brT, brF, true_or, or_true, and_imp, hr.c0, hr.c1, hr.c2, hr.c3, hr.c4, hr.c5, hr.c6, hr.c7, hr.c8, hr.c9, hr.c10, hr.c11, hr.c12, hr.c13, hr.c14, hr.c15, hr.c16, hr.c17, hr.c18, hr.c19, hr.c20, hr.c21, hr.c22, hr.c23, hr.c24, hr.c25, hr.c26, hr.c27, hr.c28, hr.c29, hr.c30, hr.c31, hr.c32, hr.c33, hr.c34, hr.c35, hr.c36, hr.c37, hr.c38, hr.c39, hr.c40, hr.c41, hr.c42, hr.c43, hr.c44, hr.c45, hr.c46, hr.c47, hr.c48, hr.c49, hr.c50, hr.c51, hr.c52, hr.c53, hr.c54, hr.c55, hr.c56, hr.c57, hr.c58, hr.c59, hr.c60, hr.c61, hr.c62, hr.c63, hr.c64, hr.c65, hr.c66, hr.c67, hr.c68, hr.c69, hr.c70, aT, inR]
theorem c_reqNote (hr : RepC a S h) (iv : Inv S) (k : Int) : WP 63 0 [some (zr (some (a 0 0))), some (zi k), none] [] h Q = br (nt S k ∧ S 12 k 0 ≠ 2) (Q (.inl (some (zr (some (a 20 k))))) h) (thr h 3 Q) := by
  obtain ⟨u0, u1⟩ := iv.2.2.1.1
  by_cases hk : nt S k
  · have k1 := hk.1
    have k2 := hk.2
    simp (disch := first | assumption | omega) only [b_63_0, b_63_11, b_63_14, b_63_25, b_63_36, b_63_43, b_63_54, kont_v, kont_n, kont_x, Nat.reduceAdd, ad_some, kd_some, ixa, and_true, true_and, and_self, eq_self, ne_eq, brT, brF, true_or, or_true, and_imp, hr.c0, hr.c1, hr.c2, hr.c3, hr.c4, hr.c5, hr.c6, hr.c7, hr.c8, hr.c9, hr.c10, hr.c11, hr.c12, hr.c13, hr.c14, hr.c15, hr.c16, hr.c17, hr.c18, hr.c19, hr.c20, hr.c21, hr.c22, hr.c23, hr.c24, hr.c25, hr.c26, hr.c27, hr.c28, hr.c29, hr.c30, hr.c31, hr.c32, hr.c33, hr.c34, hr.c35, hr.c36, hr.c37, hr.c38, hr.c39, hr.c40, hr.c41, hr.c42, hr.c43, hr.c44, hr.c45, hr.c46, hr.c47, hr.c48, hr.c49, hr.c50, hr.c51, hr.c52, hr.c53, hr.c54, hr.c55, hr.c56, hr.c57, hr.c58, hr.c59, hr.c60, hr.c61, hr.c62, hr.c63, hr.c64, hr.c65, hr.c66, hr.c67, hr.c68, hr.c69, hr.c70, aT, inR, s_isWithin, brb10, brb01, brbpq, brb1p, brb0p, brbp1, brbp0, brb11, brb00, b2i_0, b2i_1, b2i_01, brN, one_ne0, zz01, oz01, nem, Classical.not_not, thr, brt, brf, reduceCtorEq]
  · simp (disch := first | assumption | omega) only [b_63_0, b_63_11, b_63_14, b_63_25, b_63_36, b_63_43, b_63_54, kont_v, kont_n, kont_x, Nat.reduceAdd, ad_some, kd_some, ixa, and_true, true_and, and_self, eq_self, ne_eq, brT, brF, true_or, or_true, and_imp, hr.c0, hr.c1, hr.c2, hr.c3, hr.c4, hr.c5, hr.c6, hr.c7, hr.c8, hr.c9, hr.c10, hr.c11, hr.c12, hr.c13, hr.c14, hr.c15, hr.c16, hr.c17, hr.c18, hr.c19, hr.c20, hr.c21, hr.c22, hr.c23, hr.c24, hr.c25, hr.c26, hr.c27, hr.c28, hr.c29, hr.c30, hr.c31, hr.c32, hr.c33, hr.c34, hr.c35, hr.c36, hr.c37, hr.c38, hr.c39, hr.c40, hr.c41, hr.c42, hr.c43, hr.c44, hr.c45, hr.c46, hr.c47, hr.c48, hr.c49, hr.c50, hr.c51, hr.c52, hr.c53, hr.c54, hr.c55, hr.c56, hr.c57, hr.c58, hr.c59, hr.c60, hr.c61, hr.c62, hr.c63, hr.c64, hr.c65, hr.c66, hr.c67, hr.c68, hr.c69, hr.c70, aT, inR, s_isWithin, brb10, brb01, brbpq, brb1p, brb0p, brbp1, brbp0, brb11, brb00, b2i_0, b2i_1, b2i_01, brN, one_ne0, zz01, oz01, nem, Classical.not_not, thr]
    rw [brf (fun z => hk ⟨z.1, by omega⟩), brf (fun z => hk z.1)]
theorem c_headOf (hr : RepC a S h) (iv : Inv S) (k : Int) (hk : nt S k) : WP 78 0 [some (zr (some (a 0 0))), some (zr (some (a 20 k)))] [] h Q = Q (.inl (some (zr (some (a 20 (S 11 k 0)))))) h := by
  obtain ⟨u0, u1⟩ := iv.2.2.1.1
  obtain ⟨-, -, -, -, hh, -, -⟩ := iv.2.2.1.2.1 k hk
  have e := hr.c44 k _ hk hh rfl
  have hn := hh.1
  have k1 := hn.1
  have k2 := hn.2
  simp (disch := first | assumption | omega) only [b_78_0, kont_v, kont_n, kont_x, Nat.reduceAdd, ad_some, kd_some, ixa, and_true, true_and, and_self, eq_self, ne_eq, brT, brF, true_or, or_true, and_imp, hr.c0, hr.c1, hr.c2, hr.c3, hr.c4, hr.c5, hr.c6, hr.c7, hr.c8, hr.c9, hr.c10, hr.c11, hr.c12, hr.c13, hr.c14, hr.c15, hr.c16, hr.c17, hr.c18, hr.c19, hr.c20, hr.c21, hr.c22, hr.c23, hr.c24, hr.c25, hr.c26, hr.c27, hr.c28, hr.c29, hr.c30, hr.c31, hr.c32, hr.c33, hr.c34, hr.c35, hr.c36, hr.c37, hr.c38, hr.c39, hr.c40, hr.c41, hr.c42, hr.c43, hr.c44, hr.c45, hr.c46, hr.c47, hr.c48, hr.c49, hr.c50, hr.c51, hr.c52, hr.c53, hr.c54, hr.c55, hr.c56, hr.c57, hr.c58, hr.c59, hr.c60, hr.c61, hr.c62, hr.c63, hr.c64, hr.c65, hr.c66, hr.c67, hr.c68, hr.c69, hr.c70, e, aT, inR]
theorem c_isSeen (hr : RepC a S h) (iv : Inv S) (u k : Int) (hk : nt S k) (hu : 0 ≤ u ∧ u < S 0 0 0) : WP 79 0 [some (zr (some (a 0 0))), some (zi u), some (zr (some (a 20 k)))] [] h Q = Q (.inl (some (zi (b2i (SE S u (S 1 u 0) (S 11 k 0)))))) h := by
  obtain ⟨u0, u1⟩ := iv.1.1
  have u2 := iv.1.2 u
  obtain ⟨-, -, -, -, hh, -, -⟩ := iv.2.2.1.2.1 k hk
  have e := hr.c44 k _ hk hh rfl
  simp (disch := first | assumption | omega) only [b_79_0, b_79_14, kont_v, kont_n, kont_x, Nat.reduceAdd, ad_some, kd_some, ixa, and_true, true_and, and_self, eq_self, ne_eq, brT, brF, true_or, or_true, and_imp, hr.c0, hr.c1, hr.c2, hr.c3, hr.c4, hr.c5, hr.c6, hr.c7, hr.c8, hr.c9, hr.c10, hr.c11, hr.c12, hr.c13, hr.c14, hr.c15, hr.c16, hr.c17, hr.c18, hr.c19, hr.c20, hr.c21, hr.c22, hr.c23, hr.c24, hr.c25, hr.c26, hr.c27, hr.c28, hr.c29, hr.c30, hr.c31, hr.c32, hr.c33, hr.c34, hr.c35, hr.c36, hr.c37, hr.c38, hr.c39, hr.c40, hr.c41, hr.c42, hr.c43, hr.c44, hr.c45, hr.c46, hr.c47, hr.c48, hr.c49, hr.c50, hr.c51, hr.c52, hr.c53, hr.c54, hr.c55, hr.c56, hr.c57, hr.c58, hr.c59, hr.c60, hr.c61, hr.c62, hr.c63, hr.c64, hr.c65, hr.c66, hr.c67, hr.c68, hr.c69, hr.c70, e, c_seenBy _ u _ (hr.c47 _ hh), aT, inR, brb10, brb01, brbpq, brb1p, brb0p, brbp1, brbp0, brb11, brb00, b2i_0, b2i_1, b2i_01, brN, one_ne0, zz01, oz01, nem, Classical.not_not]
  refine Qi (b2i_c ?_)
  unfold SE
  omega
theorem c_cnL (hr : RepC a S h) (iv : Inv S) (m : Nat) : ∀ i acc : Int, m = (S 7 0 0 - i).toNat → 0 ≤ i → 0 ≤ acc → acc ≤ i → WP 80 4 [some (zr (some (a 0 0))), some (zi acc), some (zi i)] [] h Q = Q (.inl (some (zi (acc + cn (fun j => S 12 j 0 ≠ 2) m i)))) h := by
  obtain ⟨n0, n1⟩ := iv.2.2.1.1
  induction m with
  | zero =>
    intro i acc e1 e2 e3 e4
    rw [b_80_4]
    simp (disch := first | assumption | omega) only [kont_v, kont_n, kont_x, Nat.reduceAdd, ad_some, kd_some, ixa, and_true, true_and, and_self, eq_self, ne_eq, brT, brF, true_or, or_true, and_imp, hr.c0, hr.c2, brt, b_80_33]
    exact Qi (by show acc = acc + 0; omega)
  | succ m ih =>
    intro i acc e1 e2 e3 e4
    have hk : nt S i := ⟨e2, by omega⟩
    rw [b_80_4]
    simp (disch := first | assumption | omega) only [b_80_12, b_80_24, b_80_27, b_80_33, kont_v, kont_n, kont_x, Nat.reduceAdd, ad_some, kd_some, ixa, and_true, true_and, and_self, eq_self, ne_eq, brT, brF, true_or, or_true, and_imp, hr.c0, hr.c1, hr.c2, hr.c3, hr.c4, hr.c5, hr.c6, hr.c7, hr.c8, hr.c9, hr.c10, hr.c11, hr.c12, hr.c13, hr.c14, hr.c15, hr.c16, hr.c17, hr.c18, hr.c19, hr.c20, hr.c21, hr.c22, hr.c23, hr.c24, hr.c25, hr.c26, hr.c27, hr.c28, hr.c29, hr.c30, hr.c31, hr.c32, hr.c33, hr.c34, hr.c35, hr.c36, hr.c37, hr.c38, hr.c39, hr.c40, hr.c41, hr.c42, hr.c43, hr.c44, hr.c45, hr.c46, hr.c47, hr.c48, hr.c49, hr.c50, hr.c51, hr.c52, hr.c53, hr.c54, hr.c55, hr.c56, hr.c57, hr.c58, hr.c59, hr.c60, hr.c61, hr.c62, hr.c63, hr.c64, hr.c65, hr.c66, hr.c67, hr.c68, hr.c69, hr.c70, brf, aT, inR, brb10, brb01, brbpq, brb1p, brb0p, brbp1, brbp0, brb11, brb00, b2i_0, b2i_1, b2i_01, brN, one_ne0, zz01, oz01, nem, Classical.not_not, ih]
    show _ = Q (.inl (some (zi (acc + (b2i (S 12 i 0 ≠ 2) + cn _ m (i+1)))))) h
    by_cases e : S 12 i 0 = 2
    · rw [brt e, b2i_f (fun z => z e)]
      exact Qi (by omega)
    · rw [brf e, b2i_t e]
      exact Qi (by omega)
theorem c_countNotes (hr : RepC a S h) (iv : Inv S) : WP 80 0 [some (zr (some (a 0 0))), none, none] [] h Q = Q (.inl (some (zi (cn (fun j => S 12 j 0 ≠ 2) (S 7 0 0).toNat 0)))) h := by
  rw [b_80_0, c_cnL hr iv (S 7 0 0).toNat 0 0 (by omega) (by omega) (by omega) (by omega)]
  exact Qi (by omega)
end
