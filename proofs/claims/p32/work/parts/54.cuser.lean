/-! THE CLASS: user -/
section
variable {a : Na} {S : St} {h : Zh} {Q : Zp}
theorem s_reqSt1 : WP 66 0 [some (zi 1)] [] h Q = Q (.inl none) h := by
  have := s_reqSt True h Q
  rw [b2i_t trivial, brT] at this
  exact this
theorem s_reqSt0 : WP 66 0 [some (zi 0)] [] h Q = thr h 2 Q := by
  have := s_reqSt False h Q
  rw [b2i_f id, brF] at this
  exact this
theorem c_user (hi : Ij a) (hr : RepC a S h) (iv : Inv S) (x : Int) : WP 32 0 [some (zr (some (a 0 0))), some (zi x)] [] h Q = br (0 ≤ x ∧ x ≤ 4) (br (S 0 0 0 < 6) (Q (.inl (some (zi (S 0 0 0)))) (pI (pI h (a 1 0) (S 0 0 0) x) (a 0 0) 5 (S 0 0 0 + 1))) (thr h 2 Q)) (thr h 1 Q) := by
  obtain ⟨u0, u1⟩ := iv.1.1
  simp (disch := first | assumption | omega) only [b_32_0, b_32_4, kont_v, kont_n, kont_x, Nat.reduceAdd, ad_some, kd_some, ixa, and_true, true_and, and_self, eq_self, ne_eq, brT, brF, true_or, or_true, and_imp, s_isRight, s_reqAr]
  by_cases c : 0 ≤ x ∧ x ≤ 4
  · rw [brt c, brt c]
    simp (disch := first | assumption | omega) only [b_32_7, b_32_16, b_32_20, b_32_21, kont_v, kont_n, kont_x, Nat.reduceAdd, ad_some, kd_some, ixa, and_true, true_and, and_self, eq_self, ne_eq, brT, brF, true_or, or_true, and_imp, hr.c0, hr.c1, hr.c2, hr.c3, hr.c4, hr.c5, hr.c6, hr.c7, hr.c8, hr.c9, hr.c10, hr.c11, hr.c12, hr.c13, hr.c14, hr.c15, hr.c16, hr.c17, hr.c18, hr.c19, hr.c20, hr.c21, hr.c22, hr.c23, hr.c24, hr.c25, hr.c26, hr.c27, hr.c28, hr.c29, hr.c30, hr.c31, hr.c32, hr.c33, hr.c34, hr.c35, hr.c36, hr.c37, hr.c38, hr.c39, hr.c40, hr.c41, hr.c42, hr.c43, hr.c44, hr.c45, hr.c46, hr.c47, hr.c48, hr.c49, hr.c50, hr.c51, hr.c52, hr.c53, hr.c54, hr.c55, hr.c56, hr.c57, hr.c58, hr.c59, hr.c60, hr.c61, hr.c62, hr.c63, hr.c64, hr.c65, hr.c66, hr.c67, hr.c68, hr.c69, hr.c70, aT, inR, s_reqSt1, s_reqSt0]
    by_cases d : S 0 0 0 < 6
    · rw [brt d, brf (by omega)]
      simp (disch := first | assumption | omega) only [b_32_24, b_32_34, b_32_44, kont_v, kont_n, kont_x, Nat.reduceAdd, ad_some, kd_some, ixa, and_true, true_and, and_self, eq_self, ne_eq, brT, brF, true_or, or_true, and_imp, hr.c0, hr.c1, hr.c2, hr.c3, hr.c4, hr.c5, hr.c6, hr.c7, hr.c8, hr.c9, hr.c10, hr.c11, hr.c12, hr.c13, hr.c14, hr.c15, hr.c16, hr.c17, hr.c18, hr.c19, hr.c20, hr.c21, hr.c22, hr.c23, hr.c24, hr.c25, hr.c26, hr.c27, hr.c28, hr.c29, hr.c30, hr.c31, hr.c32, hr.c33, hr.c34, hr.c35, hr.c36, hr.c37, hr.c38, hr.c39, hr.c40, hr.c41, hr.c42, hr.c43, hr.c44, hr.c45, hr.c46, hr.c47, hr.c48, hr.c49, hr.c50, hr.c51, hr.c52, hr.c53, hr.c54, hr.c55, hr.c56, hr.c57, hr.c58, hr.c59, hr.c60, hr.c61, hr.c62, hr.c63, hr.c64, hr.c65, hr.c66, hr.c67, hr.c68, hr.c69, hr.c70, aT, inR, gK_pI, gL_pI, gR_pI, gI_pI, hi, reduceCtorEq, Nat.reduceEqDiff, Int.reduceEq, and_false, false_and, if_true, if_false]
      exact Qi (by omega)
    · rw [brf d, brt (by omega)]
      simp only [thr, kont_v, kont_n, kont_x, Nat.reduceAdd, ad_some, kd_some, ixa, and_true, true_and, and_self, eq_self, ne_eq, brT, brF, true_or, or_true, and_imp]
  · rw [brf c, brf c]
    simp only [thr, kont_v, kont_n, kont_x, Nat.reduceAdd, ad_some, kd_some, ixa, and_true, true_and, and_self, eq_self, ne_eq, brT, brF, true_or, or_true, and_imp]
end
