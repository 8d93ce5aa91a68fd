/-! THE CLASS, asking further -/
/-- the quote of k stands at p -/
def AT (S : St) (p k : Int) : Prop := (0 ≤ p ∧ p + S 19 k 0 ≤ S 3 (S 2 0 0) 0) ∧ ∀ j, 0 ≤ j → j < S 19 k 0 → S 5 (S 4 (S 2 0 0) (p + j)) 0 = S 20 k j
/-- outward from where k's anchor begins -/
noncomputable def fdL (S : St) (k : Int) (m : Nat) (d : Int) : Int := match m with
  | 0 => -1
  | m + 1 => @ite Int (AT S (S 13 k 0 - d) k) (Classical.propDecidable _) (S 13 k 0 - d) (@ite Int (AT S (S 13 k 0 + d) k) (Classical.propDecidable _) (S 13 k 0 + d) (fdL S k m (d + 1)))
noncomputable def FD (S : St) (k : Int) : Int := fdL S k 201 0
section
variable {a : Na} {S : St} {h : Zh} {Q : Zp}
theorem c_hasAtL (hr : RepC a S h) (iv : Inv S) (p k : Int) (hh : hd S k) (m : Nat) (kp : 0 ≤ p ∧ p + S 19 k 0 ≤ S 3 (S 2 0 0) 0) : ∀ i, m = (S 19 k 0 - i).toNat → 0 ≤ i → WP 29 19 [some (zr (some (a 2 0))), some (zi p), some (zr (some (a 23 k))), some (zi i)] [] h Q = Q (.inl (some (zi (b2i (∀ j, i ≤ j → j < S 19 k 0 → S 5 (S 4 (S 2 0 0) (p + j)) 0 = S 20 k j))))) h := by
  obtain ⟨u0, u1⟩ := iv.2.1.1
  obtain ⟨u2, u3⟩ := iv.2.1.2.1 (S 2 0 0) u0 (Int.le_refl _)
  obtain ⟨-, -, -, -, -, g1, -⟩ := iv.2.2.1.2.2.2.1 k hh
  induction m with
  | zero =>
    intro i e1 e2
    rw [b_29_19]
    simp (disch := first | assumption | omega) only [kont_v, kont_n, kont_x, Nat.reduceAdd, ad_some, kd_some, ixa, and_true, true_and, and_self, eq_self, ne_eq, brT, brF, true_or, or_true, and_imp, hr.c0, hr.c1, hr.c2, hr.c3, hr.c4, hr.c5, hr.c6, hr.c7, hr.c8, hr.c9, hr.c10, hr.c11, hr.c12, hr.c13, hr.c14, hr.c15, hr.c16, hr.c17, hr.c18, hr.c19, hr.c20, hr.c21, hr.c22, hr.c23, hr.c24, hr.c25, hr.c26, hr.c27, hr.c28, hr.c29, hr.c30, hr.c31, hr.c32, hr.c33, hr.c34, hr.c35, hr.c36, hr.c37, hr.c38, hr.c39, hr.c40, hr.c41, hr.c42, hr.c43, hr.c44, hr.c45, hr.c46, hr.c47, hr.c48, hr.c49, hr.c50, hr.c51, hr.c52, hr.c53, hr.c54, hr.c55, hr.c56, hr.c57, hr.c58, hr.c59, hr.c60, hr.c61, hr.c62, hr.c63, hr.c64, hr.c65, hr.c66, hr.c67, hr.c68, hr.c69, hr.c70, brt, b_29_50, aT, inR]
    exact Qi (b2i_t (fun j h1 h2 => absurd h2 (by omega))).symm
  | succ m ih =>
    intro i e1 e2
    rw [b_29_19]
    simp (disch := first | assumption | omega) only [b_29_6, b_29_12, b_29_15, b_29_17, b_29_25, b_29_36, b_29_42, b_29_44, b_29_50, kont_v, kont_n, kont_x, Nat.reduceAdd, ad_some, kd_some, ixa, and_true, true_and, and_self, eq_self, ne_eq, brT, brF, true_or, or_true, and_imp, hr.c0, hr.c1, hr.c2, hr.c3, hr.c4, hr.c5, hr.c6, hr.c7, hr.c8, hr.c9, hr.c10, hr.c11, hr.c12, hr.c13, hr.c14, hr.c15, hr.c16, hr.c17, hr.c18, hr.c19, hr.c20, hr.c21, hr.c22, hr.c23, hr.c24, hr.c25, hr.c26, hr.c27, hr.c28, hr.c29, hr.c30, hr.c31, hr.c32, hr.c33, hr.c34, hr.c35, hr.c36, hr.c37, hr.c38, hr.c39, hr.c40, hr.c41, hr.c42, hr.c43, hr.c44, hr.c45, hr.c46, hr.c47, hr.c48, hr.c49, hr.c50, hr.c51, hr.c52, hr.c53, hr.c54, hr.c55, hr.c56, hr.c57, hr.c58, hr.c59, hr.c60, hr.c61, hr.c62, hr.c63, hr.c64, hr.c65, hr.c66, hr.c67, hr.c68, hr.c69, hr.c70, brf, aT, inR, c_signIn hr iv, ih, brb10, brb01, brbpq, brb1p, brb0p, brbp1, brbp0, brb11, brb00, b2i_0, b2i_1, b2i_01, brN, one_ne0, zz01, oz01, nem, Classical.not_not, oz01, zz01]
    refine Qi (b2i_c ⟨fun z j h1 h2 => ?_, fun z => ⟨z i (by omega) (by omega), fun j h1 h2 => z j (by omega) h2⟩⟩)
    by_cases ej : j = i
    · rw [ej]; exact z.1
    · exact z.2 j (by omega) h2
theorem c_hasAt (hr : RepC a S h) (iv : Inv S) (p k : Int) (hp : -500 ≤ p ∧ p ≤ 500) (hh : hd S k) : WP 29 0 [some (zr (some (a 2 0))), some (zi p), some (zr (some (a 23 k))), none] [] h Q = Q (.inl (some (zi (b2i (AT S p k))))) h := by
  obtain ⟨u0, u1⟩ := iv.2.1.1
  obtain ⟨u2, u3⟩ := iv.2.1.2.1 (S 2 0 0) u0 (Int.le_refl _)
  obtain ⟨-, -, -, -, -, g1, -⟩ := iv.2.2.1.2.2.2.1 k hh
  by_cases c1 : 0 ≤ p ∧ p ≤ S 3 (S 2 0 0) 0 - S 19 k 0
  · simp (disch := first | assumption | omega) only [b_29_0, b_29_6, b_29_12, b_29_15, b_29_17, b_29_25, b_29_36, b_29_42, b_29_44, b_29_50, kont_v, kont_n, kont_x, Nat.reduceAdd, ad_some, kd_some, ixa, and_true, true_and, and_self, eq_self, ne_eq, brT, brF, true_or, or_true, and_imp, hr.c0, hr.c1, hr.c2, hr.c3, hr.c4, hr.c5, hr.c6, hr.c7, hr.c8, hr.c9, hr.c10, hr.c11, hr.c12, hr.c13, hr.c14, hr.c15, hr.c16, hr.c17, hr.c18, hr.c19, hr.c20, hr.c21, hr.c22, hr.c23, hr.c24, hr.c25, hr.c26, hr.c27, hr.c28, hr.c29, hr.c30, hr.c31, hr.c32, hr.c33, hr.c34, hr.c35, hr.c36, hr.c37, hr.c38, hr.c39, hr.c40, hr.c41, hr.c42, hr.c43, hr.c44, hr.c45, hr.c46, hr.c47, hr.c48, hr.c49, hr.c50, hr.c51, hr.c52, hr.c53, hr.c54, hr.c55, hr.c56, hr.c57, hr.c58, hr.c59, hr.c60, hr.c61, hr.c62, hr.c63, hr.c64, hr.c65, hr.c66, hr.c67, hr.c68, hr.c69, hr.c70, aT, inR, c_tsize hr iv, s_isWithin, brb10, brb01, brbpq, brb1p, brb0p, brbp1, brbp0, brb11, brb00, b2i_0, b2i_1, b2i_01, brN, one_ne0, zz01, oz01, nem, Classical.not_not, brt, brf, c_hasAtL hr iv p k hh _ (show 0 ≤ p ∧ p + S 19 k 0 ≤ S 3 (S 2 0 0) 0 from ⟨c1.1, by omega⟩) 0 rfl (Int.le_refl 0)]
    exact Qi (b2i_c ⟨fun z => ⟨⟨c1.1, by omega⟩, z⟩, fun z => z.2⟩)
  · simp (disch := first | assumption | omega) only [b_29_0, b_29_6, b_29_12, b_29_15, b_29_17, b_29_25, b_29_36, b_29_42, b_29_44, b_29_50, kont_v, kont_n, kont_x, Nat.reduceAdd, ad_some, kd_some, ixa, and_true, true_and, and_self, eq_self, ne_eq, brT, brF, true_or, or_true, and_imp, hr.c0, hr.c1, hr.c2, hr.c3, hr.c4, hr.c5, hr.c6, hr.c7, hr.c8, hr.c9, hr.c10, hr.c11, hr.c12, hr.c13, hr.c14, hr.c15, hr.c16, hr.c17, hr.c18, hr.c19, hr.c20, hr.c21, hr.c22, hr.c23, hr.c24, hr.c25, hr.c26, hr.c27, hr.c28, hr.c29, hr.c30, hr.c31, hr.c32, hr.c33, hr.c34, hr.c35, hr.c36, hr.c37, hr.c38, hr.c39, hr.c40, hr.c41, hr.c42, hr.c43, hr.c44, hr.c45, hr.c46, hr.c47, hr.c48, hr.c49, hr.c50, hr.c51, hr.c52, hr.c53, hr.c54, hr.c55, hr.c56, hr.c57, hr.c58, hr.c59, hr.c60, hr.c61, hr.c62, hr.c63, hr.c64, hr.c65, hr.c66, hr.c67, hr.c68, hr.c69, hr.c70, aT, inR, c_tsize hr iv, s_isWithin, brb10, brb01, brbpq, brb1p, brb0p, brbp1, brbp0, brb11, brb00, b2i_0, b2i_1, b2i_01, brN, one_ne0, zz01, oz01, nem, Classical.not_not, brt, brf, zz01]
    exact Qi (b2i_f (fun z => c1 ⟨z.1.1, by have := z.1.2; omega⟩)).symm
theorem c_fdL (hr : RepC a S h) (iv : Inv S) (k : Int) (hh : hd S k) (m : Nat) : ∀ d : Int, m = (201 - d).toNat → 0 ≤ d → WP 76 10 [some (zr (some (a 0 0))), some (zr (some (a 21 k))), some (zi (S 13 k 0)), some (zi d)] [] h Q = Q (.inl (some (zi (fdL S k m d)))) h := by
  obtain ⟨u0, u1⟩ := iv.2.1.1
  obtain ⟨u2, u3⟩ := iv.2.1.2.1 (S 2 0 0) u0 (Int.le_refl _)
  obtain ⟨f1, -, -, -, -, g1, -⟩ := iv.2.2.1.2.2.2.1 k hh
  induction m with
  | zero =>
    intro d e1 e2
    rw [b_76_10, brt (by omega), b_76_65]
    rfl
  | succ m ih =>
    intro d e1 e2
    rw [b_76_10, brf (by omega)]
    simp (disch := first | assumption | omega) only [b_76_17, b_76_31, b_76_34, b_76_38, b_76_52, b_76_55, b_76_59, b_76_65, kont_v, kont_n, kont_x, Nat.reduceAdd, ad_some, kd_some, ixa, and_true, true_and, and_self, eq_self, ne_eq, brT, brF, true_or, or_true, and_imp, hr.c0, hr.c1, hr.c2, hr.c3, hr.c4, hr.c5, hr.c6, hr.c7, hr.c8, hr.c9, hr.c10, hr.c11, hr.c12, hr.c13, hr.c14, hr.c15, hr.c16, hr.c17, hr.c18, hr.c19, hr.c20, hr.c21, hr.c22, hr.c23, hr.c24, hr.c25, hr.c26, hr.c27, hr.c28, hr.c29, hr.c30, hr.c31, hr.c32, hr.c33, hr.c34, hr.c35, hr.c36, hr.c37, hr.c38, hr.c39, hr.c40, hr.c41, hr.c42, hr.c43, hr.c44, hr.c45, hr.c46, hr.c47, hr.c48, hr.c49, hr.c50, hr.c51, hr.c52, hr.c53, hr.c54, hr.c55, hr.c56, hr.c57, hr.c58, hr.c59, hr.c60, hr.c61, hr.c62, hr.c63, hr.c64, hr.c65, hr.c66, hr.c67, hr.c68, hr.c69, hr.c70, aT, inR, c_hasAt hr iv _ k _ hh, ih, brb10, brb01, brbpq, brb1p, brb0p, brbp1, brbp0, brb11, brb00, b2i_0, b2i_1, b2i_01, brN, one_ne0, zz01, oz01, nem, Classical.not_not]
    have eu : fdL S k (m + 1) d = @ite Int (AT S (S 13 k 0 - d) k) (Classical.propDecidable _) (S 13 k 0 - d) (@ite Int (AT S (S 13 k 0 + d) k) (Classical.propDecidable _) (S 13 k 0 + d) (fdL S k m (d + 1))) := rfl
    rw [eu]
    by_cases e : AT S (S 13 k 0 - d) k
    · rw [brt e, if_pos e]
    · rw [brf e, if_neg e]
      by_cases f : AT S (S 13 k 0 + d) k
      · rw [brt f, if_pos f]
      · rw [brf f, if_neg f]
theorem c_found (hr : RepC a S h) (iv : Inv S) (k : Int) (hh : hd S k) : WP 76 0 [some (zr (some (a 0 0))), some (zr (some (a 21 k))), none, none] [] h Q = Q (.inl (some (zi (FD S k)))) h := by
  simp (disch := first | assumption | omega) only [b_76_0, kont_v, kont_n, kont_x, Nat.reduceAdd, ad_some, kd_some, ixa, and_true, true_and, and_self, eq_self, ne_eq, brT, brF, true_or, or_true, and_imp, hr.c0, hr.c1, hr.c2, hr.c3, hr.c4, hr.c5, hr.c6, hr.c7, hr.c8, hr.c9, hr.c10, hr.c11, hr.c12, hr.c13, hr.c14, hr.c15, hr.c16, hr.c17, hr.c18, hr.c19, hr.c20, hr.c21, hr.c22, hr.c23, hr.c24, hr.c25, hr.c26, hr.c27, hr.c28, hr.c29, hr.c30, hr.c31, hr.c32, hr.c33, hr.c34, hr.c35, hr.c36, hr.c37, hr.c38, hr.c39, hr.c40, hr.c41, hr.c42, hr.c43, hr.c44, hr.c45, hr.c46, hr.c47, hr.c48, hr.c49, hr.c50, hr.c51, hr.c52, hr.c53, hr.c54, hr.c55, hr.c56, hr.c57, hr.c58, hr.c59, hr.c60, hr.c61, hr.c62, hr.c63, hr.c64, hr.c65, hr.c66, hr.c67, hr.c68, hr.c69, hr.c70, aT, inR, c_fdL hr iv k hh 201 0 rfl (Int.le_refl 0)]
  rfl
end
