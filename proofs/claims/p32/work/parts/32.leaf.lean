/-! LEAVES OF THE CLASS, by address -/
section
variable {h : Zh} {Q : Zp}
theorem c_size (x : Nat) (k : gK h x = 1) (r : inR (gI h x 1 - gI h x 0)) : WP 2 0 [some (zr (some x))] [] h Q = Q (.inl (some (zi (gI h x 1 - gI h x 0)))) h := by
  simp only [b_2_0, kont_v, kont_n, kont_x, Nat.reduceAdd, ad_some, kd_some, ixa, and_true, true_and, and_self, eq_self, ne_eq, brT, brF, true_or, or_true, and_imp, k, r]
theorem c_lost (x : Nat) (k : gK h x = 1) : WP 3 0 [some (zr (some x))] [] h Q = Q (.inl (some (zi (b2i (gI h x 0 = gI h x 1))))) h := by
  simp only [b_3_0, b_3_11, b_3_15, b_3_16, kont_v, kont_n, kont_x, Nat.reduceAdd, ad_some, kd_some, ixa, and_true, true_and, and_self, eq_self, ne_eq, brT, brF, true_or, or_true, and_imp, k, brb10, brb01, brbpq, brb1p, brb0p, brbp1, brbp0, brb11, brb00, b2i_0, b2i_1, b2i_01, brN, one_ne0, zz01, oz01, nem, Classical.not_not]
theorem c_covers (x : Nat) (p : Int) (k : gK h x = 1) : WP 4 0 [some (zr (some x)), some (zi p)] [] h Q = Q (.inl (some (zi (b2i (gI h x 0 ≤ p ∧ p < gI h x 1))))) h := by
  simp only [b_4_0, b_4_8, b_4_16, b_4_20, b_4_21, kont_v, kont_n, kont_x, Nat.reduceAdd, ad_some, kd_some, ixa, and_true, true_and, and_self, eq_self, ne_eq, brT, brF, true_or, or_true, and_imp, k, brb10, brb01, brbpq, brb1p, brb0p, brbp1, brbp0, brb11, brb00, b2i_0, b2i_1, b2i_01, brN, one_ne0, zz01, oz01, nem, Classical.not_not]
  exact Qi (b2i_c (by omega))
theorem c_ahead (x y : Nat) (k : gK h x = 1) (k2 : gK h y = 1) : WP 5 0 [some (zr (some x)), some (zr (some y))] [] h Q = Q (.inl (some (zi (b2i (gI h x 0 < gI h y 0 ∨ (gI h x 0 = gI h y 0 ∧ gI h x 1 < gI h y 1)))))) h := by
  simp only [b_5_0, b_5_11, b_5_22, b_5_26, b_5_30, b_5_41, b_5_45, b_5_46, kont_v, kont_n, kont_x, Nat.reduceAdd, ad_some, kd_some, ixa, and_true, true_and, and_self, eq_self, ne_eq, brT, brF, true_or, or_true, and_imp, k, k2, brb10, brb01, brbpq, brb1p, brb0p, brbp1, brbp0, brb11, brb00, b2i_0, b2i_1, b2i_01, brN, one_ne0, zz01, oz01, nem, Classical.not_not]
  exact Qi (b2i_c (by omega))
theorem c_wbl (x : Nat) (p e : Int) (k : gK h x = 1) : WP 6 0 [some (zr (some x)), some (zi p), some (zi e)] [] h Q = Q (.inl (some (zi (b2i (gI h x 0 ≠ gI h x 1 ∧ p ≤ gI h x 0 ∧ gI h x 1 ≤ e))))) h := by
  simp only [b_6_0, b_6_4, b_6_7, b_6_15, b_6_23, b_6_27, b_6_28, kont_v, kont_n, kont_x, Nat.reduceAdd, ad_some, kd_some, ixa, and_true, true_and, and_self, eq_self, ne_eq, brT, brF, true_or, or_true, and_imp, c_lost x k, k, brb10, brb01, brbpq, brb1p, brb0p, brbp1, brbp0, brb11, brb00, b2i_0, b2i_1, b2i_01, brN, one_ne0, zz01, oz01, nem, Classical.not_not]
  exact Qi (b2i_c (by omega))
theorem c_isHead (x : Nat) (k : gK h x = 3) : WP 13 0 [some (zr (some x))] [] h Q = Q (.inl (some (zi (b2i (gR h x 4 = none))))) h := by
  simp only [b_13_0, b_13_7, b_13_11, b_13_12, kont_v, kont_n, kont_x, Nat.reduceAdd, ad_some, kd_some, ixa, and_true, true_and, and_self, eq_self, ne_eq, brT, brF, true_or, or_true, and_imp, k, brb10, brb01, brbpq, brb1p, brb0p, brbp1, brbp0, brb11, brb00, b2i_0, b2i_1, b2i_01, brN, one_ne0, zz01, oz01, nem, Classical.not_not]
theorem c_hng (x : Nat) (k : gK h x = 3) : WP 14 0 [some (zr (some x))] [] h Q = Q (.inl (some (zi (b2i (gR h x 4 = none ∧ gI h x 9 = 0))))) h := by
  simp only [b_14_0, b_14_7, b_14_14, b_14_18, b_14_19, kont_v, kont_n, kont_x, Nat.reduceAdd, ad_some, kd_some, ixa, and_true, true_and, and_self, eq_self, ne_eq, brT, brF, true_or, or_true, and_imp, k, brb10, brb01, brbpq, brb1p, brb0p, brbp1, brbp0, brb11, brb00, b2i_0, b2i_1, b2i_01, brN, one_ne0, zz01, oz01, nem, Classical.not_not]
theorem c_shown (x : Nat) (k : gK h x = 3) : WP 15 0 [some (zr (some x))] [] h Q = Q (.inl (some (zi (if gI h x 8 = 0 then gI h x 2 else -1)))) h := by
  simp only [b_15_0, b_15_7, b_15_11, b_15_15, kont_v, kont_n, kont_x, Nat.reduceAdd, ad_some, kd_some, ixa, and_true, true_and, and_self, eq_self, ne_eq, brT, brF, true_or, or_true, and_imp, k]
  by_cases e : gI h x 8 = 0
  · rw [brt e, if_pos e]
  · rw [brf e, if_neg e]
theorem c_seenBy (x : Nat) (u r : Int) (k : gK h x = 4) : WP 20 0 [some (zr (some x)), some (zi u), some (zi r)] [] h Q = Q (.inl (some (zi (b2i (r ≠ 0 ∧ (gI h x 2 = 2 ∨ (gI h x 2 = 1 ∧ 2 ≤ r) ∨ gI h x 1 = u ∨ r = 4)))))) h := by
  simp only [b_20_0, b_20_4, b_20_6, b_20_14, b_20_22, b_20_27, b_20_35, b_20_40, b_20_44, b_20_45, kont_v, kont_n, kont_x, Nat.reduceAdd, ad_some, kd_some, ixa, and_true, true_and, and_self, eq_self, ne_eq, brT, brF, true_or, or_true, and_imp, k, brb10, brb01, brbpq, brb1p, brb0p, brbp1, brbp0, brb11, brb00, b2i_0, b2i_1, b2i_01, brN, one_ne0, zz01, oz01, nem, Classical.not_not]
  exact Qi (b2i_c (by omega))
theorem c_counted (x y : Nat) (w : Int) (k : gK h x = 4) (e : gR h x 3 = some y) (k2 : gK h y = 1) : WP 21 0 [some (zr (some x)), some (zi w)] [] h Q = Q (.inl (some (zi (b2i (w = 2 ∨ (w = 3 ∧ gI h x 5 = 0) ∨ (w = 4 ∧ gI h y 0 = gI h y 1)))))) h := by
  simp only [b_21_0, b_21_5, b_21_10, b_21_17, b_21_22, b_21_29, b_21_32, b_21_36, b_21_37, kont_v, kont_n, kont_x, Nat.reduceAdd, ad_some, kd_some, ixa, and_true, true_and, and_self, eq_self, ne_eq, brT, brF, true_or, or_true, and_imp, k, e, k2, c_lost y k2, brb10, brb01, brbpq, brb1p, brb0p, brbp1, brbp0, brb11, brb00, b2i_0, b2i_1, b2i_01, brN, one_ne0, zz01, oz01, nem, Classical.not_not]
  exact Qi (b2i_c (by omega))
theorem c_mix (d x : Int64) : WP 84 0 [some (zl d), none, some (zl x), none] [] h Q = Q (.inl (some (zl (d * 31 + x)))) h := by
  simp only [b_84_0, kont_v, kont_n, kont_x, Nat.reduceAdd, ad_some, kd_some, ixa, and_true, true_and, and_self, eq_self, ne_eq, brT, brF, true_or, or_true, and_imp]
end
