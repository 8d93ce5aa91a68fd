/-! THE REFERENCE: counts by kind, and the asking methods -/
section
variable {a : Na} {S : St} {h : Zh} {Q : Zp}
theorem m_manyNow (hm : RepM a S h) (iv : Inv S) (w : Int) (hw : 0 ≤ w ∧ w ≤ 4) : WP 123 0 [some (zr (some (a 100 0))), some (zi w), none, none, none] [] h Q = Q (.inl (some (zi (MN S w)))) h := by
  obtain ⟨n0, n1⟩ := iv.2.2.1.1
  obtain ⟨u0, u1⟩ := iv.1.1
  unfold MN
  by_cases c : w = 0
  · rw [b_123_0, brt c, if_pos c, b_123_4]
    simp (disch := first | assumption | omega) only [b_123_12, kont_v, kont_n, kont_x, Nat.reduceAdd, ad_some, kd_some, ixa, and_true, true_and, and_self, eq_self, ne_eq, brT, brF, true_or, or_true, and_imp, hm.c0, hm.c1, hm.c2, hm.c3, hm.c4, hm.c5, hm.c6, hm.c7, hm.c8, hm.c9, hm.c10, hm.c11, hm.c12, hm.c13, hm.c14, hm.c15, hm.c16, hm.c17, hm.c18, hm.c19, hm.c20, hm.c21, hm.c22, hm.c23, hm.c24, hm.c25, hm.c26, hm.c27, hm.c28, hm.c29, hm.c30, hm.c31, hm.c32, hm.c33, hm.c34, hm.c35, hm.c36, hm.c37, hm.c38, hm.c39, hm.c40, hm.c41, hm.c42, hm.c43, hm.c44, hm.c45, hm.c46, hm.c47, hm.c48, hm.c49, hm.c50, hm.c51, hm.c52, hm.c53, hm.c54, hm.c55, hm.c56, hm.c57, hm.c58, hm.c59, hm.c60, hm.c61, hm.c62, hm.c63, hm.c64, hm.c65, hm.c66, hm.c67, hm.c68, hm.c69, hm.c70, hm.c71, hm.c72, hm.c73, hm.c74, hm.c75, hm.c76, hm.c77, aT, inR]
    rw [b_123_15]
    by_cases d : S 7 0 0 = 0
    · simp (disch := first | assumption | omega) only [kont_v, kont_n, kont_x, Nat.reduceAdd, ad_some, kd_some, ixa, and_true, true_and, and_self, eq_self, ne_eq, brT, brF, true_or, or_true, and_imp, hm.c0, hm.c1, hm.c2, hm.c3, hm.c4, hm.c5, hm.c6, hm.c7, hm.c8, hm.c9, hm.c10, hm.c11, hm.c12, hm.c13, hm.c14, hm.c15, hm.c16, hm.c17, hm.c18, hm.c19, hm.c20, hm.c21, hm.c22, hm.c23, hm.c24, hm.c25, hm.c26, hm.c27, hm.c28, hm.c29, hm.c30, hm.c31, hm.c32, hm.c33, hm.c34, hm.c35, hm.c36, hm.c37, hm.c38, hm.c39, hm.c40, hm.c41, hm.c42, hm.c43, hm.c44, hm.c45, hm.c46, hm.c47, hm.c48, hm.c49, hm.c50, hm.c51, hm.c52, hm.c53, hm.c54, hm.c55, hm.c56, hm.c57, hm.c58, hm.c59, hm.c60, hm.c61, hm.c62, hm.c63, hm.c64, hm.c65, hm.c66, hm.c67, hm.c68, hm.c69, hm.c70, hm.c71, hm.c72, hm.c73, hm.c74, hm.c75, hm.c76, hm.c77, aT, inR, brt, b_123_110]
    · simp (disch := first | assumption | omega) only [b_123_23, kont_v, kont_n, kont_x, Nat.reduceAdd, ad_some, kd_some, ixa, and_true, true_and, and_self, eq_self, ne_eq, brT, brF, true_or, or_true, and_imp, hm.c0, hm.c1, hm.c2, hm.c3, hm.c4, hm.c5, hm.c6, hm.c7, hm.c8, hm.c9, hm.c10, hm.c11, hm.c12, hm.c13, hm.c14, hm.c15, hm.c16, hm.c17, hm.c18, hm.c19, hm.c20, hm.c21, hm.c22, hm.c23, hm.c24, hm.c25, hm.c26, hm.c27, hm.c28, hm.c29, hm.c30, hm.c31, hm.c32, hm.c33, hm.c34, hm.c35, hm.c36, hm.c37, hm.c38, hm.c39, hm.c40, hm.c41, hm.c42, hm.c43, hm.c44, hm.c45, hm.c46, hm.c47, hm.c48, hm.c49, hm.c50, hm.c51, hm.c52, hm.c53, hm.c54, hm.c55, hm.c56, hm.c57, hm.c58, hm.c59, hm.c60, hm.c61, hm.c62, hm.c63, hm.c64, hm.c65, hm.c66, hm.c67, hm.c68, hm.c69, hm.c70, hm.c71, hm.c72, hm.c73, hm.c74, hm.c75, hm.c76, hm.c77, aT, inR, brf, brt, b_123_110]
  · have e : (if w = 1 then cn (fun j => S 12 j 0 ≠ 2) (S 7 0 0).toNat 0 else cn (CT S w) (S 7 0 0).toNat 0) = cn (fun j => S 12 j 0 ≠ 2 ∧ (w = 1 ∨ CT S w j)) (S 7 0 0).toNat 0 := by
      by_cases d : w = 1
      · rw [if_pos d]
        exact cn_c (fun j _ _ => ⟨fun z => ⟨z, .inl d⟩, fun z => z.1⟩)
      · rw [if_neg d]
        exact cn_c (fun j _ _ => ⟨fun z => ⟨z.1.2, .inr z⟩, fun z => z.2.elim (fun y => absurd y d) id⟩)
    rw [b_123_0, brf c, if_neg c, e, b_123_11, b_123_12]
    refine loopC (W := fun o acc i => WP 123 15 [some (zr (some (a 100 0))), some (zi w), some (zi acc), some (zi i), o] [] h Q) (R := fun x => Q (.inl (some (zi x))) h) n0 (fun o i acc e1 e2 e3 e4 => ?_) (fun o acc e1 e2 => ?_) none
    · have hk : nt S i := ⟨e1, e2⟩
      by_cases c1 : S 12 i 0 ≠ 2 ∧ (w = 1 ∨ CT S w i)
      · refine ⟨some (zi 1), ?_⟩
        show WP 123 15 _ _ _ _ = _
        rw [b_123_15, brt c1]
        simp (disch := first | assumption | omega) only [b_123_23, b_123_27, b_123_37, b_123_42, b_123_52, b_123_57, b_123_62, b_123_71, b_123_76, b_123_81, b_123_84, b_123_88, b_123_89, b_123_97, b_123_101, b_123_102, b_123_110, kont_v, kont_n, kont_x, Nat.reduceAdd, ad_some, kd_some, ixa, and_true, true_and, and_self, eq_self, ne_eq, brT, brF, true_or, or_true, and_imp, hm.c0, hm.c1, hm.c2, hm.c3, hm.c4, hm.c5, hm.c6, hm.c7, hm.c8, hm.c9, hm.c10, hm.c11, hm.c12, hm.c13, hm.c14, hm.c15, hm.c16, hm.c17, hm.c18, hm.c19, hm.c20, hm.c21, hm.c22, hm.c23, hm.c24, hm.c25, hm.c26, hm.c27, hm.c28, hm.c29, hm.c30, hm.c31, hm.c32, hm.c33, hm.c34, hm.c35, hm.c36, hm.c37, hm.c38, hm.c39, hm.c40, hm.c41, hm.c42, hm.c43, hm.c44, hm.c45, hm.c46, hm.c47, hm.c48, hm.c49, hm.c50, hm.c51, hm.c52, hm.c53, hm.c54, hm.c55, hm.c56, hm.c57, hm.c58, hm.c59, hm.c60, hm.c61, hm.c62, hm.c63, hm.c64, hm.c65, hm.c66, hm.c67, hm.c68, hm.c69, hm.c70, hm.c71, hm.c72, hm.c73, hm.c74, hm.c75, hm.c76, hm.c77, brf, aT, inR, brb10, brb01, brbpq, brb1p, brb0p, brbp1, brbp0, brb11, brb00, b2i_0, b2i_1, b2i_01, brN, one_ne0, zz01, oz01, nem, Classical.not_not, m_isLost hm iv i hk, Int.add_zero, brn, brq, brp, brm, bre]
        rw [brt (by unfold CT at c1; omega)]
      · refine ⟨some (zi 0), ?_⟩
        show WP 123 15 _ _ _ _ = _
        rw [b_123_15, brf c1]
        simp (disch := first | assumption | omega) only [b_123_23, b_123_27, b_123_37, b_123_42, b_123_52, b_123_57, b_123_62, b_123_71, b_123_76, b_123_81, b_123_84, b_123_88, b_123_89, b_123_97, b_123_101, b_123_102, b_123_110, kont_v, kont_n, kont_x, Nat.reduceAdd, ad_some, kd_some, ixa, and_true, true_and, and_self, eq_self, ne_eq, brT, brF, true_or, or_true, and_imp, hm.c0, hm.c1, hm.c2, hm.c3, hm.c4, hm.c5, hm.c6, hm.c7, hm.c8, hm.c9, hm.c10, hm.c11, hm.c12, hm.c13, hm.c14, hm.c15, hm.c16, hm.c17, hm.c18, hm.c19, hm.c20, hm.c21, hm.c22, hm.c23, hm.c24, hm.c25, hm.c26, hm.c27, hm.c28, hm.c29, hm.c30, hm.c31, hm.c32, hm.c33, hm.c34, hm.c35, hm.c36, hm.c37, hm.c38, hm.c39, hm.c40, hm.c41, hm.c42, hm.c43, hm.c44, hm.c45, hm.c46, hm.c47, hm.c48, hm.c49, hm.c50, hm.c51, hm.c52, hm.c53, hm.c54, hm.c55, hm.c56, hm.c57, hm.c58, hm.c59, hm.c60, hm.c61, hm.c62, hm.c63, hm.c64, hm.c65, hm.c66, hm.c67, hm.c68, hm.c69, hm.c70, hm.c71, hm.c72, hm.c73, hm.c74, hm.c75, hm.c76, hm.c77, brf, aT, inR, brb10, brb01, brbpq, brb1p, brb0p, brbp1, brbp0, brb11, brb00, b2i_0, b2i_1, b2i_01, brN, one_ne0, zz01, oz01, nem, Classical.not_not, m_isLost hm iv i hk, Int.add_zero, brn, brq, brp, brm, bre]
        rw [brf (by unfold CT at c1; omega)]
    · show WP 123 15 _ _ _ _ = _
      rw [b_123_15]
      simp (disch := first | assumption | omega) only [kont_v, kont_n, kont_x, Nat.reduceAdd, ad_some, kd_some, ixa, and_true, true_and, and_self, eq_self, ne_eq, brT, brF, true_or, or_true, and_imp, hm.c0, hm.c1, hm.c2, hm.c3, hm.c4, hm.c5, hm.c6, hm.c7, hm.c8, hm.c9, hm.c10, hm.c11, hm.c12, hm.c13, hm.c14, hm.c15, hm.c16, hm.c17, hm.c18, hm.c19, hm.c20, hm.c21, hm.c22, hm.c23, hm.c24, hm.c25, hm.c26, hm.c27, hm.c28, hm.c29, hm.c30, hm.c31, hm.c32, hm.c33, hm.c34, hm.c35, hm.c36, hm.c37, hm.c38, hm.c39, hm.c40, hm.c41, hm.c42, hm.c43, hm.c44, hm.c45, hm.c46, hm.c47, hm.c48, hm.c49, hm.c50, hm.c51, hm.c52, hm.c53, hm.c54, hm.c55, hm.c56, hm.c57, hm.c58, hm.c59, hm.c60, hm.c61, hm.c62, hm.c63, hm.c64, hm.c65, hm.c66, hm.c67, hm.c68, hm.c69, hm.c70, hm.c71, hm.c72, hm.c73, hm.c74, hm.c75, hm.c76, hm.c77, brt, aT, inR, b_123_110]
theorem m_many (hi : Ij a) (hm : RepM a S h) (iv : Inv S) (w : Int) : WP 124 0 [some (zr (some (a 100 0))), some (zi w)] [] h Q = br (0 ≤ w ∧ w ≤ 4) (Q (.inl (some (zi (MN S w)))) (tw a h 0)) (Q (.inl (some (zi 0))) (tw a (tw a h 0) 1)) := by
  rw [b_124_0, ad_some, kd_some, aT (hm.c0), ← tw]
  have hm := hm.tw hi 0
  simp (disch := first | assumption | omega) only [b_124_5, b_124_11, b_124_14, b_124_19, b_124_22, b_124_27, kont_v, kont_n, kont_x, Nat.reduceAdd, ad_some, kd_some, ixa, and_true, true_and, and_self, eq_self, ne_eq, brT, brF, true_or, or_true, and_imp, hm.c0, hm.c1, hm.c2, hm.c3, hm.c4, hm.c5, hm.c6, hm.c7, hm.c8, hm.c9, hm.c10, hm.c11, hm.c12, hm.c13, hm.c14, hm.c15, hm.c16, hm.c17, hm.c18, hm.c19, hm.c20, hm.c21, hm.c22, hm.c23, hm.c24, hm.c25, hm.c26, hm.c27, hm.c28, hm.c29, hm.c30, hm.c31, hm.c32, hm.c33, hm.c34, hm.c35, hm.c36, hm.c37, hm.c38, hm.c39, hm.c40, hm.c41, hm.c42, hm.c43, hm.c44, hm.c45, hm.c46, hm.c47, hm.c48, hm.c49, hm.c50, hm.c51, hm.c52, hm.c53, hm.c54, hm.c55, hm.c56, hm.c57, hm.c58, hm.c59, hm.c60, hm.c61, hm.c62, hm.c63, hm.c64, hm.c65, hm.c66, hm.c67, hm.c68, hm.c69, hm.c70, hm.c71, hm.c72, hm.c73, hm.c74, hm.c75, hm.c76, hm.c77, aT, inR, m_isIn, brb10, brb01, brbpq, brb1p, brb0p, brbp1, brbp0, brb11, brb00, b2i_0, b2i_1, b2i_01, brN, one_ne0, zz01, oz01, nem, Classical.not_not, m_no hm iv]
  by_cases c : 0 ≤ w ∧ w ≤ 4
  · rw [brt c, brt c, m_manyNow hm iv w c]
    simp only [kont_v, kont_n, kont_x, Nat.reduceAdd, ad_some, kd_some, ixa, and_true, true_and, and_self, eq_self, ne_eq, brT, brF, true_or, or_true, and_imp, b_124_5, b_124_11, b_124_14, b_124_19, b_124_22, b_124_27]
  · rw [brf c, brf c]
theorem m_right (hi : Ij a) (hm : RepM a S h) (iv : Inv S) (u : Int) : WP 125 0 [some (zr (some (a 100 0))), some (zi u)] [] h Q = br (0 ≤ u ∧ u < S 0 0 0) (Q (.inl (some (zi (S 1 u 0)))) (tw a h 0)) (Q (.inl (some (zi 0))) (tw a (tw a h 0) 1)) := by
  obtain ⟨u0, u1⟩ := iv.1.1
  rw [b_125_0, ad_some, kd_some, aT (hm.c0), ← tw]
  have hm := hm.tw hi 0
  simp (disch := first | assumption | omega) only [b_125_5, b_125_10, b_125_13, b_125_22, b_125_27, kont_v, kont_n, kont_x, Nat.reduceAdd, ad_some, kd_some, ixa, and_true, true_and, and_self, eq_self, ne_eq, brT, brF, true_or, or_true, and_imp, hm.c0, hm.c1, hm.c2, hm.c3, hm.c4, hm.c5, hm.c6, hm.c7, hm.c8, hm.c9, hm.c10, hm.c11, hm.c12, hm.c13, hm.c14, hm.c15, hm.c16, hm.c17, hm.c18, hm.c19, hm.c20, hm.c21, hm.c22, hm.c23, hm.c24, hm.c25, hm.c26, hm.c27, hm.c28, hm.c29, hm.c30, hm.c31, hm.c32, hm.c33, hm.c34, hm.c35, hm.c36, hm.c37, hm.c38, hm.c39, hm.c40, hm.c41, hm.c42, hm.c43, hm.c44, hm.c45, hm.c46, hm.c47, hm.c48, hm.c49, hm.c50, hm.c51, hm.c52, hm.c53, hm.c54, hm.c55, hm.c56, hm.c57, hm.c58, hm.c59, hm.c60, hm.c61, hm.c62, hm.c63, hm.c64, hm.c65, hm.c66, hm.c67, hm.c68, hm.c69, hm.c70, hm.c71, hm.c72, hm.c73, hm.c74, hm.c75, hm.c76, hm.c77, aT, inR, m_isUser hm iv, brb10, brb01, brbpq, brb1p, brb0p, brbp1, brbp0, brb11, brb00, b2i_0, b2i_1, b2i_01, brN, one_ne0, zz01, oz01, nem, Classical.not_not, m_no hm iv]
  by_cases c : 0 ≤ u ∧ u < S 0 0 0
  · rw [brt c, brt c]
    exact aT ⟨c.1, by omega⟩
  · rw [brf c, brf c]
end
