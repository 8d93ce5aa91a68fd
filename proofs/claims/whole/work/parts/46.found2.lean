/-! THE REFERENCE: where a quote stands, the outer loop -/
section
variable {a : Na} {S : St} {h : Zh} {Q : Zp}
theorem m_fdO (hm : RepM a S h) (iv : Inv S) (k : Int) (hh : hd S k) (m : Nat) : ∀ (n b : Int) (o4 o5 : Option Zv), m = (S 3 (S 2 0 0) 0 + 1 - (n + S 19 k 0)).toNat → 0 ≤ n → n ≤ 201 → isB S k n b →
    WP 119 4 [some (zr (some (a 100 0))), some (zi k), some (zi b), some (zi n), o4, o5] [] h Q = Q (.inl (some (zi (FD S k)))) h := by
  obtain ⟨n0, n1⟩ := iv.2.2.1.1
  obtain ⟨u0, u1⟩ := iv.2.1.1
  obtain ⟨u2, u3⟩ := iv.2.1.2.1 (S 2 0 0) u0 (Int.le_refl _)
  have u4 := Int.le_refl (S 2 0 0)
  obtain ⟨f1, -, -, -, -, g1, -⟩ := iv.2.2.1.2.2.2.1 k hh
  have k1 := hh.1.1
  have k2 := hh.1.2
  induction m with
  | zero =>
    intro n b o4 o5 e1 e2 e2b e3
    rw [b_119_4]
    simp (disch := first | assumption | omega) only [b_119_17, b_119_124, kont_v, kont_n, kont_x, Nat.reduceAdd, ad_some, kd_some, ixa, and_true, true_and, and_self, eq_self, ne_eq, brT, brF, true_or, or_true, and_imp, hm.c0, hm.c1, hm.c2, hm.c3, hm.c4, hm.c5, hm.c6, hm.c7, hm.c8, hm.c9, hm.c10, hm.c11, hm.c12, hm.c13, hm.c14, hm.c15, hm.c16, hm.c17, hm.c18, hm.c19, hm.c20, hm.c21, hm.c22, hm.c23, hm.c24, hm.c25, hm.c26, hm.c27, hm.c28, hm.c29, hm.c30, hm.c31, hm.c32, hm.c33, hm.c34, hm.c35, hm.c36, hm.c37, hm.c38, hm.c39, hm.c40, hm.c41, hm.c42, hm.c43, hm.c44, hm.c45, hm.c46, hm.c47, hm.c48, hm.c49, hm.c50, hm.c51, hm.c52, hm.c53, hm.c54, hm.c55, hm.c56, hm.c57, hm.c58, hm.c59, hm.c60, hm.c61, hm.c62, hm.c63, hm.c64, hm.c65, hm.c66, hm.c67, hm.c68, hm.c69, hm.c70, hm.c71, hm.c72, hm.c73, hm.c74, hm.c75, hm.c76, hm.c77, aT, inR, brt, m_text hm iv]
    exact Qi (isB_u iv hh (by omega) e3)
  | succ m ih =>
    intro n b o4 o5 e1 e2 e2b e3
    have hb : -1 ≤ b ∧ b ≤ 200 := by
      rcases e3 with e3 | e3
      · omega
      · have := iv_at iv hh e3.1; omega
    have ea : AT S n k ↔ ((1 : Int) = 1 ∧ ∀ j, 0 ≤ j → j < S 19 k 0 → S 5 (S 4 (S 2 0 0) (n + j)) 0 = S 20 k j) := ⟨fun z => ⟨rfl, z.2⟩, fun z => ⟨⟨e2, by omega⟩, z.2⟩⟩
    rw [b_119_4]
    simp (disch := first | assumption | omega) only [b_119_17, b_119_21, kont_v, kont_n, kont_x, Nat.reduceAdd, ad_some, kd_some, ixa, and_true, true_and, and_self, eq_self, ne_eq, brT, brF, true_or, or_true, and_imp, hm.c0, hm.c1, hm.c2, hm.c3, hm.c4, hm.c5, hm.c6, hm.c7, hm.c8, hm.c9, hm.c10, hm.c11, hm.c12, hm.c13, hm.c14, hm.c15, hm.c16, hm.c17, hm.c18, hm.c19, hm.c20, hm.c21, hm.c22, hm.c23, hm.c24, hm.c25, hm.c26, hm.c27, hm.c28, hm.c29, hm.c30, hm.c31, hm.c32, hm.c33, hm.c34, hm.c35, hm.c36, hm.c37, hm.c38, hm.c39, hm.c40, hm.c41, hm.c42, hm.c43, hm.c44, hm.c45, hm.c46, hm.c47, hm.c48, hm.c49, hm.c50, hm.c51, hm.c52, hm.c53, hm.c54, hm.c55, hm.c56, hm.c57, hm.c58, hm.c59, hm.c60, hm.c61, hm.c62, hm.c63, hm.c64, hm.c65, hm.c66, hm.c67, hm.c68, hm.c69, hm.c70, hm.c71, hm.c72, hm.c73, hm.c74, hm.c75, hm.c76, hm.c77, aT, inR, brf, m_text hm iv]
    rw [m_fdI hm iv k hh b n ⟨e2, by omega⟩ (S 19 k 0).toNat 0 1 (by omega) (by omega) (by omega) (.inr rfl), b_119_81, b2i_0, brN]
    by_cases c : AT S n k
    · rw [brt (ea.mp c), b_119_86]
      by_cases d : b = -1
      · rw [brt d, b_119_116, b_119_118]
        rw [aT (by unfold inR; omega), ih (n + 1) n _ _ (by omega) (by omega) (by omega)]
        refine .inr ⟨c, by omega, fun p hp h1 => ?_⟩
        rcases e3 with e3 | e3
        · have := e3.2 p hp
          omega
        · have := iv_at iv hh e3.1; omega
      · rw [brf d]
        have e4 : AT S b k ∧ b < n ∧ ∀ p, AT S p k → p < n → (b - S 13 k 0).natAbs < (p - S 13 k 0).natAbs ∨ ((b - S 13 k 0).natAbs = (p - S 13 k 0).natAbs ∧ b ≤ p) := by
          rcases e3 with e3 | e3
          · exact absurd e3.1 d
          · exact e3
        simp (disch := first | assumption | omega) only [b_119_91, kont_v, kont_n, kont_x, Nat.reduceAdd, ad_some, kd_some, ixa, and_true, true_and, and_self, eq_self, ne_eq, brT, brF, true_or, or_true, and_imp, hm.c0, hm.c1, hm.c2, hm.c3, hm.c4, hm.c5, hm.c6, hm.c7, hm.c8, hm.c9, hm.c10, hm.c11, hm.c12, hm.c13, hm.c14, hm.c15, hm.c16, hm.c17, hm.c18, hm.c19, hm.c20, hm.c21, hm.c22, hm.c23, hm.c24, hm.c25, hm.c26, hm.c27, hm.c28, hm.c29, hm.c30, hm.c31, hm.c32, hm.c33, hm.c34, hm.c35, hm.c36, hm.c37, hm.c38, hm.c39, hm.c40, hm.c41, hm.c42, hm.c43, hm.c44, hm.c45, hm.c46, hm.c47, hm.c48, hm.c49, hm.c50, hm.c51, hm.c52, hm.c53, hm.c54, hm.c55, hm.c56, hm.c57, hm.c58, hm.c59, hm.c60, hm.c61, hm.c62, hm.c63, hm.c64, hm.c65, hm.c66, hm.c67, hm.c68, hm.c69, hm.c70, hm.c71, hm.c72, hm.c73, hm.c74, hm.c75, hm.c76, hm.c77, aT, inR]
        by_cases f : (b - S 13 k 0).natAbs ≤ (n - S 13 k 0).natAbs
        · rw [brt (by split <;> split <;> omega), b_119_118, aT (by unfold inR; omega), ih (n + 1) b _ _ (by omega) (by omega) (by omega)]
          refine .inr ⟨e4.1, by omega, fun p hp h1 => ?_⟩
          by_cases g : p = n
          · rw [g]; omega
          · exact e4.2.2 p hp (by omega)
        · rw [brf (by split <;> split <;> omega), b_119_116, b_119_118, aT (by unfold inR; omega), ih (n + 1) n _ _ (by omega) (by omega) (by omega)]
          refine .inr ⟨c, by omega, fun p hp h1 => ?_⟩
          by_cases g : p = n
          · rw [g]; omega
          · have := e4.2.2 p hp (by omega)
            omega
    · rw [brf (fun z => c (ea.mpr z)), b_119_118, aT (by unfold inR; omega), ih (n + 1) b _ _ (by omega) (by omega) (by omega)]
      rcases e3 with e3 | e3
      · refine .inl ⟨e3.1, fun p hp => ?_⟩
        have := e3.2 p hp
        by_cases g : p = n
        · exact absurd (g ▸ hp) c
        · omega
      · refine .inr ⟨e3.1, by omega, fun p hp h1 => ?_⟩
        by_cases g : p = n
        · exact absurd (g ▸ hp) c
        · exact e3.2.2 p hp (by omega)
theorem m_found (hm : RepM a S h) (iv : Inv S) (k : Int) (hh : hd S k) : WP 119 0 [some (zr (some (a 100 0))), some (zi k), none, none, none, none] [] h Q = Q (.inl (some (zi (FD S k)))) h := by
  rw [b_119_0]
  exact m_fdO hm iv k hh _ 0 (-1) none none rfl (by omega) (by omega) (.inl ⟨rfl, fun p hp => (iv_at iv hh hp).1⟩)
theorem m_wouldHeal (hi : Ij a) (hm : RepM a S h) (iv : Inv S) (k : Int) : WP 143 0 [some (zr (some (a 100 0))), some (zi k)] [] h Q = br (nt S k ∧ S 12 k 0 ≠ 2) (Q (.inl (some (zi (FD S (S 11 k 0))))) (tw a h 0)) (Q (.inl (some (zi 0))) (tw a (tw a h 0) 1)) := by
  rw [b_143_0, ad_some, kd_some, aT (hm.c0), ← tw]
  have hm := hm.tw hi 0
  obtain ⟨n0, n1⟩ := iv.2.2.1.1
  by_cases c : nt S k ∧ S 12 k 0 ≠ 2
  · have hk := c.1
    have k1 := hk.1
    have k2 := hk.2
    rw [brt c]
    simp (disch := first | assumption | omega) only [b_143_5, b_143_10, b_143_13, b_143_23, b_143_26, b_143_31, kont_v, kont_n, kont_x, Nat.reduceAdd, ad_some, kd_some, ixa, and_true, true_and, and_self, eq_self, ne_eq, brT, brF, true_or, or_true, and_imp, hm.c0, hm.c1, hm.c2, hm.c3, hm.c4, hm.c5, hm.c6, hm.c7, hm.c8, hm.c9, hm.c10, hm.c11, hm.c12, hm.c13, hm.c14, hm.c15, hm.c16, hm.c17, hm.c18, hm.c19, hm.c20, hm.c21, hm.c22, hm.c23, hm.c24, hm.c25, hm.c26, hm.c27, hm.c28, hm.c29, hm.c30, hm.c31, hm.c32, hm.c33, hm.c34, hm.c35, hm.c36, hm.c37, hm.c38, hm.c39, hm.c40, hm.c41, hm.c42, hm.c43, hm.c44, hm.c45, hm.c46, hm.c47, hm.c48, hm.c49, hm.c50, hm.c51, hm.c52, hm.c53, hm.c54, hm.c55, hm.c56, hm.c57, hm.c58, hm.c59, hm.c60, hm.c61, hm.c62, hm.c63, hm.c64, hm.c65, hm.c66, hm.c67, hm.c68, hm.c69, hm.c70, hm.c71, hm.c72, hm.c73, hm.c74, hm.c75, hm.c76, hm.c77, aT, inR, m_isNote hm iv, brb10, brb01, brbpq, brb1p, brb0p, brbp1, brbp0, brb11, brb00, b2i_0, b2i_1, b2i_01, brN, one_ne0, zz01, oz01, nem, Classical.not_not, m_no hm iv, brf c.2, m_found hm iv _ (iv_hd iv hk)]
  · rw [brf c]
    simp (disch := first | assumption | omega) only [b_143_5, b_143_10, b_143_13, b_143_23, b_143_26, b_143_31, kont_v, kont_n, kont_x, Nat.reduceAdd, ad_some, kd_some, ixa, and_true, true_and, and_self, eq_self, ne_eq, brT, brF, true_or, or_true, and_imp, hm.c0, hm.c1, hm.c2, hm.c3, hm.c4, hm.c5, hm.c6, hm.c7, hm.c8, hm.c9, hm.c10, hm.c11, hm.c12, hm.c13, hm.c14, hm.c15, hm.c16, hm.c17, hm.c18, hm.c19, hm.c20, hm.c21, hm.c22, hm.c23, hm.c24, hm.c25, hm.c26, hm.c27, hm.c28, hm.c29, hm.c30, hm.c31, hm.c32, hm.c33, hm.c34, hm.c35, hm.c36, hm.c37, hm.c38, hm.c39, hm.c40, hm.c41, hm.c42, hm.c43, hm.c44, hm.c45, hm.c46, hm.c47, hm.c48, hm.c49, hm.c50, hm.c51, hm.c52, hm.c53, hm.c54, hm.c55, hm.c56, hm.c57, hm.c58, hm.c59, hm.c60, hm.c61, hm.c62, hm.c63, hm.c64, hm.c65, hm.c66, hm.c67, hm.c68, hm.c69, hm.c70, hm.c71, hm.c72, hm.c73, hm.c74, hm.c75, hm.c76, hm.c77, aT, inR, m_isNote hm iv, brb10, brb01, brbpq, brb1p, brb0p, brbp1, brbp0, brb11, brb00, b2i_0, b2i_1, b2i_01, brN, one_ne0, zz01, oz01, nem, Classical.not_not, m_no hm iv, brf c]
end
