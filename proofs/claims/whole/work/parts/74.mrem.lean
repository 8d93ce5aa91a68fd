/-! remove OF THE REFERENCE -/
section
variable {a : Na} {S : St} {h : Zh} {Q : Zp}
theorem m_rmL (hi : Ij a) (h0 : Zh) (u k : Int) (R : St) (N : Int) (hQ : ∀ g, RepM a R g → FM a h0 a g → gC g = gC h0 → gS g = gS h0 → Q (.inl (some (zi N))) g) (m : Nat) :
    ∀ (S : St) (t n : Int) (h : Zh), t < m → (t = -1 ∨ nt S t) → 0 ≤ n → n + t ≤ 61 → RepM a S h → Inv S → FM a h0 a h → gC h = gC h0 → gS h = gS h0 → rmS S m t = R → n + rmN S m t = N →
      WP 116 79 [some (zr (some (a 100 0))), some (zi u), some (zi k), some (zi n), some (zi t)] [] h Q := by
  induction m with
  | zero =>
    intro S t n h e1 e2 e3 e4 hm iv fr gc gs es en
    have e : t = -1 := by rcases e2 with e | e; exact e; have := e.1; omega
    have en : n + 0 = N := en
    rw [b_116_79, brt e, b_116_128, show n = N by omega]
    exact hQ h (es ▸ hm) fr gc gs
  | succ m ih =>
    intro S t n h e1 e2 e3 e4 hm iv fr gc gs es en
    rw [rmS_s] at es
    rw [rmN_s] at en
    by_cases e : t = -1
    · have c : ¬ rmG S t := fun z => z.1 e
      rw [if_neg c] at es en
      rw [b_116_79, brt e, b_116_128, show n = N by omega]
      exact hQ h (es ▸ hm) fr gc gs
    · have ht := e2.resolve_left e
      have t1 := ht.1
      have t2 := ht.2
      have b := iv.2.2.1.1
      have rb := RP_b iv
      rw [b_116_79, brf e]
      by_cases c1 : S 12 t 0 = 1
      · by_cases c2 : RP S t = 0
        · have c : rmG S t := ⟨e, c1, c2⟩
          rw [if_pos c] at es en
          have i2 := inv_rmG iv ht c
          have w := hm.wA hi 12 (by omega) (by omega) (by omega) t 2
          simp (disch := first | assumption | omega) only [b_116_85, b_116_96, b_116_102, b_116_105, b_116_113, kont_v, kont_n, kont_x, Nat.reduceAdd, ad_some, kd_some, ixa, and_true, true_and, and_self, eq_self, ne_eq, brT, brF, true_or, or_true, and_imp, hm.c0, hm.c1, hm.c2, hm.c3, hm.c4, hm.c5, hm.c6, hm.c7, hm.c8, hm.c9, hm.c10, hm.c11, hm.c12, hm.c13, hm.c14, hm.c15, hm.c16, hm.c17, hm.c18, hm.c19, hm.c20, hm.c21, hm.c22, hm.c23, hm.c24, hm.c25, hm.c26, hm.c27, hm.c28, hm.c29, hm.c30, hm.c31, hm.c32, hm.c33, hm.c34, hm.c35, hm.c36, hm.c37, hm.c38, hm.c39, hm.c40, hm.c41, hm.c42, hm.c43, hm.c44, hm.c45, hm.c46, hm.c47, hm.c48, hm.c49, hm.c50, hm.c51, hm.c52, hm.c53, hm.c54, hm.c55, hm.c56, hm.c57, hm.c58, hm.c59, hm.c60, hm.c61, hm.c62, hm.c63, hm.c64, hm.c65, hm.c66, hm.c67, hm.c68, hm.c69, hm.c70, hm.c71, hm.c72, hm.c73, hm.c74, hm.c75, hm.c76, hm.c77, aT, inR, m_replies hm iv t ht, brf, brt, gK_pI, gL_pI, gR_pI, gI_pI, hi, reduceCtorEq, Nat.reduceEqDiff, Int.reduceEq, and_false, false_and, if_false]
          refine ih (su S 12 t 0 2) (S 10 t 0) (n + 1) _ ?_ ?_ (by omega) ?_ w i2 (fr.trans (FM.I hi (by omega) (by omega) (by omega))) gc gs es (by omega)
          · rcases iv_par iv ht with ⟨q, -⟩ | ⟨q, q2, -⟩ <;> omega
          · rcases iv_par iv ht with ⟨q, -⟩ | ⟨q, -⟩
            · exact .inl q
            · exact .inr q
          · rcases iv_par iv ht with ⟨q, -⟩ | ⟨q, q2, -⟩ <;> omega
        · have c : ¬ rmG S t := fun z => c2 z.2.2
          rw [if_neg c] at es en
          simp (disch := first | assumption | omega) only [b_116_85, b_116_96, b_116_102, b_116_128, kont_v, kont_n, kont_x, Nat.reduceAdd, ad_some, kd_some, ixa, and_true, true_and, and_self, eq_self, ne_eq, brT, brF, true_or, or_true, and_imp, hm.c0, hm.c1, hm.c2, hm.c3, hm.c4, hm.c5, hm.c6, hm.c7, hm.c8, hm.c9, hm.c10, hm.c11, hm.c12, hm.c13, hm.c14, hm.c15, hm.c16, hm.c17, hm.c18, hm.c19, hm.c20, hm.c21, hm.c22, hm.c23, hm.c24, hm.c25, hm.c26, hm.c27, hm.c28, hm.c29, hm.c30, hm.c31, hm.c32, hm.c33, hm.c34, hm.c35, hm.c36, hm.c37, hm.c38, hm.c39, hm.c40, hm.c41, hm.c42, hm.c43, hm.c44, hm.c45, hm.c46, hm.c47, hm.c48, hm.c49, hm.c50, hm.c51, hm.c52, hm.c53, hm.c54, hm.c55, hm.c56, hm.c57, hm.c58, hm.c59, hm.c60, hm.c61, hm.c62, hm.c63, hm.c64, hm.c65, hm.c66, hm.c67, hm.c68, hm.c69, hm.c70, hm.c71, hm.c72, hm.c73, hm.c74, hm.c75, hm.c76, hm.c77, aT, inR, m_replies hm iv t ht, brf, brt]
          rw [show n = N by omega]
          exact hQ h (es ▸ hm) fr gc gs
      · have c : ¬ rmG S t := fun z => c1 z.2.1
        rw [if_neg c] at es en
        simp (disch := first | assumption | omega) only [b_116_85, b_116_128, kont_v, kont_n, kont_x, Nat.reduceAdd, ad_some, kd_some, ixa, and_true, true_and, and_self, eq_self, ne_eq, brT, brF, true_or, or_true, and_imp, hm.c0, hm.c1, hm.c2, hm.c3, hm.c4, hm.c5, hm.c6, hm.c7, hm.c8, hm.c9, hm.c10, hm.c11, hm.c12, hm.c13, hm.c14, hm.c15, hm.c16, hm.c17, hm.c18, hm.c19, hm.c20, hm.c21, hm.c22, hm.c23, hm.c24, hm.c25, hm.c26, hm.c27, hm.c28, hm.c29, hm.c30, hm.c31, hm.c32, hm.c33, hm.c34, hm.c35, hm.c36, hm.c37, hm.c38, hm.c39, hm.c40, hm.c41, hm.c42, hm.c43, hm.c44, hm.c45, hm.c46, hm.c47, hm.c48, hm.c49, hm.c50, hm.c51, hm.c52, hm.c53, hm.c54, hm.c55, hm.c56, hm.c57, hm.c58, hm.c59, hm.c60, hm.c61, hm.c62, hm.c63, hm.c64, hm.c65, hm.c66, hm.c67, hm.c68, hm.c69, hm.c70, hm.c71, hm.c72, hm.c73, hm.c74, hm.c75, hm.c76, hm.c77, aT, inR, brf, brt]
        rw [show n = N by omega]
        exact hQ h (es ▸ hm) fr gc gs
theorem m_remove (hi : Ij a) (hm : RepM a S h) (iv : Inv S) (u k : Int) (q : br (0 ≤ u ∧ u < S 0 0 0) (br (nt S k ∧ S 12 k 0 ≠ 2) (br (((S 8 k 0 = u ∨ S 1 u 0 = 4) ∧ SE S u (S 1 u 0) (S 11 k 0)) ∧ S 12 k 0 = 0) (MK a (Srem S k) h Q (zi (Nrem S k)) 0) (MK a S h Q (zi 0) 2)) (MK a S h Q (zi 0) 1)) (MK a S h Q (zi 0) 1)) :
    WP 116 0 [some (zr (some (a 100 0))), some (zi u), some (zi k), none, none] [] h Q := by
  obtain ⟨w0, w1⟩ := iv.1.1
  have r4 := iv.1.2 u
  have bn := iv.2.2.1.1
  have hw : RepM a S (tw a h 0) := hm.tw hi 0
  simp (disch := first | assumption | omega) only [b_116_0, kont_v, kont_n, kont_x, Nat.reduceAdd, ad_some, kd_some, ixa, and_true, true_and, and_self, eq_self, ne_eq, brT, brF, true_or, or_true, and_imp, hm.c0, hm.c1, hm.c2, hm.c3, hm.c4, hm.c5, hm.c6, hm.c7, hm.c8, hm.c9, hm.c10, hm.c11, hm.c12, hm.c13, hm.c14, hm.c15, hm.c16, hm.c17, hm.c18, hm.c19, hm.c20, hm.c21, hm.c22, hm.c23, hm.c24, hm.c25, hm.c26, hm.c27, hm.c28, hm.c29, hm.c30, hm.c31, hm.c32, hm.c33, hm.c34, hm.c35, hm.c36, hm.c37, hm.c38, hm.c39, hm.c40, hm.c41, hm.c42, hm.c43, hm.c44, hm.c45, hm.c46, hm.c47, hm.c48, hm.c49, hm.c50, hm.c51, hm.c52, hm.c53, hm.c54, hm.c55, hm.c56, hm.c57, hm.c58, hm.c59, hm.c60, hm.c61, hm.c62, hm.c63, hm.c64, hm.c65, hm.c66, hm.c67, hm.c68, hm.c69, hm.c70, hm.c71, hm.c72, hm.c73, hm.c74, hm.c75, hm.c76, hm.c77, aT, inR, tw_e]
  have hm0 := hm
  have hm := hw
  by_cases c1 : 0 ≤ u ∧ u < S 0 0 0
  · rw [brt c1] at q
    by_cases c2 : nt S k ∧ S 12 k 0 ≠ 2
    · rw [brt c2] at q
      obtain ⟨hk, hg⟩ := c2
      have hk1 := hk.1
      have hk2 := hk.2
      have c2 : nt S k ∧ S 12 k 0 ≠ 2 := ⟨hk, hg⟩
      have hs := (iv.2.2.1.2.1 k hk).2.2.2.1
      by_cases c4 : SE S u (S 1 u 0) (S 11 k 0)
      · have c41 : 1 ≤ S 1 u 0 := c4.1
        by_cases c3 : S 8 k 0 = u ∨ S 1 u 0 = 4
        · by_cases c5 : S 12 k 0 = 0
          · rw [brt ⟨⟨c3, c4⟩, c5⟩] at q
            have w := hw.wA hi 12 (by omega) (by omega) (by omega) k 1
            have i2 := inv_st iv hk (x := 1) (.inr (.inl rfl)) hg (fun z => by omega)
            have goal2 : WP 116 79 [some (zr (some (a 100 0))), some (zi u), some (zi k), some (zi 0), some (zi k)] [] (pI (tw a h 0) (a 112 0) k 1) Q :=
              m_rmL (a := a) (Q := Q) hi (tw a h 0) u k (Srem S k) (Nrem S k) (fun g hm2 fm gc gs => by
                have gc : gC g = gC h := gc
                have gs : gS g = gS h := gs
                obtain ⟨em, t0⟩ := tw_FM hi fm (by omega) (by omega)
                exact q a g hm2 t0 em) 61 (su S 12 k 0 1) k 0 _ (by omega) (.inr hk) (Int.le_refl _) (by omega) w i2 (FM.I hi (by omega) (by omega) (by omega)) rfl rfl rfl (Int.zero_add _)
            by_cases c6 : S 8 k 0 = u
            · simp (disch := first | assumption | omega) only [b_116_5, b_116_10, b_116_13, b_116_18, b_116_27, b_116_40, b_116_45, b_116_48, b_116_51, b_116_67, b_116_74, kont_v, kont_n, kont_x, Nat.reduceAdd, ad_some, kd_some, ixa, and_true, true_and, and_self, eq_self, ne_eq, brT, brF, true_or, or_true, and_imp, hm.c0, hm.c1, hm.c2, hm.c3, hm.c4, hm.c5, hm.c6, hm.c7, hm.c8, hm.c9, hm.c10, hm.c11, hm.c12, hm.c13, hm.c14, hm.c15, hm.c16, hm.c17, hm.c18, hm.c19, hm.c20, hm.c21, hm.c22, hm.c23, hm.c24, hm.c25, hm.c26, hm.c27, hm.c28, hm.c29, hm.c30, hm.c31, hm.c32, hm.c33, hm.c34, hm.c35, hm.c36, hm.c37, hm.c38, hm.c39, hm.c40, hm.c41, hm.c42, hm.c43, hm.c44, hm.c45, hm.c46, hm.c47, hm.c48, hm.c49, hm.c50, hm.c51, hm.c52, hm.c53, hm.c54, hm.c55, hm.c56, hm.c57, hm.c58, hm.c59, hm.c60, hm.c61, hm.c62, hm.c63, hm.c64, hm.c65, hm.c66, hm.c67, hm.c68, hm.c69, hm.c70, hm.c71, hm.c72, hm.c73, hm.c74, hm.c75, hm.c76, hm.c77, aT, inR, m_isUser hm iv, m_isNote hm iv, m_isIn, m_may hm iv, m_text hm iv, m_no hm iv, m_isNot hm iv, brt, brf, b2iT, b2iF, b2i_0, brN, brT, brF, brS, Classical.not_not, not_true_eq_false, not_false_eq_true, b2i_t, b2i_f, one_ne0, zz01, oz01, and_false, false_and, or_self, gK_pI, gL_pI, gR_pI, gI_pI, hi, reduceCtorEq, Nat.reduceEqDiff, Int.reduceEq, if_true, if_false, c6, c5]
              exact goal2
            · simp (disch := first | assumption | omega) only [b_116_5, b_116_10, b_116_13, b_116_18, b_116_27, b_116_44, b_116_45, b_116_48, b_116_51, b_116_67, b_116_74, kont_v, kont_n, kont_x, Nat.reduceAdd, ad_some, kd_some, ixa, and_true, true_and, and_self, eq_self, ne_eq, brT, brF, true_or, or_true, and_imp, hm.c0, hm.c1, hm.c2, hm.c3, hm.c4, hm.c5, hm.c6, hm.c7, hm.c8, hm.c9, hm.c10, hm.c11, hm.c12, hm.c13, hm.c14, hm.c15, hm.c16, hm.c17, hm.c18, hm.c19, hm.c20, hm.c21, hm.c22, hm.c23, hm.c24, hm.c25, hm.c26, hm.c27, hm.c28, hm.c29, hm.c30, hm.c31, hm.c32, hm.c33, hm.c34, hm.c35, hm.c36, hm.c37, hm.c38, hm.c39, hm.c40, hm.c41, hm.c42, hm.c43, hm.c44, hm.c45, hm.c46, hm.c47, hm.c48, hm.c49, hm.c50, hm.c51, hm.c52, hm.c53, hm.c54, hm.c55, hm.c56, hm.c57, hm.c58, hm.c59, hm.c60, hm.c61, hm.c62, hm.c63, hm.c64, hm.c65, hm.c66, hm.c67, hm.c68, hm.c69, hm.c70, hm.c71, hm.c72, hm.c73, hm.c74, hm.c75, hm.c76, hm.c77, aT, inR, m_isUser hm iv, m_isNote hm iv, m_isIn, m_may hm iv, m_text hm iv, m_no hm iv, m_isNot hm iv, brt, brf, b2iT, b2iF, b2i_0, brN, brT, brF, brS, Classical.not_not, not_true_eq_false, not_false_eq_true, b2i_t, b2i_f, one_ne0, zz01, oz01, and_false, false_and, or_self, gK_pI, gL_pI, gR_pI, gI_pI, hi, reduceCtorEq, Nat.reduceEqDiff, Int.reduceEq, if_true, if_false, c5]
              exact goal2
          · rw [brf (fun z => c5 z.2)] at q
            have q := q.tw2 (x := 0) hi hm0
            by_cases c6 : S 8 k 0 = u
            · simp (disch := first | assumption | omega) only [b_116_5, b_116_10, b_116_13, b_116_18, b_116_21, b_116_26, b_116_27, b_116_40, b_116_44, b_116_45, b_116_48, b_116_51, b_116_61, b_116_66, b_116_67, b_116_74, b_116_79, b_116_85, b_116_96, b_116_102, b_116_105, b_116_113, b_116_128, kont_v, kont_n, kont_x, Nat.reduceAdd, ad_some, kd_some, ixa, and_true, true_and, and_self, eq_self, ne_eq, brT, brF, true_or, or_true, and_imp, hm.c0, hm.c1, hm.c2, hm.c3, hm.c4, hm.c5, hm.c6, hm.c7, hm.c8, hm.c9, hm.c10, hm.c11, hm.c12, hm.c13, hm.c14, hm.c15, hm.c16, hm.c17, hm.c18, hm.c19, hm.c20, hm.c21, hm.c22, hm.c23, hm.c24, hm.c25, hm.c26, hm.c27, hm.c28, hm.c29, hm.c30, hm.c31, hm.c32, hm.c33, hm.c34, hm.c35, hm.c36, hm.c37, hm.c38, hm.c39, hm.c40, hm.c41, hm.c42, hm.c43, hm.c44, hm.c45, hm.c46, hm.c47, hm.c48, hm.c49, hm.c50, hm.c51, hm.c52, hm.c53, hm.c54, hm.c55, hm.c56, hm.c57, hm.c58, hm.c59, hm.c60, hm.c61, hm.c62, hm.c63, hm.c64, hm.c65, hm.c66, hm.c67, hm.c68, hm.c69, hm.c70, hm.c71, hm.c72, hm.c73, hm.c74, hm.c75, hm.c76, hm.c77, aT, inR, m_isUser hm iv, m_isNote hm iv, m_isIn, m_may hm iv, m_text hm iv, m_no hm iv, m_isNot hm iv, brt, brf, b2iT, b2iF, b2i_0, brN, brT, brF, brS, Classical.not_not, not_true_eq_false, not_false_eq_true, b2i_t, b2i_f, one_ne0, zz01, oz01, and_false, false_and, or_self, gK_pI, gL_pI, gR_pI, gI_pI, hi, reduceCtorEq, Nat.reduceEqDiff, Int.reduceEq, if_true, if_false, c6]
              exact q
            · simp (disch := first | assumption | omega) only [b_116_5, b_116_10, b_116_13, b_116_18, b_116_21, b_116_26, b_116_27, b_116_40, b_116_44, b_116_45, b_116_48, b_116_51, b_116_61, b_116_66, b_116_67, b_116_74, b_116_79, b_116_85, b_116_96, b_116_102, b_116_105, b_116_113, b_116_128, kont_v, kont_n, kont_x, Nat.reduceAdd, ad_some, kd_some, ixa, and_true, true_and, and_self, eq_self, ne_eq, brT, brF, true_or, or_true, and_imp, hm.c0, hm.c1, hm.c2, hm.c3, hm.c4, hm.c5, hm.c6, hm.c7, hm.c8, hm.c9, hm.c10, hm.c11, hm.c12, hm.c13, hm.c14, hm.c15, hm.c16, hm.c17, hm.c18, hm.c19, hm.c20, hm.c21, hm.c22, hm.c23, hm.c24, hm.c25, hm.c26, hm.c27, hm.c28, hm.c29, hm.c30, hm.c31, hm.c32, hm.c33, hm.c34, hm.c35, hm.c36, hm.c37, hm.c38, hm.c39, hm.c40, hm.c41, hm.c42, hm.c43, hm.c44, hm.c45, hm.c46, hm.c47, hm.c48, hm.c49, hm.c50, hm.c51, hm.c52, hm.c53, hm.c54, hm.c55, hm.c56, hm.c57, hm.c58, hm.c59, hm.c60, hm.c61, hm.c62, hm.c63, hm.c64, hm.c65, hm.c66, hm.c67, hm.c68, hm.c69, hm.c70, hm.c71, hm.c72, hm.c73, hm.c74, hm.c75, hm.c76, hm.c77, aT, inR, m_isUser hm iv, m_isNote hm iv, m_isIn, m_may hm iv, m_text hm iv, m_no hm iv, m_isNot hm iv, brt, brf, b2iT, b2iF, b2i_0, brN, brT, brF, brS, Classical.not_not, not_true_eq_false, not_false_eq_true, b2i_t, b2i_f, one_ne0, zz01, oz01, and_false, false_and, or_self, gK_pI, gL_pI, gR_pI, gI_pI, hi, reduceCtorEq, Nat.reduceEqDiff, Int.reduceEq, if_true, if_false]
              exact q
        · rw [brf (fun z => c3 z.1.1)] at q
          have q := q.tw2 (x := 0) hi hm0
          have c6 : ¬ S 8 k 0 = u := fun z => c3 (.inl z)
          have c7 : ¬ S 1 u 0 = 4 := fun z => c3 (.inr z)
          simp (disch := first | assumption | omega) only [b_116_5, b_116_10, b_116_13, b_116_18, b_116_21, b_116_26, b_116_27, b_116_40, b_116_44, b_116_45, b_116_48, b_116_51, b_116_61, b_116_66, b_116_67, b_116_74, b_116_79, b_116_85, b_116_96, b_116_102, b_116_105, b_116_113, b_116_128, kont_v, kont_n, kont_x, Nat.reduceAdd, ad_some, kd_some, ixa, and_true, true_and, and_self, eq_self, ne_eq, brT, brF, true_or, or_true, and_imp, hm.c0, hm.c1, hm.c2, hm.c3, hm.c4, hm.c5, hm.c6, hm.c7, hm.c8, hm.c9, hm.c10, hm.c11, hm.c12, hm.c13, hm.c14, hm.c15, hm.c16, hm.c17, hm.c18, hm.c19, hm.c20, hm.c21, hm.c22, hm.c23, hm.c24, hm.c25, hm.c26, hm.c27, hm.c28, hm.c29, hm.c30, hm.c31, hm.c32, hm.c33, hm.c34, hm.c35, hm.c36, hm.c37, hm.c38, hm.c39, hm.c40, hm.c41, hm.c42, hm.c43, hm.c44, hm.c45, hm.c46, hm.c47, hm.c48, hm.c49, hm.c50, hm.c51, hm.c52, hm.c53, hm.c54, hm.c55, hm.c56, hm.c57, hm.c58, hm.c59, hm.c60, hm.c61, hm.c62, hm.c63, hm.c64, hm.c65, hm.c66, hm.c67, hm.c68, hm.c69, hm.c70, hm.c71, hm.c72, hm.c73, hm.c74, hm.c75, hm.c76, hm.c77, aT, inR, m_isUser hm iv, m_isNote hm iv, m_isIn, m_may hm iv, m_text hm iv, m_no hm iv, m_isNot hm iv, brt, brf, b2iT, b2iF, b2i_0, brN, brT, brF, brS, Classical.not_not, not_true_eq_false, not_false_eq_true, b2i_t, b2i_f, one_ne0, zz01, oz01, and_false, false_and, or_self, gK_pI, gL_pI, gR_pI, gI_pI, hi, reduceCtorEq, Nat.reduceEqDiff, Int.reduceEq, if_true, if_false]
          exact q
      · rw [brf (fun z => c4 z.1.2)] at q
        have q := q.tw2 (x := 0) hi hm0
        by_cases c6 : S 8 k 0 = u
        · simp (disch := first | assumption | omega) only [b_116_5, b_116_10, b_116_13, b_116_18, b_116_21, b_116_26, b_116_27, b_116_40, b_116_44, b_116_45, b_116_48, b_116_51, b_116_61, b_116_66, b_116_67, b_116_74, b_116_79, b_116_85, b_116_96, b_116_102, b_116_105, b_116_113, b_116_128, kont_v, kont_n, kont_x, Nat.reduceAdd, ad_some, kd_some, ixa, and_true, true_and, and_self, eq_self, ne_eq, brT, brF, true_or, or_true, and_imp, hm.c0, hm.c1, hm.c2, hm.c3, hm.c4, hm.c5, hm.c6, hm.c7, hm.c8, hm.c9, hm.c10, hm.c11, hm.c12, hm.c13, hm.c14, hm.c15, hm.c16, hm.c17, hm.c18, hm.c19, hm.c20, hm.c21, hm.c22, hm.c23, hm.c24, hm.c25, hm.c26, hm.c27, hm.c28, hm.c29, hm.c30, hm.c31, hm.c32, hm.c33, hm.c34, hm.c35, hm.c36, hm.c37, hm.c38, hm.c39, hm.c40, hm.c41, hm.c42, hm.c43, hm.c44, hm.c45, hm.c46, hm.c47, hm.c48, hm.c49, hm.c50, hm.c51, hm.c52, hm.c53, hm.c54, hm.c55, hm.c56, hm.c57, hm.c58, hm.c59, hm.c60, hm.c61, hm.c62, hm.c63, hm.c64, hm.c65, hm.c66, hm.c67, hm.c68, hm.c69, hm.c70, hm.c71, hm.c72, hm.c73, hm.c74, hm.c75, hm.c76, hm.c77, aT, inR, m_isUser hm iv, m_isNote hm iv, m_isIn, m_may hm iv, m_text hm iv, m_no hm iv, m_isNot hm iv, brt, brf, b2iT, b2iF, b2i_0, brN, brT, brF, brS, Classical.not_not, not_true_eq_false, not_false_eq_true, b2i_t, b2i_f, one_ne0, zz01, oz01, and_false, false_and, or_self, gK_pI, gL_pI, gR_pI, gI_pI, hi, reduceCtorEq, Nat.reduceEqDiff, Int.reduceEq, if_true, if_false, c6]
          rw [brf (fun z => c4 z.2)]
          exact q
        · simp (disch := first | assumption | omega) only [b_116_5, b_116_10, b_116_13, b_116_18, b_116_21, b_116_26, b_116_27, b_116_40, b_116_44, b_116_45, b_116_48, b_116_51, b_116_61, b_116_66, b_116_67, b_116_74, b_116_79, b_116_85, b_116_96, b_116_102, b_116_105, b_116_113, b_116_128, kont_v, kont_n, kont_x, Nat.reduceAdd, ad_some, kd_some, ixa, and_true, true_and, and_self, eq_self, ne_eq, brT, brF, true_or, or_true, and_imp, hm.c0, hm.c1, hm.c2, hm.c3, hm.c4, hm.c5, hm.c6, hm.c7, hm.c8, hm.c9, hm.c10, hm.c11, hm.c12, hm.c13, hm.c14, hm.c15, hm.c16, hm.c17, hm.c18, hm.c19, hm.c20, hm.c21, hm.c22, hm.c23, hm.c24, hm.c25, hm.c26, hm.c27, hm.c28, hm.c29, hm.c30, hm.c31, hm.c32, hm.c33, hm.c34, hm.c35, hm.c36, hm.c37, hm.c38, hm.c39, hm.c40, hm.c41, hm.c42, hm.c43, hm.c44, hm.c45, hm.c46, hm.c47, hm.c48, hm.c49, hm.c50, hm.c51, hm.c52, hm.c53, hm.c54, hm.c55, hm.c56, hm.c57, hm.c58, hm.c59, hm.c60, hm.c61, hm.c62, hm.c63, hm.c64, hm.c65, hm.c66, hm.c67, hm.c68, hm.c69, hm.c70, hm.c71, hm.c72, hm.c73, hm.c74, hm.c75, hm.c76, hm.c77, aT, inR, m_isUser hm iv, m_isNote hm iv, m_isIn, m_may hm iv, m_text hm iv, m_no hm iv, m_isNot hm iv, brt, brf, b2iT, b2iF, b2i_0, brN, brT, brF, brS, Classical.not_not, not_true_eq_false, not_false_eq_true, b2i_t, b2i_f, one_ne0, zz01, oz01, and_false, false_and, or_self, gK_pI, gL_pI, gR_pI, gI_pI, hi, reduceCtorEq, Nat.reduceEqDiff, Int.reduceEq, if_true, if_false]
          rw [brf (fun z => c4 z.2)]
          exact q
    · rw [brf c2] at q
      have q := q.tw2 (x := 0) hi hm0
      simp (disch := first | assumption | omega) only [b_116_5, b_116_10, b_116_13, b_116_18, b_116_21, b_116_26, b_116_27, b_116_40, b_116_44, b_116_45, b_116_48, b_116_51, b_116_61, b_116_66, b_116_67, b_116_74, b_116_79, b_116_85, b_116_96, b_116_102, b_116_105, b_116_113, b_116_128, kont_v, kont_n, kont_x, Nat.reduceAdd, ad_some, kd_some, ixa, and_true, true_and, and_self, eq_self, ne_eq, brT, brF, true_or, or_true, and_imp, hm.c0, hm.c1, hm.c2, hm.c3, hm.c4, hm.c5, hm.c6, hm.c7, hm.c8, hm.c9, hm.c10, hm.c11, hm.c12, hm.c13, hm.c14, hm.c15, hm.c16, hm.c17, hm.c18, hm.c19, hm.c20, hm.c21, hm.c22, hm.c23, hm.c24, hm.c25, hm.c26, hm.c27, hm.c28, hm.c29, hm.c30, hm.c31, hm.c32, hm.c33, hm.c34, hm.c35, hm.c36, hm.c37, hm.c38, hm.c39, hm.c40, hm.c41, hm.c42, hm.c43, hm.c44, hm.c45, hm.c46, hm.c47, hm.c48, hm.c49, hm.c50, hm.c51, hm.c52, hm.c53, hm.c54, hm.c55, hm.c56, hm.c57, hm.c58, hm.c59, hm.c60, hm.c61, hm.c62, hm.c63, hm.c64, hm.c65, hm.c66, hm.c67, hm.c68, hm.c69, hm.c70, hm.c71, hm.c72, hm.c73, hm.c74, hm.c75, hm.c76, hm.c77, aT, inR, m_isUser hm iv, m_isNote hm iv, m_isIn, m_may hm iv, m_text hm iv, m_no hm iv, m_isNot hm iv, brt, brf, b2iT, b2iF, b2i_0, brN, brT, brF, brS, Classical.not_not, not_true_eq_false, not_false_eq_true, b2i_t, b2i_f, one_ne0, zz01, oz01, and_false, false_and, or_self, gK_pI, gL_pI, gR_pI, gI_pI, hi, reduceCtorEq, Nat.reduceEqDiff, Int.reduceEq, if_true, if_false]
      exact q
  · rw [brf c1] at q
    have q := q.tw2 (x := 0) hi hm0
    simp (disch := first | assumption | omega) only [b_116_5, b_116_10, b_116_13, b_116_18, b_116_21, b_116_26, b_116_27, b_116_40, b_116_44, b_116_45, b_116_48, b_116_51, b_116_61, b_116_66, b_116_67, b_116_74, b_116_79, b_116_85, b_116_96, b_116_102, b_116_105, b_116_113, b_116_128, kont_v, kont_n, kont_x, Nat.reduceAdd, ad_some, kd_some, ixa, and_true, true_and, and_self, eq_self, ne_eq, brT, brF, true_or, or_true, and_imp, hm.c0, hm.c1, hm.c2, hm.c3, hm.c4, hm.c5, hm.c6, hm.c7, hm.c8, hm.c9, hm.c10, hm.c11, hm.c12, hm.c13, hm.c14, hm.c15, hm.c16, hm.c17, hm.c18, hm.c19, hm.c20, hm.c21, hm.c22, hm.c23, hm.c24, hm.c25, hm.c26, hm.c27, hm.c28, hm.c29, hm.c30, hm.c31, hm.c32, hm.c33, hm.c34, hm.c35, hm.c36, hm.c37, hm.c38, hm.c39, hm.c40, hm.c41, hm.c42, hm.c43, hm.c44, hm.c45, hm.c46, hm.c47, hm.c48, hm.c49, hm.c50, hm.c51, hm.c52, hm.c53, hm.c54, hm.c55, hm.c56, hm.c57, hm.c58, hm.c59, hm.c60, hm.c61, hm.c62, hm.c63, hm.c64, hm.c65, hm.c66, hm.c67, hm.c68, hm.c69, hm.c70, hm.c71, hm.c72, hm.c73, hm.c74, hm.c75, hm.c76, hm.c77, aT, inR, m_isUser hm iv, m_isNote hm iv, m_isIn, m_may hm iv, m_text hm iv, m_no hm iv, m_isNot hm iv, brt, brf, b2iT, b2iF, b2i_0, brN, brT, brF, brS, Classical.not_not, not_true_eq_false, not_false_eq_true, b2i_t, b2i_f, one_ne0, zz01, oz01, and_false, false_and, or_self, gK_pI, gL_pI, gR_pI, gI_pI, hi, reduceCtorEq, Nat.reduceEqDiff, Int.reduceEq, if_true, if_false]
    exact q
end
