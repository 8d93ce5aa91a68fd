/-! note, reply OF THE REFERENCE: the calls -/
def Sn1 (S : St) (f t v : Int) : St := su (su (su (su S 13 (S 7 0 0) 0 f) 14 (S 7 0 0) 0 t) 15 (S 7 0 0) 0 v) 16 (S 7 0 0) 0 (-1)
section
variable {a : Na} {S : St} {h : Zh} {Q : Zp}
theorem nnt (S : St) : ¬ nt S (S 7 0 0) := fun z => by have := z.2; omega
theorem m_ntL (hi : Ij a) (iv : Inv S) (u f t v c n : Int) (h60 : S 7 0 0 < 60) (hf : 0 ≤ f ∧ f < t ∧ t ≤ S 3 (S 2 0 0) 0) (hn : n = if t - f < 12 then t - f else 12) (hQ : ∀ g, RepM a (Snote S u f t v c) g → FM a h a g → gC g = gC h → gS g = gS h → Q (.inl (some (zi (S 7 0 0)))) g) (m : Nat) :
    ∀ (i : Int) (g : Zh), m = (n - i).toNat → 0 ≤ i → RepM a (Sn1 S f t v) g → FM a h a g → gC g = gC h → gS g = gS h → gR g (a 119 0) (S 7 0 0) = some (a 151 (S 7 0 0)) → gK g (a 151 (S 7 0 0)) = 10 → gL g (a 151 (S 7 0 0)) = n → (∀ j, 0 ≤ j → j < i → gI g (a 151 (S 7 0 0)) j = S 5 (S 4 (S 2 0 0) (f + j)) 0) →
      WP 112 153 [some (zr (some (a 100 0))), some (zi u), some (zi f), some (zi t), some (zi v), some (zi c), some (zi i)] [] g Q := by
  obtain ⟨u0, u1⟩ := iv.2.1.1
  obtain ⟨u2, u3⟩ := iv.2.1.2.1 (S 2 0 0) u0 (Int.le_refl _)
  have u4 := Int.le_refl (S 2 0 0)
  have bn := iv.2.2.1.1
  have e7 : Sn1 S f t v 7 0 0 = S 7 0 0 := rfl
  have e2 : Sn1 S f t v 2 0 0 = S 2 0 0 := rfl
  have e6 : Sn1 S f t v 6 0 0 = S 6 0 0 := rfl
  have e3 : Sn1 S f t v 3 (S 2 0 0) 0 = S 3 (S 2 0 0) 0 := rfl
  have nn := nnt S
  induction m with
  | zero =>
    intro i g e1 e22 hm fr gc gs r19 kq lq row
    have hm4 := (((hm.wA hi 8 (by omega) (by omega) (by omega) (S 7 0 0) u).wA hi 9 (by omega) (by omega) (by omega) (S 7 0 0) c).wA hi 10 (by omega) (by omega) (by omega) (S 7 0 0) (-1)).wHead hi (S 7 0 0) (S 7 0 0) nn
    have w := RepM.addN (T := Snote S u f t v c) hi hm4 (NN_7 ..) (fun k x j h1 h2 h3 => Snote_e S u f t v c k x j h1 h2 h3) (fun _ => ⟨r19, kq, lq.trans (hn.trans (NN_n S (wH S u f t v c) _ 19 (by omega)).symm), fun i j1 j2 => ?_⟩)
    · have fin := hQ _ w (fr.trans ((FM.I hi (by omega) (by omega) (by omega)).trans ((FM.I hi (by omega) (by omega) (by omega)).trans ((FM.I hi (by omega) (by omega) (by omega)).trans ((FM.I hi (by omega) (by omega) (by omega)).trans (FM.I hi (by omega) (by omega) (by omega))))))) gc gs
      have ma := m_add0 (Q := kont WP 112 205 [some (zr (some (a 100 0))), some (zi u), some (zi f), some (zi t), some (zi v), some (zi c), some (zi i)] [] [] Q) hi hm ⟨bn.1, h60⟩ u c
      rw [e7] at ma
      rw [b_112_153]
      simp (disch := first | assumption | omega) only [b_112_200, b_112_208, kont_v, kont_n, kont_x, Nat.reduceAdd, ad_some, kd_some, ixa, and_true, true_and, and_self, eq_self, ne_eq, brT, brF, true_or, or_true, and_imp, hm.c0, hm.c1, hm.c2, hm.c3, hm.c4, hm.c5, hm.c6, hm.c7, hm.c8, hm.c9, hm.c10, hm.c11, hm.c12, hm.c13, hm.c14, hm.c15, hm.c16, hm.c17, hm.c18, hm.c19, hm.c20, hm.c21, hm.c22, hm.c23, hm.c24, hm.c25, hm.c26, hm.c27, hm.c28, hm.c29, hm.c30, hm.c31, hm.c32, hm.c33, hm.c34, hm.c35, hm.c36, hm.c37, hm.c38, hm.c39, hm.c40, hm.c41, hm.c42, hm.c43, hm.c44, hm.c45, hm.c46, hm.c47, hm.c48, hm.c49, hm.c50, hm.c51, hm.c52, hm.c53, hm.c54, hm.c55, hm.c56, hm.c57, hm.c58, hm.c59, hm.c60, hm.c61, hm.c62, hm.c63, hm.c64, hm.c65, hm.c66, hm.c67, hm.c68, hm.c69, hm.c70, hm.c71, hm.c72, hm.c73, hm.c74, hm.c75, hm.c76, hm.c77, aT, inR, e7, r19, kq, lq, brt, ma]
      exact fin
    · have s4 : sm g (pI (pI (pI (pI g (a (100 + 8) 0) (S 7 0 0) u) (a (100 + 9) 0) (S 7 0 0) c) (a (100 + 10) 0) (S 7 0 0) (-1)) (a 111 0) (S 7 0 0) (S 7 0 0)) (a 151 (S 7 0 0)) := (smI hi (by omega)).trans ((smI hi (by omega)).trans ((smI hi (by omega)).trans (smI hi (by omega))))
      refine (s4.2.2.1 i).trans ?_
      show _ = NN S _ _ 20 (S 7 0 0) i
      rw [NN_20]
      have j2 : i < NN S (wH S u f t v c) (fun j => S 5 (S 4 (S 2 0 0) (f + j)) 0) 19 (S 7 0 0) 0 := j2
      rw [NN_n _ _ _ _ (by omega)] at j2
      have j2 : i < (if t - f < 12 then t - f else 12) := j2
      exact row i j1 (by omega)
  | succ m ih =>
    intro i g e1 e22 hm fr gc gs r19 kq lq row
    have n12 : n ≤ 12 := by split at hn <;> omega
    have ntf : n ≤ t - f := by split at hn <;> omega
    obtain ⟨p0, p1⟩ := iv.2.1.2.2.2.1 (S 2 0 0) (f + i) u0 u4 (by omega) (by omega)
    have r150 : gR g (a 105 0) (S 2 0 0) = some (a 150 (S 2 0 0)) := hm.V.2.2.1 (S 2 0 0) u0 u4
    have k150 : gK g (a 150 (S 2 0 0)) = 10 := hm.V.2.2.2.1 (S 2 0 0) u0 u4
    have l150 : gL g (a 150 (S 2 0 0)) = S 3 (S 2 0 0) 0 := hm.V.2.2.2.2.1 (S 2 0 0) u0 u4
    have i150 : gI g (a 150 (S 2 0 0)) (f + i) = S 4 (S 2 0 0) (f + i) := hm.V.2.2.2.2.2 (S 2 0 0) (f + i) u0 u4 (by omega) (by show f + i < S 3 (S 2 0 0) 0; omega)
    have e4 : Sn1 S f t v 4 (S 2 0 0) (f + i) = S 4 (S 2 0 0) (f + i) := rfl
    have l104 : S 6 0 0 ≤ gL g (a 104 0) := hm.S'.2.1
    have i104 : gI g (a 104 0) (S 4 (S 2 0 0) (f + i)) = S 5 (S 4 (S 2 0 0) (f + i)) 0 := hm.S'.2.2 _ p0 p1
    have nl : ¬ LvM (Sn1 S f t v) 151 (S 7 0 0) := fun z => by
      rcases z with z | z | z
      · omega
      · omega
      · exact nn z.2.1
    rw [b_112_153]
    simp (disch := first | assumption | omega) only [b_112_168, b_112_187, b_112_194, b_97_0, kont_v, kont_n, kont_x, Nat.reduceAdd, ad_some, kd_some, ixa, and_true, true_and, and_self, eq_self, ne_eq, brT, brF, true_or, or_true, and_imp, hm.c0, hm.c1, hm.c2, hm.c3, hm.c4, hm.c5, hm.c6, hm.c7, hm.c8, hm.c9, hm.c10, hm.c11, hm.c12, hm.c13, hm.c14, hm.c15, hm.c16, hm.c17, hm.c18, hm.c19, hm.c20, hm.c21, hm.c22, hm.c23, hm.c24, hm.c25, hm.c26, hm.c27, hm.c28, hm.c29, hm.c30, hm.c31, hm.c32, hm.c33, hm.c34, hm.c35, hm.c36, hm.c37, hm.c38, hm.c39, hm.c40, hm.c41, hm.c42, hm.c43, hm.c44, hm.c45, hm.c46, hm.c47, hm.c48, hm.c49, hm.c50, hm.c51, hm.c52, hm.c53, hm.c54, hm.c55, hm.c56, hm.c57, hm.c58, hm.c59, hm.c60, hm.c61, hm.c62, hm.c63, hm.c64, hm.c65, hm.c66, hm.c67, hm.c68, hm.c69, hm.c70, hm.c71, hm.c72, hm.c73, hm.c74, hm.c75, hm.c76, hm.c77, aT, inR, e7, e2, e4, r19, kq, lq, r150, k150, l150, i150, i104, brf]
    refine ih (i + 1) _ (by omega) (by omega) (hm.wI hi ⟨u0, u1⟩ nl) (fr.trans (FM.I hi (by omega) (by omega) (by omega))) gc gs r19 kq lq (fun j j1 j2 => ?_)
    rw [gI_pI]
    by_cases d : j = i
    · rw [if_pos ⟨rfl, d⟩, d]; rfl
    · rw [if_neg (fun z => d z.2)]; exact row j j1 (by omega)
theorem m_note (hi : Ij a) (hm : RepM a S h) (iv : Inv S) (rc : gC h + 80 ≤ MXC) (rs : gS h + 5600 ≤ MXS) (u f t v c : Int) (k : br (0 ≤ u ∧ u < S 0 0 0) (br ((0 ≤ f ∧ f < t ∧ t ≤ S 3 (S 2 0 0) 0) ∧ (0 ≤ v ∧ v ≤ 2) ∧ 0 ≤ c ∧ c ≤ 999) (br (2 ≤ S 1 u 0 ∧ S 7 0 0 < 60) (MK a (Snote S u f t v c) h Q (zi (S 7 0 0)) 0) (MK a S h Q (zi 0) 3)) (MK a S h Q (zi 0) 2)) (MK a S h Q (zi 0) 1)) :
    WP 112 0 [some (zr (some (a 100 0))), some (zi u), some (zi f), some (zi t), some (zi v), some (zi c), none] [] h Q := by
  obtain ⟨u0, u1⟩ := iv.2.1.1
  obtain ⟨u2, u3⟩ := iv.2.1.2.1 (S 2 0 0) u0 (Int.le_refl _)
  have u4 := Int.le_refl (S 2 0 0)
  obtain ⟨w0, w1⟩ := iv.1.1
  have bn := iv.2.2.1.1
  have hw : RepM a S (tw a h 0) := hm.tw hi 0
  simp (disch := first | assumption | omega) only [b_112_0, kont_v, kont_n, kont_x, Nat.reduceAdd, ad_some, kd_some, ixa, and_true, true_and, and_self, eq_self, ne_eq, brT, brF, true_or, or_true, and_imp, hm.c0, hm.c1, hm.c2, hm.c3, hm.c4, hm.c5, hm.c6, hm.c7, hm.c8, hm.c9, hm.c10, hm.c11, hm.c12, hm.c13, hm.c14, hm.c15, hm.c16, hm.c17, hm.c18, hm.c19, hm.c20, hm.c21, hm.c22, hm.c23, hm.c24, hm.c25, hm.c26, hm.c27, hm.c28, hm.c29, hm.c30, hm.c31, hm.c32, hm.c33, hm.c34, hm.c35, hm.c36, hm.c37, hm.c38, hm.c39, hm.c40, hm.c41, hm.c42, hm.c43, hm.c44, hm.c45, hm.c46, hm.c47, hm.c48, hm.c49, hm.c50, hm.c51, hm.c52, hm.c53, hm.c54, hm.c55, hm.c56, hm.c57, hm.c58, hm.c59, hm.c60, hm.c61, hm.c62, hm.c63, hm.c64, hm.c65, hm.c66, hm.c67, hm.c68, hm.c69, hm.c70, hm.c71, hm.c72, hm.c73, hm.c74, hm.c75, hm.c76, hm.c77, aT, inR, tw_e]
  have hm0 := hm
  have hm := hw
  by_cases c1 : 0 ≤ u ∧ u < S 0 0 0
  · rw [brt c1] at k
    by_cases c2 : 0 ≤ f ∧ f < t ∧ t ≤ S 3 (S 2 0 0) 0
    · by_cases c3 : 0 ≤ v ∧ v ≤ 2
      · by_cases c4 : 0 ≤ c ∧ c ≤ 999
        · rw [brt ⟨c2, c3, c4⟩] at k
          by_cases c5 : 2 ≤ S 1 u 0
          · by_cases c6 : S 7 0 0 < 60
            · rw [brt ⟨c5, c6⟩] at k
              have hm1 := (((hw.wA hi 13 (by omega) (by omega) (by omega) (S 7 0 0) f).wA hi 14 (by omega) (by omega) (by omega) (S 7 0 0) t).wA hi 15 (by omega) (by omega) (by omega) (S 7 0 0) v).wA hi 16 (by omega) (by omega) (by omega) (S 7 0 0) (-1)
              have hm1 : RepM a (Sn1 S f t v) _ := hm1
              have fm1 : FM a (tw a h 0) a (pI (pI (pI (pI (tw a h 0) (a 113 0) (S 7 0 0) f) (a 114 0) (S 7 0 0) t) (a 115 0) (S 7 0 0) v) (a 116 0) (S 7 0 0) (-1)) := (FM.I hi (by omega) (by omega) (by omega)).trans ((FM.I hi (by omega) (by omega) (by omega)).trans ((FM.I hi (by omega) (by omega) (by omega)).trans (FM.I hi (by omega) (by omega) (by omega))))
              simp (disch := first | assumption | omega) only [b_112_5, b_112_10, b_112_13, b_112_18, b_112_19, b_112_23, b_112_28, b_112_33, b_112_37, b_112_44, b_112_47, b_112_56, b_112_59, b_112_64, b_112_65, b_112_75, b_112_84, b_112_89, b_112_90, b_112_100, b_112_110, b_112_121, kont_v, kont_n, kont_x, Nat.reduceAdd, ad_some, kd_some, ixa, and_true, true_and, and_self, eq_self, ne_eq, brT, brF, true_or, or_true, and_imp, hm.c0, hm.c1, hm.c2, hm.c3, hm.c4, hm.c5, hm.c6, hm.c7, hm.c8, hm.c9, hm.c10, hm.c11, hm.c12, hm.c13, hm.c14, hm.c15, hm.c16, hm.c17, hm.c18, hm.c19, hm.c20, hm.c21, hm.c22, hm.c23, hm.c24, hm.c25, hm.c26, hm.c27, hm.c28, hm.c29, hm.c30, hm.c31, hm.c32, hm.c33, hm.c34, hm.c35, hm.c36, hm.c37, hm.c38, hm.c39, hm.c40, hm.c41, hm.c42, hm.c43, hm.c44, hm.c45, hm.c46, hm.c47, hm.c48, hm.c49, hm.c50, hm.c51, hm.c52, hm.c53, hm.c54, hm.c55, hm.c56, hm.c57, hm.c58, hm.c59, hm.c60, hm.c61, hm.c62, hm.c63, hm.c64, hm.c65, hm.c66, hm.c67, hm.c68, hm.c69, hm.c70, hm.c71, hm.c72, hm.c73, hm.c74, hm.c75, hm.c76, hm.c77, aT, inR, m_isUser hm iv, m_isNote hm iv, m_isIn, m_may hm iv, m_text hm iv, m_no hm iv, m_isNot hm iv, brt, brf, b2iT, b2iF, b2i_0, brN, brT, brF, brS, Classical.not_not, not_true_eq_false, not_false_eq_true, b2i_t, b2i_f, one_ne0, zz01, oz01, and_false, false_and, or_self, gK_pI, gL_pI, gR_pI, gI_pI, hi, reduceCtorEq, Nat.reduceEqDiff, Int.reduceEq, if_true, if_false]
              revert hm1 fm1
              generalize hg1 : pI (pI (pI (pI (tw a h 0) (a 113 0) (S 7 0 0) f) (a 114 0) (S 7 0 0) t) (a 115 0) (S 7 0 0) v) (a 116 0) (S 7 0 0) (-1) = g1
              intro hm1 fm1
              have gc1 : gC g1 = gC h := by rw [← hg1]; rfl
              have gs1 : gS g1 = gS h := by rw [← hg1]; rfl
              clear hg1
              have b1 : 0 ≤ (if t - f < 12 then t - f else 12) ∧ (if t - f < 12 then t - f else 12) ≤ 12 := by split <;> omega
              have A1 := hm1.A
              have g7 : gI g1 (a 100 0) 7 = S 7 0 0 := A1.2.2.2.2.1
              have r19 : gR g1 (a 100 0) 19 = some (a 119 0) := hm1.c19
              rw [b_112_131]
              simp (disch := first | assumption | omega) only [A1.1, g7, r19, ad_some, kd_some, true_and, aT, inR]
              have nl : ¬ LvM (Sn1 S f t v) 151 (S 7 0 0) := fun z => by
                rcases z with z | z | z
                · omega
                · omega
                · exact nnt S z.2.1
              refine newM (S := Sn1 S f t v) hi hm1 ⟨u0, u1⟩ 151 (S 7 0 0) _ 10 (by omega) (by omega) nl (G := fun q g => WP 112 149 [some (zr (some (a 100 0))), some (zi u), some (zi f), some (zi t), some (zi v), some (zi c), none] [zr (some q), zi (S 7 0 0), zr (some (a 119 0))] g Q) (fun b g ib hmb fm gc gs kq lq liv => ?_)
              have e119 := (liv 119 0 (by rw [hm1.Q.1]; omega) (by omega)).1
              rw [← fm.2.2.2, ← e119, b_112_149]
              refine ⟨⟨⟨(kd_some _ _ _).mpr hmb.Q.1, bn.1, by rw [ad_some, hmb.Q.2.1]; exact c6⟩, (kd_some _ _ _).mpr kq⟩, ?_⟩
              rw [b_112_150, ad_some]
              have nh : ¬ hd (Sn1 S f t v) (S 7 0 0) := fun z => nnt S z.1
              have sk : gS g ≤ gS g1 + 12 := by rw [gs]; omega
              refine m_ntL (h := pR g (b 119 0) (S 7 0 0) (some (b 151 (S 7 0 0)))) ib iv u f t v c _ c6 c2 rfl (fun g3 hm3 fm3 gc3 gs3 => ?_) (if t - f < 12 then t - f else 12).toNat 0 _ (by omega) (Int.le_refl _) (hmb.wQ ib _ _ nh) (FM.rfl' ib) rfl rfl (by rw [gR_pR, if_pos ⟨rfl, rfl⟩]) kq lq (fun j j1 j2 => by omega)
              have gc3 : gC g3 = gC g := gc3
              have gs3 : gS g3 = gS g := gs3
              obtain ⟨em, t0⟩ := tw_FM hi (fm1.trans (fm.trans ((FM.R ib (by omega) (by omega)).trans fm3))) (by omega) (by omega)
              exact k b g3 hm3 t0 em
            · rw [brf (fun z => c6 z.2)] at k
              have k := k.tw2 (x := 0) hi hm0
              simp (disch := first | assumption | omega) only [b_112_5, b_112_10, b_112_13, b_112_18, b_112_19, b_112_23, b_112_28, b_112_33, b_112_37, b_112_44, b_112_47, b_112_56, b_112_59, b_112_64, b_112_65, b_112_75, b_112_84, b_112_89, b_112_100, b_112_110, b_112_121, b_112_131, b_112_149, b_112_150, b_112_153, b_112_168, b_112_187, b_112_194, b_112_200, b_112_208, kont_v, kont_n, kont_x, Nat.reduceAdd, ad_some, kd_some, ixa, and_true, true_and, and_self, eq_self, ne_eq, brT, brF, true_or, or_true, and_imp, hm.c0, hm.c1, hm.c2, hm.c3, hm.c4, hm.c5, hm.c6, hm.c7, hm.c8, hm.c9, hm.c10, hm.c11, hm.c12, hm.c13, hm.c14, hm.c15, hm.c16, hm.c17, hm.c18, hm.c19, hm.c20, hm.c21, hm.c22, hm.c23, hm.c24, hm.c25, hm.c26, hm.c27, hm.c28, hm.c29, hm.c30, hm.c31, hm.c32, hm.c33, hm.c34, hm.c35, hm.c36, hm.c37, hm.c38, hm.c39, hm.c40, hm.c41, hm.c42, hm.c43, hm.c44, hm.c45, hm.c46, hm.c47, hm.c48, hm.c49, hm.c50, hm.c51, hm.c52, hm.c53, hm.c54, hm.c55, hm.c56, hm.c57, hm.c58, hm.c59, hm.c60, hm.c61, hm.c62, hm.c63, hm.c64, hm.c65, hm.c66, hm.c67, hm.c68, hm.c69, hm.c70, hm.c71, hm.c72, hm.c73, hm.c74, hm.c75, hm.c76, hm.c77, aT, inR, m_isUser hm iv, m_isNote hm iv, m_isIn, m_may hm iv, m_text hm iv, m_no hm iv, m_isNot hm iv, brt, brf, b2iT, b2iF, b2i_0, brN, brT, brF, brS, Classical.not_not, not_true_eq_false, not_false_eq_true, b2i_t, b2i_f, one_ne0, zz01, oz01, and_false, false_and, or_self, gK_pI, gL_pI, gR_pI, gI_pI, hi, reduceCtorEq, Nat.reduceEqDiff, Int.reduceEq, if_true, if_false]
              exact k
          · rw [brf (fun z => c5 z.1)] at k
            have k := k.tw2 (x := 0) hi hm0
            simp (disch := first | assumption | omega) only [b_112_5, b_112_10, b_112_13, b_112_18, b_112_19, b_112_23, b_112_28, b_112_33, b_112_37, b_112_44, b_112_47, b_112_56, b_112_59, b_112_64, b_112_65, b_112_75, b_112_84, b_112_89, b_112_100, b_112_110, b_112_121, b_112_131, b_112_149, b_112_150, b_112_153, b_112_168, b_112_187, b_112_194, b_112_200, b_112_208, kont_v, kont_n, kont_x, Nat.reduceAdd, ad_some, kd_some, ixa, and_true, true_and, and_self, eq_self, ne_eq, brT, brF, true_or, or_true, and_imp, hm.c0, hm.c1, hm.c2, hm.c3, hm.c4, hm.c5, hm.c6, hm.c7, hm.c8, hm.c9, hm.c10, hm.c11, hm.c12, hm.c13, hm.c14, hm.c15, hm.c16, hm.c17, hm.c18, hm.c19, hm.c20, hm.c21, hm.c22, hm.c23, hm.c24, hm.c25, hm.c26, hm.c27, hm.c28, hm.c29, hm.c30, hm.c31, hm.c32, hm.c33, hm.c34, hm.c35, hm.c36, hm.c37, hm.c38, hm.c39, hm.c40, hm.c41, hm.c42, hm.c43, hm.c44, hm.c45, hm.c46, hm.c47, hm.c48, hm.c49, hm.c50, hm.c51, hm.c52, hm.c53, hm.c54, hm.c55, hm.c56, hm.c57, hm.c58, hm.c59, hm.c60, hm.c61, hm.c62, hm.c63, hm.c64, hm.c65, hm.c66, hm.c67, hm.c68, hm.c69, hm.c70, hm.c71, hm.c72, hm.c73, hm.c74, hm.c75, hm.c76, hm.c77, aT, inR, m_isUser hm iv, m_isNote hm iv, m_isIn, m_may hm iv, m_text hm iv, m_no hm iv, m_isNot hm iv, brt, brf, b2iT, b2iF, b2i_0, brN, brT, brF, brS, Classical.not_not, not_true_eq_false, not_false_eq_true, b2i_t, b2i_f, one_ne0, zz01, oz01, and_false, false_and, or_self, gK_pI, gL_pI, gR_pI, gI_pI, hi, reduceCtorEq, Nat.reduceEqDiff, Int.reduceEq, if_true, if_false]
            exact k
        · rw [brf (fun z => c4 z.2.2)] at k
          have k := k.tw2 (x := 0) hi hm0
          simp (disch := first | assumption | omega) only [b_112_5, b_112_10, b_112_13, b_112_18, b_112_19, b_112_23, b_112_28, b_112_33, b_112_37, b_112_44, b_112_47, b_112_56, b_112_59, b_112_64, b_112_65, b_112_75, b_112_84, b_112_89, b_112_100, b_112_110, b_112_121, b_112_131, b_112_149, b_112_150, b_112_153, b_112_168, b_112_187, b_112_194, b_112_200, b_112_208, kont_v, kont_n, kont_x, Nat.reduceAdd, ad_some, kd_some, ixa, and_true, true_and, and_self, eq_self, ne_eq, brT, brF, true_or, or_true, and_imp, hm.c0, hm.c1, hm.c2, hm.c3, hm.c4, hm.c5, hm.c6, hm.c7, hm.c8, hm.c9, hm.c10, hm.c11, hm.c12, hm.c13, hm.c14, hm.c15, hm.c16, hm.c17, hm.c18, hm.c19, hm.c20, hm.c21, hm.c22, hm.c23, hm.c24, hm.c25, hm.c26, hm.c27, hm.c28, hm.c29, hm.c30, hm.c31, hm.c32, hm.c33, hm.c34, hm.c35, hm.c36, hm.c37, hm.c38, hm.c39, hm.c40, hm.c41, hm.c42, hm.c43, hm.c44, hm.c45, hm.c46, hm.c47, hm.c48, hm.c49, hm.c50, hm.c51, hm.c52, hm.c53, hm.c54, hm.c55, hm.c56, hm.c57, hm.c58, hm.c59, hm.c60, hm.c61, hm.c62, hm.c63, hm.c64, hm.c65, hm.c66, hm.c67, hm.c68, hm.c69, hm.c70, hm.c71, hm.c72, hm.c73, hm.c74, hm.c75, hm.c76, hm.c77, aT, inR, m_isUser hm iv, m_isNote hm iv, m_isIn, m_may hm iv, m_text hm iv, m_no hm iv, m_isNot hm iv, brt, brf, b2iT, b2iF, b2i_0, brN, brT, brF, brS, Classical.not_not, not_true_eq_false, not_false_eq_true, b2i_t, b2i_f, one_ne0, zz01, oz01, and_false, false_and, or_self, gK_pI, gL_pI, gR_pI, gI_pI, hi, reduceCtorEq, Nat.reduceEqDiff, Int.reduceEq, if_true, if_false]
          exact k
      · rw [brf (fun z => c3 z.2.1)] at k
        have k := k.tw2 (x := 0) hi hm0
        simp (disch := first | assumption | omega) only [b_112_5, b_112_10, b_112_13, b_112_18, b_112_19, b_112_23, b_112_28, b_112_33, b_112_37, b_112_44, b_112_47, b_112_56, b_112_59, b_112_64, b_112_65, b_112_75, b_112_84, b_112_89, b_112_100, b_112_110, b_112_121, b_112_131, b_112_149, b_112_150, b_112_153, b_112_168, b_112_187, b_112_194, b_112_200, b_112_208, kont_v, kont_n, kont_x, Nat.reduceAdd, ad_some, kd_some, ixa, and_true, true_and, and_self, eq_self, ne_eq, brT, brF, true_or, or_true, and_imp, hm.c0, hm.c1, hm.c2, hm.c3, hm.c4, hm.c5, hm.c6, hm.c7, hm.c8, hm.c9, hm.c10, hm.c11, hm.c12, hm.c13, hm.c14, hm.c15, hm.c16, hm.c17, hm.c18, hm.c19, hm.c20, hm.c21, hm.c22, hm.c23, hm.c24, hm.c25, hm.c26, hm.c27, hm.c28, hm.c29, hm.c30, hm.c31, hm.c32, hm.c33, hm.c34, hm.c35, hm.c36, hm.c37, hm.c38, hm.c39, hm.c40, hm.c41, hm.c42, hm.c43, hm.c44, hm.c45, hm.c46, hm.c47, hm.c48, hm.c49, hm.c50, hm.c51, hm.c52, hm.c53, hm.c54, hm.c55, hm.c56, hm.c57, hm.c58, hm.c59, hm.c60, hm.c61, hm.c62, hm.c63, hm.c64, hm.c65, hm.c66, hm.c67, hm.c68, hm.c69, hm.c70, hm.c71, hm.c72, hm.c73, hm.c74, hm.c75, hm.c76, hm.c77, aT, inR, m_isUser hm iv, m_isNote hm iv, m_isIn, m_may hm iv, m_text hm iv, m_no hm iv, m_isNot hm iv, brt, brf, b2iT, b2iF, b2i_0, brN, brT, brF, brS, Classical.not_not, not_true_eq_false, not_false_eq_true, b2i_t, b2i_f, one_ne0, zz01, oz01, and_false, false_and, or_self, gK_pI, gL_pI, gR_pI, gI_pI, hi, reduceCtorEq, Nat.reduceEqDiff, Int.reduceEq, if_true, if_false]
        exact k
    · rw [brf (fun z => c2 z.1)] at k
      have k := k.tw2 (x := 0) hi hm0
      by_cases d1 : f < 0
      · simp (disch := first | assumption | omega) only [b_112_5, b_112_10, b_112_13, b_112_18, b_112_19, b_112_23, b_112_28, b_112_33, b_112_37, b_112_44, b_112_47, b_112_56, b_112_59, b_112_64, b_112_65, b_112_75, b_112_84, b_112_89, b_112_100, b_112_110, b_112_121, b_112_131, b_112_149, b_112_150, b_112_153, b_112_168, b_112_187, b_112_194, b_112_200, b_112_208, kont_v, kont_n, kont_x, Nat.reduceAdd, ad_some, kd_some, ixa, and_true, true_and, and_self, eq_self, ne_eq, brT, brF, true_or, or_true, and_imp, hm.c0, hm.c1, hm.c2, hm.c3, hm.c4, hm.c5, hm.c6, hm.c7, hm.c8, hm.c9, hm.c10, hm.c11, hm.c12, hm.c13, hm.c14, hm.c15, hm.c16, hm.c17, hm.c18, hm.c19, hm.c20, hm.c21, hm.c22, hm.c23, hm.c24, hm.c25, hm.c26, hm.c27, hm.c28, hm.c29, hm.c30, hm.c31, hm.c32, hm.c33, hm.c34, hm.c35, hm.c36, hm.c37, hm.c38, hm.c39, hm.c40, hm.c41, hm.c42, hm.c43, hm.c44, hm.c45, hm.c46, hm.c47, hm.c48, hm.c49, hm.c50, hm.c51, hm.c52, hm.c53, hm.c54, hm.c55, hm.c56, hm.c57, hm.c58, hm.c59, hm.c60, hm.c61, hm.c62, hm.c63, hm.c64, hm.c65, hm.c66, hm.c67, hm.c68, hm.c69, hm.c70, hm.c71, hm.c72, hm.c73, hm.c74, hm.c75, hm.c76, hm.c77, aT, inR, m_isUser hm iv, m_isNote hm iv, m_isIn, m_may hm iv, m_text hm iv, m_no hm iv, m_isNot hm iv, brt, brf, b2iT, b2iF, b2i_0, brN, brT, brF, brS, Classical.not_not, not_true_eq_false, not_false_eq_true, b2i_t, b2i_f, one_ne0, zz01, oz01, and_false, false_and, or_self, gK_pI, gL_pI, gR_pI, gI_pI, hi, reduceCtorEq, Nat.reduceEqDiff, Int.reduceEq, if_true, if_false]
        exact k
      · by_cases d2 : t ≤ f
        · simp (disch := first | assumption | omega) only [b_112_5, b_112_10, b_112_13, b_112_18, b_112_19, b_112_23, b_112_28, b_112_33, b_112_37, b_112_44, b_112_47, b_112_56, b_112_59, b_112_64, b_112_65, b_112_75, b_112_84, b_112_89, b_112_100, b_112_110, b_112_121, b_112_131, b_112_149, b_112_150, b_112_153, b_112_168, b_112_187, b_112_194, b_112_200, b_112_208, kont_v, kont_n, kont_x, Nat.reduceAdd, ad_some, kd_some, ixa, and_true, true_and, and_self, eq_self, ne_eq, brT, brF, true_or, or_true, and_imp, hm.c0, hm.c1, hm.c2, hm.c3, hm.c4, hm.c5, hm.c6, hm.c7, hm.c8, hm.c9, hm.c10, hm.c11, hm.c12, hm.c13, hm.c14, hm.c15, hm.c16, hm.c17, hm.c18, hm.c19, hm.c20, hm.c21, hm.c22, hm.c23, hm.c24, hm.c25, hm.c26, hm.c27, hm.c28, hm.c29, hm.c30, hm.c31, hm.c32, hm.c33, hm.c34, hm.c35, hm.c36, hm.c37, hm.c38, hm.c39, hm.c40, hm.c41, hm.c42, hm.c43, hm.c44, hm.c45, hm.c46, hm.c47, hm.c48, hm.c49, hm.c50, hm.c51, hm.c52, hm.c53, hm.c54, hm.c55, hm.c56, hm.c57, hm.c58, hm.c59, hm.c60, hm.c61, hm.c62, hm.c63, hm.c64, hm.c65, hm.c66, hm.c67, hm.c68, hm.c69, hm.c70, hm.c71, hm.c72, hm.c73, hm.c74, hm.c75, hm.c76, hm.c77, aT, inR, m_isUser hm iv, m_isNote hm iv, m_isIn, m_may hm iv, m_text hm iv, m_no hm iv, m_isNot hm iv, brt, brf, b2iT, b2iF, b2i_0, brN, brT, brF, brS, Classical.not_not, not_true_eq_false, not_false_eq_true, b2i_t, b2i_f, one_ne0, zz01, oz01, and_false, false_and, or_self, gK_pI, gL_pI, gR_pI, gI_pI, hi, reduceCtorEq, Nat.reduceEqDiff, Int.reduceEq, if_true, if_false]
          exact k
        · simp (disch := first | assumption | omega) only [b_112_5, b_112_10, b_112_13, b_112_18, b_112_19, b_112_23, b_112_28, b_112_33, b_112_37, b_112_44, b_112_47, b_112_56, b_112_59, b_112_64, b_112_65, b_112_75, b_112_84, b_112_89, b_112_100, b_112_110, b_112_121, b_112_131, b_112_149, b_112_150, b_112_153, b_112_168, b_112_187, b_112_194, b_112_200, b_112_208, kont_v, kont_n, kont_x, Nat.reduceAdd, ad_some, kd_some, ixa, and_true, true_and, and_self, eq_self, ne_eq, brT, brF, true_or, or_true, and_imp, hm.c0, hm.c1, hm.c2, hm.c3, hm.c4, hm.c5, hm.c6, hm.c7, hm.c8, hm.c9, hm.c10, hm.c11, hm.c12, hm.c13, hm.c14, hm.c15, hm.c16, hm.c17, hm.c18, hm.c19, hm.c20, hm.c21, hm.c22, hm.c23, hm.c24, hm.c25, hm.c26, hm.c27, hm.c28, hm.c29, hm.c30, hm.c31, hm.c32, hm.c33, hm.c34, hm.c35, hm.c36, hm.c37, hm.c38, hm.c39, hm.c40, hm.c41, hm.c42, hm.c43, hm.c44, hm.c45, hm.c46, hm.c47, hm.c48, hm.c49, hm.c50, hm.c51, hm.c52, hm.c53, hm.c54, hm.c55, hm.c56, hm.c57, hm.c58, hm.c59, hm.c60, hm.c61, hm.c62, hm.c63, hm.c64, hm.c65, hm.c66, hm.c67, hm.c68, hm.c69, hm.c70, hm.c71, hm.c72, hm.c73, hm.c74, hm.c75, hm.c76, hm.c77, aT, inR, m_isUser hm iv, m_isNote hm iv, m_isIn, m_may hm iv, m_text hm iv, m_no hm iv, m_isNot hm iv, brt, brf, b2iT, b2iF, b2i_0, brN, brT, brF, brS, Classical.not_not, not_true_eq_false, not_false_eq_true, b2i_t, b2i_f, one_ne0, zz01, oz01, and_false, false_and, or_self, gK_pI, gL_pI, gR_pI, gI_pI, hi, reduceCtorEq, Nat.reduceEqDiff, Int.reduceEq, if_true, if_false]
          exact k
  · rw [brf c1] at k
    have k := k.tw2 (x := 0) hi hm0
    simp (disch := first | assumption | omega) only [b_112_5, b_112_10, b_112_13, b_112_18, b_112_19, b_112_23, b_112_28, b_112_33, b_112_37, b_112_44, b_112_47, b_112_56, b_112_59, b_112_64, b_112_65, b_112_75, b_112_84, b_112_89, b_112_100, b_112_110, b_112_121, b_112_131, b_112_149, b_112_150, b_112_153, b_112_168, b_112_187, b_112_194, b_112_200, b_112_208, kont_v, kont_n, kont_x, Nat.reduceAdd, ad_some, kd_some, ixa, and_true, true_and, and_self, eq_self, ne_eq, brT, brF, true_or, or_true, and_imp, hm.c0, hm.c1, hm.c2, hm.c3, hm.c4, hm.c5, hm.c6, hm.c7, hm.c8, hm.c9, hm.c10, hm.c11, hm.c12, hm.c13, hm.c14, hm.c15, hm.c16, hm.c17, hm.c18, hm.c19, hm.c20, hm.c21, hm.c22, hm.c23, hm.c24, hm.c25, hm.c26, hm.c27, hm.c28, hm.c29, hm.c30, hm.c31, hm.c32, hm.c33, hm.c34, hm.c35, hm.c36, hm.c37, hm.c38, hm.c39, hm.c40, hm.c41, hm.c42, hm.c43, hm.c44, hm.c45, hm.c46, hm.c47, hm.c48, hm.c49, hm.c50, hm.c51, hm.c52, hm.c53, hm.c54, hm.c55, hm.c56, hm.c57, hm.c58, hm.c59, hm.c60, hm.c61, hm.c62, hm.c63, hm.c64, hm.c65, hm.c66, hm.c67, hm.c68, hm.c69, hm.c70, hm.c71, hm.c72, hm.c73, hm.c74, hm.c75, hm.c76, hm.c77, aT, inR, m_isUser hm iv, m_isNote hm iv, m_isIn, m_may hm iv, m_text hm iv, m_no hm iv, m_isNot hm iv, brt, brf, b2iT, b2iF, b2i_0, brN, brT, brF, brS, Classical.not_not, not_true_eq_false, not_false_eq_true, b2i_t, b2i_f, one_ne0, zz01, oz01, and_false, false_and, or_self, gK_pI, gL_pI, gR_pI, gI_pI, hi, reduceCtorEq, Nat.reduceEqDiff, Int.reduceEq, if_true, if_false]
    exact k
theorem m_reply (hi : Ij a) (hm : RepM a S h) (iv : Inv S) (u q c : Int) (k : br (0 ≤ u ∧ u < S 0 0 0) (br (nt S q ∧ S 12 q 0 ≠ 2) (br (0 ≤ c ∧ c ≤ 999) (br ((2 ≤ S 1 u 0 ∧ SE S u (S 1 u 0) (S 11 q 0)) ∧ S 12 q 0 = 0 ∧ S 7 0 0 < 60) (MK a (Srep S u q c) h Q (zi (S 7 0 0)) 0) (MK a S h Q (zi 0) 3)) (MK a S h Q (zi 0) 2)) (MK a S h Q (zi 0) 1)) (MK a S h Q (zi 0) 1)) :
    WP 113 0 [some (zr (some (a 100 0))), some (zi u), some (zi q), some (zi c)] [] h Q := by
  obtain ⟨w0, w1⟩ := iv.1.1
  have bn := iv.2.2.1.1
  have hw : RepM a S (tw a h 0) := hm.tw hi 0
  simp (disch := first | assumption | omega) only [b_113_0, kont_v, kont_n, kont_x, Nat.reduceAdd, ad_some, kd_some, ixa, and_true, true_and, and_self, eq_self, ne_eq, brT, brF, true_or, or_true, and_imp, hm.c0, hm.c1, hm.c2, hm.c3, hm.c4, hm.c5, hm.c6, hm.c7, hm.c8, hm.c9, hm.c10, hm.c11, hm.c12, hm.c13, hm.c14, hm.c15, hm.c16, hm.c17, hm.c18, hm.c19, hm.c20, hm.c21, hm.c22, hm.c23, hm.c24, hm.c25, hm.c26, hm.c27, hm.c28, hm.c29, hm.c30, hm.c31, hm.c32, hm.c33, hm.c34, hm.c35, hm.c36, hm.c37, hm.c38, hm.c39, hm.c40, hm.c41, hm.c42, hm.c43, hm.c44, hm.c45, hm.c46, hm.c47, hm.c48, hm.c49, hm.c50, hm.c51, hm.c52, hm.c53, hm.c54, hm.c55, hm.c56, hm.c57, hm.c58, hm.c59, hm.c60, hm.c61, hm.c62, hm.c63, hm.c64, hm.c65, hm.c66, hm.c67, hm.c68, hm.c69, hm.c70, hm.c71, hm.c72, hm.c73, hm.c74, hm.c75, hm.c76, hm.c77, aT, inR, tw_e]
  have hm0 := hm
  have hm := hw
  by_cases c1 : 0 ≤ u ∧ u < S 0 0 0
  · rw [brt c1] at k
    by_cases c2 : nt S q ∧ S 12 q 0 ≠ 2
    · rw [brt c2] at k
      have hq := c2.1
      have q1 := hq.1
      have q2 := hq.2
      have hh := iv_hd iv hq
      have j1 := hh.1.1
      have j2 := hh.1.2
      have hs := (iv.2.2.1.2.1 q hq).2.2.2.1
      by_cases c3 : 0 ≤ c ∧ c ≤ 999
      · rw [brt c3] at k
        by_cases c4 : 2 ≤ S 1 u 0 ∧ SE S u (S 1 u 0) (S 11 q 0)
        · by_cases c6 : S 12 q 0 = 0
          · by_cases c7 : S 7 0 0 < 60
            · rw [brt ⟨c4, c6, c7⟩] at k
              have hm1 := hw.wA hi 18 (by omega) (by omega) (by omega) (S 11 q 0) 0
              have nn := nnt S
              have hm4 := (((hm1.wA hi 8 (by omega) (by omega) (by omega) (S 7 0 0) u).wA hi 9 (by omega) (by omega) (by omega) (S 7 0 0) c).wA hi 10 (by omega) (by omega) (by omega) (S 7 0 0) q).wHead hi (S 7 0 0) (S 11 q 0) nn
              have w := RepM.addN (T := Srep S u q c) hi hm4 (Xt_rep S u q c).1 (fun k x j h1 h2 h3 => Srep_e S u q c k x j h1 h2 (by omega)) (fun z => by
                have z : Srep S u q c 11 (S 7 0 0) 0 = S 7 0 0 := z
                rw [Srep_n _ _ _ _ _ (by omega)] at z
                have z : S 11 q 0 = S 7 0 0 := z
                omega)
              obtain ⟨em, t0⟩ := tw_FM hi ((FM.I (h := tw a h 0) hi (f := 118) (i := 0) (k := S 11 q 0) (x := 0) (by omega) (by omega) (by omega)).trans ((FM.I hi (f := 108) (i := 0) (k := S 7 0 0) (x := u) (by omega) (by omega) (by omega)).trans ((FM.I hi (f := 109) (i := 0) (k := S 7 0 0) (x := c) (by omega) (by omega) (by omega)).trans ((FM.I hi (f := 110) (i := 0) (k := S 7 0 0) (x := q) (by omega) (by omega) (by omega)).trans ((FM.I hi (f := 111) (i := 0) (k := S 7 0 0) (x := S 11 q 0) (by omega) (by omega) (by omega)).trans (FM.I hi (f := 100) (i := 0) (k := 7) (x := S 7 0 0 + 1) (by omega) (by omega) (by omega))))))) (show gC h ≤ gC h + 80 by omega) (show gS h ≤ gS h + 5600 by omega)
              have fin := k a _ w t0 em
              have ma := fun (Q : Zp) => m_add1 (Q := Q) hi hm1 (show 0 ≤ S 7 0 0 ∧ S 7 0 0 < 60 from ⟨bn.1, c7⟩) u c q hq
              have e7 : su S 18 (S 11 q 0) 0 0 7 0 0 = S 7 0 0 := rfl
              have e11 : su S 18 (S 11 q 0) 0 0 11 q 0 = S 11 q 0 := rfl
              rw [e7, e11] at ma
              simp (disch := first | assumption | omega) only [b_113_5, b_113_10, b_113_13, b_113_18, b_113_21, b_113_26, b_113_27, b_113_35, b_113_38, b_113_43, b_113_44, b_113_51, b_113_54, b_113_64, b_113_73, b_113_78, b_113_79, b_113_91, b_113_98, kont_v, kont_n, kont_x, Nat.reduceAdd, ad_some, kd_some, ixa, and_true, true_and, and_self, eq_self, ne_eq, brT, brF, true_or, or_true, and_imp, hm.c0, hm.c1, hm.c2, hm.c3, hm.c4, hm.c5, hm.c6, hm.c7, hm.c8, hm.c9, hm.c10, hm.c11, hm.c12, hm.c13, hm.c14, hm.c15, hm.c16, hm.c17, hm.c18, hm.c19, hm.c20, hm.c21, hm.c22, hm.c23, hm.c24, hm.c25, hm.c26, hm.c27, hm.c28, hm.c29, hm.c30, hm.c31, hm.c32, hm.c33, hm.c34, hm.c35, hm.c36, hm.c37, hm.c38, hm.c39, hm.c40, hm.c41, hm.c42, hm.c43, hm.c44, hm.c45, hm.c46, hm.c47, hm.c48, hm.c49, hm.c50, hm.c51, hm.c52, hm.c53, hm.c54, hm.c55, hm.c56, hm.c57, hm.c58, hm.c59, hm.c60, hm.c61, hm.c62, hm.c63, hm.c64, hm.c65, hm.c66, hm.c67, hm.c68, hm.c69, hm.c70, hm.c71, hm.c72, hm.c73, hm.c74, hm.c75, hm.c76, hm.c77, aT, inR, m_isUser hm iv, m_isNote hm iv, m_isIn, m_may hm iv, m_text hm iv, m_no hm iv, m_isNot hm iv, brt, brf, b2iT, b2iF, b2i_0, brN, brT, brF, brS, Classical.not_not, not_true_eq_false, not_false_eq_true, b2i_t, b2i_f, one_ne0, zz01, oz01, and_false, false_and, or_self, gK_pI, gL_pI, gR_pI, gI_pI, hi, reduceCtorEq, Nat.reduceEqDiff, Int.reduceEq, if_true, if_false, ma]
              rw [brt c4.2]
              exact fin
            · rw [brf (fun z => c7 z.2.2)] at k
              have k := k.tw2 (x := 0) hi hm0
              simp (disch := first | assumption | omega) only [b_113_5, b_113_10, b_113_13, b_113_18, b_113_21, b_113_26, b_113_27, b_113_35, b_113_38, b_113_43, b_113_44, b_113_51, b_113_54, b_113_64, b_113_73, b_113_78, b_113_91, b_113_98, kont_v, kont_n, kont_x, Nat.reduceAdd, ad_some, kd_some, ixa, and_true, true_and, and_self, eq_self, ne_eq, brT, brF, true_or, or_true, and_imp, hm.c0, hm.c1, hm.c2, hm.c3, hm.c4, hm.c5, hm.c6, hm.c7, hm.c8, hm.c9, hm.c10, hm.c11, hm.c12, hm.c13, hm.c14, hm.c15, hm.c16, hm.c17, hm.c18, hm.c19, hm.c20, hm.c21, hm.c22, hm.c23, hm.c24, hm.c25, hm.c26, hm.c27, hm.c28, hm.c29, hm.c30, hm.c31, hm.c32, hm.c33, hm.c34, hm.c35, hm.c36, hm.c37, hm.c38, hm.c39, hm.c40, hm.c41, hm.c42, hm.c43, hm.c44, hm.c45, hm.c46, hm.c47, hm.c48, hm.c49, hm.c50, hm.c51, hm.c52, hm.c53, hm.c54, hm.c55, hm.c56, hm.c57, hm.c58, hm.c59, hm.c60, hm.c61, hm.c62, hm.c63, hm.c64, hm.c65, hm.c66, hm.c67, hm.c68, hm.c69, hm.c70, hm.c71, hm.c72, hm.c73, hm.c74, hm.c75, hm.c76, hm.c77, aT, inR, m_isUser hm iv, m_isNote hm iv, m_isIn, m_may hm iv, m_text hm iv, m_no hm iv, m_isNot hm iv, brt, brf, b2iT, b2iF, b2i_0, brN, brT, brF, brS, Classical.not_not, not_true_eq_false, not_false_eq_true, b2i_t, b2i_f, one_ne0, zz01, oz01, and_false, false_and, or_self, gK_pI, gL_pI, gR_pI, gI_pI, hi, reduceCtorEq, Nat.reduceEqDiff, Int.reduceEq, if_true, if_false]
              exact k
          · rw [brf (fun z => c6 z.2.1)] at k
            have k := k.tw2 (x := 0) hi hm0
            simp (disch := first | assumption | omega) only [b_113_5, b_113_10, b_113_13, b_113_18, b_113_21, b_113_26, b_113_27, b_113_35, b_113_38, b_113_43, b_113_44, b_113_51, b_113_54, b_113_64, b_113_73, b_113_78, b_113_91, b_113_98, kont_v, kont_n, kont_x, Nat.reduceAdd, ad_some, kd_some, ixa, and_true, true_and, and_self, eq_self, ne_eq, brT, brF, true_or, or_true, and_imp, hm.c0, hm.c1, hm.c2, hm.c3, hm.c4, hm.c5, hm.c6, hm.c7, hm.c8, hm.c9, hm.c10, hm.c11, hm.c12, hm.c13, hm.c14, hm.c15, hm.c16, hm.c17, hm.c18, hm.c19, hm.c20, hm.c21, hm.c22, hm.c23, hm.c24, hm.c25, hm.c26, hm.c27, hm.c28, hm.c29, hm.c30, hm.c31, hm.c32, hm.c33, hm.c34, hm.c35, hm.c36, hm.c37, hm.c38, hm.c39, hm.c40, hm.c41, hm.c42, hm.c43, hm.c44, hm.c45, hm.c46, hm.c47, hm.c48, hm.c49, hm.c50, hm.c51, hm.c52, hm.c53, hm.c54, hm.c55, hm.c56, hm.c57, hm.c58, hm.c59, hm.c60, hm.c61, hm.c62, hm.c63, hm.c64, hm.c65, hm.c66, hm.c67, hm.c68, hm.c69, hm.c70, hm.c71, hm.c72, hm.c73, hm.c74, hm.c75, hm.c76, hm.c77, aT, inR, m_isUser hm iv, m_isNote hm iv, m_isIn, m_may hm iv, m_text hm iv, m_no hm iv, m_isNot hm iv, brt, brf, b2iT, b2iF, b2i_0, brN, brT, brF, brS, Classical.not_not, not_true_eq_false, not_false_eq_true, b2i_t, b2i_f, one_ne0, zz01, oz01, and_false, false_and, or_self, gK_pI, gL_pI, gR_pI, gI_pI, hi, reduceCtorEq, Nat.reduceEqDiff, Int.reduceEq, if_true, if_false]
            exact k
        · rw [brf (fun z => c4 z.1)] at k
          have k := k.tw2 (x := 0) hi hm0
          simp (disch := first | assumption | omega) only [b_113_5, b_113_10, b_113_13, b_113_18, b_113_21, b_113_26, b_113_27, b_113_35, b_113_38, b_113_43, b_113_44, b_113_51, b_113_54, b_113_64, b_113_73, b_113_78, b_113_91, b_113_98, kont_v, kont_n, kont_x, Nat.reduceAdd, ad_some, kd_some, ixa, and_true, true_and, and_self, eq_self, ne_eq, brT, brF, true_or, or_true, and_imp, hm.c0, hm.c1, hm.c2, hm.c3, hm.c4, hm.c5, hm.c6, hm.c7, hm.c8, hm.c9, hm.c10, hm.c11, hm.c12, hm.c13, hm.c14, hm.c15, hm.c16, hm.c17, hm.c18, hm.c19, hm.c20, hm.c21, hm.c22, hm.c23, hm.c24, hm.c25, hm.c26, hm.c27, hm.c28, hm.c29, hm.c30, hm.c31, hm.c32, hm.c33, hm.c34, hm.c35, hm.c36, hm.c37, hm.c38, hm.c39, hm.c40, hm.c41, hm.c42, hm.c43, hm.c44, hm.c45, hm.c46, hm.c47, hm.c48, hm.c49, hm.c50, hm.c51, hm.c52, hm.c53, hm.c54, hm.c55, hm.c56, hm.c57, hm.c58, hm.c59, hm.c60, hm.c61, hm.c62, hm.c63, hm.c64, hm.c65, hm.c66, hm.c67, hm.c68, hm.c69, hm.c70, hm.c71, hm.c72, hm.c73, hm.c74, hm.c75, hm.c76, hm.c77, aT, inR, m_isUser hm iv, m_isNote hm iv, m_isIn, m_may hm iv, m_text hm iv, m_no hm iv, m_isNot hm iv, brt, brf, b2iT, b2iF, b2i_0, brN, brT, brF, brS, Classical.not_not, not_true_eq_false, not_false_eq_true, b2i_t, b2i_f, one_ne0, zz01, oz01, and_false, false_and, or_self, gK_pI, gL_pI, gR_pI, gI_pI, hi, reduceCtorEq, Nat.reduceEqDiff, Int.reduceEq, if_true, if_false]
          exact k
      · rw [brf c3] at k
        have k := k.tw2 (x := 0) hi hm0
        simp (disch := first | assumption | omega) only [b_113_5, b_113_10, b_113_13, b_113_18, b_113_21, b_113_26, b_113_27, b_113_35, b_113_38, b_113_43, b_113_44, b_113_51, b_113_54, b_113_64, b_113_73, b_113_78, b_113_91, b_113_98, kont_v, kont_n, kont_x, Nat.reduceAdd, ad_some, kd_some, ixa, and_true, true_and, and_self, eq_self, ne_eq, brT, brF, true_or, or_true, and_imp, hm.c0, hm.c1, hm.c2, hm.c3, hm.c4, hm.c5, hm.c6, hm.c7, hm.c8, hm.c9, hm.c10, hm.c11, hm.c12, hm.c13, hm.c14, hm.c15, hm.c16, hm.c17, hm.c18, hm.c19, hm.c20, hm.c21, hm.c22, hm.c23, hm.c24, hm.c25, hm.c26, hm.c27, hm.c28, hm.c29, hm.c30, hm.c31, hm.c32, hm.c33, hm.c34, hm.c35, hm.c36, hm.c37, hm.c38, hm.c39, hm.c40, hm.c41, hm.c42, hm.c43, hm.c44, hm.c45, hm.c46, hm.c47, hm.c48, hm.c49, hm.c50, hm.c51, hm.c52, hm.c53, hm.c54, hm.c55, hm.c56, hm.c57, hm.c58, hm.c59, hm.c60, hm.c61, hm.c62, hm.c63, hm.c64, hm.c65, hm.c66, hm.c67, hm.c68, hm.c69, hm.c70, hm.c71, hm.c72, hm.c73, hm.c74, hm.c75, hm.c76, hm.c77, aT, inR, m_isUser hm iv, m_isNote hm iv, m_isIn, m_may hm iv, m_text hm iv, m_no hm iv, m_isNot hm iv, brt, brf, b2iT, b2iF, b2i_0, brN, brT, brF, brS, Classical.not_not, not_true_eq_false, not_false_eq_true, b2i_t, b2i_f, one_ne0, zz01, oz01, and_false, false_and, or_self, gK_pI, gL_pI, gR_pI, gI_pI, hi, reduceCtorEq, Nat.reduceEqDiff, Int.reduceEq, if_true, if_false]
        exact k
    · rw [brf c2] at k
      have k := k.tw2 (x := 0) hi hm0
      simp (disch := first | assumption | omega) only [b_113_5, b_113_10, b_113_13, b_113_18, b_113_21, b_113_26, b_113_27, b_113_35, b_113_38, b_113_43, b_113_44, b_113_51, b_113_54, b_113_64, b_113_73, b_113_78, b_113_91, b_113_98, kont_v, kont_n, kont_x, Nat.reduceAdd, ad_some, kd_some, ixa, and_true, true_and, and_self, eq_self, ne_eq, brT, brF, true_or, or_true, and_imp, hm.c0, hm.c1, hm.c2, hm.c3, hm.c4, hm.c5, hm.c6, hm.c7, hm.c8, hm.c9, hm.c10, hm.c11, hm.c12, hm.c13, hm.c14, hm.c15, hm.c16, hm.c17, hm.c18, hm.c19, hm.c20, hm.c21, hm.c22, hm.c23, hm.c24, hm.c25, hm.c26, hm.c27, hm.c28, hm.c29, hm.c30, hm.c31, hm.c32, hm.c33, hm.c34, hm.c35, hm.c36, hm.c37, hm.c38, hm.c39, hm.c40, hm.c41, hm.c42, hm.c43, hm.c44, hm.c45, hm.c46, hm.c47, hm.c48, hm.c49, hm.c50, hm.c51, hm.c52, hm.c53, hm.c54, hm.c55, hm.c56, hm.c57, hm.c58, hm.c59, hm.c60, hm.c61, hm.c62, hm.c63, hm.c64, hm.c65, hm.c66, hm.c67, hm.c68, hm.c69, hm.c70, hm.c71, hm.c72, hm.c73, hm.c74, hm.c75, hm.c76, hm.c77, aT, inR, m_isUser hm iv, m_isNote hm iv, m_isIn, m_may hm iv, m_text hm iv, m_no hm iv, m_isNot hm iv, brt, brf, b2iT, b2iF, b2i_0, brN, brT, brF, brS, Classical.not_not, not_true_eq_false, not_false_eq_true, b2i_t, b2i_f, one_ne0, zz01, oz01, and_false, false_and, or_self, gK_pI, gL_pI, gR_pI, gI_pI, hi, reduceCtorEq, Nat.reduceEqDiff, Int.reduceEq, if_true, if_false]
      exact k
  · rw [brf c1] at k
    have k := k.tw2 (x := 0) hi hm0
    simp (disch := first | assumption | omega) only [b_113_5, b_113_10, b_113_13, b_113_18, b_113_21, b_113_26, b_113_27, b_113_35, b_113_38, b_113_43, b_113_44, b_113_51, b_113_54, b_113_64, b_113_73, b_113_78, b_113_91, b_113_98, kont_v, kont_n, kont_x, Nat.reduceAdd, ad_some, kd_some, ixa, and_true, true_and, and_self, eq_self, ne_eq, brT, brF, true_or, or_true, and_imp, hm.c0, hm.c1, hm.c2, hm.c3, hm.c4, hm.c5, hm.c6, hm.c7, hm.c8, hm.c9, hm.c10, hm.c11, hm.c12, hm.c13, hm.c14, hm.c15, hm.c16, hm.c17, hm.c18, hm.c19, hm.c20, hm.c21, hm.c22, hm.c23, hm.c24, hm.c25, hm.c26, hm.c27, hm.c28, hm.c29, hm.c30, hm.c31, hm.c32, hm.c33, hm.c34, hm.c35, hm.c36, hm.c37, hm.c38, hm.c39, hm.c40, hm.c41, hm.c42, hm.c43, hm.c44, hm.c45, hm.c46, hm.c47, hm.c48, hm.c49, hm.c50, hm.c51, hm.c52, hm.c53, hm.c54, hm.c55, hm.c56, hm.c57, hm.c58, hm.c59, hm.c60, hm.c61, hm.c62, hm.c63, hm.c64, hm.c65, hm.c66, hm.c67, hm.c68, hm.c69, hm.c70, hm.c71, hm.c72, hm.c73, hm.c74, hm.c75, hm.c76, hm.c77, aT, inR, m_isUser hm iv, m_isNote hm iv, m_isIn, m_may hm iv, m_text hm iv, m_no hm iv, m_isNot hm iv, brt, brf, b2iT, b2iF, b2i_0, brN, brT, brF, brS, Classical.not_not, not_true_eq_false, not_false_eq_true, b2i_t, b2i_f, one_ne0, zz01, oz01, and_false, false_and, or_self, gK_pI, gL_pI, gR_pI, gI_pI, hi, reduceCtorEq, Nat.reduceEqDiff, Int.reduceEq, if_true, if_false]
    exact k
end
