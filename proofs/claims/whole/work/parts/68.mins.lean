/-! put, cut, insert, delete OF THE REFERENCE -/
section
variable {a : Na} {S T : St} {h : Zh} {Q : Zp}
/-- a new thing of the reference, by its name -/
theorem newM (hi : Ij a) (hm : RepM a S h) (hv : 0 ≤ S 2 0 0 ∧ S 2 0 0 ≤ 60) (f : Nat) (i n : Int) (kd : Nat) (f1 : 101 ≤ f) (f2 : f < 200) (nl : ¬ LvM S f i) {G : Nat → Zh → Prop}
    (k : ∀ b g, Ij b → RepM b S g → FM a h b g → gC g = gC h + 1 → gS g = gS h + n.toNat → gK g (b f i) = kd → gL g (b f i) = n → (∀ f2 i2, gK h (a f2 i2) ≠ 0 → ¬ (f2 = f ∧ i2 = i) → b f2 i2 = a f2 i2 ∧ sm h g (a f2 i2)) → G (b f i) g) :
    ∀ q, gK h q = 0 → G q (nw h q kd n) := by
  intro q hq
  have e : nm a f i q f i = q := nm_self a f i q
  have := k (nm a f i q) (nw h q kd n) (Ij_nm hi f i q) (hm.new hv hq nl) (FM.nw hi f1 f2 hq hm.A.1) (gC_nw ..) (gS_nw ..) (by rw [e, gK_nw, if_pos rfl]) (by rw [e, gL_nw, if_pos rfl]) (fun f2 i2 k2 n2 => ⟨nm_live hq k2 n2, sm_nw (fun z => k2 (by rw [z]; exact hq))⟩)
  rw [e] at this
  exact this
theorem m_put (hi : Ij a) (hm : RepM a S h) (iv : Inv S) (p n s : Int) (hp : 0 ≤ p) (hn : 0 ≤ n ∧ n ≤ 40) (hpc : p ≤ S 3 (S 2 0 0) 0) (hs : 0 ≤ s ∧ s ≤ 25) (hz : S 3 (S 2 0 0) 0 + n ≤ 200) (hv : S 2 0 0 < 60) (rc : gC h + 2 ≤ MXC) (rs : gS h + 5080 ≤ MXS)
    (hQ : ∀ b g, RepM b (Sput S p n s) g → FM a h b g → gC g ≤ gC h + 2 → gS g ≤ gS h + 5080 → Q (.inl none) g) :
    WP 100 0 [some (zr (some (a 100 0))), some (zi p), some (zi n), some (zi s), none, none, none] [] h Q := by
  obtain ⟨u0, u1⟩ := iv.2.1.1
  obtain ⟨u2, u3⟩ := iv.2.1.2.1 (S 2 0 0) u0 (Int.le_refl _)
  obtain ⟨v0, v1⟩ := iv.2.1.2.2.1
  have u4 := Int.le_refl (S 2 0 0)
  have hvv : 0 ≤ S 2 0 0 ∧ S 2 0 0 ≤ 60 := ⟨u0, u1⟩
  simp (disch := first | assumption | omega) only [b_100_0, b_100_4, kont_v, kont_n, kont_x, Nat.reduceAdd, ad_some, kd_some, ixa, and_true, true_and, and_self, eq_self, ne_eq, brT, brF, true_or, or_true, and_imp, hm.c0, hm.c1, hm.c2, hm.c3, hm.c4, hm.c5, hm.c6, hm.c7, hm.c8, hm.c9, hm.c10, hm.c11, hm.c12, hm.c13, hm.c14, hm.c15, hm.c16, hm.c17, hm.c18, hm.c19, hm.c20, hm.c21, hm.c22, hm.c23, hm.c24, hm.c25, hm.c26, hm.c27, hm.c28, hm.c29, hm.c30, hm.c31, hm.c32, hm.c33, hm.c34, hm.c35, hm.c36, hm.c37, hm.c38, hm.c39, hm.c40, hm.c41, hm.c42, hm.c43, hm.c44, hm.c45, hm.c46, hm.c47, hm.c48, hm.c49, hm.c50, hm.c51, hm.c52, hm.c53, hm.c54, hm.c55, hm.c56, hm.c57, hm.c58, hm.c59, hm.c60, hm.c61, hm.c62, hm.c63, hm.c64, hm.c65, hm.c66, hm.c67, hm.c68, hm.c69, hm.c70, hm.c71, hm.c72, hm.c73, hm.c74, hm.c75, hm.c76, hm.c77, m_text hm iv, aT, inR]
  refine newM hi hm hvv 150 (S 2 0 0 + 1) (S 3 (S 2 0 0) 0 + n) 10 (by omega) (by omega) (LvM_new (by omega)) (G := fun q g => WP 100 13 [some (zr (some (a 100 0))), some (zi p), some (zi n), some (zi s), some (zr (some (a 150 (S 2 0 0)))), none, none] [zr (some q)] g Q) (fun b g ib hmb fm gc gs kq lq liv => ?_)
  have k150 := hm.c31 (S 2 0 0) u0 u4
  obtain ⟨e150, s150⟩ := liv 150 (S 2 0 0) (by rw [k150]; omega) (by omega)
  have eI : ∀ j, 0 ≤ j → j < S 3 (S 2 0 0) 0 → gI g (b 150 (S 2 0 0)) j = S 4 (S 2 0 0) j := fun j j1 j2 => hmb.V.2.2.2.2.2 (S 2 0 0) j u0 u4 j1 j2
  have e100 := fm.2.2.2
  rw [← e100, ← e150]
  clear e150 s150 k150
  have hm0 := hm
  have hi0 := hi
  clear hm hi
  have hm := hmb
  have hi := ib
  have nlv : ¬ LvM S 150 (S 2 0 0 + 1) := LvM_new (by omega)
  have w1 := (hmb.wC ib hvv nlv (s := b 150 (S 2 0 0)) (sp := 0) (dp := 0) (n := p)).wC ib hvv nlv (s := b 150 (S 2 0 0)) (sp := p) (dp := p + n) (n := S 3 (S 2 0 0) 0 - p)
  have fm2 : FM a h b (cpy (cpy g (b 150 (S 2 0 0)) 0 (b 150 (S 2 0 0 + 1)) 0 p) (b 150 (S 2 0 0)) p (b 150 (S 2 0 0 + 1)) (p + n) (S 3 (S 2 0 0) 0 - p)) := fm.trans ((FM.C ib (by omega) (by omega)).trans (FM.C ib (by omega) (by omega)))
  have row : ∀ j, 0 ≤ j → j < S 3 (S 2 0 0) 0 + n → (j < p → gI (cpy (cpy g (b 150 (S 2 0 0)) 0 (b 150 (S 2 0 0 + 1)) 0 p) (b 150 (S 2 0 0)) p (b 150 (S 2 0 0 + 1)) (p + n) (S 3 (S 2 0 0) 0 - p)) (b 150 (S 2 0 0 + 1)) j = S 4 (S 2 0 0) j) ∧ (p ≤ j → j < p + 0 → gI (cpy (cpy g (b 150 (S 2 0 0)) 0 (b 150 (S 2 0 0 + 1)) 0 p) (b 150 (S 2 0 0)) p (b 150 (S 2 0 0 + 1)) (p + n) (S 3 (S 2 0 0) 0 - p)) (b 150 (S 2 0 0 + 1)) j = S 6 0 0 + (j - p)) ∧ (p + n ≤ j → gI (cpy (cpy g (b 150 (S 2 0 0)) 0 (b 150 (S 2 0 0 + 1)) 0 p) (b 150 (S 2 0 0)) p (b 150 (S 2 0 0 + 1)) (p + n) (S 3 (S 2 0 0) 0 - p)) (b 150 (S 2 0 0 + 1)) j = S 4 (S 2 0 0) (j - n)) := fun j j1 j2 => by
    refine ⟨fun d => ?_, fun d1 d2 => by omega, fun d => ?_⟩
    · rw [gI_cpy, if_neg (by omega), gI_cpy, if_pos ⟨rfl, by omega, by omega⟩, show 0 + (j - 0) = j by omega]
      exact eI j j1 (by omega)
    · rw [gI_cpy, if_pos ⟨rfl, d, by omega⟩, gI_cpy, if_neg (fun z => by rw [ib] at z; omega), show p + (j - (p + n)) = j - n by omega]
      exact eI (j - n) (by omega) (by omega)
  simp (disch := first | assumption | omega) only [b_100_13, b_100_25, b_100_41, kont_v, kont_n, kont_x, Nat.reduceAdd, ad_some, kd_some, ixa, and_true, true_and, and_self, eq_self, ne_eq, brT, brF, true_or, or_true, and_imp, hm.c0, hm.c1, hm.c2, hm.c3, hm.c4, hm.c5, hm.c6, hm.c7, hm.c8, hm.c9, hm.c10, hm.c11, hm.c12, hm.c13, hm.c14, hm.c15, hm.c16, hm.c17, hm.c18, hm.c19, hm.c20, hm.c21, hm.c22, hm.c23, hm.c24, hm.c25, hm.c26, hm.c27, hm.c28, hm.c29, hm.c30, hm.c31, hm.c32, hm.c33, hm.c34, hm.c35, hm.c36, hm.c37, hm.c38, hm.c39, hm.c40, hm.c41, hm.c42, hm.c43, hm.c44, hm.c45, hm.c46, hm.c47, hm.c48, hm.c49, hm.c50, hm.c51, hm.c52, hm.c53, hm.c54, hm.c55, hm.c56, hm.c57, hm.c58, hm.c59, hm.c60, hm.c61, hm.c62, hm.c63, hm.c64, hm.c65, hm.c66, hm.c67, hm.c68, hm.c69, hm.c70, hm.c71, hm.c72, hm.c73, hm.c74, hm.c75, hm.c76, hm.c77, aT, inR, kq, lq, gK_cpy, gL_cpy, gR_cpy, gI_cpy, hi, reduceCtorEq, Nat.reduceEqDiff, Int.reduceEq, and_false, false_and, if_false]
  revert row w1 fm2
  generalize hg2 : cpy (cpy g (b 150 (S 2 0 0)) 0 (b 150 (S 2 0 0 + 1)) 0 p) (b 150 (S 2 0 0)) p (b 150 (S 2 0 0 + 1)) (p + n) (S 3 (S 2 0 0) 0 - p) = g2
  intro w1 fm2 row
  have kq2 : gK g2 (b 150 (S 2 0 0 + 1)) = 10 := by rw [← hg2]; exact kq
  have lq2 : gL g2 (b 150 (S 2 0 0 + 1)) = S 3 (S 2 0 0) 0 + n := by rw [← hg2]; exact lq
  have l4 : gL g (b 104 0) = gL g2 (b 104 0) := by rw [← hg2]; rfl
  have c2 : gC g2 = gC h + 1 := by rw [← hg2]; exact gc
  have s2 : gS g2 = gS h + (S 3 (S 2 0 0) 0 + n).toNat := by rw [← hg2]; exact gs
  clear hg2
  by_cases c : S 6 0 0 + n ≤ gL g (b 104 0)
  · rw [brt c, b_100_88]
    refine m_edL (h := g2) ib iv p n s hp hn hpc hs hz hv (fun g3 hm3 fm3 gc3 gs3 => hQ b g3 hm3 (fm2.trans fm3) (by omega) (by omega)) n.toNat 0 g2 (by omega) (Int.le_refl _) hn.1 (by rw [SN_0]; exact w1) (FM.rfl' ib) rfl rfl (by omega) kq2 lq2 row
  · rw [brf c]
    clear hm
    have hm := w1
    have l5 : S 6 0 0 ≤ gL g2 (b 104 0) := w1.S'.2.1
    simp (disch := first | assumption | omega) only [b_100_55, kont_v, kont_n, kont_x, Nat.reduceAdd, ad_some, kd_some, ixa, and_true, true_and, and_self, eq_self, ne_eq, brT, brF, true_or, or_true, and_imp, hm.c0, hm.c1, hm.c2, hm.c3, hm.c4, hm.c5, hm.c6, hm.c7, hm.c8, hm.c9, hm.c10, hm.c11, hm.c12, hm.c13, hm.c14, hm.c15, hm.c16, hm.c17, hm.c18, hm.c19, hm.c20, hm.c21, hm.c22, hm.c23, hm.c24, hm.c25, hm.c26, hm.c27, hm.c28, hm.c29, hm.c30, hm.c31, hm.c32, hm.c33, hm.c34, hm.c35, hm.c36, hm.c37, hm.c38, hm.c39, hm.c40, hm.c41, hm.c42, hm.c43, hm.c44, hm.c45, hm.c46, hm.c47, hm.c48, hm.c49, hm.c50, hm.c51, hm.c52, hm.c53, hm.c54, hm.c55, hm.c56, hm.c57, hm.c58, hm.c59, hm.c60, hm.c61, hm.c62, hm.c63, hm.c64, hm.c65, hm.c66, hm.c67, hm.c68, hm.c69, hm.c70, hm.c71, hm.c72, hm.c73, hm.c74, hm.c75, hm.c76, hm.c77, aT, inR]
    intro q hq
    have k100 := w1.A.1
    have k104 := w1.S'.1
    have k150 := w1.V.2.2.2.1 (S 2 0 0) u0 u4
    have n100 : (b 100 0 = q) = False := eq_false (fun e => by rw [← e] at hq; omega)
    have n104 : (b 104 0 = q) = False := eq_false (fun e => by rw [← e] at hq; omega)
    have w2 := w1.grow ib hvv hq (n := 2 * (S 6 0 0 + n)) (by omega)
    have b1 : nm b 104 0 q 100 0 = b 100 0 := nm_live hq (by omega) (by omega)
    have b2 : nm b 104 0 q 150 (S 2 0 0) = b 150 (S 2 0 0) := nm_live hq (by omega) (by omega)
    have b3 : nm b 104 0 q 150 (S 2 0 0 + 1) = b 150 (S 2 0 0 + 1) := nm_live hq (by omega) (by omega)
    have b4 : nm b 104 0 q 104 0 = q := nm_self _ _ _ _
    have ne3 : b 150 (S 2 0 0 + 1) ≠ q := fun e => by rw [← e] at hq; omega
    have ne1 : b 100 0 ≠ q := fun e => by rw [← e] at hq; omega
    have fm3 : FM a h (nm b 104 0 q) (pR (cpy (nw g2 q 10 (2 * (S 6 0 0 + n))) (b 104 0) 0 q 0 (S 6 0 0)) (b 100 0) 4 (some q)) := by
      refine fm2.trans ⟨Ij_nm ib _ _ _, (Fr_nw (a := b) (f := 104) (i := 0) hq (by omega)).trans (?_ : Fr _ _ (nw g2 q 10 (2 * (S 6 0 0 + n))) _ _), ?_, b1⟩
      · have e1 : (cpy (nw g2 q 10 (2 * (S 6 0 0 + n))) (b 104 0) 0 q 0 (S 6 0 0)) = (cpy (nw g2 q 10 (2 * (S 6 0 0 + n))) (b 104 0) 0 (nm b 104 0 q 104 0) 0 (S 6 0 0)) := by rw [b4]
        rw [e1, ← b1]
        exact (Fr_cpy (Ij_nm ib _ _ _) (by omega)).trans (Fr_pR (Ij_nm ib _ _ _) (by omega))
      · rw [b1, gI_pR, gI_cpy, if_neg (fun z => ne1 z.1), gI_nw, if_neg ne1]
    have row3 : ∀ j, gI (pR (cpy (nw g2 q 10 (2 * (S 6 0 0 + n))) (b 104 0) 0 q 0 (S 6 0 0)) (b 100 0) 4 (some q)) (b 150 (S 2 0 0 + 1)) j = gI g2 (b 150 (S 2 0 0 + 1)) j := fun j => by
      rw [gI_pR, gI_cpy, if_neg (fun z => ne3 z.1), gI_nw, if_neg ne3]
    simp (disch := first | assumption | omega) only [b_100_65, b_100_82, b_100_88, kont_v, kont_n, kont_x, Nat.reduceAdd, ad_some, kd_some, ixa, and_true, true_and, and_self, eq_self, ne_eq, brT, brF, true_or, or_true, and_imp, hm.c0, hm.c1, hm.c2, hm.c3, hm.c4, hm.c5, hm.c6, hm.c7, hm.c8, hm.c9, hm.c10, hm.c11, hm.c12, hm.c13, hm.c14, hm.c15, hm.c16, hm.c17, hm.c18, hm.c19, hm.c20, hm.c21, hm.c22, hm.c23, hm.c24, hm.c25, hm.c26, hm.c27, hm.c28, hm.c29, hm.c30, hm.c31, hm.c32, hm.c33, hm.c34, hm.c35, hm.c36, hm.c37, hm.c38, hm.c39, hm.c40, hm.c41, hm.c42, hm.c43, hm.c44, hm.c45, hm.c46, hm.c47, hm.c48, hm.c49, hm.c50, hm.c51, hm.c52, hm.c53, hm.c54, hm.c55, hm.c56, hm.c57, hm.c58, hm.c59, hm.c60, hm.c61, hm.c62, hm.c63, hm.c64, hm.c65, hm.c66, hm.c67, hm.c68, hm.c69, hm.c70, hm.c71, hm.c72, hm.c73, hm.c74, hm.c75, hm.c76, hm.c77, aT, inR, gK_nw, gL_nw, gI_nw, gR_nw, gK_cpy, gL_cpy, gR_cpy, gI_cpy, n100, n104, k104, false_and, and_false, if_true, if_false, eq_self]
    rw [← b1, ← b2, ← b3]
    rw [← b1] at fm3 w2
    have kq3 : gK (pR (cpy (nw g2 q 10 (2 * (S 6 0 0 + n))) (b 104 0) 0 q 0 (S 6 0 0)) (nm b 104 0 q 100 0) 4 (some q)) (nm b 104 0 q 150 (S 2 0 0 + 1)) = 10 := by
      rw [b3, gK_pR, gK_cpy, gK_nw, if_neg ne3]; exact kq2
    have lq3 : gL (pR (cpy (nw g2 q 10 (2 * (S 6 0 0 + n))) (b 104 0) 0 q 0 (S 6 0 0)) (nm b 104 0 q 100 0) 4 (some q)) (nm b 104 0 q 150 (S 2 0 0 + 1)) = S 3 (S 2 0 0) 0 + n := by
      rw [b3, gL_pR, gL_cpy, gL_nw, if_neg ne3]; exact lq2
    have ll3 : gL (pR (cpy (nw g2 q 10 (2 * (S 6 0 0 + n))) (b 104 0) 0 q 0 (S 6 0 0)) (nm b 104 0 q 100 0) 4 (some q)) (nm b 104 0 q 104 0) = 2 * (S 6 0 0 + n) := by
      rw [b4, gL_pR, gL_cpy, gL_nw, if_pos rfl]
    refine m_edL (h := pR (cpy (nw g2 q 10 (2 * (S 6 0 0 + n))) (b 104 0) 0 q 0 (S 6 0 0)) (nm b 104 0 q 100 0) 4 (some q)) (Ij_nm ib _ _ _) iv p n s hp hn hpc hs hz hv (fun g3 hm3 fm4 gc3 gs3 => hQ _ g3 hm3 (fm3.trans fm4) ?_ ?_) n.toNat 0 _ (by omega) (Int.le_refl _) hn.1 (by rw [SN_0]; exact w2) (FM.rfl' (Ij_nm ib _ _ _)) rfl rfl (by omega) kq3 lq3 (fun j j1 j2 => ?_)
    · rw [gc3, gC_pR, gC_cpy, gC_nw]; omega
    · rw [gs3, gS_pR, gS_cpy, gS_nw]; omega
    · rw [b3, ← b1] at *
      rw [row3]
      exact row j j1 j2
theorem m_cut (hi : Ij a) (hm : RepM a S h) (iv : Inv S) (p n : Int) (hp : 0 ≤ p) (hn : 0 ≤ n) (hpc : p + n ≤ S 3 (S 2 0 0) 0) (hv : S 2 0 0 < 60) (rc : gC h + 1 ≤ MXC) (rs : gS h + 200 ≤ MXS)
    (hQ : ∀ b g, RepM b (Scut S p n) g → FM a h b g → gC g ≤ gC h + 1 → gS g ≤ gS h + 200 → Q (.inl none) g) :
    WP 101 0 [some (zr (some (a 100 0))), some (zi p), some (zi n), none, none, none] [] h Q := by
  obtain ⟨u0, u1⟩ := iv.2.1.1
  obtain ⟨u2, u3⟩ := iv.2.1.2.1 (S 2 0 0) u0 (Int.le_refl _)
  have u4 := Int.le_refl (S 2 0 0)
  have hvv : 0 ≤ S 2 0 0 ∧ S 2 0 0 ≤ 60 := ⟨u0, u1⟩
  simp (disch := first | assumption | omega) only [b_101_0, b_101_4, kont_v, kont_n, kont_x, Nat.reduceAdd, ad_some, kd_some, ixa, and_true, true_and, and_self, eq_self, ne_eq, brT, brF, true_or, or_true, and_imp, hm.c0, hm.c1, hm.c2, hm.c3, hm.c4, hm.c5, hm.c6, hm.c7, hm.c8, hm.c9, hm.c10, hm.c11, hm.c12, hm.c13, hm.c14, hm.c15, hm.c16, hm.c17, hm.c18, hm.c19, hm.c20, hm.c21, hm.c22, hm.c23, hm.c24, hm.c25, hm.c26, hm.c27, hm.c28, hm.c29, hm.c30, hm.c31, hm.c32, hm.c33, hm.c34, hm.c35, hm.c36, hm.c37, hm.c38, hm.c39, hm.c40, hm.c41, hm.c42, hm.c43, hm.c44, hm.c45, hm.c46, hm.c47, hm.c48, hm.c49, hm.c50, hm.c51, hm.c52, hm.c53, hm.c54, hm.c55, hm.c56, hm.c57, hm.c58, hm.c59, hm.c60, hm.c61, hm.c62, hm.c63, hm.c64, hm.c65, hm.c66, hm.c67, hm.c68, hm.c69, hm.c70, hm.c71, hm.c72, hm.c73, hm.c74, hm.c75, hm.c76, hm.c77, m_text hm iv, aT, inR]
  refine newM hi hm hvv 150 (S 2 0 0 + 1) (S 3 (S 2 0 0) 0 - n) 10 (by omega) (by omega) (LvM_new (by omega)) (G := fun q g => WP 101 11 [some (zr (some (a 100 0))), some (zi p), some (zi n), some (zr (some (a 150 (S 2 0 0)))), none, none] [zr (some q)] g Q) (fun b g ib hmb fm gc gs kq lq liv => ?_)
  have k150 := hm.c31 (S 2 0 0) u0 u4
  obtain ⟨e150, s150⟩ := liv 150 (S 2 0 0) (by rw [k150]; omega) (by omega)
  have eI : ∀ j, 0 ≤ j → j < S 3 (S 2 0 0) 0 → gI g (b 150 (S 2 0 0)) j = S 4 (S 2 0 0) j := fun j j1 j2 => hmb.V.2.2.2.2.2 (S 2 0 0) j u0 u4 j1 j2
  have e100 := fm.2.2.2
  rw [← e100, ← e150]
  clear e150 s150 k150
  have hm0 := hm
  have hi0 := hi
  clear hm hi
  have hm := hmb
  have hi := ib
  have nlv : ¬ LvM S 150 (S 2 0 0 + 1) := LvM_new (by omega)
  have w1 := (hmb.wC ib hvv nlv (s := b 150 (S 2 0 0)) (sp := 0) (dp := 0) (n := p)).wC ib hvv nlv (s := b 150 (S 2 0 0)) (sp := p + n) (dp := p) (n := S 3 (S 2 0 0) 0 - n - p)
  have fm2 : FM a h b (cpy (cpy g (b 150 (S 2 0 0)) 0 (b 150 (S 2 0 0 + 1)) 0 p) (b 150 (S 2 0 0)) (p + n) (b 150 (S 2 0 0 + 1)) p (S 3 (S 2 0 0) 0 - n - p)) := fm.trans ((FM.C ib (by omega) (by omega)).trans (FM.C ib (by omega) (by omega)))
  have w0 : RepM b (SN S 0 0) (cpy (cpy g (b 150 (S 2 0 0)) 0 (b 150 (S 2 0 0 + 1)) 0 p) (b 150 (S 2 0 0)) (p + n) (b 150 (S 2 0 0 + 1)) p (S 3 (S 2 0 0) 0 - n - p)) := by rw [SN_0]; exact w1
  have w : RepM b (TX S p n 0 0) _ := w0.wVer ib (S 3 (S 2 0 0) 0 - n + 0) (fun j => if j < p then S 4 (S 2 0 0) j else if j < p + 0 then S 6 0 0 + (j - p) else S 4 (S 2 0 0) (j - 0 + n)) kq (by show gL g (b 150 (S 2 0 0 + 1)) = _; omega) (fun j j1 j2 => by
    show gI _ (b 150 (S 2 0 0 + 1)) j = _
    by_cases d : j < p
    · rw [if_pos d, gI_cpy, if_neg (by omega), gI_cpy, if_pos ⟨rfl, by omega, by omega⟩, show 0 + (j - 0) = j by omega]
      exact eI j j1 (by omega)
    · rw [if_neg d, if_neg (by omega), gI_cpy, if_pos ⟨rfl, by omega, by omega⟩, gI_cpy, if_neg (fun z => by rw [ib] at z; omega), show p + n + (j - p) = j - 0 + n by omega]
      exact eI _ (by omega) (by omega))
  simp (disch := first | assumption | omega) only [b_101_11, b_101_22, b_101_37, b_101_52, b_101_55, kont_v, kont_n, kont_x, Nat.reduceAdd, ad_some, kd_some, ixa, and_true, true_and, and_self, eq_self, ne_eq, brT, brF, true_or, or_true, and_imp, hm.c0, hm.c1, hm.c2, hm.c3, hm.c4, hm.c5, hm.c6, hm.c7, hm.c8, hm.c9, hm.c10, hm.c11, hm.c12, hm.c13, hm.c14, hm.c15, hm.c16, hm.c17, hm.c18, hm.c19, hm.c20, hm.c21, hm.c22, hm.c23, hm.c24, hm.c25, hm.c26, hm.c27, hm.c28, hm.c29, hm.c30, hm.c31, hm.c32, hm.c33, hm.c34, hm.c35, hm.c36, hm.c37, hm.c38, hm.c39, hm.c40, hm.c41, hm.c42, hm.c43, hm.c44, hm.c45, hm.c46, hm.c47, hm.c48, hm.c49, hm.c50, hm.c51, hm.c52, hm.c53, hm.c54, hm.c55, hm.c56, hm.c57, hm.c58, hm.c59, hm.c60, hm.c61, hm.c62, hm.c63, hm.c64, hm.c65, hm.c66, hm.c67, hm.c68, hm.c69, hm.c70, hm.c71, hm.c72, hm.c73, hm.c74, hm.c75, hm.c76, hm.c77, aT, inR, kq, lq, gK_pI, gL_pI, gR_pI, gI_pI, gK_cpy, gL_cpy, gR_cpy, gI_cpy, hi, reduceCtorEq, Nat.reduceEqDiff, Int.reduceEq, and_false, false_and, if_false]
  refine m_cutL (T := TX S p n 0 0) (h := cpy (cpy g (b 150 (S 2 0 0)) 0 (b 150 (S 2 0 0 + 1)) 0 p) (b 150 (S 2 0 0)) (p + n) (b 150 (S 2 0 0 + 1)) p (S 3 (S 2 0 0) 0 - n - p)) ib p n _ _ iv.2.2.1.1 (fun k hk => ?_) ⟨hn, by omega⟩ ⟨hp, by omega⟩ (fun g3 hm3 fm3 gc3 gs3 => hQ b g3 hm3 (fm2.trans fm3) ?_ ?_) (S 7 0 0).toNat 0 _ (by show _ = (S 7 0 0 - 0).toNat; omega) (Int.le_refl _) iv.2.2.1.1.1 (by rw [MC_0]; exact w) ((FM.I ib (by omega) (by omega) (by omega)).trans (FM.R ib (by omega) (by omega))) rfl rfl
  · have := (iv.2.2.1.2.2.2.1 k hk).1
    show 0 ≤ S 13 k 0 ∧ S 13 k 0 ≤ 200 ∧ 0 ≤ S 14 k 0 ∧ S 14 k 0 ≤ 200
    omega
  · rw [gc3, gC_cpy, gC_cpy]; omega
  · rw [gs3, gS_cpy, gS_cpy]; omega
theorem EM.of {b : Na} {g : Zh} (f : FM (a := a) h b g) (c : gC g ≤ gC h + 80) (s : gS g ≤ gS h + 5600) : EM a h b g := ⟨f.1, f.2.1, c, s, f.2.2.2⟩
theorem tw_FM (hi : Ij a) {b : Na} {g : Zh} {x : Int} (f : FM a (tw a h x) b g) (c : gC g ≤ gC h + 80) (s : gS g ≤ gS h + 5600) : EM a h b g ∧ gI g (b 100 0) 0 = x := ⟨⟨f.1, (Fr_tw hi (by omega)).trans f.2.1, c, s, f.2.2.2⟩, f.2.2.1.trans (tw_0 a h x)⟩
theorem m_insert (hi : Ij a) (hm : RepM a S h) (iv : Inv S) (rc : gC h + 80 ≤ MXC) (rs : gS h + 5600 ≤ MXS) (u p n s : Int) (k : br (0 ≤ u ∧ u < S 0 0 0) (br (0 ≤ p ∧ p ≤ S 3 (S 2 0 0) 0) (br ((1 ≤ n ∧ n ≤ 40) ∧ 0 ≤ s ∧ s ≤ 25) (br (3 ≤ S 1 u 0 ∧ S 3 (S 2 0 0) 0 + n ≤ 200 ∧ S 2 0 0 < 60) (MK a (Sput S p n s) h Q (zi (S 3 (S 2 0 0) 0 + n)) 0) (MK a S h Q (zi 0) 3)) (MK a S h Q (zi 0) 2)) (MK a S h Q (zi 0) 1)) (MK a S h Q (zi 0) 1)) :
    WP 102 0 [some (zr (some (a 100 0))), some (zi u), some (zi p), some (zi n), some (zi s)] [] h Q := by
  obtain ⟨u0, u1⟩ := iv.2.1.1
  obtain ⟨u2, u3⟩ := iv.2.1.2.1 (S 2 0 0) u0 (Int.le_refl _)
  obtain ⟨w0, w1⟩ := iv.1.1
  have u4 := Int.le_refl (S 2 0 0)
  have hw : RepM a S (tw a h 0) := hm.tw hi 0
  simp (disch := first | assumption | omega) only [b_102_0, kont_v, kont_n, kont_x, Nat.reduceAdd, ad_some, kd_some, ixa, and_true, true_and, and_self, eq_self, ne_eq, brT, brF, true_or, or_true, and_imp, hm.c0, hm.c1, hm.c2, hm.c3, hm.c4, hm.c5, hm.c6, hm.c7, hm.c8, hm.c9, hm.c10, hm.c11, hm.c12, hm.c13, hm.c14, hm.c15, hm.c16, hm.c17, hm.c18, hm.c19, hm.c20, hm.c21, hm.c22, hm.c23, hm.c24, hm.c25, hm.c26, hm.c27, hm.c28, hm.c29, hm.c30, hm.c31, hm.c32, hm.c33, hm.c34, hm.c35, hm.c36, hm.c37, hm.c38, hm.c39, hm.c40, hm.c41, hm.c42, hm.c43, hm.c44, hm.c45, hm.c46, hm.c47, hm.c48, hm.c49, hm.c50, hm.c51, hm.c52, hm.c53, hm.c54, hm.c55, hm.c56, hm.c57, hm.c58, hm.c59, hm.c60, hm.c61, hm.c62, hm.c63, hm.c64, hm.c65, hm.c66, hm.c67, hm.c68, hm.c69, hm.c70, hm.c71, hm.c72, hm.c73, hm.c74, hm.c75, hm.c76, hm.c77, aT, inR, tw_e]
  have hm0 := hm
  have hm := hw
  by_cases c1 : 0 ≤ u ∧ u < S 0 0 0
  · rw [brt c1] at k
    by_cases c2 : 0 ≤ p ∧ p ≤ S 3 (S 2 0 0) 0
    · rw [brt c2] at k
      by_cases c3 : 1 ≤ n ∧ n ≤ 40
      · by_cases c4 : 0 ≤ s ∧ s ≤ 25
        · rw [brt ⟨c3, c4⟩] at k
          by_cases c5 : 3 ≤ S 1 u 0
          · by_cases c6 : S 3 (S 2 0 0) 0 + n ≤ 200 ∧ S 2 0 0 < 60
            · rw [brt ⟨c5, c6⟩] at k
              obtain ⟨c6, c7⟩ := c6
              simp (disch := first | assumption | omega) only [b_102_5, b_102_10, b_102_13, b_102_19, b_102_23, b_102_26, b_102_31, b_102_32, b_102_39, b_102_42, b_102_50, b_102_53, b_102_58, b_102_59, b_102_69, b_102_73, b_102_82, b_102_91, b_102_96, b_102_97, b_102_105, b_102_109, kont_v, kont_n, kont_x, Nat.reduceAdd, ad_some, kd_some, ixa, and_true, true_and, and_self, eq_self, ne_eq, brT, brF, true_or, or_true, and_imp, hm.c0, hm.c1, hm.c2, hm.c3, hm.c4, hm.c5, hm.c6, hm.c7, hm.c8, hm.c9, hm.c10, hm.c11, hm.c12, hm.c13, hm.c14, hm.c15, hm.c16, hm.c17, hm.c18, hm.c19, hm.c20, hm.c21, hm.c22, hm.c23, hm.c24, hm.c25, hm.c26, hm.c27, hm.c28, hm.c29, hm.c30, hm.c31, hm.c32, hm.c33, hm.c34, hm.c35, hm.c36, hm.c37, hm.c38, hm.c39, hm.c40, hm.c41, hm.c42, hm.c43, hm.c44, hm.c45, hm.c46, hm.c47, hm.c48, hm.c49, hm.c50, hm.c51, hm.c52, hm.c53, hm.c54, hm.c55, hm.c56, hm.c57, hm.c58, hm.c59, hm.c60, hm.c61, hm.c62, hm.c63, hm.c64, hm.c65, hm.c66, hm.c67, hm.c68, hm.c69, hm.c70, hm.c71, hm.c72, hm.c73, hm.c74, hm.c75, hm.c76, hm.c77, aT, inR, m_isUser hm iv, m_isNote hm iv, m_isIn, m_may hm iv, m_text hm iv, m_no hm iv, m_isNot hm iv, brt, brf, b2iT, b2iF, b2i_0, brN, brT, brF, brS, Classical.not_not, not_true_eq_false, not_false_eq_true, b2i_t, b2i_f, one_ne0, zz01, oz01, and_false, false_and, or_self, gK_pI, gL_pI, gR_pI, gI_pI, hi, reduceCtorEq, Nat.reduceEqDiff, Int.reduceEq, if_true, if_false]
              refine m_put hi hw iv p n s c2.1 ⟨by omega, c3.2⟩ c2.2 c4 c6 c7 (by show gC h + 2 ≤ _; omega) (by show gS h + 5080 ≤ _; omega) (fun b g hm2 fm gc gs => ?_)
              have gc : gC g ≤ gC h + 2 := gc
              have gs : gS g ≤ gS h + 5080 := gs
              have iv2 := inv_put iv p n s c2.1 ⟨by omega, c3.2⟩ c2.2 c4 c6 c7
              obtain ⟨em, t0⟩ := tw_FM hi fm (by omega) (by omega)
              have k2 := k b g hm2 t0 em
              have hm := hm2
              have v0 := iv2.2.1.1.1
              have v1 := Int.le_refl (Sput S p n s 2 0 0)
              rw [← fm.2.2.2]
              simp (disch := first | assumption | omega) only [b_102_0, b_102_5, b_102_10, b_102_13, b_102_19, b_102_23, b_102_26, b_102_31, b_102_32, b_102_39, b_102_42, b_102_50, b_102_53, b_102_58, b_102_59, b_102_69, b_102_73, b_102_82, b_102_91, b_102_96, b_102_97, b_102_105, b_102_109, kont_v, kont_n, kont_x, Nat.reduceAdd, ad_some, kd_some, ixa, and_true, true_and, and_self, eq_self, ne_eq, brT, brF, true_or, or_true, and_imp, hm.c0, hm.c1, hm.c2, hm.c3, hm.c4, hm.c5, hm.c6, hm.c7, hm.c8, hm.c9, hm.c10, hm.c11, hm.c12, hm.c13, hm.c14, hm.c15, hm.c16, hm.c17, hm.c18, hm.c19, hm.c20, hm.c21, hm.c22, hm.c23, hm.c24, hm.c25, hm.c26, hm.c27, hm.c28, hm.c29, hm.c30, hm.c31, hm.c32, hm.c33, hm.c34, hm.c35, hm.c36, hm.c37, hm.c38, hm.c39, hm.c40, hm.c41, hm.c42, hm.c43, hm.c44, hm.c45, hm.c46, hm.c47, hm.c48, hm.c49, hm.c50, hm.c51, hm.c52, hm.c53, hm.c54, hm.c55, hm.c56, hm.c57, hm.c58, hm.c59, hm.c60, hm.c61, hm.c62, hm.c63, hm.c64, hm.c65, hm.c66, hm.c67, hm.c68, hm.c69, hm.c70, hm.c71, hm.c72, hm.c73, hm.c74, hm.c75, hm.c76, hm.c77, aT, inR, m_text hm2 iv2, Sput_sz]
              exact k2
            · rw [brf (fun z => c6 z.2)] at k
              have k := k.tw2 (x := 0) hi hm0
              by_cases c8 : S 3 (S 2 0 0) 0 + n ≤ 200
              · simp (disch := first | assumption | omega) only [b_102_5, b_102_10, b_102_13, b_102_19, b_102_23, b_102_26, b_102_31, b_102_32, b_102_39, b_102_42, b_102_50, b_102_53, b_102_58, b_102_59, b_102_69, b_102_73, b_102_82, b_102_91, b_102_96, b_102_97, b_102_105, b_102_109, kont_v, kont_n, kont_x, Nat.reduceAdd, ad_some, kd_some, ixa, and_true, true_and, and_self, eq_self, ne_eq, brT, brF, true_or, or_true, and_imp, hm.c0, hm.c1, hm.c2, hm.c3, hm.c4, hm.c5, hm.c6, hm.c7, hm.c8, hm.c9, hm.c10, hm.c11, hm.c12, hm.c13, hm.c14, hm.c15, hm.c16, hm.c17, hm.c18, hm.c19, hm.c20, hm.c21, hm.c22, hm.c23, hm.c24, hm.c25, hm.c26, hm.c27, hm.c28, hm.c29, hm.c30, hm.c31, hm.c32, hm.c33, hm.c34, hm.c35, hm.c36, hm.c37, hm.c38, hm.c39, hm.c40, hm.c41, hm.c42, hm.c43, hm.c44, hm.c45, hm.c46, hm.c47, hm.c48, hm.c49, hm.c50, hm.c51, hm.c52, hm.c53, hm.c54, hm.c55, hm.c56, hm.c57, hm.c58, hm.c59, hm.c60, hm.c61, hm.c62, hm.c63, hm.c64, hm.c65, hm.c66, hm.c67, hm.c68, hm.c69, hm.c70, hm.c71, hm.c72, hm.c73, hm.c74, hm.c75, hm.c76, hm.c77, aT, inR, m_isUser hm iv, m_isNote hm iv, m_isIn, m_may hm iv, m_text hm iv, m_no hm iv, m_isNot hm iv, brt, brf, b2iT, b2iF, b2i_0, brN, brT, brF, brS, Classical.not_not, not_true_eq_false, not_false_eq_true, b2i_t, b2i_f, one_ne0, zz01, oz01, and_false, false_and, or_self, gK_pI, gL_pI, gR_pI, gI_pI, hi, reduceCtorEq, Nat.reduceEqDiff, Int.reduceEq, if_true, if_false]
                exact k
              · simp (disch := first | assumption | omega) only [b_102_5, b_102_10, b_102_13, b_102_19, b_102_23, b_102_26, b_102_31, b_102_32, b_102_39, b_102_42, b_102_50, b_102_53, b_102_58, b_102_59, b_102_69, b_102_73, b_102_82, b_102_91, b_102_96, b_102_97, b_102_105, b_102_109, kont_v, kont_n, kont_x, Nat.reduceAdd, ad_some, kd_some, ixa, and_true, true_and, and_self, eq_self, ne_eq, brT, brF, true_or, or_true, and_imp, hm.c0, hm.c1, hm.c2, hm.c3, hm.c4, hm.c5, hm.c6, hm.c7, hm.c8, hm.c9, hm.c10, hm.c11, hm.c12, hm.c13, hm.c14, hm.c15, hm.c16, hm.c17, hm.c18, hm.c19, hm.c20, hm.c21, hm.c22, hm.c23, hm.c24, hm.c25, hm.c26, hm.c27, hm.c28, hm.c29, hm.c30, hm.c31, hm.c32, hm.c33, hm.c34, hm.c35, hm.c36, hm.c37, hm.c38, hm.c39, hm.c40, hm.c41, hm.c42, hm.c43, hm.c44, hm.c45, hm.c46, hm.c47, hm.c48, hm.c49, hm.c50, hm.c51, hm.c52, hm.c53, hm.c54, hm.c55, hm.c56, hm.c57, hm.c58, hm.c59, hm.c60, hm.c61, hm.c62, hm.c63, hm.c64, hm.c65, hm.c66, hm.c67, hm.c68, hm.c69, hm.c70, hm.c71, hm.c72, hm.c73, hm.c74, hm.c75, hm.c76, hm.c77, aT, inR, m_isUser hm iv, m_isNote hm iv, m_isIn, m_may hm iv, m_text hm iv, m_no hm iv, m_isNot hm iv, brt, brf, b2iT, b2iF, b2i_0, brN, brT, brF, brS, Classical.not_not, not_true_eq_false, not_false_eq_true, b2i_t, b2i_f, one_ne0, zz01, oz01, and_false, false_and, or_self, gK_pI, gL_pI, gR_pI, gI_pI, hi, reduceCtorEq, Nat.reduceEqDiff, Int.reduceEq, if_true, if_false]
                exact k
          · rw [brf (fun z => c5 z.1)] at k
            have k := k.tw2 (x := 0) hi hm0
            simp (disch := first | assumption | omega) only [b_102_5, b_102_10, b_102_13, b_102_19, b_102_23, b_102_26, b_102_31, b_102_32, b_102_39, b_102_42, b_102_50, b_102_53, b_102_58, b_102_59, b_102_69, b_102_73, b_102_82, b_102_91, b_102_96, b_102_97, b_102_105, b_102_109, kont_v, kont_n, kont_x, Nat.reduceAdd, ad_some, kd_some, ixa, and_true, true_and, and_self, eq_self, ne_eq, brT, brF, true_or, or_true, and_imp, hm.c0, hm.c1, hm.c2, hm.c3, hm.c4, hm.c5, hm.c6, hm.c7, hm.c8, hm.c9, hm.c10, hm.c11, hm.c12, hm.c13, hm.c14, hm.c15, hm.c16, hm.c17, hm.c18, hm.c19, hm.c20, hm.c21, hm.c22, hm.c23, hm.c24, hm.c25, hm.c26, hm.c27, hm.c28, hm.c29, hm.c30, hm.c31, hm.c32, hm.c33, hm.c34, hm.c35, hm.c36, hm.c37, hm.c38, hm.c39, hm.c40, hm.c41, hm.c42, hm.c43, hm.c44, hm.c45, hm.c46, hm.c47, hm.c48, hm.c49, hm.c50, hm.c51, hm.c52, hm.c53, hm.c54, hm.c55, hm.c56, hm.c57, hm.c58, hm.c59, hm.c60, hm.c61, hm.c62, hm.c63, hm.c64, hm.c65, hm.c66, hm.c67, hm.c68, hm.c69, hm.c70, hm.c71, hm.c72, hm.c73, hm.c74, hm.c75, hm.c76, hm.c77, aT, inR, m_isUser hm iv, m_isNote hm iv, m_isIn, m_may hm iv, m_text hm iv, m_no hm iv, m_isNot hm iv, brt, brf, b2iT, b2iF, b2i_0, brN, brT, brF, brS, Classical.not_not, not_true_eq_false, not_false_eq_true, b2i_t, b2i_f, one_ne0, zz01, oz01, and_false, false_and, or_self, gK_pI, gL_pI, gR_pI, gI_pI, hi, reduceCtorEq, Nat.reduceEqDiff, Int.reduceEq, if_true, if_false]
            exact k
        · rw [brf (fun z => c4 z.2)] at k
          have k := k.tw2 (x := 0) hi hm0
          simp (disch := first | assumption | omega) only [b_102_5, b_102_10, b_102_13, b_102_19, b_102_23, b_102_26, b_102_31, b_102_32, b_102_39, b_102_42, b_102_50, b_102_53, b_102_58, b_102_59, b_102_69, b_102_73, b_102_82, b_102_91, b_102_96, b_102_97, b_102_105, b_102_109, kont_v, kont_n, kont_x, Nat.reduceAdd, ad_some, kd_some, ixa, and_true, true_and, and_self, eq_self, ne_eq, brT, brF, true_or, or_true, and_imp, hm.c0, hm.c1, hm.c2, hm.c3, hm.c4, hm.c5, hm.c6, hm.c7, hm.c8, hm.c9, hm.c10, hm.c11, hm.c12, hm.c13, hm.c14, hm.c15, hm.c16, hm.c17, hm.c18, hm.c19, hm.c20, hm.c21, hm.c22, hm.c23, hm.c24, hm.c25, hm.c26, hm.c27, hm.c28, hm.c29, hm.c30, hm.c31, hm.c32, hm.c33, hm.c34, hm.c35, hm.c36, hm.c37, hm.c38, hm.c39, hm.c40, hm.c41, hm.c42, hm.c43, hm.c44, hm.c45, hm.c46, hm.c47, hm.c48, hm.c49, hm.c50, hm.c51, hm.c52, hm.c53, hm.c54, hm.c55, hm.c56, hm.c57, hm.c58, hm.c59, hm.c60, hm.c61, hm.c62, hm.c63, hm.c64, hm.c65, hm.c66, hm.c67, hm.c68, hm.c69, hm.c70, hm.c71, hm.c72, hm.c73, hm.c74, hm.c75, hm.c76, hm.c77, aT, inR, m_isUser hm iv, m_isNote hm iv, m_isIn, m_may hm iv, m_text hm iv, m_no hm iv, m_isNot hm iv, brt, brf, b2iT, b2iF, b2i_0, brN, brT, brF, brS, Classical.not_not, not_true_eq_false, not_false_eq_true, b2i_t, b2i_f, one_ne0, zz01, oz01, and_false, false_and, or_self, gK_pI, gL_pI, gR_pI, gI_pI, hi, reduceCtorEq, Nat.reduceEqDiff, Int.reduceEq, if_true, if_false]
          exact k
      · rw [brf (fun z => c3 z.1)] at k
        have k := k.tw2 (x := 0) hi hm0
        simp (disch := first | assumption | omega) only [b_102_5, b_102_10, b_102_13, b_102_19, b_102_23, b_102_26, b_102_31, b_102_32, b_102_39, b_102_42, b_102_50, b_102_53, b_102_58, b_102_59, b_102_69, b_102_73, b_102_82, b_102_91, b_102_96, b_102_97, b_102_105, b_102_109, kont_v, kont_n, kont_x, Nat.reduceAdd, ad_some, kd_some, ixa, and_true, true_and, and_self, eq_self, ne_eq, brT, brF, true_or, or_true, and_imp, hm.c0, hm.c1, hm.c2, hm.c3, hm.c4, hm.c5, hm.c6, hm.c7, hm.c8, hm.c9, hm.c10, hm.c11, hm.c12, hm.c13, hm.c14, hm.c15, hm.c16, hm.c17, hm.c18, hm.c19, hm.c20, hm.c21, hm.c22, hm.c23, hm.c24, hm.c25, hm.c26, hm.c27, hm.c28, hm.c29, hm.c30, hm.c31, hm.c32, hm.c33, hm.c34, hm.c35, hm.c36, hm.c37, hm.c38, hm.c39, hm.c40, hm.c41, hm.c42, hm.c43, hm.c44, hm.c45, hm.c46, hm.c47, hm.c48, hm.c49, hm.c50, hm.c51, hm.c52, hm.c53, hm.c54, hm.c55, hm.c56, hm.c57, hm.c58, hm.c59, hm.c60, hm.c61, hm.c62, hm.c63, hm.c64, hm.c65, hm.c66, hm.c67, hm.c68, hm.c69, hm.c70, hm.c71, hm.c72, hm.c73, hm.c74, hm.c75, hm.c76, hm.c77, aT, inR, m_isUser hm iv, m_isNote hm iv, m_isIn, m_may hm iv, m_text hm iv, m_no hm iv, m_isNot hm iv, brt, brf, b2iT, b2iF, b2i_0, brN, brT, brF, brS, Classical.not_not, not_true_eq_false, not_false_eq_true, b2i_t, b2i_f, one_ne0, zz01, oz01, and_false, false_and, or_self, gK_pI, gL_pI, gR_pI, gI_pI, hi, reduceCtorEq, Nat.reduceEqDiff, Int.reduceEq, if_true, if_false]
        exact k
    · rw [brf c2] at k
      have k := k.tw2 (x := 0) hi hm0
      simp (disch := first | assumption | omega) only [b_102_5, b_102_10, b_102_13, b_102_19, b_102_23, b_102_26, b_102_31, b_102_32, b_102_39, b_102_42, b_102_50, b_102_53, b_102_58, b_102_59, b_102_69, b_102_73, b_102_82, b_102_91, b_102_96, b_102_97, b_102_105, b_102_109, kont_v, kont_n, kont_x, Nat.reduceAdd, ad_some, kd_some, ixa, and_true, true_and, and_self, eq_self, ne_eq, brT, brF, true_or, or_true, and_imp, hm.c0, hm.c1, hm.c2, hm.c3, hm.c4, hm.c5, hm.c6, hm.c7, hm.c8, hm.c9, hm.c10, hm.c11, hm.c12, hm.c13, hm.c14, hm.c15, hm.c16, hm.c17, hm.c18, hm.c19, hm.c20, hm.c21, hm.c22, hm.c23, hm.c24, hm.c25, hm.c26, hm.c27, hm.c28, hm.c29, hm.c30, hm.c31, hm.c32, hm.c33, hm.c34, hm.c35, hm.c36, hm.c37, hm.c38, hm.c39, hm.c40, hm.c41, hm.c42, hm.c43, hm.c44, hm.c45, hm.c46, hm.c47, hm.c48, hm.c49, hm.c50, hm.c51, hm.c52, hm.c53, hm.c54, hm.c55, hm.c56, hm.c57, hm.c58, hm.c59, hm.c60, hm.c61, hm.c62, hm.c63, hm.c64, hm.c65, hm.c66, hm.c67, hm.c68, hm.c69, hm.c70, hm.c71, hm.c72, hm.c73, hm.c74, hm.c75, hm.c76, hm.c77, aT, inR, m_isUser hm iv, m_isNote hm iv, m_isIn, m_may hm iv, m_text hm iv, m_no hm iv, m_isNot hm iv, brt, brf, b2iT, b2iF, b2i_0, brN, brT, brF, brS, Classical.not_not, not_true_eq_false, not_false_eq_true, b2i_t, b2i_f, one_ne0, zz01, oz01, and_false, false_and, or_self, gK_pI, gL_pI, gR_pI, gI_pI, hi, reduceCtorEq, Nat.reduceEqDiff, Int.reduceEq, if_true, if_false]
      exact k
  · rw [brf c1] at k
    have k := k.tw2 (x := 0) hi hm0
    simp (disch := first | assumption | omega) only [b_102_5, b_102_10, b_102_13, b_102_19, b_102_23, b_102_26, b_102_31, b_102_32, b_102_39, b_102_42, b_102_50, b_102_53, b_102_58, b_102_59, b_102_69, b_102_73, b_102_82, b_102_91, b_102_96, b_102_97, b_102_105, b_102_109, kont_v, kont_n, kont_x, Nat.reduceAdd, ad_some, kd_some, ixa, and_true, true_and, and_self, eq_self, ne_eq, brT, brF, true_or, or_true, and_imp, hm.c0, hm.c1, hm.c2, hm.c3, hm.c4, hm.c5, hm.c6, hm.c7, hm.c8, hm.c9, hm.c10, hm.c11, hm.c12, hm.c13, hm.c14, hm.c15, hm.c16, hm.c17, hm.c18, hm.c19, hm.c20, hm.c21, hm.c22, hm.c23, hm.c24, hm.c25, hm.c26, hm.c27, hm.c28, hm.c29, hm.c30, hm.c31, hm.c32, hm.c33, hm.c34, hm.c35, hm.c36, hm.c37, hm.c38, hm.c39, hm.c40, hm.c41, hm.c42, hm.c43, hm.c44, hm.c45, hm.c46, hm.c47, hm.c48, hm.c49, hm.c50, hm.c51, hm.c52, hm.c53, hm.c54, hm.c55, hm.c56, hm.c57, hm.c58, hm.c59, hm.c60, hm.c61, hm.c62, hm.c63, hm.c64, hm.c65, hm.c66, hm.c67, hm.c68, hm.c69, hm.c70, hm.c71, hm.c72, hm.c73, hm.c74, hm.c75, hm.c76, hm.c77, aT, inR, m_isUser hm iv, m_isNote hm iv, m_isIn, m_may hm iv, m_text hm iv, m_no hm iv, m_isNot hm iv, brt, brf, b2iT, b2iF, b2i_0, brN, brT, brF, brS, Classical.not_not, not_true_eq_false, not_false_eq_true, b2i_t, b2i_f, one_ne0, zz01, oz01, and_false, false_and, or_self, gK_pI, gL_pI, gR_pI, gI_pI, hi, reduceCtorEq, Nat.reduceEqDiff, Int.reduceEq, if_true, if_false]
    exact k
theorem m_delete (hi : Ij a) (hm : RepM a S h) (iv : Inv S) (rc : gC h + 80 ≤ MXC) (rs : gS h + 5600 ≤ MXS) (u p n : Int) (k : br (0 ≤ u ∧ u < S 0 0 0) (br (0 ≤ p ∧ p < S 3 (S 2 0 0) 0) (br (1 ≤ n ∧ n ≤ S 3 (S 2 0 0) 0 - p) (br (3 ≤ S 1 u 0 ∧ S 2 0 0 < 60) (MK a (Scut S p n) h Q (zi (S 3 (S 2 0 0) 0 - n)) 0) (MK a S h Q (zi 0) 3)) (MK a S h Q (zi 0) 2)) (MK a S h Q (zi 0) 1)) (MK a S h Q (zi 0) 1)) :
    WP 103 0 [some (zr (some (a 100 0))), some (zi u), some (zi p), some (zi n)] [] h Q := by
  obtain ⟨u0, u1⟩ := iv.2.1.1
  obtain ⟨u2, u3⟩ := iv.2.1.2.1 (S 2 0 0) u0 (Int.le_refl _)
  obtain ⟨w0, w1⟩ := iv.1.1
  have u4 := Int.le_refl (S 2 0 0)
  have hw : RepM a S (tw a h 0) := hm.tw hi 0
  simp (disch := first | assumption | omega) only [b_103_0, kont_v, kont_n, kont_x, Nat.reduceAdd, ad_some, kd_some, ixa, and_true, true_and, and_self, eq_self, ne_eq, brT, brF, true_or, or_true, and_imp, hm.c0, hm.c1, hm.c2, hm.c3, hm.c4, hm.c5, hm.c6, hm.c7, hm.c8, hm.c9, hm.c10, hm.c11, hm.c12, hm.c13, hm.c14, hm.c15, hm.c16, hm.c17, hm.c18, hm.c19, hm.c20, hm.c21, hm.c22, hm.c23, hm.c24, hm.c25, hm.c26, hm.c27, hm.c28, hm.c29, hm.c30, hm.c31, hm.c32, hm.c33, hm.c34, hm.c35, hm.c36, hm.c37, hm.c38, hm.c39, hm.c40, hm.c41, hm.c42, hm.c43, hm.c44, hm.c45, hm.c46, hm.c47, hm.c48, hm.c49, hm.c50, hm.c51, hm.c52, hm.c53, hm.c54, hm.c55, hm.c56, hm.c57, hm.c58, hm.c59, hm.c60, hm.c61, hm.c62, hm.c63, hm.c64, hm.c65, hm.c66, hm.c67, hm.c68, hm.c69, hm.c70, hm.c71, hm.c72, hm.c73, hm.c74, hm.c75, hm.c76, hm.c77, aT, inR, tw_e]
  have hm0 := hm
  have hm := hw
  by_cases c1 : 0 ≤ u ∧ u < S 0 0 0
  · rw [brt c1] at k
    by_cases c2 : 0 ≤ p ∧ p ≤ S 3 (S 2 0 0) 0 - 1
    · rw [brt (by omega)] at k
      by_cases c3 : 1 ≤ n ∧ n ≤ S 3 (S 2 0 0) 0 - p
      · rw [brt c3] at k
        by_cases c5 : 3 ≤ S 1 u 0
        · by_cases c7 : S 2 0 0 < 60
          · rw [brt ⟨c5, c7⟩] at k
            simp (disch := first | assumption | omega) only [b_103_5, b_103_10, b_103_13, b_103_19, b_103_25, b_103_28, b_103_33, b_103_34, b_103_40, b_103_46, b_103_49, b_103_54, b_103_55, b_103_65, b_103_74, b_103_79, b_103_80, kont_v, kont_n, kont_x, Nat.reduceAdd, ad_some, kd_some, ixa, and_true, true_and, and_self, eq_self, ne_eq, brT, brF, true_or, or_true, and_imp, hm.c0, hm.c1, hm.c2, hm.c3, hm.c4, hm.c5, hm.c6, hm.c7, hm.c8, hm.c9, hm.c10, hm.c11, hm.c12, hm.c13, hm.c14, hm.c15, hm.c16, hm.c17, hm.c18, hm.c19, hm.c20, hm.c21, hm.c22, hm.c23, hm.c24, hm.c25, hm.c26, hm.c27, hm.c28, hm.c29, hm.c30, hm.c31, hm.c32, hm.c33, hm.c34, hm.c35, hm.c36, hm.c37, hm.c38, hm.c39, hm.c40, hm.c41, hm.c42, hm.c43, hm.c44, hm.c45, hm.c46, hm.c47, hm.c48, hm.c49, hm.c50, hm.c51, hm.c52, hm.c53, hm.c54, hm.c55, hm.c56, hm.c57, hm.c58, hm.c59, hm.c60, hm.c61, hm.c62, hm.c63, hm.c64, hm.c65, hm.c66, hm.c67, hm.c68, hm.c69, hm.c70, hm.c71, hm.c72, hm.c73, hm.c74, hm.c75, hm.c76, hm.c77, aT, inR, m_isUser hm iv, m_isNote hm iv, m_isIn, m_may hm iv, m_text hm iv, m_no hm iv, m_isNot hm iv, brt, brf, b2iT, b2iF, b2i_0, brN, brT, brF, brS, Classical.not_not, not_true_eq_false, not_false_eq_true, b2i_t, b2i_f, one_ne0, zz01, oz01, and_false, false_and, or_self, gK_pI, gL_pI, gR_pI, gI_pI, hi, reduceCtorEq, Nat.reduceEqDiff, Int.reduceEq, if_true, if_false]
            refine m_cut hi hw iv p n c2.1 (by omega) (by omega) c7 (by show gC h + 1 ≤ _; omega) (by show gS h + 200 ≤ _; omega) (fun b g hm2 fm gc gs => ?_)
            have gc : gC g ≤ gC h + 1 := gc
            have gs : gS g ≤ gS h + 200 := gs
            have iv2 := inv_cut iv p n c2.1 (by omega) (by omega) c7
            obtain ⟨em, t0⟩ := tw_FM hi fm (by omega) (by omega)
            have k2 := k b g hm2 t0 em
            have hm := hm2
            have v0 := iv2.2.1.1.1
            have v1 := Int.le_refl (Scut S p n 2 0 0)
            rw [← fm.2.2.2]
            simp (disch := first | assumption | omega) only [b_103_0, b_103_5, b_103_10, b_103_13, b_103_19, b_103_25, b_103_28, b_103_33, b_103_34, b_103_40, b_103_46, b_103_49, b_103_54, b_103_55, b_103_65, b_103_74, b_103_79, b_103_80, b_103_86, b_103_90, kont_v, kont_n, kont_x, Nat.reduceAdd, ad_some, kd_some, ixa, and_true, true_and, and_self, eq_self, ne_eq, brT, brF, true_or, or_true, and_imp, hm.c0, hm.c1, hm.c2, hm.c3, hm.c4, hm.c5, hm.c6, hm.c7, hm.c8, hm.c9, hm.c10, hm.c11, hm.c12, hm.c13, hm.c14, hm.c15, hm.c16, hm.c17, hm.c18, hm.c19, hm.c20, hm.c21, hm.c22, hm.c23, hm.c24, hm.c25, hm.c26, hm.c27, hm.c28, hm.c29, hm.c30, hm.c31, hm.c32, hm.c33, hm.c34, hm.c35, hm.c36, hm.c37, hm.c38, hm.c39, hm.c40, hm.c41, hm.c42, hm.c43, hm.c44, hm.c45, hm.c46, hm.c47, hm.c48, hm.c49, hm.c50, hm.c51, hm.c52, hm.c53, hm.c54, hm.c55, hm.c56, hm.c57, hm.c58, hm.c59, hm.c60, hm.c61, hm.c62, hm.c63, hm.c64, hm.c65, hm.c66, hm.c67, hm.c68, hm.c69, hm.c70, hm.c71, hm.c72, hm.c73, hm.c74, hm.c75, hm.c76, hm.c77, aT, inR, m_text hm2 iv2, Scut_sz]
            exact k2
          · rw [brf (fun z => c7 z.2)] at k
            have k := k.tw2 (x := 0) hi hm0
            simp (disch := first | assumption | omega) only [b_103_5, b_103_10, b_103_13, b_103_19, b_103_25, b_103_28, b_103_33, b_103_34, b_103_40, b_103_46, b_103_49, b_103_54, b_103_55, b_103_65, b_103_74, b_103_79, b_103_80, b_103_86, b_103_90, kont_v, kont_n, kont_x, Nat.reduceAdd, ad_some, kd_some, ixa, and_true, true_and, and_self, eq_self, ne_eq, brT, brF, true_or, or_true, and_imp, hm.c0, hm.c1, hm.c2, hm.c3, hm.c4, hm.c5, hm.c6, hm.c7, hm.c8, hm.c9, hm.c10, hm.c11, hm.c12, hm.c13, hm.c14, hm.c15, hm.c16, hm.c17, hm.c18, hm.c19, hm.c20, hm.c21, hm.c22, hm.c23, hm.c24, hm.c25, hm.c26, hm.c27, hm.c28, hm.c29, hm.c30, hm.c31, hm.c32, hm.c33, hm.c34, hm.c35, hm.c36, hm.c37, hm.c38, hm.c39, hm.c40, hm.c41, hm.c42, hm.c43, hm.c44, hm.c45, hm.c46, hm.c47, hm.c48, hm.c49, hm.c50, hm.c51, hm.c52, hm.c53, hm.c54, hm.c55, hm.c56, hm.c57, hm.c58, hm.c59, hm.c60, hm.c61, hm.c62, hm.c63, hm.c64, hm.c65, hm.c66, hm.c67, hm.c68, hm.c69, hm.c70, hm.c71, hm.c72, hm.c73, hm.c74, hm.c75, hm.c76, hm.c77, aT, inR, m_isUser hm iv, m_isNote hm iv, m_isIn, m_may hm iv, m_text hm iv, m_no hm iv, m_isNot hm iv, brt, brf, b2iT, b2iF, b2i_0, brN, brT, brF, brS, Classical.not_not, not_true_eq_false, not_false_eq_true, b2i_t, b2i_f, one_ne0, zz01, oz01, and_false, false_and, or_self, gK_pI, gL_pI, gR_pI, gI_pI, hi, reduceCtorEq, Nat.reduceEqDiff, Int.reduceEq, if_true, if_false]
            exact k
        · rw [brf (fun z => c5 z.1)] at k
          have k := k.tw2 (x := 0) hi hm0
          simp (disch := first | assumption | omega) only [b_103_5, b_103_10, b_103_13, b_103_19, b_103_25, b_103_28, b_103_33, b_103_34, b_103_40, b_103_46, b_103_49, b_103_54, b_103_55, b_103_65, b_103_74, b_103_79, b_103_80, b_103_86, b_103_90, kont_v, kont_n, kont_x, Nat.reduceAdd, ad_some, kd_some, ixa, and_true, true_and, and_self, eq_self, ne_eq, brT, brF, true_or, or_true, and_imp, hm.c0, hm.c1, hm.c2, hm.c3, hm.c4, hm.c5, hm.c6, hm.c7, hm.c8, hm.c9, hm.c10, hm.c11, hm.c12, hm.c13, hm.c14, hm.c15, hm.c16, hm.c17, hm.c18, hm.c19, hm.c20, hm.c21, hm.c22, hm.c23, hm.c24, hm.c25, hm.c26, hm.c27, hm.c28, hm.c29, hm.c30, hm.c31, hm.c32, hm.c33, hm.c34, hm.c35, hm.c36, hm.c37, hm.c38, hm.c39, hm.c40, hm.c41, hm.c42, hm.c43, hm.c44, hm.c45, hm.c46, hm.c47, hm.c48, hm.c49, hm.c50, hm.c51, hm.c52, hm.c53, hm.c54, hm.c55, hm.c56, hm.c57, hm.c58, hm.c59, hm.c60, hm.c61, hm.c62, hm.c63, hm.c64, hm.c65, hm.c66, hm.c67, hm.c68, hm.c69, hm.c70, hm.c71, hm.c72, hm.c73, hm.c74, hm.c75, hm.c76, hm.c77, aT, inR, m_isUser hm iv, m_isNote hm iv, m_isIn, m_may hm iv, m_text hm iv, m_no hm iv, m_isNot hm iv, brt, brf, b2iT, b2iF, b2i_0, brN, brT, brF, brS, Classical.not_not, not_true_eq_false, not_false_eq_true, b2i_t, b2i_f, one_ne0, zz01, oz01, and_false, false_and, or_self, gK_pI, gL_pI, gR_pI, gI_pI, hi, reduceCtorEq, Nat.reduceEqDiff, Int.reduceEq, if_true, if_false]
          exact k
      · rw [brf c3] at k
        have k := k.tw2 (x := 0) hi hm0
        simp (disch := first | assumption | omega) only [b_103_5, b_103_10, b_103_13, b_103_19, b_103_25, b_103_28, b_103_33, b_103_34, b_103_40, b_103_46, b_103_49, b_103_54, b_103_55, b_103_65, b_103_74, b_103_79, b_103_80, b_103_86, b_103_90, kont_v, kont_n, kont_x, Nat.reduceAdd, ad_some, kd_some, ixa, and_true, true_and, and_self, eq_self, ne_eq, brT, brF, true_or, or_true, and_imp, hm.c0, hm.c1, hm.c2, hm.c3, hm.c4, hm.c5, hm.c6, hm.c7, hm.c8, hm.c9, hm.c10, hm.c11, hm.c12, hm.c13, hm.c14, hm.c15, hm.c16, hm.c17, hm.c18, hm.c19, hm.c20, hm.c21, hm.c22, hm.c23, hm.c24, hm.c25, hm.c26, hm.c27, hm.c28, hm.c29, hm.c30, hm.c31, hm.c32, hm.c33, hm.c34, hm.c35, hm.c36, hm.c37, hm.c38, hm.c39, hm.c40, hm.c41, hm.c42, hm.c43, hm.c44, hm.c45, hm.c46, hm.c47, hm.c48, hm.c49, hm.c50, hm.c51, hm.c52, hm.c53, hm.c54, hm.c55, hm.c56, hm.c57, hm.c58, hm.c59, hm.c60, hm.c61, hm.c62, hm.c63, hm.c64, hm.c65, hm.c66, hm.c67, hm.c68, hm.c69, hm.c70, hm.c71, hm.c72, hm.c73, hm.c74, hm.c75, hm.c76, hm.c77, aT, inR, m_isUser hm iv, m_isNote hm iv, m_isIn, m_may hm iv, m_text hm iv, m_no hm iv, m_isNot hm iv, brt, brf, b2iT, b2iF, b2i_0, brN, brT, brF, brS, Classical.not_not, not_true_eq_false, not_false_eq_true, b2i_t, b2i_f, one_ne0, zz01, oz01, and_false, false_and, or_self, gK_pI, gL_pI, gR_pI, gI_pI, hi, reduceCtorEq, Nat.reduceEqDiff, Int.reduceEq, if_true, if_false]
        exact k
    · rw [brf (by omega)] at k
      have k := k.tw2 (x := 0) hi hm0
      simp (disch := first | assumption | omega) only [b_103_5, b_103_10, b_103_13, b_103_19, b_103_25, b_103_28, b_103_33, b_103_34, b_103_40, b_103_46, b_103_49, b_103_54, b_103_55, b_103_65, b_103_74, b_103_79, b_103_80, b_103_86, b_103_90, kont_v, kont_n, kont_x, Nat.reduceAdd, ad_some, kd_some, ixa, and_true, true_and, and_self, eq_self, ne_eq, brT, brF, true_or, or_true, and_imp, hm.c0, hm.c1, hm.c2, hm.c3, hm.c4, hm.c5, hm.c6, hm.c7, hm.c8, hm.c9, hm.c10, hm.c11, hm.c12, hm.c13, hm.c14, hm.c15, hm.c16, hm.c17, hm.c18, hm.c19, hm.c20, hm.c21, hm.c22, hm.c23, hm.c24, hm.c25, hm.c26, hm.c27, hm.c28, hm.c29, hm.c30, hm.c31, hm.c32, hm.c33, hm.c34, hm.c35, hm.c36, hm.c37, hm.c38, hm.c39, hm.c40, hm.c41, hm.c42, hm.c43, hm.c44, hm.c45, hm.c46, hm.c47, hm.c48, hm.c49, hm.c50, hm.c51, hm.c52, hm.c53, hm.c54, hm.c55, hm.c56, hm.c57, hm.c58, hm.c59, hm.c60, hm.c61, hm.c62, hm.c63, hm.c64, hm.c65, hm.c66, hm.c67, hm.c68, hm.c69, hm.c70, hm.c71, hm.c72, hm.c73, hm.c74, hm.c75, hm.c76, hm.c77, aT, inR, m_isUser hm iv, m_isNote hm iv, m_isIn, m_may hm iv, m_text hm iv, m_no hm iv, m_isNot hm iv, brt, brf, b2iT, b2iF, b2i_0, brN, brT, brF, brS, Classical.not_not, not_true_eq_false, not_false_eq_true, b2i_t, b2i_f, one_ne0, zz01, oz01, and_false, false_and, or_self, gK_pI, gL_pI, gR_pI, gI_pI, hi, reduceCtorEq, Nat.reduceEqDiff, Int.reduceEq, if_true, if_false]
      exact k
  · rw [brf c1] at k
    have k := k.tw2 (x := 0) hi hm0
    simp (disch := first | assumption | omega) only [b_103_5, b_103_10, b_103_13, b_103_19, b_103_25, b_103_28, b_103_33, b_103_34, b_103_40, b_103_46, b_103_49, b_103_54, b_103_55, b_103_65, b_103_74, b_103_79, b_103_80, b_103_86, b_103_90, kont_v, kont_n, kont_x, Nat.reduceAdd, ad_some, kd_some, ixa, and_true, true_and, and_self, eq_self, ne_eq, brT, brF, true_or, or_true, and_imp, hm.c0, hm.c1, hm.c2, hm.c3, hm.c4, hm.c5, hm.c6, hm.c7, hm.c8, hm.c9, hm.c10, hm.c11, hm.c12, hm.c13, hm.c14, hm.c15, hm.c16, hm.c17, hm.c18, hm.c19, hm.c20, hm.c21, hm.c22, hm.c23, hm.c24, hm.c25, hm.c26, hm.c27, hm.c28, hm.c29, hm.c30, hm.c31, hm.c32, hm.c33, hm.c34, hm.c35, hm.c36, hm.c37, hm.c38, hm.c39, hm.c40, hm.c41, hm.c42, hm.c43, hm.c44, hm.c45, hm.c46, hm.c47, hm.c48, hm.c49, hm.c50, hm.c51, hm.c52, hm.c53, hm.c54, hm.c55, hm.c56, hm.c57, hm.c58, hm.c59, hm.c60, hm.c61, hm.c62, hm.c63, hm.c64, hm.c65, hm.c66, hm.c67, hm.c68, hm.c69, hm.c70, hm.c71, hm.c72, hm.c73, hm.c74, hm.c75, hm.c76, hm.c77, aT, inR, m_isUser hm iv, m_isNote hm iv, m_isIn, m_may hm iv, m_text hm iv, m_no hm iv, m_isNot hm iv, brt, brf, b2iT, b2iF, b2i_0, brN, brT, brF, brS, Classical.not_not, not_true_eq_false, not_false_eq_true, b2i_t, b2i_f, one_ne0, zz01, oz01, and_false, false_and, or_self, gK_pI, gL_pI, gR_pI, gI_pI, hi, reduceCtorEq, Nat.reduceEqDiff, Int.reduceEq, if_true, if_false]
    exact k
end
