/-! take -/
/-- the text's part of it -/
noncomputable def Stx (S : St) (k : Int) : St := if 0 < S 16 k 0 then Sput (Scut S (S 13 k 0) (S 14 k 0 - S 13 k 0)) (S 13 k 0) (S 16 k 0) (S 17 k 0) else Scut S (S 13 k 0) (S 14 k 0 - S 13 k 0)
noncomputable def Stake (S : St) (k : Int) : St := su (su (su (su (Stx S k) 13 k 0 (S 13 k 0)) 14 k 0 (S 13 k 0 + S 16 k 0)) 18 k 0 1) 16 k 0 (-1)
/-- what a proposal must meet -/
def cnT (S : St) (k : Int) : Prop := S 16 k 0 ≠ -1 ∧ S 13 k 0 ≠ S 14 k 0 ∧ S 3 (S 2 0 0) 0 + (S 16 k 0 - (S 14 k 0 - S 13 k 0)) ≤ 200 ∧ S 2 0 0 + (if S 16 k 0 = 0 then 1 else 2) ≤ 60
section
variable {a : Na} {S : St} {h : Zh} {Q : Zp}
theorem Scut_o (S : St) (p n : Int) (k : Nat) (i j : Int) (h : k ≠ 2 ∧ k ≠ 3 ∧ k ≠ 4 ∧ k ≠ 5 ∧ k ≠ 6 ∧ k ≠ 13 ∧ k ≠ 14) : Scut S p n k i j = S k i j := (MC_o _ _ _ _ _ _ _ (by omega)).trans (TX_o _ _ _ _ _ _ _ _ (by omega))
theorem Sput_o (S : St) (p n s : Int) (k : Nat) (i j : Int) (h : k ≠ 2 ∧ k ≠ 3 ∧ k ≠ 4 ∧ k ≠ 5 ∧ k ≠ 6 ∧ k ≠ 13 ∧ k ≠ 14) : Sput S p n s k i j = S k i j := (MP_o _ _ _ _ _ _ _ (by omega)).trans (TX_o _ _ _ _ _ _ _ _ (by omega))
theorem Scut_2 (S : St) (p n : Int) : Scut S p n 2 0 0 = S 2 0 0 + 1 := (MC_o _ _ _ _ _ _ _ (by omega)).trans (TX_2 ..)
theorem Stx_o (S : St) (k : Int) (q : Nat) (i j : Int) (h : q ≠ 2 ∧ q ≠ 3 ∧ q ≠ 4 ∧ q ≠ 5 ∧ q ≠ 6 ∧ q ≠ 13 ∧ q ≠ 14) : Stx S k q i j = S q i j := by
  unfold Stx
  split
  · rw [Sput_o _ _ _ _ _ _ _ h, Scut_o _ _ _ _ _ _ h]
  · rw [Scut_o _ _ _ _ _ _ h]
theorem Stx_sz (S : St) (k : Int) (h : -1 ≤ S 16 k 0 ∧ S 16 k 0 ≠ -1) : Stx S k 3 (Stx S k 2 0 0) 0 = S 3 (S 2 0 0) 0 + (S 16 k 0 - (S 14 k 0 - S 13 k 0)) := by
  unfold Stx
  split
  · rw [Sput_sz, Scut_sz]; omega
  · rw [Scut_sz]; omega
theorem inv_tk (iv : Inv S) {k : Int} (hh : hd S k) (c : cnT S k) : Inv (Stx S k) := by
  obtain ⟨⟨f1, f2, f3⟩, -, ⟨f4, f5⟩, ⟨f6, f7⟩, -⟩ := iv.2.2.1.2.2.2.1 k hh
  obtain ⟨c1, c2, c3, c4⟩ := c
  have i1 : Inv (Scut S (S 13 k 0) (S 14 k 0 - S 13 k 0)) := inv_cut iv _ _ f1 (by omega) (by omega) (by split at c4 <;> omega)
  unfold Stx
  split
  · rw [if_neg (by omega)] at c4
    exact inv_put i1 _ _ _ f1 ⟨by omega, f5⟩ (by rw [Scut_sz]; omega) ⟨f6, f7⟩ (by rw [Scut_sz]; omega) (by rw [Scut_2]; omega)
  · exact i1
theorem inv_take (iv : Inv S) {k : Int} (hh : hd S k) (c : cnT S k) : Inv (Stake S k) := by
  have i1 := inv_tk iv hh c
  obtain ⟨⟨f1, f2, f3⟩, -, ⟨f4, f5⟩, ⟨f6, f7⟩, -⟩ := iv.2.2.1.2.2.2.1 k hh
  obtain ⟨c1, c2, c3, c4⟩ := c
  have hk : nt (Stx S k) k := ⟨hh.1.1, by rw [Stx_o _ _ _ _ _ (by omega)]; exact hh.1.2⟩
  exact inv_many (inv_settle (inv_lay i1 ⟨f1, by omega, by rw [Stx_sz S k ⟨f4, c1⟩]; omega⟩) hk (.inr rfl)) ⟨by omega, by omega⟩
theorem iv_mb (iv : Inv S) {k : Int} (hh : hd S k) : -1 ≤ S 16 k 0 ∧ S 16 k 0 ≤ 40 := (iv.2.2.1.2.2.2.1 k hh).2.2.1
theorem c_canTake (hr : RepC a S h) (iv : Inv S) (k : Int) (hh : hd S k) : WP 72 0 [some (zr (some (a 0 0))), some (zr (some (a 21 k))), none] [] h Q = Q (.inl (some (zi (b2i (cnT S k))))) h := by
  obtain ⟨u0, u1⟩ := iv.2.1.1
  obtain ⟨u2, u3⟩ := iv.2.1.2.1 (S 2 0 0) u0 (Int.le_refl _)
  obtain ⟨⟨f1, f2, f3⟩, -, ⟨f4, f5⟩, ⟨f6, f7⟩, -⟩ := iv.2.2.1.2.2.2.1 k hh
  have k22 := hr.c56 k hh
  have g13 := hr.c57 k hh
  have g14 := hr.c58 k hh
  have ri : inR (gI h (a 22 k) 1 - gI h (a 22 k) 0) := by rw [g13, g14]; unfold inR; omega
  by_cases c0 : S 16 k 0 = 0
  · simp (disch := first | assumption | omega) only [b_72_0, b_72_7, b_72_11, b_72_12, b_72_21, b_72_28, b_72_31, b_72_46, b_72_51, b_72_54, b_72_58, b_72_59, kont_v, kont_n, kont_x, Nat.reduceAdd, ad_some, kd_some, ixa, and_true, true_and, and_self, eq_self, ne_eq, brT, brF, true_or, or_true, and_imp, hr.c0, hr.c1, hr.c2, hr.c3, hr.c4, hr.c5, hr.c6, hr.c7, hr.c8, hr.c9, hr.c10, hr.c11, hr.c12, hr.c13, hr.c14, hr.c15, hr.c16, hr.c17, hr.c18, hr.c19, hr.c20, hr.c21, hr.c22, hr.c23, hr.c24, hr.c25, hr.c26, hr.c27, hr.c28, hr.c29, hr.c30, hr.c31, hr.c32, hr.c33, hr.c34, hr.c35, hr.c36, hr.c37, hr.c38, hr.c39, hr.c40, hr.c41, hr.c42, hr.c43, hr.c44, hr.c45, hr.c46, hr.c47, hr.c48, hr.c49, hr.c50, hr.c51, hr.c52, hr.c53, hr.c54, hr.c55, hr.c56, hr.c57, hr.c58, hr.c59, hr.c60, hr.c61, hr.c62, hr.c63, hr.c64, hr.c65, hr.c66, hr.c67, hr.c68, hr.c69, hr.c70, aT, inR, brt, brf, c0, c_lost _ k22, c_size _ k22 ri, g13, g14, c_room hr iv, brb10, brb01, brbpq, brb1p, brb0p, brbp1, brbp0, brb11, brb00, b2i_0, b2i_1, b2i_01, brN, one_ne0, zz01, oz01, nem, Classical.not_not, oz01, zz01]
    refine Qi (b2i_c ?_)
    unfold cnT
    rw [if_pos c0]
    omega
  · by_cases c1 : S 16 k 0 = -1
    · simp (disch := first | assumption | omega) only [b_72_0, b_72_7, b_72_11, b_72_12, b_72_21, b_72_28, b_72_31, b_72_46, b_72_51, b_72_54, b_72_58, b_72_59, kont_v, kont_n, kont_x, Nat.reduceAdd, ad_some, kd_some, ixa, and_true, true_and, and_self, eq_self, ne_eq, brT, brF, true_or, or_true, and_imp, hr.c0, hr.c1, hr.c2, hr.c3, hr.c4, hr.c5, hr.c6, hr.c7, hr.c8, hr.c9, hr.c10, hr.c11, hr.c12, hr.c13, hr.c14, hr.c15, hr.c16, hr.c17, hr.c18, hr.c19, hr.c20, hr.c21, hr.c22, hr.c23, hr.c24, hr.c25, hr.c26, hr.c27, hr.c28, hr.c29, hr.c30, hr.c31, hr.c32, hr.c33, hr.c34, hr.c35, hr.c36, hr.c37, hr.c38, hr.c39, hr.c40, hr.c41, hr.c42, hr.c43, hr.c44, hr.c45, hr.c46, hr.c47, hr.c48, hr.c49, hr.c50, hr.c51, hr.c52, hr.c53, hr.c54, hr.c55, hr.c56, hr.c57, hr.c58, hr.c59, hr.c60, hr.c61, hr.c62, hr.c63, hr.c64, hr.c65, hr.c66, hr.c67, hr.c68, hr.c69, hr.c70, aT, inR, brt, brf, c_lost _ k22, c_size _ k22 ri, g13, g14, c_room hr iv, brb10, brb01, brbpq, brb1p, brb0p, brbp1, brbp0, brb11, brb00, b2i_0, b2i_1, b2i_01, brN, one_ne0, zz01, oz01, nem, Classical.not_not, oz01, zz01]
      refine Qi (b2i_f (fun z => z.1 c1)).symm
    · simp (disch := first | assumption | omega) only [b_72_0, b_72_7, b_72_11, b_72_12, b_72_21, b_72_28, b_72_31, b_72_46, b_72_51, b_72_54, b_72_58, b_72_59, kont_v, kont_n, kont_x, Nat.reduceAdd, ad_some, kd_some, ixa, and_true, true_and, and_self, eq_self, ne_eq, brT, brF, true_or, or_true, and_imp, hr.c0, hr.c1, hr.c2, hr.c3, hr.c4, hr.c5, hr.c6, hr.c7, hr.c8, hr.c9, hr.c10, hr.c11, hr.c12, hr.c13, hr.c14, hr.c15, hr.c16, hr.c17, hr.c18, hr.c19, hr.c20, hr.c21, hr.c22, hr.c23, hr.c24, hr.c25, hr.c26, hr.c27, hr.c28, hr.c29, hr.c30, hr.c31, hr.c32, hr.c33, hr.c34, hr.c35, hr.c36, hr.c37, hr.c38, hr.c39, hr.c40, hr.c41, hr.c42, hr.c43, hr.c44, hr.c45, hr.c46, hr.c47, hr.c48, hr.c49, hr.c50, hr.c51, hr.c52, hr.c53, hr.c54, hr.c55, hr.c56, hr.c57, hr.c58, hr.c59, hr.c60, hr.c61, hr.c62, hr.c63, hr.c64, hr.c65, hr.c66, hr.c67, hr.c68, hr.c69, hr.c70, aT, inR, brt, brf, c_lost _ k22, c_size _ k22 ri, g13, g14, c_room hr iv, brb10, brb01, brbpq, brb1p, brb0p, brbp1, brbp0, brb11, brb00, b2i_0, b2i_1, b2i_01, brN, one_ne0, zz01, oz01, nem, Classical.not_not, oz01, zz01]
      refine Qi (b2i_c ?_)
      unfold cnT
      rw [if_neg c0]
      omega
/-- behind the edits: the anchor is laid, the thread settled, the proposal gone -/
theorem c_tkE (hi : Ij a) {T : St} (hr : RepC a T h) (k f n : Int) (hh : hd T k) (hf : 0 ≤ f ∧ f ≤ 200) (hn : 0 ≤ n ∧ n ≤ 40) (hQ : ∀ g, RepC a (su (su (su (su T 13 k 0 f) 14 k 0 (f + n)) 18 k 0 1) 16 k 0 (-1)) g → Fr (fun f => 100 ≤ f) a h a g → gC g = gC h → gS g = gS h → Q (.inl none) g) :
    WP 73 41 [some (zr (some (a 0 0))), some (zr (some (a 21 k))), some (zr (some (a 22 k))), some (zi f), some (zi n)] [] h Q := by
  have k22 := hr.c56 k hh
  have k21 := hr.c47 k hh
  simp (disch := first | assumption | omega) only [b_73_41, b_73_50, b_73_55, b_73_60, b_1_0, b_1_5, b_1_10, kont_v, kont_n, kont_x, Nat.reduceAdd, ad_some, kd_some, ixa, and_true, true_and, and_self, eq_self, ne_eq, brT, brF, true_or, or_true, and_imp, aT, inR, k22, k21, gK_pI, gL_pI, gR_pI]
  exact hQ _ ((((hr.wFrom hi k f).wTo hi k (f + n)).wSettled hi k 1).wMany hi k (-1)) ((Fr_pI hi (by omega)).trans ((Fr_pI hi (by omega)).trans ((Fr_pI hi (by omega)).trans (Fr_pI hi (by omega))))) rfl rfl
theorem c_putProp (hi : Ij a) (hr : RepC a S h) (iv : Inv S) (k : Int) (hh : hd S k) (c : cnT S k) (hQ : ∀ g, RepC a (Stake S k) g → Fr (fun f => 100 ≤ f) a h a g → gC g = gC h → gS g = gS h → Q (.inl none) g) :
    WP 73 0 [some (zr (some (a 0 0))), some (zr (some (a 21 k))), none, none, none] [] h Q := by
  obtain ⟨u0, u1⟩ := iv.2.1.1
  obtain ⟨u2, u3⟩ := iv.2.1.2.1 (S 2 0 0) u0 (Int.le_refl _)
  obtain ⟨⟨f1, f2, f3⟩, -, ⟨f4, f5⟩, ⟨f6, f7⟩, -⟩ := iv.2.2.1.2.2.2.1 k hh
  have k22 := hr.c56 k hh
  have g13 := hr.c57 k hh
  have g14 := hr.c58 k hh
  have ri : inR (gI h (a 22 k) 1 - gI h (a 22 k) 0) := by rw [g13, g14]; unfold inR; omega
  have iT := inv_take iv hh c
  obtain ⟨c1, c2, c3, c4⟩ := c
  simp (disch := first | assumption | omega) only [b_73_0, b_73_22, kont_v, kont_n, kont_x, Nat.reduceAdd, ad_some, kd_some, ixa, and_true, true_and, and_self, eq_self, ne_eq, brT, brF, true_or, or_true, and_imp, hr.c0, hr.c1, hr.c2, hr.c3, hr.c4, hr.c5, hr.c6, hr.c7, hr.c8, hr.c9, hr.c10, hr.c11, hr.c12, hr.c13, hr.c14, hr.c15, hr.c16, hr.c17, hr.c18, hr.c19, hr.c20, hr.c21, hr.c22, hr.c23, hr.c24, hr.c25, hr.c26, hr.c27, hr.c28, hr.c29, hr.c30, hr.c31, hr.c32, hr.c33, hr.c34, hr.c35, hr.c36, hr.c37, hr.c38, hr.c39, hr.c40, hr.c41, hr.c42, hr.c43, hr.c44, hr.c45, hr.c46, hr.c47, hr.c48, hr.c49, hr.c50, hr.c51, hr.c52, hr.c53, hr.c54, hr.c55, hr.c56, hr.c57, hr.c58, hr.c59, hr.c60, hr.c61, hr.c62, hr.c63, hr.c64, hr.c65, hr.c66, hr.c67, hr.c68, hr.c69, hr.c70, aT, inR, c_size _ k22 ri]
  refine c_cutS hi hr iv _ _ f1 (by omega) (by omega) (by split at c4 <;> omega) (fun g hr2 fr gc gs => ?_)
  have i1 : Inv (Scut S (S 13 k 0) (S 14 k 0 - S 13 k 0)) := inv_cut iv _ _ f1 (by omega) (by omega) (by split at c4 <;> omega)
  have hh2 : hd (Scut S (S 13 k 0) (S 14 k 0 - S 13 k 0)) k := hh
  simp only [b_73_25, kont_v, kont_n, kont_x, Nat.reduceAdd, ad_some, kd_some, ixa, and_true, true_and, and_self, eq_self, ne_eq, brT, brF, true_or, or_true, and_imp]
  by_cases d : 0 < S 16 k 0
  · rw [if_neg (by omega)] at c4
    have e17 : Scut S (S 13 k 0) (S 14 k 0 - S 13 k 0) 17 k 0 = S 17 k 0 := rfl
    have hQ2 := hQ
    unfold Stake Stx at hQ2
    rw [if_pos d] at hQ2
    have hr0 := hr
    have hr := hr2
    have iv := i1
    simp (disch := first | assumption | omega) only [b_73_30, kont_v, kont_n, kont_x, Nat.reduceAdd, ad_some, kd_some, ixa, and_true, true_and, and_self, eq_self, ne_eq, brT, brF, true_or, or_true, and_imp, hr.c0, hr.c1, hr.c2, hr.c3, hr.c4, hr.c5, hr.c6, hr.c7, hr.c8, hr.c9, hr.c10, hr.c11, hr.c12, hr.c13, hr.c14, hr.c15, hr.c16, hr.c17, hr.c18, hr.c19, hr.c20, hr.c21, hr.c22, hr.c23, hr.c24, hr.c25, hr.c26, hr.c27, hr.c28, hr.c29, hr.c30, hr.c31, hr.c32, hr.c33, hr.c34, hr.c35, hr.c36, hr.c37, hr.c38, hr.c39, hr.c40, hr.c41, hr.c42, hr.c43, hr.c44, hr.c45, hr.c46, hr.c47, hr.c48, hr.c49, hr.c50, hr.c51, hr.c52, hr.c53, hr.c54, hr.c55, hr.c56, hr.c57, hr.c58, hr.c59, hr.c60, hr.c61, hr.c62, hr.c63, hr.c64, hr.c65, hr.c66, hr.c67, hr.c68, hr.c69, hr.c70, aT, inR, brf, e17]
    refine c_putS hi hr2 i1 _ _ _ f1 ⟨by omega, f5⟩ (by rw [Scut_sz]; omega) ⟨f6, f7⟩ (by rw [Scut_sz]; omega) (by rw [Scut_2]; omega) (fun g3 hr3 fr3 gc3 gs3 => ?_)
    simp only [kont_v, kont_n, kont_x, Nat.reduceAdd, ad_some, kd_some, ixa, and_true, true_and, and_self, eq_self, ne_eq, brT, brF, true_or, or_true, and_imp]
    exact c_tkE hi hr3 k _ _ hh ⟨f1, by omega⟩ ⟨by omega, f5⟩ (fun g4 hr4 fr4 gc4 gs4 => hQ2 g4 hr4 (fr.trans (fr3.trans fr4)) (by omega) (by omega))
  · rw [brt (by omega)]
    have hQ2 := hQ
    unfold Stake Stx at hQ2
    rw [if_neg d] at hQ2
    exact c_tkE hi hr2 k _ _ hh ⟨f1, by omega⟩ ⟨by omega, f5⟩ (fun g4 hr4 fr4 gc4 gs4 => hQ2 g4 hr4 (fr.trans fr4) (by omega) (by omega))
theorem c_take (hi : Ij a) (hr : RepC a S h) (iv : Inv S) (u k : Int) (q : br (0 ≤ u ∧ u < S 0 0 0) (br (nt S k ∧ S 12 k 0 ≠ 2) (br (S 11 k 0 = k) (br ((3 ≤ S 1 u 0 ∧ SE S u (S 1 u 0) (S 11 k 0)) ∧ cnT S k) (CK a (Stake S k) h Q (zi (S 3 (S 2 0 0) 0 + (S 16 k 0 - (S 14 k 0 - S 13 k 0))))) (thr h 2 Q)) (thr h 1 Q)) (thr h 3 Q)) (thr h 3 Q)) :
    WP 45 0 [some (zr (some (a 0 0))), some (zi u), some (zi k), none] [] h Q := by
  obtain ⟨w0, w1⟩ := iv.1.1
  by_cases c1 : 0 ≤ u ∧ u < S 0 0 0
  · rw [brt c1] at q
    by_cases c2 : nt S k ∧ S 12 k 0 ≠ 2
    · rw [brt c2] at q
      have hk := c2.1
      by_cases c3 : S 11 k 0 = k
      · rw [brt c3] at q
        have hh : hd S k := ⟨hk, c3⟩
        by_cases d1 : 3 ≤ S 1 u 0 ∧ SE S u (S 1 u 0) (S 11 k 0)
        · obtain ⟨d1, d2⟩ := d1
          by_cases d3 : cnT S k
          · rw [brt ⟨⟨d1, d2⟩, d3⟩] at q
            rw [c3] at d2
            simp (disch := first | assumption | omega) only [b_45_0, b_45_5, b_45_10, b_45_15, b_45_18, b_45_28, b_45_34, b_45_37, b_45_41, b_45_42, b_45_45, b_45_53, b_45_56, kont_v, kont_n, kont_x, Nat.reduceAdd, ad_some, kd_some, ixa, and_true, true_and, and_self, eq_self, ne_eq, brT, brF, true_or, or_true, and_imp, hr.c0, hr.c1, hr.c2, hr.c3, hr.c4, hr.c5, hr.c6, hr.c7, hr.c8, hr.c9, hr.c10, hr.c11, hr.c12, hr.c13, hr.c14, hr.c15, hr.c16, hr.c17, hr.c18, hr.c19, hr.c20, hr.c21, hr.c22, hr.c23, hr.c24, hr.c25, hr.c26, hr.c27, hr.c28, hr.c29, hr.c30, hr.c31, hr.c32, hr.c33, hr.c34, hr.c35, hr.c36, hr.c37, hr.c38, hr.c39, hr.c40, hr.c41, hr.c42, hr.c43, hr.c44, hr.c45, hr.c46, hr.c47, hr.c48, hr.c49, hr.c50, hr.c51, hr.c52, hr.c53, hr.c54, hr.c55, hr.c56, hr.c57, hr.c58, hr.c59, hr.c60, hr.c61, hr.c62, hr.c63, hr.c64, hr.c65, hr.c66, hr.c67, hr.c68, hr.c69, hr.c70, aT, inR, c_str hr iv, c_reqUser hr iv, c_reqNote hr iv, c_reqSign hr iv, c_isHeadR hr iv, c_isSeen hr iv, c_tsize hr iv, c_room hr iv, s_isWithin, s_isRight, s_isContent, s_reqAr, s_reqSt, s_reqIx, s_reqAr1, s_reqAr0, s_reqSt1, s_reqSt0, s_reqIx1, s_reqIx0, brt, brf, b2iT, b2iF, b2i_0, brN, brT, brF, brS, Classical.not_not, not_true_eq_false, not_false_eq_true, b2i_t, b2i_f, one_ne0, zz01, oz01, thr, and_false, false_and, or_self, gK_pI, gL_pI, gR_pI, gI_pI, hi, reduceCtorEq, Nat.reduceEqDiff, Int.reduceEq, if_true, if_false, c3, c_canTake hr iv k hh]
            refine c_putProp hi hr iv k hh d3 (fun g hr2 fr gc gs => ?_)
            have q2 := q a g hr2 ⟨hi, fr, by omega, by omega, rfl⟩
            have iv2 := inv_take iv hh d3
            have hr := hr2
            have ez : Stake S k 3 (Stake S k 2 0 0) 0 = S 3 (S 2 0 0) 0 + (S 16 k 0 - (S 14 k 0 - S 13 k 0)) := Stx_sz S k ⟨(iv_mb iv hh).1, d3.1⟩
            simp (disch := first | assumption | omega) only [b_45_0, b_45_5, b_45_10, b_45_15, b_45_18, b_45_28, b_45_34, b_45_37, b_45_41, b_45_42, b_45_45, b_45_53, b_45_56, b_45_64, b_45_71, kont_v, kont_n, kont_x, Nat.reduceAdd, ad_some, kd_some, ixa, and_true, true_and, and_self, eq_self, ne_eq, brT, brF, true_or, or_true, and_imp, hr.c0, hr.c1, hr.c2, hr.c3, hr.c4, hr.c5, hr.c6, hr.c7, hr.c8, hr.c9, hr.c10, hr.c11, hr.c12, hr.c13, hr.c14, hr.c15, hr.c16, hr.c17, hr.c18, hr.c19, hr.c20, hr.c21, hr.c22, hr.c23, hr.c24, hr.c25, hr.c26, hr.c27, hr.c28, hr.c29, hr.c30, hr.c31, hr.c32, hr.c33, hr.c34, hr.c35, hr.c36, hr.c37, hr.c38, hr.c39, hr.c40, hr.c41, hr.c42, hr.c43, hr.c44, hr.c45, hr.c46, hr.c47, hr.c48, hr.c49, hr.c50, hr.c51, hr.c52, hr.c53, hr.c54, hr.c55, hr.c56, hr.c57, hr.c58, hr.c59, hr.c60, hr.c61, hr.c62, hr.c63, hr.c64, hr.c65, hr.c66, hr.c67, hr.c68, hr.c69, hr.c70, c_tsize hr2 iv2, ez]
            exact q2
          · rw [brf (fun z => d3 z.2)] at q
            rw [c3] at d2
            simp (disch := first | assumption | omega) only [b_45_0, b_45_5, b_45_10, b_45_15, b_45_18, b_45_28, b_45_34, b_45_37, b_45_41, b_45_42, b_45_45, b_45_53, b_45_56, b_45_64, b_45_71, kont_v, kont_n, kont_x, Nat.reduceAdd, ad_some, kd_some, ixa, and_true, true_and, and_self, eq_self, ne_eq, brT, brF, true_or, or_true, and_imp, hr.c0, hr.c1, hr.c2, hr.c3, hr.c4, hr.c5, hr.c6, hr.c7, hr.c8, hr.c9, hr.c10, hr.c11, hr.c12, hr.c13, hr.c14, hr.c15, hr.c16, hr.c17, hr.c18, hr.c19, hr.c20, hr.c21, hr.c22, hr.c23, hr.c24, hr.c25, hr.c26, hr.c27, hr.c28, hr.c29, hr.c30, hr.c31, hr.c32, hr.c33, hr.c34, hr.c35, hr.c36, hr.c37, hr.c38, hr.c39, hr.c40, hr.c41, hr.c42, hr.c43, hr.c44, hr.c45, hr.c46, hr.c47, hr.c48, hr.c49, hr.c50, hr.c51, hr.c52, hr.c53, hr.c54, hr.c55, hr.c56, hr.c57, hr.c58, hr.c59, hr.c60, hr.c61, hr.c62, hr.c63, hr.c64, hr.c65, hr.c66, hr.c67, hr.c68, hr.c69, hr.c70, aT, inR, c_str hr iv, c_reqUser hr iv, c_reqNote hr iv, c_reqSign hr iv, c_isHeadR hr iv, c_isSeen hr iv, c_tsize hr iv, c_room hr iv, s_isWithin, s_isRight, s_isContent, s_reqAr, s_reqSt, s_reqIx, s_reqAr1, s_reqAr0, s_reqSt1, s_reqSt0, s_reqIx1, s_reqIx0, brt, brf, b2iT, b2iF, b2i_0, brN, brT, brF, brS, Classical.not_not, not_true_eq_false, not_false_eq_true, b2i_t, b2i_f, one_ne0, zz01, oz01, thr, and_false, false_and, or_self, gK_pI, gL_pI, gR_pI, gI_pI, hi, reduceCtorEq, Nat.reduceEqDiff, Int.reduceEq, if_true, if_false, c3, c_canTake hr iv k hh]
            exact q
        · rw [brf (fun z => d1 z.1)] at q
          rw [c3] at d1
          by_cases d2 : 3 ≤ S 1 u 0
          · have d4 : ¬ SE S u (S 1 u 0) k := fun z => d1 ⟨d2, z⟩
            simp (disch := first | assumption | omega) only [b_45_0, b_45_5, b_45_10, b_45_15, b_45_18, b_45_28, b_45_34, b_45_37, b_45_41, b_45_42, b_45_45, b_45_53, b_45_56, b_45_64, b_45_71, kont_v, kont_n, kont_x, Nat.reduceAdd, ad_some, kd_some, ixa, and_true, true_and, and_self, eq_self, ne_eq, brT, brF, true_or, or_true, and_imp, hr.c0, hr.c1, hr.c2, hr.c3, hr.c4, hr.c5, hr.c6, hr.c7, hr.c8, hr.c9, hr.c10, hr.c11, hr.c12, hr.c13, hr.c14, hr.c15, hr.c16, hr.c17, hr.c18, hr.c19, hr.c20, hr.c21, hr.c22, hr.c23, hr.c24, hr.c25, hr.c26, hr.c27, hr.c28, hr.c29, hr.c30, hr.c31, hr.c32, hr.c33, hr.c34, hr.c35, hr.c36, hr.c37, hr.c38, hr.c39, hr.c40, hr.c41, hr.c42, hr.c43, hr.c44, hr.c45, hr.c46, hr.c47, hr.c48, hr.c49, hr.c50, hr.c51, hr.c52, hr.c53, hr.c54, hr.c55, hr.c56, hr.c57, hr.c58, hr.c59, hr.c60, hr.c61, hr.c62, hr.c63, hr.c64, hr.c65, hr.c66, hr.c67, hr.c68, hr.c69, hr.c70, aT, inR, c_str hr iv, c_reqUser hr iv, c_reqNote hr iv, c_reqSign hr iv, c_isHeadR hr iv, c_isSeen hr iv, c_tsize hr iv, c_room hr iv, s_isWithin, s_isRight, s_isContent, s_reqAr, s_reqSt, s_reqIx, s_reqAr1, s_reqAr0, s_reqSt1, s_reqSt0, s_reqIx1, s_reqIx0, brt, brf, b2iT, b2iF, b2i_0, brN, brT, brF, brS, Classical.not_not, not_true_eq_false, not_false_eq_true, b2i_t, b2i_f, one_ne0, zz01, oz01, thr, and_false, false_and, or_self, gK_pI, gL_pI, gR_pI, gI_pI, hi, reduceCtorEq, Nat.reduceEqDiff, Int.reduceEq, if_true, if_false, c3]
            exact q
          · simp (disch := first | assumption | omega) only [b_45_0, b_45_5, b_45_10, b_45_15, b_45_18, b_45_28, b_45_34, b_45_37, b_45_41, b_45_42, b_45_45, b_45_53, b_45_56, b_45_64, b_45_71, kont_v, kont_n, kont_x, Nat.reduceAdd, ad_some, kd_some, ixa, and_true, true_and, and_self, eq_self, ne_eq, brT, brF, true_or, or_true, and_imp, hr.c0, hr.c1, hr.c2, hr.c3, hr.c4, hr.c5, hr.c6, hr.c7, hr.c8, hr.c9, hr.c10, hr.c11, hr.c12, hr.c13, hr.c14, hr.c15, hr.c16, hr.c17, hr.c18, hr.c19, hr.c20, hr.c21, hr.c22, hr.c23, hr.c24, hr.c25, hr.c26, hr.c27, hr.c28, hr.c29, hr.c30, hr.c31, hr.c32, hr.c33, hr.c34, hr.c35, hr.c36, hr.c37, hr.c38, hr.c39, hr.c40, hr.c41, hr.c42, hr.c43, hr.c44, hr.c45, hr.c46, hr.c47, hr.c48, hr.c49, hr.c50, hr.c51, hr.c52, hr.c53, hr.c54, hr.c55, hr.c56, hr.c57, hr.c58, hr.c59, hr.c60, hr.c61, hr.c62, hr.c63, hr.c64, hr.c65, hr.c66, hr.c67, hr.c68, hr.c69, hr.c70, aT, inR, c_str hr iv, c_reqUser hr iv, c_reqNote hr iv, c_reqSign hr iv, c_isHeadR hr iv, c_isSeen hr iv, c_tsize hr iv, c_room hr iv, s_isWithin, s_isRight, s_isContent, s_reqAr, s_reqSt, s_reqIx, s_reqAr1, s_reqAr0, s_reqSt1, s_reqSt0, s_reqIx1, s_reqIx0, brt, brf, b2iT, b2iF, b2i_0, brN, brT, brF, brS, Classical.not_not, not_true_eq_false, not_false_eq_true, b2i_t, b2i_f, one_ne0, zz01, oz01, thr, and_false, false_and, or_self, gK_pI, gL_pI, gR_pI, gI_pI, hi, reduceCtorEq, Nat.reduceEqDiff, Int.reduceEq, if_true, if_false, c3]
            exact q
      · rw [brf c3] at q
        simp (disch := first | assumption | omega) only [b_45_0, b_45_5, b_45_10, b_45_15, b_45_18, b_45_28, b_45_34, b_45_37, b_45_41, b_45_42, b_45_45, b_45_53, b_45_56, b_45_64, b_45_71, kont_v, kont_n, kont_x, Nat.reduceAdd, ad_some, kd_some, ixa, and_true, true_and, and_self, eq_self, ne_eq, brT, brF, true_or, or_true, and_imp, hr.c0, hr.c1, hr.c2, hr.c3, hr.c4, hr.c5, hr.c6, hr.c7, hr.c8, hr.c9, hr.c10, hr.c11, hr.c12, hr.c13, hr.c14, hr.c15, hr.c16, hr.c17, hr.c18, hr.c19, hr.c20, hr.c21, hr.c22, hr.c23, hr.c24, hr.c25, hr.c26, hr.c27, hr.c28, hr.c29, hr.c30, hr.c31, hr.c32, hr.c33, hr.c34, hr.c35, hr.c36, hr.c37, hr.c38, hr.c39, hr.c40, hr.c41, hr.c42, hr.c43, hr.c44, hr.c45, hr.c46, hr.c47, hr.c48, hr.c49, hr.c50, hr.c51, hr.c52, hr.c53, hr.c54, hr.c55, hr.c56, hr.c57, hr.c58, hr.c59, hr.c60, hr.c61, hr.c62, hr.c63, hr.c64, hr.c65, hr.c66, hr.c67, hr.c68, hr.c69, hr.c70, aT, inR, c_str hr iv, c_reqUser hr iv, c_reqNote hr iv, c_reqSign hr iv, c_isHeadR hr iv, c_isSeen hr iv, c_tsize hr iv, c_room hr iv, s_isWithin, s_isRight, s_isContent, s_reqAr, s_reqSt, s_reqIx, s_reqAr1, s_reqAr0, s_reqSt1, s_reqSt0, s_reqIx1, s_reqIx0, brt, brf, b2iT, b2iF, b2i_0, brN, brT, brF, brS, Classical.not_not, not_true_eq_false, not_false_eq_true, b2i_t, b2i_f, one_ne0, zz01, oz01, thr, and_false, false_and, or_self, gK_pI, gL_pI, gR_pI, gI_pI, hi, reduceCtorEq, Nat.reduceEqDiff, Int.reduceEq, if_true, if_false]
        exact q
    · rw [brf c2] at q
      simp (disch := first | assumption | omega) only [b_45_0, b_45_5, b_45_10, b_45_15, b_45_18, b_45_28, b_45_34, b_45_37, b_45_41, b_45_42, b_45_45, b_45_53, b_45_56, b_45_64, b_45_71, kont_v, kont_n, kont_x, Nat.reduceAdd, ad_some, kd_some, ixa, and_true, true_and, and_self, eq_self, ne_eq, brT, brF, true_or, or_true, and_imp, hr.c0, hr.c1, hr.c2, hr.c3, hr.c4, hr.c5, hr.c6, hr.c7, hr.c8, hr.c9, hr.c10, hr.c11, hr.c12, hr.c13, hr.c14, hr.c15, hr.c16, hr.c17, hr.c18, hr.c19, hr.c20, hr.c21, hr.c22, hr.c23, hr.c24, hr.c25, hr.c26, hr.c27, hr.c28, hr.c29, hr.c30, hr.c31, hr.c32, hr.c33, hr.c34, hr.c35, hr.c36, hr.c37, hr.c38, hr.c39, hr.c40, hr.c41, hr.c42, hr.c43, hr.c44, hr.c45, hr.c46, hr.c47, hr.c48, hr.c49, hr.c50, hr.c51, hr.c52, hr.c53, hr.c54, hr.c55, hr.c56, hr.c57, hr.c58, hr.c59, hr.c60, hr.c61, hr.c62, hr.c63, hr.c64, hr.c65, hr.c66, hr.c67, hr.c68, hr.c69, hr.c70, aT, inR, c_str hr iv, c_reqUser hr iv, c_reqNote hr iv, c_reqSign hr iv, c_isHeadR hr iv, c_isSeen hr iv, c_tsize hr iv, c_room hr iv, s_isWithin, s_isRight, s_isContent, s_reqAr, s_reqSt, s_reqIx, s_reqAr1, s_reqAr0, s_reqSt1, s_reqSt0, s_reqIx1, s_reqIx0, brt, brf, b2iT, b2iF, b2i_0, brN, brT, brF, brS, Classical.not_not, not_true_eq_false, not_false_eq_true, b2i_t, b2i_f, one_ne0, zz01, oz01, thr, and_false, false_and, or_self, gK_pI, gL_pI, gR_pI, gI_pI, hi, reduceCtorEq, Nat.reduceEqDiff, Int.reduceEq, if_true, if_false]
      exact q
  · rw [brf c1] at q
    simp (disch := first | assumption | omega) only [b_45_0, b_45_5, b_45_10, b_45_15, b_45_18, b_45_28, b_45_34, b_45_37, b_45_41, b_45_42, b_45_45, b_45_53, b_45_56, b_45_64, b_45_71, kont_v, kont_n, kont_x, Nat.reduceAdd, ad_some, kd_some, ixa, and_true, true_and, and_self, eq_self, ne_eq, brT, brF, true_or, or_true, and_imp, hr.c0, hr.c1, hr.c2, hr.c3, hr.c4, hr.c5, hr.c6, hr.c7, hr.c8, hr.c9, hr.c10, hr.c11, hr.c12, hr.c13, hr.c14, hr.c15, hr.c16, hr.c17, hr.c18, hr.c19, hr.c20, hr.c21, hr.c22, hr.c23, hr.c24, hr.c25, hr.c26, hr.c27, hr.c28, hr.c29, hr.c30, hr.c31, hr.c32, hr.c33, hr.c34, hr.c35, hr.c36, hr.c37, hr.c38, hr.c39, hr.c40, hr.c41, hr.c42, hr.c43, hr.c44, hr.c45, hr.c46, hr.c47, hr.c48, hr.c49, hr.c50, hr.c51, hr.c52, hr.c53, hr.c54, hr.c55, hr.c56, hr.c57, hr.c58, hr.c59, hr.c60, hr.c61, hr.c62, hr.c63, hr.c64, hr.c65, hr.c66, hr.c67, hr.c68, hr.c69, hr.c70, aT, inR, c_str hr iv, c_reqUser hr iv, c_reqNote hr iv, c_reqSign hr iv, c_isHeadR hr iv, c_isSeen hr iv, c_tsize hr iv, c_room hr iv, s_isWithin, s_isRight, s_isContent, s_reqAr, s_reqSt, s_reqIx, s_reqAr1, s_reqAr0, s_reqSt1, s_reqSt0, s_reqIx1, s_reqIx0, brt, brf, b2iT, b2iF, b2i_0, brN, brT, brF, brS, Classical.not_not, not_true_eq_false, not_false_eq_true, b2i_t, b2i_f, one_ne0, zz01, oz01, thr, and_false, false_and, or_self, gK_pI, gL_pI, gR_pI, gI_pI, hi, reduceCtorEq, Nat.reduceEqDiff, Int.reduceEq, if_true, if_false]
    exact q
end
