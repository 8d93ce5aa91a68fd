/-! heal -/
def hlC (S : St) (k : Int) : Prop := (S 11 k 0 = k ∧ S 12 k 0 ≠ 2) ∧ S 13 k 0 = S 14 k 0 ∧ FD S k ≠ -1
noncomputable def hl1 (S : St) (k : Int) : St := @ite St (hlC S k) (Classical.propDecidable _) (su (su S 13 k 0 (FD S k)) 14 k 0 (FD S k + S 19 k 0)) S
noncomputable def hlS (S : St) (m : Nat) (k : Int) : St := match m with
  | 0 => S
  | m + 1 => hlS (hl1 S k) m (k + 1)
noncomputable def hlN (S : St) (m : Nat) (k : Int) : Int := match m with
  | 0 => 0
  | m + 1 => b2i (hlC S k) + hlN (hl1 S k) m (k + 1)
section
variable {a : Na} {S : St} {h : Zh} {Q : Zp}
theorem FD_at (S : St) (k : Int) : FD S k = -1 ∨ AT S (FD S k) k := by
  have key : ∀ (m : Nat) (d : Int), fdL S k m d = -1 ∨ AT S (fdL S k m d) k := by
    intro m
    induction m with
    | zero => exact fun d => .inl rfl
    | succ m ih =>
      intro d
      rw [fdL_eq]
      by_cases c1 : AT S (S 13 k 0 - d) k
      · rw [if_pos c1]; exact .inr c1
      · rw [if_neg c1]
        by_cases c2 : AT S (S 13 k 0 + d) k
        · rw [if_pos c2]; exact .inr c2
        · rw [if_neg c2]; exact ih (d + 1)
  exact key 201 0
theorem FD_b (iv : Inv S) {k : Int} (hh : hd S k) (n : FD S k ≠ -1) : 0 ≤ FD S k ∧ FD S k + S 19 k 0 ≤ S 3 (S 2 0 0) 0 ∧ FD S k ≤ 200 := by
  obtain ⟨u0, u1⟩ := iv.2.1.1
  obtain ⟨u2, u3⟩ := iv.2.1.2.1 (S 2 0 0) u0 (Int.le_refl _)
  obtain ⟨f1, -, -, -, -, g1, -⟩ := iv.2.2.1.2.2.2.1 k hh
  have := ((FD_at S k).resolve_left n).1
  omega
theorem hl1_inv (iv : Inv S) {k : Int} (hk : nt S k) : Inv (hl1 S k) := by
  unfold hl1
  by_cases c : hlC S k
  · rw [if_pos c]
    have hh : hd S k := ⟨hk, c.1.1⟩
    have b := FD_b iv hh c.2.2
    obtain ⟨f1, -, -, -, -, g1, -⟩ := iv.2.2.1.2.2.2.1 k hh
    exact inv_lay iv ⟨b.1, by omega, b.2.1⟩
  · rw [if_neg c]; exact iv
theorem hl1_o (S : St) (k : Int) (q : Nat) (x y : Int) (n : q ≠ 13 ∧ q ≠ 14) : hl1 S k q x y = S q x y := by
  unfold hl1
  by_cases c : hlC S k
  · rw [if_pos c, su_k (by omega), su_k (by omega)]
  · rw [if_neg c]
theorem hlS_o (m : Nat) : ∀ (S : St) (k : Int) (q : Nat) (x y : Int), q ≠ 13 ∧ q ≠ 14 → hlS S m k q x y = S q x y := by
  induction m with
  | zero => exact fun S k q x y n => rfl
  | succ m ih => exact fun S k q x y n => (ih (hl1 S k) (k + 1) q x y n).trans (hl1_o S k q x y n)
theorem hlS_inv (m : Nat) : ∀ (S : St) (k : Int), Inv S → 0 ≤ k → m = (S 7 0 0 - k).toNat → Inv (hlS S m k) := by
  induction m with
  | zero => exact fun S k iv _ _ => iv
  | succ m ih =>
    intro S k iv h0 e
    have hk : nt S k := ⟨h0, by omega⟩
    exact ih (hl1 S k) (k + 1) (hl1_inv iv hk) (by omega) (by rw [hl1_o _ _ _ _ _ (by omega)]; omega)
theorem c_healA (hi : Ij a) (hr : RepC a S h) (iv : Inv S) (k : Int) (hk : nt S k) (hg : S 11 k 0 = k ∧ S 12 k 0 ≠ 2) (hQ : ∀ g, RepC a (hl1 S k) g → Fr (fun f => 100 ≤ f) a h a g → gC g = gC h → gS g = gS h → Q (.inl (some (zi (b2i (hlC S k))))) g) :
    WP 75 0 [some (zr (some (a 0 0))), some (zr (some (a 21 k))), none] [] h Q := by
  have hh : hd S k := ⟨hk, hg.1⟩
  obtain ⟨u0, u1⟩ := iv.2.1.1
  obtain ⟨u2, u3⟩ := iv.2.1.2.1 (S 2 0 0) u0 (Int.le_refl _)
  obtain ⟨f1, -, -, -, -, g1, -⟩ := iv.2.2.1.2.2.2.1 k hh
  have k22 := hr.c56 k hh
  have g13 := hr.c57 k hh
  have g14 := hr.c58 k hh
  by_cases c1 : S 13 k 0 = S 14 k 0
  · by_cases c2 : FD S k = -1
    · have n : ¬ hlC S k := fun z => z.2.2 c2
      have fin := hQ h (by unfold hl1; rw [if_neg n]; exact hr) Fr_rfl rfl rfl
      rw [b2i_f n] at fin
      simp (disch := first | assumption | omega) only [b_75_0, b_75_7, b_75_10, b_75_12, b_75_17, b_75_23, b_75_25, b_75_40, kont_v, kont_n, kont_x, Nat.reduceAdd, ad_some, kd_some, ixa, and_true, true_and, and_self, eq_self, ne_eq, brT, brF, true_or, or_true, and_imp, hr.c0, hr.c1, hr.c2, hr.c3, hr.c4, hr.c5, hr.c6, hr.c7, hr.c8, hr.c9, hr.c10, hr.c11, hr.c12, hr.c13, hr.c14, hr.c15, hr.c16, hr.c17, hr.c18, hr.c19, hr.c20, hr.c21, hr.c22, hr.c23, hr.c24, hr.c25, hr.c26, hr.c27, hr.c28, hr.c29, hr.c30, hr.c31, hr.c32, hr.c33, hr.c34, hr.c35, hr.c36, hr.c37, hr.c38, hr.c39, hr.c40, hr.c41, hr.c42, hr.c43, hr.c44, hr.c45, hr.c46, hr.c47, hr.c48, hr.c49, hr.c50, hr.c51, hr.c52, hr.c53, hr.c54, hr.c55, hr.c56, hr.c57, hr.c58, hr.c59, hr.c60, hr.c61, hr.c62, hr.c63, hr.c64, hr.c65, hr.c66, hr.c67, hr.c68, hr.c69, hr.c70, aT, inR, c_lost _ k22, g13, g14, c_found hr iv k hh, brb10, brb01, brbpq, brb1p, brb0p, brbp1, brbp0, brb11, brb00, b2i_0, b2i_1, b2i_01, brN, one_ne0, zz01, oz01, nem, Classical.not_not, brt, brf, oz01, zz01]
      exact fin
    · have n : hlC S k := ⟨hg, c1, c2⟩
      have b := FD_b iv hh c2
      have e1 : hl1 S k = su (su S 13 k 0 (FD S k)) 14 k 0 (FD S k + S 19 k 0) := by unfold hl1; rw [if_pos n]
      have fin := hQ _ (by rw [e1]; exact (hr.wFrom hi k (FD S k)).wTo hi k (FD S k + S 19 k 0)) ((Fr_pI hi (by omega)).trans (Fr_pI hi (by omega))) rfl rfl
      rw [b2i_t n] at fin
      simp (disch := first | assumption | omega) only [b_75_0, b_75_7, b_75_10, b_75_12, b_75_17, b_75_23, b_75_25, b_75_40, b_1_0, b_1_5, b_1_10, kont_v, kont_n, kont_x, Nat.reduceAdd, ad_some, kd_some, ixa, and_true, true_and, and_self, eq_self, ne_eq, brT, brF, true_or, or_true, and_imp, hr.c0, hr.c1, hr.c2, hr.c3, hr.c4, hr.c5, hr.c6, hr.c7, hr.c8, hr.c9, hr.c10, hr.c11, hr.c12, hr.c13, hr.c14, hr.c15, hr.c16, hr.c17, hr.c18, hr.c19, hr.c20, hr.c21, hr.c22, hr.c23, hr.c24, hr.c25, hr.c26, hr.c27, hr.c28, hr.c29, hr.c30, hr.c31, hr.c32, hr.c33, hr.c34, hr.c35, hr.c36, hr.c37, hr.c38, hr.c39, hr.c40, hr.c41, hr.c42, hr.c43, hr.c44, hr.c45, hr.c46, hr.c47, hr.c48, hr.c49, hr.c50, hr.c51, hr.c52, hr.c53, hr.c54, hr.c55, hr.c56, hr.c57, hr.c58, hr.c59, hr.c60, hr.c61, hr.c62, hr.c63, hr.c64, hr.c65, hr.c66, hr.c67, hr.c68, hr.c69, hr.c70, aT, inR, c_lost _ k22, g13, g14, c_found hr iv k hh, brb10, brb01, brbpq, brb1p, brb0p, brbp1, brbp0, brb11, brb00, b2i_0, b2i_1, b2i_01, brN, one_ne0, zz01, oz01, nem, Classical.not_not, brt, brf, oz01, zz01, gK_pI, gL_pI, gR_pI]
      exact fin
  · have n : ¬ hlC S k := fun z => c1 z.2.1
    have fin := hQ h (by unfold hl1; rw [if_neg n]; exact hr) Fr_rfl rfl rfl
    rw [b2i_f n] at fin
    simp (disch := first | assumption | omega) only [b_75_0, b_75_7, b_75_10, b_75_12, b_75_17, b_75_23, b_75_25, b_75_40, kont_v, kont_n, kont_x, Nat.reduceAdd, ad_some, kd_some, ixa, and_true, true_and, and_self, eq_self, ne_eq, brT, brF, true_or, or_true, and_imp, hr.c0, hr.c1, hr.c2, hr.c3, hr.c4, hr.c5, hr.c6, hr.c7, hr.c8, hr.c9, hr.c10, hr.c11, hr.c12, hr.c13, hr.c14, hr.c15, hr.c16, hr.c17, hr.c18, hr.c19, hr.c20, hr.c21, hr.c22, hr.c23, hr.c24, hr.c25, hr.c26, hr.c27, hr.c28, hr.c29, hr.c30, hr.c31, hr.c32, hr.c33, hr.c34, hr.c35, hr.c36, hr.c37, hr.c38, hr.c39, hr.c40, hr.c41, hr.c42, hr.c43, hr.c44, hr.c45, hr.c46, hr.c47, hr.c48, hr.c49, hr.c50, hr.c51, hr.c52, hr.c53, hr.c54, hr.c55, hr.c56, hr.c57, hr.c58, hr.c59, hr.c60, hr.c61, hr.c62, hr.c63, hr.c64, hr.c65, hr.c66, hr.c67, hr.c68, hr.c69, hr.c70, aT, inR, c_lost _ k22, g13, g14, brb10, brb01, brbpq, brb1p, brb0p, brbp1, brbp0, brb11, brb00, b2i_0, b2i_1, b2i_01, brN, one_ne0, zz01, oz01, nem, Classical.not_not, brt, brf, oz01, zz01]
    exact fin
theorem c_healL (hi : Ij a) (h0 : Zh) (S0 : St) (hQ : ∀ g, RepC a (hlS S0 (S0 7 0 0).toNat 0) g → Fr (fun f => 100 ≤ f) a h0 a g → gC g = gC h0 → gS g = gS h0 → Q (.inl (some (zi (hlN S0 (S0 7 0 0).toNat 0)))) g) (m : Nat) :
    ∀ (S : St) (k n : Int) (h : Zh), m = (S 7 0 0 - k).toNat → 0 ≤ k → 0 ≤ n → n ≤ k → RepC a S h → Inv S → Fr (fun f => 100 ≤ f) a h0 a h → gC h = gC h0 → gS h = gS h0 → hlS S m k = hlS S0 (S0 7 0 0).toNat 0 → n + hlN S m k = hlN S0 (S0 7 0 0).toNat 0 →
      WP 46 4 [some (zr (some (a 0 0))), some (zi n), some (zi k)] [] h Q := by
  induction m with
  | zero =>
    intro S k n h e1 e2 e3 e4 hr iv fr gc gs es en
    have b := iv.2.2.1.1
    have fin := hQ h (by rw [← es]; exact hr) fr gc gs
    have en : n + 0 = _ := en
    rw [← en, Int.add_zero] at fin
    rw [b_46_4]
    simp (disch := first | assumption | omega) only [kont_v, kont_n, kont_x, Nat.reduceAdd, ad_some, kd_some, ixa, and_true, true_and, and_self, eq_self, ne_eq, brT, brF, true_or, or_true, and_imp, hr.c0, hr.c1, hr.c2, hr.c3, hr.c4, hr.c5, hr.c6, hr.c7, hr.c8, hr.c9, hr.c10, hr.c11, hr.c12, hr.c13, hr.c14, hr.c15, hr.c16, hr.c17, hr.c18, hr.c19, hr.c20, hr.c21, hr.c22, hr.c23, hr.c24, hr.c25, hr.c26, hr.c27, hr.c28, hr.c29, hr.c30, hr.c31, hr.c32, hr.c33, hr.c34, hr.c35, hr.c36, hr.c37, hr.c38, hr.c39, hr.c40, hr.c41, hr.c42, hr.c43, hr.c44, hr.c45, hr.c46, hr.c47, hr.c48, hr.c49, hr.c50, hr.c51, hr.c52, hr.c53, hr.c54, hr.c55, hr.c56, hr.c57, hr.c58, hr.c59, hr.c60, hr.c61, hr.c62, hr.c63, hr.c64, hr.c65, hr.c66, hr.c67, hr.c68, hr.c69, hr.c70, brt, b_46_49]
    exact fin
  | succ m ih =>
    intro S k n h e1 e2 e3 e4 hr iv fr gc gs es en
    have b := iv.2.2.1.1
    have hk : nt S k := ⟨e2, by omega⟩
    have es : hlS (hl1 S k) m (k + 1) = _ := es
    have en : n + (b2i (hlC S k) + hlN (hl1 S k) m (k + 1)) = _ := en
    have e7 : hl1 S k 7 0 0 = S 7 0 0 := hl1_o _ _ _ _ _ (by omega)
    rw [b_46_4]
    by_cases c : S 11 k 0 = k ∧ S 12 k 0 ≠ 2
    · have e5 := c_str hr iv hk
      rw [c.1] at e5
      have hh : hd S k := ⟨hk, c.1⟩
      simp (disch := first | assumption | omega) only [b_46_12, b_46_21, b_46_24, kont_v, kont_n, kont_x, Nat.reduceAdd, ad_some, kd_some, ixa, and_true, true_and, and_self, eq_self, ne_eq, brT, brF, true_or, or_true, and_imp, hr.c0, hr.c1, hr.c2, hr.c3, hr.c4, hr.c5, hr.c6, hr.c7, hr.c8, hr.c9, hr.c10, hr.c11, hr.c12, hr.c13, hr.c14, hr.c15, hr.c16, hr.c17, hr.c18, hr.c19, hr.c20, hr.c21, hr.c22, hr.c23, hr.c24, hr.c25, hr.c26, hr.c27, hr.c28, hr.c29, hr.c30, hr.c31, hr.c32, hr.c33, hr.c34, hr.c35, hr.c36, hr.c37, hr.c38, hr.c39, hr.c40, hr.c41, hr.c42, hr.c43, hr.c44, hr.c45, hr.c46, hr.c47, hr.c48, hr.c49, hr.c50, hr.c51, hr.c52, hr.c53, hr.c54, hr.c55, hr.c56, hr.c57, hr.c58, hr.c59, hr.c60, hr.c61, hr.c62, hr.c63, hr.c64, hr.c65, hr.c66, hr.c67, hr.c68, hr.c69, hr.c70, aT, inR, brf, c_hngR hr iv k hk, b2i_0, brN, brt, e5]
      refine c_healA hi hr iv k hk c (fun g hr2 fr2 gc2 gs2 => ?_)
      have i2 := hl1_inv iv hk
      by_cases d : hlC S k
      · rw [b2i_t d] at en ⊢
        simp (disch := first | assumption | omega) only [b_46_37, b_46_40, b_46_43, kont_v, kont_n, kont_x, Nat.reduceAdd, ad_some, kd_some, ixa, and_true, true_and, and_self, eq_self, ne_eq, brT, brF, true_or, or_true, and_imp, brf, aT, inR]
        exact ih (hl1 S k) (k + 1) (n + 1) g (by omega) (by omega) (by omega) (by omega) hr2 i2 (fr.trans fr2) (gc2.trans gc) (gs2.trans gs) es (by omega)
      · rw [b2i_f d] at en ⊢
        simp (disch := first | assumption | omega) only [b_46_37, b_46_43, kont_v, kont_n, kont_x, Nat.reduceAdd, ad_some, kd_some, ixa, and_true, true_and, and_self, eq_self, ne_eq, brT, brF, true_or, or_true, and_imp, brt, aT, inR]
        exact ih (hl1 S k) (k + 1) n g (by omega) (by omega) (by omega) (by omega) hr2 i2 (fr.trans fr2) (gc2.trans gc) (gs2.trans gs) es (by omega)
    · have d : ¬ hlC S k := fun z => c z.1
      have e8 : hl1 S k = S := by unfold hl1; rw [if_neg d]
      rw [b2i_f d] at en
      rw [e8] at es en
      simp (disch := first | assumption | omega) only [b_46_12, b_46_21, b_46_43, kont_v, kont_n, kont_x, Nat.reduceAdd, ad_some, kd_some, ixa, and_true, true_and, and_self, eq_self, ne_eq, brT, brF, true_or, or_true, and_imp, hr.c0, hr.c1, hr.c2, hr.c3, hr.c4, hr.c5, hr.c6, hr.c7, hr.c8, hr.c9, hr.c10, hr.c11, hr.c12, hr.c13, hr.c14, hr.c15, hr.c16, hr.c17, hr.c18, hr.c19, hr.c20, hr.c21, hr.c22, hr.c23, hr.c24, hr.c25, hr.c26, hr.c27, hr.c28, hr.c29, hr.c30, hr.c31, hr.c32, hr.c33, hr.c34, hr.c35, hr.c36, hr.c37, hr.c38, hr.c39, hr.c40, hr.c41, hr.c42, hr.c43, hr.c44, hr.c45, hr.c46, hr.c47, hr.c48, hr.c49, hr.c50, hr.c51, hr.c52, hr.c53, hr.c54, hr.c55, hr.c56, hr.c57, hr.c58, hr.c59, hr.c60, hr.c61, hr.c62, hr.c63, hr.c64, hr.c65, hr.c66, hr.c67, hr.c68, hr.c69, hr.c70, aT, inR, brf, c_hngR hr iv k hk, b2i_0, brN]
      exact ih S (k + 1) n h (by omega) (by omega) (by omega) (by omega) hr iv fr gc gs es (by omega)
theorem c_heal (hi : Ij a) (hr : RepC a S h) (iv : Inv S) (q : CK a (hlS S (S 7 0 0).toNat 0) h Q (zi (hlN S (S 7 0 0).toNat 0))) : WP 46 0 [some (zr (some (a 0 0))), none, none] [] h Q := by
  rw [b_46_0]
  exact c_healL hi h S (fun g hr2 fr gc gs => q a g hr2 ⟨hi, fr, by omega, by omega, rfl⟩) (S 7 0 0).toNat S 0 0 h (by omega) (Int.le_refl _) (Int.le_refl _) (Int.le_refl _) hr iv Fr_rfl rfl rfl rfl (Int.zero_add _)
end
