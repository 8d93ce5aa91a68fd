/-! EDITS OF THE CLASS -/
theorem pI_self {h : Zh} {a : Nat} {k v : Int} (e : gI h a k = v) : pI h a k v = h := by
  unfold pI
  have : (fun b j => if b = a ∧ j = k then v else gI h b j) = h.2.2.1 := by
    funext b j
    by_cases c : b = a ∧ j = k
    · rw [if_pos c, c.1, c.2]; exact e.symm
    · rw [if_neg c]; rfl
  rw [this]
section
variable {a : Na} {S T : St} {h : Zh} {Q : Zp}
theorem c_mvPut (x : Nat) (p n : Int) (k : gK h x = 1) (b : 0 ≤ gI h x 0 ∧ gI h x 0 ≤ 1000 ∧ 0 ≤ gI h x 1 ∧ gI h x 1 ≤ 1000) (hn : 0 ≤ n ∧ n ≤ 1000) (hp : 0 ≤ p ∧ p ≤ 1000) : WP 7 0 [some (zr (some x)), some (zi p), some (zi n)] [] h Q = Q (.inl none) (pI (pI h x 0 (mF (gI h x 0) p n)) x 1 (mT (gI h x 0) (gI h x 1) p n)) := by
  unfold mF mT
  by_cases c : p ≤ gI h x 0
  · rw [if_pos c, if_pos (.inl c)]
    simp (disch := first | assumption | omega) only [b_7_0, b_7_8, b_7_18, b_7_28, b_7_31, b_7_39, b_7_49, kont_v, kont_n, kont_x, Nat.reduceAdd, ad_some, kd_some, ixa, and_true, true_and, and_self, eq_self, ne_eq, brT, brF, true_or, or_true, and_imp, aT, inR, k, brf, gK_pI, gI_pI, Int.reduceEq, and_false, if_false]
  · rw [if_neg c]
    by_cases d : p < gI h x 1
    · rw [if_pos (.inr d), pI_self rfl]
      simp (disch := first | assumption | omega) only [b_7_0, b_7_8, b_7_18, b_7_28, b_7_31, b_7_39, b_7_49, kont_v, kont_n, kont_x, Nat.reduceAdd, ad_some, kd_some, ixa, and_true, true_and, and_self, eq_self, ne_eq, brT, brF, true_or, or_true, and_imp, aT, inR, k, brt, brf]
    · rw [if_neg (by omega), pI_self rfl, pI_self rfl]
      simp (disch := first | assumption | omega) only [b_7_0, b_7_8, b_7_18, b_7_28, b_7_31, b_7_39, b_7_49, kont_v, kont_n, kont_x, Nat.reduceAdd, ad_some, kd_some, ixa, and_true, true_and, and_self, eq_self, ne_eq, brT, brF, true_or, or_true, and_imp, aT, inR, k, brt, brf]
theorem ct_e (f p n : Int) (hn : 0 ≤ n) : f - (if 0 < (if p + n < f then p + n else f) - p then (if p + n < f then p + n else f) - p else 0) = ct f p n := by
  unfold ct
  by_cases q : p + n < f
  · rw [if_pos q]
    split <;> split <;> (try split) <;> omega
  · rw [if_neg q]
    split <;> split <;> (try split) <;> omega
theorem c_mvCut (x : Nat) (p n : Int) (k : gK h x = 1) (b : 0 ≤ gI h x 0 ∧ gI h x 0 ≤ 1000 ∧ 0 ≤ gI h x 1 ∧ gI h x 1 ≤ 1000) (hn : 0 ≤ n ∧ n ≤ 1000) (hp : 0 ≤ p ∧ p ≤ 1000) : WP 8 0 [some (zr (some x)), some (zi p), some (zi (p + n))] [] h Q = Q (.inl none) (pI (pI h x 0 (ct (gI h x 0) p n)) x 1 (ct (gI h x 1) p n)) := by
  have r1 : inR ((if p + n < gI h x 0 then p + n else gI h x 0) - p) := by unfold inR; split <;> omega
  have r2 : inR ((if p + n < gI h x 1 then p + n else gI h x 1) - p) := by unfold inR; split <;> omega
  have s1 : inR (ct (gI h x 0) p n) := by unfold inR ct; split <;> (try split) <;> omega
  have s2 : inR (ct (gI h x 1) p n) := by unfold inR ct; split <;> (try split) <;> omega
  simp (disch := first | assumption | omega) only [b_8_0, b_8_14, b_8_18, b_8_32, b_8_36, b_9_0, kont_v, kont_n, kont_x, Nat.reduceAdd, ad_some, kd_some, ixa, and_true, true_and, and_self, eq_self, ne_eq, brT, brF, true_or, or_true, and_imp, k, r1, r2, gK_pI, gI_pI, Int.reduceEq, and_false, if_false, ct_e, s1, s2]
/-- putSigns' loop over the heads -/
theorem c_putL (hi : Ij a) (p n s : Int) (hN : 0 ≤ T 7 0 0 ∧ T 7 0 0 ≤ 60) (ht : ∀ k, nt T k → (T 10 k 0 = -1 ∧ T 11 k 0 = k) ∨ (nt T (T 10 k 0) ∧ T 11 k 0 ≠ k)) (hb : ∀ k, hd T k → 0 ≤ T 13 k 0 ∧ T 13 k 0 ≤ 200 ∧ 0 ≤ T 14 k 0 ∧ T 14 k 0 ≤ 200) (hn : 0 ≤ n ∧ n ≤ 40) (hp : 0 ≤ p ∧ p ≤ 200)
    (hQ : ∀ g, RepC a (MP T (T 7 0 0) p n) g → Fr (fun f => 100 ≤ f) a h a g → gC g = gC h → gS g = gS h → Q (.inl none) g) (m : Nat) :
    ∀ (i : Int) (g : Zh), m = (T 7 0 0 - i).toNat → 0 ≤ i → i ≤ T 7 0 0 → RepC a (MP T i p n) g → Fr (fun f => 100 ≤ f) a h a g → gC g = gC h → gS g = gS h →
      WP 70 14 [some (zr (some (a 0 0))), some (zi p), some (zi n), some (zi s), some (zi i)] [] g Q := by
  induction m with
  | zero =>
    intro i g e1 e2 e3 hr fr gc gs
    have e : i = T 7 0 0 := by omega
    have e7 : MP T i p n 7 0 0 = T 7 0 0 := rfl
    rw [b_70_14]
    simp (disch := first | assumption | omega) only [kont_v, kont_n, kont_x, Nat.reduceAdd, ad_some, kd_some, ixa, and_true, true_and, and_self, eq_self, ne_eq, brT, brF, true_or, or_true, and_imp, hr.c0, hr.c1, hr.c2, hr.c3, hr.c4, hr.c5, hr.c6, hr.c7, hr.c8, hr.c9, hr.c10, hr.c11, hr.c12, hr.c13, hr.c14, hr.c15, hr.c16, hr.c17, hr.c18, hr.c19, hr.c20, hr.c21, hr.c22, hr.c23, hr.c24, hr.c25, hr.c26, hr.c27, hr.c28, hr.c29, hr.c30, hr.c31, hr.c32, hr.c33, hr.c34, hr.c35, hr.c36, hr.c37, hr.c38, hr.c39, hr.c40, hr.c41, hr.c42, hr.c43, hr.c44, hr.c45, hr.c46, hr.c47, hr.c48, hr.c49, hr.c50, hr.c51, hr.c52, hr.c53, hr.c54, hr.c55, hr.c56, hr.c57, hr.c58, hr.c59, hr.c60, hr.c61, hr.c62, hr.c63, hr.c64, hr.c65, hr.c66, hr.c67, hr.c68, hr.c69, hr.c70, e7, brt, b_70_60]
    rw [e] at hr
    exact hQ g hr fr gc gs
  | succ m ih =>
    intro i g e1 e2 e3 hr fr gc gs
    have hk : nt T i := ⟨e2, by omega⟩
    have e7 : MP T i p n 7 0 0 = T 7 0 0 := rfl
    have hk2 : nt (MP T i p n) i := hk
    obtain ⟨n0, n1, -, -, -, -, -, -, -, n9, n10, n11, -, -⟩ := hr.N i hk2
    rw [b_70_14]
    by_cases c : T 11 i 0 = i
    · have hh : hd T i := ⟨hk, c⟩
      have hh2 : hd (MP T i p n) i := hh
      obtain ⟨h0, -, -, -, h4, -, -, -, -, h9, h10, h11, -⟩ := hr.H i hh2
      have b := hb i hh
      have nn : gR g (a 20 i) 4 = none := n9 (by rcases ht i hk with q | q; exact q.1; exact absurd c q.2)
      have ns := n11 i hh2 c
      have e13 : MP T i p n 13 i 0 = T 13 i 0 := by unfold MP; rw [if_neg (by omega), if_neg (by omega)]
      have e14 : MP T i p n 14 i 0 = T 14 i 0 := by unfold MP; rw [if_neg (by omega), if_neg (by omega)]
      have g0 : gI g (a 22 i) 0 = T 13 i 0 := h10.trans e13
      have g1 : gI g (a 22 i) 1 = T 14 i 0 := h11.trans e14
      have w := (hr.wFrom hi i (mF (T 13 i 0) p n)).wTo hi i (mT (T 13 i 0) (T 14 i 0) p n)
      rw [MP_s T i p n e2 c] at w
      have nz : b2i (gR g (a 20 i) 4 = none) = 1 := b2i_t nn
      simp (disch := first | assumption | omega) only [b_70_23, b_70_33, b_70_36, b_70_54, kont_v, kont_n, kont_x, Nat.reduceAdd, ad_some, kd_some, ixa, and_true, true_and, and_self, eq_self, ne_eq, brT, brF, true_or, or_true, and_imp, hr.c0, hr.c1, hr.c2, hr.c3, hr.c4, hr.c5, hr.c6, hr.c7, hr.c8, hr.c9, hr.c10, hr.c11, hr.c12, hr.c13, hr.c14, hr.c15, hr.c16, hr.c17, hr.c18, hr.c19, hr.c20, hr.c21, hr.c22, hr.c23, hr.c24, hr.c25, hr.c26, hr.c27, hr.c28, hr.c29, hr.c30, hr.c31, hr.c32, hr.c33, hr.c34, hr.c35, hr.c36, hr.c37, hr.c38, hr.c39, hr.c40, hr.c41, hr.c42, hr.c43, hr.c44, hr.c45, hr.c46, hr.c47, hr.c48, hr.c49, hr.c50, hr.c51, hr.c52, hr.c53, hr.c54, hr.c55, hr.c56, hr.c57, hr.c58, hr.c59, hr.c60, hr.c61, hr.c62, hr.c63, hr.c64, hr.c65, hr.c66, hr.c67, hr.c68, hr.c69, hr.c70, aT, inR, e7, n0, n1, c_isHead, nz, nn, one_ne0, brt, brf, ns, h0, h4, h9, c_mvPut, g0, g1, e13, e14, b2iT]
      exact ih (i + 1) _ (by omega) (by omega) (by omega) w (fr.trans ((Fr_pI hi (by omega)).trans (Fr_pI hi (by omega)))) gc gs
    · have nn : gR g (a 20 i) 4 ≠ none := by
        rcases ht i hk with q | q
        · exact absurd q.2 c
        · rw [n10 _ q.1 rfl]; exact fun z => by cases z
      have nz : b2i (gR g (a 20 i) 4 = none) = 0 := b2i_f nn
      rw [MP_n T i p n c] at hr
      have e7 : MP T (i + 1) p n 7 0 0 = T 7 0 0 := rfl
      simp (disch := first | assumption | omega) only [b_70_23, b_70_33, b_70_36, b_70_54, kont_v, kont_n, kont_x, Nat.reduceAdd, ad_some, kd_some, ixa, and_true, true_and, and_self, eq_self, ne_eq, brT, brF, true_or, or_true, and_imp, hr.c0, hr.c1, hr.c2, hr.c3, hr.c4, hr.c5, hr.c6, hr.c7, hr.c8, hr.c9, hr.c10, hr.c11, hr.c12, hr.c13, hr.c14, hr.c15, hr.c16, hr.c17, hr.c18, hr.c19, hr.c20, hr.c21, hr.c22, hr.c23, hr.c24, hr.c25, hr.c26, hr.c27, hr.c28, hr.c29, hr.c30, hr.c31, hr.c32, hr.c33, hr.c34, hr.c35, hr.c36, hr.c37, hr.c38, hr.c39, hr.c40, hr.c41, hr.c42, hr.c43, hr.c44, hr.c45, hr.c46, hr.c47, hr.c48, hr.c49, hr.c50, hr.c51, hr.c52, hr.c53, hr.c54, hr.c55, hr.c56, hr.c57, hr.c58, hr.c59, hr.c60, hr.c61, hr.c62, hr.c63, hr.c64, hr.c65, hr.c66, hr.c67, hr.c68, hr.c69, hr.c70, aT, inR, e7, n0, n1, c_isHead, nz, zz01, brt, brf]
      exact ih (i + 1) _ (by omega) (by omega) (by omega) hr fr gc gs
theorem c_cutL (hi : Ij a) (p n : Int) (hN : 0 ≤ T 7 0 0 ∧ T 7 0 0 ≤ 60) (ht : ∀ k, nt T k → (T 10 k 0 = -1 ∧ T 11 k 0 = k) ∨ (nt T (T 10 k 0) ∧ T 11 k 0 ≠ k)) (hb : ∀ k, hd T k → 0 ≤ T 13 k 0 ∧ T 13 k 0 ≤ 200 ∧ 0 ≤ T 14 k 0 ∧ T 14 k 0 ≤ 200) (hn : 0 ≤ n ∧ n ≤ 200) (hp : 0 ≤ p ∧ p ≤ 200)
    (hQ : ∀ g, RepC a (MC T (T 7 0 0) p n) g → Fr (fun f => 100 ≤ f) a h a g → gC g = gC h → gS g = gS h → Q (.inl none) g) (m : Nat) :
    ∀ (i : Int) (g : Zh), m = (T 7 0 0 - i).toNat → 0 ≤ i → i ≤ T 7 0 0 → RepC a (MC T i p n) g → Fr (fun f => 100 ≤ f) a h a g → gC g = gC h → gS g = gS h →
      WP 71 13 [some (zr (some (a 0 0))), some (zi p), some (zi n), some (zi i)] [] g Q := by
  induction m with
  | zero =>
    intro i g e1 e2 e3 hr fr gc gs
    have e : i = T 7 0 0 := by omega
    have e7 : MC T i p n 7 0 0 = T 7 0 0 := rfl
    rw [b_71_13]
    simp (disch := first | assumption | omega) only [kont_v, kont_n, kont_x, Nat.reduceAdd, ad_some, kd_some, ixa, and_true, true_and, and_self, eq_self, ne_eq, brT, brF, true_or, or_true, and_imp, hr.c0, hr.c1, hr.c2, hr.c3, hr.c4, hr.c5, hr.c6, hr.c7, hr.c8, hr.c9, hr.c10, hr.c11, hr.c12, hr.c13, hr.c14, hr.c15, hr.c16, hr.c17, hr.c18, hr.c19, hr.c20, hr.c21, hr.c22, hr.c23, hr.c24, hr.c25, hr.c26, hr.c27, hr.c28, hr.c29, hr.c30, hr.c31, hr.c32, hr.c33, hr.c34, hr.c35, hr.c36, hr.c37, hr.c38, hr.c39, hr.c40, hr.c41, hr.c42, hr.c43, hr.c44, hr.c45, hr.c46, hr.c47, hr.c48, hr.c49, hr.c50, hr.c51, hr.c52, hr.c53, hr.c54, hr.c55, hr.c56, hr.c57, hr.c58, hr.c59, hr.c60, hr.c61, hr.c62, hr.c63, hr.c64, hr.c65, hr.c66, hr.c67, hr.c68, hr.c69, hr.c70, e7, brt, b_71_58]
    rw [e] at hr
    exact hQ g hr fr gc gs
  | succ m ih =>
    intro i g e1 e2 e3 hr fr gc gs
    have hk : nt T i := ⟨e2, by omega⟩
    have e7 : MC T i p n 7 0 0 = T 7 0 0 := rfl
    have hk2 : nt (MC T i p n) i := hk
    obtain ⟨n0, n1, -, -, -, -, -, -, -, n9, n10, n11, -, -⟩ := hr.N i hk2
    rw [b_71_13]
    by_cases c : T 11 i 0 = i
    · have hh : hd T i := ⟨hk, c⟩
      have hh2 : hd (MC T i p n) i := hh
      obtain ⟨h0, -, -, -, h4, -, -, -, -, h9, h10, h11, -⟩ := hr.H i hh2
      have b := hb i hh
      have nn : gR g (a 20 i) 4 = none := n9 (by rcases ht i hk with q | q; exact q.1; exact absurd c q.2)
      have ns := n11 i hh2 c
      have e13 : MC T i p n 13 i 0 = T 13 i 0 := by unfold MC; rw [if_neg (by omega), if_neg (by omega)]
      have e14 : MC T i p n 14 i 0 = T 14 i 0 := by unfold MC; rw [if_neg (by omega), if_neg (by omega)]
      have g0 : gI g (a 22 i) 0 = T 13 i 0 := h10.trans e13
      have g1 : gI g (a 22 i) 1 = T 14 i 0 := h11.trans e14
      have w := (hr.wFrom hi i (ct (T 13 i 0) p n)).wTo hi i (ct (T 14 i 0) p n)
      rw [MC_s T i p n e2 c] at w
      have nz : b2i (gR g (a 20 i) 4 = none) = 1 := b2i_t nn
      simp (disch := first | assumption | omega) only [b_71_21, b_71_30, b_71_33, b_71_52, kont_v, kont_n, kont_x, Nat.reduceAdd, ad_some, kd_some, ixa, and_true, true_and, and_self, eq_self, ne_eq, brT, brF, true_or, or_true, and_imp, hr.c0, hr.c1, hr.c2, hr.c3, hr.c4, hr.c5, hr.c6, hr.c7, hr.c8, hr.c9, hr.c10, hr.c11, hr.c12, hr.c13, hr.c14, hr.c15, hr.c16, hr.c17, hr.c18, hr.c19, hr.c20, hr.c21, hr.c22, hr.c23, hr.c24, hr.c25, hr.c26, hr.c27, hr.c28, hr.c29, hr.c30, hr.c31, hr.c32, hr.c33, hr.c34, hr.c35, hr.c36, hr.c37, hr.c38, hr.c39, hr.c40, hr.c41, hr.c42, hr.c43, hr.c44, hr.c45, hr.c46, hr.c47, hr.c48, hr.c49, hr.c50, hr.c51, hr.c52, hr.c53, hr.c54, hr.c55, hr.c56, hr.c57, hr.c58, hr.c59, hr.c60, hr.c61, hr.c62, hr.c63, hr.c64, hr.c65, hr.c66, hr.c67, hr.c68, hr.c69, hr.c70, aT, inR, e7, n0, n1, c_isHead, nz, nn, one_ne0, brt, brf, ns, h0, h4, h9, c_mvCut, g0, g1, e13, e14, b2iT]
      exact ih (i + 1) _ (by omega) (by omega) (by omega) w (fr.trans ((Fr_pI hi (by omega)).trans (Fr_pI hi (by omega)))) gc gs
    · have nn : gR g (a 20 i) 4 ≠ none := by
        rcases ht i hk with q | q
        · exact absurd q.2 c
        · rw [n10 _ q.1 rfl]; exact fun z => by cases z
      have nz : b2i (gR g (a 20 i) 4 = none) = 0 := b2i_f nn
      rw [MC_n T i p n c] at hr
      have e7 : MC T (i + 1) p n 7 0 0 = T 7 0 0 := rfl
      simp (disch := first | assumption | omega) only [b_71_21, b_71_30, b_71_33, b_71_52, kont_v, kont_n, kont_x, Nat.reduceAdd, ad_some, kd_some, ixa, and_true, true_and, and_self, eq_self, ne_eq, brT, brF, true_or, or_true, and_imp, hr.c0, hr.c1, hr.c2, hr.c3, hr.c4, hr.c5, hr.c6, hr.c7, hr.c8, hr.c9, hr.c10, hr.c11, hr.c12, hr.c13, hr.c14, hr.c15, hr.c16, hr.c17, hr.c18, hr.c19, hr.c20, hr.c21, hr.c22, hr.c23, hr.c24, hr.c25, hr.c26, hr.c27, hr.c28, hr.c29, hr.c30, hr.c31, hr.c32, hr.c33, hr.c34, hr.c35, hr.c36, hr.c37, hr.c38, hr.c39, hr.c40, hr.c41, hr.c42, hr.c43, hr.c44, hr.c45, hr.c46, hr.c47, hr.c48, hr.c49, hr.c50, hr.c51, hr.c52, hr.c53, hr.c54, hr.c55, hr.c56, hr.c57, hr.c58, hr.c59, hr.c60, hr.c61, hr.c62, hr.c63, hr.c64, hr.c65, hr.c66, hr.c67, hr.c68, hr.c69, hr.c70, aT, inR, e7, n0, n1, c_isHead, nz, zz01, brt, brf]
      exact ih (i + 1) _ (by omega) (by omega) (by omega) hr fr gc gs
/-- edit's loop over the signs that are put -/
theorem c_edL (hi : Ij a) (iv : Inv S) (p c n s : Int) (hp : 0 ≤ p) (hc : 0 ≤ c) (hn : 0 ≤ n ∧ n ≤ 40) (hpc : p + c ≤ S 3 (S 2 0 0) 0) (hs : 0 ≤ s ∧ s ≤ 25) (hz : S 3 (S 2 0 0) 0 - c + n ≤ 200) (hv : S 2 0 0 < 60)
    (hQ : ∀ g, RepC a (TX S p c n s) g → Fr (fun f => 100 ≤ f) a h a g → gC g = gC h → gS g = gS h → Q (.inl none) g) (m : Nat) :
    ∀ (i : Int) (g : Zh), m = (n - i).toNat → 0 ≤ i → i ≤ n → RepC a (SN S i s) g → Fr (fun f => 100 ≤ f) a h a g → gC g = gC h → gS g = gS h → (∀ j, 0 ≤ j → j < p + i → gI g (a 11 (S 2 0 0 + 1)) j = if j < p then S 4 (S 2 0 0) j else S 6 0 0 + (j - p)) →
      WP 30 37 [some (zr (some (a 2 0))), some (zi p), some (zi c), some (zi n), some (zi s), some (zr (some (a 11 (S 2 0 0)))), some (zr (some (a 11 (S 2 0 0 + 1)))), some (zi i)] [] g Q := by
  obtain ⟨u0, u1⟩ := iv.2.1.1
  obtain ⟨u2, u3⟩ := iv.2.1.2.1 (S 2 0 0) u0 (Int.le_refl _)
  obtain ⟨v0, v1⟩ := iv.2.1.2.2.1
  induction m with
  | zero =>
    intro i g e1 e2 e3 hr fr gc gs hrow
    have e : i = n := by omega
    obtain ⟨t0, t1, t2, t3, t4, t5, t6, t7, t8, t9, t10, t11, t12, t13, t14, t15, t16, t17⟩ := hr.Tx
    have t2 : gI g (a 2 0) 4 = S 2 0 0 := t2
    have k1 := t9 (S 2 0 0) u0 u1
    have k2 := t9 (S 2 0 0 + 1) (by omega) (by omega)
    have l1 := t10 (S 2 0 0) u0 u1
    have l2 := t10 (S 2 0 0 + 1) (by omega) (by omega)
    have z7 : gI g (a 7 0) (S 2 0 0) = S 3 (S 2 0 0) 0 := t14 (S 2 0 0) u0 (Int.le_refl _)
    rw [b_30_37]
    simp (disch := first | assumption | omega) only [b_30_87, b_30_101, b_30_108, b_30_122, b_30_127, b_30_137, b_23_0, kont_v, kont_n, kont_x, Nat.reduceAdd, ad_some, kd_some, ixa, and_true, true_and, and_self, eq_self, ne_eq, brT, brF, true_or, or_true, and_imp, aT, inR, t0, t2, t3, t4, t5, t6, t7, k1, k2, l1, l2, t12, t13, z7, brt, gK_pI, gL_pI, gR_pI, gI_pI, gK_cpy, gL_cpy, gR_cpy, gI_cpy, hi, reduceCtorEq, Nat.reduceEqDiff, Int.reduceEq, and_false, false_and, if_false]
    rw [e] at hr hrow
    have w := (((hr.wCpy hi (a 11 (S 2 0 0)) (S 2 0 0 + 1) (p + c) (p + n) (S 3 (S 2 0 0) 0 - p - c) (Int.lt_succ _)).wSiz hi (S 2 0 0 + 1) (S 3 (S 2 0 0) 0 - c + n) (Int.lt_succ _)).wVer hi (S 3 (S 2 0 0) 0 - c + n) (fun j => if j < p then S 4 (S 2 0 0) j else if j < p + n then S 6 0 0 + (j - p) else S 4 (S 2 0 0) (j - n + c)) ((gI_pI ..).trans (if_pos ⟨rfl, rfl⟩)) (fun j j1 j2 => ?_))
    · exact hQ _ w (fr.trans ((Fr_cpy hi (by omega)).trans ((Fr_pI hi (by omega)).trans (Fr_pI hi (by omega))))) gc gs
    · refine (gI_pI ..).trans ((if_neg (fun z => by rw [hi] at z; omega)).trans ?_)
      show gI (cpy g _ _ (a 11 (S 2 0 0 + 1)) _ _) (a 11 (S 2 0 0 + 1)) j = _
      rw [gI_cpy]
      by_cases d : j < p + n
      · rw [if_neg (by omega), hrow j j1 d]
        by_cases q : j < p
        · rw [if_pos q, if_pos q]
        · rw [if_neg q, if_neg q, if_pos d]
      · rw [if_pos ⟨rfl, by omega, by omega⟩, if_neg (by omega), if_neg d]
        have : p + c + (j - (p + n)) = j - n + c := by omega
        rw [this]
        exact t11 (S 2 0 0) (j - n + c) u0 u1 (Int.le_refl _) (by omega) (by show j - n + c < S 3 (S 2 0 0) 0; omega)
  | succ m ih =>
    intro i g e1 e2 e3 hr fr gc gs hrow
    obtain ⟨t0, t1, t2, t3, t4, t5, t6, t7, t8, t9, t10, t11, t12, t13, t14, t15, t16, t17⟩ := hr.Tx
    have t1 : gI g (a 2 0) 3 = S 6 0 0 + i := t1
    have k2 := t9 (S 2 0 0 + 1) (by omega) (by omega)
    have l2 := t10 (S 2 0 0 + 1) (by omega) (by omega)
    have w : RepC a (su (su (SN S i s) 5 (S 6 0 0 + i) 0 ((s + i) % 26)) 6 0 0 (S 6 0 0 + i + 1)) (pI (pI (pI g (a 8 0) (S 6 0 0 + i) ((s + i) % 26)) (a 11 (S 2 0 0 + 1)) (p + i) (S 6 0 0 + i)) (a 2 0) 3 (S 6 0 0 + i + 1)) :=
      ((hr.wSig hi (S 6 0 0 + i) ((s + i) % 26) (Int.le_refl _)).wRow hi (S 2 0 0 + 1) (p + i) (S 6 0 0 + i) (Int.lt_succ _)).wName hi ((s + i) % 26) ((gI_pI ..).trans ((if_neg (fun z => by rw [hi] at z; omega)).trans ((gI_pI ..).trans (if_pos ⟨rfl, rfl⟩))))
    rw [SN_s S i s e2] at w
    rw [b_30_37]
    simp (disch := first | assumption | omega) only [b_30_43, b_30_60, b_30_71, b_30_81, kont_v, kont_n, kont_x, Nat.reduceAdd, ad_some, kd_some, ixa, and_true, true_and, and_self, eq_self, ne_eq, brT, brF, true_or, or_true, and_imp, aT, inR, t0, t1, t3, t4, t5, t15, t16, k2, l2, brf, gK_pI, gL_pI, gR_pI, gI_pI, hi, reduceCtorEq, Nat.reduceEqDiff, Int.reduceEq, and_false, false_and, if_false]
    refine ih (i + 1) _ (by omega) (by omega) (by omega) w (fr.trans ((Fr_pI hi (by omega)).trans ((Fr_pI hi (by omega)).trans (Fr_pI hi (by omega))))) gc gs (fun j j1 j2 => ?_)
    refine (gI_pI ..).trans ((if_neg (fun z => by rw [hi] at z; omega)).trans ((gI_pI ..).trans ?_))
    by_cases d : j = p + i
    · rw [if_pos ⟨rfl, d⟩, if_neg (by omega)]; omega
    · rw [if_neg (fun z => d z.2), gI_pI, if_neg (fun z => by rw [hi] at z; omega)]
      exact hrow j j1 (by omega)
theorem c_edit (hi : Ij a) (hr : RepC a S h) (iv : Inv S) (p c n s : Int) (hp : 0 ≤ p) (hc : 0 ≤ c) (hn : 0 ≤ n ∧ n ≤ 40) (hpc : p + c ≤ S 3 (S 2 0 0) 0) (hs : 0 ≤ s ∧ s ≤ 25) (hz : S 3 (S 2 0 0) 0 - c + n ≤ 200) (hv : S 2 0 0 < 60)
    (hQ : ∀ g, RepC a (TX S p c n s) g → Fr (fun f => 100 ≤ f) a h a g → gC g = gC h → gS g = gS h → Q (.inl none) g) :
      WP 30 0 [some (zr (some (a 2 0))), some (zi p), some (zi c), some (zi n), some (zi s), none, none, none] [] h Q := by
  obtain ⟨u0, u1⟩ := iv.2.1.1
  obtain ⟨u2, u3⟩ := iv.2.1.2.1 (S 2 0 0) u0 (Int.le_refl _)
  have w : RepC a (SN S 0 s) (cpy h (a 11 (S 2 0 0)) 0 (a 11 (S 2 0 0 + 1)) 0 p) := by rw [SN_0]; exact hr.wCpy hi (a 11 (S 2 0 0)) (S 2 0 0 + 1) 0 0 p (Int.lt_succ _)
  simp (disch := first | assumption | omega) only [b_30_0, b_30_34, kont_v, kont_n, kont_x, Nat.reduceAdd, ad_some, kd_some, ixa, and_true, true_and, and_self, eq_self, ne_eq, brT, brF, true_or, or_true, and_imp, hr.c0, hr.c1, hr.c2, hr.c3, hr.c4, hr.c5, hr.c6, hr.c7, hr.c8, hr.c9, hr.c10, hr.c11, hr.c12, hr.c13, hr.c14, hr.c15, hr.c16, hr.c17, hr.c18, hr.c19, hr.c20, hr.c21, hr.c22, hr.c23, hr.c24, hr.c25, hr.c26, hr.c27, hr.c28, hr.c29, hr.c30, hr.c31, hr.c32, hr.c33, hr.c34, hr.c35, hr.c36, hr.c37, hr.c38, hr.c39, hr.c40, hr.c41, hr.c42, hr.c43, hr.c44, hr.c45, hr.c46, hr.c47, hr.c48, hr.c49, hr.c50, hr.c51, hr.c52, hr.c53, hr.c54, hr.c55, hr.c56, hr.c57, hr.c58, hr.c59, hr.c60, hr.c61, hr.c62, hr.c63, hr.c64, hr.c65, hr.c66, hr.c67, hr.c68, hr.c69, hr.c70, aT, inR]
  refine c_edL hi iv p c n s hp hc hn hpc hs hz hv hQ n.toNat 0 _ (by omega) (Int.le_refl _) hn.1 w (Fr_cpy hi (by omega)) rfl rfl (fun j j1 j2 => ?_)
  rw [gI_cpy, if_pos ⟨rfl, j1, by omega⟩, if_pos (by omega), show 0 + (j - 0) = j by omega]
  exact hr.c22 (S 2 0 0) j u0 u1 (Int.le_refl _) j1 (by omega)
theorem tree_l (iv : Inv S) (e : ∀ k, T 7 0 0 = S 7 0 0 ∧ T 10 k 0 = S 10 k 0 ∧ T 11 k 0 = S 11 k 0) : ∀ k, nt T k → (T 10 k 0 = -1 ∧ T 11 k 0 = k) ∨ (nt T (T 10 k 0) ∧ T 11 k 0 ≠ k) := by
  intro k hk
  unfold nt at hk ⊢
  rw [(e k).1, (e k).2.1, (e k).2.2] at *
  rcases iv_par iv hk with q | q
  · exact .inl q
  · exact .inr ⟨q.1, by omega⟩
theorem c_putS (hi : Ij a) (hr : RepC a S h) (iv : Inv S) (p n s : Int) (hp : 0 ≤ p) (hn : 0 ≤ n ∧ n ≤ 40) (hpc : p ≤ S 3 (S 2 0 0) 0) (hs : 0 ≤ s ∧ s ≤ 25) (hz : S 3 (S 2 0 0) 0 + n ≤ 200) (hv : S 2 0 0 < 60)
    (hQ : ∀ g, RepC a (Sput S p n s) g → Fr (fun f => 100 ≤ f) a h a g → gC g = gC h → gS g = gS h → Q (.inl none) g) :
      WP 70 0 [some (zr (some (a 0 0))), some (zi p), some (zi n), some (zi s), none] [] h Q := by
  obtain ⟨u0, u1⟩ := iv.2.1.1
  obtain ⟨u2, u3⟩ := iv.2.1.2.1 (S 2 0 0) u0 (Int.le_refl _)
  simp (disch := first | assumption | omega) only [b_70_0, kont_v, kont_n, kont_x, Nat.reduceAdd, ad_some, kd_some, ixa, and_true, true_and, and_self, eq_self, ne_eq, brT, brF, true_or, or_true, and_imp, hr.c0, hr.c1, hr.c2, hr.c3, hr.c4, hr.c5, hr.c6, hr.c7, hr.c8, hr.c9, hr.c10, hr.c11, hr.c12, hr.c13, hr.c14, hr.c15, hr.c16, hr.c17, hr.c18, hr.c19, hr.c20, hr.c21, hr.c22, hr.c23, hr.c24, hr.c25, hr.c26, hr.c27, hr.c28, hr.c29, hr.c30, hr.c31, hr.c32, hr.c33, hr.c34, hr.c35, hr.c36, hr.c37, hr.c38, hr.c39, hr.c40, hr.c41, hr.c42, hr.c43, hr.c44, hr.c45, hr.c46, hr.c47, hr.c48, hr.c49, hr.c50, hr.c51, hr.c52, hr.c53, hr.c54, hr.c55, hr.c56, hr.c57, hr.c58, hr.c59, hr.c60, hr.c61, hr.c62, hr.c63, hr.c64, hr.c65, hr.c66, hr.c67, hr.c68, hr.c69, hr.c70, aT, inR]
  refine c_edit hi hr iv p 0 n s hp (Int.le_refl _) hn (by omega) hs (by omega) hv (fun g hr fr gc gs => ?_)
  simp (disch := first | assumption | omega) only [b_70_11, kont_v, kont_n, kont_x, Nat.reduceAdd, ad_some, kd_some, ixa, and_true, true_and, and_self, eq_self, ne_eq, brT, brF, true_or, or_true, and_imp]
  refine c_putL (T := TX S p 0 n s) hi p n s iv.2.2.1.1 (tree_l iv (fun k => ⟨rfl, rfl, rfl⟩)) (fun k hk => ?_) hn ⟨hp, by omega⟩ (fun g2 hr2 fr2 gc2 gs2 => hQ g2 hr2 (fr.trans fr2) (gc2.trans gc) (gs2.trans gs)) (S 7 0 0).toNat 0 g (by show _ = (S 7 0 0 - 0).toNat; omega) (Int.le_refl _) iv.2.2.1.1.1 (by rw [MP_0]; exact hr) Fr_rfl rfl rfl
  have := (iv.2.2.1.2.2.2.1 k hk).1
  show 0 ≤ S 13 k 0 ∧ S 13 k 0 ≤ 200 ∧ 0 ≤ S 14 k 0 ∧ S 14 k 0 ≤ 200
  omega
theorem c_cutS (hi : Ij a) (hr : RepC a S h) (iv : Inv S) (p n : Int) (hp : 0 ≤ p) (hn : 0 ≤ n) (hpc : p + n ≤ S 3 (S 2 0 0) 0) (hv : S 2 0 0 < 60)
    (hQ : ∀ g, RepC a (Scut S p n) g → Fr (fun f => 100 ≤ f) a h a g → gC g = gC h → gS g = gS h → Q (.inl none) g) :
      WP 71 0 [some (zr (some (a 0 0))), some (zi p), some (zi n), none] [] h Q := by
  obtain ⟨u0, u1⟩ := iv.2.1.1
  obtain ⟨u2, u3⟩ := iv.2.1.2.1 (S 2 0 0) u0 (Int.le_refl _)
  simp (disch := first | assumption | omega) only [b_71_0, kont_v, kont_n, kont_x, Nat.reduceAdd, ad_some, kd_some, ixa, and_true, true_and, and_self, eq_self, ne_eq, brT, brF, true_or, or_true, and_imp, hr.c0, hr.c1, hr.c2, hr.c3, hr.c4, hr.c5, hr.c6, hr.c7, hr.c8, hr.c9, hr.c10, hr.c11, hr.c12, hr.c13, hr.c14, hr.c15, hr.c16, hr.c17, hr.c18, hr.c19, hr.c20, hr.c21, hr.c22, hr.c23, hr.c24, hr.c25, hr.c26, hr.c27, hr.c28, hr.c29, hr.c30, hr.c31, hr.c32, hr.c33, hr.c34, hr.c35, hr.c36, hr.c37, hr.c38, hr.c39, hr.c40, hr.c41, hr.c42, hr.c43, hr.c44, hr.c45, hr.c46, hr.c47, hr.c48, hr.c49, hr.c50, hr.c51, hr.c52, hr.c53, hr.c54, hr.c55, hr.c56, hr.c57, hr.c58, hr.c59, hr.c60, hr.c61, hr.c62, hr.c63, hr.c64, hr.c65, hr.c66, hr.c67, hr.c68, hr.c69, hr.c70, aT, inR]
  refine c_edit hi hr iv p n 0 0 hp hn ⟨by omega, by omega⟩ (by omega) ⟨by omega, by omega⟩ (by omega) hv (fun g hr fr gc gs => ?_)
  simp (disch := first | assumption | omega) only [b_71_11, kont_v, kont_n, kont_x, Nat.reduceAdd, ad_some, kd_some, ixa, and_true, true_and, and_self, eq_self, ne_eq, brT, brF, true_or, or_true, and_imp]
  refine c_cutL (T := TX S p n 0 0) hi p n iv.2.2.1.1 (tree_l iv (fun k => ⟨rfl, rfl, rfl⟩)) (fun k hk => ?_) ⟨hn, by omega⟩ ⟨hp, by omega⟩ (fun g2 hr2 fr2 gc2 gs2 => hQ g2 hr2 (fr.trans fr2) (gc2.trans gc) (gs2.trans gs)) (S 7 0 0).toNat 0 g (by show _ = (S 7 0 0 - 0).toNat; omega) (Int.le_refl _) iv.2.2.1.1.1 (by rw [MC_0]; exact hr) Fr_rfl rfl rfl
  have := (iv.2.2.1.2.2.2.1 k hk).1
  show 0 ≤ S 13 k 0 ∧ S 13 k 0 ≤ 200 ∧ 0 ≤ S 14 k 0 ∧ S 14 k 0 ≤ 200
  omega
end
