/-! EDITS OF THE REFERENCE -/
/-- on its way: b's names, thrown as it was -/
def FM (a : Na) (h : Zh) (b : Na) (g : Zh) : Prop := Ij b ∧ Fr (fun f => f < 100 ∨ 200 ≤ f) a h b g ∧ gI g (b 100 0) 0 = gI h (a 100 0) 0 ∧ b 100 0 = a 100 0
theorem FM.trans {a b c : Na} {h g k : Zh} (x : FM a h b g) (y : FM b g c k) : FM a h c k := ⟨y.1, x.2.1.trans y.2.1, y.2.2.1.trans x.2.2.1, y.2.2.2.trans x.2.2.2⟩
section
variable {a : Na} {S T : St} {h : Zh} {Q : Zp}
theorem FM.rfl' (hi : Ij a) : FM a h a h := ⟨hi, Fr_rfl, rfl, rfl⟩
theorem FM.I (hi : Ij a) {f : Nat} {i k x : Int} (h1 : 100 ≤ f) (h2 : f < 200) (h3 : ¬ (f = 100 ∧ k = 0)) : FM a h a (pI h (a f i) k x) := ⟨hi, Fr_pI hi (by omega), by
  rw [gI_pI, if_neg (fun z => by rw [hi] at z; omega)], rfl⟩
theorem FM.R (hi : Ij a) {f : Nat} {i k : Int} {x : Option Nat} (h1 : 100 ≤ f) (h2 : f < 200) : FM a h a (pR h (a f i) k x) := ⟨hi, Fr_pR hi (by omega), rfl, rfl⟩
theorem FM.C (hi : Ij a) {f s : Nat} {i sp dp n : Int} (h1 : 101 ≤ f) (h2 : f < 200) : FM a h a (cpy h s sp (a f i) dp n) := ⟨hi, Fr_cpy hi (by omega), by
  rw [gI_cpy, if_neg (fun z => by rw [hi] at z; omega)], rfl⟩
theorem FM.nw (hi : Ij a) {f q kd : Nat} {i n : Int} (h1 : 101 ≤ f) (h2 : f < 200) (hq : gK h q = 0) (k : gK h (a 100 0) = 7) : FM a h (nm a f i q) (nw h q kd n) := by
  have e : nm a f i q 100 0 = a 100 0 := nm_live hq (by omega) (by omega)
  refine ⟨Ij_nm hi f i q, Fr_nw hq (by omega), ?_, e⟩
  rw [e, gI_nw, if_neg (fun z => by rw [z] at k; omega)]
theorem m_putL (hi : Ij a) (p n s : Int) (o4 o5 : Nat) (hN : 0 ≤ T 7 0 0 ∧ T 7 0 0 ≤ 60) (hb : ∀ k, hd T k → 0 ≤ T 13 k 0 ∧ T 13 k 0 ≤ 200 ∧ 0 ≤ T 14 k 0 ∧ T 14 k 0 ≤ 200) (hn : 0 ≤ n ∧ n ≤ 40) (hp : 0 ≤ p ∧ p ≤ 200)
    (hQ : ∀ g, RepM a (MP T (T 7 0 0) p n) g → FM a h a g → gC g = gC h → gS g = gS h → Q (.inl none) g) (m : Nat) :
    ∀ (i : Int) (g : Zh), m = (T 7 0 0 - i).toNat → 0 ≤ i → i ≤ T 7 0 0 → RepM a (MP T i p n) g → FM a h a g → gC g = gC h → gS g = gS h →
      WP 100 158 [some (zr (some (a 100 0))), some (zi p), some (zi n), some (zi s), some (zr (some o4)), some (zr (some o5)), some (zi i)] [] g Q := by
  induction m with
  | zero =>
    intro i g e1 e2 e3 hm fr gc gs
    have e : i = T 7 0 0 := by omega
    have e7 : MP T i p n 7 0 0 = T 7 0 0 := rfl
    rw [b_100_158]
    simp (disch := first | assumption | omega) only [kont_v, kont_n, kont_x, Nat.reduceAdd, ad_some, kd_some, ixa, and_true, true_and, and_self, eq_self, ne_eq, brT, brF, true_or, or_true, and_imp, hm.c0, hm.c1, hm.c2, hm.c3, hm.c4, hm.c5, hm.c6, hm.c7, hm.c8, hm.c9, hm.c10, hm.c11, hm.c12, hm.c13, hm.c14, hm.c15, hm.c16, hm.c17, hm.c18, hm.c19, hm.c20, hm.c21, hm.c22, hm.c23, hm.c24, hm.c25, hm.c26, hm.c27, hm.c28, hm.c29, hm.c30, hm.c31, hm.c32, hm.c33, hm.c34, hm.c35, hm.c36, hm.c37, hm.c38, hm.c39, hm.c40, hm.c41, hm.c42, hm.c43, hm.c44, hm.c45, hm.c46, hm.c47, hm.c48, hm.c49, hm.c50, hm.c51, hm.c52, hm.c53, hm.c54, hm.c55, hm.c56, hm.c57, hm.c58, hm.c59, hm.c60, hm.c61, hm.c62, hm.c63, hm.c64, hm.c65, hm.c66, hm.c67, hm.c68, hm.c69, hm.c70, hm.c71, hm.c72, hm.c73, hm.c74, hm.c75, hm.c76, hm.c77, e7, brt, b_100_251]
    rw [e] at hm
    exact hQ g hm fr gc gs
  | succ m ih =>
    intro i g e1 e2 e3 hm fr gc gs
    have hk : nt T i := ⟨e2, by omega⟩
    have e7 : MP T i p n 7 0 0 = T 7 0 0 := rfl
    have e11 : MP T i p n 11 i 0 = T 11 i 0 := rfl
    have e13 : MP T i p n 13 i 0 = T 13 i 0 := by unfold MP; rw [if_neg (by omega), if_neg (by omega)]
    have e14 : MP T i p n 14 i 0 = T 14 i 0 := by unfold MP; rw [if_neg (by omega), if_neg (by omega)]
    rw [b_100_158]
    by_cases c : T 11 i 0 = i
    · have b := hb i ⟨hk, c⟩
      have w := (hm.wA hi 14 (by omega) (by omega) (by omega) i (mT (T 13 i 0) (T 14 i 0) p n)).wA hi 13 (by omega) (by omega) (by omega) i (mF (T 13 i 0) p n)
      rw [su_cm, MP_s T i p n e2 c] at w
      have fin := ih (i + 1) _ (by omega) (by omega) (by omega) w (fr.trans ((FM.I hi (by omega) (by omega) (by omega)).trans (FM.I hi (by omega) (by omega) (by omega)))) gc gs
      unfold mT mF at fin
      by_cases d : p ≤ T 13 i 0
      · rw [if_pos d, if_pos (.inl d)] at fin
        simp (disch := first | assumption | omega) only [b_100_167, b_100_182, b_100_212, b_100_217, b_100_219, b_100_238, b_100_243, b_100_245, kont_v, kont_n, kont_x, Nat.reduceAdd, ad_some, kd_some, ixa, and_true, true_and, and_self, eq_self, ne_eq, brT, brF, true_or, or_true, and_imp, hm.c0, hm.c1, hm.c2, hm.c3, hm.c4, hm.c5, hm.c6, hm.c7, hm.c8, hm.c9, hm.c10, hm.c11, hm.c12, hm.c13, hm.c14, hm.c15, hm.c16, hm.c17, hm.c18, hm.c19, hm.c20, hm.c21, hm.c22, hm.c23, hm.c24, hm.c25, hm.c26, hm.c27, hm.c28, hm.c29, hm.c30, hm.c31, hm.c32, hm.c33, hm.c34, hm.c35, hm.c36, hm.c37, hm.c38, hm.c39, hm.c40, hm.c41, hm.c42, hm.c43, hm.c44, hm.c45, hm.c46, hm.c47, hm.c48, hm.c49, hm.c50, hm.c51, hm.c52, hm.c53, hm.c54, hm.c55, hm.c56, hm.c57, hm.c58, hm.c59, hm.c60, hm.c61, hm.c62, hm.c63, hm.c64, hm.c65, hm.c66, hm.c67, hm.c68, hm.c69, hm.c70, hm.c71, hm.c72, hm.c73, hm.c74, hm.c75, hm.c76, hm.c77, aT, inR, e7, e11, e13, e14, brt, brf, c, gK_pI, gL_pI, gR_pI, gI_pI, hi, reduceCtorEq, Nat.reduceEqDiff, Int.reduceEq, and_false, false_and, if_false]
        exact fin
      · rw [if_neg d] at fin
        by_cases d2 : p < T 14 i 0
        · rw [if_pos (.inr d2)] at fin
          simp (disch := first | assumption | omega) only [b_100_167, b_100_182, b_100_201, b_100_212, b_100_217, b_100_219, b_100_242, b_100_243, b_100_245, kont_v, kont_n, kont_x, Nat.reduceAdd, ad_some, kd_some, ixa, and_true, true_and, and_self, eq_self, ne_eq, brT, brF, true_or, or_true, and_imp, hm.c0, hm.c1, hm.c2, hm.c3, hm.c4, hm.c5, hm.c6, hm.c7, hm.c8, hm.c9, hm.c10, hm.c11, hm.c12, hm.c13, hm.c14, hm.c15, hm.c16, hm.c17, hm.c18, hm.c19, hm.c20, hm.c21, hm.c22, hm.c23, hm.c24, hm.c25, hm.c26, hm.c27, hm.c28, hm.c29, hm.c30, hm.c31, hm.c32, hm.c33, hm.c34, hm.c35, hm.c36, hm.c37, hm.c38, hm.c39, hm.c40, hm.c41, hm.c42, hm.c43, hm.c44, hm.c45, hm.c46, hm.c47, hm.c48, hm.c49, hm.c50, hm.c51, hm.c52, hm.c53, hm.c54, hm.c55, hm.c56, hm.c57, hm.c58, hm.c59, hm.c60, hm.c61, hm.c62, hm.c63, hm.c64, hm.c65, hm.c66, hm.c67, hm.c68, hm.c69, hm.c70, hm.c71, hm.c72, hm.c73, hm.c74, hm.c75, hm.c76, hm.c77, aT, inR, e7, e11, e13, e14, brt, brf, c, gK_pI, gL_pI, gR_pI, gI_pI, hi, reduceCtorEq, Nat.reduceEqDiff, Int.reduceEq, and_false, false_and, if_false, Int.add_zero]
          exact fin
        · rw [if_neg (fun z => z.elim d d2)] at fin
          simp (disch := first | assumption | omega) only [b_100_167, b_100_182, b_100_201, b_100_216, b_100_217, b_100_219, b_100_242, b_100_243, b_100_245, kont_v, kont_n, kont_x, Nat.reduceAdd, ad_some, kd_some, ixa, and_true, true_and, and_self, eq_self, ne_eq, brT, brF, true_or, or_true, and_imp, hm.c0, hm.c1, hm.c2, hm.c3, hm.c4, hm.c5, hm.c6, hm.c7, hm.c8, hm.c9, hm.c10, hm.c11, hm.c12, hm.c13, hm.c14, hm.c15, hm.c16, hm.c17, hm.c18, hm.c19, hm.c20, hm.c21, hm.c22, hm.c23, hm.c24, hm.c25, hm.c26, hm.c27, hm.c28, hm.c29, hm.c30, hm.c31, hm.c32, hm.c33, hm.c34, hm.c35, hm.c36, hm.c37, hm.c38, hm.c39, hm.c40, hm.c41, hm.c42, hm.c43, hm.c44, hm.c45, hm.c46, hm.c47, hm.c48, hm.c49, hm.c50, hm.c51, hm.c52, hm.c53, hm.c54, hm.c55, hm.c56, hm.c57, hm.c58, hm.c59, hm.c60, hm.c61, hm.c62, hm.c63, hm.c64, hm.c65, hm.c66, hm.c67, hm.c68, hm.c69, hm.c70, hm.c71, hm.c72, hm.c73, hm.c74, hm.c75, hm.c76, hm.c77, aT, inR, e7, e11, e13, e14, brt, brf, c, gK_pI, gL_pI, gR_pI, gI_pI, hi, reduceCtorEq, Nat.reduceEqDiff, Int.reduceEq, and_false, false_and, if_false, Int.add_zero]
          exact fin
    · simp (disch := first | assumption | omega) only [b_100_167, b_100_179, b_100_245, kont_v, kont_n, kont_x, Nat.reduceAdd, ad_some, kd_some, ixa, and_true, true_and, and_self, eq_self, ne_eq, brT, brF, true_or, or_true, and_imp, hm.c0, hm.c1, hm.c2, hm.c3, hm.c4, hm.c5, hm.c6, hm.c7, hm.c8, hm.c9, hm.c10, hm.c11, hm.c12, hm.c13, hm.c14, hm.c15, hm.c16, hm.c17, hm.c18, hm.c19, hm.c20, hm.c21, hm.c22, hm.c23, hm.c24, hm.c25, hm.c26, hm.c27, hm.c28, hm.c29, hm.c30, hm.c31, hm.c32, hm.c33, hm.c34, hm.c35, hm.c36, hm.c37, hm.c38, hm.c39, hm.c40, hm.c41, hm.c42, hm.c43, hm.c44, hm.c45, hm.c46, hm.c47, hm.c48, hm.c49, hm.c50, hm.c51, hm.c52, hm.c53, hm.c54, hm.c55, hm.c56, hm.c57, hm.c58, hm.c59, hm.c60, hm.c61, hm.c62, hm.c63, hm.c64, hm.c65, hm.c66, hm.c67, hm.c68, hm.c69, hm.c70, hm.c71, hm.c72, hm.c73, hm.c74, hm.c75, hm.c76, hm.c77, aT, inR, e7, e11, brt, brf]
      rw [MP_n T i p n c] at hm
      exact ih (i + 1) _ (by omega) (by omega) (by omega) hm fr gc gs
theorem ct_m (f p n : Int) (hn : 0 ≤ n) : f - (if 0 < (if f - p < n then f - p else n) then (if f - p < n then f - p else n) else 0) = ct f p n := by
  unfold ct
  by_cases q : f - p < n
  · rw [if_pos q]
    split <;> split <;> (try split) <;> omega
  · rw [if_neg q]
    split <;> split <;> (try split) <;> omega
theorem m_cutL (hi : Ij a) (p n : Int) (o4 o5 : Nat) (hN : 0 ≤ T 7 0 0 ∧ T 7 0 0 ≤ 60) (hb : ∀ k, hd T k → 0 ≤ T 13 k 0 ∧ T 13 k 0 ≤ 200 ∧ 0 ≤ T 14 k 0 ∧ T 14 k 0 ≤ 200) (hn : 0 ≤ n ∧ n ≤ 200) (hp : 0 ≤ p ∧ p ≤ 200)
    (hQ : ∀ g, RepM a (MC T (T 7 0 0) p n) g → FM a h a g → gC g = gC h → gS g = gS h → Q (.inl none) g) (m : Nat) :
    ∀ (i : Int) (g : Zh), m = (T 7 0 0 - i).toNat → 0 ≤ i → i ≤ T 7 0 0 → RepM a (MC T i p n) g → FM a h a g → gC g = gC h → gS g = gS h →
      WP 101 58 [some (zr (some (a 100 0))), some (zi p), some (zi n), some (zr (some o4)), some (zr (some o5)), some (zi i)] [] g Q := by
  induction m with
  | zero =>
    intro i g e1 e2 e3 hm fr gc gs
    have e : i = T 7 0 0 := by omega
    have e7 : MC T i p n 7 0 0 = T 7 0 0 := rfl
    rw [b_101_58]
    simp (disch := first | assumption | omega) only [kont_v, kont_n, kont_x, Nat.reduceAdd, ad_some, kd_some, ixa, and_true, true_and, and_self, eq_self, ne_eq, brT, brF, true_or, or_true, and_imp, hm.c0, hm.c1, hm.c2, hm.c3, hm.c4, hm.c5, hm.c6, hm.c7, hm.c8, hm.c9, hm.c10, hm.c11, hm.c12, hm.c13, hm.c14, hm.c15, hm.c16, hm.c17, hm.c18, hm.c19, hm.c20, hm.c21, hm.c22, hm.c23, hm.c24, hm.c25, hm.c26, hm.c27, hm.c28, hm.c29, hm.c30, hm.c31, hm.c32, hm.c33, hm.c34, hm.c35, hm.c36, hm.c37, hm.c38, hm.c39, hm.c40, hm.c41, hm.c42, hm.c43, hm.c44, hm.c45, hm.c46, hm.c47, hm.c48, hm.c49, hm.c50, hm.c51, hm.c52, hm.c53, hm.c54, hm.c55, hm.c56, hm.c57, hm.c58, hm.c59, hm.c60, hm.c61, hm.c62, hm.c63, hm.c64, hm.c65, hm.c66, hm.c67, hm.c68, hm.c69, hm.c70, hm.c71, hm.c72, hm.c73, hm.c74, hm.c75, hm.c76, hm.c77, e7, brt, b_101_142]
    rw [e] at hm
    exact hQ g hm fr gc gs
  | succ m ih =>
    intro i g e1 e2 e3 hm fr gc gs
    have hk : nt T i := ⟨e2, by omega⟩
    have e7 : MC T i p n 7 0 0 = T 7 0 0 := rfl
    have e11 : MC T i p n 11 i 0 = T 11 i 0 := rfl
    have e13 : MC T i p n 13 i 0 = T 13 i 0 := by unfold MC; rw [if_neg (by omega), if_neg (by omega)]
    have e14 : MC T i p n 14 i 0 = T 14 i 0 := by unfold MC; rw [if_neg (by omega), if_neg (by omega)]
    rw [b_101_58]
    by_cases c : T 11 i 0 = i
    · have b := hb i ⟨hk, c⟩
      have w := (hm.wA hi 13 (by omega) (by omega) (by omega) i (ct (T 13 i 0) p n)).wA hi 14 (by omega) (by omega) (by omega) i (ct (T 14 i 0) p n)
      rw [MC_s T i p n e2 c] at w
      have s1 : inR (ct (T 13 i 0) p n) := by unfold inR ct; split <;> (try split) <;> omega
      have s2 : inR (ct (T 14 i 0) p n) := by unfold inR ct; split <;> (try split) <;> omega
      simp (disch := first | assumption | omega) only [b_101_67, b_101_82, b_101_109, b_101_136, kont_v, kont_n, kont_x, Nat.reduceAdd, ad_some, kd_some, ixa, and_true, true_and, and_self, eq_self, ne_eq, brT, brF, true_or, or_true, and_imp, hm.c0, hm.c1, hm.c2, hm.c3, hm.c4, hm.c5, hm.c6, hm.c7, hm.c8, hm.c9, hm.c10, hm.c11, hm.c12, hm.c13, hm.c14, hm.c15, hm.c16, hm.c17, hm.c18, hm.c19, hm.c20, hm.c21, hm.c22, hm.c23, hm.c24, hm.c25, hm.c26, hm.c27, hm.c28, hm.c29, hm.c30, hm.c31, hm.c32, hm.c33, hm.c34, hm.c35, hm.c36, hm.c37, hm.c38, hm.c39, hm.c40, hm.c41, hm.c42, hm.c43, hm.c44, hm.c45, hm.c46, hm.c47, hm.c48, hm.c49, hm.c50, hm.c51, hm.c52, hm.c53, hm.c54, hm.c55, hm.c56, hm.c57, hm.c58, hm.c59, hm.c60, hm.c61, hm.c62, hm.c63, hm.c64, hm.c65, hm.c66, hm.c67, hm.c68, hm.c69, hm.c70, hm.c71, hm.c72, hm.c73, hm.c74, hm.c75, hm.c76, hm.c77, e7, e11, e13, e14, brt, brf, c, gK_pI, gL_pI, gR_pI, gI_pI, hi, reduceCtorEq, Nat.reduceEqDiff, Int.reduceEq, and_false, false_and, if_false, ct_m, s1, s2, aT]
      have r1 : inR (T 13 i 0 - p) := by unfold inR; omega
      have r2 : inR (T 14 i 0 - p) := by unfold inR; omega
      have r3 : inR (i + 1) := by unfold inR; omega
      simp (disch := first | assumption | omega) only [aT]
      exact ih (i + 1) _ (by omega) (by omega) (by omega) w (fr.trans ((FM.I hi (by omega) (by omega) (by omega)).trans (FM.I hi (by omega) (by omega) (by omega)))) gc gs
    · simp (disch := first | assumption | omega) only [b_101_67, b_101_79, b_101_136, kont_v, kont_n, kont_x, Nat.reduceAdd, ad_some, kd_some, ixa, and_true, true_and, and_self, eq_self, ne_eq, brT, brF, true_or, or_true, and_imp, hm.c0, hm.c1, hm.c2, hm.c3, hm.c4, hm.c5, hm.c6, hm.c7, hm.c8, hm.c9, hm.c10, hm.c11, hm.c12, hm.c13, hm.c14, hm.c15, hm.c16, hm.c17, hm.c18, hm.c19, hm.c20, hm.c21, hm.c22, hm.c23, hm.c24, hm.c25, hm.c26, hm.c27, hm.c28, hm.c29, hm.c30, hm.c31, hm.c32, hm.c33, hm.c34, hm.c35, hm.c36, hm.c37, hm.c38, hm.c39, hm.c40, hm.c41, hm.c42, hm.c43, hm.c44, hm.c45, hm.c46, hm.c47, hm.c48, hm.c49, hm.c50, hm.c51, hm.c52, hm.c53, hm.c54, hm.c55, hm.c56, hm.c57, hm.c58, hm.c59, hm.c60, hm.c61, hm.c62, hm.c63, hm.c64, hm.c65, hm.c66, hm.c67, hm.c68, hm.c69, hm.c70, hm.c71, hm.c72, hm.c73, hm.c74, hm.c75, hm.c76, hm.c77, aT, inR, e7, e11, brt, brf]
      rw [MC_n T i p n c] at hm
      exact ih (i + 1) _ (by omega) (by omega) (by omega) hm fr gc gs
theorem LvM_new {S : St} {v : Int} (n : S 2 0 0 < v) : ¬ LvM S 150 v := fun z => by
  rcases z with z | z | z
  · omega
  · omega
  · omega
/-- the loop over the signs that are put, and what stands behind it -/
theorem m_edL (hi : Ij a) (iv : Inv S) (p n s : Int) (hp : 0 ≤ p) (hn : 0 ≤ n ∧ n ≤ 40) (hpc : p ≤ S 3 (S 2 0 0) 0) (hs : 0 ≤ s ∧ s ≤ 25) (hz : S 3 (S 2 0 0) 0 + n ≤ 200) (hv : S 2 0 0 < 60)
    (hQ : ∀ g, RepM a (Sput S p n s) g → FM a h a g → gC g = gC h → gS g = gS h → Q (.inl none) g) (m : Nat) :
    ∀ (i : Int) (g : Zh), m = (n - i).toNat → 0 ≤ i → i ≤ n → RepM a (SN S i s) g → FM a h a g → gC g = gC h → gS g = gS h → S 6 0 0 + n ≤ gL g (a 104 0) → gK g (a 150 (S 2 0 0 + 1)) = 10 → gL g (a 150 (S 2 0 0 + 1)) = S 3 (S 2 0 0) 0 + n →
      (∀ j, 0 ≤ j → j < S 3 (S 2 0 0) 0 + n → (j < p → gI g (a 150 (S 2 0 0 + 1)) j = S 4 (S 2 0 0) j) ∧ (p ≤ j → j < p + i → gI g (a 150 (S 2 0 0 + 1)) j = S 6 0 0 + (j - p)) ∧ (p + n ≤ j → gI g (a 150 (S 2 0 0 + 1)) j = S 4 (S 2 0 0) (j - n))) →
      WP 100 91 [some (zr (some (a 100 0))), some (zi p), some (zi n), some (zi s), some (zr (some (a 150 (S 2 0 0)))), some (zr (some (a 150 (S 2 0 0 + 1)))), some (zi i)] [] g Q := by
  obtain ⟨u0, u1⟩ := iv.2.1.1
  obtain ⟨u2, u3⟩ := iv.2.1.2.1 (S 2 0 0) u0 (Int.le_refl _)
  obtain ⟨v0, v1⟩ := iv.2.1.2.2.1
  induction m with
  | zero =>
    intro i g e1 e2 e3 hm fr gc gs hl kq lq hrow
    have e : i = n := by omega
    have e6 : SN S i s 2 0 0 = S 2 0 0 := rfl
    rw [b_100_91]
    simp (disch := first | assumption | omega) only [b_100_137, b_100_152, b_100_155, kont_v, kont_n, kont_x, Nat.reduceAdd, ad_some, kd_some, ixa, and_true, true_and, and_self, eq_self, ne_eq, brT, brF, true_or, or_true, and_imp, hm.c0, hm.c1, hm.c2, hm.c3, hm.c4, hm.c5, hm.c6, hm.c7, hm.c8, hm.c9, hm.c10, hm.c11, hm.c12, hm.c13, hm.c14, hm.c15, hm.c16, hm.c17, hm.c18, hm.c19, hm.c20, hm.c21, hm.c22, hm.c23, hm.c24, hm.c25, hm.c26, hm.c27, hm.c28, hm.c29, hm.c30, hm.c31, hm.c32, hm.c33, hm.c34, hm.c35, hm.c36, hm.c37, hm.c38, hm.c39, hm.c40, hm.c41, hm.c42, hm.c43, hm.c44, hm.c45, hm.c46, hm.c47, hm.c48, hm.c49, hm.c50, hm.c51, hm.c52, hm.c53, hm.c54, hm.c55, hm.c56, hm.c57, hm.c58, hm.c59, hm.c60, hm.c61, hm.c62, hm.c63, hm.c64, hm.c65, hm.c66, hm.c67, hm.c68, hm.c69, hm.c70, hm.c71, hm.c72, hm.c73, hm.c74, hm.c75, hm.c76, hm.c77, aT, inR, e6, kq, brt, gK_pI, gL_pI, gR_pI, gI_pI, hi, reduceCtorEq, Nat.reduceEqDiff, Int.reduceEq, and_false, false_and, if_false]
    rw [e] at hm hrow
    have w : RepM a (TX S p 0 n s) _ := hm.wVer hi (S 3 (S 2 0 0) 0 - 0 + n) (fun j => if j < p then S 4 (S 2 0 0) j else if j < p + n then S 6 0 0 + (j - p) else S 4 (S 2 0 0) (j - n + 0)) kq (by show gL g (a 150 (S 2 0 0 + 1)) = _; omega) (fun j j1 j2 => by
      show gI g (a 150 (S 2 0 0 + 1)) j = _
      have z := hrow j j1 (by omega)
      by_cases d : j < p
      · rw [if_pos d]; exact z.1 d
      · rw [if_neg d]
        by_cases d2 : j < p + n
        · rw [if_pos d2]; exact z.2.1 (by omega) d2
        · rw [if_neg d2, Int.add_zero]; exact z.2.2 (by omega))
    refine m_putL (T := TX S p 0 n s) (h := h) hi p n s _ _ iv.2.2.1.1 (fun k hk => ?_) hn ⟨hp, by omega⟩ hQ (S 7 0 0).toNat 0 _ (by show _ = (S 7 0 0 - 0).toNat; omega) (Int.le_refl _) iv.2.2.1.1.1 (by rw [MP_0]; exact w) (fr.trans ((FM.I hi (by omega) (by omega) (by omega)).trans (FM.R hi (by omega) (by omega)))) gc gs
    have := (iv.2.2.1.2.2.2.1 k hk).1
    show 0 ≤ S 13 k 0 ∧ S 13 k 0 ≤ 200 ∧ 0 ≤ S 14 k 0 ∧ S 14 k 0 ≤ 200
    omega
  | succ m ih =>
    intro i g e1 e2 e3 hm fr gc gs hl kq lq hrow
    have e6 : SN S i s 6 0 0 = S 6 0 0 + i := by unfold SN; rw [if_neg (by omega), if_pos ⟨rfl, rfl, rfl⟩]
    have w1 := hm.wSig hi (S 6 0 0 + i) ((s + i) % 26) (by omega)
    have w2 := w1.wName hi ((s + i) % 26) (by rw [e6, gI_pI, if_pos ⟨rfl, rfl⟩]) (by rw [e6]; show S 6 0 0 + i < gL g (a 104 0); omega)
    have w3 := w2.wI hi (show 0 ≤ S 2 0 0 ∧ S 2 0 0 ≤ 60 from ⟨u0, u1⟩) (LvM_new (v := S 2 0 0 + 1) (show S 2 0 0 < S 2 0 0 + 1 by omega)) (k := p + i) (x := S 6 0 0 + i)
    rw [e6, SN_s S i s e2] at w3
    rw [b_100_91]
    simp (disch := first | assumption | omega) only [b_100_97, b_100_113, b_100_130, b_100_131, kont_v, kont_n, kont_x, Nat.reduceAdd, ad_some, kd_some, ixa, and_true, true_and, and_self, eq_self, ne_eq, brT, brF, true_or, or_true, and_imp, hm.c0, hm.c1, hm.c2, hm.c3, hm.c4, hm.c5, hm.c6, hm.c7, hm.c8, hm.c9, hm.c10, hm.c11, hm.c12, hm.c13, hm.c14, hm.c15, hm.c16, hm.c17, hm.c18, hm.c19, hm.c20, hm.c21, hm.c22, hm.c23, hm.c24, hm.c25, hm.c26, hm.c27, hm.c28, hm.c29, hm.c30, hm.c31, hm.c32, hm.c33, hm.c34, hm.c35, hm.c36, hm.c37, hm.c38, hm.c39, hm.c40, hm.c41, hm.c42, hm.c43, hm.c44, hm.c45, hm.c46, hm.c47, hm.c48, hm.c49, hm.c50, hm.c51, hm.c52, hm.c53, hm.c54, hm.c55, hm.c56, hm.c57, hm.c58, hm.c59, hm.c60, hm.c61, hm.c62, hm.c63, hm.c64, hm.c65, hm.c66, hm.c67, hm.c68, hm.c69, hm.c70, hm.c71, hm.c72, hm.c73, hm.c74, hm.c75, hm.c76, hm.c77, aT, inR, e6, kq, lq, brf, gK_pI, gL_pI, gR_pI, gI_pI, hi, reduceCtorEq, Nat.reduceEqDiff, Int.reduceEq, and_false, false_and, if_false]
    refine ih (i + 1) _ (by omega) (by omega) (by omega) w3 (fr.trans ((FM.I hi (by omega) (by omega) (by omega)).trans ((FM.I hi (by omega) (by omega) (by omega)).trans (FM.I hi (by omega) (by omega) (by omega))))) gc gs hl kq lq (fun j j1 j2 => ?_)
    obtain ⟨z1, z2, z3⟩ := hrow j j1 j2
    have ee : j ≠ p + i → gI (pI (pI (pI g (a 104 0) (S 6 0 0 + i) ((s + i) % 26)) (a 100 0) 3 (S 6 0 0 + i + 1)) (a 150 (S 2 0 0 + 1)) (p + i) (S 6 0 0 + i)) (a 150 (S 2 0 0 + 1)) j = gI g (a 150 (S 2 0 0 + 1)) j := fun d => by
      rw [gI_pI, if_neg (fun z => d z.2), gI_pI, if_neg (fun z => by rw [hi] at z; omega), gI_pI, if_neg (fun z => by rw [hi] at z; omega)]
    refine ⟨fun d => (ee (by omega)).trans (z1 d), fun d1 d2 => ?_, fun d => (ee (by omega)).trans (z3 d)⟩
    by_cases d : j = p + i
    · rw [gI_pI, if_pos ⟨rfl, d⟩]; omega
    · exact (ee d).trans (z2 d1 (by omega))
end
