/-! note OF THE CLASS -/
section
variable {a : Na} {S : St} {h : Zh} {Q : Zp}
/-- a new thing of the class, by its name -/
theorem newC (hi : Ij a) (hr : RepC a S h) (f : Nat) (i n : Int) (kd : Nat) (f1 : f < 100) (nl : ¬ LvC S f i) {G : Nat → Zh → Prop}
    (k : ∀ b g, Ij b → RepC b S g → Fr (fun f => 100 ≤ f) a h b g → gC g = gC h + 1 → gS g = gS h + n.toNat → gK g (b f i) = kd → gL g (b f i) = n → (∀ j, gI g (b f i) j = 0) → (∀ j, gR g (b f i) j = none) → (∀ f2 i2, gK h (a f2 i2) ≠ 0 → ¬ (f2 = f ∧ i2 = i) → b f2 i2 = a f2 i2 ∧ sm h g (a f2 i2)) → G (b f i) g) :
    ∀ q, gK h q = 0 → G q (nw h q kd n) := by
  intro q hq
  have e : nm a f i q f i = q := nm_self a f i q
  have := k (nm a f i q) (nw h q kd n) (Ij_nm hi f i q) (hr.new hq nl) (Fr_nw hq (by omega)) (gC_nw ..) (gS_nw ..) (by rw [e, gK_nw, if_pos rfl]) (by rw [e, gL_nw, if_pos rfl]) (fun j => by rw [e, gI_nw, if_pos rfl]) (fun j => by rw [e, gR_nw, if_pos rfl]) (fun f2 i2 k2 n2 => ⟨nm_live hq k2 n2, sm_nw (fun z => k2 (by rw [z]; exact hq))⟩)
  rw [e] at this
  exact this
theorem LvC_new (S : St) (f : Nat) (h : 20 ≤ f ∧ f ≤ 23) : ¬ LvC S f (S 7 0 0) := fun z => by
  unfold LvC hd nt at z
  omega
theorem c_quoteL (hi : Ij a) (iv : Inv S) (f t n : Int) (hf : 0 ≤ f ∧ f < t ∧ t ≤ S 3 (S 2 0 0) 0) (hn : n = if t - f < 12 then t - f else 12) (hQ : ∀ g, RepC a S g → (∀ f2 i2, ¬ (f2 = 23 ∧ i2 = S 7 0 0) → sm h g (a f2 i2)) → gC g = gC h → gS g = gS h → gK g (a 23 (S 7 0 0)) = 10 → gL g (a 23 (S 7 0 0)) = n → (∀ i, 0 ≤ i → i < n → gI g (a 23 (S 7 0 0)) i = S 5 (S 4 (S 2 0 0) (f + i)) 0) → Q (.inl (some (zr (some (a 23 (S 7 0 0)))))) g) (m : Nat) :
    ∀ (i : Int) (g : Zh), m = (n - i).toNat → 0 ≤ i → RepC a S g → (∀ f2 i2, ¬ (f2 = 23 ∧ i2 = S 7 0 0) → sm h g (a f2 i2)) → gC g = gC h → gS g = gS h → gK g (a 23 (S 7 0 0)) = 10 → gL g (a 23 (S 7 0 0)) = n → (∀ j, 0 ≤ j → j < i → gI g (a 23 (S 7 0 0)) j = S 5 (S 4 (S 2 0 0) (f + j)) 0) →
      WP 74 14 [some (zr (some (a 0 0))), some (zi f), some (zi t), some (zr (some (a 23 (S 7 0 0)))), some (zi i)] [] g Q := by
  obtain ⟨u0, u1⟩ := iv.2.1.1
  obtain ⟨u2, u3⟩ := iv.2.1.2.1 (S 2 0 0) u0 (Int.le_refl _)
  have u4 := Int.le_refl (S 2 0 0)
  induction m with
  | zero =>
    intro i g e1 e2 hr fr gc gs kq lq row
    rw [b_74_14]
    simp (disch := first | assumption | omega) only [kont_v, kont_n, kont_x, Nat.reduceAdd, ad_some, kd_some, ixa, and_true, true_and, and_self, eq_self, ne_eq, brT, brF, true_or, or_true, and_imp, kq, lq, brt, b_74_49]
    exact hQ g hr fr gc gs kq lq (fun j j1 j2 => row j j1 (by omega))
  | succ m ih =>
    intro i g e1 e2 hr fr gc gs kq lq row
    have n12 : n ≤ 12 := by split at hn <;> omega
    have nt' : n ≤ t - f := by split at hn <;> omega
    rw [b_74_14]
    simp (disch := first | assumption | omega) only [b_74_21, b_74_42, b_74_43, kont_v, kont_n, kont_x, Nat.reduceAdd, ad_some, kd_some, ixa, and_true, true_and, and_self, eq_self, ne_eq, brT, brF, true_or, or_true, and_imp, hr.c0, hr.c1, hr.c2, hr.c3, hr.c4, hr.c5, hr.c6, hr.c7, hr.c8, hr.c9, hr.c10, hr.c11, hr.c12, hr.c13, hr.c14, hr.c15, hr.c16, hr.c17, hr.c18, hr.c19, hr.c20, hr.c21, hr.c22, hr.c23, hr.c24, hr.c25, hr.c26, hr.c27, hr.c28, hr.c29, hr.c30, hr.c31, hr.c32, hr.c33, hr.c34, hr.c35, hr.c36, hr.c37, hr.c38, hr.c39, hr.c40, hr.c41, hr.c42, hr.c43, hr.c44, hr.c45, hr.c46, hr.c47, hr.c48, hr.c49, hr.c50, hr.c51, hr.c52, hr.c53, hr.c54, hr.c55, hr.c56, hr.c57, hr.c58, hr.c59, hr.c60, hr.c61, hr.c62, hr.c63, hr.c64, hr.c65, hr.c66, hr.c67, hr.c68, hr.c69, hr.c70, aT, inR, kq, lq, brf, c_signIn hr iv _ _ (show 0 ≤ S 2 0 0 ∧ S 2 0 0 ≤ S 2 0 0 from ⟨u0, u4⟩) (show 0 ≤ f + i ∧ f + i < S 3 (S 2 0 0) 0 from ⟨by omega, by omega⟩)]
    refine ih (i + 1) _ (by omega) (by omega) (hr.wI hi (LvC_new S 23 (by omega))) (fun f2 i2 ne => (fr f2 i2 ne).trans (smI hi (by omega))) gc gs kq lq (fun j j1 j2 => ?_)
    rw [gI_pI]
    by_cases c : j = i
    · rw [if_pos ⟨rfl, c⟩, c]
    · rw [if_neg (fun z => c z.2)]; exact row j j1 (by omega)
theorem c_quote0 (hi : Ij a) (hr : RepC a S h) (iv : Inv S) (f t : Int) (hf : 0 ≤ f ∧ f < t ∧ t ≤ S 3 (S 2 0 0) 0) (rc : gC h + 1 ≤ MXC) (rs : gS h + 12 ≤ MXS)
    (hQ : ∀ b g, Ij b → RepC b S g → Fr (fun f => 100 ≤ f) a h b g → (∀ f2 i2, gK h (a f2 i2) ≠ 0 → ¬ (f2 = 23 ∧ i2 = S 7 0 0) → b f2 i2 = a f2 i2 ∧ sm h g (a f2 i2)) → gC g = gC h + 1 → gS g ≤ gS h + 12 → gK g (b 23 (S 7 0 0)) = 10 → gL g (b 23 (S 7 0 0)) = (if t - f < 12 then t - f else 12) → (∀ i, 0 ≤ i → i < (if t - f < 12 then t - f else 12) → gI g (b 23 (S 7 0 0)) i = S 5 (S 4 (S 2 0 0) (f + i)) 0) → Q (.inl (some (zr (some (b 23 (S 7 0 0)))))) g) :
    WP 74 0 [some (zr (some (a 0 0))), some (zi f), some (zi t), none, none] [] h Q := by
  obtain ⟨u0, u1⟩ := iv.2.1.1
  obtain ⟨u2, u3⟩ := iv.2.1.2.1 (S 2 0 0) u0 (Int.le_refl _)
  have em : (if 12 < t - f then 12 else t - f) = (if t - f < 12 then t - f else 12) := by split <;> split <;> omega
  have b1 : 0 ≤ (if t - f < 12 then t - f else 12) ∧ (if t - f < 12 then t - f else 12) ≤ 12 := by split <;> omega
  rw [b_74_0, em]
  simp (disch := first | assumption | omega) only [aT, inR]
  refine newC hi hr 23 (S 7 0 0) _ 10 (by omega) (LvC_new S 23 (by omega)) (G := fun q g => WP 74 10 [some (zr (some (a 0 0))), some (zi f), some (zi t), none, none] [zr (some q)] g Q) (fun b g ib hrb fr gc gs kq lq zI zR liv => ?_)
  have e0 := (liv 0 0 (by rw [hr.c0]; omega) (by omega)).1
  rw [← e0, b_74_10]
  refine c_quoteL (h := g) ib iv f t _ hf rfl (fun g2 hr2 fr2 gc2 gs2 kq2 lq2 row => hQ b g2 ib hr2 ?_ ?_ (by omega) (by omega) kq2 lq2 row) _ 0 g (by rw [Int.sub_zero]) (Int.le_refl _) hrb (fun f2 i2 _ => sm_rfl _ _) rfl rfl kq lq (fun j j1 j2 => by omega)
  · exact fr.trans (fun f2 i2 p _ => ⟨rfl, fr2 f2 i2 (by omega)⟩)
  · intro f2 i2 k2 n2
    obtain ⟨l1, l2⟩ := liv f2 i2 k2 n2
    have := fr2 f2 i2 n2
    rw [l1] at this
    exact ⟨l1, l2.trans this⟩
theorem c_note (hi : Ij a) (hr : RepC a S h) (iv : Inv S) (rc : gC h + 10 ≤ MXC) (rs : gS h + 100 ≤ MXS) (u f t v c : Int) (k : br (0 ≤ u ∧ u < S 0 0 0) (br ((0 ≤ f ∧ f < t ∧ t ≤ S 3 (S 2 0 0) 0) ∧ (0 ≤ v ∧ v ≤ 2) ∧ 0 ≤ c ∧ c ≤ 999) (br (2 ≤ S 1 u 0 ∧ S 7 0 0 < 60) (CK a (Snote S u f t v c) h Q (zi (S 7 0 0))) (thr h 2 Q)) (thr h 1 Q)) (thr h 3 Q)) :
    WP 40 0 [some (zr (some (a 0 0))), some (zi u), some (zi f), some (zi t), some (zi v), some (zi c), none] [] h Q := by
  obtain ⟨u0, u1⟩ := iv.2.1.1
  obtain ⟨u2, u3⟩ := iv.2.1.2.1 (S 2 0 0) u0 (Int.le_refl _)
  obtain ⟨w0, w1⟩ := iv.1.1
  have bn := iv.2.2.1.1
  by_cases c1 : 0 ≤ u ∧ u < S 0 0 0
  · rw [brt c1] at k
    by_cases c2 : 0 ≤ f ∧ f < t ∧ t ≤ S 3 (S 2 0 0) 0
    · by_cases c3 : 0 ≤ v ∧ v ≤ 2
      · by_cases c4 : 0 ≤ c ∧ c ≤ 999
        · rw [brt ⟨c2, c3, c4⟩] at k
          by_cases c5 : 2 ≤ S 1 u 0
          · by_cases c6 : S 7 0 0 < 60
            · rw [brt ⟨c5, c6⟩] at k
              simp (disch := first | assumption | omega) only [b_40_0, b_40_5, b_40_9, b_40_14, b_40_22, b_40_25, b_40_29, b_40_30, b_40_33, b_40_40, b_40_43, b_40_48, b_40_51, b_40_55, b_40_56, b_40_59, b_40_69, b_40_78, b_40_82, b_40_83, kont_v, kont_n, kont_x, Nat.reduceAdd, ad_some, kd_some, ixa, and_true, true_and, and_self, eq_self, ne_eq, brT, brF, true_or, or_true, and_imp, hr.c0, hr.c1, hr.c2, hr.c3, hr.c4, hr.c5, hr.c6, hr.c7, hr.c8, hr.c9, hr.c10, hr.c11, hr.c12, hr.c13, hr.c14, hr.c15, hr.c16, hr.c17, hr.c18, hr.c19, hr.c20, hr.c21, hr.c22, hr.c23, hr.c24, hr.c25, hr.c26, hr.c27, hr.c28, hr.c29, hr.c30, hr.c31, hr.c32, hr.c33, hr.c34, hr.c35, hr.c36, hr.c37, hr.c38, hr.c39, hr.c40, hr.c41, hr.c42, hr.c43, hr.c44, hr.c45, hr.c46, hr.c47, hr.c48, hr.c49, hr.c50, hr.c51, hr.c52, hr.c53, hr.c54, hr.c55, hr.c56, hr.c57, hr.c58, hr.c59, hr.c60, hr.c61, hr.c62, hr.c63, hr.c64, hr.c65, hr.c66, hr.c67, hr.c68, hr.c69, hr.c70, aT, inR, c_str hr iv, c_reqUser hr iv, c_reqNote hr iv, c_reqSign hr iv, c_isHeadR hr iv, c_isSeen hr iv, c_tsize hr iv, c_room hr iv, s_isWithin, s_isRight, s_isContent, s_reqAr, s_reqSt, s_reqIx, s_reqAr1, s_reqAr0, s_reqSt1, s_reqSt0, s_reqIx1, s_reqIx0, brt, brf, b2iT, b2iF, b2i_0, brN, brT, brF, brS, Classical.not_not, not_true_eq_false, not_false_eq_true, b2i_t, b2i_f, one_ne0, zz01, oz01, thr, and_false, false_and, or_self, gK_pI, gL_pI, gR_pI, gI_pI, hi, reduceCtorEq, Nat.reduceEqDiff, Int.reduceEq, if_true, if_false]
              rw [b_40_86]
              refine ⟨⟨by omega, by omega⟩, ?_⟩
              refine newC hi hr 21 (S 7 0 0) 8 4 (by omega) (LvC_new S 21 (by omega)) (G := fun q g => WP 40 89 [some (zr (some (a 0 0))), some (zi u), some (zi f), some (zi t), some (zi v), some (zi c), none] [zr (some q)] g Q) (fun b1 g1 ib1 hr1 fr1 gc1 gs1 kq1 lq1 zI1 zR1 liv1 => ?_)
              have e01 := (liv1 0 0 (by rw [hr.c0]; omega) (by omega)).1
              rw [← e01, b_40_89]
              simp only [hr1.c0, hr1.c2, ad_some, kd_some, true_and]
              refine ⟨⟨by omega, by omega⟩, ?_⟩
              refine newC ib1 hr1 22 (S 7 0 0) 2 1 (by omega) (LvC_new S 22 (by omega)) (G := fun q g => WP 40 100 [some (zr (some (b1 0 0))), some (zi u), some (zi f), some (zi t), some (zi v), some (zi c), none] [zr (some q), zi v, zi u, zi (S 7 0 0), zr (some (b1 21 (S 7 0 0))), zr (some (b1 21 (S 7 0 0)))] g Q) (fun b2 g2 ib2 hr2 fr2 gc2 gs2 kq2 lq2 zI2 zR2 liv2 => ?_)
              have e02 := (liv2 0 0 (by rw [hr1.c0]; omega) (by omega)).1
              obtain ⟨e212, s212⟩ := liv2 21 (S 7 0 0) (by rw [kq1]; omega) (by omega)
              rw [← e02, ← e212]
              rw [← e212] at s212 kq1 zI1 zR1
              obtain ⟨sk2, -, sI2, sR2, -⟩ := s212
              rw [← sk2] at kq1
              have zI1 : ∀ j, gI g2 (b2 21 (S 7 0 0)) j = 0 := fun j => (sI2 j).trans (zI1 j)
              have zR1 : ∀ j, gR g2 (b2 21 (S 7 0 0)) j = none := fun j => (sR2 j).trans (zR1 j)
              have hr3 := (hr2.wI ib2 (LvC_new S 22 (by omega)) (k := 0) (x := f)).wI ib2 (LvC_new S 22 (by omega)) (k := 1) (x := t)
              have hr := hr2
              simp (disch := first | assumption | omega) only [b_40_100, b_0_0, b_0_9, b_0_14, b_40_106, kont_v, kont_n, kont_x, Nat.reduceAdd, ad_some, kd_some, ixa, and_true, true_and, and_self, eq_self, ne_eq, brT, brF, true_or, or_true, and_imp, hr.c0, hr.c1, hr.c2, hr.c3, hr.c4, hr.c5, hr.c6, hr.c7, hr.c8, hr.c9, hr.c10, hr.c11, hr.c12, hr.c13, hr.c14, hr.c15, hr.c16, hr.c17, hr.c18, hr.c19, hr.c20, hr.c21, hr.c22, hr.c23, hr.c24, hr.c25, hr.c26, hr.c27, hr.c28, hr.c29, hr.c30, hr.c31, hr.c32, hr.c33, hr.c34, hr.c35, hr.c36, hr.c37, hr.c38, hr.c39, hr.c40, hr.c41, hr.c42, hr.c43, hr.c44, hr.c45, hr.c46, hr.c47, hr.c48, hr.c49, hr.c50, hr.c51, hr.c52, hr.c53, hr.c54, hr.c55, hr.c56, hr.c57, hr.c58, hr.c59, hr.c60, hr.c61, hr.c62, hr.c63, hr.c64, hr.c65, hr.c66, hr.c67, hr.c68, hr.c69, hr.c70, kq2, reduceCtorEq, not_false_eq_true, gK_pI, gL_pI, gR_pI]
              refine c_quote0 ib2 hr3 iv f t c2 (by show gC g2 + 1 ≤ _; omega) (by show gS g2 + 12 ≤ _; omega) (fun b4 g4 ib4 hr4 fr4 liv4 gc4 gs4 kq4 lq4 row4 => ?_)
              have gc4 : gC g4 = gC g2 + 1 := gc4
              have gs4 : gS g4 ≤ gS g2 + 12 := gs4
              have e04 := (liv4 0 0 (by rw [hr3.c0]; omega) (by omega)).1
              obtain ⟨e214, s214⟩ := liv4 21 (S 7 0 0) (by rw [gK_pI, gK_pI, kq1]; omega) (by omega)
              obtain ⟨e224, s224⟩ := liv4 22 (S 7 0 0) (by rw [gK_pI, gK_pI, kq2]; omega) (by omega)
              rw [← e04, ← e214, ← e224]
              simp only [kont_v, kont_n, kont_x, Nat.reduceAdd, ad_some, kd_some, ixa, and_true, true_and, and_self, eq_self, ne_eq, brT, brF, true_or, or_true, and_imp]
              obtain ⟨sk4, -, sI4, sR4, -⟩ := s214
              obtain ⟨tk4, -, tI4, -, -⟩ := s224
              rw [gK_pI, gK_pI, kq1, ← e214] at sk4
              rw [gK_pI, gK_pI, kq2, ← e224] at tk4
              have i22 : gI g4 (b4 22 (S 7 0 0)) 0 = f := by rw [e224, tI4, gI_pI, if_neg (by omega), gI_pI, if_pos ⟨rfl, rfl⟩]
              have i22' : gI g4 (b4 22 (S 7 0 0)) 1 = t := by rw [e224, tI4, gI_pI, if_pos ⟨rfl, rfl⟩]
              have zI4 : ∀ j, gI g4 (b4 21 (S 7 0 0)) j = 0 := fun j => by rw [e214, sI4, gI_pI, if_neg (fun z => by rw [ib2] at z; omega), gI_pI, if_neg (fun z => by rw [ib2] at z; omega)]; exact zI1 j
              have n21 := LvC_new S 21 (by omega)
              have hr5 := (((((hr4.wI ib4 n21 (k := 0) (x := S 7 0 0)).wI ib4 n21 (k := 1) (x := u)).wI ib4 n21 (k := 2) (x := v)).wR ib4 n21 (k := 3) (x := some (b4 22 (S 7 0 0)))).wR ib4 n21 (k := 4) (x := some (b4 23 (S 7 0 0)))).wI ib4 n21 (k := 6) (x := -1)
              simp (disch := first | assumption | omega) only [b_40_112, b_19_0, b_19_9, b_19_14, b_19_19, b_19_25, b_19_31, b_19_36, kont_v, kont_n, kont_x, Nat.reduceAdd, ad_some, kd_some, ixa, and_true, true_and, and_self, eq_self, ne_eq, brT, brF, true_or, or_true, and_imp, sk4, reduceCtorEq, not_false_eq_true, gK_pI, gL_pI, gR_pI, gK_pR, gL_pR, gI_pR]
              rw [b_40_115]
              refine ⟨⟨by show gC g4 + 1 ≤ _; omega, by show gS g4 + 10 ≤ _; omega⟩, ?_⟩
              revert hr5
              generalize hg5 : pI (pR (pR (pI (pI (pI g4 (b4 21 (S 7 0 0)) 0 (S 7 0 0)) (b4 21 (S 7 0 0)) 1 u) (b4 21 (S 7 0 0)) 2 v) (b4 21 (S 7 0 0)) 3 (some (b4 22 (S 7 0 0)))) (b4 21 (S 7 0 0)) 4 (some (b4 23 (S 7 0 0)))) (b4 21 (S 7 0 0)) 6 (-1) = g5
              intro hr5
              have c5' : gC g5 = gC g4 := by rw [← hg5]; rfl
              have s5' : gS g5 = gS g4 := by rw [← hg5]; rfl
              have fr5 : Fr (fun f => 100 ≤ f) b4 g4 b4 g5 := by
                rw [← hg5]
                exact (Fr_pI ib4 (by omega)).trans ((Fr_pI ib4 (by omega)).trans ((Fr_pI ib4 (by omega)).trans ((Fr_pR ib4 (by omega)).trans ((Fr_pR ib4 (by omega)).trans (Fr_pI ib4 (by omega))))))
              have K21 : gK g5 (b4 21 (S 7 0 0)) = 4 := by rw [← hg5]; exact sk4
              have K22 : gK g5 (b4 22 (S 7 0 0)) = 1 := by rw [← hg5]; exact tk4
              have K23 : gK g5 (b4 23 (S 7 0 0)) = 10 := by rw [← hg5]; exact kq4
              have L23 : gL g5 (b4 23 (S 7 0 0)) = if t - f < 12 then t - f else 12 := by rw [← hg5]; exact lq4
              have I21 : ∀ j, gI g5 (b4 21 (S 7 0 0)) j = if j = 6 then -1 else if j = 2 then v else if j = 1 then u else if j = 0 then S 7 0 0 else 0 := fun j => by
                rw [← hg5]
                simp only [gI_pI, gI_pR, true_and, zI4]
              have R21 : gR g5 (b4 21 (S 7 0 0)) 3 = some (b4 22 (S 7 0 0)) ∧ gR g5 (b4 21 (S 7 0 0)) 4 = some (b4 23 (S 7 0 0)) := by
                rw [← hg5]
                simp only [gR_pI, gR_pR, true_and, Int.reduceEq, if_true, if_false, and_self]
              have I22 : gI g5 (b4 22 (S 7 0 0)) 0 = f ∧ gI g5 (b4 22 (S 7 0 0)) 1 = t := by
                rw [← hg5]
                refine ⟨?_, ?_⟩
                · simp (disch := first | assumption | omega) only [gI_pI, gI_pR, ib4, reduceCtorEq, Nat.reduceEqDiff, false_and, if_false]; exact i22
                · simp (disch := first | assumption | omega) only [gI_pI, gI_pR, ib4, reduceCtorEq, Nat.reduceEqDiff, false_and, if_false]; exact i22'
              have I23 : ∀ i, 0 ≤ i → i < (if t - f < 12 then t - f else 12) → gI g5 (b4 23 (S 7 0 0)) i = S 5 (S 4 (S 2 0 0) (f + i)) 0 := fun i j1 j2 => by
                rw [← hg5]
                simp (disch := first | assumption | omega) only [gI_pI, gI_pR, ib4, reduceCtorEq, Nat.reduceEqDiff, false_and, if_false]
                exact row4 i j1 j2
              clear hg5
              refine newC ib4 hr5 20 (S 7 0 0) 10 3 (by omega) (LvC_new S 20 (by omega)) (G := fun q g => WP 40 121 [some (zr (some (b4 0 0))), some (zi u), some (zi f), some (zi t), some (zi v), some (zi c), some (zr (some (b4 21 (S 7 0 0))))] [zr (some q), zr (some (b4 0 0))] g Q) (fun b6 g6 ib6 hr6 fr6 gc6 gs6 kq6 lq6 zI6 zR6 liv6 => ?_)
              have e06 := (liv6 0 0 (by rw [hr5.c0]; omega) (by omega)).1
              obtain ⟨e21, a21⟩ := liv6 21 (S 7 0 0) (by rw [K21]; omega) (by omega)
              obtain ⟨e22, a22⟩ := liv6 22 (S 7 0 0) (by rw [K22]; omega) (by omega)
              obtain ⟨e23, a23⟩ := liv6 23 (S 7 0 0) (by rw [K23]; omega) (by omega)
              rw [← e21] at a21 K21 I21
              rw [← e22] at a22 K22 I22
              rw [← e23] at a23 K23 L23 I23
              rw [← e21, ← e22, ← e23] at R21
              rw [← e06, ← e21]
              have n20 := LvC_new S 20 (by omega)
              have hr7 := (((((hr6.wI ib6 n20 (k := 0) (x := S 7 0 0)).wI ib6 n20 (k := 1) (x := u)).wI ib6 n20 (k := 2) (x := c)).wR ib6 n20 (k := 4) (x := none)).wR ib6 n20 (k := 5) (x := some (b6 21 (S 7 0 0)))).wI ib6 n20 (k := 3) (x := 0)
              have hr := hr6
              have hi0 := hi
              clear hi
              have hi := ib6
              simp (disch := first | assumption | omega) only [b_40_121, b_12_0, b_12_9, b_12_14, b_12_19, b_12_25, b_12_31, b_12_37, b_12_48, b_12_51, b_40_135, b_77_0, b_77_10, b_77_20, b_40_138, kont_v, kont_n, kont_x, Nat.reduceAdd, ad_some, kd_some, ixa, and_true, true_and, and_self, eq_self, ne_eq, brT, brF, true_or, or_true, and_imp, hr.c0, hr.c1, hr.c2, hr.c3, hr.c4, hr.c5, hr.c6, hr.c7, hr.c8, hr.c9, hr.c10, hr.c11, hr.c12, hr.c13, hr.c14, hr.c15, hr.c16, hr.c17, hr.c18, hr.c19, hr.c20, hr.c21, hr.c22, hr.c23, hr.c24, hr.c25, hr.c26, hr.c27, hr.c28, hr.c29, hr.c30, hr.c31, hr.c32, hr.c33, hr.c34, hr.c35, hr.c36, hr.c37, hr.c38, hr.c39, hr.c40, hr.c41, hr.c42, hr.c43, hr.c44, hr.c45, hr.c46, hr.c47, hr.c48, hr.c49, hr.c50, hr.c51, hr.c52, hr.c53, hr.c54, hr.c55, hr.c56, hr.c57, hr.c58, hr.c59, hr.c60, hr.c61, hr.c62, hr.c63, hr.c64, hr.c65, hr.c66, hr.c67, hr.c68, hr.c69, hr.c70, aT, inR, kq6, reduceCtorEq, not_false_eq_true, gK_pI, gL_pI, gR_pI, gI_pI, gK_pR, gL_pR, gI_pR, gR_pR, hi, Nat.reduceEqDiff, Int.reduceEq, and_false, false_and, if_false, if_true, zI6]
              have iT := inv_note iv c6 c1 c2 c3 c4
              have z0 := iv.2.2.1.2.2.1 (S 7 0 0) (Int.le_refl _) c6
              have sx : ∀ f2, f2 ≠ 20 → sm g6 (pI (pR (pR (pI (pI (pI g6 (b6 20 (S 7 0 0)) 0 (S 7 0 0)) (b6 20 (S 7 0 0)) 1 u) (b6 20 (S 7 0 0)) 2 c) (b6 20 (S 7 0 0)) 4 none) (b6 20 (S 7 0 0)) 5 (some (b6 21 (S 7 0 0)))) (b6 20 (S 7 0 0)) 3 0) (b6 f2 (S 7 0 0)) := fun f2 h2 => (smI hi (.inl h2)).trans ((smI hi (.inl h2)).trans ((smI hi (.inl h2)).trans ((smR hi (.inl h2)).trans ((smR hi (.inl h2)).trans (smI hi (.inl h2))))))
              obtain ⟨p21, -, q21, r21, -⟩ := a21.trans (sx 21 (by omega))
              obtain ⟨p22, -, q22, -, -⟩ := a22.trans (sx 22 (by omega))
              obtain ⟨p23, l23, q23, -, -⟩ := a23.trans (sx 23 (by omega))
              refine k b6 _ (RepC.addHead hi hr7 iv iT rfl rfl ?_ rfl kq6 ?_ ?_ ?_ ?_ ?_ ?_ ?_ ?_ ?_ ?_ ?_) ⟨ib6, ?_, ?_, ?_, e06.trans (e04.trans (e02.trans e01))⟩
              · exact z0.1
              · simp only [gI_pI, gI_pR, true_and, Int.reduceEq, if_true, if_false]
              · simp only [gI_pI, gI_pR, true_and, Int.reduceEq, if_true, if_false]; rfl
              · simp only [gI_pI, gI_pR, true_and, Int.reduceEq, if_true, if_false]; rfl
              · simp only [gI_pI, gI_pR, true_and, Int.reduceEq, if_true, if_false]
              · simp only [gI_pI, gI_pR, true_and, Int.reduceEq, if_true, if_false, zI6]
              · simp only [gI_pI, gI_pR, true_and, Int.reduceEq, if_true, if_false, zI6]
              · simp only [gI_pI, gI_pR, true_and, Int.reduceEq, if_true, if_false, zI6]
              · simp only [gR_pI, gR_pR, true_and, Int.reduceEq, if_true, if_false]
              · simp only [gR_pI, gR_pR, true_and, Int.reduceEq, if_true, if_false]
              · simp only [gR_pI, gR_pR, true_and, Int.reduceEq, if_true, if_false, zR6]
              · refine ⟨p21.trans K21, ?_, ?_, ?_, (r21 _).trans R21.1, (r21 _).trans R21.2, ?_, ?_, ?_, p22.trans K22, ?_, ?_, p23.trans K23, ?_, ?_⟩
                · exact (q21 _).trans ((I21 0).trans (by simp only [Int.reduceEq, if_true, if_false]))
                · rw [NN_n _ _ _ _ (by omega)]; exact (q21 _).trans ((I21 1).trans (by simp only [Int.reduceEq, if_true, if_false]; rfl))
                · rw [NN_n _ _ _ _ (by omega)]; exact (q21 _).trans ((I21 2).trans (by simp only [Int.reduceEq, if_true, if_false]; rfl))
                · rw [NN_n _ _ _ _ (by omega)]; exact (q21 _).trans ((I21 5).trans (by simp only [Int.reduceEq, if_true, if_false]; exact z0.2.2.symm))
                · rw [NN_n _ _ _ _ (by omega)]; exact (q21 _).trans ((I21 6).trans (by simp only [Int.reduceEq, if_true, if_false]; rfl))
                · rw [NN_n _ _ _ _ (by omega)]; exact (q21 _).trans ((I21 7).trans (by simp only [Int.reduceEq, if_true, if_false]; exact z0.2.1.symm))
                · rw [NN_n _ _ _ _ (by omega)]; exact (q22 _).trans I22.1
                · rw [NN_n _ _ _ _ (by omega)]; exact (q22 _).trans I22.2
                · rw [NN_n _ _ _ _ (by omega)]; exact l23.trans L23
                · intro i j1 j2
                  rw [NN_n _ _ _ _ (by omega)] at j2
                  rw [NN_20]
                  exact (q23 i).trans (I23 i j1 j2)
              · exact fr1.trans (fr2.trans ((Fr_pI ib2 (by omega)).trans ((Fr_pI ib2 (by omega)).trans (fr4.trans (fr5.trans (fr6.trans ((Fr_pI hi (by omega)).trans ((Fr_pI hi (by omega)).trans ((Fr_pI hi (by omega)).trans ((Fr_pR hi (by omega)).trans ((Fr_pR hi (by omega)).trans ((Fr_pI hi (by omega)).trans ((Fr_pR hi (by omega)).trans (Fr_pI hi (by omega)))))))))))))))
              · show gC g6 ≤ _; omega
              · show gS g6 ≤ _; omega
            · rw [brf (fun z => c6 z.2)] at k
              simp (disch := first | assumption | omega) only [b_40_0, b_40_5, b_40_9, b_40_14, b_40_22, b_40_25, b_40_29, b_40_30, b_40_33, b_40_40, b_40_43, b_40_48, b_40_51, b_40_55, b_40_56, b_40_59, b_40_69, b_40_78, b_40_82, b_40_83, b_40_89, b_40_100, b_40_106, b_40_112, b_40_115, b_40_121, b_40_135, b_40_138, kont_v, kont_n, kont_x, Nat.reduceAdd, ad_some, kd_some, ixa, and_true, true_and, and_self, eq_self, ne_eq, brT, brF, true_or, or_true, and_imp, hr.c0, hr.c1, hr.c2, hr.c3, hr.c4, hr.c5, hr.c6, hr.c7, hr.c8, hr.c9, hr.c10, hr.c11, hr.c12, hr.c13, hr.c14, hr.c15, hr.c16, hr.c17, hr.c18, hr.c19, hr.c20, hr.c21, hr.c22, hr.c23, hr.c24, hr.c25, hr.c26, hr.c27, hr.c28, hr.c29, hr.c30, hr.c31, hr.c32, hr.c33, hr.c34, hr.c35, hr.c36, hr.c37, hr.c38, hr.c39, hr.c40, hr.c41, hr.c42, hr.c43, hr.c44, hr.c45, hr.c46, hr.c47, hr.c48, hr.c49, hr.c50, hr.c51, hr.c52, hr.c53, hr.c54, hr.c55, hr.c56, hr.c57, hr.c58, hr.c59, hr.c60, hr.c61, hr.c62, hr.c63, hr.c64, hr.c65, hr.c66, hr.c67, hr.c68, hr.c69, hr.c70, aT, inR, c_str hr iv, c_reqUser hr iv, c_reqNote hr iv, c_reqSign hr iv, c_isHeadR hr iv, c_isSeen hr iv, c_tsize hr iv, c_room hr iv, s_isWithin, s_isRight, s_isContent, s_reqAr, s_reqSt, s_reqIx, s_reqAr1, s_reqAr0, s_reqSt1, s_reqSt0, s_reqIx1, s_reqIx0, brt, brf, b2iT, b2iF, b2i_0, brN, brT, brF, brS, Classical.not_not, not_true_eq_false, not_false_eq_true, b2i_t, b2i_f, one_ne0, zz01, oz01, thr, and_false, false_and, or_self, gK_pI, gL_pI, gR_pI, gI_pI, hi, reduceCtorEq, Nat.reduceEqDiff, Int.reduceEq, if_true, if_false]
              exact k.2
          · rw [brf (fun z => c5 z.1)] at k
            simp (disch := first | assumption | omega) only [b_40_0, b_40_5, b_40_9, b_40_14, b_40_22, b_40_25, b_40_29, b_40_30, b_40_33, b_40_40, b_40_43, b_40_48, b_40_51, b_40_55, b_40_56, b_40_59, b_40_69, b_40_78, b_40_82, b_40_83, b_40_89, b_40_100, b_40_106, b_40_112, b_40_115, b_40_121, b_40_135, b_40_138, kont_v, kont_n, kont_x, Nat.reduceAdd, ad_some, kd_some, ixa, and_true, true_and, and_self, eq_self, ne_eq, brT, brF, true_or, or_true, and_imp, hr.c0, hr.c1, hr.c2, hr.c3, hr.c4, hr.c5, hr.c6, hr.c7, hr.c8, hr.c9, hr.c10, hr.c11, hr.c12, hr.c13, hr.c14, hr.c15, hr.c16, hr.c17, hr.c18, hr.c19, hr.c20, hr.c21, hr.c22, hr.c23, hr.c24, hr.c25, hr.c26, hr.c27, hr.c28, hr.c29, hr.c30, hr.c31, hr.c32, hr.c33, hr.c34, hr.c35, hr.c36, hr.c37, hr.c38, hr.c39, hr.c40, hr.c41, hr.c42, hr.c43, hr.c44, hr.c45, hr.c46, hr.c47, hr.c48, hr.c49, hr.c50, hr.c51, hr.c52, hr.c53, hr.c54, hr.c55, hr.c56, hr.c57, hr.c58, hr.c59, hr.c60, hr.c61, hr.c62, hr.c63, hr.c64, hr.c65, hr.c66, hr.c67, hr.c68, hr.c69, hr.c70, aT, inR, c_str hr iv, c_reqUser hr iv, c_reqNote hr iv, c_reqSign hr iv, c_isHeadR hr iv, c_isSeen hr iv, c_tsize hr iv, c_room hr iv, s_isWithin, s_isRight, s_isContent, s_reqAr, s_reqSt, s_reqIx, s_reqAr1, s_reqAr0, s_reqSt1, s_reqSt0, s_reqIx1, s_reqIx0, brt, brf, b2iT, b2iF, b2i_0, brN, brT, brF, brS, Classical.not_not, not_true_eq_false, not_false_eq_true, b2i_t, b2i_f, one_ne0, zz01, oz01, thr, and_false, false_and, or_self, gK_pI, gL_pI, gR_pI, gI_pI, hi, reduceCtorEq, Nat.reduceEqDiff, Int.reduceEq, if_true, if_false]
            exact k.2
        · rw [brf (fun z => c4 z.2.2)] at k
          simp (disch := first | assumption | omega) only [b_40_0, b_40_5, b_40_9, b_40_14, b_40_22, b_40_25, b_40_29, b_40_30, b_40_33, b_40_40, b_40_43, b_40_48, b_40_51, b_40_55, b_40_56, b_40_59, b_40_69, b_40_78, b_40_82, b_40_83, b_40_89, b_40_100, b_40_106, b_40_112, b_40_115, b_40_121, b_40_135, b_40_138, kont_v, kont_n, kont_x, Nat.reduceAdd, ad_some, kd_some, ixa, and_true, true_and, and_self, eq_self, ne_eq, brT, brF, true_or, or_true, and_imp, hr.c0, hr.c1, hr.c2, hr.c3, hr.c4, hr.c5, hr.c6, hr.c7, hr.c8, hr.c9, hr.c10, hr.c11, hr.c12, hr.c13, hr.c14, hr.c15, hr.c16, hr.c17, hr.c18, hr.c19, hr.c20, hr.c21, hr.c22, hr.c23, hr.c24, hr.c25, hr.c26, hr.c27, hr.c28, hr.c29, hr.c30, hr.c31, hr.c32, hr.c33, hr.c34, hr.c35, hr.c36, hr.c37, hr.c38, hr.c39, hr.c40, hr.c41, hr.c42, hr.c43, hr.c44, hr.c45, hr.c46, hr.c47, hr.c48, hr.c49, hr.c50, hr.c51, hr.c52, hr.c53, hr.c54, hr.c55, hr.c56, hr.c57, hr.c58, hr.c59, hr.c60, hr.c61, hr.c62, hr.c63, hr.c64, hr.c65, hr.c66, hr.c67, hr.c68, hr.c69, hr.c70, aT, inR, c_str hr iv, c_reqUser hr iv, c_reqNote hr iv, c_reqSign hr iv, c_isHeadR hr iv, c_isSeen hr iv, c_tsize hr iv, c_room hr iv, s_isWithin, s_isRight, s_isContent, s_reqAr, s_reqSt, s_reqIx, s_reqAr1, s_reqAr0, s_reqSt1, s_reqSt0, s_reqIx1, s_reqIx0, brt, brf, b2iT, b2iF, b2i_0, brN, brT, brF, brS, Classical.not_not, not_true_eq_false, not_false_eq_true, b2i_t, b2i_f, one_ne0, zz01, oz01, thr, and_false, false_and, or_self, gK_pI, gL_pI, gR_pI, gI_pI, hi, reduceCtorEq, Nat.reduceEqDiff, Int.reduceEq, if_true, if_false]
          exact k.2
      · rw [brf (fun z => c3 z.2.1)] at k
        simp (disch := first | assumption | omega) only [b_40_0, b_40_5, b_40_9, b_40_14, b_40_22, b_40_25, b_40_29, b_40_30, b_40_33, b_40_40, b_40_43, b_40_48, b_40_51, b_40_55, b_40_56, b_40_59, b_40_69, b_40_78, b_40_82, b_40_83, b_40_89, b_40_100, b_40_106, b_40_112, b_40_115, b_40_121, b_40_135, b_40_138, kont_v, kont_n, kont_x, Nat.reduceAdd, ad_some, kd_some, ixa, and_true, true_and, and_self, eq_self, ne_eq, brT, brF, true_or, or_true, and_imp, hr.c0, hr.c1, hr.c2, hr.c3, hr.c4, hr.c5, hr.c6, hr.c7, hr.c8, hr.c9, hr.c10, hr.c11, hr.c12, hr.c13, hr.c14, hr.c15, hr.c16, hr.c17, hr.c18, hr.c19, hr.c20, hr.c21, hr.c22, hr.c23, hr.c24, hr.c25, hr.c26, hr.c27, hr.c28, hr.c29, hr.c30, hr.c31, hr.c32, hr.c33, hr.c34, hr.c35, hr.c36, hr.c37, hr.c38, hr.c39, hr.c40, hr.c41, hr.c42, hr.c43, hr.c44, hr.c45, hr.c46, hr.c47, hr.c48, hr.c49, hr.c50, hr.c51, hr.c52, hr.c53, hr.c54, hr.c55, hr.c56, hr.c57, hr.c58, hr.c59, hr.c60, hr.c61, hr.c62, hr.c63, hr.c64, hr.c65, hr.c66, hr.c67, hr.c68, hr.c69, hr.c70, aT, inR, c_str hr iv, c_reqUser hr iv, c_reqNote hr iv, c_reqSign hr iv, c_isHeadR hr iv, c_isSeen hr iv, c_tsize hr iv, c_room hr iv, s_isWithin, s_isRight, s_isContent, s_reqAr, s_reqSt, s_reqIx, s_reqAr1, s_reqAr0, s_reqSt1, s_reqSt0, s_reqIx1, s_reqIx0, brt, brf, b2iT, b2iF, b2i_0, brN, brT, brF, brS, Classical.not_not, not_true_eq_false, not_false_eq_true, b2i_t, b2i_f, one_ne0, zz01, oz01, thr, and_false, false_and, or_self, gK_pI, gL_pI, gR_pI, gI_pI, hi, reduceCtorEq, Nat.reduceEqDiff, Int.reduceEq, if_true, if_false]
        exact k.2
    · rw [brf (fun z => c2 z.1)] at k
      by_cases d1 : f < 0
      · simp (disch := first | assumption | omega) only [b_40_0, b_40_5, b_40_9, b_40_14, b_40_22, b_40_25, b_40_29, b_40_30, b_40_33, b_40_40, b_40_43, b_40_48, b_40_51, b_40_55, b_40_56, b_40_59, b_40_69, b_40_78, b_40_82, b_40_83, b_40_89, b_40_100, b_40_106, b_40_112, b_40_115, b_40_121, b_40_135, b_40_138, kont_v, kont_n, kont_x, Nat.reduceAdd, ad_some, kd_some, ixa, and_true, true_and, and_self, eq_self, ne_eq, brT, brF, true_or, or_true, and_imp, hr.c0, hr.c1, hr.c2, hr.c3, hr.c4, hr.c5, hr.c6, hr.c7, hr.c8, hr.c9, hr.c10, hr.c11, hr.c12, hr.c13, hr.c14, hr.c15, hr.c16, hr.c17, hr.c18, hr.c19, hr.c20, hr.c21, hr.c22, hr.c23, hr.c24, hr.c25, hr.c26, hr.c27, hr.c28, hr.c29, hr.c30, hr.c31, hr.c32, hr.c33, hr.c34, hr.c35, hr.c36, hr.c37, hr.c38, hr.c39, hr.c40, hr.c41, hr.c42, hr.c43, hr.c44, hr.c45, hr.c46, hr.c47, hr.c48, hr.c49, hr.c50, hr.c51, hr.c52, hr.c53, hr.c54, hr.c55, hr.c56, hr.c57, hr.c58, hr.c59, hr.c60, hr.c61, hr.c62, hr.c63, hr.c64, hr.c65, hr.c66, hr.c67, hr.c68, hr.c69, hr.c70, aT, inR, c_str hr iv, c_reqUser hr iv, c_reqNote hr iv, c_reqSign hr iv, c_isHeadR hr iv, c_isSeen hr iv, c_tsize hr iv, c_room hr iv, s_isWithin, s_isRight, s_isContent, s_reqAr, s_reqSt, s_reqIx, s_reqAr1, s_reqAr0, s_reqSt1, s_reqSt0, s_reqIx1, s_reqIx0, brt, brf, b2iT, b2iF, b2i_0, brN, brT, brF, brS, Classical.not_not, not_true_eq_false, not_false_eq_true, b2i_t, b2i_f, one_ne0, zz01, oz01, thr, and_false, false_and, or_self, gK_pI, gL_pI, gR_pI, gI_pI, hi, reduceCtorEq, Nat.reduceEqDiff, Int.reduceEq, if_true, if_false]
        exact k.2
      · by_cases d2 : t ≤ f
        · simp (disch := first | assumption | omega) only [b_40_0, b_40_5, b_40_9, b_40_14, b_40_22, b_40_25, b_40_29, b_40_30, b_40_33, b_40_40, b_40_43, b_40_48, b_40_51, b_40_55, b_40_56, b_40_59, b_40_69, b_40_78, b_40_82, b_40_83, b_40_89, b_40_100, b_40_106, b_40_112, b_40_115, b_40_121, b_40_135, b_40_138, kont_v, kont_n, kont_x, Nat.reduceAdd, ad_some, kd_some, ixa, and_true, true_and, and_self, eq_self, ne_eq, brT, brF, true_or, or_true, and_imp, hr.c0, hr.c1, hr.c2, hr.c3, hr.c4, hr.c5, hr.c6, hr.c7, hr.c8, hr.c9, hr.c10, hr.c11, hr.c12, hr.c13, hr.c14, hr.c15, hr.c16, hr.c17, hr.c18, hr.c19, hr.c20, hr.c21, hr.c22, hr.c23, hr.c24, hr.c25, hr.c26, hr.c27, hr.c28, hr.c29, hr.c30, hr.c31, hr.c32, hr.c33, hr.c34, hr.c35, hr.c36, hr.c37, hr.c38, hr.c39, hr.c40, hr.c41, hr.c42, hr.c43, hr.c44, hr.c45, hr.c46, hr.c47, hr.c48, hr.c49, hr.c50, hr.c51, hr.c52, hr.c53, hr.c54, hr.c55, hr.c56, hr.c57, hr.c58, hr.c59, hr.c60, hr.c61, hr.c62, hr.c63, hr.c64, hr.c65, hr.c66, hr.c67, hr.c68, hr.c69, hr.c70, aT, inR, c_str hr iv, c_reqUser hr iv, c_reqNote hr iv, c_reqSign hr iv, c_isHeadR hr iv, c_isSeen hr iv, c_tsize hr iv, c_room hr iv, s_isWithin, s_isRight, s_isContent, s_reqAr, s_reqSt, s_reqIx, s_reqAr1, s_reqAr0, s_reqSt1, s_reqSt0, s_reqIx1, s_reqIx0, brt, brf, b2iT, b2iF, b2i_0, brN, brT, brF, brS, Classical.not_not, not_true_eq_false, not_false_eq_true, b2i_t, b2i_f, one_ne0, zz01, oz01, thr, and_false, false_and, or_self, gK_pI, gL_pI, gR_pI, gI_pI, hi, reduceCtorEq, Nat.reduceEqDiff, Int.reduceEq, if_true, if_false]
          exact k.2
        · simp (disch := first | assumption | omega) only [b_40_0, b_40_5, b_40_9, b_40_14, b_40_22, b_40_25, b_40_29, b_40_30, b_40_33, b_40_40, b_40_43, b_40_48, b_40_51, b_40_55, b_40_56, b_40_59, b_40_69, b_40_78, b_40_82, b_40_83, b_40_89, b_40_100, b_40_106, b_40_112, b_40_115, b_40_121, b_40_135, b_40_138, kont_v, kont_n, kont_x, Nat.reduceAdd, ad_some, kd_some, ixa, and_true, true_and, and_self, eq_self, ne_eq, brT, brF, true_or, or_true, and_imp, hr.c0, hr.c1, hr.c2, hr.c3, hr.c4, hr.c5, hr.c6, hr.c7, hr.c8, hr.c9, hr.c10, hr.c11, hr.c12, hr.c13, hr.c14, hr.c15, hr.c16, hr.c17, hr.c18, hr.c19, hr.c20, hr.c21, hr.c22, hr.c23, hr.c24, hr.c25, hr.c26, hr.c27, hr.c28, hr.c29, hr.c30, hr.c31, hr.c32, hr.c33, hr.c34, hr.c35, hr.c36, hr.c37, hr.c38, hr.c39, hr.c40, hr.c41, hr.c42, hr.c43, hr.c44, hr.c45, hr.c46, hr.c47, hr.c48, hr.c49, hr.c50, hr.c51, hr.c52, hr.c53, hr.c54, hr.c55, hr.c56, hr.c57, hr.c58, hr.c59, hr.c60, hr.c61, hr.c62, hr.c63, hr.c64, hr.c65, hr.c66, hr.c67, hr.c68, hr.c69, hr.c70, aT, inR, c_str hr iv, c_reqUser hr iv, c_reqNote hr iv, c_reqSign hr iv, c_isHeadR hr iv, c_isSeen hr iv, c_tsize hr iv, c_room hr iv, s_isWithin, s_isRight, s_isContent, s_reqAr, s_reqSt, s_reqIx, s_reqAr1, s_reqAr0, s_reqSt1, s_reqSt0, s_reqIx1, s_reqIx0, brt, brf, b2iT, b2iF, b2i_0, brN, brT, brF, brS, Classical.not_not, not_true_eq_false, not_false_eq_true, b2i_t, b2i_f, one_ne0, zz01, oz01, thr, and_false, false_and, or_self, gK_pI, gL_pI, gR_pI, gI_pI, hi, reduceCtorEq, Nat.reduceEqDiff, Int.reduceEq, if_true, if_false]
          exact k.2
  · rw [brf c1] at k
    simp (disch := first | assumption | omega) only [b_40_0, b_40_5, b_40_9, b_40_14, b_40_22, b_40_25, b_40_29, b_40_30, b_40_33, b_40_40, b_40_43, b_40_48, b_40_51, b_40_55, b_40_56, b_40_59, b_40_69, b_40_78, b_40_82, b_40_83, b_40_89, b_40_100, b_40_106, b_40_112, b_40_115, b_40_121, b_40_135, b_40_138, kont_v, kont_n, kont_x, Nat.reduceAdd, ad_some, kd_some, ixa, and_true, true_and, and_self, eq_self, ne_eq, brT, brF, true_or, or_true, and_imp, hr.c0, hr.c1, hr.c2, hr.c3, hr.c4, hr.c5, hr.c6, hr.c7, hr.c8, hr.c9, hr.c10, hr.c11, hr.c12, hr.c13, hr.c14, hr.c15, hr.c16, hr.c17, hr.c18, hr.c19, hr.c20, hr.c21, hr.c22, hr.c23, hr.c24, hr.c25, hr.c26, hr.c27, hr.c28, hr.c29, hr.c30, hr.c31, hr.c32, hr.c33, hr.c34, hr.c35, hr.c36, hr.c37, hr.c38, hr.c39, hr.c40, hr.c41, hr.c42, hr.c43, hr.c44, hr.c45, hr.c46, hr.c47, hr.c48, hr.c49, hr.c50, hr.c51, hr.c52, hr.c53, hr.c54, hr.c55, hr.c56, hr.c57, hr.c58, hr.c59, hr.c60, hr.c61, hr.c62, hr.c63, hr.c64, hr.c65, hr.c66, hr.c67, hr.c68, hr.c69, hr.c70, aT, inR, c_str hr iv, c_reqUser hr iv, c_reqNote hr iv, c_reqSign hr iv, c_isHeadR hr iv, c_isSeen hr iv, c_tsize hr iv, c_room hr iv, s_isWithin, s_isRight, s_isContent, s_reqAr, s_reqSt, s_reqIx, s_reqAr1, s_reqAr0, s_reqSt1, s_reqSt0, s_reqIx1, s_reqIx0, brt, brf, b2iT, b2iF, b2i_0, brN, brT, brF, brS, Classical.not_not, not_true_eq_false, not_false_eq_true, b2i_t, b2i_f, one_ne0, zz01, oz01, thr, and_false, false_and, or_self, gK_pI, gL_pI, gR_pI, gI_pI, hi, reduceCtorEq, Nat.reduceEqDiff, Int.reduceEq, if_true, if_false]
    exact k.2
end
