/-! export OF THE REFERENCE: the call -/
section
variable {a : Na} {S : St} {h : Zh} {Q : Zp}
/-- the rows are kept in a new array -/
theorem RepM.newX (hi : Ij a) (hm : RepM a S h) (hv : 0 ≤ S 2 0 0 ∧ S 2 0 0 ≤ 60) {q : Nat} {n : Int} {E : Int → Int → Int} (h0 : 0 ≤ n) (hq : gK h q = 0) (k161 : gK h (a 161 0) = 10) (rows : ∀ p w, 0 ≤ p → p < n → 0 ≤ w → w < 4 → gI h (a 161 0) (4 * p + w) = E p w) :
    RepM (nm a 120 0 q) (SX S n E) (cpy (pR (nw h q 10 (4 * n)) (a 100 0) 20 (some q)) (a 161 0) 0 q 0 (4 * n)) := by
  have k100 : gK h (a 100 0) = 7 := hm.A.1
  have k120 := hm.X.1
  have n100 : q ≠ a 100 0 := fun e => by rw [e] at hq; omega
  have n161 : a 161 0 ≠ q := fun e => by rw [← e] at hq; omega
  have b100 : nm a 120 0 q 100 0 = a 100 0 := nm_live hq (by omega) (by omega)
  have bq : nm a 120 0 q 120 0 = q := nm_self _ _ _ _
  have L : ∀ f i, ¬ (f = 120 ∧ i = 0) → f ≠ 100 → gK h (a f i) ≠ 0 → nm a 120 0 q f i = a f i ∧ sm h (cpy (pR (nw h q 10 (4 * n)) (a 100 0) 20 (some q)) (a 161 0) 0 q 0 (4 * n)) (a f i) := fun f i h1 h2 h3 =>
    ⟨nm_live hq h3 h1, ((sm_nw (fun e => h3 (by rw [e]; exact hq))).trans (smR hi (.inl h2))).trans (sm_cpy (fun e => h3 (by rw [e]; exact hq)))⟩
  refine .mk ?_ ?_ ?_ ?_ (fun f f1 f2 => ?_) ?_ ?_ ?_
  · have w := hm.A
    obtain ⟨w0, w1, w2, w3, w4, w5, w6, w7, w8, w9, w10, w11, w12, w13, w14, w15, w16, w17, w18, w19, w20, w21⟩ := w
    have nb : ∀ f : Nat, f ≠ 120 → gK h (a f 0) ≠ 0 → nm a 120 0 q f 0 = a f 0 := fun f h1 h2 => nm_live hq h2 (fun e => h1 e.1)
    have kR : ∀ f, 8 ≤ f → f ≤ 18 → gK h (a (100 + f) 0) ≠ 0 := fun f f1 f2 => by have := (hm.R f f1 f2).1; split at this <;> omega
    have e0 : SX S n E 0 0 0 = S 0 0 0 := rfl
    have e6 : SX S n E 6 0 0 = S 6 0 0 := rfl
    have e2 : SX S n E 2 0 0 = S 2 0 0 := rfl
    have e7 : SX S n E 7 0 0 = S 7 0 0 := rfl
    unfold MA
    rw [b100, bq, nb 102 (by omega) (by have := hm.U.1; omega), nb 104 (by omega) (by have := hm.S'.1; omega), nb 105 (by omega) (by have := hm.V.1; omega), nb 108 (by omega) (kR 8 (by omega) (by omega)), nb 109 (by omega) (kR 9 (by omega) (by omega)), nb 110 (by omega) (kR 10 (by omega) (by omega)), nb 111 (by omega) (kR 11 (by omega) (by omega)), nb 112 (by omega) (kR 12 (by omega) (by omega)), nb 113 (by omega) (kR 13 (by omega) (by omega)), nb 114 (by omega) (kR 14 (by omega) (by omega)), nb 115 (by omega) (kR 15 (by omega) (by omega)), nb 116 (by omega) (kR 16 (by omega) (by omega)), nb 117 (by omega) (kR 17 (by omega) (by omega)), nb 118 (by omega) (kR 18 (by omega) (by omega)), nb 119 (by omega) (by have := hm.Q.1; omega), nb 122 (by omega) (by have := hm.O.1; omega), e0, e6, e2, e7]
    have nn : ¬ (a 100 0 = q) := fun e => n100 e.symm
    simp only [gK_cpy, gI_cpy, gR_cpy, gK_pR, gI_pR, gR_pR, gK_nw, gI_nw, gR_nw, nn, w0, w1, w2, w3, w4, w5, w6, w7, w8, w9, w10, w11, w12, w13, w14, w15, w16, w17, w18, w19, w21, true_and, and_true, false_and, Int.reduceEq, if_false, if_true]
  · have l := L 102 0 (by omega) (by omega) (by have := hm.U.1; omega)
    have z := hm.U.c (T := SX S n E) l.2 (fun _ => rfl)
    unfold MU at z ⊢
    rw [l.1]
    exact z
  · have l := L 104 0 (by omega) (by omega) (by have := hm.S'.1; omega)
    have z := hm.S'.c (T := SX S n E) l.2 rfl (fun _ => rfl)
    unfold MS at z ⊢
    rw [l.1]
    exact z
  · have l := L 105 0 (by omega) (by omega) (by have := hm.V.1; omega)
    have lv : ∀ v, 0 ≤ v → v ≤ S 2 0 0 → _ := fun v h1 h2 => L 150 v (by omega) (by omega) (by have := hm.V.2.2.2.1 v h1 h2; omega)
    obtain ⟨v0, v1, v2, v3, v4, v5⟩ := hm.V
    obtain ⟨s0, s1, s2, s3, -⟩ := l.2
    unfold MV
    rw [l.1, s0, s1]
    refine ⟨v0, v1, fun v h1 h2 => ?_, fun v h1 h2 => ?_, fun v h1 h2 => ?_, fun v p h1 h2 h3 h4 => ?_⟩
    · rw [s3, (lv v h1 h2).1]; exact v2 v h1 h2
    · rw [(lv v h1 h2).1, (lv v h1 h2).2.1]; exact v3 v h1 h2
    · rw [(lv v h1 h2).1, (lv v h1 h2).2.2.1]; exact v4 v h1 h2
    · rw [(lv v h1 h2).1, (lv v h1 h2).2.2.2.1]; exact v5 v p h1 h2 h3 h4
  · have l := L (100 + f) 0 (by omega) (by omega) (by have := (hm.R f f1 f2).1; split at this <;> omega)
    have z := (hm.R f f1 f2).c (T := SX S n E) l.2 (fun _ => by unfold SX; rw [if_neg (by omega), if_neg (by omega)])
    unfold AR at z ⊢
    rw [l.1]
    exact z
  · have l := L 119 0 (by omega) (by omega) (by have := hm.Q.1; omega)
    obtain ⟨q0, q1, q2, q3, q4, q5⟩ := hm.Q
    have lk : ∀ k, hd S k → _ := fun k h1 => L 151 k (by omega) (by omega) (by have := q3 k h1; omega)
    obtain ⟨s0, s1, s2, s3, -⟩ := l.2
    unfold MQu
    rw [l.1, s0, s1]
    refine ⟨q0, q1, fun k h1 => ?_, fun k h1 => ?_, fun k h1 => ?_, fun k i h1 h2 h3 => ?_⟩
    · rw [s3, (lk k h1).1]; exact q2 k h1
    · rw [(lk k h1).1, (lk k h1).2.1]; exact q3 k h1
    · rw [(lk k h1).1, (lk k h1).2.2.1]; exact q4 k h1
    · rw [(lk k h1).1, (lk k h1).2.2.2.1]; exact q5 k i h1 h2 h3
  · unfold MX
    rw [bq, SX_21]
    refine ⟨?_, ?_, fun p w p1 p2 w1 w2 => ?_⟩
    · rw [gK_cpy, gK_pR, gK_nw, if_pos rfl]
    · rw [gL_cpy, gL_pR, gL_nw, if_pos rfl]
    · rw [gI_cpy, if_pos ⟨rfl, by omega, by omega⟩, gI_pR, gI_nw, if_neg n161, show 0 + (4 * p + w - 0) = 4 * p + w by omega, SX_22]
      exact rows p w p1 p2 w1 w2
  · have l := L 122 0 (by omega) (by omega) (by have := hm.O.1; omega)
    have z := hm.O.c l.2
    unfold MO at z ⊢
    rw [l.1]
    exact z
theorem m_exL (hi : Ij a) (iv : Inv S) (rc : gC h + 80 ≤ MXC) (rs : gS h + 5600 ≤ MXS) (u al : Int) (N : Nat) (hN : (N : Int) ≤ 60) (C : Int → Int) (hc : okC S N C (S 7 0 0)) (R : Int × (Int → Int → Int)) (hR : 0 ≤ R.1 ∧ R.1 ≤ 60)
    (hQ : ∀ b g, RepM b (SX S R.1 R.2) g → FM a h b g → gC g ≤ gC h + 80 → gS g ≤ gS h + 5600 → Q (.inl (some (zi R.1))) g) (m : Nat) :
    ∀ (i : Int) (s : Int × (Int → Int → Int)) (b : Na) (g : Zh) (o8 o9 : Option Zv), m = (N - i).toNat → 0 ≤ i → i ≤ N → 0 ≤ s.1 → s.1 ≤ BC S C i → apH S C m i s = R → XI S a h N C b g s →
      WP 139 143 [some (zr (some (b 100 0))), some (zi u), some (zi al), some (zr (some (b 160 0))), some (zi N), some (zr (some (b 161 0))), some (zi (4 * s.1)), some (zi i), o8, o9] [] g Q := by
  induction m with
  | zero =>
    intro i s b g o8 o9 e1 e2 e3 h0 hb er xi
    have er : s = R := er
    rw [er] at xi h0 ⊢
    obtain ⟨⟨ib, hm, fm⟩, ⟨gc, gs⟩, ⟨kh, lh, ih'⟩, km, lm, im⟩ := xi
    rw [b_139_143, brt (by omega), b_139_251]
    refine ⟨⟨by omega, by omega, by omega, by omega⟩, fun q hq => ?_⟩
    have k100 := hm.A.1
    have n100 : (b 100 0 = q) = False := eq_false (fun e => by rw [← e] at hq; omega)
    have n161 : (b 161 0 = q) = False := eq_false (fun e => by rw [← e] at hq; omega)
    have w := hm.newX ib iv.2.1.1 (n := R.1) (E := R.2) h0 hq km im
    have b1 : nm b 120 0 q 100 0 = b 100 0 := nm_live hq (by omega) (by omega)
    have ne1 : b 100 0 ≠ q := fun e => by rw [← e] at hq; omega
    have fin := hQ _ _ w (fm.trans ⟨Ij_nm ib _ _ _, (Fr_nw (a := b) (f := 120) (i := 0) hq (by omega)).trans (?_ : Fr _ _ (nw g q 10 (4 * R.1)) _ _), ?_, b1⟩) (by rw [gC_cpy, gC_pR, gC_nw]; omega) (by rw [gS_cpy, gS_pR, gS_nw]; omega)
    · have ed : 4 * R.1 / 4 = R.1 := by omega
      simp (disch := first | assumption | omega) only [b_139_256, b_139_259, b_139_272, kont_v, kont_n, kont_x, Nat.reduceAdd, ad_some, kd_some, ixa, and_true, true_and, and_self, eq_self, ne_eq, brT, brF, true_or, or_true, and_imp, aT, inR, k100, km, lm, gK_pR, gL_pR, gI_pR, gR_pR, gK_nw, gL_nw, gI_nw, gR_nw, n100, n161, if_true, if_false, true_and, eq_self, ed]
      exact fin
    · have e1 : (cpy (pR (nw g q 10 (4 * R.1)) (b 100 0) 20 (some q)) (b 161 0) 0 q 0 (4 * R.1)) = (cpy (pR (nw g q 10 (4 * R.1)) (b 100 0) 20 (some q)) (b 161 0) 0 (nm b 120 0 q 120 0) 0 (4 * R.1)) := by rw [nm_self]
      rw [e1, ← b1]
      exact (Fr_pR (Ij_nm ib _ _ _) (by omega)).trans (Fr_cpy (Ij_nm ib _ _ _) (by omega))
    · rw [b1, gI_cpy, if_neg (fun z => ne1 z.1), gI_pR, gI_nw, if_neg ne1]
  | succ m ih =>
    intro i s b g o8 o9 e1 e2 e3 h0 hb er xi
    obtain ⟨⟨ib, hm, fm⟩, ⟨gc, gs⟩, ⟨kh, lh, ih'⟩, km, lm, im⟩ := xi
    have hci := hc.1 i e2 (by omega)
    have c1 := hci.1.1
    have bs := BC_s hc e2 (show i < N by omega)
    have bb := BC_b iv C (i + 1)
    have er : apH S C m (i + 1) (apO S 61 (C i) s) = R := er
    have ab := apO_b iv 61 (C i) s (BC S C (i + 1)) (.inr ⟨hci.1, hci.2.2.2⟩) (by rw [if_neg (by omega)]; omega)
    have ci := ih' i e2 (by omega)
    rw [b_139_143, brf (by omega)]
    simp (disch := first | assumption | omega) only [b_139_150, kont_v, kont_n, kont_x, Nat.reduceAdd, ad_some, kd_some, ixa, and_true, true_and, and_self, eq_self, ne_eq, brT, brF, true_or, or_true, and_imp, aT, inR, kh, lh, ci, hm.A.1]
    refine m_tell (C i) ib hm iv hci.1 hci.2.2.2 (fun g2 n hm2 fr2 t2 gc2 gs2 o2 ln sn oa => ?_)
    have hck := ms_b (G := fun j => S 12 j 0 ≠ 2) iv (C i)
    have bn := iv.2.2.1.1
    simp only [kont_v, kont_n, kont_x, Nat.reduceAdd, ad_some, kd_some, ixa, and_true, true_and, and_self, eq_self, ne_eq, brT, brF, true_or, or_true, and_imp, b_139_158]
    have s160 := (fr2 160 0 (by omega) (by omega)).2
    have s161 := (fr2 161 0 (by omega) (by omega)).2
    have fm2 : FM b g b g2 := ⟨ib, fun f2 i2 p n2 => fr2 f2 i2 (by omega) n2, t2, rfl⟩
    refine m_rowL hi iv rc rs u al N hN C hc i ⟨e2, by omega⟩ n (by omega) sn (fun j j1 => (oa j j1).1) (apO S 61 (C i) s) (by omega) (fun b3 g3 y o9 xi3 => ?_) n 0 61 s b g2 o9 (by omega) (by omega) (by omega) h0 (by omega) rfl ⟨⟨ib, hm2, fm.trans fm2⟩, ⟨by rw [gc2]; exact gc, by rw [gs2]; exact gs⟩, ⟨s160.1.trans kh, s160.2.1.trans lh, fun j j1 j2 => (s160.2.2.1 j).trans (ih' j j1 j2)⟩, s161.1.trans km, s161.2.1.trans lm, fun p w p1 p2 w1 w2 => (s161.2.2.1 _).trans (im p w p1 p2 w1 w2)⟩ o2 (fun j j1 => (oa j j1).2)
    rw [b_139_245]
    simp (disch := first | assumption | omega) only [aT, inR]
    exact ih (i + 1) _ b3 g3 _ _ (by omega) (by omega) (by omega) (by omega) ab.2 er xi3
theorem m_export (hi : Ij a) (hm : RepM a S h) (iv : Inv S) (rc : gC h + 80 ≤ MXC) (rs : gS h + 5600 ≤ MXS) (u al : Int) (k : br (0 ≤ u ∧ u < S 0 0 0) (MK a (Sexp S u al) h Q (zi (xpR S u al).1) 0) (MK a S h Q (zi 0) 1)) :
    WP 139 0 [some (zr (some (a 100 0))), some (zi u), some (zi al), none, none, none, none, none, none, none] [] h Q := by
  have bn := iv.2.2.1.1
  have hw : RepM a S (tw a h 0) := hm.tw hi 0
  simp (disch := first | assumption | omega) only [b_139_0, kont_v, kont_n, kont_x, Nat.reduceAdd, ad_some, kd_some, ixa, and_true, true_and, and_self, eq_self, ne_eq, brT, brF, true_or, or_true, and_imp, hm.c0, hm.c1, hm.c2, hm.c3, hm.c4, hm.c5, hm.c6, hm.c7, hm.c8, hm.c9, hm.c10, hm.c11, hm.c12, hm.c13, hm.c14, hm.c15, hm.c16, hm.c17, hm.c18, hm.c19, hm.c20, hm.c21, hm.c22, hm.c23, hm.c24, hm.c25, hm.c26, hm.c27, hm.c28, hm.c29, hm.c30, hm.c31, hm.c32, hm.c33, hm.c34, hm.c35, hm.c36, hm.c37, hm.c38, hm.c39, hm.c40, hm.c41, hm.c42, hm.c43, hm.c44, hm.c45, hm.c46, hm.c47, hm.c48, hm.c49, hm.c50, hm.c51, hm.c52, hm.c53, hm.c54, hm.c55, hm.c56, hm.c57, hm.c58, hm.c59, hm.c60, hm.c61, hm.c62, hm.c63, hm.c64, hm.c65, hm.c66, hm.c67, hm.c68, hm.c69, hm.c70, hm.c71, hm.c72, hm.c73, hm.c74, hm.c75, hm.c76, hm.c77, aT, inR, tw_e]
  have hm0 := hm
  have hm := hw
  by_cases c1 : 0 ≤ u ∧ u < S 0 0 0
  · rw [brt c1] at k
    obtain ⟨ok, on⟩ := xp_ok iv u al
    have xb := xpR_b iv u al
    simp (disch := first | assumption | omega) only [b_139_5, b_139_10, kont_v, kont_n, kont_x, Nat.reduceAdd, ad_some, kd_some, ixa, and_true, true_and, and_self, eq_self, ne_eq, brT, brF, true_or, or_true, and_imp, hm.c0, hm.c1, hm.c2, hm.c3, hm.c4, hm.c5, hm.c6, hm.c7, hm.c8, hm.c9, hm.c10, hm.c11, hm.c12, hm.c13, hm.c14, hm.c15, hm.c16, hm.c17, hm.c18, hm.c19, hm.c20, hm.c21, hm.c22, hm.c23, hm.c24, hm.c25, hm.c26, hm.c27, hm.c28, hm.c29, hm.c30, hm.c31, hm.c32, hm.c33, hm.c34, hm.c35, hm.c36, hm.c37, hm.c38, hm.c39, hm.c40, hm.c41, hm.c42, hm.c43, hm.c44, hm.c45, hm.c46, hm.c47, hm.c48, hm.c49, hm.c50, hm.c51, hm.c52, hm.c53, hm.c54, hm.c55, hm.c56, hm.c57, hm.c58, hm.c59, hm.c60, hm.c61, hm.c62, hm.c63, hm.c64, hm.c65, hm.c66, hm.c67, hm.c68, hm.c69, hm.c70, hm.c71, hm.c72, hm.c73, hm.c74, hm.c75, hm.c76, hm.c77, aT, inR, m_isUser hm iv, m_isNote hm iv, m_isIn, m_may hm iv, m_text hm iv, m_no hm iv, m_isNot hm iv, brt, brf, b2iT, b2iF, b2i_0, brN, brT, brF, brS, Classical.not_not, not_true_eq_false, not_false_eq_true, b2i_t, b2i_f, one_ne0, zz01, oz01, and_false, false_and, or_self, gK_pI, gL_pI, gR_pI, gI_pI, hi, reduceCtorEq, Nat.reduceEqDiff, Int.reduceEq, if_true, if_false]
    rw [b_139_19]
    refine ⟨⟨by omega, by omega, by show gC h + 1 ≤ _; omega, by show gS h + 60 ≤ _; omega⟩, ?_⟩
    refine newM hi hw iv.2.1.1 160 0 60 10 (by omega) (by omega) (nl16 S (by omega)) (G := fun q g => WP 139 23 [some (zr (some (a 100 0))), some (zi u), some (zi al), none, none, none, none, none, none, none] [zr (some q)] g Q) (fun b g ib hm2 fm2 gc2 gs2 kq lq liv => ?_)
    have gc2 : gC g = gC h + 1 := gc2
    have gs2 : gS g = gS h + 60 := gs2
    rw [← fm2.2.2.2, b_139_23]
    refine m_chL (h := g) ib iv u al c1 (xpN S u al) (xpC S u al) (fun g3 y o6 hm3 fm3 gc3 gs3 k3 l3 row3 => ?_) (S 7 0 0).toNat 0 0 (fun _ => 0) none g (by omega) (Int.le_refl _) (Int.le_refl _) (okC_0 S _ 0) rfl rfl hm2 (FM.rfl' ib) rfl rfl kq lq (fun i i1 i2 => by omega)
    rw [b_139_130]
    refine ⟨⟨by omega, by omega, by omega, by show gS g3 + 240 ≤ _; omega⟩, ?_⟩
    refine newM ib hm3 iv.2.1.1 161 0 240 10 (by omega) (by omega) (nl16 S (by omega)) (G := fun q g => WP 139 135 [some (zr (some (b 100 0))), some (zi u), some (zi al), some (zr (some (b 160 0))), some (zi (xpN S u al)), some (zi y), o6, none, none, none] [zr (some q)] g Q) (fun b4 g4 ib4 hm4 fm4 gc4 gs4 kq4 lq4 liv4 => ?_)
    have gs4 : gS g4 = gS g3 + 240 := gs4
    obtain ⟨e160, s160⟩ := liv4 160 0 (by omega) (by omega)
    rw [← fm4.2.2.2, ← e160, b_139_135]
    rw [← e160] at s160 k3 l3 row3
    have fmX : FM (a := a) (tw a h 0) b4 g4 := fm2.trans (fm3.trans fm4)
    exact m_exL (h := tw a h 0) hi iv (by show gC h + 80 ≤ _; omega) (by show gS h + 5600 ≤ _; omega) u al (xpN S u al) (by omega) (xpC S u al) ok (xpR S u al) xb (fun b5 g5 hm5 fm5 gc5 gs5 => by
      obtain ⟨em, t0⟩ := tw_FM hi fm5 (show gC g5 ≤ gC h + 80 from gc5) (show gS g5 ≤ gS h + 5600 from gs5)
      exact k b5 g5 hm5 t0 em) (xpN S u al) 0 (0, S 22) b4 g4 none none (by omega) (Int.le_refl _) (by omega) (Int.le_refl _) (BC_0 S _) rfl ⟨⟨ib4, hm4, fmX⟩, ⟨by show (gC g4 : Int) ≤ gC h + 2 + 0; omega, by show (gS g4 : Int) ≤ gS h + 300 + 4 * 0; omega⟩, ⟨s160.1.trans k3, s160.2.1.trans l3, fun i i1 i2 => (s160.2.2.1 i).trans (row3 i i1 i2)⟩, kq4, lq4, fun p w p1 p2 => by have p2 : p < 0 := p2; omega⟩
  · rw [brf c1] at k
    have k := k.tw2 (x := 0) hi hm0
    simp (disch := first | assumption | omega) only [b_139_5, b_139_10, b_139_13, b_139_18, kont_v, kont_n, kont_x, Nat.reduceAdd, ad_some, kd_some, ixa, and_true, true_and, and_self, eq_self, ne_eq, brT, brF, true_or, or_true, and_imp, hm.c0, hm.c1, hm.c2, hm.c3, hm.c4, hm.c5, hm.c6, hm.c7, hm.c8, hm.c9, hm.c10, hm.c11, hm.c12, hm.c13, hm.c14, hm.c15, hm.c16, hm.c17, hm.c18, hm.c19, hm.c20, hm.c21, hm.c22, hm.c23, hm.c24, hm.c25, hm.c26, hm.c27, hm.c28, hm.c29, hm.c30, hm.c31, hm.c32, hm.c33, hm.c34, hm.c35, hm.c36, hm.c37, hm.c38, hm.c39, hm.c40, hm.c41, hm.c42, hm.c43, hm.c44, hm.c45, hm.c46, hm.c47, hm.c48, hm.c49, hm.c50, hm.c51, hm.c52, hm.c53, hm.c54, hm.c55, hm.c56, hm.c57, hm.c58, hm.c59, hm.c60, hm.c61, hm.c62, hm.c63, hm.c64, hm.c65, hm.c66, hm.c67, hm.c68, hm.c69, hm.c70, hm.c71, hm.c72, hm.c73, hm.c74, hm.c75, hm.c76, hm.c77, aT, inR, m_isUser hm iv, m_isNote hm iv, m_isIn, m_may hm iv, m_text hm iv, m_no hm iv, m_isNot hm iv, brt, brf, b2iT, b2iF, b2i_0, brN, brT, brF, brS, Classical.not_not, not_true_eq_false, not_false_eq_true, b2i_t, b2i_f, one_ne0, zz01, oz01, and_false, false_and, or_self, gK_pI, gL_pI, gR_pI, gI_pI, hi, reduceCtorEq, Nat.reduceEqDiff, Int.reduceEq, if_true, if_false]
    exact k
end
