/-! BETWEEN THE PAGE'S CALLS -/
def JQ (a : Na) (S : St) (h : Zh) : Prop := Ij a ∧ RepC a S h ∧ RepP a S h ∧ Inv S
def JP (a : Na) (S : St) (h : Zh) : Prop := JQ a S h ∧ XV S
/-- a call: the names of the two objects and the script are where they were; so many draws, cells and slots at most -/
def EL (a : Na) (h : Zh) (b : Na) (g : Zh) (d : Int) (c s : Nat) : Prop := b 0 0 = a 0 0 ∧ b 200 0 = a 200 0 ∧ b 208 0 = a 208 0 ∧ gI g (a 200 0) 2 ≤ gI h (a 200 0) 2 + d ∧ gC g ≤ gC h + c ∧ gS g ≤ gS h + s
section
variable {a b e : Na} {S T : St} {h g k : Zh} {Q : Zp} {d d2 : Int} {c s c2 s2 : Nat}
theorem EL.trans (x : EL a h b g d c s) (y : EL b g e k d2 c2 s2) : EL a h e k (d + d2) (c + c2) (s + s2) := by
  obtain ⟨x2, x3, x4, x5, x6, x7⟩ := x
  obtain ⟨y2, y3, y4, y5, y6, y7⟩ := y
  rw [x3] at y5
  exact ⟨y2.trans x2, y3.trans x3, y4.trans x4, by omega, by omega, by omega⟩
theorem EL.le {d2 : Int} {c2 s2 : Nat} (x : EL a h b g d c s) (h1 : d ≤ d2) (h2 : c ≤ c2) (h3 : s ≤ s2) : EL a h b g d2 c2 s2 := by
  obtain ⟨x2, x3, x4, x5, x6, x7⟩ := x
  exact ⟨x2, x3, x4, by omega, by omega, by omega⟩
theorem EL.rfl : EL a h a h 0 0 0 := ⟨by rfl, by rfl, by rfl, by omega, by omega, by omega⟩
theorem EP.el (x : EP a h b g d c s) : EL a h b g d c s := ⟨x.2.2.1, x.2.2.2.1, x.2.2.2.2.1, x.2.2.2.2.2.1, x.2.2.2.2.2.2.1, x.2.2.2.2.2.2.2.1⟩
theorem EC.el (x : EC a h b g) (hp : RepP a S h) : EL a h b g 0 10 100 := by
  obtain ⟨x0, x1, x2, x3, x4⟩ := x
  obtain ⟨e1, m1⟩ := x1 200 0 (by omega) (by rw [hp.q0]; omega)
  obtain ⟨e2, m2⟩ := x1 208 0 (by omega) (by rw [hp.q7]; omega)
  exact ⟨x4, e1, e2, by rw [m1.2.2.1]; omega, x2, x3⟩
theorem RepP.ec (hp : RepP a S h) (iv : Inv S) (x : EC a h b g) : RepP b S g := hp.fr (ItP_of iv) x.2.2.2.2 x.2.1 (fun f h1 _ => by omega)
theorem JQ.c0 (j : JQ a S h) : gK h (a 0 0) ≠ 0 := by rw [j.2.1.A.1]; omega
theorem JQ.tk (j : JQ a S h) : JQ a S (tk h) := ⟨j.1, j.2.1.fr Fr_tk (fun f h1 => h1), j.2.2.1.tk (ItP_of j.2.2.2), j.2.2.2⟩
theorem EL.tk : EL a h a (tk h) 0 1 6 := ⟨by rfl, by rfl, by rfl, by show gI h _ _ ≤ _; omega, by show gC h + 1 ≤ _; omega, by show gS h + 6 ≤ _; omega⟩
theorem kont_c (m pc t : Nat) (ls : Zl) (r : List Zv) (Q : Zp) (h : Zh) : kont WP m pc ls r [(2, t)] Q (.inr 2) h = (∀ q, WP m t ls [zr (some q)] h Q) := rfl
theorem w_draw (j : JQ a S h) (n : Int) (hn : 0 < n) (hd : gI h (a 200 0) 2 ≤ 1000000) (hQ : ∀ v g, 0 ≤ v → v < n → JQ a S g → EL a h a g 1 0 0 → Q (.inl (some (zi v))) g) : WP 90 0 [some (zr (some (a 200 0))), some (zi n), none] [] h Q := by
  obtain ⟨hi, hr, hp, iv⟩ := j
  have d0 : 0 ≤ gI h (a 200 0) 2 := hp.1.2.2.2.1
  refine p_draw hp n hn hd (fun v h1 h2 => hQ v _ h1 h2 ⟨hi, hr.fr (Fr_pI hi (P := fun f => f < 100) (by omega)) (fun f h1 => h1), hp.wDraw hi (ItP_of iv) (by omega), iv⟩ (EP.draw hi).el)
theorem ec_0 (hi : Ij a) : EC a h a h := ⟨hi, Fr_rfl, by omega, by omega, by rfl⟩
theorem ec_I (hi : Ij a) {f : Nat} {i k x : Int} (n : f < 100) : EC a h a (pI h (a f i) k x) := ⟨hi, Fr_pI hi (by omega), by show gC h ≤ _; omega, by show gS h ≤ _; omega, by rfl⟩
theorem ec_II (hi : Ij a) {f f2 : Nat} {i k x i2 k2 x2 : Int} (n : f < 100) (n2 : f2 < 100) : EC a h a (pI (pI h (a f i) k x) (a f2 i2) k2 x2) := ⟨hi, (Fr_pI hi (by omega)).trans (Fr_pI hi (by omega)), by show gC h ≤ _; omega, by show gS h ≤ _; omega, by rfl⟩
/-- a count of what isn't there -/
theorem cn_0 {p : Int → Prop} (m : Nat) : ∀ i, cn p m i = 0 → ∀ j, i ≤ j → j < i + m → ¬ p j := by
  induction m with
  | zero => intro i _ j h1 h2; omega
  | succ m ih =>
    intro i e j h1 h2 hp
    have e : b2i (p i) + cn p m (i + 1) = 0 := e
    have b0 := (cn_le p m (i + 1)).1
    by_cases c : p i
    · rw [b2i_t c] at e; omega
    · rw [b2i_f c] at e
      by_cases q : j = i
      · exact c (q ▸ hp)
      · exact ih (i + 1) (by omega) j (by omega) (by omega) hp
theorem p_anyA (hp : RepP a S h) (iv : Inv S) (hQ : ∀ (x4 : Int) (o5 : Option Zv), WP 103 47 [some (zr (some (a 200 0))), some (zi (cn (fun j => S 12 j 0 ≠ 2) (S 7 0 0).toNat 0)), some (zr (some (a 204 0))), some (zi (S 7 0 0)), some (zi x4), o5] [] h Q) (m : Nat) : ∀ (i acc : Int) (o5 : Option Zv), m = (S 7 0 0 - i).toNat → 0 ≤ i → 0 ≤ acc → acc ≤ i → acc + cn (fun j => S 12 j 0 ≠ 2) m i = cn (fun j => S 12 j 0 ≠ 2) (S 7 0 0).toNat 0 →
    WP 103 13 [some (zr (some (a 200 0))), some (zi acc), some (zr (some (a 204 0))), some (zi (S 7 0 0)), some (zi i), o5] [] h Q := by
  obtain ⟨n0, n1⟩ := iv.2.2.1.1
  induction m with
  | zero =>
    intro i acc o5 e1 e2 e3 e4 e5
    rw [b_103_13, brt (by omega)]
    have e6 : acc = cn (fun j => S 12 j 0 ≠ 2) (S 7 0 0).toNat 0 := by rw [← e5]; show acc = acc + 0; omega
    rw [e6]
    exact hQ i o5
  | succ m ih =>
    intro i acc o5 e1 e2 e3 e4 e5
    have hk : nt S i := ⟨e2, by omega⟩
    have l5 := hp.qM iv i hk
    have e := (iv.2.2.1.2.1 i hk).2.2.2.1
    have e7 : cn (fun j => S 12 j 0 ≠ 2) (m + 1) i = b2i (S 12 i 0 ≠ 2) + cn (fun j => S 12 j 0 ≠ 2) m (i + 1) := rfl
    rw [e7] at e5
    rw [b_103_13, brf (by omega)]
    by_cases d : S 12 i 0 = 2
    · rw [b2i_f (fun z => z d)] at e5
      simp (disch := first | assumption | omega) only [b_103_19, b_103_34, b_103_38, b_103_39, b_103_51, b_103_55, b_103_60, b_103_63, b_103_72, b_103_84, b_103_91, b_103_93, b_103_99, kont_v, kont_n, kont_x, Nat.reduceAdd, ad_some, kd_some, ixa, and_true, true_and, and_self, eq_self, ne_eq, brT, brF, true_or, or_true, and_imp, hp.q0, hp.q1, hp.q2, hp.q3, hp.q4, hp.q5, hp.q6, hp.q7, hp.q8, hp.q9, hp.q10, hp.q11, hp.q12, hp.q13, hp.q14, hp.q15, hp.q16, hp.q17, hp.q18, hp.q19, hp.q20, hp.q21, hp.q22, hp.q23, hp.q25, hp.q26, hp.q27, hp.q28, hp.q29, hp.q30, hp.q31, hp.q32, hp.q33, hp.q34, hp.q35, brt, aT, inR]
      exact ih (i + 1) (acc + 0) _ (by omega) (by omega) (by omega) (by omega) (by omega)
    · rw [b2i_t d] at e5
      simp (disch := first | assumption | omega) only [b_103_19, b_103_34, b_103_38, b_103_39, b_103_51, b_103_55, b_103_60, b_103_63, b_103_72, b_103_84, b_103_91, b_103_93, b_103_99, kont_v, kont_n, kont_x, Nat.reduceAdd, ad_some, kd_some, ixa, and_true, true_and, and_self, eq_self, ne_eq, brT, brF, true_or, or_true, and_imp, hp.q0, hp.q1, hp.q2, hp.q3, hp.q4, hp.q5, hp.q6, hp.q7, hp.q8, hp.q9, hp.q10, hp.q11, hp.q12, hp.q13, hp.q14, hp.q15, hp.q16, hp.q17, hp.q18, hp.q19, hp.q20, hp.q21, hp.q22, hp.q23, hp.q25, hp.q26, hp.q27, hp.q28, hp.q29, hp.q30, hp.q31, hp.q32, hp.q33, hp.q34, hp.q35, brf, aT, inR]
      exact ih (i + 1) (acc + 1) _ (by omega) (by omega) (by omega) (by omega) (by omega)
theorem p_anyB (hp : RepP a S h) (iv : Inv S) (o5 : Option Zv) (x1 : Int) (hQ : ∀ v, (v = -1 ∨ (nt S v ∧ S 12 v 0 ≠ 2)) → Q (.inl (some (zi v))) h) (m : Nat) : ∀ (i left x4 : Int), m = (S 7 0 0 - i).toNat → 0 ≤ i → 0 ≤ left + i → left ≤ 1000 →
    WP 103 63 [some (zr (some (a 200 0))), some (zi x1), some (zi left), some (zi i), some (zi x4), o5] [] h Q := by
  obtain ⟨n0, n1⟩ := iv.2.2.1.1
  induction m with
  | zero =>
    intro i left x4 e1 e2 e3 e4
    rw [b_103_63]
    simp (disch := first | assumption | omega) only [kont_v, kont_n, kont_x, Nat.reduceAdd, ad_some, kd_some, ixa, and_true, true_and, and_self, eq_self, ne_eq, brT, brF, true_or, or_true, and_imp, hp.q0, hp.q1, hp.q2, hp.q3, hp.q4, hp.q5, hp.q6, hp.q7, hp.q8, hp.q9, hp.q10, hp.q11, hp.q12, hp.q13, hp.q14, hp.q15, hp.q16, hp.q17, hp.q18, hp.q19, hp.q20, hp.q21, hp.q22, hp.q23, hp.q25, hp.q26, hp.q27, hp.q28, hp.q29, hp.q30, hp.q31, hp.q32, hp.q33, hp.q34, hp.q35, brt, aT, inR, b_103_99]
    exact hQ _ (.inl rfl)
  | succ m ih =>
    intro i left x4 e1 e2 e3 e4
    have hk : nt S i := ⟨e2, by omega⟩
    have l5 := hp.qM iv i hk
    have e := (iv.2.2.1.2.1 i hk).2.2.2.1
    by_cases d : S 12 i 0 = 2
    · rw [b_103_63]
      simp (disch := first | assumption | omega) only [b_103_72, b_103_93, kont_v, kont_n, kont_x, Nat.reduceAdd, ad_some, kd_some, ixa, and_true, true_and, and_self, eq_self, ne_eq, brT, brF, true_or, or_true, and_imp, hp.q0, hp.q1, hp.q2, hp.q3, hp.q4, hp.q5, hp.q6, hp.q7, hp.q8, hp.q9, hp.q10, hp.q11, hp.q12, hp.q13, hp.q14, hp.q15, hp.q16, hp.q17, hp.q18, hp.q19, hp.q20, hp.q21, hp.q22, hp.q23, hp.q25, hp.q26, hp.q27, hp.q28, hp.q29, hp.q30, hp.q31, hp.q32, hp.q33, hp.q34, hp.q35, brt, brf, aT, inR]
      exact ih (i + 1) left _ (by omega) (by omega) (by omega) (by omega)
    · by_cases l0 : left = 0
      · rw [b_103_63]
        simp (disch := first | assumption | omega) only [b_103_72, b_103_84, b_103_91, kont_v, kont_n, kont_x, Nat.reduceAdd, ad_some, kd_some, ixa, and_true, true_and, and_self, eq_self, ne_eq, brT, brF, true_or, or_true, and_imp, hp.q0, hp.q1, hp.q2, hp.q3, hp.q4, hp.q5, hp.q6, hp.q7, hp.q8, hp.q9, hp.q10, hp.q11, hp.q12, hp.q13, hp.q14, hp.q15, hp.q16, hp.q17, hp.q18, hp.q19, hp.q20, hp.q21, hp.q22, hp.q23, hp.q25, hp.q26, hp.q27, hp.q28, hp.q29, hp.q30, hp.q31, hp.q32, hp.q33, hp.q34, hp.q35, brt, brf, aT, inR]
        exact hQ i (.inr ⟨hk, d⟩)
      · rw [b_103_63]
        simp (disch := first | assumption | omega) only [b_103_72, b_103_84, b_103_93, kont_v, kont_n, kont_x, Nat.reduceAdd, ad_some, kd_some, ixa, and_true, true_and, and_self, eq_self, ne_eq, brT, brF, true_or, or_true, and_imp, hp.q0, hp.q1, hp.q2, hp.q3, hp.q4, hp.q5, hp.q6, hp.q7, hp.q8, hp.q9, hp.q10, hp.q11, hp.q12, hp.q13, hp.q14, hp.q15, hp.q16, hp.q17, hp.q18, hp.q19, hp.q20, hp.q21, hp.q22, hp.q23, hp.q25, hp.q26, hp.q27, hp.q28, hp.q29, hp.q30, hp.q31, hp.q32, hp.q33, hp.q34, hp.q35, brt, brf, aT, inR]
        exact ih (i + 1) (left + (-1)) _ (by omega) (by omega) (by omega) (by omega)
/-- some note that isn't gone -/
theorem p_any (j : JQ a S h) (hd : gI h (a 200 0) 2 ≤ 1000000) (hQ : ∀ v g, (v = -1 ∨ (nt S v ∧ S 12 v 0 ≠ 2)) → JQ a S g → EL a h a g 1 0 0 → Q (.inl (some (zi v))) g) : WP 103 0 [some (zr (some (a 200 0))), none, none, none, none, none] [] h Q := by
  have hp := j.2.2.1
  have iv := j.2.2.2
  obtain ⟨n0, n1⟩ := iv.2.2.1.1
  have cb := cn_le (fun j => S 12 j 0 ≠ 2) (S 7 0 0).toNat 0
  simp (disch := first | assumption | omega) only [b_103_0, kont_v, kont_n, kont_x, Nat.reduceAdd, ad_some, kd_some, ixa, and_true, true_and, and_self, eq_self, ne_eq, brT, brF, true_or, or_true, and_imp, hp.q0, hp.q1, hp.q2, hp.q3, hp.q4, hp.q5, hp.q6, hp.q7, hp.q8, hp.q9, hp.q10, hp.q11, hp.q12, hp.q13, hp.q14, hp.q15, hp.q16, hp.q17, hp.q18, hp.q19, hp.q20, hp.q21, hp.q22, hp.q23, hp.q25, hp.q26, hp.q27, hp.q28, hp.q29, hp.q30, hp.q31, hp.q32, hp.q33, hp.q34, hp.q35, aT, inR]
  refine p_anyA hp iv (fun x4 o5 => ?_) (S 7 0 0).toNat 0 0 none (by omega) (by omega) (by omega) (by omega) (by omega)
  rw [b_103_47]
  by_cases c : cn (fun j => S 12 j 0 ≠ 2) (S 7 0 0).toNat 0 = 0
  · rw [brt c, b_103_51, b_103_60]
    exact p_anyB hp iv o5 _ (fun v hv => hQ v h hv j (EL.rfl.le (by omega) (by omega) (by omega))) (S 7 0 0).toNat 0 0 _ (by omega) (by omega) (by omega) (by omega)
  · rw [brf c, b_103_55]
    refine ⟨(kd_some _ _ _).mpr hp.q0, ?_⟩
    refine w_draw j _ (by omega) hd (fun v g v0 v1 j1 l1 => ?_)
    rw [kont_v]
    show WP 103 60 _ _ _ _
    rw [b_103_60]
    exact p_anyB j1.2.2.1 iv o5 _ (fun v2 hv => hQ v2 g hv j1 l1) (S 7 0 0).toNat 0 v _ (by omega) (by omega) (by omega) (by omega)
/-- addUser -/
theorem p_addUser (j : JQ a S h) (x : Int) (hx : 0 ≤ x ∧ x ≤ 4) (rc : gC h + 100 ≤ MXC) (rs : gS h + 1000 ≤ MXS) (k6 : S 0 0 0 = 6 → Q (.inl (some (zi 1))) h) (kQ : S 0 0 0 < 6 → ∀ b g, JQ b (Suser S x) g → EL a h b g 0 11 200 → Q (.inl (some (zi 1))) g) :
    WP 94 0 [some (zr (some (a 200 0))), some (zi x), none] [] h Q := by
  have hp := j.2.2.1
  obtain ⟨hi, hr, -, iv⟩ := j
  obtain ⟨u0, u1⟩ := iv.1.1
  by_cases c6 : S 0 0 0 = 6
  · simp (disch := first | assumption | omega) only [b_94_0, b_94_10, kont_v, kont_n, kont_x, Nat.reduceAdd, ad_some, kd_some, ixa, and_true, true_and, and_self, eq_self, ne_eq, brT, brF, true_or, or_true, and_imp, hp.q0, hp.q1, hp.q2, hp.q3, hp.q4, hp.q5, hp.q6, hp.q7, hp.q8, hp.q9, hp.q10, hp.q11, hp.q12, hp.q13, hp.q14, hp.q15, hp.q16, hp.q17, hp.q18, hp.q19, hp.q20, hp.q21, hp.q22, hp.q23, hp.q25, hp.q26, hp.q27, hp.q28, hp.q29, hp.q30, hp.q31, hp.q32, hp.q33, hp.q34, hp.q35, brt, aT, inR, oz01]
    exact k6 c6
  · have hr0 := hr.A.1
    simp (disch := first | assumption | omega) only [b_94_0, b_94_12, kont_v, kont_n, kont_x, Nat.reduceAdd, ad_some, kd_some, ixa, and_true, true_and, and_self, eq_self, ne_eq, brT, brF, true_or, or_true, and_imp, hp.q0, hp.q1, hp.q2, hp.q3, hp.q4, hp.q5, hp.q6, hp.q7, hp.q8, hp.q9, hp.q10, hp.q11, hp.q12, hp.q13, hp.q14, hp.q15, hp.q16, hp.q17, hp.q18, hp.q19, hp.q20, hp.q21, hp.q22, hp.q23, hp.q25, hp.q26, hp.q27, hp.q28, hp.q29, hp.q30, hp.q31, hp.q32, hp.q33, hp.q34, hp.q35, brf, aT, inR]
    intro q hq
    have nq : ∀ y, gK h y ≠ 0 → y ≠ q := fun y n z => n (by rw [z]; exact hq)
    have p0 := nq (a 200 0) (by rw [hp.q0]; omega)
    have p1 := nq (a 201 0) (by rw [hp.q8]; omega)
    have s1 : ∀ b, b ≠ q → sm h (nw h q 10 (S 0 0 0 + 1)) b := fun b nb => sm_nw nb
    have k1 : gK (nw h q 10 (S 0 0 0 + 1)) q = 10 := by rw [gK_nw, if_pos rfl]
    have l1 : gL (nw h q 10 (S 0 0 0 + 1)) q = S 0 0 0 + 1 := by rw [gL_nw, if_pos rfl]
    have c1 : gC (nw h q 10 (S 0 0 0 + 1)) = gC h + 1 := rfl
    have t1 : gS (nw h q 10 (S 0 0 0 + 1)) = gS h + (S 0 0 0 + 1).toNat := rfl
    revert s1 k1 l1 c1 t1
    generalize nw h q 10 (S 0 0 0 + 1) = g1
    intro s1 k1 l1 c1 t1
    obtain ⟨r1, r2, r3, r4, -⟩ := s1 _ p0
    obtain ⟨u1', u2', u3', -, -⟩ := s1 _ p1
    have f3 : gR g1 (a 200 0) 3 = some (a 201 0) := (r4 3).trans hp.q3
    have f1 : gK g1 (a 200 0) = 7 := r1.trans hp.q0
    have f2 : gK g1 (a 201 0) = 10 := u1'.trans hp.q8
    have f4 : gL g1 (a 201 0) = S 0 0 0 := u2'.trans hp.q9
    simp (disch := first | assumption | omega) only [b_94_21, b_94_37, b_94_45, kont_v, kont_n, kont_x, Nat.reduceAdd, ad_some, kd_some, ixa, and_true, true_and, and_self, eq_self, ne_eq, brT, brF, true_or, or_true, and_imp, f3, f1, f2, f4, k1, l1, aT, inR, gK_cpy, gL_cpy, gR_cpy, gK_pI, gL_pI, gR_pI]
    -- the new memory
    have m1 : ∀ y, y ≠ q → y ≠ a 200 0 → sm h (pR (pI (cpy g1 (a 201 0) 0 q 0 (S 0 0 0)) q (S 0 0 0) x) (a 200 0) 3 (some q)) y := fun y n1 n2 => (s1 y n1).trans ((sm_cpy n1).trans ((sm_pI n1).trans (sm_pR n2)))
    have mK : gK (pR (pI (cpy g1 (a 201 0) 0 q 0 (S 0 0 0)) q (S 0 0 0) x) (a 200 0) 3 (some q)) q = 10 := k1
    have mL : gL (pR (pI (cpy g1 (a 201 0) 0 q 0 (S 0 0 0)) q (S 0 0 0) x) (a 200 0) 3 (some q)) q = S 0 0 0 + 1 := l1
    have mI : ∀ w, 0 ≤ w → w < S 0 0 0 + 1 → gI (pR (pI (cpy g1 (a 201 0) 0 q 0 (S 0 0 0)) q (S 0 0 0) x) (a 200 0) 3 (some q)) q w = if w = S 0 0 0 then x else S 1 w 0 := fun w h1 h2 => by
      rw [gI_pR, gI_pI]
      by_cases c : w = S 0 0 0
      · rw [if_pos ⟨rfl, c⟩, if_pos c]
      · rw [if_neg (fun z => c z.2), if_neg c, gI_cpy, if_pos ⟨rfl, h1, by omega⟩, u3', show (0 : Int) + (w - 0) = w by omega]
        exact hp.q10 w h1 (by omega)
    have mPK : gK (pR (pI (cpy g1 (a 201 0) 0 q 0 (S 0 0 0)) q (S 0 0 0) x) (a 200 0) 3 (some q)) (a 200 0) = 7 := f1
    have mPI : ∀ w, gI (pR (pI (cpy g1 (a 201 0) 0 q 0 (S 0 0 0)) q (S 0 0 0) x) (a 200 0) 3 (some q)) (a 200 0) w = gI h (a 200 0) w := fun w => by
      rw [gI_pR, gI_pI, if_neg (fun z => p0 z.1), gI_cpy, if_neg (fun z => p0 z.1)]
      exact r3 w
    have mPR : ∀ w, gR (pR (pI (cpy g1 (a 201 0) 0 q 0 (S 0 0 0)) q (S 0 0 0) x) (a 200 0) 3 (some q)) (a 200 0) w = if w = 3 then some q else gR h (a 200 0) w := fun w => by
      rw [gR_pR]
      by_cases c : w = 3
      · rw [if_pos ⟨rfl, c⟩, if_pos c]
      · rw [if_neg (fun z => c z.2), if_neg c]
        exact r4 w
    have mC : gC (pR (pI (cpy g1 (a 201 0) 0 q 0 (S 0 0 0)) q (S 0 0 0) x) (a 200 0) 3 (some q)) = gC h + 1 := c1
    have mS : gS (pR (pI (cpy g1 (a 201 0) 0 q 0 (S 0 0 0)) q (S 0 0 0) x) (a 200 0) 3 (some q)) = gS h + (S 0 0 0 + 1).toNat := t1
    revert m1 mK mL mI mPK mPI mPR mC mS
    generalize pR (pI (cpy g1 (a 201 0) 0 q 0 (S 0 0 0)) q (S 0 0 0) x) (a 200 0) 3 (some q) = g
    intro m1 mK mL mI mPK mPI mPR mC mS
    have keep : ∀ f i, gK h (a f i) ≠ 0 → ¬ (f = 201 ∧ i = 0) → ¬ (f = 200 ∧ i = 0) → nm a 201 0 q f i = a f i ∧ sm h g (a f i) := fun f i n1 n2 n3 => ⟨nm_live hq n1 n2, m1 _ (nq _ n1) (fun z => by rw [hi] at z; exact n3 z)⟩
    have b0 : nm a 201 0 q 200 0 = a 200 0 := nm_live hq (by rw [hp.q0]; omega) (by omega)
    have bq : nm a 201 0 q 201 0 = q := nm_self _ _ _ _
    have ib := Ij_nm hi 201 0 q
    revert keep b0 bq ib
    generalize nm a 201 0 q = b
    intro keep b0 bq ib
    have k8 := keep 208 0 (by rw [hp.q7]; omega) (by omega) (by omega)
    have k2 := keep 202 0 (by rw [hp.q11]; omega) (by omega) (by omega)
    have k4 := keep 204 0 (by rw [hp.q20]; omega) (by omega) (by omega)
    have k00 := keep 0 0 (by rw [hr0]; omega) (by omega) (by omega)
    have k3 : ∀ v, 0 ≤ v → v ≤ S 2 0 0 → b 203 v = a 203 v ∧ sm h g (a 203 v) := fun v h1 h2 => keep 203 v (by rw [hp.q14 v h1 h2]; omega) (by omega) (by omega)
    have k5 : ∀ n, 0 ≤ n → n < S 6 0 0 → b 205 n = a 205 n ∧ sm h g (a 205 n) := fun n h1 h2 => keep 205 n (by rw [hp.q17 n h1 h2]; omega) (by omega) (by omega)
    have k66 : ∀ k, nt S k → b 206 k = a 206 k ∧ sm h g (a 206 k) := fun k hk => keep 206 k (by rw [hp.q23 k hk]; omega) (by omega) (by omega)
    have hr2 : RepC b S g := hr.fr (P := fun f => f < 100) (fun f i pf n => keep f i n (by omega) (by omega)) (fun f h1 => h1)
    -- the page tells of the new user
    have e0 : Suser S x 0 0 0 = S 0 0 0 + 1 := by
      show su (su S 1 (S 0 0 0) 0 x) 0 0 0 (S 0 0 0 + 1) 0 0 0 = _
      rw [su_i, if_pos ⟨rfl, rfl⟩]
    have e1 : ∀ w, Suser S x 1 w 0 = if w = S 0 0 0 then x else S 1 w 0 := fun w => by
      show su (su S 1 (S 0 0 0) 0 x) 0 0 0 (S 0 0 0 + 1) 1 w 0 = _
      rw [su_k (by omega), su_i]
      by_cases c : w = S 0 0 0
      · rw [if_pos ⟨c, rfl⟩, if_pos c]
      · rw [if_neg (fun z => c z.1), if_neg c]
    have hpT : RepP b (Suser S x) g := by
      refine ⟨?_, ?_, hp.2.2.1.c iv.2.1.1.1 k2.1 k2.2 k3 (fun n h1 h2 => (k5 n h1 h2).1) (ItP_of iv).2 rfl rfl (fun _ => rfl), fun n h1 h2 => (hp.2.2.2.1 n h1 h2).c (k5 n h1 h2).1 (k5 n h1 h2).2 rfl, hp.2.2.2.2.1.c k4.1 k4.2 rfl, fun k hk => (hp.2.2.2.2.2.1 k hk).c k4.1 (k4.2.2.2.2.1 k) (k66 k hk).1 (k66 k hk).2 rfl rfl rfl rfl rfl, fun k hk => (hp.2.2.2.2.2.2 k hk).c (k66 k hk.1).1 (k66 k hk.1).2 rfl rfl rfl rfl rfl rfl rfl (fun _ => rfl)⟩
      · exact ⟨by rw [b0]; exact mPK, by rw [b0, mPR, if_neg (by omega), k00.1]; exact hp.q1, by rw [b0, mPR, if_neg (by omega), k8.1]; exact hp.q2, by rw [b0, mPI]; exact hp.1.2.2.2.1, by rw [b0, mPR, if_pos rfl, bq], by rw [b0, mPI]; exact hp.q4, by rw [b0, mPR, if_neg (by omega), k2.1]; exact hp.q5, by rw [b0, mPR, if_neg (by omega), k4.1]; exact hp.q6, by rw [k8.1, k8.2.1]; exact hp.q7⟩
      · refine ⟨by rw [bq]; exact mK, by rw [bq, e0]; exact mL, fun w h1 h2 => ?_⟩
        rw [e0] at h2
        rw [bq, mI w h1 h2, e1]
    have ev : S 0 0 0 < 6 := by omega
    have ivT := inv_user iv hx ev
    rw [← b0]
    have hp5 := hpT.q1
    have hp0 := hpT.q0
    rw [b_94_50]
    refine ⟨(kd_some _ _ _).mpr hp0, ?_⟩
    rw [ad_some, hp5]
    refine ⟨(kd_some _ _ _).mpr hr2.A.1, ?_⟩
    rw [c_user ib hr2 iv x, brt hx, brt ev, kont_v]
    have hr3 : RepC b (Suser S x) (pI (pI g (b 1 0) (S 0 0 0) x) (b 0 0) 5 (S 0 0 0 + 1)) := (hr2.wRight ib (S 0 0 0) x).wUsers ib (S 0 0 0 + 1)
    have ecw : EC b g b (pI (pI g (b 1 0) (S 0 0 0) x) (b 0 0) 5 (S 0 0 0 + 1)) := ec_II ib (by omega) (by omega)
    have hpw := hpT.ec ivT ecw
    have elw := ecw.el hpT
    revert hr3 hpw elw
    generalize pI (pI g (b 1 0) (S 0 0 0) x) (b 0 0) 5 (S 0 0 0 + 1) = g9
    intro hr3 hpw elw
    show WP 94 58 _ _ _ _
    have w0 := hpw.q0
    have w3 := hpw.q3
    have w8 := hpw.q8
    have w9 := hpw.q9
    rw [e0] at w9
    simp (disch := first | assumption | omega) only [b_94_58, b_94_68, b_94_73, kont_v, kont_n, kont_x, Nat.reduceAdd, ad_some, kd_some, ixa, and_true, true_and, and_self, eq_self, ne_eq, brT, brF, true_or, or_true, and_imp, w0, w3, w8, w9, brt, aT, inR, oz01]
    have e12 : EL a h b g 0 1 100 := ⟨k00.1, b0, k8.1, by rw [mPI]; omega, by omega, by omega⟩
    refine kQ ev b g9 ⟨ib, hr3, hpw, ivT⟩ ?_
    obtain ⟨y2, y3, y4, y5, y6, y7⟩ := elw
    rw [b0] at y5
    have z5 := mPI 2
    obtain ⟨x2, x3, x4, x5, x6, x7⟩ := e12
    exact ⟨x2, x3, x4, by omega, by omega, by omega⟩
end
