/-! THE PAGE, asked -/
section
variable {a : Na} {S : St} {h : Zh} {Q : Zp}
theorem s_below (x n : Int) (hn : 0 < n) (hQ : ∀ v, 0 ≤ v → v < n → Q (.inl (some (zi v))) h) : WP 116 0 [some (zi x), some (zi n)] [] h Q := by
  rw [b_116_0]
  refine ⟨rfl, fun y h1 h2 => ?_⟩
  rw [b_116_4]
  exact ⟨⟨h1, hn⟩, hQ _ (Int.emod_nonneg _ (by omega)) (Int.emod_lt_of_pos _ hn)⟩
theorem s_cell (x : Nat) (k : Int) (hx : gK h x = 15) (hk : 0 ≤ k ∧ k ≤ 1000) (hQ : ∀ v, Q (.inl (some (zi v))) h) : WP 117 0 [some (zr (some x)), some (zi k)] [] h Q := by
  rw [b_117_0]
  refine ⟨(kd_some _ _ _).mpr hx, ?_⟩
  by_cases c : gL h (ad (some x)) ≤ k
  · rw [brt c, b_117_12]
    refine ⟨⟨by omega, by omega⟩, fun y _ => ?_⟩
    rw [b_117_18]
    exact hQ y
  · rw [brf c, b_117_6]
    refine ⟨⟨(kd_some _ _ _).mpr hx, hk.1, by omega⟩, ?_⟩
    rw [b_117_18]
    exact hQ _
/-- a draw: any number below n -/
theorem p_draw (hp : RepP a S h) (n : Int) (hn : 0 < n) (hd : gI h (a 200 0) 2 ≤ 1000000) (hQ : ∀ v, 0 ≤ v → v < n → Q (.inl (some (zi v))) (pI h (a 200 0) 2 (gI h (a 200 0) 2 + 1))) : WP 90 0 [some (zr (some (a 200 0))), some (zi n), none] [] h Q := by
  have d0 : 0 ≤ gI h (a 200 0) 2 := hp.1.2.2.2.1
  have k7 : kd h (some (a 200 0)) 7 := (kd_some _ _ _).mpr hp.q0
  rw [b_90_0]
  refine ⟨k7, k7, ⟨d0, by omega⟩, ?_⟩
  rw [ad_some, hp.q2]
  refine s_cell _ _ hp.q7 ⟨Int.emod_nonneg _ (by omega), by have := Int.emod_lt_of_pos (gI h (a 200 0) 2) (show (0 : Int) < 24 by omega); omega⟩ (fun v => ?_)
  rw [kont_v]
  show WP 90 14 _ _ _ _
  rw [b_90_14]
  refine ⟨k7, ⟨d0, by omega⟩, ⟨Int.ediv_nonneg d0 (by omega), by omega⟩, fun x1 _ => ?_⟩
  rw [b_90_25]
  refine ⟨k7, fun x2 _ => ?_⟩
  rw [b_90_33]
  intro x3 _
  rw [b_90_34]
  refine s_below _ _ hn (fun w w1 w2 => ?_)
  rw [kont_v]
  show WP 90 38 _ _ _ _
  rw [b_90_38]
  refine ⟨k7, ⟨by rw [ad_some]; omega, by rw [ad_some]; omega⟩, k7, ?_⟩
  rw [b_90_49]
  exact hQ w w1 w2
theorem p_text (hp : RepP a S h) (iv : Inv S) : WP 92 0 [some (zr (some (a 200 0)))] [] h Q = Q (.inl (some (zr (some (a 203 (S 2 0 0)))))) h := by
  obtain ⟨u0, u1⟩ := iv.2.1.1
  simp (disch := first | assumption | omega) only [b_92_0, kont_v, kont_n, kont_x, Nat.reduceAdd, ad_some, kd_some, ixa, and_true, true_and, and_self, eq_self, ne_eq, brT, brF, true_or, or_true, and_imp, hp.q0, hp.q1, hp.q2, hp.q3, hp.q4, hp.q5, hp.q6, hp.q7, hp.q8, hp.q9, hp.q10, hp.q11, hp.q12, hp.q13, hp.q14, hp.q15, hp.q16, hp.q17, hp.q18, hp.q19, hp.q20, hp.q21, hp.q22, hp.q23, hp.q25, hp.q26, hp.q27, hp.q28, hp.q29, hp.q30, hp.q31, hp.q32, hp.q33, hp.q34, hp.q35, aT, inR, Int.add_sub_cancel]
theorem p_isHead (hp : RepP a S h) (iv : Inv S) (k : Int) (hk : nt S k) : WP 112 0 [some (zr (some (a 200 0))), some (zi k)] [] h Q = Q (.inl (some (zi (b2i (S 11 k 0 = k ∧ S 12 k 0 ≠ 2))))) h := by
  have k1 := hk.1
  have k2 := hk.2
  have l5 := hp.qM iv k hk
  simp (disch := first | assumption | omega) only [b_112_0, b_112_11, b_112_23, b_112_27, b_112_28, kont_v, kont_n, kont_x, Nat.reduceAdd, ad_some, kd_some, ixa, and_true, true_and, and_self, eq_self, ne_eq, brT, brF, true_or, or_true, and_imp, hp.q0, hp.q1, hp.q2, hp.q3, hp.q4, hp.q5, hp.q6, hp.q7, hp.q8, hp.q9, hp.q10, hp.q11, hp.q12, hp.q13, hp.q14, hp.q15, hp.q16, hp.q17, hp.q18, hp.q19, hp.q20, hp.q21, hp.q22, hp.q23, hp.q25, hp.q26, hp.q27, hp.q28, hp.q29, hp.q30, hp.q31, hp.q32, hp.q33, hp.q34, hp.q35, aT, inR, brb10, brb01, brbpq, brb1p, brb0p, brbp1, brbp0, brb11, brb00, b2i_0, b2i_1, b2i_01, brN, one_ne0, zz01, oz01, nem, Classical.not_not]
  refine Qi (b2i_c ?_)
  have e := (iv.2.2.1.2.1 k hk).2.2.2.1
  rcases iv_par iv hk with q | q
  · have q1 := q.1; have q2 := q.2
    omega
  · have q1 := q.1.1; have q2 := q.2.2.1
    omega
theorem p_seesR (hp : RepP a S h) (iv : Inv S) (u r k : Int) (hk : nt S k) (hr : 0 ≤ r) : WP 100 0 [some (zr (some (a 200 0))), some (zi u), some (zi r), some (zi k), none] [] h Q = Q (.inl (some (zi (b2i (SE S u r (S 11 k 0)))))) h := by
  have k1 := hk.1
  have k2 := hk.2
  have l5 := hp.qM iv k hk
  have hh := iv_hd iv hk
  have hn := hh.1
  have j1 := hn.1
  have j2 := hn.2
  have lh := hp.qL iv _ hh
  have l9 := (iv.2.2.1.2.2.2.1 _ hh).2.2.2.2.2.1.1
  simp (disch := first | assumption | omega) only [b_100_0, b_100_19, b_100_21, b_100_26, b_100_34, b_100_43, b_100_52, b_100_57, b_100_61, b_100_62, kont_v, kont_n, kont_x, Nat.reduceAdd, ad_some, kd_some, ixa, and_true, true_and, and_self, eq_self, ne_eq, brT, brF, true_or, or_true, and_imp, hp.q0, hp.q1, hp.q2, hp.q3, hp.q4, hp.q5, hp.q6, hp.q7, hp.q8, hp.q9, hp.q10, hp.q11, hp.q12, hp.q13, hp.q14, hp.q15, hp.q16, hp.q17, hp.q18, hp.q19, hp.q20, hp.q21, hp.q22, hp.q23, hp.q25, hp.q26, hp.q27, hp.q28, hp.q29, hp.q30, hp.q31, hp.q32, hp.q33, hp.q34, hp.q35, aT, inR, brb10, brb01, brbpq, brb1p, brb0p, brbp1, brbp0, brb11, brb00, b2i_0, b2i_1, b2i_01, brN, one_ne0, zz01, oz01, nem, Classical.not_not]
  refine Qi (b2i_c ?_)
  unfold SE
  omega
theorem p_sees (hp : RepP a S h) (iv : Inv S) (u k : Int) (hk : nt S k) (hu : 0 ≤ u ∧ u < S 0 0 0) : WP 101 0 [some (zr (some (a 200 0))), some (zi u), some (zi k)] [] h Q = Q (.inl (some (zi (b2i (SE S u (S 1 u 0) (S 11 k 0)))))) h := by
  have u2 := (iv.1.2 u).1
  simp (disch := first | assumption | omega) only [b_101_0, b_101_12, kont_v, kont_n, kont_x, Nat.reduceAdd, ad_some, kd_some, ixa, and_true, true_and, and_self, eq_self, ne_eq, brT, brF, true_or, or_true, and_imp, hp.q0, hp.q1, hp.q2, hp.q3, hp.q4, hp.q5, hp.q6, hp.q7, hp.q8, hp.q9, hp.q10, hp.q11, hp.q12, hp.q13, hp.q14, hp.q15, hp.q16, hp.q17, hp.q18, hp.q19, hp.q20, hp.q21, hp.q22, hp.q23, hp.q25, hp.q26, hp.q27, hp.q28, hp.q29, hp.q30, hp.q31, hp.q32, hp.q33, hp.q34, hp.q35, aT, inR, brb10, brb01, brbpq, brb1p, brb0p, brbp1, brbp0, brb11, brb00, b2i_0, b2i_1, b2i_01, brN, one_ne0, zz01, oz01, nem, Classical.not_not, p_seesR hp iv _ _ k hk]
theorem p_repL (hp : RepP a S h) (iv : Inv S) (k : Int) (m : Nat) : ∀ i acc : Int, ∀ o : Option Zv, m = (S 7 0 0 - i).toNat → 0 ≤ i → 0 ≤ acc → acc ≤ i → WP 106 14 [some (zr (some (a 200 0))), some (zi k), some (zi acc), some (zr (some (a 204 0))), some (zi (S 7 0 0)), some (zi i), o] [] h Q = Q (.inl (some (zi (acc + cn (fun j => S 10 j 0 = k ∧ S 12 j 0 ≠ 2) m i)))) h := by
  obtain ⟨n0, n1⟩ := iv.2.2.1.1
  induction m with
  | zero =>
    intro i acc o e1 e2 e3 e4
    rw [b_106_14, brt (by omega), b_106_57]
    exact Qi (by show acc = acc + 0; omega)
  | succ m ih =>
    intro i acc o e1 e2 e3 e4
    have hk : nt S i := ⟨e2, by omega⟩
    have l5 := hp.qM iv i hk
    have e := (iv.2.2.1.2.1 i hk).2.2.2.1
    rw [b_106_14, brf (by omega)]
    simp (disch := first | assumption | omega) only [b_106_21, b_106_36, b_106_44, b_106_48, b_106_49, b_106_57, kont_v, kont_n, kont_x, Nat.reduceAdd, ad_some, kd_some, ixa, and_true, true_and, and_self, eq_self, ne_eq, brT, brF, true_or, or_true, and_imp, hp.q0, hp.q1, hp.q2, hp.q3, hp.q4, hp.q5, hp.q6, hp.q7, hp.q8, hp.q9, hp.q10, hp.q11, hp.q12, hp.q13, hp.q14, hp.q15, hp.q16, hp.q17, hp.q18, hp.q19, hp.q20, hp.q21, hp.q22, hp.q23, hp.q25, hp.q26, hp.q27, hp.q28, hp.q29, hp.q30, hp.q31, hp.q32, hp.q33, hp.q34, hp.q35, aT, inR, brb10, brb01, brbpq, brb1p, brb0p, brbp1, brbp0, brb11, brb00, b2i_0, b2i_1, b2i_01, brN, one_ne0, zz01, oz01, nem, Classical.not_not, ih]
    show _ = Q (.inl (some (zi (acc + (b2i (S 10 i 0 = k ∧ S 12 i 0 ≠ 2) + cn _ m (i+1)))))) h
    by_cases c : S 10 i 0 = k
    · rw [brt c]
      by_cases d : 2 ≤ S 12 i 0
      · rw [brt d, b2i_f (fun z => z.2 (by omega))]
        exact Qi (by omega)
      · rw [brf d, b2i_t ⟨c, by omega⟩]
        exact Qi (by omega)
    · rw [brf c, b2i_f (fun z => c z.1)]
      exact Qi (by omega)
theorem p_replies (hp : RepP a S h) (iv : Inv S) (k : Int) : WP 106 0 [some (zr (some (a 200 0))), some (zi k), none, none, none, none, none] [] h Q = Q (.inl (some (zi (RP S k)))) h := by
  obtain ⟨n0, n1⟩ := iv.2.2.1.1
  simp (disch := first | assumption | omega) only [b_106_0, kont_v, kont_n, kont_x, Nat.reduceAdd, ad_some, kd_some, ixa, and_true, true_and, and_self, eq_self, ne_eq, brT, brF, true_or, or_true, and_imp, hp.q0, hp.q1, hp.q2, hp.q3, hp.q4, hp.q5, hp.q6, hp.q7, hp.q8, hp.q9, hp.q10, hp.q11, hp.q12, hp.q13, hp.q14, hp.q15, hp.q16, hp.q17, hp.q18, hp.q19, hp.q20, hp.q21, hp.q22, hp.q23, hp.q25, hp.q26, hp.q27, hp.q28, hp.q29, hp.q30, hp.q31, hp.q32, hp.q33, hp.q34, hp.q35, aT, inR, p_repL hp iv k (S 7 0 0).toNat 0 0 none (by omega) (by omega) (by omega) (by omega)]
  refine Qi ?_
  first
    | (rw [Int.zero_add]; rfl)
    | rfl
theorem p_stL (hp : RepP a S h) (iv : Inv S) (p k : Int) (hh : hd S k) (m : Nat) (kp : 0 ≤ p ∧ p + S 19 k 0 ≤ S 3 (S 2 0 0) 0) : ∀ i, m = (S 19 k 0 - i).toNat → 0 ≤ i → WP 111 24 [some (zr (some (a 200 0))), some (zr (some (a 206 k))), some (zi p), some (zi (11 + i))] [] h Q = Q (.inl (some (zi (b2i (∀ j, i ≤ j → j < S 19 k 0 → S 5 (S 4 (S 2 0 0) (p + j)) 0 = S 20 k j))))) h := by
  obtain ⟨u0, u1⟩ := iv.2.1.1
  obtain ⟨u2, u3⟩ := iv.2.1.2.1 (S 2 0 0) u0 (Int.le_refl _)
  obtain ⟨-, -, -, -, -, g1, -⟩ := iv.2.2.1.2.2.2.1 k hh
  have hk := hh.1
  have lh := hp.qL iv _ hh
  induction m with
  | zero =>
    intro i e1 e2
    rw [b_111_24]
    simp (disch := first | assumption | omega) only [kont_v, kont_n, kont_x, Nat.reduceAdd, ad_some, kd_some, ixa, and_true, true_and, and_self, eq_self, ne_eq, brT, brF, true_or, or_true, and_imp, hp.q0, hp.q1, hp.q2, hp.q3, hp.q4, hp.q5, hp.q6, hp.q7, hp.q8, hp.q9, hp.q10, hp.q11, hp.q12, hp.q13, hp.q14, hp.q15, hp.q16, hp.q17, hp.q18, hp.q19, hp.q20, hp.q21, hp.q22, hp.q23, hp.q25, hp.q26, hp.q27, hp.q28, hp.q29, hp.q30, hp.q31, hp.q32, hp.q33, hp.q34, hp.q35, brt, b_111_57, aT, inR]
    exact Qi (b2i_t (fun j h1 h2 => absurd h2 (by omega))).symm
  | succ m ih =>
    intro i e1 e2
    rw [b_111_24]
    obtain ⟨w1, w2⟩ := iv.2.1.2.2.2.1 _ (p + i) u0 (Int.le_refl _) (by omega) (by omega)
    have e9 : p + (11 + i) - 11 = p + i := by omega
    have e8 : (11 : Int) + i + 1 = 11 + (i + 1) := by omega
    simp (disch := first | assumption | omega) only [b_111_4, b_111_15, b_111_19, b_111_21, b_111_30, b_111_34, b_111_49, b_111_51, b_111_57, kont_v, kont_n, kont_x, Nat.reduceAdd, ad_some, kd_some, ixa, and_true, true_and, and_self, eq_self, ne_eq, brT, brF, true_or, or_true, and_imp, hp.q0, hp.q1, hp.q2, hp.q3, hp.q4, hp.q5, hp.q6, hp.q7, hp.q8, hp.q9, hp.q10, hp.q11, hp.q12, hp.q13, hp.q14, hp.q15, hp.q16, hp.q17, hp.q18, hp.q19, hp.q20, hp.q21, hp.q22, hp.q23, hp.q25, hp.q26, hp.q27, hp.q28, hp.q29, hp.q30, hp.q31, hp.q32, hp.q33, hp.q34, hp.q35, brf, aT, inR, p_text hp iv, e9, e8, ih, brb10, brb01, brbpq, brb1p, brb0p, brbp1, brbp0, brb11, brb00, b2i_0, b2i_1, b2i_01, brN, one_ne0, zz01, oz01, nem, Classical.not_not, oz01, zz01]
    refine Qi (b2i_c ⟨fun z j h1 h2 => ?_, fun z => ⟨z i (by omega) (by omega), fun j h1 h2 => z j (by omega) h2⟩⟩)
    by_cases ej : j = i
    · rw [ej]; exact z.1
    · exact z.2 j (by omega) h2
theorem p_stands (hp : RepP a S h) (iv : Inv S) (p k : Int) (hp5 : -500 ≤ p ∧ p ≤ 500) (hh : hd S k) : WP 111 0 [some (zr (some (a 200 0))), some (zr (some (a 206 k))), some (zi p), none] [] h Q = Q (.inl (some (zi (b2i (AT S p k))))) h := by
  obtain ⟨u0, u1⟩ := iv.2.1.1
  obtain ⟨u2, u3⟩ := iv.2.1.2.1 (S 2 0 0) u0 (Int.le_refl _)
  obtain ⟨-, -, -, -, -, g1, -⟩ := iv.2.2.1.2.2.2.1 k hh
  have hk := hh.1
  have lh := hp.qL iv _ hh
  by_cases c0 : p < 0
  · rw [b_111_0, brt c0, b_111_19]
    simp only [zz01, true_or, true_and]
    exact Qi (b2i_f (p := AT S p k) (fun z => by have := z.1.1; omega)).symm
  · rw [b_111_0, brf c0]
    by_cases c1 : p + S 19 k 0 ≤ S 3 (S 2 0 0) 0
    · have := p_stL (Q := Q) hp iv p k hh (S 19 k 0).toNat ⟨by omega, c1⟩ 0 (by omega) (by omega)
      simp (disch := first | assumption | omega) only [b_111_4, b_111_15, b_111_21, kont_v, kont_n, kont_x, Nat.reduceAdd, ad_some, kd_some, ixa, and_true, true_and, and_self, eq_self, ne_eq, brT, brF, true_or, or_true, and_imp, hp.q0, hp.q1, hp.q2, hp.q3, hp.q4, hp.q5, hp.q6, hp.q7, hp.q8, hp.q9, hp.q10, hp.q11, hp.q12, hp.q13, hp.q14, hp.q15, hp.q16, hp.q17, hp.q18, hp.q19, hp.q20, hp.q21, hp.q22, hp.q23, hp.q25, hp.q26, hp.q27, hp.q28, hp.q29, hp.q30, hp.q31, hp.q32, hp.q33, hp.q34, hp.q35, brt, aT, inR, p_text hp iv]
      rw [show (11 : Int) + 0 = 11 from rfl] at this
      rw [this]
      exact Qi (b2i_c ⟨fun z => ⟨⟨by omega, c1⟩, z⟩, fun z => z.2⟩)
    · simp (disch := first | assumption | omega) only [b_111_4, b_111_15, b_111_19, kont_v, kont_n, kont_x, Nat.reduceAdd, ad_some, kd_some, ixa, and_true, true_and, and_self, eq_self, ne_eq, brT, brF, true_or, or_true, and_imp, hp.q0, hp.q1, hp.q2, hp.q3, hp.q4, hp.q5, hp.q6, hp.q7, hp.q8, hp.q9, hp.q10, hp.q11, hp.q12, hp.q13, hp.q14, hp.q15, hp.q16, hp.q17, hp.q18, hp.q19, hp.q20, hp.q21, hp.q22, hp.q23, hp.q25, hp.q26, hp.q27, hp.q28, hp.q29, hp.q30, hp.q31, hp.q32, hp.q33, hp.q34, hp.q35, brf, aT, inR, p_text hp iv, zz01]
      exact Qi (b2i_f (fun z => c1 z.1.2)).symm
theorem p_fdL (hp : RepP a S h) (iv : Inv S) (k : Int) (hh : hd S k) (m : Nat) : ∀ d : Int, m = (201 - d).toNat → 0 ≤ d → WP 110 9 [some (zr (some (a 200 0))), some (zi k), some (zr (some (a 206 k))), some (zi d)] [] h Q = Q (.inl (some (zi (fdL S k m d)))) h := by
  obtain ⟨u0, u1⟩ := iv.2.1.1
  obtain ⟨u2, u3⟩ := iv.2.1.2.1 (S 2 0 0) u0 (Int.le_refl _)
  obtain ⟨f1, -, -, -, -, g1, -⟩ := iv.2.2.1.2.2.2.1 k hh
  have hk := hh.1
  have lh := hp.qL iv _ hh
  induction m with
  | zero =>
    intro d e1 e2
    rw [b_110_9, brt (by omega), b_110_60]
    rfl
  | succ m ih =>
    intro d e1 e2
    rw [b_110_9, brf (by omega)]
    simp (disch := first | assumption | omega) only [b_110_16, b_110_26, b_110_29, b_110_35, b_110_45, b_110_48, b_110_54, b_110_60, kont_v, kont_n, kont_x, Nat.reduceAdd, ad_some, kd_some, ixa, and_true, true_and, and_self, eq_self, ne_eq, brT, brF, true_or, or_true, and_imp, hp.q0, hp.q1, hp.q2, hp.q3, hp.q4, hp.q5, hp.q6, hp.q7, hp.q8, hp.q9, hp.q10, hp.q11, hp.q12, hp.q13, hp.q14, hp.q15, hp.q16, hp.q17, hp.q18, hp.q19, hp.q20, hp.q21, hp.q22, hp.q23, hp.q25, hp.q26, hp.q27, hp.q28, hp.q29, hp.q30, hp.q31, hp.q32, hp.q33, hp.q34, hp.q35, aT, inR, p_stands hp iv _ k _ hh, ih, brb10, brb01, brbpq, brb1p, brb0p, brbp1, brbp0, brb11, brb00, b2i_0, b2i_1, b2i_01, brN, one_ne0, zz01, oz01, nem, Classical.not_not]
    have eu : fdL S k (m + 1) d = @ite Int (AT S (S 13 k 0 - d) k) (Classical.propDecidable _) (S 13 k 0 - d) (@ite Int (AT S (S 13 k 0 + d) k) (Classical.propDecidable _) (S 13 k 0 + d) (fdL S k m (d + 1))) := rfl
    rw [eu]
    by_cases e : AT S (S 13 k 0 - d) k
    · rw [brt e, if_pos e]
    · rw [brf e, if_neg e]
      by_cases f : AT S (S 13 k 0 + d) k
      · rw [brt f, if_pos f]
      · rw [brf f, if_neg f]
theorem p_found (hp : RepP a S h) (iv : Inv S) (k : Int) (hh : hd S k) : WP 110 0 [some (zr (some (a 200 0))), some (zi k), none, none] [] h Q = Q (.inl (some (zi (FD S k)))) h := by
  have hk := hh.1
  have k1 := hk.1
  have k2 := hk.2
  simp (disch := first | assumption | omega) only [b_110_0, kont_v, kont_n, kont_x, Nat.reduceAdd, ad_some, kd_some, ixa, and_true, true_and, and_self, eq_self, ne_eq, brT, brF, true_or, or_true, and_imp, hp.q0, hp.q1, hp.q2, hp.q3, hp.q4, hp.q5, hp.q6, hp.q7, hp.q8, hp.q9, hp.q10, hp.q11, hp.q12, hp.q13, hp.q14, hp.q15, hp.q16, hp.q17, hp.q18, hp.q19, hp.q20, hp.q21, hp.q22, hp.q23, hp.q25, hp.q26, hp.q27, hp.q28, hp.q29, hp.q30, hp.q31, hp.q32, hp.q33, hp.q34, hp.q35, aT, inR, p_fdL hp iv k hh 201 0 rfl (Int.le_refl 0)]
  rfl
end
