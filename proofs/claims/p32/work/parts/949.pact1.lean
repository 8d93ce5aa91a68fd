/-! THE PAGE: setRight, settle, propose -/
abbrev PKt (a : Na) (h : Zh) (Q : Zp) : Prop := ∀ b T g, JP b T g → EL a h b g 16 200 20000 → Q (.inl (some (zi 1))) g
section
variable {a : Na} {S : St} {h : Zh} {Q : Zp}
theorem p_setRight (j : JP a S h) (hd : gI h (a 200 0) 2 ≤ 900000) (k : PKt a h Q) : WP 95 0 [some (zr (some (a 200 0))), none, none] [] h Q := by
  obtain ⟨jq, xv⟩ := j
  have hp := jq.2.2.1
  have iv := jq.2.2.2
  have hi := jq.1
  obtain ⟨u0, u1⟩ := iv.1.1
  have x2 := xv.1.2
  simp (disch := first | assumption | omega) only [b_95_0, kont_v, kont_n, kont_x, Nat.reduceAdd, ad_some, kd_some, ixa, and_true, true_and, and_self, eq_self, ne_eq, brT, brF, true_or, or_true, and_imp, hp.q0, hp.q1, hp.q2, hp.q3, hp.q4, hp.q5, hp.q6, hp.q7, hp.q8, hp.q9, hp.q10, hp.q11, hp.q12, hp.q13, hp.q14, hp.q15, hp.q16, hp.q17, hp.q18, hp.q19, hp.q20, hp.q21, hp.q22, hp.q23, hp.q25, hp.q26, hp.q27, hp.q28, hp.q29, hp.q30, hp.q31, hp.q32, hp.q33, hp.q34, hp.q35, aT, inR]
  refine w_draw jq _ (by omega) (by omega) (fun v g1 v0 v1 j1 l1 => ?_)
  have hp1 := j1.2.2.1
  have hd1 := l1.2.2.2.1
  rw [kont_v]
  show WP 95 12 _ _ _ _
  have e3 := hp1.q3
  have e0 := hp1.q0
  have e8 := hp1.q8
  have e9 := hp1.q9
  simp (disch := first | assumption | omega) only [b_95_12, kont_v, kont_n, kont_x, Nat.reduceAdd, ad_some, kd_some, ixa, and_true, true_and, and_self, eq_self, ne_eq, brT, brF, true_or, or_true, and_imp, e0, e3, e8, e9, aT, inR]
  refine w_draw j1 5 (by omega) (by omega) (fun x g2 w0 w1 j2 l2 => ?_)
  have hp2 := j2.2.2.1
  have f0 := hp2.q0
  have f1 := hp2.q1
  have f3 := hp2.q3
  have f8 := hp2.q8
  have f9 := hp2.q9
  have f10 := hp1.q10 (1 + v) (by omega) (by omega)
  rw [kont_v]
  show WP 95 31 _ _ _ _
  have c6 := j2.2.1.A.1
  have hw := hp2.w1 hi (ItP_of iv) (1 + v) x
  have hrw : RepC a S (pI g2 (a 201 0) (1 + v) x) := j2.2.1.fr (Fr_pI hi (P := fun f => f < 100) (by omega)) (fun f h1 => h1)
  have gx : gI (pI g2 (a 201 0) (1 + v) x) (a 201 0) (1 + v) = x := by rw [gI_pI, if_pos ⟨rfl, rfl⟩]
  simp (disch := first | assumption | omega) only [b_95_31, b_95_32, kont_v, kont_n, kont_x, Nat.reduceAdd, ad_some, kd_some, ixa, and_true, true_and, and_self, eq_self, ne_eq, brT, brF, true_or, or_true, and_imp, f0, f1, f3, f8, f9, f10, aT, inR, gK_pI, gL_pI, gR_pI, c6, gx]
  have m3 : EL a g2 a (pI g2 (a 201 0) (1 + v) x) 0 0 0 := ⟨rfl, rfl, rfl, by rw [gI_pI, if_neg (fun z => by rw [hi] at z; omega)]; omega, by show gC g2 ≤ _; omega, by show gS g2 ≤ _; omega⟩
  revert hw hrw gx m3
  generalize pI g2 (a 201 0) (1 + v) x = g3
  intro hw hrw gx m3
  have ivT := inv_right iv (u := 1 + v) (x := x) ⟨by omega, by omega⟩
  rw [c_setRight hi hrw iv 0 (1 + v) x, brt (by omega), brt (by omega), brt (by omega), brt xv.1.1, kont_v]
  show WP 95 47 _ _ _ _
  rw [b_95_47, brt rfl, b_95_51, b_95_56]
  refine ⟨by omega, ?_⟩
  have ecw : EC a g3 a (pI g3 (a 1 0) (1 + v) x) := ec_I hi (by omega)
  exact k a (su S 1 (1 + v) 0 x) _ ⟨⟨hi, hrw.wRight hi (1 + v) x, hw.ec ivT ecw, ivT⟩, xv_right xv (by omega)⟩ ((((l1.trans l2).trans m3).trans (ecw.el hw)).le (by omega) (by omega) (by omega))
/-- whether the page lets it -/
theorem p_setMay (hp : RepP a S h) (iv : Inv S) (u k x4 : Int) (hk : nt S k) (hu : 0 ≤ u ∧ u < S 0 0 0) : WP 105 48 [some (zr (some (a 200 0))), some (zi k), some (zi u), some (zr (some (a 206 (S 11 k 0)))), none, none, none] [zi x4] h Q = WP 105 81 [some (zr (some (a 200 0))), some (zi k), some (zi u), some (zr (some (a 206 (S 11 k 0)))), some (zi x4), none, none] [zi (b2i (SE S u (S 1 u 0) (S 11 k 0) ∧ (S 8 (S 11 k 0) 0 = u ∨ 3 ≤ S 1 u 0)))] h Q := by
  have hh := iv_hd iv hk
  have hn := hh.1
  have lh := hp.qL iv _ hh
  have l9 := (iv.2.2.1.2.2.2.1 _ hh).2.2.2.2.2.1.1
  by_cases c1 : SE S u (S 1 u 0) (S 11 k 0)
  · by_cases c2 : S 8 (S 11 k 0) 0 = u
    · rw [b2i_t ⟨c1, .inl c2⟩]
      simp (disch := first | assumption | omega) only [b_105_48, b_105_56, b_105_59, b_105_76, kont_v, kont_n, kont_x, Nat.reduceAdd, ad_some, kd_some, ixa, and_true, true_and, and_self, eq_self, ne_eq, brT, brF, true_or, or_true, and_imp, hp.q0, hp.q1, hp.q2, hp.q3, hp.q4, hp.q5, hp.q6, hp.q7, hp.q8, hp.q9, hp.q10, hp.q11, hp.q12, hp.q13, hp.q14, hp.q15, hp.q16, hp.q17, hp.q18, hp.q19, hp.q20, hp.q21, hp.q22, hp.q23, hp.q25, hp.q26, hp.q27, hp.q28, hp.q29, hp.q30, hp.q31, hp.q32, hp.q33, hp.q34, hp.q35, p_sees hp iv u k hk hu, b2i_t c1, one_ne0, brt, brf, aT, inR]
    · by_cases c3 : 3 ≤ S 1 u 0
      · rw [b2i_t ⟨c1, .inr c3⟩]
        simp (disch := first | assumption | omega) only [b_105_48, b_105_56, b_105_59, b_105_66, b_105_76, kont_v, kont_n, kont_x, Nat.reduceAdd, ad_some, kd_some, ixa, and_true, true_and, and_self, eq_self, ne_eq, brT, brF, true_or, or_true, and_imp, hp.q0, hp.q1, hp.q2, hp.q3, hp.q4, hp.q5, hp.q6, hp.q7, hp.q8, hp.q9, hp.q10, hp.q11, hp.q12, hp.q13, hp.q14, hp.q15, hp.q16, hp.q17, hp.q18, hp.q19, hp.q20, hp.q21, hp.q22, hp.q23, hp.q25, hp.q26, hp.q27, hp.q28, hp.q29, hp.q30, hp.q31, hp.q32, hp.q33, hp.q34, hp.q35, p_sees hp iv u k hk hu, b2i_t c1, one_ne0, brt, brf, aT, inR]
      · rw [b2i_f (fun z => z.2.elim c2 c3)]
        simp (disch := first | assumption | omega) only [b_105_48, b_105_56, b_105_59, b_105_66, b_105_80, kont_v, kont_n, kont_x, Nat.reduceAdd, ad_some, kd_some, ixa, and_true, true_and, and_self, eq_self, ne_eq, brT, brF, true_or, or_true, and_imp, hp.q0, hp.q1, hp.q2, hp.q3, hp.q4, hp.q5, hp.q6, hp.q7, hp.q8, hp.q9, hp.q10, hp.q11, hp.q12, hp.q13, hp.q14, hp.q15, hp.q16, hp.q17, hp.q18, hp.q19, hp.q20, hp.q21, hp.q22, hp.q23, hp.q25, hp.q26, hp.q27, hp.q28, hp.q29, hp.q30, hp.q31, hp.q32, hp.q33, hp.q34, hp.q35, p_sees hp iv u k hk hu, b2i_t c1, one_ne0, brt, brf, aT, inR]
  · rw [b2i_f (fun z => c1 z.1)]
    simp (disch := first | assumption | omega) only [b_105_48, b_105_56, b_105_80, kont_v, kont_n, kont_x, Nat.reduceAdd, ad_some, kd_some, ixa, and_true, true_and, and_self, eq_self, ne_eq, brT, brF, true_or, or_true, and_imp, hp.q0, hp.q1, hp.q2, hp.q3, hp.q4, hp.q5, hp.q6, hp.q7, hp.q8, hp.q9, hp.q10, hp.q11, hp.q12, hp.q13, hp.q14, hp.q15, hp.q16, hp.q17, hp.q18, hp.q19, hp.q20, hp.q21, hp.q22, hp.q23, hp.q25, hp.q26, hp.q27, hp.q28, hp.q29, hp.q30, hp.q31, hp.q32, hp.q33, hp.q34, hp.q35, p_sees hp iv u k hk hu, b2i_f c1, brt, aT, inR]
theorem p_settle (j : JP a S h) (hd : gI h (a 200 0) 2 ≤ 900000) (rc : gC h + 1 ≤ MXC) (rs : gS h + 6 ≤ MXS) (k : PKt a h Q) : WP 105 0 [some (zr (some (a 200 0))), none, none, none, none, none, none] [] h Q := by
  obtain ⟨jq, xv⟩ := j
  have iv := jq.2.2.2
  have hi := jq.1
  obtain ⟨u0, u1⟩ := iv.1.1
  have x2 := xv.1.2
  rw [b_105_0]
  refine ⟨(kd_some _ _ _).mpr jq.2.2.1.q0, ?_⟩
  refine p_any jq (by omega) (fun on g1 hon j1 l1 => ?_)
  have d1 := l1.2.2.2.1
  rw [kont_v]
  show WP 105 4 _ _ _ _
  rw [b_105_4]
  rcases hon with rfl | ⟨hk, hg⟩
  · rw [brf (by omega), b_105_9]
    exact ⟨by omega, k a S g1 ⟨j1, xv⟩ (l1.le (by omega) (by omega) (by omega))⟩
  have hk1 := hk.1
  have hk2 := hk.2
  have hh := iv_hd iv hk
  have hn := hh.1
  have hn1 := hn.1
  have hn2 := hn.2
  rw [brt hk.1]
  have hp := j1.2.2.1
  simp (disch := first | assumption | omega) only [b_105_11, kont_v, kont_n, kont_x, Nat.reduceAdd, ad_some, kd_some, ixa, and_true, true_and, and_self, eq_self, ne_eq, brT, brF, true_or, or_true, and_imp, hp.q0, hp.q1, hp.q2, hp.q3, hp.q4, hp.q5, hp.q6, hp.q7, hp.q8, hp.q9, hp.q10, hp.q11, hp.q12, hp.q13, hp.q14, hp.q15, hp.q16, hp.q17, hp.q18, hp.q19, hp.q20, hp.q21, hp.q22, hp.q23, hp.q25, hp.q26, hp.q27, hp.q28, hp.q29, hp.q30, hp.q31, hp.q32, hp.q33, hp.q34, hp.q35, aT, inR]
  refine w_draw j1 _ (by omega) (by omega) (fun u g2 v0 v1 j2 l2 => ?_)
  have d2 := l2.2.2.2.1
  rw [kont_v]
  show WP 105 20 _ _ _ _
  have hp := j2.2.2.1
  have l5 := hp.qM iv on hk
  simp (disch := first | assumption | omega) only [b_105_20, kont_v, kont_n, kont_x, Nat.reduceAdd, ad_some, kd_some, ixa, and_true, true_and, and_self, eq_self, ne_eq, brT, brF, true_or, or_true, and_imp, hp.q0, hp.q1, hp.q2, hp.q3, hp.q4, hp.q5, hp.q6, hp.q7, hp.q8, hp.q9, hp.q10, hp.q11, hp.q12, hp.q13, hp.q14, hp.q15, hp.q16, hp.q17, hp.q18, hp.q19, hp.q20, hp.q21, hp.q22, hp.q23, hp.q25, hp.q26, hp.q27, hp.q28, hp.q29, hp.q30, hp.q31, hp.q32, hp.q33, hp.q34, hp.q35, aT, inR]
  refine w_draw j2 3 (by omega) (by omega) (fun y g3 y0 y1 j3 l3 => ?_)
  rw [kont_v]
  show WP 105 40 _ _ _ _
  have hp := j3.2.2.1
  have hr := j3.2.1
  have cc : ∃ x4 : Int, (x4 = 0 ∨ x4 = 1) ∧ WP 105 40 [some (zr (some (a 200 0))), some (zi on), some (zi u), some (zr (some (a 206 (S 11 on 0)))), none, none, none] [zi y] g3 Q = WP 105 48 [some (zr (some (a 200 0))), some (zi on), some (zi u), some (zr (some (a 206 (S 11 on 0)))), none, none, none] [zi x4] g3 Q := by
    by_cases c : y ≤ 0
    · exact ⟨0, .inl rfl, by rw [b_105_40, brt c, b_105_47]⟩
    · exact ⟨1, .inr rfl, by rw [b_105_40, brf c, b_105_43]⟩
  obtain ⟨x4, h4, e4⟩ := cc
  rw [e4, p_setMay hp iv u on x4 hk ⟨v0, v1⟩, b_105_81]
  refine ⟨(kd_some _ _ _).mpr hp.q0, ?_⟩
  rw [ad_some, hp.q1]
  refine ⟨(kd_some _ _ _).mpr hr.A.1, ?_⟩
  have elx := (l1.trans l2).trans l3
  have ec := elx.2.2.2.2.1
  have es := elx.2.2.2.2.2
  rw [c_settle hi hr iv u on x4 h4, brt ⟨v0, v1⟩, brt ⟨hk, hg⟩]
  by_cases M : SE S u (S 1 u 0) (S 11 on 0) ∧ (S 8 (S 11 on 0) 0 = u ∨ 3 ≤ S 1 u 0)
  · rw [brt ⟨M.2, M.1⟩, kont_v, b2i_t M]
    show WP 105 94 _ _ _ _
    have ivT := inv_settle iv (k := S 11 on 0) (x := x4) hn h4
    have ecw : EC a g3 a (pI g3 (a 21 (S 11 on 0)) 5 x4) := ec_I hi (by omega)
    have hrw := hr.wSettled hi (S 11 on 0) x4
    have hpw := hp.ec iv ecw
    have elw := ecw.el hp
    revert hrw hpw elw
    generalize pI g3 (a 21 (S 11 on 0)) 5 x4 = g4
    intro hrw hpw elw
    have hp := hpw
    have lh := hp.qL iv _ hh
    have l9 := (iv.2.2.1.2.2.2.1 _ hh).2.2.2.2.2.1.1
    have g5 := (iv.2.2.1.2.2.2.1 _ hh).2.2.2.2.1
    have hpz := hpw.w18 hi (ItP_of iv) (S 11 on 0) x4
    have hrz : RepC a (su S 18 (S 11 on 0) 0 x4) (pI g4 (a 206 (S 11 on 0)) 8 x4) := hrw.fr (Fr_pI hi (P := fun f => f < 100) (by omega)) (fun f h1 => h1)
    have fin : WP 105 121 [some (zr (some (a 200 0))), some (zi on), some (zi u), some (zr (some (a 206 (S 11 on 0)))), some (zi x4), some (zi 1), some (zi (S 18 (S 11 on 0) 0))] [] g4 Q := by
      have e0 : EL a g4 a (pI g4 (a 206 (S 11 on 0)) 8 x4) 0 0 0 := (EP.row hi (by omega)).el
      have fn := k a _ _ ⟨⟨hi, hrz, hpz, ivT⟩, xv_hk xv (fun k i j h => su_k (by omega))⟩ ((((elx.trans elw).trans e0)).le (by omega) (by omega) (by omega))
      rcases h4 with rfl | rfl
      · simp (disch := first | assumption | omega) only [b_105_121, b_105_133, b_105_134, b_105_135, kont_v, kont_n, kont_x, Nat.reduceAdd, ad_some, kd_some, ixa, and_true, true_and, and_self, eq_self, ne_eq, brT, brF, true_or, or_true, and_imp, hp.q0, hp.q1, hp.q2, hp.q3, hp.q4, hp.q5, hp.q6, hp.q7, hp.q8, hp.q9, hp.q10, hp.q11, hp.q12, hp.q13, hp.q14, hp.q15, hp.q16, hp.q17, hp.q18, hp.q19, hp.q20, hp.q21, hp.q22, hp.q23, hp.q25, hp.q26, hp.q27, hp.q28, hp.q29, hp.q30, hp.q31, hp.q32, hp.q33, hp.q34, hp.q35, brt, aT, inR, oz01]
        exact fn
      · simp (disch := first | assumption | omega) only [b_105_121, b_105_129, b_105_134, b_105_135, kont_v, kont_n, kont_x, Nat.reduceAdd, ad_some, kd_some, ixa, and_true, true_and, and_self, eq_self, ne_eq, brT, brF, true_or, or_true, and_imp, hp.q0, hp.q1, hp.q2, hp.q3, hp.q4, hp.q5, hp.q6, hp.q7, hp.q8, hp.q9, hp.q10, hp.q11, hp.q12, hp.q13, hp.q14, hp.q15, hp.q16, hp.q17, hp.q18, hp.q19, hp.q20, hp.q21, hp.q22, hp.q23, hp.q25, hp.q26, hp.q27, hp.q28, hp.q29, hp.q30, hp.q31, hp.q32, hp.q33, hp.q34, hp.q35, brf, one_ne0, aT, inR, oz01]
        exact fn
    by_cases c8 : S 18 (S 11 on 0) 0 = 1
    · simp (disch := first | assumption | omega) only [b_105_94, b_105_101, b_105_111, b_105_116, kont_v, kont_n, kont_x, Nat.reduceAdd, ad_some, kd_some, ixa, and_true, true_and, and_self, eq_self, ne_eq, brT, brF, true_or, or_true, and_imp, hp.q0, hp.q1, hp.q2, hp.q3, hp.q4, hp.q5, hp.q6, hp.q7, hp.q8, hp.q9, hp.q10, hp.q11, hp.q12, hp.q13, hp.q14, hp.q15, hp.q16, hp.q17, hp.q18, hp.q19, hp.q20, hp.q21, hp.q22, hp.q23, hp.q25, hp.q26, hp.q27, hp.q28, hp.q29, hp.q30, hp.q31, hp.q32, hp.q33, hp.q34, hp.q35, brt, brf, one_ne0, aT, inR]
      exact fin
    · simp (disch := first | assumption | omega) only [b_105_94, b_105_101, b_105_115, b_105_116, kont_v, kont_n, kont_x, Nat.reduceAdd, ad_some, kd_some, ixa, and_true, true_and, and_self, eq_self, ne_eq, brT, brF, true_or, or_true, and_imp, hp.q0, hp.q1, hp.q2, hp.q3, hp.q4, hp.q5, hp.q6, hp.q7, hp.q8, hp.q9, hp.q10, hp.q11, hp.q12, hp.q13, hp.q14, hp.q15, hp.q16, hp.q17, hp.q18, hp.q19, hp.q20, hp.q21, hp.q22, hp.q23, hp.q25, hp.q26, hp.q27, hp.q28, hp.q29, hp.q30, hp.q31, hp.q32, hp.q33, hp.q34, hp.q35, brt, brf, one_ne0, aT, inR]
      exact fin
  · rw [brf (fun z => M ⟨z.2, z.1⟩), b2i_f M]
    unfold thr
    refine ⟨⟨by omega, by omega⟩, ?_⟩
    rw [kont_c]
    intro q
    rw [b_105_137, brt rfl, b_105_144, b_105_149]
    exact ⟨by omega, k a S _ ⟨j3.tk, xv⟩ ((elx.trans EL.tk).le (by omega) (by omega) (by omega))⟩
end
