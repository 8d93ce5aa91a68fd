/-! THE PAGE: propose, insert, delete -/
theorem one_ne0' : ¬ ((1 : Int) = 0) := by omega
section
variable {a : Na} {S : St} {h : Zh} {Q : Zp}
theorem p_proMay (hp : RepP a S h) (iv : Inv S) (u k x3 x4 : Int) (hk : nt S k) (hu : 0 ≤ u ∧ u < S 0 0 0) : WP 108 45 [some (zr (some (a 200 0))), some (zi k), some (zi u), some (zi x3), none, none, none] [zi x4] h Q = WP 108 82 [some (zr (some (a 200 0))), some (zi k), some (zi u), some (zi x3), some (zi x4), none, none] [zi (b2i ((2 ≤ S 1 u 0 ∧ SE S u (S 1 u 0) (S 11 k 0)) ∧ S 12 k 0 = 0))] h Q := by
  have k1 := hk.1
  have k2 := hk.2
  have l5 := hp.qM iv k hk
  by_cases c1 : 2 ≤ S 1 u 0
  · by_cases c2 : SE S u (S 1 u 0) (S 11 k 0)
    · by_cases c3 : S 12 k 0 = 0
      · rw [b2i_t ⟨⟨c1, c2⟩, c3⟩]
        simp (disch := first | assumption | omega) only [b_108_45, b_108_57, b_108_63, b_108_66, b_108_77, kont_v, kont_n, kont_x, Nat.reduceAdd, ad_some, kd_some, ixa, and_true, true_and, and_self, eq_self, ne_eq, brT, brF, true_or, or_true, and_imp, hp.q0, hp.q1, hp.q2, hp.q3, hp.q4, hp.q5, hp.q6, hp.q7, hp.q8, hp.q9, hp.q10, hp.q11, hp.q12, hp.q13, hp.q14, hp.q15, hp.q16, hp.q17, hp.q18, hp.q19, hp.q20, hp.q21, hp.q22, hp.q23, hp.q25, hp.q26, hp.q27, hp.q28, hp.q29, hp.q30, hp.q31, hp.q32, hp.q33, hp.q34, hp.q35, p_sees hp iv u k hk hu, b2i_t c2, one_ne0, brt, brf, aT, inR]
      · rw [b2i_f (fun z => c3 z.2)]
        simp (disch := first | assumption | omega) only [b_108_45, b_108_57, b_108_63, b_108_66, b_108_81, kont_v, kont_n, kont_x, Nat.reduceAdd, ad_some, kd_some, ixa, and_true, true_and, and_self, eq_self, ne_eq, brT, brF, true_or, or_true, and_imp, hp.q0, hp.q1, hp.q2, hp.q3, hp.q4, hp.q5, hp.q6, hp.q7, hp.q8, hp.q9, hp.q10, hp.q11, hp.q12, hp.q13, hp.q14, hp.q15, hp.q16, hp.q17, hp.q18, hp.q19, hp.q20, hp.q21, hp.q22, hp.q23, hp.q25, hp.q26, hp.q27, hp.q28, hp.q29, hp.q30, hp.q31, hp.q32, hp.q33, hp.q34, hp.q35, p_sees hp iv u k hk hu, b2i_t c2, one_ne0, brt, brf, aT, inR]
    · rw [b2i_f (fun z => c2 z.1.2)]
      simp (disch := first | assumption | omega) only [b_108_45, b_108_57, b_108_63, b_108_81, kont_v, kont_n, kont_x, Nat.reduceAdd, ad_some, kd_some, ixa, and_true, true_and, and_self, eq_self, ne_eq, brT, brF, true_or, or_true, and_imp, hp.q0, hp.q1, hp.q2, hp.q3, hp.q4, hp.q5, hp.q6, hp.q7, hp.q8, hp.q9, hp.q10, hp.q11, hp.q12, hp.q13, hp.q14, hp.q15, hp.q16, hp.q17, hp.q18, hp.q19, hp.q20, hp.q21, hp.q22, hp.q23, hp.q25, hp.q26, hp.q27, hp.q28, hp.q29, hp.q30, hp.q31, hp.q32, hp.q33, hp.q34, hp.q35, p_sees hp iv u k hk hu, b2i_f c2, brt, brf, aT, inR]
  · rw [b2i_f (fun z => c1 z.1.1)]
    simp (disch := first | assumption | omega) only [b_108_45, b_108_81, kont_v, kont_n, kont_x, Nat.reduceAdd, ad_some, kd_some, ixa, and_true, true_and, and_self, eq_self, ne_eq, brT, brF, true_or, or_true, and_imp, hp.q0, hp.q1, hp.q2, hp.q3, hp.q4, hp.q5, hp.q6, hp.q7, hp.q8, hp.q9, hp.q10, hp.q11, hp.q12, hp.q13, hp.q14, hp.q15, hp.q16, hp.q17, hp.q18, hp.q19, hp.q20, hp.q21, hp.q22, hp.q23, hp.q25, hp.q26, hp.q27, hp.q28, hp.q29, hp.q30, hp.q31, hp.q32, hp.q33, hp.q34, hp.q35, brt, aT, inR]
theorem p_propose (j : JP a S h) (hD : gI h (a 200 0) 2 ≤ 900000) (rc : gC h + 1 ≤ MXC) (rs : gS h + 6 ≤ MXS) (k : PKt a h Q) : WP 108 0 [some (zr (some (a 200 0))), none, none, none, none, none, none] [] h Q := by
  obtain ⟨jq, xv⟩ := j
  have iv := jq.2.2.2
  have hi := jq.1
  obtain ⟨u0, u1⟩ := iv.1.1
  have x2 := xv.1.2
  rw [b_108_0]
  refine ⟨(kd_some _ _ _).mpr jq.2.2.1.q0, ?_⟩
  refine p_any jq (by omega) (fun on g1 hon j1 l1 => ?_)
  have d1 := l1.2.2.2.1
  rw [kont_v]
  show WP 108 4 _ _ _ _
  rw [b_108_4]
  have out : ∀ on, WP 108 20 [some (zr (some (a 200 0))), some (zi on), none, none, none, none, none] [] g1 Q := fun on => by
    rw [b_108_20]
    exact ⟨by omega, k a S g1 ⟨j1, xv⟩ (l1.le (by omega) (by omega) (by omega))⟩
  rcases hon with rfl | ⟨hk, hg⟩
  · rw [brt (by omega)]
    exact out _
  have hk1 := hk.1
  have hk2 := hk.2
  rw [brf (by omega)]
  have hp := j1.2.2.1
  have l5 := hp.qM iv on hk
  by_cases c : ¬ (S 10 on 0 < 0)
  · simp (disch := first | assumption | omega) only [b_108_9, kont_v, kont_n, kont_x, Nat.reduceAdd, ad_some, kd_some, ixa, and_true, true_and, and_self, eq_self, ne_eq, brT, brF, true_or, or_true, and_imp, hp.q0, hp.q1, hp.q2, hp.q3, hp.q4, hp.q5, hp.q6, hp.q7, hp.q8, hp.q9, hp.q10, hp.q11, hp.q12, hp.q13, hp.q14, hp.q15, hp.q16, hp.q17, hp.q18, hp.q19, hp.q20, hp.q21, hp.q22, hp.q23, hp.q25, hp.q26, hp.q27, hp.q28, hp.q29, hp.q30, hp.q31, hp.q32, hp.q33, hp.q34, hp.q35, brf, aT, inR]
    exact out _
  obtain ⟨t10, t11⟩ : S 10 on 0 = -1 ∧ S 11 on 0 = on := by
    rcases iv_par iv hk with q | q
    · exact q
    · have := q.1.1; omega
  have hh : hd S on := ⟨hk, t11⟩
  simp (disch := first | assumption | omega) only [b_108_9, b_108_22, kont_v, kont_n, kont_x, Nat.reduceAdd, ad_some, kd_some, ixa, and_true, true_and, and_self, eq_self, ne_eq, brT, brF, true_or, or_true, and_imp, hp.q0, hp.q1, hp.q2, hp.q3, hp.q4, hp.q5, hp.q6, hp.q7, hp.q8, hp.q9, hp.q10, hp.q11, hp.q12, hp.q13, hp.q14, hp.q15, hp.q16, hp.q17, hp.q18, hp.q19, hp.q20, hp.q21, hp.q22, hp.q23, hp.q25, hp.q26, hp.q27, hp.q28, hp.q29, hp.q30, hp.q31, hp.q32, hp.q33, hp.q34, hp.q35, brt, aT, inR]
  refine w_draw j1 _ (by omega) (by omega) (fun u g2 v0 v1 j2 l2 => ?_)
  have d2 := l2.2.2.2.1
  rw [kont_v]
  show WP 108 31 _ _ _ _
  have hp := j2.2.2.1
  simp (disch := first | assumption | omega) only [b_108_31, kont_v, kont_n, kont_x, Nat.reduceAdd, ad_some, kd_some, ixa, and_true, true_and, and_self, eq_self, ne_eq, brT, brF, true_or, or_true, and_imp, hp.q0, hp.q1, hp.q2, hp.q3, hp.q4, hp.q5, hp.q6, hp.q7, hp.q8, hp.q9, hp.q10, hp.q11, hp.q12, hp.q13, hp.q14, hp.q15, hp.q16, hp.q17, hp.q18, hp.q19, hp.q20, hp.q21, hp.q22, hp.q23, hp.q25, hp.q26, hp.q27, hp.q28, hp.q29, hp.q30, hp.q31, hp.q32, hp.q33, hp.q34, hp.q35, aT, inR]
  refine w_draw j2 6 (by omega) (by omega) (fun n g3 n0 n1 j3 l3 => ?_)
  have d3 := l3.2.2.2.1
  rw [kont_v]
  show WP 108 38 _ _ _ _
  have hp := j3.2.2.1
  simp (disch := first | assumption | omega) only [b_108_38, kont_v, kont_n, kont_x, Nat.reduceAdd, ad_some, kd_some, ixa, and_true, true_and, and_self, eq_self, ne_eq, brT, brF, true_or, or_true, and_imp, hp.q0, hp.q1, hp.q2, hp.q3, hp.q4, hp.q5, hp.q6, hp.q7, hp.q8, hp.q9, hp.q10, hp.q11, hp.q12, hp.q13, hp.q14, hp.q15, hp.q16, hp.q17, hp.q18, hp.q19, hp.q20, hp.q21, hp.q22, hp.q23, hp.q25, hp.q26, hp.q27, hp.q28, hp.q29, hp.q30, hp.q31, hp.q32, hp.q33, hp.q34, hp.q35, aT, inR]
  refine w_draw j3 26 (by omega) (by omega) (fun s g4 s0 s1 j4 l4 => ?_)
  rw [kont_v]
  show WP 108 45 _ _ _ _
  have hp := j4.2.2.1
  have hr := j4.2.1
  rw [p_proMay hp iv u on n s hk ⟨v0, v1⟩, b_108_82]
  refine ⟨(kd_some _ _ _).mpr hp.q0, ?_⟩
  rw [ad_some, hp.q1]
  refine ⟨(kd_some _ _ _).mpr hr.A.1, ?_⟩
  have elx := ((l1.trans l2).trans l3).trans l4
  have ec := elx.2.2.2.2.1
  have es := elx.2.2.2.2.2
  rw [c_propose hi hr iv u on n s, brt ⟨v0, v1⟩, brt ⟨hk, hg⟩, brt ⟨t11, by omega, by omega⟩]
  by_cases M : (2 ≤ S 1 u 0 ∧ SE S u (S 1 u 0) (S 11 on 0)) ∧ S 12 on 0 = 0
  · rw [brt M, kont_v, b2i_t M]
    show WP 108 96 _ _ _ _
    have ivT := inv_first (inv_many iv (k := on) (x := n) ⟨by omega, by omega⟩) (k := on) (x := s) hk ⟨by omega, by omega⟩
    have ecw : EC a g4 a (pI (pI g4 (a 21 on) 6 n) (a 21 on) 7 s) := ec_II hi (by omega) (by omega)
    have hrw := (hr.wMany hi on n).wFirst hi on s
    have hpw := hp.ec iv ecw
    have elw := ecw.el hp
    revert hrw hpw elw
    generalize pI (pI g4 (a 21 on) 6 n) (a 21 on) 7 s = g5
    intro hrw hpw elw
    have hp := hpw
    have lh := hp.qL iv _ hh
    have l9 := (iv.2.2.1.2.2.2.1 _ hh).2.2.2.2.2.1.1
    have it0 := ItP_of iv
    have hpz := (hpw.w16 hi it0 on n).w17 hi it0 on s
    have hrz : RepC a (su (su S 16 on 0 n) 17 on 0 s) (pI (pI g5 (a 206 on) 9 n) (a 206 on) 10 s) := hrw.fr ((Fr_pI hi (P := fun f => f < 100) (by omega)).trans (Fr_pI hi (P := fun f => f < 100) (by omega))) (fun f h1 => h1)
    have e0 : EL a g5 a (pI (pI g5 (a 206 on) 9 n) (a 206 on) 10 s) 0 0 0 := (((EP.row hi (by omega)).trans (EP.row hi (by omega))).le (by omega) (by omega) (by omega)).el
    have fn := k a _ _ ⟨⟨hi, hrz, hpz, ivT⟩, xv_hk xv (fun k i j h => by rw [su_k (by omega), su_k (by omega)])⟩ ((((elx.trans elw).trans e0)).le (by omega) (by omega) (by omega))
    simp (disch := first | assumption | omega) only [b_108_96, b_108_105, b_108_115, b_108_126, b_108_132, b_108_137, kont_v, kont_n, kont_x, Nat.reduceAdd, ad_some, kd_some, ixa, and_true, true_and, and_self, eq_self, ne_eq, brT, brF, true_or, or_true, and_imp, hp.q0, hp.q1, hp.q2, hp.q3, hp.q4, hp.q5, hp.q6, hp.q7, hp.q8, hp.q9, hp.q10, hp.q11, hp.q12, hp.q13, hp.q14, hp.q15, hp.q16, hp.q17, hp.q18, hp.q19, hp.q20, hp.q21, hp.q22, hp.q23, hp.q25, hp.q26, hp.q27, hp.q28, hp.q29, hp.q30, hp.q31, hp.q32, hp.q33, hp.q34, hp.q35, brt, brf, one_ne0, aT, inR, oz01, gK_pI, gL_pI, gR_pI]
    exact fn
  · rw [brf M, b2i_f M]
    unfold thr
    refine ⟨⟨by omega, by omega⟩, ?_⟩
    rw [kont_c]
    intro q
    rw [b_108_138, brt rfl, b_108_145, b_108_150]
    exact ⟨by omega, k a S _ ⟨j4.tk, xv⟩ ((elx.trans EL.tk).le (by omega) (by omega) (by omega))⟩
theorem p_insMay (hp : RepP a S h) (iv : Inv S) (u n p s : Int) (hu : 0 ≤ u ∧ u < S 0 0 0) (hn : 1 ≤ n ∧ n ≤ 40) : WP 98 53 [some (zr (some (a 200 0))), some (zi u), some (zi n), some (zi p), none, none, none] [zi s] h Q = WP 98 93 [some (zr (some (a 200 0))), some (zi u), some (zi n), some (zi p), some (zi s), none, none] [zi (b2i (3 ≤ S 1 u 0 ∧ S 3 (S 2 0 0) 0 + n ≤ 200 ∧ S 2 0 0 < 60))] h Q := by
  obtain ⟨v0, v1⟩ := iv.2.1.1
  obtain ⟨z0, z1⟩ := iv.2.1.2.1 (S 2 0 0) v0 (Int.le_refl _)
  by_cases c1 : 3 ≤ S 1 u 0
  · by_cases c2 : S 3 (S 2 0 0) 0 + n ≤ 200
    · by_cases c3 : S 2 0 0 < 60
      · rw [b2i_t ⟨c1, c2, c3⟩]
        simp (disch := first | assumption | omega) only [b_98_53, b_98_65, b_98_69, b_98_78, b_98_88, kont_v, kont_n, kont_x, Nat.reduceAdd, ad_some, kd_some, ixa, and_true, true_and, and_self, eq_self, ne_eq, brT, brF, true_or, or_true, and_imp, hp.q0, hp.q1, hp.q2, hp.q3, hp.q4, hp.q5, hp.q6, hp.q7, hp.q8, hp.q9, hp.q10, hp.q11, hp.q12, hp.q13, hp.q14, hp.q15, hp.q16, hp.q17, hp.q18, hp.q19, hp.q20, hp.q21, hp.q22, hp.q23, hp.q25, hp.q26, hp.q27, hp.q28, hp.q29, hp.q30, hp.q31, hp.q32, hp.q33, hp.q34, hp.q35, p_text hp iv, brf, aT, inR]
      · rw [b2i_f (fun z => c3 z.2.2)]
        simp (disch := first | assumption | omega) only [b_98_53, b_98_65, b_98_69, b_98_78, b_98_92, kont_v, kont_n, kont_x, Nat.reduceAdd, ad_some, kd_some, ixa, and_true, true_and, and_self, eq_self, ne_eq, brT, brF, true_or, or_true, and_imp, hp.q0, hp.q1, hp.q2, hp.q3, hp.q4, hp.q5, hp.q6, hp.q7, hp.q8, hp.q9, hp.q10, hp.q11, hp.q12, hp.q13, hp.q14, hp.q15, hp.q16, hp.q17, hp.q18, hp.q19, hp.q20, hp.q21, hp.q22, hp.q23, hp.q25, hp.q26, hp.q27, hp.q28, hp.q29, hp.q30, hp.q31, hp.q32, hp.q33, hp.q34, hp.q35, p_text hp iv, brt, brf, aT, inR]
    · rw [b2i_f (fun z => c2 z.2.1)]
      simp (disch := first | assumption | omega) only [b_98_53, b_98_65, b_98_69, b_98_92, kont_v, kont_n, kont_x, Nat.reduceAdd, ad_some, kd_some, ixa, and_true, true_and, and_self, eq_self, ne_eq, brT, brF, true_or, or_true, and_imp, hp.q0, hp.q1, hp.q2, hp.q3, hp.q4, hp.q5, hp.q6, hp.q7, hp.q8, hp.q9, hp.q10, hp.q11, hp.q12, hp.q13, hp.q14, hp.q15, hp.q16, hp.q17, hp.q18, hp.q19, hp.q20, hp.q21, hp.q22, hp.q23, hp.q25, hp.q26, hp.q27, hp.q28, hp.q29, hp.q30, hp.q31, hp.q32, hp.q33, hp.q34, hp.q35, p_text hp iv, brt, brf, aT, inR]
  · rw [b2i_f (fun z => c1 z.1)]
    simp (disch := first | assumption | omega) only [b_98_53, b_98_92, kont_v, kont_n, kont_x, Nat.reduceAdd, ad_some, kd_some, ixa, and_true, true_and, and_self, eq_self, ne_eq, brT, brF, true_or, or_true, and_imp, hp.q0, hp.q1, hp.q2, hp.q3, hp.q4, hp.q5, hp.q6, hp.q7, hp.q8, hp.q9, hp.q10, hp.q11, hp.q12, hp.q13, hp.q14, hp.q15, hp.q16, hp.q17, hp.q18, hp.q19, hp.q20, hp.q21, hp.q22, hp.q23, hp.q25, hp.q26, hp.q27, hp.q28, hp.q29, hp.q30, hp.q31, hp.q32, hp.q33, hp.q34, hp.q35, brt, aT, inR]
/-- an insertion's growth -/
def GR (S T : St) : Prop := T 3 (T 2 0 0) 0 ≤ S 3 (S 2 0 0) 0 + 8 ∧ T 2 0 0 ≤ S 2 0 0 + 1
theorem p_insG (j : JP a S h) (hD : gI h (a 200 0) 2 ≤ 900000) (rc : gC h + 200 ≤ MXC) (rs : gS h + 20000 ≤ MXS) (k : ∀ b T g, JP b T g → EL a h b g 16 200 20000 → GR S T → Q (.inl (some (zi 1))) g) : WP 98 0 [some (zr (some (a 200 0))), none, none, none, none, none, none] [] h Q := by
  obtain ⟨jq, xv⟩ := j
  have iv := jq.2.2.2
  have hi := jq.1
  obtain ⟨u0, u1⟩ := iv.1.1
  have x2 := xv.1.2
  obtain ⟨w0, w1⟩ := iv.2.1.1
  obtain ⟨z0, z1⟩ := iv.2.1.2.1 (S 2 0 0) w0 (Int.le_refl _)
  have hp := jq.2.2.1
  simp (disch := first | assumption | omega) only [b_98_0, kont_v, kont_n, kont_x, Nat.reduceAdd, ad_some, kd_some, ixa, and_true, true_and, and_self, eq_self, ne_eq, brT, brF, true_or, or_true, and_imp, hp.q0, hp.q1, hp.q2, hp.q3, hp.q4, hp.q5, hp.q6, hp.q7, hp.q8, hp.q9, hp.q10, hp.q11, hp.q12, hp.q13, hp.q14, hp.q15, hp.q16, hp.q17, hp.q18, hp.q19, hp.q20, hp.q21, hp.q22, hp.q23, hp.q25, hp.q26, hp.q27, hp.q28, hp.q29, hp.q30, hp.q31, hp.q32, hp.q33, hp.q34, hp.q35, aT, inR]
  refine w_draw jq _ (by omega) (by omega) (fun u g1 v0 v1 j1 l1 => ?_)
  have d1 := l1.2.2.2.1
  rw [kont_v]
  show WP 98 9 _ _ _ _
  have hp := j1.2.2.1
  simp (disch := first | assumption | omega) only [b_98_9, kont_v, kont_n, kont_x, Nat.reduceAdd, ad_some, kd_some, ixa, and_true, true_and, and_self, eq_self, ne_eq, brT, brF, true_or, or_true, and_imp, hp.q0, hp.q1, hp.q2, hp.q3, hp.q4, hp.q5, hp.q6, hp.q7, hp.q8, hp.q9, hp.q10, hp.q11, hp.q12, hp.q13, hp.q14, hp.q15, hp.q16, hp.q17, hp.q18, hp.q19, hp.q20, hp.q21, hp.q22, hp.q23, hp.q25, hp.q26, hp.q27, hp.q28, hp.q29, hp.q30, hp.q31, hp.q32, hp.q33, hp.q34, hp.q35, aT, inR]
  refine w_draw j1 8 (by omega) (by omega) (fun n g2 n0 n1 j2 l2 => ?_)
  have d2 := l2.2.2.2.1
  rw [kont_v]
  show WP 98 17 _ _ _ _
  have hp := j2.2.2.1
  simp (disch := first | assumption | omega) only [b_98_17, b_98_24, kont_v, kont_n, kont_x, Nat.reduceAdd, ad_some, kd_some, ixa, and_true, true_and, and_self, eq_self, ne_eq, brT, brF, true_or, or_true, and_imp, hp.q0, hp.q1, hp.q2, hp.q3, hp.q4, hp.q5, hp.q6, hp.q7, hp.q8, hp.q9, hp.q10, hp.q11, hp.q12, hp.q13, hp.q14, hp.q15, hp.q16, hp.q17, hp.q18, hp.q19, hp.q20, hp.q21, hp.q22, hp.q23, hp.q25, hp.q26, hp.q27, hp.q28, hp.q29, hp.q30, hp.q31, hp.q32, hp.q33, hp.q34, hp.q35, p_text hp iv, aT, inR]
  refine w_draw j2 _ (by omega) (by omega) (fun p g3 p0 p1 j3 l3 => ?_)
  have d3 := l3.2.2.2.1
  rw [kont_v]
  show WP 98 30 _ _ _ _
  have hp := j3.2.2.1
  simp (disch := first | assumption | omega) only [b_98_30, kont_v, kont_n, kont_x, Nat.reduceAdd, ad_some, kd_some, ixa, and_true, true_and, and_self, eq_self, ne_eq, brT, brF, true_or, or_true, and_imp, hp.q0, hp.q1, hp.q2, hp.q3, hp.q4, hp.q5, hp.q6, hp.q7, hp.q8, hp.q9, hp.q10, hp.q11, hp.q12, hp.q13, hp.q14, hp.q15, hp.q16, hp.q17, hp.q18, hp.q19, hp.q20, hp.q21, hp.q22, hp.q23, hp.q25, hp.q26, hp.q27, hp.q28, hp.q29, hp.q30, hp.q31, hp.q32, hp.q33, hp.q34, hp.q35, aT, inR]
  refine w_draw j3 5 (by omega) (by omega) (fun t g4 t0 t1 j4 l4 => ?_)
  have d4 := l4.2.2.2.1
  have key : ∀ s g5, 0 ≤ s → s ≤ 25 → JQ a S g5 → EL a g4 a g5 1 0 0 → WP 98 53 [some (zr (some (a 200 0))), some (zi u), some (zi (1 + n)), some (zi p), none, none, none] [zi s] g5 Q := fun s g5 s0 s1 j5 l5 => by
    have hp := j5.2.2.1
    have hr := j5.2.1
    rw [p_insMay hp iv u (1 + n) p s ⟨v0, v1⟩ ⟨by omega, by omega⟩, b_98_93]
    refine ⟨(kd_some _ _ _).mpr hp.q0, ?_⟩
    rw [ad_some, hp.q1]
    refine ⟨(kd_some _ _ _).mpr hr.A.1, ?_⟩
    have elx := (((l1.trans l2).trans l3).trans l4).trans l5
    have ec := elx.2.2.2.2.1
    have es := elx.2.2.2.2.2
    refine c_insert hi hr iv u p (1 + n) s ?_
    rw [brt ⟨v0, v1⟩, brt (by omega), brt (by omega)]
    by_cases M : 3 ≤ S 1 u 0 ∧ S 3 (S 2 0 0) 0 + (1 + n) ≤ 200 ∧ S 2 0 0 < 60
    · rw [brt M, b2i_t M]
      intro b g6 hrw ecw
      rw [kont_v]
      show WP 98 107 _ _ _ _
      have ivT := inv_put iv p (1 + n) s p0 ⟨by omega, by omega⟩ (by omega) ⟨s0, s1⟩ M.2.1 M.2.2
      have hpw := hp.ec iv ecw
      have elw := ecw.el hp
      have ib := ecw.1
      rw [← elw.2.1, b_98_107, brf one_ne0', b_98_116]
      have ec6 := elw.2.2.2.2.1
      have es6 := elw.2.2.2.2.2
      refine ⟨(kd_some _ _ _).mpr hpw.q0, ?_⟩
      refine p_put ib hpw iv (by rw [hrw.A.1]; omega) p (1 + n) s ⟨p0, by omega⟩ ⟨by omega, by omega⟩ ⟨s0, s1⟩ M.2.1 M.2.2 (by omega) (by omega) (fun b7 g7 hp7 ep7 => ?_)
      rw [kont_n]
      show WP 98 124 _ _ _ _
      rw [← ep7.2.2.2.1]
      have hr7 := hrw.ep ep7
      have hp := hp7
      have v27 := ivT.2.1.1.1
      have k14 := hp7.q14 _ v27 (Int.le_refl _)
      have l15 := hp7.q15
      rw [Sput_sz] at l15
      simp (disch := first | assumption | omega) only [b_98_124, b_98_130, b_98_134, b_98_139, kont_v, kont_n, kont_x, Nat.reduceAdd, ad_some, kd_some, ixa, and_true, true_and, and_self, eq_self, ne_eq, brT, brF, true_or, or_true, and_imp, hp.q0, hp.q1, hp.q2, hp.q3, hp.q4, hp.q5, hp.q6, hp.q7, hp.q8, hp.q9, hp.q10, hp.q11, hp.q12, hp.q13, hp.q14, hp.q15, hp.q16, hp.q17, hp.q18, hp.q19, hp.q20, hp.q21, hp.q22, hp.q23, hp.q25, hp.q26, hp.q27, hp.q28, hp.q29, hp.q30, hp.q31, hp.q32, hp.q33, hp.q34, hp.q35, p_text hp7 ivT, k14, l15, Sput_sz, brt, aT, inR, oz01]
      exact k b7 _ g7 ⟨⟨ep7.1, hr7, hp7, ivT⟩, xv_put iv xv p (1 + n) s p0 (by omega) (by omega)⟩ (((elx.trans elw).trans ep7.el).le (by omega) (by omega) (by omega)) ⟨by rw [Sput_sz]; omega, by rw [show Sput S p (1 + n) s 2 0 0 = S 2 0 0 + 1 from (MP_o _ _ _ _ _ _ _ (by omega)).trans (TX_2 ..)]; omega⟩
    · rw [brf M, b2i_f M]
      unfold thr
      refine ⟨⟨by omega, by omega⟩, ?_⟩
      rw [kont_c]
      intro q
      rw [b_98_140, brt rfl, b_98_147, b_98_152]
      exact ⟨by omega, k a S _ ⟨j5.tk, xv⟩ ((elx.trans EL.tk).le (by omega) (by omega) (by omega)) ⟨by omega, by omega⟩⟩
  rw [kont_v]
  show WP 98 36 _ _ _ _
  have hp := j4.2.2.1
  rw [b_98_36]
  by_cases c : t = 0
  · rw [brt c, b_98_39]
    refine ⟨(kd_some _ _ _).mpr hp.q0, ?_⟩
    refine w_draw j4 26 (by omega) (by omega) (fun s g5 s0 s1 j5 l5 => ?_)
    rw [kont_v]
    show WP 98 45 _ _ _ _
    rw [b_98_45]
    exact key s g5 s0 (by omega) j5 l5
  · rw [brf c, b_98_48]
    refine ⟨(kd_some _ _ _).mpr hp.q0, ?_⟩
    refine w_draw j4 4 (by omega) (by omega) (fun s g5 s0 s1 j5 l5 => ?_)
    rw [kont_v]
    show WP 98 53 _ _ _ _
    exact key s g5 s0 (by omega) j5 l5
theorem p_insert (j : JP a S h) (hD : gI h (a 200 0) 2 ≤ 900000) (rc : gC h + 200 ≤ MXC) (rs : gS h + 20000 ≤ MXS) (k : PKt a h Q) : WP 98 0 [some (zr (some (a 200 0))), none, none, none, none, none, none] [] h Q := p_insG j hD rc rs (fun b T g j l _ => k b T g j l)
theorem p_delMay (hp : RepP a S h) (iv : Inv S) (u n p : Int) (hu : 0 ≤ u ∧ u < S 0 0 0) (hn : 0 ≤ n ∧ n ≤ 40) : WP 99 47 [some (zr (some (a 200 0))), some (zi u), some (zi p), none, none, none] [zi n, zi 1] h Q = WP 99 74 [some (zr (some (a 200 0))), some (zi u), some (zi p), some (zi (1 + n)), none, none] [zi (b2i (3 ≤ S 1 u 0 ∧ S 2 0 0 < 60))] h Q := by
  obtain ⟨v0, v1⟩ := iv.2.1.1
  by_cases c1 : 3 ≤ S 1 u 0
  · by_cases c3 : S 2 0 0 < 60
    · rw [b2i_t ⟨c1, c3⟩]
      simp (disch := first | assumption | omega) only [b_99_47, b_99_59, b_99_69, kont_v, kont_n, kont_x, Nat.reduceAdd, ad_some, kd_some, ixa, and_true, true_and, and_self, eq_self, ne_eq, brT, brF, true_or, or_true, and_imp, hp.q0, hp.q1, hp.q2, hp.q3, hp.q4, hp.q5, hp.q6, hp.q7, hp.q8, hp.q9, hp.q10, hp.q11, hp.q12, hp.q13, hp.q14, hp.q15, hp.q16, hp.q17, hp.q18, hp.q19, hp.q20, hp.q21, hp.q22, hp.q23, hp.q25, hp.q26, hp.q27, hp.q28, hp.q29, hp.q30, hp.q31, hp.q32, hp.q33, hp.q34, hp.q35, brf, aT, inR]
    · rw [b2i_f (fun z => c3 z.2)]
      simp (disch := first | assumption | omega) only [b_99_47, b_99_59, b_99_73, kont_v, kont_n, kont_x, Nat.reduceAdd, ad_some, kd_some, ixa, and_true, true_and, and_self, eq_self, ne_eq, brT, brF, true_or, or_true, and_imp, hp.q0, hp.q1, hp.q2, hp.q3, hp.q4, hp.q5, hp.q6, hp.q7, hp.q8, hp.q9, hp.q10, hp.q11, hp.q12, hp.q13, hp.q14, hp.q15, hp.q16, hp.q17, hp.q18, hp.q19, hp.q20, hp.q21, hp.q22, hp.q23, hp.q25, hp.q26, hp.q27, hp.q28, hp.q29, hp.q30, hp.q31, hp.q32, hp.q33, hp.q34, hp.q35, brt, brf, aT, inR]
  · rw [b2i_f (fun z => c1 z.1)]
    simp (disch := first | assumption | omega) only [b_99_47, b_99_73, kont_v, kont_n, kont_x, Nat.reduceAdd, ad_some, kd_some, ixa, and_true, true_and, and_self, eq_self, ne_eq, brT, brF, true_or, or_true, and_imp, hp.q0, hp.q1, hp.q2, hp.q3, hp.q4, hp.q5, hp.q6, hp.q7, hp.q8, hp.q9, hp.q10, hp.q11, hp.q12, hp.q13, hp.q14, hp.q15, hp.q16, hp.q17, hp.q18, hp.q19, hp.q20, hp.q21, hp.q22, hp.q23, hp.q25, hp.q26, hp.q27, hp.q28, hp.q29, hp.q30, hp.q31, hp.q32, hp.q33, hp.q34, hp.q35, brt, aT, inR]
theorem p_delete (j : JP a S h) (hD : gI h (a 200 0) 2 ≤ 900000) (rc : gC h + 200 ≤ MXC) (rs : gS h + 20000 ≤ MXS) (k : PKt a h Q) : WP 99 0 [some (zr (some (a 200 0))), none, none, none, none, none] [] h Q := by
  obtain ⟨jq, xv⟩ := j
  have iv := jq.2.2.2
  have hi := jq.1
  obtain ⟨u0, u1⟩ := iv.1.1
  have x2 := xv.1.2
  obtain ⟨w0, w1⟩ := iv.2.1.1
  obtain ⟨z0, z1⟩ := iv.2.1.2.1 (S 2 0 0) w0 (Int.le_refl _)
  have hp := jq.2.2.1
  simp (disch := first | assumption | omega) only [b_99_0, b_99_4, kont_v, kont_n, kont_x, Nat.reduceAdd, ad_some, kd_some, ixa, and_true, true_and, and_self, eq_self, ne_eq, brT, brF, true_or, or_true, and_imp, hp.q0, hp.q1, hp.q2, hp.q3, hp.q4, hp.q5, hp.q6, hp.q7, hp.q8, hp.q9, hp.q10, hp.q11, hp.q12, hp.q13, hp.q14, hp.q15, hp.q16, hp.q17, hp.q18, hp.q19, hp.q20, hp.q21, hp.q22, hp.q23, hp.q25, hp.q26, hp.q27, hp.q28, hp.q29, hp.q30, hp.q31, hp.q32, hp.q33, hp.q34, hp.q35, p_text hp iv, aT, inR]
  by_cases c0 : S 3 (S 2 0 0) 0 = 0
  · rw [brt c0, b_99_8]
    exact ⟨by omega, k a S h ⟨jq, xv⟩ (EL.rfl.le (by omega) (by omega) (by omega))⟩
  rw [brf c0]
  simp (disch := first | assumption | omega) only [b_99_10, kont_v, kont_n, kont_x, Nat.reduceAdd, ad_some, kd_some, ixa, and_true, true_and, and_self, eq_self, ne_eq, brT, brF, true_or, or_true, and_imp, hp.q0, hp.q1, hp.q2, hp.q3, hp.q4, hp.q5, hp.q6, hp.q7, hp.q8, hp.q9, hp.q10, hp.q11, hp.q12, hp.q13, hp.q14, hp.q15, hp.q16, hp.q17, hp.q18, hp.q19, hp.q20, hp.q21, hp.q22, hp.q23, hp.q25, hp.q26, hp.q27, hp.q28, hp.q29, hp.q30, hp.q31, hp.q32, hp.q33, hp.q34, hp.q35, aT, inR]
  refine w_draw jq _ (by omega) (by omega) (fun u g1 v0 v1 j1 l1 => ?_)
  have d1 := l1.2.2.2.1
  rw [kont_v]
  show WP 99 19 _ _ _ _
  have hp := j1.2.2.1
  simp (disch := first | assumption | omega) only [b_99_19, b_99_25, kont_v, kont_n, kont_x, Nat.reduceAdd, ad_some, kd_some, ixa, and_true, true_and, and_self, eq_self, ne_eq, brT, brF, true_or, or_true, and_imp, hp.q0, hp.q1, hp.q2, hp.q3, hp.q4, hp.q5, hp.q6, hp.q7, hp.q8, hp.q9, hp.q10, hp.q11, hp.q12, hp.q13, hp.q14, hp.q15, hp.q16, hp.q17, hp.q18, hp.q19, hp.q20, hp.q21, hp.q22, hp.q23, hp.q25, hp.q26, hp.q27, hp.q28, hp.q29, hp.q30, hp.q31, hp.q32, hp.q33, hp.q34, hp.q35, p_text hp iv, aT, inR]
  refine w_draw j1 _ (by omega) (by omega) (fun p g2 p0 p1 j2 l2 => ?_)
  have d2 := l2.2.2.2.1
  rw [kont_v]
  show WP 99 29 _ _ _ _
  have hp := j2.2.2.1
  simp (disch := first | assumption | omega) only [b_99_29, b_99_38, kont_v, kont_n, kont_x, Nat.reduceAdd, ad_some, kd_some, ixa, and_true, true_and, and_self, eq_self, ne_eq, brT, brF, true_or, or_true, and_imp, hp.q0, hp.q1, hp.q2, hp.q3, hp.q4, hp.q5, hp.q6, hp.q7, hp.q8, hp.q9, hp.q10, hp.q11, hp.q12, hp.q13, hp.q14, hp.q15, hp.q16, hp.q17, hp.q18, hp.q19, hp.q20, hp.q21, hp.q22, hp.q23, hp.q25, hp.q26, hp.q27, hp.q28, hp.q29, hp.q30, hp.q31, hp.q32, hp.q33, hp.q34, hp.q35, p_text hp iv, aT, inR]
  refine w_draw j2 _ (by split <;> omega) (by omega) (fun n g3 n0 n1 j3 l3 => ?_)
  have n2 : n < S 3 (S 2 0 0) 0 - p ∧ n < 9 := by split at n1 <;> omega
  rw [kont_v]
  show WP 99 47 _ _ _ _
  have hp := j3.2.2.1
  have hr := j3.2.1
  rw [p_delMay hp iv u n p ⟨v0, v1⟩ ⟨n0, by omega⟩, b_99_74]
  refine ⟨(kd_some _ _ _).mpr hp.q0, ?_⟩
  rw [ad_some, hp.q1]
  refine ⟨(kd_some _ _ _).mpr hr.A.1, ?_⟩
  have elx := (l1.trans l2).trans l3
  have ec := elx.2.2.2.2.1
  have es := elx.2.2.2.2.2
  refine c_delete hi hr iv u p (1 + n) ?_
  rw [brt ⟨v0, v1⟩, brt (by omega), brt (by omega)]
  by_cases M : 3 ≤ S 1 u 0 ∧ S 2 0 0 < 60
  · rw [brt M, b2i_t M]
    intro b g6 hrw ecw
    rw [kont_v]
    show WP 99 86 _ _ _ _
    have ivT := inv_cut iv p (1 + n) p0 (by omega) (by omega) M.2
    have hpw := hp.ec iv ecw
    have elw := ecw.el hp
    have ib := ecw.1
    rw [← elw.2.1, b_99_86, brf one_ne0', b_99_95]
    have ec6 := elw.2.2.2.2.1
    have es6 := elw.2.2.2.2.2
    refine ⟨(kd_some _ _ _).mpr hpw.q0, ?_⟩
    refine p_cut ib hpw iv (by rw [hrw.A.1]; omega) p (1 + n) p0 (by omega) (by omega) M.2 (by omega) (by omega) (fun b7 g7 hp7 ep7 => ?_)
    rw [kont_n]
    show WP 99 101 _ _ _ _
    rw [← ep7.2.2.2.1]
    have hr7 := hrw.ep ep7
    have hp := hp7
    have v27 := ivT.2.1.1.1
    have k14 := hp7.q14 _ v27 (Int.le_refl _)
    have l15 := hp7.q15
    rw [Scut_sz] at l15
    simp (disch := first | assumption | omega) only [b_99_101, b_99_107, b_99_111, b_99_116, kont_v, kont_n, kont_x, Nat.reduceAdd, ad_some, kd_some, ixa, and_true, true_and, and_self, eq_self, ne_eq, brT, brF, true_or, or_true, and_imp, hp.q0, hp.q1, hp.q2, hp.q3, hp.q4, hp.q5, hp.q6, hp.q7, hp.q8, hp.q9, hp.q10, hp.q11, hp.q12, hp.q13, hp.q14, hp.q15, hp.q16, hp.q17, hp.q18, hp.q19, hp.q20, hp.q21, hp.q22, hp.q23, hp.q25, hp.q26, hp.q27, hp.q28, hp.q29, hp.q30, hp.q31, hp.q32, hp.q33, hp.q34, hp.q35, p_text hp7 ivT, k14, l15, Scut_sz, brt, aT, inR, oz01]
    exact k b7 _ g7 ⟨⟨ep7.1, hr7, hp7, ivT⟩, xv_cut iv xv p (1 + n) p0 (by omega) (by omega)⟩ (((elx.trans elw).trans ep7.el).le (by omega) (by omega) (by omega))
  · rw [brf M, b2i_f M]
    unfold thr
    refine ⟨⟨by omega, by omega⟩, ?_⟩
    rw [kont_c]
    intro q
    rw [b_99_117, brt rfl, b_99_124, b_99_129]
    exact ⟨by omega, k a S _ ⟨j3.tk, xv⟩ ((elx.trans EL.tk).le (by omega) (by omega) (by omega))⟩
end
