/-! THE PAGE: remove, heal -/
section
variable {a b : Na} {S T : St} {h : Zh} {Q : Zp}
theorem p_remMay (hp : RepP a S h) (iv : Inv S) (u k : Int) (hk : nt S k) (hu : 0 ≤ u ∧ u < S 0 0 0) : WP 107 20 [some (zr (some (a 200 0))), some (zi k), none, none, none, none, none] [zi u] h Q = WP 107 68 [some (zr (some (a 200 0))), some (zi k), some (zi u), none, none, none, none] [zi (b2i (((S 8 k 0 = u ∨ S 1 u 0 = 4) ∧ SE S u (S 1 u 0) (S 11 k 0)) ∧ S 12 k 0 = 0))] h Q := by
  have k1 := hk.1
  have k2 := hk.2
  have l5 := hp.qM iv k hk
  by_cases c2 : SE S u (S 1 u 0) (S 11 k 0)
  · by_cases c3 : S 12 k 0 = 0
    · by_cases c1 : S 8 k 0 = u
      · rw [b2i_t ⟨⟨.inl c1, c2⟩, c3⟩]
        simp (disch := first | assumption | omega) only [b_107_20, b_107_27, b_107_30, b_107_52, b_107_63, kont_v, kont_n, kont_x, Nat.reduceAdd, ad_some, kd_some, ixa, and_true, true_and, and_self, eq_self, ne_eq, brT, brF, true_or, or_true, and_imp, hp.q0, hp.q1, hp.q2, hp.q3, hp.q4, hp.q5, hp.q6, hp.q7, hp.q8, hp.q9, hp.q10, hp.q11, hp.q12, hp.q13, hp.q14, hp.q15, hp.q16, hp.q17, hp.q18, hp.q19, hp.q20, hp.q21, hp.q22, hp.q23, hp.q25, hp.q26, hp.q27, hp.q28, hp.q29, hp.q30, hp.q31, hp.q32, hp.q33, hp.q34, hp.q35, p_sees hp iv u k hk hu, b2i_t c2, one_ne0, brt, brf, aT, inR]
      · by_cases c4 : S 1 u 0 = 4
        · rw [b2i_t ⟨⟨.inr c4, c2⟩, c3⟩]
          simp (disch := first | assumption | omega) only [b_107_20, b_107_27, b_107_30, b_107_42, b_107_52, b_107_63, kont_v, kont_n, kont_x, Nat.reduceAdd, ad_some, kd_some, ixa, and_true, true_and, and_self, eq_self, ne_eq, brT, brF, true_or, or_true, and_imp, hp.q0, hp.q1, hp.q2, hp.q3, hp.q4, hp.q5, hp.q6, hp.q7, hp.q8, hp.q9, hp.q10, hp.q11, hp.q12, hp.q13, hp.q14, hp.q15, hp.q16, hp.q17, hp.q18, hp.q19, hp.q20, hp.q21, hp.q22, hp.q23, hp.q25, hp.q26, hp.q27, hp.q28, hp.q29, hp.q30, hp.q31, hp.q32, hp.q33, hp.q34, hp.q35, p_sees hp iv u k hk hu, b2i_t c2, one_ne0, brt, brf, aT, inR]
        · rw [b2i_f (fun z => z.1.1.elim c1 c4)]
          simp (disch := first | assumption | omega) only [b_107_20, b_107_27, b_107_30, b_107_42, b_107_67, kont_v, kont_n, kont_x, Nat.reduceAdd, ad_some, kd_some, ixa, and_true, true_and, and_self, eq_self, ne_eq, brT, brF, true_or, or_true, and_imp, hp.q0, hp.q1, hp.q2, hp.q3, hp.q4, hp.q5, hp.q6, hp.q7, hp.q8, hp.q9, hp.q10, hp.q11, hp.q12, hp.q13, hp.q14, hp.q15, hp.q16, hp.q17, hp.q18, hp.q19, hp.q20, hp.q21, hp.q22, hp.q23, hp.q25, hp.q26, hp.q27, hp.q28, hp.q29, hp.q30, hp.q31, hp.q32, hp.q33, hp.q34, hp.q35, p_sees hp iv u k hk hu, b2i_t c2, one_ne0, brt, brf, aT, inR]
    · rw [b2i_f (fun z => c3 z.2)]
      by_cases c1 : S 8 k 0 = u
      · simp (disch := first | assumption | omega) only [b_107_20, b_107_27, b_107_30, b_107_52, b_107_67, kont_v, kont_n, kont_x, Nat.reduceAdd, ad_some, kd_some, ixa, and_true, true_and, and_self, eq_self, ne_eq, brT, brF, true_or, or_true, and_imp, hp.q0, hp.q1, hp.q2, hp.q3, hp.q4, hp.q5, hp.q6, hp.q7, hp.q8, hp.q9, hp.q10, hp.q11, hp.q12, hp.q13, hp.q14, hp.q15, hp.q16, hp.q17, hp.q18, hp.q19, hp.q20, hp.q21, hp.q22, hp.q23, hp.q25, hp.q26, hp.q27, hp.q28, hp.q29, hp.q30, hp.q31, hp.q32, hp.q33, hp.q34, hp.q35, p_sees hp iv u k hk hu, b2i_t c2, one_ne0, brt, brf, aT, inR]
      · by_cases c4 : S 1 u 0 = 4
        · simp (disch := first | assumption | omega) only [b_107_20, b_107_27, b_107_30, b_107_42, b_107_52, b_107_67, kont_v, kont_n, kont_x, Nat.reduceAdd, ad_some, kd_some, ixa, and_true, true_and, and_self, eq_self, ne_eq, brT, brF, true_or, or_true, and_imp, hp.q0, hp.q1, hp.q2, hp.q3, hp.q4, hp.q5, hp.q6, hp.q7, hp.q8, hp.q9, hp.q10, hp.q11, hp.q12, hp.q13, hp.q14, hp.q15, hp.q16, hp.q17, hp.q18, hp.q19, hp.q20, hp.q21, hp.q22, hp.q23, hp.q25, hp.q26, hp.q27, hp.q28, hp.q29, hp.q30, hp.q31, hp.q32, hp.q33, hp.q34, hp.q35, p_sees hp iv u k hk hu, b2i_t c2, one_ne0, brt, brf, aT, inR]
        · simp (disch := first | assumption | omega) only [b_107_20, b_107_27, b_107_30, b_107_42, b_107_67, kont_v, kont_n, kont_x, Nat.reduceAdd, ad_some, kd_some, ixa, and_true, true_and, and_self, eq_self, ne_eq, brT, brF, true_or, or_true, and_imp, hp.q0, hp.q1, hp.q2, hp.q3, hp.q4, hp.q5, hp.q6, hp.q7, hp.q8, hp.q9, hp.q10, hp.q11, hp.q12, hp.q13, hp.q14, hp.q15, hp.q16, hp.q17, hp.q18, hp.q19, hp.q20, hp.q21, hp.q22, hp.q23, hp.q25, hp.q26, hp.q27, hp.q28, hp.q29, hp.q30, hp.q31, hp.q32, hp.q33, hp.q34, hp.q35, p_sees hp iv u k hk hu, b2i_t c2, one_ne0, brt, brf, aT, inR]
  · rw [b2i_f (fun z => c2 z.1.2)]
    simp (disch := first | assumption | omega) only [b_107_20, b_107_27, b_107_67, kont_v, kont_n, kont_x, Nat.reduceAdd, ad_some, kd_some, ixa, and_true, true_and, and_self, eq_self, ne_eq, brT, brF, true_or, or_true, and_imp, hp.q0, hp.q1, hp.q2, hp.q3, hp.q4, hp.q5, hp.q6, hp.q7, hp.q8, hp.q9, hp.q10, hp.q11, hp.q12, hp.q13, hp.q14, hp.q15, hp.q16, hp.q17, hp.q18, hp.q19, hp.q20, hp.q21, hp.q22, hp.q23, hp.q25, hp.q26, hp.q27, hp.q28, hp.q29, hp.q30, hp.q31, hp.q32, hp.q33, hp.q34, hp.q35, p_sees hp iv u k hk hu, b2i_f c2, brt, aT, inR]
theorem p_rmL (hi : Ij a) (on u x4 N : Int) (R : St) (h0 : Zh) (hQ : ∀ g x5, RepP a R g → EP a h0 a g 0 0 0 → WP 107 155 [some (zr (some (a 200 0))), some (zi on), some (zi u), some (zi 1), some (zi x4), some (zi x5), some (zi N)] [] g Q) (m : Nat) :
    ∀ (S : St) (t x6 : Int) (g : Zh), RepP a S g → Inv S → EP a h0 a g 0 0 0 → (t = -1 ∨ nt S t) → t < m → 0 ≤ x6 → x6 + m ≤ 1000 → rmS S m t = R → x6 + rmN S m t = N →
      WP 107 101 [some (zr (some (a 200 0))), some (zi on), some (zi u), some (zi 1), some (zi x4), some (zi t), some (zi x6)] [] g Q := by
  induction m with
  | zero =>
    intro S t x6 g hp iv ep ht hm h6 hb e1 e2
    have e3 : x6 = N := by rw [← e2]; show x6 = x6 + 0; omega
    have e4 : S = R := e1
    subst e3
    subst e4
    rw [b_107_101, brt (by omega)]
    exact hQ g t hp ep
  | succ m ih =>
    intro S t x6 g hp iv ep ht hm h6 hb e1 e2
    rw [rmS_s] at e1
    rw [rmN_s] at e2
    rcases ht with rfl | ht
    · rw [if_neg (fun z => z.1 rfl)] at e1 e2
      have e3 : x6 = N := by omega
      subst e3
      subst e1
      rw [b_107_101, brt (by omega)]
      exact hQ g _ hp ep
    · have k1 := ht.1
      have k2 := ht.2
      have l5 := hp.qM iv t ht
      rw [b_107_101, brf (by omega)]
      by_cases c1 : S 12 t 0 = 1
      · by_cases c2 : RP S t = 0
        · have c : rmG S t := ⟨by omega, c1, c2⟩
          rw [if_pos c] at e1 e2
          have hp2 := hp.w12 hi (ItP_of iv) t 2
          have iv2 := inv_rmG iv ht c
          have ep2 := (ep.trans (EP.row (h := g) (f := 206) (i := t) (j := 4) (x := 2) hi (by omega))).le (d2 := 0) (c2 := 0) (s2 := 0) (by omega) (by omega) (by omega)
          have hpar : S 10 t 0 = -1 ∨ nt S (S 10 t 0) := by
            rcases iv_par iv ht with q | q
            · exact .inl q.1
            · exact .inr q.1
          have hlt : S 10 t 0 < t := by
            rcases iv_par iv ht with q | q
            · omega
            · exact q.2.1
          simp (disch := first | assumption | omega) only [b_107_106, b_107_119, b_107_125, b_107_128, b_107_138, kont_v, kont_n, kont_x, Nat.reduceAdd, ad_some, kd_some, ixa, and_true, true_and, and_self, eq_self, ne_eq, brT, brF, true_or, or_true, and_imp, hp.q0, hp.q1, hp.q2, hp.q3, hp.q4, hp.q5, hp.q6, hp.q7, hp.q8, hp.q9, hp.q10, hp.q11, hp.q12, hp.q13, hp.q14, hp.q15, hp.q16, hp.q17, hp.q18, hp.q19, hp.q20, hp.q21, hp.q22, hp.q23, hp.q25, hp.q26, hp.q27, hp.q28, hp.q29, hp.q30, hp.q31, hp.q32, hp.q33, hp.q34, hp.q35, p_replies hp iv t, brt, aT, inR, gK_pI, gL_pI, gR_pI, gI_pI, and_false, if_false, Int.reduceEq]
          exact ih _ (S 10 t 0) (x6 + 1) _ hp2 iv2 ep2 hpar (by omega) (by omega) (by omega) e1 (by omega)
        · rw [if_neg (fun z => c2 z.2.2)] at e1 e2
          have e3 : x6 = N := by omega
          subst e3
          subst e1
          simp (disch := first | assumption | omega) only [b_107_106, b_107_119, b_107_125, kont_v, kont_n, kont_x, Nat.reduceAdd, ad_some, kd_some, ixa, and_true, true_and, and_self, eq_self, ne_eq, brT, brF, true_or, or_true, and_imp, hp.q0, hp.q1, hp.q2, hp.q3, hp.q4, hp.q5, hp.q6, hp.q7, hp.q8, hp.q9, hp.q10, hp.q11, hp.q12, hp.q13, hp.q14, hp.q15, hp.q16, hp.q17, hp.q18, hp.q19, hp.q20, hp.q21, hp.q22, hp.q23, hp.q25, hp.q26, hp.q27, hp.q28, hp.q29, hp.q30, hp.q31, hp.q32, hp.q33, hp.q34, hp.q35, p_replies hp iv t, brt, brf, aT, inR]
          exact hQ g _ hp ep
      · rw [if_neg (fun z => c1 z.2.1)] at e1 e2
        have e3 : x6 = N := by omega
        subst e3
        subst e1
        simp (disch := first | assumption | omega) only [b_107_106, kont_v, kont_n, kont_x, Nat.reduceAdd, ad_some, kd_some, ixa, and_true, true_and, and_self, eq_self, ne_eq, brT, brF, true_or, or_true, and_imp, hp.q0, hp.q1, hp.q2, hp.q3, hp.q4, hp.q5, hp.q6, hp.q7, hp.q8, hp.q9, hp.q10, hp.q11, hp.q12, hp.q13, hp.q14, hp.q15, hp.q16, hp.q17, hp.q18, hp.q19, hp.q20, hp.q21, hp.q22, hp.q23, hp.q25, hp.q26, hp.q27, hp.q28, hp.q29, hp.q30, hp.q31, hp.q32, hp.q33, hp.q34, hp.q35, brf, aT, inR]
        exact hQ g _ hp ep
theorem p_remove (j : JP a S h) (hD : gI h (a 200 0) 2 ≤ 900000) (rc : gC h + 1 ≤ MXC) (rs : gS h + 6 ≤ MXS) (k : PKt a h Q) : WP 107 0 [some (zr (some (a 200 0))), none, none, none, none, none, none] [] h Q := by
  obtain ⟨jq, xv⟩ := j
  have iv := jq.2.2.2
  have hi := jq.1
  obtain ⟨u0, u1⟩ := iv.1.1
  have x2 := xv.1.2
  rw [b_107_0]
  refine ⟨(kd_some _ _ _).mpr jq.2.2.1.q0, ?_⟩
  refine p_any jq (by omega) (fun on g1 hon j1 l1 => ?_)
  have d1 := l1.2.2.2.1
  rw [kont_v]
  show WP 107 4 _ _ _ _
  rw [b_107_4]
  rcases hon with rfl | ⟨hk, hg⟩
  · rw [brf (by omega), b_107_9]
    exact ⟨by omega, k a S g1 ⟨j1, xv⟩ (l1.le (by omega) (by omega) (by omega))⟩
  have hk1 := hk.1
  have hk2 := hk.2
  rw [brt hk.1]
  have hp := j1.2.2.1
  simp (disch := first | assumption | omega) only [b_107_11, kont_v, kont_n, kont_x, Nat.reduceAdd, ad_some, kd_some, ixa, and_true, true_and, and_self, eq_self, ne_eq, brT, brF, true_or, or_true, and_imp, hp.q0, hp.q1, hp.q2, hp.q3, hp.q4, hp.q5, hp.q6, hp.q7, hp.q8, hp.q9, hp.q10, hp.q11, hp.q12, hp.q13, hp.q14, hp.q15, hp.q16, hp.q17, hp.q18, hp.q19, hp.q20, hp.q21, hp.q22, hp.q23, hp.q25, hp.q26, hp.q27, hp.q28, hp.q29, hp.q30, hp.q31, hp.q32, hp.q33, hp.q34, hp.q35, aT, inR]
  refine w_draw j1 _ (by omega) (by omega) (fun u g2 v0 v1 j2 l2 => ?_)
  rw [kont_v]
  show WP 107 20 _ _ _ _
  have hp := j2.2.2.1
  have hr := j2.2.1
  rw [p_remMay hp iv u on hk ⟨v0, v1⟩, b_107_68]
  refine ⟨(kd_some _ _ _).mpr hp.q0, ?_⟩
  rw [ad_some, hp.q1]
  refine ⟨(kd_some _ _ _).mpr hr.A.1, ?_⟩
  have elx := l1.trans l2
  have ec := elx.2.2.2.2.1
  have es := elx.2.2.2.2.2
  refine c_remove hi hr iv u on ?_
  rw [brt ⟨v0, v1⟩, brt ⟨hk, hg⟩]
  by_cases M : ((S 8 on 0 = u ∨ S 1 u 0 = 4) ∧ SE S u (S 1 u 0) (S 11 on 0)) ∧ S 12 on 0 = 0
  · rw [brt M, b2i_t M]
    intro b g6 hrw ecw
    rw [kont_v]
    show WP 107 78 _ _ _ _
    have iv1 : Inv (su S 12 on 0 1) := inv_st iv hk (.inr (.inl rfl)) (by omega) (fun z => absurd z (by decide))
    have ivT : Inv (Srem S on) := rmS_inv 61 _ on iv1 (.inr hk)
    have hpw := hp.ec iv ecw
    have elw := ecw.el hp
    have ib := ecw.1
    have hp := hpw
    have l5 := hp.qM iv on hk
    rw [← elw.2.1, b_107_78, brf one_ne0']
    have hp2 := hpw.w12 ib (ItP_of iv) on 1
    have n61 := nt_b iv hk
    simp (disch := first | assumption | omega) only [b_107_86, b_107_95, kont_v, kont_n, kont_x, Nat.reduceAdd, ad_some, kd_some, ixa, and_true, true_and, and_self, eq_self, ne_eq, brT, brF, true_or, or_true, and_imp, hp.q0, hp.q1, hp.q2, hp.q3, hp.q4, hp.q5, hp.q6, hp.q7, hp.q8, hp.q9, hp.q10, hp.q11, hp.q12, hp.q13, hp.q14, hp.q15, hp.q16, hp.q17, hp.q18, hp.q19, hp.q20, hp.q21, hp.q22, hp.q23, hp.q25, hp.q26, hp.q27, hp.q28, hp.q29, hp.q30, hp.q31, hp.q32, hp.q33, hp.q34, hp.q35, aT, inR]
    refine p_rmL ib on u (Nrem S on) (Nrem S on) (Srem S on) _ (fun g x5 hp3 ep3 => ?_) 61 (su S 12 on 0 1) on 0 _ hp2 iv1 (EP.rfl ib) (.inr hk) (by omega) (by omega) (by omega) rfl (by unfold Nrem; omega)
    have hr3 : RepC b (Srem S on) g := (hrw.fr (Fr_pI ib (P := fun f => f < 100) (by omega)) (fun f h1 => h1)).ep ep3
    have e0 := (EP.row (h := g6) (f := 206) (i := on) (j := 4) (x := 1) ib (by omega)).el
    rw [b_107_155, brt rfl, b_107_162, b_107_167]
    exact ⟨by omega, k b _ g ⟨⟨ib, hr3, hp3, ivT⟩, xv_remove iv xv hk M.2⟩ ((((elx.trans elw).trans e0).trans ep3.el).le (by omega) (by omega) (by omega))⟩
  · rw [brf M, b2i_f M]
    unfold thr
    refine ⟨⟨by omega, by omega⟩, ?_⟩
    rw [kont_c]
    intro q
    rw [b_107_168, brt rfl, b_107_174, b_107_179]
    exact ⟨by omega, k a S _ ⟨j2.tk, xv⟩ ((elx.trans EL.tk).le (by omega) (by omega) (by omega))⟩
theorem p_hlL (hi : Ij a) (N : Int) (R : St) (h0 : Zh) (hQ : ∀ g x2, RepP a R g → EP a h0 a g 0 0 0 → WP 113 102 [some (zr (some (a 200 0))), some (zi N), some (zi x2)] [] g Q) (m : Nat) :
    ∀ (S : St) (k x1 : Int) (g : Zh), RepP a S g → Inv S → EP a h0 a g 0 0 0 → 0 ≤ k → m = (S 7 0 0 - k).toNat → 0 ≤ x1 → x1 ≤ k → hlS S m k = R → x1 + hlN S m k = N →
      WP 113 4 [some (zr (some (a 200 0))), some (zi x1), some (zi k)] [] g Q := by
  induction m with
  | zero =>
    intro S k x1 g hp iv ep h1 hm h3 h4 e1 e2
    have e3 : x1 = N := by rw [← e2]; show x1 = x1 + 0; omega
    have e4 : S = R := e1
    subst e3
    subst e4
    rw [b_113_4]
    simp (disch := first | assumption | omega) only [kont_v, kont_n, kont_x, Nat.reduceAdd, ad_some, kd_some, ixa, and_true, true_and, and_self, eq_self, ne_eq, brT, brF, true_or, or_true, and_imp, hp.q0, hp.q1, hp.q2, hp.q3, hp.q4, hp.q5, hp.q6, hp.q7, hp.q8, hp.q9, hp.q10, hp.q11, hp.q12, hp.q13, hp.q14, hp.q15, hp.q16, hp.q17, hp.q18, hp.q19, hp.q20, hp.q21, hp.q22, hp.q23, hp.q25, hp.q26, hp.q27, hp.q28, hp.q29, hp.q30, hp.q31, hp.q32, hp.q33, hp.q34, hp.q35, brt, aT, inR]
    exact hQ g k hp ep
  | succ m ih =>
    intro S k x1 g hp iv ep h1 hm h3 h4 e1 e2
    obtain ⟨n0, n1⟩ := iv.2.2.1.1
    have hk : nt S k := ⟨h1, by omega⟩
    have l5 := hp.qM iv k hk
    have e1 : hlS (hl1 S k) m (k + 1) = R := e1
    have e2 : x1 + (b2i (hlC S k) + hlN (hl1 S k) m (k + 1)) = N := e2
    rw [b_113_4]
    by_cases c1 : S 11 k 0 = k ∧ S 12 k 0 ≠ 2
    · have hh : hd S k := ⟨hk, c1.1⟩
      have hI : ∀ Q, WP 112 0 [some (zr (some (a 200 0))), some (zi k)] [] g Q = Q (.inl (some (zi 1))) g := fun Q => by rw [p_isHead hp iv k hk, b2i_t c1]
      have lh := hp.qL iv _ hh
      obtain ⟨f1, -, -, -, -, l9, -⟩ := iv.2.2.1.2.2.2.1 _ hh
      obtain ⟨u0, u1⟩ := iv.2.1.1
      obtain ⟨u2, u3⟩ := iv.2.1.2.1 (S 2 0 0) u0 (Int.le_refl _)
      by_cases c2 : S 13 k 0 < S 14 k 0
      · have nc : ¬ hlC S k := fun z => by have := z.2.1; omega
        rw [b2i_f nc] at e2
        unfold hl1 at e1 e2
        rw [if_neg nc] at e1 e2
        simp (disch := first | assumption | omega) only [b_113_13, b_113_18, b_113_21, b_113_96, kont_v, kont_n, kont_x, Nat.reduceAdd, ad_some, kd_some, ixa, and_true, true_and, and_self, eq_self, ne_eq, brT, brF, true_or, or_true, and_imp, hp.q0, hp.q1, hp.q2, hp.q3, hp.q4, hp.q5, hp.q6, hp.q7, hp.q8, hp.q9, hp.q10, hp.q11, hp.q12, hp.q13, hp.q14, hp.q15, hp.q16, hp.q17, hp.q18, hp.q19, hp.q20, hp.q21, hp.q22, hp.q23, hp.q25, hp.q26, hp.q27, hp.q28, hp.q29, hp.q30, hp.q31, hp.q32, hp.q33, hp.q34, hp.q35, hI, one_ne0, brt, brf, aT, inR]
        exact ih S (k + 1) x1 g hp iv ep (by omega) (by omega) (by omega) (by omega) e1 (by omega)
      · by_cases c3 : FD S k = -1
        · have nc : ¬ hlC S k := fun z => z.2.2 c3
          rw [b2i_f nc] at e2
          unfold hl1 at e1 e2
          rw [if_neg nc] at e1 e2
          simp (disch := first | assumption | omega) only [b_113_13, b_113_18, b_113_21, b_113_41, b_113_46, b_113_49, b_113_96, kont_v, kont_n, kont_x, Nat.reduceAdd, ad_some, kd_some, ixa, and_true, true_and, and_self, eq_self, ne_eq, brT, brF, true_or, or_true, and_imp, hp.q0, hp.q1, hp.q2, hp.q3, hp.q4, hp.q5, hp.q6, hp.q7, hp.q8, hp.q9, hp.q10, hp.q11, hp.q12, hp.q13, hp.q14, hp.q15, hp.q16, hp.q17, hp.q18, hp.q19, hp.q20, hp.q21, hp.q22, hp.q23, hp.q25, hp.q26, hp.q27, hp.q28, hp.q29, hp.q30, hp.q31, hp.q32, hp.q33, hp.q34, hp.q35, hI, p_found hp iv k hh, one_ne0, brt, brf, aT, inR]
          exact ih S (k + 1) x1 g hp iv ep (by omega) (by omega) (by omega) (by omega) e1 (by omega)
        · have nc : hlC S k := ⟨c1, by omega, c3⟩
          have b := FD_b iv hh c3
          have iv2 := hl1_inv iv hk
          rw [b2i_t nc] at e2
          unfold hl1 at e1 e2 iv2
          rw [if_pos nc] at e1 e2 iv2
          have it0 := ItP_of iv
          have hp2 := (hp.w13 hi it0 k (FD S k)).w14 hi it0 k (FD S k + S 19 k 0)
          have ep2 := ((ep.trans (EP.row (h := g) (f := 206) (i := k) (j := 5) (x := FD S k) hi (by omega))).trans (EP.row (f := 206) (i := k) (j := 6) (x := FD S k + S 19 k 0) hi (by omega))).le (d2 := 0) (c2 := 0) (s2 := 0) (by omega) (by omega) (by omega)
          have e9 : FD S k + (11 + S 19 k 0) - 11 = FD S k + S 19 k 0 := by omega
          simp (disch := first | assumption | omega) only [b_113_13, b_113_18, b_113_21, b_113_41, b_113_46, b_113_52, b_113_64, b_113_65, b_113_93, b_113_96, kont_v, kont_n, kont_x, Nat.reduceAdd, ad_some, kd_some, ixa, and_true, true_and, and_self, eq_self, ne_eq, brT, brF, true_or, or_true, and_imp, hp.q0, hp.q1, hp.q2, hp.q3, hp.q4, hp.q5, hp.q6, hp.q7, hp.q8, hp.q9, hp.q10, hp.q11, hp.q12, hp.q13, hp.q14, hp.q15, hp.q16, hp.q17, hp.q18, hp.q19, hp.q20, hp.q21, hp.q22, hp.q23, hp.q25, hp.q26, hp.q27, hp.q28, hp.q29, hp.q30, hp.q31, hp.q32, hp.q33, hp.q34, hp.q35, hI, p_found hp iv k hh, one_ne0, brt, brf, aT, inR, gK_pI, gL_pI, gR_pI, gI_pI, and_self, if_true, lh, e9]
          exact ih _ (k + 1) (x1 + 1) _ hp2 iv2 ep2 (by omega) (by show m = (S 7 0 0 - (k + 1)).toNat; omega) (by omega) (by omega) e1 (by omega)
    · have nc : ¬ hlC S k := fun z => c1 z.1
      have hI : ∀ Q, WP 112 0 [some (zr (some (a 200 0))), some (zi k)] [] g Q = Q (.inl (some (zi 0))) g := fun Q => by rw [p_isHead hp iv k hk, b2i_f c1]
      rw [b2i_f nc] at e2
      unfold hl1 at e1 e2
      rw [if_neg nc] at e1 e2
      simp (disch := first | assumption | omega) only [b_113_13, b_113_18, b_113_96, kont_v, kont_n, kont_x, Nat.reduceAdd, ad_some, kd_some, ixa, and_true, true_and, and_self, eq_self, ne_eq, brT, brF, true_or, or_true, and_imp, hp.q0, hp.q1, hp.q2, hp.q3, hp.q4, hp.q5, hp.q6, hp.q7, hp.q8, hp.q9, hp.q10, hp.q11, hp.q12, hp.q13, hp.q14, hp.q15, hp.q16, hp.q17, hp.q18, hp.q19, hp.q20, hp.q21, hp.q22, hp.q23, hp.q25, hp.q26, hp.q27, hp.q28, hp.q29, hp.q30, hp.q31, hp.q32, hp.q33, hp.q34, hp.q35, hI, brt, brf, aT, inR]
      exact ih S (k + 1) x1 g hp iv ep (by omega) (by omega) (by omega) (by omega) e1 (by omega)
theorem p_heal (j : JP a S h) (k : PKt a h Q) : WP 113 0 [some (zr (some (a 200 0))), none, none] [] h Q := by
  obtain ⟨jq, xv⟩ := j
  obtain ⟨hi, hr, hp, iv⟩ := jq
  rw [b_113_0]
  refine p_hlL hi (hlN S (S 7 0 0).toNat 0) (hlS S (S 7 0 0).toNat 0) h (fun g x2 hp2 ep2 => ?_) (S 7 0 0).toNat S 0 0 h hp iv (EP.rfl hi) (by omega) (by omega) (by omega) (by omega) rfl (by omega)
  have hr2 := hr.ep ep2
  have ivT := hlS_inv (S 7 0 0).toNat S 0 iv (by omega) (by omega)
  rw [b_113_102]
  refine ⟨(kd_some _ _ _).mpr hp2.q0, ?_⟩
  rw [ad_some, hp2.q1]
  refine ⟨(kd_some _ _ _).mpr hr2.A.1, ?_⟩
  refine c_heal hi hr2 iv (fun b g6 hrw ecw => ?_)
  rw [kont_v]
  show WP 113 109 _ _ _ _
  have hpw := hp2.ec ivT ecw
  have elw := ecw.el hp2
  rw [b_113_109, brt rfl, b_113_113, b_113_118]
  exact ⟨by omega, k b _ g6 ⟨⟨ecw.1, hrw, hpw, ivT⟩, xv_heal xv _ _⟩ ((ep2.el.trans elw).le (by omega) (by omega) (by omega))⟩
end
