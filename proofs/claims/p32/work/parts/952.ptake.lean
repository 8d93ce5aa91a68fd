/-! THE PAGE: take -/
section
variable {a b : Na} {S T : St} {h g : Zh} {Q : Zp}
theorem p_takMay (hp : RepP a S h) (iv : Inv S) (u k : Int) (hh : hd S k) (hu : 0 ≤ u ∧ u < S 0 0 0) : WP 109 31 [some (zr (some (a 200 0))), some (zi k), none, none, none, none, none, none] [zi u] h Q = WP 109 127 [some (zr (some (a 200 0))), some (zi k), some (zi u), some (zr (some (a 206 k))), some (zi (S 14 k 0 - S 13 k 0)), none, none, none] [zi (b2i ((3 ≤ S 1 u 0 ∧ SE S u (S 1 u 0) (S 11 k 0)) ∧ cnT S k))] h Q := by
  have hk := hh.1
  have k1 := hk.1
  have k2 := hk.2
  have lh := hp.qL iv k hh
  obtain ⟨v0, v1⟩ := iv.2.1.1
  obtain ⟨z0, z1⟩ := iv.2.1.2.1 (S 2 0 0) v0 (Int.le_refl _)
  obtain ⟨⟨f1, f2, f3⟩, -, ⟨f4, f5⟩, ⟨f6, f7⟩, -, ⟨f8, f9⟩, -⟩ := iv.2.2.1.2.2.2.1 k hh
  by_cases c1 : 3 ≤ S 1 u 0
  · by_cases c2 : SE S u (S 1 u 0) (S 11 k 0)
    · by_cases c3 : S 16 k 0 < 0
      · have nc : ¬ cnT S k := fun z => by have := z.1; omega
        rw [b2i_f (fun z => nc z.2)]
        simp (disch := first | assumption | omega) only [b_109_31, b_109_59, b_109_65, b_109_68, b_109_126, kont_v, kont_n, kont_x, Nat.reduceAdd, ad_some, kd_some, ixa, and_true, true_and, and_self, eq_self, ne_eq, brT, brF, true_or, or_true, and_imp, hp.q0, hp.q1, hp.q2, hp.q3, hp.q4, hp.q5, hp.q6, hp.q7, hp.q8, hp.q9, hp.q10, hp.q11, hp.q12, hp.q13, hp.q14, hp.q15, hp.q16, hp.q17, hp.q18, hp.q19, hp.q20, hp.q21, hp.q22, hp.q23, hp.q25, hp.q26, hp.q27, hp.q28, hp.q29, hp.q30, hp.q31, hp.q32, hp.q33, hp.q34, hp.q35, lh, p_sees hp iv u k hk hu, b2i_t c2, one_ne0, brt, brf, aT, inR]
      · by_cases c4 : S 14 k 0 - S 13 k 0 ≤ 0
        · have nc : ¬ cnT S k := fun z => by have := z.2.1; omega
          rw [b2i_f (fun z => nc z.2)]
          simp (disch := first | assumption | omega) only [b_109_31, b_109_59, b_109_65, b_109_68, b_109_75, b_109_126, kont_v, kont_n, kont_x, Nat.reduceAdd, ad_some, kd_some, ixa, and_true, true_and, and_self, eq_self, ne_eq, brT, brF, true_or, or_true, and_imp, hp.q0, hp.q1, hp.q2, hp.q3, hp.q4, hp.q5, hp.q6, hp.q7, hp.q8, hp.q9, hp.q10, hp.q11, hp.q12, hp.q13, hp.q14, hp.q15, hp.q16, hp.q17, hp.q18, hp.q19, hp.q20, hp.q21, hp.q22, hp.q23, hp.q25, hp.q26, hp.q27, hp.q28, hp.q29, hp.q30, hp.q31, hp.q32, hp.q33, hp.q34, hp.q35, lh, p_sees hp iv u k hk hu, b2i_t c2, one_ne0, brt, brf, aT, inR]
        · by_cases c5 : 200 < S 3 (S 2 0 0) 0 - (S 14 k 0 - S 13 k 0) + S 16 k 0
          · have nc : ¬ cnT S k := fun z => by have := z.2.2.1; omega
            rw [b2i_f (fun z => nc z.2)]
            simp (disch := first | assumption | omega) only [b_109_31, b_109_59, b_109_65, b_109_68, b_109_75, b_109_80, b_109_84, b_109_126, kont_v, kont_n, kont_x, Nat.reduceAdd, ad_some, kd_some, ixa, and_true, true_and, and_self, eq_self, ne_eq, brT, brF, true_or, or_true, and_imp, hp.q0, hp.q1, hp.q2, hp.q3, hp.q4, hp.q5, hp.q6, hp.q7, hp.q8, hp.q9, hp.q10, hp.q11, hp.q12, hp.q13, hp.q14, hp.q15, hp.q16, hp.q17, hp.q18, hp.q19, hp.q20, hp.q21, hp.q22, hp.q23, hp.q25, hp.q26, hp.q27, hp.q28, hp.q29, hp.q30, hp.q31, hp.q32, hp.q33, hp.q34, hp.q35, lh, p_text hp iv, p_sees hp iv u k hk hu, b2i_t c2, one_ne0, brt, brf, aT, inR]
          · by_cases c6 : S 16 k 0 ≤ 0
            · by_cases c7 : 60 < S 2 0 0 + 1 + 0
              · have nc : ¬ cnT S k := fun z => by have := z.2.2.2; rw [if_pos (by omega)] at this; omega
                rw [b2i_f (fun z => nc z.2)]
                simp (disch := first | assumption | omega) only [b_109_31, b_109_59, b_109_65, b_109_68, b_109_75, b_109_80, b_109_84, b_109_99, b_109_115, b_109_116, b_109_126, kont_v, kont_n, kont_x, Nat.reduceAdd, ad_some, kd_some, ixa, and_true, true_and, and_self, eq_self, ne_eq, brT, brF, true_or, or_true, and_imp, hp.q0, hp.q1, hp.q2, hp.q3, hp.q4, hp.q5, hp.q6, hp.q7, hp.q8, hp.q9, hp.q10, hp.q11, hp.q12, hp.q13, hp.q14, hp.q15, hp.q16, hp.q17, hp.q18, hp.q19, hp.q20, hp.q21, hp.q22, hp.q23, hp.q25, hp.q26, hp.q27, hp.q28, hp.q29, hp.q30, hp.q31, hp.q32, hp.q33, hp.q34, hp.q35, lh, p_text hp iv, p_sees hp iv u k hk hu, b2i_t c2, one_ne0, brt, brf, aT, inR]
              · have nc : cnT S k := ⟨by omega, by omega, by omega, by rw [if_pos (by omega)]; omega⟩
                rw [b2i_t ⟨⟨c1, c2⟩, nc⟩]
                simp (disch := first | assumption | omega) only [b_109_31, b_109_59, b_109_65, b_109_68, b_109_75, b_109_80, b_109_84, b_109_99, b_109_115, b_109_116, b_109_122, kont_v, kont_n, kont_x, Nat.reduceAdd, ad_some, kd_some, ixa, and_true, true_and, and_self, eq_self, ne_eq, brT, brF, true_or, or_true, and_imp, hp.q0, hp.q1, hp.q2, hp.q3, hp.q4, hp.q5, hp.q6, hp.q7, hp.q8, hp.q9, hp.q10, hp.q11, hp.q12, hp.q13, hp.q14, hp.q15, hp.q16, hp.q17, hp.q18, hp.q19, hp.q20, hp.q21, hp.q22, hp.q23, hp.q25, hp.q26, hp.q27, hp.q28, hp.q29, hp.q30, hp.q31, hp.q32, hp.q33, hp.q34, hp.q35, lh, p_text hp iv, p_sees hp iv u k hk hu, b2i_t c2, one_ne0, brt, brf, aT, inR]
            · by_cases c7 : 60 < S 2 0 0 + 1 + 1
              · have nc : ¬ cnT S k := fun z => by have := z.2.2.2; rw [if_neg (by omega)] at this; omega
                rw [b2i_f (fun z => nc z.2)]
                simp (disch := first | assumption | omega) only [b_109_31, b_109_59, b_109_65, b_109_68, b_109_75, b_109_80, b_109_84, b_109_99, b_109_111, b_109_116, b_109_126, kont_v, kont_n, kont_x, Nat.reduceAdd, ad_some, kd_some, ixa, and_true, true_and, and_self, eq_self, ne_eq, brT, brF, true_or, or_true, and_imp, hp.q0, hp.q1, hp.q2, hp.q3, hp.q4, hp.q5, hp.q6, hp.q7, hp.q8, hp.q9, hp.q10, hp.q11, hp.q12, hp.q13, hp.q14, hp.q15, hp.q16, hp.q17, hp.q18, hp.q19, hp.q20, hp.q21, hp.q22, hp.q23, hp.q25, hp.q26, hp.q27, hp.q28, hp.q29, hp.q30, hp.q31, hp.q32, hp.q33, hp.q34, hp.q35, lh, p_text hp iv, p_sees hp iv u k hk hu, b2i_t c2, one_ne0, brt, brf, aT, inR]
              · have nc : cnT S k := ⟨by omega, by omega, by omega, by rw [if_neg (by omega)]; omega⟩
                rw [b2i_t ⟨⟨c1, c2⟩, nc⟩]
                simp (disch := first | assumption | omega) only [b_109_31, b_109_59, b_109_65, b_109_68, b_109_75, b_109_80, b_109_84, b_109_99, b_109_111, b_109_116, b_109_122, kont_v, kont_n, kont_x, Nat.reduceAdd, ad_some, kd_some, ixa, and_true, true_and, and_self, eq_self, ne_eq, brT, brF, true_or, or_true, and_imp, hp.q0, hp.q1, hp.q2, hp.q3, hp.q4, hp.q5, hp.q6, hp.q7, hp.q8, hp.q9, hp.q10, hp.q11, hp.q12, hp.q13, hp.q14, hp.q15, hp.q16, hp.q17, hp.q18, hp.q19, hp.q20, hp.q21, hp.q22, hp.q23, hp.q25, hp.q26, hp.q27, hp.q28, hp.q29, hp.q30, hp.q31, hp.q32, hp.q33, hp.q34, hp.q35, lh, p_text hp iv, p_sees hp iv u k hk hu, b2i_t c2, one_ne0, brt, brf, aT, inR]
    · rw [b2i_f (fun z => c2 z.1.2)]
      simp (disch := first | assumption | omega) only [b_109_31, b_109_59, b_109_65, b_109_126, kont_v, kont_n, kont_x, Nat.reduceAdd, ad_some, kd_some, ixa, and_true, true_and, and_self, eq_self, ne_eq, brT, brF, true_or, or_true, and_imp, hp.q0, hp.q1, hp.q2, hp.q3, hp.q4, hp.q5, hp.q6, hp.q7, hp.q8, hp.q9, hp.q10, hp.q11, hp.q12, hp.q13, hp.q14, hp.q15, hp.q16, hp.q17, hp.q18, hp.q19, hp.q20, hp.q21, hp.q22, hp.q23, hp.q25, hp.q26, hp.q27, hp.q28, hp.q29, hp.q30, hp.q31, hp.q32, hp.q33, hp.q34, hp.q35, lh, p_sees hp iv u k hk hu, b2i_f c2, brt, brf, aT, inR]
  · rw [b2i_f (fun z => c1 z.1.1)]
    simp (disch := first | assumption | omega) only [b_109_31, b_109_126, kont_v, kont_n, kont_x, Nat.reduceAdd, ad_some, kd_some, ixa, and_true, true_and, and_self, eq_self, ne_eq, brT, brF, true_or, or_true, and_imp, hp.q0, hp.q1, hp.q2, hp.q3, hp.q4, hp.q5, hp.q6, hp.q7, hp.q8, hp.q9, hp.q10, hp.q11, hp.q12, hp.q13, hp.q14, hp.q15, hp.q16, hp.q17, hp.q18, hp.q19, hp.q20, hp.q21, hp.q22, hp.q23, hp.q25, hp.q26, hp.q27, hp.q28, hp.q29, hp.q30, hp.q31, hp.q32, hp.q33, hp.q34, hp.q35, lh, brt, aT, inR]
/-- behind the text's changes -/
theorem p_tkE (hi : Ij b) (hp : RepP b T g) (iv : Inv T) (k f n u z : Int) (hh : hd T k) (e16 : T 16 k 0 = n) (hf : 0 ≤ f ∧ f ≤ 200) (hn : 0 ≤ n ∧ n ≤ 40) (ivR : Inv (su (su (su (su T 13 k 0 f) 14 k 0 (f + n)) 18 k 0 1) 16 k 0 (-1)))
    (hQ : ∀ g2, RepP b (su (su (su (su T 13 k 0 f) 14 k 0 (f + n)) 18 k 0 1) 16 k 0 (-1)) g2 → EP b g b g2 0 0 0 → Q (.inl (some (zi 1))) g2) :
    WP 109 181 [some (zr (some (b 200 0))), some (zi k), some (zi u), some (zr (some (b 206 k))), some (zi z), some (zi 1), some (zi (T 3 (T 2 0 0) 0)), some (zi f)] [] g Q := by
  have hk := hh.1
  have lh := hp.qL iv k hh
  obtain ⟨v0, v1⟩ := iv.2.1.1
  have l9 := (iv.2.2.1.2.2.2.1 _ hh).2.2.2.2.2.1.1
  have it0 := ItP_of iv
  subst e16
  have q16 := hp.q33 k hh
  have hp2 := (((hp.w13 hi it0 k f).w14 hi it0 k (f + T 16 k 0)).w18 hi it0 k 1).w16 hi it0 k (-1)
  have ep2 : EP b g b (pI (pI (pI (pI g (b 206 k) 5 f) (b 206 k) 6 (f + T 16 k 0)) (b 206 k) 8 1) (b 206 k) 9 (-1)) 0 0 0 := ((((EP.row hi (by omega)).trans (EP.row hi (by omega))).trans (EP.row hi (by omega))).trans (EP.row hi (by omega))).le (by omega) (by omega) (by omega)
  have fn := hQ _ hp2 ep2
  simp (disch := first | assumption | omega) only [b_109_181, b_109_186, b_109_197, b_109_202, kont_v, kont_n, kont_x, Nat.reduceAdd, ad_some, kd_some, ixa, and_true, true_and, and_self, eq_self, ne_eq, brT, brF, true_or, or_true, and_imp, hp.q0, hp.q1, hp.q2, hp.q3, hp.q4, hp.q5, hp.q6, hp.q7, hp.q8, hp.q9, hp.q10, hp.q11, hp.q12, hp.q13, hp.q14, hp.q15, hp.q16, hp.q17, hp.q18, hp.q19, hp.q20, hp.q21, hp.q22, hp.q23, hp.q25, hp.q26, hp.q27, hp.q28, hp.q29, hp.q30, hp.q31, hp.q32, hp.q33, hp.q34, hp.q35, lh, q16, aT, inR, gK_pI, gL_pI, gR_pI, gI_pI, and_false, if_false, Int.reduceEq]
  revert hp2 fn
  generalize pI (pI (pI (pI g (b 206 k) 5 f) (b 206 k) 6 (f + T 16 k 0)) (b 206 k) 8 1) (b 206 k) 9 (-1) = g2
  intro hp2 fn
  have k14 : gK g2 (b 203 (T 2 0 0)) = 14 := hp2.q14 (T 2 0 0) v0 (Int.le_refl _)
  have l15 : gL g2 (b 203 (T 2 0 0)) = T 3 (T 2 0 0) 0 := hp2.q15
  have tx : ∀ Q, WP 92 0 [some (zr (some (b 200 0)))] [] g2 Q = Q (.inl (some (zr (some (b 203 (T 2 0 0)))))) g2 := fun Q => by
    have z := p_text (Q := Q) hp2 ivR
    exact z
  have hp0 := hp2.q0
  simp (disch := first | assumption | omega) only [b_109_207, b_109_213, b_109_217, b_109_222, kont_v, kont_n, kont_x, Nat.reduceAdd, ad_some, kd_some, ixa, and_true, true_and, and_self, eq_self, ne_eq, brT, brF, true_or, or_true, and_imp, hp0, tx, k14, l15, brt, aT, inR, oz01]
  exact fn
theorem p_take (j : JP a S h) (hD : gI h (a 200 0) 2 ≤ 900000) (rc : gC h + 200 ≤ MXC) (rs : gS h + 20000 ≤ MXS) (k : PKt a h Q) : WP 109 0 [some (zr (some (a 200 0))), none, none, none, none, none, none, none] [] h Q := by
  obtain ⟨jq, xv⟩ := j
  have iv := jq.2.2.2
  have hi := jq.1
  obtain ⟨u0, u1⟩ := iv.1.1
  have x2 := xv.1.2
  obtain ⟨w0, w1⟩ := iv.2.1.1
  obtain ⟨z0, z1⟩ := iv.2.1.2.1 (S 2 0 0) w0 (Int.le_refl _)
  rw [b_109_0]
  refine ⟨(kd_some _ _ _).mpr jq.2.2.1.q0, ?_⟩
  refine p_any jq (by omega) (fun on g1 hon j1 l1 => ?_)
  have d1 := l1.2.2.2.1
  rw [kont_v]
  show WP 109 4 _ _ _ _
  rw [b_109_4]
  have out : ∀ on, WP 109 20 [some (zr (some (a 200 0))), some (zi on), none, none, none, none, none, none] [] g1 Q := fun on => by
    rw [b_109_20]
    exact ⟨by omega, k a S g1 ⟨j1, xv⟩ (l1.le (by omega) (by omega) (by omega))⟩
  rcases hon with rfl | ⟨hk, hg⟩
  · rw [brt (by omega)]
    exact out _
  have hk1 := hk.1
  have hk2 := hk.2
  rw [brf (by omega)]
  have hp := j1.2.2.1
  have l5 := hp.qM iv on hk
  by_cases c : ¬ (S 10 on 0 < 0)
  · simp (disch := first | assumption | omega) only [b_109_9, kont_v, kont_n, kont_x, Nat.reduceAdd, ad_some, kd_some, ixa, and_true, true_and, and_self, eq_self, ne_eq, brT, brF, true_or, or_true, and_imp, hp.q0, hp.q1, hp.q2, hp.q3, hp.q4, hp.q5, hp.q6, hp.q7, hp.q8, hp.q9, hp.q10, hp.q11, hp.q12, hp.q13, hp.q14, hp.q15, hp.q16, hp.q17, hp.q18, hp.q19, hp.q20, hp.q21, hp.q22, hp.q23, hp.q25, hp.q26, hp.q27, hp.q28, hp.q29, hp.q30, hp.q31, hp.q32, hp.q33, hp.q34, hp.q35, brf, aT, inR]
    exact out _
  obtain ⟨t10, t11⟩ : S 10 on 0 = -1 ∧ S 11 on 0 = on := by
    rcases iv_par iv hk with q | q
    · exact q
    · have := q.1.1; omega
  have hh : hd S on := ⟨hk, t11⟩
  obtain ⟨⟨f1, f2, f3⟩, -, ⟨f4, f5⟩, ⟨f6, f7⟩, -, ⟨f8, f9⟩, -⟩ := iv.2.2.1.2.2.2.1 on hh
  simp (disch := first | assumption | omega) only [b_109_9, b_109_22, kont_v, kont_n, kont_x, Nat.reduceAdd, ad_some, kd_some, ixa, and_true, true_and, and_self, eq_self, ne_eq, brT, brF, true_or, or_true, and_imp, hp.q0, hp.q1, hp.q2, hp.q3, hp.q4, hp.q5, hp.q6, hp.q7, hp.q8, hp.q9, hp.q10, hp.q11, hp.q12, hp.q13, hp.q14, hp.q15, hp.q16, hp.q17, hp.q18, hp.q19, hp.q20, hp.q21, hp.q22, hp.q23, hp.q25, hp.q26, hp.q27, hp.q28, hp.q29, hp.q30, hp.q31, hp.q32, hp.q33, hp.q34, hp.q35, brt, aT, inR]
  refine w_draw j1 _ (by omega) (by omega) (fun u g2 v0 v1 j2 l2 => ?_)
  rw [kont_v]
  show WP 109 31 _ _ _ _
  have hp := j2.2.2.1
  have hr := j2.2.1
  rw [p_takMay hp iv u on hh ⟨v0, v1⟩, b_109_127]
  refine ⟨(kd_some _ _ _).mpr hp.q0, ?_⟩
  rw [ad_some, hp.q1]
  refine ⟨(kd_some _ _ _).mpr hr.A.1, ?_⟩
  have elx := l1.trans l2
  have ec := elx.2.2.2.2.1
  have es := elx.2.2.2.2.2
  refine c_take hi hr iv u on ?_
  rw [brt ⟨v0, v1⟩, brt ⟨hk, hg⟩, brt t11]
  by_cases M : (3 ≤ S 1 u 0 ∧ SE S u (S 1 u 0) (S 11 on 0)) ∧ cnT S on
  · rw [brt M, b2i_t M]
    intro b g6 hrw ecw
    rw [kont_v]
    show WP 109 138 _ _ _ _
    have ivT := inv_take iv hh M.2
    have hpw := hp.ec iv ecw
    have elw := ecw.el hp
    have ib := ecw.1
    obtain ⟨c1, c2, c3, c4⟩ := M.2
    have hv : S 2 0 0 < 60 := by split at c4 <;> omega
    have e6 : b 206 on = a 206 on := (ecw.2.1 206 on (by omega) (by rw [hp.q23 on hk]; omega)).1
    have ec6 := elw.2.2.2.2.1
    have es6 := elw.2.2.2.2.2
    have lh := hpw.qL iv on hh
    have q5 := hpw.q29 on hh
    have q23 := hpw.q23 on hk
    have q0 := hpw.q0
    rw [← elw.2.1, ← e6, b_109_138, brf one_ne0']
    simp (disch := first | assumption | omega) only [b_109_147, kont_v, kont_n, kont_x, Nat.reduceAdd, ad_some, kd_some, ixa, and_true, true_and, and_self, eq_self, ne_eq, brT, brF, true_or, or_true, and_imp, q0, q23, lh, q5, aT, inR]
    have iv7 := inv_cut iv (S 13 on 0) (S 14 on 0 - S 13 on 0) f1 (by omega) (by omega) hv
    refine p_cut ib hpw iv (by rw [hrw.A.1]; omega) (S 13 on 0) (S 14 on 0 - S 13 on 0) f1 (by omega) (by omega) hv (by omega) (by omega) (fun b7 g7 hp7 ep7 => ?_)
    rw [kont_n]
    show WP 109 160 _ _ _ _
    have hr7 := hrw.ep ep7
    have e67 : b7 206 on = b 206 on := (ep7.2.2.2.2.2.2.2.2 on (by rw [q23]; omega)).1
    have o16 : Scut S (S 13 on 0) (S 14 on 0 - S 13 on 0) 16 on 0 = S 16 on 0 := Scut_o _ _ _ _ _ _ (by omega)
    have o17 : Scut S (S 13 on 0) (S 14 on 0 - S 13 on 0) 17 on 0 = S 17 on 0 := Scut_o _ _ _ _ _ _ (by omega)
    have o2 : Scut S (S 13 on 0) (S 14 on 0 - S 13 on 0) 2 0 0 = S 2 0 0 + 1 := Scut_2 _ _ _
    have osz := Scut_sz S (S 13 on 0) (S 14 on 0 - S 13 on 0)
    have hh7 : hd (Scut S (S 13 on 0) (S 14 on 0 - S 13 on 0)) on := ⟨⟨hk1, by rw [Scut_o _ _ _ _ _ _ (by omega)]; exact hk2⟩, by rw [Scut_o _ _ _ _ _ _ (by omega)]; exact t11⟩
    have ivx := inv_tk iv hh M.2
    have szx := Stx_sz S on ⟨f4, c1⟩
    have x16 : Stx S on 16 on 0 = S 16 on 0 := Stx_o _ _ _ _ _ (by omega)
    have hhx : hd (Stx S on) on := ⟨⟨hk1, by rw [Stx_o _ _ _ _ _ (by omega)]; exact hk2⟩, by rw [Stx_o _ _ _ _ _ (by omega)]; exact t11⟩
    have fin : ∀ b8 g8, RepP b8 (Stx S on) g8 → EP b7 g7 b8 g8 0 81 8182 → WP 109 181 [some (zr (some (b8 200 0))), some (zi on), some (zi u), some (zr (some (b8 206 on))), some (zi (S 14 on 0 - S 13 on 0)), some (zi 1), some (zi (S 3 (S 2 0 0) 0 + (S 16 on 0 - (S 14 on 0 - S 13 on 0)))), some (zi (S 13 on 0))] [] g8 Q := fun b8 g8 hp8 ep8 => by
      rw [← szx]
      refine p_tkE ep8.1 hp8 ivx on (S 13 on 0) (S 16 on 0) u _ hhx x16 ⟨f1, by omega⟩ ⟨by omega, f5⟩ ivT (fun g9 hp9 ep9 => ?_)
      exact k b8 (Stake S on) g9 ⟨⟨ep8.1, (hr7.ep ep8).ep ep9, hp9, ivT⟩, xv_take iv xv hh M.2⟩ (((((elx.trans elw).trans ep7.el).trans ep8.el).trans ep9.el).le (by omega) (by omega) (by omega))
    have lh7 := hp7.qL iv7 on hh7
    have l97 := (iv7.2.2.1.2.2.2.1 _ hh7).2.2.2.2.2.1.1
    have q237 := hp7.q23 on hh7.1
    have q337 := hp7.q33 on hh7
    have q347 := hp7.q34 on hh7
    have q07 := hp7.q0
    rw [o16] at q337
    rw [o17] at q347
    rw [← e67, ← ep7.2.2.2.1]
    by_cases c9 : S 16 on 0 ≤ 0
    · have xe : Stx S on = Scut S (S 13 on 0) (S 14 on 0 - S 13 on 0) := by unfold Stx; rw [if_neg (by omega)]
      simp (disch := first | assumption | omega) only [b_109_160, kont_v, kont_n, kont_x, Nat.reduceAdd, ad_some, kd_some, ixa, and_true, true_and, and_self, eq_self, ne_eq, brT, brF, true_or, or_true, and_imp, q237, lh7, q337, brt, aT, inR]
      exact fin b7 g7 (by rw [xe]; exact hp7) ((EP.rfl ep7.1).le (by omega) (by omega) (by omega))
    · have xe : Stx S on = Sput (Scut S (S 13 on 0) (S 14 on 0 - S 13 on 0)) (S 13 on 0) (S 16 on 0) (S 17 on 0) := by unfold Stx; rw [if_pos (by omega)]
      simp (disch := first | assumption | omega) only [b_109_160, b_109_167, kont_v, kont_n, kont_x, Nat.reduceAdd, ad_some, kd_some, ixa, and_true, true_and, and_self, eq_self, ne_eq, brT, brF, true_or, or_true, and_imp, q07, q237, lh7, q337, q347, brf, aT, inR]
      rw [if_neg (by omega)] at c4
      have ec7 := ep7.2.2.2.2.2.2.1
      have es7 := ep7.2.2.2.2.2.2.2.1
      refine p_put ep7.1 hp7 iv7 (by rw [hr7.A.1]; omega) (S 13 on 0) (S 16 on 0) (S 17 on 0) ⟨f1, by rw [osz]; omega⟩ ⟨by omega, f5⟩ ⟨f6, f7⟩ (by rw [osz]; omega) (by rw [o2]; omega) (by omega) (by omega) (fun b8 g8 hp8 ep8 => ?_)
      rw [kont_n]
      show WP 109 181 _ _ _ _
      have e68 : b8 206 on = b7 206 on := (ep8.2.2.2.2.2.2.2.2 on (by rw [q237]; omega)).1
      rw [← ep8.2.2.2.1, ← e68]
      exact fin b8 g8 (by rw [xe]; exact hp8) ep8
  · rw [brf M, b2i_f M]
    unfold thr
    refine ⟨⟨by omega, by omega⟩, ?_⟩
    rw [kont_c]
    intro q
    rw [b_109_223, brt rfl, b_109_230, b_109_235]
    exact ⟨by omega, k a S _ ⟨j2.tk, xv⟩ ((elx.trans EL.tk).le (by omega) (by omega) (by omega))⟩
end
