/-! THE PAGE: note and reply -/
section
variable {a b : Na} {S T : St} {h g : Zh} {Q : Zp}
/-- a row that lies by, across a call of the class -/
theorem ec_211 (x : EC a h b g) {f : Nat} (hf : 100 ≤ f) (k : gK h (a f 0) ≠ 0) : b f 0 = a f 0 ∧ sm h g (a f 0) := x.2.1 f 0 hf k
theorem p_note (j : JP a S h) (hD : gI h (a 200 0) 2 ≤ 900000) (rc : gC h + 200 ≤ MXC) (rs : gS h + 20000 ≤ MXS) (k : PKt a h Q) : WP 102 0 [some (zr (some (a 200 0))), none, none, none, none, none, none, none, none, none, none] [] h Q := by
  obtain ⟨jq, xv⟩ := j
  have iv := jq.2.2.2
  have hi := jq.1
  obtain ⟨u0, u1⟩ := iv.1.1
  have x2 := xv.1.2
  obtain ⟨w0, w1⟩ := iv.2.1.1
  obtain ⟨z0, z1⟩ := iv.2.1.2.1 (S 2 0 0) w0 (Int.le_refl _)
  obtain ⟨n0, n1⟩ := iv.2.2.1.1
  have hp := jq.2.2.1
  simp (disch := first | assumption | omega) only [b_102_0, b_102_4, kont_v, kont_n, kont_x, Nat.reduceAdd, ad_some, kd_some, ixa, and_true, true_and, and_self, eq_self, ne_eq, brT, brF, true_or, or_true, and_imp, hp.q0, hp.q1, hp.q2, hp.q3, hp.q4, hp.q5, hp.q6, hp.q7, hp.q8, hp.q9, hp.q10, hp.q11, hp.q12, hp.q13, hp.q14, hp.q15, hp.q16, hp.q17, hp.q18, hp.q19, hp.q20, hp.q21, hp.q22, hp.q23, hp.q25, hp.q26, hp.q27, hp.q28, hp.q29, hp.q30, hp.q31, hp.q32, hp.q33, hp.q34, hp.q35, p_text hp iv, aT, inR]
  by_cases c0 : S 3 (S 2 0 0) 0 = 0
  · rw [brt c0, b_102_8]
    exact ⟨by omega, k a S h ⟨jq, xv⟩ (EL.rfl.le (by omega) (by omega) (by omega))⟩
  rw [brf c0]
  simp (disch := first | assumption | omega) only [b_102_10, kont_v, kont_n, kont_x, Nat.reduceAdd, ad_some, kd_some, ixa, and_true, true_and, and_self, eq_self, ne_eq, brT, brF, true_or, or_true, and_imp, hp.q0, hp.q1, hp.q2, hp.q3, hp.q4, hp.q5, hp.q6, hp.q7, hp.q8, hp.q9, hp.q10, hp.q11, hp.q12, hp.q13, hp.q14, hp.q15, hp.q16, hp.q17, hp.q18, hp.q19, hp.q20, hp.q21, hp.q22, hp.q23, hp.q25, hp.q26, hp.q27, hp.q28, hp.q29, hp.q30, hp.q31, hp.q32, hp.q33, hp.q34, hp.q35, aT, inR]
  refine w_draw jq _ (by omega) (by omega) (fun u g1 v0 v1 j1 l1 => ?_)
  have d1 := l1.2.2.2.1
  rw [kont_v]
  show WP 102 19 _ _ _ _
  have hp := j1.2.2.1
  simp (disch := first | assumption | omega) only [b_102_19, b_102_25, kont_v, kont_n, kont_x, Nat.reduceAdd, ad_some, kd_some, ixa, and_true, true_and, and_self, eq_self, ne_eq, brT, brF, true_or, or_true, and_imp, hp.q0, hp.q1, hp.q2, hp.q3, hp.q4, hp.q5, hp.q6, hp.q7, hp.q8, hp.q9, hp.q10, hp.q11, hp.q12, hp.q13, hp.q14, hp.q15, hp.q16, hp.q17, hp.q18, hp.q19, hp.q20, hp.q21, hp.q22, hp.q23, hp.q25, hp.q26, hp.q27, hp.q28, hp.q29, hp.q30, hp.q31, hp.q32, hp.q33, hp.q34, hp.q35, p_text hp iv, aT, inR]
  refine w_draw j1 _ (by omega) (by omega) (fun f g2 f0 f1 j2 l2 => ?_)
  have d2 := l2.2.2.2.1
  rw [kont_v]
  show WP 102 29 _ _ _ _
  have hp := j2.2.2.1
  simp (disch := first | assumption | omega) only [b_102_29, b_102_40, kont_v, kont_n, kont_x, Nat.reduceAdd, ad_some, kd_some, ixa, and_true, true_and, and_self, eq_self, ne_eq, brT, brF, true_or, or_true, and_imp, hp.q0, hp.q1, hp.q2, hp.q3, hp.q4, hp.q5, hp.q6, hp.q7, hp.q8, hp.q9, hp.q10, hp.q11, hp.q12, hp.q13, hp.q14, hp.q15, hp.q16, hp.q17, hp.q18, hp.q19, hp.q20, hp.q21, hp.q22, hp.q23, hp.q25, hp.q26, hp.q27, hp.q28, hp.q29, hp.q30, hp.q31, hp.q32, hp.q33, hp.q34, hp.q35, p_text hp iv, aT, inR]
  refine w_draw j2 _ (by split <;> omega) (by omega) (fun y g3 y0 y1 j3 l3 => ?_)
  have y2 : y < S 3 (S 2 0 0) 0 - f := by split at y1 <;> omega
  have d3 := l3.2.2.2.1
  rw [kont_v]
  show WP 102 49 _ _ _ _
  have hp := j3.2.2.1
  simp (disch := first | assumption | omega) only [b_102_49, kont_v, kont_n, kont_x, Nat.reduceAdd, ad_some, kd_some, ixa, and_true, true_and, and_self, eq_self, ne_eq, brT, brF, true_or, or_true, and_imp, hp.q0, hp.q1, hp.q2, hp.q3, hp.q4, hp.q5, hp.q6, hp.q7, hp.q8, hp.q9, hp.q10, hp.q11, hp.q12, hp.q13, hp.q14, hp.q15, hp.q16, hp.q17, hp.q18, hp.q19, hp.q20, hp.q21, hp.q22, hp.q23, hp.q25, hp.q26, hp.q27, hp.q28, hp.q29, hp.q30, hp.q31, hp.q32, hp.q33, hp.q34, hp.q35, aT, inR]
  refine w_draw j3 3 (by omega) (by omega) (fun v g4 v2 v3 j4 l4 => ?_)
  have d4 := l4.2.2.2.1
  rw [kont_v]
  show WP 102 56 _ _ _ _
  have hp := j4.2.2.1
  simp (disch := first | assumption | omega) only [b_102_56, kont_v, kont_n, kont_x, Nat.reduceAdd, ad_some, kd_some, ixa, and_true, true_and, and_self, eq_self, ne_eq, brT, brF, true_or, or_true, and_imp, hp.q0, hp.q1, hp.q2, hp.q3, hp.q4, hp.q5, hp.q6, hp.q7, hp.q8, hp.q9, hp.q10, hp.q11, hp.q12, hp.q13, hp.q14, hp.q15, hp.q16, hp.q17, hp.q18, hp.q19, hp.q20, hp.q21, hp.q22, hp.q23, hp.q25, hp.q26, hp.q27, hp.q28, hp.q29, hp.q30, hp.q31, hp.q32, hp.q33, hp.q34, hp.q35, aT, inR]
  refine w_draw j4 1000 (by omega) (by omega) (fun c g5 c1 c2 j5 l5 => ?_)
  rw [kont_v]
  show WP 102 65 _ _ _ _
  have hp := j5.2.2.1
  have elx := (((l1.trans l2).trans l3).trans l4).trans l5
  have ecx := elx.2.2.2.2.1
  have esx := elx.2.2.2.2.2
  rw [p_ntMay hp iv u f (f + 1 + y) v c ⟨v0, v1⟩]
  refine p_ntMk j5 u f (f + 1 + y) v c _ _ ⟨v0, v1⟩ ⟨f0, by omega, by omega⟩ ⟨v2, by omega⟩ ⟨c1, by omega⟩ (by rw [b2i_01]; trivial) rfl (by omega) (by omega) (fun b g6 r9 j6 l6 k6 m6 i6 t6 => ?_)
  have hp := j6.2.2.1
  have hr := j6.2.1
  have ib := j6.1
  have el6 := elx.trans l6
  have ec6 := el6.2.2.2.2.1
  have es6 := el6.2.2.2.2.2
  rw [b_102_220]
  refine ⟨(kd_some _ _ _).mpr hp.q0, ?_⟩
  rw [ad_some, hp.q1]
  refine ⟨(kd_some _ _ _).mpr hr.A.1, ?_⟩
  refine c_note ib hr iv (by omega) (by omega) u f (f + 1 + y) v c ?_
  rw [brt ⟨v0, v1⟩, brt ⟨⟨f0, by omega, by omega⟩, ⟨v2, by omega⟩, c1, by omega⟩]
  by_cases M : 2 ≤ S 1 u 0 ∧ S 7 0 0 < 60
  · rw [brt M, b2i_t M]
    intro b7 g7 hrw ecw
    rw [kont_v]
    show WP 102 234 _ _ _ _
    have ivT : Inv (Snote S u f (f + 1 + y) v c) := inv_note iv M.2 ⟨v0, v1⟩ ⟨f0, by omega, by omega⟩ ⟨v2, by omega⟩ ⟨c1, by omega⟩
    have hpw := hp.ec iv ecw
    have elw := ecw.el hp
    have i7 := ecw.1
    obtain ⟨e211, s211⟩ := ec_211 ecw (f := 211) (by omega) (by rw [k6]; omega)
    have el7 := el6.trans elw
    have ec7 := el7.2.2.2.2.1
    have es7 := el7.2.2.2.2.2
    have q0 := hpw.q0
    have q6 := hpw.q6
    have q20 := hpw.q20
    have q21 := hpw.q21
    rw [← elw.2.1, ← e211, b_102_234, brf one_ne0']
    simp (disch := first | assumption | omega) only [b_102_243, kont_v, kont_n, kont_x, Nat.reduceAdd, ad_some, kd_some, ixa, and_true, true_and, and_self, eq_self, ne_eq, brT, brF, true_or, or_true, and_imp, q0, q6, q20, q21, aT, inR]
    have cc0 : gK g7 (b7 0 0) ≠ 0 := by rw [hrw.A.1]; omega
    obtain ⟨s0, s1, s2, -⟩ := s211
    rw [← e211] at s0 s1 s2
    have nn : ∀ q, 8 ≤ q ∧ q ≤ 23 ∧ q ≠ 20 ∧ q ≠ 21 ∧ q ≠ 22 → Snote S u f (f + 1 + y) v c q (S 7 0 0) 0 = wH S u f (f + 1 + y) v c q := fun q hq => NN_n _ _ _ _ hq
    have z12 := iv.2.2.1.2.2.1 (S 7 0 0) (Int.le_refl _) M.2
    have t8 := nn 8 (by omega)
    have t10 := nn 10 (by omega)
    have t11 := nn 11 (by omega)
    have t12 := nn 12 (by omega)
    have t13 := nn 13 (by omega)
    have t14 := nn 14 (by omega)
    have t15 := nn 15 (by omega)
    have t16 := nn 16 (by omega)
    have t17 := nn 17 (by omega)
    have t18 := nn 18 (by omega)
    have t19 := nn 19 (by omega)
    have t20 : ∀ i, Snote S u f (f + 1 + y) v c 20 (S 7 0 0) i = S 5 (S 4 (S 2 0 0) (f + i)) 0 := fun i => NN_20 _ _ _ i
    simp only [wH, Nat.reduceEqDiff, reduceIte, z12.1, z12.2.1, z12.2.2] at t8 t10 t11 t12 t13 t14 t15 t16 t17 t18 t19
    obtain ⟨r0, r2, r3, r4, r5, r6, r7, r8, r9', r10⟩ := i6
    refine p_addRow i7 hpw iv cc0 (Snote S u f (f + 1 + y) v c) (NN_7 _ _ _) (fun q i j hq => NN_o _ _ _ _ _ _ ⟨by omega, .inr (.inl (by omega))⟩) (fun q x j h1 h2 h3 h4 => NN_o _ _ _ _ _ _ ⟨by omega, .inl h4⟩) ?_ ?_ ?_ ?_ ?_ ?_ (fun _ => ?_) (by omega) (by omega) (fun q g8 k8 hb => ?_)
    · rw [e211] at s0 ⊢; rw [s0]; exact k6
    · rw [t10, if_pos rfl, t19]; rw [e211] at s1 ⊢; rw [s1]; exact m6
    · rw [t8]; rw [e211] at s2 ⊢; rw [s2]; exact r0
    · rw [t10]; rw [e211] at s2 ⊢; rw [s2]; exact r2
    · rw [t11]; rw [e211] at s2 ⊢; rw [s2]; exact r3
    · rw [t12]; rw [e211] at s2 ⊢; rw [s2]; exact r4
    · rw [e211] at s2 ⊢
      rw [t13, t14, t15, t16, t17, t18, t19, s2, s2, s2, s2, s2, s2]
      exact ⟨r5, r6, r7, r8, r9', r10, fun i h1 h2 => by rw [s2, t20]; exact t6 i h1 h2⟩
    · obtain ⟨b9, i9, hp9, el9, fr9⟩ := hb
      rw [kont_v]
      show WP 102 258 _ _ _ _
      rw [b_102_258]
      refine ⟨(kd_some _ _ _).mpr k8, ?_⟩
      rw [ad_some, ← el9.2.1]
      rw [← el9.2.1] at hp9 el9 fr9
      have hr9 : RepC b9 (Snote S u f (f + 1 + y) v c) (pR g8 (b9 200 0) 6 (some q)) := hrw.fr fr9 (fun f h1 => h1)
      revert hp9 el9 hr9
      generalize pR g8 (b9 200 0) 6 (some q) = g9
      intro hp9 el9 hr9
      have p0 := hp9.q0
      have p6 := hp9.q6
      have p20 := hp9.q20
      have p21 := hp9.q21
      have e7 : Snote S u f (f + 1 + y) v c 7 0 0 = S 7 0 0 + 1 := NN_7 _ _ _
      rw [e7] at p21
      simp (disch := first | assumption | omega) only [b_102_261, b_102_273, b_102_278, kont_v, kont_n, kont_x, Nat.reduceAdd, ad_some, kd_some, ixa, and_true, true_and, and_self, eq_self, ne_eq, brT, brF, true_or, or_true, and_imp, p0, p6, p20, p21, Int.add_sub_cancel, brt, aT, inR, oz01]
      exact k b9 _ g9 ⟨⟨i9, hr9, hp9, ivT⟩, xv_note iv xv u f (f + 1 + y) v c ivT M.2⟩ ((el7.trans el9).le (by omega) (by omega) (by omega))
  · rw [brf M, b2i_f M]
    unfold thr
    refine ⟨⟨by omega, by omega⟩, ?_⟩
    rw [kont_c]
    intro q
    rw [b_102_279, brt rfl, b_102_286, b_102_291]
    exact ⟨by omega, k b S _ ⟨j6.tk, xv⟩ ((el6.trans EL.tk).le (by omega) (by omega) (by omega))⟩
end
