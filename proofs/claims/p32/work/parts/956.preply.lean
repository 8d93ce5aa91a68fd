/-! THE PAGE: reply -/
section
variable {a b : Na} {S T : St} {h g : Zh} {Q : Zp}
/-- a new array by a name of its own, where the class is ahead of the page -/
theorem mk_new (hi : Ij a) (hr : RepC a T h) (hp : RepP a S h) (it : ItP S) (f : Nat) (hf : 211 ≤ f) (kd : Nat) (n : Int) {G : Nat → Zh → Prop} (k : ∀ b g, Ij b → RepC b T g → RepP b S g → EL a h b g 0 1 n.toNat → gK g (b f 0) = kd → gL g (b f 0) = n → G (b f 0) g) : ∀ q, gK h q = 0 → G q (nw h q kd n) := by
  intro q hq
  have c0 : gK h (a 0 0) ≠ 0 := by rw [hr.A.1]; omega
  have e : nm a f 0 q f 0 = q := nm_self a f 0 q
  have := k (nm a f 0 q) (nw h q kd n) (Ij_nm hi f 0 q) (hr.fr (Fr_nw hq (P := fun f => f < 100) (by omega)) (fun f h1 => h1)) (hp.new it c0 hq (by unfold LvP; omega) (by omega)) ⟨nm_live hq c0 (by omega), nm_live hq (by rw [hp.q0]; omega) (by omega), nm_live hq (by rw [hp.q7]; omega) (by omega), by rw [gI_nw, if_neg (fun z => by have := hp.q0; rw [z, hq] at this; omega)]; omega, by show gC h + 1 ≤ _; omega, by show gS h + n.toNat ≤ _; omega⟩ (by rw [e, gK_nw, if_pos rfl]) (by rw [e, gL_nw, if_pos rfl])
  rw [e] at this
  exact this
theorem p_repMay (hp : RepP a S h) (iv : Inv S) (u k c : Int) (hk : nt S k) (hu : 0 ≤ u ∧ u < S 0 0 0) : WP 104 28 [some (zr (some (a 200 0))), some (zi k), some (zi u), none, none, none, none] [zi c] h Q = WP 104 74 [some (zr (some (a 200 0))), some (zi k), some (zi u), some (zi c), none, none, none] [zi (b2i ((2 ≤ S 1 u 0 ∧ SE S u (S 1 u 0) (S 11 k 0)) ∧ S 12 k 0 = 0 ∧ S 7 0 0 < 60))] h Q := by
  have k1 := hk.1
  have k2 := hk.2
  have l5 := hp.qM iv k hk
  by_cases c1 : 2 ≤ S 1 u 0
  · by_cases c2 : SE S u (S 1 u 0) (S 11 k 0)
    · by_cases c3 : S 12 k 0 = 0
      · by_cases c4 : S 7 0 0 < 60
        · rw [b2i_t ⟨⟨c1, c2⟩, c3, c4⟩]
          simp (disch := first | assumption | omega) only [b_104_28, b_104_39, b_104_45, b_104_48, b_104_59, b_104_69, kont_v, kont_n, kont_x, Nat.reduceAdd, ad_some, kd_some, ixa, and_true, true_and, and_self, eq_self, ne_eq, brT, brF, true_or, or_true, and_imp, hp.q0, hp.q1, hp.q2, hp.q3, hp.q4, hp.q5, hp.q6, hp.q7, hp.q8, hp.q9, hp.q10, hp.q11, hp.q12, hp.q13, hp.q14, hp.q15, hp.q16, hp.q17, hp.q18, hp.q19, hp.q20, hp.q21, hp.q22, hp.q23, hp.q25, hp.q26, hp.q27, hp.q28, hp.q29, hp.q30, hp.q31, hp.q32, hp.q33, hp.q34, hp.q35, p_sees hp iv u k hk hu, b2i_t c2, one_ne0, brt, brf, aT, inR]
        · rw [b2i_f (fun z => c4 z.2.2)]
          simp (disch := first | assumption | omega) only [b_104_28, b_104_39, b_104_45, b_104_48, b_104_59, b_104_73, kont_v, kont_n, kont_x, Nat.reduceAdd, ad_some, kd_some, ixa, and_true, true_and, and_self, eq_self, ne_eq, brT, brF, true_or, or_true, and_imp, hp.q0, hp.q1, hp.q2, hp.q3, hp.q4, hp.q5, hp.q6, hp.q7, hp.q8, hp.q9, hp.q10, hp.q11, hp.q12, hp.q13, hp.q14, hp.q15, hp.q16, hp.q17, hp.q18, hp.q19, hp.q20, hp.q21, hp.q22, hp.q23, hp.q25, hp.q26, hp.q27, hp.q28, hp.q29, hp.q30, hp.q31, hp.q32, hp.q33, hp.q34, hp.q35, p_sees hp iv u k hk hu, b2i_t c2, one_ne0, brt, brf, aT, inR]
      · rw [b2i_f (fun z => c3 z.2.1)]
        simp (disch := first | assumption | omega) only [b_104_28, b_104_39, b_104_45, b_104_48, b_104_73, kont_v, kont_n, kont_x, Nat.reduceAdd, ad_some, kd_some, ixa, and_true, true_and, and_self, eq_self, ne_eq, brT, brF, true_or, or_true, and_imp, hp.q0, hp.q1, hp.q2, hp.q3, hp.q4, hp.q5, hp.q6, hp.q7, hp.q8, hp.q9, hp.q10, hp.q11, hp.q12, hp.q13, hp.q14, hp.q15, hp.q16, hp.q17, hp.q18, hp.q19, hp.q20, hp.q21, hp.q22, hp.q23, hp.q25, hp.q26, hp.q27, hp.q28, hp.q29, hp.q30, hp.q31, hp.q32, hp.q33, hp.q34, hp.q35, p_sees hp iv u k hk hu, b2i_t c2, one_ne0, brt, brf, aT, inR]
    · rw [b2i_f (fun z => c2 z.1.2)]
      simp (disch := first | assumption | omega) only [b_104_28, b_104_39, b_104_45, b_104_73, kont_v, kont_n, kont_x, Nat.reduceAdd, ad_some, kd_some, ixa, and_true, true_and, and_self, eq_self, ne_eq, brT, brF, true_or, or_true, and_imp, hp.q0, hp.q1, hp.q2, hp.q3, hp.q4, hp.q5, hp.q6, hp.q7, hp.q8, hp.q9, hp.q10, hp.q11, hp.q12, hp.q13, hp.q14, hp.q15, hp.q16, hp.q17, hp.q18, hp.q19, hp.q20, hp.q21, hp.q22, hp.q23, hp.q25, hp.q26, hp.q27, hp.q28, hp.q29, hp.q30, hp.q31, hp.q32, hp.q33, hp.q34, hp.q35, p_sees hp iv u k hk hu, b2i_f c2, brt, brf, aT, inR]
  · rw [b2i_f (fun z => c1 z.1.1)]
    simp (disch := first | assumption | omega) only [b_104_28, b_104_73, kont_v, kont_n, kont_x, Nat.reduceAdd, ad_some, kd_some, ixa, and_true, true_and, and_self, eq_self, ne_eq, brT, brF, true_or, or_true, and_imp, hp.q0, hp.q1, hp.q2, hp.q3, hp.q4, hp.q5, hp.q6, hp.q7, hp.q8, hp.q9, hp.q10, hp.q11, hp.q12, hp.q13, hp.q14, hp.q15, hp.q16, hp.q17, hp.q18, hp.q19, hp.q20, hp.q21, hp.q22, hp.q23, hp.q25, hp.q26, hp.q27, hp.q28, hp.q29, hp.q30, hp.q31, hp.q32, hp.q33, hp.q34, hp.q35, brt, aT, inR]
theorem p_reply (j : JP a S h) (hD : gI h (a 200 0) 2 ≤ 900000) (rc : gC h + 200 ≤ MXC) (rs : gS h + 20000 ≤ MXS) (k : PKt a h Q) : WP 104 0 [some (zr (some (a 200 0))), none, none, none, none, none, none] [] h Q := by
  obtain ⟨jq, xv⟩ := j
  have iv := jq.2.2.2
  have hi := jq.1
  obtain ⟨u0, u1⟩ := iv.1.1
  have x2 := xv.1.2
  obtain ⟨n0, n1⟩ := iv.2.2.1.1
  rw [b_104_0]
  refine ⟨(kd_some _ _ _).mpr jq.2.2.1.q0, ?_⟩
  refine p_any jq (by omega) (fun on g1 hon j1 l1 => ?_)
  have d1 := l1.2.2.2.1
  rw [kont_v]
  show WP 104 4 _ _ _ _
  rw [b_104_4]
  rcases hon with rfl | ⟨hk, hg⟩
  · rw [brf (by omega), b_104_9]
    exact ⟨by omega, k a S g1 ⟨j1, xv⟩ (l1.le (by omega) (by omega) (by omega))⟩
  have hk1 := hk.1
  have hk2 := hk.2
  have hh := iv_hd iv hk
  have hn := hh.1
  have hn1 := hn.1
  have hn2 := hn.2
  rw [brt hk.1]
  have hp := j1.2.2.1
  simp (disch := first | assumption | omega) only [b_104_11, kont_v, kont_n, kont_x, Nat.reduceAdd, ad_some, kd_some, ixa, and_true, true_and, and_self, eq_self, ne_eq, brT, brF, true_or, or_true, and_imp, hp.q0, hp.q1, hp.q2, hp.q3, hp.q4, hp.q5, hp.q6, hp.q7, hp.q8, hp.q9, hp.q10, hp.q11, hp.q12, hp.q13, hp.q14, hp.q15, hp.q16, hp.q17, hp.q18, hp.q19, hp.q20, hp.q21, hp.q22, hp.q23, hp.q25, hp.q26, hp.q27, hp.q28, hp.q29, hp.q30, hp.q31, hp.q32, hp.q33, hp.q34, hp.q35, aT, inR]
  refine w_draw j1 _ (by omega) (by omega) (fun u g2 v0 v1 j2 l2 => ?_)
  have d2 := l2.2.2.2.1
  rw [kont_v]
  show WP 104 20 _ _ _ _
  have hp := j2.2.2.1
  simp (disch := first | assumption | omega) only [b_104_20, kont_v, kont_n, kont_x, Nat.reduceAdd, ad_some, kd_some, ixa, and_true, true_and, and_self, eq_self, ne_eq, brT, brF, true_or, or_true, and_imp, hp.q0, hp.q1, hp.q2, hp.q3, hp.q4, hp.q5, hp.q6, hp.q7, hp.q8, hp.q9, hp.q10, hp.q11, hp.q12, hp.q13, hp.q14, hp.q15, hp.q16, hp.q17, hp.q18, hp.q19, hp.q20, hp.q21, hp.q22, hp.q23, hp.q25, hp.q26, hp.q27, hp.q28, hp.q29, hp.q30, hp.q31, hp.q32, hp.q33, hp.q34, hp.q35, aT, inR]
  refine w_draw j2 1000 (by omega) (by omega) (fun c g3 c1 c2 j3 l3 => ?_)
  rw [kont_v]
  show WP 104 28 _ _ _ _
  have hp := j3.2.2.1
  have hr := j3.2.1
  have elx := (l1.trans l2).trans l3
  have ecx := elx.2.2.2.2.1
  have esx := elx.2.2.2.2.2
  rw [p_repMay hp iv u on c hk ⟨v0, v1⟩, b_104_74]
  refine ⟨(kd_some _ _ _).mpr hp.q0, ?_⟩
  rw [ad_some, hp.q1]
  refine ⟨(kd_some _ _ _).mpr hr.A.1, ?_⟩
  refine c_reply hi hr iv (by omega) (by omega) u on c ?_
  rw [brt ⟨v0, v1⟩, brt ⟨hk, hg⟩, brt ⟨c1, by omega⟩]
  by_cases M : (2 ≤ S 1 u 0 ∧ SE S u (S 1 u 0) (S 11 on 0)) ∧ S 12 on 0 = 0 ∧ S 7 0 0 < 60
  · rw [brt M, b2i_t M]
    intro b g6 hrw ecw
    rw [kont_v]
    show WP 104 86 _ _ _ _
    have ivT : Inv (Srep S u on c) := inv_reply iv M.2.2 ⟨v0, v1⟩ hk hg ⟨c1, by omega⟩
    have hpw := hp.ec iv ecw
    have elw := ecw.el hp
    have ib := ecw.1
    have el6 := elx.trans elw
    have ec6 := el6.2.2.2.2.1
    have es6 := el6.2.2.2.2.2
    rw [← elw.2.1, b_104_86, brf one_ne0']
    have hp := hpw
    have l5 := hp.qM iv on hk
    have lh := hp.qL iv _ hh
    have l9 := (iv.2.2.1.2.2.2.1 _ hh).2.2.2.2.2.1.1
    have it0 := ItP_of iv
    have ne : S 11 on 0 ≠ S 7 0 0 := by omega
    simp (disch := first | assumption | omega) only [b_104_95, kont_v, kont_n, kont_x, Nat.reduceAdd, ad_some, kd_some, ixa, and_true, true_and, and_self, eq_self, ne_eq, brT, brF, true_or, or_true, and_imp, hp.q0, hp.q1, hp.q2, hp.q3, hp.q4, hp.q5, hp.q6, hp.q7, hp.q8, hp.q9, hp.q10, hp.q11, hp.q12, hp.q13, hp.q14, hp.q15, hp.q16, hp.q17, hp.q18, hp.q19, hp.q20, hp.q21, hp.q22, hp.q23, hp.q25, hp.q26, hp.q27, hp.q28, hp.q29, hp.q30, hp.q31, hp.q32, hp.q33, hp.q34, hp.q35, lh, aT, inR]
    have hp7 := hpw.w18 ib it0 (S 11 on 0) 0
    have it7 : ItP (su S 18 (S 11 on 0) 0 0) := it0
    have iv7 : Inv (su S 18 (S 11 on 0) 0 0) := inv_settle iv hn (.inl rfl)
    have hr7 : RepC b (Srep S u on c) (pI g6 (b 206 (S 11 on 0)) 8 0) := hrw.fr (Fr_pI ib (P := fun f => f < 100) (by omega)) (fun f h1 => h1)
    have e7 : EL b g6 b (pI g6 (b 206 (S 11 on 0)) 8 0) 0 0 0 := (EP.row ib (by omega)).el
    revert hp7 hr7 e7
    generalize pI g6 (b 206 (S 11 on 0)) 8 0 = g7
    intro hp7 hr7 e7
    have el7 := el6.trans e7
    have ec7 := el7.2.2.2.2.1
    have es7 := el7.2.2.2.2.2
    rw [b_104_112]
    refine ⟨⟨by omega, by omega, by omega, by show gS g7 + 5 ≤ MXS; omega⟩, ?_⟩
    refine mk_new ib hr7 hp7 it7 211 (by omega) 10 5 (G := fun q g => WP 104 115 [some (zr (some (b 200 0))), some (zi on), some (zi u), some (zi c), some (zi 1), some (zi (S 7 0 0)), none] [zr (some q)] g Q) (fun b8 g8 i8 hr8 hp8 l8 k8 m8 => ?_)
    have el8 := el7.trans l8
    have ec8 := el8.2.2.2.2.1
    have es8 := el8.2.2.2.2.2
    rw [← l8.2.1]
    have q0 := hp8.q0
    have q6 := hp8.q6
    have q20 := hp8.q20
    have q21 : gL g8 (b8 204 0) = S 7 0 0 := hp8.q21
    have q22 : gR g8 (b8 204 0) on = some (b8 206 on) := hp8.q22 on hk
    have q23 : gK g8 (b8 206 on) = 10 := hp8.q23 on hk
    have q27 : gI g8 (b8 206 on) 3 = S 11 on 0 := hp8.q27 on hk
    have l58 : 5 ≤ gL g8 (b8 206 on) := hp8.qM iv7 on hk
    have nx : ∀ f i, f ≠ 211 → b8 f i ≠ b8 211 0 := fun f i n z => by rw [i8] at z; exact n z.1
    have nx6 := nx 206 on (by omega)
    simp (disch := first | assumption | omega) only [b_104_115, b_104_119, b_104_123, b_104_127, b_104_138, kont_v, kont_n, kont_x, Nat.reduceAdd, ad_some, kd_some, ixa, and_true, true_and, and_self, eq_self, ne_eq, brT, brF, true_or, or_true, and_imp, q0, q6, q20, q21, q22, q23, q27, k8, m8, aT, inR, gK_pI, gL_pI, gR_pI, gI_pI, nx6, false_and, if_false]
    have hp9 : RepP b8 (su S 18 (S 11 on 0) 0 0) (pI (pI (pI (pI (pI g8 (b8 211 0) 0 u) (b8 211 0) 1 c) (b8 211 0) 2 on) (b8 211 0) 3 (S 11 on 0)) (b8 211 0) 4 0) := ((((hp8.wI i8 it7 (by unfold LvP; omega)).wI i8 it7 (by unfold LvP; omega)).wI i8 it7 (by unfold LvP; omega)).wI i8 it7 (by unfold LvP; omega)).wI i8 it7 (by unfold LvP; omega)
    have hr9 : RepC b8 (Srep S u on c) (pI (pI (pI (pI (pI g8 (b8 211 0) 0 u) (b8 211 0) 1 c) (b8 211 0) 2 on) (b8 211 0) 3 (S 11 on 0)) (b8 211 0) 4 0) := hr8.fr (((((Fr_pI i8 (P := fun f => f < 100) (by omega)).trans (Fr_pI i8 (P := fun f => f < 100) (by omega))).trans (Fr_pI i8 (P := fun f => f < 100) (by omega))).trans (Fr_pI i8 (P := fun f => f < 100) (by omega))).trans (Fr_pI i8 (P := fun f => f < 100) (by omega))) (fun f h1 => h1)
    have K9 : gK (pI (pI (pI (pI (pI g8 (b8 211 0) 0 u) (b8 211 0) 1 c) (b8 211 0) 2 on) (b8 211 0) 3 (S 11 on 0)) (b8 211 0) 4 0) (b8 211 0) = 10 := k8
    have L9 : gL (pI (pI (pI (pI (pI g8 (b8 211 0) 0 u) (b8 211 0) 1 c) (b8 211 0) 2 on) (b8 211 0) 3 (S 11 on 0)) (b8 211 0) 4 0) (b8 211 0) = 5 := m8
    have I90 : gI (pI (pI (pI (pI (pI g8 (b8 211 0) 0 u) (b8 211 0) 1 c) (b8 211 0) 2 on) (b8 211 0) 3 (S 11 on 0)) (b8 211 0) 4 0) (b8 211 0) 0 = u := by simp [gI_pI]
    have I92 : gI (pI (pI (pI (pI (pI g8 (b8 211 0) 0 u) (b8 211 0) 1 c) (b8 211 0) 2 on) (b8 211 0) 3 (S 11 on 0)) (b8 211 0) 4 0) (b8 211 0) 2 = on := by simp [gI_pI]
    have I93 : gI (pI (pI (pI (pI (pI g8 (b8 211 0) 0 u) (b8 211 0) 1 c) (b8 211 0) 2 on) (b8 211 0) 3 (S 11 on 0)) (b8 211 0) 4 0) (b8 211 0) 3 = S 11 on 0 := by simp [gI_pI]
    have I94 : gI (pI (pI (pI (pI (pI g8 (b8 211 0) 0 u) (b8 211 0) 1 c) (b8 211 0) 2 on) (b8 211 0) 3 (S 11 on 0)) (b8 211 0) 4 0) (b8 211 0) 4 = 0 := by simp [gI_pI]
    have E9 : EL b8 g8 b8 (pI (pI (pI (pI (pI g8 (b8 211 0) 0 u) (b8 211 0) 1 c) (b8 211 0) 2 on) (b8 211 0) 3 (S 11 on 0)) (b8 211 0) 4 0) 0 0 0 := ((((((EP.row i8 (by omega)).trans (EP.row i8 (by omega))).trans (EP.row i8 (by omega))).trans (EP.row i8 (by omega))).trans (EP.row i8 (by omega))).le (by omega) (by omega) (by omega)).el
    revert hp9 hr9 K9 L9 I90 I92 I93 I94 E9
    generalize pI (pI (pI (pI (pI g8 (b8 211 0) 0 u) (b8 211 0) 1 c) (b8 211 0) 2 on) (b8 211 0) 3 (S 11 on 0)) (b8 211 0) 4 0 = g9
    intro hp9 hr9 K9 L9 I90 I92 I93 I94 E9
    have el9 := el8.trans E9
    have ec9 := el9.2.2.2.2.1
    have es9 := el9.2.2.2.2.2
    have o0 := hp9.q0
    have o6 := hp9.q6
    have o20 := hp9.q20
    have o21 : gL g9 (b8 204 0) = S 7 0 0 := hp9.q21
    simp (disch := first | assumption | omega) only [b_104_142, kont_v, kont_n, kont_x, Nat.reduceAdd, ad_some, kd_some, ixa, and_true, true_and, and_self, eq_self, ne_eq, brT, brF, true_or, or_true, and_imp, o0, o6, o20, o21, aT, inR]
    have z12 := iv.2.2.1.2.2.1 (S 7 0 0) (Int.le_refl _) M.2.2
    have nn : ∀ q, 8 ≤ q ∧ q ≤ 23 ∧ q ≠ 20 ∧ q ≠ 21 ∧ q ≠ 22 ∧ q ≠ 18 → Srep S u on c q (S 7 0 0) 0 = wR S u on c q := fun q hq => Srep_n _ _ _ _ _ hq
    have t8 := nn 8 (by omega)
    have t10 := nn 10 (by omega)
    have t11 := nn 11 (by omega)
    have t12 := nn 12 (by omega)
    simp only [wR, Nat.reduceEqDiff, reduceIte, z12.1] at t8 t10 t11 t12
    have t7 : Srep S u on c 7 0 0 = S 7 0 0 + 1 := (su_k (by omega)).trans (NN_7 ..)
    have cc0 : gK g9 (b8 0 0) ≠ 0 := by rw [hr9.A.1]; omega
    refine p_addRow (S := su S 18 (S 11 on 0) 0 0) i8 hp9 iv7 cc0 (Srep S u on c) t7 (fun q i j hq => (Srep_o _ _ _ _ _ _ _ ⟨by omega, by omega, .inr (.inl (by omega))⟩).trans (su_k (by omega)).symm) (fun q x j h1 h2 h3 h4 => ?_) K9 ?_ (I90.trans t8.symm) (I92.trans t10.symm) (I93.trans t11.symm) (I94.trans t12.symm) (fun z => absurd (t11.symm.trans z) ne) (by omega) (by omega) (fun q g10 k10 hb => ?_)
    · have h4 : x ≠ S 7 0 0 := h4
      by_cases c18 : q = 18
      · subst c18
        show su (NN S (wR S u on c) _) 18 (S 11 on 0) 0 0 18 x j = su S 18 (S 11 on 0) 0 0 18 x j
        rw [su_i, su_i]
        split
        · rfl
        · exact NN_o _ _ _ _ _ _ ⟨by omega, .inl h4⟩
      · rw [Srep_o _ _ _ _ _ _ _ ⟨by omega, c18, .inl h4⟩, su_k c18]
    · show gL g9 (b8 211 0) = if Srep S u on c 10 (S 7 0 0) 0 = -1 then 11 + Srep S u on c 19 (S 7 0 0) 0 else 5
      rw [t10, if_neg (by omega)]
      exact L9
    · obtain ⟨b11, i11, hp11, el11, fr11⟩ := hb
      rw [kont_v]
      show WP 104 159 _ _ _ _
      rw [b_104_159]
      refine ⟨(kd_some _ _ _).mpr k10, ?_⟩
      rw [ad_some, ← el11.2.1]
      rw [← el11.2.1] at hp11 el11 fr11
      have hr11 : RepC b11 (Srep S u on c) (pR g10 (b11 200 0) 6 (some q)) := hr9.fr fr11 (fun f h1 => h1)
      revert hp11 el11 hr11
      generalize pR g10 (b11 200 0) 6 (some q) = g11
      intro hp11 el11 hr11
      have p0 := hp11.q0
      have p6 := hp11.q6
      have p20 := hp11.q20
      have p21 := hp11.q21
      rw [t7] at p21
      simp (disch := first | assumption | omega) only [b_104_162, b_104_174, b_104_179, kont_v, kont_n, kont_x, Nat.reduceAdd, ad_some, kd_some, ixa, and_true, true_and, and_self, eq_self, ne_eq, brT, brF, true_or, or_true, and_imp, p0, p6, p20, p21, Int.add_sub_cancel, brt, aT, inR, oz01]
      exact k b11 _ g11 ⟨⟨i11, hr11, hp11, ivT⟩, xv_reply iv xv u on c ivT M.2.2⟩ ((el9.trans el11).le (by omega) (by omega) (by omega))
  · rw [brf M, b2i_f M]
    unfold thr
    refine ⟨⟨by omega, by omega⟩, ?_⟩
    rw [kont_c]
    intro q
    rw [b_104_180, brt rfl, b_104_187, b_104_192]
    exact ⟨by omega, k a S _ ⟨j3.tk, xv⟩ ((elx.trans EL.tk).le (by omega) (by omega) (by omega))⟩
end
