/-! THE PAGE: note, whole -/
section
variable {a b : Na} {S T : St} {h g : Zh} {Q : Zp}
theorem JQ.new (j : JQ a S h) {f : Nat} (hf : 211 ≤ f) {q kd : Nat} {n : Int} (hq : gK h q = 0) : JQ (nm a f 0 q) S (nw h q kd n) :=
  ⟨Ij_nm j.1 f 0 q, j.2.1.fr (Fr_nw hq (P := fun f => f < 100) (by omega)) (fun f h1 => h1), j.2.2.1.new (ItP_of j.2.2.2) j.c0 hq (by unfold LvP; omega) (by omega), j.2.2.2⟩
theorem JQ.wI (j : JQ a S h) {f : Nat} {i k x : Int} (hf : 211 ≤ f) : JQ a S (pI h (a f i) k x) :=
  ⟨j.1, j.2.1.fr (Fr_pI j.1 (P := fun f => f < 100) (by omega)) (fun f h1 => h1), j.2.2.1.wI j.1 (ItP_of j.2.2.2) (by unfold LvP; omega), j.2.2.2⟩
theorem JQ.wC (j : JQ a S h) {f s : Nat} {i sp dp n : Int} (hf : 211 ≤ f) : JQ a S (cpy h s sp (a f i) dp n) :=
  ⟨j.1, j.2.1.fr (Fr_cpy j.1 (P := fun f => f < 100) (by omega)) (fun f h1 => h1), j.2.2.1.keep (ItP_of j.2.2.2) rfl (fun f2 i2 l _ => ⟨rfl, smC j.1 (by unfold LvP at l; omega)⟩) (fun _ _ _ _ _ => rfl), j.2.2.2⟩
theorem JQ.nms (j : JQ a S h) {f : Nat} (hf : 211 ≤ f) {q : Nat} (hq : gK h q = 0) : nm a f 0 q 0 0 = a 0 0 ∧ nm a f 0 q 200 0 = a 200 0 ∧ nm a f 0 q 208 0 = a 208 0 ∧ ∀ f2, f2 ≠ f → gK h (a f2 0) ≠ 0 → nm a f 0 q f2 0 = a f2 0 :=
  ⟨nm_live hq j.c0 (by omega), nm_live hq (by rw [j.2.2.1.q0]; omega) (by omega), nm_live hq (by rw [j.2.2.1.q7]; omega) (by omega), fun f2 n k => nm_live hq k (fun z => n z.1)⟩
theorem EL.new (j : JQ a S h) {f : Nat} (hf : 211 ≤ f) {q kd : Nat} {n : Int} (hq : gK h q = 0) : EL a h (nm a f 0 q) (nw h q kd n) 0 1 n.toNat := by
  obtain ⟨e1, e2, e3, -⟩ := j.nms hf hq
  exact ⟨e1, e2, e3, by rw [gI_nw, if_neg (fun z => by have := j.2.2.1.q0; rw [z, hq] at this; omega)]; omega, by show gC h + 1 ≤ _; omega, by show gS h + n.toNat ≤ _; omega⟩
/-- a new array by a name of its own -/
theorem JQ.make (j : JQ a S h) (f : Nat) (hf : 211 ≤ f) (kd : Nat) (n : Int) {G : Nat → Zh → Prop} (k : ∀ b g, JQ b S g → EL a h b g 0 1 n.toNat → gK g (b f 0) = kd → gL g (b f 0) = n → (∀ j, gI g (b f 0) j = 0) → (∀ f2, f2 ≠ f → gK h (a f2 0) ≠ 0 → b f2 0 = a f2 0 ∧ sm h g (a f2 0)) → G (b f 0) g) : ∀ q, gK h q = 0 → G q (nw h q kd n) := by
  intro q hq
  have e : nm a f 0 q f 0 = q := nm_self a f 0 q
  have := k (nm a f 0 q) (nw h q kd n) (j.new hf hq) (EL.new j hf hq) (by rw [e, gK_nw, if_pos rfl]) (by rw [e, gL_nw, if_pos rfl]) (fun i => by rw [e, gI_nw, if_pos rfl]) (fun f2 n2 k2 => ⟨nm_live hq k2 (fun z => n2 z.1), sm_nw (fun z => k2 (by rw [z]; exact hq))⟩)
  rw [e] at this
  exact this
/-- the row goes among the notes -/
theorem p_addRow (hi : Ij a) (hp : RepP a S h) (iv : Inv S) (c0 : gK h (a 0 0) ≠ 0) (T : St) (e7 : T 7 0 0 = S 7 0 0 + 1) (eL : ∀ k i j, k < 7 → T k i j = S k i j) (eO : ∀ k x j, 7 < k → k < 21 → k ≠ 9 → x ≠ S 7 0 0 → T k x j = S k x j)
    (K : gK h (a 211 0) = 10) (L : gL h (a 211 0) = if T 10 (S 7 0 0) 0 = -1 then 11 + T 19 (S 7 0 0) 0 else 5) (I0 : gI h (a 211 0) 0 = T 8 (S 7 0 0) 0) (I2 : gI h (a 211 0) 2 = T 10 (S 7 0 0) 0) (I3 : gI h (a 211 0) 3 = T 11 (S 7 0 0) 0) (I4 : gI h (a 211 0) 4 = T 12 (S 7 0 0) 0)
    (IH : T 11 (S 7 0 0) 0 = S 7 0 0 → gI h (a 211 0) 5 = T 13 (S 7 0 0) 0 ∧ gI h (a 211 0) 6 = T 14 (S 7 0 0) 0 ∧ gI h (a 211 0) 7 = T 15 (S 7 0 0) 0 ∧ gI h (a 211 0) 8 = T 18 (S 7 0 0) 0 ∧ gI h (a 211 0) 9 = T 16 (S 7 0 0) 0 ∧ gI h (a 211 0) 10 = T 17 (S 7 0 0) 0 ∧ ∀ i, 0 ≤ i → i < T 19 (S 7 0 0) 0 → gI h (a 211 0) (11 + i) = T 20 (S 7 0 0) i)
    (rc : gC h + 1 ≤ MXC) (rs : gS h + 61 ≤ MXS)
    (hQ : ∀ (q : Nat) (g : Zh), gK g (a 200 0) = 7 → (∃ b, Ij b ∧ RepP b T (pR g (a 200 0) 6 (some q)) ∧ EL a h b (pR g (a 200 0) 6 (some q)) 0 1 61 ∧ Fr (fun f => f < 100) a h b (pR g (a 200 0) 6 (some q))) → Q (.inl (some (zr (some q)))) g) :
    WP 91 0 [some (zr (some (a 204 0))), some (zi (S 7 0 0)), some (zr (some (a 211 0))), none] [] h Q := by
  obtain ⟨n0, n1⟩ := iv.2.2.1.1
  refine p_with _ _ (S 7 0 0) (S 7 0 0) hp.q20 hp.q21 ⟨by omega, by omega⟩ ⟨by omega, by omega⟩ (fun i y h1 h2 h3 => ?_) K rc (by omega) (fun q g hq k1 l1 r1 s1 c1 t1 => ?_)
  · rw [hp.q22 i ⟨h1, h2⟩] at h3
    cases h3
    exact hp.q23 i ⟨h1, h2⟩
  · have np : a 200 0 ≠ q := fun z => by have := hp.q0; rw [z, hq] at this; omega
    obtain ⟨p0, p1, p2, p3, -⟩ := s1 _ np
    refine hQ q g (p0.trans hp.q0) ?_
    refine RepP.wRow hi hp (ItP_of iv) n0 c0 T e7 eL eO K L I0 I2 I3 I4 IH (g := pR g (a 200 0) 6 (some q)) hq (fun y m1 m2 => (s1 y m1).trans (sm_pR m2)) k1 l1 (fun j h1 h2 => ?_) (p0.trans hp.q0) (fun j => p2 j) (fun j => ?_) (fun b ib hb b00 b200 b208 fr => ⟨b, ib, hb, ⟨b00, b200, b208, by show gI g (a 200 0) 2 ≤ _; rw [p2]; omega, by show gC g ≤ _; omega, by show gS g ≤ _; omega⟩, fr⟩)
    · rw [gR_pR, if_neg (fun z => np z.1.symm), r1 j h1 h2]
      by_cases c : j < S 7 0 0
      · rw [if_pos c, if_pos c]
      · rw [if_neg c, if_neg c, if_pos (by omega)]
    · rw [gR_pR]
      by_cases c : j = 6
      · rw [if_pos ⟨rfl, c⟩, if_pos c]
      · rw [if_neg (fun z => c z.2), if_neg c, p3]
theorem p_ntMay (hp : RepP a S h) (iv : Inv S) (u f t v c : Int) (hu : 0 ≤ u ∧ u < S 0 0 0) : WP 102 65 [some (zr (some (a 200 0))), some (zi u), some (zi f), some (zi t), some (zi v), none, none, none, none, none, none] [zi c] h Q = WP 102 92 [some (zr (some (a 200 0))), some (zi u), some (zi f), some (zi t), some (zi v), some (zi c), none, none, none, none, none] [zi (b2i (2 ≤ S 1 u 0 ∧ S 7 0 0 < 60))] h Q := by
  by_cases c1 : 2 ≤ S 1 u 0
  · by_cases c2 : S 7 0 0 < 60
    · rw [b2i_t ⟨c1, c2⟩]
      simp (disch := first | assumption | omega) only [b_102_65, b_102_77, b_102_87, kont_v, kont_n, kont_x, Nat.reduceAdd, ad_some, kd_some, ixa, and_true, true_and, and_self, eq_self, ne_eq, brT, brF, true_or, or_true, and_imp, hp.q0, hp.q1, hp.q2, hp.q3, hp.q4, hp.q5, hp.q6, hp.q7, hp.q8, hp.q9, hp.q10, hp.q11, hp.q12, hp.q13, hp.q14, hp.q15, hp.q16, hp.q17, hp.q18, hp.q19, hp.q20, hp.q21, hp.q22, hp.q23, hp.q25, hp.q26, hp.q27, hp.q28, hp.q29, hp.q30, hp.q31, hp.q32, hp.q33, hp.q34, hp.q35, brf, aT, inR]
    · rw [b2i_f (fun z => c2 z.2)]
      simp (disch := first | assumption | omega) only [b_102_65, b_102_77, b_102_91, kont_v, kont_n, kont_x, Nat.reduceAdd, ad_some, kd_some, ixa, and_true, true_and, and_self, eq_self, ne_eq, brT, brF, true_or, or_true, and_imp, hp.q0, hp.q1, hp.q2, hp.q3, hp.q4, hp.q5, hp.q6, hp.q7, hp.q8, hp.q9, hp.q10, hp.q11, hp.q12, hp.q13, hp.q14, hp.q15, hp.q16, hp.q17, hp.q18, hp.q19, hp.q20, hp.q21, hp.q22, hp.q23, hp.q25, hp.q26, hp.q27, hp.q28, hp.q29, hp.q30, hp.q31, hp.q32, hp.q33, hp.q34, hp.q35, brt, brf, aT, inR]
  · rw [b2i_f (fun z => c1 z.1)]
    simp (disch := first | assumption | omega) only [b_102_65, b_102_91, kont_v, kont_n, kont_x, Nat.reduceAdd, ad_some, kd_some, ixa, and_true, true_and, and_self, eq_self, ne_eq, brT, brF, true_or, or_true, and_imp, hp.q0, hp.q1, hp.q2, hp.q3, hp.q4, hp.q5, hp.q6, hp.q7, hp.q8, hp.q9, hp.q10, hp.q11, hp.q12, hp.q13, hp.q14, hp.q15, hp.q16, hp.q17, hp.q18, hp.q19, hp.q20, hp.q21, hp.q22, hp.q23, hp.q25, hp.q26, hp.q27, hp.q28, hp.q29, hp.q30, hp.q31, hp.q32, hp.q33, hp.q34, hp.q35, brt, aT, inR]
theorem p_ntMk (j : JQ a S h) (u f t v c m6 n : Int) (hu : 0 ≤ u ∧ u < S 0 0 0) (hf : 0 ≤ f ∧ f < t ∧ t ≤ S 3 (S 2 0 0) 0) (hv : 0 ≤ v ∧ v ≤ 2) (hc : 0 ≤ c ∧ c ≤ 999) (hm : m6 = 0 ∨ m6 = 1) (en : n = if t - f < 12 then t - f else 12) (rc : gC h + 2 ≤ MXC) (rs : gS h + 40 ≤ MXS)
    (hQ : ∀ b g (r9 : Option Nat), JQ b S g → EL a h b g 0 2 34 → gK g (b 211 0) = 10 → gL g (b 211 0) = 11 + n → (gI g (b 211 0) 0 = u ∧ gI g (b 211 0) 2 = -1 ∧ gI g (b 211 0) 3 = S 7 0 0 ∧ gI g (b 211 0) 4 = 0 ∧ gI g (b 211 0) 5 = f ∧ gI g (b 211 0) 6 = t ∧ gI g (b 211 0) 7 = v ∧ gI g (b 211 0) 8 = 0 ∧ gI g (b 211 0) 9 = -1 ∧ gI g (b 211 0) 10 = 0) → (∀ i, 0 ≤ i → i < n → gI g (b 211 0) (11 + i) = S 5 (S 4 (S 2 0 0) (f + i)) 0) →
      WP 102 220 [some (zr (some (b 200 0))), some (zi u), some (zi f), some (zi t), some (zi v), some (zi c), some (zi m6), some (zi n), some (zr (some (b 211 0))), some (zr r9), some (zi n)] [] g Q) :
    WP 102 92 [some (zr (some (a 200 0))), some (zi u), some (zi f), some (zi t), some (zi v), some (zi c), none, none, none, none, none] [zi m6] h Q := by
  have iv := j.2.2.2
  obtain ⟨u0, u1⟩ := iv.1.1
  obtain ⟨w0, w1⟩ := iv.2.1.1
  obtain ⟨z0, z1⟩ := iv.2.1.2.1 (S 2 0 0) w0 (Int.le_refl _)
  obtain ⟨n0, n1⟩ := iv.2.2.1.1
  have hn : 1 ≤ n ∧ n ≤ 12 ∧ f + n ≤ S 3 (S 2 0 0) 0 := by rw [en]; split <;> omega
  rw [b_102_92, ← en]
  refine ⟨⟨by omega, by omega⟩, ⟨by omega, by omega⟩, ⟨by omega, by omega, by omega, by omega⟩, ?_⟩
  refine JQ.make j 211 (by omega) 10 (11 + n) (G := fun q g => WP 102 111 [some (zr (some (a 200 0))), some (zi u), some (zi f), some (zi t), some (zi v), some (zi c), some (zi m6), some (zi n), none, none, none] [zr (some q)] g Q) (fun a1 g1 j1 l1 kx lx _ e1 => ?_)
  have ec1 := l1.2.2.2.2.1
  have es1 := l1.2.2.2.2.2
  rw [← l1.2.1, b_102_111]
  refine ⟨⟨by omega, by omega, by omega, by show gS g1 + 11 ≤ MXS; omega⟩, ?_⟩
  refine JQ.make j1 212 (by omega) 10 11 (G := fun q g => WP 102 117 [some (zr (some (a1 200 0))), some (zi u), some (zi f), some (zi t), some (zi v), some (zi c), some (zi m6), some (zi n), some (zr (some (a1 211 0))), none, none] [zr (some q)] g Q) (fun b g2 j2 l2 ky ly _ e2 => ?_)
  obtain ⟨e211, s211⟩ := e2 211 (by omega) (by rw [kx]; omega)
  have kx2 : gK g2 (b 211 0) = 10 := by rw [e211, s211.1]; exact kx
  have lx2 : gL g2 (b 211 0) = 11 + n := by rw [e211, s211.2.1]; exact lx
  rw [← l2.2.1, ← e211]
  have hp := j2.2.2.1
  have hi := j2.1
  have nxy : b 211 0 ≠ b 212 0 := fun z => by rw [hi] at z; omega
  have g0 := hp.q0
  have g6 := hp.q6
  have g20 := hp.q20
  have g21 := hp.q21
  simp (disch := first | assumption | omega) only [b_102_117, b_102_121, b_102_126, b_102_130, b_102_138, b_102_142, b_102_146, b_102_151, b_102_157, b_102_162, b_102_167, b_102_172, b_102_185, kont_v, kont_n, kont_x, Nat.reduceAdd, ad_some, kd_some, ixa, and_true, true_and, and_self, eq_self, ne_eq, brT, brF, true_or, or_true, and_imp, g0, g6, g20, g21, ky, ly, kx2, lx2, aT, inR, gK_pI, gL_pI, gR_pI]
  have jF : JQ b S (cpy (pI (pI (pI (pI (pI (pI (pI (pI (pI (pI (pI g2 (b 212 0) 0 u) (b 212 0) 1 c) (b 212 0) 2 (-1)) (b 212 0) 3 (S 7 0 0)) (b 212 0) 4 0) (b 212 0) 5 f) (b 212 0) 6 t) (b 212 0) 7 v) (b 212 0) 8 0) (b 212 0) 9 (-1)) (b 212 0) 10 0) (b 212 0) 0 (b 211 0) 0 11) := (((((((((((j2.wI (by omega)).wI (by omega)).wI (by omega)).wI (by omega)).wI (by omega)).wI (by omega)).wI (by omega)).wI (by omega)).wI (by omega)).wI (by omega)).wI (by omega)).wC (by omega)
  have vF : ∀ i, 0 ≤ i → i < 11 → gI (cpy (pI (pI (pI (pI (pI (pI (pI (pI (pI (pI (pI g2 (b 212 0) 0 u) (b 212 0) 1 c) (b 212 0) 2 (-1)) (b 212 0) 3 (S 7 0 0)) (b 212 0) 4 0) (b 212 0) 5 f) (b 212 0) 6 t) (b 212 0) 7 v) (b 212 0) 8 0) (b 212 0) 9 (-1)) (b 212 0) 10 0) (b 212 0) 0 (b 211 0) 0 11) (b 211 0) i = if i = 0 then u else if i = 1 then c else if i = 2 then -1 else if i = 3 then S 7 0 0 else if i = 4 then 0 else if i = 5 then f else if i = 6 then t else if i = 7 then v else if i = 8 then 0 else if i = 9 then -1 else 0 := fun i h1 h2 => by
    have hc : i = 0 ∨ i = 1 ∨ i = 2 ∨ i = 3 ∨ i = 4 ∨ i = 5 ∨ i = 6 ∨ i = 7 ∨ i = 8 ∨ i = 9 ∨ i = 10 := by omega
    rcases hc with rfl | rfl | rfl | rfl | rfl | rfl | rfl | rfl | rfl | rfl | rfl <;> simp [gI_cpy, gI_pI]
  have dF : gI (cpy (pI (pI (pI (pI (pI (pI (pI (pI (pI (pI (pI g2 (b 212 0) 0 u) (b 212 0) 1 c) (b 212 0) 2 (-1)) (b 212 0) 3 (S 7 0 0)) (b 212 0) 4 0) (b 212 0) 5 f) (b 212 0) 6 t) (b 212 0) 7 v) (b 212 0) 8 0) (b 212 0) 9 (-1)) (b 212 0) 10 0) (b 212 0) 0 (b 211 0) 0 11) (b 200 0) 2 = gI g2 (b 200 0) 2 := by
    have n1 : ¬ (b 200 0 = b 212 0) := fun z => by rw [hi] at z; omega
    have n2 : ¬ (b 200 0 = b 211 0) := fun z => by rw [hi] at z; omega
    simp only [gI_cpy, gI_pI, n1, n2, false_and, if_false]
  have kF : gK (cpy (pI (pI (pI (pI (pI (pI (pI (pI (pI (pI (pI g2 (b 212 0) 0 u) (b 212 0) 1 c) (b 212 0) 2 (-1)) (b 212 0) 3 (S 7 0 0)) (b 212 0) 4 0) (b 212 0) 5 f) (b 212 0) 6 t) (b 212 0) 7 v) (b 212 0) 8 0) (b 212 0) 9 (-1)) (b 212 0) 10 0) (b 212 0) 0 (b 211 0) 0 11) (b 211 0) = 10 := kx2
  have lF : gL (cpy (pI (pI (pI (pI (pI (pI (pI (pI (pI (pI (pI g2 (b 212 0) 0 u) (b 212 0) 1 c) (b 212 0) 2 (-1)) (b 212 0) 3 (S 7 0 0)) (b 212 0) 4 0) (b 212 0) 5 f) (b 212 0) 6 t) (b 212 0) 7 v) (b 212 0) 8 0) (b 212 0) 9 (-1)) (b 212 0) 10 0) (b 212 0) 0 (b 211 0) 0 11) (b 211 0) = 11 + n := lx2
  have cF : gC (cpy (pI (pI (pI (pI (pI (pI (pI (pI (pI (pI (pI g2 (b 212 0) 0 u) (b 212 0) 1 c) (b 212 0) 2 (-1)) (b 212 0) 3 (S 7 0 0)) (b 212 0) 4 0) (b 212 0) 5 f) (b 212 0) 6 t) (b 212 0) 7 v) (b 212 0) 8 0) (b 212 0) 9 (-1)) (b 212 0) 10 0) (b 212 0) 0 (b 211 0) 0 11) = gC g2 := rfl
  have sF : gS (cpy (pI (pI (pI (pI (pI (pI (pI (pI (pI (pI (pI g2 (b 212 0) 0 u) (b 212 0) 1 c) (b 212 0) 2 (-1)) (b 212 0) 3 (S 7 0 0)) (b 212 0) 4 0) (b 212 0) 5 f) (b 212 0) 6 t) (b 212 0) 7 v) (b 212 0) 8 0) (b 212 0) 9 (-1)) (b 212 0) 10 0) (b 212 0) 0 (b 211 0) 0 11) = gS g2 := rfl
  revert jF vF dF kF lF cF sF
  generalize cpy (pI (pI (pI (pI (pI (pI (pI (pI (pI (pI (pI g2 (b 212 0) 0 u) (b 212 0) 1 c) (b 212 0) 2 (-1)) (b 212 0) 3 (S 7 0 0)) (b 212 0) 4 0) (b 212 0) 5 f) (b 212 0) 6 t) (b 212 0) 7 v) (b 212 0) 8 0) (b 212 0) 9 (-1)) (b 212 0) 10 0) (b 212 0) 0 (b 211 0) 0 11 = g3
  intro jF vF dF kF lF cF sF
  have l3 : EL b g2 b g3 0 0 0 := ⟨rfl, rfl, rfl, by omega, by omega, by omega⟩
  refine p_ntL hi iv u f t v c m6 n _ ⟨hf.1, hn.2.2⟩ ⟨by omega, hn.2.1⟩ (fun i => gI g3 (b 211 0) i) (fun g4 hp4 k4 l4 v4 i4 ep4 => ?_) n.toNat 0 g3 (by omega) (by omega) (by omega) jF.2.2.1 kF lF (fun _ _ _ => rfl) (fun i h1 h2 => by omega) (EP.rfl hi)
  have w := fun (i : Int) (h1 : 0 ≤ i) (h2 : i < 11) => (v4 i h1 h2).trans (vF i h1 h2)
  refine hQ b g4 _ ⟨hi, jF.2.1.ep ep4, hp4, iv⟩ ((((l1.trans l2).trans l3).trans ep4.el).le (by omega) (by omega) (by omega)) k4 l4 ⟨(w 0 (by omega) (by omega)).trans (by simp), (w 2 (by omega) (by omega)).trans (by simp), (w 3 (by omega) (by omega)).trans (by simp), (w 4 (by omega) (by omega)).trans (by simp), (w 5 (by omega) (by omega)).trans (by simp), (w 6 (by omega) (by omega)).trans (by simp), (w 7 (by omega) (by omega)).trans (by simp), (w 8 (by omega) (by omega)).trans (by simp), (w 9 (by omega) (by omega)).trans (by simp), (w 10 (by omega) (by omega)).trans (by simp)⟩ i4
end
