/-! THE LAW'S CHECKS: the notes -/
section
variable {a b : Na} {S T : St} {h g : Zh} {Q : Zp} {k w u : Int}
theorem q_1 (hr : RepC a S h) (iv : Inv S) (hk : nt S k ∧ S 12 k 0 ≠ 2) : WP 49 0 [some (zr (some (a 0 0))), some (zi k), some (zi 1), none] [] h Q = Q (.inl (some (zi (S 10 k 0)))) h := q_of hr iv hk ⟨by omega, by omega⟩
theorem q_2 (hr : RepC a S h) (iv : Inv S) (hk : nt S k ∧ S 12 k 0 ≠ 2) : WP 49 0 [some (zr (some (a 0 0))), some (zi k), some (zi 2), none] [] h Q = Q (.inl (some (zi (S 11 k 0)))) h := q_of hr iv hk ⟨by omega, by omega⟩
theorem q_3 (hr : RepC a S h) (iv : Inv S) (hk : nt S k ∧ S 12 k 0 ≠ 2) : WP 49 0 [some (zr (some (a 0 0))), some (zi k), some (zi 3), none] [] h Q = Q (.inl (some (zi (CO S k)))) h := q_of hr iv hk ⟨by omega, by omega⟩
theorem q_4 (hr : RepC a S h) (iv : Inv S) (hk : nt S k ∧ S 12 k 0 ≠ 2) : WP 49 0 [some (zr (some (a 0 0))), some (zi k), some (zi 4), none] [] h Q = Q (.inl (some (zi (S 13 (S 11 k 0) 0)))) h := q_of hr iv hk ⟨by omega, by omega⟩
theorem q_5 (hr : RepC a S h) (iv : Inv S) (hk : nt S k ∧ S 12 k 0 ≠ 2) : WP 49 0 [some (zr (some (a 0 0))), some (zi k), some (zi 5), none] [] h Q = Q (.inl (some (zi (S 14 (S 11 k 0) 0)))) h := q_of hr iv hk ⟨by omega, by omega⟩
theorem q_6 (hr : RepC a S h) (iv : Inv S) (hk : nt S k ∧ S 12 k 0 ≠ 2) : WP 49 0 [some (zr (some (a 0 0))), some (zi k), some (zi 6), none] [] h Q = Q (.inl (some (zi (S 23 k 0)))) h := q_of hr iv hk ⟨by omega, by omega⟩
theorem q_7 (hr : RepC a S h) (iv : Inv S) (hk : nt S k ∧ S 12 k 0 ≠ 2) : WP 49 0 [some (zr (some (a 0 0))), some (zi k), some (zi 7), none] [] h Q = Q (.inl (some (zi (RP S k)))) h := q_of hr iv hk ⟨by omega, by omega⟩
/-- one thread -/
theorem t_thr (hk : hd S k) (gk : S 12 k 0 ≠ 2) (x1 x4 x7 x9 x10 : Int) (d : Int64) (h0 : Zh) (hQ : ∀ g o13, JQ a S g → EL a h0 a g 0 0 0 → WP 118 401 [some (zr (some (a 208 0))), some (zi x1), some (zr (some (a 200 0))), some (zr (some (a 0 0))), some (zi x4), some (zl d), none, some (zi x7), some (zi k), some (zi x9), some (zi x10), some (zi (cn (TP S k (-1)) (S 7 0 0).toNat 0)), some (zr (some (a 213 0))), o13] [] g Q) (m : Nat) :
    ∀ (n : Nat) (h : Zh) (o13 : Option Zv), JQ a S h → gK h (a 213 0) = 12 → gL h (a 213 0) = 60 → (∀ i, nt S i → (gI h (a 213 0) i ≠ 0 ↔ TP S k (sq S k n) i)) → cn (TP S k (sq S k n)) (S 7 0 0).toNat 0 = n → 61 ≤ n + m → EL a h0 a h 0 0 0 →
      WP 118 328 [some (zr (some (a 208 0))), some (zi x1), some (zr (some (a 200 0))), some (zr (some (a 0 0))), some (zi x4), some (zl d), none, some (zi x7), some (zi k), some (zi x9), some (zi x10), some (zi n), some (zr (some (a 213 0))), o13] [] h Q := by
  induction m with
  | zero =>
    intro n h o13 j K L mI mN hm el
    have := tpn_b j.2.2.2 k (sq S k n)
    omega
  | succ m ih =>
    intro n h o13 j K L mI mN hm el
    have kc := j.kc
    have hr := j.2.1
    have iv := j.2.2.2
    have eT : TH S (S 11 k 0) n = sq S k n := by
      unfold TH
      rw [hk.2, if_pos (by omega), Int.toNat_natCast]
    (rw [b_118_328]; refine ⟨kc, ?_⟩; rw [q_th hr iv ⟨hk.1, gk⟩, kont_v]; show WP 118 336 _ _ _ _)
    rw [eT, b_118_336]
    by_cases c : sq S k n = -1
    · rw [brt (by omega)]
      rw [c] at mN
      rw [← mN]
      exact hQ h o13 j el
    · obtain ⟨hx, gx, ex⟩ := sq_nt iv hk.1 gk n c
      have ex : S 11 (sq S k n) 0 = k := ex.trans hk.2
      have b60 := nt_b iv hx
      have x1' := hx.1
      rw [brf (by omega)]
      (rw [b_118_339]; refine ⟨kc, ?_⟩; rw [q_th hr iv ⟨hk.1, gk⟩, kont_v]; show WP 118 347 _ _ _ _)
      have es := sq_s S k n
      rw [if_neg c] at es
      rw [eT]
      revert mI mN c hx gx ex b60 x1' es
      generalize sq S k n = x
      intro mI mN c hx gx ex b60 x1' es
      have z0 : gI h (a 213 0) x = 0 := Classical.byContradiction (fun z => tp_x c ((mI x hx).mp z))
      rw [b_118_347]
      refine ⟨⟨(kd_some _ _ _).mpr K, x1', by rw [ad_some, L]; omega⟩, ?_⟩
      rw [ad_some, brt z0]
      (rw [b_118_357]; refine ⟨kc, ?_⟩; rw [q_2 hr iv ⟨hx, gx⟩, kont_v]; show WP 118 364 _ _ _ _)
      rw [b_118_364, brt ex]
      have fin : WP 118 389 [some (zr (some (a 208 0))), some (zi x1), some (zr (some (a 200 0))), some (zr (some (a 0 0))), some (zi x4), some (zl d), none, some (zi x7), some (zi k), some (zi x9), some (zi x10), some (zi n), some (zr (some (a 213 0))), some (zi x)] [] h Q := by
        rw [b_118_389]
        refine ⟨⟨⟨(kd_some _ _ _).mpr K, x1', by rw [ad_some, L]; omega⟩, .inr rfl⟩, ?_⟩
        rw [ad_some, b_118_395]
        have bn := tpn_b iv k x
        refine ⟨by unfold inR; omega, ?_⟩
        have e0 : EL a h a (pI h (a 213 0) x 1) 0 0 0 := (EP.row j.1 (by omega)).el
        have sN := tpn_s iv hx gx ex
        have jn := ih (n + 1) (pI h (a 213 0) x 1) (some (zi x)) (j.wI (by omega)) K L (fun i hi => by
          rw [es, tp_s iv hx gx ex i hi, gI_pI]
          by_cases q : i = x
          · rw [if_pos ⟨rfl, q⟩]
            exact ⟨fun _ => .inr q, fun _ => by omega⟩
          · rw [if_neg (fun z => q z.2), mI i hi]
            exact ⟨.inl, fun z => z.resolve_right q⟩) (by rw [es, sN, mN]; rfl) (by omega) ((el.trans e0).le (by omega) (by omega) (by omega))
        exact jn
      rw [b_118_369]
      by_cases n0 : (n : Int) ≤ 0
      · rw [brt n0]; exact fin
      · rw [brf n0]
        have nk : x ≠ k := fun q => by
          rw [q, tpn_0 iv hk] at mN
          omega
        obtain ⟨p1, p2⟩ := tp_par iv hx gx ex nk
        have pb := nt_b iv p1
        (rw [b_118_374]; refine ⟨kc, ?_⟩; rw [q_1 hr iv ⟨hx, gx⟩, kont_v]; show WP 118 383 _ _ _ _)
        rw [b_118_383]
        refine ⟨⟨(kd_some _ _ _).mpr K, pb.1, by rw [ad_some, L]; omega⟩, ?_⟩
        rw [ad_some, brf ((mI _ p1).mpr p2)]
        exact fin
/-- who sees a note sees its head -/
theorem t_us (j : JQ a S h) (hk : nt S k ∧ S 12 k 0 ≠ 2) (x1 x4 x7 x10 : Int) (d : Int64) (o12 o13 : Option Zv) (hQ : ∀ x11, WP 118 309 [some (zr (some (a 208 0))), some (zi x1), some (zr (some (a 200 0))), some (zr (some (a 0 0))), some (zi x4), some (zl d), none, some (zi x7), some (zi k), some (zi (S 11 k 0)), some (zi x10), some (zi x11), o12, o13] [] h Q) (m : Nat) : ∀ i : Int, m = (S 0 0 0 - i).toNat → 0 ≤ i →
    WP 118 272 [some (zr (some (a 208 0))), some (zi x1), some (zr (some (a 200 0))), some (zr (some (a 0 0))), some (zi x4), some (zl d), none, some (zi x7), some (zi k), some (zi (S 11 k 0)), some (zi x10), some (zi i), o12, o13] [] h Q := by
  have kc := j.kc
  have kp := j.kp
  have hr := j.2.1
  have hp := j.2.2.1
  have iv := j.2.2.2
  obtain ⟨u0, u1⟩ := iv.1.1
  have hh := iv_hd iv hk.1
  have gh := al_hd' iv hk.1 hk.2
  induction m with
  | zero =>
    intro i e1 e2
    rw [b_118_272]
    refine ⟨kp, ?_⟩
    rw [ad_some, hp.q3]
    refine ⟨(kd_some _ _ _).mpr hp.q8, ?_⟩
    rw [ad_some, hp.q9, brt (by omega)]
    exact hQ i
  | succ m ih =>
    intro i e1 e2
    have hu : 0 ≤ i ∧ i < S 0 0 0 := ⟨e2, by omega⟩
    rw [b_118_272]
    refine ⟨kp, ?_⟩
    rw [ad_some, hp.q3]
    refine ⟨(kd_some _ _ _).mpr hp.q8, ?_⟩
    rw [ad_some, hp.q9, brf (by omega)]
    (rw [b_118_282]; refine ⟨kc, ?_⟩; rw [q_sees hr iv hu hk, kont_v]; show WP 118 290 _ _ _ _)
    (rw [b_118_290]; refine ⟨kc, ?_⟩; rw [q_sees hr iv hu ⟨hh.1, gh⟩, kont_v]; show WP 118 298 _ _ _ _)
    rw [b_118_298, brt (by rw [hh.2]), b_118_303]
    exact ⟨by unfold inR; omega, ih (i + 1) (by omega) (by omega)⟩
/-- what a note tells -/
theorem t_facts (j : JP a S h) (hk : nt S k ∧ S 12 k 0 ≠ 2) (x1 x4 x7 : Int) (d : Int64) (o9 o10 o11 o12 o13 : Option Zv) (hQ : ∀ x11, WP 118 309 [some (zr (some (a 208 0))), some (zi x1), some (zr (some (a 200 0))), some (zr (some (a 0 0))), some (zi x4), some (zl d), none, some (zi x7), some (zi k), some (zi (S 11 k 0)), some (zi (S 10 k 0)), some (zi x11), o12, o13] [] h Q) :
    WP 118 108 [some (zr (some (a 208 0))), some (zi x1), some (zr (some (a 200 0))), some (zr (some (a 0 0))), some (zi x4), some (zl d), none, some (zi x7), some (zi k), o9, o10, o11, o12, o13] [] h Q := by
  obtain ⟨jq, xv⟩ := j
  have kc := jq.kc
  have hr := jq.2.1
  have iv := jq.2.2.2
  have hh := iv_hd iv hk.1
  have gh := al_hd' iv hk.1 hk.2
  obtain ⟨f1, f2, f3⟩ := (iv.2.2.1.2.2.2.1 _ hh).1
  obtain ⟨i1, i2, i3, i4, i5, i6, i7⟩ := iv.2.2.1.2.1 k hk.1
  have k1 := hk.1.1
  (rw [b_118_108]; refine ⟨kc, ?_⟩; rw [q_2 hr iv hk, kont_v]; show WP 118 115 _ _ _ _)
  (rw [b_118_115]; refine ⟨kc, ?_⟩; rw [q_1 hr iv hk, kont_v]; show WP 118 124 _ _ _ _)
  (rw [b_118_124]; refine ⟨kc, ?_⟩; rw [q_4 hr iv hk, kont_v]; show WP 118 133 _ _ _ _)
  rw [b_118_133, brf (by omega)]
  (rw [b_118_136]; refine ⟨kc, ?_⟩; rw [q_5 hr iv hk, kont_v]; show WP 118 143 _ _ _ _)
  (rw [b_118_143]; refine ⟨kc, ?_⟩; rw [q_4 hr iv hk, kont_v]; show WP 118 150 _ _ _ _)
  rw [b_118_150, brf (by omega)]
  (rw [b_118_153]; refine ⟨kc, ?_⟩; rw [q_5 hr iv hk, kont_v]; show WP 118 160 _ _ _ _)
  (rw [b_118_160]; refine ⟨kc, ?_⟩; rw [c_length hr iv, kont_v]; show WP 118 164 _ _ _ _)
  rw [b_118_164, brf (by omega)]
  (rw [b_118_167]; refine ⟨kc, ?_⟩; rw [q_4 hr iv hk, kont_v]; show WP 118 174 _ _ _ _)
  (rw [b_118_174]; refine ⟨kc, ?_⟩; rw [q_4 hr iv ⟨hh.1, gh⟩, kont_v]; show WP 118 181 _ _ _ _)
  rw [b_118_181, brt (by rw [hh.2])]
  have s5 : WP 118 269 [some (zr (some (a 208 0))), some (zi x1), some (zr (some (a 200 0))), some (zr (some (a 0 0))), some (zi x4), some (zl d), none, some (zi x7), some (zi k), some (zi (S 11 k 0)), some (zi (S 10 k 0)), o11, o12, o13] [] h Q := by
    rw [b_118_269]
    exact t_us jq hk x1 x4 x7 (S 10 k 0) d o12 o13 hQ _ 0 rfl (Int.le_refl _)
  have s4 : WP 118 260 [some (zr (some (a 208 0))), some (zi x1), some (zr (some (a 200 0))), some (zr (some (a 0 0))), some (zi x4), some (zl d), none, some (zi x7), some (zi k), some (zi (S 11 k 0)), some (zi (S 10 k 0)), o11, o12, o13] [] h Q := by
    rw [b_118_260, brt (by omega)]
    exact s5
  have s3 : WP 118 230 [some (zr (some (a 208 0))), some (zi x1), some (zr (some (a 200 0))), some (zr (some (a 0 0))), some (zi x4), some (zl d), none, some (zi x7), some (zi k), some (zi (S 11 k 0)), some (zi (S 10 k 0)), o11, o12, o13] [] h Q := by
    (rw [b_118_230]; refine ⟨kc, ?_⟩; rw [q_6 hr iv hk, kont_v]; show WP 118 238 _ _ _ _)
    rw [b_118_238]
    by_cases c : 0 ≤ S 10 k 0
    · rw [brt c]
      have e : S 23 k 0 = S 23 (S 10 k 0) 0 + 1 := by omega
      have hp : nt S (S 10 k 0) ∧ S 12 (S 10 k 0) 0 ≠ 2 := ⟨⟨c, by have := hk.1.2; omega⟩, al_par iv k hk.1 hk.2 (by omega)⟩
      have pd := nt_d iv hp.1
      (rw [b_118_247]; refine ⟨kc, ?_⟩; rw [q_6 hr iv hp, kont_v]; show WP 118 255 _ _ _ _)
      rw [b_118_255]
      refine ⟨by unfold inR; omega, ?_⟩
      rw [b_118_257, brt e]
      exact s4
    · rw [brf c, b_118_243, b_118_257, brt (by omega)]
      exact s4
  have s2 : WP 118 205 [some (zr (some (a 208 0))), some (zi x1), some (zr (some (a 200 0))), some (zr (some (a 0 0))), some (zi x4), some (zl d), none, some (zi x7), some (zi k), some (zi (S 11 k 0)), some (zi (S 10 k 0)), o11, o12, o13] [] h Q := by
    rw [b_118_205]
    rcases iv_par iv hk.1 with ⟨q1, q2⟩ | ⟨q1, q2, q3, q4⟩
    · rw [brf (by omega), b_118_210, b_118_215, brt q2, b_118_222, b_118_227, brt rfl]
      exact s3
    · rw [brt q1.1, b_118_214, b_118_215, brf (by omega), b_118_226, b_118_227, brt rfl]
      exact s3
  (rw [b_118_184]; refine ⟨kc, ?_⟩; rw [q_3 hr iv hk, kont_v]; show WP 118 191 _ _ _ _)
  rw [b_118_191]
  by_cases c : 0 ≤ CO S k
  · rw [brt c]; exact s2
  · rw [brf c]
    have e1 : S 12 k 0 = 1 := by
      unfold CO at c
      by_cases z : S 12 k 0 = 0
      · rw [if_pos z] at c; omega
      · have := hk.2; omega
    (rw [b_118_194]; refine ⟨kc, ?_⟩; rw [q_7 hr iv hk, kont_v]; show WP 118 202 _ _ _ _)
    rw [b_118_202, brf (xv.2.2 k hk.1 e1)]
    exact s2
/-- the notes -/
theorem t_notes (xv : XV S) (x1 x4 : Int) (d : Int64) (a0 : Na) (h0 : Zh) (hQ : ∀ b g x8 o9 o10 o11 o12 o13, JQ b S g → EL a0 h0 b g 0 (S 7 0 0).toNat (60 * (S 7 0 0).toNat) → WP 118 414 [some (zr (some (b 208 0))), some (zi x1), some (zr (some (b 200 0))), some (zr (some (b 0 0))), some (zi x4), some (zl d), none, some (zi (MN S 1)), some (zi x8), o9, o10, o11, o12, o13] [] g Q)
    (rc : gC h0 + 60 ≤ MXC) (rs : gS h0 + 3600 ≤ MXS) (m : Nat) : ∀ (i : Int) (a : Na) (h : Zh) (o9 o10 o11 o12 o13 : Option Zv), m = (S 7 0 0 - i).toNat → 0 ≤ i → i ≤ S 7 0 0 → JQ a S h → EL a0 h0 a h 0 i.toNat (60 * i.toNat) →
      WP 118 82 [some (zr (some (a 208 0))), some (zi x1), some (zr (some (a 200 0))), some (zr (some (a 0 0))), some (zi x4), some (zl d), none, some (zi (cn (AL S i) (S 7 0 0).toNat 0)), some (zi i), o9, o10, o11, o12, o13] [] h Q := by
  induction m with
  | zero =>
    intro i a h o9 o10 o11 o12 o13 e1 e2 e3 j el
    have hp := j.2.2.1
    have e : i = S 7 0 0 := by omega
    rw [b_118_82]
    refine ⟨j.kp, ?_⟩
    rw [ad_some, hp.q6]
    refine ⟨(kd_some _ _ _).mpr hp.q20, ?_⟩
    rw [ad_some, hp.q21, brt (by omega), e, al_N j.2.2.2]
    rw [e] at el
    exact hQ a h _ o9 o10 o11 o12 o13 j el
  | succ m ih =>
    intro i a h o9 o10 o11 o12 o13 e1 e2 e3 j el
    have hp := j.2.2.1
    have iv := j.2.2.2
    obtain ⟨n0, n1⟩ := iv.2.2.1.1
    have hk : nt S i := ⟨e2, by omega⟩
    have l5 := hp.qM iv i hk
    have b1 := al_b iv i
    rw [b_118_82]
    refine ⟨j.kp, ?_⟩
    rw [ad_some, hp.q6]
    refine ⟨(kd_some _ _ _).mpr hp.q20, ?_⟩
    rw [ad_some, hp.q21, brf (by omega), b_118_92]
    simp (disch := first | assumption | omega) only [kont_v, kont_n, kont_x, Nat.reduceAdd, ad_some, kd_some, ixa, and_true, true_and, and_self, eq_self, ne_eq, brT, brF, true_or, or_true, and_imp, hp.q0, hp.q1, hp.q2, hp.q3, hp.q4, hp.q5, hp.q6, hp.q7, hp.q8, hp.q9, hp.q10, hp.q11, hp.q12, hp.q13, hp.q14, hp.q15, hp.q16, hp.q17, hp.q18, hp.q19, hp.q20, hp.q21, hp.q22, hp.q23, hp.q25, hp.q26, hp.q27, hp.q28, hp.q29, hp.q30, hp.q31, hp.q32, hp.q33, hp.q34, hp.q35, aT, inR]
    -- no thread of its own
    have no : ¬ (hd S i ∧ S 12 i 0 ≠ 2) → ∀ o9 o10 o11 o12 o13, WP 118 408 [some (zr (some (a 208 0))), some (zi x1), some (zr (some (a 200 0))), some (zr (some (a 0 0))), some (zi x4), some (zl d), none, some (zi (cn (AL S i) (S 7 0 0).toNat 0)), some (zi i), o9, o10, o11, o12, o13] [] h Q := fun c o9 o10 o11 o12 o13 => by
      rw [b_118_408]
      refine ⟨by unfold inR; omega, ?_⟩
      rw [← al_n iv c]
      exact ih (i + 1) a h o9 o10 o11 o12 o13 (by omega) (by omega) (by omega) j (el.le (by omega) (by omega) (by omega))
    by_cases g2 : S 12 i 0 = 2
    · rw [brt g2, b_118_105]
      exact no (fun z => z.2 g2) o9 o10 o11 o12 o13
    · rw [brf g2]
      refine t_facts ⟨j, xv⟩ ⟨hk, g2⟩ x1 x4 _ d o9 o10 o11 o12 o13 (fun x11 => ?_)
      rw [b_118_309]
      by_cases c : S 11 i 0 = i
      · have hh : hd S i := ⟨hk, c⟩
        have ec := el.2.2.2.2.1
        have es := el.2.2.2.2.2
        rw [brt c, b_118_319]
        refine ⟨⟨by omega, by omega, by omega, by show gS h + 60 ≤ MXS; omega⟩, ?_⟩
        refine j.make 213 (by omega) 12 60 (G := fun q g => WP 118 326 [some (zr (some (a 208 0))), some (zi x1), some (zr (some (a 200 0))), some (zr (some (a 0 0))), some (zi x4), some (zl d), none, some (zi (cn (AL S i) (S 7 0 0).toNat 0)), some (zi i), some (zi (S 11 i 0)), some (zi (S 10 i 0)), some (zi 0), o12, o13] [zr (some q)] g Q) (fun b g jb lb K L I _ => ?_)
        obtain ⟨y0, y2, y8, -⟩ := id lb
        rw [← y0, ← y2, ← y8, b_118_326]
        have tz : ∀ q, nt S q → ¬ TP S i i q := fun q hq => tp_0 iv hh q hq
        refine t_thr hh g2 x1 x4 _ (S 11 i 0) (S 10 i 0) d g (fun g3 o13 j3 l3 => ?_) 61 0 g o13 jb K L (fun q hq => ⟨fun z => absurd (I q) z, fun z => absurd z (tz q hq)⟩) (tpn_0 iv hh) (by omega) (EL.rfl.le (by omega) (by omega) (by omega))
        have b2 := tpn_b iv i (-1)
        have b3 := al_b iv (i + 1)
        rw [b_118_401]
        refine ⟨by unfold inR; omega, ?_⟩
        rw [← al_s iv, b_118_408]
        refine ⟨by unfold inR; omega, ?_⟩
        have q60 : (60 : Int).toNat = 60 := rfl
        refine ih (i + 1) b g3 _ _ _ _ _ (by omega) (by omega) (by omega) j3 (((el.trans lb).trans l3).le (by omega) (by omega) (by omega))
      · rw [brf c, b_118_316]
        exact no (fun z => c z.1.2) _ _ _ _ _
end
