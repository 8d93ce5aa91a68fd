/-! THE LAW'S CHECKS: from the threads on -/
section
variable {a b : Na} {S T : St} {h g : Zh} {Q : Zp}
/-- the exports -/
theorem t_exp (j : JP a S h) (hD : gI h (a 200 0) 2 ≤ 900000) (x1 x4 x7 x8 x9 : Int) (d : Int64) (o10 o11 o12 o13 : Option Zv) (k : ∀ b T g y9 y10 y11 o12 o13, JP b T g → EL a h b g 1 30 300 → WP 118 816 [some (zr (some (b 208 0))), some (zi x1), some (zr (some (b 200 0))), some (zr (some (b 0 0))), some (zi x4), some (zl d), none, some (zi x7), some (zi x8), some (zi y9), some (zi y10), some (zi y11), o12, o13] [] g Q) :
    WP 118 661 [some (zr (some (a 208 0))), some (zi x1), some (zr (some (a 200 0))), some (zr (some (a 0 0))), some (zi x4), some (zl d), none, some (zi x7), some (zi x8), some (zi x9), o10, o11, o12, o13] [] h Q := by
  obtain ⟨jq, xv⟩ := j
  have iv := jq.2.2.2
  have hp := jq.2.2.1
  have x2 := xv.1.2
  rw [b_118_661]
  refine ⟨jq.kp, ?_⟩
  rw [ad_some, hp.q3]
  refine ⟨(kd_some _ _ _).mpr hp.q8, jq.kp, ?_⟩
  rw [ad_some, hp.q9]
  refine w_draw jq _ (by omega) (by omega) (fun u g1 u0 u1 j1 l1 => ?_)
  rw [kont_v]
  show WP 118 670 _ _ _ _
  rw [b_118_670]
  refine ⟨j1.kc, ?_⟩
  refine c_export j1.1 j1.2.1 iv u 1 ?_
  rw [brt ⟨u0, u1⟩]
  intro b2 g2 hr2 ec2
  have j2 := j1.exp hr2 ec2
  have l2 := ec2.el j1.2.2.1
  rw [kont_v]
  show WP 118 679 _ _ _ _
  obtain ⟨e0, e2, e8, -⟩ := id l2
  rw [← e0, ← e2, ← e8]
  clear e0 e2 e8
  have iv2 := j2.2.2.2
  have kc := j2.kc
  have hu2 : 0 ≤ u ∧ u < Sexp S u 1 0 0 0 := ⟨u0, u1⟩
  have r4 := iv2.1.2 u
  (rw [b_118_679]; refine ⟨kc, ?_⟩; rw [q_right j2.2.1 iv2 hu2, kont_v]; show WP 118 692 _ _ _ _)
  (rw [b_118_692]; refine ⟨kc, ?_⟩; rw [q_would j2.2.1 iv2 hu2 r4, kont_v]; show WP 118 695 _ _ _ _)
  have e1 : (xpR S u 1).1 = cn (WS (Sexp S u 1) u (Sexp S u 1 1 u 0)) (Sexp S u 1 7 0 0).toNat 0 := (xpR_e iv u 1).1.trans (xp_ws S u _ _)
  rw [b_118_695, brt e1, b_118_698]
  refine ⟨kc, ?_⟩
  refine c_export j2.1 j2.2.1 iv2 u 0 ?_
  rw [brt hu2]
  intro b3 g3 hr3 ec3
  have j3 := j2.exp hr3 ec3
  have l3 := ec3.el j2.2.2.1
  rw [kont_v]
  show WP 118 705 _ _ _ _
  obtain ⟨e0, e2, e8, -⟩ := id l3
  rw [← e0, ← e2, ← e8]
  clear e0 e2 e8
  have e4 : (xpR (Sexp S u 1) u 0).1 ≤ (xpR S u 1).1 := by
    rw [(xpR_e iv2 u 0).1, (xpR_e iv u 1).1]
    exact xp_10 S u _ _
  rw [b_118_705, brt e4, b_118_712]
  refine ⟨j3.kc, ?_⟩
  have iv3 := j3.2.2.2
  have hu3 : 0 ≤ u ∧ u < Sexp (Sexp S u 1) u 0 0 0 0 := ⟨u0, u1⟩
  refine c_export j3.1 j3.2.1 iv3 u 0 ?_
  rw [brt hu3]
  intro b4 g4 hr4 ec4
  have j4 := j3.exp hr4 ec4
  have l4 := ec4.el j3.2.2.1
  rw [kont_v]
  show WP 118 719 _ _ _ _
  obtain ⟨e0, e2, e8, -⟩ := id l4
  rw [← e0, ← e2, ← e8, b_118_719]
  clear e0 e2 e8
  exact t_rows j4 iv3 x1 x4 x7 x8 d hu3 (fun i o12 o13 => k b4 _ g4 u _ i o12 o13 ⟨j4, xv_exp (xv_exp (xv_exp xv u 1) u 0) u 0⟩ ((((l1.trans l2).trans l3).trans l4).le (by omega) (by omega) (by omega))) _ 0 o12 o13 rfl (Int.le_refl _)
/-- where the text ends -/
theorem t_end (j : JP a S h) (x1 x4 x7 x8 x9 : Int) (o10 o11 o12 o13 : Option Zv) (d : Int64) (hd : d = DG S) (k : WP 118 661 [some (zr (some (a 208 0))), some (zi x1), some (zr (some (a 200 0))), some (zr (some (a 0 0))), some (zi x4), some (zl d), none, some (zi x7), some (zi x8), some (zi x9), o10, o11, o12, o13] [] h Q) :
    WP 118 619 [some (zr (some (a 208 0))), some (zi x1), some (zr (some (a 200 0))), some (zr (some (a 0 0))), some (zi x4), some (zl d), none, some (zi x7), some (zi x8), some (zi x9), o10, o11, o12, o13] [] h Q := by
  obtain ⟨jq, xv⟩ := j
  have kc := jq.kc
  obtain ⟨hi, hr, hp, iv⟩ := jq
  obtain ⟨w0, w1⟩ := iv.2.1.1
  obtain ⟨z0, z1⟩ := iv.2.1.2.1 (S 2 0 0) w0 (Int.le_refl _)
  have go : WP 118 649 [some (zr (some (a 208 0))), some (zi x1), some (zr (some (a 200 0))), some (zr (some (a 0 0))), some (zi x4), some (zl d), none, some (zi x7), some (zi x8), some (zi x9), o10, o11, o12, o13] [] h Q := by
    (rw [b_118_649]; refine ⟨kc, ?_⟩; rw [c_digest hr iv, kont_v]; show WP 118 653 _ _ _ _)
    rw [b_118_653, brt (by rw [hd, if_pos rfl])]
    exact k
  (rw [b_118_619]; refine ⟨kc, ?_⟩; rw [c_length hr iv, kont_v]; show WP 118 623 _ _ _ _)
  rw [b_118_623]
  by_cases c : S 3 (S 2 0 0) 0 ≤ 0
  · rw [brt c]; exact go
  · rw [brf c]
    have m2 := mn_b iv 2 (by omega)
    have m4 := mn_b iv 4 (by omega)
    (rw [b_118_626]; refine ⟨kc, ?_⟩; rw [c_length hr iv, kont_v]; show WP 118 632 _ _ _ _)
    (rw [b_118_632]; refine ⟨kc, ?_⟩; rw [q_lost hr iv ⟨by omega, by omega⟩ ⟨by omega, by omega⟩, kont_v]; show WP 118 635 _ _ _ _)
    (rw [b_118_635]; refine ⟨kc, ?_⟩; rw [q_many hr iv ⟨by omega, by omega⟩, kont_v]; show WP 118 640 _ _ _ _)
    (rw [b_118_640]; refine ⟨kc, ?_⟩; rw [q_many hr iv ⟨by omega, by omega⟩, kont_v]; show WP 118 645 _ _ _ _)
    rw [b_118_645]
    refine ⟨by unfold inR; omega, ?_⟩
    rw [brt (lb_all iv)]
    exact go
/-- the places of the text -/
theorem t_now (j : JP a S h) (x1 x4 x7 : Int) (o10 o11 o12 o13 : Option Zv) (d : Int64) (k : ∀ x9, WP 118 619 [some (zr (some (a 208 0))), some (zi x1), some (zr (some (a 200 0))), some (zr (some (a 0 0))), some (zi x4), some (zl d), none, some (zi x7), some (zi (S 2 0 0)), some (zi x9), o10, o11, o12, o13] [] h Q) (m : Nat) : ∀ i : Int, S 3 (S 2 0 0) 0 ≤ i + m → 0 ≤ i → i ≤ 300 →
    WP 118 572 [some (zr (some (a 208 0))), some (zi x1), some (zr (some (a 200 0))), some (zr (some (a 0 0))), some (zi x4), some (zl d), none, some (zi x7), some (zi (S 2 0 0)), some (zi i), o10, o11, o12, o13] [] h Q := by
  obtain ⟨jq, xv⟩ := j
  have kc := jq.kc
  obtain ⟨hi, hr, hp, iv⟩ := jq
  obtain ⟨w0, w1⟩ := iv.2.1.1
  obtain ⟨z0, z1⟩ := iv.2.1.2.1 (S 2 0 0) w0 (Int.le_refl _)
  have x2 := xv.1.2
  have key : ∀ i, 0 ≤ i → S 3 (S 2 0 0) 0 ≤ i → WP 118 572 [some (zr (some (a 208 0))), some (zi x1), some (zr (some (a 200 0))), some (zr (some (a 0 0))), some (zi x4), some (zl d), none, some (zi x7), some (zi (S 2 0 0)), some (zi i), o10, o11, o12, o13] [] h Q := fun i h0 h1 => by
    (rw [b_118_572]; refine ⟨kc, ?_⟩; rw [c_length hr iv, kont_v]; show WP 118 578 _ _ _ _)
    rw [b_118_578, brt h1]
    exact k i
  induction m with
  | zero => exact fun i e h0 _ => key i h0 (by omega)
  | succ m ih =>
    intro i e h0 h3
    by_cases c : S 3 (S 2 0 0) 0 ≤ i
    · exact key i h0 c
    · (rw [b_118_572]; refine ⟨kc, ?_⟩; rw [c_length hr iv, kont_v]; show WP 118 578 _ _ _ _)
      rw [b_118_578, brf c]
      (rw [b_118_581]; refine ⟨kc, ?_⟩; rw [q_now hr iv ⟨w0, Int.le_refl _⟩ ⟨h0, by omega⟩, kont_v]; show WP 118 589 _ _ _ _)
      rw [b_118_589, brt (nw9_cur xv.2.1 h0 (by omega))]
      (rw [b_118_594]; refine ⟨kc, ?_⟩; rw [q_over hr iv ⟨by omega, by omega⟩, kont_v]; show WP 118 601 _ _ _ _)
      (rw [b_118_601]; refine ⟨kc, ?_⟩; rw [q_over hr iv ⟨by omega, by omega⟩, kont_v]; show WP 118 608 _ _ _ _)
      rw [b_118_608, brt (ov_01 xv.1 i _ _), b_118_613]
      exact ⟨by unfold inR; omega, ih (i + 5) (by omega) (by omega) (by omega)⟩
/-- what would be seen -/
theorem t_wsee (j : JP a S h) (x1 x4 x7 u : Int) (hu : 0 ≤ u ∧ u < S 0 0 0) (o10 o11 o12 o13 : Option Zv) (d : Int64) (k : ∀ x9, WP 118 533 [some (zr (some (a 208 0))), some (zi x1), some (zr (some (a 200 0))), some (zr (some (a 0 0))), some (zi x4), some (zl d), none, some (zi x7), some (zi u), some (zi x9), o10, o11, o12, o13] [] h Q) (m : Nat) : ∀ i : Int, m = (5 - i).toNat → 1 ≤ i →
    WP 118 498 [some (zr (some (a 208 0))), some (zi x1), some (zr (some (a 200 0))), some (zr (some (a 0 0))), some (zi x4), some (zl d), none, some (zi x7), some (zi u), some (zi i), o10, o11, o12, o13] [] h Q := by
  obtain ⟨jq, xv⟩ := j
  have kc := jq.kc
  obtain ⟨hi, hr, hp, iv⟩ := jq
  induction m with
  | zero =>
    intro i e1 e2
    rw [b_118_498, brt (by omega)]
    exact k i
  | succ m ih =>
    intro i e1 e2
    rw [b_118_498, brf (by omega)]
    (rw [b_118_504]; refine ⟨kc, ?_⟩; rw [q_would hr iv hu ⟨by omega, by omega⟩, kont_v]; show WP 118 512 _ _ _ _)
    rw [b_118_512]
    refine ⟨by unfold inR; omega, kc, ?_⟩
    rw [q_would hr iv hu ⟨by omega, by omega⟩, kont_v]
    show WP 118 522 _ _ _ _
    rw [b_118_522, brt (ws_mo S u i (by omega) _ _), b_118_527]
    exact ⟨by unfold inR; omega, ih (i + 1) (by omega) (by omega)⟩
theorem t_seen (j : JP a S h) (x1 x4 : Int) (o10 o11 o12 o13 : Option Zv) (d : Int64) (k : ∀ x8 o9, WP 118 563 [some (zr (some (a 208 0))), some (zi x1), some (zr (some (a 200 0))), some (zr (some (a 0 0))), some (zi x4), some (zl d), none, some (zi (MN S 1)), some (zi x8), o9, o10, o11, o12, o13] [] h Q) (m : Nat) : ∀ (i : Int) (o9 : Option Zv), m = (S 0 0 0 - i).toNat → 0 ≤ i →
    WP 118 485 [some (zr (some (a 208 0))), some (zi x1), some (zr (some (a 200 0))), some (zr (some (a 0 0))), some (zi x4), some (zl d), none, some (zi (MN S 1)), some (zi i), o9, o10, o11, o12, o13] [] h Q := by
  have kc := j.1.kc
  have kp := j.1.kp
  have hr := j.1.2.1
  have hp := j.1.2.2.1
  have iv := j.1.2.2.2
  obtain ⟨u0, u1⟩ := iv.1.1
  induction m with
  | zero =>
    intro i o9 e1 e2
    rw [b_118_485]
    refine ⟨kp, ?_⟩
    rw [ad_some, hp.q3]
    refine ⟨(kd_some _ _ _).mpr hp.q8, ?_⟩
    rw [ad_some, hp.q9, brt (by omega)]
    exact k i o9
  | succ m ih =>
    intro i o9 e1 e2
    rw [b_118_485]
    refine ⟨kp, ?_⟩
    rw [ad_some, hp.q3]
    refine ⟨(kd_some _ _ _).mpr hp.q8, ?_⟩
    have hu : 0 ≤ i ∧ i < S 0 0 0 := ⟨e2, by omega⟩
    rw [ad_some, hp.q9, brf (by omega), b_118_495]
    refine t_wsee j x1 x4 (MN S 1) i hu o10 o11 o12 o13 d (fun x9 => ?_) 4 1 rfl (by omega)
    (rw [b_118_533]; refine ⟨kc, ?_⟩; rw [q_would hr iv hu ⟨by omega, by omega⟩, kont_v]; show WP 118 540 _ _ _ _)
    rw [b_118_540, brt (ws_0 S i _ _)]
    (rw [b_118_543]; refine ⟨kc, ?_⟩; rw [q_would hr iv hu ⟨by omega, by omega⟩, kont_v]; show WP 118 550 _ _ _ _)
    rw [b_118_550, brt (ws_4 S i), b_118_557]
    exact ⟨by unfold inR; omega, ih (i + 1) _ (by omega) (by omega)⟩
/-- the counts, and all that follows -/
theorem t_rest (j : JP a S h) (hD : gI h (a 200 0) 2 ≤ 900000) (x1 x4 x8 : Int) (o9 o10 o11 o12 o13 : Option Zv) (d : Int64) (hd : d = DG S) (k : ∀ b T g y7 y8 y9 y10 y11 o12 o13, JP b T g → EL a h b g 1 30 300 → WP 118 816 [some (zr (some (b 208 0))), some (zi x1), some (zr (some (b 200 0))), some (zr (some (b 0 0))), some (zi x4), some (zl d), none, some (zi y7), some (zi y8), some (zi y9), some (zi y10), some (zi y11), o12, o13] [] g Q) :
    WP 118 414 [some (zr (some (a 208 0))), some (zi x1), some (zr (some (a 200 0))), some (zr (some (a 0 0))), some (zi x4), some (zl d), none, some (zi (MN S 1)), some (zi x8), o9, o10, o11, o12, o13] [] h Q := by
  have kc := j.1.kc
  have hr := j.1.2.1
  have iv := j.1.2.2.2
  have m1 := mn_b iv 1 (by omega)
  have m2 := mn_b iv 2 (by omega)
  obtain ⟨w0, w1⟩ := iv.2.1.1
  obtain ⟨z0, z1⟩ := iv.2.1.2.1 (S 2 0 0) w0 (Int.le_refl _)
  have fin : WP 118 482 [some (zr (some (a 208 0))), some (zi x1), some (zr (some (a 200 0))), some (zr (some (a 0 0))), some (zi x4), some (zl d), none, some (zi (MN S 1)), some (zi x8), o9, o10, o11, o12, o13] [] h Q := by
    rw [b_118_482]
    refine t_seen j x1 x4 o10 o11 o12 o13 d (fun x8 o9 => ?_) _ 0 o9 rfl (Int.le_refl _)
    (rw [b_118_563]; refine ⟨kc, ?_⟩; rw [c_version hr iv, kont_v]; show WP 118 567 _ _ _ _)
    rw [b_118_567]
    exact t_now j x1 x4 (MN S 1) o10 o11 o12 o13 d (fun x9 => t_end j x1 x4 (MN S 1) (S 2 0 0) x9 o10 o11 o12 o13 d hd (t_exp j hD x1 x4 (MN S 1) (S 2 0 0) x9 d o10 o11 o12 o13 (fun b T g y9 y10 y11 o12 o13 jb l => k b T g _ _ y9 y10 y11 o12 o13 jb l))) 200 0 (by omega) (Int.le_refl _) (by omega)
  (rw [b_118_414]; refine ⟨kc, ?_⟩; rw [q_many hr iv ⟨by omega, by omega⟩, kont_v]; show WP 118 421 _ _ _ _)
  rw [b_118_421, brt rfl]
  (rw [b_118_424]; refine ⟨kc, ?_⟩; rw [q_many hr iv ⟨by omega, by omega⟩, kont_v]; show WP 118 429 _ _ _ _)
  (rw [b_118_429]; refine ⟨kc, ?_⟩; rw [q_many hr iv ⟨by omega, by omega⟩, kont_v]; show WP 118 434 _ _ _ _)
  have n3 := mn_3 S
  have n4 := mn_4 S
  rw [b_118_434, brf (by omega)]
  (rw [b_118_437]; refine ⟨kc, ?_⟩; rw [q_many hr iv ⟨by omega, by omega⟩, kont_v]; show WP 118 442 _ _ _ _)
  (rw [b_118_442]; refine ⟨kc, ?_⟩; rw [q_many hr iv ⟨by omega, by omega⟩, kont_v]; show WP 118 447 _ _ _ _)
  rw [b_118_447, brf (by omega)]
  (rw [b_118_450]; refine ⟨kc, ?_⟩; rw [c_mean hr iv, kont_v]; show WP 118 454 _ _ _ _)
  (rw [b_118_454]; refine ⟨kc, ?_⟩; rw [q_many hr iv ⟨by omega, by omega⟩, kont_v]; show WP 118 459 _ _ _ _)
  rw [b_118_459]
  unfold MT
  by_cases c : MN S 2 = 0
  · rw [brt c, if_pos c, b_118_462, b_118_476, brt mean_2]
    exact fin
  · rw [brf c, if_neg c]
    (rw [b_118_466]; refine ⟨kc, ?_⟩; rw [q_many hr iv ⟨by omega, by omega⟩, kont_v]; show WP 118 474 _ _ _ _)
    rw [b_118_474]
    refine ⟨nan_1 m1 ⟨by omega, m2.2⟩, ?_⟩
    rw [b_118_476, brt (mean_1 m1 ⟨by omega, m2.2⟩)]
    exact fin
end
