/-! THE LAW'S CHECKS: the class is asked -/
section
variable {a b : Na} {S T : St} {h g : Zh} {Q : Zp} {k w u r : Int}
theorem q_of (hr : RepC a S h) (iv : Inv S) (hk : nt S k ∧ S 12 k 0 ≠ 2) (hw : 0 ≤ w ∧ w ≤ 10) : WP 49 0 [some (zr (some (a 0 0))), some (zi k), some (zi w), none] [] h Q = Q (.inl (some (zi (OF S k w)))) h := by
  rw [c_ofNote hr iv, brt hk, brt hw]
theorem q_sees (hr : RepC a S h) (iv : Inv S) (hu : 0 ≤ u ∧ u < S 0 0 0) (hk : nt S k ∧ S 12 k 0 ≠ 2) : WP 51 0 [some (zr (some (a 0 0))), some (zi u), some (zi k)] [] h Q = Q (.inl (some (zi (b2i (SE S u (S 1 u 0) (S 11 k 0)))))) h := by
  rw [c_sees hr iv, brt hu, brt hk]
theorem q_exd (hr : RepC a S h) (iv : Inv S) (hk : 0 ≤ k ∧ k < S 21 0 0) (hw : 0 ≤ w ∧ w ≤ 3) : WP 55 0 [some (zr (some (a 0 0))), some (zi k), some (zi w)] [] h Q = Q (.inl (some (zi (S 22 k w)))) h := by
  rw [c_exported hr iv ⟨iv.2.2.2.2, iv.2.2.2.1⟩, brt hk, brt hw]
theorem q_many (hr : RepC a S h) (iv : Inv S) (hw : 0 ≤ w ∧ w ≤ 4) : WP 47 0 [some (zr (some (a 0 0))), some (zi w)] [] h Q = Q (.inl (some (zi (MN S w)))) h := by
  rw [c_many hr iv, brt hw]
theorem q_would (hr : RepC a S h) (iv : Inv S) (hu : 0 ≤ u ∧ u < S 0 0 0) (hw : 0 ≤ w ∧ w ≤ 4) : WP 59 0 [some (zr (some (a 0 0))), some (zi u), some (zi w), none, none] [] h Q = Q (.inl (some (zi (cn (WS S u w) (S 7 0 0).toNat 0)))) h := by
  rw [c_wouldSee hr iv, brt hu, brt hw]
theorem q_right (hr : RepC a S h) (iv : Inv S) (hu : 0 ≤ u ∧ u < S 0 0 0) : WP 48 0 [some (zr (some (a 0 0))), some (zi u)] [] h Q = Q (.inl (some (zi (S 1 u 0)))) h := by
  rw [c_right hr iv, brt hu]
theorem q_over (hr : RepC a S h) (iv : Inv S) (hu : 0 ≤ u ∧ u < S 0 0 0) : WP 53 0 [some (zr (some (a 0 0))), some (zi u), some (zi k), none, none, none] [] h Q = Q (.inl (some (zi (cn (OV S u k) (S 7 0 0).toNat 0)))) h := by
  rw [c_over hr iv, brt hu]
theorem q_now (hr : RepC a S h) (iv : Inv S) (hw : 0 ≤ w ∧ w ≤ S 2 0 0) (hk : 0 ≤ k ∧ k < S 3 w 0) : WP 38 0 [some (zr (some (a 0 0))), some (zi w), some (zi k)] [] h Q = Q (.inl (some (zi (nw9 S w k)))) h := by
  rw [c_now hr iv, brt hw, brt hk]
theorem q_lost (hr : RepC a S h) (iv : Inv S) (hk : 0 ≤ k ∧ k < S 3 (S 2 0 0) 0) (hw : 1 ≤ w ∧ w ≤ S 3 (S 2 0 0) 0 - k) : WP 57 0 [some (zr (some (a 0 0))), some (zi k), some (zi w), none, none] [] h Q = Q (.inl (some (zi (cn (LB S k w) (S 7 0 0).toNat 0)))) h := by
  rw [c_lostBy hr iv, brt hk, brt hw]
theorem q_th (hr : RepC a S h) (iv : Inv S) (hk : nt S k ∧ S 12 k 0 ≠ 2) : WP 52 0 [some (zr (some (a 0 0))), some (zi k), some (zi w), none, none] [] h Q = Q (.inl (some (zi (TH S (S 11 k 0) w)))) h := by
  rw [c_thread hr iv, brt hk]
theorem JQ.kc (j : JQ a S h) : kd h (some (a 0 0)) 6 := (kd_some _ _ _).mpr j.2.1.A.1
theorem JQ.kp (j : JQ a S h) : kd h (some (a 200 0)) 7 := (kd_some _ _ _).mpr j.2.2.1.q0
theorem of_0 (S : St) (k : Int) : OF S k 1 = S 10 k 0 ∧ OF S k 2 = S 11 k 0 ∧ OF S k 3 = CO S k ∧ OF S k 4 = S 13 (S 11 k 0) 0 ∧ OF S k 5 = S 14 (S 11 k 0) 0 ∧ OF S k 6 = S 23 k 0 ∧ OF S k 7 = RP S k ∧ OF S k 8 = S 18 (S 11 k 0) 0 := ⟨rfl, rfl, rfl, rfl, rfl, rfl, rfl, rfl⟩
theorem RepP.exp (hp : RepP a S h) (u al : Int) : RepP a (Sexp S u al) h := hp
theorem JQ.exp (j : JQ a S h) {u al : Int} (hr : RepC b (Sexp S u al) g) (ecw : EC a h b g) : JQ b (Sexp S u al) g :=
  ⟨ecw.1, hr, (j.2.2.1.ec j.2.2.2 ecw).exp u al, inv_exp j.2.2.2 u al⟩
/-- the rows of an export -/
theorem t_rows (j : JQ a (Sexp T u 0) h) (iT : Inv T) (x1 x4 x7 x8 : Int) (d : Int64) (hu : 0 ≤ u ∧ u < T 0 0 0) (k : ∀ i o12 o13, WP 118 816 [some (zr (some (a 208 0))), some (zi x1), some (zr (some (a 200 0))), some (zr (some (a 0 0))), some (zi x4), some (zl d), none, some (zi x7), some (zi x8), some (zi u), some (zi (xpR T u 0).1), some (zi i), o12, o13] [] h Q) (m : Nat) : ∀ (i : Int) (o12 o13 : Option Zv), m = ((xpR T u 0).1 - i).toNat → 0 ≤ i →
    WP 118 724 [some (zr (some (a 208 0))), some (zi x1), some (zr (some (a 200 0))), some (zr (some (a 0 0))), some (zi x4), some (zl d), none, some (zi x7), some (zi x8), some (zi u), some (zi (xpR T u 0).1), some (zi i), o12, o13] [] h Q := by
  have kc := j.kc
  obtain ⟨-, hr, -, iv⟩ := j
  have nb := xpR_b iT u 0
  have ro := (xpR_e iT u 0).2.2
  have e21 : Sexp T u 0 21 0 0 = (xpR T u 0).1 := SX_21 _ _ _
  induction m with
  | zero =>
    intro i o12 o13 e1 e2
    rw [b_118_724, brt (by omega)]
    exact k i o12 o13
  | succ m ih =>
    intro i o12 o13 e1 e2
    have e22 : ∀ w, Sexp T u 0 22 i w = (xpR T u 0).2 i w := fun w => SX_22 _ _ _ _ _
    have hi : 0 ≤ i ∧ i < Sexp T u 0 21 0 0 := by rw [e21]; omega
    obtain ⟨r1, r2, r3, r4⟩ := ro i e2 (by omega)
    have f1 := r4 1
    have f3 := r4 3
    rw [← e22, ← e22] at f1 f3
    rw [← e22] at r1 r2 r3
    have hx : nt (Sexp T u 0) (Sexp T u 0 22 i 0) ∧ Sexp T u 0 12 (Sexp T u 0 22 i 0) 0 ≠ 2 := ⟨r1, r2⟩
    have hs : SE (Sexp T u 0) u (Sexp T u 0 1 u 0) (Sexp T u 0 11 (Sexp T u 0 22 i 0) 0) := r3.2.1
    have h6 : Sexp T u 0 22 i 1 = OF (Sexp T u 0) (Sexp T u 0 22 i 0) 6 := f1
    have h8 : OF (Sexp T u 0) (Sexp T u 0 22 i 0) 8 = 0 := r3.2.2.resolve_left (fun z => z rfl)
    have h3 : Sexp T u 0 22 i 3 = OF (Sexp T u 0) (Sexp T u 0 22 i 0) 3 := f3
    have hu' : 0 ≤ u ∧ u < Sexp T u 0 0 0 0 := hu
    rw [b_118_724, brf (by omega)]
    (rw [b_118_731]; refine ⟨kc, ?_⟩; rw [q_exd hr iv hi ⟨by omega, by omega⟩, kont_v]; show WP 118 741 _ _ _ _)
    (rw [b_118_741]; refine ⟨kc, ?_⟩; rw [q_sees hr iv hu' hx, kont_v]; show WP 118 744 _ _ _ _)
    rw [b2i_t hs, b_118_744, brf one_ne0']
    (rw [b_118_747]; refine ⟨kc, ?_⟩; rw [q_exd hr iv hi ⟨by omega, by omega⟩, kont_v]; show WP 118 754 _ _ _ _)
    (rw [b_118_754]; refine ⟨kc, ?_⟩; rw [q_exd hr iv hi ⟨by omega, by omega⟩, kont_v]; show WP 118 762 _ _ _ _)
    (rw [b_118_762]; refine ⟨kc, ?_⟩; rw [q_of hr iv hx ⟨by omega, by omega⟩, kont_v]; show WP 118 767 _ _ _ _)
    rw [b_118_767, brt h6]
    (rw [b_118_770]; refine ⟨kc, ?_⟩; rw [q_exd hr iv hi ⟨by omega, by omega⟩, kont_v]; show WP 118 778 _ _ _ _)
    (rw [b_118_778]; refine ⟨kc, ?_⟩; rw [q_of hr iv hx ⟨by omega, by omega⟩, kont_v]; show WP 118 783 _ _ _ _)
    rw [b_118_783, brt h8]
    (rw [b_118_786]; refine ⟨kc, ?_⟩; rw [q_exd hr iv hi ⟨by omega, by omega⟩, kont_v]; show WP 118 793 _ _ _ _)
    (rw [b_118_793]; refine ⟨kc, ?_⟩; rw [q_exd hr iv hi ⟨by omega, by omega⟩, kont_v]; show WP 118 801 _ _ _ _)
    (rw [b_118_801]; refine ⟨kc, ?_⟩; rw [q_of hr iv hx ⟨by omega, by omega⟩, kont_v]; show WP 118 805 _ _ _ _)
    rw [b_118_805, brt h3, b_118_810]
    exact ⟨by unfold inR; omega, ih (i + 1) _ _ (by omega) (by omega)⟩
end
