/-! THE LAW -/
section
variable {a b : Na} {S T : St} {h g : Zh} {Q : Zp}
/-- four actions -/
theorem l_acts (x1 x4 : Int) (o7 o8 o9 o10 o11 o12 o13 : Option Zv) (N m : Nat) : ∀ (i : Int) (a : Na) (S : St) (h : Zh), m = (4 - i).toNat → 0 ≤ i → JP a S h → RM a h (m + N) →
    (∀ b T g i, JP b T g → EU a h b g m → WP 118 70 [some (zr (some (b 208 0))), some (zi x1), some (zr (some (b 200 0))), some (zr (some (b 0 0))), some (zi x4), some (zi i), none, o7, o8, o9, o10, o11, o12, o13] [] g Q) →
      WP 118 49 [some (zr (some (a 208 0))), some (zi x1), some (zr (some (a 200 0))), some (zr (some (a 0 0))), some (zi x4), some (zi i), none, o7, o8, o9, o10, o11, o12, o13] [] h Q := by
  induction m with
  | zero =>
    intro i a S h e1 e2 j r k
    rw [b_118_49, brt (by omega)]
    exact k a S h i j EU.z
  | succ m ih =>
    intro i a S h e1 e2 j r k
    rw [b_118_49, brf (by omega), b_118_55]
    refine ⟨j.1.kp, ?_⟩
    refine p_act j (r.le (by omega)) (fun b T g j2 l2 => ?_)
    rw [kont_v]
    show WP 118 59 _ _ _ _
    obtain ⟨y0, y2, y8, -⟩ := id l2
    rw [← y0, ← y2, ← y8, b_118_59, brf one_ne0', b_118_64]
    refine ⟨by unfold inR; omega, ?_⟩
    have r2 : RM b g (m + N) := by
      refine RM.eu (n := 1) ?_ l2
      exact r.le (by omega)
    exact ih (i + 1) b T g (by omega) (by omega) j2 r2 (fun b3 T3 g3 i3 j3 l3 => k b3 T3 g3 i3 j3 ((l2.trans l3).le (by omega)))
/-- the steps of a page -/
theorem l_steps (x1 : Int) (N m : Nat) : ∀ (i : Int) (a : Na) (S : St) (h : Zh) (o5 o7 o8 o9 o10 o11 o12 o13 : Option Zv), m = (5 - i).toNat → 0 ≤ i → JP a S h → RM a h (5 * m + N) →
    (∀ b T g i o5 o7 o8 o9 o10 o11 o12 o13, JP b T g → EU a h b g (5 * m) → WP 118 822 [some (zr (some (b 208 0))), some (zi x1), some (zr (some (b 200 0))), some (zr (some (b 0 0))), some (zi i), o5, none, o7, o8, o9, o10, o11, o12, o13] [] g Q) →
      WP 118 40 [some (zr (some (a 208 0))), some (zi x1), some (zr (some (a 200 0))), some (zr (some (a 0 0))), some (zi i), o5, none, o7, o8, o9, o10, o11, o12, o13] [] h Q := by
  induction m with
  | zero =>
    intro i a S h o5 o7 o8 o9 o10 o11 o12 o13 e1 e2 j r k
    rw [b_118_40, brt (by omega)]
    exact k a S h i o5 o7 o8 o9 o10 o11 o12 o13 j EU.z
  | succ m ih =>
    intro i a S h o5 o7 o8 o9 o10 o11 o12 o13 e1 e2 j r k
    rw [b_118_40, brf (by omega), b_118_46]
    refine l_acts x1 i o7 o8 o9 o10 o11 o12 o13 (1 + (5 * m + N)) 4 0 a S h rfl (Int.le_refl _) j (r.le (by omega)) (fun b T g x5 j2 l2 => ?_)
    have r2 : RM b g (1 + (5 * m + N)) := by
      refine RM.eu (n := 4) ?_ l2
      exact r.le (by omega)
    obtain ⟨q1, q2, q3⟩ := id r2
    have iv := j2.1.2.2.2
    obtain ⟨n0, n1⟩ := iv.2.2.1.1
    rw [b_118_70]
    refine ⟨j2.1.kc, ?_⟩
    rw [c_digest j2.1.2.1 iv, kont_v]
    show WP 118 74 _ _ _ _
    have nn := t_notes (Q := Q) j2.2 x1 i (DG T) b g (fun b3 g3 x8 o9 o10 o11 o12 o13 j3 l3 => by
      have d3 := l3.2.2.2.1
      have e2 := l3.2.1
      refine t_rest ⟨j3, j2.2⟩ (by rw [e2]; omega) x1 i x8 o9 o10 o11 o12 o13 (DG T) rfl (fun b4 T4 g4 y7 y8 y9 y10 y11 o12 o13 j4 l4 => ?_)
      have l5 : EU b g b4 g4 1 := (l3.trans l4).eu (by omega) (by omega) (by omega)
      rw [b_118_816]
      refine ⟨by unfold inR; omega, ?_⟩
      exact ih (i + 1) b4 T4 g4 _ _ _ _ _ _ _ _ (by omega) (by omega) j4 (r2.eu l5) (fun b5 T5 g5 i5 o5 o7 o8 o9 o10 o11 o12 o13 j5 l6 => k b5 T5 g5 i5 o5 o7 o8 o9 o10 o11 o12 o13 j5 (((l2.trans l5).trans l6).le (by omega)))) (by omega) (by omega) (S := T) _ 0 b g o9 o10 o11 o12 o13 rfl (Int.le_refl _) n0 j2.1 (EL.rfl.le (by omega) (by omega) (by omega))
    rw [al_0 iv] at nn
    rw [b_118_74]
    exact nn
/-- the times -/
theorem l_times (q1 : ∀ h, Q (.inl (some (zi 1))) h) {X Y : Nat} (hX : X ≤ MXC) (hY : Y ≤ MXS) (m : Nat) : ∀ (i : Int) (a : Na) (h : Zh) (o2 o3 o4 o5 o7 o8 o9 o10 o11 o12 o13 : Option Zv), m = (3 - i).toNat → 0 ≤ i → Ij a → gK h (a 208 0) = 15 → gC h + 9800 * m ≤ X → gS h + 980000 * m ≤ Y →
    WP 118 2 [some (zr (some (a 208 0))), some (zi i), o2, o3, o4, o5, none, o7, o8, o9, o10, o11, o12, o13] [] h Q := by
  induction m with
  | zero =>
    intro i a h o2 o3 o4 o5 o7 o8 o9 o10 o11 o12 o13 e1 e2 hi K15 rc rs
    rw [b_118_2, brt (by omega), b_118_828]
    exact ⟨by omega, q1 h⟩
  | succ m ih =>
    intro i a h o2 o3 o4 o5 o7 o8 o9 o10 o11 o12 o13 e1 e2 hi K15 rc rs
    have rc1 : gC h + 9800 ≤ X ∧ gC h + 9800 + 9800 * m ≤ X := by omega
    have rs1 : gS h + 980000 ≤ Y ∧ gS h + 980000 + 980000 * m ≤ Y := by omega
    clear rc rs
    obtain ⟨rc, rc2⟩ := rc1
    obtain ⟨rs, rs2⟩ := rs1
    rw [b_118_2, brf (by omega), b_118_7]
    refine ⟨⟨Nat.le_trans (by omega) hX, Nat.le_trans (by omega) hY⟩, ?_⟩
    refine MD.new (a := a) (L := []) (R := []) (W := []) hi ⟨fun x hx => (nomatch hx), fun x hx => (nomatch hx), fun x hx => (nomatch hx)⟩ 200 8 7 (by omega) (fun x hx => (nomatch hx)) (fun x hx => (nomatch hx)) (G := fun q g => WP 118 10 [some (zr (some (a 208 0))), some (zi i), o2, o3, o4, o5, none, o7, o8, o9, o10, o11, o12, o13] [zr (some q)] g Q) (fun b1 g1 i1 m1 f1 c1 s1 _ => ?_)
    obtain ⟨e8, t8⟩ := f1 (fun f => f = 208) (by omega) 208 0 rfl (by rw [K15]; omega)
    have q8 : (8 : Int).toNat = 8 := rfl
    rw [q8] at s1
    clear q8
    have K1 : gK g1 (b1 208 0) = 15 := by rw [e8, t8.1]; exact K15
    rw [← e8, b_118_10]
    refine ⟨by unfold inR; omega, by unfold inR; omega, (kd_some _ _ _).mpr (m1.1 _ (List.mem_singleton.mpr rfl)).1.1, ?_⟩
    refine p_ctor i1 m1 K1 (31 * i + 7) (by omega) (Nat.le_trans (by omega) hX) (Nat.le_trans (by omega) hY) (fun b2 g2 j2 y2 y8 d2 c2 s2 => ?_)
    rw [kont_n]
    show WP 118 22 _ _ _ _
    rw [← y2, ← y8, b_118_22]
    refine ⟨j2.kp, j2.kp, ?_⟩
    rw [ad_some, j2.2.2.1.q1]
    have r2 : RM b2 g2 48 := ⟨by omega, Nat.le_trans (by omega) hX, Nat.le_trans (by omega) hY⟩
    refine p_foundAll j2 (r2.le (by omega)) (fun b3 T3 g3 j3 l3 => ?_)
    rw [kont_v]
    show WP 118 32 _ _ _ _
    obtain ⟨z0, z2, z8, -⟩ := id l3
    rw [← z0, ← z2, ← z8, b_118_32, brf one_ne0', b_118_37]
    refine l_steps i 0 5 0 b3 T3 g3 _ _ _ _ _ _ _ _ rfl (Int.le_refl _) j3 (RM.eu (n := 23) r2 l3) (fun b4 T4 g4 i4 o5 o7 o8 o9 o10 o11 o12 o13 j4 l4 => ?_)
    have ll := l3.trans l4
    have lc := ll.2.2.2.2.1
    have ls := ll.2.2.2.2.2
    rw [b_118_822]
    refine ⟨by unfold inR; omega, ?_⟩
    exact ih (i + 1) b4 g4 _ _ _ _ _ _ _ _ _ _ _ (by omega) (by omega) j4.1.1 j4.1.2.2.1.q7 (by omega) (by omega)
end
/-- a first naming -/
def na0 (f : Nat) (i : Int) : Nat :=
  (f + (if 0 ≤ i then 2 * i.toNat else 2 * (-i).toNat - 1)) * (f + (if 0 ≤ i then 2 * i.toNat else 2 * (-i).toNat - 1)) + (if 0 ≤ i then 2 * i.toNat else 2 * (-i).toNat - 1)
theorem na0_s {x y x2 y2 : Nat} (e : (x + y) * (x + y) + y = (x2 + y2) * (x2 + y2) + y2) : ¬ x + y < x2 + y2 := by
  intro h
  have k := Nat.mul_le_mul (show x + y + 1 ≤ x2 + y2 from h) (show x + y + 1 ≤ x2 + y2 from h)
  have k2 : (x + y + 1) * (x + y + 1) = (x + y) * (x + y) + 2 * (x + y) + 1 := by
    rw [Nat.add_mul, Nat.mul_add]; omega
  omega
theorem Ij_na0 : Ij na0 := by
  intro f i g j
  refine propext ⟨fun e => ?_, fun ⟨e1, e2⟩ => by rw [e1, e2]⟩
  unfold na0 at e
  have k1 := na0_s e
  have k2 := na0_s e.symm
  have s : f + (if 0 ≤ i then 2 * i.toNat else 2 * (-i).toNat - 1) = g + (if 0 ≤ j then 2 * j.toNat else 2 * (-j).toNat - 1) := by omega
  rw [s] at e
  have e2 := Nat.add_left_cancel e
  refine ⟨by omega, ?_⟩
  clear e k1 k2 s
  split at e2 <;> split at e2 <;> omega
theorem law_start : LawWP := by
  intro p L xs hL
  have c1 : 600000 ≤ MXC := Nat.le_of_ble_eq_true rfl
  have c2 : 7000000 ≤ MXS := Nat.le_of_ble_eq_true rfl
  have i0 := Ij_nm Ij_na0 208 0 p
  have n0 : nm na0 208 0 p 208 0 = p := nm_self na0 208 0 p
  generalize nm na0 208 0 p = a0 at i0 n0
  have s0 : gK (h0L p L xs) (a0 208 0) = 15 := by rw [n0]; exact if_pos rfl
  have g0 : gC (h0L p L xs) = 0 := rfl
  have g1 : gS (h0L p L xs) = 0 := rfl
  generalize h0L p L xs = h0 at s0 g0 g1
  have q : ∀ h : Zh, (fun (o : (Option Zv) ⊕ Nat) (_ : Zh) => o = .inl (some (zi 1))) (.inl (some (zi 1))) h := fun _ => rfl
  generalize (fun (o : (Option Zv) ⊕ Nat) (_ : Zh) => o = .inl (some (zi 1))) = Q at q
  show WP 118 0 [some (zr (some p)), none, none, none, none, none, none, none, none, none, none, none, none, none] [] h0 Q
  rw [← n0, b_118_0]
  exact l_times q c1 c2 3 0 a0 h0 none none none none none none none none none none none rfl (Int.le_refl _) i0 s0 (by omega) (by omega)
