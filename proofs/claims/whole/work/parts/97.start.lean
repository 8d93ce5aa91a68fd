/-! THE LAW'S START -/
/-- a first naming -/
def na0 (f : Nat) (i : Int) : Nat :=
  (f + (if 0 ≤ i then 2 * i.toNat else 2 * (-i).toNat - 1)) * (f + (if 0 ≤ i then 2 * i.toNat else 2 * (-i).toNat - 1)) + (if 0 ≤ i then 2 * i.toNat else 2 * (-i).toNat - 1)
theorem na0_s {x y x2 y2 : Nat} (e : (x + y) * (x + y) + y = (x2 + y2) * (x2 + y2) + y2) : ¬ x + y < x2 + y2 := by
  intro h
  have k := Nat.mul_le_mul (show x + y + 1 ≤ x2 + y2 from h) (show x + y + 1 ≤ x2 + y2 from h)
  have k2 : (x + y + 1) * (x + y + 1) = (x + y) * (x + y) + 2 * (x + y) + 1 := by
    rw [Nat.add_mul, Nat.mul_add]; omega
  omega
theorem Ij_na0 : Ij na0 := by
  intro f i g j
  refine propext ⟨fun e => ?_, fun ⟨e1, e2⟩ => by rw [e1, e2]⟩
  unfold na0 at e
  have k1 := na0_s e
  have k2 := na0_s e.symm
  have s : f + (if 0 ≤ i then 2 * i.toNat else 2 * (-i).toNat - 1) = g + (if 0 ≤ j then 2 * j.toNat else 2 * (-j).toNat - 1) := by omega
  rw [s] at e
  have e2 := Nat.add_left_cancel e
  refine ⟨by omega, ?_⟩
  clear e k1 k2 s
  split at e2 <;> split at e2 <;> omega
/-- the script's place, carried -/
def SXa (a : Na) (h : Zh) (L : Int) (sc : Int → Int) : Prop := gK h (a 201 0) = 15 ∧ gL h (a 201 0) = L ∧ ∀ i, gI h (a 201 0) i = sc i
theorem SXa.fr {a b : Na} {h g : Zh} {L : Int} {sc : Int → Int} {P : Nat → Prop} (o : SXa a h L sc) (x : Fr P a h b g) (p : P 201) : SXa b g L sc ∧ b 201 0 = a 201 0 := by
  obtain ⟨o1, o2, o3⟩ := o
  obtain ⟨e, s0, s1, s2, -⟩ := x 201 0 p (by rw [o1]; omega)
  rw [← e] at s0 s1 s2 o1 o2 o3
  refine ⟨⟨s0.trans o1, s1.trans o2, fun i => (s2 i).trans (o3 i)⟩, e⟩
theorem law_start : LawWP := by
  intro p L xs hL
  have c1 : 600000 ≤ MXC := Nat.le_of_ble_eq_true rfl
  have c2 : 7000000 ≤ MXS := Nat.le_of_ble_eq_true rfl
  have i0 := Ij_nm Ij_na0 201 0 p
  have n0 : nm na0 201 0 p 201 0 = p := nm_self na0 201 0 p
  generalize nm na0 201 0 p = a0 at i0 n0
  have s0 : SXa a0 (h0L p L xs) (L : Int) (fun i => (xs i.toNat).toInt) := by
    refine ⟨?_, ?_, fun i => ?_⟩
    · rw [n0]; exact if_pos rfl
    · rw [n0]; exact if_pos rfl
    · rw [n0]; exact if_pos rfl
  have g0 : gC (h0L p L xs) = 0 := rfl
  have g1 : gS (h0L p L xs) = 0 := rfl
  generalize h0L p L xs = h0 at s0 g0 g1
  have q : ∀ h : Zh, (fun (o : (Option Zv) ⊕ Nat) (_ : Zh) => o = .inl (some (zi 1))) (.inl (some (zi 1))) h := fun _ => rfl
  generalize (fun (o : (Option Zv) ⊕ Nat) (_ : Zh) => o = .inl (some (zi 1))) = Q at q
  show WP 171 0 [some (zr (some p)), none, none, none, none, none, none, none, none] [] h0 Q
  rw [← n0, b_171_0]
  refine ⟨⟨by omega, by omega⟩, ?_⟩
  refine MD.new (a := a0) (L := []) (R := []) (W := []) i0 ⟨fun x hx => (nomatch hx), fun x hx => (nomatch hx), fun x hx => (nomatch hx)⟩ 0 7 6 (by omega) (fun x hx => (nomatch hx)) (fun x hx => (nomatch hx)) (G := fun q g => WP 171 3 [some (zr (some (a0 201 0))), none, none, none, none, none, none, none, none] [zr (some q)] g Q) ?_
  intro a1 h1 i1 m1 f1 gc1 gs1 _
  obtain ⟨s1, e1⟩ := s0.fr (f1 (fun f => f = 201) (by omega)) rfl
  rw [← e1, b_171_3]
  refine ⟨(kd_some _ _ _).mpr (m1.1 _ (List.mem_singleton.mpr rfl)).1.1, ?_⟩
  refine c_ctor i1 m1 (by omega) (by omega) ?_
  intro a2 h2 i2 r2 f2 e2 gc2 gs2
  obtain ⟨s2, e3⟩ := s1.fr f2 (by omega)
  simp only [kont_n, Nat.reduceAdd]
  rw [← e2, ← e3, b_171_7]
  have z1 : Int.toNat 7 = 7 := rfl
  rw [z1] at gs1
  refine ⟨⟨by omega, by omega⟩, ?_⟩
  refine MD.new (a := a2) (L := []) (R := []) (W := []) i2 ⟨fun x hx => (nomatch hx), fun x hx => (nomatch hx), fun x hx => (nomatch hx)⟩ 100 23 7 (by omega) (fun x hx => (nomatch hx)) (fun x hx => (nomatch hx)) (G := fun q g => WP 171 11 [some (zr (some (a2 201 0))), some (zr (some (a2 0 0))), none, none, none, none, none, none, none] [zr (some q)] g Q) ?_
  intro a3 h3 i3 m3 f3 gc3 gs3 _
  have f3 := f3 (fun f => f ≠ 100) (fun z => z rfl)
  obtain ⟨s3, e4⟩ := s2.fr f3 (by omega)
  have e5 := (f3 0 0 (by omega) (by rw [r2.c0]; omega)).1
  have r3 := r2.fr f3 (by omega)
  have z2 : Int.toNat 23 = 23 := rfl
  rw [z2] at gs3
  rw [← e4, ← e5, b_171_11]
  refine ⟨(kd_some _ _ _).mpr (m3.1 _ (List.mem_singleton.mpr rfl)).1.1, ?_⟩
  refine m_ctor i3 m3 (by omega) (by omega) ?_
  intro a4 h4 i4 r4 f4 e6 gc4 gs4
  obtain ⟨s4, e7⟩ := s3.fr f4 (by omega)
  have e8 := (f4 0 0 (by omega) (by rw [r3.c0]; omega)).1
  have r5 := r3.fr f4 (by omega)
  simp only [kont_n, Nat.reduceAdd]
  rw [← e6, ← e7, ← e8, b_171_15]
  have z3 : Int.toNat 1 = 1 := rfl
  refine ⟨⟨by omega, by omega, by omega, by rw [z3]; omega⟩, ?_⟩
  refine MD.new (a := a4) (L := []) (R := []) (W := []) i4 ⟨fun x hx => (nomatch hx), fun x hx => (nomatch hx), fun x hx => (nomatch hx)⟩ 200 1 11 (by omega) (fun x hx => (nomatch hx)) (fun x hx => (nomatch hx)) (G := fun q g => WP 171 19 [some (zr (some (a4 201 0))), some (zr (some (a4 0 0))), some (zr (some (a4 100 0))), none, none, none, none, none, none] [zr (some q)] g Q) ?_
  intro a5 h5 i5 m5 f5 gc5 gs5 _
  have f5 := f5 (fun f => f ≠ 200) (fun z => z rfl)
  obtain ⟨s5, e9⟩ := s4.fr f5 (by omega)
  have e10 := (f5 0 0 (by omega) (by rw [r5.c0]; omega)).1
  have e11 := (f5 100 0 (by omega) (by rw [r4.A.1]; omega)).1
  have r6 := r5.fr f5 (by omega)
  have r7 := r4.fr inv_S0.2.1.1 f5 (by omega)
  rw [z3] at gs5
  rw [← e9, ← e10, ← e11, b_171_19]
  obtain ⟨⟨o1, o2, -⟩, -⟩ := m5.1 _ (List.mem_singleton.mpr rfl)
  exact law_loop (L := L) (by omega) (by omega) q 512 0 a5 S0 h5 none none none (by omega) (by omega) (by omega) ⟨i5, r6, r7, o1, o2, s5.1, s5.2.1, s5.2.2⟩ inv_S0 (by omega) (by omega)
