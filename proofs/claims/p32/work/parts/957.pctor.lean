/-! THE PAGE'S CONSTRUCTOR -/
/-- what is known of the two objects while the page is made -/
def PF (a : Na) (h : Zh) : Prop := gR h (a 200 0) 0 = some (a 0 0) ∧ gK h (a 200 0) = 7 ∧ gK h (a 208 0) = 15 ∧ RepC a S0 h
section
variable {a b : Na} {S T : St} {h g : Zh} {Q : Zp}
theorem PF.c0 (x : PF a h) : gK h (a 0 0) ≠ 0 := by rw [x.2.2.2.A.1]; omega
theorem PF.fr (x : PF a h) {f : Nat} (hf : 200 < f ∧ f ≠ 208) (k : ∀ P : Nat → Prop, ¬ P f → Fr P a h b g) : PF b g ∧ b 200 0 = a 200 0 ∧ b 208 0 = a 208 0 ∧ b 0 0 = a 0 0 := by
  have fr := k (fun f2 => f2 ≠ f) (fun z => z rfl)
  have n0 := x.c0
  obtain ⟨x1, x2, x3, x4⟩ := x
  obtain ⟨e1, s1⟩ := fr 200 0 (by omega) (by rw [x2]; omega)
  obtain ⟨e2, s2⟩ := fr 208 0 (fun z => hf.2 z.symm) (by rw [x3]; omega)
  obtain ⟨e3, s3⟩ := fr 0 0 (by omega) n0
  exact ⟨⟨by rw [e1, s1.2.2.2.1, e3]; exact x1, by rw [e1, s1.1]; exact x2, by rw [e2, s2.1]; exact x3, x4.fr fr (fun f2 h1 => by omega)⟩, e1, e2, e3⟩
theorem PF.put (hi : Ij a) (x : PF a h) {f : Nat} {j : Int} {y : Option Nat} (hf : 200 ≤ f) (n : ¬ (f = 200 ∧ j = 0)) : PF a (pR h (a f 0) j y) := by
  obtain ⟨x1, x2, x3, x4⟩ := x
  refine ⟨?_, x2, x3, x4.fr (Fr_pR hi (P := fun f => f < 100) (by omega)) (fun f h1 => h1)⟩
  rw [gR_pR, if_neg (fun z => by rw [hi] at z; omega)]
  exact x1
theorem p_ctor (hi : Ij a) (m0 : MD a h [(200, 7, 8)] [] []) (K15 : gK h (a 208 0) = 15) (d : Int) (hd0 : 0 ≤ d) (rc : gC h + 200 ≤ MXC) (rs : gS h + 20000 ≤ MXS) (hQ : ∀ b g, JQ b S0 g → b 200 0 = a 200 0 → b 208 0 = a 208 0 → gI g (b 200 0) 2 = d → gC g ≤ gC h + 110 → gS g ≤ gS h + 16020 → Q (.inl none) g) :
    WP 89 0 [some (zr (some (a 200 0))), some (zr (some (a 208 0))), some (zi d)] [] h Q := by
  rw [b_89_0]
  refine ⟨Option.some_ne_none _, ⟨by omega, by omega⟩, ?_⟩
  refine MD.new hi m0 0 7 6 (by decide) (by simp) (by simp) (G := fun q g => WP 89 8 [some (zr (some (a 200 0))), some (zr (some (a 208 0))), some (zi d)] [zr (some q), zr (some (a 200 0))] g Q) (fun b1 g1 i1 m1 f1 c1 s1 e1 => ?_)
  have e200 : b1 200 0 = a 200 0 := e1 (200, 7, 8) (by simp)
  obtain ⟨e208, t208⟩ := f1 (fun f => f = 208) (by omega) 208 0 rfl (by rw [K15]; omega)
  rw [← e200, ← e208, b_89_8]
  refine ⟨(kd_some _ _ _).mpr (m1.1 (0, 6, 7) (by simp)).1.1, ?_⟩
  refine c_ctor i1 ⟨fun x hx => m1.1 x (by rw [List.mem_singleton.mp hx]; simp), fun y hy => by simp at hy, fun z hz => by simp at hz⟩ (by omega) (by omega) (fun b2 g2 i2 hr2 f2 e00 c2 s2 => ?_)
  rw [kont_n]
  show WP 89 12 _ _ _ _
  have K7 : gK g1 (b1 200 0) = 7 := (m1.1 (200, 7, 8) (by simp)).1.1
  obtain ⟨e200b, s200b⟩ := f2 200 0 (by omega) (by rw [K7]; omega)
  obtain ⟨e208b, s208b⟩ := f2 208 0 (by omega) (by rw [e208, t208.1, K15]; omega)
  have m2 : MD b2 g2 [(200, 7, 8)] [] [] := by
    have z := (m1.1 (200, 7, 8) (by simp))
    refine ⟨fun x hx => ?_, fun y hy => by simp at hy, fun z hz => by simp at hz⟩
    rw [List.mem_singleton.mp hx]
    obtain ⟨⟨o1, o2, o3⟩, o4⟩ := z
    refine ⟨⟨?_, ?_, fun j => ?_⟩, o4⟩
    · show gK g2 (b2 200 0) = 7; rw [e200b, s200b.1]; exact o1
    · show gL g2 (b2 200 0) = 8; rw [e200b, s200b.2.1]; exact o2
    · show gI g2 (b2 200 0) j = 0; rw [e200b, s200b.2.2.1]; exact o3 j
  rw [← e200b, ← e208b, ← e00, b_89_12]
  refine ⟨(kd_some _ _ _).mpr (m2.1 (200, 7, 8) (by simp)).1.1, ?_⟩
  rw [ad_some]
  have pf3 : PF b2 (pR g2 (b2 200 0) 0 (some (b2 0 0))) := ⟨by rw [gR_pR, if_pos ⟨rfl, rfl⟩], (m2.1 (200, 7, 8) (by simp)).1.1, by
    show gK g2 (b2 208 0) = 15
    rw [e208b, s208b.1, e208, t208.1]; exact K15, hr2.fr (Fr_pR i2 (P := fun f => f < 100) (by omega)) (fun f h1 => h1)⟩
  have m3 : MD b2 (pR g2 (b2 200 0) 0 (some (b2 0 0))) [(200, 7, 8)] [] [] := ⟨fun x hx => m2.1 x hx, fun y hy => by simp at hy, fun z hz => by simp at hz⟩
  have c3 : gC (pR g2 (b2 200 0) 0 (some (b2 0 0))) = gC g2 := rfl
  have s3 : gS (pR g2 (b2 200 0) 0 (some (b2 0 0))) = gS g2 := rfl
  revert pf3 m3 c3 s3
  generalize pR g2 (b2 200 0) 0 (some (b2 0 0)) = g3
  intro pf3 m3 c3 s3
  have t3 : b2 200 0 = a 200 0 := e200b.trans e200
  have w3 : b2 208 0 = a 208 0 := e208b.trans e208
  -- rights
  rw [b_89_15]
  refine ⟨⟨by omega, by omega, by omega, by show gS g3 + 0 ≤ MXS; omega⟩, ?_⟩
  refine MD.new i2 m3 201 0 10 (by decide) (by simp) (by simp) (G := fun q g => WP 89 19 [some (zr (some (b2 200 0))), some (zr (some (b2 208 0))), some (zi d)] [zr (some q), zr (some (b2 200 0))] g Q) (fun b4 g4 i4 m4 f4 c4 s4 e4 => ?_)
  obtain ⟨pf4, a4, v4, -⟩ := pf3.fr (f := 201) (by omega) f4
  rw [← a4, ← v4, b_89_19]
  refine ⟨(kd_some _ _ _).mpr pf4.2.1, ?_⟩
  rw [ad_some]
  have m5 := MD.put i4 m4 200 3 201 ⟨(200, 7, 8), by simp, rfl⟩ ⟨(201, 10, 0), by simp, rfl⟩ (by simp) (by simp)
  have pf5 := pf4.put i4 (f := 200) (j := 3) (y := some (b4 201 0)) (by omega) (by omega)
  have c5 : gC (pR g4 (b4 200 0) 3 (some (b4 201 0))) = gC g4 := rfl
  have s5 : gS (pR g4 (b4 200 0) 3 (some (b4 201 0))) = gS g4 := rfl
  revert m5 pf5 c5 s5
  generalize pR g4 (b4 200 0) 3 (some (b4 201 0)) = g5
  intro m5 pf5 c5 s5
  -- texts
  rw [b_89_22]
  refine ⟨⟨⟨rfl, rfl⟩, by omega, by omega⟩, fun q r hq hr hne => ?_⟩
  refine MD.new i4 m5 203 0 14 (by decide) (by simp) (by simp) (G := fun r g => gK g q = 0 → WP 89 29 [some (zr (some (b4 200 0))), some (zr (some (b4 208 0))), some (zi d)] [zr (some q), zr (some (b4 200 0))] (pR (nw g q 16 1) q 0 (some r)) Q) (fun b6 g6 i6 m6 f6 c6 s6 e6 hq6 => ?_) r hr (by rw [gK_nw, if_neg (fun z => hne z.symm)]; exact hq)
  obtain ⟨pf6, a6, v6, -⟩ := pf5.fr (f := 203) (by omega) f6
  rw [← a6, ← v6]
  refine MD.new i6 m6 202 1 16 (by decide) (by simp) (by simp) (G := fun q g => WP 89 29 [some (zr (some (b6 200 0))), some (zr (some (b6 208 0))), some (zi d)] [zr (some q), zr (some (b6 200 0))] (pR g q 0 (some (b6 203 0))) Q) (fun b7 g7 i7 m7 f7 c7 s7 e7 => ?_) q hq6
  obtain ⟨pf7, a7, v7, -⟩ := pf6.fr (f := 202) (by omega) f7
  rw [← a7, ← v7, ← e7 (203, 14, 0) (by simp)]
  have m8 := MD.put i7 m7 202 0 203 ⟨(202, 16, 1), by simp, rfl⟩ ⟨(203, 14, 0), by simp, rfl⟩ (by simp) (by simp)
  have pf8 := pf7.put i7 (f := 202) (j := 0) (y := some (b7 203 0)) (by omega) (by omega)
  have c8 : gC (pR g7 (b7 202 0) 0 (some (b7 203 0))) = gC g7 := rfl
  have s8 : gS (pR g7 (b7 202 0) 0 (some (b7 203 0))) = gS g7 := rfl
  revert m8 pf8 c8 s8
  generalize pR g7 (b7 202 0) 0 (some (b7 203 0)) = g8
  intro m8 pf8 c8 s8
  rw [b_89_29]
  refine ⟨(kd_some _ _ _).mpr pf8.2.1, ?_⟩
  rw [ad_some]
  have m9 := MD.put i7 m8 200 5 202 ⟨(200, 7, 8), by simp, rfl⟩ ⟨(202, 16, 1), by simp, rfl⟩ (by simp) (by simp)
  have pf9 := pf8.put i7 (f := 200) (j := 5) (y := some (b7 202 0)) (by omega) (by omega)
  have c9 : gC (pR g8 (b7 200 0) 5 (some (b7 202 0))) = gC g8 := rfl
  have s9 : gS (pR g8 (b7 200 0) 5 (some (b7 202 0))) = gS g8 := rfl
  revert m9 pf9 c9 s9
  generalize pR g8 (b7 200 0) 5 (some (b7 202 0)) = g9
  intro m9 pf9 c9 s9
  -- notes
  rw [b_89_32]
  refine ⟨⟨by omega, by omega, by omega, by show gS g9 + 0 ≤ MXS; omega⟩, ?_⟩
  refine MD.new i7 m9 204 0 14 (by decide) (by simp) (by simp) (G := fun q g => WP 89 37 [some (zr (some (b7 200 0))), some (zr (some (b7 208 0))), some (zi d)] [zr (some q), zr (some (b7 200 0))] g Q) (fun b10 g10 i10 m10 f10 c10 s10 e10 => ?_)
  obtain ⟨pf10, a10, v10, -⟩ := pf9.fr (f := 204) (by omega) f10
  rw [← a10, ← v10, b_89_37]
  refine ⟨(kd_some _ _ _).mpr pf10.2.1, ?_⟩
  rw [ad_some]
  have m11 := MD.put i10 m10 200 6 204 ⟨(200, 7, 8), by simp, rfl⟩ ⟨(204, 14, 0), by simp, rfl⟩ (by simp) (by simp)
  have pf11 := pf10.put i10 (f := 200) (j := 6) (y := some (b10 204 0)) (by omega) (by omega)
  have c11 : gC (pR g10 (b10 200 0) 6 (some (b10 204 0))) = gC g10 := rfl
  have s11 : gS (pR g10 (b10 200 0) 6 (some (b10 204 0))) = gS g10 := rfl
  revert m11 pf11 c11 s11
  generalize pR g10 (b10 200 0) 6 (some (b10 204 0)) = g11
  intro m11 pf11 c11 s11
  -- exported
  rw [b_89_40]
  refine ⟨⟨by omega, by omega, by omega, by show gS g11 + 0 ≤ MXS; omega⟩, ?_⟩
  refine MD.new i10 m11 211 0 14 (by decide) (by simp) (by simp) (G := fun q g => WP 89 45 [some (zr (some (b10 200 0))), some (zr (some (b10 208 0))), some (zi d)] [zr (some q), zr (some (b10 200 0))] g Q) (fun b g12 i12 m12 f12 c12 s12 e12 => ?_)
  obtain ⟨pf12, a12, v12, -⟩ := pf11.fr (f := 211) (by omega) f12
  rw [← a12, ← v12, b_89_45]
  refine ⟨(kd_some _ _ _).mpr pf12.2.1, ?_⟩
  rw [ad_some]
  have m13 := MD.put i12 m12 200 7 211 ⟨(200, 7, 8), by simp, rfl⟩ ⟨(211, 14, 0), by simp, rfl⟩ (by simp) (by simp)
  have pf13 := pf12.put i12 (f := 200) (j := 7) (y := some (b 211 0)) (by omega) (by omega)
  have c13 : gC (pR g12 (b 200 0) 7 (some (b 211 0))) = gC g12 := rfl
  have s13 : gS (pR g12 (b 200 0) 7 (some (b 211 0))) = gS g12 := rfl
  revert m13 pf13 c13 s13
  generalize pR g12 (b 200 0) 7 (some (b 211 0)) = g13
  intro m13 pf13 c13 s13
  rw [b_89_48]
  refine ⟨(kd_some _ _ _).mpr pf13.2.1, ?_⟩
  rw [b_89_53, ad_some]
  refine ⟨(kd_some _ _ _).mpr pf13.2.1, ?_⟩
  rw [b_89_58]
  try simp only [ad_some]
  obtain ⟨mL, mR, -⟩ := m13
  obtain ⟨⟨K1, L1, -⟩, -⟩ := mL (201, 10, 0) (by simp)
  obtain ⟨⟨K2, L2, -⟩, -⟩ := mL (202, 16, 1) (by simp)
  obtain ⟨⟨K3, L3, -⟩, -⟩ := mL (203, 14, 0) (by simp)
  obtain ⟨⟨K4, L4, -⟩, -⟩ := mL (204, 14, 0) (by simp)
  obtain ⟨⟨K0, -, I0⟩, -⟩ := mL (200, 7, 8) (by simp)
  have R3 : gR g13 (b 200 0) 3 = some (b 201 0) := (mR (200, 3, 201) (by simp)).1
  have R5 : gR g13 (b 200 0) 5 = some (b 202 0) := (mR (200, 5, 202) (by simp)).1
  have R6 : gR g13 (b 200 0) 6 = some (b 204 0) := (mR (200, 6, 204) (by simp)).1
  have R2 : gR g13 (b 202 0) 0 = some (b 203 0) := (mR (202, 0, 203) (by simp)).1
  have I0 : ∀ j, gI g13 (b 200 0) j = 0 := I0
  have K1 : gK g13 (b 201 0) = 10 := K1
  have L1 : gL g13 (b 201 0) = 0 := L1
  have K2 : gK g13 (b 202 0) = 16 := K2
  have L2 : gL g13 (b 202 0) = 1 := L2
  have K3 : gK g13 (b 203 0) = 14 := K3
  have L3 : gL g13 (b 203 0) = 0 := L3
  have K4 : gK g13 (b 204 0) = 14 := K4
  have L4 : gL g13 (b 204 0) = 0 := L4
  have ne : ∀ f, f ≠ 200 → ¬ (b f 0 = b 200 0) := fun f n z => by rw [i12] at z; exact n z.1
  have hr9 : RepC b S0 (pI (pR g13 (b 200 0) 1 (some (b 208 0))) (b 200 0) 2 d) := pf13.2.2.2.fr ((Fr_pR i12 (P := fun f => f < 100) (by omega)).trans (Fr_pI i12 (P := fun f => f < 100) (by omega))) (fun f h1 => h1)
  refine hQ b _ ⟨i12, hr9, ?_, inv_S0⟩ ?_ ?_ ?_ ?_ ?_
  · refine ⟨⟨pf13.2.1, ?_, ?_, ?_, ?_, ?_, ?_, ?_, pf13.2.2.1⟩, ⟨K1, L1, fun w h1 h2 => by have h2 : w < 0 := h2; omega⟩, ⟨K2, L2, fun v h1 h2 => ?_, fun v h1 h2 => ?_, L3, fun p h1 h2 => by have h2 : p < 0 := h2; omega⟩, fun n h1 h2 => by have h2 : n < 0 := h2; omega, ⟨K4, L4⟩, fun k hk => by have h1 := hk.1; have h2 : k < 0 := hk.2; omega, fun k hk => by have h1 := hk.1.1; have h2 : k < 0 := hk.1.2; omega⟩
    · rw [gR_pI, gR_pR, if_neg (by omega)]; exact pf13.1
    · rw [gR_pI, gR_pR, if_pos ⟨rfl, rfl⟩]
    · rw [gI_pI, if_pos ⟨rfl, rfl⟩]; exact hd0
    · rw [gR_pI, gR_pR, if_neg (by omega)]; exact R3
    · rw [gI_pI, if_neg (by omega), gI_pR]; exact I0 4
    · rw [gR_pI, gR_pR, if_neg (by omega)]; exact R5
    · rw [gR_pI, gR_pR, if_neg (by omega)]; exact R6
    · have h2 : v ≤ 0 := h2
      have e : v = 0 := by omega
      subst e
      rw [gR_pI, gR_pR, if_neg (fun z => ne 202 (by omega) z.1)]
      exact R2
    · have h2 : v ≤ 0 := h2
      have e : v = 0 := by omega
      subst e
      exact K3
  · exact a12.trans (a10.trans (a7.trans (a6.trans (a4.trans t3))))
  · exact v12.trans (v10.trans (v7.trans (v6.trans (v4.trans w3))))
  · rw [gI_pI, if_pos ⟨rfl, rfl⟩]
  · show gC g13 ≤ _; omega
  · show gS g13 ≤ _
    have q0 : (0 : Int).toNat = 0 := rfl
    have q1 : (1 : Int).toNat = 1 := rfl
    have q7 : (7 : Int).toNat = 7 := rfl
    omega
end
