/-! THE CLASS'S CONSTRUCTOR -/
def S0 : St := fun _ _ _ => 0
theorem inv_S0 : Inv S0 := by
  refine ⟨⟨⟨?_, ?_⟩, fun u => ⟨?_, ?_⟩⟩, ⟨⟨?_, ?_⟩, fun v h1 h2 => ⟨?_, ?_⟩, ⟨?_, ?_⟩, fun v p h1 h2 h3 h4 => ?_, fun n h1 h2 => ?_⟩, ⟨⟨?_, ?_⟩, fun k hk => ?_, fun k h1 h2 => ⟨rfl, rfl, rfl⟩, fun k hk => ?_, fun k j hk hj e h => ?_⟩, ⟨?_, ?_⟩⟩
  all_goals first
    | (show (0 : Int) ≤ 0; omega)
    | (show (0 : Int) ≤ 6; omega)
    | (show (0 : Int) ≤ 4; omega)
    | (show (0 : Int) ≤ 60; omega)
    | (show (0 : Int) ≤ 200; omega)
    | (show (0 : Int) ≤ 40 * 0; omega)
    | (have h4 : p < 0 := h4; omega)
    | (have h2 : n < 0 := h2; omega)
    | (have h1 := hk.1; have h2 : k < 0 := hk.2; omega)
    | (have h1 := hk.1.1; have h2 : k < 0 := hk.1.2; omega)
section
variable {a : Na} {h : Zh} {Q : Zp}
theorem c_ctor (hi : Ij a) (m0 : MD a h [(0, 6, 7)] [] []) (rc : gC h + 100 ≤ MXC) (rs : gS h + 16000 ≤ MXS) (hQ : ∀ b g, Ij b → RepC b S0 g → Fr (fun f => 100 ≤ f) a h b g → b 0 0 = a 0 0 → gC g ≤ gC h + 100 → gS g ≤ gS h + 16000 → Q (.inl none) g) :
    WP 31 0 [some (zr (some (a 0 0)))] [] h Q := by
  rw [b_31_0]
  refine ⟨Option.some_ne_none _, ⟨by omega, by omega, by omega, by show gS h + 6 ≤ MXS; omega⟩, ?_⟩
  refine MD.new hi m0 1 6 10 (by decide) (by simp) (by simp) (G := fun q g => WP 31 9 [some (zr (some (a 0 0)))] [zr (some q), zr (some (a 0 0))] g (Q)) (fun b1 g1 i1 m1 f1 c1 s1 e1 => ?_)
  rw [← e1 (0, 6, 7) (by simp)]
  have t1 : b1 0 0 = a 0 0 := (e1 (0, 6, 7) (by simp)).trans rfl
  rw [b_31_9]
  refine ⟨(kd_some _ _ _).mpr (m1.1 (0, 6, 7) (by simp)).1.1, ?_⟩
  rw [ad_some]
  have m2 := MD.put i1 m1 0 0 1 ⟨(0, 6, 7), by simp, rfl⟩ ⟨(1, 10, 6), by simp, rfl⟩ (by simp) (by simp)
  have f2 : ∀ P : Nat → Prop, ¬ P 0 → Fr P b1 g1 b1 (pR g1 (b1 0 0) 0 (some (b1 1 0))) := fun P n => Fr_pR i1 n
  have c2 : gC (pR g1 (b1 0 0) 0 (some (b1 1 0))) = gC g1 := rfl
  have s2 : gS (pR g1 (b1 0 0) 0 (some (b1 1 0))) = gS g1 := rfl
  revert m2 f2 c2 s2
  generalize pR g1 (b1 0 0) 0 (some (b1 1 0)) = g2
  intro m2 f2 c2 s2
  rw [b_31_12]
  refine ⟨⟨by omega, by omega⟩, ?_⟩
  refine MD.new i1 m2 2 5 5 (by decide) (by simp) (by simp) (G := fun q g => WP 31 16 [some (zr (some (b1 0 0)))] [zr (some q), zr (some (b1 0 0))] g (Q)) (fun b3 g3 i3 m3 f3 c3 s3 e3 => ?_)
  rw [← e3 (0, 6, 7) (by simp)]
  have t3 : b3 0 0 = a 0 0 := (e3 (0, 6, 7) (by simp)).trans t1
  rw [b_31_16]
  refine ⟨(kd_some _ _ _).mpr (m3.1 (2, 5, 5) (by simp)).1.1, ?_⟩
  rw [b_22_0, show Int.toNat (61 : Int) = 61 from rfl]
  refine ⟨Option.some_ne_none _, ⟨by omega, by omega, by omega, by omega, by omega, by show gS g3 + 61 + 61 * 200 ≤ MXS; omega⟩, ?_⟩
  refine MD.new2 i3 m3 6 11 61 61 200 (by omega) (by omega) (by simp) (by simp) (G := fun q g => WP 22 14 [some (zr (some (b3 2 0)))] [zr (some q), zr (some (b3 2 0))] g (kont WP 31 17 [some (zr (some (b3 0 0)))] [zr (some (b3 2 0)), zr (some (b3 0 0))] [] Q)) (fun b4 g4 i4 m4 f4 c4 s4 e4 => ?_)
  rw [← e4 (0, 6, 7) (by simp), ← e4 (2, 5, 5) (by simp)]
  have t4 : b4 0 0 = a 0 0 := (e4 (0, 6, 7) (by simp)).trans t3
  have f42 : ∀ P : Nat → Prop, ¬ P 6 → ¬ P 11 → Fr P b3 g3 b4 g4 := f4
  rw [b_22_14]
  refine ⟨(kd_some _ _ _).mpr (m4.1 (2, 5, 5) (by simp)).1.1, ?_⟩
  rw [ad_some]
  have m5 := MD.put i4 m4 2 0 6 ⟨(2, 5, 5), by simp, rfl⟩ ⟨(6, 14, 61), by simp, rfl⟩ (by simp) (by simp)
  have f5 : ∀ P : Nat → Prop, ¬ P 2 → Fr P b4 g4 b4 (pR g4 (b4 2 0) 0 (some (b4 6 0))) := fun P n => Fr_pR i4 n
  have c5 : gC (pR g4 (b4 2 0) 0 (some (b4 6 0))) = gC g4 := rfl
  have s5 : gS (pR g4 (b4 2 0) 0 (some (b4 6 0))) = gS g4 := rfl
  revert m5 f5 c5 s5
  generalize pR g4 (b4 2 0) 0 (some (b4 6 0)) = g5
  intro m5 f5 c5 s5
  rw [b_22_17]
  refine ⟨⟨by omega, by omega, by omega, by show gS g5 + 61 ≤ MXS; omega⟩, ?_⟩
  refine MD.new i4 m5 7 61 10 (by decide) (by simp) (by simp) (G := fun q g => WP 22 22 [some (zr (some (b4 2 0)))] [zr (some q), zr (some (b4 2 0))] g (kont WP 31 17 [some (zr (some (b4 0 0)))] [zr (some (b4 2 0)), zr (some (b4 0 0))] [] Q)) (fun b6 g6 i6 m6 f6 c6 s6 e6 => ?_)
  rw [← e6 (0, 6, 7) (by simp), ← e6 (2, 5, 5) (by simp)]
  have t6 : b6 0 0 = a 0 0 := (e6 (0, 6, 7) (by simp)).trans t4
  rw [b_22_22]
  refine ⟨(kd_some _ _ _).mpr (m6.1 (2, 5, 5) (by simp)).1.1, ?_⟩
  rw [ad_some]
  have m7 := MD.put i6 m6 2 1 7 ⟨(2, 5, 5), by simp, rfl⟩ ⟨(7, 10, 61), by simp, rfl⟩ (by simp) (by simp)
  have f7 : ∀ P : Nat → Prop, ¬ P 2 → Fr P b6 g6 b6 (pR g6 (b6 2 0) 1 (some (b6 7 0))) := fun P n => Fr_pR i6 n
  have c7 : gC (pR g6 (b6 2 0) 1 (some (b6 7 0))) = gC g6 := rfl
  have s7 : gS (pR g6 (b6 2 0) 1 (some (b6 7 0))) = gS g6 := rfl
  revert m7 f7 c7 s7
  generalize pR g6 (b6 2 0) 1 (some (b6 7 0)) = g7
  intro m7 f7 c7 s7
  rw [b_22_25]
  refine ⟨⟨by omega, by omega, by omega, by show gS g7 + 2400 ≤ MXS; omega⟩, ?_⟩
  refine MD.new i6 m7 8 2400 10 (by decide) (by simp) (by simp) (G := fun q g => WP 22 31 [some (zr (some (b6 2 0)))] [zr (some q), zr (some (b6 2 0))] g (kont WP 31 17 [some (zr (some (b6 0 0)))] [zr (some (b6 2 0)), zr (some (b6 0 0))] [] Q)) (fun b8 g8 i8 m8 f8 c8 s8 e8 => ?_)
  rw [← e8 (0, 6, 7) (by simp), ← e8 (2, 5, 5) (by simp)]
  have t8 : b8 0 0 = a 0 0 := (e8 (0, 6, 7) (by simp)).trans t6
  rw [b_22_31]
  refine ⟨(kd_some _ _ _).mpr (m8.1 (2, 5, 5) (by simp)).1.1, ?_⟩
  rw [ad_some]
  have m9 := MD.put i8 m8 2 2 8 ⟨(2, 5, 5), by simp, rfl⟩ ⟨(8, 10, 2400), by simp, rfl⟩ (by simp) (by simp)
  have f9 : ∀ P : Nat → Prop, ¬ P 2 → Fr P b8 g8 b8 (pR g8 (b8 2 0) 2 (some (b8 8 0))) := fun P n => Fr_pR i8 n
  have c9 : gC (pR g8 (b8 2 0) 2 (some (b8 8 0))) = gC g8 := rfl
  have s9 : gS (pR g8 (b8 2 0) 2 (some (b8 8 0))) = gS g8 := rfl
  revert m9 f9 c9 s9
  generalize pR g8 (b8 2 0) 2 (some (b8 8 0)) = g9
  intro m9 f9 c9 s9
  rw [b_22_34, kont_n]
  show WP 31 20 _ _ _ _
  rw [b_31_20]
  refine ⟨(kd_some _ _ _).mpr (m9.1 (0, 6, 7) (by simp)).1.1, ?_⟩
  rw [ad_some]
  have m10 := MD.put i8 m9 0 1 2 ⟨(0, 6, 7), by simp, rfl⟩ ⟨(2, 5, 5), by simp, rfl⟩ (by simp) (by simp)
  have f10 : ∀ P : Nat → Prop, ¬ P 0 → Fr P b8 g9 b8 (pR g9 (b8 0 0) 1 (some (b8 2 0))) := fun P n => Fr_pR i8 n
  have c10 : gC (pR g9 (b8 0 0) 1 (some (b8 2 0))) = gC g9 := rfl
  have s10 : gS (pR g9 (b8 0 0) 1 (some (b8 2 0))) = gS g9 := rfl
  revert m10 f10 c10 s10
  generalize pR g9 (b8 0 0) 1 (some (b8 2 0)) = g10
  intro m10 f10 c10 s10
  rw [b_31_23]
  refine ⟨⟨by omega, by omega, by omega, by show gS g10 + 60 ≤ MXS; omega⟩, ?_⟩
  refine MD.new i8 m10 3 60 13 (by decide) (by simp) (by simp) (G := fun q g => WP 31 29 [some (zr (some (b8 0 0)))] [zr (some q), zr (some (b8 0 0))] g (Q)) (fun b11 g11 i11 m11 f11 c11 s11 e11 => ?_)
  rw [← e11 (0, 6, 7) (by simp)]
  have t11 : b11 0 0 = a 0 0 := (e11 (0, 6, 7) (by simp)).trans t8
  rw [b_31_29]
  refine ⟨(kd_some _ _ _).mpr (m11.1 (0, 6, 7) (by simp)).1.1, ?_⟩
  rw [ad_some]
  have m12 := MD.put i11 m11 0 2 3 ⟨(0, 6, 7), by simp, rfl⟩ ⟨(3, 13, 60), by simp, rfl⟩ (by simp) (by simp)
  have f12 : ∀ P : Nat → Prop, ¬ P 0 → Fr P b11 g11 b11 (pR g11 (b11 0 0) 2 (some (b11 3 0))) := fun P n => Fr_pR i11 n
  have c12 : gC (pR g11 (b11 0 0) 2 (some (b11 3 0))) = gC g11 := rfl
  have s12 : gS (pR g11 (b11 0 0) 2 (some (b11 3 0))) = gS g11 := rfl
  revert m12 f12 c12 s12
  generalize pR g11 (b11 0 0) 2 (some (b11 3 0)) = g12
  intro m12 f12 c12 s12
  rw [b_31_32]
  refine ⟨⟨by omega, by omega, by omega, by show gS g12 + 60 ≤ MXS; omega⟩, ?_⟩
  refine MD.new i11 m12 4 60 13 (by decide) (by simp) (by simp) (G := fun q g => WP 31 38 [some (zr (some (b11 0 0)))] [zr (some q), zr (some (b11 0 0))] g (Q)) (fun b13 g13 i13 m13 f13 c13 s13 e13 => ?_)
  rw [← e13 (0, 6, 7) (by simp)]
  have t13 : b13 0 0 = a 0 0 := (e13 (0, 6, 7) (by simp)).trans t11
  rw [b_31_38]
  refine ⟨(kd_some _ _ _).mpr (m13.1 (0, 6, 7) (by simp)).1.1, ?_⟩
  rw [ad_some]
  have m14 := MD.put i13 m13 0 3 4 ⟨(0, 6, 7), by simp, rfl⟩ ⟨(4, 13, 60), by simp, rfl⟩ (by simp) (by simp)
  have f14 : ∀ P : Nat → Prop, ¬ P 0 → Fr P b13 g13 b13 (pR g13 (b13 0 0) 3 (some (b13 4 0))) := fun P n => Fr_pR i13 n
  have c14 : gC (pR g13 (b13 0 0) 3 (some (b13 4 0))) = gC g13 := rfl
  have s14 : gS (pR g13 (b13 0 0) 3 (some (b13 4 0))) = gS g13 := rfl
  revert m14 f14 c14 s14
  generalize pR g13 (b13 0 0) 3 (some (b13 4 0)) = g14
  intro m14 f14 c14 s14
  rw [b_31_41]
  refine ⟨⟨by omega, by omega⟩, ?_⟩
  refine MD.new i13 m14 5 2 2 (by decide) (by simp) (by simp) (G := fun q g => WP 31 45 [some (zr (some (b13 0 0)))] [zr (some q), zr (some (b13 0 0))] g (Q)) (fun b15 g15 i15 m15 f15 c15 s15 e15 => ?_)
  rw [← e15 (0, 6, 7) (by simp)]
  have t15 : b15 0 0 = a 0 0 := (e15 (0, 6, 7) (by simp)).trans t13
  rw [b_31_45]
  refine ⟨(kd_some _ _ _).mpr (m15.1 (5, 2, 2) (by simp)).1.1, ?_⟩
  rw [b_10_0, show Int.toNat (4 : Int) = 4 from rfl]
  refine ⟨Option.some_ne_none _, ⟨by omega, by omega, by omega, by omega, by omega, by show gS g15 + 4 + 4 * 60 ≤ MXS; omega⟩, ?_⟩
  refine MD.new2 i15 m15 9 10 4 4 60 (by omega) (by omega) (by simp) (by simp) (G := fun q g => WP 10 12 [some (zr (some (b15 5 0)))] [zr (some q), zr (some (b15 5 0))] g (kont WP 31 46 [some (zr (some (b15 0 0)))] [zr (some (b15 5 0)), zr (some (b15 0 0))] [] Q)) (fun b16 g16 i16 m16 f16 c16 s16 e16 => ?_)
  rw [← e16 (0, 6, 7) (by simp), ← e16 (5, 2, 2) (by simp)]
  have t16 : b16 0 0 = a 0 0 := (e16 (0, 6, 7) (by simp)).trans t15
  have f162 : ∀ P : Nat → Prop, ¬ P 9 → ¬ P 10 → Fr P b15 g15 b16 g16 := f16
  rw [b_10_12]
  refine ⟨(kd_some _ _ _).mpr (m16.1 (5, 2, 2) (by simp)).1.1, ?_⟩
  rw [ad_some]
  have m17 := MD.put i16 m16 5 0 9 ⟨(5, 2, 2), by simp, rfl⟩ ⟨(9, 14, 4), by simp, rfl⟩ (by simp) (by simp)
  have f17 : ∀ P : Nat → Prop, ¬ P 5 → Fr P b16 g16 b16 (pR g16 (b16 5 0) 0 (some (b16 9 0))) := fun P n => Fr_pR i16 n
  have c17 : gC (pR g16 (b16 5 0) 0 (some (b16 9 0))) = gC g16 := rfl
  have s17 : gS (pR g16 (b16 5 0) 0 (some (b16 9 0))) = gS g16 := rfl
  revert m17 f17 c17 s17
  generalize pR g16 (b16 5 0) 0 (some (b16 9 0)) = g17
  intro m17 f17 c17 s17
  rw [b_10_15, kont_n]
  show WP 31 49 _ _ _ _
  rw [b_31_49]
  refine ⟨(kd_some _ _ _).mpr (m17.1 (0, 6, 7) (by simp)).1.1, ?_⟩
  rw [ad_some]
  have m18 := MD.put i16 m17 0 4 5 ⟨(0, 6, 7), by simp, rfl⟩ ⟨(5, 2, 2), by simp, rfl⟩ (by simp) (by simp)
  have f18 : ∀ P : Nat → Prop, ¬ P 0 → Fr P b16 g17 b16 (pR g17 (b16 0 0) 4 (some (b16 5 0))) := fun P n => Fr_pR i16 n
  have c18 : gC (pR g17 (b16 0 0) 4 (some (b16 5 0))) = gC g17 := rfl
  have s18 : gS (pR g17 (b16 0 0) 4 (some (b16 5 0))) = gS g17 := rfl
  revert m18 f18 c18 s18
  generalize pR g17 (b16 0 0) 4 (some (b16 5 0)) = g18
  intro m18 f18 c18 s18
  rw [b_31_52]
  obtain ⟨mL, mR, mW⟩ := m18
  obtain ⟨⟨K0, L0, I0⟩, -⟩ := mL (0, 6, 7) (by simp)
  obtain ⟨⟨K1, L1, I1⟩, -⟩ := mL (1, 10, 6) (by simp)
  obtain ⟨⟨K2, L2, I2⟩, -⟩ := mL (2, 5, 5) (by simp)
  obtain ⟨⟨K3, L3, I3⟩, -⟩ := mL (3, 13, 60) (by simp)
  obtain ⟨⟨K4, L4, I4⟩, -⟩ := mL (4, 13, 60) (by simp)
  obtain ⟨⟨K5, L5, I5⟩, -⟩ := mL (5, 2, 2) (by simp)
  obtain ⟨⟨K6, L6, I6⟩, -⟩ := mL (6, 14, 61) (by simp)
  obtain ⟨⟨K7, L7, I7⟩, -⟩ := mL (7, 10, 61) (by simp)
  obtain ⟨⟨K8, L8, I8⟩, -⟩ := mL (8, 10, 2400) (by simp)
  obtain ⟨⟨K9, L9, I9⟩, -⟩ := mL (9, 14, 4) (by simp)
  have R0_0 := (mR (0, 0, 1) (by simp)).1
  have R0_1 := (mR (0, 1, 2) (by simp)).1
  have R0_2 := (mR (0, 2, 3) (by simp)).1
  have R0_3 := (mR (0, 3, 4) (by simp)).1
  have R0_4 := (mR (0, 4, 5) (by simp)).1
  have R2_0 := (mR (2, 0, 6) (by simp)).1
  have R2_1 := (mR (2, 1, 7) (by simp)).1
  have R2_2 := (mR (2, 2, 8) (by simp)).1
  have R5_0 := (mR (5, 0, 9) (by simp)).1
  have W9 := (mW (9, 10, 4, 60) (by simp)).1
  have W6 := (mW (6, 11, 61, 200) (by simp)).1
  refine hQ b16 g18 i16 (RepC.mk ?_ ?_ ?_ ?_ ?_ ?_) ((f1 _ (by omega)).trans ((f2 _ (by omega)).trans ((f3 _ (by omega)).trans ((f42 _ (by omega) (by omega)).trans ((f5 _ (by omega)).trans ((f6 _ (by omega)).trans ((f7 _ (by omega)).trans ((f8 _ (by omega)).trans ((f9 _ (by omega)).trans ((f10 _ (by omega)).trans ((f11 _ (by omega)).trans ((f12 _ (by omega)).trans ((f13 _ (by omega)).trans ((f14 _ (by omega)).trans ((f15 _ (by omega)).trans ((f162 _ (by omega) (by omega)).trans ((f17 _ (by omega)).trans ((f18 _ (by omega)))))))))))))))))))) t16 (by omega) (by omega)
  · exact ⟨K0, I0 5, I0 6, R0_0, R0_1, R0_2, R0_3, R0_4, K1, L1, I1⟩
  · exact ⟨K2, I2 3, I2 4, R2_0, R2_1, R2_2, K6, L6, fun v h1 h2 => (W6 v h1 (by show v < 61; omega)).1, fun v h1 h2 => (W6 v h1 (by show v < 61; omega)).2.1, fun v h1 h2 => (W6 v h1 (by show v < 61; omega)).2.2, fun v p h1 h2 h3 h4 h5 => by have h5 : p < 0 := h5; omega, K7, L7, fun v h1 h2 => I7 v, K8, L8, fun n h1 h2 => by have h2 : n < 0 := h2; omega⟩
  · exact ⟨K3, L3, K4, L4⟩
  · exact fun k hk => by have h1 := hk.1; have h2 : k < 0 := hk.2; omega
  · exact fun k hk => by have h1 := hk.1.1; have h2 : k < 0 := hk.1.2; omega
  · exact ⟨K5, I5 1, R5_0, K9, L9, fun w h1 h2 => (W9 w h1 h2).1, fun w h1 h2 => (W9 w h1 h2).2.1, fun w h1 h2 => (W9 w h1 h2).2.2, fun w p h1 h2 h3 h4 => by have h4 : p < 0 := h4; omega⟩
end
