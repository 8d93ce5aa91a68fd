/-! THE REFERENCE'S CONSTRUCTOR -/
section
variable {a : Na} {h : Zh} {Q : Zp}
theorem m_ctor (hi : Ij a) (m0 : MD a h [(100, 7, 23)] [] []) (rc : gC h + 100 ≤ MXC) (rs : gS h + 16000 ≤ MXS) (hQ : ∀ b g, Ij b → RepM b S0 g → Fr (fun f => f < 100 ∨ 200 ≤ f) a h b g → b 100 0 = a 100 0 → gC g ≤ gC h + 100 → gS g ≤ gS h + 16000 → Q (.inl none) g) :
    WP 89 0 [some (zr (some (a 100 0)))] [] h Q := by
  rw [b_89_0]
  refine ⟨Option.some_ne_none _, ⟨by omega, by omega, by omega, by show gS h + 6 ≤ MXS; omega⟩, ?_⟩
  refine MD.new hi m0 102 6 10 (by decide) (by simp) (by simp) (G := fun q g => WP 89 9 [some (zr (some (a 100 0)))] [zr (some q), zr (some (a 100 0))] g (Q)) (fun b1 g1 i1 m1 f1 c1 s1 e1 => ?_)
  rw [← e1 (100, 7, 23) (by simp)]
  have t1 : b1 100 0 = a 100 0 := (e1 (100, 7, 23) (by simp)).trans rfl
  rw [b_89_9]
  refine ⟨(kd_some _ _ _).mpr (m1.1 (100, 7, 23) (by simp)).1.1, ?_⟩
  rw [ad_some]
  have m2 := MD.put i1 m1 100 2 102 ⟨(100, 7, 23), by simp, rfl⟩ ⟨(102, 10, 6), by simp, rfl⟩ (by simp) (by simp)
  have f2 : ∀ P : Nat → Prop, ¬ P 100 → Fr P b1 g1 b1 (pR g1 (b1 100 0) 2 (some (b1 102 0))) := fun P n => Fr_pR i1 n
  have c2 : gC (pR g1 (b1 100 0) 2 (some (b1 102 0))) = gC g1 := rfl
  have s2 : gS (pR g1 (b1 100 0) 2 (some (b1 102 0))) = gS g1 := rfl
  revert m2 f2 c2 s2
  generalize pR g1 (b1 100 0) 2 (some (b1 102 0)) = g2
  intro m2 f2 c2 s2
  rw [b_89_12]
  refine ⟨⟨by omega, by omega, by omega, by show gS g2 + 40 ≤ MXS; omega⟩, ?_⟩
  refine MD.new i1 m2 104 40 10 (by decide) (by simp) (by simp) (G := fun q g => WP 89 17 [some (zr (some (b1 100 0)))] [zr (some q), zr (some (b1 100 0))] g (Q)) (fun b3 g3 i3 m3 f3 c3 s3 e3 => ?_)
  rw [← e3 (100, 7, 23) (by simp)]
  have t3 : b3 100 0 = a 100 0 := (e3 (100, 7, 23) (by simp)).trans t1
  rw [b_89_17]
  refine ⟨(kd_some _ _ _).mpr (m3.1 (100, 7, 23) (by simp)).1.1, ?_⟩
  rw [ad_some]
  have m4 := MD.put i3 m3 100 4 104 ⟨(100, 7, 23), by simp, rfl⟩ ⟨(104, 10, 40), by simp, rfl⟩ (by simp) (by simp)
  have f4 : ∀ P : Nat → Prop, ¬ P 100 → Fr P b3 g3 b3 (pR g3 (b3 100 0) 4 (some (b3 104 0))) := fun P n => Fr_pR i3 n
  have c4 : gC (pR g3 (b3 100 0) 4 (some (b3 104 0))) = gC g3 := rfl
  have s4 : gS (pR g3 (b3 100 0) 4 (some (b3 104 0))) = gS g3 := rfl
  revert m4 f4 c4 s4
  generalize pR g3 (b3 100 0) 4 (some (b3 104 0)) = g4
  intro m4 f4 c4 s4
  rw [b_89_20, show Int.toNat (61 : Int) = 61 from rfl]
  refine ⟨⟨by omega, by omega, by omega, by omega, by omega, by show gS g4 + 61 + 61 * 0 ≤ MXS; omega⟩, ?_⟩
  refine MD.new2 i3 m4 105 150 61 1 0 (by omega) (by omega) (by simp) (by simp) (G := fun q g => WP 89 28 [some (zr (some (b3 100 0)))] [zr (some q), zr (some (b3 100 0))] g (Q)) (fun b5 g5 i5 m5 f5 c5 s5 e5 => ?_)
  rw [← e5 (100, 7, 23) (by simp)]
  have t5 : b5 100 0 = a 100 0 := (e5 (100, 7, 23) (by simp)).trans t3
  have f52 : ∀ P : Nat → Prop, ¬ P 105 → ¬ P 150 → Fr P b3 g4 b5 g5 := f5
  rw [b_89_28]
  refine ⟨(kd_some _ _ _).mpr (m5.1 (100, 7, 23) (by simp)).1.1, ?_⟩
  rw [ad_some]
  have m6 := MD.put i5 m5 100 5 105 ⟨(100, 7, 23), by simp, rfl⟩ ⟨(105, 14, 61), by simp, rfl⟩ (by simp) (by simp)
  have f6 : ∀ P : Nat → Prop, ¬ P 100 → Fr P b5 g5 b5 (pR g5 (b5 100 0) 5 (some (b5 105 0))) := fun P n => Fr_pR i5 n
  have c6 : gC (pR g5 (b5 100 0) 5 (some (b5 105 0))) = gC g5 := rfl
  have s6 : gS (pR g5 (b5 100 0) 5 (some (b5 105 0))) = gS g5 := rfl
  revert m6 f6 c6 s6
  generalize pR g5 (b5 100 0) 5 (some (b5 105 0)) = g6
  intro m6 f6 c6 s6
  rw [b_89_31]
  refine ⟨⟨by omega, by omega, by omega, by show gS g6 + 60 ≤ MXS; omega⟩, ?_⟩
  refine MD.new i5 m6 108 60 10 (by decide) (by simp) (by simp) (G := fun q g => WP 89 36 [some (zr (some (b5 100 0)))] [zr (some q), zr (some (b5 100 0))] g (Q)) (fun b7 g7 i7 m7 f7 c7 s7 e7 => ?_)
  rw [← e7 (100, 7, 23) (by simp)]
  have t7 : b7 100 0 = a 100 0 := (e7 (100, 7, 23) (by simp)).trans t5
  rw [b_89_36]
  refine ⟨(kd_some _ _ _).mpr (m7.1 (100, 7, 23) (by simp)).1.1, ?_⟩
  rw [ad_some]
  have m8 := MD.put i7 m7 100 8 108 ⟨(100, 7, 23), by simp, rfl⟩ ⟨(108, 10, 60), by simp, rfl⟩ (by simp) (by simp)
  have f8 : ∀ P : Nat → Prop, ¬ P 100 → Fr P b7 g7 b7 (pR g7 (b7 100 0) 8 (some (b7 108 0))) := fun P n => Fr_pR i7 n
  have c8 : gC (pR g7 (b7 100 0) 8 (some (b7 108 0))) = gC g7 := rfl
  have s8 : gS (pR g7 (b7 100 0) 8 (some (b7 108 0))) = gS g7 := rfl
  revert m8 f8 c8 s8
  generalize pR g7 (b7 100 0) 8 (some (b7 108 0)) = g8
  intro m8 f8 c8 s8
  rw [b_89_39]
  refine ⟨⟨by omega, by omega, by omega, by show gS g8 + 60 ≤ MXS; omega⟩, ?_⟩
  refine MD.new i7 m8 109 60 10 (by decide) (by simp) (by simp) (G := fun q g => WP 89 44 [some (zr (some (b7 100 0)))] [zr (some q), zr (some (b7 100 0))] g (Q)) (fun b9 g9 i9 m9 f9 c9 s9 e9 => ?_)
  rw [← e9 (100, 7, 23) (by simp)]
  have t9 : b9 100 0 = a 100 0 := (e9 (100, 7, 23) (by simp)).trans t7
  rw [b_89_44]
  refine ⟨(kd_some _ _ _).mpr (m9.1 (100, 7, 23) (by simp)).1.1, ?_⟩
  rw [ad_some]
  have m10 := MD.put i9 m9 100 9 109 ⟨(100, 7, 23), by simp, rfl⟩ ⟨(109, 10, 60), by simp, rfl⟩ (by simp) (by simp)
  have f10 : ∀ P : Nat → Prop, ¬ P 100 → Fr P b9 g9 b9 (pR g9 (b9 100 0) 9 (some (b9 109 0))) := fun P n => Fr_pR i9 n
  have c10 : gC (pR g9 (b9 100 0) 9 (some (b9 109 0))) = gC g9 := rfl
  have s10 : gS (pR g9 (b9 100 0) 9 (some (b9 109 0))) = gS g9 := rfl
  revert m10 f10 c10 s10
  generalize pR g9 (b9 100 0) 9 (some (b9 109 0)) = g10
  intro m10 f10 c10 s10
  rw [b_89_47]
  refine ⟨⟨by omega, by omega, by omega, by show gS g10 + 60 ≤ MXS; omega⟩, ?_⟩
  refine MD.new i9 m10 110 60 10 (by decide) (by simp) (by simp) (G := fun q g => WP 89 52 [some (zr (some (b9 100 0)))] [zr (some q), zr (some (b9 100 0))] g (Q)) (fun b11 g11 i11 m11 f11 c11 s11 e11 => ?_)
  rw [← e11 (100, 7, 23) (by simp)]
  have t11 : b11 100 0 = a 100 0 := (e11 (100, 7, 23) (by simp)).trans t9
  rw [b_89_52]
  refine ⟨(kd_some _ _ _).mpr (m11.1 (100, 7, 23) (by simp)).1.1, ?_⟩
  rw [ad_some]
  have m12 := MD.put i11 m11 100 10 110 ⟨(100, 7, 23), by simp, rfl⟩ ⟨(110, 10, 60), by simp, rfl⟩ (by simp) (by simp)
  have f12 : ∀ P : Nat → Prop, ¬ P 100 → Fr P b11 g11 b11 (pR g11 (b11 100 0) 10 (some (b11 110 0))) := fun P n => Fr_pR i11 n
  have c12 : gC (pR g11 (b11 100 0) 10 (some (b11 110 0))) = gC g11 := rfl
  have s12 : gS (pR g11 (b11 100 0) 10 (some (b11 110 0))) = gS g11 := rfl
  revert m12 f12 c12 s12
  generalize pR g11 (b11 100 0) 10 (some (b11 110 0)) = g12
  intro m12 f12 c12 s12
  rw [b_89_55]
  refine ⟨⟨by omega, by omega, by omega, by show gS g12 + 60 ≤ MXS; omega⟩, ?_⟩
  refine MD.new i11 m12 111 60 10 (by decide) (by simp) (by simp) (G := fun q g => WP 89 60 [some (zr (some (b11 100 0)))] [zr (some q), zr (some (b11 100 0))] g (Q)) (fun b13 g13 i13 m13 f13 c13 s13 e13 => ?_)
  rw [← e13 (100, 7, 23) (by simp)]
  have t13 : b13 100 0 = a 100 0 := (e13 (100, 7, 23) (by simp)).trans t11
  rw [b_89_60]
  refine ⟨(kd_some _ _ _).mpr (m13.1 (100, 7, 23) (by simp)).1.1, ?_⟩
  rw [ad_some]
  have m14 := MD.put i13 m13 100 11 111 ⟨(100, 7, 23), by simp, rfl⟩ ⟨(111, 10, 60), by simp, rfl⟩ (by simp) (by simp)
  have f14 : ∀ P : Nat → Prop, ¬ P 100 → Fr P b13 g13 b13 (pR g13 (b13 100 0) 11 (some (b13 111 0))) := fun P n => Fr_pR i13 n
  have c14 : gC (pR g13 (b13 100 0) 11 (some (b13 111 0))) = gC g13 := rfl
  have s14 : gS (pR g13 (b13 100 0) 11 (some (b13 111 0))) = gS g13 := rfl
  revert m14 f14 c14 s14
  generalize pR g13 (b13 100 0) 11 (some (b13 111 0)) = g14
  intro m14 f14 c14 s14
  rw [b_89_63]
  refine ⟨⟨by omega, by omega, by omega, by show gS g14 + 60 ≤ MXS; omega⟩, ?_⟩
  refine MD.new i13 m14 112 60 10 (by decide) (by simp) (by simp) (G := fun q g => WP 89 68 [some (zr (some (b13 100 0)))] [zr (some q), zr (some (b13 100 0))] g (Q)) (fun b15 g15 i15 m15 f15 c15 s15 e15 => ?_)
  rw [← e15 (100, 7, 23) (by simp)]
  have t15 : b15 100 0 = a 100 0 := (e15 (100, 7, 23) (by simp)).trans t13
  rw [b_89_68]
  refine ⟨(kd_some _ _ _).mpr (m15.1 (100, 7, 23) (by simp)).1.1, ?_⟩
  rw [ad_some]
  have m16 := MD.put i15 m15 100 12 112 ⟨(100, 7, 23), by simp, rfl⟩ ⟨(112, 10, 60), by simp, rfl⟩ (by simp) (by simp)
  have f16 : ∀ P : Nat → Prop, ¬ P 100 → Fr P b15 g15 b15 (pR g15 (b15 100 0) 12 (some (b15 112 0))) := fun P n => Fr_pR i15 n
  have c16 : gC (pR g15 (b15 100 0) 12 (some (b15 112 0))) = gC g15 := rfl
  have s16 : gS (pR g15 (b15 100 0) 12 (some (b15 112 0))) = gS g15 := rfl
  revert m16 f16 c16 s16
  generalize pR g15 (b15 100 0) 12 (some (b15 112 0)) = g16
  intro m16 f16 c16 s16
  rw [b_89_71]
  refine ⟨⟨by omega, by omega, by omega, by show gS g16 + 60 ≤ MXS; omega⟩, ?_⟩
  refine MD.new i15 m16 113 60 10 (by decide) (by simp) (by simp) (G := fun q g => WP 89 76 [some (zr (some (b15 100 0)))] [zr (some q), zr (some (b15 100 0))] g (Q)) (fun b17 g17 i17 m17 f17 c17 s17 e17 => ?_)
  rw [← e17 (100, 7, 23) (by simp)]
  have t17 : b17 100 0 = a 100 0 := (e17 (100, 7, 23) (by simp)).trans t15
  rw [b_89_76]
  refine ⟨(kd_some _ _ _).mpr (m17.1 (100, 7, 23) (by simp)).1.1, ?_⟩
  rw [ad_some]
  have m18 := MD.put i17 m17 100 13 113 ⟨(100, 7, 23), by simp, rfl⟩ ⟨(113, 10, 60), by simp, rfl⟩ (by simp) (by simp)
  have f18 : ∀ P : Nat → Prop, ¬ P 100 → Fr P b17 g17 b17 (pR g17 (b17 100 0) 13 (some (b17 113 0))) := fun P n => Fr_pR i17 n
  have c18 : gC (pR g17 (b17 100 0) 13 (some (b17 113 0))) = gC g17 := rfl
  have s18 : gS (pR g17 (b17 100 0) 13 (some (b17 113 0))) = gS g17 := rfl
  revert m18 f18 c18 s18
  generalize pR g17 (b17 100 0) 13 (some (b17 113 0)) = g18
  intro m18 f18 c18 s18
  rw [b_89_79]
  refine ⟨⟨by omega, by omega, by omega, by show gS g18 + 60 ≤ MXS; omega⟩, ?_⟩
  refine MD.new i17 m18 114 60 10 (by decide) (by simp) (by simp) (G := fun q g => WP 89 84 [some (zr (some (b17 100 0)))] [zr (some q), zr (some (b17 100 0))] g (Q)) (fun b19 g19 i19 m19 f19 c19 s19 e19 => ?_)
  rw [← e19 (100, 7, 23) (by simp)]
  have t19 : b19 100 0 = a 100 0 := (e19 (100, 7, 23) (by simp)).trans t17
  rw [b_89_84]
  refine ⟨(kd_some _ _ _).mpr (m19.1 (100, 7, 23) (by simp)).1.1, ?_⟩
  rw [ad_some]
  have m20 := MD.put i19 m19 100 14 114 ⟨(100, 7, 23), by simp, rfl⟩ ⟨(114, 10, 60), by simp, rfl⟩ (by simp) (by simp)
  have f20 : ∀ P : Nat → Prop, ¬ P 100 → Fr P b19 g19 b19 (pR g19 (b19 100 0) 14 (some (b19 114 0))) := fun P n => Fr_pR i19 n
  have c20 : gC (pR g19 (b19 100 0) 14 (some (b19 114 0))) = gC g19 := rfl
  have s20 : gS (pR g19 (b19 100 0) 14 (some (b19 114 0))) = gS g19 := rfl
  revert m20 f20 c20 s20
  generalize pR g19 (b19 100 0) 14 (some (b19 114 0)) = g20
  intro m20 f20 c20 s20
  rw [b_89_87]
  refine ⟨⟨by omega, by omega, by omega, by show gS g20 + 60 ≤ MXS; omega⟩, ?_⟩
  refine MD.new i19 m20 115 60 10 (by decide) (by simp) (by simp) (G := fun q g => WP 89 92 [some (zr (some (b19 100 0)))] [zr (some q), zr (some (b19 100 0))] g (Q)) (fun b21 g21 i21 m21 f21 c21 s21 e21 => ?_)
  rw [← e21 (100, 7, 23) (by simp)]
  have t21 : b21 100 0 = a 100 0 := (e21 (100, 7, 23) (by simp)).trans t19
  rw [b_89_92]
  refine ⟨(kd_some _ _ _).mpr (m21.1 (100, 7, 23) (by simp)).1.1, ?_⟩
  rw [ad_some]
  have m22 := MD.put i21 m21 100 15 115 ⟨(100, 7, 23), by simp, rfl⟩ ⟨(115, 10, 60), by simp, rfl⟩ (by simp) (by simp)
  have f22 : ∀ P : Nat → Prop, ¬ P 100 → Fr P b21 g21 b21 (pR g21 (b21 100 0) 15 (some (b21 115 0))) := fun P n => Fr_pR i21 n
  have c22 : gC (pR g21 (b21 100 0) 15 (some (b21 115 0))) = gC g21 := rfl
  have s22 : gS (pR g21 (b21 100 0) 15 (some (b21 115 0))) = gS g21 := rfl
  revert m22 f22 c22 s22
  generalize pR g21 (b21 100 0) 15 (some (b21 115 0)) = g22
  intro m22 f22 c22 s22
  rw [b_89_95]
  refine ⟨⟨by omega, by omega, by omega, by show gS g22 + 60 ≤ MXS; omega⟩, ?_⟩
  refine MD.new i21 m22 116 60 10 (by decide) (by simp) (by simp) (G := fun q g => WP 89 100 [some (zr (some (b21 100 0)))] [zr (some q), zr (some (b21 100 0))] g (Q)) (fun b23 g23 i23 m23 f23 c23 s23 e23 => ?_)
  rw [← e23 (100, 7, 23) (by simp)]
  have t23 : b23 100 0 = a 100 0 := (e23 (100, 7, 23) (by simp)).trans t21
  rw [b_89_100]
  refine ⟨(kd_some _ _ _).mpr (m23.1 (100, 7, 23) (by simp)).1.1, ?_⟩
  rw [ad_some]
  have m24 := MD.put i23 m23 100 16 116 ⟨(100, 7, 23), by simp, rfl⟩ ⟨(116, 10, 60), by simp, rfl⟩ (by simp) (by simp)
  have f24 : ∀ P : Nat → Prop, ¬ P 100 → Fr P b23 g23 b23 (pR g23 (b23 100 0) 16 (some (b23 116 0))) := fun P n => Fr_pR i23 n
  have c24 : gC (pR g23 (b23 100 0) 16 (some (b23 116 0))) = gC g23 := rfl
  have s24 : gS (pR g23 (b23 100 0) 16 (some (b23 116 0))) = gS g23 := rfl
  revert m24 f24 c24 s24
  generalize pR g23 (b23 100 0) 16 (some (b23 116 0)) = g24
  intro m24 f24 c24 s24
  rw [b_89_103]
  refine ⟨⟨by omega, by omega, by omega, by show gS g24 + 60 ≤ MXS; omega⟩, ?_⟩
  refine MD.new i23 m24 117 60 10 (by decide) (by simp) (by simp) (G := fun q g => WP 89 108 [some (zr (some (b23 100 0)))] [zr (some q), zr (some (b23 100 0))] g (Q)) (fun b25 g25 i25 m25 f25 c25 s25 e25 => ?_)
  rw [← e25 (100, 7, 23) (by simp)]
  have t25 : b25 100 0 = a 100 0 := (e25 (100, 7, 23) (by simp)).trans t23
  rw [b_89_108]
  refine ⟨(kd_some _ _ _).mpr (m25.1 (100, 7, 23) (by simp)).1.1, ?_⟩
  rw [ad_some]
  have m26 := MD.put i25 m25 100 17 117 ⟨(100, 7, 23), by simp, rfl⟩ ⟨(117, 10, 60), by simp, rfl⟩ (by simp) (by simp)
  have f26 : ∀ P : Nat → Prop, ¬ P 100 → Fr P b25 g25 b25 (pR g25 (b25 100 0) 17 (some (b25 117 0))) := fun P n => Fr_pR i25 n
  have c26 : gC (pR g25 (b25 100 0) 17 (some (b25 117 0))) = gC g25 := rfl
  have s26 : gS (pR g25 (b25 100 0) 17 (some (b25 117 0))) = gS g25 := rfl
  revert m26 f26 c26 s26
  generalize pR g25 (b25 100 0) 17 (some (b25 117 0)) = g26
  intro m26 f26 c26 s26
  rw [b_89_111]
  refine ⟨⟨by omega, by omega, by omega, by show gS g26 + 60 ≤ MXS; omega⟩, ?_⟩
  refine MD.new i25 m26 118 60 12 (by decide) (by simp) (by simp) (G := fun q g => WP 89 116 [some (zr (some (b25 100 0)))] [zr (some q), zr (some (b25 100 0))] g (Q)) (fun b27 g27 i27 m27 f27 c27 s27 e27 => ?_)
  rw [← e27 (100, 7, 23) (by simp)]
  have t27 : b27 100 0 = a 100 0 := (e27 (100, 7, 23) (by simp)).trans t25
  rw [b_89_116]
  refine ⟨(kd_some _ _ _).mpr (m27.1 (100, 7, 23) (by simp)).1.1, ?_⟩
  rw [ad_some]
  have m28 := MD.put i27 m27 100 18 118 ⟨(100, 7, 23), by simp, rfl⟩ ⟨(118, 12, 60), by simp, rfl⟩ (by simp) (by simp)
  have f28 : ∀ P : Nat → Prop, ¬ P 100 → Fr P b27 g27 b27 (pR g27 (b27 100 0) 18 (some (b27 118 0))) := fun P n => Fr_pR i27 n
  have c28 : gC (pR g27 (b27 100 0) 18 (some (b27 118 0))) = gC g27 := rfl
  have s28 : gS (pR g27 (b27 100 0) 18 (some (b27 118 0))) = gS g27 := rfl
  revert m28 f28 c28 s28
  generalize pR g27 (b27 100 0) 18 (some (b27 118 0)) = g28
  intro m28 f28 c28 s28
  rw [b_89_119]
  refine ⟨⟨by omega, by omega, by omega, by show gS g28 + 60 ≤ MXS; omega⟩, ?_⟩
  refine MD.new i27 m28 119 60 14 (by decide) (by simp) (by simp) (G := fun q g => WP 89 125 [some (zr (some (b27 100 0)))] [zr (some q), zr (some (b27 100 0))] g (Q)) (fun b29 g29 i29 m29 f29 c29 s29 e29 => ?_)
  rw [← e29 (100, 7, 23) (by simp)]
  have t29 : b29 100 0 = a 100 0 := (e29 (100, 7, 23) (by simp)).trans t27
  rw [b_89_125]
  refine ⟨(kd_some _ _ _).mpr (m29.1 (100, 7, 23) (by simp)).1.1, ?_⟩
  rw [ad_some]
  have m30 := MD.put i29 m29 100 19 119 ⟨(100, 7, 23), by simp, rfl⟩ ⟨(119, 14, 60), by simp, rfl⟩ (by simp) (by simp)
  have f30 : ∀ P : Nat → Prop, ¬ P 100 → Fr P b29 g29 b29 (pR g29 (b29 100 0) 19 (some (b29 119 0))) := fun P n => Fr_pR i29 n
  have c30 : gC (pR g29 (b29 100 0) 19 (some (b29 119 0))) = gC g29 := rfl
  have s30 : gS (pR g29 (b29 100 0) 19 (some (b29 119 0))) = gS g29 := rfl
  revert m30 f30 c30 s30
  generalize pR g29 (b29 100 0) 19 (some (b29 119 0)) = g30
  intro m30 f30 c30 s30
  rw [b_89_128]
  refine ⟨⟨by omega, by omega, by omega, by show gS g30 + 0 ≤ MXS; omega⟩, ?_⟩
  refine MD.new i29 m30 120 0 10 (by decide) (by simp) (by simp) (G := fun q g => WP 89 132 [some (zr (some (b29 100 0)))] [zr (some q), zr (some (b29 100 0))] g (Q)) (fun b31 g31 i31 m31 f31 c31 s31 e31 => ?_)
  rw [← e31 (100, 7, 23) (by simp)]
  have t31 : b31 100 0 = a 100 0 := (e31 (100, 7, 23) (by simp)).trans t29
  rw [b_89_132]
  refine ⟨(kd_some _ _ _).mpr (m31.1 (100, 7, 23) (by simp)).1.1, ?_⟩
  rw [ad_some]
  have m32 := MD.put i31 m31 100 20 120 ⟨(100, 7, 23), by simp, rfl⟩ ⟨(120, 10, 0), by simp, rfl⟩ (by simp) (by simp)
  have f32 : ∀ P : Nat → Prop, ¬ P 100 → Fr P b31 g31 b31 (pR g31 (b31 100 0) 20 (some (b31 120 0))) := fun P n => Fr_pR i31 n
  have c32 : gC (pR g31 (b31 100 0) 20 (some (b31 120 0))) = gC g31 := rfl
  have s32 : gS (pR g31 (b31 100 0) 20 (some (b31 120 0))) = gS g31 := rfl
  revert m32 f32 c32 s32
  generalize pR g31 (b31 100 0) 20 (some (b31 120 0)) = g32
  intro m32 f32 c32 s32
  rw [b_89_135]
  refine ⟨⟨by omega, by omega, by omega, by show gS g32 + 60 ≤ MXS; omega⟩, ?_⟩
  refine MD.new i31 m32 122 60 10 (by decide) (by simp) (by simp) (G := fun q g => WP 89 140 [some (zr (some (b31 100 0)))] [zr (some q), zr (some (b31 100 0))] g (Q)) (fun b33 g33 i33 m33 f33 c33 s33 e33 => ?_)
  rw [← e33 (100, 7, 23) (by simp)]
  have t33 : b33 100 0 = a 100 0 := (e33 (100, 7, 23) (by simp)).trans t31
  rw [b_89_140]
  refine ⟨(kd_some _ _ _).mpr (m33.1 (100, 7, 23) (by simp)).1.1, ?_⟩
  rw [ad_some]
  have m34 := MD.put i33 m33 100 22 122 ⟨(100, 7, 23), by simp, rfl⟩ ⟨(122, 10, 60), by simp, rfl⟩ (by simp) (by simp)
  have f34 : ∀ P : Nat → Prop, ¬ P 100 → Fr P b33 g33 b33 (pR g33 (b33 100 0) 22 (some (b33 122 0))) := fun P n => Fr_pR i33 n
  have c34 : gC (pR g33 (b33 100 0) 22 (some (b33 122 0))) = gC g33 := rfl
  have s34 : gS (pR g33 (b33 100 0) 22 (some (b33 122 0))) = gS g33 := rfl
  revert m34 f34 c34 s34
  generalize pR g33 (b33 100 0) 22 (some (b33 122 0)) = g34
  intro m34 f34 c34 s34
  rw [b_89_143]
  obtain ⟨mL, mR, mW⟩ := m34
  obtain ⟨⟨K100, L100, I100⟩, -⟩ := mL (100, 7, 23) (by simp)
  obtain ⟨⟨K102, L102, I102⟩, -⟩ := mL (102, 10, 6) (by simp)
  obtain ⟨⟨K104, L104, I104⟩, -⟩ := mL (104, 10, 40) (by simp)
  obtain ⟨⟨K105, L105, I105⟩, -⟩ := mL (105, 14, 61) (by simp)
  obtain ⟨⟨K108, L108, I108⟩, -⟩ := mL (108, 10, 60) (by simp)
  obtain ⟨⟨K109, L109, I109⟩, -⟩ := mL (109, 10, 60) (by simp)
  obtain ⟨⟨K110, L110, I110⟩, -⟩ := mL (110, 10, 60) (by simp)
  obtain ⟨⟨K111, L111, I111⟩, -⟩ := mL (111, 10, 60) (by simp)
  obtain ⟨⟨K112, L112, I112⟩, -⟩ := mL (112, 10, 60) (by simp)
  obtain ⟨⟨K113, L113, I113⟩, -⟩ := mL (113, 10, 60) (by simp)
  obtain ⟨⟨K114, L114, I114⟩, -⟩ := mL (114, 10, 60) (by simp)
  obtain ⟨⟨K115, L115, I115⟩, -⟩ := mL (115, 10, 60) (by simp)
  obtain ⟨⟨K116, L116, I116⟩, -⟩ := mL (116, 10, 60) (by simp)
  obtain ⟨⟨K117, L117, I117⟩, -⟩ := mL (117, 10, 60) (by simp)
  obtain ⟨⟨K118, L118, I118⟩, -⟩ := mL (118, 12, 60) (by simp)
  obtain ⟨⟨K119, L119, I119⟩, -⟩ := mL (119, 14, 60) (by simp)
  obtain ⟨⟨K120, L120, I120⟩, -⟩ := mL (120, 10, 0) (by simp)
  obtain ⟨⟨K122, L122, I122⟩, -⟩ := mL (122, 10, 60) (by simp)
  have R100_2 := (mR (100, 2, 102) (by simp)).1
  have R100_4 := (mR (100, 4, 104) (by simp)).1
  have R100_5 := (mR (100, 5, 105) (by simp)).1
  have R100_8 := (mR (100, 8, 108) (by simp)).1
  have R100_9 := (mR (100, 9, 109) (by simp)).1
  have R100_10 := (mR (100, 10, 110) (by simp)).1
  have R100_11 := (mR (100, 11, 111) (by simp)).1
  have R100_12 := (mR (100, 12, 112) (by simp)).1
  have R100_13 := (mR (100, 13, 113) (by simp)).1
  have R100_14 := (mR (100, 14, 114) (by simp)).1
  have R100_15 := (mR (100, 15, 115) (by simp)).1
  have R100_16 := (mR (100, 16, 116) (by simp)).1
  have R100_17 := (mR (100, 17, 117) (by simp)).1
  have R100_18 := (mR (100, 18, 118) (by simp)).1
  have R100_19 := (mR (100, 19, 119) (by simp)).1
  have R100_20 := (mR (100, 20, 120) (by simp)).1
  have R100_22 := (mR (100, 22, 122) (by simp)).1
  have W105 := (mW (105, 150, 1, 0) (by simp)).1
  refine hQ b33 g34 i33 (RepM.mk ?_ ?_ ?_ ?_ (fun f f1 f2 => ?_) ?_ ?_ ?_) ((f1 _ (by omega)).trans ((f2 _ (by omega)).trans ((f3 _ (by omega)).trans ((f4 _ (by omega)).trans ((f52 _ (by omega) (by omega)).trans ((f6 _ (by omega)).trans ((f7 _ (by omega)).trans ((f8 _ (by omega)).trans ((f9 _ (by omega)).trans ((f10 _ (by omega)).trans ((f11 _ (by omega)).trans ((f12 _ (by omega)).trans ((f13 _ (by omega)).trans ((f14 _ (by omega)).trans ((f15 _ (by omega)).trans ((f16 _ (by omega)).trans ((f17 _ (by omega)).trans ((f18 _ (by omega)).trans ((f19 _ (by omega)).trans ((f20 _ (by omega)).trans ((f21 _ (by omega)).trans ((f22 _ (by omega)).trans ((f23 _ (by omega)).trans ((f24 _ (by omega)).trans ((f25 _ (by omega)).trans ((f26 _ (by omega)).trans ((f27 _ (by omega)).trans ((f28 _ (by omega)).trans ((f29 _ (by omega)).trans ((f30 _ (by omega)).trans ((f31 _ (by omega)).trans ((f32 _ (by omega)).trans ((f33 _ (by omega)).trans ((f34 _ (by omega)))))))))))))))))))))))))))))))))))) t33 (by omega) (by omega)
  · exact ⟨K100, I100 1, I100 3, I100 6, I100 7, R100_2, R100_4, R100_5, R100_8, R100_9, R100_10, R100_11, R100_12, R100_13, R100_14, R100_15, R100_16, R100_17, R100_18, R100_19, R100_20, R100_22⟩
  · exact ⟨K102, L102, I102⟩
  · exact ⟨K104, by rw [L104]; show (0 : Int) ≤ 40; omega, fun n h1 h2 => by have h2 : n < 0 := h2; omega⟩
  · exact ⟨K105, L105, fun v h1 h2 => (W105 v h1 (by have h2 : v ≤ 0 := h2; show v < 1; omega)).1, fun v h1 h2 => (W105 v h1 (by have h2 : v ≤ 0 := h2; show v < 1; omega)).2.1, fun v h1 h2 => (W105 v h1 (by have h2 : v ≤ 0 := h2; show v < 1; omega)).2.2, fun v p h1 h2 h3 h4 => by have h4 : p < 0 := h4; omega⟩
  · have : f = 8 ∨ f = 9 ∨ f = 10 ∨ f = 11 ∨ f = 12 ∨ f = 13 ∨ f = 14 ∨ f = 15 ∨ f = 16 ∨ f = 17 ∨ f = 18 := by omega
    rcases this with rfl | rfl | rfl | rfl | rfl | rfl | rfl | rfl | rfl | rfl | rfl
    · exact ⟨K108, L108, I108⟩
    · exact ⟨K109, L109, I109⟩
    · exact ⟨K110, L110, I110⟩
    · exact ⟨K111, L111, I111⟩
    · exact ⟨K112, L112, I112⟩
    · exact ⟨K113, L113, I113⟩
    · exact ⟨K114, L114, I114⟩
    · exact ⟨K115, L115, I115⟩
    · exact ⟨K116, L116, I116⟩
    · exact ⟨K117, L117, I117⟩
    · exact ⟨K118, L118, I118⟩
  · exact ⟨K119, L119, fun k hk => by have h1 := hk.1.1; have h2 : k < 0 := hk.1.2; omega, fun k hk => by have h1 := hk.1.1; have h2 : k < 0 := hk.1.2; omega, fun k hk => by have h1 := hk.1.1; have h2 : k < 0 := hk.1.2; omega, fun k i hk => by have h1 := hk.1.1; have h2 : k < 0 := hk.1.2; omega⟩
  · exact ⟨K120, L120, fun p w h1 h2 => by have h2 : p < 0 := h2; omega⟩
  · exact ⟨K122, L122⟩
end
