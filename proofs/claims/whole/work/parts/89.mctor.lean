/-! THE REFERENCE'S CONSTRUCTOR -/
section
variable {a : Na} {h : Zh} {Q : Zp}
theorem m_ct0 (hi : Ij a) (m : MD a h [(100, 7, 23)] [] []) (rc : gC h + 1 ≤ MXC) (rs : gS h + 6 ≤ MXS) (hQ : ∀ b g, Ij b → MD b g [(102, 10, 6), (100, 7, 23)] [(100, 2, 102)] [] → Fr (fun f => f < 100 ∨ 200 ≤ f) a h b g → b 100 0 = a 100 0 → gC g = gC h + 1 → gS g = gS h + 6 → WP 89 12 [some (zr (some (b 100 0)))] [] g Q) :
    WP 89 0 [some (zr (some (a 100 0)))] [] h Q := by
  rw [b_89_0]
  refine ⟨Option.some_ne_none _, ⟨by omega, by omega, by omega, by show gS h + 6 ≤ MXS; omega⟩, ?_⟩
  refine MD.new hi m 102 6 10 (by decide) (by simp) (by simp) (G := fun q g => WP 89 9 [some (zr (some (a 100 0)))] [zr (some q), zr (some (a 100 0))] g Q) (fun b g ib m1 f1 c1 s1 e1 => ?_)
  have e := e1 (100, 7, 23) (by simp)
  rw [← e, b_89_9]
  refine ⟨(kd_some _ _ _).mpr (m1.1 (100, 7, 23) (by simp)).1.1, ?_⟩
  rw [ad_some]
  exact hQ b _ ib (MD.put ib m1 100 2 102 ⟨(100, 7, 23), by simp, rfl⟩ ⟨(102, 10, 6), by simp, rfl⟩ (by simp) (by simp)) ((f1 (fun f => f < 100 ∨ 200 ≤ f) (by omega)).trans (Fr_pR ib (by omega))) e (by rw [gC_pR]; omega) (by rw [gS_pR]; omega)
theorem m_ct1 (hi : Ij a) (m : MD a h [(102, 10, 6), (100, 7, 23)] [(100, 2, 102)] []) (rc : gC h + 1 ≤ MXC) (rs : gS h + 40 ≤ MXS) (hQ : ∀ b g, Ij b → MD b g [(104, 10, 40), (102, 10, 6), (100, 7, 23)] [(100, 4, 104), (100, 2, 102)] [] → Fr (fun f => f < 100 ∨ 200 ≤ f) a h b g → b 100 0 = a 100 0 → gC g = gC h + 1 → gS g = gS h + 40 → WP 89 20 [some (zr (some (b 100 0)))] [] g Q) :
    WP 89 12 [some (zr (some (a 100 0)))] [] h Q := by
  rw [b_89_12]
  refine ⟨⟨by omega, by omega, by omega, by show gS h + 40 ≤ MXS; omega⟩, ?_⟩
  refine MD.new hi m 104 40 10 (by decide) (by simp) (by simp) (G := fun q g => WP 89 17 [some (zr (some (a 100 0)))] [zr (some q), zr (some (a 100 0))] g Q) (fun b g ib m1 f1 c1 s1 e1 => ?_)
  have e := e1 (100, 7, 23) (by simp)
  rw [← e, b_89_17]
  refine ⟨(kd_some _ _ _).mpr (m1.1 (100, 7, 23) (by simp)).1.1, ?_⟩
  rw [ad_some]
  exact hQ b _ ib (MD.put ib m1 100 4 104 ⟨(100, 7, 23), by simp, rfl⟩ ⟨(104, 10, 40), by simp, rfl⟩ (by simp) (by simp)) ((f1 (fun f => f < 100 ∨ 200 ≤ f) (by omega)).trans (Fr_pR ib (by omega))) e (by rw [gC_pR]; omega) (by rw [gS_pR]; omega)
theorem m_ct2 (hi : Ij a) (m : MD a h [(104, 10, 40), (102, 10, 6), (100, 7, 23)] [(100, 4, 104), (100, 2, 102)] []) (rc : gC h + 62 ≤ MXC) (rs : gS h + 61 ≤ MXS) (hQ : ∀ b g, Ij b → MD b g [(105, 14, 61), (104, 10, 40), (102, 10, 6), (100, 7, 23)] [(100, 5, 105), (100, 4, 104), (100, 2, 102)] [(105, 150, 1, 0)] → Fr (fun f => f < 100 ∨ 200 ≤ f) a h b g → b 100 0 = a 100 0 → gC g = gC h + 62 → gS g = gS h + 61 → WP 89 31 [some (zr (some (b 100 0)))] [] g Q) :
    WP 89 20 [some (zr (some (a 100 0)))] [] h Q := by
  rw [b_89_20, show Int.toNat (61 : Int) = 61 from rfl]
  refine ⟨⟨by omega, by omega, by omega, by omega, by omega, by show gS h + 61 + 61 * 0 ≤ MXS; omega⟩, ?_⟩
  refine MD.new2 hi m 105 150 61 1 0 (by omega) (by omega) (by simp) (by simp) (G := fun q g => WP 89 28 [some (zr (some (a 100 0)))] [zr (some q), zr (some (a 100 0))] g Q) (fun b g ib m1 f1 c1 s1 e1 => ?_)
  have e := e1 (100, 7, 23) (by simp)
  rw [← e, b_89_28]
  refine ⟨(kd_some _ _ _).mpr (m1.1 (100, 7, 23) (by simp)).1.1, ?_⟩
  rw [ad_some]
  exact hQ b _ ib (MD.put ib m1 100 5 105 ⟨(100, 7, 23), by simp, rfl⟩ ⟨(105, 14, 61), by simp, rfl⟩ (by simp) (by simp)) ((f1 (fun f => f < 100 ∨ 200 ≤ f) (by omega) (by omega)).trans (Fr_pR ib (by omega))) e (by rw [gC_pR]; omega) (by rw [gS_pR]; omega)
theorem m_ct3 (hi : Ij a) (m : MD a h [(105, 14, 61), (104, 10, 40), (102, 10, 6), (100, 7, 23)] [(100, 5, 105), (100, 4, 104), (100, 2, 102)] [(105, 150, 1, 0)]) (rc : gC h + 1 ≤ MXC) (rs : gS h + 60 ≤ MXS) (hQ : ∀ b g, Ij b → MD b g [(108, 10, 60), (105, 14, 61), (104, 10, 40), (102, 10, 6), (100, 7, 23)] [(100, 8, 108), (100, 5, 105), (100, 4, 104), (100, 2, 102)] [(105, 150, 1, 0)] → Fr (fun f => f < 100 ∨ 200 ≤ f) a h b g → b 100 0 = a 100 0 → gC g = gC h + 1 → gS g = gS h + 60 → WP 89 39 [some (zr (some (b 100 0)))] [] g Q) :
    WP 89 31 [some (zr (some (a 100 0)))] [] h Q := by
  rw [b_89_31]
  refine ⟨⟨by omega, by omega, by omega, by show gS h + 60 ≤ MXS; omega⟩, ?_⟩
  refine MD.new hi m 108 60 10 (by decide) (by simp) (by simp) (G := fun q g => WP 89 36 [some (zr (some (a 100 0)))] [zr (some q), zr (some (a 100 0))] g Q) (fun b g ib m1 f1 c1 s1 e1 => ?_)
  have e := e1 (100, 7, 23) (by simp)
  rw [← e, b_89_36]
  refine ⟨(kd_some _ _ _).mpr (m1.1 (100, 7, 23) (by simp)).1.1, ?_⟩
  rw [ad_some]
  exact hQ b _ ib (MD.put ib m1 100 8 108 ⟨(100, 7, 23), by simp, rfl⟩ ⟨(108, 10, 60), by simp, rfl⟩ (by simp) (by simp)) ((f1 (fun f => f < 100 ∨ 200 ≤ f) (by omega)).trans (Fr_pR ib (by omega))) e (by rw [gC_pR]; omega) (by rw [gS_pR]; omega)
theorem m_ct4 (hi : Ij a) (m : MD a h [(108, 10, 60), (105, 14, 61), (104, 10, 40), (102, 10, 6), (100, 7, 23)] [(100, 8, 108), (100, 5, 105), (100, 4, 104), (100, 2, 102)] [(105, 150, 1, 0)]) (rc : gC h + 1 ≤ MXC) (rs : gS h + 60 ≤ MXS) (hQ : ∀ b g, Ij b → MD b g [(109, 10, 60), (108, 10, 60), (105, 14, 61), (104, 10, 40), (102, 10, 6), (100, 7, 23)] [(100, 9, 109), (100, 8, 108), (100, 5, 105), (100, 4, 104), (100, 2, 102)] [(105, 150, 1, 0)] → Fr (fun f => f < 100 ∨ 200 ≤ f) a h b g → b 100 0 = a 100 0 → gC g = gC h + 1 → gS g = gS h + 60 → WP 89 47 [some (zr (some (b 100 0)))] [] g Q) :
    WP 89 39 [some (zr (some (a 100 0)))] [] h Q := by
  rw [b_89_39]
  refine ⟨⟨by omega, by omega, by omega, by show gS h + 60 ≤ MXS; omega⟩, ?_⟩
  refine MD.new hi m 109 60 10 (by decide) (by simp) (by simp) (G := fun q g => WP 89 44 [some (zr (some (a 100 0)))] [zr (some q), zr (some (a 100 0))] g Q) (fun b g ib m1 f1 c1 s1 e1 => ?_)
  have e := e1 (100, 7, 23) (by simp)
  rw [← e, b_89_44]
  refine ⟨(kd_some _ _ _).mpr (m1.1 (100, 7, 23) (by simp)).1.1, ?_⟩
  rw [ad_some]
  exact hQ b _ ib (MD.put ib m1 100 9 109 ⟨(100, 7, 23), by simp, rfl⟩ ⟨(109, 10, 60), by simp, rfl⟩ (by simp) (by simp)) ((f1 (fun f => f < 100 ∨ 200 ≤ f) (by omega)).trans (Fr_pR ib (by omega))) e (by rw [gC_pR]; omega) (by rw [gS_pR]; omega)
theorem m_ct5 (hi : Ij a) (m : MD a h [(109, 10, 60), (108, 10, 60), (105, 14, 61), (104, 10, 40), (102, 10, 6), (100, 7, 23)] [(100, 9, 109), (100, 8, 108), (100, 5, 105), (100, 4, 104), (100, 2, 102)] [(105, 150, 1, 0)]) (rc : gC h + 1 ≤ MXC) (rs : gS h + 60 ≤ MXS) (hQ : ∀ b g, Ij b → MD b g [(110, 10, 60), (109, 10, 60), (108, 10, 60), (105, 14, 61), (104, 10, 40), (102, 10, 6), (100, 7, 23)] [(100, 10, 110), (100, 9, 109), (100, 8, 108), (100, 5, 105), (100, 4, 104), (100, 2, 102)] [(105, 150, 1, 0)] → Fr (fun f => f < 100 ∨ 200 ≤ f) a h b g → b 100 0 = a 100 0 → gC g = gC h + 1 → gS g = gS h + 60 → WP 89 55 [some (zr (some (b 100 0)))] [] g Q) :
    WP 89 47 [some (zr (some (a 100 0)))] [] h Q := by
  rw [b_89_47]
  refine ⟨⟨by omega, by omega, by omega, by show gS h + 60 ≤ MXS; omega⟩, ?_⟩
  refine MD.new hi m 110 60 10 (by decide) (by simp) (by simp) (G := fun q g => WP 89 52 [some (zr (some (a 100 0)))] [zr (some q), zr (some (a 100 0))] g Q) (fun b g ib m1 f1 c1 s1 e1 => ?_)
  have e := e1 (100, 7, 23) (by simp)
  rw [← e, b_89_52]
  refine ⟨(kd_some _ _ _).mpr (m1.1 (100, 7, 23) (by simp)).1.1, ?_⟩
  rw [ad_some]
  exact hQ b _ ib (MD.put ib m1 100 10 110 ⟨(100, 7, 23), by simp, rfl⟩ ⟨(110, 10, 60), by simp, rfl⟩ (by simp) (by simp)) ((f1 (fun f => f < 100 ∨ 200 ≤ f) (by omega)).trans (Fr_pR ib (by omega))) e (by rw [gC_pR]; omega) (by rw [gS_pR]; omega)
theorem m_ct6 (hi : Ij a) (m : MD a h [(110, 10, 60), (109, 10, 60), (108, 10, 60), (105, 14, 61), (104, 10, 40), (102, 10, 6), (100, 7, 23)] [(100, 10, 110), (100, 9, 109), (100, 8, 108), (100, 5, 105), (100, 4, 104), (100, 2, 102)] [(105, 150, 1, 0)]) (rc : gC h + 1 ≤ MXC) (rs : gS h + 60 ≤ MXS) (hQ : ∀ b g, Ij b → MD b g [(111, 10, 60), (110, 10, 60), (109, 10, 60), (108, 10, 60), (105, 14, 61), (104, 10, 40), (102, 10, 6), (100, 7, 23)] [(100, 11, 111), (100, 10, 110), (100, 9, 109), (100, 8, 108), (100, 5, 105), (100, 4, 104), (100, 2, 102)] [(105, 150, 1, 0)] → Fr (fun f => f < 100 ∨ 200 ≤ f) a h b g → b 100 0 = a 100 0 → gC g = gC h + 1 → gS g = gS h + 60 → WP 89 63 [some (zr (some (b 100 0)))] [] g Q) :
    WP 89 55 [some (zr (some (a 100 0)))] [] h Q := by
  rw [b_89_55]
  refine ⟨⟨by omega, by omega, by omega, by show gS h + 60 ≤ MXS; omega⟩, ?_⟩
  refine MD.new hi m 111 60 10 (by decide) (by simp) (by simp) (G := fun q g => WP 89 60 [some (zr (some (a 100 0)))] [zr (some q), zr (some (a 100 0))] g Q) (fun b g ib m1 f1 c1 s1 e1 => ?_)
  have e := e1 (100, 7, 23) (by simp)
  rw [← e, b_89_60]
  refine ⟨(kd_some _ _ _).mpr (m1.1 (100, 7, 23) (by simp)).1.1, ?_⟩
  rw [ad_some]
  exact hQ b _ ib (MD.put ib m1 100 11 111 ⟨(100, 7, 23), by simp, rfl⟩ ⟨(111, 10, 60), by simp, rfl⟩ (by simp) (by simp)) ((f1 (fun f => f < 100 ∨ 200 ≤ f) (by omega)).trans (Fr_pR ib (by omega))) e (by rw [gC_pR]; omega) (by rw [gS_pR]; omega)
theorem m_ct7 (hi : Ij a) (m : MD a h [(111, 10, 60), (110, 10, 60), (109, 10, 60), (108, 10, 60), (105, 14, 61), (104, 10, 40), (102, 10, 6), (100, 7, 23)] [(100, 11, 111), (100, 10, 110), (100, 9, 109), (100, 8, 108), (100, 5, 105), (100, 4, 104), (100, 2, 102)] [(105, 150, 1, 0)]) (rc : gC h + 1 ≤ MXC) (rs : gS h + 60 ≤ MXS) (hQ : ∀ b g, Ij b → MD b g [(112, 10, 60), (111, 10, 60), (110, 10, 60), (109, 10, 60), (108, 10, 60), (105, 14, 61), (104, 10, 40), (102, 10, 6), (100, 7, 23)] [(100, 12, 112), (100, 11, 111), (100, 10, 110), (100, 9, 109), (100, 8, 108), (100, 5, 105), (100, 4, 104), (100, 2, 102)] [(105, 150, 1, 0)] → Fr (fun f => f < 100 ∨ 200 ≤ f) a h b g → b 100 0 = a 100 0 → gC g = gC h + 1 → gS g = gS h + 60 → WP 89 71 [some (zr (some (b 100 0)))] [] g Q) :
    WP 89 63 [some (zr (some (a 100 0)))] [] h Q := by
  rw [b_89_63]
  refine ⟨⟨by omega, by omega, by omega, by show gS h + 60 ≤ MXS; omega⟩, ?_⟩
  refine MD.new hi m 112 60 10 (by decide) (by simp) (by simp) (G := fun q g => WP 89 68 [some (zr (some (a 100 0)))] [zr (some q), zr (some (a 100 0))] g Q) (fun b g ib m1 f1 c1 s1 e1 => ?_)
  have e := e1 (100, 7, 23) (by simp)
  rw [← e, b_89_68]
  refine ⟨(kd_some _ _ _).mpr (m1.1 (100, 7, 23) (by simp)).1.1, ?_⟩
  rw [ad_some]
  exact hQ b _ ib (MD.put ib m1 100 12 112 ⟨(100, 7, 23), by simp, rfl⟩ ⟨(112, 10, 60), by simp, rfl⟩ (by simp) (by simp)) ((f1 (fun f => f < 100 ∨ 200 ≤ f) (by omega)).trans (Fr_pR ib (by omega))) e (by rw [gC_pR]; omega) (by rw [gS_pR]; omega)
theorem m_ct8 (hi : Ij a) (m : MD a h [(112, 10, 60), (111, 10, 60), (110, 10, 60), (109, 10, 60), (108, 10, 60), (105, 14, 61), (104, 10, 40), (102, 10, 6), (100, 7, 23)] [(100, 12, 112), (100, 11, 111), (100, 10, 110), (100, 9, 109), (100, 8, 108), (100, 5, 105), (100, 4, 104), (100, 2, 102)] [(105, 150, 1, 0)]) (rc : gC h + 1 ≤ MXC) (rs : gS h + 60 ≤ MXS) (hQ : ∀ b g, Ij b → MD b g [(113, 10, 60), (112, 10, 60), (111, 10, 60), (110, 10, 60), (109, 10, 60), (108, 10, 60), (105, 14, 61), (104, 10, 40), (102, 10, 6), (100, 7, 23)] [(100, 13, 113), (100, 12, 112), (100, 11, 111), (100, 10, 110), (100, 9, 109), (100, 8, 108), (100, 5, 105), (100, 4, 104), (100, 2, 102)] [(105, 150, 1, 0)] → Fr (fun f => f < 100 ∨ 200 ≤ f) a h b g → b 100 0 = a 100 0 → gC g = gC h + 1 → gS g = gS h + 60 → WP 89 79 [some (zr (some (b 100 0)))] [] g Q) :
    WP 89 71 [some (zr (some (a 100 0)))] [] h Q := by
  rw [b_89_71]
  refine ⟨⟨by omega, by omega, by omega, by show gS h + 60 ≤ MXS; omega⟩, ?_⟩
  refine MD.new hi m 113 60 10 (by decide) (by simp) (by simp) (G := fun q g => WP 89 76 [some (zr (some (a 100 0)))] [zr (some q), zr (some (a 100 0))] g Q) (fun b g ib m1 f1 c1 s1 e1 => ?_)
  have e := e1 (100, 7, 23) (by simp)
  rw [← e, b_89_76]
  refine ⟨(kd_some _ _ _).mpr (m1.1 (100, 7, 23) (by simp)).1.1, ?_⟩
  rw [ad_some]
  exact hQ b _ ib (MD.put ib m1 100 13 113 ⟨(100, 7, 23), by simp, rfl⟩ ⟨(113, 10, 60), by simp, rfl⟩ (by simp) (by simp)) ((f1 (fun f => f < 100 ∨ 200 ≤ f) (by omega)).trans (Fr_pR ib (by omega))) e (by rw [gC_pR]; omega) (by rw [gS_pR]; omega)
theorem m_ct9 (hi : Ij a) (m : MD a h [(113, 10, 60), (112, 10, 60), (111, 10, 60), (110, 10, 60), (109, 10, 60), (108, 10, 60), (105, 14, 61), (104, 10, 40), (102, 10, 6), (100, 7, 23)] [(100, 13, 113), (100, 12, 112), (100, 11, 111), (100, 10, 110), (100, 9, 109), (100, 8, 108), (100, 5, 105), (100, 4, 104), (100, 2, 102)] [(105, 150, 1, 0)]) (rc : gC h + 1 ≤ MXC) (rs : gS h + 60 ≤ MXS) (hQ : ∀ b g, Ij b → MD b g [(114, 10, 60), (113, 10, 60), (112, 10, 60), (111, 10, 60), (110, 10, 60), (109, 10, 60), (108, 10, 60), (105, 14, 61), (104, 10, 40), (102, 10, 6), (100, 7, 23)] [(100, 14, 114), (100, 13, 113), (100, 12, 112), (100, 11, 111), (100, 10, 110), (100, 9, 109), (100, 8, 108), (100, 5, 105), (100, 4, 104), (100, 2, 102)] [(105, 150, 1, 0)] → Fr (fun f => f < 100 ∨ 200 ≤ f) a h b g → b 100 0 = a 100 0 → gC g = gC h + 1 → gS g = gS h + 60 → WP 89 87 [some (zr (some (b 100 0)))] [] g Q) :
    WP 89 79 [some (zr (some (a 100 0)))] [] h Q := by
  rw [b_89_79]
  refine ⟨⟨by omega, by omega, by omega, by show gS h + 60 ≤ MXS; omega⟩, ?_⟩
  refine MD.new hi m 114 60 10 (by decide) (by simp) (by simp) (G := fun q g => WP 89 84 [some (zr (some (a 100 0)))] [zr (some q), zr (some (a 100 0))] g Q) (fun b g ib m1 f1 c1 s1 e1 => ?_)
  have e := e1 (100, 7, 23) (by simp)
  rw [← e, b_89_84]
  refine ⟨(kd_some _ _ _).mpr (m1.1 (100, 7, 23) (by simp)).1.1, ?_⟩
  rw [ad_some]
  exact hQ b _ ib (MD.put ib m1 100 14 114 ⟨(100, 7, 23), by simp, rfl⟩ ⟨(114, 10, 60), by simp, rfl⟩ (by simp) (by simp)) ((f1 (fun f => f < 100 ∨ 200 ≤ f) (by omega)).trans (Fr_pR ib (by omega))) e (by rw [gC_pR]; omega) (by rw [gS_pR]; omega)
theorem m_ct10 (hi : Ij a) (m : MD a h [(114, 10, 60), (113, 10, 60), (112, 10, 60), (111, 10, 60), (110, 10, 60), (109, 10, 60), (108, 10, 60), (105, 14, 61), (104, 10, 40), (102, 10, 6), (100, 7, 23)] [(100, 14, 114), (100, 13, 113), (100, 12, 112), (100, 11, 111), (100, 10, 110), (100, 9, 109), (100, 8, 108), (100, 5, 105), (100, 4, 104), (100, 2, 102)] [(105, 150, 1, 0)]) (rc : gC h + 1 ≤ MXC) (rs : gS h + 60 ≤ MXS) (hQ : ∀ b g, Ij b → MD b g [(115, 10, 60), (114, 10, 60), (113, 10, 60), (112, 10, 60), (111, 10, 60), (110, 10, 60), (109, 10, 60), (108, 10, 60), (105, 14, 61), (104, 10, 40), (102, 10, 6), (100, 7, 23)] [(100, 15, 115), (100, 14, 114), (100, 13, 113), (100, 12, 112), (100, 11, 111), (100, 10, 110), (100, 9, 109), (100, 8, 108), (100, 5, 105), (100, 4, 104), (100, 2, 102)] [(105, 150, 1, 0)] → Fr (fun f => f < 100 ∨ 200 ≤ f) a h b g → b 100 0 = a 100 0 → gC g = gC h + 1 → gS g = gS h + 60 → WP 89 95 [some (zr (some (b 100 0)))] [] g Q) :
    WP 89 87 [some (zr (some (a 100 0)))] [] h Q := by
  rw [b_89_87]
  refine ⟨⟨by omega, by omega, by omega, by show gS h + 60 ≤ MXS; omega⟩, ?_⟩
  refine MD.new hi m 115 60 10 (by decide) (by simp) (by simp) (G := fun q g => WP 89 92 [some (zr (some (a 100 0)))] [zr (some q), zr (some (a 100 0))] g Q) (fun b g ib m1 f1 c1 s1 e1 => ?_)
  have e := e1 (100, 7, 23) (by simp)
  rw [← e, b_89_92]
  refine ⟨(kd_some _ _ _).mpr (m1.1 (100, 7, 23) (by simp)).1.1, ?_⟩
  rw [ad_some]
  exact hQ b _ ib (MD.put ib m1 100 15 115 ⟨(100, 7, 23), by simp, rfl⟩ ⟨(115, 10, 60), by simp, rfl⟩ (by simp) (by simp)) ((f1 (fun f => f < 100 ∨ 200 ≤ f) (by omega)).trans (Fr_pR ib (by omega))) e (by rw [gC_pR]; omega) (by rw [gS_pR]; omega)
theorem m_ct11 (hi : Ij a) (m : MD a h [(115, 10, 60), (114, 10, 60), (113, 10, 60), (112, 10, 60), (111, 10, 60), (110, 10, 60), (109, 10, 60), (108, 10, 60), (105, 14, 61), (104, 10, 40), (102, 10, 6), (100, 7, 23)] [(100, 15, 115), (100, 14, 114), (100, 13, 113), (100, 12, 112), (100, 11, 111), (100, 10, 110), (100, 9, 109), (100, 8, 108), (100, 5, 105), (100, 4, 104), (100, 2, 102)] [(105, 150, 1, 0)]) (rc : gC h + 1 ≤ MXC) (rs : gS h + 60 ≤ MXS) (hQ : ∀ b g, Ij b → MD b g [(116, 10, 60), (115, 10, 60), (114, 10, 60), (113, 10, 60), (112, 10, 60), (111, 10, 60), (110, 10, 60), (109, 10, 60), (108, 10, 60), (105, 14, 61), (104, 10, 40), (102, 10, 6), (100, 7, 23)] [(100, 16, 116), (100, 15, 115), (100, 14, 114), (100, 13, 113), (100, 12, 112), (100, 11, 111), (100, 10, 110), (100, 9, 109), (100, 8, 108), (100, 5, 105), (100, 4, 104), (100, 2, 102)] [(105, 150, 1, 0)] → Fr (fun f => f < 100 ∨ 200 ≤ f) a h b g → b 100 0 = a 100 0 → gC g = gC h + 1 → gS g = gS h + 60 → WP 89 103 [some (zr (some (b 100 0)))] [] g Q) :
    WP 89 95 [some (zr (some (a 100 0)))] [] h Q := by
  rw [b_89_95]
  refine ⟨⟨by omega, by omega, by omega, by show gS h + 60 ≤ MXS; omega⟩, ?_⟩
  refine MD.new hi m 116 60 10 (by decide) (by simp) (by simp) (G := fun q g => WP 89 100 [some (zr (some (a 100 0)))] [zr (some q), zr (some (a 100 0))] g Q) (fun b g ib m1 f1 c1 s1 e1 => ?_)
  have e := e1 (100, 7, 23) (by simp)
  rw [← e, b_89_100]
  refine ⟨(kd_some _ _ _).mpr (m1.1 (100, 7, 23) (by simp)).1.1, ?_⟩
  rw [ad_some]
  exact hQ b _ ib (MD.put ib m1 100 16 116 ⟨(100, 7, 23), by simp, rfl⟩ ⟨(116, 10, 60), by simp, rfl⟩ (by simp) (by simp)) ((f1 (fun f => f < 100 ∨ 200 ≤ f) (by omega)).trans (Fr_pR ib (by omega))) e (by rw [gC_pR]; omega) (by rw [gS_pR]; omega)
theorem m_ct12 (hi : Ij a) (m : MD a h [(116, 10, 60), (115, 10, 60), (114, 10, 60), (113, 10, 60), (112, 10, 60), (111, 10, 60), (110, 10, 60), (109, 10, 60), (108, 10, 60), (105, 14, 61), (104, 10, 40), (102, 10, 6), (100, 7, 23)] [(100, 16, 116), (100, 15, 115), (100, 14, 114), (100, 13, 113), (100, 12, 112), (100, 11, 111), (100, 10, 110), (100, 9, 109), (100, 8, 108), (100, 5, 105), (100, 4, 104), (100, 2, 102)] [(105, 150, 1, 0)]) (rc : gC h + 1 ≤ MXC) (rs : gS h + 60 ≤ MXS) (hQ : ∀ b g, Ij b → MD b g [(117, 10, 60), (116, 10, 60), (115, 10, 60), (114, 10, 60), (113, 10, 60), (112, 10, 60), (111, 10, 60), (110, 10, 60), (109, 10, 60), (108, 10, 60), (105, 14, 61), (104, 10, 40), (102, 10, 6), (100, 7, 23)] [(100, 17, 117), (100, 16, 116), (100, 15, 115), (100, 14, 114), (100, 13, 113), (100, 12, 112), (100, 11, 111), (100, 10, 110), (100, 9, 109), (100, 8, 108), (100, 5, 105), (100, 4, 104), (100, 2, 102)] [(105, 150, 1, 0)] → Fr (fun f => f < 100 ∨ 200 ≤ f) a h b g → b 100 0 = a 100 0 → gC g = gC h + 1 → gS g = gS h + 60 → WP 89 111 [some (zr (some (b 100 0)))] [] g Q) :
    WP 89 103 [some (zr (some (a 100 0)))] [] h Q := by
  rw [b_89_103]
  refine ⟨⟨by omega, by omega, by omega, by show gS h + 60 ≤ MXS; omega⟩, ?_⟩
  refine MD.new hi m 117 60 10 (by decide) (by simp) (by simp) (G := fun q g => WP 89 108 [some (zr (some (a 100 0)))] [zr (some q), zr (some (a 100 0))] g Q) (fun b g ib m1 f1 c1 s1 e1 => ?_)
  have e := e1 (100, 7, 23) (by simp)
  rw [← e, b_89_108]
  refine ⟨(kd_some _ _ _).mpr (m1.1 (100, 7, 23) (by simp)).1.1, ?_⟩
  rw [ad_some]
  exact hQ b _ ib (MD.put ib m1 100 17 117 ⟨(100, 7, 23), by simp, rfl⟩ ⟨(117, 10, 60), by simp, rfl⟩ (by simp) (by simp)) ((f1 (fun f => f < 100 ∨ 200 ≤ f) (by omega)).trans (Fr_pR ib (by omega))) e (by rw [gC_pR]; omega) (by rw [gS_pR]; omega)
theorem m_ct13 (hi : Ij a) (m : MD a h [(117, 10, 60), (116, 10, 60), (115, 10, 60), (114, 10, 60), (113, 10, 60), (112, 10, 60), (111, 10, 60), (110, 10, 60), (109, 10, 60), (108, 10, 60), (105, 14, 61), (104, 10, 40), (102, 10, 6), (100, 7, 23)] [(100, 17, 117), (100, 16, 116), (100, 15, 115), (100, 14, 114), (100, 13, 113), (100, 12, 112), (100, 11, 111), (100, 10, 110), (100, 9, 109), (100, 8, 108), (100, 5, 105), (100, 4, 104), (100, 2, 102)] [(105, 150, 1, 0)]) (rc : gC h + 1 ≤ MXC) (rs : gS h + 60 ≤ MXS) (hQ : ∀ b g, Ij b → MD b g [(118, 12, 60), (117, 10, 60), (116, 10, 60), (115, 10, 60), (114, 10, 60), (113, 10, 60), (112, 10, 60), (111, 10, 60), (110, 10, 60), (109, 10, 60), (108, 10, 60), (105, 14, 61), (104, 10, 40), (102, 10, 6), (100, 7, 23)] [(100, 18, 118), (100, 17, 117), (100, 16, 116), (100, 15, 115), (100, 14, 114), (100, 13, 113), (100, 12, 112), (100, 11, 111), (100, 10, 110), (100, 9, 109), (100, 8, 108), (100, 5, 105), (100, 4, 104), (100, 2, 102)] [(105, 150, 1, 0)] → Fr (fun f => f < 100 ∨ 200 ≤ f) a h b g → b 100 0 = a 100 0 → gC g = gC h + 1 → gS g = gS h + 60 → WP 89 119 [some (zr (some (b 100 0)))] [] g Q) :
    WP 89 111 [some (zr (some (a 100 0)))] [] h Q := by
  rw [b_89_111]
  refine ⟨⟨by omega, by omega, by omega, by show gS h + 60 ≤ MXS; omega⟩, ?_⟩
  refine MD.new hi m 118 60 12 (by decide) (by simp) (by simp) (G := fun q g => WP 89 116 [some (zr (some (a 100 0)))] [zr (some q), zr (some (a 100 0))] g Q) (fun b g ib m1 f1 c1 s1 e1 => ?_)
  have e := e1 (100, 7, 23) (by simp)
  rw [← e, b_89_116]
  refine ⟨(kd_some _ _ _).mpr (m1.1 (100, 7, 23) (by simp)).1.1, ?_⟩
  rw [ad_some]
  exact hQ b _ ib (MD.put ib m1 100 18 118 ⟨(100, 7, 23), by simp, rfl⟩ ⟨(118, 12, 60), by simp, rfl⟩ (by simp) (by simp)) ((f1 (fun f => f < 100 ∨ 200 ≤ f) (by omega)).trans (Fr_pR ib (by omega))) e (by rw [gC_pR]; omega) (by rw [gS_pR]; omega)
theorem m_ct14 (hi : Ij a) (m : MD a h [(118, 12, 60), (117, 10, 60), (116, 10, 60), (115, 10, 60), (114, 10, 60), (113, 10, 60), (112, 10, 60), (111, 10, 60), (110, 10, 60), (109, 10, 60), (108, 10, 60), (105, 14, 61), (104, 10, 40), (102, 10, 6), (100, 7, 23)] [(100, 18, 118), (100, 17, 117), (100, 16, 116), (100, 15, 115), (100, 14, 114), (100, 13, 113), (100, 12, 112), (100, 11, 111), (100, 10, 110), (100, 9, 109), (100, 8, 108), (100, 5, 105), (100, 4, 104), (100, 2, 102)] [(105, 150, 1, 0)]) (rc : gC h + 1 ≤ MXC) (rs : gS h + 60 ≤ MXS) (hQ : ∀ b g, Ij b → MD b g [(119, 14, 60), (118, 12, 60), (117, 10, 60), (116, 10, 60), (115, 10, 60), (114, 10, 60), (113, 10, 60), (112, 10, 60), (111, 10, 60), (110, 10, 60), (109, 10, 60), (108, 10, 60), (105, 14, 61), (104, 10, 40), (102, 10, 6), (100, 7, 23)] [(100, 19, 119), (100, 18, 118), (100, 17, 117), (100, 16, 116), (100, 15, 115), (100, 14, 114), (100, 13, 113), (100, 12, 112), (100, 11, 111), (100, 10, 110), (100, 9, 109), (100, 8, 108), (100, 5, 105), (100, 4, 104), (100, 2, 102)] [(105, 150, 1, 0)] → Fr (fun f => f < 100 ∨ 200 ≤ f) a h b g → b 100 0 = a 100 0 → gC g = gC h + 1 → gS g = gS h + 60 → WP 89 128 [some (zr (some (b 100 0)))] [] g Q) :
    WP 89 119 [some (zr (some (a 100 0)))] [] h Q := by
  rw [b_89_119]
  refine ⟨⟨by omega, by omega, by omega, by show gS h + 60 ≤ MXS; omega⟩, ?_⟩
  refine MD.new hi m 119 60 14 (by decide) (by simp) (by simp) (G := fun q g => WP 89 125 [some (zr (some (a 100 0)))] [zr (some q), zr (some (a 100 0))] g Q) (fun b g ib m1 f1 c1 s1 e1 => ?_)
  have e := e1 (100, 7, 23) (by simp)
  rw [← e, b_89_125]
  refine ⟨(kd_some _ _ _).mpr (m1.1 (100, 7, 23) (by simp)).1.1, ?_⟩
  rw [ad_some]
  exact hQ b _ ib (MD.put ib m1 100 19 119 ⟨(100, 7, 23), by simp, rfl⟩ ⟨(119, 14, 60), by simp, rfl⟩ (by simp) (by simp)) ((f1 (fun f => f < 100 ∨ 200 ≤ f) (by omega)).trans (Fr_pR ib (by omega))) e (by rw [gC_pR]; omega) (by rw [gS_pR]; omega)
theorem m_ct15 (hi : Ij a) (m : MD a h [(119, 14, 60), (118, 12, 60), (117, 10, 60), (116, 10, 60), (115, 10, 60), (114, 10, 60), (113, 10, 60), (112, 10, 60), (111, 10, 60), (110, 10, 60), (109, 10, 60), (108, 10, 60), (105, 14, 61), (104, 10, 40), (102, 10, 6), (100, 7, 23)] [(100, 19, 119), (100, 18, 118), (100, 17, 117), (100, 16, 116), (100, 15, 115), (100, 14, 114), (100, 13, 113), (100, 12, 112), (100, 11, 111), (100, 10, 110), (100, 9, 109), (100, 8, 108), (100, 5, 105), (100, 4, 104), (100, 2, 102)] [(105, 150, 1, 0)]) (rc : gC h + 1 ≤ MXC) (rs : gS h + 0 ≤ MXS) (hQ : ∀ b g, Ij b → MD b g [(120, 10, 0), (119, 14, 60), (118, 12, 60), (117, 10, 60), (116, 10, 60), (115, 10, 60), (114, 10, 60), (113, 10, 60), (112, 10, 60), (111, 10, 60), (110, 10, 60), (109, 10, 60), (108, 10, 60), (105, 14, 61), (104, 10, 40), (102, 10, 6), (100, 7, 23)] [(100, 20, 120), (100, 19, 119), (100, 18, 118), (100, 17, 117), (100, 16, 116), (100, 15, 115), (100, 14, 114), (100, 13, 113), (100, 12, 112), (100, 11, 111), (100, 10, 110), (100, 9, 109), (100, 8, 108), (100, 5, 105), (100, 4, 104), (100, 2, 102)] [(105, 150, 1, 0)] → Fr (fun f => f < 100 ∨ 200 ≤ f) a h b g → b 100 0 = a 100 0 → gC g = gC h + 1 → gS g = gS h + 0 → WP 89 135 [some (zr (some (b 100 0)))] [] g Q) :
    WP 89 128 [some (zr (some (a 100 0)))] [] h Q := by
  rw [b_89_128]
  refine ⟨⟨by omega, by omega, by omega, by show gS h + 0 ≤ MXS; omega⟩, ?_⟩
  refine MD.new hi m 120 0 10 (by decide) (by simp) (by simp) (G := fun q g => WP 89 132 [some (zr (some (a 100 0)))] [zr (some q), zr (some (a 100 0))] g Q) (fun b g ib m1 f1 c1 s1 e1 => ?_)
  have e := e1 (100, 7, 23) (by simp)
  rw [← e, b_89_132]
  refine ⟨(kd_some _ _ _).mpr (m1.1 (100, 7, 23) (by simp)).1.1, ?_⟩
  rw [ad_some]
  exact hQ b _ ib (MD.put ib m1 100 20 120 ⟨(100, 7, 23), by simp, rfl⟩ ⟨(120, 10, 0), by simp, rfl⟩ (by simp) (by simp)) ((f1 (fun f => f < 100 ∨ 200 ≤ f) (by omega)).trans (Fr_pR ib (by omega))) e (by rw [gC_pR]; omega) (by rw [gS_pR]; omega)
theorem m_ct16 (hi : Ij a) (m : MD a h [(120, 10, 0), (119, 14, 60), (118, 12, 60), (117, 10, 60), (116, 10, 60), (115, 10, 60), (114, 10, 60), (113, 10, 60), (112, 10, 60), (111, 10, 60), (110, 10, 60), (109, 10, 60), (108, 10, 60), (105, 14, 61), (104, 10, 40), (102, 10, 6), (100, 7, 23)] [(100, 20, 120), (100, 19, 119), (100, 18, 118), (100, 17, 117), (100, 16, 116), (100, 15, 115), (100, 14, 114), (100, 13, 113), (100, 12, 112), (100, 11, 111), (100, 10, 110), (100, 9, 109), (100, 8, 108), (100, 5, 105), (100, 4, 104), (100, 2, 102)] [(105, 150, 1, 0)]) (rc : gC h + 1 ≤ MXC) (rs : gS h + 60 ≤ MXS) (hQ : ∀ b g, Ij b → MD b g [(122, 10, 60), (120, 10, 0), (119, 14, 60), (118, 12, 60), (117, 10, 60), (116, 10, 60), (115, 10, 60), (114, 10, 60), (113, 10, 60), (112, 10, 60), (111, 10, 60), (110, 10, 60), (109, 10, 60), (108, 10, 60), (105, 14, 61), (104, 10, 40), (102, 10, 6), (100, 7, 23)] [(100, 22, 122), (100, 20, 120), (100, 19, 119), (100, 18, 118), (100, 17, 117), (100, 16, 116), (100, 15, 115), (100, 14, 114), (100, 13, 113), (100, 12, 112), (100, 11, 111), (100, 10, 110), (100, 9, 109), (100, 8, 108), (100, 5, 105), (100, 4, 104), (100, 2, 102)] [(105, 150, 1, 0)] → Fr (fun f => f < 100 ∨ 200 ≤ f) a h b g → b 100 0 = a 100 0 → gC g = gC h + 1 → gS g = gS h + 60 → WP 89 143 [some (zr (some (b 100 0)))] [] g Q) :
    WP 89 135 [some (zr (some (a 100 0)))] [] h Q := by
  rw [b_89_135]
  refine ⟨⟨by omega, by omega, by omega, by show gS h + 60 ≤ MXS; omega⟩, ?_⟩
  refine MD.new hi m 122 60 10 (by decide) (by simp) (by simp) (G := fun q g => WP 89 140 [some (zr (some (a 100 0)))] [zr (some q), zr (some (a 100 0))] g Q) (fun b g ib m1 f1 c1 s1 e1 => ?_)
  have e := e1 (100, 7, 23) (by simp)
  rw [← e, b_89_140]
  refine ⟨(kd_some _ _ _).mpr (m1.1 (100, 7, 23) (by simp)).1.1, ?_⟩
  rw [ad_some]
  exact hQ b _ ib (MD.put ib m1 100 22 122 ⟨(100, 7, 23), by simp, rfl⟩ ⟨(122, 10, 60), by simp, rfl⟩ (by simp) (by simp)) ((f1 (fun f => f < 100 ∨ 200 ≤ f) (by omega)).trans (Fr_pR ib (by omega))) e (by rw [gC_pR]; omega) (by rw [gS_pR]; omega)
theorem m_ctE (hi : Ij a) (m : MD a h [(122, 10, 60), (120, 10, 0), (119, 14, 60), (118, 12, 60), (117, 10, 60), (116, 10, 60), (115, 10, 60), (114, 10, 60), (113, 10, 60), (112, 10, 60), (111, 10, 60), (110, 10, 60), (109, 10, 60), (108, 10, 60), (105, 14, 61), (104, 10, 40), (102, 10, 6), (100, 7, 23)] [(100, 22, 122), (100, 20, 120), (100, 19, 119), (100, 18, 118), (100, 17, 117), (100, 16, 116), (100, 15, 115), (100, 14, 114), (100, 13, 113), (100, 12, 112), (100, 11, 111), (100, 10, 110), (100, 9, 109), (100, 8, 108), (100, 5, 105), (100, 4, 104), (100, 2, 102)] [(105, 150, 1, 0)]) : RepM a S0 h := by
  obtain ⟨mL, mR, mW⟩ := m
  obtain ⟨⟨K100, L100, I100⟩, -⟩ := mL (100, 7, 23) (by simp)
  obtain ⟨⟨K102, L102, I102⟩, -⟩ := mL (102, 10, 6) (by simp)
  obtain ⟨⟨K104, L104, I104⟩, -⟩ := mL (104, 10, 40) (by simp)
  obtain ⟨⟨K105, L105, I105⟩, -⟩ := mL (105, 14, 61) (by simp)
  obtain ⟨⟨K108, L108, I108⟩, -⟩ := mL (108, 10, 60) (by simp)
  obtain ⟨⟨K109, L109, I109⟩, -⟩ := mL (109, 10, 60) (by simp)
  obtain ⟨⟨K110, L110, I110⟩, -⟩ := mL (110, 10, 60) (by simp)
  obtain ⟨⟨K111, L111, I111⟩, -⟩ := mL (111, 10, 60) (by simp)
  obtain ⟨⟨K112, L112, I112⟩, -⟩ := mL (112, 10, 60) (by simp)
  obtain ⟨⟨K113, L113, I113⟩, -⟩ := mL (113, 10, 60) (by simp)
  obtain ⟨⟨K114, L114, I114⟩, -⟩ := mL (114, 10, 60) (by simp)
  obtain ⟨⟨K115, L115, I115⟩, -⟩ := mL (115, 10, 60) (by simp)
  obtain ⟨⟨K116, L116, I116⟩, -⟩ := mL (116, 10, 60) (by simp)
  obtain ⟨⟨K117, L117, I117⟩, -⟩ := mL (117, 10, 60) (by simp)
  obtain ⟨⟨K118, L118, I118⟩, -⟩ := mL (118, 12, 60) (by simp)
  obtain ⟨⟨K119, L119, I119⟩, -⟩ := mL (119, 14, 60) (by simp)
  obtain ⟨⟨K120, L120, I120⟩, -⟩ := mL (120, 10, 0) (by simp)
  obtain ⟨⟨K122, L122, I122⟩, -⟩ := mL (122, 10, 60) (by simp)
  have R100_2 := (mR (100, 2, 102) (by simp)).1
  have R100_4 := (mR (100, 4, 104) (by simp)).1
  have R100_5 := (mR (100, 5, 105) (by simp)).1
  have R100_8 := (mR (100, 8, 108) (by simp)).1
  have R100_9 := (mR (100, 9, 109) (by simp)).1
  have R100_10 := (mR (100, 10, 110) (by simp)).1
  have R100_11 := (mR (100, 11, 111) (by simp)).1
  have R100_12 := (mR (100, 12, 112) (by simp)).1
  have R100_13 := (mR (100, 13, 113) (by simp)).1
  have R100_14 := (mR (100, 14, 114) (by simp)).1
  have R100_15 := (mR (100, 15, 115) (by simp)).1
  have R100_16 := (mR (100, 16, 116) (by simp)).1
  have R100_17 := (mR (100, 17, 117) (by simp)).1
  have R100_18 := (mR (100, 18, 118) (by simp)).1
  have R100_19 := (mR (100, 19, 119) (by simp)).1
  have R100_20 := (mR (100, 20, 120) (by simp)).1
  have R100_22 := (mR (100, 22, 122) (by simp)).1
  have W105 := (mW (105, 150, 1, 0) (by simp)).1
  refine RepM.mk ?_ ?_ ?_ ?_ (fun f f1 f2 => ?_) ?_ ?_ ?_
  · exact ⟨K100, I100 1, I100 3, I100 6, I100 7, R100_2, R100_4, R100_5, R100_8, R100_9, R100_10, R100_11, R100_12, R100_13, R100_14, R100_15, R100_16, R100_17, R100_18, R100_19, R100_20, R100_22⟩
  · exact ⟨K102, L102, I102⟩
  · exact ⟨K104, by rw [L104]; show (0 : Int) ≤ 40; omega, fun n h1 h2 => by have h2 : n < 0 := h2; omega⟩
  · exact ⟨K105, L105, fun v h1 h2 => (W105 v h1 (by have h2 : v ≤ 0 := h2; show v < 1; omega)).1, fun v h1 h2 => (W105 v h1 (by have h2 : v ≤ 0 := h2; show v < 1; omega)).2.1, fun v h1 h2 => (W105 v h1 (by have h2 : v ≤ 0 := h2; show v < 1; omega)).2.2, fun v p h1 h2 h3 h4 => by have h4 : p < 0 := h4; omega⟩
  · have : f = 8 ∨ f = 9 ∨ f = 10 ∨ f = 11 ∨ f = 12 ∨ f = 13 ∨ f = 14 ∨ f = 15 ∨ f = 16 ∨ f = 17 ∨ f = 18 := by omega
    rcases this with rfl | rfl | rfl | rfl | rfl | rfl | rfl | rfl | rfl | rfl | rfl
    · exact ⟨K108, L108, I108⟩
    · exact ⟨K109, L109, I109⟩
    · exact ⟨K110, L110, I110⟩
    · exact ⟨K111, L111, I111⟩
    · exact ⟨K112, L112, I112⟩
    · exact ⟨K113, L113, I113⟩
    · exact ⟨K114, L114, I114⟩
    · exact ⟨K115, L115, I115⟩
    · exact ⟨K116, L116, I116⟩
    · exact ⟨K117, L117, I117⟩
    · exact ⟨K118, L118, I118⟩
  · exact ⟨K119, L119, fun k hk => by have h1 := hk.1.1; have h2 : k < 0 := hk.1.2; omega, fun k hk => by have h1 := hk.1.1; have h2 : k < 0 := hk.1.2; omega, fun k hk => by have h1 := hk.1.1; have h2 : k < 0 := hk.1.2; omega, fun k i hk => by have h1 := hk.1.1; have h2 : k < 0 := hk.1.2; omega⟩
  · exact ⟨K120, L120, fun p w h1 h2 => by have h2 : p < 0 := h2; omega⟩
  · exact ⟨K122, L122⟩
theorem m_ctor (hi : Ij a) (m0 : MD a h [(100, 7, 23)] [] []) (rc : gC h + 100 ≤ MXC) (rs : gS h + 16000 ≤ MXS) (hQ : ∀ b g, Ij b → RepM b S0 g → Fr (fun f => f < 100 ∨ 200 ≤ f) a h b g → b 100 0 = a 100 0 → gC g ≤ gC h + 100 → gS g ≤ gS h + 16000 → Q (.inl none) g) :
    WP 89 0 [some (zr (some (a 100 0)))] [] h Q := by
  refine m_ct0 hi m0 (by omega) (by omega) (fun b0 g0 i0 n0 f0 e0 c0 s0 => ?_)
  refine m_ct1 i0 n0 (by omega) (by omega) (fun b1 g1 i1 n1 f1 e1 c1 s1 => ?_)
  refine m_ct2 i1 n1 (by omega) (by omega) (fun b2 g2 i2 n2 f2 e2 c2 s2 => ?_)
  refine m_ct3 i2 n2 (by omega) (by omega) (fun b3 g3 i3 n3 f3 e3 c3 s3 => ?_)
  refine m_ct4 i3 n3 (by omega) (by omega) (fun b4 g4 i4 n4 f4 e4 c4 s4 => ?_)
  refine m_ct5 i4 n4 (by omega) (by omega) (fun b5 g5 i5 n5 f5 e5 c5 s5 => ?_)
  refine m_ct6 i5 n5 (by omega) (by omega) (fun b6 g6 i6 n6 f6 e6 c6 s6 => ?_)
  refine m_ct7 i6 n6 (by omega) (by omega) (fun b7 g7 i7 n7 f7 e7 c7 s7 => ?_)
  refine m_ct8 i7 n7 (by omega) (by omega) (fun b8 g8 i8 n8 f8 e8 c8 s8 => ?_)
  refine m_ct9 i8 n8 (by omega) (by omega) (fun b9 g9 i9 n9 f9 e9 c9 s9 => ?_)
  refine m_ct10 i9 n9 (by omega) (by omega) (fun b10 g10 i10 n10 f10 e10 c10 s10 => ?_)
  refine m_ct11 i10 n10 (by omega) (by omega) (fun b11 g11 i11 n11 f11 e11 c11 s11 => ?_)
  refine m_ct12 i11 n11 (by omega) (by omega) (fun b12 g12 i12 n12 f12 e12 c12 s12 => ?_)
  refine m_ct13 i12 n12 (by omega) (by omega) (fun b13 g13 i13 n13 f13 e13 c13 s13 => ?_)
  refine m_ct14 i13 n13 (by omega) (by omega) (fun b14 g14 i14 n14 f14 e14 c14 s14 => ?_)
  refine m_ct15 i14 n14 (by omega) (by omega) (fun b15 g15 i15 n15 f15 e15 c15 s15 => ?_)
  refine m_ct16 i15 n15 (by omega) (by omega) (fun b16 g16 i16 n16 f16 e16 c16 s16 => ?_)
  rw [b_89_143]
  exact hQ b16 g16 i16 (m_ctE i16 n16) (f0.trans (f1.trans (f2.trans (f3.trans (f4.trans (f5.trans (f6.trans (f7.trans (f8.trans (f9.trans (f10.trans (f11.trans (f12.trans (f13.trans (f14.trans (f15.trans (f16))))))))))))))))) (((((((((((((((((e16).trans e15).trans e14).trans e13).trans e12).trans e11).trans e10).trans e9).trans e8).trans e7).trans e6).trans e5).trans e4).trans e3).trans e2).trans e1).trans e0) (by omega) (by omega)
end
