/-! THE REFERENCE'S CONSTRUCTOR -/
section
variable {a : Na} {h : Zh} {Q : Zp}
theorem m_ctE (hi : Ij a) (m : MD a h [(122, 10, 60), (120, 10, 0), (119, 14, 60), (118, 12, 60), (117, 10, 60), (116, 10, 60), (115, 10, 60), (114, 10, 60), (113, 10, 60), (112, 10, 60), (111, 10, 60), (110, 10, 60), (109, 10, 60), (108, 10, 60), (105, 14, 61), (104, 10, 40), (102, 10, 6), (100, 7, 23)] [(100, 22, 122), (100, 20, 120), (100, 19, 119), (100, 18, 118), (100, 17, 117), (100, 16, 116), (100, 15, 115), (100, 14, 114), (100, 13, 113), (100, 12, 112), (100, 11, 111), (100, 10, 110), (100, 9, 109), (100, 8, 108), (100, 5, 105), (100, 4, 104), (100, 2, 102)] [(105, 150, 1, 0)]) : RepM a S0 h := by
  obtain ⟨mL, mR, mW⟩ := m
  obtain ⟨⟨K100, L100, I100⟩, -⟩ := mL (100, 7, 23) (by simp)
  obtain ⟨⟨K102, L102, I102⟩, -⟩ := mL (102, 10, 6) (by simp)
  obtain ⟨⟨K104, L104, I104⟩, -⟩ := mL (104, 10, 40) (by simp)
  obtain ⟨⟨K105, L105, I105⟩, -⟩ := mL (105, 14, 61) (by simp)
  obtain ⟨⟨K108, L108, I108⟩, -⟩ := mL (108, 10, 60) (by simp)
  obtain ⟨⟨K109, L109, I109⟩, -⟩ := mL (109, 10, 60) (by simp)
  obtain ⟨⟨K110, L110, I110⟩, -⟩ := mL (110, 10, 60) (by simp)
  obtain ⟨⟨K111, L111, I111⟩, -⟩ := mL (111, 10, 60) (by simp)
  obtain ⟨⟨K112, L112, I112⟩, -⟩ := mL (112, 10, 60) (by simp)
  obtain ⟨⟨K113, L113, I113⟩, -⟩ := mL (113, 10, 60) (by simp)
  obtain ⟨⟨K114, L114, I114⟩, -⟩ := mL (114, 10, 60) (by simp)
  obtain ⟨⟨K115, L115, I115⟩, -⟩ := mL (115, 10, 60) (by simp)
  obtain ⟨⟨K116, L116, I116⟩, -⟩ := mL (116, 10, 60) (by simp)
  obtain ⟨⟨K117, L117, I117⟩, -⟩ := mL (117, 10, 60) (by simp)
  obtain ⟨⟨K118, L118, I118⟩, -⟩ := mL (118, 12, 60) (by simp)
  obtain ⟨⟨K119, L119, I119⟩, -⟩ := mL (119, 14, 60) (by simp)
  obtain ⟨⟨K120, L120, I120⟩, -⟩ := mL (120, 10, 0) (by simp)
  obtain ⟨⟨K122, L122, I122⟩, -⟩ := mL (122, 10, 60) (by simp)
  have R100_2 := (mR (100, 2, 102) (by simp)).1
  have R100_4 := (mR (100, 4, 104) (by simp)).1
  have R100_5 := (mR (100, 5, 105) (by simp)).1
  have R100_8 := (mR (100, 8, 108) (by simp)).1
  have R100_9 := (mR (100, 9, 109) (by simp)).1
  have R100_10 := (mR (100, 10, 110) (by simp)).1
  have R100_11 := (mR (100, 11, 111) (by simp)).1
  have R100_12 := (mR (100, 12, 112) (by simp)).1
  have R100_13 := (mR (100, 13, 113) (by simp)).1
  have R100_14 := (mR (100, 14, 114) (by simp)).1
  have R100_15 := (mR (100, 15, 115) (by simp)).1
  have R100_16 := (mR (100, 16, 116) (by simp)).1
  have R100_17 := (mR (100, 17, 117) (by simp)).1
  have R100_18 := (mR (100, 18, 118) (by simp)).1
  have R100_19 := (mR (100, 19, 119) (by simp)).1
  have R100_20 := (mR (100, 20, 120) (by simp)).1
  have R100_22 := (mR (100, 22, 122) (by simp)).1
  have W105 := (mW (105, 150, 1, 0) (by simp)).1
  refine RepM.mk ?_ ?_ ?_ ?_ (fun f f1 f2 => ?_) ?_ ?_ ?_
  · exact ⟨K100, I100 1, I100 3, I100 6, I100 7, R100_2, R100_4, R100_5, R100_8, R100_9, R100_10, R100_11, R100_12, R100_13, R100_14, R100_15, R100_16, R100_17, R100_18, R100_19, R100_20, R100_22⟩
  · exact ⟨K102, L102, I102⟩
  · exact ⟨K104, by rw [L104]; show (0 : Int) ≤ 40; omega, fun n h1 h2 => by have h2 : n < 0 := h2; omega⟩
  · exact ⟨K105, L105, fun v h1 h2 => (W105 v h1 (by have h2 : v ≤ 0 := h2; show v < 1; omega)).1, fun v h1 h2 => (W105 v h1 (by have h2 : v ≤ 0 := h2; show v < 1; omega)).2.1, fun v h1 h2 => (W105 v h1 (by have h2 : v ≤ 0 := h2; show v < 1; omega)).2.2, fun v p h1 h2 h3 h4 => by have h4 : p < 0 := h4; omega⟩
  · have : f = 8 ∨ f = 9 ∨ f = 10 ∨ f = 11 ∨ f = 12 ∨ f = 13 ∨ f = 14 ∨ f = 15 ∨ f = 16 ∨ f = 17 ∨ f = 18 := by omega
    rcases this with rfl | rfl | rfl | rfl | rfl | rfl | rfl | rfl | rfl | rfl | rfl
    · exact ⟨K108, L108, I108⟩
    · exact ⟨K109, L109, I109⟩
    · exact ⟨K110, L110, I110⟩
    · exact ⟨K111, L111, I111⟩
    · exact ⟨K112, L112, I112⟩
    · exact ⟨K113, L113, I113⟩
    · exact ⟨K114, L114, I114⟩
    · exact ⟨K115, L115, I115⟩
    · exact ⟨K116, L116, I116⟩
    · exact ⟨K117, L117, I117⟩
    · exact ⟨K118, L118, I118⟩
  · exact ⟨K119, L119, fun k hk => by have h1 := hk.1.1; have h2 : k < 0 := hk.1.2; omega, fun k hk => by have h1 := hk.1.1; have h2 : k < 0 := hk.1.2; omega, fun k hk => by have h1 := hk.1.1; have h2 : k < 0 := hk.1.2; omega, fun k i hk => by have h1 := hk.1.1; have h2 : k < 0 := hk.1.2; omega⟩
  · exact ⟨K120, L120, fun p w h1 h2 => by have h2 : p < 0 := h2; omega⟩
  · exact ⟨K122, L122⟩
end
