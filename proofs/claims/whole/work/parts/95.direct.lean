/-! THE LAW'S CASES WITHOUT A CATCHER -/
section
variable {L i : Int} {sc : Int → Int} {a b : Na} {S T : St} {h g : Zh} {Q : Zp}
theorem L_length (bg : BG L sc a S S h) (iv : Inv S) (rc : gC h + 100 ≤ MXC) (rs : gS h + 6000 ≤ MXS) (i0 : 0 ≤ i) (i1 : i + 6 ≤ L) (L1 : L ≤ 3072) (o5 o6 o7 : Option Zv) (k : KX L sc i h Q) : WP 171 480 [some (zr (some (a 201 0))), some (zr (some (a 0 0))), some (zr (some (a 100 0))), some (zr (some (a 200 0))), some (zi i), o5, o6, o7, none] [] h Q := by
  obtain ⟨hi, hr, hm, o⟩ := id bg
  rw [b_171_480]
  refine ⟨(kd_some _ _ _).mpr hr.c0, ?_⟩
  rw [c_length hr iv]
  simp only [kont_v, Nat.reduceAdd]
  rw [b_171_484]
  refine ⟨(kd_some _ _ _).mpr hm.c0, ?_⟩
  rw [m_length hi hm iv]
  simp only [kont_v, Nat.reduceAdd]
  rw [b_171_488, brt rfl]
  exact k a _ _ _ _ _ (bg.em (hm.tw hi 0) (EM.tw hi 0)).1 iv (by show gC h ≤ _; omega) (by show gS h ≤ _; omega)
theorem L_version (bg : BG L sc a S S h) (iv : Inv S) (rc : gC h + 100 ≤ MXC) (rs : gS h + 6000 ≤ MXS) (i0 : 0 ≤ i) (i1 : i + 6 ≤ L) (L1 : L ≤ 3072) (o5 o6 o7 : Option Zv) (k : KX L sc i h Q) : WP 171 629 [some (zr (some (a 201 0))), some (zr (some (a 0 0))), some (zr (some (a 100 0))), some (zr (some (a 200 0))), some (zi i), o5, o6, o7, none] [] h Q := by
  obtain ⟨hi, hr, hm, o⟩ := id bg
  rw [b_171_629]
  refine ⟨(kd_some _ _ _).mpr hr.c0, ?_⟩
  rw [c_version hr iv]
  simp only [kont_v, Nat.reduceAdd]
  rw [b_171_633]
  refine ⟨(kd_some _ _ _).mpr hm.c0, ?_⟩
  rw [m_version hi hm iv]
  simp only [kont_v, Nat.reduceAdd]
  rw [b_171_637, brt rfl]
  exact k a _ _ _ _ _ (bg.em (hm.tw hi 0) (EM.tw hi 0)).1 iv (by show gC h ≤ _; omega) (by show gS h ≤ _; omega)
theorem L_digest (bg : BG L sc a S S h) (iv : Inv S) (rc : gC h + 100 ≤ MXC) (rs : gS h + 6000 ≤ MXS) (i0 : 0 ≤ i) (i1 : i + 6 ≤ L) (L1 : L ≤ 3072) (o5 o6 o7 : Option Zv) (k : KX L sc i h Q) : WP 171 2014 [some (zr (some (a 201 0))), some (zr (some (a 0 0))), some (zr (some (a 100 0))), some (zr (some (a 200 0))), some (zi i), o5, o6, o7, none] [] h Q := by
  obtain ⟨hi, hr, hm, o⟩ := id bg
  rw [b_171_2014]
  refine ⟨(kd_some _ _ _).mpr hr.c0, ?_⟩
  rw [c_digest hr iv]
  simp only [kont_v, Nat.reduceAdd]
  rw [b_171_2018]
  refine ⟨(kd_some _ _ _).mpr hm.c0, ?_⟩
  rw [m_digest hi hm iv]
  simp only [kont_v, Nat.reduceAdd]
  rw [b_171_2022, if_pos rfl, brt rfl]
  exact k a _ _ _ _ _ (bg.em (hm.tw hi 0) (EM.tw hi 0)).1 iv (by show gC h ≤ _; omega) (by show gS h ≤ _; omega)
theorem L_mean (bg : BG L sc a S S h) (iv : Inv S) (rc : gC h + 100 ≤ MXC) (rs : gS h + 6000 ≤ MXS) (i0 : 0 ≤ i) (i1 : i + 6 ≤ L) (L1 : L ≤ 3072) (o5 o6 o7 : Option Zv) (k : KX L sc i h Q) : WP 171 1781 [some (zr (some (a 201 0))), some (zr (some (a 0 0))), some (zr (some (a 100 0))), some (zr (some (a 200 0))), some (zi i), o5, o6, o7, none] [] h Q := by
  obtain ⟨hi, hr, hm, o⟩ := id bg
  have kk : ∀ x y z, WP 171 2028 [some (zr (some (a 201 0))), some (zr (some (a 0 0))), some (zr (some (a 100 0))), some (zr (some (a 200 0))), some (zi i), x, y, z, none] [] (tw a h 0) Q := fun x y z => k a _ _ _ _ _ (bg.em (hm.tw hi 0) (EM.tw hi 0)).1 iv (by show gC h ≤ _; omega) (by show gS h ≤ _; omega)
  rw [b_171_1781]
  refine ⟨(kd_some _ _ _).mpr hr.c0, ?_⟩
  rw [c_mean hr iv]
  simp only [kont_v, Nat.reduceAdd]
  rw [b_171_1785]
  refine ⟨(kd_some _ _ _).mpr hm.c0, ?_⟩
  rw [m_mean hi hm iv]
  simp only [kont_v, Nat.reduceAdd]
  rw [b_171_1791]
  refine ⟨fun z => ?_, fun z => ?_⟩
  · rw [b_171_1819]; exact kk _ _ _
  · rw [b_171_1801, brf z, b_171_1809, brf z, b_171_1819]; exact kk _ _ _
theorem L_heal (bg : BG L sc a S S h) (iv : Inv S) (rc : gC h + 100 ≤ MXC) (rs : gS h + 6000 ≤ MXS) (i0 : 0 ≤ i) (i1 : i + 6 ≤ L) (L1 : L ≤ 3072) (o5 o6 o7 : Option Zv) (k : KX L sc i h Q) : WP 171 1157 [some (zr (some (a 201 0))), some (zr (some (a 0 0))), some (zr (some (a 100 0))), some (zr (some (a 200 0))), some (zi i), o5, o6, o7, none] [] h Q := by
  obtain ⟨hi, hr, hm, o⟩ := id bg
  rw [b_171_1157]
  refine ⟨(kd_some _ _ _).mpr hr.c0, ?_⟩
  refine c_heal hi hr iv ?_
  intro b g hr2 ec
  obtain ⟨bg2, sa⟩ := bg.ec iv hr2 ec
  obtain ⟨e0, e1, e2, e3⟩ := id sa
  have gc := ec.2.2.1
  have gs := ec.2.2.2.1
  obtain ⟨ib, -, hm2, o2⟩ := id bg2
  simp only [kont_v, Nat.reduceAdd]
  rw [← e0, ← e1, ← e2, ← e3, b_171_1161]
  refine ⟨(kd_some _ _ _).mpr hm2.c0, ?_⟩
  refine m_heal ib hm2 iv ?_
  intro c g2 hm3 th em
  obtain ⟨bg3, sa3⟩ := bg2.em hm3 em
  obtain ⟨f0, f1, f2, f3⟩ := id sa3
  have gc3 := em.2.2.1
  have gs3 := em.2.2.2.1
  simp only [kont_v, Nat.reduceAdd]
  rw [← f0, ← f1, ← f2, ← f3, b_171_1165, brt rfl]
  exact k c g2 _ _ _ _ bg3 (hlS_inv _ S 0 iv (Int.le_refl _) (by rw [Int.sub_zero])) (by omega) (by omega)
end
