/-! THE LAW'S CASES -/
section
variable {L i : Int} {sc : Int → Int} {a b : Na} {S T : St} {h g : Zh} {Q : Zp}
theorem ir (i0 : 0 ≤ i) (i1 : i + 6 ≤ L) (L1 : L ≤ 3072) {j : Int} (j0 : 0 ≤ j ∧ j ≤ 6) : inR (i + j) := by unfold inR; omega
theorem OX.ix (o : OX a h L sc) {j : Int} (h0 : 0 ≤ j) (h1 : j < L) : ixa h (some (a 201 0)) 15 j := ⟨(kd_some _ _ _).mpr o.2.2.1, h0, by rw [ad_some, o.2.2.2.1]; exact h1⟩
theorem OX.jx (o : OX a h L sc) : ixa h (some (a 200 0)) 11 0 := ⟨(kd_some _ _ _).mpr o.1, Int.le_refl _, by rw [ad_some, o.2.1]; omega⟩
theorem BG.emJ (bg : BG L sc a T S h) (em : EM a h b g) : gJ g (b 200 0) 0 = gJ h (a 200 0) 0 := by
  obtain ⟨-, -, -, o⟩ := bg
  obtain ⟨e, s0, s1, s2, s3, s4⟩ := em.2.1 200 0 (by omega) (by rw [o.1]; omega)
  rw [e]; exact s4 0
theorem EM.tw (hi : Ij a) (x : Int) : EM a h a (tw a h x) := ⟨hi, Fr_tw hi (by omega), by show gC h ≤ _; omega, by show gS h ≤ _; omega, rfl⟩
/-- behind a call of the law -/
def KX (L : Int) (sc : Int → Int) (i : Int) (h : Zh) (Q : Zp) : Prop := ∀ (b : Na) (g : Zh) (T : St) (o5 o6 o7 : Option Zv), BG L sc b T T g → Inv T → gC g ≤ gC h + 100 → gS g ≤ gS h + 6000 → WP 171 2028 [some (zr (some (b 201 0))), some (zr (some (b 0 0))), some (zr (some (b 100 0))), some (zr (some (b 200 0))), some (zi i), o5, o6, o7, none] [] g Q
theorem L_user (bg : BG L sc a S S h) (iv : Inv S) (rc : gC h + 100 ≤ MXC) (rs : gS h + 6000 ≤ MXS) (i0 : 0 ≤ i) (i1 : i + 6 ≤ L) (L1 : L ≤ 3072) (o5 o6 o7 : Option Zv) (k : KX L sc i h Q) : WP 171 172 [some (zr (some (a 201 0))), some (zr (some (a 0 0))), some (zr (some (a 100 0))), some (zr (some (a 200 0))), some (zi i), o5, o6, o7, none] [] h Q := by
  obtain ⟨hi, hr, hm, o⟩ := id bg
  rw [b_171_172]
  refine ⟨ir i0 i1 L1 (by omega), o.ix (by omega) (by omega), ?_⟩
  simp only [ad_some, o.2.2.2.2]
  refine w_user bg iv (by omega) (by omega) _ ?_
  intro b g bg2 sa gc gs x
  obtain ⟨e0, e1, e2, e3⟩ := id sa
  simp only [kont_v, Nat.reduceAdd]
  rw [← e0, ← e1, ← e2, ← e3]
  obtain ⟨ib, hr2, hm2, o2⟩ := id bg2
  rw [b_171_183]
  refine ⟨ir i0 i1 L1 (by omega), o2.ix (by omega) (by omega), (kd_some _ _ _).mpr hm2.c0, ?_⟩
  simp only [ad_some, o2.2.2.2.2]
  refine r_user ib hm2 iv (by omega) (by omega) _ ?_
  intro c g2 hm3 th em
  obtain ⟨bg3, sa3⟩ := bg2.em hm3 em
  obtain ⟨f0, f1, f2, f3⟩ := id sa3
  have gc3 := em.2.2.1
  have gs3 := em.2.2.2.1
  simp only [kont_v, Nat.reduceAdd]
  rw [← f0, ← f1, ← f2, ← f3, b_171_195]
  refine ⟨(kd_some _ _ _).mpr hm3.c0, ?_⟩
  rw [b_90_0]
  refine ⟨(kd_some _ _ _).mpr hm3.c0, ?_⟩
  simp only [kont_v, Nat.reduceAdd, ad_some, th]
  rw [b_171_201, brt rfl, b_171_208]
  refine ⟨fun z => ?_, fun z => ?_⟩
  · rw [b_171_213]
    refine ⟨bg3.2.2.2.jx, ?_⟩
    have e := (bg2.emJ em).trans (x z)
    rw [xv, if_pos z, ad_some, e]
    rw [if_pos rfl, brt rfl, b_171_225]
    exact k c g2 _ _ _ _ bg3 (iv_user iv _) (by omega) (by omega)
  · rw [b_171_225]
    exact k c g2 _ _ _ _ bg3 (iv_user iv _) (by omega) (by omega)
theorem L_setRight (bg : BG L sc a S S h) (iv : Inv S) (rc : gC h + 100 ≤ MXC) (rs : gS h + 6000 ≤ MXS) (i0 : 0 ≤ i) (i1 : i + 6 ≤ L) (L1 : L ≤ 3072) (o5 o6 o7 : Option Zv) (k : KX L sc i h Q) : WP 171 228 [some (zr (some (a 201 0))), some (zr (some (a 0 0))), some (zr (some (a 100 0))), some (zr (some (a 200 0))), some (zi i), o5, o6, o7, none] [] h Q := by
  obtain ⟨hi, hr, hm, o⟩ := id bg
  rw [b_171_228]
  refine ⟨ir i0 i1 L1 (by omega), o.ix (by omega) (by omega), ir i0 i1 L1 (by omega), o.ix (by omega) (by omega), ir i0 i1 L1 (by omega), o.ix (by omega) (by omega), ?_⟩
  simp only [ad_some, o.2.2.2.2]
  refine w_setRight bg iv (by omega) (by omega) _ _ _ ?_
  intro b g bg2 sa gc gs x
  obtain ⟨e0, e1, e2, e3⟩ := id sa
  simp only [kont_v, Nat.reduceAdd]
  rw [← e0, ← e1, ← e2, ← e3]
  obtain ⟨ib, hr2, hm2, o2⟩ := id bg2
  rw [b_171_251]
  refine ⟨ir i0 i1 L1 (by omega), o2.ix (by omega) (by omega), ir i0 i1 L1 (by omega), o2.ix (by omega) (by omega), ir i0 i1 L1 (by omega), o2.ix (by omega) (by omega), (kd_some _ _ _).mpr hm2.c0, ?_⟩
  simp only [ad_some, o2.2.2.2.2]
  refine r_setRight ib hm2 iv (by omega) (by omega) _ _ _ ?_
  intro c g2 hm3 th em
  obtain ⟨bg3, sa3⟩ := bg2.em hm3 em
  obtain ⟨f0, f1, f2, f3⟩ := id sa3
  have gc3 := em.2.2.1
  have gs3 := em.2.2.2.1
  simp only [kont_v, Nat.reduceAdd]
  rw [← f0, ← f1, ← f2, ← f3, b_171_275]
  refine ⟨(kd_some _ _ _).mpr hm3.c0, ?_⟩
  rw [b_90_0]
  refine ⟨(kd_some _ _ _).mpr hm3.c0, ?_⟩
  simp only [kont_v, Nat.reduceAdd, ad_some, th]
  rw [b_171_281, brt rfl, b_171_288]
  refine ⟨fun z => ?_, fun z => ?_⟩
  · rw [b_171_293]
    refine ⟨bg3.2.2.2.jx, ?_⟩
    have e := (bg2.emJ em).trans (x z)
    rw [xv, if_pos z, ad_some, e]
    rw [if_pos rfl, brt rfl, b_171_305]
    exact k c g2 _ _ _ _ bg3 (iv_setRight iv _ _ _) (by omega) (by omega)
  · rw [b_171_305]
    exact k c g2 _ _ _ _ bg3 (iv_setRight iv _ _ _) (by omega) (by omega)
theorem L_insert (bg : BG L sc a S S h) (iv : Inv S) (rc : gC h + 100 ≤ MXC) (rs : gS h + 6000 ≤ MXS) (i0 : 0 ≤ i) (i1 : i + 6 ≤ L) (L1 : L ≤ 3072) (o5 o6 o7 : Option Zv) (k : KX L sc i h Q) : WP 171 308 [some (zr (some (a 201 0))), some (zr (some (a 0 0))), some (zr (some (a 100 0))), some (zr (some (a 200 0))), some (zi i), o5, o6, o7, none] [] h Q := by
  obtain ⟨hi, hr, hm, o⟩ := id bg
  rw [b_171_308]
  refine ⟨ir i0 i1 L1 (by omega), o.ix (by omega) (by omega), ir i0 i1 L1 (by omega), o.ix (by omega) (by omega), ir i0 i1 L1 (by omega), o.ix (by omega) (by omega), ir i0 i1 L1 (by omega), o.ix (by omega) (by omega), ?_⟩
  simp only [ad_some, o.2.2.2.2]
  refine w_insert bg iv (by omega) (by omega) _ _ _ _ ?_
  intro b g bg2 sa gc gs x
  obtain ⟨e0, e1, e2, e3⟩ := id sa
  simp only [kont_v, Nat.reduceAdd]
  rw [← e0, ← e1, ← e2, ← e3]
  obtain ⟨ib, hr2, hm2, o2⟩ := id bg2
  rw [b_171_337]
  refine ⟨ir i0 i1 L1 (by omega), o2.ix (by omega) (by omega), ir i0 i1 L1 (by omega), o2.ix (by omega) (by omega), ir i0 i1 L1 (by omega), o2.ix (by omega) (by omega), ir i0 i1 L1 (by omega), o2.ix (by omega) (by omega), (kd_some _ _ _).mpr hm2.c0, ?_⟩
  simp only [ad_some, o2.2.2.2.2]
  refine r_insert ib hm2 iv (by omega) (by omega) _ _ _ _ ?_
  intro c g2 hm3 th em
  obtain ⟨bg3, sa3⟩ := bg2.em hm3 em
  obtain ⟨f0, f1, f2, f3⟩ := id sa3
  have gc3 := em.2.2.1
  have gs3 := em.2.2.2.1
  simp only [kont_v, Nat.reduceAdd]
  rw [← f0, ← f1, ← f2, ← f3, b_171_367]
  refine ⟨(kd_some _ _ _).mpr hm3.c0, ?_⟩
  rw [b_90_0]
  refine ⟨(kd_some _ _ _).mpr hm3.c0, ?_⟩
  simp only [kont_v, Nat.reduceAdd, ad_some, th]
  rw [b_171_373, brt rfl, b_171_380]
  refine ⟨fun z => ?_, fun z => ?_⟩
  · rw [b_171_385]
    refine ⟨bg3.2.2.2.jx, ?_⟩
    have e := (bg2.emJ em).trans (x z)
    rw [xv, if_pos z, ad_some, e]
    rw [if_pos rfl, brt rfl, b_171_397]
    exact k c g2 _ _ _ _ bg3 (iv_insert iv _ _ _ _) (by omega) (by omega)
  · rw [b_171_397]
    exact k c g2 _ _ _ _ bg3 (iv_insert iv _ _ _ _) (by omega) (by omega)
theorem L_delete (bg : BG L sc a S S h) (iv : Inv S) (rc : gC h + 100 ≤ MXC) (rs : gS h + 6000 ≤ MXS) (i0 : 0 ≤ i) (i1 : i + 6 ≤ L) (L1 : L ≤ 3072) (o5 o6 o7 : Option Zv) (k : KX L sc i h Q) : WP 171 400 [some (zr (some (a 201 0))), some (zr (some (a 0 0))), some (zr (some (a 100 0))), some (zr (some (a 200 0))), some (zi i), o5, o6, o7, none] [] h Q := by
  obtain ⟨hi, hr, hm, o⟩ := id bg
  rw [b_171_400]
  refine ⟨ir i0 i1 L1 (by omega), o.ix (by omega) (by omega), ir i0 i1 L1 (by omega), o.ix (by omega) (by omega), ir i0 i1 L1 (by omega), o.ix (by omega) (by omega), ?_⟩
  simp only [ad_some, o.2.2.2.2]
  refine w_delete bg iv (by omega) (by omega) _ _ _ ?_
  intro b g bg2 sa gc gs x
  obtain ⟨e0, e1, e2, e3⟩ := id sa
  simp only [kont_v, Nat.reduceAdd]
  rw [← e0, ← e1, ← e2, ← e3]
  obtain ⟨ib, hr2, hm2, o2⟩ := id bg2
  rw [b_171_423]
  refine ⟨ir i0 i1 L1 (by omega), o2.ix (by omega) (by omega), ir i0 i1 L1 (by omega), o2.ix (by omega) (by omega), ir i0 i1 L1 (by omega), o2.ix (by omega) (by omega), (kd_some _ _ _).mpr hm2.c0, ?_⟩
  simp only [ad_some, o2.2.2.2.2]
  refine r_delete ib hm2 iv (by omega) (by omega) _ _ _ ?_
  intro c g2 hm3 th em
  obtain ⟨bg3, sa3⟩ := bg2.em hm3 em
  obtain ⟨f0, f1, f2, f3⟩ := id sa3
  have gc3 := em.2.2.1
  have gs3 := em.2.2.2.1
  simp only [kont_v, Nat.reduceAdd]
  rw [← f0, ← f1, ← f2, ← f3, b_171_447]
  refine ⟨(kd_some _ _ _).mpr hm3.c0, ?_⟩
  rw [b_90_0]
  refine ⟨(kd_some _ _ _).mpr hm3.c0, ?_⟩
  simp only [kont_v, Nat.reduceAdd, ad_some, th]
  rw [b_171_453, brt rfl, b_171_460]
  refine ⟨fun z => ?_, fun z => ?_⟩
  · rw [b_171_465]
    refine ⟨bg3.2.2.2.jx, ?_⟩
    have e := (bg2.emJ em).trans (x z)
    rw [xv, if_pos z, ad_some, e]
    rw [if_pos rfl, brt rfl, b_171_477]
    exact k c g2 _ _ _ _ bg3 (iv_delete iv _ _ _) (by omega) (by omega)
  · rw [b_171_477]
    exact k c g2 _ _ _ _ bg3 (iv_delete iv _ _ _) (by omega) (by omega)
theorem L_sign (bg : BG L sc a S S h) (iv : Inv S) (rc : gC h + 100 ≤ MXC) (rs : gS h + 6000 ≤ MXS) (i0 : 0 ≤ i) (i1 : i + 6 ≤ L) (L1 : L ≤ 3072) (o5 o6 o7 : Option Zv) (k : KX L sc i h Q) : WP 171 493 [some (zr (some (a 201 0))), some (zr (some (a 0 0))), some (zr (some (a 100 0))), some (zr (some (a 200 0))), some (zi i), o5, o6, o7, none] [] h Q := by
  obtain ⟨hi, hr, hm, o⟩ := id bg
  rw [b_171_493]
  refine ⟨ir i0 i1 L1 (by omega), o.ix (by omega) (by omega), ir i0 i1 L1 (by omega), o.ix (by omega) (by omega), ?_⟩
  simp only [ad_some, o.2.2.2.2]
  refine w_sign bg iv (by omega) (by omega) _ _ ?_
  intro b g bg2 sa gc gs x
  obtain ⟨e0, e1, e2, e3⟩ := id sa
  simp only [kont_v, Nat.reduceAdd]
  rw [← e0, ← e1, ← e2, ← e3]
  obtain ⟨ib, hr2, hm2, o2⟩ := id bg2
  rw [b_171_510]
  refine ⟨ir i0 i1 L1 (by omega), o2.ix (by omega) (by omega), ir i0 i1 L1 (by omega), o2.ix (by omega) (by omega), (kd_some _ _ _).mpr hm2.c0, ?_⟩
  simp only [ad_some, o2.2.2.2.2]
  refine r_sign ib hm2 iv (by omega) (by omega) _ _ ?_
  intro c g2 hm3 th em
  obtain ⟨bg3, sa3⟩ := bg2.em hm3 em
  obtain ⟨f0, f1, f2, f3⟩ := id sa3
  have gc3 := em.2.2.1
  have gs3 := em.2.2.2.1
  simp only [kont_v, Nat.reduceAdd]
  rw [← f0, ← f1, ← f2, ← f3, b_171_528]
  refine ⟨(kd_some _ _ _).mpr hm3.c0, ?_⟩
  rw [b_90_0]
  refine ⟨(kd_some _ _ _).mpr hm3.c0, ?_⟩
  simp only [kont_v, Nat.reduceAdd, ad_some, th]
  rw [b_171_534, brt rfl, b_171_541]
  refine ⟨fun z => ?_, fun z => ?_⟩
  · rw [b_171_546]
    refine ⟨bg3.2.2.2.jx, ?_⟩
    have e := (bg2.emJ em).trans (x z)
    rw [xv, if_pos z, ad_some, e]
    rw [if_pos rfl, brt rfl, b_171_558]
    exact k c g2 _ _ _ _ bg3 (iv_sign iv _ _) (by omega) (by omega)
  · rw [b_171_558]
    exact k c g2 _ _ _ _ bg3 (iv_sign iv _ _) (by omega) (by omega)
theorem L_now (bg : BG L sc a S S h) (iv : Inv S) (rc : gC h + 100 ≤ MXC) (rs : gS h + 6000 ≤ MXS) (i0 : 0 ≤ i) (i1 : i + 6 ≤ L) (L1 : L ≤ 3072) (o5 o6 o7 : Option Zv) (k : KX L sc i h Q) : WP 171 561 [some (zr (some (a 201 0))), some (zr (some (a 0 0))), some (zr (some (a 100 0))), some (zr (some (a 200 0))), some (zi i), o5, o6, o7, none] [] h Q := by
  obtain ⟨hi, hr, hm, o⟩ := id bg
  rw [b_171_561]
  refine ⟨ir i0 i1 L1 (by omega), o.ix (by omega) (by omega), ir i0 i1 L1 (by omega), o.ix (by omega) (by omega), ?_⟩
  simp only [ad_some, o.2.2.2.2]
  refine w_now bg iv (by omega) (by omega) _ _ ?_
  intro b g bg2 sa gc gs x
  obtain ⟨e0, e1, e2, e3⟩ := id sa
  simp only [kont_v, Nat.reduceAdd]
  rw [← e0, ← e1, ← e2, ← e3]
  obtain ⟨ib, hr2, hm2, o2⟩ := id bg2
  rw [b_171_578]
  refine ⟨ir i0 i1 L1 (by omega), o2.ix (by omega) (by omega), ir i0 i1 L1 (by omega), o2.ix (by omega) (by omega), (kd_some _ _ _).mpr hm2.c0, ?_⟩
  simp only [ad_some, o2.2.2.2.2]
  refine r_now ib hm2 iv (by omega) (by omega) _ _ ?_
  intro c g2 hm3 th em
  obtain ⟨bg3, sa3⟩ := bg2.em hm3 em
  obtain ⟨f0, f1, f2, f3⟩ := id sa3
  have gc3 := em.2.2.1
  have gs3 := em.2.2.2.1
  simp only [kont_v, Nat.reduceAdd]
  rw [← f0, ← f1, ← f2, ← f3, b_171_596]
  refine ⟨(kd_some _ _ _).mpr hm3.c0, ?_⟩
  rw [b_90_0]
  refine ⟨(kd_some _ _ _).mpr hm3.c0, ?_⟩
  simp only [kont_v, Nat.reduceAdd, ad_some, th]
  rw [b_171_602, brt rfl, b_171_609]
  refine ⟨fun z => ?_, fun z => ?_⟩
  · rw [b_171_614]
    refine ⟨bg3.2.2.2.jx, ?_⟩
    have e := (bg2.emJ em).trans (x z)
    rw [xv, if_pos z, ad_some, e]
    rw [if_pos rfl, brt rfl, b_171_626]
    exact k c g2 _ _ _ _ bg3 (iv_now iv _ _) (by omega) (by omega)
  · rw [b_171_626]
    exact k c g2 _ _ _ _ bg3 (iv_now iv _ _) (by omega) (by omega)
theorem L_note (bg : BG L sc a S S h) (iv : Inv S) (rc : gC h + 100 ≤ MXC) (rs : gS h + 6000 ≤ MXS) (i0 : 0 ≤ i) (i1 : i + 6 ≤ L) (L1 : L ≤ 3072) (o5 o6 o7 : Option Zv) (k : KX L sc i h Q) : WP 171 642 [some (zr (some (a 201 0))), some (zr (some (a 0 0))), some (zr (some (a 100 0))), some (zr (some (a 200 0))), some (zi i), o5, o6, o7, none] [] h Q := by
  obtain ⟨hi, hr, hm, o⟩ := id bg
  rw [b_171_642]
  refine ⟨ir i0 i1 L1 (by omega), o.ix (by omega) (by omega), ir i0 i1 L1 (by omega), o.ix (by omega) (by omega), ir i0 i1 L1 (by omega), o.ix (by omega) (by omega), ir i0 i1 L1 (by omega), o.ix (by omega) (by omega), ir i0 i1 L1 (by omega), o.ix (by omega) (by omega), ?_⟩
  simp only [ad_some, o.2.2.2.2]
  refine w_note bg iv (by omega) (by omega) _ _ _ _ _ ?_
  intro b g bg2 sa gc gs x
  obtain ⟨e0, e1, e2, e3⟩ := id sa
  simp only [kont_v, Nat.reduceAdd]
  rw [← e0, ← e1, ← e2, ← e3]
  obtain ⟨ib, hr2, hm2, o2⟩ := id bg2
  rw [b_171_677]
  refine ⟨ir i0 i1 L1 (by omega), o2.ix (by omega) (by omega), ir i0 i1 L1 (by omega), o2.ix (by omega) (by omega), ir i0 i1 L1 (by omega), o2.ix (by omega) (by omega), ir i0 i1 L1 (by omega), o2.ix (by omega) (by omega), ir i0 i1 L1 (by omega), o2.ix (by omega) (by omega), (kd_some _ _ _).mpr hm2.c0, ?_⟩
  simp only [ad_some, o2.2.2.2.2]
  refine r_note ib hm2 iv (by omega) (by omega) _ _ _ _ _ ?_
  intro c g2 hm3 th em
  obtain ⟨bg3, sa3⟩ := bg2.em hm3 em
  obtain ⟨f0, f1, f2, f3⟩ := id sa3
  have gc3 := em.2.2.1
  have gs3 := em.2.2.2.1
  simp only [kont_v, Nat.reduceAdd]
  rw [← f0, ← f1, ← f2, ← f3, b_171_713]
  refine ⟨(kd_some _ _ _).mpr hm3.c0, ?_⟩
  rw [b_90_0]
  refine ⟨(kd_some _ _ _).mpr hm3.c0, ?_⟩
  simp only [kont_v, Nat.reduceAdd, ad_some, th]
  rw [b_171_719, brt rfl, b_171_726]
  refine ⟨fun z => ?_, fun z => ?_⟩
  · rw [b_171_731]
    refine ⟨bg3.2.2.2.jx, ?_⟩
    have e := (bg2.emJ em).trans (x z)
    rw [xv, if_pos z, ad_some, e]
    rw [if_pos rfl, brt rfl, b_171_743]
    exact k c g2 _ _ _ _ bg3 (iv_note iv _ _ _ _ _) (by omega) (by omega)
  · rw [b_171_743]
    exact k c g2 _ _ _ _ bg3 (iv_note iv _ _ _ _ _) (by omega) (by omega)
theorem L_reply (bg : BG L sc a S S h) (iv : Inv S) (rc : gC h + 100 ≤ MXC) (rs : gS h + 6000 ≤ MXS) (i0 : 0 ≤ i) (i1 : i + 6 ≤ L) (L1 : L ≤ 3072) (o5 o6 o7 : Option Zv) (k : KX L sc i h Q) : WP 171 746 [some (zr (some (a 201 0))), some (zr (some (a 0 0))), some (zr (some (a 100 0))), some (zr (some (a 200 0))), some (zi i), o5, o6, o7, none] [] h Q := by
  obtain ⟨hi, hr, hm, o⟩ := id bg
  rw [b_171_746]
  refine ⟨ir i0 i1 L1 (by omega), o.ix (by omega) (by omega), ir i0 i1 L1 (by omega), o.ix (by omega) (by omega), ir i0 i1 L1 (by omega), o.ix (by omega) (by omega), ?_⟩
  simp only [ad_some, o.2.2.2.2]
  refine w_reply bg iv (by omega) (by omega) _ _ _ ?_
  intro b g bg2 sa gc gs x
  obtain ⟨e0, e1, e2, e3⟩ := id sa
  simp only [kont_v, Nat.reduceAdd]
  rw [← e0, ← e1, ← e2, ← e3]
  obtain ⟨ib, hr2, hm2, o2⟩ := id bg2
  rw [b_171_769]
  refine ⟨ir i0 i1 L1 (by omega), o2.ix (by omega) (by omega), ir i0 i1 L1 (by omega), o2.ix (by omega) (by omega), ir i0 i1 L1 (by omega), o2.ix (by omega) (by omega), (kd_some _ _ _).mpr hm2.c0, ?_⟩
  simp only [ad_some, o2.2.2.2.2]
  refine r_reply ib hm2 iv (by omega) (by omega) _ _ _ ?_
  intro c g2 hm3 th em
  obtain ⟨bg3, sa3⟩ := bg2.em hm3 em
  obtain ⟨f0, f1, f2, f3⟩ := id sa3
  have gc3 := em.2.2.1
  have gs3 := em.2.2.2.1
  simp only [kont_v, Nat.reduceAdd]
  rw [← f0, ← f1, ← f2, ← f3, b_171_793]
  refine ⟨(kd_some _ _ _).mpr hm3.c0, ?_⟩
  rw [b_90_0]
  refine ⟨(kd_some _ _ _).mpr hm3.c0, ?_⟩
  simp only [kont_v, Nat.reduceAdd, ad_some, th]
  rw [b_171_799, brt rfl, b_171_806]
  refine ⟨fun z => ?_, fun z => ?_⟩
  · rw [b_171_811]
    refine ⟨bg3.2.2.2.jx, ?_⟩
    have e := (bg2.emJ em).trans (x z)
    rw [xv, if_pos z, ad_some, e]
    rw [if_pos rfl, brt rfl, b_171_823]
    exact k c g2 _ _ _ _ bg3 (iv_reply iv _ _ _) (by omega) (by omega)
  · rw [b_171_823]
    exact k c g2 _ _ _ _ bg3 (iv_reply iv _ _ _) (by omega) (by omega)
theorem L_settle (bg : BG L sc a S S h) (iv : Inv S) (rc : gC h + 100 ≤ MXC) (rs : gS h + 6000 ≤ MXS) (i0 : 0 ≤ i) (i1 : i + 6 ≤ L) (L1 : L ≤ 3072) (o5 o6 o7 : Option Zv) (k : KX L sc i h Q) : WP 171 826 [some (zr (some (a 201 0))), some (zr (some (a 0 0))), some (zr (some (a 100 0))), some (zr (some (a 200 0))), some (zi i), o5, o6, o7, none] [] h Q := by
  obtain ⟨hi, hr, hm, o⟩ := id bg
  rw [b_171_826]
  refine ⟨ir i0 i1 L1 (by omega), o.ix (by omega) (by omega), ir i0 i1 L1 (by omega), o.ix (by omega) (by omega), ir i0 i1 L1 (by omega), o.ix (by omega) (by omega), ?_⟩
  simp only [ad_some, o.2.2.2.2]
  refine ⟨fun z3 => ?_, fun z3 => ?_⟩
  · rw [b_171_852, b_171_853]
    refine w_settle bg iv (by omega) (by omega) _ _ 0 (.inl rfl) ?_
    intro b g bg2 sa gc gs x
    obtain ⟨e0, e1, e2, e3⟩ := id sa
    simp only [kont_v, Nat.reduceAdd]
    rw [← e0, ← e1, ← e2, ← e3]
    obtain ⟨ib, hr2, hm2, o2⟩ := id bg2
    rw [b_171_857]
    refine ⟨ir i0 i1 L1 (by omega), o2.ix (by omega) (by omega), ir i0 i1 L1 (by omega), o2.ix (by omega) (by omega), ir i0 i1 L1 (by omega), o2.ix (by omega) (by omega), ?_⟩
    simp only [ad_some, o2.2.2.2.2]
    rw [brt z3, b_171_885, b_171_886]
    refine ⟨(kd_some _ _ _).mpr hm2.c0, ?_⟩
    refine r_settle ib hm2 iv (by omega) (by omega) _ _ 0 (.inl rfl) ?_
    intro c g2 hm3 th em
    obtain ⟨bg3, sa3⟩ := bg2.em hm3 em
    obtain ⟨f0, f1, f2, f3⟩ := id sa3
    have gc3 := em.2.2.1
    have gs3 := em.2.2.2.1
    simp only [kont_v, Nat.reduceAdd]
    rw [← f0, ← f1, ← f2, ← f3, b_171_889]
    refine ⟨(kd_some _ _ _).mpr hm3.c0, ?_⟩
    rw [b_90_0]
    refine ⟨(kd_some _ _ _).mpr hm3.c0, ?_⟩
    simp only [kont_v, Nat.reduceAdd, ad_some, th]
    rw [b_171_895, brt rfl, b_171_902]
    refine ⟨fun z => ?_, fun z => ?_⟩
    · rw [b_171_907]
      refine ⟨bg3.2.2.2.jx, ?_⟩
      have e := (bg2.emJ em).trans (x z)
      rw [xv, if_pos z, ad_some, e]
      refine ⟨fun y => ?_, fun y => ?_⟩
      · rw [b_171_919, b_171_920, if_pos y, if_pos rfl, brt rfl, b_171_926]
        exact k c g2 _ _ _ _ bg3 (iv_settle iv _ _ 0 (.inl rfl)) (by omega) (by omega)
      · rw [b_171_915, b_171_920, if_neg y, if_pos rfl, brt rfl, b_171_926]
        exact k c g2 _ _ _ _ bg3 (iv_settle iv _ _ 0 (.inl rfl)) (by omega) (by omega)
    · rw [b_171_926]
      exact k c g2 _ _ _ _ bg3 (iv_settle iv _ _ 0 (.inl rfl)) (by omega) (by omega)
  · rw [b_171_848, b_171_853]
    refine w_settle bg iv (by omega) (by omega) _ _ 1 (.inr rfl) ?_
    intro b g bg2 sa gc gs x
    obtain ⟨e0, e1, e2, e3⟩ := id sa
    simp only [kont_v, Nat.reduceAdd]
    rw [← e0, ← e1, ← e2, ← e3]
    obtain ⟨ib, hr2, hm2, o2⟩ := id bg2
    rw [b_171_857]
    refine ⟨ir i0 i1 L1 (by omega), o2.ix (by omega) (by omega), ir i0 i1 L1 (by omega), o2.ix (by omega) (by omega), ir i0 i1 L1 (by omega), o2.ix (by omega) (by omega), ?_⟩
    simp only [ad_some, o2.2.2.2.2]
    rw [brf z3, b_171_881, b_171_886]
    refine ⟨(kd_some _ _ _).mpr hm2.c0, ?_⟩
    refine r_settle ib hm2 iv (by omega) (by omega) _ _ 1 (.inr rfl) ?_
    intro c g2 hm3 th em
    obtain ⟨bg3, sa3⟩ := bg2.em hm3 em
    obtain ⟨f0, f1, f2, f3⟩ := id sa3
    have gc3 := em.2.2.1
    have gs3 := em.2.2.2.1
    simp only [kont_v, Nat.reduceAdd]
    rw [← f0, ← f1, ← f2, ← f3, b_171_889]
    refine ⟨(kd_some _ _ _).mpr hm3.c0, ?_⟩
    rw [b_90_0]
    refine ⟨(kd_some _ _ _).mpr hm3.c0, ?_⟩
    simp only [kont_v, Nat.reduceAdd, ad_some, th]
    rw [b_171_895, brt rfl, b_171_902]
    refine ⟨fun z => ?_, fun z => ?_⟩
    · rw [b_171_907]
      refine ⟨bg3.2.2.2.jx, ?_⟩
      have e := (bg2.emJ em).trans (x z)
      rw [xv, if_pos z, ad_some, e]
      refine ⟨fun y => ?_, fun y => ?_⟩
      · rw [b_171_919, b_171_920, if_pos y, if_pos rfl, brt rfl, b_171_926]
        exact k c g2 _ _ _ _ bg3 (iv_settle iv _ _ 1 (.inr rfl)) (by omega) (by omega)
      · rw [b_171_915, b_171_920, if_neg y, if_pos rfl, brt rfl, b_171_926]
        exact k c g2 _ _ _ _ bg3 (iv_settle iv _ _ 1 (.inr rfl)) (by omega) (by omega)
    · rw [b_171_926]
      exact k c g2 _ _ _ _ bg3 (iv_settle iv _ _ 1 (.inr rfl)) (by omega) (by omega)
theorem L_remove (bg : BG L sc a S S h) (iv : Inv S) (rc : gC h + 100 ≤ MXC) (rs : gS h + 6000 ≤ MXS) (i0 : 0 ≤ i) (i1 : i + 6 ≤ L) (L1 : L ≤ 3072) (o5 o6 o7 : Option Zv) (k : KX L sc i h Q) : WP 171 929 [some (zr (some (a 201 0))), some (zr (some (a 0 0))), some (zr (some (a 100 0))), some (zr (some (a 200 0))), some (zi i), o5, o6, o7, none] [] h Q := by
  obtain ⟨hi, hr, hm, o⟩ := id bg
  rw [b_171_929]
  refine ⟨ir i0 i1 L1 (by omega), o.ix (by omega) (by omega), ir i0 i1 L1 (by omega), o.ix (by omega) (by omega), ?_⟩
  simp only [ad_some, o.2.2.2.2]
  refine w_remove bg iv (by omega) (by omega) _ _ ?_
  intro b g bg2 sa gc gs x
  obtain ⟨e0, e1, e2, e3⟩ := id sa
  simp only [kont_v, Nat.reduceAdd]
  rw [← e0, ← e1, ← e2, ← e3]
  obtain ⟨ib, hr2, hm2, o2⟩ := id bg2
  rw [b_171_946]
  refine ⟨ir i0 i1 L1 (by omega), o2.ix (by omega) (by omega), ir i0 i1 L1 (by omega), o2.ix (by omega) (by omega), (kd_some _ _ _).mpr hm2.c0, ?_⟩
  simp only [ad_some, o2.2.2.2.2]
  refine r_remove ib hm2 iv (by omega) (by omega) _ _ ?_
  intro c g2 hm3 th em
  obtain ⟨bg3, sa3⟩ := bg2.em hm3 em
  obtain ⟨f0, f1, f2, f3⟩ := id sa3
  have gc3 := em.2.2.1
  have gs3 := em.2.2.2.1
  simp only [kont_v, Nat.reduceAdd]
  rw [← f0, ← f1, ← f2, ← f3, b_171_964]
  refine ⟨(kd_some _ _ _).mpr hm3.c0, ?_⟩
  rw [b_90_0]
  refine ⟨(kd_some _ _ _).mpr hm3.c0, ?_⟩
  simp only [kont_v, Nat.reduceAdd, ad_some, th]
  rw [b_171_970, brt rfl, b_171_977]
  refine ⟨fun z => ?_, fun z => ?_⟩
  · rw [b_171_982]
    refine ⟨bg3.2.2.2.jx, ?_⟩
    have e := (bg2.emJ em).trans (x z)
    rw [xv, if_pos z, ad_some, e]
    rw [if_pos rfl, brt rfl, b_171_994]
    exact k c g2 _ _ _ _ bg3 (iv_remove iv _ _) (by omega) (by omega)
  · rw [b_171_994]
    exact k c g2 _ _ _ _ bg3 (iv_remove iv _ _) (by omega) (by omega)
theorem L_propose (bg : BG L sc a S S h) (iv : Inv S) (rc : gC h + 100 ≤ MXC) (rs : gS h + 6000 ≤ MXS) (i0 : 0 ≤ i) (i1 : i + 6 ≤ L) (L1 : L ≤ 3072) (o5 o6 o7 : Option Zv) (k : KX L sc i h Q) : WP 171 997 [some (zr (some (a 201 0))), some (zr (some (a 0 0))), some (zr (some (a 100 0))), some (zr (some (a 200 0))), some (zi i), o5, o6, o7, none] [] h Q := by
  obtain ⟨hi, hr, hm, o⟩ := id bg
  rw [b_171_997]
  refine ⟨ir i0 i1 L1 (by omega), o.ix (by omega) (by omega), ir i0 i1 L1 (by omega), o.ix (by omega) (by omega), ir i0 i1 L1 (by omega), o.ix (by omega) (by omega), ir i0 i1 L1 (by omega), o.ix (by omega) (by omega), ?_⟩
  simp only [ad_some, o.2.2.2.2]
  refine w_propose bg iv (by omega) (by omega) _ _ _ _ ?_
  intro b g bg2 sa gc gs x
  obtain ⟨e0, e1, e2, e3⟩ := id sa
  simp only [kont_v, Nat.reduceAdd]
  rw [← e0, ← e1, ← e2, ← e3]
  obtain ⟨ib, hr2, hm2, o2⟩ := id bg2
  rw [b_171_1026]
  refine ⟨ir i0 i1 L1 (by omega), o2.ix (by omega) (by omega), ir i0 i1 L1 (by omega), o2.ix (by omega) (by omega), ir i0 i1 L1 (by omega), o2.ix (by omega) (by omega), ir i0 i1 L1 (by omega), o2.ix (by omega) (by omega), (kd_some _ _ _).mpr hm2.c0, ?_⟩
  simp only [ad_some, o2.2.2.2.2]
  refine r_propose ib hm2 iv (by omega) (by omega) _ _ _ _ ?_
  intro c g2 hm3 th em
  obtain ⟨bg3, sa3⟩ := bg2.em hm3 em
  obtain ⟨f0, f1, f2, f3⟩ := id sa3
  have gc3 := em.2.2.1
  have gs3 := em.2.2.2.1
  simp only [kont_v, Nat.reduceAdd]
  rw [← f0, ← f1, ← f2, ← f3, b_171_1056]
  refine ⟨(kd_some _ _ _).mpr hm3.c0, ?_⟩
  rw [b_90_0]
  refine ⟨(kd_some _ _ _).mpr hm3.c0, ?_⟩
  simp only [kont_v, Nat.reduceAdd, ad_some, th]
  rw [b_171_1062, brt rfl, b_171_1069]
  refine ⟨fun z => ?_, fun z => ?_⟩
  · rw [b_171_1074]
    refine ⟨bg3.2.2.2.jx, ?_⟩
    have e := (bg2.emJ em).trans (x z)
    rw [xv, if_pos z, ad_some, e]
    rw [if_pos rfl, brt rfl, b_171_1086]
    exact k c g2 _ _ _ _ bg3 (iv_propose iv _ _ _ _) (by omega) (by omega)
  · rw [b_171_1086]
    exact k c g2 _ _ _ _ bg3 (iv_propose iv _ _ _ _) (by omega) (by omega)
theorem L_take (bg : BG L sc a S S h) (iv : Inv S) (rc : gC h + 100 ≤ MXC) (rs : gS h + 6000 ≤ MXS) (i0 : 0 ≤ i) (i1 : i + 6 ≤ L) (L1 : L ≤ 3072) (o5 o6 o7 : Option Zv) (k : KX L sc i h Q) : WP 171 1089 [some (zr (some (a 201 0))), some (zr (some (a 0 0))), some (zr (some (a 100 0))), some (zr (some (a 200 0))), some (zi i), o5, o6, o7, none] [] h Q := by
  obtain ⟨hi, hr, hm, o⟩ := id bg
  rw [b_171_1089]
  refine ⟨ir i0 i1 L1 (by omega), o.ix (by omega) (by omega), ir i0 i1 L1 (by omega), o.ix (by omega) (by omega), ?_⟩
  simp only [ad_some, o.2.2.2.2]
  refine w_take bg iv (by omega) (by omega) _ _ ?_
  intro b g bg2 sa gc gs x
  obtain ⟨e0, e1, e2, e3⟩ := id sa
  simp only [kont_v, Nat.reduceAdd]
  rw [← e0, ← e1, ← e2, ← e3]
  obtain ⟨ib, hr2, hm2, o2⟩ := id bg2
  rw [b_171_1106]
  refine ⟨ir i0 i1 L1 (by omega), o2.ix (by omega) (by omega), ir i0 i1 L1 (by omega), o2.ix (by omega) (by omega), (kd_some _ _ _).mpr hm2.c0, ?_⟩
  simp only [ad_some, o2.2.2.2.2]
  refine r_take ib hm2 iv (by omega) (by omega) _ _ ?_
  intro c g2 hm3 th em
  obtain ⟨bg3, sa3⟩ := bg2.em hm3 em
  obtain ⟨f0, f1, f2, f3⟩ := id sa3
  have gc3 := em.2.2.1
  have gs3 := em.2.2.2.1
  simp only [kont_v, Nat.reduceAdd]
  rw [← f0, ← f1, ← f2, ← f3, b_171_1124]
  refine ⟨(kd_some _ _ _).mpr hm3.c0, ?_⟩
  rw [b_90_0]
  refine ⟨(kd_some _ _ _).mpr hm3.c0, ?_⟩
  simp only [kont_v, Nat.reduceAdd, ad_some, th]
  rw [b_171_1130, brt rfl, b_171_1137]
  refine ⟨fun z => ?_, fun z => ?_⟩
  · rw [b_171_1142]
    refine ⟨bg3.2.2.2.jx, ?_⟩
    have e := (bg2.emJ em).trans (x z)
    rw [xv, if_pos z, ad_some, e]
    rw [if_pos rfl, brt rfl, b_171_1154]
    exact k c g2 _ _ _ _ bg3 (iv_take iv _ _) (by omega) (by omega)
  · rw [b_171_1154]
    exact k c g2 _ _ _ _ bg3 (iv_take iv _ _) (by omega) (by omega)
theorem L_many (bg : BG L sc a S S h) (iv : Inv S) (rc : gC h + 100 ≤ MXC) (rs : gS h + 6000 ≤ MXS) (i0 : 0 ≤ i) (i1 : i + 6 ≤ L) (L1 : L ≤ 3072) (o5 o6 o7 : Option Zv) (k : KX L sc i h Q) : WP 171 1170 [some (zr (some (a 201 0))), some (zr (some (a 0 0))), some (zr (some (a 100 0))), some (zr (some (a 200 0))), some (zi i), o5, o6, o7, none] [] h Q := by
  obtain ⟨hi, hr, hm, o⟩ := id bg
  rw [b_171_1170]
  refine ⟨ir i0 i1 L1 (by omega), o.ix (by omega) (by omega), ?_⟩
  simp only [ad_some, o.2.2.2.2]
  refine w_many bg iv (by omega) (by omega) _ ?_
  intro b g bg2 sa gc gs x
  obtain ⟨e0, e1, e2, e3⟩ := id sa
  simp only [kont_v, Nat.reduceAdd]
  rw [← e0, ← e1, ← e2, ← e3]
  obtain ⟨ib, hr2, hm2, o2⟩ := id bg2
  rw [b_171_1181]
  refine ⟨ir i0 i1 L1 (by omega), o2.ix (by omega) (by omega), (kd_some _ _ _).mpr hm2.c0, ?_⟩
  simp only [ad_some, o2.2.2.2.2]
  refine r_many ib hm2 iv (by omega) (by omega) _ ?_
  intro c g2 hm3 th em
  obtain ⟨bg3, sa3⟩ := bg2.em hm3 em
  obtain ⟨f0, f1, f2, f3⟩ := id sa3
  have gc3 := em.2.2.1
  have gs3 := em.2.2.2.1
  simp only [kont_v, Nat.reduceAdd]
  rw [← f0, ← f1, ← f2, ← f3, b_171_1193]
  refine ⟨(kd_some _ _ _).mpr hm3.c0, ?_⟩
  rw [b_90_0]
  refine ⟨(kd_some _ _ _).mpr hm3.c0, ?_⟩
  simp only [kont_v, Nat.reduceAdd, ad_some, th]
  rw [b_171_1199, brt rfl, b_171_1206]
  refine ⟨fun z => ?_, fun z => ?_⟩
  · rw [b_171_1211]
    refine ⟨bg3.2.2.2.jx, ?_⟩
    have e := (bg2.emJ em).trans (x z)
    rw [xv, if_pos z, ad_some, e]
    rw [if_pos rfl, brt rfl, b_171_1223]
    exact k c g2 _ _ _ _ bg3 (iv_many iv _) (by omega) (by omega)
  · rw [b_171_1223]
    exact k c g2 _ _ _ _ bg3 (iv_many iv _) (by omega) (by omega)
theorem L_right (bg : BG L sc a S S h) (iv : Inv S) (rc : gC h + 100 ≤ MXC) (rs : gS h + 6000 ≤ MXS) (i0 : 0 ≤ i) (i1 : i + 6 ≤ L) (L1 : L ≤ 3072) (o5 o6 o7 : Option Zv) (k : KX L sc i h Q) : WP 171 1226 [some (zr (some (a 201 0))), some (zr (some (a 0 0))), some (zr (some (a 100 0))), some (zr (some (a 200 0))), some (zi i), o5, o6, o7, none] [] h Q := by
  obtain ⟨hi, hr, hm, o⟩ := id bg
  rw [b_171_1226]
  refine ⟨ir i0 i1 L1 (by omega), o.ix (by omega) (by omega), ?_⟩
  simp only [ad_some, o.2.2.2.2]
  refine w_right bg iv (by omega) (by omega) _ ?_
  intro b g bg2 sa gc gs x
  obtain ⟨e0, e1, e2, e3⟩ := id sa
  simp only [kont_v, Nat.reduceAdd]
  rw [← e0, ← e1, ← e2, ← e3]
  obtain ⟨ib, hr2, hm2, o2⟩ := id bg2
  rw [b_171_1237]
  refine ⟨ir i0 i1 L1 (by omega), o2.ix (by omega) (by omega), (kd_some _ _ _).mpr hm2.c0, ?_⟩
  simp only [ad_some, o2.2.2.2.2]
  refine r_right ib hm2 iv (by omega) (by omega) _ ?_
  intro c g2 hm3 th em
  obtain ⟨bg3, sa3⟩ := bg2.em hm3 em
  obtain ⟨f0, f1, f2, f3⟩ := id sa3
  have gc3 := em.2.2.1
  have gs3 := em.2.2.2.1
  simp only [kont_v, Nat.reduceAdd]
  rw [← f0, ← f1, ← f2, ← f3, b_171_1249]
  refine ⟨(kd_some _ _ _).mpr hm3.c0, ?_⟩
  rw [b_90_0]
  refine ⟨(kd_some _ _ _).mpr hm3.c0, ?_⟩
  simp only [kont_v, Nat.reduceAdd, ad_some, th]
  rw [b_171_1255, brt rfl, b_171_1262]
  refine ⟨fun z => ?_, fun z => ?_⟩
  · rw [b_171_1267]
    refine ⟨bg3.2.2.2.jx, ?_⟩
    have e := (bg2.emJ em).trans (x z)
    rw [xv, if_pos z, ad_some, e]
    rw [if_pos rfl, brt rfl, b_171_1279]
    exact k c g2 _ _ _ _ bg3 (iv_right iv _) (by omega) (by omega)
  · rw [b_171_1279]
    exact k c g2 _ _ _ _ bg3 (iv_right iv _) (by omega) (by omega)
theorem L_ofNote (bg : BG L sc a S S h) (iv : Inv S) (rc : gC h + 100 ≤ MXC) (rs : gS h + 6000 ≤ MXS) (i0 : 0 ≤ i) (i1 : i + 6 ≤ L) (L1 : L ≤ 3072) (o5 o6 o7 : Option Zv) (k : KX L sc i h Q) : WP 171 1282 [some (zr (some (a 201 0))), some (zr (some (a 0 0))), some (zr (some (a 100 0))), some (zr (some (a 200 0))), some (zi i), o5, o6, o7, none] [] h Q := by
  obtain ⟨hi, hr, hm, o⟩ := id bg
  rw [b_171_1282]
  refine ⟨ir i0 i1 L1 (by omega), o.ix (by omega) (by omega), ir i0 i1 L1 (by omega), o.ix (by omega) (by omega), ?_⟩
  simp only [ad_some, o.2.2.2.2]
  refine w_ofNote bg iv (by omega) (by omega) _ _ ?_
  intro b g bg2 sa gc gs x
  obtain ⟨e0, e1, e2, e3⟩ := id sa
  simp only [kont_v, Nat.reduceAdd]
  rw [← e0, ← e1, ← e2, ← e3]
  obtain ⟨ib, hr2, hm2, o2⟩ := id bg2
  rw [b_171_1299]
  refine ⟨ir i0 i1 L1 (by omega), o2.ix (by omega) (by omega), ir i0 i1 L1 (by omega), o2.ix (by omega) (by omega), (kd_some _ _ _).mpr hm2.c0, ?_⟩
  simp only [ad_some, o2.2.2.2.2]
  refine r_ofNote ib hm2 iv (by omega) (by omega) _ _ ?_
  intro c g2 hm3 th em
  obtain ⟨bg3, sa3⟩ := bg2.em hm3 em
  obtain ⟨f0, f1, f2, f3⟩ := id sa3
  have gc3 := em.2.2.1
  have gs3 := em.2.2.2.1
  simp only [kont_v, Nat.reduceAdd]
  rw [← f0, ← f1, ← f2, ← f3, b_171_1317]
  refine ⟨(kd_some _ _ _).mpr hm3.c0, ?_⟩
  rw [b_90_0]
  refine ⟨(kd_some _ _ _).mpr hm3.c0, ?_⟩
  simp only [kont_v, Nat.reduceAdd, ad_some, th]
  rw [b_171_1323, brt rfl, b_171_1330]
  refine ⟨fun z => ?_, fun z => ?_⟩
  · rw [b_171_1335]
    refine ⟨bg3.2.2.2.jx, ?_⟩
    have e := (bg2.emJ em).trans (x z)
    rw [xv, if_pos z, ad_some, e]
    rw [if_pos rfl, brt rfl, b_171_1347]
    exact k c g2 _ _ _ _ bg3 (iv_ofNote iv _ _) (by omega) (by omega)
  · rw [b_171_1347]
    exact k c g2 _ _ _ _ bg3 (iv_ofNote iv _ _) (by omega) (by omega)
theorem L_quote (bg : BG L sc a S S h) (iv : Inv S) (rc : gC h + 100 ≤ MXC) (rs : gS h + 6000 ≤ MXS) (i0 : 0 ≤ i) (i1 : i + 6 ≤ L) (L1 : L ≤ 3072) (o5 o6 o7 : Option Zv) (k : KX L sc i h Q) : WP 171 1350 [some (zr (some (a 201 0))), some (zr (some (a 0 0))), some (zr (some (a 100 0))), some (zr (some (a 200 0))), some (zi i), o5, o6, o7, none] [] h Q := by
  obtain ⟨hi, hr, hm, o⟩ := id bg
  rw [b_171_1350]
  refine ⟨ir i0 i1 L1 (by omega), o.ix (by omega) (by omega), ir i0 i1 L1 (by omega), o.ix (by omega) (by omega), ?_⟩
  simp only [ad_some, o.2.2.2.2]
  refine w_quote bg iv (by omega) (by omega) _ _ ?_
  intro b g bg2 sa gc gs x
  obtain ⟨e0, e1, e2, e3⟩ := id sa
  simp only [kont_v, Nat.reduceAdd]
  rw [← e0, ← e1, ← e2, ← e3]
  obtain ⟨ib, hr2, hm2, o2⟩ := id bg2
  rw [b_171_1367]
  refine ⟨ir i0 i1 L1 (by omega), o2.ix (by omega) (by omega), ir i0 i1 L1 (by omega), o2.ix (by omega) (by omega), (kd_some _ _ _).mpr hm2.c0, ?_⟩
  simp only [ad_some, o2.2.2.2.2]
  refine r_quote ib hm2 iv (by omega) (by omega) _ _ ?_
  intro c g2 hm3 th em
  obtain ⟨bg3, sa3⟩ := bg2.em hm3 em
  obtain ⟨f0, f1, f2, f3⟩ := id sa3
  have gc3 := em.2.2.1
  have gs3 := em.2.2.2.1
  simp only [kont_v, Nat.reduceAdd]
  rw [← f0, ← f1, ← f2, ← f3, b_171_1385]
  refine ⟨(kd_some _ _ _).mpr hm3.c0, ?_⟩
  rw [b_90_0]
  refine ⟨(kd_some _ _ _).mpr hm3.c0, ?_⟩
  simp only [kont_v, Nat.reduceAdd, ad_some, th]
  rw [b_171_1391, brt rfl, b_171_1398]
  refine ⟨fun z => ?_, fun z => ?_⟩
  · rw [b_171_1403]
    refine ⟨bg3.2.2.2.jx, ?_⟩
    have e := (bg2.emJ em).trans (x z)
    rw [xv, if_pos z, ad_some, e]
    rw [if_pos rfl, brt rfl, b_171_1415]
    exact k c g2 _ _ _ _ bg3 (iv_quote iv _ _) (by omega) (by omega)
  · rw [b_171_1415]
    exact k c g2 _ _ _ _ bg3 (iv_quote iv _ _) (by omega) (by omega)
theorem L_sees (bg : BG L sc a S S h) (iv : Inv S) (rc : gC h + 100 ≤ MXC) (rs : gS h + 6000 ≤ MXS) (i0 : 0 ≤ i) (i1 : i + 6 ≤ L) (L1 : L ≤ 3072) (o5 o6 o7 : Option Zv) (k : KX L sc i h Q) : WP 171 1418 [some (zr (some (a 201 0))), some (zr (some (a 0 0))), some (zr (some (a 100 0))), some (zr (some (a 200 0))), some (zi i), o5, o6, o7, none] [] h Q := by
  obtain ⟨hi, hr, hm, o⟩ := id bg
  rw [b_171_1418]
  refine ⟨ir i0 i1 L1 (by omega), o.ix (by omega) (by omega), ir i0 i1 L1 (by omega), o.ix (by omega) (by omega), ?_⟩
  simp only [ad_some, o.2.2.2.2]
  refine w_sees bg iv (by omega) (by omega) _ _ ?_
  intro b g bg2 sa gc gs x
  obtain ⟨e0, e1, e2, e3⟩ := id sa
  simp only [kont_v, Nat.reduceAdd]
  rw [← e0, ← e1, ← e2, ← e3]
  obtain ⟨ib, hr2, hm2, o2⟩ := id bg2
  rw [b_171_1435]
  refine ⟨ir i0 i1 L1 (by omega), o2.ix (by omega) (by omega), ir i0 i1 L1 (by omega), o2.ix (by omega) (by omega), (kd_some _ _ _).mpr hm2.c0, ?_⟩
  simp only [ad_some, o2.2.2.2.2]
  refine r_sees ib hm2 iv (by omega) (by omega) _ _ ?_
  intro c g2 hm3 th em
  obtain ⟨bg3, sa3⟩ := bg2.em hm3 em
  obtain ⟨f0, f1, f2, f3⟩ := id sa3
  have gc3 := em.2.2.1
  have gs3 := em.2.2.2.1
  simp only [kont_v, Nat.reduceAdd]
  rw [← f0, ← f1, ← f2, ← f3, b_171_1453]
  refine ⟨(kd_some _ _ _).mpr hm3.c0, ?_⟩
  rw [b_90_0]
  refine ⟨(kd_some _ _ _).mpr hm3.c0, ?_⟩
  simp only [kont_v, Nat.reduceAdd, ad_some, th]
  rw [b_171_1459, brt rfl, b_171_1466]
  refine ⟨fun z => ?_, fun z => ?_⟩
  · rw [b_171_1471]
    refine ⟨bg3.2.2.2.jx, ?_⟩
    have e := (bg2.emJ em).trans (x z)
    rw [xv, if_pos z, ad_some, e]
    refine ⟨fun y => ?_, fun y => ?_⟩
    · rw [b_171_1483, b_171_1484, if_pos y, if_pos rfl, brt rfl, b_171_1490]
      exact k c g2 _ _ _ _ bg3 (iv_sees iv _ _) (by omega) (by omega)
    · rw [b_171_1479, b_171_1484, if_neg y, if_pos rfl, brt rfl, b_171_1490]
      exact k c g2 _ _ _ _ bg3 (iv_sees iv _ _) (by omega) (by omega)
  · rw [b_171_1490]
    exact k c g2 _ _ _ _ bg3 (iv_sees iv _ _) (by omega) (by omega)
theorem L_thread (bg : BG L sc a S S h) (iv : Inv S) (rc : gC h + 100 ≤ MXC) (rs : gS h + 6000 ≤ MXS) (i0 : 0 ≤ i) (i1 : i + 6 ≤ L) (L1 : L ≤ 3072) (o5 o6 o7 : Option Zv) (k : KX L sc i h Q) : WP 171 1493 [some (zr (some (a 201 0))), some (zr (some (a 0 0))), some (zr (some (a 100 0))), some (zr (some (a 200 0))), some (zi i), o5, o6, o7, none] [] h Q := by
  obtain ⟨hi, hr, hm, o⟩ := id bg
  rw [b_171_1493]
  refine ⟨ir i0 i1 L1 (by omega), o.ix (by omega) (by omega), ir i0 i1 L1 (by omega), o.ix (by omega) (by omega), ?_⟩
  simp only [ad_some, o.2.2.2.2]
  refine w_thread bg iv (by omega) (by omega) _ _ ?_
  intro b g bg2 sa gc gs x
  obtain ⟨e0, e1, e2, e3⟩ := id sa
  simp only [kont_v, Nat.reduceAdd]
  rw [← e0, ← e1, ← e2, ← e3]
  obtain ⟨ib, hr2, hm2, o2⟩ := id bg2
  rw [b_171_1510]
  refine ⟨ir i0 i1 L1 (by omega), o2.ix (by omega) (by omega), ir i0 i1 L1 (by omega), o2.ix (by omega) (by omega), (kd_some _ _ _).mpr hm2.c0, ?_⟩
  simp only [ad_some, o2.2.2.2.2]
  refine r_thread ib hm2 iv (by omega) (by omega) _ _ ?_
  intro c g2 hm3 th em
  obtain ⟨bg3, sa3⟩ := bg2.em hm3 em
  obtain ⟨f0, f1, f2, f3⟩ := id sa3
  have gc3 := em.2.2.1
  have gs3 := em.2.2.2.1
  simp only [kont_v, Nat.reduceAdd]
  rw [← f0, ← f1, ← f2, ← f3, b_171_1528]
  refine ⟨(kd_some _ _ _).mpr hm3.c0, ?_⟩
  rw [b_90_0]
  refine ⟨(kd_some _ _ _).mpr hm3.c0, ?_⟩
  simp only [kont_v, Nat.reduceAdd, ad_some, th]
  rw [b_171_1534, brt rfl, b_171_1541]
  refine ⟨fun z => ?_, fun z => ?_⟩
  · rw [b_171_1546]
    refine ⟨bg3.2.2.2.jx, ?_⟩
    have e := (bg2.emJ em).trans (x z)
    rw [xv, if_pos z, ad_some, e]
    rw [if_pos rfl, brt rfl, b_171_1558]
    exact k c g2 _ _ _ _ bg3 (iv_thread iv _ _) (by omega) (by omega)
  · rw [b_171_1558]
    exact k c g2 _ _ _ _ bg3 (iv_thread iv _ _) (by omega) (by omega)
theorem L_over (bg : BG L sc a S S h) (iv : Inv S) (rc : gC h + 100 ≤ MXC) (rs : gS h + 6000 ≤ MXS) (i0 : 0 ≤ i) (i1 : i + 6 ≤ L) (L1 : L ≤ 3072) (o5 o6 o7 : Option Zv) (k : KX L sc i h Q) : WP 171 1561 [some (zr (some (a 201 0))), some (zr (some (a 0 0))), some (zr (some (a 100 0))), some (zr (some (a 200 0))), some (zi i), o5, o6, o7, none] [] h Q := by
  obtain ⟨hi, hr, hm, o⟩ := id bg
  rw [b_171_1561]
  refine ⟨ir i0 i1 L1 (by omega), o.ix (by omega) (by omega), ir i0 i1 L1 (by omega), o.ix (by omega) (by omega), ?_⟩
  simp only [ad_some, o.2.2.2.2]
  refine w_over bg iv (by omega) (by omega) _ _ ?_
  intro b g bg2 sa gc gs x
  obtain ⟨e0, e1, e2, e3⟩ := id sa
  simp only [kont_v, Nat.reduceAdd]
  rw [← e0, ← e1, ← e2, ← e3]
  obtain ⟨ib, hr2, hm2, o2⟩ := id bg2
  rw [b_171_1578]
  refine ⟨ir i0 i1 L1 (by omega), o2.ix (by omega) (by omega), ir i0 i1 L1 (by omega), o2.ix (by omega) (by omega), (kd_some _ _ _).mpr hm2.c0, ?_⟩
  simp only [ad_some, o2.2.2.2.2]
  refine r_over ib hm2 iv (by omega) (by omega) _ _ ?_
  intro c g2 hm3 th em
  obtain ⟨bg3, sa3⟩ := bg2.em hm3 em
  obtain ⟨f0, f1, f2, f3⟩ := id sa3
  have gc3 := em.2.2.1
  have gs3 := em.2.2.2.1
  simp only [kont_v, Nat.reduceAdd]
  rw [← f0, ← f1, ← f2, ← f3, b_171_1596]
  refine ⟨(kd_some _ _ _).mpr hm3.c0, ?_⟩
  rw [b_90_0]
  refine ⟨(kd_some _ _ _).mpr hm3.c0, ?_⟩
  simp only [kont_v, Nat.reduceAdd, ad_some, th]
  rw [b_171_1602, brt rfl, b_171_1609]
  refine ⟨fun z => ?_, fun z => ?_⟩
  · rw [b_171_1614]
    refine ⟨bg3.2.2.2.jx, ?_⟩
    have e := (bg2.emJ em).trans (x z)
    rw [xv, if_pos z, ad_some, e]
    rw [if_pos rfl, brt rfl, b_171_1626]
    exact k c g2 _ _ _ _ bg3 (iv_over iv _ _) (by omega) (by omega)
  · rw [b_171_1626]
    exact k c g2 _ _ _ _ bg3 (iv_over iv _ _) (by omega) (by omega)
theorem L_export (bg : BG L sc a S S h) (iv : Inv S) (rc : gC h + 100 ≤ MXC) (rs : gS h + 6000 ≤ MXS) (i0 : 0 ≤ i) (i1 : i + 6 ≤ L) (L1 : L ≤ 3072) (o5 o6 o7 : Option Zv) (k : KX L sc i h Q) : WP 171 1629 [some (zr (some (a 201 0))), some (zr (some (a 0 0))), some (zr (some (a 100 0))), some (zr (some (a 200 0))), some (zi i), o5, o6, o7, none] [] h Q := by
  obtain ⟨hi, hr, hm, o⟩ := id bg
  rw [b_171_1629]
  refine ⟨ir i0 i1 L1 (by omega), o.ix (by omega) (by omega), ir i0 i1 L1 (by omega), o.ix (by omega) (by omega), ?_⟩
  simp only [ad_some, o.2.2.2.2]
  refine ⟨fun z3 => ?_, fun z3 => ?_⟩
  · rw [b_171_1649, b_171_1650]
    refine w_export bg iv (by omega) (by omega) _ 0 ?_
    intro b g bg2 sa gc gs x
    obtain ⟨e0, e1, e2, e3⟩ := id sa
    simp only [kont_v, Nat.reduceAdd]
    rw [← e0, ← e1, ← e2, ← e3]
    obtain ⟨ib, hr2, hm2, o2⟩ := id bg2
    rw [b_171_1654]
    refine ⟨ir i0 i1 L1 (by omega), o2.ix (by omega) (by omega), ir i0 i1 L1 (by omega), o2.ix (by omega) (by omega), ?_⟩
    simp only [ad_some, o2.2.2.2.2]
    rw [brt z3, b_171_1676, b_171_1677]
    refine ⟨(kd_some _ _ _).mpr hm2.c0, ?_⟩
    refine r_export ib hm2 iv (by omega) (by omega) _ 0 ?_
    intro c g2 hm3 th em
    obtain ⟨bg3, sa3⟩ := bg2.em hm3 em
    obtain ⟨f0, f1, f2, f3⟩ := id sa3
    have gc3 := em.2.2.1
    have gs3 := em.2.2.2.1
    simp only [kont_v, Nat.reduceAdd]
    rw [← f0, ← f1, ← f2, ← f3, b_171_1680]
    refine ⟨(kd_some _ _ _).mpr hm3.c0, ?_⟩
    rw [b_90_0]
    refine ⟨(kd_some _ _ _).mpr hm3.c0, ?_⟩
    simp only [kont_v, Nat.reduceAdd, ad_some, th]
    rw [b_171_1686, brt rfl, b_171_1693]
    refine ⟨fun z => ?_, fun z => ?_⟩
    · rw [b_171_1698]
      refine ⟨bg3.2.2.2.jx, ?_⟩
      have e := (bg2.emJ em).trans (x z)
      rw [xv, if_pos z, ad_some, e]
      rw [if_pos rfl, brt rfl, b_171_1710]
      exact k c g2 _ _ _ _ bg3 (iv_export iv _ 0) (by omega) (by omega)
    · rw [b_171_1710]
      exact k c g2 _ _ _ _ bg3 (iv_export iv _ 0) (by omega) (by omega)
  · rw [b_171_1645, b_171_1650]
    refine w_export bg iv (by omega) (by omega) _ 1 ?_
    intro b g bg2 sa gc gs x
    obtain ⟨e0, e1, e2, e3⟩ := id sa
    simp only [kont_v, Nat.reduceAdd]
    rw [← e0, ← e1, ← e2, ← e3]
    obtain ⟨ib, hr2, hm2, o2⟩ := id bg2
    rw [b_171_1654]
    refine ⟨ir i0 i1 L1 (by omega), o2.ix (by omega) (by omega), ir i0 i1 L1 (by omega), o2.ix (by omega) (by omega), ?_⟩
    simp only [ad_some, o2.2.2.2.2]
    rw [brf z3, b_171_1672, b_171_1677]
    refine ⟨(kd_some _ _ _).mpr hm2.c0, ?_⟩
    refine r_export ib hm2 iv (by omega) (by omega) _ 1 ?_
    intro c g2 hm3 th em
    obtain ⟨bg3, sa3⟩ := bg2.em hm3 em
    obtain ⟨f0, f1, f2, f3⟩ := id sa3
    have gc3 := em.2.2.1
    have gs3 := em.2.2.2.1
    simp only [kont_v, Nat.reduceAdd]
    rw [← f0, ← f1, ← f2, ← f3, b_171_1680]
    refine ⟨(kd_some _ _ _).mpr hm3.c0, ?_⟩
    rw [b_90_0]
    refine ⟨(kd_some _ _ _).mpr hm3.c0, ?_⟩
    simp only [kont_v, Nat.reduceAdd, ad_some, th]
    rw [b_171_1686, brt rfl, b_171_1693]
    refine ⟨fun z => ?_, fun z => ?_⟩
    · rw [b_171_1698]
      refine ⟨bg3.2.2.2.jx, ?_⟩
      have e := (bg2.emJ em).trans (x z)
      rw [xv, if_pos z, ad_some, e]
      rw [if_pos rfl, brt rfl, b_171_1710]
      exact k c g2 _ _ _ _ bg3 (iv_export iv _ 1) (by omega) (by omega)
    · rw [b_171_1710]
      exact k c g2 _ _ _ _ bg3 (iv_export iv _ 1) (by omega) (by omega)
theorem L_exported (bg : BG L sc a S S h) (iv : Inv S) (rc : gC h + 100 ≤ MXC) (rs : gS h + 6000 ≤ MXS) (i0 : 0 ≤ i) (i1 : i + 6 ≤ L) (L1 : L ≤ 3072) (o5 o6 o7 : Option Zv) (k : KX L sc i h Q) : WP 171 1713 [some (zr (some (a 201 0))), some (zr (some (a 0 0))), some (zr (some (a 100 0))), some (zr (some (a 200 0))), some (zi i), o5, o6, o7, none] [] h Q := by
  obtain ⟨hi, hr, hm, o⟩ := id bg
  rw [b_171_1713]
  refine ⟨ir i0 i1 L1 (by omega), o.ix (by omega) (by omega), ir i0 i1 L1 (by omega), o.ix (by omega) (by omega), ?_⟩
  simp only [ad_some, o.2.2.2.2]
  refine w_exported bg iv (by omega) (by omega) _ _ ?_
  intro b g bg2 sa gc gs x
  obtain ⟨e0, e1, e2, e3⟩ := id sa
  simp only [kont_v, Nat.reduceAdd]
  rw [← e0, ← e1, ← e2, ← e3]
  obtain ⟨ib, hr2, hm2, o2⟩ := id bg2
  rw [b_171_1730]
  refine ⟨ir i0 i1 L1 (by omega), o2.ix (by omega) (by omega), ir i0 i1 L1 (by omega), o2.ix (by omega) (by omega), (kd_some _ _ _).mpr hm2.c0, ?_⟩
  simp only [ad_some, o2.2.2.2.2]
  refine r_exported ib hm2 iv (by omega) (by omega) _ _ ?_
  intro c g2 hm3 th em
  obtain ⟨bg3, sa3⟩ := bg2.em hm3 em
  obtain ⟨f0, f1, f2, f3⟩ := id sa3
  have gc3 := em.2.2.1
  have gs3 := em.2.2.2.1
  simp only [kont_v, Nat.reduceAdd]
  rw [← f0, ← f1, ← f2, ← f3, b_171_1748]
  refine ⟨(kd_some _ _ _).mpr hm3.c0, ?_⟩
  rw [b_90_0]
  refine ⟨(kd_some _ _ _).mpr hm3.c0, ?_⟩
  simp only [kont_v, Nat.reduceAdd, ad_some, th]
  rw [b_171_1754, brt rfl, b_171_1761]
  refine ⟨fun z => ?_, fun z => ?_⟩
  · rw [b_171_1766]
    refine ⟨bg3.2.2.2.jx, ?_⟩
    have e := (bg2.emJ em).trans (x z)
    rw [xv, if_pos z, ad_some, e]
    rw [if_pos rfl, brt rfl, b_171_1778]
    exact k c g2 _ _ _ _ bg3 (iv_exported iv _ _) (by omega) (by omega)
  · rw [b_171_1778]
    exact k c g2 _ _ _ _ bg3 (iv_exported iv _ _) (by omega) (by omega)
theorem L_lostBy (bg : BG L sc a S S h) (iv : Inv S) (rc : gC h + 100 ≤ MXC) (rs : gS h + 6000 ≤ MXS) (i0 : 0 ≤ i) (i1 : i + 6 ≤ L) (L1 : L ≤ 3072) (o5 o6 o7 : Option Zv) (k : KX L sc i h Q) : WP 171 1822 [some (zr (some (a 201 0))), some (zr (some (a 0 0))), some (zr (some (a 100 0))), some (zr (some (a 200 0))), some (zi i), o5, o6, o7, none] [] h Q := by
  obtain ⟨hi, hr, hm, o⟩ := id bg
  rw [b_171_1822]
  refine ⟨ir i0 i1 L1 (by omega), o.ix (by omega) (by omega), ir i0 i1 L1 (by omega), o.ix (by omega) (by omega), ?_⟩
  simp only [ad_some, o.2.2.2.2]
  refine w_lostBy bg iv (by omega) (by omega) _ _ ?_
  intro b g bg2 sa gc gs x
  obtain ⟨e0, e1, e2, e3⟩ := id sa
  simp only [kont_v, Nat.reduceAdd]
  rw [← e0, ← e1, ← e2, ← e3]
  obtain ⟨ib, hr2, hm2, o2⟩ := id bg2
  rw [b_171_1839]
  refine ⟨ir i0 i1 L1 (by omega), o2.ix (by omega) (by omega), ir i0 i1 L1 (by omega), o2.ix (by omega) (by omega), (kd_some _ _ _).mpr hm2.c0, ?_⟩
  simp only [ad_some, o2.2.2.2.2]
  refine r_lostBy ib hm2 iv (by omega) (by omega) _ _ ?_
  intro c g2 hm3 th em
  obtain ⟨bg3, sa3⟩ := bg2.em hm3 em
  obtain ⟨f0, f1, f2, f3⟩ := id sa3
  have gc3 := em.2.2.1
  have gs3 := em.2.2.2.1
  simp only [kont_v, Nat.reduceAdd]
  rw [← f0, ← f1, ← f2, ← f3, b_171_1857]
  refine ⟨(kd_some _ _ _).mpr hm3.c0, ?_⟩
  rw [b_90_0]
  refine ⟨(kd_some _ _ _).mpr hm3.c0, ?_⟩
  simp only [kont_v, Nat.reduceAdd, ad_some, th]
  rw [b_171_1863, brt rfl, b_171_1870]
  refine ⟨fun z => ?_, fun z => ?_⟩
  · rw [b_171_1875]
    refine ⟨bg3.2.2.2.jx, ?_⟩
    have e := (bg2.emJ em).trans (x z)
    rw [xv, if_pos z, ad_some, e]
    rw [if_pos rfl, brt rfl, b_171_1887]
    exact k c g2 _ _ _ _ bg3 (iv_lostBy iv _ _) (by omega) (by omega)
  · rw [b_171_1887]
    exact k c g2 _ _ _ _ bg3 (iv_lostBy iv _ _) (by omega) (by omega)
theorem L_wouldHeal (bg : BG L sc a S S h) (iv : Inv S) (rc : gC h + 100 ≤ MXC) (rs : gS h + 6000 ≤ MXS) (i0 : 0 ≤ i) (i1 : i + 6 ≤ L) (L1 : L ≤ 3072) (o5 o6 o7 : Option Zv) (k : KX L sc i h Q) : WP 171 1890 [some (zr (some (a 201 0))), some (zr (some (a 0 0))), some (zr (some (a 100 0))), some (zr (some (a 200 0))), some (zi i), o5, o6, o7, none] [] h Q := by
  obtain ⟨hi, hr, hm, o⟩ := id bg
  rw [b_171_1890]
  refine ⟨ir i0 i1 L1 (by omega), o.ix (by omega) (by omega), ?_⟩
  simp only [ad_some, o.2.2.2.2]
  refine w_wouldHeal bg iv (by omega) (by omega) _ ?_
  intro b g bg2 sa gc gs x
  obtain ⟨e0, e1, e2, e3⟩ := id sa
  simp only [kont_v, Nat.reduceAdd]
  rw [← e0, ← e1, ← e2, ← e3]
  obtain ⟨ib, hr2, hm2, o2⟩ := id bg2
  rw [b_171_1901]
  refine ⟨ir i0 i1 L1 (by omega), o2.ix (by omega) (by omega), (kd_some _ _ _).mpr hm2.c0, ?_⟩
  simp only [ad_some, o2.2.2.2.2]
  refine r_wouldHeal ib hm2 iv (by omega) (by omega) _ ?_
  intro c g2 hm3 th em
  obtain ⟨bg3, sa3⟩ := bg2.em hm3 em
  obtain ⟨f0, f1, f2, f3⟩ := id sa3
  have gc3 := em.2.2.1
  have gs3 := em.2.2.2.1
  simp only [kont_v, Nat.reduceAdd]
  rw [← f0, ← f1, ← f2, ← f3, b_171_1913]
  refine ⟨(kd_some _ _ _).mpr hm3.c0, ?_⟩
  rw [b_90_0]
  refine ⟨(kd_some _ _ _).mpr hm3.c0, ?_⟩
  simp only [kont_v, Nat.reduceAdd, ad_some, th]
  rw [b_171_1919, brt rfl, b_171_1926]
  refine ⟨fun z => ?_, fun z => ?_⟩
  · rw [b_171_1931]
    refine ⟨bg3.2.2.2.jx, ?_⟩
    have e := (bg2.emJ em).trans (x z)
    rw [xv, if_pos z, ad_some, e]
    rw [if_pos rfl, brt rfl, b_171_1943]
    exact k c g2 _ _ _ _ bg3 (iv_wouldHeal iv _) (by omega) (by omega)
  · rw [b_171_1943]
    exact k c g2 _ _ _ _ bg3 (iv_wouldHeal iv _) (by omega) (by omega)
theorem L_wouldSee (bg : BG L sc a S S h) (iv : Inv S) (rc : gC h + 100 ≤ MXC) (rs : gS h + 6000 ≤ MXS) (i0 : 0 ≤ i) (i1 : i + 6 ≤ L) (L1 : L ≤ 3072) (o5 o6 o7 : Option Zv) (k : KX L sc i h Q) : WP 171 1946 [some (zr (some (a 201 0))), some (zr (some (a 0 0))), some (zr (some (a 100 0))), some (zr (some (a 200 0))), some (zi i), o5, o6, o7, none] [] h Q := by
  obtain ⟨hi, hr, hm, o⟩ := id bg
  rw [b_171_1946]
  refine ⟨ir i0 i1 L1 (by omega), o.ix (by omega) (by omega), ir i0 i1 L1 (by omega), o.ix (by omega) (by omega), ?_⟩
  simp only [ad_some, o.2.2.2.2]
  refine w_wouldSee bg iv (by omega) (by omega) _ _ ?_
  intro b g bg2 sa gc gs x
  obtain ⟨e0, e1, e2, e3⟩ := id sa
  simp only [kont_v, Nat.reduceAdd]
  rw [← e0, ← e1, ← e2, ← e3]
  obtain ⟨ib, hr2, hm2, o2⟩ := id bg2
  rw [b_171_1963]
  refine ⟨ir i0 i1 L1 (by omega), o2.ix (by omega) (by omega), ir i0 i1 L1 (by omega), o2.ix (by omega) (by omega), (kd_some _ _ _).mpr hm2.c0, ?_⟩
  simp only [ad_some, o2.2.2.2.2]
  refine r_wouldSee ib hm2 iv (by omega) (by omega) _ _ ?_
  intro c g2 hm3 th em
  obtain ⟨bg3, sa3⟩ := bg2.em hm3 em
  obtain ⟨f0, f1, f2, f3⟩ := id sa3
  have gc3 := em.2.2.1
  have gs3 := em.2.2.2.1
  simp only [kont_v, Nat.reduceAdd]
  rw [← f0, ← f1, ← f2, ← f3, b_171_1981]
  refine ⟨(kd_some _ _ _).mpr hm3.c0, ?_⟩
  rw [b_90_0]
  refine ⟨(kd_some _ _ _).mpr hm3.c0, ?_⟩
  simp only [kont_v, Nat.reduceAdd, ad_some, th]
  rw [b_171_1987, brt rfl, b_171_1994]
  refine ⟨fun z => ?_, fun z => ?_⟩
  · rw [b_171_1999]
    refine ⟨bg3.2.2.2.jx, ?_⟩
    have e := (bg2.emJ em).trans (x z)
    rw [xv, if_pos z, ad_some, e]
    rw [if_pos rfl, brt rfl, b_171_2011]
    exact k c g2 _ _ _ _ bg3 (iv_wouldSee iv _ _) (by omega) (by omega)
  · rw [b_171_2011]
    exact k c g2 _ _ _ _ bg3 (iv_wouldSee iv _ _) (by omega) (by omega)
end
