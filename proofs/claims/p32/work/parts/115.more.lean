/-! MORE INSTRUCTIONS: rows of references copied; new int[1][0][] -/
section SDC
variable {p : Program} {l : Launch} {e : Env} {R : Room} {s : State} {m : MethodId} {args : Array Value} {below : List Frame} {meth : Method} {c : Code} {H : Heap} {locs : List Loc} {cells slots : Nat} {Q : State → Prop}
variable {cc : ByteArray} {pc : Nat} {ls : Array Slot} {rest : List Value} {D : va_G} {cl : List vw_C} {A : Nat → Prop} {a : Nat} {tys : List (ClassId × FieldType)} {ws : va_W} {H0 : Heap}
theorem nn_i32 {x : Int32} (hx : ¬ x < 0) : x.toInt = (x.toNatClampNeg : Int) := by
  have h0 : (0 : Int) ≤ x.toInt := by
    have := Int32.not_lt.mp hx
    simpa using Int32.le_iff_toInt_le.mp this
  show x.toInt = ((x.toInt.toNat : Nat) : Int)
  omega
/-- rows of a copied array of arrays -/
abbrev vpq (f : Nat → Option Nat) (n : Nat) : vp_A := (n, .inr (.inr (.inr (.inr f))))
theorem va_cpyA {et : FieldType} (hover : va_AOA et s) (hexec : p.tables.exec = Jvm.exec) (hb : c.code = cc) (hml : c.maxLocals = ls.size) {own : String} {index : Nat} (hown : s.vm.findClass own = some m.cls) (w1 : (Cond.methodLink own index arraycopyName).before args s = true) (w2 : (Cond.native arraycopyName).before args s = true) (w3 : (Cond.static arraycopyName).before args s = true) (w4 : (Cond.initialized "java/lang/System").before args s = true)
    (hK : va_K D cl tys s) (hP : va_P D cl ws H) (hD : va_D A ws) (hS : va_S A H0 H locs) (q0 q1 t0 t1 : Nat) {a0 : Nat} {c0 c1 : ClassId} {n0 n1 : Nat} {f g : Nat → Option Nat} (ha0 : ws[q0]? = some (a0, .inl (c0, vpq f n0))) (ha1 : ws[q1]? = some (a, .inl (c1, vpq g n1))) (ht0 : tys[t0]? = some (c0, .array et)) (ht1 : tys[t1]? = some (c1, .array et))
    {sp dp n : Int32} (h1 : ¬ sp < 0) (h2 : ¬ dp < 0) (h3 : ¬ n < 0) (h4 : sp.toNatClampNeg + n.toNatClampNeg ≤ n0) (h5 : dp.toNatClampNeg + n.toNatClampNeg ≤ n1) (hel : ∀ i : Nat, i < n.toNatClampNeg → ∀ y : Nat, f (sp.toNatClampNeg + i) = some y → ∃ cv : Cell, H[y]? = some cv ∧ cv.vm = .none ∧ s.vm.findClass ("[" ++ et.toString) = some cv.cls)
    (hfr : 1 ≤ R.frames) (hlo : (rest.map fun v => v.category).sum + (nativeFrameWords "java/lang/System" "arraycopy" 5 + 11) ≤ R.locals) (hdg : decode cc pc = .ok (.invokestatic index, 3))
    (kk : ∀ (H1 : Heap) (locs1 : List Loc), va_P D cl (ws.set q1 (a, .inl (c1, vpq (va_cpy f g sp.toNatClampNeg dp.toNatClampNeg n.toNatClampNeg) n1))) H1 → va_D A (ws.set q1 (a, .inl (c1, vpq (va_cpy f g sp.toNatClampNeg dp.toNatClampNeg n.toNatClampNeg) n1))) → va_S A H0 H1 locs1 → W p l e R s m args below meth c H1 locs1 cells slots Q (F0 m (pc + 3) ls rest)) : W p l e R s m args below meth c H locs cells slots Q (F0 m pc ls (.int n :: .int dp :: .ref a :: .int sp :: .ref a0 :: rest)) := by
  intro T hT X
  obtain ⟨cm, c2, kA, fcm, -, f3, f4, f5⟩ := arrayOverA_spec hover
  have b0 : H[a0]? = some (vp_cell c0 (vpq f n0)) := hP q0 _ ha0
  have b1 : H[a]? = some (vp_cell c1 (vpq g n1)) := hP q1 _ ha1
  have e0 : c2 = c0 := Option.some.inj (f5.symm.trans (hK.2 t0 _ ht0).2)
  have e1 : c2 = c1 := Option.some.inj (f5.symm.trans (hK.2 t1 _ ht1).2)
  subst e0
  subst e1
  have sz : ∀ (x : Nat) (u : Nat → Option Nat), (vp_cell c2 (vpq u x)).slots.size = x := fun x u => arrV_size _ _ _
  have hcmv : ∀ (cv : Cell), s.vm.findClass ("[" ++ et.toString) = some cv.cls → cv.cls = cm := fun cv h => Option.some.inj (h.symm.trans fcm)
  obtain ⟨kE, hkE, -⟩ := Vm.findClass_spec fcm
  obtain ⟨vm', X', step⟩ := X.arraycopy hexec hown w1 w2 w3 w4 (srcPos := sp) (destPos := dp) (n := n) (by rw [hT]; exact b0) (by rw [hT]; exact b1)
    (fun _ h => by cases h) (fun _ h => by cases h) (fun h => by cases h) (fun h => by cases h) f3 f3 f4 f4 rfl h1 h2 h3
    (by rw [nn_i32 h1, nn_i32 h3, sz]; omega) (by rw [nn_i32 h2, nn_i32 h3, sz]; omega)
    (fun vm₁ hal i hi => by
      have e : (vp_cell c2 (vpq f n0)).slots.getD (sp.toNatClampNeg + i) .null = va_rf (f (sp.toNatClampNeg + i)) := by
        show (arrV c2 n0 (fun j => va_rf (f j))).slots.getD _ _ = _
        rw [Array.getD_eq_getD_getElem?, arrV_read _ _ (by omega)]
        rfl
      rw [e]
      cases hy : f (sp.toNatClampNeg + i) with
      | none => exact ⟨rfl, trivial⟩
      | some y =>
        obtain ⟨cv, g1, g2, g3⟩ := hel i hi y hy
        obtain ⟨kE', hkE', -⟩ := hal.2.2 _ _ hkE
        refine ⟨rfl, cv, (show T.heap[y]? = some cv by rw [hT]; exact g1), (fun q h => by rw [g2] at h; cases h), ⟨kE', by rw [hcmv cv g3]; exact hkE'⟩, ⟨kE', hkE'⟩, ?_⟩
        show vm₁.assignable _ _ = true
        rw [hcmv cv g3]
        exact z_asg _ _)
    (g := F0 m pc ls (.int n :: .int dp :: .ref a :: .int sp :: .ref a0 :: rest)) rfl (by rw [hml]) (rest := rest) rfl (by rw [hb]; exact hdg) hfr (by show 2 * 0 + _ + _ ≤ _; omega)
  have ec : copied (vp_cell c2 (vpq f n0)) (vp_cell c2 (vpq g n1)) sp dp n = vp_cell c2 (vpq (va_cpy f g sp.toNatClampNeg dp.toNatClampNeg n.toNatClampNeg) n1) := by
    rw [vp_cell_q, vp_cell_q, vp_cell_q]
    exact va_copied (fun z => va_rf z) c2 c2 f g h4
  rw [ec] at X' step
  have hl : a < H.size := (Array.getElem?_eq_some_iff.mp b1).1
  generalize hC : vp_cell c2 (vpq (va_cpy f g sp.toNatClampNeg dp.toNatClampNeg n.toNatClampNeg) n1) = C at X' step
  have hh : ((T.setVm vm').setCell a C).heap = H.setIfInBounds a C := by rw [← hT]; rfl
  have oq : ∀ q : Nat, q ≠ a → (H.setIfInBounds a C)[q]? = H[q]? := fun q hq => by simp [Array.getElem?_setIfInBounds, Ne.symm hq]
  obtain ⟨t, a1, b9⟩ := kk _ _ (hP.set hD ha1 (show (H.setIfInBounds a C)[a]? = some _ by simp [Array.getElem?_setIfInBounds, hl, hC]) oq) (hD.set ha1) ⟨by simp; exact hS.1, fun q g1 g2 => by
      rw [oq q (fun e => g2 (by rw [e]; exact hD.2 q1 _ ha1))]
      exact hS.2.1 q g1 g2, fun q hq => by
      rcases List.mem_append.mp hq with h | h
      · exact hS.2.2 q h
      · obtain ⟨z, -, hz⟩ := List.mem_map.mp h
        rw [← hz]
        exact hD.2 q1 _ ha1⟩ _ hh X'
  exact ⟨t, step t a1, b9⟩
end SDC
section SD6
variable {G : GwT} {Md : Nat → MdT} {D : va_G} {A : Nat → Prop} {l : Launch}
theorem okh_cpyR {h : Zh} {s d : Nat} {sp dp n : Int} (ho : okh h) : okh (cpyR h s sp d dp n) := ⟨fun b i => by rw [gI_cpyR]; exact ho.1 _ _, ho.2.1, ho.2.2⟩
theorem sd_cpyA (m pc ix : Nat) (w1 : Cond.methodLink (mOwn (Md m)) ix arraycopyName ∈ mWs (Md m)) (w2 : Cond.native arraycopyName ∈ mWs (Md m)) (w3 : Cond.static arraycopyName ∈ mWs (Md m)) (w4 : Cond.initialized "java/lang/System" ∈ mWs (Md m)) (hfr : 1 ≤ mFr (Md m)) (hlo : 8 + (nativeFrameWords "java/lang/System" "arraycopy" 5 + 11) ≤ mLo (Md m))
    (d : decode (mCod (Md m)) pc = .ok (.invokestatic ix, 3)) : SM G Md D A l m pc (oCpyR 14 10) := by
  refine ⟨mo_oCpyR 14 10, fun ls st h Q k pp ee RR ss mm aa bb me cc0 HH lc lsC c0 s0 ce se C0 hR hC hS hl ho hcu hsu => ?_⟩
  obtain ⟨⟨hx, hb, hml, hown, hts⟩, hr, hlk, hnm, het, hRm, htr, hA, hG⟩ := id C0
  unfold oCpyR at k
  split at k
  · next n dp dr sp sr r =>
    obtain ⟨k0, ⟨⟨sa, rfl, hsa⟩, ⟨da, rfl, hda⟩, n0, sp0, dp0, hs1, hd1, hel⟩, k⟩ := gd_iff.mp k
    have k0 := Nat.le_of_ble_eq_true k0
    have on : inR n := ho (zi n) (by simp)
    have od : inR dp := ho (zi dp) (by simp)
    have os : inR sp := ho (zi sp) (by simp)
    have hor : ∀ v ∈ r, okz v := fun v hv => ho v (by simp [hv])
    have hs1 : sp + n ≤ gL h sa := hs1
    have hd1 : dp + n ≤ gL h da := hd1
    obtain ⟨hok, ws, tys, hP, hD, hKK, hI⟩ := id hR
    obtain ⟨q0, e0, he0, hE0⟩ := hI sa (by omega) (by omega)
    obtain ⟨cA, t0, he2, ht0⟩ := isE_arr hE0 hsa (by omega)
    subst he2
    obtain ⟨q1, e1, he1, hE1⟩ := hI da (by omega) (by omega)
    obtain ⟨cB, t1, he3, ht1⟩ := isE_arr hE1 hda (by omega)
    subst he3
    refine va_cpyA hG.2.2.2.2.2.2.2.2.1 hx hb (by rw [hml, hl.1]) hown (hts _ w1) (hts _ w2) (hts _ w3) (hts _ w4) hKK hP hD hS q0 q1 t0 t1 he0 he1 ht0 ht1 (z_nneg os sp0) (z_nneg od dp0) (z_nneg on n0) (by rw [z_cl os, z_cl on]; omega) (by rw [z_cl od, z_cl on]; omega) (fun i hi y hy => ?_) (by rw [hRm]; exact hfr) (by rw [sum_cz, hRm]; show _ ≤ mLo (Md m); omega) d (fun H1 lc1 hP1 hD1 hS1 => ?_)
    · rw [z_cl on] at hi
      rw [z_cl os] at hy
      have hk : gK h y = 10 := hel ((sp.toNat + i : Nat) : Int) y (by omega) (by omega) hy
      obtain ⟨qy, ey, hey, hEy⟩ := hI y (by omega) (by omega)
      obtain ⟨cV, tV, he9, htV⟩ := isE_arr hEy hk (by omega)
      subst he9
      have h7 : ∀ x : vp_A, (vp_cell cV x).cls = cV ∧ (vp_cell cV x).vm = .none := fun x => by
        obtain ⟨n2, g | g | g | g | g⟩ := x <;> exact ⟨rfl, rfl⟩
      exact ⟨_, hP qy _ hey, (h7 _).2, by rw [(h7 _).1]; exact (hKK.2 tV _ htV).2⟩
    rw [z_cl os, z_cl od, z_cl on] at hP1 hD1
    refine k pp ee RR ss mm aa bb me cc0 H1 lc1 lsC c0 s0 ce se C0 ⟨okh_cpyR hok, _, tys, hP1, hD1, hKK, inW_set hI he1 (fun _ => rfl) (fun _ => rfl) (fun b nb j => rfl) (fun b nb j => by rw [gR_cpyR, if_neg (fun z => nb z.1)]) (fun b nb j => rfl) (isE_mkA hda (by omega) cB t1 ?_ ht1)⟩ (hC.congr fun b hb9 => ⟨hb9, rfl, fun i => rfl⟩) hS1 hl hor hcu hsu
    refine congrArg Sum.inl (congrArg (Prod.mk cB) ?_)
    show ((gL h da).toNat, _) = ((gL h da).toNat, _)
    refine congrArg (Prod.mk _) (congrArg (fun z => Sum.inr (Sum.inr (Sum.inr (Sum.inr z)))) (funext fun j => ?_))
    show va_cpy (fun j : Nat => gR h sa j) (fun j : Nat => gR h da j) sp.toNat dp.toNat n.toNat j = gR (cpyR h sa sp da dp n) da j
    rw [gR_cpyR]
    unfold va_cpy
    by_cases z : dp.toNat ≤ j ∧ j < dp.toNat + n.toNat
    · rw [if_pos z, if_pos ⟨rfl, by omega, by omega⟩]
      show gR h sa ((sp.toNat + (j - dp.toNat) : Nat) : Int) = _
      rw [show ((sp.toNat + (j - dp.toNat) : Nat) : Int) = sp + (j - dp) by omega]
    · rw [if_neg z, if_neg (fun y => z (by have := y.2; omega))]
  · exact k.elim
theorem sd_cpyB (m pc ix : Nat) (w1 : Cond.methodLink (mOwn (Md m)) ix arraycopyName ∈ mWs (Md m)) (w2 : Cond.native arraycopyName ∈ mWs (Md m)) (w3 : Cond.static arraycopyName ∈ mWs (Md m)) (w4 : Cond.initialized "java/lang/System" ∈ mWs (Md m)) (hfr : 1 ≤ mFr (Md m)) (hlo : 8 + (nativeFrameWords "java/lang/System" "arraycopy" 5 + 11) ≤ mLo (Md m))
    (d : decode (mCod (Md m)) pc = .ok (.invokestatic ix, 3)) : SM G Md D A l m pc (oCpyR 16 14) := by
  refine ⟨mo_oCpyR 16 14, fun ls st h Q k pp ee RR ss mm aa bb me cc0 HH lc lsC c0 s0 ce se C0 hR hC hS hl ho hcu hsu => ?_⟩
  obtain ⟨⟨hx, hb, hml, hown, hts⟩, hr, hlk, hnm, het, hRm, htr, hA, hG⟩ := id C0
  unfold oCpyR at k
  split at k
  · next n dp dr sp sr r =>
    obtain ⟨k0, ⟨⟨sa, rfl, hsa⟩, ⟨da, rfl, hda⟩, n0, sp0, dp0, hs1, hd1, hel⟩, k⟩ := gd_iff.mp k
    have k0 := Nat.le_of_ble_eq_true k0
    have on : inR n := ho (zi n) (by simp)
    have od : inR dp := ho (zi dp) (by simp)
    have os : inR sp := ho (zi sp) (by simp)
    have hor : ∀ v ∈ r, okz v := fun v hv => ho v (by simp [hv])
    have hs1 : sp + n ≤ gL h sa := hs1
    have hd1 : dp + n ≤ gL h da := hd1
    obtain ⟨hok, ws, tys, hP, hD, hKK, hI⟩ := id hR
    obtain ⟨q0, e0, he0, hE0⟩ := hI sa (by omega) (by omega)
    obtain ⟨cA, t0, he2, ht0⟩ := isE_arr hE0 hsa (by omega)
    subst he2
    obtain ⟨q1, e1, he1, hE1⟩ := hI da (by omega) (by omega)
    obtain ⟨cB, t1, he3, ht1⟩ := isE_arr hE1 hda (by omega)
    subst he3
    refine va_cpyA hG.2.2.2.2.2.2.2.2.2 hx hb (by rw [hml, hl.1]) hown (hts _ w1) (hts _ w2) (hts _ w3) (hts _ w4) hKK hP hD hS q0 q1 t0 t1 he0 he1 ht0 ht1 (z_nneg os sp0) (z_nneg od dp0) (z_nneg on n0) (by rw [z_cl os, z_cl on]; omega) (by rw [z_cl od, z_cl on]; omega) (fun i hi y hy => ?_) (by rw [hRm]; exact hfr) (by rw [sum_cz, hRm]; show _ ≤ mLo (Md m); omega) d (fun H1 lc1 hP1 hD1 hS1 => ?_)
    · rw [z_cl on] at hi
      rw [z_cl os] at hy
      have hk : gK h y = 14 := hel ((sp.toNat + i : Nat) : Int) y (by omega) (by omega) hy
      obtain ⟨qy, ey, hey, hEy⟩ := hI y (by omega) (by omega)
      obtain ⟨cV, tV, he9, htV⟩ := isE_arr hEy hk (by omega)
      subst he9
      have h7 : ∀ x : vp_A, (vp_cell cV x).cls = cV ∧ (vp_cell cV x).vm = .none := fun x => by
        obtain ⟨n2, g | g | g | g | g⟩ := x <;> exact ⟨rfl, rfl⟩
      exact ⟨_, hP qy _ hey, (h7 _).2, by rw [(h7 _).1]; exact (hKK.2 tV _ htV).2⟩
    rw [z_cl os, z_cl od, z_cl on] at hP1 hD1
    refine k pp ee RR ss mm aa bb me cc0 H1 lc1 lsC c0 s0 ce se C0 ⟨okh_cpyR hok, _, tys, hP1, hD1, hKK, inW_set hI he1 (fun _ => rfl) (fun _ => rfl) (fun b nb j => rfl) (fun b nb j => by rw [gR_cpyR, if_neg (fun z => nb z.1)]) (fun b nb j => rfl) (isE_mkA hda (by omega) cB t1 ?_ ht1)⟩ (hC.congr fun b hb9 => ⟨hb9, rfl, fun i => rfl⟩) hS1 hl hor hcu hsu
    refine congrArg Sum.inl (congrArg (Prod.mk cB) ?_)
    show ((gL h da).toNat, _) = ((gL h da).toNat, _)
    refine congrArg (Prod.mk _) (congrArg (fun z => Sum.inr (Sum.inr (Sum.inr (Sum.inr z)))) (funext fun j => ?_))
    show va_cpy (fun j : Nat => gR h sa j) (fun j : Nat => gR h da j) sp.toNat dp.toNat n.toNat j = gR (cpyR h sa sp da dp n) da j
    rw [gR_cpyR]
    unfold va_cpy
    by_cases z : dp.toNat ≤ j ∧ j < dp.toNat + n.toNat
    · rw [if_pos z, if_pos ⟨rfl, by omega, by omega⟩]
      show gR h sa ((sp.toNat + (j - dp.toNat) : Nat) : Int) = _
      rw [show ((sp.toNat + (j - dp.toNat) : Nat) : Int) = sp + (j - dp) by omega]
    · rw [if_neg z, if_neg (fun y => z (by have := y.2; omega))]
  · exact k.elim
theorem ac_of {args : Array Value} {s : State} (h : va_AOA .int s) : (Cond.arrayClass (.array .int)).before args s = true := by
  obtain ⟨cm, c2, kA, fcm, -, f3, f4, f5⟩ := arrayOverA_spec h
  have f5b : s.vm.findClass ("[" ++ (FieldType.array .int).toString) = some c2 := f5
  unfold Cond.before
  simp only [Cond.holds, Cond.value]
  rw [f5b]
  simp [f3, f4]
theorem inW_nw3 {h : Zh} {tys : List (ClassId × FieldType)} {ws : va_W} {q r : Nat} {e1 e2 : va_E} {cA cy : ClassId} {t1 t2 : Nat} (hI : inW h tys ws) (hn : r ≠ q) (h1 : tys[t1]? = some (cA, .array (.array .int))) (h2 : tys[t2]? = some (cy, .array .int)) (d1 : e1 = .inl (cA, 1, .inr (.inr (.inr (.inr (fun i => if i < 1 then some r else none)))))) (d2 : e2 = .inl (cy, 0, .inr (.inr (.inr (.inr (fun _ => none)))))) : inW (nw3 h q r) tys (ws ++ [(q, e1), (r, e2)]) := by
  intro b g0 g1
  by_cases z1 : b = q
  · subst z1
    refine ⟨ws.length, e1, by rw [List.getElem?_append_right (Nat.le_refl _), Nat.sub_self]; rfl, ?_⟩
    subst d1
    have hk : gK (nw3 h b r) b = 16 := by unfold nw3; rw [gK_pR, gK_nw, if_pos rfl]
    refine isE_mkA hk (by omega) cA t1 (congrArg Sum.inl (congrArg (Prod.mk cA) ?_)) h1
    show _ = ((gL (nw3 h b r) b).toNat, _)
    have hl : gL (nw3 h b r) b = 1 := by unfold nw3; rw [gL_pR, gL_nw, if_pos rfl]
    rw [hl]
    refine congrArg (Prod.mk _) (congrArg (fun z => Sum.inr (Sum.inr (Sum.inr (Sum.inr z)))) (funext fun j => ?_))
    unfold nw3
    rw [gR_pR]
    by_cases hj : j < 1
    · rw [if_pos hj, if_pos ⟨rfl, by omega⟩]
    · rw [if_neg hj, if_neg (fun y => hj (by have := y.2; omega)), gR_nw, if_pos rfl]
  · by_cases z2 : b = r
    · subst z2
      refine ⟨ws.length + 1, e2, by rw [List.getElem?_append_right (by omega)]; rw [show ws.length + 1 - ws.length = 1 by omega]; rfl, ?_⟩
      subst d2
      have hk : gK (nw3 h q b) b = 14 := by unfold nw3; rw [gK_pR, gK_nw, if_neg hn, gK_nw, if_pos rfl]
      refine isE_mkA hk (by omega) cy t2 (congrArg Sum.inl (congrArg (Prod.mk cy) ?_)) h2
      show _ = ((gL (nw3 h q b) b).toNat, _)
      have hl : gL (nw3 h q b) b = 0 := by unfold nw3; rw [gL_pR, gL_nw, if_neg hn, gL_nw, if_pos rfl]
      rw [hl]
      refine congrArg (Prod.mk _) (congrArg (fun z => Sum.inr (Sum.inr (Sum.inr (Sum.inr z)))) (funext fun j => ?_))
      unfold nw3
      rw [gR_pR, if_neg (fun y => hn y.1), gR_nw, if_neg hn, gR_nw, if_pos rfl]
    · have k1 : gK (nw3 h q r) b = gK h b := by unfold nw3; rw [gK_pR, gK_nw, if_neg z1, gK_nw, if_neg z2]
      rw [k1] at g0 g1
      obtain ⟨k, x, g2, g3⟩ := hI b g0 g1
      exact ⟨k, x, by rw [List.getElem?_append_left (List.getElem?_eq_some_iff.mp g2).1]; exact g2, isE_congr k1 (by unfold nw3; rw [gL_pR, gL_nw, if_neg z1, gL_nw, if_neg z2]) (fun i => by unfold nw3; rw [gI_pR, gI_nw, if_neg z1, gI_nw, if_neg z2]) (fun i => by unfold nw3; rw [gR_pR, if_neg (fun y => z1 y.1), gR_nw, if_neg z1, gR_nw, if_neg z2]) (fun i => by unfold nw3; rw [gJ_pR, gJ_nw, if_neg z1, gJ_nw, if_neg z2]) g3⟩
theorem sd_new3 (m pc ix : Nat) (w1 : Cond.classLink (mOwn (Md m)) ix ("[" ++ (FieldType.array (.array .int)).toString) ∈ mWs (Md m))
    (d : decode (mCod (Md m)) pc = .ok (.multianewarray ix 2, 4)) : SM G Md D A l m pc oNew3 := by
  refine ⟨mo_oNew3, fun ls st h Q k9 pp ee RR ss mm aa bb me cc0 HH lc lsC c0 s0 ce se C0 hR hC hS hl ho hcu hsu => ?_⟩
  obtain ⟨⟨hx, hb, hml, hown, hts⟩, hr, hlk, hnm, het, hRm, htr, hA, hG⟩ := id C0
  unfold oNew3 at k9
  split at k9
  · next k n t =>
    obtain ⟨⟨⟨rfl, rfl⟩, hc1, hc2⟩, k9⟩ := k9
    have hor : ∀ v ∈ t, okz v := fun v hv => ho v (by simp [hv])
    obtain ⟨hok, ws, tys, hP, hD, hKK, hI⟩ := id hR
    have wac : (Cond.arrayClass (.array .int)).before aa ss = true := ac_of hG.2.2.2.2.2.2.2.2.1
    obtain ⟨cy, ky, compy, f1, f2, f3⟩ := Cond.arrayClass_spec wac
    have hKK2 : va_K D vwCl (tys ++ [(cy, .array .int)]) ss := ⟨hKK.1, fun i x hx9 => by
      by_cases hl9 : i < tys.length
      · rw [List.getElem?_append_left hl9] at hx9
        exact hKK.2 i x hx9
      · rw [List.getElem?_append_right (by omega)] at hx9
        have hz : i - tys.length < 1 := (List.getElem?_eq_some_iff.mp hx9).1
        rw [show i - tys.length = 0 by omega] at hx9
        cases hx9
        exact ⟨fun n z => ⟨fun k h => (by cases h), ky, f2, compy, f3⟩, f1⟩⟩
    have e8 : (FieldType.array (.array .int)).toString = "[" ++ (FieldType.array .int).toString := rfl
    refine va_mna (X := ws) (L := []) (f := fun _ => .inr (0, [])) (N' := 1) (K' := 0) (n := 1) (k := 0) (z := (0, .inr (.inr (.inr (.inr (fun _ => none)))))) hx hb hown (hts _ w1) hG.2.2.2.2.2.2.2.2.2 wac (cy := cy) (by rw [e8]; exact f1) hKK2 (by rw [show va_pl [] (fun _ => (.inr (0, []) : va_E)) = [] from rfl, List.append_nil]; exact hP) (by rw [show va_pl [] (fun _ => (.inr (0, []) : va_E)) = [] from rfl, List.append_nil]; exact hD) hS hA (by decide) (by decide) (by decide) (by decide) (by decide) (by decide) (by decide) rfl rfl (by rw [hRm]; show ce + (1 + 1) ≤ MXC - c0; omega) (by rw [hRm]; show se + (1 + 1 * 0) ≤ MXS - s0; omega) (fun c => by show ({ cls := c, slots := Array.replicate 0 (defaultValue (.array .int)), vm := .none } : Cell) = _; exact arrV_new _ _ _) d (fun q r cA H1 hinj hnL hK1 hP1 hD1 hS1 => ?_)
    have eW : ((ws ++ [(q, .inl (cA, 1, .inr (.inr (.inr (.inr (fun i => if i < 1 then some (r i) else none))))))]) ++ va_pl ([] ++ (List.range 1).map r) (vr_up (fun _ => .inr (0, [])) ((List.range 1).map r) (.inl (cy, 0, .inr (.inr (.inr (.inr (fun _ => none))))))) : va_W) = ws ++ [(q, .inl (cA, 1, .inr (.inr (.inr (.inr (fun i => if i < 1 then some (r 0) else none)))))), (r 0, .inl (cy, 0, .inr (.inr (.inr (.inr (fun _ => none))))))] := by
      rw [List.append_assoc]
      have e1 : (fun i => if i < 1 then some (r i) else none : Nat → Option Nat) = fun i => if i < 1 then some (r 0) else none := funext fun i => by
        by_cases hi : i < 1
        · rw [if_pos hi, if_pos hi, show i = 0 by omega]
        · rw [if_neg hi, if_neg hi]
      rw [e1]
      have e2 : va_pl ([] ++ (List.range 1).map r) (vr_up (fun _ => .inr (0, [])) ((List.range 1).map r) (.inl (cy, 0, .inr (.inr (.inr (.inr (fun _ => none))))))) = [(r 0, (.inl (cy, 0, .inr (.inr (.inr (.inr (fun _ => none))))) : va_E))] := by
        unfold va_pl
        show [(r 0, vr_up _ [r 0] _ (r 0))] = _
        rw [vr_up_in (by simp)]
      rw [e2]
      rfl
    rw [eW] at hP1 hD1
    have hq0 : gK h q = 0 := fresh_of (i := ws.length) hI hC hD1 (Nat.le_refl _) (by rw [List.getElem?_append_right (Nat.le_refl _), Nat.sub_self]; rfl)
    have hr1 : (ws ++ [(q, .inl (cA, 1, .inr (.inr (.inr (.inr (fun i => if i < 1 then some (r 0) else none)))))), (r 0, .inl (cy, 0, .inr (.inr (.inr (.inr (fun _ => none))))))] : va_W)[ws.length + 1]? = some (r 0, .inl (cy, 0, .inr (.inr (.inr (.inr (fun _ => none)))))) := by
      rw [List.getElem?_append_right (by omega), show ws.length + 1 - ws.length = 1 by omega]
      rfl
    have hr0 : gK h (r 0) = 0 := fresh_of (i := ws.length + 1) hI hC hD1 (by omega) hr1
    have hne : r 0 ≠ q := fun e => by
      have := hD1.1 (ws.length + 1) ws.length _ _ hr1 (by rw [List.getElem?_append_right (Nat.le_refl _), Nat.sub_self]; rfl) e
      omega
    refine k9 q (r 0) hq0 hr0 hne pp ee RR ss mm aa bb me cc0 H1 lc lsC c0 s0 (ce + 1 + 1) (se + 1 + 1 * 0) C0 ⟨⟨fun a i => ?_, fun a => ?_, fun a => ?_, by show gC h + 1 + 1 ≤ _; omega, by show gS h + 0 + 1 ≤ _; omega⟩, _, _, hP1, hD1, hK1, inW_nw3 (cA := cA) (cy := cy) (t1 := (tys ++ [((cy, FieldType.array .int) : ClassId × FieldType)]).length) (t2 := tys.length) (inW_tys (inW_tys hI)) hne (by rw [List.getElem?_append_right (Nat.le_refl _), Nat.sub_self]; rfl) (by rw [List.getElem?_append_left (by simp), List.getElem?_append_right (Nat.le_refl _), Nat.sub_self]; rfl) rfl rfl⟩ (hC.congr fun b hb9 => ?_) hS1 hl (List.forall_mem_cons.mpr ⟨trivial, hor⟩) (by show gC h + 1 + 1 = _; omega) (by show gS h + 0 + 1 = _; omega)
    · unfold nw3; rw [gI_pR, gI_nw]; split; exact z_0; rw [gI_nw]; split; exact z_0; exact hok.1 a i
    · unfold nw3; rw [gL_pR, gL_nw]; split; omega; rw [gL_nw]; split; omega; exact hok.2.1 a
    · unfold nw3; rw [gK_pR, gK_nw]; split; omega; rw [gK_nw]; split; omega; exact hok.2.2.1 a
    · unfold nw3 at hb9
      rw [gK_pR, gK_nw] at hb9
      by_cases z1 : b = q
      · rw [if_pos z1] at hb9; omega
      · rw [if_neg z1, gK_nw] at hb9
        by_cases z2 : b = r 0
        · rw [if_pos z2] at hb9; omega
        · rw [if_neg z2] at hb9
          exact ⟨hb9, by unfold nw3; rw [gL_pR, gL_nw, if_neg z1, gL_nw, if_neg z2], fun i => by unfold nw3; rw [gI_pR, gI_nw, if_neg z1, gI_nw, if_neg z2]⟩
  · exact k9.elim
end SD6
