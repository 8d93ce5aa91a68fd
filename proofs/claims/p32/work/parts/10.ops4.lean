/-! SOUNDNESS of new int[n][m], arraycopy, Math, Object's constructor, returns, throws -/
theorem sum_cz : ∀ (r : List Zv), ((r.map cz).map (fun v => v.category)).sum = (r.map ctz).sum
  | [] => rfl
  | v :: r => by rw [List.map_cons, List.map_cons, List.map_cons, List.sum_cons, List.sum_cons, ctz_cz, sum_cz r]
section SD4
variable {G : GwT} {Md : Nat → MdT} {D : va_G} {A : Nat → Prop} {l : Launch}
theorem sd_max (m pc ix : Nat) (w1 : Cond.methodLink (mOwn (Md m)) ix Lib.Math.max.name ∈ mWs (Md m)) (w2 : Cond.static Lib.Math.max.name ∈ mWs (Md m)) (w3 : Cond.initialized "java/lang/Math" ∈ mWs (Md m)) (w4 : Cond.code Lib.Math.max.name Lib.Math.max.code 2 (some .int) ∈ mWs (Md m)) (hfr : 1 ≤ mFr (Md m)) (hlo : 21 ≤ mLo (Md m))
    (d : decode (mCod (Md m)) pc = .ok (.invokestatic ix, 3)) : SM G Md D A l m pc oMax := by
  refine ⟨mo_oMax, fun ls st h Q k pp ee RR ss mm aa bb me cc0 HH lc lsC c0 s0 ce se C0 hR hC hS hl ho hcu hsu => ?_⟩
  obtain ⟨⟨hx, hb, hml, hown, hts⟩, hr, hlk, hnm, het, hRm, htr, hA, hG⟩ := id C0
  have hok := hR.1
  unfold oMax at k
  split at k
  · next b a r =>
    obtain ⟨k0, k⟩ := gd_iff.mp k
    have k0 := Nat.le_of_ble_eq_true k0
    have oa : inR a := ho (zi a) (by simp)
    have ob : inR b := ho (zi b) (by simp)
    have hor : ∀ v ∈ r, okz v := fun v hv => ho v (by simp [hv])
    have e9 : (if Int32.ofInt a < Int32.ofInt b then Int32.ofInt b else Int32.ofInt a) = Int32.ofInt (if a < b then b else a) := by
      by_cases z : a < b
      · rw [if_pos z, if_pos ((z_lt oa ob).mpr z)]
      · rw [if_neg z, if_neg (fun q => z ((z_lt oa ob).mp q))]
    refine va_mmax hx hb (by rw [hml, hl.1]) hown (hts _ w1) (hts _ w2) (hts _ w3) (hts _ w4) (by rw [hRm]; exact hfr) (by rw [sum_cz, hRm]; show _ ≤ mLo (Md m); omega) (by rw [hRm]; show ce ≤ MXC - c0; have := hok.2.2.2.1; omega) (by rw [hRm]; show se ≤ MXS - s0; have := hok.2.2.2.2; omega) d ?_
    rw [e9]
    exact k pp ee RR ss mm aa bb me cc0 HH lc lsC c0 s0 ce se C0 hR hC hS hl (List.forall_mem_cons.mpr ⟨by show inR (if a < b then b else a); split; exact ob; exact oa, hor⟩) hcu hsu
  · exact k.elim
theorem sd_min (m pc ix : Nat) (w1 : Cond.methodLink (mOwn (Md m)) ix Lib.Math.min.name ∈ mWs (Md m)) (w2 : Cond.static Lib.Math.min.name ∈ mWs (Md m)) (w3 : Cond.initialized "java/lang/Math" ∈ mWs (Md m)) (w4 : Cond.code Lib.Math.min.name Lib.Math.min.code 2 (some .int) ∈ mWs (Md m)) (hfr : 1 ≤ mFr (Md m)) (hlo : 21 ≤ mLo (Md m))
    (d : decode (mCod (Md m)) pc = .ok (.invokestatic ix, 3)) : SM G Md D A l m pc oMin := by
  refine ⟨mo_oMin, fun ls st h Q k pp ee RR ss mm aa bb me cc0 HH lc lsC c0 s0 ce se C0 hR hC hS hl ho hcu hsu => ?_⟩
  obtain ⟨⟨hx, hb, hml, hown, hts⟩, hr, hlk, hnm, het, hRm, htr, hA, hG⟩ := id C0
  have hok := hR.1
  unfold oMin at k
  split at k
  · next b a r =>
    obtain ⟨k0, k⟩ := gd_iff.mp k
    have k0 := Nat.le_of_ble_eq_true k0
    have oa : inR a := ho (zi a) (by simp)
    have ob : inR b := ho (zi b) (by simp)
    have hor : ∀ v ∈ r, okz v := fun v hv => ho v (by simp [hv])
    have e9 : (if Int32.ofInt b < Int32.ofInt a then Int32.ofInt b else Int32.ofInt a) = Int32.ofInt (if b < a then b else a) := by
      by_cases z : b < a
      · rw [if_pos z, if_pos ((z_lt ob oa).mpr z)]
      · rw [if_neg z, if_neg (fun q => z ((z_lt ob oa).mp q))]
    refine va_mmin hx hb (by rw [hml, hl.1]) hown (hts _ w1) (hts _ w2) (hts _ w3) (hts _ w4) (by rw [hRm]; exact hfr) (by rw [sum_cz, hRm]; show _ ≤ mLo (Md m); omega) (by rw [hRm]; show ce ≤ MXC - c0; have := hok.2.2.2.1; omega) (by rw [hRm]; show se ≤ MXS - s0; have := hok.2.2.2.2; omega) d ?_
    rw [e9]
    exact k pp ee RR ss mm aa bb me cc0 HH lc lsC c0 s0 ce se C0 hR hC hS hl (List.forall_mem_cons.mpr ⟨by show inR (if b < a then b else a); split; exact ob; exact oa, hor⟩) hcu hsu
  · exact k.elim
theorem sd_abs (m pc ix : Nat) (w1 : Cond.methodLink (mOwn (Md m)) ix Lib.Math.abs.name ∈ mWs (Md m)) (w2 : Cond.static Lib.Math.abs.name ∈ mWs (Md m)) (w3 : Cond.initialized "java/lang/Math" ∈ mWs (Md m)) (w4 : Cond.code Lib.Math.abs.name Lib.Math.abs.code 1 (some .int) ∈ mWs (Md m)) (hfr : 1 ≤ mFr (Md m)) (hlo : 21 ≤ mLo (Md m))
    (d : decode (mCod (Md m)) pc = .ok (.invokestatic ix, 3)) : SM G Md D A l m pc oAbs := by
  refine ⟨mo_oAbs, fun ls st h Q k pp ee RR ss mm aa bb me cc0 HH lc lsC c0 s0 ce se C0 hR hC hS hl ho hcu hsu => ?_⟩
  obtain ⟨⟨hx, hb, hml, hown, hts⟩, hr, hlk, hnm, het, hRm, htr, hA, hG⟩ := id C0
  have hok := hR.1
  unfold oAbs at k
  split at k
  · next a r =>
    obtain ⟨k0, kr, k⟩ := gd_iff.mp k
    have k0 := Nat.le_of_ble_eq_true k0
    have oa : inR a := ho (zi a) (by simp)
    have hor : ∀ v ∈ r, okz v := fun v hv => ho v (by simp [hv])
    have e9 : (if 0 ≤ Int32.ofInt a then Int32.ofInt a else 0 - Int32.ofInt a) = Int32.ofInt (if a < 0 then -a else a) := by
      by_cases z : a < 0
      · rw [if_pos z, if_neg (fun q => by rw [z_0e, z_le z_0 oa] at q; omega), z_0e, ← Int32.ofInt_sub]
        congr 1
        omega
      · rw [if_neg z, if_pos (by rw [z_0e, z_le z_0 oa]; omega)]
    refine va_mabs hx hb (by rw [hml, hl.1]) hown (hts _ w1) (hts _ w2) (hts _ w3) (hts _ w4) (by rw [hRm]; exact hfr) (by rw [sum_cz, hRm]; show _ ≤ mLo (Md m); omega) (by rw [hRm]; show ce ≤ MXC - c0; have := hok.2.2.2.1; omega) (by rw [hRm]; show se ≤ MXS - s0; have := hok.2.2.2.2; omega) d ?_
    rw [e9]
    exact k pp ee RR ss mm aa bb me cc0 HH lc lsC c0 s0 ce se C0 hR hC hS hl (List.forall_mem_cons.mpr ⟨by show inR (if a < 0 then -a else a); split; exact kr; exact oa, hor⟩) hcu hsu
  · exact k.elim
theorem sd_obj (m pc ix : Nat) (w1 : Cond.methodLink (mOwn (Md m)) ix Lib.objectInit ∈ mWs (Md m)) (w2 : Cond.instanceMethod Lib.objectInit ∈ mWs (Md m)) (w3 : Cond.code Lib.objectInit ⟨#[0xb1]⟩ 1 none ∈ mWs (Md m)) (hfr : 1 ≤ mFr (Md m)) (hlo : 20 ≤ mLo (Md m))
    (d : decode (mCod (Md m)) pc = .ok (.invokespecial ix, 3)) : SM G Md D A l m pc oObj := by
  refine ⟨mo_oObj, fun ls st h Q k pp ee RR ss mm aa bb me cc0 HH lc lsC c0 s0 ce se C0 hR hC hS hl ho hcu hsu => ?_⟩
  obtain ⟨⟨hx, hb, hml, hown, hts⟩, hr, hlk, hnm, het, hRm, htr, hA, hG⟩ := id C0
  unfold oObj at k
  split at k
  · next a r =>
    replace k := gd_iff.mp k
    obtain ⟨k0, kn, k⟩ := k
    have k0 := Nat.le_of_ble_eq_true k0
    obtain ⟨a, rfl⟩ : ∃ b, a = some b := by cases a with | none => exact absurd rfl kn | some b => exact ⟨b, rfl⟩
    have hor : ∀ v ∈ r, okz v := fun v hv => ho v (by simp [hv])
    refine W.objInit hx hb hown (hts _ w1) (hts _ w2) (hts _ w3) rfl (by rw [hml]; exact hl.1) rfl d (by rw [hRm]; exact hfr) (by rw [sum_cz, hRm]; show 2 * 0 + _ + 12 ≤ mLo (Md m); omega) ?_
    exact k pp ee RR ss mm aa bb me cc0 HH lc lsC c0 s0 ce se C0 hR hC hS hl hor hcu hsu
  · exact k.elim
theorem okh_cpy {h : Zh} {s d : Nat} {sp dp n : Int} (ho : okh h) : okh (cpy h s sp d dp n) := ⟨fun b i => by rw [gI_cpy]; split <;> exact ho.1 _ _, ho.2.1, ho.2.2⟩
theorem sd_cpy (m pc ix : Nat) (w1 : Cond.methodLink (mOwn (Md m)) ix arraycopyName ∈ mWs (Md m)) (w2 : Cond.native arraycopyName ∈ mWs (Md m)) (w3 : Cond.static arraycopyName ∈ mWs (Md m)) (w4 : Cond.initialized "java/lang/System" ∈ mWs (Md m)) (hfr : 1 ≤ mFr (Md m)) (hlo : 8 + (nativeFrameWords "java/lang/System" "arraycopy" 5 + 11) ≤ mLo (Md m))
    (d : decode (mCod (Md m)) pc = .ok (.invokestatic ix, 3)) : SM G Md D A l m pc oCpy := by
  refine ⟨mo_oCpy, fun ls st h Q k pp ee RR ss mm aa bb me cc0 HH lc lsC c0 s0 ce se C0 hR hC hS hl ho hcu hsu => ?_⟩
  obtain ⟨⟨hx, hb, hml, hown, hts⟩, hr, hlk, hnm, het, hRm, htr, hA, hG⟩ := id C0
  unfold oCpy at k
  split at k
  · next n dp dr sp sr r =>
    obtain ⟨k0, ⟨⟨sa, rfl, hsa⟩, ⟨da, rfl, hda⟩, n0, sp0, dp0, hs1, hd1⟩, k⟩ := gd_iff.mp k
    have k0 := Nat.le_of_ble_eq_true k0
    have on : inR n := ho (zi n) (by simp)
    have od : inR dp := ho (zi dp) (by simp)
    have os : inR sp := ho (zi sp) (by simp)
    have hor : ∀ v ∈ r, okz v := fun v hv => ho v (by simp [hv])
    have hs1 : sp + n ≤ gL h sa := hs1
    have hd1 : dp + n ≤ gL h da := hd1
    obtain ⟨hok, ws, tys, hP, hD, hKK, hI⟩ := id hR
    obtain ⟨q0, e0, he0, hE0⟩ := hI sa (by omega) (by omega)
    obtain ⟨cA, t0, he2, ht0⟩ := isE_arr hE0 hsa (by omega)
    subst he2
    obtain ⟨q1, e1, he1, hE1⟩ := hI da (by omega) (by omega)
    obtain ⟨cB, t1, he3, ht1⟩ := isE_arr hE1 hda (by omega)
    subst he3
    refine va_copyi (ty := .int) hx hb (by rw [hml, hl.1]) hown (hts _ w1) (hts _ w2) (hts _ w3) (hts _ w4) hKK hP hD hS q0 q1 t0 t1 he0 he1 ht0 ht1 rfl (z_nneg os sp0) (z_nneg od dp0) (z_nneg on n0) (by rw [z_cl os, z_cl on]; omega) (by rw [z_cl od, z_cl on]; omega) (fun _ _ => rfl) (by rw [hRm]; exact hfr) (by rw [sum_cz, hRm]; show _ ≤ mLo (Md m); omega) d (fun H1 lc1 hP1 hD1 hS1 => ?_)
    rw [z_cl os, z_cl od, z_cl on] at hP1 hD1
    refine k pp ee RR ss mm aa bb me cc0 H1 lc1 lsC c0 s0 ce se C0 ⟨okh_cpy hok, _, tys, hP1, hD1, hKK, inW_set hI he1 (fun _ => rfl) (fun _ => rfl) (fun b nb j => by rw [gI_cpy, if_neg (fun z => nb z.1)]) (fun b nb j => rfl) (fun b nb j => rfl) (isE_mkA hda (by omega) cB t1 ?_ ht1)⟩ (hC.congr fun b hb9 => ⟨hb9, rfl, fun i => by rw [gI_cpy, if_neg (fun z => by have e5 : b = da := z.1; have e6 : gK h b = 15 := hb9; rw [e5, hda] at e6; omega)]⟩) hS1 hl hor hcu hsu
    refine congrArg Sum.inl (congrArg (Prod.mk cB) ?_)
    show ((gL h da).toNat, _) = ((gL h da).toNat, _)
    refine congrArg (Prod.mk _) (congrArg Sum.inl (funext fun j => ?_))
    show va_cpy (fun j : Nat => Int32.ofInt (gI h sa j)) (fun j : Nat => Int32.ofInt (gI h da j)) sp.toNat dp.toNat n.toNat j = Int32.ofInt (gI (cpy h sa sp da dp n) da j)
    rw [gI_cpy]
    unfold va_cpy
    by_cases z : dp.toNat ≤ j ∧ j < dp.toNat + n.toNat
    · rw [if_pos z, if_pos ⟨rfl, by omega, by omega⟩]
      show Int32.ofInt (gI h sa ((sp.toNat + (j - dp.toNat) : Nat) : Int)) = _
      rw [show ((sp.toNat + (j - dp.toNat) : Nat) : Int) = sp + (j - dp) by omega]
    · rw [if_neg z, if_neg (fun y => z (by have := y.2; omega))]
  · exact k.elim
theorem inW_nw2 {h : Zh} {tys : List (ClassId × FieldType)} {ws : va_W} {q : Nat} {r : Nat → Nat} {n : Nat} {k : Int} {cA cy : ClassId} {t1 t2 : Nat} {z : va_E} {f : Nat → va_E} (hI : inW h tys ws) (hn : ∀ i, i < n → r i ≠ q) (hfq : gK h q = 0) (hfr : ∀ i, i < n → gK h (r i) = 0)
    (h1 : tys[t1]? = some (cA, .array .int)) (h2 : tys[t2]? = some (cy, .int)) (hk : 0 ≤ k) (hz : z = .inl (cy, k.toNat, .inl (fun _ => 0))) :
    inW (nw2 h q r n k) tys ((ws ++ [(q, .inl (cA, n, .inr (.inr (.inr (.inr (fun i => if i < n then some (r i) else none))))))]) ++ va_pl ([] ++ (List.range n).map r) (vr_up f ((List.range n).map r) z)) := by
  have hmem : ∀ b, b ∈ (List.range n).map r → ∃ i, i < n ∧ r i = b := fun b hb => by
    obtain ⟨i, hi, rfl⟩ := List.mem_map.mp hb
    exact ⟨i, List.mem_range.mp hi, rfl⟩
  intro b h0 h15
  by_cases e1 : b = q
  · subst e1
    refine ⟨ws.length, _, by rw [List.getElem?_append_left (by simp), List.getElem?_append_right (Nat.le_refl _), Nat.sub_self]; rfl, ?_⟩
    refine isE_mkA (c := 14) (by rw [gK_nw2, if_pos rfl]) (by omega) cA t1 (congrArg Sum.inl (congrArg (Prod.mk cA) ?_)) h1
    show _ = ((gL (nw2 h b r n k) b).toNat, _)
    rw [gL_nw2, if_pos rfl, Int.toNat_natCast]
    refine congrArg (Prod.mk _) (congrArg (fun z => Sum.inr (Sum.inr (Sum.inr (Sum.inr z)))) (funext fun j => ?_))
    rw [gR_nw2, if_pos rfl]
    by_cases hj : j < n
    · rw [if_pos hj, if_pos (by omega), Int.toNat_natCast]
    · rw [if_neg hj, if_neg (by omega)]
  · by_cases e2 : b ∈ (List.range n).map r
    · obtain ⟨i, hi⟩ := List.getElem?_of_mem e2
      have e5 : ∀ y : va_E, ws.length + 1 + i - (ws ++ [(q, y)]).length = i := fun y => by simp <;> omega
      refine ⟨ws.length + 1 + i, z, ?_, ?_⟩
      · rw [List.getElem?_append_right (by simp <;> omega), e5]
        unfold va_pl
        rw [List.nil_append, List.getElem?_map, hi]
        show some (b, vr_up f _ z b) = _
        rw [vr_up_in e2]
      · subst hz
        refine isE_mkA (c := 10) (by rw [gK_nw2, if_neg e1, if_pos e2]) (by omega) cy t2 (congrArg Sum.inl (congrArg (Prod.mk cy) ?_)) h2
        show _ = ((gL (nw2 h q r n k) b).toNat, _)
        rw [gL_nw2, if_neg e1, if_pos e2]
        refine congrArg (Prod.mk _) (congrArg Sum.inl (funext fun j => ?_))
        rw [gI_nw2, if_pos (Or.inr e2)]
        rfl
    · have e3 : gK (nw2 h q r n k) b = gK h b := by rw [gK_nw2, if_neg e1, if_neg e2]
      rw [e3] at h0 h15
      obtain ⟨i, x, hx1, hx2⟩ := hI b h0 h15
      have hlt := (List.getElem?_eq_some_iff.mp hx1).1
      refine ⟨i, x, by rw [List.getElem?_append_left (by simp; omega), List.getElem?_append_left hlt]; exact hx1, isE_congr e3 (by rw [gL_nw2, if_neg e1, if_neg e2]) (fun j => by rw [gI_nw2, if_neg (fun y => y.elim e1 e2)]) (fun j => by rw [gR_nw2, if_neg e1, if_neg e2]) (fun j => by rw [gJ_nw2, if_neg (fun y => y.elim e1 e2)]) hx2⟩
theorem sd_new2 (m pc ix : Nat) (w1 : Cond.classLink (mOwn (Md m)) ix ("[" ++ (FieldType.array .int).toString) ∈ mWs (Md m)) (w2 : Cond.arrayClass .int ∈ mWs (Md m))
    (d : decode (mCod (Md m)) pc = .ok (.multianewarray ix 2, 4)) : SM G Md D A l m pc oNew2 := by
  refine ⟨mo_oNew2, fun ls st h Q k9 pp ee RR ss mm aa bb me cc0 HH lc lsC c0 s0 ce se C0 hR hC hS hl ho hcu hsu => ?_⟩
  obtain ⟨⟨hx, hb, hml, hown, hts⟩, hr, hlk, hnm, het, hRm, htr, hA, hG⟩ := id C0
  unfold oNew2 at k9
  split at k9
  · next k n t =>
    obtain ⟨⟨n0, n1, k0, k1, hc1, hc2⟩, k9⟩ := k9
    have on : inR n := ho (zi n) (by simp)
    have ok9 : inR k := ho (zi k) (by simp)
    have hor : ∀ v ∈ t, okz v := fun v hv => ho v (by simp [hv])
    obtain ⟨hok, ws, tys, hP, hD, hKK, hI⟩ := id hR
    obtain ⟨cy, ky, compy, f1, f2, f3⟩ := Cond.arrayClass_spec (hts _ w2)
    have hKK2 : va_K D vwCl (tys ++ [(cy, .int)]) ss := ⟨hKK.1, fun i x hx9 => by
      by_cases hl9 : i < tys.length
      · rw [List.getElem?_append_left hl9] at hx9
        exact hKK.2 i x hx9
      · rw [List.getElem?_append_right (by omega)] at hx9
        have hz : i - tys.length < 1 := (List.getElem?_eq_some_iff.mp hx9).1
        rw [show i - tys.length = 0 by omega] at hx9
        cases hx9
        exact ⟨fun n z => ⟨fun k h => (by cases h), ky, f2, compy, f3⟩, f1⟩⟩
    have b1 : k.toNat ≤ 1000 := by omega
    have b2 : n.toNat ≤ 1000 := by omega
    have e8 : (FieldType.array .int).toString = "[" ++ FieldType.int.toString := rfl
    refine va_mna (X := ws) (L := []) (f := fun _ => .inr (0, [])) (N' := n.toNat) (K' := k.toNat) (z := (k.toNat, .inl (fun _ => 0))) hx hb hown (hts _ w1) hG.2.2.2.2.2.2.2.2.1 (hts _ w2) (cy := cy) (by rw [e8]; exact f1) hKK2 (by rw [show va_pl [] (fun _ => (.inr (0, []) : va_E)) = [] from rfl, List.append_nil]; exact hP) (by rw [show va_pl [] (fun _ => (.inr (0, []) : va_E)) = [] from rfl, List.append_nil]; exact hD) hS hA (z_nneg on n0) (z_nneg ok9 k0) (z_cl on) (z_cl ok9) (by omega) (by show k.toNat * 4 ≤ _; omega) (by omega) rfl rfl (by rw [hRm]; show ce + (1 + n.toNat) ≤ MXC - c0; omega) (by rw [hRm]; show se + (n.toNat + n.toNat * k.toNat) ≤ MXS - s0; omega) (fun c => by show ({ cls := c, slots := Array.replicate k.toNat (defaultValue .int), vm := .none } : Cell) = _; rw [arrV_new]; rfl) d (fun q r cA H1 hinj hnL hK1 hP1 hD1 hS1 => ?_)
    have eP : ∀ (y : va_W), (ws ++ [(q, .inl (cA, n.toNat, .inr (.inr (.inr (.inr (fun i => if i < n.toNat then some (r i) else none))))))]) ++ y = ws ++ ([(q, .inl (cA, n.toNat, .inr (.inr (.inr (.inr (fun i => if i < n.toNat then some (r i) else none))))))] ++ y) := fun y => List.append_assoc _ _ _
    have hD2 := hD1
    rw [eP] at hD2
    have hq0 : gK h q = 0 := fresh_of (i := ws.length) hI hC hD2 (Nat.le_refl _) (by rw [List.getElem?_append_right (Nat.le_refl _), Nat.sub_self]; rfl)
    have hri : ∀ i, i < n.toNat → (((ws ++ [(q, .inl (cA, n.toNat, .inr (.inr (.inr (.inr (fun i => if i < n.toNat then some (r i) else none))))))]) ++ va_pl ([] ++ (List.range n.toNat).map r) (vr_up (fun _ => .inr (0, [])) ((List.range n.toNat).map r) (.inl (cy, (k.toNat, .inl (fun _ => 0)))))) : va_W)[ws.length + 1 + i]? = some (r i, .inl (cy, (k.toNat, .inl (fun _ => 0)))) := fun i hi => by
      rw [List.getElem?_append_right (by simp <;> omega)]
      rw [show ws.length + 1 + i - (ws ++ [(q, (.inl (cA, n.toNat, .inr (.inr (.inr (.inr (fun i => if i < n.toNat then some (r i) else none))))) : va_E))]).length = i by simp <;> omega]
      unfold va_pl
      rw [List.nil_append, List.getElem?_map, List.getElem?_map, List.getElem?_range hi]
      show some (r i, vr_up _ _ _ (r i)) = _
      rw [vr_up_in (List.mem_map.mpr ⟨i, List.mem_range.mpr hi, rfl⟩)]
    have hr0 : ∀ i, i < n.toNat → gK h (r i) = 0 ∧ r i ≠ q := fun i hi => by
      refine ⟨fresh_of (i := ws.length + 1 + i) hI hC hD2 (by omega) (by rw [← eP]; exact hri i hi), fun e => ?_⟩
      have := hD1.1 (ws.length + 1 + i) ws.length _ _ (hri i hi) (by rw [List.getElem?_append_left (by simp), List.getElem?_append_right (Nat.le_refl _), Nat.sub_self]; rfl) e
      omega
    refine k9 q r hq0 hr0 hinj pp ee RR ss mm aa bb me cc0 H1 lc lsC c0 s0 (ce + 1 + n.toNat) (se + n.toNat + n.toNat * k.toNat) C0 ⟨⟨fun a i => ?_, fun a => ?_, fun a => ?_, hc1, hc2⟩, _, _, hP1, hD1, hK1, inW_nw2 (cA := cA) (cy := cy) (t1 := (tys ++ [((cy, FieldType.int) : ClassId × FieldType)]).length) (t2 := tys.length) (inW_tys (inW_tys hI)) (fun i hi => (hr0 i hi).2) hq0 (fun i hi => (hr0 i hi).1) (by rw [List.getElem?_append_right (Nat.le_refl _), Nat.sub_self]; rfl) (by rw [List.getElem?_append_left (by simp), List.getElem?_append_right (Nat.le_refl _), Nat.sub_self]; rfl) k0 rfl⟩ (hC.congr fun b hb9 => ?_) hS1 hl (List.forall_mem_cons.mpr ⟨trivial, hor⟩) (by rw [gC_nw2]; omega) (by rw [gS_nw2]; omega)
    · rw [gI_nw2]; split; exact z_0; exact hok.1 a i
    · rw [gL_nw2]; split; omega; split; omega; exact hok.2.1 a
    · rw [gK_nw2]; split; omega; split; omega; exact hok.2.2.1 a
    · rw [gK_nw2] at hb9
      by_cases z1 : b = q
      · rw [if_pos z1] at hb9; omega
      · rw [if_neg z1] at hb9
        by_cases z2 : b ∈ (List.range n.toNat).map r
        · rw [if_pos z2] at hb9; omega
        · rw [if_neg z2] at hb9
          exact ⟨hb9, by rw [gL_nw2, if_neg z1, if_neg z2], fun i => by rw [gI_nw2, if_neg (fun y => y.elim z1 z2)]⟩
  · exact k9.elim
/-- from the kit's ends to ours -/
theorem end_ret {h : Zh} {Q : Zp} {s : State} {H : Heap} {locs : List Loc} {args : Array Value} {below : List Frame} {c0 s0 ce se : Nat} (hR : RH D A h s H) (hC : SC A h s) (hS : va_S A s.heap H locs) (hcu : gC h = c0 + ce) (hsu : gS h = s0 + se) {v : Option Zv} (hv : ∀ x, v = some x → okz x) (hQ : Q (.inl v) h) :
    ∀ t, MQ below (fun _ st o t => o = .returned (v.map cz) ∧ t.heap = H ∧ st.WarmedH t.vm) args s ce se A t → EndZ D A Q c0 s0 below s t := by
  rintro t ⟨o, c1, c2, ⟨rfl, hh, hW⟩, L, hF, hL⟩
  refine ⟨_, c1, c2, Or.inl ⟨v, h, L, rfl, hv, hQ, by rw [hh]; exact hR.moved hW.alike, SC.fwd hW.alike (by rw [hh]; exact hS.1) (fun a h1 h2 => by rw [hh]; exact hS.2.1 a h1 h2) hC, hS.F hh, by omega, by omega, ?_, hL⟩⟩
  rw [show gC h - c0 = ce by omega, show gS h - s0 = se by omega]
  exact hF
theorem sd_iret (m pc : Nat) (hret : mRet (Md m) = some .int) (d : decode (mCod (Md m)) pc = .ok (.ireturn, 1)) : SM G Md D A l m pc oRetI := by
  refine ⟨mo_oRetI, fun ls st h Q k pp ee RR ss mm aa bb me cc0 HH lc lsC c0 s0 ce se C0 hR hC hS hl ho hcu hsu => ?_⟩
  obtain ⟨⟨hx, hb, hml, hown, hts⟩, hr, hlk, hnm, het, hRm, htr, hA, hG⟩ := id C0
  unfold oRetI at k
  split at k
  · next x =>
    exact W_mo (end_ret hR hC hS hcu hsu (v := some (zi x)) (fun y e => by cases e; exact ho _ List.mem_cons_self) k) (W.iret hx hb (by rw [hr, hret]) (fun t h1 h2 => ⟨rfl, h1, h2⟩) hS.2.2 d hlk)
  · exact k.elim
theorem sd_zret (m pc : Nat) (hret : mRet (Md m) = some .boolean) (d : decode (mCod (Md m)) pc = .ok (.ireturn, 1)) : SM G Md D A l m pc oRetZ := by
  refine ⟨mo_oRetZ, fun ls st h Q k pp ee RR ss mm aa bb me cc0 HH lc lsC c0 s0 ce se C0 hR hC hS hl ho hcu hsu => ?_⟩
  obtain ⟨⟨hx, hb, hml, hown, hts⟩, hr, hlk, hnm, het, hRm, htr, hA, hG⟩ := id C0
  unfold oRetZ at k
  split at k
  · next x =>
    obtain ⟨h01, k⟩ := k
    exact W_mo (end_ret hR hC hS hcu hsu (v := some (zi x)) (fun y e => by cases e; exact ho _ List.mem_cons_self) k) (W.zret hx hb (by rw [hr, hret]) (by rcases h01 with rfl | rfl <;> rfl) (fun t h1 h2 => ⟨rfl, h1, h2⟩) hS.2.2 d hlk)
  · exact k.elim
theorem sd_lret (m pc : Nat) (hret : mRet (Md m) = some .long) (d : decode (mCod (Md m)) pc = .ok (.lreturn, 1)) : SM G Md D A l m pc oRetL := by
  refine ⟨mo_oRetL, fun ls st h Q k pp ee RR ss mm aa bb me cc0 HH lc lsC c0 s0 ce se C0 hR hC hS hl ho hcu hsu => ?_⟩
  obtain ⟨⟨hx, hb, hml, hown, hts⟩, hr, hlk, hnm, het, hRm, htr, hA, hG⟩ := id C0
  unfold oRetL at k
  split at k
  · next x =>
    exact W_mo (end_ret hR hC hS hcu hsu (v := some (zl x)) (fun y e => by cases e; trivial) k) (W.lret hx hb (by rw [hr, hret]) (fun t h1 h2 => ⟨rfl, h1, h2⟩) hS.2.2 d hlk)
  · exact k.elim
theorem sd_dret (m pc : Nat) (hret : mRet (Md m) = some .double) (d : decode (mCod (Md m)) pc = .ok (.dreturn, 1)) : SM G Md D A l m pc oRetD := by
  refine ⟨mo_oRetD, fun ls st h Q k pp ee RR ss mm aa bb me cc0 HH lc lsC c0 s0 ce se C0 hR hC hS hl ho hcu hsu => ?_⟩
  obtain ⟨⟨hx, hb, hml, hown, hts⟩, hr, hlk, hnm, het, hRm, htr, hA, hG⟩ := id C0
  unfold oRetD at k
  split at k
  · next x =>
    exact W_mo (end_ret hR hC hS hcu hsu (v := some (zd x)) (fun y e => by cases e; trivial) k) (W.dret hx hb (by rw [hr, hret]) (fun t h1 h2 => ⟨rfl, h1, h2⟩) hS.2.2 d hlk)
  · exact k.elim
theorem sd_aret (m pc : Nat) {rt : FieldType} (hret : mRet (Md m) = some rt) (hrt : (∃ n, rt = .object n) ∨ ∃ t, rt = .array t) (d : decode (mCod (Md m)) pc = .ok (.areturn, 1)) : SM G Md D A l m pc oRetR := by
  refine ⟨mo_oRetR, fun ls st h Q k pp ee RR ss mm aa bb me cc0 HH lc lsC c0 s0 ce se C0 hR hC hS hl ho hcu hsu => ?_⟩
  obtain ⟨⟨hx, hb, hml, hown, hts⟩, hr, hlk, hnm, het, hRm, htr, hA, hG⟩ := id C0
  unfold oRetR at k
  split at k
  · next x =>
    exact W_mo (end_ret hR hC hS hcu hsu (v := some (zr x)) (fun y e => by cases e; trivial) k) (W.aret hx hb (by rw [hr, hret]) hrt (by cases x; exact Or.inl rfl; exact Or.inr ⟨_, rfl⟩) (fun t h1 h2 => ⟨rfl, h1, h2⟩) hS.2.2 d hlk)
  · exact k.elim
theorem sd_vret (m pc : Nat) (hret : mRet (Md m) = none) (d : decode (mCod (Md m)) pc = .ok (.return_, 1)) : SM G Md D A l m pc oRetV := by
  refine ⟨mo_oRetV, fun ls st h Q k pp ee RR ss mm aa bb me cc0 HH lc lsC c0 s0 ce se C0 hR hC hS hl ho hcu hsu => ?_⟩
  obtain ⟨⟨hx, hb, hml, hown, hts⟩, hr, hlk, hnm, het, hRm, htr, hA, hG⟩ := id C0
  unfold oRetV at k
  split at k
  · exact W_mo (end_ret hR hC hS hcu hsu (v := none) (fun y e => by cases e) k) (W.vret hx hb (by rw [hr, hret]) (fun t h1 h2 => ⟨rfl, h1, h2⟩) hS.2.2 d hlk)
  · exact k.elim
/-- the superclasses of what is thrown, below Throwable -/
def xsup : List String := ["java/lang/RuntimeException", "java/lang/Exception"]
theorem RH_tk {h : Zh} {s t : State} {H : Heap} (hR : RH D A h s H) (hvm : s.vm.Alike t.vm) (hk : ∀ q : Nat, q < H.size → t.heap[q]? = H[q]?) (h1 : gC h + 1 ≤ MXC) (h2 : gS h + 6 ≤ MXS) : RH D A (tk h) t t.heap := by
  obtain ⟨hok, ws, tys, hP, hD, hKK, hI⟩ := hR
  exact ⟨⟨hok.1, hok.2.1, hok.2.2.1, h1, h2⟩, ws, tys, hP.kept (fun k x hx => hk x.1 ((hP k x hx).lt)), hD, hKK.moved hvm, fun a ha hb => by
    obtain ⟨i, e, g1, g2⟩ := hI a ha hb
    exact ⟨i, e, g1, isE_congr rfl rfl (fun _ => rfl) (fun _ => rfl) (fun _ => rfl) g2⟩⟩
theorem end_thr {h : Zh} {Q : Zp} {s : State} {H : Heap} {locs : List Loc} {args : Array Value} {below : List Frame} {c0 s0 ce se e : Nat} (hR : RH D A h s H) (hC : SC A h s) (hS : va_S A s.heap H locs) (hcu : gC h = c0 + ce) (hsu : gS h = s0 + se) (h1 : gC h + 1 ≤ MXC) (h2 : gS h + 6 ≤ MXS) (hQ : Q (.inr e) (tk h)) :
    ∀ t, vx_MQ below (fun _ _ _ _ => False) (fun E st t => E = xcl e ∧ st.vm.Alike t.vm ∧ H.size ≤ t.heap.size ∧ ∀ q : Nat, q < H.size → t.heap[q]? = H[q]?) args s (ce + 1) (se + 6) A t → EndZ D A Q c0 s0 below s t := by
  rintro t ⟨o, c1, c2, ⟨hf, -⟩ | ⟨q, rfl, E, cell, L, ⟨rfl, hvm, hsz, hk⟩, hq, hv, hcl, hW, hsm, hL⟩⟩
  · exact hf.elim
  · have hk2 : ∀ a : Nat, a < s.heap.size → ¬ A a → t.heap[a]? = s.heap[a]? := fun a g1 g2 => by rw [hk a (Nat.lt_of_lt_of_le g1 hS.1)]; exact hS.2.1 a g1 g2
    refine ⟨_, c1, c2, Or.inr ⟨q, e, cell, rfl, ⟨tk h, L, hQ, RH_tk hR hvm hk h1 h2, SC.fwd hvm (Nat.le_trans hS.1 hsz) hk2 (hC.congr fun b hb => ⟨hb, rfl, fun i => rfl⟩), ⟨Nat.le_trans hS.1 hsz, hk2⟩, by rw [gC_tk]; omega, by rw [gS_tk]; omega, ?_, hL⟩, hq, hv, hcl, hW⟩⟩
    rw [show gC (tk h) - c0 = ce + 1 by rw [gC_tk]; omega, show gS (tk h) - s0 = se + 6 by rw [gS_tk]; omega]
    exact hsm
theorem sd_thr (m pc e ik is ic : Nat) (text : String) (hcls : Bundle.fit (xcl e) = true) (hnames : ∀ n ∈ xsup, Bundle.fit n = true) (w1 : Cond.classLink (mOwn (Md m)) ik (xcl e) ∈ mWs (Md m)) (w2 : Cond.initialized (xcl e) ∈ mWs (Md m)) (w3 : (mOwn (Md m), is, text) ∈ G.1)
    (hat : ∀ w ∈ vx_atS (mOwn (Md m)) ic (xcl e) xsup, w ∈ mWs (Md m) ∨ (∃ q ∈ G.2.2.1, w = .castable q.1 q.2) ∨ ∃ q ∈ G.2.2.2.2.2, w = .declares q) (hgood : ∀ w ∈ Cond.classLink (mOwn (Md m)) ik (xcl e) :: Cond.initialized (xcl e) :: vx_atS (mOwn (Md m)) ic (xcl e) xsup, vx_ot w = true) (hfr : 6 ≤ mFr (Md m)) (hlo : 90 ≤ mLo (Md m)) (hhh : mHH (Md m) = [])
    (d0 : decode (mCod (Md m)) pc = .ok (.new ik, 3)) (d3 : decode (mCod (Md m)) (pc + 3) = .ok (.dup, 1)) (d4 : decode (mCod (Md m)) (pc + 4) = .ok (.ldc is, 2)) (d6 : decode (mCod (Md m)) (pc + 6) = .ok (.invokespecial ic, 3)) (d9 : decode (mCod (Md m)) (pc + 9) = .ok (.athrow, 1)) : SM G Md D A l m pc (oThr e) := by
  refine ⟨mo_oThr e, fun ls st h Q k pp ee RR ss mm aa bb me cc0 HH lc lsC c0 s0 ce se C0 hR hC hS hl ho hcu hsu => ?_⟩
  obtain ⟨⟨hx, hb, hml, hown, hts⟩, hr, hlk, hnm, het, hRm, htr, hA, hG⟩ := id C0
  obtain ⟨k0, ⟨k1, k2⟩, k⟩ := gd_iff.mp k
  have k0 := Nat.le_of_ble_eq_true k0
  obtain ⟨sa, hsa⟩ := hG.2.2.1 _ w3
  refine W_mo (end_thr hR hC hS hcu hsu k1 k2 k) (vx_throwS (A := A) hx hb htr hown hcls hnames (hts _ w1) (hts _ w2) hsa (fun w hw => ?_) hgood hG.1 hG.2.1 hS (by rw [hml]; exact hl.1) d0 d3 d4 d6 d9 (fun x hx9 => by rw [het, hhh] at hx9; cases hx9) (by rw [hRm]; show xsup.length + 3 < mFr (Md m); simp [xsup]; omega) (by rw [sum_cz, hRm]; show _ ≤ mLo (Md m); simp [xsup]; omega) (by rw [hRm]; show ce + 1 ≤ MXC - c0; omega) (by rw [hRm]; show se + 6 ≤ MXS - s0; omega) hlk (fun t g1 g2 g3 => ⟨rfl, g1, g2, g3⟩) hS.2.2 (Nat.le_refl _) (Nat.le_refl _))
  rcases hat w hw with g | ⟨q, g1, rfl⟩ | ⟨q, g1, rfl⟩
  · exact hts _ g
  · exact va_tabs rfl rfl (hG.2.2.2.2.1.1 q g1)
  · exact va_tabs rfl rfl (hG.2.2.2.2.1.2 q g1)
theorem sd_thrW (m pc e ik is ic : Nat) (text : String) (hcls : Bundle.fit (xcl e) = true) (hnames : ∀ n ∈ xsup, Bundle.fit n = true) (w1 : Cond.classLink (mOwn (Md m)) ik (xcl e) ∈ mWs (Md m)) (w2 : Cond.initialized (xcl e) ∈ mWs (Md m)) (w3 : (mOwn (Md m), is, text) ∈ G.1)
    (hat : ∀ w ∈ vx_atS (mOwn (Md m)) ic (xcl e) xsup, w ∈ mWs (Md m) ∨ (∃ q ∈ G.2.2.1, w = .castable q.1 q.2) ∨ ∃ q ∈ G.2.2.2.2.2, w = .declares q) (hgood : ∀ w ∈ Cond.classLink (mOwn (Md m)) ik (xcl e) :: Cond.initialized (xcl e) :: vx_atS (mOwn (Md m)) ic (xcl e) xsup, vx_ot w = true) (hfr : 6 ≤ mFr (Md m)) (hlo : 90 ≤ mLo (Md m)) (hhh : mHH (Md m) = [])
    (d0 : decode (mCod (Md m)) pc = .ok (.new ik, 3)) (d3 : decode (mCod (Md m)) (pc + 3) = .ok (.dup, 1)) (d4 : decode (mCod (Md m)) (pc + 4) = .ok (.ldc_w is, 3)) (d6 : decode (mCod (Md m)) (pc + 7) = .ok (.invokespecial ic, 3)) (d9 : decode (mCod (Md m)) (pc + 10) = .ok (.athrow, 1)) : SM G Md D A l m pc (oThr e) := by
  refine ⟨mo_oThr e, fun ls st h Q k pp ee RR ss mm aa bb me cc0 HH lc lsC c0 s0 ce se C0 hR hC hS hl ho hcu hsu => ?_⟩
  obtain ⟨⟨hx, hb, hml, hown, hts⟩, hr, hlk, hnm, het, hRm, htr, hA, hG⟩ := id C0
  obtain ⟨k0, ⟨k1, k2⟩, k⟩ := gd_iff.mp k
  have k0 := Nat.le_of_ble_eq_true k0
  obtain ⟨sa, hsa⟩ := hG.2.2.1 _ w3
  refine W_mo (end_thr hR hC hS hcu hsu k1 k2 k) (vx_throwSW (A := A) hx hb htr hown hcls hnames (hts _ w1) (hts _ w2) hsa (fun w hw => ?_) hgood hG.1 hG.2.1 hS (by rw [hml]; exact hl.1) d0 d3 d4 d6 d9 (fun x hx9 => by rw [het, hhh] at hx9; cases hx9) (by rw [hRm]; show xsup.length + 3 < mFr (Md m); simp [xsup]; omega) (by rw [sum_cz, hRm]; show _ ≤ mLo (Md m); simp [xsup]; omega) (by rw [hRm]; show ce + 1 ≤ MXC - c0; omega) (by rw [hRm]; show se + 6 ≤ MXS - s0; omega) hlk (fun t g1 g2 g3 => ⟨rfl, g1, g2, g3⟩) hS.2.2 (Nat.le_refl _) (Nat.le_refl _))
  rcases hat w hw with g | ⟨q, g1, rfl⟩ | ⟨q, g1, rfl⟩
  · exact hts _ g
  · exact va_tabs rfl rfl (hG.2.2.2.2.1.1 q g1)
  · exact va_tabs rfl rfl (hG.2.2.2.2.1.2 q g1)
end SD4
