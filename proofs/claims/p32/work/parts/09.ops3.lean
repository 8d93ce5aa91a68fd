/-! SOUNDNESS of the instructions that make things -/
section SDB
variable {p : Program} {l : Launch} {e : Env} {R : Room} {s : State} {m : MethodId} {args : Array Value} {below : List Frame} {meth : Method} {c : Code} {H : Heap} {locs : List Loc} {cells slots : Nat} {Q : State → Prop}
variable {cc : ByteArray} {pc : Nat} {ls : Array Slot} {rest : List Value} {D : va_G} {cl : List vw_C} {A : Nat → Prop} {a : Nat} {tys : List (ClassId × FieldType)} {ws : va_W} {H0 : Heap}
/-- a row of int arrays, by an instruction of one length -/
theorem va_newA2 {et : FieldType} (hexec : p.tables.exec = Jvm.exec) (hb : c.code = cc) {own : String} {index : Nat} (hown : s.vm.findClass own = some m.cls) (hclink : (Cond.classLink own index (FieldType.array et).toString).before args s = true) (hover : va_AOA et s) (hK : va_K D cl tys s) (hP : va_P D cl ws H) (hD : va_D A ws) (hS : va_S A H0 H locs) (hA : ∀ q, H0.size ≤ q → A q)
    {n : Int32} {N' : Nat} (hn : ¬ n < 0) (hN : n.toNatClampNeg = N') (hbytes : N' * 4 ≤ 536870912) (hcells : cells + 1 ≤ R.cells) (hslots : slots + N' ≤ R.slots) (hdg : decode cc pc = .ok (.anewarray index, 3))
    (kk : ∀ (q : Nat) (cA : ClassId) (H1 : Heap), va_K D cl (tys ++ [(cA, .array et)]) s → va_P D cl (ws ++ [(q, .inl (cA, N', .inr (.inr (.inr (.inr (fun _ => none))))))]) H1 → va_D A (ws ++ [(q, .inl (cA, N', .inr (.inr (.inr (.inr (fun _ => none))))))]) → va_S A H0 H1 locs →
      W p l e R s m args below meth c H1 locs (cells + 1) (slots + N') Q (F0 m (pc + 3) ls (.ref q :: rest))) : W p l e R s m args below meth c H locs cells slots Q (F0 m pc ls (.int n :: rest)) := by
  subst hN
  refine W.anewA hexec hb hown hclink (va_AOA.use hover) rfl hdg rfl hn hbytes hcells hslots fun cA kA comp f1 f2 f3 f4 => ?_
  generalize hH1 : H.push ({ cls := cA, slots := Array.replicate n.toNatClampNeg .null, vm := .none } : Cell) = H1
  have z1 : H1.size = H.size + 1 := by rw [← hH1, Array.size_push]
  have o1 : ∀ q : Nat, q < H.size → H1[q]? = H[q]? := fun q hq => by rw [← hH1, Array.getElem?_push, if_neg (Nat.ne_of_lt hq)]
  have e1 : H1[H.size]? = some (vp_cell cA (n.toNatClampNeg, .inr (.inr (.inr (.inr (fun _ => none)))))) := by
    rw [← hH1, Array.getElem?_push, if_pos rfl, vp_cell_q]
    rw [arrV_new]
    rfl
  refine kk H.size cA H1 ⟨hK.1, fun k x hx => ?_⟩ ((hP.kept (fun k x hx => o1 x.1 ((hP k x hx).lt))).app (fun k x hx => ?_)) (hD.push hP rfl (hA _ hS.1)) ⟨Nat.le_trans hS.1 (by omega), fun x h1 h2 => (o1 x (Nat.lt_of_lt_of_le h1 hS.1)).trans (hS.2.1 x h1 h2), hS.2.2⟩
  · by_cases hl : k < tys.length
    · rw [List.getElem?_append_left hl] at hx
      exact hK.2 k x hx
    · rw [List.getElem?_append_right (by omega)] at hx
      have hz : k - tys.length < 1 := (List.getElem?_eq_some_iff.mp hx).1
      rw [show k - tys.length = 0 by omega] at hx
      cases hx
      exact ⟨fun n z => ⟨fun k h => (by cases h), kA, f2, comp, f3⟩, f1⟩
  · have hz : k < 1 := (List.getElem?_eq_some_iff.mp hx).1
    rw [show k = 0 by omega] at hx
    cases hx
    exact e1
end SDB
theorem isE_tys {h : Zh} {tys tz : List (ClassId × FieldType)} {b : Nat} {e : va_E} (k : isE h tys b e) : isE h (tys ++ tz) b e := ⟨k.1, fun z => by
  obtain ⟨cA, t, h1, h2⟩ := k.2 z
  exact ⟨cA, t, h1, by rw [List.getElem?_append_left (List.getElem?_eq_some_iff.mp h2).1]; exact h2⟩⟩
theorem inW_tys {h : Zh} {tys tz : List (ClassId × FieldType)} {ws : va_W} (k : inW h tys ws) : inW h (tys ++ tz) ws := fun a h1 h2 => by
  obtain ⟨i, e, h3, h4⟩ := k a h1 h2
  exact ⟨i, e, h3, isE_tys h4⟩
/-- what lies in the world isn't new -/
theorem fresh_of {h : Zh} {A : Nat → Prop} {tys : List (ClassId × FieldType)} {ws wx : va_W} {s : State} {i q : Nat} {x : va_E} (hI : inW h tys ws) (hC : SC A h s) (hD : va_D A (ws ++ wx)) (hi : ws.length ≤ i) (hq : (ws ++ wx)[i]? = some (q, x)) : gK h q = 0 := by
  refine Decidable.byContradiction fun n0 => ?_
  by_cases n1 : gK h q = 15
  · exact (hC q n1).1 (hD.2 i _ hq)
  · obtain ⟨k, e, h1, -⟩ := hI q n0 n1
    have hk : k < ws.length := (List.getElem?_eq_some_iff.mp h1).1
    have h2 : (ws ++ wx)[k]? = some (q, e) := by rw [List.getElem?_append_left hk]; exact h1
    have := hD.1 k i _ _ h2 hq rfl
    omega
theorem inW_push {h : Zh} {tys : List (ClassId × FieldType)} {ws : va_W} {q kd : Nat} {n : Int} {e : va_E} (hI : inW h tys ws) (hE : isE (nw h q kd n) tys q e) : inW (nw h q kd n) tys (ws ++ [(q, e)]) := by
  intro b h0 h1
  by_cases z : b = q
  · subst z
    exact ⟨ws.length, e, by rw [List.getElem?_append_right (Nat.le_refl _), Nat.sub_self]; rfl, hE⟩
  · have e1 : gK (nw h q kd n) b = gK h b := by rw [gK_nw, if_neg z]
    rw [e1] at h0 h1
    obtain ⟨k, x, h2, h3⟩ := hI b h0 h1
    refine ⟨k, x, by rw [List.getElem?_append_left (List.getElem?_eq_some_iff.mp h2).1]; exact h2, isE_congr e1 (by rw [gL_nw, if_neg z]) (fun i => by rw [gI_nw, if_neg z]) (fun i => by rw [gR_nw, if_neg z]) (fun i => by rw [gJ_nw, if_neg z]) h3⟩
theorem okh_nw {h : Zh} {q c : Nat} {n : Int} (ho : okh h) (hc : c ≤ 7 ∨ (10 ≤ c ∧ c ≤ 16)) (hn : 0 ≤ n ∧ n ≤ 1000000) (h1 : gC h + 1 ≤ MXC) (h2 : gS h + n.toNat ≤ MXS) : okh (nw h q c n) := ⟨fun a i => by rw [gI_nw]; split; exact z_0; exact ho.1 a i, fun a => by rw [gL_nw]; split; exact hn; exact ho.2.1 a, fun a => by rw [gK_nw]; split; exact hc; exact ho.2.2.1 a, h1, h2⟩
theorem SC_nw {A : Nat → Prop} {h : Zh} {q c : Nat} {n : Int} {s : State} (hC : SC A h s) (hc : c ≠ 15) : SC A (nw h q c n) s := hC.congr fun b hb => by
  have z : b ≠ q := fun z => hc (by rw [gK_nw, if_pos z] at hb; exact hb)
  rw [gK_nw, if_neg z] at hb
  exact ⟨hb, by rw [gL_nw, if_neg z], fun i => by rw [gI_nw, if_neg z]⟩
theorem gK_nws (h : Zh) (q c : Nat) (n : Int) : gK (nw h q c n) q = c := by rw [gK_nw, if_pos rfl]
theorem encF_nw (h : Zh) (q c : Nat) (n : Int) : encF (nw h q c n) q c = (List.range (nF c)).map (fun k => if fR c k = true then Value.null else Value.int 0) := by
  unfold encF
  refine List.map_congr_left fun k _ => ?_
  rw [gR_nw, gI_nw, if_pos rfl, if_pos rfl]
  rfl
section SD3
variable {G : GwT} {Md : Nat → MdT} {D : va_G} {A : Nat → Prop} {l : Launch}
theorem sd_new (m pc : Nat) (c ix : Nat) (C : String) (T : u_T) (N : Nat) (hcl : vwCl[c - 1]? = some (C, T, N)) (hc : 1 ≤ c ∧ c ≤ 7) (hN : nF c = N) (hin : ∀ w ∈ u_ws C T N, w ∈ mWs (Md m)) (ty0 : Nat → FieldType) (hty : ∀ k, k < N → parseFieldDescriptor (T k).2.2.1 = some (ty0 k)) (hdf : ∀ j, j < N → defaultValue (ty0 j) = if fR c j = true then Value.null else Value.int 0)
    (w1 : Cond.classLink (mOwn (Md m)) ix C ∈ mWs (Md m)) (w2 : Cond.instantiable C N ∈ mWs (Md m)) (w3 : Cond.initialized C ∈ mWs (Md m)) (hN2 : N ≤ 1000)
    (d : decode (mCod (Md m)) pc = .ok (.new ix, 3)) : SM G Md D A l m pc (oNew c N) := by
  refine ⟨mo_oNew c N, fun ls st h Q k pp ee RR ss mm aa bb me cc0 HH lc lsC c0 s0 ce se C0 hR hC hS hl ho hcu hsu => ?_⟩
  obtain ⟨⟨hx, hb, hml, hown, hts⟩, hr, hlk, hnm, het, hRm, htr, hA, hG⟩ := id C0
  unfold oNew at k
  obtain ⟨⟨k1, k2⟩, k⟩ := k
  obtain ⟨hok, ws, tys, hP, hD, hKK, hI⟩ := id hR
  have r1 : RR.cells = MXC - c0 := by rw [hRm]; rfl
  have r2 : RR.slots = MXS - s0 := by rw [hRm]; rfl
  refine va_new hx hb hts hin ty0 hty hown (hts _ w1) (hts _ w2) (hts _ w3) hKK hP hD hS hA hcl (fs := (List.range (nF c)).map (fun k => if fR c k = true then Value.null else Value.int 0)) (fun j hj => ?_) (by omega) (by omega) d (fun q H1 hP1 hD1 hS1 => ?_)
  · rw [hdf j hj]
    unfold vp_V
    rw [List.getD_eq_getElem?_getD, List.getElem?_map, List.getElem?_range (by omega)]
    rfl
  · have hf : gK h q = 0 := fresh_of hI hC hD1 (Nat.le_refl _) (by rw [List.getElem?_append_right (Nat.le_refl _), Nat.sub_self]; rfl)
    refine k q hf pp ee RR ss mm aa bb me cc0 H1 lc lsC c0 s0 (ce + 1) (se + N) C0 ⟨okh_nw hok (Or.inl hc.2) (by omega) k1 (by rw [Int.toNat_natCast]; exact k2), _, tys, hP1, hD1, hKK, inW_push hI (isE_mkO (c := c) (gK_nws _ _ _ _) hc.2 (by rw [encF_nw]))⟩ (SC_nw hC (by omega)) hS1 hl (List.forall_mem_cons.mpr ⟨trivial, ho⟩) (by rw [gC_nw]; omega) (by rw [gS_nw, Int.toNat_natCast]; omega)
theorem sd_newA (m pc : Nat) (c : Nat) (at0 : ArrayType) (hat : (at0 = .int ∧ c = 10) ∨ (at0 = .long ∧ c = 11) ∨ (at0 = .boolean ∧ c = 12)) (w1 : Cond.arrayClass (newarray.typeOf at0) ∈ mWs (Md m))
    (d : decode (mCod (Md m)) pc = .ok (.newarray at0, 2)) : SM G Md D A l m pc (oNewA c 2) := by
  refine ⟨mo_oNewA c 2, fun ls st h Q k pp ee RR ss mm aa bb me cc0 HH lc lsC c0 s0 ce se C0 hR hC hS hl ho hcu hsu => ?_⟩
  obtain ⟨⟨hx, hb, hml, hown, hts⟩, hr, hlk, hnm, het, hRm, htr, hA, hG⟩ := id C0
  unfold oNewA at k
  split at k
  · next n t =>
    obtain ⟨on, ho⟩ := List.forall_mem_cons.mp ho
    obtain ⟨⟨k0, k3, k1, k2⟩, k⟩ := k
    obtain ⟨hok, ws, tys, hP, hD, hKK, hI⟩ := id hR
    have r1 : RR.cells = MXC - c0 := by rw [hRm]; rfl
    have r2 : RR.slots = MXS - s0 := by rw [hRm]; rfl
    have fin : ∀ (q : Nat) (cA : ClassId) (H1 : Heap) (a0 : vp_A), va_K D vwCl (tys ++ [(cA, akT c)]) ss → va_P D vwCl (ws ++ [(q, .inl (cA, a0))]) H1 → va_D A (ws ++ [(q, .inl (cA, a0))]) → va_S A ss.heap H1 lc → akE (nw h q c n) q c = a0 → 10 ≤ c → c ≤ 12 →
        W pp l ee RR ss mm aa bb me cc0 H1 lc (ce + 1) (se + n.toNat) (EndZ D A Q c0 s0 bb ss) (F0 mm (pc + 2) lsC (.ref q :: t.map cz)) := by
      intro q cA H1 a0 hK1 hP1 hD1 hS1 he h10 h12
      have hf : gK h q = 0 := fresh_of hI hC hD1 (Nat.le_refl _) (by rw [List.getElem?_append_right (Nat.le_refl _), Nat.sub_self]; rfl)
      exact k q hf pp ee RR ss mm aa bb me cc0 H1 lc lsC c0 s0 (ce + 1) (se + n.toNat) C0 ⟨okh_nw hok (by omega) (by omega) k1 k2, _, _, hP1, hD1, hK1, inW_push (inW_tys hI) (isE_mkA (gK_nws _ _ _ _) h10 cA tys.length (by rw [he]) (by rw [List.getElem?_append_right (Nat.le_refl _), Nat.sub_self]; rfl))⟩ (SC_nw hC (by omega)) hS1 hl (List.forall_mem_cons.mpr ⟨trivial, ho⟩) (by rw [gC_nw]; omega) (by rw [gS_nw]; omega)
    have hb1 : n.toNat ≤ 1000000 := by omega
    rcases hat with ⟨rfl, rfl⟩ | ⟨rfl, rfl⟩ | ⟨rfl, rfl⟩
    · refine va_newa (ty := .int) (N' := n.toNat) (a0 := (n.toNat, .inl (fun _ => 0))) hx hb (hts _ w1) rfl hKK hP hD hS hA (fun _ => rfl) (z_nneg on k0) (z_cl on) (by show n.toNat * 4 ≤ _; omega) (by omega) (by omega) d (fun q cA H1 hK1 hP1 hD1 hS1 => fin q cA H1 _ hK1 hP1 hD1 hS1 ?_ (by omega) (by omega))
      show ((gL (nw h q 10 n) q).toNat, _) = (n.toNat, _)
      rw [gL_nw, if_pos rfl]
      exact congrArg (Prod.mk _) (congrArg Sum.inl (funext fun j => by rw [gI_nw, if_pos rfl]; rfl))
    · refine va_newa (ty := .long) (N' := n.toNat) (a0 := (n.toNat, .inr (.inl (fun _ => 0)))) hx hb (hts _ w1) rfl hKK hP hD hS hA (fun _ => rfl) (z_nneg on k0) (z_cl on) (by show n.toNat * 8 ≤ _; omega) (by omega) (by omega) d (fun q cA H1 hK1 hP1 hD1 hS1 => fin q cA H1 _ hK1 hP1 hD1 hS1 ?_ (by omega) (by omega))
      show ((gL (nw h q 11 n) q).toNat, _) = (n.toNat, _)
      rw [gL_nw, if_pos rfl]
      exact congrArg (Prod.mk _) (congrArg Sum.inr (congrArg Sum.inl (funext fun j => by rw [gJ_nw, if_pos rfl])))
    · refine va_newa (ty := .boolean) (N' := n.toNat) (a0 := (n.toNat, .inl (fun _ => 0))) hx hb (hts _ w1) rfl hKK hP hD hS hA (fun _ => rfl) (z_nneg on k0) (z_cl on) (by show n.toNat * 1 ≤ _; omega) (by omega) (by omega) d (fun q cA H1 hK1 hP1 hD1 hS1 => fin q cA H1 _ hK1 hP1 hD1 hS1 ?_ (by omega) (by omega))
      show ((gL (nw h q 12 n) q).toNat, _) = (n.toNat, _)
      rw [gL_nw, if_pos rfl]
      exact congrArg (Prod.mk _) (congrArg Sum.inl (funext fun j => by rw [gI_nw, if_pos rfl]; rfl))
  · exact k.elim
theorem sd_newR (m pc : Nat) (c ix : Nat) (C : String) (hat : (C = "Marginalia$Note" ∧ c = 13) ∨ (C = "[I" ∧ c = 14) ∨ (C = "[[I" ∧ c = 16)) (w1 : Cond.classLink (mOwn (Md m)) ix C ∈ mWs (Md m))
    (d : decode (mCod (Md m)) pc = .ok (.anewarray ix, 3)) : SM G Md D A l m pc (oNewA c 3) := by
  refine ⟨mo_oNewA c 3, fun ls st h Q k pp ee RR ss mm aa bb me cc0 HH lc lsC c0 s0 ce se C0 hR hC hS hl ho hcu hsu => ?_⟩
  obtain ⟨⟨hx, hb, hml, hown, hts⟩, hr, hlk, hnm, het, hRm, htr, hA, hG⟩ := id C0
  unfold oNewA at k
  split at k
  · next n t =>
    obtain ⟨on, ho⟩ := List.forall_mem_cons.mp ho
    obtain ⟨⟨k0, k3, k1, k2⟩, k⟩ := k
    obtain ⟨hok, ws, tys, hP, hD, hKK, hI⟩ := id hR
    have r1 : RR.cells = MXC - c0 := by rw [hRm]; rfl
    have r2 : RR.slots = MXS - s0 := by rw [hRm]; rfl
    have fin : ∀ (q : Nat) (cA : ClassId) (H1 : Heap), va_K D vwCl (tys ++ [(cA, akT c)]) ss → va_P D vwCl (ws ++ [(q, .inl (cA, n.toNat, .inr (.inr (.inr (.inr (fun _ => none))))))]) H1 → va_D A (ws ++ [(q, .inl (cA, n.toNat, .inr (.inr (.inr (.inr (fun _ => none))))))]) → va_S A ss.heap H1 lc → c = 13 ∨ c = 14 ∨ c = 16 →
        W pp l ee RR ss mm aa bb me cc0 H1 lc (ce + 1) (se + n.toNat) (EndZ D A Q c0 s0 bb ss) (F0 mm (pc + 3) lsC (.ref q :: t.map cz)) := by
      intro q cA H1 hK1 hP1 hD1 hS1 h13
      have hf : gK h q = 0 := fresh_of hI hC hD1 (Nat.le_refl _) (by rw [List.getElem?_append_right (Nat.le_refl _), Nat.sub_self]; rfl)
      have he : akE (nw h q c n) q c = (n.toNat, .inr (.inr (.inr (.inr (fun _ => none))))) := by
        rcases h13 with rfl | rfl | rfl <;>
        · show ((gL (nw h q _ n) q).toNat, _) = (n.toNat, _)
          rw [gL_nw, if_pos rfl]
          exact congrArg (Prod.mk _) (congrArg (fun z => Sum.inr (Sum.inr (Sum.inr (Sum.inr z)))) (funext fun j => by rw [gR_nw, if_pos rfl]))
      exact k q hf pp ee RR ss mm aa bb me cc0 H1 lc lsC c0 s0 (ce + 1) (se + n.toNat) C0 ⟨okh_nw hok (by omega) (by omega) k1 k2, _, _, hP1, hD1, hK1, inW_push (inW_tys hI) (isE_mkA (gK_nws _ _ _ _) (by omega) cA tys.length (by rw [he]) (by rw [List.getElem?_append_right (Nat.le_refl _), Nat.sub_self]; rfl))⟩ (SC_nw hC (by omega)) hS1 hl (List.forall_mem_cons.mpr ⟨trivial, ho⟩) (by rw [gC_nw]; omega) (by rw [gS_nw]; omega)
    have hb1 : n.toNat ≤ 1000000 := by omega
    rcases hat with ⟨rfl, rfl⟩ | ⟨rfl, rfl⟩ | ⟨rfl, rfl⟩
    · exact va_newq hx hb hown (hts _ w1) hG.2.2.2.2.2.2.2.1 hKK hP hD hS hA (z_nneg on k0) (z_cl on) (by omega) (by omega) (by omega) d (fun q cA H1 hK1 hP1 hD1 hS1 => fin q cA H1 hK1 hP1 hD1 hS1 (by omega))
    · exact va_newA2 hx hb hown (hts _ w1) hG.2.2.2.2.2.2.2.2.1 hKK hP hD hS hA (z_nneg on k0) (z_cl on) (by omega) (by omega) (by omega) d (fun q cA H1 hK1 hP1 hD1 hS1 => fin q cA H1 hK1 hP1 hD1 hS1 (by omega))
    · exact va_newA2 hx hb hown (hts _ w1) hG.2.2.2.2.2.2.2.2.2 hKK hP hD hS hA (z_nneg on k0) (z_cl on) (by omega) (by omega) (by omega) d (fun q cA H1 hK1 hP1 hD1 hS1 => fin q cA H1 hK1 hP1 hD1 hS1 (by omega))
  · exact k.elim
end SD3
