/-! SOUNDNESS of the instructions that read and write the memory -/
/-! arrays of int arrays: the rows that the kit's text has for objects -/
theorem z_asg (vm : Vm) (c : ClassId) : vm.assignable c c = true := Vm.assignable_self vm c
section SDA
variable {p : Program} {l : Launch} {e : Env} {R : Room} {s : State} {m : MethodId} {args : Array Value} {below : List Frame} {meth : Method} {c : Code} {H : Heap} {locs : List Loc} {cells slots : Nat} {Q : State → Prop}
variable {cc : ByteArray} {pc : Nat} {ls : Array Slot} {rest : List Value} {D : va_G} {cl : List vw_C} {A : Nat → Prop} {a : Nat} {tys : List (ClassId × FieldType)} {ws : va_W} {H0 : Heap}
theorem va_aldA {et : FieldType} (hexec : p.tables.exec = Jvm.exec) (hb : c.code = cc) (hK : va_K D cl tys s) (hP : va_P D cl ws H) (q0 t0 : Nat) {cA : ClassId} {n : Nat} {f : Nat → Option Nat} (ha : ws[q0]? = some (a, .inl (cA, n, .inr (.inr (.inr (.inr f)))))) (ht : tys[t0]? = some (cA, .array et)) {i : Int32} (hin : vp_in i n) (hdg : decode cc pc = .ok (.aaload, 1))
    (kk : W p l e R s m args below meth c H locs cells slots Q (F0 m (pc + 1) ls (va_rf (f i.toNatClampNeg) :: rest))) : W p l e R s m args below meth c H locs cells slots Q (F0 m pc ls (.int i :: .ref a :: rest)) := by
  have hlt : i.toNatClampNeg < n := Nat.not_le.mp fun q => hin (Or.inr q)
  exact W.aald (v := va_rf (f i.toNatClampNeg)) (ty := .array et) hexec hb (hP q0 _ ha) ((hK.2 t0 _ ht).1 n (fun j => va_rf (f j))) rfl (fun q => by cases q) (by show ¬ (i < 0 ∨ (arrV _ _ _).slots.size ≤ _); rw [arrV_size]; exact hin) (by show (arrV _ _ _).slots[_]? = _; rw [arrV_read _ _ hlt]) rfl rfl hdg kk
theorem va_astA {et : FieldType} (het : ∀ (k : Nat) (q : ClassId × FieldType), tys[k]? = some q → q.2 = et → s.vm.findClass ("[" ++ et.toString) = some q.1) (hover : va_AOA et s) (hexec : p.tables.exec = Jvm.exec) (hb : c.code = cc) (hK : va_K D cl tys s) (hP : va_P D cl ws H) (hD : va_D A ws) (hS : va_S A H0 H locs) (q0 t0 qk tV : Nat) {cA cV : ClassId} {n v : Nat} {vv : vp_A} {f : Nat → Option Nat} (ha : ws[q0]? = some (a, .inl (cA, n, .inr (.inr (.inr (.inr f)))))) (ht : tys[t0]? = some (cA, .array et)) (hv : ws[qk]? = some (v, .inl (cV, vv))) (htV : tys[tV]? = some (cV, et)) {i : Int32} (hin : vp_in i n) (hdg : decode cc pc = .ok (.aastore, 1))
    (kk : ∀ (H1 : Heap) (locs1 : List Loc), va_P D cl (ws.set q0 (a, .inl (cA, n, .inr (.inr (.inr (.inr (va_up f i.toNatClampNeg (some v)))))))) H1 → va_D A (ws.set q0 (a, .inl (cA, n, .inr (.inr (.inr (.inr (va_up f i.toNatClampNeg (some v)))))))) → va_S A H0 H1 locs1 → W p l e R s m args below meth c H1 locs1 cells slots Q (F0 m (pc + 1) ls rest)) : W p l e R s m args below meth c H locs cells slots Q (F0 m pc ls (.ref v :: .int i :: .ref a :: rest)) := by
  have hlt : i.toNatClampNeg < n := Nat.not_le.mp fun q => hin (Or.inr q)
  have h0 : ¬ i < 0 := fun q => hin (Or.inl q)
  obtain ⟨comp, c2, kA, f1, -, f3, f4, f5⟩ := arrayOverA_spec hover
  have hcA : s.vm.findClass ("[" ++ (FieldType.array et).toString) = some cA := (hK.2 t0 _ ht).2
  have hcV : s.vm.findClass ("[" ++ et.toString) = some cV := het tV _ htV rfl
  cases Option.some.inj (f5.symm.trans hcA)
  have f1b : s.vm.findClass ("[" ++ et.toString) = some comp := f1
  cases Option.some.inj (f1b.symm.trans hcV)
  obtain ⟨kV, hkV, -⟩ := Vm.findClass_spec hcV
  have hcell : H[v]? = some (vp_cell cV vv) := hP qk _ hv
  have hcls : (vp_cell cV vv).cls = cV ∧ (vp_cell cV vv).vm = .none := by
    obtain ⟨n2, g | g | g | g | g⟩ := vv <;> exact ⟨rfl, rfl⟩
  refine W.aast hexec hb (hP q0 _ ha) (fun q h => by cases h) (fun h => by cases h) f3 f4 rfl hkV ⟨h0, by show _ < (arrV _ _ _).slots.size; rw [arrV_size]; exact hlt⟩ hcell (fun q h => by rw [hcls.2] at h; cases h) (by rw [hcls.1]; exact hkV) (by rw [hcls.1]; exact z_asg _ _) rfl rfl hdg fun H1 e z oq => ?_
  refine kk H1 _ (hP.set hD ha ?_ oq) (hD.set ha) (hS.put z oq (hD.2 q0 _ ha))
  show H1[a]? = some (vp_cell _ _)
  rw [e]
  rw [vp_cell_q, vp_cell_q, arrV_store]
  congr 2
  funext q
  by_cases hq : q = i.toNatClampNeg
  · subst hq
    simp [updV, va_up, va_rf]
  · simp [updV, va_up, hq]
end SDA
theorem akE_n (h : Zh) (a c : Nat) : (akE h a c).1 = (gL h a).toNat := by unfold akE; split <;> rfl
theorem isE_congr {h g : Zh} {tys : List (ClassId × FieldType)} {b : Nat} {e : va_E} (h1 : gK g b = gK h b) (h2 : gL g b = gL h b) (h3 : ∀ i, gI g b i = gI h b i) (h4 : ∀ i, gR g b i = gR h b i) (h5 : ∀ i, gJ g b i = gJ h b i) (k : isE h tys b e) : isE g tys b e := by
  have e1 : ∀ c, encF g b c = encF h b c := fun c => by unfold encF; simp only [h3, h4]
  have e2 : ∀ c, akE g b c = akE h b c := fun c => by unfold akE; simp only [h2, h3, h4, h5]
  unfold isE at k ⊢
  rw [h1]
  simp only [e1, e2]
  exact k
theorem inW_set {h g : Zh} {tys : List (ClassId × FieldType)} {ws : va_W} {q0 a : Nat} {e0 e1 : va_E} (hI : inW h tys ws) (he : ws[q0]? = some (a, e0)) (hk : ∀ b, gK g b = gK h b) (hl : ∀ b, gL g b = gL h b) (h3 : ∀ b, b ≠ a → ∀ i, gI g b i = gI h b i) (h4 : ∀ b, b ≠ a → ∀ i, gR g b i = gR h b i) (h5 : ∀ b, b ≠ a → ∀ i, gJ g b i = gJ h b i) (hE : isE g tys a e1) : inW g tys (ws.set q0 (a, e1)) := by
  intro b hb0 hb1
  rw [hk] at hb0 hb1
  have hq : q0 < ws.length := (List.getElem?_eq_some_iff.mp he).1
  by_cases q : b = a
  · subst q
    exact ⟨q0, e1, by rw [List.getElem?_set_self hq], hE⟩
  · obtain ⟨k, e, hk1, hk2⟩ := hI b hb0 hb1
    have n : q0 ≠ k := fun z => by rw [← z, he] at hk1; cases hk1; exact q rfl
    exact ⟨k, e, by rw [List.getElem?_set_ne n]; exact hk1, isE_congr (hk b) (hl b) (h3 b q) (h4 b q) (h5 b q) hk2⟩
theorem SC.congr {A : Nat → Prop} {h g : Zh} {s : State} (k : SC A h s) (h1 : ∀ b, gK g b = 15 → gK h b = 15 ∧ gL g b = gL h b ∧ ∀ i, gI g b i = gI h b i) : SC A g s := by
  intro a ha
  obtain ⟨e1, e2, e3⟩ := h1 a ha
  have z := k a e1
  rw [e2, show (fun j : Nat => Int32.ofInt (gI g a j)) = (fun j : Nat => Int32.ofInt (gI h a j)) from funext fun j => by rw [e3]]
  exact z
theorem encF_at (h : Zh) (a c k : Nat) (hk : k < nF c) : (encF h a c)[k]? = some (if fR c k = true then va_rf (gR h a k) else Value.int (Int32.ofInt (gI h a k))) := by
  unfold encF
  rw [List.getElem?_map, List.getElem?_range hk]
  rfl
theorem encF_len (h : Zh) (a c : Nat) : (encF h a c).length = nF c := by unfold encF; rw [List.length_map, List.length_range]
theorem encF_pI {h : Zh} {a c k : Nat} {x : Int} (hk : k < nF c) (hf : fR c k = false) : encF (pI h a k x) a c = (encF h a c).set k (.int (Int32.ofInt x)) := by
  apply List.ext_getElem?
  intro j
  by_cases hj : j < nF c
  · rw [encF_at _ _ _ _ hj]
    by_cases q : k = j
    · subst q
      rw [List.getElem?_set_self (by rw [encF_len]; exact hj), hf]
      simp [gI_pI]
    · rw [List.getElem?_set_ne q, encF_at _ _ _ _ hj, gI_pI, gR_pI, if_neg (show ¬ (a = a ∧ ((j : Nat) : Int) = ((k : Nat) : Int)) from fun z => q (by have := z.2; omega))]
  · rw [List.getElem?_eq_none (by rw [encF_len]; omega), List.getElem?_eq_none (by rw [List.length_set, encF_len]; omega)]
theorem encF_pR {h : Zh} {a c k : Nat} {x : Option Nat} (hk : k < nF c) (hf : fR c k = true) : encF (pR h a k x) a c = (encF h a c).set k (va_rf x) := by
  apply List.ext_getElem?
  intro j
  by_cases hj : j < nF c
  · rw [encF_at _ _ _ _ hj]
    by_cases q : k = j
    · subst q
      rw [List.getElem?_set_self (by rw [encF_len]; exact hj), hf]
      simp [gR_pR]
    · rw [List.getElem?_set_ne q, encF_at _ _ _ _ hj, gI_pR, gR_pR, if_neg (show ¬ (a = a ∧ ((j : Nat) : Int) = ((k : Nat) : Int)) from fun z => q (by have := z.2; omega))]
  · rw [List.getElem?_eq_none (by rw [encF_len]; omega), List.getElem?_eq_none (by rw [List.length_set, encF_len]; omega)]
theorem okh_pI {h : Zh} {a : Nat} {k x : Int} (ho : okh h) (hx : inR x) : okh (pI h a k x) := ⟨fun b i => by rw [gI_pI]; split; exact hx; exact ho.1 b i, ho.2.1, ho.2.2⟩
theorem okh_pR {h : Zh} {a : Nat} {k : Int} {x : Option Nat} (ho : okh h) : okh (pR h a k x) := ⟨fun b i => by rw [gI_pR]; exact ho.1 b i, ho.2.1, ho.2.2⟩
theorem okh_pJ {h : Zh} {a : Nat} {k : Int} {x : Int64} (ho : okh h) : okh (pJ h a k x) := ⟨fun b i => by rw [gI_pJ]; exact ho.1 b i, ho.2.1, ho.2.2⟩
theorem SC_pI {A : Nat → Prop} {h : Zh} {a : Nat} {k x : Int} {s : State} (hC : SC A h s) (ha : gK h a ≠ 15) : SC A (pI h a k x) s := hC.congr fun b hb => ⟨hb, rfl, fun i => by rw [gI_pI, if_neg (fun z => ha (by rw [← z.1]; exact hb))]⟩
theorem SC_pR {A : Nat → Prop} {h : Zh} {a : Nat} {k : Int} {x : Option Nat} {s : State} (hC : SC A h s) : SC A (pR h a k x) s := hC.congr fun b hb => ⟨hb, rfl, fun i => rfl⟩
theorem SC_pJ {A : Nat → Prop} {h : Zh} {a : Nat} {k : Int} {x : Int64} {s : State} (hC : SC A h s) : SC A (pJ h a k x) s := hC.congr fun b hb => ⟨hb, rfl, fun i => rfl⟩
theorem isE_arr {h : Zh} {tys : List (ClassId × FieldType)} {a : Nat} {e : va_E} {c : Nat} (k : isE h tys a e) (hc : gK h a = c) (h10 : 10 ≤ c) : ∃ (cA : ClassId) (t : Nat), e = .inl (cA, akE h a c) ∧ tys[t]? = some (cA, akT c) := by
  subst hc
  exact k.2 h10
theorem isE_obj {h : Zh} {tys : List (ClassId × FieldType)} {a : Nat} {e : va_E} {c : Nat} (k : isE h tys a e) (hc : gK h a = c) (h7 : c ≤ 7) : e = .inr (c - 1, encF h a c) := by
  subst hc
  exact k.1 h7
theorem isE_mkA {h : Zh} {tys : List (ClassId × FieldType)} {a : Nat} {e : va_E} {c : Nat} (hc : gK h a = c) (h10 : 10 ≤ c) (cA : ClassId) (t : Nat) (h1 : e = .inl (cA, akE h a c)) (h2 : tys[t]? = some (cA, akT c)) : isE h tys a e := by
  subst hc
  exact ⟨fun z => by omega, fun _ => ⟨cA, t, h1, h2⟩⟩
theorem isE_mkO {h : Zh} {tys : List (ClassId × FieldType)} {a : Nat} {e : va_E} {c : Nat} (hc : gK h a = c) (h7 : c ≤ 7) (h1 : e = .inr (c - 1, encF h a c)) : isE h tys a e := by
  subst hc
  exact ⟨fun _ => h1, fun z => by omega⟩
section SD2
variable {G : GwT} {Md : Nat → MdT} {D : va_G} {A : Nat → Prop} {l : Launch}
theorem sd_oGetI (m pc : Nat) (c fk ix : Nat) (C : String) (T : u_T) (N : Nat) (hcl : vwCl[c - 1]? = some (C, T, N)) (hc : 1 ≤ c ∧ c ≤ 7) (hN : nF c = N) (hfk : fk < N) (hT : (T fk).1 = C) (hin : ∀ w ∈ u_ws C T N, w ∈ mWs (Md m)) (hf : fR c fk = false) (hw : Cond.fieldLink (mOwn (Md m)) ix C (T fk).2.1 (T fk).2.2.1 ∈ mWs (Md m)) (d : decode (mCod (Md m)) pc = .ok (.getfield ix, 3)) : SM G Md D A l m pc (oGetI c fk) := by
  refine ⟨mo_oGetI c fk, fun ls st h Q k pp ee RR ss mm aa bb me cc0 HH lc lsC c0 s0 ce se C0 hR hC hS hl ho hcu hsu => ?_⟩
  obtain ⟨⟨hx, hb, hml, hown, hts⟩, hr, hlk, hnm, het, hRm, htr, hA, hG⟩ := id C0
  unfold oGetI at k
  split at k
  · next r t =>
    obtain ⟨⟨a, rfl, ha⟩, k⟩ := k
    replace ho := List.forall_mem_cons.mp ho
    obtain ⟨-, ho⟩ := ho
    obtain ⟨hok, ws, tys, hP, hD, hKK, hI⟩ := id hR
    obtain ⟨q0, e, he, hE⟩ := hI a (by omega) (by omega)
    have he2 := isE_obj hE ha hc.2
    subst he2
    have hv := encF_at h a c fk (by omega)
    rw [hf] at hv
    exact va_get hx hb hts hin hown hKK hP q0 he hcl fk hfk (hts _ hw) (fun _ z => by rw [hT] at z; exact z) hv d (k pp ee RR ss mm aa bb me cc0 HH lc lsC c0 s0 ce se C0 hR hC hS hl (List.forall_mem_cons.mpr ⟨hok.1 a fk, ho⟩) hcu hsu)
  · exact k.elim
theorem sd_oGetIN (m pc : Nat) (c fk ix : Nat) (C : String) (T : u_T) (N : Nat) (hcl : vwCl[c - 1]? = some (C, T, N)) (hc : 1 ≤ c ∧ c ≤ 7) (hN : nF c = N) (hfk : fk < N) (hT : (T fk).1 = C) (hin : ∀ w ∈ u_ws C T N, w ∈ mWs (Md m)) (hf : fR c fk = false) (host : String) (hw : (mOwn (Md m), ix, C, (T fk).2.1, (T fk).2.2.1, host) ∈ G.2.2.2.1) (d : decode (mCod (Md m)) pc = .ok (.getfield ix, 3)) : SM G Md D A l m pc (oGetI c fk) := by
  refine ⟨mo_oGetI c fk, fun ls st h Q k pp ee RR ss mm aa bb me cc0 HH lc lsC c0 s0 ce se C0 hR hC hS hl ho hcu hsu => ?_⟩
  obtain ⟨⟨hx, hb, hml, hown, hts⟩, hr, hlk, hnm, het, hRm, htr, hA, hG⟩ := id C0
  unfold oGetI at k
  split at k
  · next r t =>
    obtain ⟨⟨a, rfl, ha⟩, k⟩ := k
    replace ho := List.forall_mem_cons.mp ho
    obtain ⟨-, ho⟩ := ho
    obtain ⟨hok, ws, tys, hP, hD, hKK, hI⟩ := id hR
    obtain ⟨q0, e, he, hE⟩ := hI a (by omega) (by omega)
    have he2 := isE_obj hE ha hc.2
    subst he2
    have hv := encF_at h a c fk (by omega)
    rw [hf] at hv
    exact va_getN hx hb hts hin hown hKK hP q0 he hcl fk hfk (va_Nw.use rfl (hG.2.2.2.2.2.1 _ hw)) (fun _ z => by rw [hT] at z; exact z) hv d (k pp ee RR ss mm aa bb me cc0 HH lc lsC c0 s0 ce se C0 hR hC hS hl (List.forall_mem_cons.mpr ⟨hok.1 a fk, ho⟩) hcu hsu)
  · exact k.elim
theorem sd_oGetR (m pc : Nat) (c fk ix : Nat) (C : String) (T : u_T) (N : Nat) (hcl : vwCl[c - 1]? = some (C, T, N)) (hc : 1 ≤ c ∧ c ≤ 7) (hN : nF c = N) (hfk : fk < N) (hT : (T fk).1 = C) (hin : ∀ w ∈ u_ws C T N, w ∈ mWs (Md m)) (hf : fR c fk = true) (hw : Cond.fieldLink (mOwn (Md m)) ix C (T fk).2.1 (T fk).2.2.1 ∈ mWs (Md m)) (d : decode (mCod (Md m)) pc = .ok (.getfield ix, 3)) : SM G Md D A l m pc (oGetR c fk) := by
  refine ⟨mo_oGetR c fk, fun ls st h Q k pp ee RR ss mm aa bb me cc0 HH lc lsC c0 s0 ce se C0 hR hC hS hl ho hcu hsu => ?_⟩
  obtain ⟨⟨hx, hb, hml, hown, hts⟩, hr, hlk, hnm, het, hRm, htr, hA, hG⟩ := id C0
  unfold oGetR at k
  split at k
  · next r t =>
    obtain ⟨⟨a, rfl, ha⟩, k⟩ := k
    replace ho := List.forall_mem_cons.mp ho
    obtain ⟨-, ho⟩ := ho
    obtain ⟨hok, ws, tys, hP, hD, hKK, hI⟩ := id hR
    obtain ⟨q0, e, he, hE⟩ := hI a (by omega) (by omega)
    have he2 := isE_obj hE ha hc.2
    subst he2
    have hv := encF_at h a c fk (by omega)
    rw [hf] at hv
    exact va_get hx hb hts hin hown hKK hP q0 he hcl fk hfk (hts _ hw) (fun _ z => by rw [hT] at z; exact z) hv d (k pp ee RR ss mm aa bb me cc0 HH lc lsC c0 s0 ce se C0 hR hC hS hl (List.forall_mem_cons.mpr ⟨trivial, ho⟩) hcu hsu)
  · exact k.elim
theorem sd_oGetRN (m pc : Nat) (c fk ix : Nat) (C : String) (T : u_T) (N : Nat) (hcl : vwCl[c - 1]? = some (C, T, N)) (hc : 1 ≤ c ∧ c ≤ 7) (hN : nF c = N) (hfk : fk < N) (hT : (T fk).1 = C) (hin : ∀ w ∈ u_ws C T N, w ∈ mWs (Md m)) (hf : fR c fk = true) (host : String) (hw : (mOwn (Md m), ix, C, (T fk).2.1, (T fk).2.2.1, host) ∈ G.2.2.2.1) (d : decode (mCod (Md m)) pc = .ok (.getfield ix, 3)) : SM G Md D A l m pc (oGetR c fk) := by
  refine ⟨mo_oGetR c fk, fun ls st h Q k pp ee RR ss mm aa bb me cc0 HH lc lsC c0 s0 ce se C0 hR hC hS hl ho hcu hsu => ?_⟩
  obtain ⟨⟨hx, hb, hml, hown, hts⟩, hr, hlk, hnm, het, hRm, htr, hA, hG⟩ := id C0
  unfold oGetR at k
  split at k
  · next r t =>
    obtain ⟨⟨a, rfl, ha⟩, k⟩ := k
    replace ho := List.forall_mem_cons.mp ho
    obtain ⟨-, ho⟩ := ho
    obtain ⟨hok, ws, tys, hP, hD, hKK, hI⟩ := id hR
    obtain ⟨q0, e, he, hE⟩ := hI a (by omega) (by omega)
    have he2 := isE_obj hE ha hc.2
    subst he2
    have hv := encF_at h a c fk (by omega)
    rw [hf] at hv
    exact va_getN hx hb hts hin hown hKK hP q0 he hcl fk hfk (va_Nw.use rfl (hG.2.2.2.2.2.1 _ hw)) (fun _ z => by rw [hT] at z; exact z) hv d (k pp ee RR ss mm aa bb me cc0 HH lc lsC c0 s0 ce se C0 hR hC hS hl (List.forall_mem_cons.mpr ⟨trivial, ho⟩) hcu hsu)
  · exact k.elim
theorem sd_oPutI (m pc : Nat) (c fk ix : Nat) (C : String) (T : u_T) (N : Nat) (hcl : vwCl[c - 1]? = some (C, T, N)) (hc : 1 ≤ c ∧ c ≤ 7) (hN : nF c = N) (hfk : fk < N) (hT : (T fk).1 = C) (hin : ∀ w ∈ u_ws C T N, w ∈ mWs (Md m)) (hf : fR c fk = false) (ty0 : Nat → FieldType) (hty : ∀ k, k < N → parseFieldDescriptor (T k).2.2.1 = some (ty0 k)) (hnm2 : ∀ a, a < N → ∀ b, b < N → a ≠ b → (T a).2.1 ≠ (T b).2.1) (htk : ty0 fk = .int) (hfin : (T fk).2.2.2 = false) (hw : Cond.fieldLink (mOwn (Md m)) ix C (T fk).2.1 (T fk).2.2.1 ∈ mWs (Md m)) (d : decode (mCod (Md m)) pc = .ok (.putfield ix, 3)) : SM G Md D A l m pc (oPutI c fk) := by
  refine ⟨mo_oPutI c fk, fun ls st h Q k pp ee RR ss mm aa bb me cc0 HH lc lsC c0 s0 ce se C0 hR hC hS hl ho hcu hsu => ?_⟩
  obtain ⟨⟨hx, hb, hml, hown, hts⟩, hr, hlk, hnm, het, hRm, htr, hA, hG⟩ := id C0
  unfold oPutI at k
  split at k
  · next x r t =>
    obtain ⟨⟨a, rfl, ha⟩, k⟩ := k
    replace ho := List.forall_mem_cons.mp ho
    obtain ⟨ox, ho⟩ := ho
    replace ho := List.forall_mem_cons.mp ho
    obtain ⟨-, ho⟩ := ho
    obtain ⟨hok, ws, tys, hP, hD, hKK, hI⟩ := id hR
    obtain ⟨q0, e, he, hE⟩ := hI a (by omega) (by omega)
    have he2 := isE_obj hE ha hc.2
    subst he2
    refine va_put hx hb hts hin ty0 hty hnm2 hown hKK hP hD hS q0 he hcl fk hfk (hts _ hw) (fun _ z => by rw [hT] at z; exact z) hfin (hty fk hfk) (v := .int (Int32.ofInt x)) (by rw [htk]; rfl) (by rw [htk]; rfl) (by rw [encF_len]; omega) d (fun H1 lc1 hP1 hD1 hS1 => ?_)
    rw [← encF_pI (by omega) hf] at hP1 hD1
    refine k pp ee RR ss mm aa bb me cc0 H1 lc1 lsC c0 s0 ce se C0 ⟨okh_pI hok ox, _, tys, hP1, hD1, hKK, inW_set hI he (fun _ => rfl) (fun _ => rfl) (fun b nb i => by rw [gI_pI, if_neg (fun z => nb z.1)]) (fun b nb i => rfl) (fun _ _ _ => rfl) (isE_mkO (c := c) ha hc.2 rfl)⟩ (SC_pI (a := a) hC (by omega)) hS1 hl ho hcu hsu
  · exact k.elim
theorem sd_oPutIF (m pc : Nat) (c fk ix : Nat) (C : String) (T : u_T) (N : Nat) (hcl : vwCl[c - 1]? = some (C, T, N)) (hc : 1 ≤ c ∧ c ≤ 7) (hN : nF c = N) (hfk : fk < N) (hT : (T fk).1 = C) (hin : ∀ w ∈ u_ws C T N, w ∈ mWs (Md m)) (hf : fR c fk = false) (ty0 : Nat → FieldType) (hty : ∀ k, k < N → parseFieldDescriptor (T k).2.2.1 = some (ty0 k)) (hnm2 : ∀ a, a < N → ∀ b, b < N → a ≠ b → (T a).2.1 ≠ (T b).2.1) (htk : ty0 fk = .int) (hfin : (T fk).2.2.2 = true) (hini : (mNam (Md m)).name = "<init>") (hdecl : C = mOwn (Md m)) (hw : Cond.fieldLink (mOwn (Md m)) ix C (T fk).2.1 (T fk).2.2.1 ∈ mWs (Md m)) (d : decode (mCod (Md m)) pc = .ok (.putfield ix, 3)) : SM G Md D A l m pc (oPutI c fk) := by
  refine ⟨mo_oPutI c fk, fun ls st h Q k pp ee RR ss mm aa bb me cc0 HH lc lsC c0 s0 ce se C0 hR hC hS hl ho hcu hsu => ?_⟩
  obtain ⟨⟨hx, hb, hml, hown, hts⟩, hr, hlk, hnm, het, hRm, htr, hA, hG⟩ := id C0
  unfold oPutI at k
  split at k
  · next x r t =>
    obtain ⟨⟨a, rfl, ha⟩, k⟩ := k
    replace ho := List.forall_mem_cons.mp ho
    obtain ⟨ox, ho⟩ := ho
    replace ho := List.forall_mem_cons.mp ho
    obtain ⟨-, ho⟩ := ho
    obtain ⟨hok, ws, tys, hP, hD, hKK, hI⟩ := id hR
    obtain ⟨q0, e, he, hE⟩ := hI a (by omega) (by omega)
    have he2 := isE_obj hE ha hc.2
    subst he2
    refine va_putF hx hb hts hin ty0 hty hnm2 hown hKK hP hD hS q0 he hcl fk hfk (hts _ hw) (fun _ z => by rw [hT] at z; exact z) hfin (by rw [hnm]; exact hini) (by rw [hT]; exact hdecl) (hty fk hfk) (v := .int (Int32.ofInt x)) (by rw [htk]; rfl) (by rw [htk]; rfl) (by rw [encF_len]; omega) d (fun H1 lc1 hP1 hD1 hS1 => ?_)
    rw [← encF_pI (by omega) hf] at hP1 hD1
    refine k pp ee RR ss mm aa bb me cc0 H1 lc1 lsC c0 s0 ce se C0 ⟨okh_pI hok ox, _, tys, hP1, hD1, hKK, inW_set hI he (fun _ => rfl) (fun _ => rfl) (fun b nb i => by rw [gI_pI, if_neg (fun z => nb z.1)]) (fun b nb i => rfl) (fun _ _ _ => rfl) (isE_mkO (c := c) ha hc.2 rfl)⟩ (SC_pI (a := a) hC (by omega)) hS1 hl ho hcu hsu
  · exact k.elim
theorem sd_oPutIN (m pc : Nat) (c fk ix : Nat) (C : String) (T : u_T) (N : Nat) (hcl : vwCl[c - 1]? = some (C, T, N)) (hc : 1 ≤ c ∧ c ≤ 7) (hN : nF c = N) (hfk : fk < N) (hT : (T fk).1 = C) (hin : ∀ w ∈ u_ws C T N, w ∈ mWs (Md m)) (hf : fR c fk = false) (ty0 : Nat → FieldType) (hty : ∀ k, k < N → parseFieldDescriptor (T k).2.2.1 = some (ty0 k)) (hnm2 : ∀ a, a < N → ∀ b, b < N → a ≠ b → (T a).2.1 ≠ (T b).2.1) (htk : ty0 fk = .int) (hfin : (T fk).2.2.2 = false) (host : String) (hw : (mOwn (Md m), ix, C, (T fk).2.1, (T fk).2.2.1, host) ∈ G.2.2.2.1) (d : decode (mCod (Md m)) pc = .ok (.putfield ix, 3)) : SM G Md D A l m pc (oPutI c fk) := by
  refine ⟨mo_oPutI c fk, fun ls st h Q k pp ee RR ss mm aa bb me cc0 HH lc lsC c0 s0 ce se C0 hR hC hS hl ho hcu hsu => ?_⟩
  obtain ⟨⟨hx, hb, hml, hown, hts⟩, hr, hlk, hnm, het, hRm, htr, hA, hG⟩ := id C0
  unfold oPutI at k
  split at k
  · next x r t =>
    obtain ⟨⟨a, rfl, ha⟩, k⟩ := k
    replace ho := List.forall_mem_cons.mp ho
    obtain ⟨ox, ho⟩ := ho
    replace ho := List.forall_mem_cons.mp ho
    obtain ⟨-, ho⟩ := ho
    obtain ⟨hok, ws, tys, hP, hD, hKK, hI⟩ := id hR
    obtain ⟨q0, e, he, hE⟩ := hI a (by omega) (by omega)
    have he2 := isE_obj hE ha hc.2
    subst he2
    refine va_putN hx hb hts hin ty0 hty hnm2 hown hKK hP hD hS q0 he hcl fk hfk (va_Nw.use rfl (hG.2.2.2.2.2.1 _ hw)) (fun _ z => by rw [hT] at z; exact z) hfin (hty fk hfk) (v := .int (Int32.ofInt x)) (by rw [htk]; rfl) (by rw [htk]; rfl) (by rw [encF_len]; omega) d (fun H1 lc1 hP1 hD1 hS1 => ?_)
    rw [← encF_pI (by omega) hf] at hP1 hD1
    refine k pp ee RR ss mm aa bb me cc0 H1 lc1 lsC c0 s0 ce se C0 ⟨okh_pI hok ox, _, tys, hP1, hD1, hKK, inW_set hI he (fun _ => rfl) (fun _ => rfl) (fun b nb i => by rw [gI_pI, if_neg (fun z => nb z.1)]) (fun b nb i => rfl) (fun _ _ _ => rfl) (isE_mkO (c := c) ha hc.2 rfl)⟩ (SC_pI (a := a) hC (by omega)) hS1 hl ho hcu hsu
  · exact k.elim
theorem sd_oPutZ (m pc : Nat) (c fk ix : Nat) (C : String) (T : u_T) (N : Nat) (hcl : vwCl[c - 1]? = some (C, T, N)) (hc : 1 ≤ c ∧ c ≤ 7) (hN : nF c = N) (hfk : fk < N) (hT : (T fk).1 = C) (hin : ∀ w ∈ u_ws C T N, w ∈ mWs (Md m)) (hf : fR c fk = false) (ty0 : Nat → FieldType) (hty : ∀ k, k < N → parseFieldDescriptor (T k).2.2.1 = some (ty0 k)) (hnm2 : ∀ a, a < N → ∀ b, b < N → a ≠ b → (T a).2.1 ≠ (T b).2.1) (htk : ty0 fk = .boolean) (hfin : (T fk).2.2.2 = false) (hw : Cond.fieldLink (mOwn (Md m)) ix C (T fk).2.1 (T fk).2.2.1 ∈ mWs (Md m)) (d : decode (mCod (Md m)) pc = .ok (.putfield ix, 3)) : SM G Md D A l m pc (oPutZ c fk) := by
  refine ⟨mo_oPutZ c fk, fun ls st h Q k pp ee RR ss mm aa bb me cc0 HH lc lsC c0 s0 ce se C0 hR hC hS hl ho hcu hsu => ?_⟩
  obtain ⟨⟨hx, hb, hml, hown, hts⟩, hr, hlk, hnm, het, hRm, htr, hA, hG⟩ := id C0
  unfold oPutZ at k
  split at k
  · next x r t =>
    obtain ⟨⟨⟨a, rfl, ha⟩, h01⟩, k⟩ := k
    replace ho := List.forall_mem_cons.mp ho
    obtain ⟨ox, ho⟩ := ho
    replace ho := List.forall_mem_cons.mp ho
    obtain ⟨-, ho⟩ := ho
    obtain ⟨hok, ws, tys, hP, hD, hKK, hI⟩ := id hR
    obtain ⟨q0, e, he, hE⟩ := hI a (by omega) (by omega)
    have he2 := isE_obj hE ha hc.2
    subst he2
    refine va_put hx hb hts hin ty0 hty hnm2 hown hKK hP hD hS q0 he hcl fk hfk (hts _ hw) (fun _ z => by rw [hT] at z; exact z) hfin (hty fk hfk) (v := .int (Int32.ofInt x)) (by rw [htk]; rcases h01 with rfl | rfl <;> rfl) (by rw [htk]; rcases h01 with rfl | rfl <;> rfl) (by rw [encF_len]; omega) d (fun H1 lc1 hP1 hD1 hS1 => ?_)
    rw [← encF_pI (by omega) hf] at hP1 hD1
    refine k pp ee RR ss mm aa bb me cc0 H1 lc1 lsC c0 s0 ce se C0 ⟨okh_pI hok ox, _, tys, hP1, hD1, hKK, inW_set hI he (fun _ => rfl) (fun _ => rfl) (fun b nb i => by rw [gI_pI, if_neg (fun z => nb z.1)]) (fun b nb i => rfl) (fun _ _ _ => rfl) (isE_mkO (c := c) ha hc.2 rfl)⟩ (SC_pI (a := a) hC (by omega)) hS1 hl ho hcu hsu
  · exact k.elim
theorem sd_oPutZF (m pc : Nat) (c fk ix : Nat) (C : String) (T : u_T) (N : Nat) (hcl : vwCl[c - 1]? = some (C, T, N)) (hc : 1 ≤ c ∧ c ≤ 7) (hN : nF c = N) (hfk : fk < N) (hT : (T fk).1 = C) (hin : ∀ w ∈ u_ws C T N, w ∈ mWs (Md m)) (hf : fR c fk = false) (ty0 : Nat → FieldType) (hty : ∀ k, k < N → parseFieldDescriptor (T k).2.2.1 = some (ty0 k)) (hnm2 : ∀ a, a < N → ∀ b, b < N → a ≠ b → (T a).2.1 ≠ (T b).2.1) (htk : ty0 fk = .boolean) (hfin : (T fk).2.2.2 = true) (hini : (mNam (Md m)).name = "<init>") (hdecl : C = mOwn (Md m)) (hw : Cond.fieldLink (mOwn (Md m)) ix C (T fk).2.1 (T fk).2.2.1 ∈ mWs (Md m)) (d : decode (mCod (Md m)) pc = .ok (.putfield ix, 3)) : SM G Md D A l m pc (oPutZ c fk) := by
  refine ⟨mo_oPutZ c fk, fun ls st h Q k pp ee RR ss mm aa bb me cc0 HH lc lsC c0 s0 ce se C0 hR hC hS hl ho hcu hsu => ?_⟩
  obtain ⟨⟨hx, hb, hml, hown, hts⟩, hr, hlk, hnm, het, hRm, htr, hA, hG⟩ := id C0
  unfold oPutZ at k
  split at k
  · next x r t =>
    obtain ⟨⟨⟨a, rfl, ha⟩, h01⟩, k⟩ := k
    replace ho := List.forall_mem_cons.mp ho
    obtain ⟨ox, ho⟩ := ho
    replace ho := List.forall_mem_cons.mp ho
    obtain ⟨-, ho⟩ := ho
    obtain ⟨hok, ws, tys, hP, hD, hKK, hI⟩ := id hR
    obtain ⟨q0, e, he, hE⟩ := hI a (by omega) (by omega)
    have he2 := isE_obj hE ha hc.2
    subst he2
    refine va_putF hx hb hts hin ty0 hty hnm2 hown hKK hP hD hS q0 he hcl fk hfk (hts _ hw) (fun _ z => by rw [hT] at z; exact z) hfin (by rw [hnm]; exact hini) (by rw [hT]; exact hdecl) (hty fk hfk) (v := .int (Int32.ofInt x)) (by rw [htk]; rcases h01 with rfl | rfl <;> rfl) (by rw [htk]; rcases h01 with rfl | rfl <;> rfl) (by rw [encF_len]; omega) d (fun H1 lc1 hP1 hD1 hS1 => ?_)
    rw [← encF_pI (by omega) hf] at hP1 hD1
    refine k pp ee RR ss mm aa bb me cc0 H1 lc1 lsC c0 s0 ce se C0 ⟨okh_pI hok ox, _, tys, hP1, hD1, hKK, inW_set hI he (fun _ => rfl) (fun _ => rfl) (fun b nb i => by rw [gI_pI, if_neg (fun z => nb z.1)]) (fun b nb i => rfl) (fun _ _ _ => rfl) (isE_mkO (c := c) ha hc.2 rfl)⟩ (SC_pI (a := a) hC (by omega)) hS1 hl ho hcu hsu
  · exact k.elim
theorem sd_oPutZN (m pc : Nat) (c fk ix : Nat) (C : String) (T : u_T) (N : Nat) (hcl : vwCl[c - 1]? = some (C, T, N)) (hc : 1 ≤ c ∧ c ≤ 7) (hN : nF c = N) (hfk : fk < N) (hT : (T fk).1 = C) (hin : ∀ w ∈ u_ws C T N, w ∈ mWs (Md m)) (hf : fR c fk = false) (ty0 : Nat → FieldType) (hty : ∀ k, k < N → parseFieldDescriptor (T k).2.2.1 = some (ty0 k)) (hnm2 : ∀ a, a < N → ∀ b, b < N → a ≠ b → (T a).2.1 ≠ (T b).2.1) (htk : ty0 fk = .boolean) (hfin : (T fk).2.2.2 = false) (host : String) (hw : (mOwn (Md m), ix, C, (T fk).2.1, (T fk).2.2.1, host) ∈ G.2.2.2.1) (d : decode (mCod (Md m)) pc = .ok (.putfield ix, 3)) : SM G Md D A l m pc (oPutZ c fk) := by
  refine ⟨mo_oPutZ c fk, fun ls st h Q k pp ee RR ss mm aa bb me cc0 HH lc lsC c0 s0 ce se C0 hR hC hS hl ho hcu hsu => ?_⟩
  obtain ⟨⟨hx, hb, hml, hown, hts⟩, hr, hlk, hnm, het, hRm, htr, hA, hG⟩ := id C0
  unfold oPutZ at k
  split at k
  · next x r t =>
    obtain ⟨⟨⟨a, rfl, ha⟩, h01⟩, k⟩ := k
    replace ho := List.forall_mem_cons.mp ho
    obtain ⟨ox, ho⟩ := ho
    replace ho := List.forall_mem_cons.mp ho
    obtain ⟨-, ho⟩ := ho
    obtain ⟨hok, ws, tys, hP, hD, hKK, hI⟩ := id hR
    obtain ⟨q0, e, he, hE⟩ := hI a (by omega) (by omega)
    have he2 := isE_obj hE ha hc.2
    subst he2
    refine va_putN hx hb hts hin ty0 hty hnm2 hown hKK hP hD hS q0 he hcl fk hfk (va_Nw.use rfl (hG.2.2.2.2.2.1 _ hw)) (fun _ z => by rw [hT] at z; exact z) hfin (hty fk hfk) (v := .int (Int32.ofInt x)) (by rw [htk]; rcases h01 with rfl | rfl <;> rfl) (by rw [htk]; rcases h01 with rfl | rfl <;> rfl) (by rw [encF_len]; omega) d (fun H1 lc1 hP1 hD1 hS1 => ?_)
    rw [← encF_pI (by omega) hf] at hP1 hD1
    refine k pp ee RR ss mm aa bb me cc0 H1 lc1 lsC c0 s0 ce se C0 ⟨okh_pI hok ox, _, tys, hP1, hD1, hKK, inW_set hI he (fun _ => rfl) (fun _ => rfl) (fun b nb i => by rw [gI_pI, if_neg (fun z => nb z.1)]) (fun b nb i => rfl) (fun _ _ _ => rfl) (isE_mkO (c := c) ha hc.2 rfl)⟩ (SC_pI (a := a) hC (by omega)) hS1 hl ho hcu hsu
  · exact k.elim
theorem sd_oPutR (m pc : Nat) (c fk ix : Nat) (C : String) (T : u_T) (N : Nat) (hcl : vwCl[c - 1]? = some (C, T, N)) (hc : 1 ≤ c ∧ c ≤ 7) (hN : nF c = N) (hfk : fk < N) (hT : (T fk).1 = C) (hin : ∀ w ∈ u_ws C T N, w ∈ mWs (Md m)) (hf : fR c fk = true) (ty0 : Nat → FieldType) (hty : ∀ k, k < N → parseFieldDescriptor (T k).2.2.1 = some (ty0 k)) (hnm2 : ∀ a, a < N → ∀ b, b < N → a ≠ b → (T a).2.1 ≠ (T b).2.1) (htk : (∃ n, ty0 fk = .object n) ∨ ∃ t, ty0 fk = .array t) (hfin : (T fk).2.2.2 = false) (hw : Cond.fieldLink (mOwn (Md m)) ix C (T fk).2.1 (T fk).2.2.1 ∈ mWs (Md m)) (d : decode (mCod (Md m)) pc = .ok (.putfield ix, 3)) : SM G Md D A l m pc (oPutR c fk) := by
  refine ⟨mo_oPutR c fk, fun ls st h Q k pp ee RR ss mm aa bb me cc0 HH lc lsC c0 s0 ce se C0 hR hC hS hl ho hcu hsu => ?_⟩
  obtain ⟨⟨hx, hb, hml, hown, hts⟩, hr, hlk, hnm, het, hRm, htr, hA, hG⟩ := id C0
  unfold oPutR at k
  split at k
  · next x r t =>
    obtain ⟨⟨a, rfl, ha⟩, k⟩ := k
    replace ho := List.forall_mem_cons.mp ho
    obtain ⟨ox, ho⟩ := ho
    replace ho := List.forall_mem_cons.mp ho
    obtain ⟨-, ho⟩ := ho
    obtain ⟨hok, ws, tys, hP, hD, hKK, hI⟩ := id hR
    obtain ⟨q0, e, he, hE⟩ := hI a (by omega) (by omega)
    have he2 := isE_obj hE ha hc.2
    subst he2
    refine va_put hx hb hts hin ty0 hty hnm2 hown hKK hP hD hS q0 he hcl fk hfk (hts _ hw) (fun _ z => by rw [hT] at z; exact z) hfin (hty fk hfk) (v := va_rf x) (by rcases htk with ⟨n, e⟩ | ⟨n, e⟩ <;> rw [e] <;> cases x <;> rfl) (by rcases htk with ⟨n, e⟩ | ⟨n, e⟩ <;> rw [e] <;> cases x <;> rfl) (by rw [encF_len]; omega) d (fun H1 lc1 hP1 hD1 hS1 => ?_)
    rw [← encF_pR (by omega) hf] at hP1 hD1
    refine k pp ee RR ss mm aa bb me cc0 H1 lc1 lsC c0 s0 ce se C0 ⟨okh_pR hok, _, tys, hP1, hD1, hKK, inW_set hI he (fun _ => rfl) (fun _ => rfl) (fun b nb i => rfl) (fun b nb i => by rw [gR_pR, if_neg (fun z => nb z.1)]) (fun _ _ _ => rfl) (isE_mkO (c := c) ha hc.2 rfl)⟩ (SC_pR hC) hS1 hl ho hcu hsu
  · exact k.elim
theorem sd_oPutRF (m pc : Nat) (c fk ix : Nat) (C : String) (T : u_T) (N : Nat) (hcl : vwCl[c - 1]? = some (C, T, N)) (hc : 1 ≤ c ∧ c ≤ 7) (hN : nF c = N) (hfk : fk < N) (hT : (T fk).1 = C) (hin : ∀ w ∈ u_ws C T N, w ∈ mWs (Md m)) (hf : fR c fk = true) (ty0 : Nat → FieldType) (hty : ∀ k, k < N → parseFieldDescriptor (T k).2.2.1 = some (ty0 k)) (hnm2 : ∀ a, a < N → ∀ b, b < N → a ≠ b → (T a).2.1 ≠ (T b).2.1) (htk : (∃ n, ty0 fk = .object n) ∨ ∃ t, ty0 fk = .array t) (hfin : (T fk).2.2.2 = true) (hini : (mNam (Md m)).name = "<init>") (hdecl : C = mOwn (Md m)) (hw : Cond.fieldLink (mOwn (Md m)) ix C (T fk).2.1 (T fk).2.2.1 ∈ mWs (Md m)) (d : decode (mCod (Md m)) pc = .ok (.putfield ix, 3)) : SM G Md D A l m pc (oPutR c fk) := by
  refine ⟨mo_oPutR c fk, fun ls st h Q k pp ee RR ss mm aa bb me cc0 HH lc lsC c0 s0 ce se C0 hR hC hS hl ho hcu hsu => ?_⟩
  obtain ⟨⟨hx, hb, hml, hown, hts⟩, hr, hlk, hnm, het, hRm, htr, hA, hG⟩ := id C0
  unfold oPutR at k
  split at k
  · next x r t =>
    obtain ⟨⟨a, rfl, ha⟩, k⟩ := k
    replace ho := List.forall_mem_cons.mp ho
    obtain ⟨ox, ho⟩ := ho
    replace ho := List.forall_mem_cons.mp ho
    obtain ⟨-, ho⟩ := ho
    obtain ⟨hok, ws, tys, hP, hD, hKK, hI⟩ := id hR
    obtain ⟨q0, e, he, hE⟩ := hI a (by omega) (by omega)
    have he2 := isE_obj hE ha hc.2
    subst he2
    refine va_putF hx hb hts hin ty0 hty hnm2 hown hKK hP hD hS q0 he hcl fk hfk (hts _ hw) (fun _ z => by rw [hT] at z; exact z) hfin (by rw [hnm]; exact hini) (by rw [hT]; exact hdecl) (hty fk hfk) (v := va_rf x) (by rcases htk with ⟨n, e⟩ | ⟨n, e⟩ <;> rw [e] <;> cases x <;> rfl) (by rcases htk with ⟨n, e⟩ | ⟨n, e⟩ <;> rw [e] <;> cases x <;> rfl) (by rw [encF_len]; omega) d (fun H1 lc1 hP1 hD1 hS1 => ?_)
    rw [← encF_pR (by omega) hf] at hP1 hD1
    refine k pp ee RR ss mm aa bb me cc0 H1 lc1 lsC c0 s0 ce se C0 ⟨okh_pR hok, _, tys, hP1, hD1, hKK, inW_set hI he (fun _ => rfl) (fun _ => rfl) (fun b nb i => rfl) (fun b nb i => by rw [gR_pR, if_neg (fun z => nb z.1)]) (fun _ _ _ => rfl) (isE_mkO (c := c) ha hc.2 rfl)⟩ (SC_pR hC) hS1 hl ho hcu hsu
  · exact k.elim
theorem sd_oPutRN (m pc : Nat) (c fk ix : Nat) (C : String) (T : u_T) (N : Nat) (hcl : vwCl[c - 1]? = some (C, T, N)) (hc : 1 ≤ c ∧ c ≤ 7) (hN : nF c = N) (hfk : fk < N) (hT : (T fk).1 = C) (hin : ∀ w ∈ u_ws C T N, w ∈ mWs (Md m)) (hf : fR c fk = true) (ty0 : Nat → FieldType) (hty : ∀ k, k < N → parseFieldDescriptor (T k).2.2.1 = some (ty0 k)) (hnm2 : ∀ a, a < N → ∀ b, b < N → a ≠ b → (T a).2.1 ≠ (T b).2.1) (htk : (∃ n, ty0 fk = .object n) ∨ ∃ t, ty0 fk = .array t) (hfin : (T fk).2.2.2 = false) (host : String) (hw : (mOwn (Md m), ix, C, (T fk).2.1, (T fk).2.2.1, host) ∈ G.2.2.2.1) (d : decode (mCod (Md m)) pc = .ok (.putfield ix, 3)) : SM G Md D A l m pc (oPutR c fk) := by
  refine ⟨mo_oPutR c fk, fun ls st h Q k pp ee RR ss mm aa bb me cc0 HH lc lsC c0 s0 ce se C0 hR hC hS hl ho hcu hsu => ?_⟩
  obtain ⟨⟨hx, hb, hml, hown, hts⟩, hr, hlk, hnm, het, hRm, htr, hA, hG⟩ := id C0
  unfold oPutR at k
  split at k
  · next x r t =>
    obtain ⟨⟨a, rfl, ha⟩, k⟩ := k
    replace ho := List.forall_mem_cons.mp ho
    obtain ⟨ox, ho⟩ := ho
    replace ho := List.forall_mem_cons.mp ho
    obtain ⟨-, ho⟩ := ho
    obtain ⟨hok, ws, tys, hP, hD, hKK, hI⟩ := id hR
    obtain ⟨q0, e, he, hE⟩ := hI a (by omega) (by omega)
    have he2 := isE_obj hE ha hc.2
    subst he2
    refine va_putN hx hb hts hin ty0 hty hnm2 hown hKK hP hD hS q0 he hcl fk hfk (va_Nw.use rfl (hG.2.2.2.2.2.1 _ hw)) (fun _ z => by rw [hT] at z; exact z) hfin (hty fk hfk) (v := va_rf x) (by rcases htk with ⟨n, e⟩ | ⟨n, e⟩ <;> rw [e] <;> cases x <;> rfl) (by rcases htk with ⟨n, e⟩ | ⟨n, e⟩ <;> rw [e] <;> cases x <;> rfl) (by rw [encF_len]; omega) d (fun H1 lc1 hP1 hD1 hS1 => ?_)
    rw [← encF_pR (by omega) hf] at hP1 hD1
    refine k pp ee RR ss mm aa bb me cc0 H1 lc1 lsC c0 s0 ce se C0 ⟨okh_pR hok, _, tys, hP1, hD1, hKK, inW_set hI he (fun _ => rfl) (fun _ => rfl) (fun b nb i => rfl) (fun b nb i => by rw [gR_pR, if_neg (fun z => nb z.1)]) (fun _ _ _ => rfl) (isE_mkO (c := c) ha hc.2 rfl)⟩ (SC_pR hC) hS1 hl ho hcu hsu
  · exact k.elim
theorem sd_iald (m pc : Nat)  (d : decode (mCod (Md m)) pc = .ok (.iaload, 1)) : SM G Md D A l m pc (oALdI 10) := by
  refine ⟨mo_oALdI 10, fun ls st h Q k pp ee RR ss mm aa bb me cc0 HH lc lsC c0 s0 ce se C0 hR hC hS hl ho hcu hsu => ?_⟩
  obtain ⟨⟨hx, hb, hml, hown, hts⟩, hr, hlk, hnm, het, hRm, htr, hA, hG⟩ := id C0
  unfold oALdI at k
  split at k
  · next i r t =>
    obtain ⟨⟨⟨a, rfl, ha⟩, h0, h1⟩, k⟩ := k
    replace ho := List.forall_mem_cons.mp ho
    obtain ⟨oi, ho⟩ := ho
    replace ho := List.forall_mem_cons.mp ho
    obtain ⟨-, ho⟩ := ho
    obtain ⟨hok, ws, tys, hP, hD, hKK, hI⟩ := id hR
    have h1 : i < gL h a := h1
    have hlen := (hok.2.1 a).1
    obtain ⟨q0, e, he, hE⟩ := hI a (by omega) (by omega)
    obtain ⟨cA, t0, he2, ht0⟩ := isE_arr hE ha (by omega)
    subst he2
    refine va_iald hx hb hKK hP q0 t0 he ht0 (z_in oi h0 (by omega)) d ?_
    rw [z_cl oi, show (((i.toNat : Nat) : Int)) = i by omega]
    exact k pp ee RR ss mm aa bb me cc0 HH lc lsC c0 s0 ce se C0 hR hC hS hl (List.forall_mem_cons.mpr ⟨hok.1 a i, ho⟩) hcu hsu
  · exact k.elim
theorem sd_zald (m pc : Nat)  (d : decode (mCod (Md m)) pc = .ok (.baload, 1)) : SM G Md D A l m pc (oALdI 12) := by
  refine ⟨mo_oALdI 12, fun ls st h Q k pp ee RR ss mm aa bb me cc0 HH lc lsC c0 s0 ce se C0 hR hC hS hl ho hcu hsu => ?_⟩
  obtain ⟨⟨hx, hb, hml, hown, hts⟩, hr, hlk, hnm, het, hRm, htr, hA, hG⟩ := id C0
  unfold oALdI at k
  split at k
  · next i r t =>
    obtain ⟨⟨⟨a, rfl, ha⟩, h0, h1⟩, k⟩ := k
    replace ho := List.forall_mem_cons.mp ho
    obtain ⟨oi, ho⟩ := ho
    replace ho := List.forall_mem_cons.mp ho
    obtain ⟨-, ho⟩ := ho
    obtain ⟨hok, ws, tys, hP, hD, hKK, hI⟩ := id hR
    have h1 : i < gL h a := h1
    have hlen := (hok.2.1 a).1
    obtain ⟨q0, e, he, hE⟩ := hI a (by omega) (by omega)
    obtain ⟨cA, t0, he2, ht0⟩ := isE_arr hE ha (by omega)
    subst he2
    refine va_zald hx hb hKK hP q0 t0 he ht0 (z_in oi h0 (by omega)) d ?_
    rw [z_cl oi, show (((i.toNat : Nat) : Int)) = i by omega]
    exact k pp ee RR ss mm aa bb me cc0 HH lc lsC c0 s0 ce se C0 hR hC hS hl (List.forall_mem_cons.mpr ⟨hok.1 a i, ho⟩) hcu hsu
  · exact k.elim
theorem sd_lald (m pc : Nat)  (d : decode (mCod (Md m)) pc = .ok (.laload, 1)) : SM G Md D A l m pc (oALdJ) := by
  refine ⟨mo_oALdJ, fun ls st h Q k pp ee RR ss mm aa bb me cc0 HH lc lsC c0 s0 ce se C0 hR hC hS hl ho hcu hsu => ?_⟩
  obtain ⟨⟨hx, hb, hml, hown, hts⟩, hr, hlk, hnm, het, hRm, htr, hA, hG⟩ := id C0
  unfold oALdJ at k
  split at k
  · next i r t =>
    obtain ⟨⟨⟨a, rfl, ha⟩, h0, h1⟩, k⟩ := k
    replace ho := List.forall_mem_cons.mp ho
    obtain ⟨oi, ho⟩ := ho
    replace ho := List.forall_mem_cons.mp ho
    obtain ⟨-, ho⟩ := ho
    obtain ⟨hok, ws, tys, hP, hD, hKK, hI⟩ := id hR
    have h1 : i < gL h a := h1
    have hlen := (hok.2.1 a).1
    obtain ⟨q0, e, he, hE⟩ := hI a (by omega) (by omega)
    obtain ⟨cA, t0, he2, ht0⟩ := isE_arr hE ha (by omega)
    subst he2
    refine va_lald hx hb hKK hP q0 t0 he ht0 (z_in oi h0 (by omega)) d ?_
    rw [z_cl oi, show (((i.toNat : Nat) : Int)) = i by omega]
    exact k pp ee RR ss mm aa bb me cc0 HH lc lsC c0 s0 ce se C0 hR hC hS hl (List.forall_mem_cons.mpr ⟨trivial, ho⟩) hcu hsu
  · exact k.elim
theorem sd_aaldN (m pc : Nat)  (d : decode (mCod (Md m)) pc = .ok (.aaload, 1)) : SM G Md D A l m pc (oALdR 13) := by
  refine ⟨mo_oALdR 13, fun ls st h Q k pp ee RR ss mm aa bb me cc0 HH lc lsC c0 s0 ce se C0 hR hC hS hl ho hcu hsu => ?_⟩
  obtain ⟨⟨hx, hb, hml, hown, hts⟩, hr, hlk, hnm, het, hRm, htr, hA, hG⟩ := id C0
  unfold oALdR at k
  split at k
  · next i r t =>
    obtain ⟨⟨⟨a, rfl, ha⟩, h0, h1⟩, k⟩ := k
    replace ho := List.forall_mem_cons.mp ho
    obtain ⟨oi, ho⟩ := ho
    replace ho := List.forall_mem_cons.mp ho
    obtain ⟨-, ho⟩ := ho
    obtain ⟨hok, ws, tys, hP, hD, hKK, hI⟩ := id hR
    have h1 : i < gL h a := h1
    have hlen := (hok.2.1 a).1
    obtain ⟨q0, e, he, hE⟩ := hI a (by omega) (by omega)
    obtain ⟨cA, t0, he2, ht0⟩ := isE_arr hE ha (by omega)
    subst he2
    refine va_aldq hx hb hKK hP q0 t0 he ht0 (z_in oi h0 (by omega)) d ?_
    rw [z_cl oi, show (((i.toNat : Nat) : Int)) = i by omega]
    exact k pp ee RR ss mm aa bb me cc0 HH lc lsC c0 s0 ce se C0 hR hC hS hl (List.forall_mem_cons.mpr ⟨trivial, ho⟩) hcu hsu
  · exact k.elim
theorem sd_aaldA (m pc : Nat)  (d : decode (mCod (Md m)) pc = .ok (.aaload, 1)) : SM G Md D A l m pc (oALdR 14) := by
  refine ⟨mo_oALdR 14, fun ls st h Q k pp ee RR ss mm aa bb me cc0 HH lc lsC c0 s0 ce se C0 hR hC hS hl ho hcu hsu => ?_⟩
  obtain ⟨⟨hx, hb, hml, hown, hts⟩, hr, hlk, hnm, het, hRm, htr, hA, hG⟩ := id C0
  unfold oALdR at k
  split at k
  · next i r t =>
    obtain ⟨⟨⟨a, rfl, ha⟩, h0, h1⟩, k⟩ := k
    replace ho := List.forall_mem_cons.mp ho
    obtain ⟨oi, ho⟩ := ho
    replace ho := List.forall_mem_cons.mp ho
    obtain ⟨-, ho⟩ := ho
    obtain ⟨hok, ws, tys, hP, hD, hKK, hI⟩ := id hR
    have h1 : i < gL h a := h1
    have hlen := (hok.2.1 a).1
    obtain ⟨q0, e, he, hE⟩ := hI a (by omega) (by omega)
    obtain ⟨cA, t0, he2, ht0⟩ := isE_arr hE ha (by omega)
    subst he2
    refine va_aldA hx hb hKK hP q0 t0 he ht0 (z_in oi h0 (by omega)) d ?_
    rw [z_cl oi, show (((i.toNat : Nat) : Int)) = i by omega]
    exact k pp ee RR ss mm aa bb me cc0 HH lc lsC c0 s0 ce se C0 hR hC hS hl (List.forall_mem_cons.mpr ⟨trivial, ho⟩) hcu hsu
  · exact k.elim
theorem sd_aaldB (m pc : Nat)  (d : decode (mCod (Md m)) pc = .ok (.aaload, 1)) : SM G Md D A l m pc (oALdR 16) := by
  refine ⟨mo_oALdR 16, fun ls st h Q k pp ee RR ss mm aa bb me cc0 HH lc lsC c0 s0 ce se C0 hR hC hS hl ho hcu hsu => ?_⟩
  obtain ⟨⟨hx, hb, hml, hown, hts⟩, hr, hlk, hnm, het, hRm, htr, hA, hG⟩ := id C0
  unfold oALdR at k
  split at k
  · next i r t =>
    obtain ⟨⟨⟨a, rfl, ha⟩, h0, h1⟩, k⟩ := k
    replace ho := List.forall_mem_cons.mp ho
    obtain ⟨oi, ho⟩ := ho
    replace ho := List.forall_mem_cons.mp ho
    obtain ⟨-, ho⟩ := ho
    obtain ⟨hok, ws, tys, hP, hD, hKK, hI⟩ := id hR
    have h1 : i < gL h a := h1
    have hlen := (hok.2.1 a).1
    obtain ⟨q0, e, he, hE⟩ := hI a (by omega) (by omega)
    obtain ⟨cA, t0, he2, ht0⟩ := isE_arr hE ha (by omega)
    subst he2
    refine va_aldA hx hb hKK hP q0 t0 he ht0 (z_in oi h0 (by omega)) d ?_
    rw [z_cl oi, show (((i.toNat : Nat) : Int)) = i by omega]
    exact k pp ee RR ss mm aa bb me cc0 HH lc lsC c0 s0 ce se C0 hR hC hS hl (List.forall_mem_cons.mpr ⟨trivial, ho⟩) hcu hsu
  · exact k.elim
theorem sd_sld (m pc : Nat)  (d : decode (mCod (Md m)) pc = .ok (.iaload, 1)) : SM G Md D A l m pc (oALdI 15) := by
  refine ⟨mo_oALdI 15, fun ls st h Q k pp ee RR ss mm aa bb me cc0 HH lc lsC c0 s0 ce se C0 hR hC hS hl ho hcu hsu => ?_⟩
  obtain ⟨⟨hx, hb, hml, hown, hts⟩, hr, hlk, hnm, het, hRm, htr, hA, hG⟩ := id C0
  unfold oALdI at k
  split at k
  · next i r t =>
    obtain ⟨⟨⟨a, rfl, ha⟩, h0, h1⟩, k⟩ := k
    replace ho := List.forall_mem_cons.mp ho
    obtain ⟨oi, ho⟩ := ho
    replace ho := List.forall_mem_cons.mp ho
    obtain ⟨-, ho⟩ := ho
    have hok := hR.1
    have h1 : i < gL h a := h1
    have hlen := (hok.2.1 a).1
    obtain ⟨c1, c2, c3⟩ := hC a ha
    refine va_sld hx hb c3 c2 c1 hS (z_in oi h0 (by omega)) d ?_
    rw [z_cl oi, show (((i.toNat : Nat) : Int)) = i by omega]
    exact k pp ee RR ss mm aa bb me cc0 HH lc lsC c0 s0 ce se C0 hR hC hS hl (List.forall_mem_cons.mpr ⟨hok.1 a i, ho⟩) hcu hsu
  · exact k.elim
theorem sd_alen (m pc : Nat) (c : Nat) (h10 : 10 ≤ c ∧ c ≠ 15) (d : decode (mCod (Md m)) pc = .ok (.arraylength, 1)) : SM G Md D A l m pc (oALen c) := by
  refine ⟨mo_oALen c, fun ls st h Q k pp ee RR ss mm aa bb me cc0 HH lc lsC c0 s0 ce se C0 hR hC hS hl ho hcu hsu => ?_⟩
  obtain ⟨⟨hx, hb, hml, hown, hts⟩, hr, hlk, hnm, het, hRm, htr, hA, hG⟩ := id C0
  unfold oALen at k
  split at k
  · next r t =>
    obtain ⟨⟨a, rfl, ha⟩, k⟩ := k
    replace ho := List.forall_mem_cons.mp ho
    obtain ⟨-, ho⟩ := ho
    obtain ⟨hok, ws, tys, hP, hD, hKK, hI⟩ := id hR
    have hlen := hok.2.1 a
    obtain ⟨q0, e, he, hE⟩ := hI a (by omega) (by omega)
    obtain ⟨cA, t0, he2, ht0⟩ := isE_arr hE ha h10.1
    subst he2
    refine va_alen (v := Int32.ofInt (gL h a)) hx hb hKK hP q0 t0 he ht0 ?_ d (k pp ee RR ss mm aa bb me cc0 HH lc lsC c0 s0 ce se C0 hR hC hS hl (List.forall_mem_cons.mpr ⟨⟨by have := hlen.1; show _ ≤ gL h a; omega, by have := hlen.2; show gL h a ≤ _; omega⟩, ho⟩) hcu hsu)
    rw [akE_n]
    show Int32.ofInt ((gL h a).toNat : Int) = _
    rw [Int.toNat_of_nonneg hlen.1]
  · exact k.elim
theorem sd_slen (m pc : Nat)  (d : decode (mCod (Md m)) pc = .ok (.arraylength, 1)) : SM G Md D A l m pc (oALen 15) := by
  refine ⟨mo_oALen 15, fun ls st h Q k pp ee RR ss mm aa bb me cc0 HH lc lsC c0 s0 ce se C0 hR hC hS hl ho hcu hsu => ?_⟩
  obtain ⟨⟨hx, hb, hml, hown, hts⟩, hr, hlk, hnm, het, hRm, htr, hA, hG⟩ := id C0
  unfold oALen at k
  split at k
  · next r t =>
    obtain ⟨⟨a, rfl, ha⟩, k⟩ := k
    replace ho := List.forall_mem_cons.mp ho
    obtain ⟨-, ho⟩ := ho
    have hok := hR.1
    have hlen := hok.2.1 a
    obtain ⟨c1, c2, c3⟩ := hC a ha
    refine va_slen hx hb c3 c2 c1 hS d ?_
    rw [show Int32.ofNat (gL h a).toNat = Int32.ofInt (gL h a) from by
      show Int32.ofInt ((gL h a).toNat : Int) = _
      rw [Int.toNat_of_nonneg hlen.1]]
    exact k pp ee RR ss mm aa bb me cc0 HH lc lsC c0 s0 ce se C0 hR hC hS hl (List.forall_mem_cons.mpr ⟨⟨by have := hlen.1; show _ ≤ gL h a; omega, by have := hlen.2; show gL h a ≤ _; omega⟩, ho⟩) hcu hsu
  · exact k.elim
theorem sd_iast (m pc : Nat)  (d : decode (mCod (Md m)) pc = .ok (.iastore, 1)) : SM G Md D A l m pc (oAStI) := by
  refine ⟨mo_oAStI, fun ls st h Q k pp ee RR ss mm aa bb me cc0 HH lc lsC c0 s0 ce se C0 hR hC hS hl ho hcu hsu => ?_⟩
  obtain ⟨⟨hx, hb, hml, hown, hts⟩, hr, hlk, hnm, het, hRm, htr, hA, hG⟩ := id C0
  unfold oAStI at k
  split at k
  · next x i r t =>
    obtain ⟨⟨⟨a, rfl, ha⟩, h0, h1⟩, k⟩ := k
    replace ho := List.forall_mem_cons.mp ho
    obtain ⟨ox, ho⟩ := ho
    replace ho := List.forall_mem_cons.mp ho
    obtain ⟨oi, ho⟩ := ho
    replace ho := List.forall_mem_cons.mp ho
    obtain ⟨-, ho⟩ := ho
    obtain ⟨hok, ws, tys, hP, hD, hKK, hI⟩ := id hR
    have h1 : i < gL h a := h1
    have hlen := (hok.2.1 a).1
    obtain ⟨q0, e, he, hE⟩ := hI a (by omega) (by omega)
    obtain ⟨cA, t0, he2, ht0⟩ := isE_arr hE ha (by omega)
    subst he2
    refine va_iast hx hb hKK hP hD hS q0 t0 he ht0 (z_in oi h0 (by omega)) d (fun H1 lc1 hP1 hD1 hS1 => ?_)
    rw [z_cl oi] at hP1 hD1
    refine k pp ee RR ss mm aa bb me cc0 H1 lc1 lsC c0 s0 ce se C0 ⟨okh_pI hok ox, _, tys, hP1, hD1, hKK, inW_set hI he (fun _ => rfl) (fun _ => rfl) (fun b nb j => by rw [gI_pI, if_neg (fun z => nb z.1)]) (fun b nb j => rfl) (fun b nb j => rfl) (isE_mkA ha (by omega) cA t0 ?_ ht0)⟩ (SC_pI (a := a) hC (by omega)) hS1 hl ho hcu hsu
    refine congrArg Sum.inl (congrArg (Prod.mk cA) ?_)
    show ((gL h a).toNat, _) = ((gL h a).toNat, _)
    refine congrArg (Prod.mk _) (congrArg _ (funext fun j => ?_))
    show upd (fun j : Nat => Int32.ofInt (gI h a j)) i.toNat (Int32.ofInt x) j = Int32.ofInt (gI (pI h (ad (some a)) i x) a j)
    rw [gI_pI]
    by_cases z : j = i.toNat
    · rw [if_pos ⟨rfl, by omega⟩]; simp [upd, z]
    · rw [if_neg (fun q => z (by have := q.2; omega))]; simp [upd, z]
  · exact k.elim
theorem sd_zast (m pc : Nat)  (d : decode (mCod (Md m)) pc = .ok (.bastore, 1)) : SM G Md D A l m pc (oAStZ) := by
  refine ⟨mo_oAStZ, fun ls st h Q k pp ee RR ss mm aa bb me cc0 HH lc lsC c0 s0 ce se C0 hR hC hS hl ho hcu hsu => ?_⟩
  obtain ⟨⟨hx, hb, hml, hown, hts⟩, hr, hlk, hnm, het, hRm, htr, hA, hG⟩ := id C0
  unfold oAStZ at k
  split at k
  · next x i r t =>
    obtain ⟨⟨⟨⟨a, rfl, ha⟩, h0, h1⟩, h01⟩, k⟩ := k
    replace ho := List.forall_mem_cons.mp ho
    obtain ⟨ox, ho⟩ := ho
    replace ho := List.forall_mem_cons.mp ho
    obtain ⟨oi, ho⟩ := ho
    replace ho := List.forall_mem_cons.mp ho
    obtain ⟨-, ho⟩ := ho
    obtain ⟨hok, ws, tys, hP, hD, hKK, hI⟩ := id hR
    have h1 : i < gL h a := h1
    have hlen := (hok.2.1 a).1
    obtain ⟨q0, e, he, hE⟩ := hI a (by omega) (by omega)
    obtain ⟨cA, t0, he2, ht0⟩ := isE_arr hE ha (by omega)
    subst he2
    refine va_zast hx hb hKK hP hD hS q0 t0 he ht0 (z_in oi h0 (by omega)) d (fun H1 lc1 hP1 hD1 hS1 => ?_)
    rw [z_cl oi] at hP1 hD1
    refine k pp ee RR ss mm aa bb me cc0 H1 lc1 lsC c0 s0 ce se C0 ⟨okh_pI hok ox, _, tys, hP1, hD1, hKK, inW_set hI he (fun _ => rfl) (fun _ => rfl) (fun b nb j => by rw [gI_pI, if_neg (fun z => nb z.1)]) (fun b nb j => rfl) (fun b nb j => rfl) (isE_mkA ha (by omega) cA t0 ?_ ht0)⟩ (SC_pI (a := a) hC (by omega)) hS1 hl ho hcu hsu
    refine congrArg Sum.inl (congrArg (Prod.mk cA) ?_)
    show ((gL h a).toNat, _) = ((gL h a).toNat, _)
    refine congrArg (Prod.mk _) (congrArg _ (funext fun j => ?_))
    show upd (fun j : Nat => Int32.ofInt (gI h a j)) i.toNat (vp_nar .boolean (Int32.ofInt x)) j = Int32.ofInt (gI (pI h (ad (some a)) i x) a j)
    rw [gI_pI, show vp_nar .boolean (Int32.ofInt x) = Int32.ofInt x from by rcases h01 with rfl | rfl <;> rfl]
    by_cases z : j = i.toNat
    · rw [if_pos ⟨rfl, by omega⟩]; simp [upd, z]
    · rw [if_neg (fun q => z (by have := q.2; omega))]; simp [upd, z]
  · exact k.elim
theorem sd_last (m pc : Nat)  (d : decode (mCod (Md m)) pc = .ok (.lastore, 1)) : SM G Md D A l m pc (oAStJ) := by
  refine ⟨mo_oAStJ, fun ls st h Q k pp ee RR ss mm aa bb me cc0 HH lc lsC c0 s0 ce se C0 hR hC hS hl ho hcu hsu => ?_⟩
  obtain ⟨⟨hx, hb, hml, hown, hts⟩, hr, hlk, hnm, het, hRm, htr, hA, hG⟩ := id C0
  unfold oAStJ at k
  split at k
  · next x i r t =>
    obtain ⟨⟨⟨a, rfl, ha⟩, h0, h1⟩, k⟩ := k
    replace ho := List.forall_mem_cons.mp ho
    obtain ⟨ox, ho⟩ := ho
    replace ho := List.forall_mem_cons.mp ho
    obtain ⟨oi, ho⟩ := ho
    replace ho := List.forall_mem_cons.mp ho
    obtain ⟨-, ho⟩ := ho
    obtain ⟨hok, ws, tys, hP, hD, hKK, hI⟩ := id hR
    have h1 : i < gL h a := h1
    have hlen := (hok.2.1 a).1
    obtain ⟨q0, e, he, hE⟩ := hI a (by omega) (by omega)
    obtain ⟨cA, t0, he2, ht0⟩ := isE_arr hE ha (by omega)
    subst he2
    refine va_last hx hb hKK hP hD hS q0 t0 he ht0 (z_in oi h0 (by omega)) d (fun H1 lc1 hP1 hD1 hS1 => ?_)
    rw [z_cl oi] at hP1 hD1
    refine k pp ee RR ss mm aa bb me cc0 H1 lc1 lsC c0 s0 ce se C0 ⟨okh_pJ hok, _, tys, hP1, hD1, hKK, inW_set hI he (fun _ => rfl) (fun _ => rfl) (fun b nb j => rfl) (fun b nb j => rfl) (fun b nb j => by rw [gJ_pJ, if_neg (fun z => nb z.1)]) (isE_mkA ha (by omega) cA t0 ?_ ht0)⟩ (SC_pJ hC) hS1 hl ho hcu hsu
    refine congrArg Sum.inl (congrArg (Prod.mk cA) ?_)
    show ((gL h a).toNat, _) = ((gL h a).toNat, _)
    refine congrArg (Prod.mk _) (congrArg _ (congrArg Sum.inl (funext fun j => ?_)))
    show vp_updL (fun j : Nat => gJ h a j) i.toNat x j = gJ (pJ h (ad (some a)) i x) a j
    rw [gJ_pJ]
    by_cases z : j = i.toNat
    · rw [if_pos ⟨rfl, by omega⟩]; simp [vp_updL, z]
    · rw [if_neg (fun q => z (by have := q.2; omega))]; simp [vp_updL, z]
  · exact k.elim
theorem sd_aastN (m pc : Nat)  (d : decode (mCod (Md m)) pc = .ok (.aastore, 1)) : SM G Md D A l m pc (oAStR 13 3) := by
  refine ⟨mo_oAStR 13 3, fun ls st h Q k pp ee RR ss mm aa bb me cc0 HH lc lsC c0 s0 ce se C0 hR hC hS hl ho hcu hsu => ?_⟩
  obtain ⟨⟨hx, hb, hml, hown, hts⟩, hr, hlk, hnm, het, hRm, htr, hA, hG⟩ := id C0
  unfold oAStR at k
  split at k
  · next x i r t =>
    obtain ⟨⟨⟨⟨a, rfl, ha⟩, h0, h1⟩, ⟨xa, rfl, hxa⟩⟩, k⟩ := k
    replace ho := List.forall_mem_cons.mp ho
    obtain ⟨ox, ho⟩ := ho
    replace ho := List.forall_mem_cons.mp ho
    obtain ⟨oi, ho⟩ := ho
    replace ho := List.forall_mem_cons.mp ho
    obtain ⟨-, ho⟩ := ho
    obtain ⟨hok, ws, tys, hP, hD, hKK, hI⟩ := id hR
    have h1 : i < gL h a := h1
    have hlen := (hok.2.1 a).1
    obtain ⟨q0, e, he, hE⟩ := hI a (by omega) (by omega)
    obtain ⟨cA, t0, he2, ht0⟩ := isE_arr hE ha (by omega)
    subst he2
    obtain ⟨qk, ev, hev, hEv⟩ := hI xa (by omega) (by omega)
    have hev2 := isE_obj hEv hxa (by omega)
    subst hev2
    refine va_astq (r := (RX2, TX2, 10)) hx hb hKK hP hD hS q0 t0 qk 2 he ht0 hev rfl (z_in oi h0 (by omega)) d (fun H1 lc1 hP1 hD1 hS1 => ?_)
    rw [z_cl oi] at hP1 hD1
    refine k pp ee RR ss mm aa bb me cc0 H1 lc1 lsC c0 s0 ce se C0 ⟨okh_pR hok, _, tys, hP1, hD1, hKK, inW_set hI he (fun _ => rfl) (fun _ => rfl) (fun b nb j => rfl) (fun b nb j => by rw [gR_pR, if_neg (fun z => nb z.1)]) (fun b nb j => rfl) (isE_mkA ha (by omega) cA t0 ?_ ht0)⟩ (SC_pR hC) hS1 hl ho hcu hsu
    refine congrArg Sum.inl (congrArg (Prod.mk cA) ?_)
    show ((gL h a).toNat, _) = ((gL h a).toNat, _)
    refine congrArg (Prod.mk _) (congrArg (fun z => Sum.inr (Sum.inr (Sum.inr (Sum.inr z)))) (funext fun j => ?_))
    show va_up (fun j : Nat => gR h a j) i.toNat (some xa) j = gR (pR h (ad (some a)) i (some xa)) a j
    rw [gR_pR]
    by_cases z : j = i.toNat
    · rw [if_pos ⟨rfl, by omega⟩]; simp [va_up, z]
    · rw [if_neg (fun q => z (by have := q.2; omega))]; simp [va_up, z]
  · exact k.elim
theorem sd_aastA (m pc : Nat)  (d : decode (mCod (Md m)) pc = .ok (.aastore, 1)) : SM G Md D A l m pc (oAStR 14 10) := by
  refine ⟨mo_oAStR 14 10, fun ls st h Q k pp ee RR ss mm aa bb me cc0 HH lc lsC c0 s0 ce se C0 hR hC hS hl ho hcu hsu => ?_⟩
  obtain ⟨⟨hx, hb, hml, hown, hts⟩, hr, hlk, hnm, het, hRm, htr, hA, hG⟩ := id C0
  unfold oAStR at k
  split at k
  · next x i r t =>
    obtain ⟨⟨⟨⟨a, rfl, ha⟩, h0, h1⟩, ⟨xa, rfl, hxa⟩⟩, k⟩ := k
    replace ho := List.forall_mem_cons.mp ho
    obtain ⟨ox, ho⟩ := ho
    replace ho := List.forall_mem_cons.mp ho
    obtain ⟨oi, ho⟩ := ho
    replace ho := List.forall_mem_cons.mp ho
    obtain ⟨-, ho⟩ := ho
    obtain ⟨hok, ws, tys, hP, hD, hKK, hI⟩ := id hR
    have h1 : i < gL h a := h1
    have hlen := (hok.2.1 a).1
    obtain ⟨q0, e, he, hE⟩ := hI a (by omega) (by omega)
    obtain ⟨cA, t0, he2, ht0⟩ := isE_arr hE ha (by omega)
    subst he2
    obtain ⟨qk, ev, hev, hEv⟩ := hI xa (by omega) (by omega)
    obtain ⟨cV, tV, hev2, htV⟩ := isE_arr hEv hxa (by omega)
    subst hev2
    refine va_astA (fun k q h1 h2 => by have z := (hKK.2 k q h1).2; rw [h2] at z; exact z) hG.2.2.2.2.2.2.2.2.1 hx hb hKK hP hD hS q0 t0 qk tV he ht0 hev htV (z_in oi h0 (by omega)) d (fun H1 lc1 hP1 hD1 hS1 => ?_)
    rw [z_cl oi] at hP1 hD1
    refine k pp ee RR ss mm aa bb me cc0 H1 lc1 lsC c0 s0 ce se C0 ⟨okh_pR hok, _, tys, hP1, hD1, hKK, inW_set hI he (fun _ => rfl) (fun _ => rfl) (fun b nb j => rfl) (fun b nb j => by rw [gR_pR, if_neg (fun z => nb z.1)]) (fun b nb j => rfl) (isE_mkA ha (by omega) cA t0 ?_ ht0)⟩ (SC_pR hC) hS1 hl ho hcu hsu
    refine congrArg Sum.inl (congrArg (Prod.mk cA) ?_)
    show ((gL h a).toNat, _) = ((gL h a).toNat, _)
    refine congrArg (Prod.mk _) (congrArg (fun z => Sum.inr (Sum.inr (Sum.inr (Sum.inr z)))) (funext fun j => ?_))
    show va_up (fun j : Nat => gR h a j) i.toNat (some xa) j = gR (pR h (ad (some a)) i (some xa)) a j
    rw [gR_pR]
    by_cases z : j = i.toNat
    · rw [if_pos ⟨rfl, by omega⟩]; simp [va_up, z]
    · rw [if_neg (fun q => z (by have := q.2; omega))]; simp [va_up, z]
  · exact k.elim
theorem sd_aastB (m pc : Nat)  (d : decode (mCod (Md m)) pc = .ok (.aastore, 1)) : SM G Md D A l m pc (oAStR 16 14) := by
  refine ⟨mo_oAStR 16 14, fun ls st h Q k pp ee RR ss mm aa bb me cc0 HH lc lsC c0 s0 ce se C0 hR hC hS hl ho hcu hsu => ?_⟩
  obtain ⟨⟨hx, hb, hml, hown, hts⟩, hr, hlk, hnm, het, hRm, htr, hA, hG⟩ := id C0
  unfold oAStR at k
  split at k
  · next x i r t =>
    obtain ⟨⟨⟨⟨a, rfl, ha⟩, h0, h1⟩, ⟨xa, rfl, hxa⟩⟩, k⟩ := k
    replace ho := List.forall_mem_cons.mp ho
    obtain ⟨ox, ho⟩ := ho
    replace ho := List.forall_mem_cons.mp ho
    obtain ⟨oi, ho⟩ := ho
    replace ho := List.forall_mem_cons.mp ho
    obtain ⟨-, ho⟩ := ho
    obtain ⟨hok, ws, tys, hP, hD, hKK, hI⟩ := id hR
    have h1 : i < gL h a := h1
    have hlen := (hok.2.1 a).1
    obtain ⟨q0, e, he, hE⟩ := hI a (by omega) (by omega)
    obtain ⟨cA, t0, he2, ht0⟩ := isE_arr hE ha (by omega)
    subst he2
    obtain ⟨qk, ev, hev, hEv⟩ := hI xa (by omega) (by omega)
    obtain ⟨cV, tV, hev2, htV⟩ := isE_arr hEv hxa (by omega)
    subst hev2
    refine va_astA (fun k q h1 h2 => by have z := (hKK.2 k q h1).2; rw [h2] at z; exact z) hG.2.2.2.2.2.2.2.2.2 hx hb hKK hP hD hS q0 t0 qk tV he ht0 hev htV (z_in oi h0 (by omega)) d (fun H1 lc1 hP1 hD1 hS1 => ?_)
    rw [z_cl oi] at hP1 hD1
    refine k pp ee RR ss mm aa bb me cc0 H1 lc1 lsC c0 s0 ce se C0 ⟨okh_pR hok, _, tys, hP1, hD1, hKK, inW_set hI he (fun _ => rfl) (fun _ => rfl) (fun b nb j => rfl) (fun b nb j => by rw [gR_pR, if_neg (fun z => nb z.1)]) (fun b nb j => rfl) (isE_mkA ha (by omega) cA t0 ?_ ht0)⟩ (SC_pR hC) hS1 hl ho hcu hsu
    refine congrArg Sum.inl (congrArg (Prod.mk cA) ?_)
    show ((gL h a).toNat, _) = ((gL h a).toNat, _)
    refine congrArg (Prod.mk _) (congrArg (fun z => Sum.inr (Sum.inr (Sum.inr (Sum.inr z)))) (funext fun j => ?_))
    show va_up (fun j : Nat => gR h a j) i.toNat (some xa) j = gR (pR h (ad (some a)) i (some xa)) a j
    rw [gR_pR]
    by_cases z : j = i.toNat
    · rw [if_pos ⟨rfl, by omega⟩]; simp [va_up, z]
    · rw [if_neg (fun q => z (by have := q.2; omega))]; simp [va_up, z]
  · exact k.elim
end SD2
