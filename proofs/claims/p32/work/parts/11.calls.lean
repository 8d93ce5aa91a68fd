/-! SOUNDNESS of calls: a body's soundness is its contract; behind a call what was made is counted to the cell -/
theorem list_drop_sum {α : Type} (f : α → Nat) (L1 L2 : List α) (a : Nat) (ha : a ≤ L1.length) (hl : L1.length ≤ L2.length) (h : ∀ i, i < L1.length → (L2[i]?).map f = (L1[i]?).map f) : ((L2.drop a).map f).sum = ((L1.drop a).map f).sum + ((L2.drop L1.length).map f).sum := by
  have e1 : L2.map f = L1.map f ++ (L2.drop L1.length).map f := by
    apply List.ext_getElem?
    intro i
    by_cases hi : i < L1.length
    · rw [List.getElem?_append_left (by rw [List.length_map]; exact hi), List.getElem?_map, List.getElem?_map]
      exact h i hi
    · rw [List.getElem?_append_right (by rw [List.length_map]; omega), List.length_map, List.getElem?_map, List.getElem?_map, List.getElem?_drop]
      congr 2
      omega
  rw [List.map_drop, e1, List.drop_append_of_le_length (by rw [List.length_map]; exact ha), List.sum_append]
  simp only [List.map_drop]
theorem z_tight {p : Program} {l : Launch} {e : Env} {R : Room} {s : State} {mm : MethodId} {args : Array Value} {below : List Frame} {meth : Method} {c : Code} {T T' st t : State} {locs locs' L : List Loc} {ce se k n k1 n1 : Nat} (X : Stand p l e R s mm args below meth c T locs ce se) (X' : Stand p l e R s mm args below meth c T' locs' k n) (h0 : st.heap = T.heap) (e1 : T'.heap = t.heap) (hs : st.sameButNew ({ t with vm := st.vm } : State) L k1 n1) : Stand p l e R s mm args below meth c T' locs' (ce + k1) (se + n1) := by
  obtain ⟨-, a2, a3, -, a5, a6⟩ := hs
  have b2 : s.heap.size ≤ T.heap.size := X.same.2.1
  have b3 : T.heap.size ≤ s.heap.size + ce := X.same.2.2.1
  have b5 : ((T.heap.toList.drop s.heap.size).map (·.slots.size)).sum ≤ se := X.same.2.2.2.2.1
  have a2 : T.heap.size ≤ T'.heap.size := by rw [e1, ← h0]; exact a2
  have a3 : T'.heap.size ≤ T.heap.size + k1 := by rw [e1, ← h0]; exact a3
  have a5 : ((T'.heap.toList.drop T.heap.size).map (·.slots.size)).sum ≤ n1 := by rw [e1, ← h0]; exact a5
  have a6 : ∀ i, i < T.heap.toList.length → (T'.heap.toList[i]?).map (·.slots.size) = (T.heap.toList[i]?).map (·.slots.size) := by
    intro i hi
    have hi2 : i < T.heap.size := by simpa using hi
    obtain ⟨c1, g1, -, g3, -⟩ := a6 i (T.heap[i]) (by rw [h0]; exact Array.getElem?_eq_getElem hi2)
    have g4 : T'.heap[i]? = some c1 := by rw [e1]; exact g1
    rw [Array.getElem?_toList, Array.getElem?_toList, g4, Array.getElem?_eq_getElem hi2]
    exact congrArg some g3
  refine { X' with same := ⟨X'.same.1, X'.same.2.1, ?_, X'.same.2.2.2.1, ?_, X'.same.2.2.2.2.2⟩ }
  · show T'.heap.size ≤ s.heap.size + (ce + k1)
    omega
  · show ((T'.heap.toList.drop s.heap.size).map (·.slots.size)).sum ≤ se + n1
    rw [list_drop_sum (·.slots.size) T.heap.toList T'.heap.toList s.heap.size (by simpa using b2) (by simpa using a2) a6]
    have : ((T'.heap.toList.drop T.heap.toList.length).map (·.slots.size)).sum ≤ n1 := by simpa using a5
    omega
theorem sl1_len : ∀ (vs : List Zv), (lg_sl (vs.map cz)).length = (sl1 vs).length
  | [] => rfl
  | v :: r => by
    have ih := sl1_len r
    unfold lg_sl at ih ⊢
    rw [List.map_cons, List.flatMap_cons, List.length_append, ih, ctz_cz]
    show _ = (if ctz v = 2 then some v :: none :: sl1 r else some v :: sl1 r).length
    split <;> simp <;> omega
theorem sl1_get : ∀ (vs : List Zv) (i : Nat) (v : Zv), (sl1 vs)[i]? = some (some v) → (lg_sl (vs.map cz))[i]? = some (.val (cz v)) ∧ v ∈ vs
  | [], i, v, h => by simp [sl1] at h
  | w :: r, i, v, h => by
    have ih := sl1_get r
    unfold lg_sl at ih ⊢
    rw [List.map_cons, List.flatMap_cons, ctz_cz]
    unfold sl1 at h
    split at h
    · next e =>
      rw [if_pos e]
      match i, h with
      | 0, h => simp at h; subst h; exact ⟨rfl, List.mem_cons_self⟩
      | 1, h => simp at h
      | i + 2, h =>
        obtain ⟨a, b⟩ := ih i v (by simpa using h)
        exact ⟨by simpa using a, List.mem_cons_of_mem _ b⟩
    · next e =>
      rw [if_neg e]
      match i, h with
      | 0, h => simp at h; subst h; exact ⟨rfl, List.mem_cons_self⟩
      | i + 1, h =>
        obtain ⟨a, b⟩ := ih i v (by simpa using h)
        exact ⟨by simpa using a, List.mem_cons_of_mem _ b⟩
theorem lh_ent {vs : List Zv} {n : Nat} (hn : (sl1 vs).length ≤ n) (ho : ∀ v ∈ vs, okz v) : lh ((lg_sl (vs.map cz) ++ List.replicate (n - (lg_sl (vs.map cz)).length) Slot.unset).toArray) n (ent n vs) := by
  have h := lv_entry (vs.map cz) (n := n) (by rw [sl1_len]; exact hn)
  refine ⟨h.1, by unfold ent; simp; omega, h.2.1, fun i v hi => ?_⟩
  unfold ent at hi
  by_cases z : i < (sl1 vs).length
  · rw [List.getElem?_append_left z] at hi
    obtain ⟨a, b⟩ := sl1_get vs i v hi
    refine ⟨?_, ho v b⟩
    rw [List.getElem?_toArray, List.getElem?_append_left (by rw [sl1_len]; exact z)]
    exact a
  · rw [List.getElem?_append_right (by omega), List.getElem?_replicate] at hi
    split at hi <;> cases hi
section SD5
variable {G : GwT} {Md : Nat → MdT} {D : va_G} {A : Nat → Prop} {l : Launch}
def PreZ (G : GwT) (D : va_G) (A : Nat → Prop) (h : Zh) : State → Prop := fun U => RH D A h U U.heap ∧ SC A h U ∧ GL G A U ∧ ∀ q, U.heap.size ≤ q → A q
def Qc9 (D : va_G) (A : Nat → Prop) (Q : Zp) (c0 s0 : Nat) : Array Value → State → Outcome → State → Prop := fun _ st o t => EndR D A Q c0 s0 st o t
def Xc9 (D : va_G) (A : Nat → Prop) (Q : Zp) (c0 s0 : Nat) : String → State → State → Prop := fun E st t => ∃ e, E = xcl e ∧ EndX D A Q c0 s0 e st t
theorem end_mq {Q : Zp} {s : State} {args : Array Value} {below : List Frame} {c0 s0 : Nat} : ∀ t, EndZ D A Q c0 s0 below s t → vx_MQ below (Qc9 D A Q c0 s0) (Xc9 D A Q c0 s0) args s (MXC - c0) (MXS - s0) A t := by
  rintro t ⟨o, c1, c2, hr | ⟨q, e, cell, rfl, hx, hq, hv, hcl, hW⟩⟩
  · obtain ⟨v, g, L, d1, d2, d3, d4, d5, d6, d7, d8, ⟨f1, f2, f3⟩, d9⟩ := id hr
    have hok := d4.1.2.2.2
    exact ⟨o, c1, c2, Or.inl ⟨hr, L, ⟨f1, f2, f3.mono (by omega) (by omega)⟩, d9⟩⟩
  · obtain ⟨g, L, d1, d4, d5, d6, d7, d8, f3, d9⟩ := id hx
    have hok := d4.1.2.2.2
    exact ⟨_, c1, c2, Or.inr ⟨q, rfl, xcl e, cell, L, ⟨e, rfl, hx⟩, hq, hv, hcl, hW, f3.mono (by omega) (by omega), d9⟩⟩
/-- a method without handlers -/
theorem met_of {m2 : Nat} {w' : List Cond} {vs : List Zv} {h : Zh} {Q : Zp} (hws : mWs (Md m2) = Cond.code (mNam (Md m2)) (mCod (Md m2)) (mMax (Md m2)) (mRet (Md m2)) :: w') (hhh : mHH (Md m2) = []) (hpl : plainName (mNam (Md m2)).cls = true) (hown : mOwn (Md m2) = (mNam (Md m2)).cls) (htr : l.stackTraces = false)
    (hn : (sl1 vs).length ≤ mMax (Md m2)) (ho : ∀ v ∈ vs, okz v) (k : XS G Md D A l m2 0 (ent (mMax (Md m2)) vs) [] h Q) :
    vx_Met l (mNam (Md m2)) (mWs (Md m2)) (mRm (Md m2) (gC h) (gS h)) (va_Pc (vs.map cz) (PreZ G D A h)) (Qc9 D A Q (gC h) (gS h)) (Xc9 D A Q (gC h) (gS h)) (MXC - gC h) (MXS - gS h) A := by
  refine vx_ofW (cc := mCod (Md m2)) (maxL := mMax (Md m2)) (ret := mRet (Md m2)) hpl hws ?_
  intro p e s m args below meth c s₁ B hml ht hv
  obtain ⟨rfl, hR, hC, hG, hA⟩ := hv
  rw [lg_entry_eq]
  have hts : ∀ w ∈ mWs (Md m2), w.before (vs.map cz).toArray s = true := atoms_spec (ws := mWs (Md m2)) B.pre
  have het : c.exceptionTable.toList = tableOf (mHH (Md m2)) := by
    rw [hhh]
    cases q : c.exceptionTable.toList with
    | nil => rfl
    | cons x r => exact (ht x (by rw [q]; exact List.mem_cons_self)).elim
  exact W_mo end_mq (k p e _ s m _ below meth c s.heap [] _ (gC h) (gS h) 0 0 ⟨⟨B.exec, B.bytes, hml, by rw [hown]; exact findClass_of_methodNamed B.named, hts⟩, B.returns, B.notSynchronized, (name_of_methodNamed B.named B.method).1, het, rfl, htr, hA, hG⟩ hR hC va_S.rf (lh_ent hn ho) (fun v hv => by cases hv) rfl rfl)
/-- a method with handlers -/
theorem met_ofH {m2 : Nat} {w' : List Cond} {vs : List Zv} {h : Zh} {Q : Zp} (hws : mWs (Md m2) = Cond.codeWith (mNam (Md m2)) (mCod (Md m2)) (mMax (Md m2)) (mRet (Md m2)) (mHH (Md m2)) :: w') (hpl : plainName (mNam (Md m2)).cls = true) (hown : mOwn (Md m2) = (mNam (Md m2)).cls) (htr : l.stackTraces = false)
    (hn : (sl1 vs).length ≤ mMax (Md m2)) (ho : ∀ v ∈ vs, okz v) (k : XS G Md D A l m2 0 (ent (mMax (Md m2)) vs) [] h Q) :
    vx_Met l (mNam (Md m2)) (mWs (Md m2)) (mRm (Md m2) (gC h) (gS h)) (va_Pc (vs.map cz) (PreZ G D A h)) (Qc9 D A Q (gC h) (gS h)) (Xc9 D A Q (gC h) (gS h)) (MXC - gC h) (MXS - gS h) A := by
  refine vx_ofWH (cc := mCod (Md m2)) (maxL := mMax (Md m2)) (ret := mRet (Md m2)) (hh := mHH (Md m2)) hpl hws ?_
  intro p e s m args below meth c s₁ B hml hv
  obtain ⟨rfl, hR, hC, hG, hA⟩ := hv
  rw [lg_entry_eq]
  have hts : ∀ w ∈ mWs (Md m2), w.before (vs.map cz).toArray s = true := atoms_spec (ws := mWs (Md m2)) B.pre
  have het : c.exceptionTable.toList = tableOf (mHH (Md m2)) := vx_table (x := mNam (Md m2)) B (hts _ (by rw [hws]; exact List.mem_cons_self))
  exact W_mo end_mq (k p e _ s m _ below meth c s.heap [] _ (gC h) (gS h) 0 0 ⟨⟨B.exec, B.bytes, hml, by rw [hown]; exact findClass_of_methodNamed B.named, hts⟩, B.returns, B.notSynchronized, (name_of_methodNamed B.named B.method).1, het, rfl, htr, hA, hG⟩ hR hC va_S.rf (lh_ent hn ho) (fun v hv => by cases hv) rfl rfl)
theorem pre_blind {vs : List Zv} {h : Zh} : FrameBlind (va_Pc (vs.map cz) (PreZ G D A h)) := by
  rintro a U g mk ⟨e, h1, h2, h3, h4⟩
  have hW : U.WarmedH (U.calling g mk a).vm := State.WarmedH.refl U
  exact ⟨e, h1.moved hW.alike, SC.fwd hW.alike (Nat.le_refl _) (fun _ _ _ => rfl) h2, h3.go hW (fun _ _ _ => rfl), h4⟩
/-- what is known of a place's handlers -/
def CatchOK (G : GwT) (M : MdT) (pc : Nat) (hs : List (Nat × Nat)) : Prop := (hs = [] → ∀ z ∈ tableOf (mHH M), covers z pc = false) ∧ ∀ e t, hs.lookup e = some t → ∃ (pre : List ExceptionTableEntry) (x : ExceptionTableEntry) (suf : List ExceptionTableEntry) (name : String), tableOf (mHH M) = pre ++ x :: suf ∧
  (∀ z ∈ pre, covers z pc = false ∨ (z.catchType ≠ 0 ∧ ∃ nm, Cond.classLink (mOwn M) z.catchType nm ∈ mWs M ∧ (xcl e, nm) ∈ G.2.1)) ∧ covers x pc = true ∧ x.catchType ≠ 0 ∧ Cond.classLink (mOwn M) x.catchType name ∈ mWs M ∧ (xcl e, name) ∈ G.2.2.1 ∧ x.handlerPc = t
theorem catch_nil {G : GwT} {M : MdT} {pc : Nat} (h : mHH M = []) : CatchOK G M pc [] := ⟨fun _ z hz => (by rw [h] at hz; cases hz), fun e t q => (by cases q)⟩
theorem run_fin {p : Program} {e : Env} {R : Room} {s : State} {mm : MethodId} {args : Array Value} {below : List Frame} {meth : Method} {c : Code} {H : Heap} {locs : List Loc} {lsC : Array Slot} {c0 s0 ce se m pc : Nat} {ls : Zl} {r : List Zv} {h : Zh} {Q : Zp} {hs : List (Nat × Nat)} {st0 : List Value} {aa2 : Array Value}
    (C0 : Cx G A l (Md m) c0 s0 p R s mm args meth c) (hR : RH D A h s H) (hC : SC A h s) (hS : va_S A s.heap H locs) (hl : lh lsC (mMax (Md m)) ls) (ho : ∀ v ∈ r, okz v) (hcu : gC h = c0 + ce) (hsu : gS h = s0 + se) (hcat : CatchOK G (Md m) pc hs)
    (hrun : vx_Run p l e R s mm args below meth c H locs ce se (MXC - gC h) (MXS - gS h) (F0 mm pc lsC st0) (r.map cz) (Qc9 D A (kont (XS G Md D A l) m pc ls r hs Q) (gC h) (gS h) aa2) (Xc9 D A (kont (XS G Md D A l) m pc ls r hs Q) (gC h) (gS h)) A) :
    W p l e R s mm args below meth c H locs ce se (EndZ D A Q c0 s0 below s) (F0 mm pc lsC st0) := by
  obtain ⟨⟨hx, hb, hml, hown, hts⟩, hr, hlk, hnm, het, hRm, htr, hA, hG⟩ := id C0
  intro T hT X
  rcases hrun T hT X with ⟨v, st₀, t, T', L, h0, X', hL, e1, e2, hq, stp⟩ | ⟨q, st₀, t, T', L, E, cell, h0, X', hL, e1, e2, ⟨ec, rfl, hq⟩, hce, hcv, hcl, stp⟩
  · obtain ⟨v', g, L2, d1, d2, d3, d4, d5, d6, d7, d8, ⟨f1, f2, f3⟩, d9⟩ := hq
    cases d1
    have hal : s.vm.Alike t.vm := by rw [← e2]; exact X'.warmed.alike
    have hkp : ∀ a : Nat, a < s.heap.size → ¬ A a → t.heap[a]? = s.heap[a]? := fun a g1 g2 => by
      rw [d6.2 a (by rw [h0]; exact Nat.lt_of_lt_of_le g1 hS.1) g2, h0]
      exact hS.2.1 a g1 g2
    obtain ⟨-, -, k3⟩ := vx_keep (A0 := A) (A1 := A) (free := A) (L := L) h0 e1 hS (fun _ _ z => z) (fun _ z => z) hL d6
    have X2 := z_tight X X' (by rw [h0, hT]) e1 f3
    have hQ : XS G Md D A l m (pc + 3) ls (v'.toList ++ r) g Q := d3
    obtain ⟨t2, a1, b1⟩ := hQ p e R s mm args below meth c T'.heap (locs ++ L) lsC c0 s0 (ce + (gC g - gC h)) (se + (gS g - gS h)) C0 (by rw [e1]; exact d4.moved hal.symm) (SC.back hal hA hkp d5) k3 hl (fun x hx9 => by
      rcases List.mem_append.mp hx9 with z | z
      · exact d2 x (by cases v' with | none => cases z | some y => rw [List.mem_singleton.mp z])
      · exact ho x z) (by omega) (by omega) T' rfl X2
    refine ⟨t2, stp t2 ?_, b1⟩
    have e9 : (v'.map cz).toList ++ r.map cz = (v'.toList ++ r).map cz := by cases v' <;> rfl
    show Steps p.tables e below (T'.setTop (F0 mm (pc + 3) lsC ((v'.map cz).toList ++ r.map cz))) t2
    rw [e9]
    exact a1
  · obtain ⟨g, L2, d1, d4, d5, d6, d7, d8, f3, d9⟩ := hq
    have hal : s.vm.Alike t.vm := by rw [← e2]; exact X'.warmed.alike
    have hkp : ∀ a : Nat, a < s.heap.size → ¬ A a → t.heap[a]? = s.heap[a]? := fun a g1 g2 => by
      rw [d6.2 a (by rw [h0]; exact Nat.lt_of_lt_of_le g1 hS.1) g2, h0]
      exact hS.2.1 a g1 g2
    obtain ⟨-, -, k3⟩ := vx_keep (A0 := A) (A1 := A) (free := A) (L := L) h0 e1 hS (fun _ _ z => z) (fun _ z => z) hL d6
    have X2 := z_tight X X' (by rw [h0, hT]) e1 f3
    have hRg : RH D A g s T'.heap := by rw [e1]; exact d4.moved hal.symm
    have hCg : SC A g s := SC.back hal hA hkp d5
    have hceT : T'.heap[q]? = some cell := by rw [e1]; exact hce
    have fin : vx_W p l e R s mm args below meth c T'.heap (locs ++ L) (ce + (gC g - gC h)) (se + (gS g - gS h)) (EndZ D A Q c0 s0 below s) (F0 mm pc lsC (r.map cz)) q := by
      cases hs with
      | nil =>
        have hQ : Q (.inr ec) g := d1
        have hout : ∀ x ∈ c.exceptionTable.toList, covers x pc = false := fun x hx9 => by
          rw [het] at hx9
          exact hcat.1 rfl x hx9
        have k9 := vx_out (p := p) (l := l) (e := e) (R := R) (args := args) (below := below) (meth := meth) (locs := locs ++ L) (ls := lsC) (m := mm) (rest := r.map cz) (Qc := fun _ _ _ _ => False) (XC := fun E s9 t9 => E = xcl ec ∧ s9.vm.Alike t9.vm ∧ t9.heap = T'.heap) (free := A) hout hlk hceT hcv hcl (fun t9 z1 z2 => ⟨rfl, z2, z1⟩) k3.2.2 (Nat.le_refl (ce + (gC g - gC h))) (Nat.le_refl (se + (gS g - gS h)))
        intro T2 hT2 Y
        obtain ⟨t2, a1, o, b1, b2, ⟨hf, -⟩ | ⟨q2, rfl, E2, cell2, L3, ⟨rfl, y1, y2⟩, y3, y4, y5, y6, y7, y8⟩⟩ := k9 T2 hT2 Y
        · exact hf.elim
        · have hk2 : ∀ a : Nat, a < s.heap.size → ¬ A a → t2.heap[a]? = s.heap[a]? := fun a g1 g2 => by rw [y2]; exact k3.2.1 a g1 g2
          refine ⟨t2, a1, _, b1, b2, Or.inr ⟨q2, ec, cell2, rfl, ⟨g, L3, hQ, by rw [y2]; exact hRg.moved y1, SC.fwd y1 (by rw [y2]; exact k3.1) hk2 hCg, ⟨by rw [y2]; exact k3.1, hk2⟩, by omega, by omega, ?_, y8⟩, y3, y4, y5, y6⟩⟩
          rw [show gC g - c0 = ce + (gC g - gC h) by omega, show gS g - s0 = se + (gS g - gS h) by omega]
          exact y7
      | cons z9 hs9 =>
        have d1 : (match (z9 :: hs9).lookup ec with | some t => ∀ q, XS G Md D A l m t ls [zr (some q)] g Q | none => False) := d1
        cases hlook : (z9 :: hs9).lookup ec with
        | none => rw [hlook] at d1; exact d1.elim
        | some tgt =>
          rw [hlook] at d1
          obtain ⟨pre, x, suf, name, g1, g2, g3, g4, g5, g6, g7⟩ := hcat.2 ec tgt hlook
          have hQ := d1 q p e R s mm args below meth c T'.heap (locs ++ L) lsC c0 s0 (ce + (gC g - gC h)) (se + (gS g - gS h)) C0 hRg hCg k3 hl (fun x hx9 => by rw [List.mem_singleton.mp hx9]; trivial) (by omega) (by omega)
          rw [← g7] at hQ
          exact vx_catch hown pre x suf (by rw [het]; exact g1) (fun z hz => (g2 z hz).imp id (fun ⟨y1, nm, y2, y3⟩ => ⟨y1, nm, hts _ y2, hG.2.2.2.1 _ y3⟩)) g3 g4 (hts _ g5) (va_tabs rfl rfl (hG.2.2.2.2.1.1 _ g6)) hceT hcv hcl hQ
    obtain ⟨t2, a1, b1⟩ := fin T' rfl X2
    exact ⟨t2, stp.trans a1, b1⟩
theorem as_rev {st : List Zv} {n : Nat} : st.map cz = (((st.take n).reverse).map cz).reverse ++ (st.drop n).map cz := by
  rw [← List.map_reverse, List.reverse_reverse, ← List.map_append, List.take_append_drop]
theorem pre_at {h : Zh} {s : State} {H : Heap} {locs : List Loc} {vs : List Zv} (hR : RH D A h s H) (hC : SC A h s) (hS : va_S A s.heap H locs) (hA : ∀ q, s.heap.size ≤ q → A q) (hG : GL G A s) : ∀ U : State, U.heap = H → s.WarmedH U.vm → va_Pc (vs.map cz) (PreZ G D A h) (vs.map cz).toArray U := by
  intro U hU hW
  have hk : ∀ a : Nat, a < s.heap.size → ¬ A a → U.heap[a]? = s.heap[a]? := fun a h1 h2 => by rw [hU]; exact hS.2.1 a h1 h2
  have hz : s.heap.size ≤ U.heap.size := by rw [hU]; exact hS.1
  exact ⟨rfl, by rw [hU]; exact hR.moved hW.alike, SC.fwd hW.alike hz hk hC, hG.go hW hk, fun q hq => hA q (Nat.le_trans hz hq)⟩
/-- a static call -/
theorem sd_callS (m pc m2 n mx ix : Nat) (hs : List (Nat × Nat)) {w' : List Cond} (hG0 : GoodIn (mWs (Md m)) (va_wsS (mOwn (Md m)) ix (mNam (Md m2)) (mWs (Md m2)))) (hws : mWs (Md m2) = Cond.code (mNam (Md m2)) (mCod (Md m2)) (mMax (Md m2)) (mRet (Md m2)) :: w') (hhh : mHH (Md m2) = []) (hpl : plainName (mNam (Md m2)).cls = true) (hown2 : mOwn (Md m2) = (mNam (Md m2)).cls) (hmx : mMax (Md m2) = mx)
    (hd : (mNam (Md m2)).cls ≠ "java/lang/invoke/MethodHandle" ∧ (mNam (Md m2)).cls ≠ "java/lang/invoke/VarHandle" ∧ (parseMethodDescriptor (mNam (Md m2)).desc).map (fun d => d.parameters.length) = some n) (hfr : mFr (Md m2) + 1 ≤ mFr (Md m) ∧ 8 + (mMax (Md m2) + 11) + mLo (Md m2) ≤ mLo (Md m)) (hcat : CatchOK G (Md m) pc hs)
    (d : decode (mCod (Md m)) pc = .ok (.invokestatic ix, 3)) : SM G Md D A l m pc (oCallS m2 n mx hs) := by
  refine ⟨mo_oCallS m2 n mx hs, fun ls st h Q k pp ee RR ss mm aa bb me cc0 HH lc lsC c0 s0 ce se C0 hR hC hS hl ho hcu hsu => ?_⟩
  obtain ⟨⟨hx, hb, hml, hown, hts⟩, hr, hlk, hnm, het, hRm, htr, hA, hG⟩ := id C0
  subst hmx
  have hok := hR.1.2.2.2
  obtain ⟨k1, k⟩ := gd_iff.mp k
  obtain ⟨k1, k2⟩ := Bool.and_eq_true_iff.mp k1
  obtain ⟨k2, k0⟩ := Bool.and_eq_true_iff.mp k2
  have k1 := Nat.le_of_ble_eq_true k1
  have k2 := Nat.le_of_ble_eq_true k2
  have k0 := Nat.le_of_ble_eq_true k0
  have hM := met_of hws hhh hpl hown2 htr k0 (fun v hv => ho v (List.mem_of_mem_take (List.mem_reverse.mp hv))) k
  refine run_fin C0 hR hC hS hl (fun v hv => ho v (List.mem_of_mem_drop hv)) hcu hsu hcat (vx_runS (As := ((st.take n).reverse).map cz) ⟨hx, hb, hml, hown, hts⟩ hM (va_cwS n hts hG0 hws rfl rfl hd ⟨by rw [hRm]; exact hfr.1, by rw [hRm]; exact hfr.2⟩) ⟨pre_blind, pre_at hR hC hS hA hG⟩ rfl (by rw [List.length_map, List.length_reverse, List.length_take]; omega) hl.1 as_rev (lv_room (by rw [sum_cz]; exact k1)) d ⟨by rw [hRm]; show ce + (MXC - gC h) ≤ MXC - c0; omega, by rw [hRm]; show se + (MXS - gS h) ≤ MXS - s0; omega⟩)
/-- a static call of a nest mate -/
theorem sd_callSN (m pc m2 n mx ix : Nat) (hs : List (Nat × Nat)) {w' : List Cond} (hG0 : GoodIn (mWs (Md m)) (mWs (Md m2))) (host : String) (wl : (mOwn (Md m), ix, mNam (Md m2), host) ∈ G.2.2.2.2.1) (wi : Cond.initialized (mNam (Md m2)).cls ∈ mWs (Md m)) (wst : Cond.static (mNam (Md m2)) ∈ mWs (Md m)) (hws : mWs (Md m2) = Cond.code (mNam (Md m2)) (mCod (Md m2)) (mMax (Md m2)) (mRet (Md m2)) :: w') (hhh : mHH (Md m2) = []) (hpl : plainName (mNam (Md m2)).cls = true) (hown2 : mOwn (Md m2) = (mNam (Md m2)).cls) (hmx : mMax (Md m2) = mx)
    (hd : (mNam (Md m2)).cls ≠ "java/lang/invoke/MethodHandle" ∧ (mNam (Md m2)).cls ≠ "java/lang/invoke/VarHandle" ∧ (parseMethodDescriptor (mNam (Md m2)).desc).map (fun d => d.parameters.length) = some n) (hfr : mFr (Md m2) + 1 ≤ mFr (Md m) ∧ 8 + (mMax (Md m2) + 11) + mLo (Md m2) ≤ mLo (Md m)) (hcat : CatchOK G (Md m) pc hs)
    (d : decode (mCod (Md m)) pc = .ok (.invokestatic ix, 3)) : SM G Md D A l m pc (oCallS m2 n mx hs) := by
  refine ⟨mo_oCallS m2 n mx hs, fun ls st h Q k pp ee RR ss mm aa bb me cc0 HH lc lsC c0 s0 ce se C0 hR hC hS hl ho hcu hsu => ?_⟩
  obtain ⟨⟨hx, hb, hml, hown, hts⟩, hr, hlk, hnm, het, hRm, htr, hA, hG⟩ := id C0
  subst hmx
  have hok := hR.1.2.2.2
  obtain ⟨k1, k⟩ := gd_iff.mp k
  obtain ⟨k1, k2⟩ := Bool.and_eq_true_iff.mp k1
  obtain ⟨k2, k0⟩ := Bool.and_eq_true_iff.mp k2
  have k1 := Nat.le_of_ble_eq_true k1
  have k2 := Nat.le_of_ble_eq_true k2
  have k0 := Nat.le_of_ble_eq_true k0
  have hM := met_of hws hhh hpl hown2 htr k0 (fun v hv => ho v (List.mem_of_mem_take (List.mem_reverse.mp hv))) k
  refine run_fin C0 hR hC hS hl (fun v hv => ho v (List.mem_of_mem_drop hv)) hcu hsu hcat (vx_runSN (As := ((st.take n).reverse).map cz) ⟨hx, hb, hml, hown, hts⟩ hM ⟨va_cnB n hts hG0 hws rfl rfl (hG.2.2.2.2.2.2.1 _ wl) (hts _ wi) hd ⟨by rw [hRm]; exact hfr.1, by rw [hRm]; exact hfr.2⟩, hts _ wst, trivial⟩ ⟨pre_blind, pre_at hR hC hS hA hG⟩ rfl (by rw [List.length_map, List.length_reverse, List.length_take]; omega) hl.1 as_rev (lv_room (by rw [sum_cz]; exact k1)) d ⟨by rw [hRm]; show ce + (MXC - gC h) ≤ MXC - c0; omega, by rw [hRm]; show se + (MXS - gS h) ≤ MXS - s0; omega⟩)
/-- a static call of a method with handlers -/
theorem sd_callSW (m pc m2 n mx ix : Nat) (hs : List (Nat × Nat)) {w' : List Cond} (hG0 : GoodIn (mWs (Md m)) (va_wsS (mOwn (Md m)) ix (mNam (Md m2)) (mWs (Md m2)))) (hws : mWs (Md m2) = Cond.codeWith (mNam (Md m2)) (mCod (Md m2)) (mMax (Md m2)) (mRet (Md m2)) (mHH (Md m2)) :: w') (hpl : plainName (mNam (Md m2)).cls = true) (hown2 : mOwn (Md m2) = (mNam (Md m2)).cls) (hmx : mMax (Md m2) = mx)
    (hd : (mNam (Md m2)).cls ≠ "java/lang/invoke/MethodHandle" ∧ (mNam (Md m2)).cls ≠ "java/lang/invoke/VarHandle" ∧ (parseMethodDescriptor (mNam (Md m2)).desc).map (fun d => d.parameters.length) = some n) (hfr : mFr (Md m2) + 1 ≤ mFr (Md m) ∧ 8 + (mMax (Md m2) + 11) + mLo (Md m2) ≤ mLo (Md m)) (hcat : CatchOK G (Md m) pc hs)
    (d : decode (mCod (Md m)) pc = .ok (.invokestatic ix, 3)) : SM G Md D A l m pc (oCallS m2 n mx hs) := by
  refine ⟨mo_oCallS m2 n mx hs, fun ls st h Q k pp ee RR ss mm aa bb me cc0 HH lc lsC c0 s0 ce se C0 hR hC hS hl ho hcu hsu => ?_⟩
  obtain ⟨⟨hx, hb, hml, hown, hts⟩, hr, hlk, hnm, het, hRm, htr, hA, hG⟩ := id C0
  subst hmx
  have hok := hR.1.2.2.2
  obtain ⟨k1, k⟩ := gd_iff.mp k
  obtain ⟨k1, k2⟩ := Bool.and_eq_true_iff.mp k1
  obtain ⟨k2, k0⟩ := Bool.and_eq_true_iff.mp k2
  have k1 := Nat.le_of_ble_eq_true k1
  have k2 := Nat.le_of_ble_eq_true k2
  have k0 := Nat.le_of_ble_eq_true k0
  have hM := met_ofH hws hpl hown2 htr k0 (fun v hv => ho v (List.mem_of_mem_take (List.mem_reverse.mp hv))) k
  refine run_fin C0 hR hC hS hl (fun v hv => ho v (List.mem_of_mem_drop hv)) hcu hsu hcat (vx_runSX (As := ((st.take n).reverse).map cz) ⟨hx, hb, hml, hown, hts⟩ hM (vx_cwSW n hts hG0 hws rfl rfl hd ⟨by rw [hRm]; exact hfr.1, by rw [hRm]; exact hfr.2⟩) ⟨pre_blind, pre_at hR hC hS hA hG⟩ rfl (by rw [List.length_map, List.length_reverse, List.length_take]; omega) hl.1 as_rev (lv_room (by rw [sum_cz]; exact k1)) d ⟨by rw [hRm]; show ce + (MXC - gC h) ≤ MXC - c0; omega, by rw [hRm]; show se + (MXS - gS h) ≤ MXS - s0; omega⟩)
/-- a call of a method of its receiver -/
theorem sd_callV (m pc m2 n mx ix c : Nat) (hs : List (Nat × Nat)) {w' : List Cond} (hG0 : GoodIn (mWs (Md m)) (wsV (mOwn (Md m)) ix (mNam (Md m2)).cls (mNam (Md m2)) (mWs (Md m2)))) (hws : mWs (Md m2) = Cond.code (mNam (Md m2)) (mCod (Md m2)) (mMax (Md m2)) (mRet (Md m2)) :: w') (hhh : mHH (Md m2) = []) (hpl : plainName (mNam (Md m2)).cls = true) (hown2 : mOwn (Md m2) = (mNam (Md m2)).cls) (hmx : mMax (Md m2) = mx)
    (hd : (mNam (Md m2)).cls ≠ "java/lang/invoke/MethodHandle" ∧ (mNam (Md m2)).cls ≠ "java/lang/invoke/VarHandle" ∧ (parseMethodDescriptor (mNam (Md m2)).desc).map (fun d => d.parameters.length) = some n) (hfr : mFr (Md m2) + 1 ≤ mFr (Md m) ∧ 8 + (mMax (Md m2) + 11) + mLo (Md m2) ≤ mLo (Md m)) (hcat : CatchOK G (Md m) pc hs) (C : String) (hCn : (mNam (Md m2)).cls = C) (T : u_T) (N : Nat) (hcl : vwCl[c - 1]? = some (C, T, N)) (hc : 1 ≤ c ∧ c ≤ 7)
    (d : decode (mCod (Md m)) pc = .ok (.invokevirtual ix, 3)) : SM G Md D A l m pc (oCallV m2 n mx c hs) := by
  refine ⟨mo_oCallV m2 n mx c hs, fun ls st h Q k pp ee RR ss mm aa bb me cc0 HH lc lsC c0 s0 ce se C0 hR hC hS hl ho hcu hsu => ?_⟩
  obtain ⟨⟨hx, hb, hml, hown, hts⟩, hr, hlk, hnm, het, hRm, htr, hA, hG⟩ := id C0
  subst hmx
  have hok := hR.1.2.2.2
  unfold oCallV at k
  split at k
  · next r t edr =>
    obtain ⟨k1, ⟨a, rfl, ha⟩, k⟩ := gd_iff.mp k
    obtain ⟨k1, k2⟩ := Bool.and_eq_true_iff.mp k1
    obtain ⟨k2, k0⟩ := Bool.and_eq_true_iff.mp k2
    have k1 := Nat.le_of_ble_eq_true k1
    have k2 := Nat.le_of_ble_eq_true k2
    have k0 := Nat.le_of_ble_eq_true k0
    have hor : ∀ v ∈ t, okz v := fun v hv => ho v (List.mem_of_mem_drop (by rw [edr]; exact List.mem_cons_of_mem _ hv))
    have hM := met_of hws hhh hpl hown2 htr k0 (List.forall_mem_cons.mpr ⟨trivial, fun v hv => ho v (List.mem_of_mem_take (List.mem_reverse.mp hv))⟩) k
    obtain ⟨-, ws, tys, hP, hD, hKK, hI⟩ := id hR
    obtain ⟨q0, e, he, hE⟩ := hI a (by omega) (by omega)
    have he2 := isE_obj hE ha hc.2
    subst he2
    subst hCn
    refine run_fin C0 hR hC hS hl hor hcu hsu hcat (vx_runV (As := ((st.take n).reverse).map cz) (b := a) ⟨hx, hb, hml, hown, hts⟩ hM (cwV n hts hG0 hws rfl rfl ⟨rfl, hd⟩ ⟨by rw [hRm]; exact hfr.1, by rw [hRm]; exact hfr.2⟩) ⟨pre_blind, va_recv hKK hP hcl he, pre_at (vs := zr (some a) :: (st.take n).reverse) hR hC hS hA hG⟩ rfl (by rw [List.length_map, List.length_reverse, List.length_take]; omega) hl.1 (by rw [show (F0 mm pc lsC (st.map cz)).stack = st.map cz from rfl, as_rev (n := n), edr]; rfl) (lv_room (by rw [sum_cz]; exact k1)) d ⟨by rw [hRm]; show ce + (MXC - gC h) ≤ MXC - c0; omega, by rw [hRm]; show se + (MXS - gS h) ≤ MXS - s0; omega⟩)
  · exact k.elim
/-- a call of a method of its receiver, which has handlers -/
theorem sd_callVW (m pc m2 n mx ix c : Nat) (hs : List (Nat × Nat)) {w' : List Cond} (hG0 : GoodIn (mWs (Md m)) (wsV (mOwn (Md m)) ix (mNam (Md m2)).cls (mNam (Md m2)) (mWs (Md m2)))) (hws : mWs (Md m2) = Cond.codeWith (mNam (Md m2)) (mCod (Md m2)) (mMax (Md m2)) (mRet (Md m2)) (mHH (Md m2)) :: w') (hpl : plainName (mNam (Md m2)).cls = true) (hown2 : mOwn (Md m2) = (mNam (Md m2)).cls) (hmx : mMax (Md m2) = mx)
    (hd : (mNam (Md m2)).cls ≠ "java/lang/invoke/MethodHandle" ∧ (mNam (Md m2)).cls ≠ "java/lang/invoke/VarHandle" ∧ (parseMethodDescriptor (mNam (Md m2)).desc).map (fun d => d.parameters.length) = some n) (hfr : mFr (Md m2) + 1 ≤ mFr (Md m) ∧ 8 + (mMax (Md m2) + 11) + mLo (Md m2) ≤ mLo (Md m)) (hcat : CatchOK G (Md m) pc hs) (C : String) (hCn : (mNam (Md m2)).cls = C) (T : u_T) (N : Nat) (hcl : vwCl[c - 1]? = some (C, T, N)) (hc : 1 ≤ c ∧ c ≤ 7)
    (d : decode (mCod (Md m)) pc = .ok (.invokevirtual ix, 3)) : SM G Md D A l m pc (oCallV m2 n mx c hs) := by
  refine ⟨mo_oCallV m2 n mx c hs, fun ls st h Q k pp ee RR ss mm aa bb me cc0 HH lc lsC c0 s0 ce se C0 hR hC hS hl ho hcu hsu => ?_⟩
  obtain ⟨⟨hx, hb, hml, hown, hts⟩, hr, hlk, hnm, het, hRm, htr, hA, hG⟩ := id C0
  subst hmx
  have hok := hR.1.2.2.2
  unfold oCallV at k
  split at k
  · next r t edr =>
    obtain ⟨k1, ⟨a, rfl, ha⟩, k⟩ := gd_iff.mp k
    obtain ⟨k1, k2⟩ := Bool.and_eq_true_iff.mp k1
    obtain ⟨k2, k0⟩ := Bool.and_eq_true_iff.mp k2
    have k1 := Nat.le_of_ble_eq_true k1
    have k2 := Nat.le_of_ble_eq_true k2
    have k0 := Nat.le_of_ble_eq_true k0
    have hor : ∀ v ∈ t, okz v := fun v hv => ho v (List.mem_of_mem_drop (by rw [edr]; exact List.mem_cons_of_mem _ hv))
    have hM := met_ofH hws hpl hown2 htr k0 (List.forall_mem_cons.mpr ⟨trivial, fun v hv => ho v (List.mem_of_mem_take (List.mem_reverse.mp hv))⟩) k
    obtain ⟨-, ws, tys, hP, hD, hKK, hI⟩ := id hR
    obtain ⟨q0, e, he, hE⟩ := hI a (by omega) (by omega)
    have he2 := isE_obj hE ha hc.2
    subst he2
    subst hCn
    refine run_fin C0 hR hC hS hl hor hcu hsu hcat (vx_runVX (As := ((st.take n).reverse).map cz) (b := a) ⟨hx, hb, hml, hown, hts⟩ hM (vx_cwVW n hts hG0 hws rfl rfl ⟨rfl, hd⟩ ⟨by rw [hRm]; exact hfr.1, by rw [hRm]; exact hfr.2⟩) ⟨pre_blind, va_recv hKK hP hcl he, pre_at (vs := zr (some a) :: (st.take n).reverse) hR hC hS hA hG⟩ rfl (by rw [List.length_map, List.length_reverse, List.length_take]; omega) hl.1 (by rw [show (F0 mm pc lsC (st.map cz)).stack = st.map cz from rfl, as_rev (n := n), edr]; rfl) (lv_room (by rw [sum_cz]; exact k1)) d ⟨by rw [hRm]; show ce + (MXC - gC h) ≤ MXC - c0; omega, by rw [hRm]; show se + (MXS - gS h) ≤ MXS - s0; omega⟩)
  · exact k.elim
/-- a constructor -/
theorem sd_callI (m pc m2 n mx ix c : Nat) (hs : List (Nat × Nat)) {w' : List Cond} (hG0 : GoodIn (mWs (Md m)) (mWs (Md m2))) (hret : mRet (Md m2) = none) (wi : Cond.initialized (mNam (Md m2)).cls ∈ mWs (Md m)) (wl : Cond.methodLink (mOwn (Md m)) ix (mNam (Md m2)) ∈ mWs (Md m)) (win : Cond.instanceMethod (mNam (Md m2)) ∈ mWs (Md m)) (hini : (mNam (Md m2)).name = "<init>") (hws : mWs (Md m2) = Cond.code (mNam (Md m2)) (mCod (Md m2)) (mMax (Md m2)) (mRet (Md m2)) :: w') (hhh : mHH (Md m2) = []) (hpl : plainName (mNam (Md m2)).cls = true) (hown2 : mOwn (Md m2) = (mNam (Md m2)).cls) (hmx : mMax (Md m2) = mx)
    (hd : (mNam (Md m2)).cls ≠ "java/lang/invoke/MethodHandle" ∧ (mNam (Md m2)).cls ≠ "java/lang/invoke/VarHandle" ∧ (parseMethodDescriptor (mNam (Md m2)).desc).map (fun d => d.parameters.length) = some n) (hfr : mFr (Md m2) + 1 ≤ mFr (Md m) ∧ 8 + (mMax (Md m2) + 11) + mLo (Md m2) ≤ mLo (Md m)) (hcat : CatchOK G (Md m) pc hs) (C : String) (T : u_T) (N : Nat) (hcl : vwCl[c - 1]? = some (C, T, N)) (hc : 1 ≤ c ∧ c ≤ 7)
    (d : decode (mCod (Md m)) pc = .ok (.invokespecial ix, 3)) : SM G Md D A l m pc (oCallV m2 n mx c hs) := by
  refine ⟨mo_oCallV m2 n mx c hs, fun ls st h Q k pp ee RR ss mm aa bb me cc0 HH lc lsC c0 s0 ce se C0 hR hC hS hl ho hcu hsu => ?_⟩
  obtain ⟨⟨hx, hb, hml, hown, hts⟩, hr, hlk, hnm, het, hRm, htr, hA, hG⟩ := id C0
  subst hmx
  have hok := hR.1.2.2.2
  unfold oCallV at k
  split at k
  · next r t edr =>
    obtain ⟨k1, ⟨a, rfl, ha⟩, k⟩ := gd_iff.mp k
    obtain ⟨k1, k2⟩ := Bool.and_eq_true_iff.mp k1
    obtain ⟨k2, k0⟩ := Bool.and_eq_true_iff.mp k2
    have k1 := Nat.le_of_ble_eq_true k1
    have k2 := Nat.le_of_ble_eq_true k2
    have k0 := Nat.le_of_ble_eq_true k0
    have hor : ∀ v ∈ t, okz v := fun v hv => ho v (List.mem_of_mem_drop (by rw [edr]; exact List.mem_cons_of_mem _ hv))
    have hM := met_of hws hhh hpl hown2 htr k0 (List.forall_mem_cons.mpr ⟨trivial, fun v hv => ho v (List.mem_of_mem_take (List.mem_reverse.mp hv))⟩) k
    obtain ⟨-, ws, tys, hP, hD, hKK, hI⟩ := id hR
    obtain ⟨q0, e, he, hE⟩ := hI a (by omega) (by omega)
    have he2 := isE_obj hE ha hc.2
    subst he2
    refine run_fin C0 hR hC hS hl hor hcu hsu hcat (vx_runI (As := ((st.take n).reverse).map cz) (b := a) ⟨hx, hb, hml, hown, hts⟩ hM (cwI n hts hG0 (by rw [hws, hret]) rfl rfl (hts _ wi) (hts _ wl) (hts _ win) hini hd ⟨by rw [hRm]; exact hfr.1, by rw [hRm]; exact hfr.2⟩) ⟨pre_blind, pre_at (vs := zr (some a) :: (st.take n).reverse) hR hC hS hA hG⟩ rfl (by rw [List.length_map, List.length_reverse, List.length_take]; omega) hl.1 (by rw [show (F0 mm pc lsC (st.map cz)).stack = st.map cz from rfl, as_rev (n := n), edr]; rfl) (lv_room (by rw [sum_cz]; exact k1)) d ⟨by rw [hRm]; show ce + (MXC - gC h) ≤ MXC - c0; omega, by rw [hRm]; show se + (MXS - gS h) ≤ MXS - s0; omega⟩)
  · exact k.elim
end SD5
