/-! SOUNDNESS, the base: what the abstract machine's state is in the JVM model. Md: what is known of each method; kinds 1..7 are the classes of vwCl in its order. -/
theorem z_ofI {x : Int} (h : inR x) : (Int32.ofInt x).toInt = x := Int32.toInt_ofInt_of_le (by have := h.1; omega) (by have := h.2; omega)
theorem z_cl {x : Int} (h : inR x) : (Int32.ofInt x).toNatClampNeg = x.toNat := by
  show (Int32.ofInt x).toInt.toNat = _
  rw [z_ofI h]
theorem z_lt {x y : Int} (hx : inR x) (hy : inR y) : Int32.ofInt x < Int32.ofInt y ↔ x < y := by rw [Int32.lt_iff_toInt_lt, z_ofI hx, z_ofI hy]
theorem z_le {x y : Int} (hx : inR x) (hy : inR y) : Int32.ofInt x ≤ Int32.ofInt y ↔ x ≤ y := by rw [Int32.le_iff_toInt_le, z_ofI hx, z_ofI hy]
theorem z_eq {x y : Int} (hx : inR x) (hy : inR y) : Int32.ofInt x = Int32.ofInt y ↔ x = y := ⟨fun h => by have h2 := congrArg Int32.toInt h; rwa [z_ofI hx, z_ofI hy] at h2, fun h => by rw [h]⟩
theorem z_0 : inR 0 := ⟨by decide, by decide⟩
theorem z_1 : inR 1 := ⟨by decide, by decide⟩
theorem z_0e : (0 : Int32) = Int32.ofInt 0 := rfl
theorem z_in {i : Int} {n : Nat} (hi : inR i) (h0 : 0 ≤ i) (h1 : i < n) : vp_in (Int32.ofInt i) n := by
  intro h
  rcases h with h | h
  · rw [z_0e, z_lt hi z_0] at h; omega
  · rw [z_cl hi] at h; omega
theorem z_nneg {i : Int} (hi : inR i) (h0 : 0 ≤ i) : ¬ Int32.ofInt i < 0 := by rw [z_0e, z_lt hi z_0]; omega
/-- what the locals are known to hold -/
def lh (lsC : Array Slot) (n : Nat) (ls : Zl) : Prop := lsC.size = n ∧ ls.length = n ∧ lv_wf lsC ∧ (∀ (i : Nat) (v : Zv), ls[i]? = some (some v) → lsC[i]? = some (.val (cz v)) ∧ okz v)
def prs (i : Nat) (ls : Zl) : List (Nat × Value) := match ls with
  | [] => []
  | none :: r => prs (i + 1) r
  | some v :: r => (i, cz v) :: prs (i + 1) r
theorem prs_mem : ∀ (ls : Zl) (i : Nat) (q : Nat × Value), q ∈ prs i ls ↔ ∃ (k : Nat) (v : Zv), ls[k]? = some (some v) ∧ q = (i + k, cz v)
  | [], i, q => by simp [prs]
  | none :: r, i, q => by
    rw [show prs i (none :: r) = prs (i + 1) r from rfl, prs_mem r (i + 1) q]
    constructor
    · rintro ⟨k, v, h, e⟩; exact ⟨k + 1, v, h, by rw [e]; congr 1; omega⟩
    · rintro ⟨k, v, h, e⟩
      cases k with
      | zero => simp at h
      | succ k => exact ⟨k, v, by simpa using h, by rw [e]; congr 1; omega⟩
  | some w :: r, i, q => by
    rw [show prs i (some w :: r) = (i, cz w) :: prs (i + 1) r from rfl, List.mem_cons, prs_mem r (i + 1) q]
    constructor
    · rintro (e | ⟨k, v, h, e⟩)
      · exact ⟨0, w, rfl, e⟩
      · exact ⟨k + 1, v, h, by rw [e]; congr 1; omega⟩
    · rintro ⟨k, v, h, e⟩
      cases k with
      | zero => simp at h; subst h; exact Or.inl e
      | succ k => exact Or.inr ⟨k, v, by simpa using h, by rw [e]; congr 1; omega⟩
theorem lh.has {lsC : Array Slot} {n : Nat} {ls : Zl} (h : lh lsC n ls) : lv_has lsC n (prs 0 ls) := by
  refine ⟨h.1, h.2.2.1, fun q hq => ?_⟩
  obtain ⟨k, v, e, rfl⟩ := (prs_mem ls 0 q).mp hq
  rw [show (0 + k, cz v).1 = k from Nat.zero_add k]
  exact (h.2.2.2 k v e).1
theorem ctz_cz (v : Zv) : (cz v).category = ctz v := by
  match v with
  | .inl _ => rfl
  | .inr (.inl _) => rfl
  | .inr (.inr (.inl _)) => rfl
  | .inr (.inr (.inr none)) => rfl
  | .inr (.inr (.inr (some _))) => rfl
theorem clr_len (ls : Zl) (k : Nat) : (clr ls k).length = ls.length := by
  unfold clr
  split
  · rfl
  · split <;> simp
theorem clr_get {ls : Zl} {k j : Nat} {w : Zv} (h : (clr ls k)[j]? = some (some w)) : ls[j]? = some (some w) ∧ ¬ (j + 1 = k ∧ ctz w = 2) := by
  unfold clr at h
  split at h
  · exact ⟨h, fun e => by omega⟩
  · next i =>
    split at h
    · next x e =>
      by_cases q : i = j
      · subst q; rw [List.getElem?_set] at h; simp at h
      · rw [List.getElem?_set_ne q] at h; exact ⟨h, fun z => q (by omega)⟩
    · next x e =>
      by_cases q : i = j
      · subst q; rw [List.getElem?_set] at h; simp at h
      · rw [List.getElem?_set_ne q] at h; exact ⟨h, fun z => q (by omega)⟩
    · next n1 n2 =>
      refine ⟨h, fun z => ?_⟩
      have e : j = i := by omega
      subst e
      match w, z.2 with
      | .inr (.inl x), _ => exact n1 x h
      | .inr (.inr (.inl x)), _ => exact n2 x h
theorem lh_st1 {lsC ls' : Array Slot} {n i : Nat} {ls : Zl} {v : Zv} (h : lh lsC n ls) (hv : okz v) (h2 : lv_has ls' n ((i, cz v) :: (prs 0 ls).filter (fun q => !(q.1 == i) && !(q.1 + 1 == i && q.2.category == 2)))) : lh ls' n (st1 ls i v) := by
  refine ⟨h2.1, by unfold st1; rw [List.length_set, clr_len]; exact h.2.1, h2.2.1, fun j w hj => ?_⟩
  unfold st1 at hj
  by_cases q : i = j
  · subst q
    rw [List.getElem?_set] at hj
    rw [if_pos rfl] at hj
    split at hj
    · cases hj; exact ⟨h2.2.2 _ List.mem_cons_self, hv⟩
    · cases hj
  · rw [List.getElem?_set_ne q] at hj
    obtain ⟨a, b⟩ := clr_get hj
    refine ⟨h2.2.2 (j, cz w) (List.mem_cons_of_mem _ (List.mem_filter.mpr ⟨(prs_mem ls 0 _).mpr ⟨j, w, a, by rw [Nat.zero_add]⟩, ?_⟩)), (h.2.2.2 j w a).2⟩
    rw [ctz_cz]
    have q2 : j ≠ i := fun e => q e.symm
    have b2 : ¬ (j + 1 = i ∧ ctz w = 2) := b
    simp only [Bool.and_eq_true, Bool.not_eq_true', beq_eq_false_iff_ne, ne_eq, Bool.and_eq_false_iff]
    refine ⟨q2, ?_⟩
    by_cases z : j + 1 = i
    · exact Or.inr (fun z2 => b2 ⟨z, z2⟩)
    · exact Or.inl z
theorem lh_st2 {lsC ls' : Array Slot} {n i : Nat} {ls : Zl} {v : Zv} (h : lh lsC n ls) (hv : okz v) (h2 : lv_has ls' n ((i, cz v) :: (prs 0 ls).filter (fun q => !(q.1 == i) && (!(q.1 == i + 1) && !(q.1 + 1 == i && q.2.category == 2))))) : lh ls' n (st2 ls i v) := by
  refine ⟨h2.1, by unfold st2; rw [List.length_set, List.length_set, clr_len]; exact h.2.1, h2.2.1, fun j w hj => ?_⟩
  unfold st2 at hj
  by_cases q3 : i + 1 = j
  · subst q3
    rw [List.getElem?_set] at hj
    rw [if_pos rfl] at hj
    split at hj <;> cases hj
  rw [List.getElem?_set_ne q3] at hj
  by_cases q : i = j
  · subst q
    rw [List.getElem?_set] at hj
    rw [if_pos rfl] at hj
    split at hj
    · cases hj; exact ⟨h2.2.2 _ List.mem_cons_self, hv⟩
    · cases hj
  · rw [List.getElem?_set_ne q] at hj
    obtain ⟨a, b⟩ := clr_get hj
    refine ⟨h2.2.2 (j, cz w) (List.mem_cons_of_mem _ (List.mem_filter.mpr ⟨(prs_mem ls 0 _).mpr ⟨j, w, a, by rw [Nat.zero_add]⟩, ?_⟩)), (h.2.2.2 j w a).2⟩
    rw [ctz_cz]
    have q2 : j ≠ i := fun e => q e.symm
    have q4 : j ≠ i + 1 := fun e => q3 e.symm
    have b2 : ¬ (j + 1 = i ∧ ctz w = 2) := b
    simp only [Bool.and_eq_true, Bool.not_eq_true', beq_eq_false_iff_ne, ne_eq, Bool.and_eq_false_iff]
    refine ⟨q2, q4, ?_⟩
    by_cases z : j + 1 = i
    · exact Or.inr (fun z2 => b2 ⟨z, z2⟩)
    · exact Or.inl z
theorem lh_get {lsC : Array Slot} {n : Nat} {ls : Zl} (h : lh lsC n ls) {i : Nat} {v : Zv} (e : ls[i]? = some (some v)) : lsC[i]? = some (.val (cz v)) ∧ okz v := h.2.2.2 i v e
theorem lh_lt {lsC : Array Slot} {n : Nat} {ls : Zl} (h : lh lsC n ls) {i : Nat} {v : Option Zv} (e : ls[i]? = some v) : i < n := by rw [← h.2.1]; exact (List.getElem?_eq_some_iff.mp e).1
/-- a method: its class, its name, its bytes, its locals, its type, its words, its handlers, the frames and the words of locals that it asks for -/
abbrev MdT : Type := String × MethodName × ByteArray × Nat × Option FieldType × List Cond × List (Nat × Nat × Nat × Nat) × Nat × Nat
def mOwn (M : MdT) : String := M.1
def mNam (M : MdT) : MethodName := M.2.1
def mCod (M : MdT) : ByteArray := M.2.2.1
def mMax (M : MdT) : Nat := M.2.2.2.1
def mRet (M : MdT) : Option FieldType := M.2.2.2.2.1
def mWs (M : MdT) : List Cond := M.2.2.2.2.2.1
def mHH (M : MdT) : List (Nat × Nat × Nat × Nat) := M.2.2.2.2.2.2.1
def mFr (M : MdT) : Nat := M.2.2.2.2.2.2.2.1
def mLo (M : MdT) : Nat := M.2.2.2.2.2.2.2.2
/-- the room of a method, where c0 cells and s0 slots are gone -/
def mRm (M : MdT) (c0 s0 : Nat) : Room := { frames := mFr M, locals := mLo M, cells := MXC - c0, slots := MXS - s0 }
/-- the program-wide words: Strings, classes that can't be cast, that can, nest mates' links, methods that are declared -/
abbrev GwT : Type := List (String × Nat × String) × List (String × String) × List (String × String) × List (String × Nat × String × String × String × String) × List (String × Nat × MethodName × String) × List MethodName
def GL (G : GwT) (A : Nat → Prop) (s : State) : Prop :=
  vx_Zq Bundle.tN "UNASSIGNED_STACK" Bundle.steD A s s.heap ∧ vx_Zq Bundle.tN "SUPPRESSED_SENTINEL" Bundle.listD A s s.heap ∧ (∀ q ∈ G.1, ∃ a, vk_R q.1 q.2.1 q.2.2 a s) ∧ (∀ q ∈ G.2.1, va_Nc q.1 q.2 s) ∧ ((∀ q ∈ G.2.2.1, (Cond.castable q.1 q.2).before #[] s = true) ∧ ∀ q ∈ G.2.2.2.2.2, (Cond.declares q).before #[] s = true) ∧
    (∀ q ∈ G.2.2.2.1, va_Nw (.fieldLinkNest q.1 q.2.1 q.2.2.1 q.2.2.2.1 q.2.2.2.2.1 q.2.2.2.2.2) s) ∧ (∀ q ∈ G.2.2.2.2.1, va_Nw (.methodLinkNest q.1 q.2.1 q.2.2.1 q.2.2.2) s) ∧ va_AO "Marginalia$Note" s ∧ va_AOA .int s ∧ va_AOA (.array .int) s
theorem va_AOA.moved {t : FieldType} {u U : State} (hvm : u.vm.Alike U.vm) (h : va_AOA t u) : va_AOA t U := by
  obtain ⟨comp, c, k, h1, h2, h3, h4, h5⟩ := arrayOverA_spec h
  obtain ⟨k', hk', he⟩ := hvm.2.2 _ _ h3
  have hi : (U.vm.classes.findIdx? fun (x : Class) => match x.kind with | .array component _ => component == comp | _ => false) = some c := by
    rw [hvm.findIdx?_eq _ (fun _ => rfl)]
    exact h2
  have hkind : k'.kind = .array comp (.array t) := by rw [he]; exact h4
  have f1 := h1
  rw [← hvm.findClass] at f1
  have f2 := h5
  rw [← hvm.findClass] at f2
  unfold va_AOA Cond.before Cond.holds
  simp only [Cond.value]
  rw [f1, Option.bind_some]
  refine (congrArg (fun o : Option Nat => (o.bind (fun c => (U.vm.classes[c]?).map fun (k : Class) => match k.kind with | .array _ ty => decide (ty = FieldType.array t) && decide (U.vm.findClass ("[" ++ (FieldType.array t).toString) = some c) | _ => false) == some true)) hi).trans ?_
  simp [hk', hkind, f2]
theorem GL.go {G : GwT} {A : Nat → Prop} {s U : State} (hW : s.WarmedH U.vm) (hk : ∀ a : Nat, a < s.heap.size → ¬ A a → U.heap[a]? = s.heap[a]?) (h : GL G A s) : GL G A U := by
  obtain ⟨h1, h2, h3, h4, h5, h6, h7, h8, h9, h10⟩ := h
  refine ⟨vx_Zq.moved hW.alike (h1.kept hk), vx_Zq.moved hW.alike (h2.kept hk), fun q hq => ?_, fun q hq => (h4 q hq).moved hW.alike, ⟨fun q hq => ?_, fun q hq => ?_⟩, fun q hq => va_Nw.warmF hW (h6 q hq), fun q hq => va_Nw.warmM hW (h7 q hq), h8.moved hW.alike, h9.moved hW.alike, h10.moved hW.alike⟩
  · obtain ⟨a, ha⟩ := h3 q hq
    exact ⟨a, ha.warm hW⟩
  · have e := Cond.onTables_vm (A := #[]) (A' := #[]) (U := s) (U' := U) U.vm (Cond.castable q.1 q.2) rfl
    rw [← show (Cond.castable q.1 q.2).before #[] (U.setVm U.vm) = (Cond.castable q.1 q.2).before #[] U from rfl, ← e, Cond.castable_setVm hW.alike]
    exact h5.1 q hq
  · have e := Cond.onTables_vm (A := #[]) (A' := #[]) (U := s) (U' := U) U.vm (Cond.declares q) rfl
    rw [← show (Cond.declares q).before #[] (U.setVm U.vm) = (Cond.declares q).before #[] U from rfl, ← e, Cond.declares_setVm hW.alike]
    exact h5.2 q hq
-- ---- the memory
def nF (c : Nat) : Nat := match c with
  | 1 => 2
  | 2 => 2
  | 3 => 10
  | 4 => 8
  | 5 => 5
  | 6 => 7
  | 7 => 8
  | _ => 0
/-- the fields' types -/
def zT (c : Nat) : Nat → FieldType := match c with
  | 1 => tyX0
  | 2 => tyX1
  | 3 => tyX2
  | 4 => tyX3
  | 5 => tyX4
  | 6 => tyX5
  | _ => tyX6
/-- which fields are references -/
def fR (c k : Nat) : Bool := match zT c k with
  | .int => false
  | .boolean => false
  | _ => true
def encF (h : Zh) (a c : Nat) : List Value := (List.range (nF c)).map (fun (k : Nat) => if fR c k = true then va_rf (gR h a k) else Value.int (Int32.ofInt (gI h a k)))
def akT (c : Nat) : FieldType := match c with
  | 11 => .long
  | 12 => .boolean
  | 13 => .object "Marginalia$Note"
  | 14 => .array .int
  | 16 => .array (.array .int)
  | _ => .int
def akE (h : Zh) (a c : Nat) : vp_A := match c with
  | 11 => ((gL h a).toNat, .inr (.inl (fun j : Nat => gJ h a j)))
  | 13 => ((gL h a).toNat, .inr (.inr (.inr (.inr (fun j : Nat => gR h a j)))))
  | 14 => ((gL h a).toNat, .inr (.inr (.inr (.inr (fun j : Nat => gR h a j)))))
  | 16 => ((gL h a).toNat, .inr (.inr (.inr (.inr (fun j : Nat => gR h a j)))))
  | _ => ((gL h a).toNat, .inl (fun j : Nat => Int32.ofInt (gI h a j)))
def isE (h : Zh) (tys : List (ClassId × FieldType)) (a : Nat) (e : va_E) : Prop :=
  (gK h a ≤ 7 → e = .inr (gK h a - 1, encF h a (gK h a))) ∧ (10 ≤ gK h a → ∃ (cA : ClassId) (t : Nat), e = .inl (cA, akE h a (gK h a)) ∧ tys[t]? = some (cA, akT (gK h a)))
/-- in range: every int, every length; the kinds; what was made -/
def okh (h : Zh) : Prop := (∀ a i, inR (gI h a i)) ∧ (∀ a, 0 ≤ gL h a ∧ gL h a ≤ 1000000) ∧ (∀ a, gK h a ≤ 7 ∨ (10 ≤ gK h a ∧ gK h a ≤ 16)) ∧ gC h ≤ MXC ∧ gS h ≤ MXS
def inW (h : Zh) (tys : List (ClassId × FieldType)) (ws : va_W) : Prop := ∀ a, gK h a ≠ 0 → gK h a ≠ 15 → ∃ (k : Nat) (e : va_E), ws[k]? = some (a, e) ∧ isE h tys a e
/-- the memory h is what lies in the heap H, by the tables of U -/
def RH (D : va_G) (A : Nat → Prop) (h : Zh) (U : State) (H : Heap) : Prop := okh h ∧ ∃ (ws : va_W) (tys : List (ClassId × FieldType)), va_P D vwCl ws H ∧ va_D A ws ∧ va_K D vwCl tys U ∧ inW h tys ws
/-- the script -/
def SC (A : Nat → Prop) (h : Zh) (s : State) : Prop := ∀ a, gK h a = 15 → ¬ A a ∧ a < s.heap.size ∧ va_X a (gL h a).toNat (fun j : Nat => Int32.ofInt (gI h a j)) s s.heap
theorem RH.moved {D : va_G} {A : Nat → Prop} {h : Zh} {u U : State} {H : Heap} (hvm : u.vm.Alike U.vm) (k : RH D A h u H) : RH D A h U H := by
  obtain ⟨k0, ws, tys, k1, k2, k3, k4⟩ := k
  exact ⟨k0, ws, tys, k1, k2, k3.moved hvm, k4⟩
theorem SC.fwd {A : Nat → Prop} {h : Zh} {s U : State} (hvm : s.vm.Alike U.vm) (hz : s.heap.size ≤ U.heap.size) (hk : ∀ a : Nat, a < s.heap.size → ¬ A a → U.heap[a]? = s.heap[a]?) (k : SC A h s) : SC A h U := by
  intro a ha
  obtain ⟨k1, k2, k3⟩ := k a ha
  exact ⟨k1, Nat.lt_of_lt_of_le k2 hz, va_X.moved hvm (va_X.kept k3 (hk a k2 k1))⟩
theorem SC.back {A : Nat → Prop} {h : Zh} {s U : State} (hvm : s.vm.Alike U.vm) (hA : ∀ q, s.heap.size ≤ q → A q) (hk : ∀ a : Nat, a < s.heap.size → ¬ A a → U.heap[a]? = s.heap[a]?) (k : SC A h U) : SC A h s := by
  intro a ha
  obtain ⟨k1, k2, k3⟩ := k a ha
  have hl : a < s.heap.size := Nat.lt_of_not_le fun q => k1 (hA a q)
  exact ⟨k1, hl, va_X.moved hvm.symm (va_X.kept k3 (hk a hl k1).symm)⟩
/-- what a method's body stands in -/
def Cx (G : GwT) (A : Nat → Prop) (l : Launch) (M : MdT) (c0 s0 : Nat) (p : Program) (R : Room) (s : State) (mm : MethodId) (args : Array Value) (meth : Method) (c : Code) : Prop :=
  (p.tables.exec = Jvm.exec ∧ c.code = mCod M ∧ c.maxLocals = mMax M ∧ s.vm.findClass (mOwn M) = some mm.cls ∧ ∀ w ∈ mWs M, w.before args s = true) ∧ meth.sig.returnType = mRet M ∧ meth.locks = false ∧ meth.name = (mNam M).name ∧ c.exceptionTable.toList = tableOf (mHH M) ∧ R = mRm M c0 s0 ∧ l.stackTraces = false ∧ (∀ q, s.heap.size ≤ q → A q) ∧ GL G A s
/-- the classes that are thrown -/
def xcl (e : Nat) : String := match e with
  | 1 => "java/lang/IllegalArgumentException"
  | 2 => "java/lang/IllegalStateException"
  | _ => "java/lang/IndexOutOfBoundsException"
/-- a body's end: it has returned, or thrown; just what was made since is told -/
def EndR (D : va_G) (A : Nat → Prop) (Q : Zp) (c0 s0 : Nat) (s : State) (o : Outcome) (t : State) : Prop :=
  ∃ (v : Option Zv) (h : Zh) (L : List Loc), o = .returned (v.map cz) ∧ (∀ x, v = some x → okz x) ∧ Q (.inl v) h ∧ RH D A h t t.heap ∧ SC A h t ∧ va_F A s t ∧ c0 ≤ gC h ∧ s0 ≤ gS h ∧ FrameEnd s o t L (gC h - c0) (gS h - s0) ∧ ∀ q ∈ L, A q.base
def EndX (D : va_G) (A : Nat → Prop) (Q : Zp) (c0 s0 : Nat) (e : Nat) (s : State) (t : State) : Prop :=
  ∃ (h : Zh) (L : List Loc), Q (.inr e) h ∧ RH D A h t t.heap ∧ SC A h t ∧ va_F A s t ∧ c0 ≤ gC h ∧ s0 ≤ gS h ∧ s.sameButNew ({ t with vm := s.vm } : State) L (gC h - c0) (gS h - s0) ∧ ∀ q ∈ L, A q.base
def EndZ (D : va_G) (A : Nat → Prop) (Q : Zp) (c0 s0 : Nat) (below : List Frame) (s : State) : State → Prop := fun t =>
  ∃ o, t.status = .running ∧ Ended t below o ∧ (EndR D A Q c0 s0 s o t ∨ ∃ (q : Addr) (e : Nat) (ce : Cell), o = .threw q ∧ EndX D A Q c0 s0 e s t ∧ t.heap[q]? = some ce ∧ ce.vm = .none ∧ s.vm.findClass (xcl e) = some ce.cls ∧ s.WarmedH t.vm)
/-- what the machine's state is, soundly: from every state of the JVM that it depicts the run comes to the end -/
def XS (G : GwT) (Md : Nat → MdT) (D : va_G) (A : Nat → Prop) (l : Launch) : Zx := fun m pc ls st h Q =>
  ∀ (p : Program) (e : Env) (R : Room) (s : State) (mm : MethodId) (args : Array Value) (below : List Frame) (meth : Method) (c : Code) (H : Heap) (locs : List Loc) (lsC : Array Slot) (c0 s0 ce se : Nat),
    Cx G A l (Md m) c0 s0 p R s mm args meth c → RH D A h s H → SC A h s → va_S A s.heap H locs → lh lsC (mMax (Md m)) ls → (∀ v ∈ st, okz v) → gC h = c0 + ce → gS h = s0 + se →
    W p l e R s mm args below meth c H locs ce se (EndZ D A Q c0 s0 below s) (F0 mm pc lsC (st.map cz))
theorem W_mo {p : Program} {l : Launch} {e : Env} {R : Room} {s : State} {mm : MethodId} {args : Array Value} {below : List Frame} {meth : Method} {c : Code} {H : Heap} {locs : List Loc} {ce se : Nat} {Q Q2 : State → Prop} {g : JFrame} (hQ : ∀ t, Q t → Q2 t) (k : W p l e R s mm args below meth c H locs ce se Q g) : W p l e R s mm args below meth c H locs ce se Q2 g := fun T hT X => by
  obtain ⟨t, a1, b1⟩ := k T hT X
  exact ⟨t, a1, hQ t b1⟩
theorem XS_mo (G : GwT) (Md : Nat → MdT) (D : va_G) (A : Nat → Prop) (l : Launch) : ZxMo (XS G Md D A l) := by
  intro m pc ls st h Q Q2 hQ k p e R s mm args below meth c H locs lsC c0 s0 ce se k1 k2 k3 k4 k5 k6 k7 k8
  refine W_mo (fun t ht => ?_) (k p e R s mm args below meth c H locs lsC c0 s0 ce se k1 k2 k3 k4 k5 k6 k7 k8)
  obtain ⟨o, c1, c2, c3⟩ := ht
  refine ⟨o, c1, c2, ?_⟩
  rcases c3 with ⟨v, g, L, d1, d2, d3, d4⟩ | ⟨q, e0, cc, d1, ⟨g, L, f1, f2⟩, d3⟩
  · exact Or.inl ⟨v, g, L, d1, d2, hQ _ _ d3, d4⟩
  · exact Or.inr ⟨q, e0, cc, d1, ⟨g, L, hQ _ _ f1, f2⟩, d3⟩
/-- an instruction is sound at its place, and monotone -/
def SM (G : GwT) (Md : Nat → MdT) (D : va_G) (A : Nat → Prop) (l : Launch) (m pc : Nat) (f : Op1) : Prop := OpMo f ∧ ∀ ls st h Q, f (XS G Md D A l) m pc ls st h Q → XS G Md D A l m pc ls st h Q
