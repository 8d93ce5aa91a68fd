-- ===== end of PART A; then your names; then what follows =====
/-! THE CLAIM OUT OF ONE WALK OF THE LAW'S BODY. Your part is whole_start (and what it stands on); all else here is the same for every law, but numbers. -/
def R_law : String := "MarginaliaLaw"
def lw_P (b : Addr) (xs : List Int32) (args : Array Value) (s : State) : Prop := args = #[.ref b] ∧ s.IntsAt b xs ∧ xs.length ≤ 260 ∧ (Jvm.Cond.and given_1 narrow_1).before args s = true
/-- what a walk over the start with the record d0 says of its end, said of the start itself -/
theorem lw_closed {s t : State} {o : Outcome} {d0 : Drawn} {L : List Loc} {k n : Nat} (hd0 : s.drawn.sameBut d0 lw_cs) (hv : ∃ v, o = .returned v) (hW : (s.setDrawn d0).WarmedH t.vm) (hs : (s.setDrawn d0).sameButNew ({ t with vm := s.vm } : State) L k n) : State.butDraws s t lw_cs (fun t1 => Framed s o t1 L k n) := by
  have h2 : t.drawn = d0 := congrArg State.drawn hs.1
  refine ⟨⟨hv, hW, State.sameButNew.setDrawn hs s.drawn⟩, ?_, by decide⟩
  rw [h2]
  exact hd0
def lw_Q (_ : Array Value) (s : State) (o : Outcome) (t : State) : Prop := o = .returned (some (.int 1)) ∧ State.butDraws s t lw_cs (fun t1 => Framed s o t1 [] 600086 7301442)
def lw_Z (below : List Frame) (a : Array Value) (s : State) : State → Prop := fun t => ∃ o, t.status = .running ∧ Ended t below o ∧ lw_Q a s o t
/-- the law's own end, with 1 on the stack, nothing written that was there before, its room as the claim has it; d0: the record of draws at this point (at the entry s.drawn: begin with 'refine W.base ?_' and 'have hd0 := Drawn.sameBut.refl s.drawn lw_cs') -/
theorem lw_ret {p : Program} {l : Launch} {e : Env} {s : State} {m : MethodId} {below : List Frame} {meth : Method} {c : Code} {b : Nat} {d0 : Drawn} (hd0 : s.drawn.sameBut d0 lw_cs) (hx : p.tables.exec = Jvm.exec) (hb : c.code = code) (hr : meth.sig.returnType = ret) (hlocks : meth.locks = false) {pc : Nat} {H : Heap} {ls : Array Slot} (hdg : decode code pc = .ok (.ireturn, 1)) : W p l e room_1 (s.setDrawn d0) m #[Value.ref b] below meth c H [] 600086 7301442 (lw_Z below #[Value.ref b] s) (F0 m pc ls [.int 1]) := by
  intro T hT X
  obtain ⟨fs, hret, hrun, hended, hW, hframe⟩ := X.leave (v := some (.int 1)) (hlocks := hlocks) (fun h => by rw [hr] at h; cases h)
  have hmeth' : T.vm.method? m = some meth := X.method'
  refine ⟨T.setFrames fs, ?_, .returned (some (.int 1)), hrun, hended, rfl, lw_closed hd0 ⟨_, rfl⟩ hW hframe⟩
  jvm_step X.here [X.here.top, hx, hb, hdg, hmeth', hr, ret, narrow_b1]
  (try refine ⟨rfl, ?_⟩); (try refine ⟨rfl, ?_⟩)
  first | (intro acts; rw [hret _ acts rfl rfl rfl]) | rw [hret _ _ rfl rfl rfl]
  exact Steps.refl _
/-- what holds at the law's entry: the machine, the code, the tables' words (any of lw_tbl by 'hts w (by decide +kernel)'), the script of L ints xs at the cell b, what the Statement gives of the start (any of its parts by flat_of_before) -/
def lw_At (p : Program) (s : State) (m : MethodId) (meth : Method) (c : Code) (b L : Nat) (xs : Nat → Int32) : Prop :=
  p.tables.exec = Jvm.exec ∧ c.code = code ∧ meth.sig.returnType = ret ∧ c.maxLocals = 14 ∧ s.vm.findClass R_law = some m.cls ∧ (∀ w ∈ lw_tbl, w.before #[Value.ref b] s = true) ∧ va_X b L xs s s.heap ∧ b < s.heap.size ∧ meth.locks = false ∧ (Jvm.Cond.and given_1 narrow_1).before #[Value.ref b] s = true
-- ===== FROM WP TO THE LAW =====
/-- the memory at the law's entry: the script at b, nothing else -/
def h0L (b L : Nat) (xs : Nat → Int32) : Zh := ((fun a => if a = b then 15 else 0), (fun a => if a = b then (L : Int) else 0), (fun a i => if a = b then (xs i.toNat).toInt else 0), (fun _ _ => none), (fun _ _ => 0), 0, 0)
/-- what is owed of the abstract machine: the law answers 1 -/
def LawWP : Prop := ∀ (b L : Nat) (xs : Nat → Int32), L ≤ 260 → WP 118 0 (ent 14 [zr (some b)]) [] (h0L b L xs) (fun o _ => o = .inl (some (zi 1)))
theorem okh_h0L (b L : Nat) (xs : Nat → Int32) (hL : L ≤ 260) : okh (h0L b L xs) := by
  refine ⟨fun a i => ?_, fun a => ?_, fun a => ?_, Nat.zero_le _, Nat.zero_le _⟩
  · show inR (if a = b then _ else 0)
    split
    · exact (z_i32 _).2
    · exact z_0
  · show 0 ≤ (if a = b then (L : Int) else 0) ∧ (if a = b then (L : Int) else 0) ≤ 1000000
    split <;> omega
  · show (if a = b then 15 else 0) ≤ 7 ∨ _
    split
    · exact Or.inr ⟨by show 10 ≤ (if a = b then 15 else 0); rw [if_pos ‹_›]; omega, by show (if a = b then 15 else 0) ≤ 16; rw [if_pos ‹_›]; omega⟩
    · exact Or.inl (by omega)
theorem zq_str {s : State} {args : Array Value} {own : String} {k : Nat} {tx : String} (h1 : (Cond.stringRef own k tx).before args s = true) (h2 : (Cond.exactly (.string own k) "java/lang/String").before args s = true) : ∃ a, vk_R own k tx a s := by
  obtain ⟨a, ha⟩ : ∃ a, (Term.string own k).eval args s none [] s = some (.ref a) := by
    obtain ⟨a, _, _, _, h3, -⟩ := Cond.exactly_spec h2
    exact ⟨a, h3⟩
  exact ⟨a, vk_R.of h1 ha⟩
set_option maxHeartbeats 4000000 in
set_option maxRecDepth 100000 in
theorem GL_start {s : State} {b : Nat} (hts : ∀ w ∈ lw_tbl, w.before #[Value.ref b] s = true) (hgv : (Jvm.Cond.and given_1 narrow_1).before #[Value.ref b] s = true) : GL GwP (fun q => s.heap.size ≤ q) s := by
  have hs := flat_of_before _ hgv
  have hA : ∀ a : Nat, a < s.heap.size → ¬ (fun q : Nat => s.heap.size ≤ q) a := fun a h => Nat.not_le.mpr h
  refine ⟨vx_Zqof (hts _ (by decide +kernel)) (hts _ (by decide +kernel)) (hs _ (by decide +kernel)) hA, vx_Zqof (hts _ (by decide +kernel)) (hts _ (by decide +kernel)) (hs _ (by decide +kernel)) hA, ?_, ?_, ⟨?_, ?_⟩, ?_, ?_, va_AO.of (hts _ (by decide +kernel)), va_AOA.of (hts _ (by decide +kernel)), va_AOA.of (hts _ (by decide +kernel))⟩
  · have e : ∀ q ∈ GwP.1, Cond.stringRef q.1 q.2.1 q.2.2 ∈ lw_tbl ∧ Cond.exactly (.string q.1 q.2.1) "java/lang/String" ∈ flatC (Jvm.Cond.and given_1 narrow_1) := by decide +kernel
    exact fun q hq => zq_str (hts _ (e q hq).1) (hs _ (e q hq).2)
  · have e : ∀ q ∈ GwP.2.1, Cond.not (.castable q.1 q.2) ∈ flatC (Jvm.Cond.and given_1 narrow_1) := by decide +kernel
    exact fun q hq => va_Nc.of (hs _ (e q hq))
  · have e : ∀ q ∈ GwP.2.2.1, Cond.castable q.1 q.2 ∈ lw_tbl := by decide +kernel
    exact fun q hq => va_tabs rfl rfl (hts _ (e q hq))
  · have e : ∀ q ∈ GwP.2.2.2.2.2, Cond.declares q ∈ lw_tbl := by decide +kernel
    exact fun q hq => va_tabs rfl rfl (hts _ (e q hq))
  · have e : ∀ q ∈ GwP.2.2.2.1, Cond.fieldLinkNest q.1 q.2.1 q.2.2.1 q.2.2.2.1 q.2.2.2.2.1 q.2.2.2.2.2 ∈ lw_tbl := by decide +kernel
    exact fun q hq => va_Nw.of rfl (hts _ (e q hq))
  · have e : ∀ q ∈ GwP.2.2.2.2.1, Cond.methodLinkNest q.1 q.2.1 q.2.2.1 q.2.2.2 ∈ lw_tbl := by decide +kernel
    exact fun q hq => va_Nw.of rfl (hts _ (e q hq))
set_option maxHeartbeats 4000000 in
set_option maxRecDepth 100000 in
theorem K_start {s : State} {b : Nat} (hts : ∀ w ∈ lw_tbl, w.before #[Value.ref b] s = true) : ∃ D : va_G, va_K D vwCl [] s := by
  have hz : ∀ w ∈ zBig, w.before #[Value.ref b] s = true := fun w h => hts w (List.mem_filter.mp h).1
  obtain ⟨c0, i0, hk0⟩ := u_known (C := RX0) (T := TX0) (N := 2) (n := 2) hz uz_0 (hts (.instantiable RX0 2) (by decide +kernel))
  obtain ⟨c1, i1, hk1⟩ := u_known (C := RX1) (T := TX1) (N := 2) (n := 2) hz uz_1 (hts (.instantiable RX1 2) (by decide +kernel))
  obtain ⟨c2, i2, hk2⟩ := u_known (C := RX2) (T := TX2) (N := 10) (n := 10) hz uz_2 (hts (.instantiable RX2 10) (by decide +kernel))
  obtain ⟨c3, i3, hk3⟩ := u_known (C := RX3) (T := TX3) (N := 8) (n := 8) hz uz_3 (hts (.instantiable RX3 8) (by decide +kernel))
  obtain ⟨c4, i4, hk4⟩ := u_known (C := RX4) (T := TX4) (N := 5) (n := 5) hz uz_4 (hts (.instantiable RX4 5) (by decide +kernel))
  obtain ⟨c5, i5, hk5⟩ := u_known (C := RX5) (T := TX5) (N := 7) (n := 7) hz uz_5 (hts (.instantiable RX5 7) (by decide +kernel))
  obtain ⟨c6, i6, hk6⟩ := u_known (C := RX6) (T := TX6) (N := 8) (n := 8) hz uz_6 (hts (.instantiable RX6 8) (by decide +kernel))
  refine ⟨(fun k => if k = 0 then c0 else (if k = 1 then c1 else (if k = 2 then c2 else (if k = 3 then c3 else (if k = 4 then c4 else (if k = 5 then c5 else (c6)))))), fun k => if k = 0 then i0 else (if k = 1 then i1 else (if k = 2 then i2 else (if k = 3 then i3 else (if k = 4 then i4 else (if k = 5 then i5 else (i6))))))), ?_, fun k q h => by simp at h⟩
  intro k q hq
  match k, hq with
  | 0, hq => cases hq; exact hk0
  | 1, hq => cases hq; exact hk1
  | 2, hq => cases hq; exact hk2
  | 3, hq => cases hq; exact hk3
  | 4, hq => cases hq; exact hk4
  | 5, hq => cases hq; exact hk5
  | 6, hq => cases hq; exact hk6
  | k + 7, hq => simp [vwCl] at hq
-- ===== YOUR PART ENDS =====
theorem fe_new {s t : State} {o : Outcome} {L : List Loc} {k n : Nat} (h : FrameEnd s o t L k n) (hL : ∀ q ∈ L, s.heap.size ≤ q.base) : s.WarmedH t.vm ∧ s.sameButNew ({ t with vm := s.vm } : State) [] k n := by
  obtain ⟨-, hW, a1, a2, a3, a4, a5, a6⟩ := h
  refine ⟨hW, a1, a2, a3, a4, a5, fun a c hc => ?_⟩
  obtain ⟨c2, e1, e2, e3, e4⟩ := a6 a c hc
  refine ⟨c2, e1, e2, e3, fun i _ => e4 i (fun hm => ?_)⟩
  have h1 : s.heap.size ≤ a := hL ⟨a, i⟩ hm
  have h2 : a < s.heap.size := (Array.getElem?_eq_some_iff.mp hc).1
  exact absurd h2 (Nat.not_lt.mpr h1)
set_option maxHeartbeats 4000000 in
theorem lw_walk (HW : LawWP) (l : Launch) (hflags : l.flags = flags0) (b : Addr) (xs : List Int32) : MetFree l x (headSpec (Jvm.Cond.code x code maxLocals ret :: tables_1) room_1) (lw_P b xs) (fun _ _ _ _ _ => True) lw_Q := by
  refine MetFree.of_bodyS (code := code) (maxLocals := maxLocals) (ret := ret) (by decide) ?_ ?_
  · intro args s m h hn
    obtain ⟨meth, c, h1, h2, h3, h4, h5, h6, -, -⟩ := Cond.code_spec hn (atoms_spec (ws := Jvm.Cond.code x code maxLocals ret :: tables_1) h _ List.mem_cons_self)
    exact ⟨meth, c, h1, h2, h3, h4, h5, h6⟩
  · intro p e s m args below meth c s₁ B hml0 hP _
    obtain ⟨rfl, hx, hbd, hgv⟩ := hP
    obtain ⟨scr, harrAt, hlist, hof, hsmall⟩ := hx
    obtain ⟨hcb, hkn, -, -⟩ := State.arrayAt?_spec harrAt
    have hown : s.vm.findClass R_law = some m.cls := findClass_of_methodNamed B.named
    have hts0 : ∀ c ∈ (Jvm.Cond.code x code maxLocals ret :: tables_1), c.before #[Value.ref b] s = true := atoms_spec (ws := Jvm.Cond.code x code maxLocals ret :: tables_1) B.pre
    have hts : ∀ w ∈ lw_tbl, w.before #[Value.ref b] s = true := k2_hts_sels lw_privs (fun w hw => hts0 w (List.mem_cons_of_mem _ hw)) lw_privs_ok
    have hml : c.maxLocals = 14 := B.maxLocals_eq (hts0 _ List.mem_cons_self)
    have X₀ : Stand p l e room_1 s m #[Value.ref b] below meth c s₁ [] 0 0 := Stand.of_body B
    have hh0 : s₁.heap = s.heap := by rw [B.state]; rfl
    have hsz : scr.slots.size = xs.length := by rw [← Array.length_toList, hlist, List.length_map]
    have hval : ∀ j : Nat, j < xs.length → scr.slots[j]? = some (.int (xs.getD j 0)) := fun j hj => by
      rw [← Array.getElem?_toList, hlist]
      simp [hj]
    have hbl : b < s.heap.size := (Array.getElem?_eq_some_iff.mp hcb).1
    have hX : va_X b xs.length (fun j => xs.getD j 0) s s.heap := ⟨scr, hcb, hof, hkn, hsz, hval⟩
    have het : c.exceptionTable.toList = tableOf (mHH (MdP 118)) := by
      obtain ⟨meth9, c9, h1, h2, -, -, -, -, h7, -⟩ := Cond.code_spec B.named (hts0 _ List.mem_cons_self)
      cases Option.some.inj (h1.symm.trans B.method)
      cases Option.some.inj (h2.symm.trans X₀.code)
      rw [Array.isEmpty_iff.mp h7]
      rfl
    obtain ⟨D, hKK⟩ := K_start hts
    have hA : ∀ q, s.heap.size ≤ q → (fun q : Nat => s.heap.size ≤ q) q := fun _ h => h
    have hC0 : Cx GwP (fun q => s.heap.size ≤ q) l (MdP 118) 0 0 p room_1 s m #[Value.ref b] meth c := by
      refine ⟨⟨B.exec, B.bytes, hml, hown, fun w hw => ?_⟩, B.returns, B.notSynchronized, (name_of_methodNamed B.named B.method).1, het, rfl, ?_, hA, GL_start hts hgv⟩
      · rcases List.mem_cons.mp hw with rfl | hw
        · exact hts0 _ List.mem_cons_self
        · exact hts w (List.mem_filter.mp hw).1
      · show (!l.flags.contains noTraceFlag) = false
        rw [hflags]
        decide +kernel
    have hR0 : RH D (fun q => s.heap.size ≤ q) (h0L b xs.length (fun j => xs.getD j 0)) s s.heap := by
      refine ⟨okh_h0L b xs.length _ hbd, [], [], fun k q h => by simp at h, ⟨fun i j p q h => by simp at h, fun k q h => by simp at h⟩, hKK, fun a h1 h2 => ?_⟩
      have h3 : gK (h0L b xs.length (fun j => xs.getD j 0)) a = if a = b then 15 else 0 := rfl
      rw [h3] at h1 h2
      split at h1
      · rw [if_pos ‹_›] at h2; exact absurd rfl h2
      · exact absurd rfl h1
    have hS0 : SC (fun q => s.heap.size ≤ q) (h0L b xs.length (fun j => xs.getD j 0)) s := by
      intro a ha
      have h3 : gK (h0L b xs.length (fun j => xs.getD j 0)) a = if a = b then 15 else 0 := rfl
      rw [h3] at ha
      by_cases q : a = b
      · subst q
        refine ⟨Nat.not_le.mpr hbl, hbl, ?_⟩
        have e1 : (gL (h0L a xs.length (fun j => xs.getD j 0)) a).toNat = xs.length := by
          show (if a = a then (xs.length : Int) else 0).toNat = _
          rw [if_pos rfl, Int.toNat_natCast]
        have e2 : (fun j : Nat => Int32.ofInt (gI (h0L a xs.length (fun j => xs.getD j 0)) a j)) = fun j => xs.getD j 0 := funext fun j => by
          show Int32.ofInt (if a = a then ((xs.getD ((j : Int).toNat) 0)).toInt else 0) = _
          rw [if_pos rfl, Int.toNat_natCast]
          exact (z_i32 _).1.symm
        rw [e1, e2]
        exact hX
      · rw [if_neg q] at ha; omega
    have K := WP_sound (D := D) (A := fun q => s.heap.size ≤ q) (l := l) (HW b xs.length (fun j => xs.getD j 0) hbd) p e room_1 s m #[Value.ref b] below meth c s.heap [] _ 0 0 0 0 hC0 hR0 hS0 va_S.rf (lh_ent (vs := [zr (some b)]) (n := 14) (Nat.le_of_ble_eq_true rfl) (fun v hv => by rw [List.mem_singleton.mp hv]; trivial)) (fun v hv => by cases hv) rfl rfl
    obtain ⟨t, a1, o, b1, b2, b3⟩ := K s₁ hh0 X₀
    have e0 : entryFrame m ([Value.ref b] : List Value).toArray 14 = F0 m 0 ((lg_sl ([zr (some b)].map cz) ++ List.replicate (14 - (lg_sl ([zr (some b)].map cz)).length) Slot.unset).toArray) [] := lg_entry_eq m [Value.ref b] 14
    refine ⟨t, o, ?_, b1, b2, ?_⟩
    · show Steps p.tables e below (s₁.setTop (entryFrame m ([Value.ref b] : List Value).toArray 14)) t
      rw [e0]
      exact a1
    · rcases b3 with ⟨v, g, L, d1, d2, d3, d4, d5, d6, d7, d8, d9, d10⟩ | ⟨q, ec, cell, d1, ⟨g, L, d2, -⟩, -⟩
      · have d3 : (Sum.inl v : Zo) = .inl (some (zi 1)) := d3
        cases d3
        have hok := d4.1.2.2.2
        obtain ⟨hW, hsm⟩ := fe_new d9 d10
        refine ⟨d1, ?_⟩
        have hd0 := Drawn.sameBut.refl s.drawn lw_cs
        exact lw_closed (L := []) hd0 ⟨_, d1⟩ hW (hsm.mono (by show gC g - 0 ≤ 600086; exact hok.1) (by show gS g - 0 ≤ 7301442; exact hok.2))
      · cases d2
theorem lw_pre_spec {args : Array Value} {s : State} (h : (Jvm.Cond.and given_1 narrow_1).before args s = true) (hr : rest_1_c.before args s = true) : ∃ (b : Addr) (xs : List Int32), lw_P b xs args s := by
  have hs := flat_of_before _ h
  have hq := flat_of_before _ hr
  have hc : (Cond.count 1).before args s = true := hs _ (by decide +kernel)
  have harr : (Cond.arrayOf (.arg 0) .int).before args s = true := hs _ (by decide +kernel)
  have hle : (Cond.le (.length (.arg 0)) (.int 260)).before args s = true := hs _ (by decide +kernel)
  have hlen : (Cond.isInt (.length (.arg 0))).before args s = true := hq _ (by decide +kernel)
  have hall : (Cond.all (.arg 0) (.isInt (.elem (.arg 0) (.index 0)))).before args s = true := hq _ (by decide +kernel)
  obtain ⟨b, xs, hb, hx⟩ := State.ints_of_pre rfl harr hlen hall
  have hsm : xs.length < 2 ^ 31 := hx.choose_spec.2.2.2
  have hev : (Term.length (.arg 0)).eval args s none [] s = some (.int xs.length.toInt32) := hx.length_eval hb
  have hv := Cond.le_ints hev (show (Term.int 260).eval args s none [] s = some (.int 260) from rfl)
  have hd : xs.length.toInt32 ≤ 260 := by
    simpa [Cond.before, Cond.holds, hv] using hle
  have hN : xs.length ≤ 260 := (Int32.ofNat_le_ofNat hsm (by decide)).mp (show Int32.ofNat xs.length ≤ Int32.ofNat 260 from hd)
  exact ⟨b, xs, Cond.one_arg hc (show args[0]? = some (.ref b) from hb), hx, hN, h⟩
theorem lw_comes (HW : LawWP) (l : Launch) (hflags : l.flags = flags0) : Comes l x (Jvm.Cond.code x code maxLocals ret :: tables_1) room_1 (fun tb e args s => Calls_1 tb e args s ∧ rest_1 tb e args s ∧ Pre_1 tb e args s)
    (fun _ _ args s o t => lw_Q args s o t) := by
  intro p e ha hc hk s m args below hf hfit hheap happ hpre
  obtain ⟨b, xs, hP⟩ := lw_pre_spec hpre.2.2 hpre.2.1
  obtain ⟨k, o, h1, h2, h3, hQ⟩ := lw_walk HW l hflags b xs p e ha hc hk s m args below hf ((Spec.applies_iff_loose hf).mp happ).1 hP trivial
  exact ⟨k, o, h1, h2, h3, hQ⟩
theorem lw_frame {s t : State} {o : Outcome} {args : Array Value} (h : State.butDraws s t lw_cs (fun t1 => Framed s o t1 [] 600086 7301442)) :
    State.butDraws s t [Jvm.Choice.named "NaN.bits"] (fun t1 => Framed s o t1 (fieldLocs frame_1_writes args s ++ arrayLocs frame_1_arrays args s ++ staticLocs frame_1_statics s) 600086 7301442) := h
theorem lw_limb (HW : LawWP) (L : Cond) (hL : ∀ (args : Array Value) (s t : State), L.after args s (.returned (some (.int 1))) t = true) :
    ArmFor flags0 classFile x code maxLocals ret World_1 tables_1 room_1 Calls_1 rest_1 Pre_1
      (fun tb e a s o t => postC L tb e a s o t ∧ State.butDraws s t [Jvm.Choice.named "NaN.bits"] (fun t1 => Framed s o t1 (fieldLocs frame_1_writes a s ++ arrayLocs frame_1_arrays a s ++ staticLocs frame_1_statics s) 600086 7301442)) := by
  intro l hflags _ _ p e ha hc hk s m args below hf hfit hheap happ hpre
  obtain ⟨k, o, h1, h2, h3, rfl, hF⟩ := lw_comes HW l hflags p e ha hc hk s m args below hf hfit hheap happ hpre
  exact ⟨k, _, h1, h2, h3, hL args s _, lw_frame hF⟩
theorem i_vc_of (HW : LawWP) : Claimed_1_1 ∧ Claimed_1_2 := ⟨lw_limb HW limb_1_1 (fun args s t => by simp [limb_1_1, Cond.after, Cond.holds, Cond.value]), lw_limb HW limb_1_2 (fun args s t => Cond.after_iff.mpr (by
  first | (rw [show limb_1_2 = Cond.eq .result (.int 1) from rfl, Cond.eq_ints (x := 1) (y := 1) rfl rfl]; simp; done) | (simp [limb_1_2, Cond.value, Term.eval]; done)))⟩
