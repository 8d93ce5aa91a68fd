section
-- ===== PART A: goes FIRST, ahead of the names: the tables' words, and 'selects' of the private methods out of them =====
/-- a private method of a class that the tables say can be made, by its rows of tables_1 -/
def lw_okq (q : MethodName × Nat) : Prop := (q.1.cls ≠ "java/lang/invoke/MethodHandle" ∧ q.1.cls ≠ "java/lang/invoke/VarHandle") ∧ Cond.instantiable q.1.cls q.2 ∈ tables_1 ∧ Cond.privateMethod q.1 ∈ tables_1 ∧ Cond.instanceMethod q.1 ∈ tables_1
theorem lw_p0 : lw_okq (⟨"java/lang/Throwable", "fillInStackTrace", "(I)Ljava/lang/Throwable;"⟩, 6) := ⟨⟨by decide +kernel, by decide +kernel⟩, List.mem_of_getElem? (i := 79) (by decide +kernel), List.mem_of_getElem? (i := 77) (by decide +kernel), List.mem_of_getElem? (i := 78) (by decide +kernel)⟩
theorem lw_p1 : lw_okq (⟨"Marginalia", "countNotes", "()I"⟩, 7) := ⟨⟨by decide +kernel, by decide +kernel⟩, List.mem_of_getElem? (i := 148) (by decide +kernel), List.mem_of_getElem? (i := 146) (by decide +kernel), List.mem_of_getElem? (i := 147) (by decide +kernel)⟩
theorem lw_p2 : lw_okq (⟨"Marginalia", "countStrands", "(I)I"⟩, 7) := ⟨⟨by decide +kernel, by decide +kernel⟩, List.mem_of_getElem? (i := 148) (by decide +kernel), List.mem_of_getElem? (i := 151) (by decide +kernel), List.mem_of_getElem? (i := 152) (by decide +kernel)⟩
theorem lw_p3 : lw_okq (⟨"Marginalia", "requireUser", "(I)V"⟩, 7) := ⟨⟨by decide +kernel, by decide +kernel⟩, List.mem_of_getElem? (i := 148) (by decide +kernel), List.mem_of_getElem? (i := 171) (by decide +kernel), List.mem_of_getElem? (i := 172) (by decide +kernel)⟩
theorem lw_p4 : lw_okq (⟨"Marginalia", "requireNote", "(I)LMarginalia$Note;"⟩, 7) := ⟨⟨by decide +kernel, by decide +kernel⟩, List.mem_of_getElem? (i := 148) (by decide +kernel), List.mem_of_getElem? (i := 180) (by decide +kernel), List.mem_of_getElem? (i := 181) (by decide +kernel)⟩
theorem lw_p5 : lw_okq (⟨"Marginalia", "isSeen", "(ILMarginalia$Note;)Z"⟩, 7) := ⟨⟨by decide +kernel, by decide +kernel⟩, List.mem_of_getElem? (i := 148) (by decide +kernel), List.mem_of_getElem? (i := 198) (by decide +kernel), List.mem_of_getElem? (i := 199) (by decide +kernel)⟩
theorem lw_p6 : lw_okq (⟨"Marginalia", "headOf", "(LMarginalia$Note;)LMarginalia$Note;"⟩, 7) := ⟨⟨by decide +kernel, by decide +kernel⟩, List.mem_of_getElem? (i := 148) (by decide +kernel), List.mem_of_getElem? (i := 210) (by decide +kernel), List.mem_of_getElem? (i := 211) (by decide +kernel)⟩
theorem lw_p7 : lw_okq (⟨"Marginalia", "chooseHeads", "(IZ)I"⟩, 7) := ⟨⟨by decide +kernel, by decide +kernel⟩, List.mem_of_getElem? (i := 148) (by decide +kernel), List.mem_of_getElem? (i := 226) (by decide +kernel), List.mem_of_getElem? (i := 227) (by decide +kernel)⟩
theorem lw_p8 : lw_okq (⟨"Marginalia", "putAmongChosen", "(LMarginalia$Note;I)V"⟩, 7) := ⟨⟨by decide +kernel, by decide +kernel⟩, List.mem_of_getElem? (i := 148) (by decide +kernel), List.mem_of_getElem? (i := 230) (by decide +kernel), List.mem_of_getElem? (i := 231) (by decide +kernel)⟩
theorem lw_p9 : lw_okq (⟨"Marginalia", "requireSign", "(I)V"⟩, 7) := ⟨⟨by decide +kernel, by decide +kernel⟩, List.mem_of_getElem? (i := 148) (by decide +kernel), List.mem_of_getElem? (i := 255) (by decide +kernel), List.mem_of_getElem? (i := 256) (by decide +kernel)⟩
theorem lw_p10 : lw_okq (⟨"Marginalia", "digestText", "(J)J"⟩, 7) := ⟨⟨by decide +kernel, by decide +kernel⟩, List.mem_of_getElem? (i := 148) (by decide +kernel), List.mem_of_getElem? (i := 277) (by decide +kernel), List.mem_of_getElem? (i := 278) (by decide +kernel)⟩
theorem lw_p11 : lw_okq (⟨"Marginalia", "digestUser", "(JI)J"⟩, 7) := ⟨⟨by decide +kernel, by decide +kernel⟩, List.mem_of_getElem? (i := 148) (by decide +kernel), List.mem_of_getElem? (i := 290) (by decide +kernel), List.mem_of_getElem? (i := 291) (by decide +kernel)⟩
theorem lw_p12 : lw_okq (⟨"Marginalia", "digestNote", "(JI)J"⟩, 7) := ⟨⟨by decide +kernel, by decide +kernel⟩, List.mem_of_getElem? (i := 148) (by decide +kernel), List.mem_of_getElem? (i := 296) (by decide +kernel), List.mem_of_getElem? (i := 297) (by decide +kernel)⟩
theorem lw_p13 : lw_okq (⟨"Marginalia", "placeOfQuote", "(LMarginalia$Strand;)I"⟩, 7) := ⟨⟨by decide +kernel, by decide +kernel⟩, List.mem_of_getElem? (i := 148) (by decide +kernel), List.mem_of_getElem? (i := 305) (by decide +kernel), List.mem_of_getElem? (i := 306) (by decide +kernel)⟩
theorem lw_p14 : lw_okq (⟨"Marginalia", "digestExport", "(J)J"⟩, 7) := ⟨⟨by decide +kernel, by decide +kernel⟩, List.mem_of_getElem? (i := 148) (by decide +kernel), List.mem_of_getElem? (i := 315) (by decide +kernel), List.mem_of_getElem? (i := 316) (by decide +kernel)⟩
theorem lw_p15 : lw_okq (⟨"Marginalia", "putSigns", "(III)V"⟩, 7) := ⟨⟨by decide +kernel, by decide +kernel⟩, List.mem_of_getElem? (i := 148) (by decide +kernel), List.mem_of_getElem? (i := 491) (by decide +kernel), List.mem_of_getElem? (i := 492) (by decide +kernel)⟩
def lw_privs_1 : List (MethodName × Nat) := [(⟨"java/lang/Throwable", "fillInStackTrace", "(I)Ljava/lang/Throwable;"⟩, 6), (⟨"Marginalia", "countNotes", "()I"⟩, 7), (⟨"Marginalia", "countStrands", "(I)I"⟩, 7), (⟨"Marginalia", "requireUser", "(I)V"⟩, 7), (⟨"Marginalia", "requireNote", "(I)LMarginalia$Note;"⟩, 7), (⟨"Marginalia", "isSeen", "(ILMarginalia$Note;)Z"⟩, 7), (⟨"Marginalia", "headOf", "(LMarginalia$Note;)LMarginalia$Note;"⟩, 7), (⟨"Marginalia", "chooseHeads", "(IZ)I"⟩, 7), (⟨"Marginalia", "putAmongChosen", "(LMarginalia$Note;I)V"⟩, 7), (⟨"Marginalia", "requireSign", "(I)V"⟩, 7), (⟨"Marginalia", "digestText", "(J)J"⟩, 7), (⟨"Marginalia", "digestUser", "(JI)J"⟩, 7), (⟨"Marginalia", "digestNote", "(JI)J"⟩, 7), (⟨"Marginalia", "placeOfQuote", "(LMarginalia$Strand;)I"⟩, 7), (⟨"Marginalia", "digestExport", "(J)J"⟩, 7), (⟨"Marginalia", "putSigns", "(III)V"⟩, 7)]
theorem lw_r1 : ∀ q ∈ lw_privs_1, lw_okq q := List.forall_mem_cons.mpr ⟨lw_p0, List.forall_mem_cons.mpr ⟨lw_p1, List.forall_mem_cons.mpr ⟨lw_p2, List.forall_mem_cons.mpr ⟨lw_p3, List.forall_mem_cons.mpr ⟨lw_p4, List.forall_mem_cons.mpr ⟨lw_p5, List.forall_mem_cons.mpr ⟨lw_p6, List.forall_mem_cons.mpr ⟨lw_p7, List.forall_mem_cons.mpr ⟨lw_p8, List.forall_mem_cons.mpr ⟨lw_p9, List.forall_mem_cons.mpr ⟨lw_p10, List.forall_mem_cons.mpr ⟨lw_p11, List.forall_mem_cons.mpr ⟨lw_p12, List.forall_mem_cons.mpr ⟨lw_p13, List.forall_mem_cons.mpr ⟨lw_p14, List.forall_mem_cons.mpr ⟨lw_p15, fun _ h => absurd h List.not_mem_nil⟩⟩⟩⟩⟩⟩⟩⟩⟩⟩⟩⟩⟩⟩⟩⟩
theorem lw_p16 : lw_okq (⟨"MarginaliaLaw$Page", "put", "(III)V"⟩, 8) := ⟨⟨by decide +kernel, by decide +kernel⟩, List.mem_of_getElem? (i := 319) (by decide +kernel), List.mem_of_getElem? (i := 508) (by decide +kernel), List.mem_of_getElem? (i := 509) (by decide +kernel)⟩
theorem lw_p17 : lw_okq (⟨"MarginaliaLaw$Page", "edited", "([[I)V"⟩, 8) := ⟨⟨by decide +kernel, by decide +kernel⟩, List.mem_of_getElem? (i := 319) (by decide +kernel), List.mem_of_getElem? (i := 515) (by decide +kernel), List.mem_of_getElem? (i := 516) (by decide +kernel)⟩
theorem lw_p18 : lw_okq (⟨"Marginalia", "quoteOf", "(II)[I"⟩, 7) := ⟨⟨by decide +kernel, by decide +kernel⟩, List.mem_of_getElem? (i := 148) (by decide +kernel), List.mem_of_getElem? (i := 553) (by decide +kernel), List.mem_of_getElem? (i := 554) (by decide +kernel)⟩
theorem lw_p19 : lw_okq (⟨"Marginalia", "keepNote", "(LMarginalia$Note;)I"⟩, 7) := ⟨⟨by decide +kernel, by decide +kernel⟩, List.mem_of_getElem? (i := 148) (by decide +kernel), List.mem_of_getElem? (i := 646) (by decide +kernel), List.mem_of_getElem? (i := 647) (by decide +kernel)⟩
theorem lw_p20 : lw_okq (⟨"Marginalia", "cutSigns", "(II)V"⟩, 7) := ⟨⟨by decide +kernel, by decide +kernel⟩, List.mem_of_getElem? (i := 148) (by decide +kernel), List.mem_of_getElem? (i := 694) (by decide +kernel), List.mem_of_getElem? (i := 695) (by decide +kernel)⟩
theorem lw_p21 : lw_okq (⟨"MarginaliaLaw$Page", "cut", "(II)V"⟩, 8) := ⟨⟨by decide +kernel, by decide +kernel⟩, List.mem_of_getElem? (i := 319) (by decide +kernel), List.mem_of_getElem? (i := 709) (by decide +kernel), List.mem_of_getElem? (i := 710) (by decide +kernel)⟩
theorem lw_p22 : lw_okq (⟨"Marginalia", "canTake", "(LMarginalia$Strand;)Z"⟩, 7) := ⟨⟨by decide +kernel, by decide +kernel⟩, List.mem_of_getElem? (i := 148) (by decide +kernel), List.mem_of_getElem? (i := 753) (by decide +kernel), List.mem_of_getElem? (i := 754) (by decide +kernel)⟩
theorem lw_p23 : lw_okq (⟨"Marginalia", "putProposal", "(LMarginalia$Strand;)V"⟩, 7) := ⟨⟨by decide +kernel, by decide +kernel⟩, List.mem_of_getElem? (i := 148) (by decide +kernel), List.mem_of_getElem? (i := 762) (by decide +kernel), List.mem_of_getElem? (i := 763) (by decide +kernel)⟩
theorem lw_p24 : lw_okq (⟨"MarginaliaLaw$Page", "stands", "([II)Z"⟩, 8) := ⟨⟨by decide +kernel, by decide +kernel⟩, List.mem_of_getElem? (i := 319) (by decide +kernel), List.mem_of_getElem? (i := 782) (by decide +kernel), List.mem_of_getElem? (i := 783) (by decide +kernel)⟩
theorem lw_p25 : lw_okq (⟨"Marginalia", "healAnchor", "(LMarginalia$Strand;)Z"⟩, 7) := ⟨⟨by decide +kernel, by decide +kernel⟩, List.mem_of_getElem? (i := 148) (by decide +kernel), List.mem_of_getElem? (i := 790) (by decide +kernel), List.mem_of_getElem? (i := 791) (by decide +kernel)⟩
def lw_privs_2 : List (MethodName × Nat) := [(⟨"MarginaliaLaw$Page", "put", "(III)V"⟩, 8), (⟨"MarginaliaLaw$Page", "edited", "([[I)V"⟩, 8), (⟨"Marginalia", "quoteOf", "(II)[I"⟩, 7), (⟨"Marginalia", "keepNote", "(LMarginalia$Note;)I"⟩, 7), (⟨"Marginalia", "cutSigns", "(II)V"⟩, 7), (⟨"MarginaliaLaw$Page", "cut", "(II)V"⟩, 8), (⟨"Marginalia", "canTake", "(LMarginalia$Strand;)Z"⟩, 7), (⟨"Marginalia", "putProposal", "(LMarginalia$Strand;)V"⟩, 7), (⟨"MarginaliaLaw$Page", "stands", "([II)Z"⟩, 8), (⟨"Marginalia", "healAnchor", "(LMarginalia$Strand;)Z"⟩, 7)]
theorem lw_r2 : ∀ q ∈ lw_privs_2, lw_okq q := List.forall_mem_cons.mpr ⟨lw_p16, List.forall_mem_cons.mpr ⟨lw_p17, List.forall_mem_cons.mpr ⟨lw_p18, List.forall_mem_cons.mpr ⟨lw_p19, List.forall_mem_cons.mpr ⟨lw_p20, List.forall_mem_cons.mpr ⟨lw_p21, List.forall_mem_cons.mpr ⟨lw_p22, List.forall_mem_cons.mpr ⟨lw_p23, List.forall_mem_cons.mpr ⟨lw_p24, List.forall_mem_cons.mpr ⟨lw_p25, fun _ h => absurd h List.not_mem_nil⟩⟩⟩⟩⟩⟩⟩⟩⟩⟩
def lw_privs : List (MethodName × Nat) := lw_privs_1 ++ (lw_privs_2)
def lw_tbl : List Cond := k2_sels lw_privs ++ tables_1
theorem lw_privs_ok : ∀ q ∈ lw_privs, lw_okq q := by
  show ∀ q ∈ lw_privs_1 ++ (lw_privs_2), lw_okq q
  exact List.forall_mem_append.mpr ⟨lw_r1, lw_r2⟩
/-- the streams that the claim lets the run draw from -/
abbrev lw_cs : List Choice := [Jvm.Choice.named "NaN.bits"]
theorem lw_bits : nanBits ∈ lw_cs := by first | decide | exact List.mem_cons_self | simp [lw_cs, nanBits]
-- ===== end of PART A; then your names; then what follows =====
end
section
/-! the word that an array of arrays can be made, as the printed row va_mna names it (claim/NAMES.whole.lean.txt uses it and doesn't define it) -/
def va_AOA (t : FieldType) (U : State) : Prop := (Cond.arrayOver (.array t)).before #[] U = true
theorem va_AOA.of {t : FieldType} {B : Array Value} {U : State} (h : (Cond.arrayOver (.array t)).before B U = true) : va_AOA t U := h
theorem va_AOA.use {t : FieldType} {B : Array Value} {U : State} (h : va_AOA t U) : (Cond.arrayOver (.array t)).before B U = true := h
end
section
/-! ===== BEGIN words of one list among another's, by their places ===== -/
theorem goodIn_r {big : List Cond} (ws : List Cond) (ps : List Nat) (hp : ws = ps.filterMap (fun i => big[i]?)) (h : ws.all goodWord = true) : GoodIn big ws := by
  intro w hw
  have h1 := List.all_eq_true.mp h w hw
  rw [hp] at hw
  obtain ⟨i, -, hi⟩ := List.mem_filterMap.mp hw
  have hm : w ∈ big := by first | exact List.mem_of_getElem? hi | exact List.getElem?_mem hi
  exact ⟨hm, good_of_word h1⟩
theorem goodIn_app {big a b : List Cond} (ha : GoodIn big a) (hb : GoodIn big b) : GoodIn big (a ++ b) := fun w h => (List.mem_append.mp h).elim (ha w) (hb w)
theorem goodIn_ca {big a b : List Cond} {c : Cond} (ha : GoodIn big (c :: a)) (hb : GoodIn big b) : GoodIn big (c :: (a ++ b)) := fun w h => (List.mem_cons.mp h).elim (fun e => ha w (List.mem_cons.mpr (Or.inl e))) (fun h => (List.mem_append.mp h).elim (fun h => ha w (List.mem_cons.mpr (Or.inr h))) (hb w))
theorem goodIn_sub {big ws : List Cond} (hm : ∀ w ∈ ws, w ∈ big) (h : ws.all goodWord = true) : GoodIn big ws := fun w hw => ⟨hm w hw, good_of_word (List.all_eq_true.mp h w hw)⟩
/-! ===== END ===== -/

/-! ===== BEGIN new T[n][m]: the outer array a place, the inner ones among the pooled ===== -/
/-- f, but v at every address of l -/
def vr_up {α : Type} (f : Nat → α) (l : List Nat) (v : α) : Nat → α := fun a => if a ∈ l then v else f a
theorem vr_up_in {α : Type} {f : Nat → α} {l : List Nat} {v : α} {a : Nat} (h : a ∈ l) : vr_up f l v a = v := if_pos h
theorem vr_up_ne {α : Type} {f : Nat → α} {l : List Nat} {v : α} {a : Nat} (h : a ∉ l) : vr_up f l v a = f a := if_neg h
theorem vr_rows {L l : List Nat} {f : Nat → va_E} {e : va_E} (h : ∀ a, a ∈ l → a ∉ L) : va_pl L f ++ l.map (fun a => (a, e)) = va_pl (L ++ l) (vr_up f l e) := by
  unfold va_pl
  rw [List.map_append]
  congr 1
  · apply List.map_congr_left
    intro a ha
    rw [vr_up_ne (fun q => h a q ha)]
  · apply List.map_congr_left
    intro a ha
    rw [vr_up_in ha]
theorem vr_lay {X rows : va_W} {x : Nat × va_E} {pl : va_W} {D : va_G} {cl : List vw_C} {H : Heap} (hP : va_P D cl (((X ++ pl) ++ [x]) ++ rows) H) : va_P D cl ((X ++ [x]) ++ (pl ++ rows)) H := by
  rw [List.append_assoc (X ++ pl)] at hP
  have h := va_P.swap hP
  rw [← List.append_assoc X] at h
  have h2 := va_P.swap h
  rw [List.append_assoc (X ++ [x])] at h2
  exact h2
theorem vr_layD {X rows : va_W} {x : Nat × va_E} {pl : va_W} {A : Nat → Prop} (hD : va_D A (((X ++ pl) ++ [x]) ++ rows)) : va_D A ((X ++ [x]) ++ (pl ++ rows)) := by
  rw [List.append_assoc (X ++ pl)] at hD
  have h := va_D.swap hD
  rw [← List.append_assoc X] at h
  have h2 := va_D.swap h
  rw [List.append_assoc (X ++ [x])] at h2
  exact h2
theorem vr_outer (c : ClassId) (N h0 : Nat) : ∀ i : Nat, Jvm.Free.Multi.outerC c N h0 i = arrV c N (fun j => va_rf (if j < i then some (h0 + 1 + j) else none))
  | 0 => by
    show ({ cls := c, slots := Array.replicate N .null, vm := .none } : Cell) = _
    rw [arrV_new]
    refine congrArg (arrV c N) (funext fun j => ?_)
    simp [va_rf]
  | i + 1 => by
    show (Jvm.Free.Multi.outerC c N h0 i).setSlot i (.ref (h0 + 1 + i)) = _
    rw [vr_outer c N h0 i, arrV_store]
    refine congrArg (arrV c N) (funext fun j => ?_)
    by_cases e : j = i
    · subst e
      simp [updV, va_rf]
    · by_cases h : j < i
      · simp [updV, e, h, Nat.lt_succ_of_lt h]
      · simp [updV, e, h, show ¬ j < i + 1 by omega]
section VGM
variable {p : Program} {l : Launch} {e : Env} {R : Room} {s : State} {m : MethodId} {args : Array Value} {below : List Frame} {meth : Method} {c : Code} {H : Heap} {locs : List Loc} {cells slots : Nat} {Q : State → Prop}
variable {cc : ByteArray} {pc : Nat} {ls : Array Slot} {rest : List Value} {D : va_G} {cl : List vw_C} {A : Nat → Prop} {a : Nat} {tys : List (ClassId × FieldType)} {ws : va_W} {H0 : Heap}
theorem va_mna {X : va_W} {L : List Nat} {f : Nat → va_E} {cc : ByteArray} (hexec : p.tables.exec = Jvm.exec) (hb : c.code = cc) {own : String} {index : Nat} {ty : FieldType} {cy : ClassId} (hown : s.vm.findClass own = some m.cls) (hclink : (Cond.classLink own index ("[" ++ (FieldType.array ty).toString)).before args s = true) (hover : va_AOA ty s) (harr : (Cond.arrayClass ty).before args s = true) (hcy : s.vm.findClass (FieldType.array ty).toString = some cy)
    (hK : va_K D cl tys s) (hP : va_P D cl (X ++ va_pl L f) H) (hD : va_D A (X ++ va_pl L f)) (hS : va_S A H0 H locs) (hA : ∀ q, H0.size ≤ q → A q) {n k : Int32} {N' K' : Nat} {z : vp_A} (hn : ¬ n < 0) (hk : ¬ k < 0) (hN : n.toNatClampNeg = N') (hM : k.toNatClampNeg = K')
    (hb1 : N' * 4 ≤ 536870912) (hb2 : K' * componentBytes ty ≤ 536870912) (hb3 : K' ≤ 536870912) (hdf : fits ty (defaultValue ty) = true) (hdd : (defaultValue ty).isDefault = true) (hcells : cells + (1 + N') ≤ R.cells) (hslots : slots + (N' + N' * K') ≤ R.slots) (hz : ∀ c : ClassId, Jvm.Free.Multi.innerC c K' (defaultValue ty) = vp_cell c z) (hdg : decode cc pc = .ok (.multianewarray index 2, 4))
    (kk : ∀ (q : Nat) (r : Nat → Nat) (cA : ClassId) (H1 : Heap), (∀ i j : Nat, i < N' → j < N' → r i = r j → i = j) → (∀ i : Nat, i < N' → r i ∉ L) → va_K D cl (tys ++ [(cA, .array ty)]) s →
      va_P D cl ((X ++ [(q, .inl (cA, N', .inr (.inr (.inr (.inr (fun i => if i < N' then some (r i) else none))))))]) ++ va_pl (L ++ (List.range N').map r) (vr_up f ((List.range N').map r) (.inl (cy, z)))) H1 → va_D A ((X ++ [(q, .inl (cA, N', .inr (.inr (.inr (.inr (fun i => if i < N' then some (r i) else none))))))]) ++ va_pl (L ++ (List.range N').map r) (vr_up f ((List.range N').map r) (.inl (cy, z)))) → va_S A H0 H1 locs →
      W p l e R s m args below meth c H1 locs (cells + 1 + N') (slots + N' + N' * K') Q (F0 m (pc + 4) ls (.ref q :: rest))) : W p l e R s m args below meth c H locs cells slots Q (F0 m pc ls (.int k :: .int n :: rest)) := by
  subst hN
  subst hM
  intro T hT Xs
  obtain ⟨vm₁, cA, comp, -, fA, fC, hO, -, X', step⟩ := Xs.multianewarray2F hexec hown hclink (va_AOA.use hover) harr (g := F0 m pc ls (.int k :: .int n :: rest)) rfl (by rw [hb]; exact hdg) rfl hn hk hb1 hb2 hb3 hdf hdd hcells hslots
  have ec : some cy = some comp := hcy.symm.trans fC
  cases ec
  generalize hF : Jvm.Free.Multi.fill (T.setVm vm₁) cA cy n.toNatClampNeg k.toNatClampNeg (defaultValue ty) n.toNatClampNeg = F at X' step
  have hTh : (T.setVm vm₁).heap = H := hT
  obtain ⟨f1, f2, -, -⟩ := Jvm.Free.Multi.fill_facts (T.setVm vm₁) cA cy n.toNatClampNeg k.toNatClampNeg (defaultValue ty) n.toNatClampNeg
  rw [hF, hTh] at f1 f2
  have hold : ∀ x : Nat, x < H.size → F.heap[x]? = H[x]? := fun x hx => by
    have := Jvm.Free.Multi.fill_old (T.setVm vm₁) cA cy n.toNatClampNeg k.toNatClampNeg (defaultValue ty) (a := x) (by rw [hTh]; exact hx) n.toNatClampNeg
    rw [hF, hTh] at this
    exact this
  have hrow : ∀ j : Nat, j < n.toNatClampNeg → F.heap[H.size + 1 + j]? = some (vp_cell cy z) := fun j hj => by
    have := Jvm.Free.Multi.fill_inner (T.setVm vm₁) cA cy n.toNatClampNeg k.toNatClampNeg (defaultValue ty) n.toNatClampNeg j hj
    rw [hF, hTh, hz] at this
    exact this
  have hout : Jvm.Free.Multi.outerC cA n.toNatClampNeg H.size n.toNatClampNeg = vp_cell cA (n.toNatClampNeg, .inr (.inr (.inr (.inr (fun i => if i < n.toNatClampNeg then some (H.size + 1 + i) else none))))) := by
    rw [vp_cell_q]
    exact vr_outer cA n.toNatClampNeg H.size n.toNatClampNeg
  rw [hout] at f2
  have hlt : ∀ a, a ∈ L → a < H.size := fun a ha => by
    obtain ⟨k9, hk9⟩ := va_pl_get (X := X) (f := f) ha
    exact (hP k9 _ hk9).lt
  have hnl : ∀ i : Nat, i < n.toNatClampNeg → H.size + 1 + i ∉ L := fun i _ h => by
    have := hlt _ h
    omega
  have hnm : ∀ a, a ∈ (List.range n.toNatClampNeg).map (fun i => H.size + 1 + i) → a ∉ L := fun a ha h => by
    obtain ⟨i, -, rfl⟩ := List.mem_map.mp ha
    have := hlt _ h
    omega
  have hP0 : va_P D cl (X ++ va_pl L f) F.heap := hP.kept (fun k9 x hx => hold x.1 ((hP k9 x hx).lt))
  have hP1 : va_P D cl ((X ++ va_pl L f) ++ [(H.size, .inl (cA, n.toNatClampNeg, .inr (.inr (.inr (.inr (fun i => if i < n.toNatClampNeg then some (H.size + 1 + i) else none))))))]) F.heap := hP0.app (fun k9 x hx => by
    have h0 : k9 < 1 := (List.getElem?_eq_some_iff.mp hx).1
    rw [show k9 = 0 by omega] at hx
    cases hx
    exact f2)
  have hP2 : va_P D cl (((X ++ va_pl L f) ++ [(H.size, .inl (cA, n.toNatClampNeg, .inr (.inr (.inr (.inr (fun i => if i < n.toNatClampNeg then some (H.size + 1 + i) else none))))))]) ++ ((List.range n.toNatClampNeg).map (fun i => H.size + 1 + i)).map (fun a => (a, .inl (cy, z)))) F.heap := hP1.app (fun k9 x hx => by
    obtain ⟨a, ha, rfl⟩ := List.mem_map.mp (List.mem_of_getElem? hx)
    obtain ⟨i, hi, rfl⟩ := List.mem_map.mp ha
    exact hrow i (List.mem_range.mp hi))
  have hD2 : va_D A (((X ++ va_pl L f) ++ [(H.size, .inl (cA, n.toNatClampNeg, .inr (.inr (.inr (.inr (fun i => if i < n.toNatClampNeg then some (H.size + 1 + i) else none))))))]) ++ ((List.range n.toNatClampNeg).map (fun i => H.size + 1 + i)).map (fun a => (a, .inl (cy, z)))) := by
    have hD1 := hD.push (e := .inl (cA, n.toNatClampNeg, .inr (.inr (.inr (.inr (fun i => if i < n.toNatClampNeg then some (H.size + 1 + i) else none)))))) hP rfl (hA _ hS.1)
    generalize hW1 : (X ++ va_pl L f) ++ [(H.size, .inl (cA, n.toNatClampNeg, .inr (.inr (.inr (.inr (fun i => if i < n.toNatClampNeg then some (H.size + 1 + i) else none))))))] = W1 at hD1 hP1 ⊢
    have hle : ∀ (k9 : Nat) (x : Nat × va_E), W1[k9]? = some x → x.1 ≤ H.size := fun k9 x hx => by
      rw [← hW1] at hx
      by_cases hl : k9 < (X ++ va_pl L f).length
      · rw [List.getElem?_append_left hl] at hx
        exact Nat.le_of_lt ((hP k9 x hx).lt)
      · rw [List.getElem?_append_right (by omega)] at hx
        have h0 : k9 - (X ++ va_pl L f).length < 1 := (List.getElem?_eq_some_iff.mp hx).1
        rw [show k9 - (X ++ va_pl L f).length = 0 by omega] at hx
        cases hx
        exact Nat.le_refl _
    have hr : ∀ (k9 : Nat) (x : Nat × va_E), (((List.range n.toNatClampNeg).map (fun i => H.size + 1 + i)).map (fun a => ((a, .inl (cy, z)) : Nat × va_E)))[k9]? = some x → x.1 = H.size + 1 + k9 := fun k9 x hx => by
      rw [List.getElem?_map, List.getElem?_map] at hx
      by_cases h9 : k9 < n.toNatClampNeg
      · rw [List.getElem?_range h9] at hx
        cases hx
        rfl
      · have hn0 : (List.range n.toNatClampNeg)[k9]? = none := List.getElem?_eq_none (by rw [List.length_range]; omega)
        rw [hn0] at hx
        cases hx
    refine ⟨fun i j x y hi hj hxy => ?_, fun k9 x hx => ?_⟩
    · by_cases h1 : i < W1.length <;> by_cases h2 : j < W1.length
      · rw [List.getElem?_append_left h1] at hi
        rw [List.getElem?_append_left h2] at hj
        exact hD1.1 i j x y hi hj hxy
      · rw [List.getElem?_append_left h1] at hi
        rw [List.getElem?_append_right (by omega)] at hj
        have := hle _ _ hi
        have := hr _ _ hj
        omega
      · rw [List.getElem?_append_right (by omega)] at hi
        rw [List.getElem?_append_left h2] at hj
        have := hle _ _ hj
        have := hr _ _ hi
        omega
      · rw [List.getElem?_append_right (by omega)] at hi hj
        have := hr _ _ hi
        have := hr _ _ hj
        omega
    · by_cases h1 : k9 < W1.length
      · rw [List.getElem?_append_left h1] at hx
        exact hD1.2 k9 x hx
      · rw [List.getElem?_append_right (by omega)] at hx
        have := hr _ _ hx
        exact hA _ (by have := hS.1; omega)
  have hAr : ArrOfT s cA (.array ty) := fun N9 z9 => by
    obtain ⟨-, k9, hk9, cm9, hkk9⟩ := (hO 0 0 0).1
    exact ⟨(fun q hq => by cases hq), k9, hk9, cm9, hkk9⟩
  have hK2 : va_K D cl (tys ++ [(cA, .array ty)]) s := ⟨hK.1, fun k9 x hx => by
    by_cases hl : k9 < tys.length
    · rw [List.getElem?_append_left hl] at hx
      exact hK.2 k9 x hx
    · rw [List.getElem?_append_right (by omega)] at hx
      have h0 : k9 - tys.length < 1 := (List.getElem?_eq_some_iff.mp hx).1
      rw [show k9 - tys.length = 0 by omega] at hx
      cases hx
      exact ⟨hAr, fA⟩⟩
  obtain ⟨t, a1, b1⟩ := kk H.size (fun i => H.size + 1 + i) cA F.heap (fun i j _ _ h => by have h9 : H.size + 1 + i = H.size + 1 + j := h; omega) hnl hK2 (by rw [← vr_rows hnm]; exact vr_lay hP2) (by rw [← vr_rows hnm]; exact vr_layD hD2) ⟨by rw [f1]; have := hS.1; omega, fun x h1 h2 => (hold x (Nat.lt_of_lt_of_le h1 hS.1)).trans (hS.2.1 x h1 h2), hS.2.2⟩ F rfl X'
  refine ⟨t, step t ?_, b1⟩
  have e : T.heap.size = H.size := by rw [hT]
  rw [e]
  exact a1
end VGM
/-! ===== END ===== -/

/-! ===== BEGIN exceptions that leave a method, and their catching by the caller (launches without stack traces) ===== -/
section VXA
/-! The laws vx_back, vx_callV, vx_callS, vx_callSW, vx_throw0, vx_throwS follow proofs of the library, with one case more: JvmDerived/Free/Laws.lean (Back.of_free), Shelf42/LK1.lean (callV, callS), Shelf/KitTraced.lean (throwNew0V, throwNewS). -/
/-- where a method has thrown q: the class by its name, the cell, what was written, the world -/
def vx_T (XC : String → State → State → Prop) (st : State) (q : Addr) (t : State) (mc ms : Nat) (free : Addr → Prop) : Prop :=
  ∃ (E : String) (ce : Cell) (L : List Loc), XC E st t ∧ t.heap[q]? = some ce ∧ ce.vm = .none ∧ st.vm.findClass E = some ce.cls ∧ st.WarmedH t.vm ∧ st.sameButNew ({ t with vm := st.vm } : State) L mc ms ∧ ∀ z ∈ L, free z.base
def vx_Q (Qc : Array Value → State → Outcome → State → Prop) (XC : String → State → State → Prop) (mc ms : Nat) (free : Addr → Prop) : Array Value → State → Outcome → State → Prop := fun a st o t =>
  (Qc a st o t ∧ ∃ L, FrameEnd st o t L mc ms ∧ ∀ q ∈ L, free q.base) ∨ ∃ q, o = .threw q ∧ vx_T XC st q t mc ms free
/-- a callee that returns or throws -/
def vx_Met (l : Launch) (y : MethodName) (ws : List Cond) (rm : Room) (Pc : Array Value → State → Prop) (Qc : Array Value → State → Outcome → State → Prop) (XC : String → State → State → Prop) (mc ms : Nat) (free : Addr → Prop) : Prop :=
  MetFree l y (headSpec ws rm) Pc (fun _ _ _ _ _ => True) (vx_Q Qc XC mc ms free)
def vx_Post (XC : String → State → State → Prop) (mc ms : Nat) (free : Addr → Prop) : Pt → Array Value → Addr → Pt → Prop := fun A a q B =>
  ∃ (g : JFrame) (mk : MethodId) (t : State) (L : List Loc) (E : String) (ce : Cell), B.U.heap = t.heap ∧ B.U.vm = t.vm ∧ XC E (A.U.calling g mk a) t ∧ t.heap[q]? = some ce ∧ ce.vm = .none ∧ A.U.vm.findClass E = some ce.cls ∧ B.locs = A.locs ++ L ∧ (∀ z ∈ L, free z.base) ∧ B.cells = A.cells + mc ∧ B.slots = A.slots + ms
def vx_Back (l : Launch) (R : Room) (p : Program) (e : Env) (below : List Frame) (s : State) (sargs : Array Value) (y : MethodName) (len W9 : Nat)
    (Pre : Pt → Array Value → Prop) (Post : Pt → Array Value → Option Value → Pt → Prop) (PostX : Pt → Array Value → Addr → Pt → Prop) : Prop :=
  ∀ (m : MethodId) (meth : Method) (c : Code) (A : Pt) (g : JFrame) (ig : Instr) (mk : MethodId) (a : Array Value),
    Stand p l e R s m sargs below meth c A.U A.locs A.cells A.slots → g.method = m → g.locals.size = c.maxLocals → decode c.code g.pc = .ok (ig, len) →
    2 * g.monitorRoom + (g.stack.map fun v => v.category).sum ≤ W9 → A.U.methodNamed? y = some mk → Pre A a →
    (∃ (v : Option Value) (B : Pt), Stand p l e R s m sargs below meth c B.U B.locs B.cells B.slots ∧ Post A a v B ∧
      Steps p.tables e below (doInvoke e (A.U.setTop g) [] mk a).1 (B.U.setTop { g with pc := g.pc + len, stack := v.toList ++ g.stack })) ∨
    (∃ (q : Addr) (B : Pt), Stand p l e R s m sargs below meth c B.U B.locs B.cells B.slots ∧ PostX A a q B ∧
      Steps p.tables e below (doInvoke e (A.U.setTop g) [] mk a).1 ((B.U.setTop g).pushFrame (.throwing q)))
section Payer
variable {l : Launch} {R : Room} {p : Program} {e : Env} {below : List Frame} {s : State} {sargs : Array Value} {y : MethodName} {len W9 : Nat}
theorem vx_back {ws : List Cond} {rm : Room} {Pc : Array Value → State → Prop} {Qc : Array Value → State → Outcome → State → Prop} {XC : String → State → State → Prop} {mc ms : Nat} {free : Addr → Prop} {bytes : ByteArray} {maxL : Nat} {ret : Option FieldType}
    (hM : vx_Met l y ws rm Pc Qc XC mc ms free) (hblind : FrameBlind Pc) (hrc : rm.cells = mc) (hrs : rm.slots = ms)
    (hframes : rm.frames + 1 ≤ R.frames) (hlocals : W9 + (maxL + 11) + rm.locals ≤ R.locals)
    (hws : ∀ w ∈ ws, ∀ a' U, s.WarmedH U.vm → w.before a' U = true) (hcode : Cond.code y bytes maxL ret ∈ ws) (hinit : ∀ a' U, s.WarmedH U.vm → (Cond.initialized y.cls).before a' U = true) :
    vx_Back l R p e below s sargs y len W9 (PreOf R mc ms Pc) (PostOf Qc mc ms free) (vx_Post XC mc ms free) := by
  intro m meth c A g ig mk a X hg hsize hdg hW hn hp
  have h1 : (headSpec ws rm).pre.before a A.U = true := atoms_intro fun w hw => hws w hw _ _ X.warmed
  have h2 : (Cond.code y bytes maxL ret).before a A.U = true := hws _ hcode _ _ X.warmed
  have h3 : (Cond.initialized y.cls).before a A.U = true := hinit _ _ X.warmed
  have h4 : A.cells + (headSpec ws rm).room.cells ≤ R.cells := by rw [show (headSpec ws rm).room.cells = mc from hrc]; exact hp.1
  have h5 : A.slots + (headSpec ws rm).room.slots ≤ R.slots := by rw [show (headSpec ws rm).room.slots = ms from hrs]; exact hp.2.1
  have hPc : Pc a (A.U.calling g mk a) := hblind _ _ _ _ hp.2.2
  obtain ⟨U, Ls, c0, s0⟩ := A
  dsimp only [Pt.U, Pt.locs, Pt.cells, Pt.slots] at h1 h2 h3 h4 h5 X hn hPc ⊢
  obtain ⟨methY, cY, hmY, hcY, -, hlY, -, -, -, -⟩ := Cond.code_spec hn h2
  obtain ⟨kY, hkY, -⟩ := className_of_methodNamed hn
  have hinitY : kY.init = .initialized := Cond.initialized_spec (findClass_of_methodNamed hn) hkY h3
  have h : At U g.method c below := by rw [hg]; exact X.here
  have hlocals9 : W9 + (maxL + 11) + (headSpec ws rm).room.locals ≤ R.locals := hlocals
  have happ : (headSpec ws rm).appliesLoose y e.platform (U.calling g mk a) = true :=
    Spec.appliesLoose_calling (g := g) h hdg hn hkY hinitY
      (X.room_calling (g := g) (R' := (headSpec ws rm).room) hsize hmY hcY hframes (by rw [hlY]; omega) h4 h5) h1
  obtain ⟨mid, hmid⟩ := h.above
  have hfr : (U.setTop g).frames = (.java g :: mid) ++ below := by rw [State.frames_setTop' g h.top, hmid]; rfl
  obtain ⟨o, s₂, hsteps, -, hend, hq⟩ := Steps.callFree hM p X.admits X.cas X.clock (acts := []) hfr happ hPc trivial
  have hq' : vx_Q Qc XC mc ms free a (U.calling g mk a) o s₂ := hq
  rw [State.frames_setTop' g h.top] at hend
  obtain ⟨g₀, hg0⟩ := Option.isSome_iff_exists.mp h.top
  obtain ⟨r, hr⟩ := State.topJava?_eq_some.mp hg0
  have hr' : (({ U with heap := s₂.heap, slotsUsed := s₂.slotsUsed } : State).setVm s₂.vm).frames = .java g₀ :: r := hr
  rcases hq' with ⟨hqc, L, hfe, hL⟩ | ⟨q, rfl, E, ce, L, hx, hce, hcv, hcl, hW₂, hsm, hL⟩
  · obtain ⟨⟨v, rfl⟩, hW₂, e2, q2, q3, q4, q5, q6⟩ := id hfe
    have e3 : s₂ = ({ (U.calling g mk a).setFrames s₂.frames with heap := s₂.heap, slotsUsed := s₂.slotsUsed } : State).setVm s₂.vm := by
      have : s₂ = ({ s₂ with vm := (U.calling g mk a).vm } : State).setVm s₂.vm := rfl
      rw [e2] at this
      exact this
    obtain ⟨c₂, i₂, len₂, hc₂, hd₂, hf₂⟩ := hend
    have hW' : U.WarmedH s₂.vm := hW₂
    have hcc : c₂ = c := by
      have h1 : s₂.code? g.method = U.code? g.method := by
        rw [State.code?_eq, State.code?_eq, hW'.alike.method?]
      exact Option.some.inj (hc₂.symm.trans (h1.trans h.code))
    subst hcc
    have hlen : len₂ = len := by rw [hdg] at hd₂; cases hd₂; rfl
    subst hlen
    have hs₂ : s₂ = (({ U with heap := s₂.heap, slotsUsed := s₂.slotsUsed } : State).setVm s₂.vm).setTop { g with pc := g.pc + len₂, stack := v.toList ++ g.stack } := by
      refine e3.trans ?_
      rw [hf₂, State.calling_eq h.top, State.setFrames_setFrames, State.setTop_of_frames _ hr', hr]
      rfl
    have hsame : U.sameButNew ({ U with heap := s₂.heap, slotsUsed := s₂.slotsUsed } : State) L mc ms := by
      refine ⟨?_, q2, q3, q4, q5, q6⟩
      obtain ⟨t, ht, -⟩ := State.frames_cons hr
      show ({ U with heap := s₂.heap, slotsUsed := s₂.slotsUsed } : State) = { U.setFrames U.frames with heap := s₂.heap, slotsUsed := s₂.slotsUsed }
      rw [State.setFrames_self ht]
    subst hg
    refine Or.inl ⟨v, ⟨(({ U with heap := s₂.heap, slotsUsed := s₂.slotsUsed } : State).setVm s₂.vm), Ls ++ L, c0 + mc, s0 + ms⟩,
      ⟨X.admits, X.cas, X.clock, X.frames, X.room, X.hears, X.method, X.code, (X.here.setHeapUsed s₂.heap s₂.slotsUsed).setVm hW'.alike, X.tail, State.WarmedH.trans X.warmed hW', X.limits, X.bytes, X.same.trans (hsame.setVm s.vm)⟩,
      ⟨g, mk, s₂, L, rfl, rfl, hqc, rfl, hL, rfl, rfl⟩, ?_⟩
    show Steps p.tables e below _ ((({ U with heap := s₂.heap, slotsUsed := s₂.slotsUsed } : State).setVm s₂.vm).setTop { g with pc := g.pc + len₂, stack := v.toList ++ g.stack })
    rw [← hs₂]
    exact hsteps
  · obtain ⟨e2, q2, q3, q4, q5, q6⟩ := id hsm
    have e3 : s₂ = ({ (U.calling g mk a).setFrames s₂.frames with heap := s₂.heap, slotsUsed := s₂.slotsUsed } : State).setVm s₂.vm := by
      have : s₂ = ({ s₂ with vm := (U.calling g mk a).vm } : State).setVm s₂.vm := rfl
      rw [e2] at this
      exact this
    have hf₂ : s₂.frames = .throwing q :: .java g :: U.frames.tail := hend
    have hW' : U.WarmedH s₂.vm := hW₂
    have hs₂ : s₂ = ((({ U with heap := s₂.heap, slotsUsed := s₂.slotsUsed } : State).setVm s₂.vm).setTop g).pushFrame (.throwing q) := by
      refine e3.trans ?_
      rw [hf₂, State.calling_eq h.top, State.setFrames_setFrames, State.pushFrame, State.frames_setTop _ hr', State.setTop_of_frames _ hr', State.setFrames_setFrames, hr]
      rfl
    have hsame : U.sameButNew ({ U with heap := s₂.heap, slotsUsed := s₂.slotsUsed } : State) L mc ms := by
      refine ⟨?_, q2, q3, q4, q5, q6⟩
      obtain ⟨t, ht, -⟩ := State.frames_cons hr
      show ({ U with heap := s₂.heap, slotsUsed := s₂.slotsUsed } : State) = { U.setFrames U.frames with heap := s₂.heap, slotsUsed := s₂.slotsUsed }
      rw [State.setFrames_self ht]
    subst hg
    refine Or.inr ⟨q, ⟨(({ U with heap := s₂.heap, slotsUsed := s₂.slotsUsed } : State).setVm s₂.vm), Ls ++ L, c0 + mc, s0 + ms⟩,
      ⟨X.admits, X.cas, X.clock, X.frames, X.room, X.hears, X.method, X.code, (X.here.setHeapUsed s₂.heap s₂.slotsUsed).setVm hW'.alike, X.tail, State.WarmedH.trans X.warmed hW', X.limits, X.bytes, X.same.trans (hsame.setVm s.vm)⟩,
      ⟨g, mk, s₂, L, E, ce, rfl, rfl, hx, hce, hcv, hcl, rfl, hL, rfl, rfl⟩, ?_⟩
    show Steps p.tables e below _ (((({ U with heap := s₂.heap, slotsUsed := s₂.slotsUsed } : State).setVm s₂.vm).setTop g).pushFrame (.throwing q))
    rw [← hs₂]
    exact hsteps
end Payer
section Calls
variable {p : Program} {l : Launch} {e : Env} {R : Room} {s : State} {m : MethodId} {args : Array Value} {below : List Frame} {meth : Method} {c : Code} {T : State} {locs : List Loc} {cells slots : Nat}
theorem vx_callV (X : Stand p l e R s m args below meth c T locs cells slots) (hexec : p.tables.exec = Jvm.exec) {own C : String} {index : Nat} {y : MethodName} {bytes : ByteArray} {maxL : Nat} {ret : Option FieldType}
    (hown : s.vm.findClass own = some m.cls) (hlink : (Cond.methodLink own index y).before args s = true) (hinst : (Cond.instanceMethod y).before args s = true) (hsel : (Cond.selects C y y).before args s = true)
    (hcode : (Cond.code y bytes maxL ret).before args s = true) (hy : y.cls ≠ "java/lang/invoke/MethodHandle" ∧ y.cls ≠ "java/lang/invoke/VarHandle")
    {W9 : Nat} {Pre : Pt → Array Value → Prop} {Post : Pt → Array Value → Option Value → Pt → Prop} {PostX : Pt → Array Value → Addr → Pt → Prop} (hK : vx_Back l R p e below s args y 3 W9 Pre Post PostX)
    {b : Addr} {cellB : Cell} (hcell : T.heap[b]? = some cellB) (hobj : cellB.vm.isStatics = false) (hcls : s.vm.findClass C = some cellB.cls)
    {g : JFrame} (hg : g.method = m) (hsize : g.locals.size = c.maxLocals) {argsL rest : List Value} (hlen : ∀ sig, parseMethodDescriptor y.desc = some sig → argsL.length = sig.parameters.length)
    (hstack : g.stack = argsL.reverse ++ .ref b :: rest) (hW : 2 * g.monitorRoom + (rest.map fun v => v.category).sum ≤ W9) (hdg : decode c.code g.pc = .ok (.invokevirtual index, 3))
    (hpre : ∀ vm₁, s.WarmedH vm₁ → Pre ⟨T.setVm vm₁, locs, cells, slots⟩ (Value.ref b :: argsL).toArray) :
    (∃ (v : Option Value) (vm₁ : Vm) (B : Pt), s.WarmedH vm₁ ∧ Stand p l e R s m args below meth c B.U B.locs B.cells B.slots ∧ Post ⟨T.setVm vm₁, locs, cells, slots⟩ (Value.ref b :: argsL).toArray v B ∧
      ∀ target, Steps p.tables e below (B.U.setTop { g with pc := g.pc + 3, stack := v.toList ++ rest }) target → Steps p.tables e below (T.setTop g) target) ∨
    (∃ (q : Addr) (vm₁ : Vm) (B : Pt), s.WarmedH vm₁ ∧ Stand p l e R s m args below meth c B.U B.locs B.cells B.slots ∧ PostX ⟨T.setVm vm₁, locs, cells, slots⟩ (Value.ref b :: argsL).toArray q B ∧
      Steps p.tables e below (T.setTop g) ((B.U.setTop { g with stack := rest }).pushFrame (.throwing q))) := by
  obtain ⟨mk, methM, hnamed, hmethM, hstM, habM⟩ := Cond.instanceMethod_spec hinst
  obtain ⟨methM', cM, hmethM', -, -, -, -, -, -, hsigM⟩ := Cond.code_spec hnamed hcode
  cases hmethM.symm.trans hmethM'
  obtain ⟨c2, r2, m2, q1, q2, q3, q4, kP, hkP, hkPi⟩ := Cond.selects_spec hsel
  cases hcls.symm.trans q1
  cases (State.methodFound?_of_named hnamed hy).symm.trans q2
  cases hnamed.symm.trans q3
  have hselP : selectMethod e.platform s.vm cellB.cls mk = .method mk := by rw [Launch.admits_selectMethod X.admits]; exact q4
  obtain ⟨vm₁, X₁, hstep₁⟩ := X.invokevirtual hexec hown hlink hnamed hmethM hstM hkP hkPi hy (a := b) (cell := cellB) hcell
    (fun z h => by rw [h] at hobj; cases hobj) hselP hmethM habM hkP hkPi (g := g) hg (argsL := argsL) (rest := rest) (hlen _ hsigM) hstack hdg
  rcases hK m meth c ⟨T.setVm vm₁, locs, cells, slots⟩ { g with stack := rest } (.invokevirtual index) mk (Value.ref b :: argsL).toArray X₁ hg hsize hdg hW (X₁.named hnamed) (hpre vm₁ X₁.warmed) with ⟨v, B, X', hpost, hsteps⟩ | ⟨q, B, X', hpost, hsteps⟩
  · exact Or.inl ⟨v, vm₁, B, X₁.warmed, X', hpost, fun target h => hstep₁ _ fun acts => by rw [doInvoke_state]; exact hsteps.trans h⟩
  · exact Or.inr ⟨q, vm₁, B, X₁.warmed, X', hpost, hstep₁ _ fun acts => by rw [doInvoke_state]; exact hsteps⟩
theorem vx_callS (X : Stand p l e R s m args below meth c T locs cells slots) (hexec : p.tables.exec = Jvm.exec) {own : String} {index : Nat} {y : MethodName} {bytes : ByteArray} {maxL : Nat} {ret : Option FieldType}
    (hown : s.vm.findClass own = some m.cls) (hlink : (Cond.methodLink own index y).before args s = true) (hstat : (Cond.static y).before args s = true) (hinit : (Cond.initialized y.cls).before args s = true)
    (hcode : (Cond.code y bytes maxL ret).before args s = true) (hy : y.cls ≠ "java/lang/invoke/MethodHandle" ∧ y.cls ≠ "java/lang/invoke/VarHandle")
    {W9 : Nat} {Pre : Pt → Array Value → Prop} {Post : Pt → Array Value → Option Value → Pt → Prop} {PostX : Pt → Array Value → Addr → Pt → Prop} (hK : vx_Back l R p e below s args y 3 W9 Pre Post PostX)
    {g : JFrame} (hg : g.method = m) (hsize : g.locals.size = c.maxLocals) {argsL rest : List Value} (hlen : ∀ sig, parseMethodDescriptor y.desc = some sig → argsL.length = sig.parameters.length)
    (hstack : g.stack = argsL.reverse ++ rest) (hW : 2 * g.monitorRoom + (rest.map fun v => v.category).sum ≤ W9) (hdg : decode c.code g.pc = .ok (.invokestatic index, 3))
    (hpre : ∀ vm₁, s.WarmedH vm₁ → Pre ⟨T.setVm vm₁, locs, cells, slots⟩ argsL.toArray) :
    (∃ (v : Option Value) (vm₁ : Vm) (B : Pt), s.WarmedH vm₁ ∧ Stand p l e R s m args below meth c B.U B.locs B.cells B.slots ∧ Post ⟨T.setVm vm₁, locs, cells, slots⟩ argsL.toArray v B ∧
      ∀ target, Steps p.tables e below (B.U.setTop { g with pc := g.pc + 3, stack := v.toList ++ rest }) target → Steps p.tables e below (T.setTop g) target) ∨
    (∃ (q : Addr) (vm₁ : Vm) (B : Pt), s.WarmedH vm₁ ∧ Stand p l e R s m args below meth c B.U B.locs B.cells B.slots ∧ PostX ⟨T.setVm vm₁, locs, cells, slots⟩ argsL.toArray q B ∧
      Steps p.tables e below (T.setTop g) ((B.U.setTop { g with stack := rest }).pushFrame (.throwing q))) := by
  obtain ⟨mk, hnamed⟩ := Cond.code_named hcode
  obtain ⟨methM, cM, hmethM, -, -, -, -, -, -, hsigM⟩ := Cond.code_spec hnamed hcode
  have hstatic : methM.isStatic = true := Cond.static_spec hnamed hmethM hstat
  obtain ⟨kP, hkP, -⟩ := className_of_methodNamed hnamed
  have hinitP : kP.init = .initialized := Cond.initialized_spec (findClass_of_methodNamed hnamed) hkP hinit
  obtain ⟨vm₁, X₁, hstep₁⟩ := X.invokestatic hexec hown hlink hnamed hmethM hstatic hkP hinitP hy (g := g) hg (argsL := argsL) (rest := rest) (hlen _ hsigM) hstack hdg
  rcases hK m meth c ⟨T.setVm vm₁, locs, cells, slots⟩ { g with stack := rest } (.invokestatic index) mk argsL.toArray X₁ hg hsize hdg hW (X₁.named hnamed) (hpre vm₁ X₁.warmed) with ⟨v, B, X', hpost, hsteps⟩ | ⟨q, B, X', hpost, hsteps⟩
  · exact Or.inl ⟨v, vm₁, B, X₁.warmed, X', hpost, fun target h => hstep₁ _ fun acts => by rw [doInvoke_state]; exact hsteps.trans h⟩
  · exact Or.inr ⟨q, vm₁, B, X₁.warmed, X', hpost, hstep₁ _ fun acts => by rw [doInvoke_state]; exact hsteps⟩
end Calls
theorem vx_cls {s : State} {T : State} {vm₁ : Vm} {E : String} {k : ClassId} (hW : s.WarmedH vm₁) (h : (T.setVm vm₁).vm.findClass E = some k) : s.vm.findClass E = some k := by
  have h1 : vm₁.findClass E = some k := h
  rw [hW.alike.findClass] at h1
  exact h1
/-- the method's frame g, with q thrown over it -/
def vx_W (p : Program) (l : Launch) (e : Env) (R : Room) (s : State) (m : MethodId) (args : Array Value) (below : List Frame) (meth : Method) (c : Code) (H : Heap) (locs : List Loc) (cells slots : Nat) (Q : State → Prop) (g : JFrame) (q : Addr) : Prop :=
  ∀ T : State, T.heap = H → Stand p l e R s m args below meth c T locs cells slots → ∃ t, Steps p.tables e below ((T.setTop g).pushFrame (.throwing q)) t ∧ Q t
def vx_Run (p : Program) (l : Launch) (e : Env) (R : Room) (s : State) (m : MethodId) (args : Array Value) (below : List Frame) (meth : Method) (c : Code) (H : Heap) (locs : List Loc) (cells slots mc ms : Nat) (g : JFrame) (rest : List Value) (Qa : State → Outcome → State → Prop) (XC : String → State → State → Prop) (free : Addr → Prop) : Prop :=
  ∀ T : State, T.heap = H → Stand p l e R s m args below meth c T locs cells slots →
    (∃ (v : Option Value) (st₀ t T' : State) (L : List Loc), st₀.heap = H ∧ Stand p l e R s m args below meth c T' (locs ++ L) (cells + mc) (slots + ms) ∧ (∀ q ∈ L, free q.base) ∧ T'.heap = t.heap ∧ T'.vm = t.vm ∧ Qa st₀ (.returned v) t ∧
      Goes p e below T g T' { g with pc := g.pc + 3, stack := v.toList ++ rest }) ∨
    (∃ (q : Addr) (st₀ t T' : State) (L : List Loc) (E : String) (ce : Cell), st₀.heap = H ∧ Stand p l e R s m args below meth c T' (locs ++ L) (cells + mc) (slots + ms) ∧ (∀ z ∈ L, free z.base) ∧ T'.heap = t.heap ∧ T'.vm = t.vm ∧ XC E st₀ t ∧ t.heap[q]? = some ce ∧ ce.vm = .none ∧ s.vm.findClass E = some ce.cls ∧
      Steps p.tables e below (T.setTop g) ((T'.setTop { g with stack := rest }).pushFrame (.throwing q)))
def vx_X {S : Type} (px : S → Prop) (B : String → S → State → Prop) (A : Nat → Prop) : String → State → State → Prop := fun E st t => ∃ u : S, px u ∧ B E u t ∧ va_F A st t
section Runs
variable {p : Program} {l : Launch} {e : Env} {R : Room} {s : State} {m : MethodId} {args : Array Value} {below : List Frame} {meth : Method} {c : Code} {H : Heap} {locs : List Loc} {cells slots : Nat}
variable {y : MethodName} {bytes cc : ByteArray} {maxL nL mc ms n index : Nat} {ret : Option FieldType} {ws : List Cond} {rm : Room} {Pc : Array Value → State → Prop} {Qc : Array Value → State → Outcome → State → Prop} {XC : String → State → State → Prop} {free : Addr → Prop} {Ts : List Cond} {own C : String} {b : Addr} {As rest : List Value} {g : JFrame}
theorem vx_callBack (cb : CallB R s args own index y bytes maxL ret ws rm mc ms n) (hM : vx_Met l y ws rm Pc Qc XC mc ms free) (hbl : FrameBlind Pc) : vx_Back l R p e below s args y 3 8 (PreOf R mc ms Pc) (PostOf Qc mc ms free) (vx_Post XC mc ms free) := by
  obtain ⟨hrc, hrs, hfr, hlo, hws, hcw, -, hini, -⟩ := cb
  exact vx_back (bytes := bytes) (maxL := maxL) (ret := ret) hM hbl hrc hrs hfr hlo hws hcw (fun a' U hW => word_at hW (Or.inl (by first | rfl | simp [Cond.onTables, Cond.keeps, Cond.steady])) hini)
theorem vx_runV (S : CallFix p m c cc nL s args Ts own) (hM : vx_Met l y ws rm Pc Qc XC mc ms free) (cw : CallW R s args own C index y bytes maxL ret ws rm mc ms n) (hp : PreV s H C b Pc As)
    (hg : g.method = m) (hn : As.length = n) (hsize : g.locals.size = nL) (hstack : g.stack = As.reverse ++ .ref b :: rest) (hW : 2 * g.monitorRoom + (rest.map fun v => v.category).sum ≤ 8) (hdg : decode cc g.pc = .ok (.invokevirtual index, 3)) (hf : cells + mc ≤ R.cells ∧ slots + ms ≤ R.slots) :
    vx_Run p l e R s m args below meth c H locs cells slots mc ms g rest (Qc (Value.ref b :: As).toArray) XC free := by
  have hK : vx_Back l R p e below s args y 3 8 (PreOf R mc ms Pc) (PostOf Qc mc ms free) (vx_Post XC mc ms free) := vx_callBack cw.1 hM hp.1
  obtain ⟨⟨-, -, -, -, -, -, hcode, -, hy, hlen, hl⟩, hin, hse⟩ := cw
  obtain ⟨hx, hb, hml, ho, -⟩ := S
  obtain ⟨-, ⟨cellB, hcB, hoB, hclB⟩, hPc⟩ := hp
  intro T hT X
  rcases vx_callV X hx (C := C) (bytes := bytes) (maxL := maxL) (ret := ret) ho hl hin hse hcode hy hK (by rw [hT]; exact hcB) hoB hclB hg (hsize.trans hml.symm) (argsL := As) (rest := rest) (fun sig h => hn.trans (hlen sig h)) hstack hW (by rw [hb]; exact hdg)
    (fun vm₁ hW₁ => ⟨hf.1, hf.2, hPc (T.setVm vm₁) hT hW₁⟩) with ⟨v, vm₁, ⟨U', l2, c2, s2⟩, hW₁, X', ⟨g', mk, t, L, e1, e2, hq, h1, hL, h2, h3⟩, st⟩ | ⟨q, vm₁, ⟨U', l2, c2, s2⟩, hW₁, X', ⟨g', mk, t, L, E, ce, e1, e2, hq, hce, hcv, hcl, h1, hL, h2, h3⟩, st⟩
  · dsimp only [Pt.U, Pt.locs, Pt.cells, Pt.slots] at X' e1 e2 h1 h2 h3 st
    subst h1; subst h2; subst h3
    exact Or.inl ⟨v, (T.setVm vm₁).calling g' mk (Value.ref b :: As).toArray, t, U', L, hT, X', hL, e1, e2, hq, st⟩
  · dsimp only [Pt.U, Pt.locs, Pt.cells, Pt.slots] at X' e1 e2 h1 h2 h3 st hcl
    subst h1; subst h2; subst h3
    exact Or.inr ⟨q, (T.setVm vm₁).calling g' mk (Value.ref b :: As).toArray, t, U', L, E, ce, hT, X', hL, e1, e2, hq, hce, hcv, vx_cls hW₁ hcl, st⟩
theorem vx_runS (S : CallFix p m c cc nL s args Ts own) (hM : vx_Met l y ws rm Pc Qc XC mc ms free) (cw : CallB R s args own index y bytes maxL ret ws rm mc ms n ∧ (Cond.static y).before args s = true) (hp : PreS s H Pc As)
    (hg : g.method = m) (hn : As.length = n) (hsize : g.locals.size = nL) (hstack : g.stack = As.reverse ++ rest) (hW : 2 * g.monitorRoom + (rest.map fun v => v.category).sum ≤ 8) (hdg : decode cc g.pc = .ok (.invokestatic index, 3)) (hf : cells + mc ≤ R.cells ∧ slots + ms ≤ R.slots) :
    vx_Run p l e R s m args below meth c H locs cells slots mc ms g rest (Qc As.toArray) XC free := by
  have hK : vx_Back l R p e below s args y 3 8 (PreOf R mc ms Pc) (PostOf Qc mc ms free) (vx_Post XC mc ms free) := vx_callBack cw.1 hM hp.1
  obtain ⟨⟨-, -, -, -, -, -, hcode, hini, hy, hlen, hl⟩, hstt⟩ := cw
  obtain ⟨hx, hb, hml, ho, -⟩ := S
  intro T hT X
  rcases vx_callS X hx (bytes := bytes) (maxL := maxL) (ret := ret) ho hl hstt hini hcode hy hK hg (hsize.trans hml.symm) (argsL := As) (rest := rest) (fun sig h => hn.trans (hlen sig h)) hstack hW (by rw [hb]; exact hdg)
    (fun vm₁ hW₁ => ⟨hf.1, hf.2, hp.2 (T.setVm vm₁) hT hW₁⟩) with ⟨v, vm₁, ⟨U', l2, c2, s2⟩, hW₁, X', ⟨g', mk, t, L, e1, e2, hq, h1, hL, h2, h3⟩, st⟩ | ⟨q, vm₁, ⟨U', l2, c2, s2⟩, hW₁, X', ⟨g', mk, t, L, E, ce, e1, e2, hq, hce, hcv, hcl, h1, hL, h2, h3⟩, st⟩
  · dsimp only [Pt.U, Pt.locs, Pt.cells, Pt.slots] at X' e1 e2 h1 h2 h3 st
    subst h1; subst h2; subst h3
    exact Or.inl ⟨v, (T.setVm vm₁).calling g' mk As.toArray, t, U', L, hT, X', hL, e1, e2, hq, st⟩
  · dsimp only [Pt.U, Pt.locs, Pt.cells, Pt.slots] at X' e1 e2 h1 h2 h3 st hcl
    subst h1; subst h2; subst h3
    exact Or.inr ⟨q, (T.setVm vm₁).calling g' mk As.toArray, t, U', L, E, ce, hT, X', hL, e1, e2, hq, hce, hcv, vx_cls hW₁ hcl, st⟩
end Runs
section Rows
variable {p : Program} {l : Launch} {e : Env} {R : Room} {s : State} {m : MethodId} {args : Array Value} {below : List Frame} {meth : Method} {c : Code} {H : Heap} {locs : List Loc} {cells slots : Nat} {Q : State → Prop}
variable {mc ms : Nat} {free : Addr → Prop} {A0 A1 : Nat → Prop} {H0 : Heap} {a : Array Value} {pc : Nat} {ls : Array Slot} {st0 rest : List Value}
theorem vx_keep {st₀ t T' : State} {L : List Loc} (h0 : st₀.heap = H) (e1 : T'.heap = t.heap) (hS : va_S A0 H0 H locs) (hA : ∀ q, q < H.size → A1 q → A0 q) (hf : ∀ q, free q → A0 q) (hL : ∀ q ∈ L, free q.base) (hF : va_F A1 st₀ t) :
    H.size ≤ T'.heap.size ∧ (∀ q : Nat, q < H.size → ¬ A1 q → T'.heap[q]? = H[q]?) ∧ va_S A0 H0 T'.heap (locs ++ L) := by
  obtain ⟨hz, hk⟩ := hF
  rw [h0] at hz hk
  exact ⟨by rw [e1]; exact hz, fun q h1 h2 => by rw [e1]; exact hk q h1 h2,
    ⟨Nat.le_trans hS.1 (by rw [e1]; exact hz), fun q h1 h2 => by rw [e1, hk q (Nat.lt_of_lt_of_le h1 hS.1) (fun z => h2 (hA q (Nat.lt_of_lt_of_le h1 hS.1) z))]; exact hS.2.1 q h1 h2, fun q hq => by
      rcases List.mem_append.mp hq with h | h
      · exact hS.2.2 q h
      · exact hf _ (hL q h)⟩⟩
theorem vx_calli {S SX : Type} {post : Int32 → S → Prop} {px : SX → Prop} {B : S → State → Prop} {BX : String → SX → State → Prop} {AX : Nat → Prop} (hr : vx_Run p l e R s m args below meth c H locs cells slots mc ms (F0 m pc ls st0) rest (va_Qi post B A1 a) (vx_X px BX AX) free) (hS : va_S A0 H0 H locs) (hA : ∀ q, q < H.size → A1 q → A0 q) (hf : ∀ q, free q → A0 q) (hAX : ∀ q, q < H.size → AX q → A0 q)
    (kx : ∀ (E : String) (ce : Cell) (q9 : Addr) (u : SX) (t : State) (H1 : Heap) (locs1 : List Loc), t.heap = H1 → s.vm.Alike t.vm → px u → BX E u t → H.size ≤ H1.size → (∀ q : Nat, q < H.size → ¬ AX q → H1[q]? = H[q]?) → va_S A0 H0 H1 locs1 → H1[q9]? = some ce → ce.vm = .none → s.vm.findClass E = some ce.cls → vx_W p l e R s m args below meth c H1 locs1 (cells + mc) (slots + ms) Q (F0 m pc ls rest) q9)
    (kk : ∀ (r : Int32) (u : S) (t : State) (H1 : Heap) (locs1 : List Loc), t.heap = H1 → s.vm.Alike t.vm → post r u → B u t → H.size ≤ H1.size → (∀ q : Nat, q < H.size → ¬ A1 q → H1[q]? = H[q]?) → va_S A0 H0 H1 locs1 → W p l e R s m args below meth c H1 locs1 (cells + mc) (slots + ms) Q (F0 m (pc + 3) ls (.int r :: rest))) : W p l e R s m args below meth c H locs cells slots Q (F0 m pc ls st0) := by
  intro T hT X
  rcases hr T hT X with ⟨v, st₀, t, T', L, h0, X', hL, e1, e2, ⟨⟨r, u, hv, hp, hb⟩, hF⟩, st⟩ | ⟨q, st₀, t, T', L, E, ce, h0, X', hL, e1, e2, ⟨u, hp, hb, hF⟩, hce, hcv, hcl, st⟩
  · cases hv
    obtain ⟨k1, k2, k3⟩ := vx_keep h0 e1 hS hA hf hL hF
    obtain ⟨t2, a1, b1⟩ := kk r u t T'.heap (locs ++ L) e1.symm (by rw [← e2]; exact X'.warmed.alike) hp hb k1 k2 k3 T' rfl X'
    exact ⟨t2, st t2 a1, b1⟩
  · obtain ⟨k1, k2, k3⟩ := vx_keep h0 e1 hS hAX hf hL hF
    obtain ⟨t2, a1, b1⟩ := kx E ce q u t T'.heap (locs ++ L) e1.symm (by rw [← e2]; exact X'.warmed.alike) hp hb k1 k2 k3 (by rw [e1]; exact hce) hcv hcl T' rfl X'
    exact ⟨t2, st.trans a1, b1⟩
theorem vx_calll {S SX : Type} {post : Int64 → S → Prop} {px : SX → Prop} {B : S → State → Prop} {BX : String → SX → State → Prop} {AX : Nat → Prop} (hr : vx_Run p l e R s m args below meth c H locs cells slots mc ms (F0 m pc ls st0) rest (va_Ql post B A1 a) (vx_X px BX AX) free) (hS : va_S A0 H0 H locs) (hA : ∀ q, q < H.size → A1 q → A0 q) (hf : ∀ q, free q → A0 q) (hAX : ∀ q, q < H.size → AX q → A0 q)
    (kx : ∀ (E : String) (ce : Cell) (q9 : Addr) (u : SX) (t : State) (H1 : Heap) (locs1 : List Loc), t.heap = H1 → s.vm.Alike t.vm → px u → BX E u t → H.size ≤ H1.size → (∀ q : Nat, q < H.size → ¬ AX q → H1[q]? = H[q]?) → va_S A0 H0 H1 locs1 → H1[q9]? = some ce → ce.vm = .none → s.vm.findClass E = some ce.cls → vx_W p l e R s m args below meth c H1 locs1 (cells + mc) (slots + ms) Q (F0 m pc ls rest) q9)
    (kk : ∀ (r : Int64) (u : S) (t : State) (H1 : Heap) (locs1 : List Loc), t.heap = H1 → s.vm.Alike t.vm → post r u → B u t → H.size ≤ H1.size → (∀ q : Nat, q < H.size → ¬ A1 q → H1[q]? = H[q]?) → va_S A0 H0 H1 locs1 → W p l e R s m args below meth c H1 locs1 (cells + mc) (slots + ms) Q (F0 m (pc + 3) ls (.long r :: rest))) : W p l e R s m args below meth c H locs cells slots Q (F0 m pc ls st0) := by
  intro T hT X
  rcases hr T hT X with ⟨v, st₀, t, T', L, h0, X', hL, e1, e2, ⟨⟨r, u, hv, hp, hb⟩, hF⟩, st⟩ | ⟨q, st₀, t, T', L, E, ce, h0, X', hL, e1, e2, ⟨u, hp, hb, hF⟩, hce, hcv, hcl, st⟩
  · cases hv
    obtain ⟨k1, k2, k3⟩ := vx_keep h0 e1 hS hA hf hL hF
    obtain ⟨t2, a1, b1⟩ := kk r u t T'.heap (locs ++ L) e1.symm (by rw [← e2]; exact X'.warmed.alike) hp hb k1 k2 k3 T' rfl X'
    exact ⟨t2, st t2 a1, b1⟩
  · obtain ⟨k1, k2, k3⟩ := vx_keep h0 e1 hS hAX hf hL hF
    obtain ⟨t2, a1, b1⟩ := kx E ce q u t T'.heap (locs ++ L) e1.symm (by rw [← e2]; exact X'.warmed.alike) hp hb k1 k2 k3 (by rw [e1]; exact hce) hcv hcl T' rfl X'
    exact ⟨t2, st.trans a1, b1⟩
theorem vx_callf {S SX : Type} {post : UInt32 → S → Prop} {px : SX → Prop} {B : S → State → Prop} {BX : String → SX → State → Prop} {AX : Nat → Prop} (hr : vx_Run p l e R s m args below meth c H locs cells slots mc ms (F0 m pc ls st0) rest (va_Qf post B A1 a) (vx_X px BX AX) free) (hS : va_S A0 H0 H locs) (hA : ∀ q, q < H.size → A1 q → A0 q) (hf : ∀ q, free q → A0 q) (hAX : ∀ q, q < H.size → AX q → A0 q)
    (kx : ∀ (E : String) (ce : Cell) (q9 : Addr) (u : SX) (t : State) (H1 : Heap) (locs1 : List Loc), t.heap = H1 → s.vm.Alike t.vm → px u → BX E u t → H.size ≤ H1.size → (∀ q : Nat, q < H.size → ¬ AX q → H1[q]? = H[q]?) → va_S A0 H0 H1 locs1 → H1[q9]? = some ce → ce.vm = .none → s.vm.findClass E = some ce.cls → vx_W p l e R s m args below meth c H1 locs1 (cells + mc) (slots + ms) Q (F0 m pc ls rest) q9)
    (kk : ∀ (r : UInt32) (u : S) (t : State) (H1 : Heap) (locs1 : List Loc), t.heap = H1 → s.vm.Alike t.vm → post r u → B u t → H.size ≤ H1.size → (∀ q : Nat, q < H.size → ¬ A1 q → H1[q]? = H[q]?) → va_S A0 H0 H1 locs1 → W p l e R s m args below meth c H1 locs1 (cells + mc) (slots + ms) Q (F0 m (pc + 3) ls (.float r :: rest))) : W p l e R s m args below meth c H locs cells slots Q (F0 m pc ls st0) := by
  intro T hT X
  rcases hr T hT X with ⟨v, st₀, t, T', L, h0, X', hL, e1, e2, ⟨⟨r, u, hv, hp, hb⟩, hF⟩, st⟩ | ⟨q, st₀, t, T', L, E, ce, h0, X', hL, e1, e2, ⟨u, hp, hb, hF⟩, hce, hcv, hcl, st⟩
  · cases hv
    obtain ⟨k1, k2, k3⟩ := vx_keep h0 e1 hS hA hf hL hF
    obtain ⟨t2, a1, b1⟩ := kk r u t T'.heap (locs ++ L) e1.symm (by rw [← e2]; exact X'.warmed.alike) hp hb k1 k2 k3 T' rfl X'
    exact ⟨t2, st t2 a1, b1⟩
  · obtain ⟨k1, k2, k3⟩ := vx_keep h0 e1 hS hAX hf hL hF
    obtain ⟨t2, a1, b1⟩ := kx E ce q u t T'.heap (locs ++ L) e1.symm (by rw [← e2]; exact X'.warmed.alike) hp hb k1 k2 k3 (by rw [e1]; exact hce) hcv hcl T' rfl X'
    exact ⟨t2, st.trans a1, b1⟩
theorem vx_calld {S SX : Type} {post : UInt64 → S → Prop} {px : SX → Prop} {B : S → State → Prop} {BX : String → SX → State → Prop} {AX : Nat → Prop} (hr : vx_Run p l e R s m args below meth c H locs cells slots mc ms (F0 m pc ls st0) rest (va_Qd post B A1 a) (vx_X px BX AX) free) (hS : va_S A0 H0 H locs) (hA : ∀ q, q < H.size → A1 q → A0 q) (hf : ∀ q, free q → A0 q) (hAX : ∀ q, q < H.size → AX q → A0 q)
    (kx : ∀ (E : String) (ce : Cell) (q9 : Addr) (u : SX) (t : State) (H1 : Heap) (locs1 : List Loc), t.heap = H1 → s.vm.Alike t.vm → px u → BX E u t → H.size ≤ H1.size → (∀ q : Nat, q < H.size → ¬ AX q → H1[q]? = H[q]?) → va_S A0 H0 H1 locs1 → H1[q9]? = some ce → ce.vm = .none → s.vm.findClass E = some ce.cls → vx_W p l e R s m args below meth c H1 locs1 (cells + mc) (slots + ms) Q (F0 m pc ls rest) q9)
    (kk : ∀ (r : UInt64) (u : S) (t : State) (H1 : Heap) (locs1 : List Loc), t.heap = H1 → s.vm.Alike t.vm → post r u → B u t → H.size ≤ H1.size → (∀ q : Nat, q < H.size → ¬ A1 q → H1[q]? = H[q]?) → va_S A0 H0 H1 locs1 → W p l e R s m args below meth c H1 locs1 (cells + mc) (slots + ms) Q (F0 m (pc + 3) ls (.double r :: rest))) : W p l e R s m args below meth c H locs cells slots Q (F0 m pc ls st0) := by
  intro T hT X
  rcases hr T hT X with ⟨v, st₀, t, T', L, h0, X', hL, e1, e2, ⟨⟨r, u, hv, hp, hb⟩, hF⟩, st⟩ | ⟨q, st₀, t, T', L, E, ce, h0, X', hL, e1, e2, ⟨u, hp, hb, hF⟩, hce, hcv, hcl, st⟩
  · cases hv
    obtain ⟨k1, k2, k3⟩ := vx_keep h0 e1 hS hA hf hL hF
    obtain ⟨t2, a1, b1⟩ := kk r u t T'.heap (locs ++ L) e1.symm (by rw [← e2]; exact X'.warmed.alike) hp hb k1 k2 k3 T' rfl X'
    exact ⟨t2, st t2 a1, b1⟩
  · obtain ⟨k1, k2, k3⟩ := vx_keep h0 e1 hS hAX hf hL hF
    obtain ⟨t2, a1, b1⟩ := kx E ce q u t T'.heap (locs ++ L) e1.symm (by rw [← e2]; exact X'.warmed.alike) hp hb k1 k2 k3 (by rw [e1]; exact hce) hcv hcl T' rfl X'
    exact ⟨t2, st.trans a1, b1⟩
theorem vx_callv {S SX : Type} {post : S → Prop} {px : SX → Prop} {B : S → State → Prop} {BX : String → SX → State → Prop} {AX : Nat → Prop} (hr : vx_Run p l e R s m args below meth c H locs cells slots mc ms (F0 m pc ls st0) rest (va_Qv post B A1 a) (vx_X px BX AX) free) (hS : va_S A0 H0 H locs) (hA : ∀ q, q < H.size → A1 q → A0 q) (hf : ∀ q, free q → A0 q) (hAX : ∀ q, q < H.size → AX q → A0 q)
    (kx : ∀ (E : String) (ce : Cell) (q9 : Addr) (u : SX) (t : State) (H1 : Heap) (locs1 : List Loc), t.heap = H1 → s.vm.Alike t.vm → px u → BX E u t → H.size ≤ H1.size → (∀ q : Nat, q < H.size → ¬ AX q → H1[q]? = H[q]?) → va_S A0 H0 H1 locs1 → H1[q9]? = some ce → ce.vm = .none → s.vm.findClass E = some ce.cls → vx_W p l e R s m args below meth c H1 locs1 (cells + mc) (slots + ms) Q (F0 m pc ls rest) q9)
    (kk : ∀ (u : S) (t : State) (H1 : Heap) (locs1 : List Loc), t.heap = H1 → s.vm.Alike t.vm → post u → B u t → H.size ≤ H1.size → (∀ q : Nat, q < H.size → ¬ A1 q → H1[q]? = H[q]?) → va_S A0 H0 H1 locs1 → W p l e R s m args below meth c H1 locs1 (cells + mc) (slots + ms) Q (F0 m (pc + 3) ls (rest))) : W p l e R s m args below meth c H locs cells slots Q (F0 m pc ls st0) := by
  intro T hT X
  rcases hr T hT X with ⟨v, st₀, t, T', L, h0, X', hL, e1, e2, ⟨⟨u, hv, hp, hb⟩, hF⟩, st⟩ | ⟨q, st₀, t, T', L, E, ce, h0, X', hL, e1, e2, ⟨u, hp, hb, hF⟩, hce, hcv, hcl, st⟩
  · cases hv
    obtain ⟨k1, k2, k3⟩ := vx_keep h0 e1 hS hA hf hL hF
    obtain ⟨t2, a1, b1⟩ := kk u t T'.heap (locs ++ L) e1.symm (by rw [← e2]; exact X'.warmed.alike) hp hb k1 k2 k3 T' rfl X'
    exact ⟨t2, st t2 a1, b1⟩
  · obtain ⟨k1, k2, k3⟩ := vx_keep h0 e1 hS hAX hf hL hF
    obtain ⟨t2, a1, b1⟩ := kx E ce q u t T'.heap (locs ++ L) e1.symm (by rw [← e2]; exact X'.warmed.alike) hp hb k1 k2 k3 (by rw [e1]; exact hce) hcv hcl T' rfl X'
    exact ⟨t2, st.trans a1, b1⟩
/-- caught by the row x of this method's table; the rows ahead don't take it -/
theorem vx_catch {own name : String} {E : String} {ce : Cell} {q : Addr} (hown : s.vm.findClass own = some m.cls) (pre : List ExceptionTableEntry) (x : ExceptionTableEntry) (suf : List ExceptionTableEntry) (hsplit : c.exceptionTable.toList = pre ++ x :: suf)
    (hpass : ∀ z ∈ pre, covers z pc = false ∨ (z.catchType ≠ 0 ∧ ∃ nm : String, (Cond.classLink own z.catchType nm).before args s = true ∧ va_Nc E nm s)) (hx : covers x pc = true) (h0 : x.catchType ≠ 0)
    (hlink : (Cond.classLink own x.catchType name).before args s = true) (hcast : (Cond.castable E name).before args s = true) (hcell : H[q]? = some ce) (hv : ce.vm = .none) (hcl : s.vm.findClass E = some ce.cls)
    (kk : W p l e R s m args below meth c H locs cells slots Q (F0 m x.handlerPc ls [.ref q])) : vx_W p l e R s m args below meth c H locs cells slots Q (F0 m pc ls rest) q := by
  intro T hT X
  have hpl : e.platform.magicAccessors = ({} : Platform).magicAccessors := by rw [X.admits.platform]
  obtain ⟨c3, c4, hc3, hc4, hasg⟩ := Cond.castable_spec hcast
  cases Option.some.inj (hc3.symm.trans hcl)
  obtain ⟨c5, hc5, hcl5⟩ := Cond.classLink_spec hown hlink e.platform hpl
  cases Option.some.inj (hc4.symm.trans hc5)
  obtain ⟨vm', X', st⟩ := X.thenCaughtThrough q (g := F0 m pc ls rest) rfl (Steps.refl _) (by rw [hT]; exact hcell) (by rw [hv]; rfl) (by obtain ⟨k9, h9, -⟩ := Vm.findClass_spec hcl; exact ⟨k9, h9⟩) pre x suf hsplit
    (fun z hz => by
      rcases hpass z hz with h | ⟨hz0, nm, hl1, hn1⟩
      · exact Or.inl h
      · obtain ⟨c6, hc6, hcl6⟩ := Cond.classLink_spec hown hl1 e.platform hpl
        obtain ⟨a8, b8, h1, h2, h3⟩ := hn1
        cases Option.some.inj (h1.symm.trans hcl)
        cases Option.some.inj (h2.symm.trans hc6)
        exact Or.inr ⟨hz0, _, hcl6, h3⟩) hx (Or.inr ⟨h0, c4, hcl5, hasg⟩)
  obtain ⟨t, a1, b1⟩ := kk (T.setVm vm') hT X'
  exact ⟨t, st.trans a1, b1⟩
end Rows
section Ends
variable {p : Program} {l : Launch} {e : Env} {R : Room} {s : State} {m : MethodId} {args : Array Value} {below : List Frame} {meth : Method} {c : Code} {H : Heap} {locs : List Loc} {cells slots : Nat} {Q : State → Prop}
variable {mc ms : Nat} {free : Addr → Prop} {A0 A1 : Nat → Prop} {H0 : Heap} {a : Array Value} {ls : Array Slot} {st0 rest : List Value}
variable {Qc : Array Value → State → Outcome → State → Prop} {XC : String → State → State → Prop}
/-- what a body that may throw owes at its end -/
def vx_MQ (below : List Frame) (Qc : Array Value → State → Outcome → State → Prop) (XC : String → State → State → Prop) (a : Array Value) (s : State) (mc ms : Nat) (free : Addr → Prop) : State → Prop := fun t =>
  ∃ o, t.status = .running ∧ Ended t below o ∧ vx_Q Qc XC mc ms free a s o t
theorem vx_ret {g : JFrame} {mc ms : Nat} (k : W p l e R s m args below meth c H locs cells slots (MQ below Qc args s mc ms free) g) : W p l e R s m args below meth c H locs cells slots (vx_MQ below Qc XC args s mc ms free) g := by
  intro T hT X
  obtain ⟨t, a1, o, b1, b2, b3, b4⟩ := k T hT X
  exact ⟨t, a1, o, b1, b2, Or.inl ⟨b3, b4⟩⟩
/-- not caught here: it goes on to the caller -/
theorem vx_widen {g : JFrame} {q : Addr} {k n : Nat} (h1 : cells ≤ k) (h2 : slots ≤ n) (kk : vx_W p l e R s m args below meth c H locs k n Q g q) : vx_W p l e R s m args below meth c H locs cells slots Q g q := fun T hT X => kk T hT (stand_widen X h1 h2)
theorem vx_out {pc : Nat} {E : String} {ce : Cell} {q : Addr} {mc ms : Nat} (hout : ∀ x ∈ c.exceptionTable.toList, covers x pc = false) (hlocks : meth.locks = false) (hcell : H[q]? = some ce) (hv : ce.vm = .none) (hcl : s.vm.findClass E = some ce.cls)
    (hx : ∀ t : State, t.heap = H → s.vm.Alike t.vm → XC E s t) (hf : ∀ z ∈ locs, free z.base) (hc : cells ≤ mc) (hs : slots ≤ ms) :
    vx_W p l e R s m args below meth c H locs cells slots (vx_MQ below Qc XC args s mc ms free) (F0 m pc ls rest) q := by
  intro T hT X
  obtain ⟨st1, hrun, hend, hW, hsm⟩ := X.leaveThrown q (g := F0 m pc ls rest) rfl rfl rfl hout hlocks
  have hcell9 : (T.setFrames (.throwing q :: below)).heap[q]? = some ce := by
    show T.heap[q]? = some ce
    rw [hT]; exact hcell
  exact ⟨_, st1, .threw q, hrun, hend, Or.inr ⟨q, rfl, E, ce, locs, hx _ hT hW.alike, hcell9, hv, hcl, hW, hsm.mono hc hs, hf⟩⟩
theorem vx_frame {U : State} {k n : Nat} (h : s.sameButNew ({ U with vm := s.vm } : State) locs k n) : s.heap.size ≤ U.heap.size ∧ ∀ q : Nat, q < s.heap.size → (∀ z ∈ locs, z.base ≠ q) → U.heap[q]? = s.heap[q]? := by
  obtain ⟨-, h2, -, -, -, h6⟩ := h
  refine ⟨h2, fun q hq hz => ?_⟩
  obtain ⟨c9, e1, e2, e3, e4⟩ := h6 q _ (Array.getElem?_eq_getElem hq)
  have hs : c9.slots = (s.heap[q]).slots := Array.ext_getElem? fun i => e4 i fun hm => hz _ hm rfl
  have h9 : c9 = s.heap[q] := by
    rw [hs] at e2
    exact e2
  have e5 : U.heap[q]? = some c9 := e1
  rw [e5, h9, Array.getElem?_eq_getElem hq]
/-- the words of a throw but the four that speak of the heap -/
def vx_no (w : Cond) : Bool := decide (w ≠ .isRef (.static Bundle.tN "UNASSIGNED_STACK" Bundle.steD)) && decide (w ≠ .isRef (.static Bundle.tN "SUPPRESSED_SENTINEL" Bundle.listD)) && decide (w ≠ .laysStatic Bundle.tN "UNASSIGNED_STACK" Bundle.steD) && decide (w ≠ .laysStatic Bundle.tN "SUPPRESSED_SENTINEL" Bundle.listD)
def vx_at0 (own : String) (ic : Nat) (X : String) (names : List String) : List Cond := (Bundle.ownAtoms0 own ic X names).filter vx_no
def vx_atS (own : String) (ic : Nat) (X : String) (names : List String) : List Cond := (Bundle.ownAtoms own ic X names).filter vx_no
/-- a word that the tables alone decide, or a good one -/
def vx_ot (w : Cond) : Bool := w.onTables || goodWord w
theorem vx_ot_at {args a' : Array Value} {s U : State} {w : Cond} (hW : s.WarmedH U.vm) (hvm : s.vm = U.vm) (hg : vx_ot w = true) (h : w.before args s = true) : w.before a' U = true := by
  simp only [vx_ot, Bool.or_eq_true] at hg
  rcases hg with hg | hg
  · exact va_tabs hg hvm h
  · exact word_at hW (good_of_word hg) h
/-- a list's words: the good ones out of the method's own list, the others by premises of their own -/
theorem vx_hat {args : Array Value} {s : State} {L B : List Cond} (h1 : ∀ w ∈ L.filter goodWord, w.before args s = true) (h2 : ∀ w ∈ L.filter (fun w => !goodWord w), w ∈ B) (h3 : ∀ w ∈ B, w.before args s = true) : ∀ w ∈ L, w.before args s = true := by
  intro w hw
  by_cases g : goodWord w = true
  · exact h1 w (List.mem_filter.mpr ⟨hw, g⟩)
  · refine h3 w (h2 w (List.mem_filter.mpr ⟨hw, ?_⟩))
    show (!goodWord w) = true
    cases hgw : goodWord w
    · rfl
    · exact absurd hgw g
theorem vx_c {args : Array Value} {s : State} {w : Cond} {B : List Cond} (h : w.before args s = true) (t : ∀ w ∈ B, w.before args s = true) : ∀ w' ∈ w :: B, w'.before args s = true := fun w' h' => (List.mem_cons.mp h').elim (fun e => by rw [e]; exact h) (t w')
theorem vx_n {args : Array Value} {s : State} : ∀ w ∈ ([] : List Cond), w.before args s = true := fun _ h => nomatch h
theorem vx_own {args : Array Value} {s : State} {L : List Cond} (h1 : ∀ w ∈ L.filter vx_no, w.before args s = true)
    (hU : (Cond.isRef (.static Bundle.tN "UNASSIGNED_STACK" Bundle.steD)).before args s = true) (hN : (Cond.isRef (.static Bundle.tN "SUPPRESSED_SENTINEL" Bundle.listD)).before args s = true)
    (lU : (Cond.laysStatic Bundle.tN "UNASSIGNED_STACK" Bundle.steD).before args s = true) (lN : (Cond.laysStatic Bundle.tN "SUPPRESSED_SENTINEL" Bundle.listD).before args s = true) : ∀ w ∈ L, w.before args s = true := by
  intro w hw
  by_cases e1 : w = .isRef (.static Bundle.tN "UNASSIGNED_STACK" Bundle.steD)
  · rw [e1]; exact hU
  · by_cases e2 : w = .isRef (.static Bundle.tN "SUPPRESSED_SENTINEL" Bundle.listD)
    · rw [e2]; exact hN
    · by_cases e3 : w = .laysStatic Bundle.tN "UNASSIGNED_STACK" Bundle.steD
      · rw [e3]; exact lU
      · by_cases e4 : w = .laysStatic Bundle.tN "SUPPRESSED_SENTINEL" Bundle.listD
        · rw [e4]; exact lN
        · exact h1 w (List.mem_filter.mpr ⟨hw, by unfold vx_no; rw [decide_eq_true e1, decide_eq_true e2, decide_eq_true e3, decide_eq_true e4]; rfl⟩)
/-- where a static field lies, its class's statics cell in H -/
def vx_L (C n d : String) (A : Nat → Prop) (U : State) (H : Heap) : Prop := ∃ (c : ClassId) (k : Class) (i : Nat) (f : Field) (a : Nat) (cell : Cell), U.vm.findClass C = some c ∧ U.fieldFound? C n d = some (c, k, i, f) ∧ f.isStatic = true ∧ k.statics = some a ∧ H[a]? = some cell ∧ cell.vm.isStatics = true ∧ cell.cls = c ∧ f.slot < cell.slots.size ∧ k.staticTypes[f.slot]? = some f.type ∧ ¬ A a
theorem vx_L.moved {C n d : String} {A : Nat → Prop} {u U : State} {H : Heap} (hvm : u.vm.Alike U.vm) (h : vx_L C n d A u H) : vx_L C n d A U H := by
  obtain ⟨c, k, i, f, a, cell, h1, h2, h3, h4, h5, h6, h7, h8, h9, h10⟩ := h
  obtain ⟨k', hi', he⟩ := State.fieldFound?_setVm hvm h2
  exact ⟨c, k', i, f, a, cell, by rw [hvm.findClass]; exact h1, hi', h3, by rw [he]; exact h4, h5, h6, h7, h8, by rw [he]; exact h9, h10⟩
theorem vx_L.kept {C n d : String} {A : Nat → Prop} {U : State} {H H1 : Heap} (h : vx_L C n d A U H) (hq : ∀ a : Nat, a < H.size → ¬ A a → H1[a]? = H[a]?) : vx_L C n d A U H1 := by
  obtain ⟨c, k, i, f, a, cell, h1, h2, h3, h4, h5, h6, h7, h8, h9, h10⟩ := h
  exact ⟨c, k, i, f, a, cell, h1, h2, h3, h4, by rw [hq a (Array.getElem?_eq_some_iff.mp h5).1 h10]; exact h5, h6, h7, h8, h9, h10⟩
theorem vx_L.narrow {C n d : String} {A B : Nat → Prop} {U : State} {H : Heap} (h : vx_L C n d A U H) (hAB : ∀ q, B q → A q) : vx_L C n d B U H := by
  obtain ⟨c, k, i, f, a, cell, h1, h2, h3, h4, h5, h6, h7, h8, h9, h10⟩ := h
  exact ⟨c, k, i, f, a, cell, h1, h2, h3, h4, h5, h6, h7, h8, h9, fun z => h10 (hAB _ z)⟩
theorem vx_L.word {C n d : String} {A : Nat → Prop} {s : State} {args : Array Value} (h : vx_L C n d A s s.heap) : (Cond.laysStatic C n d).before args s = true := by
  obtain ⟨c, k, i, f, a, cell, h1, h2, h3, h4, h5, h6, h7, h8, h9, -⟩ := h
  show (Cond.laysStatic C n d).holds args s none s [] = true
  exact Cond.laysStatic_of h1 h2 h3 h4 h5 h6 h7 h8 h9
/-- .. and what it holds: null or some reference -/
def vx_Zq (C n d : String) (A : Nat → Prop) (U : State) (H : Heap) : Prop := va_Zq C n d A U H ∧ vx_L C n d A U H
theorem vx_Zq.moved {C n d : String} {A : Nat → Prop} {u U : State} {H : Heap} (hvm : u.vm.Alike U.vm) (h : vx_Zq C n d A u H) : vx_Zq C n d A U H := ⟨va_Zq.moved hvm h.1, vx_L.moved hvm h.2⟩
theorem vx_Zq.kept {C n d : String} {A : Nat → Prop} {U : State} {H H1 : Heap} (h : vx_Zq C n d A U H) (hq : ∀ a : Nat, a < H.size → ¬ A a → H1[a]? = H[a]?) : vx_Zq C n d A U H1 := ⟨va_Zq.kept h.1 hq, vx_L.kept h.2 hq⟩
theorem vx_Zq.narrow {C n d : String} {A B : Nat → Prop} {U : State} {H : Heap} (h : vx_Zq C n d A U H) (hAB : ∀ q, B q → A q) : vx_Zq C n d B U H := ⟨va_Zq.narrow h.1 hAB, vx_L.narrow h.2 hAB⟩
theorem vx_Zqof {args : Array Value} {s : State} {C n d : String} {A : Nat → Prop} (hl : (Cond.laysStatic C n d).before args s = true) (hini : (Cond.initialized C).before args s = true) (h : (Cond.isRef (.static C n d)).before args s = true) (hA : ∀ a : Nat, a < s.heap.size → ¬ A a) : vx_Zq C n d A s s.heap := by
  refine ⟨va_Zqof hl hini h hA, ?_⟩
  obtain ⟨c, k, i, f, a, cell, h1, h2, h3, h4, h5, h6, h7, h8, h9⟩ := Cond.laysStatic_spec hl
  exact ⟨c, k, i, f, a, cell, h1, h2, h3, h4, h5, h6, h7, h8, h9, hA a (Array.getElem?_eq_some_iff.mp h5).1⟩
theorem vx_isRef {C n d : String} {v : Value} {A : Nat → Prop} {s : State} {args : Array Value} (h : va_Z C n d v A s s.heap) (hv : v.isRef = true) : (Cond.isRef (.static C n d)).before args s = true := by
  obtain ⟨cf, kf, fi, f, a, cell, h1, h2, h3, h4, h5, h6, h7, -⟩ := h
  have he : (Term.static C n d).eval args s none [] s = some v := by
    simp [Term.eval, State.fieldNamed?, h1, h2, h4, h5, h6, h7]
  simp only [Cond.before, Cond.holds, Cond.value, he]
  cases v <;> simp_all [Value.isRef]
theorem vx_isRefq {C n d : String} {A : Nat → Prop} {s : State} {args : Array Value} (h : va_Zq C n d A s s.heap) : (Cond.isRef (.static C n d)).before args s = true := by
  rcases h with h | ⟨t, h⟩
  · exact vx_isRef h rfl
  · exact vx_isRef h rfl
/-- the same frame, seen from here: as if the method were called anew in this heap -/
theorem vx_rebase {T : State} (X : Stand p l e R s m args below meth c T locs cells slots) {R' : Room} (hf : R'.frames ≤ R.frames) (hl : R'.locals ≤ R.locals) (hc : cells + R'.cells ≤ R.cells) (hs : slots + R'.slots ≤ R.slots) :
    Stand p l e R' ((T.setVm s.vm).setFrames (.invoking m args :: below)) m args below meth c T [] 0 0 := by
  have htop : (T.setVm s.vm).topJava?.isSome := X.here.top
  have hF : ((T.setVm s.vm).setFrames (.invoking m args :: below)).frames = .invoking m args :: below := State.frames_setFrames _ (State.cur_lt_of_top htop)
  obtain ⟨g₀, hg0⟩ := Option.isSome_iff_exists.mp htop
  obtain ⟨r, hr⟩ := State.topJava?_eq_some.mp hg0
  have hl9 : e.platform.stackLimits (T.setVm s.vm).me = e.platform.stackLimits s.me := X.limits
  have hb9 : (T.setVm s.vm).me.stackBytes = s.me.stackBytes := X.bytes
  refine ⟨X.admits, X.cas, X.clock, hF, ?_, X.hears, X.method, X.code, X.here, X.tail, X.warmed, ?_, ?_, ?_⟩
  · have h := X.room
    have hU : ((T.setVm s.vm).setFrames (.invoking m args :: below)).localsInUse = s.localsInUse := by
      rw [State.localsInUse_invoking hF (meth := meth) (c := c) X.method X.code, State.localsInUse_invoking X.frames X.method X.code]
    simp only [State.hasRoom, Bool.and_eq_true, decide_eq_true_eq] at h ⊢
    obtain ⟨⟨⟨⟨h1, h2, h3, h4, h5, h6⟩, h7⟩, h8⟩, h9⟩ := h
    rw [X.frames, List.length_cons] at h2 h3
    have q1 := X.heapSize
    have q2 := X.used
    simp only [hF, hU, List.length_cons, State.stackLimits_setFrames, State.stackBytes_setFrames, hl9, hb9]
    refine ⟨⟨⟨⟨by omega, by omega, by omega, by omega, by omega, h6⟩, ?_⟩, ?_⟩, X.book⟩
    · show T.heap.size + R'.cells ≤ e.platform.maxCells
      omega
    · show T.slotsUsed + R'.slots ≤ e.platform.maxSlots
      omega
  · rw [State.stackLimits_setFrames]; rfl
  · rw [State.stackBytes_setFrames]; rfl
  · refine ⟨?_, Nat.le_refl _, Nat.le_refl _, ?_, ?_, fun a c9 h9 => ⟨c9, h9, rfl, rfl, fun _ _ => rfl⟩⟩
    · obtain ⟨t, ht, -⟩ := State.frames_cons hr
      show T.setVm s.vm = { ((T.setVm s.vm).setFrames (.invoking m args :: below)).setFrames (T.setVm s.vm).frames with heap := T.heap, slotsUsed := T.slotsUsed }
      rw [State.setFrames_setFrames, State.setFrames_self ht]
      rfl
    · show T.slotsUsed = T.slotsUsed + ((T.heap.toList.drop T.heap.size).map (·.slots.size)).sum
      rw [List.drop_eq_nil_of_le (Nat.le_of_eq Array.length_toList)]
      rfl
    · show ((T.heap.toList.drop T.heap.size).map (·.slots.size)).sum ≤ 0
      rw [List.drop_eq_nil_of_le (Nat.le_of_eq Array.length_toList)]
      exact Nat.le_refl _
/-- 'throw new E()': new; dup; invokespecial; athrow -/
theorem vx_throw0 {cc : ByteArray} {pc : Nat} (hexec : p.tables.exec = Jvm.exec) (hb : c.code = cc) (hl : l.stackTraces = false) {own cls : String} {names : List String} {ik ic mc ms : Nat} {A : Nat → Prop}
    (hown : s.vm.findClass own = some m.cls) (hcls : Bundle.fit cls = true) (hnames : ∀ n ∈ names, Bundle.fit n = true)
    (hk : (Cond.classLink own ik cls).before args s = true) (hini : (Cond.initialized cls).before args s = true) (hat : ∀ w ∈ vx_at0 own ic cls names, w.before args s = true)
    (hgood : ∀ w ∈ Cond.classLink own ik cls :: Cond.initialized cls :: vx_at0 own ic cls names, vx_ot w = true)
    (hU : vx_Zq Bundle.tN "UNASSIGNED_STACK" Bundle.steD A s s.heap) (hN : vx_Zq Bundle.tN "SUPPRESSED_SENTINEL" Bundle.listD A s s.heap) (hS : va_S A s.heap H locs) (hsize : ls.size = c.maxLocals)
    (d0 : decode cc pc = .ok (.new ik, 3)) (d3 : decode cc (pc + 3) = .ok (.dup, 1)) (d4 : decode cc (pc + 4) = .ok (.invokespecial ic, 3)) (d7 : decode cc (pc + 7) = .ok (.athrow, 1))
    (hout : ∀ x ∈ c.exceptionTable.toList, covers x (pc + 7) = false)
    (hRframes : names.length + 3 < R.frames) (hRlocals : (rest.map fun v => v.category).sum + (13 * (names.length + 1) + 42) ≤ R.locals) (hRcells : cells + 1 ≤ R.cells) (hRslots : slots + 6 ≤ R.slots) (hlocks : meth.locks = false)
    (hx : ∀ t : State, s.vm.Alike t.vm → H.size ≤ t.heap.size → (∀ q : Nat, q < H.size → t.heap[q]? = H[q]?) → XC cls s t)
    (hf : ∀ z ∈ locs, free z.base) (hc : cells + 1 ≤ mc) (hs : slots + 6 ≤ ms) :
    W p l e R s m args below meth c H locs cells slots (vx_MQ below Qc XC args s mc ms free) (F0 m pc ls rest) := by
  intro T hT X
  have htr : e.platform.stackTraces = false := (show e.platform.stackTraces = l.stackTraces by rw [X.admits.platform]).trans hl
  have Y := vx_rebase X (R' := { frames := R.frames, locals := R.locals, cells := 1, slots := 6 }) (Nat.le_refl _) (Nat.le_refl _) hRcells hRslots
  obtain ⟨s', hA⟩ : ∃ z, z = (T.setVm s.vm).setFrames (.invoking m args :: below) := ⟨_, rfl⟩
  rw [← hA] at Y
  have hvm : s'.vm = s.vm := by rw [hA]; rfl
  have hhp : s'.heap = H := by rw [hA]; exact hT
  have hW0 : s.WarmedH s'.vm := by rw [hvm]; exact State.WarmedH.refl s
  have hat' : ∀ w ∈ vx_at0 own ic cls names, w.before args s' = true := fun w hw => vx_ot_at hW0 hvm.symm (hgood w (List.mem_cons_of_mem _ (List.mem_cons_of_mem _ hw))) (hat w hw)
  have hk' : (Cond.classLink own ik cls).before args s' = true := vx_ot_at hW0 hvm.symm (hgood _ List.mem_cons_self) hk
  have hini' : (Cond.initialized cls).before args s' = true := vx_ot_at hW0 hvm.symm (hgood _ (List.mem_cons_of_mem _ List.mem_cons_self)) hini
  have hU' : vx_Zq Bundle.tN "UNASSIGNED_STACK" Bundle.steD A s' s'.heap := by rw [hhp]; exact vx_Zq.moved hW0.alike (hU.kept hS.2.1)
  have hN' : vx_Zq Bundle.tN "SUPPRESSED_SENTINEL" Bundle.listD A s' s'.heap := by rw [hhp]; exact vx_Zq.moved hW0.alike (hN.kept hS.2.1)
  have h : ∀ w ∈ Bundle.ownAtoms0 own ic cls names, w.before args s' = true := vx_own hat' (vx_isRefq hU'.1) (vx_isRefq hN'.1) hU'.2.word hN'.2.word
  have hown' : s'.vm.findClass own = some m.cls := by rw [hvm]; exact hown
  have hins : (Cond.instantiable cls 6).before args s' = true := h _ (by simp [Bundle.ownAtoms0])
  obtain ⟨vm₁, cX, kX, hfX, hkX, -, -, X₁, st1⟩ := Y.newCold hexec (own := own) (C := cls) (index := ik) (n := 6) hown' hk' hins hini'
    (g := F0 m pc ls rest) rfl (by rw [hb]; exact d0) (Nat.le_refl _) (Nat.le_refl _)
  generalize hT1 : (T.setVm vm₁).pushCell { cls := cX, slots := kX.instanceTypes.map defaultValue, vm := .none } = T1 at X₁ st1
  have hcat : (Value.ref T.heap.size).category = 1 := rfl
  have hcellA : T1.heap[T.heap.size]? = some (freshCell cX kX) := by rw [← hT1]; exact State.heap_pushCell_size _ _
  have d3' : decode c.code (pc + 3) = .ok (.dup, 1) := by rw [hb]; exact d3
  obtain ⟨U, hsteps, hrun, hend, hW, hsame, ce, hce, hO⟩ := X₁.ctorThrow0 hexec htr (own := own) (cls := cls) (names := names) (ic := ic) hown' hcls hnames h (fun x hx => nomatch hx) hfX hkX hcellA (by rw [hhp, hT]; exact Nat.le_refl _)
    (g := { method := m, pc := pc + 4, locals := ls, stack := .ref T.heap.size :: .ref T.heap.size :: rest, locked := none }) rfl hsize rfl rfl (rest := rest) rfl
    (by rw [hb]; exact d4) (by rw [hb]; exact d7) hout hRframes (by simp only [List.map_cons, List.sum_cons, hcat]; omega) hlocks
  obtain ⟨f1, f2⟩ := vx_frame hsame
  rw [hhp] at f1 f2
  have hWs : s.WarmedH U.vm := State.WarmedH.trans hW0 hW
  have hcl : s.vm.findClass cls = some ce.cls := by
    have h9 := hO.cls
    rw [hvm] at h9
    exact h9
  have hall : s.sameButNew ({ U with vm := s.vm } : State) locs mc ms := by
    subst hA
    obtain ⟨e1, e2⟩ := hsame
    rw [State.setFrames_setFrames] at e1
    have h2 : (T.setVm s.vm).sameButNew ({ U with vm := s.vm } : State) [] (0 + 1) (0 + 6) := ⟨e1, e2⟩
    have h3 := X.same.trans h2
    rw [List.append_nil] at h3
    exact h3.mono hc hs
  refine ⟨U, ?_, .threw T.heap.size, hrun, hend, Or.inr ⟨T.heap.size, rfl, cls, ce, locs, hx U hWs.alike f1 (fun q hq => f2 q hq (fun z hz => nomatch hz)), hce, hO.vm, hcl, hWs, hall, hf⟩⟩
  refine st1 _ ?_
  show Steps p.tables e below (T1.setTop { method := m, pc := pc + 3, locals := ls, stack := .ref T.heap.size :: rest, locked := none }) _
  jvm_step X₁.here [X₁.here.top, hexec, d3', Value.category]
  exact hsteps
/-- 'throw new E("text")': new; dup; ldc; invokespecial; athrow -/
theorem vx_throwS {cc : ByteArray} {pc : Nat} (hexec : p.tables.exec = Jvm.exec) (hb : c.code = cc) (hl : l.stackTraces = false) {own cls text : String} {names : List String} {ik is ic mc ms sa : Nat} {A : Nat → Prop}
    (hown : s.vm.findClass own = some m.cls) (hcls : Bundle.fit cls = true) (hnames : ∀ n ∈ names, Bundle.fit n = true)
    (hk : (Cond.classLink own ik cls).before args s = true) (hini : (Cond.initialized cls).before args s = true) (hstr : vk_R own is text sa s) (hat : ∀ w ∈ vx_atS own ic cls names, w.before args s = true)
    (hgood : ∀ w ∈ Cond.classLink own ik cls :: Cond.initialized cls :: vx_atS own ic cls names, vx_ot w = true)
    (hU : vx_Zq Bundle.tN "UNASSIGNED_STACK" Bundle.steD A s s.heap) (hN : vx_Zq Bundle.tN "SUPPRESSED_SENTINEL" Bundle.listD A s s.heap) (hS : va_S A s.heap H locs) (hsize : ls.size = c.maxLocals)
    (d0 : decode cc pc = .ok (.new ik, 3)) (d3 : decode cc (pc + 3) = .ok (.dup, 1)) (d4 : decode cc (pc + 4) = .ok (.ldc is, 2)) (d6 : decode cc (pc + 6) = .ok (.invokespecial ic, 3)) (d9 : decode cc (pc + 9) = .ok (.athrow, 1))
    (hout : ∀ x ∈ c.exceptionTable.toList, covers x (pc + 9) = false)
    (hRframes : names.length + 3 < R.frames) (hRlocals : (rest.map fun v => v.category).sum + (13 * (names.length + 1) + 43) ≤ R.locals) (hRcells : cells + 1 ≤ R.cells) (hRslots : slots + 6 ≤ R.slots) (hlocks : meth.locks = false)
    (hx : ∀ t : State, s.vm.Alike t.vm → H.size ≤ t.heap.size → (∀ q : Nat, q < H.size → t.heap[q]? = H[q]?) → XC cls s t)
    (hf : ∀ z ∈ locs, free z.base) (hc : cells + 1 ≤ mc) (hs : slots + 6 ≤ ms) :
    W p l e R s m args below meth c H locs cells slots (vx_MQ below Qc XC args s mc ms free) (F0 m pc ls rest) := by
  intro T hT X
  have htr : e.platform.stackTraces = false := (show e.platform.stackTraces = l.stackTraces by rw [X.admits.platform]).trans hl
  have Y := vx_rebase X (R' := { frames := R.frames, locals := R.locals, cells := 1, slots := 6 }) (Nat.le_refl _) (Nat.le_refl _) hRcells hRslots
  obtain ⟨s', hA⟩ : ∃ z, z = (T.setVm s.vm).setFrames (.invoking m args :: below) := ⟨_, rfl⟩
  rw [← hA] at Y
  have hvm : s'.vm = s.vm := by rw [hA]; rfl
  have hhp : s'.heap = H := by rw [hA]; exact hT
  have hW0 : s.WarmedH s'.vm := by rw [hvm]; exact State.WarmedH.refl s
  have hat' : ∀ w ∈ vx_atS own ic cls names, w.before args s' = true := fun w hw => vx_ot_at hW0 hvm.symm (hgood w (List.mem_cons_of_mem _ (List.mem_cons_of_mem _ hw))) (hat w hw)
  have hk' : (Cond.classLink own ik cls).before args s' = true := vx_ot_at hW0 hvm.symm (hgood _ List.mem_cons_self) hk
  have hini' : (Cond.initialized cls).before args s' = true := vx_ot_at hW0 hvm.symm (hgood _ (List.mem_cons_of_mem _ List.mem_cons_self)) hini
  have hU' : vx_Zq Bundle.tN "UNASSIGNED_STACK" Bundle.steD A s' s'.heap := by rw [hhp]; exact vx_Zq.moved hW0.alike (hU.kept hS.2.1)
  have hN' : vx_Zq Bundle.tN "SUPPRESSED_SENTINEL" Bundle.listD A s' s'.heap := by rw [hhp]; exact vx_Zq.moved hW0.alike (hN.kept hS.2.1)
  have h : ∀ w ∈ Bundle.ownAtoms own ic cls names, w.before args s' = true := vx_own hat' (vx_isRefq hU'.1) (vx_isRefq hN'.1) hU'.2.word hN'.2.word
  have hown' : s'.vm.findClass own = some m.cls := by rw [hvm]; exact hown
  have hins : (Cond.instantiable cls 6).before args s' = true := h _ (by simp [Bundle.ownAtoms])
  obtain ⟨vm₁, cX, kX, hfX, hkX, -, -, X₁, st1⟩ := Y.newCold hexec (own := own) (C := cls) (index := ik) (n := 6) hown' hk' hins hini'
    (g := F0 m pc ls rest) rfl (by rw [hb]; exact d0) (Nat.le_refl _) (Nat.le_refl _)
  generalize hT1 : (T.setVm vm₁).pushCell { cls := cX, slots := kX.instanceTypes.map defaultValue, vm := .none } = T1 at X₁ st1
  have hcat : (Value.ref T.heap.size).category = 1 := rfl
  have hcellA : T1.heap[T.heap.size]? = some (freshCell cX kX) := by rw [← hT1]; exact State.heap_pushCell_size _ _
  have d3' : decode c.code (pc + 3) = .ok (.dup, 1) := by rw [hb]; exact d3
  have d4' : decode c.code (pc + 4) = .ok (.ldc is, 2) := by rw [hb]; exact d4
  have hstr' : vk_R own is text sa s' := vk_R.warm hW0 hstr
  obtain ⟨U, hsteps, hrun, hend, hW, hsame, ce, hce, hO⟩ := X₁.ctorThrowS hexec htr (own := own) (cls := cls) (names := names) (ic := ic) hown' hcls hnames h (fun x hx => nomatch hx) hfX hkX hcellA (by rw [hhp, hT]; exact Nat.le_refl _) (msg := .ref sa) rfl
    (g := { method := m, pc := pc + 6, locals := ls, stack := .ref sa :: .ref T.heap.size :: .ref T.heap.size :: rest, locked := none }) rfl hsize rfl rfl (rest := rest) rfl
    (by rw [hb]; exact d6) (by rw [hb]; exact d9) hout hRframes (by simp only [List.map_cons, List.sum_cons, hcat]; omega) hlocks
  obtain ⟨f1, f2⟩ := vx_frame hsame
  rw [hhp] at f1 f2
  have hWs : s.WarmedH U.vm := State.WarmedH.trans hW0 hW
  have hcl : s.vm.findClass cls = some ce.cls := by
    have h9 := hO.cls
    rw [hvm] at h9
    exact h9
  have hall : s.sameButNew ({ U with vm := s.vm } : State) locs mc ms := by
    subst hA
    obtain ⟨e1, e2⟩ := hsame
    rw [State.setFrames_setFrames] at e1
    have h2 : (T.setVm s.vm).sameButNew ({ U with vm := s.vm } : State) [] (0 + 1) (0 + 6) := ⟨e1, e2⟩
    have h3 := X.same.trans h2
    rw [List.append_nil] at h3
    exact h3.mono hc hs
  refine ⟨U, ?_, .threw T.heap.size, hrun, hend, Or.inr ⟨T.heap.size, rfl, cls, ce, locs, hx U hWs.alike f1 (fun q hq => f2 q hq (fun z hz => nomatch hz)), hce, hO.vm, hcl, hWs, hall, hf⟩⟩
  refine st1 _ ?_
  show Steps p.tables e below (T1.setTop { method := m, pc := pc + 3, locals := ls, stack := .ref T.heap.size :: rest, locked := none }) _
  jvm_step X₁.here [X₁.here.top, hexec, d3', Value.category]
  exact X₁.ldcString hexec (own := own) (text := text) (index := is) (a := sa) hown' hstr'.1 hstr'.2
    (g := { method := m, pc := pc + 4, locals := ls, stack := .ref T.heap.size :: .ref T.heap.size :: rest, locked := none }) rfl d4' _ hsteps
/-- 'throw new E("text")', the text by a wide index -/
theorem vx_throwSW {cc : ByteArray} {pc : Nat} (hexec : p.tables.exec = Jvm.exec) (hb : c.code = cc) (hl : l.stackTraces = false) {own cls text : String} {names : List String} {ik is ic mc ms sa : Nat} {A : Nat → Prop}
    (hown : s.vm.findClass own = some m.cls) (hcls : Bundle.fit cls = true) (hnames : ∀ n ∈ names, Bundle.fit n = true)
    (hk : (Cond.classLink own ik cls).before args s = true) (hini : (Cond.initialized cls).before args s = true) (hstr : vk_R own is text sa s) (hat : ∀ w ∈ vx_atS own ic cls names, w.before args s = true)
    (hgood : ∀ w ∈ Cond.classLink own ik cls :: Cond.initialized cls :: vx_atS own ic cls names, vx_ot w = true)
    (hU : vx_Zq Bundle.tN "UNASSIGNED_STACK" Bundle.steD A s s.heap) (hN : vx_Zq Bundle.tN "SUPPRESSED_SENTINEL" Bundle.listD A s s.heap) (hS : va_S A s.heap H locs) (hsize : ls.size = c.maxLocals)
    (d0 : decode cc pc = .ok (.new ik, 3)) (d3 : decode cc (pc + 3) = .ok (.dup, 1)) (d4 : decode cc (pc + 4) = .ok (.ldc_w is, 3)) (d7 : decode cc (pc + 7) = .ok (.invokespecial ic, 3)) (d10 : decode cc (pc + 10) = .ok (.athrow, 1))
    (hout : ∀ x ∈ c.exceptionTable.toList, covers x (pc + 10) = false)
    (hRframes : names.length + 3 < R.frames) (hRlocals : (rest.map fun v => v.category).sum + (13 * (names.length + 1) + 43) ≤ R.locals) (hRcells : cells + 1 ≤ R.cells) (hRslots : slots + 6 ≤ R.slots) (hlocks : meth.locks = false)
    (hx : ∀ t : State, s.vm.Alike t.vm → H.size ≤ t.heap.size → (∀ q : Nat, q < H.size → t.heap[q]? = H[q]?) → XC cls s t)
    (hf : ∀ z ∈ locs, free z.base) (hc : cells + 1 ≤ mc) (hs : slots + 6 ≤ ms) :
    W p l e R s m args below meth c H locs cells slots (vx_MQ below Qc XC args s mc ms free) (F0 m pc ls rest) := by
  intro T hT X
  have htr : e.platform.stackTraces = false := (show e.platform.stackTraces = l.stackTraces by rw [X.admits.platform]).trans hl
  have Y := vx_rebase X (R' := { frames := R.frames, locals := R.locals, cells := 1, slots := 6 }) (Nat.le_refl _) (Nat.le_refl _) hRcells hRslots
  obtain ⟨s', hA⟩ : ∃ z, z = (T.setVm s.vm).setFrames (.invoking m args :: below) := ⟨_, rfl⟩
  rw [← hA] at Y
  have hvm : s'.vm = s.vm := by rw [hA]; rfl
  have hhp : s'.heap = H := by rw [hA]; exact hT
  have hW0 : s.WarmedH s'.vm := by rw [hvm]; exact State.WarmedH.refl s
  have hat' : ∀ w ∈ vx_atS own ic cls names, w.before args s' = true := fun w hw => vx_ot_at hW0 hvm.symm (hgood w (List.mem_cons_of_mem _ (List.mem_cons_of_mem _ hw))) (hat w hw)
  have hk' : (Cond.classLink own ik cls).before args s' = true := vx_ot_at hW0 hvm.symm (hgood _ List.mem_cons_self) hk
  have hini' : (Cond.initialized cls).before args s' = true := vx_ot_at hW0 hvm.symm (hgood _ (List.mem_cons_of_mem _ List.mem_cons_self)) hini
  have hU' : vx_Zq Bundle.tN "UNASSIGNED_STACK" Bundle.steD A s' s'.heap := by rw [hhp]; exact vx_Zq.moved hW0.alike (hU.kept hS.2.1)
  have hN' : vx_Zq Bundle.tN "SUPPRESSED_SENTINEL" Bundle.listD A s' s'.heap := by rw [hhp]; exact vx_Zq.moved hW0.alike (hN.kept hS.2.1)
  have h : ∀ w ∈ Bundle.ownAtoms own ic cls names, w.before args s' = true := vx_own hat' (vx_isRefq hU'.1) (vx_isRefq hN'.1) hU'.2.word hN'.2.word
  have hown' : s'.vm.findClass own = some m.cls := by rw [hvm]; exact hown
  have hins : (Cond.instantiable cls 6).before args s' = true := h _ (by simp [Bundle.ownAtoms])
  obtain ⟨vm₁, cX, kX, hfX, hkX, -, -, X₁, st1⟩ := Y.newCold hexec (own := own) (C := cls) (index := ik) (n := 6) hown' hk' hins hini'
    (g := F0 m pc ls rest) rfl (by rw [hb]; exact d0) (Nat.le_refl _) (Nat.le_refl _)
  generalize hT1 : (T.setVm vm₁).pushCell { cls := cX, slots := kX.instanceTypes.map defaultValue, vm := .none } = T1 at X₁ st1
  have hcat : (Value.ref T.heap.size).category = 1 := rfl
  have hcellA : T1.heap[T.heap.size]? = some (freshCell cX kX) := by rw [← hT1]; exact State.heap_pushCell_size _ _
  have d3' : decode c.code (pc + 3) = .ok (.dup, 1) := by rw [hb]; exact d3
  have d4' : decode c.code (pc + 4) = .ok (.ldc_w is, 3) := by rw [hb]; exact d4
  have hstr' : vk_R own is text sa s' := vk_R.warm hW0 hstr
  obtain ⟨U, hsteps, hrun, hend, hW, hsame, ce, hce, hO⟩ := X₁.ctorThrowS hexec htr (own := own) (cls := cls) (names := names) (ic := ic) hown' hcls hnames h (fun x hx => nomatch hx) hfX hkX hcellA (by rw [hhp, hT]; exact Nat.le_refl _) (msg := .ref sa) rfl
    (g := { method := m, pc := pc + 7, locals := ls, stack := .ref sa :: .ref T.heap.size :: .ref T.heap.size :: rest, locked := none }) rfl hsize rfl rfl (rest := rest) rfl
    (by rw [hb]; exact d7) (by rw [hb]; exact d10) hout hRframes (by simp only [List.map_cons, List.sum_cons, hcat]; omega) hlocks
  obtain ⟨f1, f2⟩ := vx_frame hsame
  rw [hhp] at f1 f2
  have hWs : s.WarmedH U.vm := State.WarmedH.trans hW0 hW
  have hcl : s.vm.findClass cls = some ce.cls := by
    have h9 := hO.cls
    rw [hvm] at h9
    exact h9
  have hall : s.sameButNew ({ U with vm := s.vm } : State) locs mc ms := by
    subst hA
    obtain ⟨e1, e2⟩ := hsame
    rw [State.setFrames_setFrames] at e1
    have h2 : (T.setVm s.vm).sameButNew ({ U with vm := s.vm } : State) [] (0 + 1) (0 + 6) := ⟨e1, e2⟩
    have h3 := X.same.trans h2
    rw [List.append_nil] at h3
    exact h3.mono hc hs
  refine ⟨U, ?_, .threw T.heap.size, hrun, hend, Or.inr ⟨T.heap.size, rfl, cls, ce, locs, hx U hWs.alike f1 (fun q hq => f2 q hq (fun z hz => nomatch hz)), hce, hO.vm, hcl, hWs, hall, hf⟩⟩
  refine st1 _ ?_
  show Steps p.tables e below (T1.setTop { method := m, pc := pc + 3, locals := ls, stack := .ref T.heap.size :: rest, locked := none }) _
  jvm_step X₁.here [X₁.here.top, hexec, d3', Value.category]
  exact X₁.ldcStringW hexec (own := own) (text := text) (index := is) (a := sa) hown' hstr'.1 hstr'.2
    (g := { method := m, pc := pc + 4, locals := ls, stack := .ref T.heap.size :: .ref T.heap.size :: rest, locked := none }) rfl d4' _ hsteps
end Ends
section Bodies
variable {l : Launch}
theorem vx_ofW {y : MethodName} {ws ws' : List Cond} {rm : Room} {Pc : Array Value → State → Prop} {Qc : Array Value → State → Outcome → State → Prop} {XC : String → State → State → Prop} {mc ms : Nat} {free : Addr → Prop} {cc : ByteArray} {maxL : Nat} {ret : Option FieldType}
    (hy : plainName y.cls = true) (hw : ws = Cond.code y cc maxL ret :: ws')
    (body : ∀ p e s m args below meth c s₁, BodyLoose p l y (headSpec ws rm) cc maxL ret e s m args below meth c s₁ → c.maxLocals = maxL → (∀ x ∈ c.exceptionTable.toList, False) → Pc args s →
      W p l e (headSpec ws rm).room s m args below meth c s.heap [] 0 0 (vx_MQ below Qc XC args s mc ms free) (entryFrame m args maxL)) : vx_Met l y ws rm Pc Qc XC mc ms free := by
  refine MetFree.of_bodyS (code := cc) (maxLocals := maxL) (ret := ret) hy ?_ ?_
  · intro args s m h hn
    obtain ⟨meth, c, h1, h2, h3, h4, h5, h6, -, -⟩ := Cond.code_spec hn (atoms_spec (ws := ws) h _ (by rw [hw]; exact List.mem_cons_self))
    exact ⟨meth, c, h1, h2, h3, h4, h5, h6⟩
  · intro p e s m args below meth c s₁ B hml hP _
    have hh0 : s₁.heap = s.heap := by rw [B.state]; rfl
    have ht : ∀ x ∈ c.exceptionTable.toList, False := by
      obtain ⟨meth9, c9, h1, h2, -, -, -, -, h7, -⟩ := Cond.code_spec B.named (atoms_spec (ws := ws) B.pre _ (by rw [hw]; exact List.mem_cons_self))
      cases Option.some.inj (h1.symm.trans B.method)
      cases Option.some.inj (h2.symm.trans (Stand.of_body B).code)
      intro x hx
      rw [Array.isEmpty_iff.mp h7] at hx
      cases hx
    obtain ⟨t, a1, o, b1, b2, b3⟩ := body p e s m args below meth c s₁ B hml ht hP s₁ hh0 (Stand.of_body B)
    exact ⟨t, o, a1, b1, b2, b3⟩
/-- the table of a body with handlers -/
theorem vx_table {p : Program} {x y : MethodName} {S : Spec} {cc bytes : ByteArray} {maxL maxL' : Nat} {ret ret' : Option FieldType} {e : Env} {s s₁ : State} {m : MethodId} {args : Array Value} {below : List Frame} {meth : Method} {c : Code} {hh : List (Nat × Nat × Nat × Nat)}
    (B : BodyLoose p l y S cc maxL ret e s m args below meth c s₁) (h : (Cond.codeWith y bytes maxL' ret' hh).before args s = true) : c.exceptionTable.toList = tableOf hh := by
  obtain ⟨m9, meth9, c9, hn9, h1, h2, -, -, h6, -⟩ := Cond.codeWith_spec h
  cases Option.some.inj (hn9.symm.trans B.named)
  cases Option.some.inj (h1.symm.trans B.method)
  cases Option.some.inj (h2.symm.trans (Stand.of_body B).code)
  rw [← h6, table_eq]
end Bodies
end VXA
/-! ===== END ===== -/
/-! ===== BEGIN a static call of a method with an exception table ===== -/
section VXS
variable {p : Program} {l : Launch} {e : Env} {R : Room} {s : State} {m : MethodId} {args : Array Value} {below : List Frame} {meth : Method} {c : Code} {T : State} {H : Heap} {locs : List Loc} {cells slots : Nat}
abbrev vx_CSW (R : Room) (s : State) (args : Array Value) (own : String) (index : Nat) (y : MethodName) (bytes : ByteArray) (maxL : Nat) (ret : Option FieldType) (hh : List (Nat × Nat × Nat × Nat)) (ws : List Cond) (rm : Room) (mc ms n : Nat) : Prop :=
  (rm.cells = mc ∧ rm.slots = ms ∧ rm.frames + 1 ≤ R.frames ∧ 8 + (maxL + 11) + rm.locals ≤ R.locals ∧ (∀ w ∈ ws, ∀ (a' : Array Value) (U : State), s.WarmedH U.vm → w.before a' U = true) ∧ Cond.codeWith y bytes maxL ret hh ∈ ws) ∧
  (Cond.codeWith y bytes maxL ret hh).before args s = true ∧ (Cond.initialized y.cls).before args s = true ∧ (y.cls ≠ "java/lang/invoke/MethodHandle" ∧ y.cls ≠ "java/lang/invoke/VarHandle") ∧
  (∀ sig, parseMethodDescriptor y.desc = some sig → n = sig.parameters.length) ∧ (Cond.methodLink own index y).before args s = true ∧ (Cond.static y).before args s = true
theorem vx_cwSW {own : String} {index maxL mc ms : Nat} {y : MethodName} {bytes : ByteArray} {ret : Option FieldType} {hh : List (Nat × Nat × Nat × Nat)} {Ts ws ws' : List Cond} {rm : Room} (n : Nat) (ht : ∀ w ∈ Ts, w.before args s = true) (hT : GoodIn Ts (va_wsS own index y ws)) (hw : ws = Cond.codeWith y bytes maxL ret hh :: ws') (hrc : rm.cells = mc) (hrs : rm.slots = ms)
    (hd : y.cls ≠ "java/lang/invoke/MethodHandle" ∧ y.cls ≠ "java/lang/invoke/VarHandle" ∧ (parseMethodDescriptor y.desc).map (fun d => d.parameters.length) = some n) (hR : rm.frames + 1 ≤ R.frames ∧ 8 + (maxL + 11) + rm.locals ≤ R.locals) :
    vx_CSW R s args own index y bytes maxL ret hh ws rm mc ms n := by
  have ok : ∀ w ∈ va_wsS own index y ws, w.before args s = true := fun w h => ht w (hT w h).1
  have hG : GoodIn Ts ws := fun w h => hT w (by unfold va_wsS; exact List.mem_append_right _ h)
  have hc : Cond.codeWith y bytes maxL ret hh ∈ ws := by rw [hw]; exact List.mem_cons_self
  refine ⟨⟨hrc, hrs, hR.1, hR.2, pay_in ht hG, hc⟩, ht _ (hG _ hc).1, ok _ (by simp [va_wsS]), ⟨hd.1, hd.2.1⟩, fun sig h => ?_, ok _ (by simp [va_wsS]), ok _ (by simp [va_wsS])⟩
  have h2 := hd.2.2
  rw [h] at h2
  exact (Option.some.inj h2).symm
theorem vx_callSW (X : Stand p l e R s m args below meth c T locs cells slots) (hexec : p.tables.exec = Jvm.exec) {own : String} {index : Nat} {y : MethodName} {bytes : ByteArray} {maxL : Nat} {ret : Option FieldType} {hh : List (Nat × Nat × Nat × Nat)}
    (hown : s.vm.findClass own = some m.cls) (hlink : (Cond.methodLink own index y).before args s = true) (hstat : (Cond.static y).before args s = true) (hinit : (Cond.initialized y.cls).before args s = true)
    (hcode : (Cond.codeWith y bytes maxL ret hh).before args s = true) (hy : y.cls ≠ "java/lang/invoke/MethodHandle" ∧ y.cls ≠ "java/lang/invoke/VarHandle")
    {W9 : Nat} {Pre : Pt → Array Value → Prop} {Post : Pt → Array Value → Option Value → Pt → Prop} (hK : Back l R p e below s args y 3 W9 Pre Post)
    {g : JFrame} (hg : g.method = m) (hsize : g.locals.size = c.maxLocals) {argsL rest : List Value} (hlen : ∀ sig, parseMethodDescriptor y.desc = some sig → argsL.length = sig.parameters.length)
    (hstack : g.stack = argsL.reverse ++ rest) (hW : 2 * g.monitorRoom + (rest.map fun v => v.category).sum ≤ W9) (hdg : decode c.code g.pc = .ok (.invokestatic index, 3))
    (hpre : ∀ vm₁, s.WarmedH vm₁ → Pre ⟨T.setVm vm₁, locs, cells, slots⟩ argsL.toArray) :
    ∃ (v : Option Value) (vm₁ : Vm) (B : Pt), s.WarmedH vm₁ ∧ Stand p l e R s m args below meth c B.U B.locs B.cells B.slots ∧ Post ⟨T.setVm vm₁, locs, cells, slots⟩ argsL.toArray v B ∧
      ∀ target, Steps p.tables e below (B.U.setTop { g with pc := g.pc + 3, stack := v.toList ++ rest }) target → Steps p.tables e below (T.setTop g) target := by
  obtain ⟨mk, methM, cM, hnamed, hmethM, -, -, -, -, -, -, hsigM⟩ := Cond.codeWith_spec hcode
  have hstatic : methM.isStatic = true := Cond.static_spec hnamed hmethM hstat
  obtain ⟨kP, hkP, -⟩ := className_of_methodNamed hnamed
  have hinitP : kP.init = .initialized := Cond.initialized_spec (findClass_of_methodNamed hnamed) hkP hinit
  obtain ⟨vm₁, X₁, hstep₁⟩ := X.invokestatic hexec hown hlink hnamed hmethM hstatic hkP hinitP hy (g := g) hg (argsL := argsL) (rest := rest) (hlen _ hsigM) hstack hdg
  obtain ⟨v, B, X', hpost, hsteps⟩ := hK m meth c ⟨T.setVm vm₁, locs, cells, slots⟩ { g with stack := rest } (.invokestatic index) mk argsL.toArray X₁ hg hsize hdg hW (X₁.named hnamed) (hpre vm₁ X₁.warmed)
  exact ⟨v, vm₁, B, X₁.warmed, X', hpost, fun target h => hstep₁ _ fun acts => by rw [doInvoke_state]; exact hsteps.trans h⟩
theorem vx_runSW {y : MethodName} {bytes cc : ByteArray} {maxL nL mc ms n index : Nat} {ret : Option FieldType} {hh : List (Nat × Nat × Nat × Nat)} {ws : List Cond} {rm : Room} {Pc : Array Value → State → Prop} {Qc : Array Value → State → Outcome → State → Prop} {free : Addr → Prop} {Ts : List Cond} {own : String} {As rest : List Value} {g : JFrame}
    (S : CallFix p m c cc nL s args Ts own) (hM : Met l y ws rm Pc Qc mc ms free) (cw : vx_CSW R s args own index y bytes maxL ret hh ws rm mc ms n) (hp : PreS s H Pc As)
    (hg : g.method = m) (hn : As.length = n) (hsize : g.locals.size = nL) (hstack : g.stack = As.reverse ++ rest) (hW : 2 * g.monitorRoom + (rest.map fun v => v.category).sum ≤ 8) (hdg : decode cc g.pc = .ok (.invokestatic index, 3)) (hf : cells + mc ≤ R.cells ∧ slots + ms ≤ R.slots) :
    va_Run p l e R s m args below meth c H locs cells slots mc ms g rest (Qc As.toArray) (free) := by
  obtain ⟨⟨hrc, hrs, hfr, hlo, hws, hcw⟩, hcode, hini, hy, hlen, hl, hstt⟩ := cw
  have hK : Back l R p e below s args y 3 8 (PreOf R mc ms Pc) (PostOf Qc mc ms free) := va_backW (hh := hh) (bytes := bytes) (maxL := maxL) (ret := ret) hM hp.1 hrc hrs hfr hlo hws hcw (fun a' U hW => word_at hW (Or.inl (by first | rfl | simp [Cond.onTables, Cond.keeps, Cond.steady])) hini)
  obtain ⟨hx, hb, hml, ho, -⟩ := S
  intro T hT X
  obtain ⟨v, vm₁, ⟨U', l2, c2, s2⟩, hW₁, X', ⟨g', mk, t, L, e1, e2, hq, h1, hL, h2, h3⟩, st⟩ := vx_callSW X hx (hh := hh) (bytes := bytes) (maxL := maxL) (ret := ret) ho hl hstt hini hcode hy hK hg (hsize.trans hml.symm) (argsL := As) (rest := rest) (fun sig h => hn.trans (hlen sig h)) hstack hW (by rw [hb]; exact hdg)
    (fun vm₁ hW₁ => ⟨hf.1, hf.2, hp.2 (T.setVm vm₁) hT hW₁⟩)
  dsimp only [Pt.U, Pt.locs, Pt.cells, Pt.slots] at X' e1 e2 h1 h2 h3 st
  subst h1; subst h2; subst h3
  exact ⟨v, (T.setVm vm₁).calling g' mk As.toArray, t, U', L, hT, X', hL, e1, e2, hq, st⟩
/-- not caught here, past rows that name other classes: it goes on to the caller -/
theorem vx_outP {p : Program} {l : Launch} {e : Env} {R : Room} {s : State} {m : MethodId} {args : Array Value} {below : List Frame} {meth : Method} {c : Code} {H : Heap} {locs : List Loc} {cells slots : Nat} {free : Addr → Prop} {ls : Array Slot} {rest : List Value} {Qc : Array Value → State → Outcome → State → Prop} {XC : String → State → State → Prop}
    {pc : Nat} {own E : String} {ce : Cell} {q : Addr} {mc ms : Nat} (hown : s.vm.findClass own = some m.cls) (hlocks : meth.locks = false)
    (hpass : ∀ z ∈ c.exceptionTable.toList, covers z pc = false ∨ (z.catchType ≠ 0 ∧ ∃ nm : String, (Cond.classLink own z.catchType nm).before args s = true ∧ va_Nc E nm s)) (hcell : H[q]? = some ce) (hv : ce.vm = .none) (hcl : s.vm.findClass E = some ce.cls)
    (hx : ∀ t : State, t.heap = H → s.vm.Alike t.vm → XC E s t) (hf : ∀ z ∈ locs, free z.base) (hc : cells ≤ mc) (hs : slots ≤ ms) :
    vx_W p l e R s m args below meth c H locs cells slots (vx_MQ below Qc XC args s mc ms free) (F0 m pc ls rest) q := by
  intro T hT X
  have hpl : e.platform.magicAccessors = ({} : Platform).magicAccessors := by rw [X.admits.platform]
  obtain ⟨vm', hW', X', st⟩ := X.outThrough hlocks q (g := F0 m pc ls rest) rfl rfl rfl (cell := ce) (by rw [hT]; exact hcell) (by rw [hv]; rfl)
    (by obtain ⟨k9, h9, -⟩ := Vm.findClass_spec hcl; exact ⟨k9, h9⟩) (fun z hz => by
      rcases hpass z hz with h | ⟨hz0, nm, hl1, hn1⟩
      · exact Or.inl h
      · obtain ⟨c6, hc6, hcl6⟩ := Cond.classLink_spec hown hl1 e.platform hpl
        obtain ⟨a8, b8, h1, h2, h3⟩ := hn1
        cases Option.some.inj (h1.symm.trans hcl)
        cases Option.some.inj (h2.symm.trans hc6)
        exact Or.inr ⟨hz0, _, hcl6, h3⟩)
  obtain ⟨g₀, hfr⟩ := X'.frames_eq
  have hcell9 : ((T.setVm vm').setFrames (.throwing q :: below)).heap[q]? = some ce := by
    show T.heap[q]? = some ce
    rw [hT]; exact hcell
  have hend : Ended ((T.setVm vm').setFrames (.throwing q :: below)) below (.threw q) := State.frames_setFrames _ (State.cur_lt_of_frames hfr)
  refine ⟨(T.setVm vm').setFrames (.throwing q :: below), ?_, .threw q, X'.here.running, hend, Or.inr ⟨q, rfl, E, ce, locs, hx _ hT (X'.ends _).1.alike, hcell9, hv, hcl, (X'.ends _).1, (X'.ends _).2.mono hc hs, hf⟩⟩
  rw [X.pushThrowing_eq]
  exact st
/-- a thing of a world lies in the heap -/
theorem vx_lt {D : va_G} {cl : List vw_C} {ws : va_W} {H1 : Heap} (h : va_P D cl ws H1) {k : Nat} {q : Nat × va_E} (hk : ws[k]? = some q) : q.1 < H1.size := (h k q hk).lt
end VXS
/-! ===== END ===== -/
/-! ===== BEGIN methods with a table of their own: called by a name, returning or throwing ===== -/
section VXH
/-! vx_backW, vx_callVX, vx_callSX, vx_callVW, vx_runVW, vx_runVX, vx_runSX, vx_ofWH follow the same proofs as their sisters above (Free/Laws.lean, Shelf42/LK1.lean); vx_outP calls Shelf42/NT130.lean (outThrough). -/
section
variable {l : Launch} {R : Room} {p : Program} {e : Env} {below : List Frame} {s : State} {sargs : Array Value} {y : MethodName} {len W9 : Nat}
theorem vx_backW {ws : List Cond} {rm : Room} {Pc : Array Value → State → Prop} {Qc : Array Value → State → Outcome → State → Prop} {XC : String → State → State → Prop} {mc ms : Nat} {free : Addr → Prop} {bytes : ByteArray} {maxL : Nat} {ret : Option FieldType} {hh : List (Nat × Nat × Nat × Nat)}
    (hM : vx_Met l y ws rm Pc Qc XC mc ms free) (hblind : FrameBlind Pc) (hrc : rm.cells = mc) (hrs : rm.slots = ms)
    (hframes : rm.frames + 1 ≤ R.frames) (hlocals : W9 + (maxL + 11) + rm.locals ≤ R.locals)
    (hws : ∀ w ∈ ws, ∀ a' U, s.WarmedH U.vm → w.before a' U = true) (hcode : Cond.codeWith y bytes maxL ret hh ∈ ws) (hinit : ∀ a' U, s.WarmedH U.vm → (Cond.initialized y.cls).before a' U = true) :
    vx_Back l R p e below s sargs y len W9 (PreOf R mc ms Pc) (PostOf Qc mc ms free) (vx_Post XC mc ms free) := by
  intro m meth c A g ig mk a X hg hsize hdg hW hn hp
  have h1 : (headSpec ws rm).pre.before a A.U = true := atoms_intro fun w hw => hws w hw _ _ X.warmed
  have h2 : (Cond.codeWith y bytes maxL ret hh).before a A.U = true := hws _ hcode _ _ X.warmed
  have h3 : (Cond.initialized y.cls).before a A.U = true := hinit _ _ X.warmed
  have h4 : A.cells + (headSpec ws rm).room.cells ≤ R.cells := by rw [show (headSpec ws rm).room.cells = mc from hrc]; exact hp.1
  have h5 : A.slots + (headSpec ws rm).room.slots ≤ R.slots := by rw [show (headSpec ws rm).room.slots = ms from hrs]; exact hp.2.1
  have hPc : Pc a (A.U.calling g mk a) := hblind _ _ _ _ hp.2.2
  obtain ⟨U, Ls, c0, s0⟩ := A
  dsimp only [Pt.U, Pt.locs, Pt.cells, Pt.slots] at h1 h2 h3 h4 h5 X hn hPc ⊢
  obtain ⟨m9, methY, cY, hn9, hmY, hcY, -, hlY, -⟩ := Cond.codeWith_spec h2
  cases Option.some.inj (hn9.symm.trans hn)
  obtain ⟨kY, hkY, -⟩ := className_of_methodNamed hn
  have hinitY : kY.init = .initialized := Cond.initialized_spec (findClass_of_methodNamed hn) hkY h3
  have h : At U g.method c below := by rw [hg]; exact X.here
  have hlocals9 : W9 + (maxL + 11) + (headSpec ws rm).room.locals ≤ R.locals := hlocals
  have happ : (headSpec ws rm).appliesLoose y e.platform (U.calling g mk a) = true :=
    Spec.appliesLoose_calling (g := g) h hdg hn hkY hinitY
      (X.room_calling (g := g) (R' := (headSpec ws rm).room) hsize hmY hcY hframes (by rw [hlY]; omega) h4 h5) h1
  obtain ⟨mid, hmid⟩ := h.above
  have hfr : (U.setTop g).frames = (.java g :: mid) ++ below := by rw [State.frames_setTop' g h.top, hmid]; rfl
  obtain ⟨o, s₂, hsteps, -, hend, hq⟩ := Steps.callFree hM p X.admits X.cas X.clock (acts := []) hfr happ hPc trivial
  have hq' : vx_Q Qc XC mc ms free a (U.calling g mk a) o s₂ := hq
  rw [State.frames_setTop' g h.top] at hend
  obtain ⟨g₀, hg0⟩ := Option.isSome_iff_exists.mp h.top
  obtain ⟨r, hr⟩ := State.topJava?_eq_some.mp hg0
  have hr' : (({ U with heap := s₂.heap, slotsUsed := s₂.slotsUsed } : State).setVm s₂.vm).frames = .java g₀ :: r := hr
  rcases hq' with ⟨hqc, L, hfe, hL⟩ | ⟨q, rfl, E, ce, L, hx, hce, hcv, hcl, hW₂, hsm, hL⟩
  · obtain ⟨⟨v, rfl⟩, hW₂, e2, q2, q3, q4, q5, q6⟩ := id hfe
    have e3 : s₂ = ({ (U.calling g mk a).setFrames s₂.frames with heap := s₂.heap, slotsUsed := s₂.slotsUsed } : State).setVm s₂.vm := by
      have : s₂ = ({ s₂ with vm := (U.calling g mk a).vm } : State).setVm s₂.vm := rfl
      rw [e2] at this
      exact this
    obtain ⟨c₂, i₂, len₂, hc₂, hd₂, hf₂⟩ := hend
    have hW' : U.WarmedH s₂.vm := hW₂
    have hcc : c₂ = c := by
      have h1 : s₂.code? g.method = U.code? g.method := by
        rw [State.code?_eq, State.code?_eq, hW'.alike.method?]
      exact Option.some.inj (hc₂.symm.trans (h1.trans h.code))
    subst hcc
    have hlen : len₂ = len := by rw [hdg] at hd₂; cases hd₂; rfl
    subst hlen
    have hs₂ : s₂ = (({ U with heap := s₂.heap, slotsUsed := s₂.slotsUsed } : State).setVm s₂.vm).setTop { g with pc := g.pc + len₂, stack := v.toList ++ g.stack } := by
      refine e3.trans ?_
      rw [hf₂, State.calling_eq h.top, State.setFrames_setFrames, State.setTop_of_frames _ hr', hr]
      rfl
    have hsame : U.sameButNew ({ U with heap := s₂.heap, slotsUsed := s₂.slotsUsed } : State) L mc ms := by
      refine ⟨?_, q2, q3, q4, q5, q6⟩
      obtain ⟨t, ht, -⟩ := State.frames_cons hr
      show ({ U with heap := s₂.heap, slotsUsed := s₂.slotsUsed } : State) = { U.setFrames U.frames with heap := s₂.heap, slotsUsed := s₂.slotsUsed }
      rw [State.setFrames_self ht]
    subst hg
    refine Or.inl ⟨v, ⟨(({ U with heap := s₂.heap, slotsUsed := s₂.slotsUsed } : State).setVm s₂.vm), Ls ++ L, c0 + mc, s0 + ms⟩,
      ⟨X.admits, X.cas, X.clock, X.frames, X.room, X.hears, X.method, X.code, (X.here.setHeapUsed s₂.heap s₂.slotsUsed).setVm hW'.alike, X.tail, State.WarmedH.trans X.warmed hW', X.limits, X.bytes, X.same.trans (hsame.setVm s.vm)⟩,
      ⟨g, mk, s₂, L, rfl, rfl, hqc, rfl, hL, rfl, rfl⟩, ?_⟩
    show Steps p.tables e below _ ((({ U with heap := s₂.heap, slotsUsed := s₂.slotsUsed } : State).setVm s₂.vm).setTop { g with pc := g.pc + len₂, stack := v.toList ++ g.stack })
    rw [← hs₂]
    exact hsteps
  · obtain ⟨e2, q2, q3, q4, q5, q6⟩ := id hsm
    have e3 : s₂ = ({ (U.calling g mk a).setFrames s₂.frames with heap := s₂.heap, slotsUsed := s₂.slotsUsed } : State).setVm s₂.vm := by
      have : s₂ = ({ s₂ with vm := (U.calling g mk a).vm } : State).setVm s₂.vm := rfl
      rw [e2] at this
      exact this
    have hf₂ : s₂.frames = .throwing q :: .java g :: U.frames.tail := hend
    have hW' : U.WarmedH s₂.vm := hW₂
    have hs₂ : s₂ = ((({ U with heap := s₂.heap, slotsUsed := s₂.slotsUsed } : State).setVm s₂.vm).setTop g).pushFrame (.throwing q) := by
      refine e3.trans ?_
      rw [hf₂, State.calling_eq h.top, State.setFrames_setFrames, State.pushFrame, State.frames_setTop _ hr', State.setTop_of_frames _ hr', State.setFrames_setFrames, hr]
      rfl
    have hsame : U.sameButNew ({ U with heap := s₂.heap, slotsUsed := s₂.slotsUsed } : State) L mc ms := by
      refine ⟨?_, q2, q3, q4, q5, q6⟩
      obtain ⟨t, ht, -⟩ := State.frames_cons hr
      show ({ U with heap := s₂.heap, slotsUsed := s₂.slotsUsed } : State) = { U.setFrames U.frames with heap := s₂.heap, slotsUsed := s₂.slotsUsed }
      rw [State.setFrames_self ht]
    subst hg
    refine Or.inr ⟨q, ⟨(({ U with heap := s₂.heap, slotsUsed := s₂.slotsUsed } : State).setVm s₂.vm), Ls ++ L, c0 + mc, s0 + ms⟩,
      ⟨X.admits, X.cas, X.clock, X.frames, X.room, X.hears, X.method, X.code, (X.here.setHeapUsed s₂.heap s₂.slotsUsed).setVm hW'.alike, X.tail, State.WarmedH.trans X.warmed hW', X.limits, X.bytes, X.same.trans (hsame.setVm s.vm)⟩,
      ⟨g, mk, s₂, L, E, ce, rfl, rfl, hx, hce, hcv, hcl, rfl, hL, rfl, rfl⟩, ?_⟩
    show Steps p.tables e below _ (((({ U with heap := s₂.heap, slotsUsed := s₂.slotsUsed } : State).setVm s₂.vm).setTop g).pushFrame (.throwing q))
    rw [← hs₂]
    exact hsteps
end
variable {p : Program} {l : Launch} {e : Env} {R : Room} {s : State} {m : MethodId} {args : Array Value} {below : List Frame} {meth : Method} {c : Code} {T : State} {H : Heap} {locs : List Loc} {cells slots : Nat}
theorem vx_callVX (X : Stand p l e R s m args below meth c T locs cells slots) (hexec : p.tables.exec = Jvm.exec) {own C : String} {index : Nat} {y : MethodName} {bytes : ByteArray} {maxL : Nat} {ret : Option FieldType} {hh : List (Nat × Nat × Nat × Nat)}
    (hown : s.vm.findClass own = some m.cls) (hlink : (Cond.methodLink own index y).before args s = true) (hinst : (Cond.instanceMethod y).before args s = true) (hsel : (Cond.selects C y y).before args s = true)
    (hcode : (Cond.codeWith y bytes maxL ret hh).before args s = true) (hy : y.cls ≠ "java/lang/invoke/MethodHandle" ∧ y.cls ≠ "java/lang/invoke/VarHandle")
    {W9 : Nat} {Pre : Pt → Array Value → Prop} {Post : Pt → Array Value → Option Value → Pt → Prop} {PostX : Pt → Array Value → Addr → Pt → Prop} (hK : vx_Back l R p e below s args y 3 W9 Pre Post PostX)
    {b : Addr} {cellB : Cell} (hcell : T.heap[b]? = some cellB) (hobj : cellB.vm.isStatics = false) (hcls : s.vm.findClass C = some cellB.cls)
    {g : JFrame} (hg : g.method = m) (hsize : g.locals.size = c.maxLocals) {argsL rest : List Value} (hlen : ∀ sig, parseMethodDescriptor y.desc = some sig → argsL.length = sig.parameters.length)
    (hstack : g.stack = argsL.reverse ++ .ref b :: rest) (hW : 2 * g.monitorRoom + (rest.map fun v => v.category).sum ≤ W9) (hdg : decode c.code g.pc = .ok (.invokevirtual index, 3))
    (hpre : ∀ vm₁, s.WarmedH vm₁ → Pre ⟨T.setVm vm₁, locs, cells, slots⟩ (Value.ref b :: argsL).toArray) :
    (∃ (v : Option Value) (vm₁ : Vm) (B : Pt), s.WarmedH vm₁ ∧ Stand p l e R s m args below meth c B.U B.locs B.cells B.slots ∧ Post ⟨T.setVm vm₁, locs, cells, slots⟩ (Value.ref b :: argsL).toArray v B ∧
      ∀ target, Steps p.tables e below (B.U.setTop { g with pc := g.pc + 3, stack := v.toList ++ rest }) target → Steps p.tables e below (T.setTop g) target) ∨
    (∃ (q : Addr) (vm₁ : Vm) (B : Pt), s.WarmedH vm₁ ∧ Stand p l e R s m args below meth c B.U B.locs B.cells B.slots ∧ PostX ⟨T.setVm vm₁, locs, cells, slots⟩ (Value.ref b :: argsL).toArray q B ∧
      Steps p.tables e below (T.setTop g) ((B.U.setTop { g with stack := rest }).pushFrame (.throwing q))) := by
  obtain ⟨mk, methM, hnamed, hmethM, hstM, habM⟩ := Cond.instanceMethod_spec hinst
  obtain ⟨m8, methM', cM, hn8, hmethM', -, -, -, -, -, -, hsigM⟩ := Cond.codeWith_spec hcode
  cases Option.some.inj (hn8.symm.trans hnamed)
  cases hmethM.symm.trans hmethM'
  obtain ⟨c2, r2, m2, q1, q2, q3, q4, kP, hkP, hkPi⟩ := Cond.selects_spec hsel
  cases hcls.symm.trans q1
  cases (State.methodFound?_of_named hnamed hy).symm.trans q2
  cases hnamed.symm.trans q3
  have hselP : selectMethod e.platform s.vm cellB.cls mk = .method mk := by rw [Launch.admits_selectMethod X.admits]; exact q4
  obtain ⟨vm₁, X₁, hstep₁⟩ := X.invokevirtual hexec hown hlink hnamed hmethM hstM hkP hkPi hy (a := b) (cell := cellB) hcell
    (fun z h => by rw [h] at hobj; cases hobj) hselP hmethM habM hkP hkPi (g := g) hg (argsL := argsL) (rest := rest) (hlen _ hsigM) hstack hdg
  rcases hK m meth c ⟨T.setVm vm₁, locs, cells, slots⟩ { g with stack := rest } (.invokevirtual index) mk (Value.ref b :: argsL).toArray X₁ hg hsize hdg hW (X₁.named hnamed) (hpre vm₁ X₁.warmed) with ⟨v, B, X', hpost, hsteps⟩ | ⟨q, B, X', hpost, hsteps⟩
  · exact Or.inl ⟨v, vm₁, B, X₁.warmed, X', hpost, fun target h => hstep₁ _ fun acts => by rw [doInvoke_state]; exact hsteps.trans h⟩
  · exact Or.inr ⟨q, vm₁, B, X₁.warmed, X', hpost, hstep₁ _ fun acts => by rw [doInvoke_state]; exact hsteps⟩
theorem vx_callSX (X : Stand p l e R s m args below meth c T locs cells slots) (hexec : p.tables.exec = Jvm.exec) {own : String} {index : Nat} {y : MethodName} {bytes : ByteArray} {maxL : Nat} {ret : Option FieldType} {hh : List (Nat × Nat × Nat × Nat)}
    (hown : s.vm.findClass own = some m.cls) (hlink : (Cond.methodLink own index y).before args s = true) (hstat : (Cond.static y).before args s = true) (hinit : (Cond.initialized y.cls).before args s = true)
    (hcode : (Cond.codeWith y bytes maxL ret hh).before args s = true) (hy : y.cls ≠ "java/lang/invoke/MethodHandle" ∧ y.cls ≠ "java/lang/invoke/VarHandle")
    {W9 : Nat} {Pre : Pt → Array Value → Prop} {Post : Pt → Array Value → Option Value → Pt → Prop} {PostX : Pt → Array Value → Addr → Pt → Prop} (hK : vx_Back l R p e below s args y 3 W9 Pre Post PostX)
    {g : JFrame} (hg : g.method = m) (hsize : g.locals.size = c.maxLocals) {argsL rest : List Value} (hlen : ∀ sig, parseMethodDescriptor y.desc = some sig → argsL.length = sig.parameters.length)
    (hstack : g.stack = argsL.reverse ++ rest) (hW : 2 * g.monitorRoom + (rest.map fun v => v.category).sum ≤ W9) (hdg : decode c.code g.pc = .ok (.invokestatic index, 3))
    (hpre : ∀ vm₁, s.WarmedH vm₁ → Pre ⟨T.setVm vm₁, locs, cells, slots⟩ argsL.toArray) :
    (∃ (v : Option Value) (vm₁ : Vm) (B : Pt), s.WarmedH vm₁ ∧ Stand p l e R s m args below meth c B.U B.locs B.cells B.slots ∧ Post ⟨T.setVm vm₁, locs, cells, slots⟩ argsL.toArray v B ∧
      ∀ target, Steps p.tables e below (B.U.setTop { g with pc := g.pc + 3, stack := v.toList ++ rest }) target → Steps p.tables e below (T.setTop g) target) ∨
    (∃ (q : Addr) (vm₁ : Vm) (B : Pt), s.WarmedH vm₁ ∧ Stand p l e R s m args below meth c B.U B.locs B.cells B.slots ∧ PostX ⟨T.setVm vm₁, locs, cells, slots⟩ argsL.toArray q B ∧
      Steps p.tables e below (T.setTop g) ((B.U.setTop { g with stack := rest }).pushFrame (.throwing q))) := by
  obtain ⟨mk, methM, cM, hnamed, hmethM, -, -, -, -, -, -, hsigM⟩ := Cond.codeWith_spec hcode
  have hstatic : methM.isStatic = true := Cond.static_spec hnamed hmethM hstat
  obtain ⟨kP, hkP, -⟩ := className_of_methodNamed hnamed
  have hinitP : kP.init = .initialized := Cond.initialized_spec (findClass_of_methodNamed hnamed) hkP hinit
  obtain ⟨vm₁, X₁, hstep₁⟩ := X.invokestatic hexec hown hlink hnamed hmethM hstatic hkP hinitP hy (g := g) hg (argsL := argsL) (rest := rest) (hlen _ hsigM) hstack hdg
  rcases hK m meth c ⟨T.setVm vm₁, locs, cells, slots⟩ { g with stack := rest } (.invokestatic index) mk argsL.toArray X₁ hg hsize hdg hW (X₁.named hnamed) (hpre vm₁ X₁.warmed) with ⟨v, B, X', hpost, hsteps⟩ | ⟨q, B, X', hpost, hsteps⟩
  · exact Or.inl ⟨v, vm₁, B, X₁.warmed, X', hpost, fun target h => hstep₁ _ fun acts => by rw [doInvoke_state]; exact hsteps.trans h⟩
  · exact Or.inr ⟨q, vm₁, B, X₁.warmed, X', hpost, hstep₁ _ fun acts => by rw [doInvoke_state]; exact hsteps⟩
theorem vx_callVW (X : Stand p l e R s m args below meth c T locs cells slots) (hexec : p.tables.exec = Jvm.exec) {own C : String} {index : Nat} {y : MethodName} {bytes : ByteArray} {maxL : Nat} {ret : Option FieldType} {hh : List (Nat × Nat × Nat × Nat)}
    (hown : s.vm.findClass own = some m.cls) (hlink : (Cond.methodLink own index y).before args s = true) (hinst : (Cond.instanceMethod y).before args s = true) (hsel : (Cond.selects C y y).before args s = true)
    (hcode : (Cond.codeWith y bytes maxL ret hh).before args s = true) (hy : y.cls ≠ "java/lang/invoke/MethodHandle" ∧ y.cls ≠ "java/lang/invoke/VarHandle")
    {W9 : Nat} {Pre : Pt → Array Value → Prop} {Post : Pt → Array Value → Option Value → Pt → Prop} (hK : Back l R p e below s args y 3 W9 Pre Post)
    {b : Addr} {cellB : Cell} (hcell : T.heap[b]? = some cellB) (hobj : cellB.vm.isStatics = false) (hcls : s.vm.findClass C = some cellB.cls)
    {g : JFrame} (hg : g.method = m) (hsize : g.locals.size = c.maxLocals) {argsL rest : List Value} (hlen : ∀ sig, parseMethodDescriptor y.desc = some sig → argsL.length = sig.parameters.length)
    (hstack : g.stack = argsL.reverse ++ .ref b :: rest) (hW : 2 * g.monitorRoom + (rest.map fun v => v.category).sum ≤ W9) (hdg : decode c.code g.pc = .ok (.invokevirtual index, 3))
    (hpre : ∀ vm₁, s.WarmedH vm₁ → Pre ⟨T.setVm vm₁, locs, cells, slots⟩ (Value.ref b :: argsL).toArray) :
    ∃ (v : Option Value) (vm₁ : Vm) (B : Pt), s.WarmedH vm₁ ∧ Stand p l e R s m args below meth c B.U B.locs B.cells B.slots ∧ Post ⟨T.setVm vm₁, locs, cells, slots⟩ (Value.ref b :: argsL).toArray v B ∧
      ∀ target, Steps p.tables e below (B.U.setTop { g with pc := g.pc + 3, stack := v.toList ++ rest }) target → Steps p.tables e below (T.setTop g) target := by
  obtain ⟨mk, methM, hnamed, hmethM, hstM, habM⟩ := Cond.instanceMethod_spec hinst
  obtain ⟨m8, methM', cM, hn8, hmethM', -, -, -, -, -, -, hsigM⟩ := Cond.codeWith_spec hcode
  cases Option.some.inj (hn8.symm.trans hnamed)
  cases hmethM.symm.trans hmethM'
  obtain ⟨c2, r2, m2, q1, q2, q3, q4, kP, hkP, hkPi⟩ := Cond.selects_spec hsel
  cases hcls.symm.trans q1
  cases (State.methodFound?_of_named hnamed hy).symm.trans q2
  cases hnamed.symm.trans q3
  have hselP : selectMethod e.platform s.vm cellB.cls mk = .method mk := by rw [Launch.admits_selectMethod X.admits]; exact q4
  obtain ⟨vm₁, X₁, hstep₁⟩ := X.invokevirtual hexec hown hlink hnamed hmethM hstM hkP hkPi hy (a := b) (cell := cellB) hcell
    (fun z h => by rw [h] at hobj; cases hobj) hselP hmethM habM hkP hkPi (g := g) hg (argsL := argsL) (rest := rest) (hlen _ hsigM) hstack hdg
  obtain ⟨v, B, X', hpost, hsteps⟩ := hK m meth c ⟨T.setVm vm₁, locs, cells, slots⟩ { g with stack := rest } (.invokevirtual index) mk (Value.ref b :: argsL).toArray X₁ hg hsize hdg hW (X₁.named hnamed) (hpre vm₁ X₁.warmed)
  exact ⟨v, vm₁, B, X₁.warmed, X', hpost, fun target h => hstep₁ _ fun acts => by rw [doInvoke_state]; exact hsteps.trans h⟩
abbrev vx_CVW (R : Room) (s : State) (args : Array Value) (own C : String) (index : Nat) (y : MethodName) (bytes : ByteArray) (maxL : Nat) (ret : Option FieldType) (hh : List (Nat × Nat × Nat × Nat)) (ws : List Cond) (rm : Room) (mc ms n : Nat) : Prop :=
  (rm.cells = mc ∧ rm.slots = ms ∧ rm.frames + 1 ≤ R.frames ∧ 8 + (maxL + 11) + rm.locals ≤ R.locals ∧ (∀ w ∈ ws, ∀ (a' : Array Value) (U : State), s.WarmedH U.vm → w.before a' U = true) ∧ Cond.codeWith y bytes maxL ret hh ∈ ws) ∧
  (Cond.codeWith y bytes maxL ret hh).before args s = true ∧ (Cond.initialized y.cls).before args s = true ∧ (y.cls ≠ "java/lang/invoke/MethodHandle" ∧ y.cls ≠ "java/lang/invoke/VarHandle") ∧
  (∀ sig, parseMethodDescriptor y.desc = some sig → n = sig.parameters.length) ∧ (Cond.methodLink own index y).before args s = true ∧ (Cond.instanceMethod y).before args s = true ∧ (Cond.selects C y y).before args s = true
theorem vx_cwVW {own C : String} {index maxL mc ms : Nat} {y : MethodName} {bytes : ByteArray} {ret : Option FieldType} {hh : List (Nat × Nat × Nat × Nat)} {Ts ws ws' : List Cond} {rm : Room} (n : Nat) (ht : ∀ w ∈ Ts, w.before args s = true) (hT : GoodIn Ts (wsV own index C y ws)) (hw : ws = Cond.codeWith y bytes maxL ret hh :: ws') (hrc : rm.cells = mc) (hrs : rm.slots = ms)
    (hd : y.cls = C ∧ y.cls ≠ "java/lang/invoke/MethodHandle" ∧ y.cls ≠ "java/lang/invoke/VarHandle" ∧ (parseMethodDescriptor y.desc).map (fun d => d.parameters.length) = some n) (hR : rm.frames + 1 ≤ R.frames ∧ 8 + (maxL + 11) + rm.locals ≤ R.locals) :
    vx_CVW R s args own C index y bytes maxL ret hh ws rm mc ms n := by
  obtain ⟨hC, hd⟩ := hd
  subst hC
  have ok : ∀ w ∈ wsV own index y.cls y ws, w.before args s = true := fun w h => ht w (hT w h).1
  have hG : GoodIn Ts ws := fun w h => hT w (by unfold wsV; exact List.mem_append_right _ h)
  have hc : Cond.codeWith y bytes maxL ret hh ∈ ws := by rw [hw]; exact List.mem_cons_self
  refine ⟨⟨hrc, hrs, hR.1, hR.2, pay_in ht hG, hc⟩, ht _ (hG _ hc).1, ok _ (by simp [wsV]), ⟨hd.1, hd.2.1⟩, fun sig h => ?_, ok _ (by simp [wsV]), ok _ (by simp [wsV]), ok _ (by simp [wsV])⟩
  have h2 := hd.2.2
  rw [h] at h2
  exact (Option.some.inj h2).symm
theorem vx_runVW {y : MethodName} {bytes cc : ByteArray} {maxL nL mc ms n index : Nat} {ret : Option FieldType} {hh : List (Nat × Nat × Nat × Nat)} {ws : List Cond} {rm : Room} {Pc : Array Value → State → Prop} {Qc : Array Value → State → Outcome → State → Prop} {free : Addr → Prop} {Ts : List Cond} {own C : String} {b : Addr} {As rest : List Value} {g : JFrame}
    (S : CallFix p m c cc nL s args Ts own) (hM : Met l y ws rm Pc Qc mc ms free) (cw : vx_CVW R s args own C index y bytes maxL ret hh ws rm mc ms n) (hp : PreV s H C b Pc As)
    (hg : g.method = m) (hn : As.length = n) (hsize : g.locals.size = nL) (hstack : g.stack = As.reverse ++ .ref b :: rest) (hW : 2 * g.monitorRoom + (rest.map fun v => v.category).sum ≤ 8) (hdg : decode cc g.pc = .ok (.invokevirtual index, 3)) (hf : cells + mc ≤ R.cells ∧ slots + ms ≤ R.slots) :
    va_Run p l e R s m args below meth c H locs cells slots mc ms g rest (Qc (Value.ref b :: As).toArray) free := by
  obtain ⟨⟨hrc, hrs, hfr, hlo, hws, hcw⟩, hcode, hini, hy, hlen, hl, hin, hse⟩ := cw
  have hK : Back l R p e below s args y 3 8 (PreOf R mc ms Pc) (PostOf Qc mc ms free) := va_backW (hh := hh) (bytes := bytes) (maxL := maxL) (ret := ret) hM hp.1 hrc hrs hfr hlo hws hcw (fun a' U hW => word_at hW (Or.inl (by first | rfl | simp [Cond.onTables, Cond.keeps, Cond.steady])) hini)
  obtain ⟨hx, hb, hml, ho, -⟩ := S
  obtain ⟨-, ⟨cellB, hcB, hoB, hclB⟩, hPc⟩ := hp
  intro T hT X
  obtain ⟨v, vm₁, ⟨U', l2, c2, s2⟩, hW₁, X', ⟨g', mk, t, L, e1, e2, hq, h1, hL, h2, h3⟩, st⟩ := vx_callVW X hx (C := C) (hh := hh) (bytes := bytes) (maxL := maxL) (ret := ret) ho hl hin hse hcode hy hK (by rw [hT]; exact hcB) hoB hclB hg (hsize.trans hml.symm) (argsL := As) (rest := rest) (fun sig h => hn.trans (hlen sig h)) hstack hW (by rw [hb]; exact hdg)
    (fun vm₁ hW₁ => ⟨hf.1, hf.2, hPc (T.setVm vm₁) hT hW₁⟩)
  dsimp only [Pt.U, Pt.locs, Pt.cells, Pt.slots] at X' e1 e2 h1 h2 h3 st
  subst h1; subst h2; subst h3
  exact ⟨v, (T.setVm vm₁).calling g' mk (Value.ref b :: As).toArray, t, U', L, hT, X', hL, e1, e2, hq, st⟩
section
variable {y : MethodName} {bytes cc : ByteArray} {maxL nL mc ms n index : Nat} {ret : Option FieldType} {ws : List Cond} {rm : Room} {Pc : Array Value → State → Prop} {Qc : Array Value → State → Outcome → State → Prop} {XC : String → State → State → Prop} {free : Addr → Prop} {Ts : List Cond} {own C : String} {b : Addr} {As rest : List Value} {g : JFrame}
theorem vx_runVX {hh : List (Nat × Nat × Nat × Nat)} (S : CallFix p m c cc nL s args Ts own) (hM : vx_Met l y ws rm Pc Qc XC mc ms free) (cw : vx_CVW R s args own C index y bytes maxL ret hh ws rm mc ms n) (hp : PreV s H C b Pc As)
    (hg : g.method = m) (hn : As.length = n) (hsize : g.locals.size = nL) (hstack : g.stack = As.reverse ++ .ref b :: rest) (hW : 2 * g.monitorRoom + (rest.map fun v => v.category).sum ≤ 8) (hdg : decode cc g.pc = .ok (.invokevirtual index, 3)) (hf : cells + mc ≤ R.cells ∧ slots + ms ≤ R.slots) :
    vx_Run p l e R s m args below meth c H locs cells slots mc ms g rest (Qc (Value.ref b :: As).toArray) XC free := by
  obtain ⟨⟨hrc, hrs, hfr, hlo, hws, hcw⟩, hcode, hini, hy, hlen, hl, hin, hse⟩ := cw
  have hK : vx_Back l R p e below s args y 3 8 (PreOf R mc ms Pc) (PostOf Qc mc ms free) (vx_Post XC mc ms free) := vx_backW (hh := hh) (bytes := bytes) (maxL := maxL) (ret := ret) hM hp.1 hrc hrs hfr hlo hws hcw (fun a' U hW => word_at hW (Or.inl (by first | rfl | simp [Cond.onTables, Cond.keeps, Cond.steady])) hini)
  obtain ⟨hx, hb, hml, ho, -⟩ := S
  obtain ⟨-, ⟨cellB, hcB, hoB, hclB⟩, hPc⟩ := hp
  intro T hT X
  rcases vx_callVX X hx (C := C) (hh := hh) (bytes := bytes) (maxL := maxL) (ret := ret) ho hl hin hse hcode hy hK (by rw [hT]; exact hcB) hoB hclB hg (hsize.trans hml.symm) (argsL := As) (rest := rest) (fun sig h => hn.trans (hlen sig h)) hstack hW (by rw [hb]; exact hdg)
    (fun vm₁ hW₁ => ⟨hf.1, hf.2, hPc (T.setVm vm₁) hT hW₁⟩) with ⟨v, vm₁, ⟨U', l2, c2, s2⟩, hW₁, X', ⟨g', mk, t, L, e1, e2, hq, h1, hL, h2, h3⟩, st⟩ | ⟨q, vm₁, ⟨U', l2, c2, s2⟩, hW₁, X', ⟨g', mk, t, L, E, ce, e1, e2, hq, hce, hcv, hcl, h1, hL, h2, h3⟩, st⟩
  · dsimp only [Pt.U, Pt.locs, Pt.cells, Pt.slots] at X' e1 e2 h1 h2 h3 st
    subst h1; subst h2; subst h3
    exact Or.inl ⟨v, (T.setVm vm₁).calling g' mk (Value.ref b :: As).toArray, t, U', L, hT, X', hL, e1, e2, hq, st⟩
  · dsimp only [Pt.U, Pt.locs, Pt.cells, Pt.slots] at X' e1 e2 h1 h2 h3 st hcl
    subst h1; subst h2; subst h3
    exact Or.inr ⟨q, (T.setVm vm₁).calling g' mk (Value.ref b :: As).toArray, t, U', L, E, ce, hT, X', hL, e1, e2, hq, hce, hcv, vx_cls hW₁ hcl, st⟩
theorem vx_runSX {hh : List (Nat × Nat × Nat × Nat)} (S : CallFix p m c cc nL s args Ts own) (hM : vx_Met l y ws rm Pc Qc XC mc ms free) (cw : vx_CSW R s args own index y bytes maxL ret hh ws rm mc ms n) (hp : PreS s H Pc As)
    (hg : g.method = m) (hn : As.length = n) (hsize : g.locals.size = nL) (hstack : g.stack = As.reverse ++ rest) (hW : 2 * g.monitorRoom + (rest.map fun v => v.category).sum ≤ 8) (hdg : decode cc g.pc = .ok (.invokestatic index, 3)) (hf : cells + mc ≤ R.cells ∧ slots + ms ≤ R.slots) :
    vx_Run p l e R s m args below meth c H locs cells slots mc ms g rest (Qc As.toArray) XC free := by
  obtain ⟨⟨hrc, hrs, hfr, hlo, hws, hcw⟩, hcode, hini, hy, hlen, hl, hstt⟩ := cw
  have hK : vx_Back l R p e below s args y 3 8 (PreOf R mc ms Pc) (PostOf Qc mc ms free) (vx_Post XC mc ms free) := vx_backW (hh := hh) (bytes := bytes) (maxL := maxL) (ret := ret) hM hp.1 hrc hrs hfr hlo hws hcw (fun a' U hW => word_at hW (Or.inl (by first | rfl | simp [Cond.onTables, Cond.keeps, Cond.steady])) hini)
  obtain ⟨hx, hb, hml, ho, -⟩ := S
  intro T hT X
  rcases vx_callSX X hx (hh := hh) (bytes := bytes) (maxL := maxL) (ret := ret) ho hl hstt hini hcode hy hK hg (hsize.trans hml.symm) (argsL := As) (rest := rest) (fun sig h => hn.trans (hlen sig h)) hstack hW (by rw [hb]; exact hdg)
    (fun vm₁ hW₁ => ⟨hf.1, hf.2, hp.2 (T.setVm vm₁) hT hW₁⟩) with ⟨v, vm₁, ⟨U', l2, c2, s2⟩, hW₁, X', ⟨g', mk, t, L, e1, e2, hq, h1, hL, h2, h3⟩, st⟩ | ⟨q, vm₁, ⟨U', l2, c2, s2⟩, hW₁, X', ⟨g', mk, t, L, E, ce, e1, e2, hq, hce, hcv, hcl, h1, hL, h2, h3⟩, st⟩
  · dsimp only [Pt.U, Pt.locs, Pt.cells, Pt.slots] at X' e1 e2 h1 h2 h3 st
    subst h1; subst h2; subst h3
    exact Or.inl ⟨v, (T.setVm vm₁).calling g' mk As.toArray, t, U', L, hT, X', hL, e1, e2, hq, st⟩
  · dsimp only [Pt.U, Pt.locs, Pt.cells, Pt.slots] at X' e1 e2 h1 h2 h3 st hcl
    subst h1; subst h2; subst h3
    exact Or.inr ⟨q, (T.setVm vm₁).calling g' mk As.toArray, t, U', L, E, ce, hT, X', hL, e1, e2, hq, hce, hcv, vx_cls hW₁ hcl, st⟩
end
end VXH
theorem vx_ofWH {l : Launch} {y : MethodName} {ws ws' : List Cond} {rm : Room} {Pc : Array Value → State → Prop} {Qc : Array Value → State → Outcome → State → Prop} {XC : String → State → State → Prop} {mc ms : Nat} {free : Addr → Prop} {cc : ByteArray} {maxL : Nat} {ret : Option FieldType} {hh : List (Nat × Nat × Nat × Nat)}
    (hy : plainName y.cls = true) (hw : ws = Cond.codeWith y cc maxL ret hh :: ws')
    (body : ∀ p e s m args below meth c s₁, BodyLoose p l y (headSpec ws rm) cc maxL ret e s m args below meth c s₁ → c.maxLocals = maxL → Pc args s →
      W p l e (headSpec ws rm).room s m args below meth c s.heap [] 0 0 (vx_MQ below Qc XC args s mc ms free) (entryFrame m args maxL)) : vx_Met l y ws rm Pc Qc XC mc ms free := by
  refine MetFree.of_bodyS (code := cc) (maxLocals := maxL) (ret := ret) hy ?_ ?_
  · intro args s m h hn
    obtain ⟨m9, meth, c, hn9, h1, h2, h3, h4, -, h5, h6, -⟩ := Cond.codeWith_spec (atoms_spec (ws := ws) h _ (by rw [hw]; exact List.mem_cons_self))
    cases hn.symm.trans hn9
    exact ⟨meth, c, h1, h2, h3, h4, h5, h6⟩
  · intro p e s m args below meth c s₁ B hml hP _
    have hh0 : s₁.heap = s.heap := by rw [B.state]; rfl
    obtain ⟨t, a1, o, b1, b2, b3⟩ := body p e s m args below meth c s₁ B hml hP s₁ hh0 (Stand.of_body B)
    exact ⟨t, o, a1, b1, b2, b3⟩
/-! ===== END ===== -/
end
section
section VXIA
variable {p : Program} {l : Launch} {e : Env} {R : Room} {s : State} {m : MethodId} {args : Array Value} {below : List Frame} {meth : Method} {c : Code} {T : State} {locs : List Loc} {cells slots : Nat}
theorem vx_callI (X : Stand p l e R s m args below meth c T locs cells slots) (hexec : p.tables.exec = Jvm.exec) {own : String} {index : Nat} {y : MethodName} {bytes : ByteArray} {maxL : Nat}
    (hown : s.vm.findClass own = some m.cls) (hy1 : y.name = "<init>") (hlink : (Cond.methodLink own index y).before args s = true) (hinst : (Cond.instanceMethod y).before args s = true)
    (hcode : (Cond.code y bytes maxL none).before args s = true) (hy : y.cls ≠ "java/lang/invoke/MethodHandle" ∧ y.cls ≠ "java/lang/invoke/VarHandle")
    {W9 : Nat} {Pre : Pt → Array Value → Prop} {Post : Pt → Array Value → Option Value → Pt → Prop} {PostX : Pt → Array Value → Addr → Pt → Prop} (hK : vx_Back l R p e below s args y 3 W9 Pre Post PostX)
    {g : JFrame} (hg : g.method = m) (hsize : g.locals.size = c.maxLocals) {a : Addr} {argsL rest : List Value} (hlen : ∀ sig, parseMethodDescriptor y.desc = some sig → argsL.length = sig.parameters.length)
    (hstack : g.stack = argsL.reverse ++ .ref a :: rest) (hW : 2 * g.monitorRoom + (rest.map fun v => v.category).sum ≤ W9) (hdg : decode c.code g.pc = .ok (.invokespecial index, 3))
    (hpre : ∀ vm₁, s.WarmedH vm₁ → Pre ⟨T.setVm vm₁, locs, cells, slots⟩ (Value.ref a :: argsL).toArray) :
    (∃ (v : Option Value) (vm₁ : Vm) (B : Pt), s.WarmedH vm₁ ∧ Stand p l e R s m args below meth c B.U B.locs B.cells B.slots ∧ Post ⟨T.setVm vm₁, locs, cells, slots⟩ (Value.ref a :: argsL).toArray v B ∧
      ∀ target, Steps p.tables e below (B.U.setTop { g with pc := g.pc + 3, stack := v.toList ++ rest }) target → Steps p.tables e below (T.setTop g) target) ∨
    (∃ (q : Addr) (vm₁ : Vm) (B : Pt), s.WarmedH vm₁ ∧ Stand p l e R s m args below meth c B.U B.locs B.cells B.slots ∧ PostX ⟨T.setVm vm₁, locs, cells, slots⟩ (Value.ref a :: argsL).toArray q B ∧
      Steps p.tables e below (T.setTop g) ((B.U.setTop { g with stack := rest }).pushFrame (.throwing q))) := by
  subst hg
  have hpl : e.platform.magicAccessors = ({} : Platform).magicAccessors := by rw [X.admits.platform]
  obtain ⟨mk, methM, cM, kP, vm₁, hnamed, hmethM, hcodeM, -, hlocalsM, -, hkP, -, hW₁, hstep₁⟩ := Steps.initColdArgs (e := e) X.here hexec X.warmed hpl hown hy1 hy hlink hinst hcode (f := g) rfl hlen hstack hdg
  have X₁ := X.noted hW₁
  rcases hK g.method meth c ⟨T.setVm vm₁, locs, cells, slots⟩ { g with stack := rest } (.invokespecial index) mk (Value.ref a :: argsL).toArray X₁ rfl hsize hdg hW (X₁.named hnamed) (hpre vm₁ X₁.warmed) with ⟨v, B, X', hpost, hsteps⟩ | ⟨q, B, X', hpost, hsteps⟩
  · exact Or.inl ⟨v, vm₁, B, X₁.warmed, X', hpost, fun target h => hstep₁ _ fun acts => by rw [doInvoke_state]; exact hsteps.trans h⟩
  · exact Or.inr ⟨q, vm₁, B, X₁.warmed, X', hpost, hstep₁ _ fun acts => by rw [doInvoke_state]; exact hsteps⟩
end VXIA
section VXIB
variable {p : Program} {l : Launch} {e : Env} {R : Room} {s : State} {m : MethodId} {args : Array Value} {below : List Frame} {meth : Method} {c : Code} {H : Heap} {locs : List Loc} {cells slots : Nat}
variable {y : MethodName} {bytes cc : ByteArray} {maxL nL mc ms n index : Nat} {ret : Option FieldType} {ws : List Cond} {rm : Room} {Pc : Array Value → State → Prop} {Qc : Array Value → State → Outcome → State → Prop} {XC : String → State → State → Prop} {free : Addr → Prop} {Ts : List Cond} {own C : String} {b : Addr} {As rest : List Value} {g : JFrame}
theorem vx_runI (S : CallFix p m c cc nL s args Ts own) (hM : vx_Met l y ws rm Pc Qc XC mc ms free) (cw : CallB R s args own index y bytes maxL none ws rm mc ms n ∧ y.name = "<init>" ∧ (Cond.instanceMethod y).before args s = true) (hp : PreS s H Pc (.ref b :: As))
    (hg : g.method = m) (hn : As.length = n) (hsize : g.locals.size = nL) (hstack : g.stack = As.reverse ++ .ref b :: rest) (hW : 2 * g.monitorRoom + (rest.map fun v => v.category).sum ≤ 8) (hdg : decode cc g.pc = .ok (.invokespecial index, 3)) (hf : cells + mc ≤ R.cells ∧ slots + ms ≤ R.slots) :
    vx_Run p l e R s m args below meth c H locs cells slots mc ms g rest (Qc (Value.ref b :: As).toArray) XC free := by
  have hK : vx_Back l R p e below s args y 3 8 (PreOf R mc ms Pc) (PostOf Qc mc ms free) (vx_Post XC mc ms free) := vx_callBack cw.1 hM hp.1
  obtain ⟨⟨-, -, -, -, -, -, hcode, -, hy, hlen, hl⟩, hy1, hin⟩ := cw
  obtain ⟨hx, hb, hml, ho, -⟩ := S
  have hPc := hp.2
  intro T hT X
  rcases vx_callI X hx (bytes := bytes) (maxL := maxL) ho hy1 hl hin hcode hy hK hg (hsize.trans hml.symm) (a := b) (argsL := As) (rest := rest) (fun sig h => hn.trans (hlen sig h)) hstack hW (by rw [hb]; exact hdg)
    (fun vm₁ hW₁ => ⟨hf.1, hf.2, hPc (T.setVm vm₁) hT hW₁⟩) with ⟨v, vm₁, ⟨U', l2, c2, s2⟩, hW₁, X', ⟨g', mk, t, L, e1, e2, hq, h1, hL, h2, h3⟩, st⟩ | ⟨q, vm₁, ⟨U', l2, c2, s2⟩, hW₁, X', ⟨g', mk, t, L, E, ce, e1, e2, hq, hce, hcv, hcl, h1, hL, h2, h3⟩, st⟩
  · dsimp only [Pt.U, Pt.locs, Pt.cells, Pt.slots] at X' e1 e2 h1 h2 h3 st
    subst h1; subst h2; subst h3
    exact Or.inl ⟨v, (T.setVm vm₁).calling g' mk (Value.ref b :: As).toArray, t, U', L, hT, X', hL, e1, e2, hq, st⟩
  · dsimp only [Pt.U, Pt.locs, Pt.cells, Pt.slots] at X' e1 e2 h1 h2 h3 st hcl
    subst h1; subst h2; subst h3
    exact Or.inr ⟨q, (T.setVm vm₁).calling g' mk (Value.ref b :: As).toArray, t, U', L, E, ce, hT, X', hL, e1, e2, hq, hce, hcv, vx_cls hW₁ hcl, st⟩
end VXIB
section
variable {p : Program} {l : Launch} {e : Env} {R : Room} {s : State} {m : MethodId} {args : Array Value} {below : List Frame} {meth : Method} {c : Code} {H : Heap} {locs : List Loc} {cells slots : Nat}
variable {T : State}
theorem vx_callVN (X : Stand p l e R s m args below meth c T locs cells slots) (hexec : p.tables.exec = Jvm.exec) {own C : String} {index : Nat} {host : String} {y : MethodName} {bytes : ByteArray} {maxL : Nat} {ret : Option FieldType}
    (hown : s.vm.findClass own = some m.cls) (hlink : (Cond.methodLinkNest own index y host).before args s = true) (hinst : (Cond.instanceMethod y).before args s = true) (hsel : (Cond.selects C y y).before args s = true)
    (hcode : (Cond.code y bytes maxL ret).before args s = true) (hy : y.cls ≠ "java/lang/invoke/MethodHandle" ∧ y.cls ≠ "java/lang/invoke/VarHandle")
    {W : Nat} {Pre : Pt → Array Value → Prop} {Post : Pt → Array Value → Option Value → Pt → Prop} {PostX : Pt → Array Value → Addr → Pt → Prop} (hK : vx_Back l R p e below s args y 3 W Pre Post PostX)
    {b : Addr} {cellB : Cell} (hcell : T.heap[b]? = some cellB) (hobj : cellB.vm.isStatics = false) (hcls : s.vm.findClass C = some cellB.cls)
    {g : JFrame} (hg : g.method = m) (hsize : g.locals.size = c.maxLocals) {argsL rest : List Value} (hlen : ∀ sig, parseMethodDescriptor y.desc = some sig → argsL.length = sig.parameters.length)
    (hstack : g.stack = argsL.reverse ++ .ref b :: rest) (hW : 2 * g.monitorRoom + (rest.map fun v => v.category).sum ≤ W) (hdg : decode c.code g.pc = .ok (.invokevirtual index, 3))
    (hpre : ∀ vm₁, s.WarmedH vm₁ → Pre ⟨T.setVm vm₁, locs, cells, slots⟩ (Value.ref b :: argsL).toArray) :
    (∃ (v : Option Value) (vm₁ : Vm) (B : Pt), s.WarmedH vm₁ ∧ Stand p l e R s m args below meth c B.U B.locs B.cells B.slots ∧ Post ⟨T.setVm vm₁, locs, cells, slots⟩ (Value.ref b :: argsL).toArray v B ∧
      ∀ target, Steps p.tables e below (B.U.setTop { g with pc := g.pc + 3, stack := v.toList ++ rest }) target → Steps p.tables e below (T.setTop g) target) ∨
    (∃ (q : Addr) (vm₁ : Vm) (B : Pt), s.WarmedH vm₁ ∧ Stand p l e R s m args below meth c B.U B.locs B.cells B.slots ∧ PostX ⟨T.setVm vm₁, locs, cells, slots⟩ (Value.ref b :: argsL).toArray q B ∧
      Steps p.tables e below (T.setTop g) ((B.U.setTop { g with stack := rest }).pushFrame (.throwing q))) := by
  obtain ⟨mk, methM, hnamed, hmethM, hstM, habM⟩ := Cond.instanceMethod_spec hinst
  obtain ⟨methM', cM, hmethM', -, -, -, -, -, -, hsigM⟩ := Cond.code_spec hnamed hcode
  cases hmethM.symm.trans hmethM'
  obtain ⟨c2, r2, m2, q1, q2, q3, q4, kP, hkP, hkPi⟩ := Cond.selects_spec hsel
  cases hcls.symm.trans q1
  cases (State.methodFound?_of_named hnamed hy).symm.trans q2
  cases hnamed.symm.trans q3
  have hselP : selectMethod e.platform s.vm cellB.cls mk = .method mk := by rw [Launch.admits_selectMethod X.admits]; exact q4
  obtain ⟨vm₁, X₁, hstep₁⟩ := X.invokevirtualNest hexec hown hlink hnamed hmethM hstM hkP hkPi hy (a := b) (cell := cellB) hcell
    (fun z h => by rw [h] at hobj; cases hobj) hselP hmethM habM hkP hkPi (g := g) hg (argsL := argsL) (rest := rest) (hlen _ hsigM) hstack hdg
  rcases hK m meth c ⟨T.setVm vm₁, locs, cells, slots⟩ { g with stack := rest } (.invokevirtual index) mk (Value.ref b :: argsL).toArray X₁ hg hsize hdg hW (X₁.named hnamed) (hpre vm₁ X₁.warmed) with ⟨v, B, X', hpost, hsteps⟩ | ⟨q, B, X', hpost, hsteps⟩
  · exact Or.inl ⟨v, vm₁, B, X₁.warmed, X', hpost, fun target h => hstep₁ _ fun acts => by rw [doInvoke_state]; exact hsteps.trans h⟩
  · exact Or.inr ⟨q, vm₁, B, X₁.warmed, X', hpost, hstep₁ _ fun acts => by rw [doInvoke_state]; exact hsteps⟩
theorem vx_callSN (X : Stand p l e R s m args below meth c T locs cells slots) (hexec : p.tables.exec = Jvm.exec) {own : String} {index : Nat} {host : String} {y : MethodName} {bytes : ByteArray} {maxL : Nat} {ret : Option FieldType}
    (hown : s.vm.findClass own = some m.cls) (hlink : (Cond.methodLinkNest own index y host).before args s = true) (hstat : (Cond.static y).before args s = true) (hinit : (Cond.initialized y.cls).before args s = true)
    (hcode : (Cond.code y bytes maxL ret).before args s = true) (hy : y.cls ≠ "java/lang/invoke/MethodHandle" ∧ y.cls ≠ "java/lang/invoke/VarHandle")
    {W : Nat} {Pre : Pt → Array Value → Prop} {Post : Pt → Array Value → Option Value → Pt → Prop} {PostX : Pt → Array Value → Addr → Pt → Prop} (hK : vx_Back l R p e below s args y 3 W Pre Post PostX)
    {g : JFrame} (hg : g.method = m) (hsize : g.locals.size = c.maxLocals) {argsL rest : List Value} (hlen : ∀ sig, parseMethodDescriptor y.desc = some sig → argsL.length = sig.parameters.length)
    (hstack : g.stack = argsL.reverse ++ rest) (hW : 2 * g.monitorRoom + (rest.map fun v => v.category).sum ≤ W) (hdg : decode c.code g.pc = .ok (.invokestatic index, 3))
    (hpre : ∀ vm₁, s.WarmedH vm₁ → Pre ⟨T.setVm vm₁, locs, cells, slots⟩ argsL.toArray) :
    (∃ (v : Option Value) (vm₁ : Vm) (B : Pt), s.WarmedH vm₁ ∧ Stand p l e R s m args below meth c B.U B.locs B.cells B.slots ∧ Post ⟨T.setVm vm₁, locs, cells, slots⟩ argsL.toArray v B ∧
      ∀ target, Steps p.tables e below (B.U.setTop { g with pc := g.pc + 3, stack := v.toList ++ rest }) target → Steps p.tables e below (T.setTop g) target) ∨
    (∃ (q : Addr) (vm₁ : Vm) (B : Pt), s.WarmedH vm₁ ∧ Stand p l e R s m args below meth c B.U B.locs B.cells B.slots ∧ PostX ⟨T.setVm vm₁, locs, cells, slots⟩ argsL.toArray q B ∧
      Steps p.tables e below (T.setTop g) ((B.U.setTop { g with stack := rest }).pushFrame (.throwing q))) := by
  obtain ⟨mk, hnamed⟩ := Cond.code_named hcode
  obtain ⟨methM, cM, hmethM, -, -, -, -, -, -, hsigM⟩ := Cond.code_spec hnamed hcode
  have hstatic : methM.isStatic = true := Cond.static_spec hnamed hmethM hstat
  obtain ⟨kP, hkP, -⟩ := className_of_methodNamed hnamed
  have hinitP : kP.init = .initialized := Cond.initialized_spec (findClass_of_methodNamed hnamed) hkP hinit
  obtain ⟨vm₁, X₁, hstep₁⟩ := X.invokestaticNest hexec hown hlink hnamed hmethM hstatic hkP hinitP hy (g := g) hg (argsL := argsL) (rest := rest) (hlen _ hsigM) hstack hdg
  rcases hK m meth c ⟨T.setVm vm₁, locs, cells, slots⟩ { g with stack := rest } (.invokestatic index) mk argsL.toArray X₁ hg hsize hdg hW (X₁.named hnamed) (hpre vm₁ X₁.warmed) with ⟨v, B, X', hpost, hsteps⟩ | ⟨q, B, X', hpost, hsteps⟩
  · exact Or.inl ⟨v, vm₁, B, X₁.warmed, X', hpost, fun target h => hstep₁ _ fun acts => by rw [doInvoke_state]; exact hsteps.trans h⟩
  · exact Or.inr ⟨q, vm₁, B, X₁.warmed, X', hpost, hstep₁ _ fun acts => by rw [doInvoke_state]; exact hsteps⟩
theorem vx_runVN {y : MethodName} {bytes cc : ByteArray} {maxL nL mc ms n index : Nat} {ret : Option FieldType} {ws : List Cond} {rm : Room} {Pc : Array Value → State → Prop} {Qc : Array Value → State → Outcome → State → Prop} {XC : String → State → State → Prop} {free : Addr → Prop} {Ts : List Cond} {own C host : String} {b : Addr} {As rest : List Value} {g : JFrame}
    (S : CallFix p m c cc nL s args Ts own) (hM : vx_Met l y ws rm Pc Qc XC mc ms free) (cw : va_CN R s args own index y host bytes maxL ret ws rm mc ms n ∧ (Cond.instanceMethod y).before args s = true ∧ (Cond.selects C y y).before args s = true) (hp : PreV s H C b Pc As)
    (hg : g.method = m) (hn : As.length = n) (hsize : g.locals.size = nL) (hstack : g.stack = As.reverse ++ .ref b :: rest) (hW : 2 * g.monitorRoom + (rest.map fun v => v.category).sum ≤ 8) (hdg : decode cc g.pc = .ok (.invokevirtual index, 3)) (hf : cells + mc ≤ R.cells ∧ slots + ms ≤ R.slots) :
    vx_Run p l e R s m args below meth c H locs cells slots mc ms g rest (Qc (Value.ref b :: As).toArray) XC free := by
  obtain ⟨⟨⟨hrc, hrs, hfr, hlo, hws, hcw⟩, hcode, hini, hy, hlen, hl⟩, hx1, hx2⟩ := cw
  have hK : vx_Back l R p e below s args y 3 8 (PreOf R mc ms Pc) (PostOf Qc mc ms free) (vx_Post XC mc ms free) := vx_back (bytes := bytes) (maxL := maxL) (ret := ret) hM hp.1 hrc hrs hfr hlo hws hcw (fun a' U hW => word_at hW (Or.inl (by first | rfl | simp [Cond.onTables, Cond.keeps, Cond.steady])) hini)
  obtain ⟨hx, hb, hml, ho, -⟩ := S
  obtain ⟨-, ⟨cellB, hcB, hoB, hclB⟩, hPc⟩ := hp
  intro T hT X
  rcases vx_callVN X hx (C := C) (bytes := bytes) (maxL := maxL) (ret := ret) ho hl hx1 hx2 hcode hy hK (by rw [hT]; exact hcB) hoB hclB hg (hsize.trans hml.symm) (argsL := As) (rest := rest) (fun sig h => hn.trans (hlen sig h)) hstack hW (by rw [hb]; exact hdg)
    (fun vm₁ hW₁ => ⟨hf.1, hf.2, hPc (T.setVm vm₁) hT hW₁⟩) with ⟨v, vm₁, ⟨U', l2, c2, s2⟩, hW₁, X', ⟨g', mk, t, L, e1, e2, hq, h1, hL, h2, h3⟩, st⟩ | ⟨q, vm₁, ⟨U', l2, c2, s2⟩, hW₁, X', ⟨g', mk, t, L, E, ce, e1, e2, hq, hce, hcv, hcl, h1, hL, h2, h3⟩, st⟩
  · dsimp only [Pt.U, Pt.locs, Pt.cells, Pt.slots] at X' e1 e2 h1 h2 h3 st
    subst h1; subst h2; subst h3
    exact Or.inl ⟨v, (T.setVm vm₁).calling g' mk (Value.ref b :: As).toArray, t, U', L, hT, X', hL, e1, e2, hq, st⟩
  · dsimp only [Pt.U, Pt.locs, Pt.cells, Pt.slots] at X' e1 e2 h1 h2 h3 st hcl
    subst h1; subst h2; subst h3
    exact Or.inr ⟨q, (T.setVm vm₁).calling g' mk (Value.ref b :: As).toArray, t, U', L, E, ce, hT, X', hL, e1, e2, hq, hce, hcv, vx_cls hW₁ hcl, st⟩
theorem vx_runSN {y : MethodName} {bytes cc : ByteArray} {maxL nL mc ms n index : Nat} {ret : Option FieldType} {ws : List Cond} {rm : Room} {Pc : Array Value → State → Prop} {Qc : Array Value → State → Outcome → State → Prop} {XC : String → State → State → Prop} {free : Addr → Prop} {Ts : List Cond} {own host : String} {As rest : List Value} {g : JFrame}
    (S : CallFix p m c cc nL s args Ts own) (hM : vx_Met l y ws rm Pc Qc XC mc ms free) (cw : va_CN R s args own index y host bytes maxL ret ws rm mc ms n ∧ (Cond.static y).before args s = true ∧ True) (hp : PreS s H Pc As)
    (hg : g.method = m) (hn : As.length = n) (hsize : g.locals.size = nL) (hstack : g.stack = As.reverse ++ rest) (hW : 2 * g.monitorRoom + (rest.map fun v => v.category).sum ≤ 8) (hdg : decode cc g.pc = .ok (.invokestatic index, 3)) (hf : cells + mc ≤ R.cells ∧ slots + ms ≤ R.slots) :
    vx_Run p l e R s m args below meth c H locs cells slots mc ms g rest (Qc As.toArray) XC free := by
  obtain ⟨⟨⟨hrc, hrs, hfr, hlo, hws, hcw⟩, hcode, hini, hy, hlen, hl⟩, hx1, hx2⟩ := cw
  have hK : vx_Back l R p e below s args y 3 8 (PreOf R mc ms Pc) (PostOf Qc mc ms free) (vx_Post XC mc ms free) := vx_back (bytes := bytes) (maxL := maxL) (ret := ret) hM hp.1 hrc hrs hfr hlo hws hcw (fun a' U hW => word_at hW (Or.inl (by first | rfl | simp [Cond.onTables, Cond.keeps, Cond.steady])) hini)
  obtain ⟨hx, hb, hml, ho, -⟩ := S
  have hPc := hp.2
  intro T hT X
  rcases vx_callSN X hx (bytes := bytes) (maxL := maxL) (ret := ret) ho hl hx1 hini hcode hy hK hg (hsize.trans hml.symm) (argsL := As) (rest := rest) (fun sig h => hn.trans (hlen sig h)) hstack hW (by rw [hb]; exact hdg)
    (fun vm₁ hW₁ => ⟨hf.1, hf.2, hPc (T.setVm vm₁) hT hW₁⟩) with ⟨v, vm₁, ⟨U', l2, c2, s2⟩, hW₁, X', ⟨g', mk, t, L, e1, e2, hq, h1, hL, h2, h3⟩, st⟩ | ⟨q, vm₁, ⟨U', l2, c2, s2⟩, hW₁, X', ⟨g', mk, t, L, E, ce, e1, e2, hq, hce, hcv, hcl, h1, hL, h2, h3⟩, st⟩
  · dsimp only [Pt.U, Pt.locs, Pt.cells, Pt.slots] at X' e1 e2 h1 h2 h3 st
    subst h1; subst h2; subst h3
    exact Or.inl ⟨v, (T.setVm vm₁).calling g' mk As.toArray, t, U', L, hT, X', hL, e1, e2, hq, st⟩
  · dsimp only [Pt.U, Pt.locs, Pt.cells, Pt.slots] at X' e1 e2 h1 h2 h3 st hcl
    subst h1; subst h2; subst h3
    exact Or.inr ⟨q, (T.setVm vm₁).calling g' mk As.toArray, t, U', L, E, ce, hT, X', hL, e1, e2, hq, hce, hcv, vx_cls hW₁ hcl, st⟩
end
end
section
/-! names of classes, fields, methods (of the printed names, the word lists and decode rows left out) -/
def RX0 : String := "Marginalia$Anchor"
def TX0 : u_T := fun k => match k with
  | 0 => ("Marginalia$Anchor", "from", "I", false)
  | _ => ("Marginalia$Anchor", "to", "I", false)
def tyX0 : Nat → FieldType := fun k => match k with
  | 0 => .int
  | _ => .int
theorem nmX0 : ∀ a, a < 2 → ∀ b, b < 2 → a ≠ b → (TX0 a).2.1 ≠ (TX0 b).2.1 := by decide +kernel
theorem tyX0_ok : ∀ k, k < 2 → parseFieldDescriptor (TX0 k).2.2.1 = some (tyX0 k) := by decide +kernel
abbrev cX0_init : ByteArray := prog_2_method_1_code
def yX0_init : MethodName := ⟨RX0, "<init>", "(II)V"⟩
abbrev cX0_lay : ByteArray := prog_2_method_2_code
def yX0_lay : MethodName := ⟨RX0, "lay", "(II)V"⟩
abbrev cX0_size : ByteArray := prog_2_method_3_code
def yX0_size : MethodName := ⟨RX0, "size", "()I"⟩
abbrev cX0_isLost : ByteArray := prog_2_method_4_code
def yX0_isLost : MethodName := ⟨RX0, "isLost", "()Z"⟩
abbrev cX0_covers : ByteArray := prog_2_method_5_code
def yX0_covers : MethodName := ⟨RX0, "covers", "(I)Z"⟩
abbrev cX0_isAheadOf : ByteArray := prog_2_method_6_code
def yX0_isAheadOf : MethodName := ⟨RX0, "isAheadOf", "(LMarginalia$Anchor;)Z"⟩
abbrev cX0_wouldBeLost : ByteArray := prog_2_method_7_code
def yX0_wouldBeLost : MethodName := ⟨RX0, "wouldBeLost", "(II)Z"⟩
abbrev cX0_moveAsPut : ByteArray := prog_2_method_8_code
def yX0_moveAsPut : MethodName := ⟨RX0, "moveAsPut", "(II)V"⟩
abbrev cX0_moveAsCut : ByteArray := prog_2_method_9_code
def yX0_moveAsCut : MethodName := ⟨RX0, "moveAsCut", "(II)V"⟩
abbrev cX0_cutAheadOf : ByteArray := prog_2_method_10_code
def yX0_cutAheadOf : MethodName := ⟨RX0, "cutAheadOf", "(III)I"⟩
def RX1 : String := "Marginalia$Export"
def TX1 : u_T := fun k => match k with
  | 0 => ("Marginalia$Export", "columns", "[[I", true)
  | _ => ("Marginalia$Export", "size", "I", false)
def tyX1 : Nat → FieldType := fun k => match k with
  | 0 => .array (.array .int)
  | _ => .int
theorem nmX1 : ∀ a, a < 2 → ∀ b, b < 2 → a ≠ b → (TX1 a).2.1 ≠ (TX1 b).2.1 := by decide +kernel
theorem tyX1_ok : ∀ k, k < 2 → parseFieldDescriptor (TX1 k).2.2.1 = some (tyX1 k) := by decide +kernel
abbrev cX1_init : ByteArray := prog_3_method_1_code
def yX1_init : MethodName := ⟨RX1, "<init>", "()V"⟩
abbrev cX1_addOrder : ByteArray := prog_3_method_2_code
def yX1_addOrder : MethodName := ⟨RX1, "addOrder", "(LMarginalia$Note;)V"⟩
def RX2 : String := "Marginalia$Note"
def TX2 : u_T := fun k => match k with
  | 0 => ("Marginalia$Note", "number", "I", true)
  | 1 => ("Marginalia$Note", "author", "I", true)
  | 2 => ("Marginalia$Note", "content", "I", true)
  | 3 => ("Marginalia$Note", "depth", "I", true)
  | 4 => ("Marginalia$Note", "parent", "LMarginalia$Note;", true)
  | 5 => ("Marginalia$Note", "strand", "LMarginalia$Strand;", true)
  | 6 => ("Marginalia$Note", "nextInOrder", "LMarginalia$Note;", false)
  | 7 => ("Marginalia$Note", "repliesNotGone", "I", false)
  | 8 => ("Marginalia$Note", "isEmpty", "Z", false)
  | _ => ("Marginalia$Note", "isGone", "Z", false)
def tyX2 : Nat → FieldType := fun k => match k with
  | 0 => .int
  | 1 => .int
  | 2 => .int
  | 3 => .int
  | 4 => .object "Marginalia$Note"
  | 5 => .object "Marginalia$Strand"
  | 6 => .object "Marginalia$Note"
  | 7 => .int
  | 8 => .boolean
  | _ => .boolean
theorem nmX2 : ∀ a, a < 10 → ∀ b, b < 10 → a ≠ b → (TX2 a).2.1 ≠ (TX2 b).2.1 := by decide +kernel
theorem tyX2_ok : ∀ k, k < 10 → parseFieldDescriptor (TX2 k).2.2.1 = some (tyX2 k) := by decide +kernel
abbrev cX2_init : ByteArray := prog_4_method_1_code
def yX2_init : MethodName := ⟨RX2, "<init>", "(IIILMarginalia$Note;LMarginalia$Strand;)V"⟩
abbrev cX2_isHead : ByteArray := prog_4_method_2_code
def yX2_isHead : MethodName := ⟨RX2, "isHead", "()Z"⟩
abbrev cX2_isHeadNotGone : ByteArray := prog_4_method_3_code
def yX2_isHeadNotGone : MethodName := ⟨RX2, "isHeadNotGone", "()Z"⟩
abbrev cX2_contentShown : ByteArray := prog_4_method_4_code
def yX2_contentShown : MethodName := ⟨RX2, "contentShown", "()I"⟩
abbrev cX2_addReply : ByteArray := prog_4_method_5_code
def yX2_addReply : MethodName := ⟨RX2, "addReply", "(LMarginalia$Note;)V"⟩
abbrev cX2_emptyAndDrop : ByteArray := prog_4_method_6_code
def yX2_emptyAndDrop : MethodName := ⟨RX2, "emptyAndDrop", "()I"⟩
abbrev cX2_fact : ByteArray := prog_4_method_7_code
def yX2_fact : MethodName := ⟨RX2, "fact", "(I)I"⟩
def RX3 : String := "Marginalia$Strand"
def TX3 : u_T := fun k => match k with
  | 0 => ("Marginalia$Strand", "headNumber", "I", true)
  | 1 => ("Marginalia$Strand", "author", "I", true)
  | 2 => ("Marginalia$Strand", "view", "I", true)
  | 3 => ("Marginalia$Strand", "anchor", "LMarginalia$Anchor;", true)
  | 4 => ("Marginalia$Strand", "quoted", "[I", true)
  | 5 => ("Marginalia$Strand", "isSettled", "Z", false)
  | 6 => ("Marginalia$Strand", "proposedMany", "I", false)
  | _ => ("Marginalia$Strand", "proposedSign", "I", false)
def tyX3 : Nat → FieldType := fun k => match k with
  | 0 => .int
  | 1 => .int
  | 2 => .int
  | 3 => .object "Marginalia$Anchor"
  | 4 => .array .int
  | 5 => .boolean
  | 6 => .int
  | _ => .int
theorem nmX3 : ∀ a, a < 8 → ∀ b, b < 8 → a ≠ b → (TX3 a).2.1 ≠ (TX3 b).2.1 := by decide +kernel
theorem tyX3_ok : ∀ k, k < 8 → parseFieldDescriptor (TX3 k).2.2.1 = some (tyX3 k) := by decide +kernel
abbrev cX3_init : ByteArray := prog_5_method_1_code
def yX3_init : MethodName := ⟨RX3, "<init>", "(IIILMarginalia$Anchor;[I)V"⟩
abbrev cX3_isSeenBy : ByteArray := prog_5_method_2_code
def yX3_isSeenBy : MethodName := ⟨RX3, "isSeenBy", "(II)Z"⟩
abbrev cX3_isCountedAs : ByteArray := prog_5_method_3_code
def yX3_isCountedAs : MethodName := ⟨RX3, "isCountedAs", "(I)Z"⟩
def RX4 : String := "Marginalia$Text"
def TX4 : u_T := fun k => match k with
  | 0 => ("Marginalia$Text", "namesIn", "[[I", true)
  | 1 => ("Marginalia$Text", "sizeIn", "[I", true)
  | 2 => ("Marginalia$Text", "signOfName", "[I", true)
  | 3 => ("Marginalia$Text", "nameCount", "I", false)
  | _ => ("Marginalia$Text", "edits", "I", false)
def tyX4 : Nat → FieldType := fun k => match k with
  | 0 => .array (.array .int)
  | 1 => .array .int
  | 2 => .array .int
  | 3 => .int
  | _ => .int
theorem nmX4 : ∀ a, a < 5 → ∀ b, b < 5 → a ≠ b → (TX4 a).2.1 ≠ (TX4 b).2.1 := by decide +kernel
theorem tyX4_ok : ∀ k, k < 5 → parseFieldDescriptor (TX4 k).2.2.1 = some (tyX4 k) := by decide +kernel
abbrev cX4_init : ByteArray := prog_6_method_1_code
def yX4_init : MethodName := ⟨RX4, "<init>", "()V"⟩
abbrev cX4_size : ByteArray := prog_6_method_2_code
def yX4_size : MethodName := ⟨RX4, "size", "()I"⟩
abbrev cX4_hasRoomFor : ByteArray := prog_6_method_3_code
def yX4_hasRoomFor : MethodName := ⟨RX4, "hasRoomFor", "(II)Z"⟩
abbrev cX4_hasVersion : ByteArray := prog_6_method_4_code
def yX4_hasVersion : MethodName := ⟨RX4, "hasVersion", "(I)Z"⟩
abbrev cX4_hasSignIn : ByteArray := prog_6_method_5_code
def yX4_hasSignIn : MethodName := ⟨RX4, "hasSignIn", "(II)Z"⟩
abbrev cX4_signIn : ByteArray := prog_6_method_6_code
def yX4_signIn : MethodName := ⟨RX4, "signIn", "(II)I"⟩
abbrev cX4_placeNow : ByteArray := prog_6_method_7_code
def yX4_placeNow : MethodName := ⟨RX4, "placeNow", "(II)I"⟩
abbrev cX4_hasAt : ByteArray := prog_6_method_8_code
def yX4_hasAt : MethodName := ⟨RX4, "hasAt", "(I[I)Z"⟩
abbrev cX4_edit : ByteArray := prog_6_method_9_code
def yX4_edit : MethodName := ⟨RX4, "edit", "(IIII)V"⟩
def RX5 : String := "Marginalia"
def TX5 : u_T := fun k => match k with
  | 0 => ("Marginalia", "rights", "[I", true)
  | 1 => ("Marginalia", "text", "LMarginalia$Text;", true)
  | 2 => ("Marginalia", "notes", "[LMarginalia$Note;", true)
  | 3 => ("Marginalia", "chosenHeads", "[LMarginalia$Note;", true)
  | 4 => ("Marginalia", "kept", "LMarginalia$Export;", true)
  | 5 => ("Marginalia", "userCount", "I", false)
  | _ => ("Marginalia", "noteCount", "I", false)
def tyX5 : Nat → FieldType := fun k => match k with
  | 0 => .array .int
  | 1 => .object "Marginalia$Text"
  | 2 => .array (.object "Marginalia$Note")
  | 3 => .array (.object "Marginalia$Note")
  | 4 => .object "Marginalia$Export"
  | 5 => .int
  | _ => .int
theorem nmX5 : ∀ a, a < 7 → ∀ b, b < 7 → a ≠ b → (TX5 a).2.1 ≠ (TX5 b).2.1 := by decide +kernel
theorem tyX5_ok : ∀ k, k < 7 → parseFieldDescriptor (TX5 k).2.2.1 = some (tyX5 k) := by decide +kernel
abbrev cX5_init : ByteArray := prog_1_method_1_code
def yX5_init : MethodName := ⟨RX5, "<init>", "()V"⟩
abbrev cX5_user : ByteArray := prog_1_method_2_code
def yX5_user : MethodName := ⟨RX5, "user", "(I)I"⟩
abbrev cX5_setRight : ByteArray := prog_1_method_3_code
def yX5_setRight : MethodName := ⟨RX5, "setRight", "(III)I"⟩
abbrev cX5_insert : ByteArray := prog_1_method_4_code
def yX5_insert : MethodName := ⟨RX5, "insert", "(IIII)I"⟩
abbrev cX5_delete : ByteArray := prog_1_method_5_code
def yX5_delete : MethodName := ⟨RX5, "delete", "(III)I"⟩
abbrev cX5_length : ByteArray := prog_1_method_6_code
def yX5_length : MethodName := ⟨RX5, "length", "()I"⟩
abbrev cX5_now : ByteArray := prog_1_method_8_code
def yX5_now : MethodName := ⟨RX5, "now", "(II)I"⟩
abbrev cX5_version : ByteArray := prog_1_method_9_code
def yX5_version : MethodName := ⟨RX5, "version", "()I"⟩
abbrev cX5_note : ByteArray := prog_1_method_10_code
def yX5_note : MethodName := ⟨RX5, "note", "(IIIII)I"⟩
abbrev cX5_reply : ByteArray := prog_1_method_11_code
def yX5_reply : MethodName := ⟨RX5, "reply", "(III)I"⟩
abbrev cX5_settle : ByteArray := prog_1_method_12_code
def yX5_settle : MethodName := ⟨RX5, "settle", "(IIZ)Z"⟩
abbrev cX5_remove : ByteArray := prog_1_method_13_code
def yX5_remove : MethodName := ⟨RX5, "remove", "(II)I"⟩
abbrev cX5_propose : ByteArray := prog_1_method_14_code
def yX5_propose : MethodName := ⟨RX5, "propose", "(IIII)I"⟩
abbrev cX5_take : ByteArray := prog_1_method_15_code
def yX5_take : MethodName := ⟨RX5, "take", "(II)I"⟩
abbrev cX5_heal : ByteArray := prog_1_method_16_code
def yX5_heal : MethodName := ⟨RX5, "heal", "()I"⟩
abbrev cX5_many : ByteArray := prog_1_method_17_code
def yX5_many : MethodName := ⟨RX5, "many", "(I)I"⟩
abbrev cX5_right : ByteArray := prog_1_method_18_code
def yX5_right : MethodName := ⟨RX5, "right", "(I)I"⟩
abbrev cX5_ofNote : ByteArray := prog_1_method_19_code
def yX5_ofNote : MethodName := ⟨RX5, "ofNote", "(II)I"⟩
abbrev cX5_sees : ByteArray := prog_1_method_21_code
def yX5_sees : MethodName := ⟨RX5, "sees", "(II)Z"⟩
abbrev cX5_thread : ByteArray := prog_1_method_22_code
def yX5_thread : MethodName := ⟨RX5, "thread", "(II)I"⟩
abbrev cX5_over : ByteArray := prog_1_method_23_code
def yX5_over : MethodName := ⟨RX5, "over", "(II)I"⟩
abbrev cX5_export : ByteArray := prog_1_method_24_code
def yX5_export : MethodName := ⟨RX5, "export", "(IZ)I"⟩
abbrev cX5_exported : ByteArray := prog_1_method_25_code
def yX5_exported : MethodName := ⟨RX5, "exported", "(II)I"⟩
abbrev cX5_meanThread : ByteArray := prog_1_method_26_code
def yX5_meanThread : MethodName := ⟨RX5, "meanThread", "()D"⟩
abbrev cX5_lostBy : ByteArray := prog_1_method_27_code
def yX5_lostBy : MethodName := ⟨RX5, "lostBy", "(II)I"⟩
abbrev cX5_wouldHeal : ByteArray := prog_1_method_28_code
def yX5_wouldHeal : MethodName := ⟨RX5, "wouldHeal", "(I)I"⟩
abbrev cX5_wouldSee : ByteArray := prog_1_method_29_code
def yX5_wouldSee : MethodName := ⟨RX5, "wouldSee", "(II)I"⟩
abbrev cX5_digest : ByteArray := prog_1_method_30_code
def yX5_digest : MethodName := ⟨RX5, "digest", "()J"⟩
abbrev cX5_requireUser : ByteArray := prog_1_method_31_code
def yX5_requireUser : MethodName := ⟨RX5, "requireUser", "(I)V"⟩
abbrev cX5_requireSign : ByteArray := prog_1_method_32_code
def yX5_requireSign : MethodName := ⟨RX5, "requireSign", "(I)V"⟩
abbrev cX5_requireNote : ByteArray := prog_1_method_33_code
def yX5_requireNote : MethodName := ⟨RX5, "requireNote", "(I)LMarginalia$Note;"⟩
abbrev cX5_requireIndex : ByteArray := prog_1_method_34_code
def yX5_requireIndex : MethodName := ⟨RX5, "requireIndex", "(Z)V"⟩
abbrev cX5_requireArgument : ByteArray := prog_1_method_35_code
def yX5_requireArgument : MethodName := ⟨RX5, "requireArgument", "(Z)V"⟩
abbrev cX5_requireState : ByteArray := prog_1_method_36_code
def yX5_requireState : MethodName := ⟨RX5, "requireState", "(Z)V"⟩
abbrev cX5_isWithin : ByteArray := prog_1_method_37_code
def yX5_isWithin : MethodName := ⟨RX5, "isWithin", "(III)Z"⟩
abbrev cX5_isRight : ByteArray := prog_1_method_38_code
def yX5_isRight : MethodName := ⟨RX5, "isRight", "(I)Z"⟩
abbrev cX5_isContent : ByteArray := prog_1_method_39_code
def yX5_isContent : MethodName := ⟨RX5, "isContent", "(I)Z"⟩
abbrev cX5_putSigns : ByteArray := prog_1_method_40_code
def yX5_putSigns : MethodName := ⟨RX5, "putSigns", "(III)V"⟩
abbrev cX5_cutSigns : ByteArray := prog_1_method_41_code
def yX5_cutSigns : MethodName := ⟨RX5, "cutSigns", "(II)V"⟩
abbrev cX5_canTake : ByteArray := prog_1_method_42_code
def yX5_canTake : MethodName := ⟨RX5, "canTake", "(LMarginalia$Strand;)Z"⟩
abbrev cX5_putProposal : ByteArray := prog_1_method_43_code
def yX5_putProposal : MethodName := ⟨RX5, "putProposal", "(LMarginalia$Strand;)V"⟩
abbrev cX5_quoteOf : ByteArray := prog_1_method_44_code
def yX5_quoteOf : MethodName := ⟨RX5, "quoteOf", "(II)[I"⟩
abbrev cX5_healAnchor : ByteArray := prog_1_method_45_code
def yX5_healAnchor : MethodName := ⟨RX5, "healAnchor", "(LMarginalia$Strand;)Z"⟩
abbrev cX5_placeOfQuote : ByteArray := prog_1_method_46_code
def yX5_placeOfQuote : MethodName := ⟨RX5, "placeOfQuote", "(LMarginalia$Strand;)I"⟩
abbrev cX5_keepNote : ByteArray := prog_1_method_47_code
def yX5_keepNote : MethodName := ⟨RX5, "keepNote", "(LMarginalia$Note;)I"⟩
abbrev cX5_headOf : ByteArray := prog_1_method_48_code
def yX5_headOf : MethodName := ⟨RX5, "headOf", "(LMarginalia$Note;)LMarginalia$Note;"⟩
abbrev cX5_isSeen : ByteArray := prog_1_method_49_code
def yX5_isSeen : MethodName := ⟨RX5, "isSeen", "(ILMarginalia$Note;)Z"⟩
abbrev cX5_countNotes : ByteArray := prog_1_method_50_code
def yX5_countNotes : MethodName := ⟨RX5, "countNotes", "()I"⟩
abbrev cX5_countStrands : ByteArray := prog_1_method_51_code
def yX5_countStrands : MethodName := ⟨RX5, "countStrands", "(I)I"⟩
abbrev cX5_chooseHeads : ByteArray := prog_1_method_52_code
def yX5_chooseHeads : MethodName := ⟨RX5, "chooseHeads", "(IZ)I"⟩
abbrev cX5_putAmongChosen : ByteArray := prog_1_method_53_code
def yX5_putAmongChosen : MethodName := ⟨RX5, "putAmongChosen", "(LMarginalia$Note;I)V"⟩
abbrev cX5_mix : ByteArray := prog_1_method_54_code
def yX5_mix : MethodName := ⟨RX5, "mix", "(JJ)J"⟩
abbrev cX5_digestText : ByteArray := prog_1_method_55_code
def yX5_digestText : MethodName := ⟨RX5, "digestText", "(J)J"⟩
abbrev cX5_digestUser : ByteArray := prog_1_method_56_code
def yX5_digestUser : MethodName := ⟨RX5, "digestUser", "(JI)J"⟩
abbrev cX5_digestNote : ByteArray := prog_1_method_57_code
def yX5_digestNote : MethodName := ⟨RX5, "digestNote", "(JI)J"⟩
abbrev cX5_digestExport : ByteArray := prog_1_method_58_code
def yX5_digestExport : MethodName := ⟨RX5, "digestExport", "(J)J"⟩
def RX6 : String := "MarginaliaLaw$Page"
def TX6 : u_T := fun k => match k with
  | 0 => ("MarginaliaLaw$Page", "m", "LMarginalia;", true)
  | 1 => ("MarginaliaLaw$Page", "s", "[I", true)
  | 2 => ("MarginaliaLaw$Page", "draws", "I", false)
  | 3 => ("MarginaliaLaw$Page", "rights", "[I", false)
  | 4 => ("MarginaliaLaw$Page", "ever", "I", false)
  | 5 => ("MarginaliaLaw$Page", "texts", "[[[I", false)
  | 6 => ("MarginaliaLaw$Page", "notes", "[[I", false)
  | _ => ("MarginaliaLaw$Page", "exported", "[[I", false)
def tyX6 : Nat → FieldType := fun k => match k with
  | 0 => .object "Marginalia"
  | 1 => .array .int
  | 2 => .int
  | 3 => .array .int
  | 4 => .int
  | 5 => .array (.array (.array .int))
  | 6 => .array (.array .int)
  | _ => .array (.array .int)
theorem nmX6 : ∀ a, a < 8 → ∀ b, b < 8 → a ≠ b → (TX6 a).2.1 ≠ (TX6 b).2.1 := by decide +kernel
theorem tyX6_ok : ∀ k, k < 8 → parseFieldDescriptor (TX6 k).2.2.1 = some (tyX6 k) := by decide +kernel
abbrev cX6_init : ByteArray := prog_8_method_1_code
def yX6_init : MethodName := ⟨RX6, "<init>", "([II)V"⟩
abbrev cX6_draw : ByteArray := prog_8_method_2_code
def yX6_draw : MethodName := ⟨RX6, "draw", "(I)I"⟩
abbrev cX6_with : ByteArray := prog_8_method_3_code
def yX6_with : MethodName := ⟨RX6, "with", "([[II[I)[[I"⟩
abbrev cX6_text : ByteArray := prog_8_method_4_code
def yX6_text : MethodName := ⟨RX6, "text", "()[[I"⟩
abbrev cX6_edited : ByteArray := prog_8_method_5_code
def yX6_edited : MethodName := ⟨RX6, "edited", "([[I)V"⟩
abbrev cX6_addUser : ByteArray := prog_8_method_6_code
def yX6_addUser : MethodName := ⟨RX6, "addUser", "(I)Z"⟩
abbrev cX6_setRight : ByteArray := prog_8_method_7_code
def yX6_setRight : MethodName := ⟨RX6, "setRight", "()Z"⟩
abbrev cX6_put : ByteArray := prog_8_method_8_code
def yX6_put : MethodName := ⟨RX6, "put", "(III)V"⟩
abbrev cX6_cut : ByteArray := prog_8_method_9_code
def yX6_cut : MethodName := ⟨RX6, "cut", "(II)V"⟩
abbrev cX6_insert : ByteArray := prog_8_method_10_code
def yX6_insert : MethodName := ⟨RX6, "insert", "()Z"⟩
abbrev cX6_delete : ByteArray := prog_8_method_11_code
def yX6_delete : MethodName := ⟨RX6, "delete", "()Z"⟩
abbrev cX6_sees : ByteArray := prog_8_method_12_code
def yX6_sees : MethodName := ⟨RX6, "sees", "(III)Z"⟩
abbrev cX6_sees_ : ByteArray := prog_8_method_13_code
def yX6_sees_ : MethodName := ⟨RX6, "sees", "(II)Z"⟩
abbrev cX6_note : ByteArray := prog_8_method_14_code
def yX6_note : MethodName := ⟨RX6, "note", "()Z"⟩
abbrev cX6_any : ByteArray := prog_8_method_15_code
def yX6_any : MethodName := ⟨RX6, "any", "()I"⟩
abbrev cX6_reply : ByteArray := prog_8_method_16_code
def yX6_reply : MethodName := ⟨RX6, "reply", "()Z"⟩
abbrev cX6_settle : ByteArray := prog_8_method_17_code
def yX6_settle : MethodName := ⟨RX6, "settle", "()Z"⟩
abbrev cX6_replies : ByteArray := prog_8_method_18_code
def yX6_replies : MethodName := ⟨RX6, "replies", "(I)I"⟩
abbrev cX6_remove : ByteArray := prog_8_method_19_code
def yX6_remove : MethodName := ⟨RX6, "remove", "()Z"⟩
abbrev cX6_propose : ByteArray := prog_8_method_20_code
def yX6_propose : MethodName := ⟨RX6, "propose", "()Z"⟩
abbrev cX6_take : ByteArray := prog_8_method_21_code
def yX6_take : MethodName := ⟨RX6, "take", "()Z"⟩
abbrev cX6_found : ByteArray := prog_8_method_22_code
def yX6_found : MethodName := ⟨RX6, "found", "(I)I"⟩
abbrev cX6_stands : ByteArray := prog_8_method_23_code
def yX6_stands : MethodName := ⟨RX6, "stands", "([II)Z"⟩
abbrev cX6_isHead : ByteArray := prog_8_method_24_code
def yX6_isHead : MethodName := ⟨RX6, "isHead", "(I)Z"⟩
abbrev cX6_heal : ByteArray := prog_8_method_25_code
def yX6_heal : MethodName := ⟨RX6, "heal", "()Z"⟩
abbrev cX6_found_ : ByteArray := prog_8_method_26_code
def yX6_found_ : MethodName := ⟨RX6, "found", "()Z"⟩
abbrev cX6_act : ByteArray := prog_8_method_27_code
def yX6_act : MethodName := ⟨RX6, "act", "()Z"⟩
def RX7 : String := "MarginaliaModel"
def TX7 : u_T := fun k => match k with
  | _ => ("", "", "", false)
def tyX7 : Nat → FieldType := fun k => match k with
  | _ => .int
theorem nmX7 : ∀ a, a < 0 → ∀ b, b < 0 → a ≠ b → (TX7 a).2.1 ≠ (TX7 b).2.1 := by decide +kernel
theorem tyX7_ok : ∀ k, k < 0 → parseFieldDescriptor (TX7 k).2.2.1 = some (tyX7 k) := by decide +kernel
def RL : String := "MarginaliaLaw"
abbrev cL_below : ByteArray := method_2_code
def yL_below : MethodName := ⟨RL, "below", "(II)I"⟩
abbrev cL_cell : ByteArray := method_3_code
def yL_cell : MethodName := ⟨RL, "cell", "([II)I"⟩
abbrev cL_law : ByteArray := code
def yL_law : MethodName := ⟨RL, "law", "([I)Z"⟩
abbrev vwCl : List vw_C := [(RX0, TX0, 2), (RX1, TX1, 2), (RX2, TX2, 10), (RX3, TX3, 8), (RX4, TX4, 5), (RX5, TX5, 7), (RX6, TX6, 8)]
end
section
/-! THE ABSTRACT MACHINE: values with mathematical ints, a memory of plain functions, an instruction = a monotone predicate transformer; WP = their least closure. Nothing of the JVM model is read here but types. -/
abbrev Zv : Type := Int ⊕ (Int64 ⊕ (UInt64 ⊕ Option Nat))
abbrev zi (x : Int) : Zv := .inl x
abbrev zl (x : Int64) : Zv := .inr (.inl x)
abbrev zd (x : UInt64) : Zv := .inr (.inr (.inl x))
abbrev zr (x : Option Nat) : Zv := .inr (.inr (.inr x))
def inR (x : Int) : Prop := -2147483648 ≤ x ∧ x ≤ 2147483647
def okz (v : Zv) : Prop := match v with
  | .inl x => inR x
  | _ => True
def cz (v : Zv) : Value := match v with
  | .inl x => .int (Int32.ofInt x)
  | .inr (.inl x) => .long x
  | .inr (.inr (.inl x)) => .double x
  | .inr (.inr (.inr r)) => va_rf r
def ctz (v : Zv) : Nat := match v with
  | .inl _ => 1
  | .inr (.inl _) => 2
  | .inr (.inr (.inl _)) => 2
  | .inr (.inr (.inr _)) => 1
abbrev Zl : Type := List (Option Zv)
/-- the memory: kinds (0 nothing; 1..7 the objects; 10 int[], 11 long[], 12 boolean[], 13 Note[], 14 int[][], 15 the script, 16 int[][][]), lengths, ints, references, longs; how many cells and slots were made since the start -/
abbrev Zh : Type := (Nat → Nat) × (Nat → Int) × (Nat → Int → Int) × (Nat → Int → Option Nat) × (Nat → Int → Int64) × Nat × Nat
def gK (h : Zh) (a : Nat) : Nat := h.1 a
def gL (h : Zh) (a : Nat) : Int := h.2.1 a
def gI (h : Zh) (a : Nat) (i : Int) : Int := h.2.2.1 a i
def gR (h : Zh) (a : Nat) (i : Int) : Option Nat := h.2.2.2.1 a i
def gJ (h : Zh) (a : Nat) (i : Int) : Int64 := h.2.2.2.2.1 a i
def gC (h : Zh) : Nat := h.2.2.2.2.2.1
def gS (h : Zh) : Nat := h.2.2.2.2.2.2
/-- the room of the whole run -/
def MXC : Nat := 600086
def MXS : Nat := 7301442
def pI (h : Zh) (a : Nat) (k x : Int) : Zh := (h.1, h.2.1, (fun b j => if b = a ∧ j = k then x else gI h b j), h.2.2.2.1, h.2.2.2.2)
def pR (h : Zh) (a : Nat) (k : Int) (x : Option Nat) : Zh := (h.1, h.2.1, h.2.2.1, (fun b j => if b = a ∧ j = k then x else gR h b j), h.2.2.2.2)
def pJ (h : Zh) (a : Nat) (k : Int) (x : Int64) : Zh := (h.1, h.2.1, h.2.2.1, h.2.2.2.1, (fun b j => if b = a ∧ j = k then x else gJ h b j), h.2.2.2.2.2)
def nw (h : Zh) (a kd : Nat) (n : Int) : Zh := ((fun b => if b = a then kd else gK h b), (fun b => if b = a then n else gL h b), (fun b j => if b = a then 0 else gI h b j), (fun b j => if b = a then none else gR h b j), (fun b j => if b = a then 0 else gJ h b j), gC h + 1, gS h + n.toNat)
/-- new int[n][m]: the outer one at q, the rows at r 0, r 1, .. -/
def nw2 (h : Zh) (q : Nat) (r : Nat → Nat) (n : Nat) (m : Int) : Zh :=
  ((fun b => if b = q then 14 else if b ∈ (List.range n).map r then 10 else gK h b), (fun b => if b = q then (n : Int) else if b ∈ (List.range n).map r then m else gL h b), (fun b j => if b = q ∨ b ∈ (List.range n).map r then 0 else gI h b j),
    (fun b j => if b = q then (if 0 ≤ j ∧ j < n then some (r j.toNat) else none) else if b ∈ (List.range n).map r then none else gR h b j), (fun b j => if b = q ∨ b ∈ (List.range n).map r then 0 else gJ h b j), gC h + 1 + n, gS h + n + n * m.toNat)
/-- an exception was made -/
def tk (h : Zh) : Zh := (h.1, h.2.1, h.2.2.1, h.2.2.2.1, h.2.2.2.2.1, gC h + 1, gS h + 6)
def cpy (h : Zh) (s : Nat) (sp : Int) (d : Nat) (dp n : Int) : Zh := (h.1, h.2.1, (fun b j => if b = d ∧ dp ≤ j ∧ j < dp + n then gI h s (sp + (j - dp)) else gI h b j), h.2.2.2.1, h.2.2.2.2)
theorem gK_pI (h : Zh) (a : Nat) (k x : Int) (b : Nat) : gK (pI h a k x) b = gK h b := rfl
theorem gL_pI (h : Zh) (a : Nat) (k x : Int) (b : Nat) : gL (pI h a k x) b = gL h b := rfl
theorem gI_pI (h : Zh) (a : Nat) (k x : Int) (b : Nat) (j : Int) : gI (pI h a k x) b j = if b = a ∧ j = k then x else gI h b j := rfl
theorem gR_pI (h : Zh) (a : Nat) (k x : Int) (b : Nat) (j : Int) : gR (pI h a k x) b j = gR h b j := rfl
theorem gJ_pI (h : Zh) (a : Nat) (k x : Int) (b : Nat) (j : Int) : gJ (pI h a k x) b j = gJ h b j := rfl
theorem gK_pR (h : Zh) (a : Nat) (k : Int) (x : Option Nat) (b : Nat) : gK (pR h a k x) b = gK h b := rfl
theorem gL_pR (h : Zh) (a : Nat) (k : Int) (x : Option Nat) (b : Nat) : gL (pR h a k x) b = gL h b := rfl
theorem gI_pR (h : Zh) (a : Nat) (k : Int) (x : Option Nat) (b : Nat) (j : Int) : gI (pR h a k x) b j = gI h b j := rfl
theorem gR_pR (h : Zh) (a : Nat) (k : Int) (x : Option Nat) (b : Nat) (j : Int) : gR (pR h a k x) b j = if b = a ∧ j = k then x else gR h b j := rfl
theorem gJ_pR (h : Zh) (a : Nat) (k : Int) (x : Option Nat) (b : Nat) (j : Int) : gJ (pR h a k x) b j = gJ h b j := rfl
theorem gK_pJ (h : Zh) (a : Nat) (k : Int) (x : Int64) (b : Nat) : gK (pJ h a k x) b = gK h b := rfl
theorem gL_pJ (h : Zh) (a : Nat) (k : Int) (x : Int64) (b : Nat) : gL (pJ h a k x) b = gL h b := rfl
theorem gI_pJ (h : Zh) (a : Nat) (k : Int) (x : Int64) (b : Nat) (j : Int) : gI (pJ h a k x) b j = gI h b j := rfl
theorem gR_pJ (h : Zh) (a : Nat) (k : Int) (x : Int64) (b : Nat) (j : Int) : gR (pJ h a k x) b j = gR h b j := rfl
theorem gJ_pJ (h : Zh) (a : Nat) (k : Int) (x : Int64) (b : Nat) (j : Int) : gJ (pJ h a k x) b j = if b = a ∧ j = k then x else gJ h b j := rfl
theorem gK_nw (h : Zh) (a kd : Nat) (n : Int) (b : Nat) : gK (nw h a kd n) b = if b = a then kd else gK h b := rfl
theorem gL_nw (h : Zh) (a kd : Nat) (n : Int) (b : Nat) : gL (nw h a kd n) b = if b = a then n else gL h b := rfl
theorem gI_nw (h : Zh) (a kd : Nat) (n : Int) (b : Nat) (j : Int) : gI (nw h a kd n) b j = if b = a then 0 else gI h b j := rfl
theorem gR_nw (h : Zh) (a kd : Nat) (n : Int) (b : Nat) (j : Int) : gR (nw h a kd n) b j = if b = a then none else gR h b j := rfl
theorem gJ_nw (h : Zh) (a kd : Nat) (n : Int) (b : Nat) (j : Int) : gJ (nw h a kd n) b j = if b = a then 0 else gJ h b j := rfl
theorem gK_nw2 (h : Zh) (q : Nat) (r : Nat → Nat) (n : Nat) (m : Int) (b : Nat) : gK (nw2 h q r n m) b = if b = q then 14 else if b ∈ (List.range n).map r then 10 else gK h b := rfl
theorem gL_nw2 (h : Zh) (q : Nat) (r : Nat → Nat) (n : Nat) (m : Int) (b : Nat) : gL (nw2 h q r n m) b = if b = q then (n : Int) else if b ∈ (List.range n).map r then m else gL h b := rfl
theorem gI_nw2 (h : Zh) (q : Nat) (r : Nat → Nat) (n : Nat) (m : Int) (b : Nat) (j : Int) : gI (nw2 h q r n m) b j = if b = q ∨ b ∈ (List.range n).map r then 0 else gI h b j := rfl
theorem gR_nw2 (h : Zh) (q : Nat) (r : Nat → Nat) (n : Nat) (m : Int) (b : Nat) (j : Int) : gR (nw2 h q r n m) b j = if b = q then (if 0 ≤ j ∧ j < n then some (r j.toNat) else none) else if b ∈ (List.range n).map r then none else gR h b j := rfl
theorem gJ_nw2 (h : Zh) (q : Nat) (r : Nat → Nat) (n : Nat) (m : Int) (b : Nat) (j : Int) : gJ (nw2 h q r n m) b j = if b = q ∨ b ∈ (List.range n).map r then 0 else gJ h b j := rfl
theorem gK_cpy (h : Zh) (s : Nat) (sp : Int) (d : Nat) (dp n : Int) (b : Nat) : gK (cpy h s sp d dp n) b = gK h b := rfl
theorem gL_cpy (h : Zh) (s : Nat) (sp : Int) (d : Nat) (dp n : Int) (b : Nat) : gL (cpy h s sp d dp n) b = gL h b := rfl
theorem gI_cpy (h : Zh) (s : Nat) (sp : Int) (d : Nat) (dp n : Int) (b : Nat) (j : Int) : gI (cpy h s sp d dp n) b j = if b = d ∧ dp ≤ j ∧ j < dp + n then gI h s (sp + (j - dp)) else gI h b j := rfl
theorem gR_cpy (h : Zh) (s : Nat) (sp : Int) (d : Nat) (dp n : Int) (b : Nat) (j : Int) : gR (cpy h s sp d dp n) b j = gR h b j := rfl
theorem gJ_cpy (h : Zh) (s : Nat) (sp : Int) (d : Nat) (dp n : Int) (b : Nat) (j : Int) : gJ (cpy h s sp d dp n) b j = gJ h b j := rfl
theorem gC_pI (h : Zh) (a : Nat) (k x : Int) : gC (pI h a k x) = gC h := rfl
theorem gS_pI (h : Zh) (a : Nat) (k x : Int) : gS (pI h a k x) = gS h := rfl
theorem gC_pR (h : Zh) (a : Nat) (k : Int) (x : Option Nat) : gC (pR h a k x) = gC h := rfl
theorem gS_pR (h : Zh) (a : Nat) (k : Int) (x : Option Nat) : gS (pR h a k x) = gS h := rfl
theorem gC_pJ (h : Zh) (a : Nat) (k : Int) (x : Int64) : gC (pJ h a k x) = gC h := rfl
theorem gS_pJ (h : Zh) (a : Nat) (k : Int) (x : Int64) : gS (pJ h a k x) = gS h := rfl
theorem gC_cpy (h : Zh) (s : Nat) (sp : Int) (d : Nat) (dp n : Int) : gC (cpy h s sp d dp n) = gC h := rfl
theorem gS_cpy (h : Zh) (s : Nat) (sp : Int) (d : Nat) (dp n : Int) : gS (cpy h s sp d dp n) = gS h := rfl
theorem gC_nw (h : Zh) (a kd : Nat) (n : Int) : gC (nw h a kd n) = gC h + 1 := rfl
theorem gS_nw (h : Zh) (a kd : Nat) (n : Int) : gS (nw h a kd n) = gS h + n.toNat := rfl
theorem gC_nw2 (h : Zh) (q : Nat) (r : Nat → Nat) (n : Nat) (m : Int) : gC (nw2 h q r n m) = gC h + 1 + n := rfl
theorem gS_nw2 (h : Zh) (q : Nat) (r : Nat → Nat) (n : Nat) (m : Int) : gS (nw2 h q r n m) = gS h + n + n * m.toNat := rfl
theorem gK_tk (h : Zh) (b : Nat) : gK (tk h) b = gK h b := rfl
theorem gL_tk (h : Zh) (b : Nat) : gL (tk h) b = gL h b := rfl
theorem gI_tk (h : Zh) (b : Nat) (j : Int) : gI (tk h) b j = gI h b j := rfl
theorem gR_tk (h : Zh) (b : Nat) (j : Int) : gR (tk h) b j = gR h b j := rfl
theorem gJ_tk (h : Zh) (b : Nat) (j : Int) : gJ (tk h) b j = gJ h b j := rfl
theorem gC_tk (h : Zh) : gC (tk h) = gC h + 1 := rfl
theorem gS_tk (h : Zh) : gS (tk h) = gS h + 6 := rfl
/-- a reference to a thing of the kind c -/
def kd (h : Zh) (r : Option Nat) (c : Nat) : Prop := ∃ a, r = some a ∧ gK h a = c
def ad (r : Option Nat) : Nat := r.getD 0
theorem ad_some (a : Nat) : ad (some a) = a := rfl
theorem kd_some (h : Zh) (a c : Nat) : kd h (some a) c ↔ gK h a = c := ⟨fun ⟨b, e, k⟩ => by cases e; exact k, fun k => ⟨a, rfl, k⟩⟩
abbrev Zo : Type := Option Zv ⊕ Nat
abbrev Zp : Type := Zo → Zh → Prop
abbrev Zx : Type := Nat → Nat → Zl → List Zv → Zh → Zp → Prop
abbrev Op1 : Type := Zx → Zx
/-- a guard that is reckoned away -/
def gd (b : Bool) (P : Prop) : Prop := match b with
  | true => P
  | false => False
theorem gd_iff {b : Bool} {P : Prop} : gd b P ↔ b = true ∧ P := by cases b <;> simp [gd]
def clr (ls : Zl) (k : Nat) : Zl := match k with
  | 0 => ls
  | j + 1 => match ls[j]? with
    | some (some (.inr (.inl _))) => ls.set j none
    | some (some (.inr (.inr (.inl _)))) => ls.set j none
    | _ => ls
def st1 (ls : Zl) (k : Nat) (v : Zv) : Zl := (clr ls k).set k (some v)
def st2 (ls : Zl) (k : Nat) (v : Zv) : Zl := ((clr ls k).set k (some v)).set (k + 1) none
def sl1 (vs : List Zv) : Zl := match vs with
  | [] => []
  | v :: r => if ctz v = 2 then some v :: none :: sl1 r else some v :: sl1 r
def ent (n : Nat) (vs : List Zv) : Zl := sl1 vs ++ List.replicate (n - (sl1 vs).length) none
-- ---- the instructions
def oFail : Op1 := fun _ _ _ _ _ _ _ => False
def oLdI (k n : Nat) : Op1 := fun X m pc ls st h Q => match ls[k]? with
  | some (some (.inl x)) => X m (pc + n) ls (zi x :: st) h Q
  | _ => False
def oLdL (k n : Nat) : Op1 := fun X m pc ls st h Q => match ls[k]? with
  | some (some (.inr (.inl x))) => X m (pc + n) ls (zl x :: st) h Q
  | _ => False
def oLdD (k n : Nat) : Op1 := fun X m pc ls st h Q => match ls[k]? with
  | some (some (.inr (.inr (.inl x)))) => X m (pc + n) ls (zd x :: st) h Q
  | _ => False
def oLdR (k n : Nat) : Op1 := fun X m pc ls st h Q => match ls[k]? with
  | some (some (.inr (.inr (.inr x)))) => X m (pc + n) ls (zr x :: st) h Q
  | _ => False
def oStI (k n : Nat) : Op1 := fun X m pc ls st h Q => match st with
  | .inl x :: r => X m (pc + n) (st1 ls k (zi x)) r h Q
  | _ => False
def oStL (k n : Nat) : Op1 := fun X m pc ls st h Q => match st with
  | .inr (.inl x) :: r => X m (pc + n) (st2 ls k (zl x)) r h Q
  | _ => False
def oStD (k n : Nat) : Op1 := fun X m pc ls st h Q => match st with
  | .inr (.inr (.inl x)) :: r => X m (pc + n) (st2 ls k (zd x)) r h Q
  | _ => False
def oStR (k n : Nat) : Op1 := fun X m pc ls st h Q => match st with
  | .inr (.inr (.inr x)) :: r => X m (pc + n) (st1 ls k (zr x)) r h Q
  | _ => False
def oCI (x : Int) (n : Nat) : Op1 := fun X m pc ls st h Q => X m (pc + n) ls (zi x :: st) h Q
def oCL (x : Int64) (n : Nat) : Op1 := fun X m pc ls st h Q => X m (pc + n) ls (zl x :: st) h Q
def oCD : Op1 := fun X m pc ls st h Q => X m (pc + 1) ls (zd FP.dconst0 :: st) h Q
def oNull : Op1 := fun X m pc ls st h Q => X m (pc + 1) ls (zr none :: st) h Q
def oInc (k : Nat) (d : Int) : Op1 := fun X m pc ls st h Q => match ls[k]? with
  | some (some (.inl x)) => inR (x + d) ∧ X m (pc + 3) (st1 ls k (zi (x + d))) st h Q
  | _ => False
def oAdd : Op1 := fun X m pc ls st h Q => match st with
  | .inl b :: .inl a :: r => inR (a + b) ∧ X m (pc + 1) ls (zi (a + b) :: r) h Q
  | _ => False
def oSub : Op1 := fun X m pc ls st h Q => match st with
  | .inl b :: .inl a :: r => inR (a - b) ∧ X m (pc + 1) ls (zi (a - b) :: r) h Q
  | _ => False
def oMul : Op1 := fun X m pc ls st h Q => match st with
  | .inl b :: .inl a :: r => inR (a * b) ∧ X m (pc + 1) ls (zi (a * b) :: r) h Q
  | _ => False
/-- of a dividend that is not below 0 and a divisor above 0 -/
def oDiv : Op1 := fun X m pc ls st h Q => match st with
  | .inl b :: .inl a :: r => (0 ≤ a ∧ 0 < b) ∧ X m (pc + 1) ls (zi (a / b) :: r) h Q
  | _ => False
def oRem : Op1 := fun X m pc ls st h Q => match st with
  | .inl b :: .inl a :: r => (0 ≤ a ∧ 0 < b) ∧ X m (pc + 1) ls (zi (a % b) :: r) h Q
  | _ => False
/-- by the mask 31, or of two truths -/
def oAnd : Op1 := fun X m pc ls st h Q => match st with
  | .inl b :: .inl a :: r => (b = 31 ∨ ((a = 0 ∨ a = 1) ∧ (b = 0 ∨ b = 1))) ∧ X m (pc + 1) ls (zi (if b = 31 then a % 32 else a * b) :: r) h Q
  | _ => False
def oI2L : Op1 := fun X m pc ls st h Q => match st with
  | .inl a :: r => X m (pc + 1) ls (zl (Int64.ofInt a) :: r) h Q
  | _ => False
def oLAdd : Op1 := fun X m pc ls st h Q => match st with
  | .inr (.inl b) :: .inr (.inl a) :: r => X m (pc + 1) ls (zl (a + b) :: r) h Q
  | _ => False
def oLMul : Op1 := fun X m pc ls st h Q => match st with
  | .inr (.inl b) :: .inr (.inl a) :: r => X m (pc + 1) ls (zl (a * b) :: r) h Q
  | _ => False
def oLCmp : Op1 := fun X m pc ls st h Q => match st with
  | .inr (.inl b) :: .inr (.inl a) :: r => X m (pc + 1) ls (zi (if a = b then 0 else if a < b then -1 else 1) :: r) h Q
  | _ => False
def oI2D : Op1 := fun X m pc ls st h Q => match st with
  | .inl a :: r => X m (pc + 1) ls (zd (FP.i2d (Int32.ofInt a)) :: r) h Q
  | _ => False
def oDDiv : Op1 := fun X m pc ls st h Q => match st with
  | .inr (.inr (.inl b)) :: .inr (.inr (.inl a)) :: r => vf_n64 (FP.ddiv a b) ∧ X m (pc + 1) ls (zd (FP.ddiv a b) :: r) h Q
  | _ => False
def oDCmp (c : CmpOp) : Op1 := fun X m pc ls st h Q => match st with
  | .inr (.inr (.inl b)) :: .inr (.inr (.inl a)) :: r => X m (pc + 1) ls (zi (Op.cmpValue (FP.dcmp a b) c).toInt :: r) h Q
  | _ => False
def oDup : Op1 := fun X m pc ls st h Q => match st with
  | a :: r => gd (Nat.beq (ctz a) 1) (X m (pc + 1) ls (a :: a :: r) h Q)
  | _ => False
def oDupX1 : Op1 := fun X m pc ls st h Q => match st with
  | a :: b :: r => gd (Nat.beq (ctz a) 1 && Nat.beq (ctz b) 1) (X m (pc + 1) ls (a :: b :: a :: r) h Q)
  | _ => False
def oDup2 : Op1 := fun X m pc ls st h Q => match st with
  | a :: b :: r => gd (Nat.beq (ctz a) 1 && Nat.beq (ctz b) 1) (X m (pc + 1) ls (a :: b :: a :: b :: r) h Q)
  | _ => False
def br (c : Prop) (t f : Prop) : Prop := (c → t) ∧ (¬ c → f)
def oZeq (t : Nat) : Op1 := fun X m pc ls st h Q => match st with
  | .inl a :: r => br (a = 0) (X m t ls r h Q) (X m (pc + 3) ls r h Q)
  | _ => False
def oZne (t : Nat) : Op1 := fun X m pc ls st h Q => match st with
  | .inl a :: r => br (a = 0) (X m (pc + 3) ls r h Q) (X m t ls r h Q)
  | _ => False
def oZlt (t : Nat) : Op1 := fun X m pc ls st h Q => match st with
  | .inl a :: r => br (a < 0) (X m t ls r h Q) (X m (pc + 3) ls r h Q)
  | _ => False
def oZge (t : Nat) : Op1 := fun X m pc ls st h Q => match st with
  | .inl a :: r => br (0 ≤ a) (X m t ls r h Q) (X m (pc + 3) ls r h Q)
  | _ => False
def oZgt (t : Nat) : Op1 := fun X m pc ls st h Q => match st with
  | .inl a :: r => br (0 < a) (X m t ls r h Q) (X m (pc + 3) ls r h Q)
  | _ => False
def oZle (t : Nat) : Op1 := fun X m pc ls st h Q => match st with
  | .inl a :: r => br (a ≤ 0) (X m t ls r h Q) (X m (pc + 3) ls r h Q)
  | _ => False
def oCeq (t : Nat) : Op1 := fun X m pc ls st h Q => match st with
  | .inl b :: .inl a :: r => br (a = b) (X m t ls r h Q) (X m (pc + 3) ls r h Q)
  | _ => False
def oCne (t : Nat) : Op1 := fun X m pc ls st h Q => match st with
  | .inl b :: .inl a :: r => br (a = b) (X m (pc + 3) ls r h Q) (X m t ls r h Q)
  | _ => False
def oClt (t : Nat) : Op1 := fun X m pc ls st h Q => match st with
  | .inl b :: .inl a :: r => br (a < b) (X m t ls r h Q) (X m (pc + 3) ls r h Q)
  | _ => False
def oCge (t : Nat) : Op1 := fun X m pc ls st h Q => match st with
  | .inl b :: .inl a :: r => br (b ≤ a) (X m t ls r h Q) (X m (pc + 3) ls r h Q)
  | _ => False
def oCgt (t : Nat) : Op1 := fun X m pc ls st h Q => match st with
  | .inl b :: .inl a :: r => br (b < a) (X m t ls r h Q) (X m (pc + 3) ls r h Q)
  | _ => False
def oCle (t : Nat) : Op1 := fun X m pc ls st h Q => match st with
  | .inl b :: .inl a :: r => br (a ≤ b) (X m t ls r h Q) (X m (pc + 3) ls r h Q)
  | _ => False
def oNul (t : Nat) : Op1 := fun X m pc ls st h Q => match st with
  | .inr (.inr (.inr a)) :: r => br (a = none) (X m t ls r h Q) (X m (pc + 3) ls r h Q)
  | _ => False
def oNNul (t : Nat) : Op1 := fun X m pc ls st h Q => match st with
  | .inr (.inr (.inr a)) :: r => br (a = none) (X m (pc + 3) ls r h Q) (X m t ls r h Q)
  | _ => False
def oGoto (t : Nat) : Op1 := fun X m _ ls st h Q => X m t ls st h Q
def swA (X : Nat → Prop) (x lo : Int) (ts : List Nat) : Prop := match ts with
  | [] => True
  | t :: r => (x = lo → X t) ∧ swA X x (lo + 1) r
def oSw (lo : Int) (ts : List Nat) (d : Nat) : Op1 := fun X m _ ls st h Q => match st with
  | .inl x :: r => ((x < lo ∨ lo + ts.length ≤ x) → X m d ls r h Q) ∧ swA (fun t => X m t ls r h Q) x lo ts
  | _ => False
def oGetI (c : Nat) (k : Nat) : Op1 := fun X m pc ls st h Q => match st with
  | .inr (.inr (.inr r)) :: t => kd h r c ∧ X m (pc + 3) ls (zi (gI h (ad r) k) :: t) h Q
  | _ => False
def oGetR (c : Nat) (k : Nat) : Op1 := fun X m pc ls st h Q => match st with
  | .inr (.inr (.inr r)) :: t => kd h r c ∧ X m (pc + 3) ls (zr (gR h (ad r) k) :: t) h Q
  | _ => False
def oPutI (c : Nat) (k : Nat) : Op1 := fun X m pc ls st h Q => match st with
  | .inl x :: .inr (.inr (.inr r)) :: t => kd h r c ∧ X m (pc + 3) ls t (pI h (ad r) k x) Q
  | _ => False
def oPutZ (c : Nat) (k : Nat) : Op1 := fun X m pc ls st h Q => match st with
  | .inl x :: .inr (.inr (.inr r)) :: t => (kd h r c ∧ (x = 0 ∨ x = 1)) ∧ X m (pc + 3) ls t (pI h (ad r) k x) Q
  | _ => False
def oPutR (c : Nat) (k : Nat) : Op1 := fun X m pc ls st h Q => match st with
  | .inr (.inr (.inr x)) :: .inr (.inr (.inr r)) :: t => kd h r c ∧ X m (pc + 3) ls t (pR h (ad r) k x) Q
  | _ => False
def ixa (h : Zh) (r : Option Nat) (c : Nat) (i : Int) : Prop := kd h r c ∧ 0 ≤ i ∧ i < gL h (ad r)
def oALdI (c : Nat) : Op1 := fun X m pc ls st h Q => match st with
  | .inl i :: .inr (.inr (.inr r)) :: t => ixa h r c i ∧ X m (pc + 1) ls (zi (gI h (ad r) i) :: t) h Q
  | _ => False
def oALdJ : Op1 := fun X m pc ls st h Q => match st with
  | .inl i :: .inr (.inr (.inr r)) :: t => ixa h r 11 i ∧ X m (pc + 1) ls (zl (gJ h (ad r) i) :: t) h Q
  | _ => False
def oALdR (c : Nat) : Op1 := fun X m pc ls st h Q => match st with
  | .inl i :: .inr (.inr (.inr r)) :: t => ixa h r c i ∧ X m (pc + 1) ls (zr (gR h (ad r) i) :: t) h Q
  | _ => False
def oAStI : Op1 := fun X m pc ls st h Q => match st with
  | .inl x :: .inl i :: .inr (.inr (.inr r)) :: t => ixa h r 10 i ∧ X m (pc + 1) ls t (pI h (ad r) i x) Q
  | _ => False
def oAStZ : Op1 := fun X m pc ls st h Q => match st with
  | .inl x :: .inl i :: .inr (.inr (.inr r)) :: t => (ixa h r 12 i ∧ (x = 0 ∨ x = 1)) ∧ X m (pc + 1) ls t (pI h (ad r) i x) Q
  | _ => False
def oAStJ : Op1 := fun X m pc ls st h Q => match st with
  | .inr (.inl x) :: .inl i :: .inr (.inr (.inr r)) :: t => ixa h r 11 i ∧ X m (pc + 1) ls t (pJ h (ad r) i x) Q
  | _ => False
/-- a thing of the kind e into an array of references of the kind c -/
def oAStR (c e : Nat) : Op1 := fun X m pc ls st h Q => match st with
  | .inr (.inr (.inr x)) :: .inl i :: .inr (.inr (.inr r)) :: t => (ixa h r c i ∧ kd h x e) ∧ X m (pc + 1) ls t (pR h (ad r) i x) Q
  | _ => False
def oALen (c : Nat) : Op1 := fun X m pc ls st h Q => match st with
  | .inr (.inr (.inr r)) :: t => kd h r c ∧ X m (pc + 1) ls (zi (gL h (ad r)) :: t) h Q
  | _ => False
/-- new C: kind c, n fields -/
def oNew (c n : Nat) : Op1 := fun X m pc ls st h Q => (gC h + 1 ≤ MXC ∧ gS h + n ≤ MXS) ∧ ∀ a, gK h a = 0 → X m (pc + 3) ls (zr (some a) :: st) (nw h a c n) Q
def oNewA (c len : Nat) : Op1 := fun X m pc ls st h Q => match st with
  | .inl n :: t => (0 ≤ n ∧ n ≤ 1000000 ∧ gC h + 1 ≤ MXC ∧ gS h + n.toNat ≤ MXS) ∧ ∀ a, gK h a = 0 → X m (pc + len) ls (zr (some a) :: t) (nw h a c n) Q
  | _ => False
def oNew2 : Op1 := fun X m pc ls st h Q => match st with
  | .inl k :: .inl n :: t => (0 ≤ n ∧ n ≤ 1000 ∧ 0 ≤ k ∧ k ≤ 1000 ∧ gC h + 1 + n.toNat ≤ MXC ∧ gS h + n.toNat + n.toNat * k.toNat ≤ MXS) ∧ ∀ (q : Nat) (r : Nat → Nat), gK h q = 0 → (∀ i, i < n.toNat → gK h (r i) = 0 ∧ r i ≠ q) → (∀ i j, i < n.toNat → j < n.toNat → r i = r j → i = j) →
      X m (pc + 4) ls (zr (some q) :: t) (nw2 h q r n.toNat k) Q
  | _ => False
def oMax : Op1 := fun X m pc ls st h Q => match st with
  | .inl b :: .inl a :: r => gd (Nat.ble (r.map ctz).sum 8) (X m (pc + 3) ls (zi (if a < b then b else a) :: r) h Q)
  | _ => False
def oMin : Op1 := fun X m pc ls st h Q => match st with
  | .inl b :: .inl a :: r => gd (Nat.ble (r.map ctz).sum 8) (X m (pc + 3) ls (zi (if b < a then b else a) :: r) h Q)
  | _ => False
def oAbs : Op1 := fun X m pc ls st h Q => match st with
  | .inl a :: r => gd (Nat.ble (r.map ctz).sum 8) (inR (-a) ∧ X m (pc + 3) ls (zi (if a < 0 then -a else a) :: r) h Q)
  | _ => False
def oCpy : Op1 := fun X m pc ls st h Q => match st with
  | .inl n :: .inl dp :: .inr (.inr (.inr d)) :: .inl sp :: .inr (.inr (.inr s)) :: r => gd (Nat.ble (r.map ctz).sum 8) ((kd h s 10 ∧ kd h d 10 ∧ 0 ≤ n ∧ 0 ≤ sp ∧ 0 ≤ dp ∧ sp + n ≤ gL h (ad s) ∧ dp + n ≤ gL h (ad d)) ∧ X m (pc + 3) ls r (cpy h (ad s) sp (ad d) dp n) Q)
  | _ => False
/-- Object's constructor -/
def oObj : Op1 := fun X m pc ls st h Q => match st with
  | .inr (.inr (.inr a)) :: r => gd (Nat.ble (r.map ctz).sum 8) (a ≠ none ∧ X m (pc + 3) ls r h Q)
  | _ => False
/-- behind a call; hs: the handlers of this place, a code of a class and where it goes on (none: it goes out) -/
def kont (X : Zx) (m pc : Nat) (ls : Zl) (r : List Zv) (hs : List (Nat × Nat)) (Q : Zp) : Zp := fun o h => match o with
  | .inl v => X m (pc + 3) ls (v.toList ++ r) h Q
  | .inr e => match hs with
    | [] => Q (.inr e) h
    | _ => match hs.lookup e with
      | some t => ∀ q, X m t ls [zr (some q)] h Q
      | none => False
/-- a call of method m2 (of n parameters, maxL locals) -/
def oCallS (m2 n maxL : Nat) (hs : List (Nat × Nat)) : Op1 := fun X m pc ls st h Q =>
  gd (Nat.ble ((st.drop n).map ctz).sum 8 && (Nat.ble n st.length && Nat.ble (sl1 (st.take n).reverse).length maxL)) (X m2 0 (ent maxL (st.take n).reverse) [] h (kont X m pc ls (st.drop n) hs Q))
/-- the receiver, of the kind c, is below the n parameters -/
def oCallV (m2 n maxL c : Nat) (hs : List (Nat × Nat)) : Op1 := fun X m pc ls st h Q => match st.drop n with
  | .inr (.inr (.inr r)) :: t => gd (Nat.ble (t.map ctz).sum 8 && (Nat.ble n st.length && Nat.ble (sl1 (zr r :: (st.take n).reverse)).length maxL)) (kd h r c ∧ X m2 0 (ent maxL (zr r :: (st.take n).reverse)) [] h (kont X m pc ls t hs Q))
  | _ => False
def oRetI : Op1 := fun _ _ _ _ st h Q => match st with
  | [.inl x] => Q (.inl (some (zi x))) h
  | _ => False
def oRetZ : Op1 := fun _ _ _ _ st h Q => match st with
  | [.inl x] => (x = 0 ∨ x = 1) ∧ Q (.inl (some (zi x))) h
  | _ => False
def oRetL : Op1 := fun _ _ _ _ st h Q => match st with
  | [.inr (.inl x)] => Q (.inl (some (zl x))) h
  | _ => False
def oRetD : Op1 := fun _ _ _ _ st h Q => match st with
  | [.inr (.inr (.inl x))] => Q (.inl (some (zd x))) h
  | _ => False
def oRetR : Op1 := fun _ _ _ _ st h Q => match st with
  | [.inr (.inr (.inr x))] => Q (.inl (some (zr x))) h
  | _ => False
def oRetV : Op1 := fun _ _ _ _ st h Q => match st with
  | [] => Q (.inl none) h
  | _ => False
/-- new E, dup, the text, its constructor, athrow -/
def oThr (e : Nat) : Op1 := fun _ _ _ _ st h Q => gd (Nat.ble (st.map ctz).sum 8) ((gC h + 1 ≤ MXC ∧ gS h + 6 ≤ MXS) ∧ Q (.inr e) (tk h))
-- ---- more instructions: what is not followed (any int), the mask of a sign, rows of rows of rows
def oHav : Op1 := fun X m pc ls st h Q => match st with
  | .inl _ :: .inl _ :: r => ∀ x : Int, inR x → X m (pc + 1) ls (zi x :: r) h Q
  | _ => False
def oMsk : Op1 := fun X m pc ls st h Q => match st with
  | .inl b :: .inl _ :: r => b = 2147483647 ∧ ∀ x : Int, 0 ≤ x → x ≤ 2147483647 → X m (pc + 1) ls (zi x :: r) h Q
  | _ => False
/-- new int[1][0][]: the outer one at q, the inner one at r -/
def nw3 (h : Zh) (q r : Nat) : Zh := pR (nw (nw h r 14 0) q 16 1) q 0 (some r)
def oNew3 : Op1 := fun X m pc ls st h Q => match st with
  | .inl k :: .inl n :: t => ((n = 1 ∧ k = 0) ∧ gC h + 2 ≤ MXC ∧ gS h + 1 ≤ MXS) ∧ ∀ (q r : Nat), gK h q = 0 → gK h r = 0 → r ≠ q → X m (pc + 4) ls (zr (some q) :: t) (nw3 h q r) Q
  | _ => False
/-- references copied -/
def cpyR (h : Zh) (s : Nat) (sp : Int) (d : Nat) (dp n : Int) : Zh := (h.1, h.2.1, h.2.2.1, (fun b j => if b = d ∧ dp ≤ j ∧ j < dp + n then gR h s (sp + (j - dp)) else gR h b j), h.2.2.2.2)
theorem gK_cpyR (h : Zh) (s : Nat) (sp : Int) (d : Nat) (dp n : Int) (b : Nat) : gK (cpyR h s sp d dp n) b = gK h b := rfl
theorem gL_cpyR (h : Zh) (s : Nat) (sp : Int) (d : Nat) (dp n : Int) (b : Nat) : gL (cpyR h s sp d dp n) b = gL h b := rfl
theorem gI_cpyR (h : Zh) (s : Nat) (sp : Int) (d : Nat) (dp n : Int) (b : Nat) (j : Int) : gI (cpyR h s sp d dp n) b j = gI h b j := rfl
theorem gR_cpyR (h : Zh) (s : Nat) (sp : Int) (d : Nat) (dp n : Int) (b : Nat) (j : Int) : gR (cpyR h s sp d dp n) b j = if b = d ∧ dp ≤ j ∧ j < dp + n then gR h s (sp + (j - dp)) else gR h b j := rfl
theorem gJ_cpyR (h : Zh) (s : Nat) (sp : Int) (d : Nat) (dp n : Int) (b : Nat) (j : Int) : gJ (cpyR h s sp d dp n) b j = gJ h b j := rfl
theorem gC_cpyR (h : Zh) (s : Nat) (sp : Int) (d : Nat) (dp n : Int) : gC (cpyR h s sp d dp n) = gC h := rfl
theorem gS_cpyR (h : Zh) (s : Nat) (sp : Int) (d : Nat) (dp n : Int) : gS (cpyR h s sp d dp n) = gS h := rfl
/-- the rows of an array of references of the kind c, to things of the kind e -/
def elk (h : Zh) (s : Nat) (sp n : Int) (e : Nat) : Prop := ∀ (i : Int) (y : Nat), sp ≤ i → i < sp + n → gR h s i = some y → gK h y = e
def oCpyR (c e : Nat) : Op1 := fun X m pc ls st h Q => match st with
  | .inl n :: .inl dp :: .inr (.inr (.inr d)) :: .inl sp :: .inr (.inr (.inr s)) :: r => gd (Nat.ble (r.map ctz).sum 8) ((kd h s c ∧ kd h d c ∧ 0 ≤ n ∧ 0 ≤ sp ∧ 0 ≤ dp ∧ sp + n ≤ gL h (ad s) ∧ dp + n ≤ gL h (ad d) ∧ elk h (ad s) sp n e) ∧ X m (pc + 3) ls r (cpyR h (ad s) sp (ad d) dp n) Q)
  | _ => False
-- ---- monotone
def ZxLe (X Y : Zx) : Prop := ∀ m pc ls st h Q, X m pc ls st h Q → Y m pc ls st h Q
def ZxMo (X : Zx) : Prop := ∀ m pc ls st h (Q Q2 : Zp), (∀ o g, Q o g → Q2 o g) → X m pc ls st h Q → X m pc ls st h Q2
/-- both at once: a larger X, a larger Q -/
def OpMo (f : Op1) : Prop := ∀ (X Y : Zx), ZxLe X Y → ZxMo Y → ∀ m pc ls st h (Q Q2 : Zp), (∀ o g, Q o g → Q2 o g) → f X m pc ls st h Q → f Y m pc ls st h Q2
theorem br_mo {c a b a2 b2 : Prop} (h1 : a → a2) (h2 : b → b2) : br c a b → br c a2 b2 := fun ⟨x, y⟩ => ⟨fun z => h1 (x z), fun z => h2 (y z)⟩
theorem swA_mo {X Y : Nat → Prop} (h : ∀ t, X t → Y t) (x : Int) : ∀ (ts : List Nat) (lo : Int), swA X x lo ts → swA Y x lo ts
  | [], _, _ => trivial
  | _ :: r, lo, ⟨a, b⟩ => ⟨fun e => h _ (a e), swA_mo h x r (lo + 1) b⟩
theorem mo_id {X Y : Zx} (hXY : ZxLe X Y) (hY : ZxMo Y) {m pc : Nat} {ls : Zl} {st : List Zv} {h : Zh} {Q Q2 : Zp} (hQ : ∀ o g, Q o g → Q2 o g) : X m pc ls st h Q → Y m pc ls st h Q2 := fun k => hY _ _ _ _ _ _ _ hQ (hXY _ _ _ _ _ _ k)
theorem kont_mo {X Y : Zx} (hXY : ZxLe X Y) (hY : ZxMo Y) {m pc : Nat} {ls : Zl} {r : List Zv} {hs : List (Nat × Nat)} {Q Q2 : Zp} (hQ : ∀ o g, Q o g → Q2 o g) : ∀ o g, kont X m pc ls r hs Q o g → kont Y m pc ls r hs Q2 o g := by
  intro o g k
  match o, hs, k with
  | .inl v, hs, k => exact mo_id hXY hY hQ k
  | .inr e, [], k => exact hQ _ _ k
  | .inr e, q :: t, k =>
    unfold kont at k ⊢
    dsimp only at k ⊢
    split
    · next _ t9 e9 => rw [e9] at k; exact fun q => mo_id hXY hY hQ (k q)
    · next e9 => rw [e9] at k; exact k
end
section
theorem gd_mo {b : Bool} {P P2 : Prop} (h : P → P2) (k : gd b P) : gd b P2 := by
  cases b
  · exact k
  · exact h k
theorem mo_oLdI (k n : Nat) : OpMo (oLdI k n) := by
  intro X Y hXY hY m pc ls st h Q Q2 hQ k
  unfold oLdI at k ⊢
  first
    | exact mo_id hXY hY hQ k
    | (split at k <;> first
        | exact k.elim
        | exact ⟨k.1, mo_id hXY hY hQ k.2⟩
        | exact gd_mo (fun k => mo_id hXY hY hQ k) k
        | exact gd_mo (fun k => ⟨k.1, mo_id hXY hY hQ k.2⟩) k
        | exact mo_id hXY hY hQ k
        | exact br_mo (mo_id hXY hY hQ) (mo_id hXY hY hQ) k
        | exact hQ _ _ k
        | exact ⟨k.1, hQ _ _ k.2⟩)
theorem mo_oLdL (k n : Nat) : OpMo (oLdL k n) := by
  intro X Y hXY hY m pc ls st h Q Q2 hQ k
  unfold oLdL at k ⊢
  first
    | exact mo_id hXY hY hQ k
    | (split at k <;> first
        | exact k.elim
        | exact ⟨k.1, mo_id hXY hY hQ k.2⟩
        | exact gd_mo (fun k => mo_id hXY hY hQ k) k
        | exact gd_mo (fun k => ⟨k.1, mo_id hXY hY hQ k.2⟩) k
        | exact mo_id hXY hY hQ k
        | exact br_mo (mo_id hXY hY hQ) (mo_id hXY hY hQ) k
        | exact hQ _ _ k
        | exact ⟨k.1, hQ _ _ k.2⟩)
theorem mo_oLdD (k n : Nat) : OpMo (oLdD k n) := by
  intro X Y hXY hY m pc ls st h Q Q2 hQ k
  unfold oLdD at k ⊢
  first
    | exact mo_id hXY hY hQ k
    | (split at k <;> first
        | exact k.elim
        | exact ⟨k.1, mo_id hXY hY hQ k.2⟩
        | exact gd_mo (fun k => mo_id hXY hY hQ k) k
        | exact gd_mo (fun k => ⟨k.1, mo_id hXY hY hQ k.2⟩) k
        | exact mo_id hXY hY hQ k
        | exact br_mo (mo_id hXY hY hQ) (mo_id hXY hY hQ) k
        | exact hQ _ _ k
        | exact ⟨k.1, hQ _ _ k.2⟩)
theorem mo_oLdR (k n : Nat) : OpMo (oLdR k n) := by
  intro X Y hXY hY m pc ls st h Q Q2 hQ k
  unfold oLdR at k ⊢
  first
    | exact mo_id hXY hY hQ k
    | (split at k <;> first
        | exact k.elim
        | exact ⟨k.1, mo_id hXY hY hQ k.2⟩
        | exact gd_mo (fun k => mo_id hXY hY hQ k) k
        | exact gd_mo (fun k => ⟨k.1, mo_id hXY hY hQ k.2⟩) k
        | exact mo_id hXY hY hQ k
        | exact br_mo (mo_id hXY hY hQ) (mo_id hXY hY hQ) k
        | exact hQ _ _ k
        | exact ⟨k.1, hQ _ _ k.2⟩)
theorem mo_oStI (k n : Nat) : OpMo (oStI k n) := by
  intro X Y hXY hY m pc ls st h Q Q2 hQ k
  unfold oStI at k ⊢
  first
    | exact mo_id hXY hY hQ k
    | (split at k <;> first
        | exact k.elim
        | exact ⟨k.1, mo_id hXY hY hQ k.2⟩
        | exact gd_mo (fun k => mo_id hXY hY hQ k) k
        | exact gd_mo (fun k => ⟨k.1, mo_id hXY hY hQ k.2⟩) k
        | exact mo_id hXY hY hQ k
        | exact br_mo (mo_id hXY hY hQ) (mo_id hXY hY hQ) k
        | exact hQ _ _ k
        | exact ⟨k.1, hQ _ _ k.2⟩)
theorem mo_oStL (k n : Nat) : OpMo (oStL k n) := by
  intro X Y hXY hY m pc ls st h Q Q2 hQ k
  unfold oStL at k ⊢
  first
    | exact mo_id hXY hY hQ k
    | (split at k <;> first
        | exact k.elim
        | exact ⟨k.1, mo_id hXY hY hQ k.2⟩
        | exact gd_mo (fun k => mo_id hXY hY hQ k) k
        | exact gd_mo (fun k => ⟨k.1, mo_id hXY hY hQ k.2⟩) k
        | exact mo_id hXY hY hQ k
        | exact br_mo (mo_id hXY hY hQ) (mo_id hXY hY hQ) k
        | exact hQ _ _ k
        | exact ⟨k.1, hQ _ _ k.2⟩)
theorem mo_oStD (k n : Nat) : OpMo (oStD k n) := by
  intro X Y hXY hY m pc ls st h Q Q2 hQ k
  unfold oStD at k ⊢
  first
    | exact mo_id hXY hY hQ k
    | (split at k <;> first
        | exact k.elim
        | exact ⟨k.1, mo_id hXY hY hQ k.2⟩
        | exact gd_mo (fun k => mo_id hXY hY hQ k) k
        | exact gd_mo (fun k => ⟨k.1, mo_id hXY hY hQ k.2⟩) k
        | exact mo_id hXY hY hQ k
        | exact br_mo (mo_id hXY hY hQ) (mo_id hXY hY hQ) k
        | exact hQ _ _ k
        | exact ⟨k.1, hQ _ _ k.2⟩)
theorem mo_oStR (k n : Nat) : OpMo (oStR k n) := by
  intro X Y hXY hY m pc ls st h Q Q2 hQ k
  unfold oStR at k ⊢
  first
    | exact mo_id hXY hY hQ k
    | (split at k <;> first
        | exact k.elim
        | exact ⟨k.1, mo_id hXY hY hQ k.2⟩
        | exact gd_mo (fun k => mo_id hXY hY hQ k) k
        | exact gd_mo (fun k => ⟨k.1, mo_id hXY hY hQ k.2⟩) k
        | exact mo_id hXY hY hQ k
        | exact br_mo (mo_id hXY hY hQ) (mo_id hXY hY hQ) k
        | exact hQ _ _ k
        | exact ⟨k.1, hQ _ _ k.2⟩)
theorem mo_oCI (x : Int) (n : Nat) : OpMo (oCI x n) := by
  intro X Y hXY hY m pc ls st h Q Q2 hQ k
  unfold oCI at k ⊢
  first
    | exact mo_id hXY hY hQ k
    | (split at k <;> first
        | exact k.elim
        | exact ⟨k.1, mo_id hXY hY hQ k.2⟩
        | exact gd_mo (fun k => mo_id hXY hY hQ k) k
        | exact gd_mo (fun k => ⟨k.1, mo_id hXY hY hQ k.2⟩) k
        | exact mo_id hXY hY hQ k
        | exact br_mo (mo_id hXY hY hQ) (mo_id hXY hY hQ) k
        | exact hQ _ _ k
        | exact ⟨k.1, hQ _ _ k.2⟩)
theorem mo_oCL (x : Int64) (n : Nat) : OpMo (oCL x n) := by
  intro X Y hXY hY m pc ls st h Q Q2 hQ k
  unfold oCL at k ⊢
  first
    | exact mo_id hXY hY hQ k
    | (split at k <;> first
        | exact k.elim
        | exact ⟨k.1, mo_id hXY hY hQ k.2⟩
        | exact gd_mo (fun k => mo_id hXY hY hQ k) k
        | exact gd_mo (fun k => ⟨k.1, mo_id hXY hY hQ k.2⟩) k
        | exact mo_id hXY hY hQ k
        | exact br_mo (mo_id hXY hY hQ) (mo_id hXY hY hQ) k
        | exact hQ _ _ k
        | exact ⟨k.1, hQ _ _ k.2⟩)
theorem mo_oCD : OpMo (oCD) := by
  intro X Y hXY hY m pc ls st h Q Q2 hQ k
  unfold oCD at k ⊢
  first
    | exact mo_id hXY hY hQ k
    | (split at k <;> first
        | exact k.elim
        | exact ⟨k.1, mo_id hXY hY hQ k.2⟩
        | exact gd_mo (fun k => mo_id hXY hY hQ k) k
        | exact gd_mo (fun k => ⟨k.1, mo_id hXY hY hQ k.2⟩) k
        | exact mo_id hXY hY hQ k
        | exact br_mo (mo_id hXY hY hQ) (mo_id hXY hY hQ) k
        | exact hQ _ _ k
        | exact ⟨k.1, hQ _ _ k.2⟩)
theorem mo_oNull : OpMo (oNull) := by
  intro X Y hXY hY m pc ls st h Q Q2 hQ k
  unfold oNull at k ⊢
  first
    | exact mo_id hXY hY hQ k
    | (split at k <;> first
        | exact k.elim
        | exact ⟨k.1, mo_id hXY hY hQ k.2⟩
        | exact gd_mo (fun k => mo_id hXY hY hQ k) k
        | exact gd_mo (fun k => ⟨k.1, mo_id hXY hY hQ k.2⟩) k
        | exact mo_id hXY hY hQ k
        | exact br_mo (mo_id hXY hY hQ) (mo_id hXY hY hQ) k
        | exact hQ _ _ k
        | exact ⟨k.1, hQ _ _ k.2⟩)
theorem mo_oInc (k : Nat) (d : Int) : OpMo (oInc k d) := by
  intro X Y hXY hY m pc ls st h Q Q2 hQ k
  unfold oInc at k ⊢
  first
    | exact mo_id hXY hY hQ k
    | (split at k <;> first
        | exact k.elim
        | exact ⟨k.1, mo_id hXY hY hQ k.2⟩
        | exact gd_mo (fun k => mo_id hXY hY hQ k) k
        | exact gd_mo (fun k => ⟨k.1, mo_id hXY hY hQ k.2⟩) k
        | exact mo_id hXY hY hQ k
        | exact br_mo (mo_id hXY hY hQ) (mo_id hXY hY hQ) k
        | exact hQ _ _ k
        | exact ⟨k.1, hQ _ _ k.2⟩)
theorem mo_oAdd : OpMo (oAdd) := by
  intro X Y hXY hY m pc ls st h Q Q2 hQ k
  unfold oAdd at k ⊢
  first
    | exact mo_id hXY hY hQ k
    | (split at k <;> first
        | exact k.elim
        | exact ⟨k.1, mo_id hXY hY hQ k.2⟩
        | exact gd_mo (fun k => mo_id hXY hY hQ k) k
        | exact gd_mo (fun k => ⟨k.1, mo_id hXY hY hQ k.2⟩) k
        | exact mo_id hXY hY hQ k
        | exact br_mo (mo_id hXY hY hQ) (mo_id hXY hY hQ) k
        | exact hQ _ _ k
        | exact ⟨k.1, hQ _ _ k.2⟩)
theorem mo_oSub : OpMo (oSub) := by
  intro X Y hXY hY m pc ls st h Q Q2 hQ k
  unfold oSub at k ⊢
  first
    | exact mo_id hXY hY hQ k
    | (split at k <;> first
        | exact k.elim
        | exact ⟨k.1, mo_id hXY hY hQ k.2⟩
        | exact gd_mo (fun k => mo_id hXY hY hQ k) k
        | exact gd_mo (fun k => ⟨k.1, mo_id hXY hY hQ k.2⟩) k
        | exact mo_id hXY hY hQ k
        | exact br_mo (mo_id hXY hY hQ) (mo_id hXY hY hQ) k
        | exact hQ _ _ k
        | exact ⟨k.1, hQ _ _ k.2⟩)
theorem mo_oMul : OpMo (oMul) := by
  intro X Y hXY hY m pc ls st h Q Q2 hQ k
  unfold oMul at k ⊢
  first
    | exact mo_id hXY hY hQ k
    | (split at k <;> first
        | exact k.elim
        | exact ⟨k.1, mo_id hXY hY hQ k.2⟩
        | exact gd_mo (fun k => mo_id hXY hY hQ k) k
        | exact gd_mo (fun k => ⟨k.1, mo_id hXY hY hQ k.2⟩) k
        | exact mo_id hXY hY hQ k
        | exact br_mo (mo_id hXY hY hQ) (mo_id hXY hY hQ) k
        | exact hQ _ _ k
        | exact ⟨k.1, hQ _ _ k.2⟩)
theorem mo_oDiv : OpMo (oDiv) := by
  intro X Y hXY hY m pc ls st h Q Q2 hQ k
  unfold oDiv at k ⊢
  first
    | exact mo_id hXY hY hQ k
    | (split at k <;> first
        | exact k.elim
        | exact ⟨k.1, mo_id hXY hY hQ k.2⟩
        | exact gd_mo (fun k => mo_id hXY hY hQ k) k
        | exact gd_mo (fun k => ⟨k.1, mo_id hXY hY hQ k.2⟩) k
        | exact mo_id hXY hY hQ k
        | exact br_mo (mo_id hXY hY hQ) (mo_id hXY hY hQ) k
        | exact hQ _ _ k
        | exact ⟨k.1, hQ _ _ k.2⟩)
theorem mo_oRem : OpMo (oRem) := by
  intro X Y hXY hY m pc ls st h Q Q2 hQ k
  unfold oRem at k ⊢
  first
    | exact mo_id hXY hY hQ k
    | (split at k <;> first
        | exact k.elim
        | exact ⟨k.1, mo_id hXY hY hQ k.2⟩
        | exact gd_mo (fun k => mo_id hXY hY hQ k) k
        | exact gd_mo (fun k => ⟨k.1, mo_id hXY hY hQ k.2⟩) k
        | exact mo_id hXY hY hQ k
        | exact br_mo (mo_id hXY hY hQ) (mo_id hXY hY hQ) k
        | exact hQ _ _ k
        | exact ⟨k.1, hQ _ _ k.2⟩)
theorem mo_oAnd : OpMo (oAnd) := by
  intro X Y hXY hY m pc ls st h Q Q2 hQ k
  unfold oAnd at k ⊢
  first
    | exact mo_id hXY hY hQ k
    | (split at k <;> first
        | exact k.elim
        | exact ⟨k.1, mo_id hXY hY hQ k.2⟩
        | exact gd_mo (fun k => mo_id hXY hY hQ k) k
        | exact gd_mo (fun k => ⟨k.1, mo_id hXY hY hQ k.2⟩) k
        | exact mo_id hXY hY hQ k
        | exact br_mo (mo_id hXY hY hQ) (mo_id hXY hY hQ) k
        | exact hQ _ _ k
        | exact ⟨k.1, hQ _ _ k.2⟩)
theorem mo_oI2L : OpMo (oI2L) := by
  intro X Y hXY hY m pc ls st h Q Q2 hQ k
  unfold oI2L at k ⊢
  first
    | exact mo_id hXY hY hQ k
    | (split at k <;> first
        | exact k.elim
        | exact ⟨k.1, mo_id hXY hY hQ k.2⟩
        | exact gd_mo (fun k => mo_id hXY hY hQ k) k
        | exact gd_mo (fun k => ⟨k.1, mo_id hXY hY hQ k.2⟩) k
        | exact mo_id hXY hY hQ k
        | exact br_mo (mo_id hXY hY hQ) (mo_id hXY hY hQ) k
        | exact hQ _ _ k
        | exact ⟨k.1, hQ _ _ k.2⟩)
theorem mo_oLAdd : OpMo (oLAdd) := by
  intro X Y hXY hY m pc ls st h Q Q2 hQ k
  unfold oLAdd at k ⊢
  first
    | exact mo_id hXY hY hQ k
    | (split at k <;> first
        | exact k.elim
        | exact ⟨k.1, mo_id hXY hY hQ k.2⟩
        | exact gd_mo (fun k => mo_id hXY hY hQ k) k
        | exact gd_mo (fun k => ⟨k.1, mo_id hXY hY hQ k.2⟩) k
        | exact mo_id hXY hY hQ k
        | exact br_mo (mo_id hXY hY hQ) (mo_id hXY hY hQ) k
        | exact hQ _ _ k
        | exact ⟨k.1, hQ _ _ k.2⟩)
theorem mo_oLMul : OpMo (oLMul) := by
  intro X Y hXY hY m pc ls st h Q Q2 hQ k
  unfold oLMul at k ⊢
  first
    | exact mo_id hXY hY hQ k
    | (split at k <;> first
        | exact k.elim
        | exact ⟨k.1, mo_id hXY hY hQ k.2⟩
        | exact gd_mo (fun k => mo_id hXY hY hQ k) k
        | exact gd_mo (fun k => ⟨k.1, mo_id hXY hY hQ k.2⟩) k
        | exact mo_id hXY hY hQ k
        | exact br_mo (mo_id hXY hY hQ) (mo_id hXY hY hQ) k
        | exact hQ _ _ k
        | exact ⟨k.1, hQ _ _ k.2⟩)
theorem mo_oLCmp : OpMo (oLCmp) := by
  intro X Y hXY hY m pc ls st h Q Q2 hQ k
  unfold oLCmp at k ⊢
  first
    | exact mo_id hXY hY hQ k
    | (split at k <;> first
        | exact k.elim
        | exact ⟨k.1, mo_id hXY hY hQ k.2⟩
        | exact gd_mo (fun k => mo_id hXY hY hQ k) k
        | exact gd_mo (fun k => ⟨k.1, mo_id hXY hY hQ k.2⟩) k
        | exact mo_id hXY hY hQ k
        | exact br_mo (mo_id hXY hY hQ) (mo_id hXY hY hQ) k
        | exact hQ _ _ k
        | exact ⟨k.1, hQ _ _ k.2⟩)
theorem mo_oI2D : OpMo (oI2D) := by
  intro X Y hXY hY m pc ls st h Q Q2 hQ k
  unfold oI2D at k ⊢
  first
    | exact mo_id hXY hY hQ k
    | (split at k <;> first
        | exact k.elim
        | exact ⟨k.1, mo_id hXY hY hQ k.2⟩
        | exact gd_mo (fun k => mo_id hXY hY hQ k) k
        | exact gd_mo (fun k => ⟨k.1, mo_id hXY hY hQ k.2⟩) k
        | exact mo_id hXY hY hQ k
        | exact br_mo (mo_id hXY hY hQ) (mo_id hXY hY hQ) k
        | exact hQ _ _ k
        | exact ⟨k.1, hQ _ _ k.2⟩)
theorem mo_oDDiv : OpMo (oDDiv) := by
  intro X Y hXY hY m pc ls st h Q Q2 hQ k
  unfold oDDiv at k ⊢
  first
    | exact mo_id hXY hY hQ k
    | (split at k <;> first
        | exact k.elim
        | exact ⟨k.1, mo_id hXY hY hQ k.2⟩
        | exact gd_mo (fun k => mo_id hXY hY hQ k) k
        | exact gd_mo (fun k => ⟨k.1, mo_id hXY hY hQ k.2⟩) k
        | exact mo_id hXY hY hQ k
        | exact br_mo (mo_id hXY hY hQ) (mo_id hXY hY hQ) k
        | exact hQ _ _ k
        | exact ⟨k.1, hQ _ _ k.2⟩)
theorem mo_oDup : OpMo (oDup) := by
  intro X Y hXY hY m pc ls st h Q Q2 hQ k
  unfold oDup at k ⊢
  first
    | exact mo_id hXY hY hQ k
    | (split at k <;> first
        | exact k.elim
        | exact ⟨k.1, mo_id hXY hY hQ k.2⟩
        | exact gd_mo (fun k => mo_id hXY hY hQ k) k
        | exact gd_mo (fun k => ⟨k.1, mo_id hXY hY hQ k.2⟩) k
        | exact mo_id hXY hY hQ k
        | exact br_mo (mo_id hXY hY hQ) (mo_id hXY hY hQ) k
        | exact hQ _ _ k
        | exact ⟨k.1, hQ _ _ k.2⟩)
theorem mo_oDupX1 : OpMo (oDupX1) := by
  intro X Y hXY hY m pc ls st h Q Q2 hQ k
  unfold oDupX1 at k ⊢
  first
    | exact mo_id hXY hY hQ k
    | (split at k <;> first
        | exact k.elim
        | exact ⟨k.1, mo_id hXY hY hQ k.2⟩
        | exact gd_mo (fun k => mo_id hXY hY hQ k) k
        | exact gd_mo (fun k => ⟨k.1, mo_id hXY hY hQ k.2⟩) k
        | exact mo_id hXY hY hQ k
        | exact br_mo (mo_id hXY hY hQ) (mo_id hXY hY hQ) k
        | exact hQ _ _ k
        | exact ⟨k.1, hQ _ _ k.2⟩)
theorem mo_oDup2 : OpMo (oDup2) := by
  intro X Y hXY hY m pc ls st h Q Q2 hQ k
  unfold oDup2 at k ⊢
  first
    | exact mo_id hXY hY hQ k
    | (split at k <;> first
        | exact k.elim
        | exact ⟨k.1, mo_id hXY hY hQ k.2⟩
        | exact gd_mo (fun k => mo_id hXY hY hQ k) k
        | exact gd_mo (fun k => ⟨k.1, mo_id hXY hY hQ k.2⟩) k
        | exact mo_id hXY hY hQ k
        | exact br_mo (mo_id hXY hY hQ) (mo_id hXY hY hQ) k
        | exact hQ _ _ k
        | exact ⟨k.1, hQ _ _ k.2⟩)
theorem mo_oALdJ : OpMo (oALdJ) := by
  intro X Y hXY hY m pc ls st h Q Q2 hQ k
  unfold oALdJ at k ⊢
  first
    | exact mo_id hXY hY hQ k
    | (split at k <;> first
        | exact k.elim
        | exact ⟨k.1, mo_id hXY hY hQ k.2⟩
        | exact gd_mo (fun k => mo_id hXY hY hQ k) k
        | exact gd_mo (fun k => ⟨k.1, mo_id hXY hY hQ k.2⟩) k
        | exact mo_id hXY hY hQ k
        | exact br_mo (mo_id hXY hY hQ) (mo_id hXY hY hQ) k
        | exact hQ _ _ k
        | exact ⟨k.1, hQ _ _ k.2⟩)
theorem mo_oAStI : OpMo (oAStI) := by
  intro X Y hXY hY m pc ls st h Q Q2 hQ k
  unfold oAStI at k ⊢
  first
    | exact mo_id hXY hY hQ k
    | (split at k <;> first
        | exact k.elim
        | exact ⟨k.1, mo_id hXY hY hQ k.2⟩
        | exact gd_mo (fun k => mo_id hXY hY hQ k) k
        | exact gd_mo (fun k => ⟨k.1, mo_id hXY hY hQ k.2⟩) k
        | exact mo_id hXY hY hQ k
        | exact br_mo (mo_id hXY hY hQ) (mo_id hXY hY hQ) k
        | exact hQ _ _ k
        | exact ⟨k.1, hQ _ _ k.2⟩)
theorem mo_oAStZ : OpMo (oAStZ) := by
  intro X Y hXY hY m pc ls st h Q Q2 hQ k
  unfold oAStZ at k ⊢
  first
    | exact mo_id hXY hY hQ k
    | (split at k <;> first
        | exact k.elim
        | exact ⟨k.1, mo_id hXY hY hQ k.2⟩
        | exact gd_mo (fun k => mo_id hXY hY hQ k) k
        | exact gd_mo (fun k => ⟨k.1, mo_id hXY hY hQ k.2⟩) k
        | exact mo_id hXY hY hQ k
        | exact br_mo (mo_id hXY hY hQ) (mo_id hXY hY hQ) k
        | exact hQ _ _ k
        | exact ⟨k.1, hQ _ _ k.2⟩)
theorem mo_oAStJ : OpMo (oAStJ) := by
  intro X Y hXY hY m pc ls st h Q Q2 hQ k
  unfold oAStJ at k ⊢
  first
    | exact mo_id hXY hY hQ k
    | (split at k <;> first
        | exact k.elim
        | exact ⟨k.1, mo_id hXY hY hQ k.2⟩
        | exact gd_mo (fun k => mo_id hXY hY hQ k) k
        | exact gd_mo (fun k => ⟨k.1, mo_id hXY hY hQ k.2⟩) k
        | exact mo_id hXY hY hQ k
        | exact br_mo (mo_id hXY hY hQ) (mo_id hXY hY hQ) k
        | exact hQ _ _ k
        | exact ⟨k.1, hQ _ _ k.2⟩)
theorem mo_oMax : OpMo (oMax) := by
  intro X Y hXY hY m pc ls st h Q Q2 hQ k
  unfold oMax at k ⊢
  first
    | exact mo_id hXY hY hQ k
    | (split at k <;> first
        | exact k.elim
        | exact ⟨k.1, mo_id hXY hY hQ k.2⟩
        | exact gd_mo (fun k => mo_id hXY hY hQ k) k
        | exact gd_mo (fun k => ⟨k.1, mo_id hXY hY hQ k.2⟩) k
        | exact mo_id hXY hY hQ k
        | exact br_mo (mo_id hXY hY hQ) (mo_id hXY hY hQ) k
        | exact hQ _ _ k
        | exact ⟨k.1, hQ _ _ k.2⟩)
theorem mo_oMin : OpMo (oMin) := by
  intro X Y hXY hY m pc ls st h Q Q2 hQ k
  unfold oMin at k ⊢
  first
    | exact mo_id hXY hY hQ k
    | (split at k <;> first
        | exact k.elim
        | exact ⟨k.1, mo_id hXY hY hQ k.2⟩
        | exact gd_mo (fun k => mo_id hXY hY hQ k) k
        | exact gd_mo (fun k => ⟨k.1, mo_id hXY hY hQ k.2⟩) k
        | exact mo_id hXY hY hQ k
        | exact br_mo (mo_id hXY hY hQ) (mo_id hXY hY hQ) k
        | exact hQ _ _ k
        | exact ⟨k.1, hQ _ _ k.2⟩)
theorem mo_oAbs : OpMo (oAbs) := by
  intro X Y hXY hY m pc ls st h Q Q2 hQ k
  unfold oAbs at k ⊢
  first
    | exact mo_id hXY hY hQ k
    | (split at k <;> first
        | exact k.elim
        | exact ⟨k.1, mo_id hXY hY hQ k.2⟩
        | exact gd_mo (fun k => mo_id hXY hY hQ k) k
        | exact gd_mo (fun k => ⟨k.1, mo_id hXY hY hQ k.2⟩) k
        | exact mo_id hXY hY hQ k
        | exact br_mo (mo_id hXY hY hQ) (mo_id hXY hY hQ) k
        | exact hQ _ _ k
        | exact ⟨k.1, hQ _ _ k.2⟩)
theorem mo_oCpy : OpMo (oCpy) := by
  intro X Y hXY hY m pc ls st h Q Q2 hQ k
  unfold oCpy at k ⊢
  first
    | exact mo_id hXY hY hQ k
    | (split at k <;> first
        | exact k.elim
        | exact ⟨k.1, mo_id hXY hY hQ k.2⟩
        | exact gd_mo (fun k => mo_id hXY hY hQ k) k
        | exact gd_mo (fun k => ⟨k.1, mo_id hXY hY hQ k.2⟩) k
        | exact mo_id hXY hY hQ k
        | exact br_mo (mo_id hXY hY hQ) (mo_id hXY hY hQ) k
        | exact hQ _ _ k
        | exact ⟨k.1, hQ _ _ k.2⟩)
theorem mo_oObj : OpMo (oObj) := by
  intro X Y hXY hY m pc ls st h Q Q2 hQ k
  unfold oObj at k ⊢
  first
    | exact mo_id hXY hY hQ k
    | (split at k <;> first
        | exact k.elim
        | exact ⟨k.1, mo_id hXY hY hQ k.2⟩
        | exact gd_mo (fun k => mo_id hXY hY hQ k) k
        | exact gd_mo (fun k => ⟨k.1, mo_id hXY hY hQ k.2⟩) k
        | exact mo_id hXY hY hQ k
        | exact br_mo (mo_id hXY hY hQ) (mo_id hXY hY hQ) k
        | exact hQ _ _ k
        | exact ⟨k.1, hQ _ _ k.2⟩)
theorem mo_oDCmp (c : CmpOp) : OpMo (oDCmp c) := by
  intro X Y hXY hY m pc ls st h Q Q2 hQ k
  unfold oDCmp at k ⊢
  first
    | exact mo_id hXY hY hQ k
    | (split at k <;> first
        | exact k.elim
        | exact ⟨k.1, mo_id hXY hY hQ k.2⟩
        | exact gd_mo (fun k => mo_id hXY hY hQ k) k
        | exact gd_mo (fun k => ⟨k.1, mo_id hXY hY hQ k.2⟩) k
        | exact mo_id hXY hY hQ k
        | exact br_mo (mo_id hXY hY hQ) (mo_id hXY hY hQ) k
        | exact hQ _ _ k
        | exact ⟨k.1, hQ _ _ k.2⟩)
theorem mo_oZeq (t : Nat) : OpMo (oZeq t) := by
  intro X Y hXY hY m pc ls st h Q Q2 hQ k
  unfold oZeq at k ⊢
  first
    | exact mo_id hXY hY hQ k
    | (split at k <;> first
        | exact k.elim
        | exact ⟨k.1, mo_id hXY hY hQ k.2⟩
        | exact gd_mo (fun k => mo_id hXY hY hQ k) k
        | exact gd_mo (fun k => ⟨k.1, mo_id hXY hY hQ k.2⟩) k
        | exact mo_id hXY hY hQ k
        | exact br_mo (mo_id hXY hY hQ) (mo_id hXY hY hQ) k
        | exact hQ _ _ k
        | exact ⟨k.1, hQ _ _ k.2⟩)
theorem mo_oZne (t : Nat) : OpMo (oZne t) := by
  intro X Y hXY hY m pc ls st h Q Q2 hQ k
  unfold oZne at k ⊢
  first
    | exact mo_id hXY hY hQ k
    | (split at k <;> first
        | exact k.elim
        | exact ⟨k.1, mo_id hXY hY hQ k.2⟩
        | exact gd_mo (fun k => mo_id hXY hY hQ k) k
        | exact gd_mo (fun k => ⟨k.1, mo_id hXY hY hQ k.2⟩) k
        | exact mo_id hXY hY hQ k
        | exact br_mo (mo_id hXY hY hQ) (mo_id hXY hY hQ) k
        | exact hQ _ _ k
        | exact ⟨k.1, hQ _ _ k.2⟩)
theorem mo_oZlt (t : Nat) : OpMo (oZlt t) := by
  intro X Y hXY hY m pc ls st h Q Q2 hQ k
  unfold oZlt at k ⊢
  first
    | exact mo_id hXY hY hQ k
    | (split at k <;> first
        | exact k.elim
        | exact ⟨k.1, mo_id hXY hY hQ k.2⟩
        | exact gd_mo (fun k => mo_id hXY hY hQ k) k
        | exact gd_mo (fun k => ⟨k.1, mo_id hXY hY hQ k.2⟩) k
        | exact mo_id hXY hY hQ k
        | exact br_mo (mo_id hXY hY hQ) (mo_id hXY hY hQ) k
        | exact hQ _ _ k
        | exact ⟨k.1, hQ _ _ k.2⟩)
theorem mo_oZge (t : Nat) : OpMo (oZge t) := by
  intro X Y hXY hY m pc ls st h Q Q2 hQ k
  unfold oZge at k ⊢
  first
    | exact mo_id hXY hY hQ k
    | (split at k <;> first
        | exact k.elim
        | exact ⟨k.1, mo_id hXY hY hQ k.2⟩
        | exact gd_mo (fun k => mo_id hXY hY hQ k) k
        | exact gd_mo (fun k => ⟨k.1, mo_id hXY hY hQ k.2⟩) k
        | exact mo_id hXY hY hQ k
        | exact br_mo (mo_id hXY hY hQ) (mo_id hXY hY hQ) k
        | exact hQ _ _ k
        | exact ⟨k.1, hQ _ _ k.2⟩)
theorem mo_oZgt (t : Nat) : OpMo (oZgt t) := by
  intro X Y hXY hY m pc ls st h Q Q2 hQ k
  unfold oZgt at k ⊢
  first
    | exact mo_id hXY hY hQ k
    | (split at k <;> first
        | exact k.elim
        | exact ⟨k.1, mo_id hXY hY hQ k.2⟩
        | exact gd_mo (fun k => mo_id hXY hY hQ k) k
        | exact gd_mo (fun k => ⟨k.1, mo_id hXY hY hQ k.2⟩) k
        | exact mo_id hXY hY hQ k
        | exact br_mo (mo_id hXY hY hQ) (mo_id hXY hY hQ) k
        | exact hQ _ _ k
        | exact ⟨k.1, hQ _ _ k.2⟩)
theorem mo_oZle (t : Nat) : OpMo (oZle t) := by
  intro X Y hXY hY m pc ls st h Q Q2 hQ k
  unfold oZle at k ⊢
  first
    | exact mo_id hXY hY hQ k
    | (split at k <;> first
        | exact k.elim
        | exact ⟨k.1, mo_id hXY hY hQ k.2⟩
        | exact gd_mo (fun k => mo_id hXY hY hQ k) k
        | exact gd_mo (fun k => ⟨k.1, mo_id hXY hY hQ k.2⟩) k
        | exact mo_id hXY hY hQ k
        | exact br_mo (mo_id hXY hY hQ) (mo_id hXY hY hQ) k
        | exact hQ _ _ k
        | exact ⟨k.1, hQ _ _ k.2⟩)
theorem mo_oCeq (t : Nat) : OpMo (oCeq t) := by
  intro X Y hXY hY m pc ls st h Q Q2 hQ k
  unfold oCeq at k ⊢
  first
    | exact mo_id hXY hY hQ k
    | (split at k <;> first
        | exact k.elim
        | exact ⟨k.1, mo_id hXY hY hQ k.2⟩
        | exact gd_mo (fun k => mo_id hXY hY hQ k) k
        | exact gd_mo (fun k => ⟨k.1, mo_id hXY hY hQ k.2⟩) k
        | exact mo_id hXY hY hQ k
        | exact br_mo (mo_id hXY hY hQ) (mo_id hXY hY hQ) k
        | exact hQ _ _ k
        | exact ⟨k.1, hQ _ _ k.2⟩)
theorem mo_oCne (t : Nat) : OpMo (oCne t) := by
  intro X Y hXY hY m pc ls st h Q Q2 hQ k
  unfold oCne at k ⊢
  first
    | exact mo_id hXY hY hQ k
    | (split at k <;> first
        | exact k.elim
        | exact ⟨k.1, mo_id hXY hY hQ k.2⟩
        | exact gd_mo (fun k => mo_id hXY hY hQ k) k
        | exact gd_mo (fun k => ⟨k.1, mo_id hXY hY hQ k.2⟩) k
        | exact mo_id hXY hY hQ k
        | exact br_mo (mo_id hXY hY hQ) (mo_id hXY hY hQ) k
        | exact hQ _ _ k
        | exact ⟨k.1, hQ _ _ k.2⟩)
theorem mo_oClt (t : Nat) : OpMo (oClt t) := by
  intro X Y hXY hY m pc ls st h Q Q2 hQ k
  unfold oClt at k ⊢
  first
    | exact mo_id hXY hY hQ k
    | (split at k <;> first
        | exact k.elim
        | exact ⟨k.1, mo_id hXY hY hQ k.2⟩
        | exact gd_mo (fun k => mo_id hXY hY hQ k) k
        | exact gd_mo (fun k => ⟨k.1, mo_id hXY hY hQ k.2⟩) k
        | exact mo_id hXY hY hQ k
        | exact br_mo (mo_id hXY hY hQ) (mo_id hXY hY hQ) k
        | exact hQ _ _ k
        | exact ⟨k.1, hQ _ _ k.2⟩)
theorem mo_oCge (t : Nat) : OpMo (oCge t) := by
  intro X Y hXY hY m pc ls st h Q Q2 hQ k
  unfold oCge at k ⊢
  first
    | exact mo_id hXY hY hQ k
    | (split at k <;> first
        | exact k.elim
        | exact ⟨k.1, mo_id hXY hY hQ k.2⟩
        | exact gd_mo (fun k => mo_id hXY hY hQ k) k
        | exact gd_mo (fun k => ⟨k.1, mo_id hXY hY hQ k.2⟩) k
        | exact mo_id hXY hY hQ k
        | exact br_mo (mo_id hXY hY hQ) (mo_id hXY hY hQ) k
        | exact hQ _ _ k
        | exact ⟨k.1, hQ _ _ k.2⟩)
theorem mo_oCgt (t : Nat) : OpMo (oCgt t) := by
  intro X Y hXY hY m pc ls st h Q Q2 hQ k
  unfold oCgt at k ⊢
  first
    | exact mo_id hXY hY hQ k
    | (split at k <;> first
        | exact k.elim
        | exact ⟨k.1, mo_id hXY hY hQ k.2⟩
        | exact gd_mo (fun k => mo_id hXY hY hQ k) k
        | exact gd_mo (fun k => ⟨k.1, mo_id hXY hY hQ k.2⟩) k
        | exact mo_id hXY hY hQ k
        | exact br_mo (mo_id hXY hY hQ) (mo_id hXY hY hQ) k
        | exact hQ _ _ k
        | exact ⟨k.1, hQ _ _ k.2⟩)
theorem mo_oCle (t : Nat) : OpMo (oCle t) := by
  intro X Y hXY hY m pc ls st h Q Q2 hQ k
  unfold oCle at k ⊢
  first
    | exact mo_id hXY hY hQ k
    | (split at k <;> first
        | exact k.elim
        | exact ⟨k.1, mo_id hXY hY hQ k.2⟩
        | exact gd_mo (fun k => mo_id hXY hY hQ k) k
        | exact gd_mo (fun k => ⟨k.1, mo_id hXY hY hQ k.2⟩) k
        | exact mo_id hXY hY hQ k
        | exact br_mo (mo_id hXY hY hQ) (mo_id hXY hY hQ) k
        | exact hQ _ _ k
        | exact ⟨k.1, hQ _ _ k.2⟩)
theorem mo_oNul (t : Nat) : OpMo (oNul t) := by
  intro X Y hXY hY m pc ls st h Q Q2 hQ k
  unfold oNul at k ⊢
  first
    | exact mo_id hXY hY hQ k
    | (split at k <;> first
        | exact k.elim
        | exact ⟨k.1, mo_id hXY hY hQ k.2⟩
        | exact gd_mo (fun k => mo_id hXY hY hQ k) k
        | exact gd_mo (fun k => ⟨k.1, mo_id hXY hY hQ k.2⟩) k
        | exact mo_id hXY hY hQ k
        | exact br_mo (mo_id hXY hY hQ) (mo_id hXY hY hQ) k
        | exact hQ _ _ k
        | exact ⟨k.1, hQ _ _ k.2⟩)
theorem mo_oNNul (t : Nat) : OpMo (oNNul t) := by
  intro X Y hXY hY m pc ls st h Q Q2 hQ k
  unfold oNNul at k ⊢
  first
    | exact mo_id hXY hY hQ k
    | (split at k <;> first
        | exact k.elim
        | exact ⟨k.1, mo_id hXY hY hQ k.2⟩
        | exact gd_mo (fun k => mo_id hXY hY hQ k) k
        | exact gd_mo (fun k => ⟨k.1, mo_id hXY hY hQ k.2⟩) k
        | exact mo_id hXY hY hQ k
        | exact br_mo (mo_id hXY hY hQ) (mo_id hXY hY hQ) k
        | exact hQ _ _ k
        | exact ⟨k.1, hQ _ _ k.2⟩)
theorem mo_oGoto (t : Nat) : OpMo (oGoto t) := by
  intro X Y hXY hY m pc ls st h Q Q2 hQ k
  unfold oGoto at k ⊢
  first
    | exact mo_id hXY hY hQ k
    | (split at k <;> first
        | exact k.elim
        | exact ⟨k.1, mo_id hXY hY hQ k.2⟩
        | exact gd_mo (fun k => mo_id hXY hY hQ k) k
        | exact gd_mo (fun k => ⟨k.1, mo_id hXY hY hQ k.2⟩) k
        | exact mo_id hXY hY hQ k
        | exact br_mo (mo_id hXY hY hQ) (mo_id hXY hY hQ) k
        | exact hQ _ _ k
        | exact ⟨k.1, hQ _ _ k.2⟩)
theorem mo_oGetI (c k : Nat) : OpMo (oGetI c k) := by
  intro X Y hXY hY m pc ls st h Q Q2 hQ k
  unfold oGetI at k ⊢
  first
    | exact mo_id hXY hY hQ k
    | (split at k <;> first
        | exact k.elim
        | exact ⟨k.1, mo_id hXY hY hQ k.2⟩
        | exact gd_mo (fun k => mo_id hXY hY hQ k) k
        | exact gd_mo (fun k => ⟨k.1, mo_id hXY hY hQ k.2⟩) k
        | exact mo_id hXY hY hQ k
        | exact br_mo (mo_id hXY hY hQ) (mo_id hXY hY hQ) k
        | exact hQ _ _ k
        | exact ⟨k.1, hQ _ _ k.2⟩)
theorem mo_oGetR (c k : Nat) : OpMo (oGetR c k) := by
  intro X Y hXY hY m pc ls st h Q Q2 hQ k
  unfold oGetR at k ⊢
  first
    | exact mo_id hXY hY hQ k
    | (split at k <;> first
        | exact k.elim
        | exact ⟨k.1, mo_id hXY hY hQ k.2⟩
        | exact gd_mo (fun k => mo_id hXY hY hQ k) k
        | exact gd_mo (fun k => ⟨k.1, mo_id hXY hY hQ k.2⟩) k
        | exact mo_id hXY hY hQ k
        | exact br_mo (mo_id hXY hY hQ) (mo_id hXY hY hQ) k
        | exact hQ _ _ k
        | exact ⟨k.1, hQ _ _ k.2⟩)
theorem mo_oPutI (c k : Nat) : OpMo (oPutI c k) := by
  intro X Y hXY hY m pc ls st h Q Q2 hQ k
  unfold oPutI at k ⊢
  first
    | exact mo_id hXY hY hQ k
    | (split at k <;> first
        | exact k.elim
        | exact ⟨k.1, mo_id hXY hY hQ k.2⟩
        | exact gd_mo (fun k => mo_id hXY hY hQ k) k
        | exact gd_mo (fun k => ⟨k.1, mo_id hXY hY hQ k.2⟩) k
        | exact mo_id hXY hY hQ k
        | exact br_mo (mo_id hXY hY hQ) (mo_id hXY hY hQ) k
        | exact hQ _ _ k
        | exact ⟨k.1, hQ _ _ k.2⟩)
theorem mo_oPutZ (c k : Nat) : OpMo (oPutZ c k) := by
  intro X Y hXY hY m pc ls st h Q Q2 hQ k
  unfold oPutZ at k ⊢
  first
    | exact mo_id hXY hY hQ k
    | (split at k <;> first
        | exact k.elim
        | exact ⟨k.1, mo_id hXY hY hQ k.2⟩
        | exact gd_mo (fun k => mo_id hXY hY hQ k) k
        | exact gd_mo (fun k => ⟨k.1, mo_id hXY hY hQ k.2⟩) k
        | exact mo_id hXY hY hQ k
        | exact br_mo (mo_id hXY hY hQ) (mo_id hXY hY hQ) k
        | exact hQ _ _ k
        | exact ⟨k.1, hQ _ _ k.2⟩)
theorem mo_oPutR (c k : Nat) : OpMo (oPutR c k) := by
  intro X Y hXY hY m pc ls st h Q Q2 hQ k
  unfold oPutR at k ⊢
  first
    | exact mo_id hXY hY hQ k
    | (split at k <;> first
        | exact k.elim
        | exact ⟨k.1, mo_id hXY hY hQ k.2⟩
        | exact gd_mo (fun k => mo_id hXY hY hQ k) k
        | exact gd_mo (fun k => ⟨k.1, mo_id hXY hY hQ k.2⟩) k
        | exact mo_id hXY hY hQ k
        | exact br_mo (mo_id hXY hY hQ) (mo_id hXY hY hQ) k
        | exact hQ _ _ k
        | exact ⟨k.1, hQ _ _ k.2⟩)
theorem mo_oALdI (c : Nat) : OpMo (oALdI c) := by
  intro X Y hXY hY m pc ls st h Q Q2 hQ k
  unfold oALdI at k ⊢
  first
    | exact mo_id hXY hY hQ k
    | (split at k <;> first
        | exact k.elim
        | exact ⟨k.1, mo_id hXY hY hQ k.2⟩
        | exact gd_mo (fun k => mo_id hXY hY hQ k) k
        | exact gd_mo (fun k => ⟨k.1, mo_id hXY hY hQ k.2⟩) k
        | exact mo_id hXY hY hQ k
        | exact br_mo (mo_id hXY hY hQ) (mo_id hXY hY hQ) k
        | exact hQ _ _ k
        | exact ⟨k.1, hQ _ _ k.2⟩)
theorem mo_oALdR (c : Nat) : OpMo (oALdR c) := by
  intro X Y hXY hY m pc ls st h Q Q2 hQ k
  unfold oALdR at k ⊢
  first
    | exact mo_id hXY hY hQ k
    | (split at k <;> first
        | exact k.elim
        | exact ⟨k.1, mo_id hXY hY hQ k.2⟩
        | exact gd_mo (fun k => mo_id hXY hY hQ k) k
        | exact gd_mo (fun k => ⟨k.1, mo_id hXY hY hQ k.2⟩) k
        | exact mo_id hXY hY hQ k
        | exact br_mo (mo_id hXY hY hQ) (mo_id hXY hY hQ) k
        | exact hQ _ _ k
        | exact ⟨k.1, hQ _ _ k.2⟩)
theorem mo_oALen (c : Nat) : OpMo (oALen c) := by
  intro X Y hXY hY m pc ls st h Q Q2 hQ k
  unfold oALen at k ⊢
  first
    | exact mo_id hXY hY hQ k
    | (split at k <;> first
        | exact k.elim
        | exact ⟨k.1, mo_id hXY hY hQ k.2⟩
        | exact gd_mo (fun k => mo_id hXY hY hQ k) k
        | exact gd_mo (fun k => ⟨k.1, mo_id hXY hY hQ k.2⟩) k
        | exact mo_id hXY hY hQ k
        | exact br_mo (mo_id hXY hY hQ) (mo_id hXY hY hQ) k
        | exact hQ _ _ k
        | exact ⟨k.1, hQ _ _ k.2⟩)
theorem mo_oAStR (c e : Nat) : OpMo (oAStR c e) := by
  intro X Y hXY hY m pc ls st h Q Q2 hQ k
  unfold oAStR at k ⊢
  first
    | exact mo_id hXY hY hQ k
    | (split at k <;> first
        | exact k.elim
        | exact ⟨k.1, mo_id hXY hY hQ k.2⟩
        | exact gd_mo (fun k => mo_id hXY hY hQ k) k
        | exact gd_mo (fun k => ⟨k.1, mo_id hXY hY hQ k.2⟩) k
        | exact mo_id hXY hY hQ k
        | exact br_mo (mo_id hXY hY hQ) (mo_id hXY hY hQ) k
        | exact hQ _ _ k
        | exact ⟨k.1, hQ _ _ k.2⟩)
theorem mo_oRetI : OpMo (oRetI) := by
  intro X Y hXY hY m pc ls st h Q Q2 hQ k
  unfold oRetI at k ⊢
  first
    | exact mo_id hXY hY hQ k
    | (split at k <;> first
        | exact k.elim
        | exact ⟨k.1, mo_id hXY hY hQ k.2⟩
        | exact gd_mo (fun k => mo_id hXY hY hQ k) k
        | exact gd_mo (fun k => ⟨k.1, mo_id hXY hY hQ k.2⟩) k
        | exact mo_id hXY hY hQ k
        | exact br_mo (mo_id hXY hY hQ) (mo_id hXY hY hQ) k
        | exact hQ _ _ k
        | exact ⟨k.1, hQ _ _ k.2⟩)
theorem mo_oRetZ : OpMo (oRetZ) := by
  intro X Y hXY hY m pc ls st h Q Q2 hQ k
  unfold oRetZ at k ⊢
  first
    | exact mo_id hXY hY hQ k
    | (split at k <;> first
        | exact k.elim
        | exact ⟨k.1, mo_id hXY hY hQ k.2⟩
        | exact gd_mo (fun k => mo_id hXY hY hQ k) k
        | exact gd_mo (fun k => ⟨k.1, mo_id hXY hY hQ k.2⟩) k
        | exact mo_id hXY hY hQ k
        | exact br_mo (mo_id hXY hY hQ) (mo_id hXY hY hQ) k
        | exact hQ _ _ k
        | exact ⟨k.1, hQ _ _ k.2⟩)
theorem mo_oRetL : OpMo (oRetL) := by
  intro X Y hXY hY m pc ls st h Q Q2 hQ k
  unfold oRetL at k ⊢
  first
    | exact mo_id hXY hY hQ k
    | (split at k <;> first
        | exact k.elim
        | exact ⟨k.1, mo_id hXY hY hQ k.2⟩
        | exact gd_mo (fun k => mo_id hXY hY hQ k) k
        | exact gd_mo (fun k => ⟨k.1, mo_id hXY hY hQ k.2⟩) k
        | exact mo_id hXY hY hQ k
        | exact br_mo (mo_id hXY hY hQ) (mo_id hXY hY hQ) k
        | exact hQ _ _ k
        | exact ⟨k.1, hQ _ _ k.2⟩)
theorem mo_oRetD : OpMo (oRetD) := by
  intro X Y hXY hY m pc ls st h Q Q2 hQ k
  unfold oRetD at k ⊢
  first
    | exact mo_id hXY hY hQ k
    | (split at k <;> first
        | exact k.elim
        | exact ⟨k.1, mo_id hXY hY hQ k.2⟩
        | exact gd_mo (fun k => mo_id hXY hY hQ k) k
        | exact gd_mo (fun k => ⟨k.1, mo_id hXY hY hQ k.2⟩) k
        | exact mo_id hXY hY hQ k
        | exact br_mo (mo_id hXY hY hQ) (mo_id hXY hY hQ) k
        | exact hQ _ _ k
        | exact ⟨k.1, hQ _ _ k.2⟩)
theorem mo_oRetR : OpMo (oRetR) := by
  intro X Y hXY hY m pc ls st h Q Q2 hQ k
  unfold oRetR at k ⊢
  first
    | exact mo_id hXY hY hQ k
    | (split at k <;> first
        | exact k.elim
        | exact ⟨k.1, mo_id hXY hY hQ k.2⟩
        | exact gd_mo (fun k => mo_id hXY hY hQ k) k
        | exact gd_mo (fun k => ⟨k.1, mo_id hXY hY hQ k.2⟩) k
        | exact mo_id hXY hY hQ k
        | exact br_mo (mo_id hXY hY hQ) (mo_id hXY hY hQ) k
        | exact hQ _ _ k
        | exact ⟨k.1, hQ _ _ k.2⟩)
theorem mo_oRetV : OpMo (oRetV) := by
  intro X Y hXY hY m pc ls st h Q Q2 hQ k
  unfold oRetV at k ⊢
  first
    | exact mo_id hXY hY hQ k
    | (split at k <;> first
        | exact k.elim
        | exact ⟨k.1, mo_id hXY hY hQ k.2⟩
        | exact gd_mo (fun k => mo_id hXY hY hQ k) k
        | exact gd_mo (fun k => ⟨k.1, mo_id hXY hY hQ k.2⟩) k
        | exact mo_id hXY hY hQ k
        | exact br_mo (mo_id hXY hY hQ) (mo_id hXY hY hQ) k
        | exact hQ _ _ k
        | exact ⟨k.1, hQ _ _ k.2⟩)
theorem mo_oFail : OpMo oFail := fun _ _ _ _ _ _ _ _ _ _ _ _ k => k
theorem mo_oThr (e : Nat) : OpMo (oThr e) := fun _ _ _ _ _ _ _ _ _ _ _ hQ k => gd_mo (fun k => ⟨k.1, hQ _ _ k.2⟩) k
theorem mo_oNew (c n : Nat) : OpMo (oNew c n) := fun _ _ hXY hY _ _ _ _ _ _ _ hQ k => ⟨k.1, fun a ha => mo_id hXY hY hQ (k.2 a ha)⟩
theorem mo_oNewA (c len : Nat) : OpMo (oNewA c len) := by
  intro X Y hXY hY m pc ls st h Q Q2 hQ k
  unfold oNewA at k ⊢
  split at k
  · exact ⟨k.1, fun a ha => mo_id hXY hY hQ (k.2 a ha)⟩
  · exact k.elim
theorem mo_oNew2 : OpMo oNew2 := by
  intro X Y hXY hY m pc ls st h Q Q2 hQ k
  unfold oNew2 at k ⊢
  split at k
  · exact ⟨k.1, fun q r h1 h2 h3 => mo_id hXY hY hQ (k.2 q r h1 h2 h3)⟩
  · exact k.elim
theorem mo_oSw (lo : Int) (ts : List Nat) (d : Nat) : OpMo (oSw lo ts d) := by
  intro X Y hXY hY m pc ls st h Q Q2 hQ k
  unfold oSw at k ⊢
  split at k
  · exact ⟨fun e => mo_id hXY hY hQ (k.1 e), swA_mo (fun t => mo_id hXY hY hQ) _ _ _ k.2⟩
  · exact k.elim
theorem mo_oCallS (m2 n maxL : Nat) (hs : List (Nat × Nat)) : OpMo (oCallS m2 n maxL hs) := by
  intro X Y hXY hY m pc ls st h Q Q2 hQ k
  unfold oCallS at k ⊢
  exact gd_mo (fun k => mo_id hXY hY (kont_mo hXY hY hQ) k) k
theorem mo_oCallV (m2 n maxL c : Nat) (hs : List (Nat × Nat)) : OpMo (oCallV m2 n maxL c hs) := by
  intro X Y hXY hY m pc ls st h Q Q2 hQ k
  unfold oCallV at k ⊢
  revert k
  generalize st.drop n = dr
  intro k
  split at k
  · exact gd_mo (fun k => ⟨k.1, mo_id hXY hY (kont_mo hXY hY hQ) k.2⟩) k
  · exact k.elim
/-- the least closure under a program's instructions -/
def WPo (op : Nat → Nat → Op1) : Zx := fun m pc ls st h Q => ∀ X : Zx, ZxMo X → (∀ m pc ls st h Q, op m pc X m pc ls st h Q → X m pc ls st h Q) → X m pc ls st h Q
theorem WPo_mo (op : Nat → Nat → Op1) : ZxMo (WPo op) := fun _ _ _ _ _ _ _ hQ k X hX hc => hX _ _ _ _ _ _ _ hQ (k X hX hc)
theorem WPo_fold {op : Nat → Nat → Op1} (hm : ∀ m pc, OpMo (op m pc)) {m pc : Nat} {ls : Zl} {st : List Zv} {h : Zh} {Q : Zp} (k : op m pc (WPo op) m pc ls st h Q) : WPo op m pc ls st h Q := fun X hX hc =>
  hc _ _ _ _ _ _ (hm m pc _ _ (fun _ _ _ _ _ _ z => z X hX hc) hX _ _ _ _ _ _ _ (fun _ _ z => z) k)
theorem WPo_unfold {op : Nat → Nat → Op1} (hm : ∀ m pc, OpMo (op m pc)) {m pc : Nat} {ls : Zl} {st : List Zv} {h : Zh} {Q : Zp} (k : WPo op m pc ls st h Q) : op m pc (WPo op) m pc ls st h Q := by
  refine k (fun m pc ls st h Q => op m pc (WPo op) m pc ls st h Q) ?_ ?_
  · intro m pc ls st h Q Q2 hQ z
    exact hm m pc _ _ (fun _ _ _ _ _ _ y => y) (WPo_mo op) _ _ _ _ _ _ _ hQ z
  · intro m pc ls st h Q z
    exact hm m pc _ _ (fun _ _ _ _ _ _ y => WPo_fold hm y) (WPo_mo op) _ _ _ _ _ _ _ (fun _ _ y => y) z
theorem WPo_eq {op : Nat → Nat → Op1} (hm : ∀ m pc, OpMo (op m pc)) (m pc : Nat) (ls : Zl) (st : List Zv) (h : Zh) (Q : Zp) : WPo op m pc ls st h Q = op m pc (WPo op) m pc ls st h Q := propext ⟨WPo_unfold hm, WPo_fold hm⟩
theorem mo_oHav : OpMo oHav := by
  intro X Y hXY hY m pc ls st h Q Q2 hQ k
  unfold oHav at k ⊢
  split at k
  · exact fun x hx => mo_id hXY hY hQ (k x hx)
  · exact k.elim
theorem mo_oMsk : OpMo oMsk := by
  intro X Y hXY hY m pc ls st h Q Q2 hQ k
  unfold oMsk at k ⊢
  split at k
  · exact ⟨k.1, fun x h1 h2 => mo_id hXY hY hQ (k.2 x h1 h2)⟩
  · exact k.elim
theorem mo_oNew3 : OpMo oNew3 := by
  intro X Y hXY hY m pc ls st h Q Q2 hQ k
  unfold oNew3 at k ⊢
  split at k
  · exact ⟨k.1, fun q r h1 h2 h3 => mo_id hXY hY hQ (k.2 q r h1 h2 h3)⟩
  · exact k.elim
theorem mo_oCpyR (c e : Nat) : OpMo (oCpyR c e) := by
  intro X Y hXY hY m pc ls st h Q Q2 hQ k
  unfold oCpyR at k ⊢
  split at k
  · exact gd_mo (fun k => ⟨k.1, mo_id hXY hY hQ k.2⟩) k
  · exact k.elim
end
section
/-! SOUNDNESS, the base: what the abstract machine's state is in the JVM model. Md: what is known of each method; kinds 1..7 are the classes of vwCl in its order. -/
theorem z_ofI {x : Int} (h : inR x) : (Int32.ofInt x).toInt = x := Int32.toInt_ofInt_of_le (by have := h.1; omega) (by have := h.2; omega)
theorem z_cl {x : Int} (h : inR x) : (Int32.ofInt x).toNatClampNeg = x.toNat := by
  show (Int32.ofInt x).toInt.toNat = _
  rw [z_ofI h]
theorem z_lt {x y : Int} (hx : inR x) (hy : inR y) : Int32.ofInt x < Int32.ofInt y ↔ x < y := by rw [Int32.lt_iff_toInt_lt, z_ofI hx, z_ofI hy]
theorem z_le {x y : Int} (hx : inR x) (hy : inR y) : Int32.ofInt x ≤ Int32.ofInt y ↔ x ≤ y := by rw [Int32.le_iff_toInt_le, z_ofI hx, z_ofI hy]
theorem z_eq {x y : Int} (hx : inR x) (hy : inR y) : Int32.ofInt x = Int32.ofInt y ↔ x = y := ⟨fun h => by have h2 := congrArg Int32.toInt h; rwa [z_ofI hx, z_ofI hy] at h2, fun h => by rw [h]⟩
theorem z_0 : inR 0 := ⟨by decide, by decide⟩
theorem z_1 : inR 1 := ⟨by decide, by decide⟩
theorem z_0e : (0 : Int32) = Int32.ofInt 0 := rfl
theorem z_in {i : Int} {n : Nat} (hi : inR i) (h0 : 0 ≤ i) (h1 : i < n) : vp_in (Int32.ofInt i) n := by
  intro h
  rcases h with h | h
  · rw [z_0e, z_lt hi z_0] at h; omega
  · rw [z_cl hi] at h; omega
theorem z_nneg {i : Int} (hi : inR i) (h0 : 0 ≤ i) : ¬ Int32.ofInt i < 0 := by rw [z_0e, z_lt hi z_0]; omega
/-- what the locals are known to hold -/
def lh (lsC : Array Slot) (n : Nat) (ls : Zl) : Prop := lsC.size = n ∧ ls.length = n ∧ lv_wf lsC ∧ (∀ (i : Nat) (v : Zv), ls[i]? = some (some v) → lsC[i]? = some (.val (cz v)) ∧ okz v)
def prs (i : Nat) (ls : Zl) : List (Nat × Value) := match ls with
  | [] => []
  | none :: r => prs (i + 1) r
  | some v :: r => (i, cz v) :: prs (i + 1) r
theorem prs_mem : ∀ (ls : Zl) (i : Nat) (q : Nat × Value), q ∈ prs i ls ↔ ∃ (k : Nat) (v : Zv), ls[k]? = some (some v) ∧ q = (i + k, cz v)
  | [], i, q => by simp [prs]
  | none :: r, i, q => by
    rw [show prs i (none :: r) = prs (i + 1) r from rfl, prs_mem r (i + 1) q]
    constructor
    · rintro ⟨k, v, h, e⟩; exact ⟨k + 1, v, h, by rw [e]; congr 1; omega⟩
    · rintro ⟨k, v, h, e⟩
      cases k with
      | zero => simp at h
      | succ k => exact ⟨k, v, by simpa using h, by rw [e]; congr 1; omega⟩
  | some w :: r, i, q => by
    rw [show prs i (some w :: r) = (i, cz w) :: prs (i + 1) r from rfl, List.mem_cons, prs_mem r (i + 1) q]
    constructor
    · rintro (e | ⟨k, v, h, e⟩)
      · exact ⟨0, w, rfl, e⟩
      · exact ⟨k + 1, v, h, by rw [e]; congr 1; omega⟩
    · rintro ⟨k, v, h, e⟩
      cases k with
      | zero => simp at h; subst h; exact Or.inl e
      | succ k => exact Or.inr ⟨k, v, by simpa using h, by rw [e]; congr 1; omega⟩
theorem lh.has {lsC : Array Slot} {n : Nat} {ls : Zl} (h : lh lsC n ls) : lv_has lsC n (prs 0 ls) := by
  refine ⟨h.1, h.2.2.1, fun q hq => ?_⟩
  obtain ⟨k, v, e, rfl⟩ := (prs_mem ls 0 q).mp hq
  rw [show (0 + k, cz v).1 = k from Nat.zero_add k]
  exact (h.2.2.2 k v e).1
theorem ctz_cz (v : Zv) : (cz v).category = ctz v := by
  match v with
  | .inl _ => rfl
  | .inr (.inl _) => rfl
  | .inr (.inr (.inl _)) => rfl
  | .inr (.inr (.inr none)) => rfl
  | .inr (.inr (.inr (some _))) => rfl
theorem clr_len (ls : Zl) (k : Nat) : (clr ls k).length = ls.length := by
  unfold clr
  split
  · rfl
  · split <;> simp
theorem clr_get {ls : Zl} {k j : Nat} {w : Zv} (h : (clr ls k)[j]? = some (some w)) : ls[j]? = some (some w) ∧ ¬ (j + 1 = k ∧ ctz w = 2) := by
  unfold clr at h
  split at h
  · exact ⟨h, fun e => by omega⟩
  · next i =>
    split at h
    · next x e =>
      by_cases q : i = j
      · subst q; rw [List.getElem?_set] at h; simp at h
      · rw [List.getElem?_set_ne q] at h; exact ⟨h, fun z => q (by omega)⟩
    · next x e =>
      by_cases q : i = j
      · subst q; rw [List.getElem?_set] at h; simp at h
      · rw [List.getElem?_set_ne q] at h; exact ⟨h, fun z => q (by omega)⟩
    · next n1 n2 =>
      refine ⟨h, fun z => ?_⟩
      have e : j = i := by omega
      subst e
      match w, z.2 with
      | .inr (.inl x), _ => exact n1 x h
      | .inr (.inr (.inl x)), _ => exact n2 x h
theorem lh_st1 {lsC ls' : Array Slot} {n i : Nat} {ls : Zl} {v : Zv} (h : lh lsC n ls) (hv : okz v) (h2 : lv_has ls' n ((i, cz v) :: (prs 0 ls).filter (fun q => !(q.1 == i) && !(q.1 + 1 == i && q.2.category == 2)))) : lh ls' n (st1 ls i v) := by
  refine ⟨h2.1, by unfold st1; rw [List.length_set, clr_len]; exact h.2.1, h2.2.1, fun j w hj => ?_⟩
  unfold st1 at hj
  by_cases q : i = j
  · subst q
    rw [List.getElem?_set] at hj
    rw [if_pos rfl] at hj
    split at hj
    · cases hj; exact ⟨h2.2.2 _ List.mem_cons_self, hv⟩
    · cases hj
  · rw [List.getElem?_set_ne q] at hj
    obtain ⟨a, b⟩ := clr_get hj
    refine ⟨h2.2.2 (j, cz w) (List.mem_cons_of_mem _ (List.mem_filter.mpr ⟨(prs_mem ls 0 _).mpr ⟨j, w, a, by rw [Nat.zero_add]⟩, ?_⟩)), (h.2.2.2 j w a).2⟩
    rw [ctz_cz]
    have q2 : j ≠ i := fun e => q e.symm
    have b2 : ¬ (j + 1 = i ∧ ctz w = 2) := b
    simp only [Bool.and_eq_true, Bool.not_eq_true', beq_eq_false_iff_ne, ne_eq, Bool.and_eq_false_iff]
    refine ⟨q2, ?_⟩
    by_cases z : j + 1 = i
    · exact Or.inr (fun z2 => b2 ⟨z, z2⟩)
    · exact Or.inl z
theorem lh_st2 {lsC ls' : Array Slot} {n i : Nat} {ls : Zl} {v : Zv} (h : lh lsC n ls) (hv : okz v) (h2 : lv_has ls' n ((i, cz v) :: (prs 0 ls).filter (fun q => !(q.1 == i) && (!(q.1 == i + 1) && !(q.1 + 1 == i && q.2.category == 2))))) : lh ls' n (st2 ls i v) := by
  refine ⟨h2.1, by unfold st2; rw [List.length_set, List.length_set, clr_len]; exact h.2.1, h2.2.1, fun j w hj => ?_⟩
  unfold st2 at hj
  by_cases q3 : i + 1 = j
  · subst q3
    rw [List.getElem?_set] at hj
    rw [if_pos rfl] at hj
    split at hj <;> cases hj
  rw [List.getElem?_set_ne q3] at hj
  by_cases q : i = j
  · subst q
    rw [List.getElem?_set] at hj
    rw [if_pos rfl] at hj
    split at hj
    · cases hj; exact ⟨h2.2.2 _ List.mem_cons_self, hv⟩
    · cases hj
  · rw [List.getElem?_set_ne q] at hj
    obtain ⟨a, b⟩ := clr_get hj
    refine ⟨h2.2.2 (j, cz w) (List.mem_cons_of_mem _ (List.mem_filter.mpr ⟨(prs_mem ls 0 _).mpr ⟨j, w, a, by rw [Nat.zero_add]⟩, ?_⟩)), (h.2.2.2 j w a).2⟩
    rw [ctz_cz]
    have q2 : j ≠ i := fun e => q e.symm
    have q4 : j ≠ i + 1 := fun e => q3 e.symm
    have b2 : ¬ (j + 1 = i ∧ ctz w = 2) := b
    simp only [Bool.and_eq_true, Bool.not_eq_true', beq_eq_false_iff_ne, ne_eq, Bool.and_eq_false_iff]
    refine ⟨q2, q4, ?_⟩
    by_cases z : j + 1 = i
    · exact Or.inr (fun z2 => b2 ⟨z, z2⟩)
    · exact Or.inl z
theorem lh_get {lsC : Array Slot} {n : Nat} {ls : Zl} (h : lh lsC n ls) {i : Nat} {v : Zv} (e : ls[i]? = some (some v)) : lsC[i]? = some (.val (cz v)) ∧ okz v := h.2.2.2 i v e
theorem lh_lt {lsC : Array Slot} {n : Nat} {ls : Zl} (h : lh lsC n ls) {i : Nat} {v : Option Zv} (e : ls[i]? = some v) : i < n := by rw [← h.2.1]; exact (List.getElem?_eq_some_iff.mp e).1
/-- a method: its class, its name, its bytes, its locals, its type, its words, its handlers, the frames and the words of locals that it asks for -/
abbrev MdT : Type := String × MethodName × ByteArray × Nat × Option FieldType × List Cond × List (Nat × Nat × Nat × Nat) × Nat × Nat
def mOwn (M : MdT) : String := M.1
def mNam (M : MdT) : MethodName := M.2.1
def mCod (M : MdT) : ByteArray := M.2.2.1
def mMax (M : MdT) : Nat := M.2.2.2.1
def mRet (M : MdT) : Option FieldType := M.2.2.2.2.1
def mWs (M : MdT) : List Cond := M.2.2.2.2.2.1
def mHH (M : MdT) : List (Nat × Nat × Nat × Nat) := M.2.2.2.2.2.2.1
def mFr (M : MdT) : Nat := M.2.2.2.2.2.2.2.1
def mLo (M : MdT) : Nat := M.2.2.2.2.2.2.2.2
/-- the room of a method, where c0 cells and s0 slots are gone -/
def mRm (M : MdT) (c0 s0 : Nat) : Room := { frames := mFr M, locals := mLo M, cells := MXC - c0, slots := MXS - s0 }
/-- the program-wide words: Strings, classes that can't be cast, that can, nest mates' links, methods that are declared -/
abbrev GwT : Type := List (String × Nat × String) × List (String × String) × List (String × String) × List (String × Nat × String × String × String × String) × List (String × Nat × MethodName × String) × List MethodName
def GL (G : GwT) (A : Nat → Prop) (s : State) : Prop :=
  vx_Zq Bundle.tN "UNASSIGNED_STACK" Bundle.steD A s s.heap ∧ vx_Zq Bundle.tN "SUPPRESSED_SENTINEL" Bundle.listD A s s.heap ∧ (∀ q ∈ G.1, ∃ a, vk_R q.1 q.2.1 q.2.2 a s) ∧ (∀ q ∈ G.2.1, va_Nc q.1 q.2 s) ∧ ((∀ q ∈ G.2.2.1, (Cond.castable q.1 q.2).before #[] s = true) ∧ ∀ q ∈ G.2.2.2.2.2, (Cond.declares q).before #[] s = true) ∧
    (∀ q ∈ G.2.2.2.1, va_Nw (.fieldLinkNest q.1 q.2.1 q.2.2.1 q.2.2.2.1 q.2.2.2.2.1 q.2.2.2.2.2) s) ∧ (∀ q ∈ G.2.2.2.2.1, va_Nw (.methodLinkNest q.1 q.2.1 q.2.2.1 q.2.2.2) s) ∧ va_AO "Marginalia$Note" s ∧ va_AOA .int s ∧ va_AOA (.array .int) s
theorem va_AOA.moved {t : FieldType} {u U : State} (hvm : u.vm.Alike U.vm) (h : va_AOA t u) : va_AOA t U := by
  obtain ⟨comp, c, k, h1, h2, h3, h4, h5⟩ := arrayOverA_spec h
  obtain ⟨k', hk', he⟩ := hvm.2.2 _ _ h3
  have hi : (U.vm.classes.findIdx? fun (x : Class) => match x.kind with | .array component _ => component == comp | _ => false) = some c := by
    rw [hvm.findIdx?_eq _ (fun _ => rfl)]
    exact h2
  have hkind : k'.kind = .array comp (.array t) := by rw [he]; exact h4
  have f1 := h1
  rw [← hvm.findClass] at f1
  have f2 := h5
  rw [← hvm.findClass] at f2
  unfold va_AOA Cond.before Cond.holds
  simp only [Cond.value]
  rw [f1, Option.bind_some]
  refine (congrArg (fun o : Option Nat => (o.bind (fun c => (U.vm.classes[c]?).map fun (k : Class) => match k.kind with | .array _ ty => decide (ty = FieldType.array t) && decide (U.vm.findClass ("[" ++ (FieldType.array t).toString) = some c) | _ => false) == some true)) hi).trans ?_
  simp [hk', hkind, f2]
theorem GL.go {G : GwT} {A : Nat → Prop} {s U : State} (hW : s.WarmedH U.vm) (hk : ∀ a : Nat, a < s.heap.size → ¬ A a → U.heap[a]? = s.heap[a]?) (h : GL G A s) : GL G A U := by
  obtain ⟨h1, h2, h3, h4, h5, h6, h7, h8, h9, h10⟩ := h
  refine ⟨vx_Zq.moved hW.alike (h1.kept hk), vx_Zq.moved hW.alike (h2.kept hk), fun q hq => ?_, fun q hq => (h4 q hq).moved hW.alike, ⟨fun q hq => ?_, fun q hq => ?_⟩, fun q hq => va_Nw.warmF hW (h6 q hq), fun q hq => va_Nw.warmM hW (h7 q hq), h8.moved hW.alike, h9.moved hW.alike, h10.moved hW.alike⟩
  · obtain ⟨a, ha⟩ := h3 q hq
    exact ⟨a, ha.warm hW⟩
  · have e := Cond.onTables_vm (A := #[]) (A' := #[]) (U := s) (U' := U) U.vm (Cond.castable q.1 q.2) rfl
    rw [← show (Cond.castable q.1 q.2).before #[] (U.setVm U.vm) = (Cond.castable q.1 q.2).before #[] U from rfl, ← e, Cond.castable_setVm hW.alike]
    exact h5.1 q hq
  · have e := Cond.onTables_vm (A := #[]) (A' := #[]) (U := s) (U' := U) U.vm (Cond.declares q) rfl
    rw [← show (Cond.declares q).before #[] (U.setVm U.vm) = (Cond.declares q).before #[] U from rfl, ← e, Cond.declares_setVm hW.alike]
    exact h5.2 q hq
-- ---- the memory
def nF (c : Nat) : Nat := match c with
  | 1 => 2
  | 2 => 2
  | 3 => 10
  | 4 => 8
  | 5 => 5
  | 6 => 7
  | 7 => 8
  | _ => 0
/-- the fields' types -/
def zT (c : Nat) : Nat → FieldType := match c with
  | 1 => tyX0
  | 2 => tyX1
  | 3 => tyX2
  | 4 => tyX3
  | 5 => tyX4
  | 6 => tyX5
  | _ => tyX6
/-- which fields are references -/
def fR (c k : Nat) : Bool := match zT c k with
  | .int => false
  | .boolean => false
  | _ => true
def encF (h : Zh) (a c : Nat) : List Value := (List.range (nF c)).map (fun (k : Nat) => if fR c k = true then va_rf (gR h a k) else Value.int (Int32.ofInt (gI h a k)))
def akT (c : Nat) : FieldType := match c with
  | 11 => .long
  | 12 => .boolean
  | 13 => .object "Marginalia$Note"
  | 14 => .array .int
  | 16 => .array (.array .int)
  | _ => .int
def akE (h : Zh) (a c : Nat) : vp_A := match c with
  | 11 => ((gL h a).toNat, .inr (.inl (fun j : Nat => gJ h a j)))
  | 13 => ((gL h a).toNat, .inr (.inr (.inr (.inr (fun j : Nat => gR h a j)))))
  | 14 => ((gL h a).toNat, .inr (.inr (.inr (.inr (fun j : Nat => gR h a j)))))
  | 16 => ((gL h a).toNat, .inr (.inr (.inr (.inr (fun j : Nat => gR h a j)))))
  | _ => ((gL h a).toNat, .inl (fun j : Nat => Int32.ofInt (gI h a j)))
def isE (h : Zh) (tys : List (ClassId × FieldType)) (a : Nat) (e : va_E) : Prop :=
  (gK h a ≤ 7 → e = .inr (gK h a - 1, encF h a (gK h a))) ∧ (10 ≤ gK h a → ∃ (cA : ClassId) (t : Nat), e = .inl (cA, akE h a (gK h a)) ∧ tys[t]? = some (cA, akT (gK h a)))
/-- in range: every int, every length; the kinds; what was made -/
def okh (h : Zh) : Prop := (∀ a i, inR (gI h a i)) ∧ (∀ a, 0 ≤ gL h a ∧ gL h a ≤ 1000000) ∧ (∀ a, gK h a ≤ 7 ∨ (10 ≤ gK h a ∧ gK h a ≤ 16)) ∧ gC h ≤ MXC ∧ gS h ≤ MXS
def inW (h : Zh) (tys : List (ClassId × FieldType)) (ws : va_W) : Prop := ∀ a, gK h a ≠ 0 → gK h a ≠ 15 → ∃ (k : Nat) (e : va_E), ws[k]? = some (a, e) ∧ isE h tys a e
/-- the memory h is what lies in the heap H, by the tables of U -/
def RH (D : va_G) (A : Nat → Prop) (h : Zh) (U : State) (H : Heap) : Prop := okh h ∧ ∃ (ws : va_W) (tys : List (ClassId × FieldType)), va_P D vwCl ws H ∧ va_D A ws ∧ va_K D vwCl tys U ∧ inW h tys ws
/-- the script -/
def SC (A : Nat → Prop) (h : Zh) (s : State) : Prop := ∀ a, gK h a = 15 → ¬ A a ∧ a < s.heap.size ∧ va_X a (gL h a).toNat (fun j : Nat => Int32.ofInt (gI h a j)) s s.heap
theorem RH.moved {D : va_G} {A : Nat → Prop} {h : Zh} {u U : State} {H : Heap} (hvm : u.vm.Alike U.vm) (k : RH D A h u H) : RH D A h U H := by
  obtain ⟨k0, ws, tys, k1, k2, k3, k4⟩ := k
  exact ⟨k0, ws, tys, k1, k2, k3.moved hvm, k4⟩
theorem SC.fwd {A : Nat → Prop} {h : Zh} {s U : State} (hvm : s.vm.Alike U.vm) (hz : s.heap.size ≤ U.heap.size) (hk : ∀ a : Nat, a < s.heap.size → ¬ A a → U.heap[a]? = s.heap[a]?) (k : SC A h s) : SC A h U := by
  intro a ha
  obtain ⟨k1, k2, k3⟩ := k a ha
  exact ⟨k1, Nat.lt_of_lt_of_le k2 hz, va_X.moved hvm (va_X.kept k3 (hk a k2 k1))⟩
theorem SC.back {A : Nat → Prop} {h : Zh} {s U : State} (hvm : s.vm.Alike U.vm) (hA : ∀ q, s.heap.size ≤ q → A q) (hk : ∀ a : Nat, a < s.heap.size → ¬ A a → U.heap[a]? = s.heap[a]?) (k : SC A h U) : SC A h s := by
  intro a ha
  obtain ⟨k1, k2, k3⟩ := k a ha
  have hl : a < s.heap.size := Nat.lt_of_not_le fun q => k1 (hA a q)
  exact ⟨k1, hl, va_X.moved hvm.symm (va_X.kept k3 (hk a hl k1).symm)⟩
/-- what a method's body stands in -/
def Cx (G : GwT) (A : Nat → Prop) (l : Launch) (M : MdT) (c0 s0 : Nat) (p : Program) (R : Room) (s : State) (mm : MethodId) (args : Array Value) (meth : Method) (c : Code) : Prop :=
  (p.tables.exec = Jvm.exec ∧ c.code = mCod M ∧ c.maxLocals = mMax M ∧ s.vm.findClass (mOwn M) = some mm.cls ∧ ∀ w ∈ mWs M, w.before args s = true) ∧ meth.sig.returnType = mRet M ∧ meth.locks = false ∧ meth.name = (mNam M).name ∧ c.exceptionTable.toList = tableOf (mHH M) ∧ R = mRm M c0 s0 ∧ l.stackTraces = false ∧ (∀ q, s.heap.size ≤ q → A q) ∧ GL G A s
/-- the classes that are thrown -/
def xcl (e : Nat) : String := match e with
  | 1 => "java/lang/IllegalArgumentException"
  | 2 => "java/lang/IllegalStateException"
  | _ => "java/lang/IndexOutOfBoundsException"
/-- a body's end: it has returned, or thrown; just what was made since is told -/
def EndR (D : va_G) (A : Nat → Prop) (Q : Zp) (c0 s0 : Nat) (s : State) (o : Outcome) (t : State) : Prop :=
  ∃ (v : Option Zv) (h : Zh) (L : List Loc), o = .returned (v.map cz) ∧ (∀ x, v = some x → okz x) ∧ Q (.inl v) h ∧ RH D A h t t.heap ∧ SC A h t ∧ va_F A s t ∧ c0 ≤ gC h ∧ s0 ≤ gS h ∧ FrameEnd s o t L (gC h - c0) (gS h - s0) ∧ ∀ q ∈ L, A q.base
def EndX (D : va_G) (A : Nat → Prop) (Q : Zp) (c0 s0 : Nat) (e : Nat) (s : State) (t : State) : Prop :=
  ∃ (h : Zh) (L : List Loc), Q (.inr e) h ∧ RH D A h t t.heap ∧ SC A h t ∧ va_F A s t ∧ c0 ≤ gC h ∧ s0 ≤ gS h ∧ s.sameButNew ({ t with vm := s.vm } : State) L (gC h - c0) (gS h - s0) ∧ ∀ q ∈ L, A q.base
def EndZ (D : va_G) (A : Nat → Prop) (Q : Zp) (c0 s0 : Nat) (below : List Frame) (s : State) : State → Prop := fun t =>
  ∃ o, t.status = .running ∧ Ended t below o ∧ (EndR D A Q c0 s0 s o t ∨ ∃ (q : Addr) (e : Nat) (ce : Cell), o = .threw q ∧ EndX D A Q c0 s0 e s t ∧ t.heap[q]? = some ce ∧ ce.vm = .none ∧ s.vm.findClass (xcl e) = some ce.cls ∧ s.WarmedH t.vm)
/-- what the machine's state is, soundly: from every state of the JVM that it depicts the run comes to the end -/
def XS (G : GwT) (Md : Nat → MdT) (D : va_G) (A : Nat → Prop) (l : Launch) : Zx := fun m pc ls st h Q =>
  ∀ (p : Program) (e : Env) (R : Room) (s : State) (mm : MethodId) (args : Array Value) (below : List Frame) (meth : Method) (c : Code) (H : Heap) (locs : List Loc) (lsC : Array Slot) (c0 s0 ce se : Nat),
    Cx G A l (Md m) c0 s0 p R s mm args meth c → RH D A h s H → SC A h s → va_S A s.heap H locs → lh lsC (mMax (Md m)) ls → (∀ v ∈ st, okz v) → gC h = c0 + ce → gS h = s0 + se →
    W p l e R s mm args below meth c H locs ce se (EndZ D A Q c0 s0 below s) (F0 mm pc lsC (st.map cz))
theorem W_mo {p : Program} {l : Launch} {e : Env} {R : Room} {s : State} {mm : MethodId} {args : Array Value} {below : List Frame} {meth : Method} {c : Code} {H : Heap} {locs : List Loc} {ce se : Nat} {Q Q2 : State → Prop} {g : JFrame} (hQ : ∀ t, Q t → Q2 t) (k : W p l e R s mm args below meth c H locs ce se Q g) : W p l e R s mm args below meth c H locs ce se Q2 g := fun T hT X => by
  obtain ⟨t, a1, b1⟩ := k T hT X
  exact ⟨t, a1, hQ t b1⟩
theorem XS_mo (G : GwT) (Md : Nat → MdT) (D : va_G) (A : Nat → Prop) (l : Launch) : ZxMo (XS G Md D A l) := by
  intro m pc ls st h Q Q2 hQ k p e R s mm args below meth c H locs lsC c0 s0 ce se k1 k2 k3 k4 k5 k6 k7 k8
  refine W_mo (fun t ht => ?_) (k p e R s mm args below meth c H locs lsC c0 s0 ce se k1 k2 k3 k4 k5 k6 k7 k8)
  obtain ⟨o, c1, c2, c3⟩ := ht
  refine ⟨o, c1, c2, ?_⟩
  rcases c3 with ⟨v, g, L, d1, d2, d3, d4⟩ | ⟨q, e0, cc, d1, ⟨g, L, f1, f2⟩, d3⟩
  · exact Or.inl ⟨v, g, L, d1, d2, hQ _ _ d3, d4⟩
  · exact Or.inr ⟨q, e0, cc, d1, ⟨g, L, hQ _ _ f1, f2⟩, d3⟩
/-- an instruction is sound at its place, and monotone -/
def SM (G : GwT) (Md : Nat → MdT) (D : va_G) (A : Nat → Prop) (l : Launch) (m pc : Nat) (f : Op1) : Prop := OpMo f ∧ ∀ ls st h Q, f (XS G Md D A l) m pc ls st h Q → XS G Md D A l m pc ls st h Q
end
section
/-! SOUNDNESS of the instructions that touch no memory -/
section SD1
variable {G : GwT} {Md : Nat → MdT} {D : va_G} {A : Nat → Prop} {l : Launch}
theorem sd_oLdI_n (m pc : Nat) (kf : Fin 4) (kk : Nat) (hk : (kf : Nat) = kk) (d : decode (mCod (Md m)) pc = .ok (.iload_n kf, 1)) : SM G Md D A l m pc (oLdI kk 1) := by
  refine ⟨mo_oLdI kk 1, fun ls st h Q k pp ee RR ss mm aa bb me cc0 HH lc lsC c0 s0 ce se C hR hC hS hl ho hcu hsu => ?_⟩
  obtain ⟨⟨hx, hb, hml, hown, hts⟩, hr, hlk, hnm, het, hRm, htr, hA, hG⟩ := id C
  unfold oLdI at k
  split at k
  · next x e =>
    have g := lh_get hl e
    exact lv_iload_n hx hb d hk g.1 (k pp ee RR ss mm aa bb me cc0 HH lc lsC c0 s0 ce se C hR hC hS hl (List.forall_mem_cons.mpr ⟨g.2, ho⟩) hcu hsu)
  · exact k.elim
theorem sd_oLdI (m pc : Nat) (kk : Nat) (d : decode (mCod (Md m)) pc = .ok (.iload kk, 2)) : SM G Md D A l m pc (oLdI kk 2) := by
  refine ⟨mo_oLdI kk 2, fun ls st h Q k pp ee RR ss mm aa bb me cc0 HH lc lsC c0 s0 ce se C hR hC hS hl ho hcu hsu => ?_⟩
  obtain ⟨⟨hx, hb, hml, hown, hts⟩, hr, hlk, hnm, het, hRm, htr, hA, hG⟩ := id C
  unfold oLdI at k
  split at k
  · next x e =>
    have g := lh_get hl e
    exact lv_iload hx hb d g.1 (k pp ee RR ss mm aa bb me cc0 HH lc lsC c0 s0 ce se C hR hC hS hl (List.forall_mem_cons.mpr ⟨g.2, ho⟩) hcu hsu)
  · exact k.elim
theorem sd_oLdL_n (m pc : Nat) (kf : Fin 4) (kk : Nat) (hk : (kf : Nat) = kk) (d : decode (mCod (Md m)) pc = .ok (.lload_n kf, 1)) : SM G Md D A l m pc (oLdL kk 1) := by
  refine ⟨mo_oLdL kk 1, fun ls st h Q k pp ee RR ss mm aa bb me cc0 HH lc lsC c0 s0 ce se C hR hC hS hl ho hcu hsu => ?_⟩
  obtain ⟨⟨hx, hb, hml, hown, hts⟩, hr, hlk, hnm, het, hRm, htr, hA, hG⟩ := id C
  unfold oLdL at k
  split at k
  · next x e =>
    have g := lh_get hl e
    exact lv_lload_n hx hb d hk g.1 (k pp ee RR ss mm aa bb me cc0 HH lc lsC c0 s0 ce se C hR hC hS hl (List.forall_mem_cons.mpr ⟨g.2, ho⟩) hcu hsu)
  · exact k.elim
theorem sd_oLdL (m pc : Nat) (kk : Nat) (d : decode (mCod (Md m)) pc = .ok (.lload kk, 2)) : SM G Md D A l m pc (oLdL kk 2) := by
  refine ⟨mo_oLdL kk 2, fun ls st h Q k pp ee RR ss mm aa bb me cc0 HH lc lsC c0 s0 ce se C hR hC hS hl ho hcu hsu => ?_⟩
  obtain ⟨⟨hx, hb, hml, hown, hts⟩, hr, hlk, hnm, het, hRm, htr, hA, hG⟩ := id C
  unfold oLdL at k
  split at k
  · next x e =>
    have g := lh_get hl e
    exact lv_lload hx hb d g.1 (k pp ee RR ss mm aa bb me cc0 HH lc lsC c0 s0 ce se C hR hC hS hl (List.forall_mem_cons.mpr ⟨g.2, ho⟩) hcu hsu)
  · exact k.elim
theorem sd_oLdD_n (m pc : Nat) (kf : Fin 4) (kk : Nat) (hk : (kf : Nat) = kk) (d : decode (mCod (Md m)) pc = .ok (.dload_n kf, 1)) : SM G Md D A l m pc (oLdD kk 1) := by
  refine ⟨mo_oLdD kk 1, fun ls st h Q k pp ee RR ss mm aa bb me cc0 HH lc lsC c0 s0 ce se C hR hC hS hl ho hcu hsu => ?_⟩
  obtain ⟨⟨hx, hb, hml, hown, hts⟩, hr, hlk, hnm, het, hRm, htr, hA, hG⟩ := id C
  unfold oLdD at k
  split at k
  · next x e =>
    have g := lh_get hl e
    exact lv_dload_n hx hb d hk g.1 (k pp ee RR ss mm aa bb me cc0 HH lc lsC c0 s0 ce se C hR hC hS hl (List.forall_mem_cons.mpr ⟨g.2, ho⟩) hcu hsu)
  · exact k.elim
theorem sd_oLdD (m pc : Nat) (kk : Nat) (d : decode (mCod (Md m)) pc = .ok (.dload kk, 2)) : SM G Md D A l m pc (oLdD kk 2) := by
  refine ⟨mo_oLdD kk 2, fun ls st h Q k pp ee RR ss mm aa bb me cc0 HH lc lsC c0 s0 ce se C hR hC hS hl ho hcu hsu => ?_⟩
  obtain ⟨⟨hx, hb, hml, hown, hts⟩, hr, hlk, hnm, het, hRm, htr, hA, hG⟩ := id C
  unfold oLdD at k
  split at k
  · next x e =>
    have g := lh_get hl e
    exact lv_dload hx hb d g.1 (k pp ee RR ss mm aa bb me cc0 HH lc lsC c0 s0 ce se C hR hC hS hl (List.forall_mem_cons.mpr ⟨g.2, ho⟩) hcu hsu)
  · exact k.elim
theorem sd_oLdR_n (m pc : Nat) (kf : Fin 4) (kk : Nat) (hk : (kf : Nat) = kk) (d : decode (mCod (Md m)) pc = .ok (.aload_n kf, 1)) : SM G Md D A l m pc (oLdR kk 1) := by
  refine ⟨mo_oLdR kk 1, fun ls st h Q k pp ee RR ss mm aa bb me cc0 HH lc lsC c0 s0 ce se C hR hC hS hl ho hcu hsu => ?_⟩
  obtain ⟨⟨hx, hb, hml, hown, hts⟩, hr, hlk, hnm, het, hRm, htr, hA, hG⟩ := id C
  unfold oLdR at k
  split at k
  · next x e =>
    have g := lh_get hl e
    match x, g with
    | none, g => exact lv_aload_nN hx hb d hk g.1 (k pp ee RR ss mm aa bb me cc0 HH lc lsC c0 s0 ce se C hR hC hS hl (List.forall_mem_cons.mpr ⟨g.2, ho⟩) hcu hsu)
    | some q, g => exact lv_aload_n hx hb d hk g.1 (k pp ee RR ss mm aa bb me cc0 HH lc lsC c0 s0 ce se C hR hC hS hl (List.forall_mem_cons.mpr ⟨g.2, ho⟩) hcu hsu)
  · exact k.elim
theorem sd_oLdR (m pc : Nat) (kk : Nat) (d : decode (mCod (Md m)) pc = .ok (.aload kk, 2)) : SM G Md D A l m pc (oLdR kk 2) := by
  refine ⟨mo_oLdR kk 2, fun ls st h Q k pp ee RR ss mm aa bb me cc0 HH lc lsC c0 s0 ce se C hR hC hS hl ho hcu hsu => ?_⟩
  obtain ⟨⟨hx, hb, hml, hown, hts⟩, hr, hlk, hnm, het, hRm, htr, hA, hG⟩ := id C
  unfold oLdR at k
  split at k
  · next x e =>
    have g := lh_get hl e
    match x, g with
    | none, g => exact lv_aloadN hx hb d g.1 (k pp ee RR ss mm aa bb me cc0 HH lc lsC c0 s0 ce se C hR hC hS hl (List.forall_mem_cons.mpr ⟨g.2, ho⟩) hcu hsu)
    | some q, g => exact lv_aload hx hb d g.1 (k pp ee RR ss mm aa bb me cc0 HH lc lsC c0 s0 ce se C hR hC hS hl (List.forall_mem_cons.mpr ⟨g.2, ho⟩) hcu hsu)
  · exact k.elim
theorem sd_oStI_n (m pc : Nat) (kf : Fin 4) (kk : Nat) (hk : (kf : Nat) = kk) (hn : kk < mMax (Md m)) (d : decode (mCod (Md m)) pc = .ok (.istore_n kf, 1)) : SM G Md D A l m pc (oStI kk 1) := by
  refine ⟨mo_oStI kk 1, fun ls st h Q k pp ee RR ss mm aa bb me cc0 HH lc lsC c0 s0 ce se C hR hC hS hl ho hcu hsu => ?_⟩
  obtain ⟨⟨hx, hb, hml, hown, hts⟩, hr, hlk, hnm, het, hRm, htr, hA, hG⟩ := id C
  unfold oStI at k
  split at k
  · next x r =>
    replace ho := List.forall_mem_cons.mp ho
    obtain ⟨ox, ho⟩ := ho
    exact lv_istore_n hx hb d hk (lh.has hl) hn rfl (fun ls' hl' => k pp ee RR ss mm aa bb me cc0 HH lc ls' c0 s0 ce se C hR hC hS (lh_st1 hl ox hl') ho hcu hsu)
  · exact k.elim
theorem sd_oStI (m pc : Nat) (kk : Nat) (hn : kk < mMax (Md m)) (d : decode (mCod (Md m)) pc = .ok (.istore kk, 2)) : SM G Md D A l m pc (oStI kk 2) := by
  refine ⟨mo_oStI kk 2, fun ls st h Q k pp ee RR ss mm aa bb me cc0 HH lc lsC c0 s0 ce se C hR hC hS hl ho hcu hsu => ?_⟩
  obtain ⟨⟨hx, hb, hml, hown, hts⟩, hr, hlk, hnm, het, hRm, htr, hA, hG⟩ := id C
  unfold oStI at k
  split at k
  · next x r =>
    replace ho := List.forall_mem_cons.mp ho
    obtain ⟨ox, ho⟩ := ho
    exact lv_istore hx hb d (lh.has hl) hn rfl (fun ls' hl' => k pp ee RR ss mm aa bb me cc0 HH lc ls' c0 s0 ce se C hR hC hS (lh_st1 hl ox hl') ho hcu hsu)
  · exact k.elim
theorem sd_oStL_n (m pc : Nat) (kf : Fin 4) (kk : Nat) (hk : (kf : Nat) = kk) (hn : kk + 1 < mMax (Md m)) (d : decode (mCod (Md m)) pc = .ok (.lstore_n kf, 1)) : SM G Md D A l m pc (oStL kk 1) := by
  refine ⟨mo_oStL kk 1, fun ls st h Q k pp ee RR ss mm aa bb me cc0 HH lc lsC c0 s0 ce se C hR hC hS hl ho hcu hsu => ?_⟩
  obtain ⟨⟨hx, hb, hml, hown, hts⟩, hr, hlk, hnm, het, hRm, htr, hA, hG⟩ := id C
  unfold oStL at k
  split at k
  · next x r =>
    replace ho := List.forall_mem_cons.mp ho
    obtain ⟨ox, ho⟩ := ho
    exact lv_lstore_n hx hb d hk (lh.has hl) hn rfl (fun ls' hl' => k pp ee RR ss mm aa bb me cc0 HH lc ls' c0 s0 ce se C hR hC hS (lh_st2 hl ox hl') ho hcu hsu)
  · exact k.elim
theorem sd_oStL (m pc : Nat) (kk : Nat) (hn : kk + 1 < mMax (Md m)) (d : decode (mCod (Md m)) pc = .ok (.lstore kk, 2)) : SM G Md D A l m pc (oStL kk 2) := by
  refine ⟨mo_oStL kk 2, fun ls st h Q k pp ee RR ss mm aa bb me cc0 HH lc lsC c0 s0 ce se C hR hC hS hl ho hcu hsu => ?_⟩
  obtain ⟨⟨hx, hb, hml, hown, hts⟩, hr, hlk, hnm, het, hRm, htr, hA, hG⟩ := id C
  unfold oStL at k
  split at k
  · next x r =>
    replace ho := List.forall_mem_cons.mp ho
    obtain ⟨ox, ho⟩ := ho
    exact lv_lstore hx hb d (lh.has hl) hn rfl (fun ls' hl' => k pp ee RR ss mm aa bb me cc0 HH lc ls' c0 s0 ce se C hR hC hS (lh_st2 hl ox hl') ho hcu hsu)
  · exact k.elim
theorem sd_oStD_n (m pc : Nat) (kf : Fin 4) (kk : Nat) (hk : (kf : Nat) = kk) (hn : kk + 1 < mMax (Md m)) (d : decode (mCod (Md m)) pc = .ok (.dstore_n kf, 1)) : SM G Md D A l m pc (oStD kk 1) := by
  refine ⟨mo_oStD kk 1, fun ls st h Q k pp ee RR ss mm aa bb me cc0 HH lc lsC c0 s0 ce se C hR hC hS hl ho hcu hsu => ?_⟩
  obtain ⟨⟨hx, hb, hml, hown, hts⟩, hr, hlk, hnm, het, hRm, htr, hA, hG⟩ := id C
  unfold oStD at k
  split at k
  · next x r =>
    replace ho := List.forall_mem_cons.mp ho
    obtain ⟨ox, ho⟩ := ho
    exact lv_dstore_n hx hb d hk (lh.has hl) hn rfl (fun ls' hl' => k pp ee RR ss mm aa bb me cc0 HH lc ls' c0 s0 ce se C hR hC hS (lh_st2 hl ox hl') ho hcu hsu)
  · exact k.elim
theorem sd_oStD (m pc : Nat) (kk : Nat) (hn : kk + 1 < mMax (Md m)) (d : decode (mCod (Md m)) pc = .ok (.dstore kk, 2)) : SM G Md D A l m pc (oStD kk 2) := by
  refine ⟨mo_oStD kk 2, fun ls st h Q k pp ee RR ss mm aa bb me cc0 HH lc lsC c0 s0 ce se C hR hC hS hl ho hcu hsu => ?_⟩
  obtain ⟨⟨hx, hb, hml, hown, hts⟩, hr, hlk, hnm, het, hRm, htr, hA, hG⟩ := id C
  unfold oStD at k
  split at k
  · next x r =>
    replace ho := List.forall_mem_cons.mp ho
    obtain ⟨ox, ho⟩ := ho
    exact lv_dstore hx hb d (lh.has hl) hn rfl (fun ls' hl' => k pp ee RR ss mm aa bb me cc0 HH lc ls' c0 s0 ce se C hR hC hS (lh_st2 hl ox hl') ho hcu hsu)
  · exact k.elim
theorem sd_oStR_n (m pc : Nat) (kf : Fin 4) (kk : Nat) (hk : (kf : Nat) = kk) (hn : kk < mMax (Md m)) (d : decode (mCod (Md m)) pc = .ok (.astore_n kf, 1)) : SM G Md D A l m pc (oStR kk 1) := by
  refine ⟨mo_oStR kk 1, fun ls st h Q k pp ee RR ss mm aa bb me cc0 HH lc lsC c0 s0 ce se C hR hC hS hl ho hcu hsu => ?_⟩
  obtain ⟨⟨hx, hb, hml, hown, hts⟩, hr, hlk, hnm, het, hRm, htr, hA, hG⟩ := id C
  unfold oStR at k
  split at k
  · next x r =>
    replace ho := List.forall_mem_cons.mp ho
    obtain ⟨ox, ho⟩ := ho
    match x, ox, k with
    | none, ox, k => exact lv_astore_nN hx hb d hk (lh.has hl) hn rfl (fun ls' hl' => k pp ee RR ss mm aa bb me cc0 HH lc ls' c0 s0 ce se C hR hC hS (lh_st1 (v := zr none) hl ox hl') ho hcu hsu)
    | some q, ox, k => exact lv_astore_n hx hb d hk (lh.has hl) hn rfl (fun ls' hl' => k pp ee RR ss mm aa bb me cc0 HH lc ls' c0 s0 ce se C hR hC hS (lh_st1 (v := zr (some q)) hl ox hl') ho hcu hsu)
  · exact k.elim
theorem sd_oStR (m pc : Nat) (kk : Nat) (hn : kk < mMax (Md m)) (d : decode (mCod (Md m)) pc = .ok (.astore kk, 2)) : SM G Md D A l m pc (oStR kk 2) := by
  refine ⟨mo_oStR kk 2, fun ls st h Q k pp ee RR ss mm aa bb me cc0 HH lc lsC c0 s0 ce se C hR hC hS hl ho hcu hsu => ?_⟩
  obtain ⟨⟨hx, hb, hml, hown, hts⟩, hr, hlk, hnm, het, hRm, htr, hA, hG⟩ := id C
  unfold oStR at k
  split at k
  · next x r =>
    replace ho := List.forall_mem_cons.mp ho
    obtain ⟨ox, ho⟩ := ho
    match x, ox, k with
    | none, ox, k => exact lv_astoreN hx hb d (lh.has hl) hn rfl (fun ls' hl' => k pp ee RR ss mm aa bb me cc0 HH lc ls' c0 s0 ce se C hR hC hS (lh_st1 (v := zr none) hl ox hl') ho hcu hsu)
    | some q, ox, k => exact lv_astore hx hb d (lh.has hl) hn rfl (fun ls' hl' => k pp ee RR ss mm aa bb me cc0 HH lc ls' c0 s0 ce se C hR hC hS (lh_st1 (v := zr (some q)) hl ox hl') ho hcu hsu)
  · exact k.elim
theorem sd_iconst (m pc : Nat) (n : Int) (hn : inR n) (d : decode (mCod (Md m)) pc = .ok (.iconst n, 1)) : SM G Md D A l m pc (oCI n 1) := by
  refine ⟨mo_oCI n 1, fun ls st h Q k pp ee RR ss mm aa bb me cc0 HH lc lsC c0 s0 ce se C hR hC hS hl ho hcu hsu => ?_⟩
  obtain ⟨⟨hx, hb, hml, hown, hts⟩, hr, hlk, hnm, het, hRm, htr, hA, hG⟩ := id C
  unfold oCI at k
  exact lv_iconst hx hb d rfl (k pp ee RR ss mm aa bb me cc0 HH lc lsC c0 s0 ce se C hR hC hS hl (List.forall_mem_cons.mpr ⟨hn, ho⟩) hcu hsu)
theorem sd_bipush (m pc : Nat) (n : Int) (hn : inR n) (hv : (Int8.ofInt n).toInt32 = Int32.ofInt n) (d : decode (mCod (Md m)) pc = .ok (.bipush n, 2)) : SM G Md D A l m pc (oCI n 2) := by
  refine ⟨mo_oCI n 2, fun ls st h Q k pp ee RR ss mm aa bb me cc0 HH lc lsC c0 s0 ce se C hR hC hS hl ho hcu hsu => ?_⟩
  obtain ⟨⟨hx, hb, hml, hown, hts⟩, hr, hlk, hnm, het, hRm, htr, hA, hG⟩ := id C
  unfold oCI at k
  exact lv_bipush hx hb d hv (k pp ee RR ss mm aa bb me cc0 HH lc lsC c0 s0 ce se C hR hC hS hl (List.forall_mem_cons.mpr ⟨hn, ho⟩) hcu hsu)
theorem sd_sipush (m pc : Nat) (n : Int) (hn : inR n) (hv : (Int16.ofInt n).toInt32 = Int32.ofInt n) (d : decode (mCod (Md m)) pc = .ok (.sipush n, 3)) : SM G Md D A l m pc (oCI n 3) := by
  refine ⟨mo_oCI n 3, fun ls st h Q k pp ee RR ss mm aa bb me cc0 HH lc lsC c0 s0 ce se C hR hC hS hl ho hcu hsu => ?_⟩
  obtain ⟨⟨hx, hb, hml, hown, hts⟩, hr, hlk, hnm, het, hRm, htr, hA, hG⟩ := id C
  unfold oCI at k
  exact lv_sipush hx hb d hv (k pp ee RR ss mm aa bb me cc0 HH lc lsC c0 s0 ce se C hR hC hS hl (List.forall_mem_cons.mpr ⟨hn, ho⟩) hcu hsu)
theorem sd_lconst (m pc : Nat) (n : Fin 2) (v : Int64) (hv : Int64.ofNat (n : Nat) = v) (d : decode (mCod (Md m)) pc = .ok (.lconst n, 1)) : SM G Md D A l m pc (oCL v 1) := by
  refine ⟨mo_oCL v 1, fun ls st h Q k pp ee RR ss mm aa bb me cc0 HH lc lsC c0 s0 ce se C hR hC hS hl ho hcu hsu => ?_⟩
  obtain ⟨⟨hx, hb, hml, hown, hts⟩, hr, hlk, hnm, het, hRm, htr, hA, hG⟩ := id C
  unfold oCL at k
  exact lv_lconst hx hb d hv (k pp ee RR ss mm aa bb me cc0 HH lc lsC c0 s0 ce se C hR hC hS hl (List.forall_mem_cons.mpr ⟨trivial, ho⟩) hcu hsu)
theorem sd_ldc2 (m pc : Nat) (ix : Nat) (v : Int64) (hw : Cond.constantLong (mOwn (Md m)) ix v ∈ mWs (Md m)) (d : decode (mCod (Md m)) pc = .ok (.ldc2_w ix, 3)) : SM G Md D A l m pc (oCL v 3) := by
  refine ⟨mo_oCL v 3, fun ls st h Q k pp ee RR ss mm aa bb me cc0 HH lc lsC c0 s0 ce se C hR hC hS hl ho hcu hsu => ?_⟩
  obtain ⟨⟨hx, hb, hml, hown, hts⟩, hr, hlk, hnm, het, hRm, htr, hA, hG⟩ := id C
  unfold oCL at k
  exact lv_ldc2 hx hb hown (hts _ hw) d (k pp ee RR ss mm aa bb me cc0 HH lc lsC c0 s0 ce se C hR hC hS hl (List.forall_mem_cons.mpr ⟨trivial, ho⟩) hcu hsu)
theorem sd_dconst0 (m pc : Nat)  (d : decode (mCod (Md m)) pc = .ok (.dconst 0, 1)) : SM G Md D A l m pc (oCD) := by
  refine ⟨mo_oCD, fun ls st h Q k pp ee RR ss mm aa bb me cc0 HH lc lsC c0 s0 ce se C hR hC hS hl ho hcu hsu => ?_⟩
  obtain ⟨⟨hx, hb, hml, hown, hts⟩, hr, hlk, hnm, het, hRm, htr, hA, hG⟩ := id C
  unfold oCD at k
  exact lv_dconst0 hx hb d (k pp ee RR ss mm aa bb me cc0 HH lc lsC c0 s0 ce se C hR hC hS hl (List.forall_mem_cons.mpr ⟨trivial, ho⟩) hcu hsu)
theorem sd_null (m pc : Nat)  (d : decode (mCod (Md m)) pc = .ok (.aconst_null, 1)) : SM G Md D A l m pc (oNull) := by
  refine ⟨mo_oNull, fun ls st h Q k pp ee RR ss mm aa bb me cc0 HH lc lsC c0 s0 ce se C hR hC hS hl ho hcu hsu => ?_⟩
  obtain ⟨⟨hx, hb, hml, hown, hts⟩, hr, hlk, hnm, het, hRm, htr, hA, hG⟩ := id C
  unfold oNull at k
  exact lv_null hx hb d (k pp ee RR ss mm aa bb me cc0 HH lc lsC c0 s0 ce se C hR hC hS hl (List.forall_mem_cons.mpr ⟨trivial, ho⟩) hcu hsu)
theorem sd_iinc (m pc : Nat) (kk : Nat) (n : Int) (hn : kk < mMax (Md m)) (d : decode (mCod (Md m)) pc = .ok (.iinc kk n, 3)) : SM G Md D A l m pc (oInc kk n) := by
  refine ⟨mo_oInc kk n, fun ls st h Q k pp ee RR ss mm aa bb me cc0 HH lc lsC c0 s0 ce se C hR hC hS hl ho hcu hsu => ?_⟩
  obtain ⟨⟨hx, hb, hml, hown, hts⟩, hr, hlk, hnm, het, hRm, htr, hA, hG⟩ := id C
  unfold oInc at k
  split at k
  · next x e =>
    have g := lh_get hl e
    obtain ⟨ki, hki⟩ := List.getElem?_of_mem ((prs_mem ls 0 (kk, cz (zi x))).mpr ⟨kk, zi x, e, by rw [Nat.zero_add]⟩)
    refine lv_iinc (v := Int32.ofInt (x + n)) hx hb d (lh.has hl) hki (by rw [Int32.ofInt_add]) hn rfl (fun ls' hl' => ?_)
    exact k.2 pp ee RR ss mm aa bb me cc0 HH lc ls' c0 s0 ce se C hR hC hS (lh_st1 (v := zi (x + n)) hl k.1 hl') ho hcu hsu
  · exact k.elim
theorem sd_iadd (m pc : Nat)  (d : decode (mCod (Md m)) pc = .ok (.iadd, 1)) : SM G Md D A l m pc (oAdd) := by
  refine ⟨mo_oAdd, fun ls st h Q k pp ee RR ss mm aa bb me cc0 HH lc lsC c0 s0 ce se C hR hC hS hl ho hcu hsu => ?_⟩
  obtain ⟨⟨hx, hb, hml, hown, hts⟩, hr, hlk, hnm, het, hRm, htr, hA, hG⟩ := id C
  unfold oAdd at k
  split at k
  · next b a r =>
    replace ho := List.forall_mem_cons.mp ho
    obtain ⟨ob, ho⟩ := ho
    replace ho := List.forall_mem_cons.mp ho
    obtain ⟨oa, ho⟩ := ho
    refine lv_iadd hx hb d ?_
    rw [← Int32.ofInt_add]
    exact k.2 pp ee RR ss mm aa bb me cc0 HH lc lsC c0 s0 ce se C hR hC hS hl (List.forall_mem_cons.mpr ⟨k.1, ho⟩) hcu hsu
  · exact k.elim
theorem sd_isub (m pc : Nat)  (d : decode (mCod (Md m)) pc = .ok (.isub, 1)) : SM G Md D A l m pc (oSub) := by
  refine ⟨mo_oSub, fun ls st h Q k pp ee RR ss mm aa bb me cc0 HH lc lsC c0 s0 ce se C hR hC hS hl ho hcu hsu => ?_⟩
  obtain ⟨⟨hx, hb, hml, hown, hts⟩, hr, hlk, hnm, het, hRm, htr, hA, hG⟩ := id C
  unfold oSub at k
  split at k
  · next b a r =>
    replace ho := List.forall_mem_cons.mp ho
    obtain ⟨ob, ho⟩ := ho
    replace ho := List.forall_mem_cons.mp ho
    obtain ⟨oa, ho⟩ := ho
    refine lv_isub hx hb d ?_
    rw [← Int32.ofInt_sub]
    exact k.2 pp ee RR ss mm aa bb me cc0 HH lc lsC c0 s0 ce se C hR hC hS hl (List.forall_mem_cons.mpr ⟨k.1, ho⟩) hcu hsu
  · exact k.elim
theorem sd_imul (m pc : Nat)  (d : decode (mCod (Md m)) pc = .ok (.imul, 1)) : SM G Md D A l m pc (oMul) := by
  refine ⟨mo_oMul, fun ls st h Q k pp ee RR ss mm aa bb me cc0 HH lc lsC c0 s0 ce se C hR hC hS hl ho hcu hsu => ?_⟩
  obtain ⟨⟨hx, hb, hml, hown, hts⟩, hr, hlk, hnm, het, hRm, htr, hA, hG⟩ := id C
  unfold oMul at k
  split at k
  · next b a r =>
    replace ho := List.forall_mem_cons.mp ho
    obtain ⟨ob, ho⟩ := ho
    replace ho := List.forall_mem_cons.mp ho
    obtain ⟨oa, ho⟩ := ho
    refine lv_imul hx hb d ?_
    rw [← Int32.ofInt_mul]
    exact k.2 pp ee RR ss mm aa bb me cc0 HH lc lsC c0 s0 ce se C hR hC hS hl (List.forall_mem_cons.mpr ⟨k.1, ho⟩) hcu hsu
  · exact k.elim
theorem z_div {a b : Int} (ha : inR a) (hb : inR b) (h0 : 0 ≤ a) (h1 : 0 < b) : Int32.ofInt a / Int32.ofInt b = Int32.ofInt (a / b) ∧ inR (a / b) := by
  have h2 : 0 ≤ a / b := Int.ediv_nonneg h0 (Int.le_of_lt h1)
  have h3 : a / b ≤ a := Int.ediv_le_self b h0
  have h4 : inR (a / b) := ⟨by have := ha.1; omega, by have := ha.2; omega⟩
  refine ⟨?_, h4⟩
  rw [← Int32.toInt_inj, z_ofI h4, Int32.toInt_div, z_ofI ha, z_ofI hb, Int.tdiv_eq_ediv_of_nonneg h0]
  exact Int.bmod_eq_of_le (by have := h4.1; omega) (by have := h4.2; omega)
theorem z_rem {a b : Int} (ha : inR a) (hb : inR b) (h0 : 0 ≤ a) (h1 : 0 < b) : Int32.ofInt a - Int32.ofInt a / Int32.ofInt b * Int32.ofInt b = Int32.ofInt (a % b) ∧ inR (a % b) := by
  have h2 : 0 ≤ a % b := Int.emod_nonneg a (Int.ne_of_gt h1)
  have h3 : a % b < b := Int.emod_lt_of_pos a h1
  refine ⟨?_, ⟨by omega, by have := hb.2; omega⟩⟩
  rw [(z_div ha hb h0 h1).1, ← Int32.ofInt_mul, ← Int32.ofInt_sub]
  congr 1
  have := Int.emod_add_mul_ediv a b
  rw [Int.mul_comm] at this
  omega
theorem z_and {a : Int} : Int32.ofInt a &&& Int32.ofInt 31 = Int32.ofInt (a % 32) := by
  apply Int32.toBitVec_inj.mp
  rw [Int32.toBitVec_and, Int32.toBitVec_ofInt, Int32.toBitVec_ofInt, Int32.toBitVec_ofInt]
  apply BitVec.eq_of_toNat_eq
  rw [BitVec.toNat_and, BitVec.toNat_ofInt, BitVec.toNat_ofInt, BitVec.toNat_ofInt]
  have e : ((31 : Int) % (2 ^ 32 : Nat)).toNat = 2 ^ 5 - 1 := by decide
  rw [e, Nat.and_two_pow_sub_one_eq_mod]
  have h1 : 0 ≤ a % ((2 ^ 32 : Nat) : Int) := Int.emod_nonneg a (by decide)
  have h2 : 0 ≤ a % 32 := Int.emod_nonneg a (by decide)
  have h3 : a % 32 < 32 := Int.emod_lt_of_pos a (by decide)
  apply Int.ofNat.inj
  show (((a % ((2 ^ 32 : Nat) : Int)).toNat % 2 ^ 5 : Nat) : Int) = ((a % 32 % ((2 ^ 32 : Nat) : Int)).toNat : Int)
  rw [Int.natCast_emod, Int.toNat_of_nonneg h1, Int.toNat_of_nonneg (Int.emod_nonneg _ (by decide))]
  have e2 : (((2 ^ 5 : Nat)) : Int) = 32 := by decide
  have e3 : (((2 ^ 32 : Nat)) : Int) = 4294967296 := by decide
  rw [e2, e3]
  omega
theorem sd_idiv (m pc : Nat)  (d : decode (mCod (Md m)) pc = .ok (.idiv, 1)) : SM G Md D A l m pc (oDiv) := by
  refine ⟨mo_oDiv, fun ls st h Q k pp ee RR ss mm aa bb me cc0 HH lc lsC c0 s0 ce se C hR hC hS hl ho hcu hsu => ?_⟩
  obtain ⟨⟨hx, hb, hml, hown, hts⟩, hr, hlk, hnm, het, hRm, htr, hA, hG⟩ := id C
  unfold oDiv at k
  split at k
  · next b a r =>
    replace ho := List.forall_mem_cons.mp ho
    obtain ⟨ob, ho⟩ := ho
    replace ho := List.forall_mem_cons.mp ho
    obtain ⟨oa, ho⟩ := ho
    have z := z_div oa ob k.1.1 k.1.2
    refine lv_idiv hx hb d (fun q => ?_) ?_
    · rw [z_0e, z_eq ob z_0] at q
      have := k.1.2
      omega
    · rw [z.1]
      exact k.2 pp ee RR ss mm aa bb me cc0 HH lc lsC c0 s0 ce se C hR hC hS hl (List.forall_mem_cons.mpr ⟨z.2, ho⟩) hcu hsu
  · exact k.elim
theorem sd_irem (m pc : Nat)  (d : decode (mCod (Md m)) pc = .ok (.irem, 1)) : SM G Md D A l m pc (oRem) := by
  refine ⟨mo_oRem, fun ls st h Q k pp ee RR ss mm aa bb me cc0 HH lc lsC c0 s0 ce se C hR hC hS hl ho hcu hsu => ?_⟩
  obtain ⟨⟨hx, hb, hml, hown, hts⟩, hr, hlk, hnm, het, hRm, htr, hA, hG⟩ := id C
  unfold oRem at k
  split at k
  · next b a r =>
    replace ho := List.forall_mem_cons.mp ho
    obtain ⟨ob, ho⟩ := ho
    replace ho := List.forall_mem_cons.mp ho
    obtain ⟨oa, ho⟩ := ho
    have z := z_rem oa ob k.1.1 k.1.2
    refine lv_irem hx hb d (fun q => ?_) ?_
    · rw [z_0e, z_eq ob z_0] at q
      have := k.1.2
      omega
    · rw [z.1]
      exact k.2 pp ee RR ss mm aa bb me cc0 HH lc lsC c0 s0 ce se C hR hC hS hl (List.forall_mem_cons.mpr ⟨z.2, ho⟩) hcu hsu
  · exact k.elim
theorem sd_iand (m pc : Nat)  (d : decode (mCod (Md m)) pc = .ok (.iand, 1)) : SM G Md D A l m pc (oAnd) := by
  refine ⟨mo_oAnd, fun ls st h Q k pp ee RR ss mm aa bb me cc0 HH lc lsC c0 s0 ce se C hR hC hS hl ho hcu hsu => ?_⟩
  obtain ⟨⟨hx, hb, hml, hown, hts⟩, hr, hlk, hnm, het, hRm, htr, hA, hG⟩ := id C
  unfold oAnd at k
  split at k
  · next b a r =>
    replace ho := List.forall_mem_cons.mp ho
    obtain ⟨ob, ho⟩ := ho
    replace ho := List.forall_mem_cons.mp ho
    obtain ⟨oa, ho⟩ := ho
    refine lv_iand hx hb d ?_
    have e : Int32.ofInt a &&& Int32.ofInt b = Int32.ofInt (if b = 31 then a % 32 else a * b) ∧ inR (if b = 31 then a % 32 else a * b) := by
      by_cases q : b = 31
      · subst q
        rw [if_pos rfl, z_and]
        have h2 : 0 ≤ a % 32 := Int.emod_nonneg a (by decide)
        have h3 : a % 32 < 32 := Int.emod_lt_of_pos a (by decide)
        exact ⟨rfl, by unfold inR; omega⟩
      · rw [if_neg q]
        rcases k.1 with q2 | ⟨q2, q3⟩
        · exact absurd q2 q
        · rcases q2 with rfl | rfl <;> rcases q3 with rfl | rfl <;> exact ⟨by decide, by unfold inR; omega⟩
    rw [e.1]
    exact k.2 pp ee RR ss mm aa bb me cc0 HH lc lsC c0 s0 ce se C hR hC hS hl (List.forall_mem_cons.mpr ⟨e.2, ho⟩) hcu hsu
  · exact k.elim
theorem sd_i2l (m pc : Nat)  (d : decode (mCod (Md m)) pc = .ok (.i2l, 1)) : SM G Md D A l m pc (oI2L) := by
  refine ⟨mo_oI2L, fun ls st h Q k pp ee RR ss mm aa bb me cc0 HH lc lsC c0 s0 ce se C hR hC hS hl ho hcu hsu => ?_⟩
  obtain ⟨⟨hx, hb, hml, hown, hts⟩, hr, hlk, hnm, het, hRm, htr, hA, hG⟩ := id C
  unfold oI2L at k
  split at k
  · next a r =>
    replace ho := List.forall_mem_cons.mp ho
    obtain ⟨oa, ho⟩ := ho
    refine lv_i2l (v := Int64.ofInt a) hx hb d ?_ (k pp ee RR ss mm aa bb me cc0 HH lc lsC c0 s0 ce se C hR hC hS hl (List.forall_mem_cons.mpr ⟨trivial, ho⟩) hcu hsu)
    rw [← Int64.toInt_inj, Int32.toInt_toInt64, z_ofI oa, Int64.toInt_ofInt_of_le (by have := oa.1; omega) (by have := oa.2; omega)]
  · exact k.elim
theorem sd_ladd (m pc : Nat)  (d : decode (mCod (Md m)) pc = .ok (.ladd, 1)) : SM G Md D A l m pc (oLAdd) := by
  refine ⟨mo_oLAdd, fun ls st h Q k pp ee RR ss mm aa bb me cc0 HH lc lsC c0 s0 ce se C hR hC hS hl ho hcu hsu => ?_⟩
  obtain ⟨⟨hx, hb, hml, hown, hts⟩, hr, hlk, hnm, het, hRm, htr, hA, hG⟩ := id C
  unfold oLAdd at k
  split at k
  · next b a r =>
    replace ho := List.forall_mem_cons.mp ho
    obtain ⟨ob, ho⟩ := ho
    replace ho := List.forall_mem_cons.mp ho
    obtain ⟨oa, ho⟩ := ho
    exact lv_ladd hx hb d (k pp ee RR ss mm aa bb me cc0 HH lc lsC c0 s0 ce se C hR hC hS hl (List.forall_mem_cons.mpr ⟨trivial, ho⟩) hcu hsu)
  · exact k.elim
theorem sd_lmul (m pc : Nat)  (d : decode (mCod (Md m)) pc = .ok (.lmul, 1)) : SM G Md D A l m pc (oLMul) := by
  refine ⟨mo_oLMul, fun ls st h Q k pp ee RR ss mm aa bb me cc0 HH lc lsC c0 s0 ce se C hR hC hS hl ho hcu hsu => ?_⟩
  obtain ⟨⟨hx, hb, hml, hown, hts⟩, hr, hlk, hnm, het, hRm, htr, hA, hG⟩ := id C
  unfold oLMul at k
  split at k
  · next b a r =>
    replace ho := List.forall_mem_cons.mp ho
    obtain ⟨ob, ho⟩ := ho
    replace ho := List.forall_mem_cons.mp ho
    obtain ⟨oa, ho⟩ := ho
    exact lv_lmul hx hb d (k pp ee RR ss mm aa bb me cc0 HH lc lsC c0 s0 ce se C hR hC hS hl (List.forall_mem_cons.mpr ⟨trivial, ho⟩) hcu hsu)
  · exact k.elim
theorem z_lcmp (a b : Int64) : lg_cmp a b = Int32.ofInt (if a = b then 0 else if a < b then -1 else 1) ∧ inR (if a = b then 0 else if a < b then -1 else 1) := by
  unfold lg_cmp
  by_cases h : a = b
  · subst h
    have : ¬ a > a := by rw [gt_iff_lt, Int64.lt_iff_toInt_lt]; omega
    simp [this, inR]
  · by_cases h2 : a < b
    · have : ¬ a > b := by rw [gt_iff_lt, Int64.lt_iff_toInt_lt]; rw [Int64.lt_iff_toInt_lt] at h2; omega
      simp [this, h, h2, inR]
    · have : a > b := by
        rw [gt_iff_lt, Int64.lt_iff_toInt_lt]; rw [Int64.lt_iff_toInt_lt] at h2
        have : a.toInt ≠ b.toInt := fun q => h (Int64.toInt_inj.mp q)
        omega
      simp [this, h, h2, inR]
theorem sd_lcmp (m pc : Nat)  (d : decode (mCod (Md m)) pc = .ok (.lcmp, 1)) : SM G Md D A l m pc (oLCmp) := by
  refine ⟨mo_oLCmp, fun ls st h Q k pp ee RR ss mm aa bb me cc0 HH lc lsC c0 s0 ce se C hR hC hS hl ho hcu hsu => ?_⟩
  obtain ⟨⟨hx, hb, hml, hown, hts⟩, hr, hlk, hnm, het, hRm, htr, hA, hG⟩ := id C
  unfold oLCmp at k
  split at k
  · next b a r =>
    replace ho := List.forall_mem_cons.mp ho
    obtain ⟨ob, ho⟩ := ho
    replace ho := List.forall_mem_cons.mp ho
    obtain ⟨oa, ho⟩ := ho
    refine W.lcmp hx hb d ?_
    rw [(z_lcmp a b).1]
    exact k pp ee RR ss mm aa bb me cc0 HH lc lsC c0 s0 ce se C hR hC hS hl (List.forall_mem_cons.mpr ⟨(z_lcmp a b).2, ho⟩) hcu hsu
  · exact k.elim
theorem sd_i2d (m pc : Nat)  (d : decode (mCod (Md m)) pc = .ok (.i2d, 1)) : SM G Md D A l m pc (oI2D) := by
  refine ⟨mo_oI2D, fun ls st h Q k pp ee RR ss mm aa bb me cc0 HH lc lsC c0 s0 ce se C hR hC hS hl ho hcu hsu => ?_⟩
  obtain ⟨⟨hx, hb, hml, hown, hts⟩, hr, hlk, hnm, het, hRm, htr, hA, hG⟩ := id C
  unfold oI2D at k
  split at k
  · next a r =>
    replace ho := List.forall_mem_cons.mp ho
    obtain ⟨oa, ho⟩ := ho
    exact lv_i2d hx hb d (k pp ee RR ss mm aa bb me cc0 HH lc lsC c0 s0 ce se C hR hC hS hl (List.forall_mem_cons.mpr ⟨trivial, ho⟩) hcu hsu)
  · exact k.elim
theorem sd_ddiv (m pc : Nat)  (d : decode (mCod (Md m)) pc = .ok (.ddiv, 1)) : SM G Md D A l m pc (oDDiv) := by
  refine ⟨mo_oDDiv, fun ls st h Q k pp ee RR ss mm aa bb me cc0 HH lc lsC c0 s0 ce se C hR hC hS hl ho hcu hsu => ?_⟩
  obtain ⟨⟨hx, hb, hml, hown, hts⟩, hr, hlk, hnm, het, hRm, htr, hA, hG⟩ := id C
  unfold oDDiv at k
  split at k
  · next b a r =>
    replace ho := List.forall_mem_cons.mp ho
    obtain ⟨ob, ho⟩ := ho
    replace ho := List.forall_mem_cons.mp ho
    obtain ⟨oa, ho⟩ := ho
    exact lv_ddiv hx hb d k.1 (k.2 pp ee RR ss mm aa bb me cc0 HH lc lsC c0 s0 ce se C hR hC hS hl (List.forall_mem_cons.mpr ⟨trivial, ho⟩) hcu hsu)
  · exact k.elim
theorem z_i32 (x : Int32) : x = Int32.ofInt x.toInt ∧ inR x.toInt := by
  have h := Int32.toInt_lt x
  have h2 := Int32.le_toInt x
  have h3 : inR x.toInt := ⟨by omega, by omega⟩
  exact ⟨Int32.toInt_inj.mp (z_ofI h3).symm, h3⟩
theorem sd_dcmp (m pc : Nat) (o : CmpOp) (d : decode (mCod (Md m)) pc = .ok (.dcmp o, 1)) : SM G Md D A l m pc (oDCmp o) := by
  refine ⟨mo_oDCmp o, fun ls st h Q k pp ee RR ss mm aa bb me cc0 HH lc lsC c0 s0 ce se C hR hC hS hl ho hcu hsu => ?_⟩
  obtain ⟨⟨hx, hb, hml, hown, hts⟩, hr, hlk, hnm, het, hRm, htr, hA, hG⟩ := id C
  unfold oDCmp at k
  split at k
  · next b a r =>
    replace ho := List.forall_mem_cons.mp ho
    obtain ⟨ob, ho⟩ := ho
    replace ho := List.forall_mem_cons.mp ho
    obtain ⟨oa, ho⟩ := ho
    refine lv_dcmp hx hb d ?_
    rw [(z_i32 (Op.cmpValue (FP.dcmp a b) o)).1]
    exact k pp ee RR ss mm aa bb me cc0 HH lc lsC c0 s0 ce se C hR hC hS hl (List.forall_mem_cons.mpr ⟨(z_i32 _).2, ho⟩) hcu hsu
  · exact k.elim
theorem sd_dup (m pc : Nat)  (d : decode (mCod (Md m)) pc = .ok (.dup, 1)) : SM G Md D A l m pc (oDup) := by
  refine ⟨mo_oDup, fun ls st h Q k pp ee RR ss mm aa bb me cc0 HH lc lsC c0 s0 ce se C hR hC hS hl ho hcu hsu => ?_⟩
  obtain ⟨⟨hx, hb, hml, hown, hts⟩, hr, hlk, hnm, het, hRm, htr, hA, hG⟩ := id C
  unfold oDup at k
  split at k
  · next a r =>
    obtain ⟨k1, k⟩ := gd_iff.mp k
    have k1 := Nat.eq_of_beq_eq_true k1
    replace ho := List.forall_mem_cons.mp ho
    obtain ⟨oa, ho⟩ := ho
    exact lv_dup hx hb d (by rw [ctz_cz]; exact k1) (k pp ee RR ss mm aa bb me cc0 HH lc lsC c0 s0 ce se C hR hC hS hl (List.forall_mem_cons.mpr ⟨oa, List.forall_mem_cons.mpr ⟨oa, ho⟩⟩) hcu hsu)
  · exact k.elim
theorem sd_dup_x1 (m pc : Nat)  (d : decode (mCod (Md m)) pc = .ok (.dup_x1, 1)) : SM G Md D A l m pc (oDupX1) := by
  refine ⟨mo_oDupX1, fun ls st h Q k pp ee RR ss mm aa bb me cc0 HH lc lsC c0 s0 ce se C hR hC hS hl ho hcu hsu => ?_⟩
  obtain ⟨⟨hx, hb, hml, hown, hts⟩, hr, hlk, hnm, het, hRm, htr, hA, hG⟩ := id C
  unfold oDupX1 at k
  split at k
  · next a b r =>
    obtain ⟨k1, k⟩ := gd_iff.mp k
    obtain ⟨k1, k2⟩ := Bool.and_eq_true_iff.mp k1
    have k1 := Nat.eq_of_beq_eq_true k1
    have k2 := Nat.eq_of_beq_eq_true k2
    replace ho := List.forall_mem_cons.mp ho
    obtain ⟨oa, ho⟩ := ho
    replace ho := List.forall_mem_cons.mp ho
    obtain ⟨ob, ho⟩ := ho
    exact lv_dup_x1 hx hb d (by rw [ctz_cz]; exact k1) (by rw [ctz_cz]; exact k2) (k pp ee RR ss mm aa bb me cc0 HH lc lsC c0 s0 ce se C hR hC hS hl (List.forall_mem_cons.mpr ⟨oa, List.forall_mem_cons.mpr ⟨ob, List.forall_mem_cons.mpr ⟨oa, ho⟩⟩⟩) hcu hsu)
  · exact k.elim
theorem sd_dup2 (m pc : Nat)  (d : decode (mCod (Md m)) pc = .ok (.dup2, 1)) : SM G Md D A l m pc (oDup2) := by
  refine ⟨mo_oDup2, fun ls st h Q k pp ee RR ss mm aa bb me cc0 HH lc lsC c0 s0 ce se C hR hC hS hl ho hcu hsu => ?_⟩
  obtain ⟨⟨hx, hb, hml, hown, hts⟩, hr, hlk, hnm, het, hRm, htr, hA, hG⟩ := id C
  unfold oDup2 at k
  split at k
  · next a b r =>
    obtain ⟨k1, k⟩ := gd_iff.mp k
    obtain ⟨k1, k2⟩ := Bool.and_eq_true_iff.mp k1
    have k1 := Nat.eq_of_beq_eq_true k1
    have k2 := Nat.eq_of_beq_eq_true k2
    replace ho := List.forall_mem_cons.mp ho
    obtain ⟨oa, ho⟩ := ho
    replace ho := List.forall_mem_cons.mp ho
    obtain ⟨ob, ho⟩ := ho
    exact lv_dup2_11 hx hb d (by rw [ctz_cz]; exact k1) (by rw [ctz_cz]; exact k2) (k pp ee RR ss mm aa bb me cc0 HH lc lsC c0 s0 ce se C hR hC hS hl (List.forall_mem_cons.mpr ⟨oa, List.forall_mem_cons.mpr ⟨ob, List.forall_mem_cons.mpr ⟨oa, List.forall_mem_cons.mpr ⟨ob, ho⟩⟩⟩⟩) hcu hsu)
  · exact k.elim
theorem sd_if_eq (m pc : Nat) (off : Int) (t : Nat) (ht : (pc : Int) + off = (t : Int)) (d : decode (mCod (Md m)) pc = .ok (.ifCond .eq off, 3)) : SM G Md D A l m pc (oZeq t) := by
  refine ⟨mo_oZeq t, fun ls st h Q k pp ee RR ss mm aa bb me cc0 HH lc lsC c0 s0 ce se C hR hC hS hl ho hcu hsu => ?_⟩
  obtain ⟨⟨hx, hb, hml, hown, hts⟩, hr, hlk, hnm, het, hRm, htr, hA, hG⟩ := id C
  unfold oZeq at k
  split at k
  · next a r =>
    replace ho := List.forall_mem_cons.mp ho
    obtain ⟨oa, ho⟩ := ho
    exact lv_if_eq hx hb d ht (fun q => k.1 ((z_eq oa z_0).mp q) pp ee RR ss mm aa bb me cc0 HH lc lsC c0 s0 ce se C hR hC hS hl ho hcu hsu) (fun q => k.2 (fun z => q ((z_eq oa z_0).mpr z)) pp ee RR ss mm aa bb me cc0 HH lc lsC c0 s0 ce se C hR hC hS hl ho hcu hsu)
  · exact k.elim
theorem sd_if_ne (m pc : Nat) (off : Int) (t : Nat) (ht : (pc : Int) + off = (t : Int)) (d : decode (mCod (Md m)) pc = .ok (.ifCond .ne off, 3)) : SM G Md D A l m pc (oZne t) := by
  refine ⟨mo_oZne t, fun ls st h Q k pp ee RR ss mm aa bb me cc0 HH lc lsC c0 s0 ce se C hR hC hS hl ho hcu hsu => ?_⟩
  obtain ⟨⟨hx, hb, hml, hown, hts⟩, hr, hlk, hnm, het, hRm, htr, hA, hG⟩ := id C
  unfold oZne at k
  split at k
  · next a r =>
    replace ho := List.forall_mem_cons.mp ho
    obtain ⟨oa, ho⟩ := ho
    exact lv_if_ne hx hb d ht (fun q => k.2 (fun z => q ((z_eq oa z_0).mpr z)) pp ee RR ss mm aa bb me cc0 HH lc lsC c0 s0 ce se C hR hC hS hl ho hcu hsu) (fun q => k.1 ((z_eq oa z_0).mp q) pp ee RR ss mm aa bb me cc0 HH lc lsC c0 s0 ce se C hR hC hS hl ho hcu hsu)
  · exact k.elim
theorem sd_if_lt (m pc : Nat) (off : Int) (t : Nat) (ht : (pc : Int) + off = (t : Int)) (d : decode (mCod (Md m)) pc = .ok (.ifCond .lt off, 3)) : SM G Md D A l m pc (oZlt t) := by
  refine ⟨mo_oZlt t, fun ls st h Q k pp ee RR ss mm aa bb me cc0 HH lc lsC c0 s0 ce se C hR hC hS hl ho hcu hsu => ?_⟩
  obtain ⟨⟨hx, hb, hml, hown, hts⟩, hr, hlk, hnm, het, hRm, htr, hA, hG⟩ := id C
  unfold oZlt at k
  split at k
  · next a r =>
    replace ho := List.forall_mem_cons.mp ho
    obtain ⟨oa, ho⟩ := ho
    exact lv_if_lt hx hb d ht (fun q => k.1 ((z_lt oa z_0).mp q) pp ee RR ss mm aa bb me cc0 HH lc lsC c0 s0 ce se C hR hC hS hl ho hcu hsu) (fun q => k.2 (fun z => q ((z_lt oa z_0).mpr z)) pp ee RR ss mm aa bb me cc0 HH lc lsC c0 s0 ce se C hR hC hS hl ho hcu hsu)
  · exact k.elim
theorem sd_if_ge (m pc : Nat) (off : Int) (t : Nat) (ht : (pc : Int) + off = (t : Int)) (d : decode (mCod (Md m)) pc = .ok (.ifCond .ge off, 3)) : SM G Md D A l m pc (oZge t) := by
  refine ⟨mo_oZge t, fun ls st h Q k pp ee RR ss mm aa bb me cc0 HH lc lsC c0 s0 ce se C hR hC hS hl ho hcu hsu => ?_⟩
  obtain ⟨⟨hx, hb, hml, hown, hts⟩, hr, hlk, hnm, het, hRm, htr, hA, hG⟩ := id C
  unfold oZge at k
  split at k
  · next a r =>
    replace ho := List.forall_mem_cons.mp ho
    obtain ⟨oa, ho⟩ := ho
    exact lv_if_ge hx hb d ht (fun q => k.1 ((z_le z_0 oa).mp q) pp ee RR ss mm aa bb me cc0 HH lc lsC c0 s0 ce se C hR hC hS hl ho hcu hsu) (fun q => k.2 (fun z => q ((z_le z_0 oa).mpr z)) pp ee RR ss mm aa bb me cc0 HH lc lsC c0 s0 ce se C hR hC hS hl ho hcu hsu)
  · exact k.elim
theorem sd_if_gt (m pc : Nat) (off : Int) (t : Nat) (ht : (pc : Int) + off = (t : Int)) (d : decode (mCod (Md m)) pc = .ok (.ifCond .gt off, 3)) : SM G Md D A l m pc (oZgt t) := by
  refine ⟨mo_oZgt t, fun ls st h Q k pp ee RR ss mm aa bb me cc0 HH lc lsC c0 s0 ce se C hR hC hS hl ho hcu hsu => ?_⟩
  obtain ⟨⟨hx, hb, hml, hown, hts⟩, hr, hlk, hnm, het, hRm, htr, hA, hG⟩ := id C
  unfold oZgt at k
  split at k
  · next a r =>
    replace ho := List.forall_mem_cons.mp ho
    obtain ⟨oa, ho⟩ := ho
    exact lv_if_gt hx hb d ht (fun q => k.1 ((z_lt z_0 oa).mp q) pp ee RR ss mm aa bb me cc0 HH lc lsC c0 s0 ce se C hR hC hS hl ho hcu hsu) (fun q => k.2 (fun z => q ((z_lt z_0 oa).mpr z)) pp ee RR ss mm aa bb me cc0 HH lc lsC c0 s0 ce se C hR hC hS hl ho hcu hsu)
  · exact k.elim
theorem sd_if_le (m pc : Nat) (off : Int) (t : Nat) (ht : (pc : Int) + off = (t : Int)) (d : decode (mCod (Md m)) pc = .ok (.ifCond .le off, 3)) : SM G Md D A l m pc (oZle t) := by
  refine ⟨mo_oZle t, fun ls st h Q k pp ee RR ss mm aa bb me cc0 HH lc lsC c0 s0 ce se C hR hC hS hl ho hcu hsu => ?_⟩
  obtain ⟨⟨hx, hb, hml, hown, hts⟩, hr, hlk, hnm, het, hRm, htr, hA, hG⟩ := id C
  unfold oZle at k
  split at k
  · next a r =>
    replace ho := List.forall_mem_cons.mp ho
    obtain ⟨oa, ho⟩ := ho
    exact lv_if_le hx hb d ht (fun q => k.1 ((z_le oa z_0).mp q) pp ee RR ss mm aa bb me cc0 HH lc lsC c0 s0 ce se C hR hC hS hl ho hcu hsu) (fun q => k.2 (fun z => q ((z_le oa z_0).mpr z)) pp ee RR ss mm aa bb me cc0 HH lc lsC c0 s0 ce se C hR hC hS hl ho hcu hsu)
  · exact k.elim
theorem sd_icmp_eq (m pc : Nat) (off : Int) (t : Nat) (ht : (pc : Int) + off = (t : Int)) (d : decode (mCod (Md m)) pc = .ok (.if_icmp .eq off, 3)) : SM G Md D A l m pc (oCeq t) := by
  refine ⟨mo_oCeq t, fun ls st h Q k pp ee RR ss mm aa bb me cc0 HH lc lsC c0 s0 ce se C hR hC hS hl ho hcu hsu => ?_⟩
  obtain ⟨⟨hx, hb, hml, hown, hts⟩, hr, hlk, hnm, het, hRm, htr, hA, hG⟩ := id C
  unfold oCeq at k
  split at k
  · next b a r =>
    replace ho := List.forall_mem_cons.mp ho
    obtain ⟨ob, ho⟩ := ho
    replace ho := List.forall_mem_cons.mp ho
    obtain ⟨oa, ho⟩ := ho
    exact lv_icmp_eq hx hb d ht (fun q => k.1 ((z_eq oa ob).mp q) pp ee RR ss mm aa bb me cc0 HH lc lsC c0 s0 ce se C hR hC hS hl ho hcu hsu) (fun q => k.2 (fun z => q ((z_eq oa ob).mpr z)) pp ee RR ss mm aa bb me cc0 HH lc lsC c0 s0 ce se C hR hC hS hl ho hcu hsu)
  · exact k.elim
theorem sd_icmp_ne (m pc : Nat) (off : Int) (t : Nat) (ht : (pc : Int) + off = (t : Int)) (d : decode (mCod (Md m)) pc = .ok (.if_icmp .ne off, 3)) : SM G Md D A l m pc (oCne t) := by
  refine ⟨mo_oCne t, fun ls st h Q k pp ee RR ss mm aa bb me cc0 HH lc lsC c0 s0 ce se C hR hC hS hl ho hcu hsu => ?_⟩
  obtain ⟨⟨hx, hb, hml, hown, hts⟩, hr, hlk, hnm, het, hRm, htr, hA, hG⟩ := id C
  unfold oCne at k
  split at k
  · next b a r =>
    replace ho := List.forall_mem_cons.mp ho
    obtain ⟨ob, ho⟩ := ho
    replace ho := List.forall_mem_cons.mp ho
    obtain ⟨oa, ho⟩ := ho
    exact lv_icmp_ne hx hb d ht (fun q => k.2 (fun z => q ((z_eq oa ob).mpr z)) pp ee RR ss mm aa bb me cc0 HH lc lsC c0 s0 ce se C hR hC hS hl ho hcu hsu) (fun q => k.1 ((z_eq oa ob).mp q) pp ee RR ss mm aa bb me cc0 HH lc lsC c0 s0 ce se C hR hC hS hl ho hcu hsu)
  · exact k.elim
theorem sd_icmp_lt (m pc : Nat) (off : Int) (t : Nat) (ht : (pc : Int) + off = (t : Int)) (d : decode (mCod (Md m)) pc = .ok (.if_icmp .lt off, 3)) : SM G Md D A l m pc (oClt t) := by
  refine ⟨mo_oClt t, fun ls st h Q k pp ee RR ss mm aa bb me cc0 HH lc lsC c0 s0 ce se C hR hC hS hl ho hcu hsu => ?_⟩
  obtain ⟨⟨hx, hb, hml, hown, hts⟩, hr, hlk, hnm, het, hRm, htr, hA, hG⟩ := id C
  unfold oClt at k
  split at k
  · next b a r =>
    replace ho := List.forall_mem_cons.mp ho
    obtain ⟨ob, ho⟩ := ho
    replace ho := List.forall_mem_cons.mp ho
    obtain ⟨oa, ho⟩ := ho
    exact lv_icmp_lt hx hb d ht (fun q => k.1 ((z_lt oa ob).mp q) pp ee RR ss mm aa bb me cc0 HH lc lsC c0 s0 ce se C hR hC hS hl ho hcu hsu) (fun q => k.2 (fun z => q ((z_lt oa ob).mpr z)) pp ee RR ss mm aa bb me cc0 HH lc lsC c0 s0 ce se C hR hC hS hl ho hcu hsu)
  · exact k.elim
theorem sd_icmp_ge (m pc : Nat) (off : Int) (t : Nat) (ht : (pc : Int) + off = (t : Int)) (d : decode (mCod (Md m)) pc = .ok (.if_icmp .ge off, 3)) : SM G Md D A l m pc (oCge t) := by
  refine ⟨mo_oCge t, fun ls st h Q k pp ee RR ss mm aa bb me cc0 HH lc lsC c0 s0 ce se C hR hC hS hl ho hcu hsu => ?_⟩
  obtain ⟨⟨hx, hb, hml, hown, hts⟩, hr, hlk, hnm, het, hRm, htr, hA, hG⟩ := id C
  unfold oCge at k
  split at k
  · next b a r =>
    replace ho := List.forall_mem_cons.mp ho
    obtain ⟨ob, ho⟩ := ho
    replace ho := List.forall_mem_cons.mp ho
    obtain ⟨oa, ho⟩ := ho
    exact lv_icmp_ge hx hb d ht (fun q => k.1 ((z_le ob oa).mp q) pp ee RR ss mm aa bb me cc0 HH lc lsC c0 s0 ce se C hR hC hS hl ho hcu hsu) (fun q => k.2 (fun z => q ((z_le ob oa).mpr z)) pp ee RR ss mm aa bb me cc0 HH lc lsC c0 s0 ce se C hR hC hS hl ho hcu hsu)
  · exact k.elim
theorem sd_icmp_gt (m pc : Nat) (off : Int) (t : Nat) (ht : (pc : Int) + off = (t : Int)) (d : decode (mCod (Md m)) pc = .ok (.if_icmp .gt off, 3)) : SM G Md D A l m pc (oCgt t) := by
  refine ⟨mo_oCgt t, fun ls st h Q k pp ee RR ss mm aa bb me cc0 HH lc lsC c0 s0 ce se C hR hC hS hl ho hcu hsu => ?_⟩
  obtain ⟨⟨hx, hb, hml, hown, hts⟩, hr, hlk, hnm, het, hRm, htr, hA, hG⟩ := id C
  unfold oCgt at k
  split at k
  · next b a r =>
    replace ho := List.forall_mem_cons.mp ho
    obtain ⟨ob, ho⟩ := ho
    replace ho := List.forall_mem_cons.mp ho
    obtain ⟨oa, ho⟩ := ho
    exact lv_icmp_gt hx hb d ht (fun q => k.1 ((z_lt ob oa).mp q) pp ee RR ss mm aa bb me cc0 HH lc lsC c0 s0 ce se C hR hC hS hl ho hcu hsu) (fun q => k.2 (fun z => q ((z_lt ob oa).mpr z)) pp ee RR ss mm aa bb me cc0 HH lc lsC c0 s0 ce se C hR hC hS hl ho hcu hsu)
  · exact k.elim
theorem sd_icmp_le (m pc : Nat) (off : Int) (t : Nat) (ht : (pc : Int) + off = (t : Int)) (d : decode (mCod (Md m)) pc = .ok (.if_icmp .le off, 3)) : SM G Md D A l m pc (oCle t) := by
  refine ⟨mo_oCle t, fun ls st h Q k pp ee RR ss mm aa bb me cc0 HH lc lsC c0 s0 ce se C hR hC hS hl ho hcu hsu => ?_⟩
  obtain ⟨⟨hx, hb, hml, hown, hts⟩, hr, hlk, hnm, het, hRm, htr, hA, hG⟩ := id C
  unfold oCle at k
  split at k
  · next b a r =>
    replace ho := List.forall_mem_cons.mp ho
    obtain ⟨ob, ho⟩ := ho
    replace ho := List.forall_mem_cons.mp ho
    obtain ⟨oa, ho⟩ := ho
    exact lv_icmp_le hx hb d ht (fun q => k.1 ((z_le oa ob).mp q) pp ee RR ss mm aa bb me cc0 HH lc lsC c0 s0 ce se C hR hC hS hl ho hcu hsu) (fun q => k.2 (fun z => q ((z_le oa ob).mpr z)) pp ee RR ss mm aa bb me cc0 HH lc lsC c0 s0 ce se C hR hC hS hl ho hcu hsu)
  · exact k.elim
theorem sd_ifnull (m pc : Nat) (off : Int) (t : Nat) (ht : (pc : Int) + off = (t : Int)) (d : decode (mCod (Md m)) pc = .ok (.ifnull off, 3)) : SM G Md D A l m pc (oNul t) := by
  refine ⟨mo_oNul t, fun ls st h Q k pp ee RR ss mm aa bb me cc0 HH lc lsC c0 s0 ce se C hR hC hS hl ho hcu hsu => ?_⟩
  obtain ⟨⟨hx, hb, hml, hown, hts⟩, hr, hlk, hnm, het, hRm, htr, hA, hG⟩ := id C
  unfold oNul at k
  split at k
  · next a r =>
    replace ho := List.forall_mem_cons.mp ho
    obtain ⟨oa, ho⟩ := ho
    match a, k with
    | none, k => exact lv_ifnullN hx hb d ht (k.1 rfl pp ee RR ss mm aa bb me cc0 HH lc lsC c0 s0 ce se C hR hC hS hl ho hcu hsu)
    | some q, k => exact lv_ifnull hx hb d (k.2 (fun z => by cases z) pp ee RR ss mm aa bb me cc0 HH lc lsC c0 s0 ce se C hR hC hS hl ho hcu hsu)
  · exact k.elim
theorem sd_ifnonnull (m pc : Nat) (off : Int) (t : Nat) (ht : (pc : Int) + off = (t : Int)) (d : decode (mCod (Md m)) pc = .ok (.ifnonnull off, 3)) : SM G Md D A l m pc (oNNul t) := by
  refine ⟨mo_oNNul t, fun ls st h Q k pp ee RR ss mm aa bb me cc0 HH lc lsC c0 s0 ce se C hR hC hS hl ho hcu hsu => ?_⟩
  obtain ⟨⟨hx, hb, hml, hown, hts⟩, hr, hlk, hnm, het, hRm, htr, hA, hG⟩ := id C
  unfold oNNul at k
  split at k
  · next a r =>
    replace ho := List.forall_mem_cons.mp ho
    obtain ⟨oa, ho⟩ := ho
    match a, k with
    | none, k => exact lv_ifnonnullN hx hb d (k.1 rfl pp ee RR ss mm aa bb me cc0 HH lc lsC c0 s0 ce se C hR hC hS hl ho hcu hsu)
    | some q, k => exact lv_ifnonnull hx hb d ht (k.2 (fun z => by cases z) pp ee RR ss mm aa bb me cc0 HH lc lsC c0 s0 ce se C hR hC hS hl ho hcu hsu)
  · exact k.elim
theorem sd_goto (m pc : Nat) (off : Int) (t : Nat) (ht : (pc : Int) + off = (t : Int)) (d : decode (mCod (Md m)) pc = .ok (.goto off, 3)) : SM G Md D A l m pc (oGoto t) := by
  refine ⟨mo_oGoto t, fun ls st h Q k pp ee RR ss mm aa bb me cc0 HH lc lsC c0 s0 ce se C hR hC hS hl ho hcu hsu => ?_⟩
  obtain ⟨⟨hx, hb, hml, hown, hts⟩, hr, hlk, hnm, het, hRm, htr, hA, hG⟩ := id C
  unfold oGoto at k
  exact lv_goto hx hb d ht (k pp ee RR ss mm aa bb me cc0 HH lc lsC c0 s0 ce se C hR hC hS hl ho hcu hsu)
theorem swA_at {X : Nat → Prop} {x : Int} : ∀ (ts : List Nat) (lo : Int), swA X x lo ts → lo ≤ x → x < lo + ts.length → ∃ t, ts[(x - lo).toNat]? = some t ∧ X t
  | [], lo, _, h1, h2 => by simp at h2; omega
  | t :: r, lo, h, h1, h2 => by
    by_cases e : x = lo
    · exact ⟨t, by rw [e]; simp, h.1 e⟩
    · obtain ⟨t2, a, b⟩ := swA_at r (lo + 1) h.2 (by omega) (by simp at h2; omega)
      refine ⟨t2, ?_, b⟩
      rw [show (x - lo).toNat = (x - (lo + 1)).toNat + 1 by omega, List.getElem?_cons_succ]
      exact a
theorem sd_tableswitch (m pc : Nat) (dflt lo hi : Int) (offs : Array Int) (len : Nat) (ts : List Nat) (t : Nat) (ht : (pc : Int) + dflt = (t : Int)) (hhi : lo + ts.length = hi + 1) (hts2 : offs.toList.map (fun o => (pc : Int) + o) = ts.map (fun (x : Nat) => (x : Int))) (d : decode (mCod (Md m)) pc = .ok (.tableswitch dflt lo hi offs, len)) : SM G Md D A l m pc (oSw lo ts t) := by
  refine ⟨mo_oSw lo ts t, fun ls st h Q k pp ee RR ss mm aa bb me cc0 HH lc lsC c0 s0 ce se C hR hC hS hl ho hcu hsu => ?_⟩
  obtain ⟨⟨hx, hb, hml, hown, hts⟩, hr, hlk, hnm, het, hRm, htr, hA, hG⟩ := id C
  unfold oSw at k
  split at k
  · next x r =>
    replace ho := List.forall_mem_cons.mp ho
    obtain ⟨ox, ho⟩ := ho
    have e := z_ofI ox
    by_cases q : x < lo ∨ lo + ts.length ≤ x
    · exact lv_tableOut hx hb d (by rw [e]; omega) ht (k.1 q pp ee RR ss mm aa bb me cc0 HH lc lsC c0 s0 ce se C hR hC hS hl ho hcu hsu)
    · obtain ⟨t2, a, b⟩ := swA_at ts lo k.2 (by omega) (by omega)
      have a2 : (ts.map (fun (x : Nat) => (x : Int)))[(x - lo).toNat]? = some (t2 : Int) := by rw [List.getElem?_map, a]; rfl
      rw [← hts2, List.getElem?_map] at a2
      cases e3 : offs.toList[(x - lo).toNat]? with
      | none => rw [e3] at a2; cases a2
      | some o9 =>
        rw [e3] at a2
        exact lv_tableIn hx hb d (by rw [e]; omega) (by rw [e]; omega) (off := o9) (by rw [e, ← Array.getElem?_toList]; exact e3) (Option.some.inj a2) (b pp ee RR ss mm aa bb me cc0 HH lc lsC c0 s0 ce se C hR hC hS hl ho hcu hsu)
  · exact k.elim
theorem z_i32x (v : Int32) : Int32.ofInt v.toInt = v ∧ inR v.toInt := ⟨Int32.ofInt_toInt v, ⟨Int32.le_toInt v, by have := Int32.toInt_lt v; omega⟩⟩
theorem sd_hmul (m pc : Nat)  (d : decode (mCod (Md m)) pc = .ok (.imul, 1)) : SM G Md D A l m pc oHav := by
  refine ⟨mo_oHav, fun ls st h Q k pp ee RR ss mm aa bb me cc0 HH lc lsC c0 s0 ce se C hR hC hS hl ho hcu hsu => ?_⟩
  obtain ⟨⟨hx, hb, hml, hown, hts⟩, hr, hlk, hnm, het, hRm, htr, hA, hG⟩ := id C
  unfold oHav at k
  split at k
  · next b a r =>
    replace ho := List.forall_mem_cons.mp (List.forall_mem_cons.mp ho).2
    refine lv_imul hx hb d ?_
    obtain ⟨e1, e2⟩ := z_i32x (Int32.ofInt a * Int32.ofInt b)
    rw [← e1]
    exact k _ e2 pp ee RR ss mm aa bb me cc0 HH lc lsC c0 s0 ce se C hR hC hS hl (List.forall_mem_cons.mpr ⟨e2, ho.2⟩) hcu hsu
  · exact k.elim
theorem sd_hadd (m pc : Nat)  (d : decode (mCod (Md m)) pc = .ok (.iadd, 1)) : SM G Md D A l m pc oHav := by
  refine ⟨mo_oHav, fun ls st h Q k pp ee RR ss mm aa bb me cc0 HH lc lsC c0 s0 ce se C hR hC hS hl ho hcu hsu => ?_⟩
  obtain ⟨⟨hx, hb, hml, hown, hts⟩, hr, hlk, hnm, het, hRm, htr, hA, hG⟩ := id C
  unfold oHav at k
  split at k
  · next b a r =>
    replace ho := List.forall_mem_cons.mp (List.forall_mem_cons.mp ho).2
    refine lv_iadd hx hb d ?_
    obtain ⟨e1, e2⟩ := z_i32x (Int32.ofInt a + Int32.ofInt b)
    rw [← e1]
    exact k _ e2 pp ee RR ss mm aa bb me cc0 HH lc lsC c0 s0 ce se C hR hC hS hl (List.forall_mem_cons.mpr ⟨e2, ho.2⟩) hcu hsu
  · exact k.elim
theorem sd_hshr (m pc : Nat)  (d : decode (mCod (Md m)) pc = .ok (.ishr, 1)) : SM G Md D A l m pc oHav := by
  refine ⟨mo_oHav, fun ls st h Q k pp ee RR ss mm aa bb me cc0 HH lc lsC c0 s0 ce se C hR hC hS hl ho hcu hsu => ?_⟩
  obtain ⟨⟨hx, hb, hml, hown, hts⟩, hr, hlk, hnm, het, hRm, htr, hA, hG⟩ := id C
  unfold oHav at k
  split at k
  · next b a r =>
    replace ho := List.forall_mem_cons.mp (List.forall_mem_cons.mp ho).2
    refine lv_ishr hx hb d ?_
    obtain ⟨e1, e2⟩ := z_i32x (Int32.ofInt a >>> (Int32.ofInt b &&& 31))
    rw [← e1]
    exact k _ e2 pp ee RR ss mm aa bb me cc0 HH lc lsC c0 s0 ce se C hR hC hS hl (List.forall_mem_cons.mpr ⟨e2, ho.2⟩) hcu hsu
  · exact k.elim
theorem z_msk (v : Int32) : 0 ≤ (v &&& Int32.ofInt 2147483647).toInt := by
  have h : ¬ (v &&& Int32.ofInt 2147483647) < 0 := by
    have e : ∀ b : BitVec 32, ¬ (b &&& 2147483647#32).slt 0#32 := by
      intro b
      have h1 : (2147483647#32).msb = false := by decide
      have h2 : (b &&& 2147483647#32).msb = false := by rw [BitVec.msb_and, h1, Bool.and_false]
      have h3 : 0 ≤ (b &&& 2147483647#32).toInt := by
        rw [BitVec.toInt_eq_msb_cond, h2]
        exact Int.natCast_nonneg _
      intro q
      have q2 := of_decide_eq_true q
      have q3 : (0#32 : BitVec 32).toInt = 0 := by decide
      rw [q3] at q2
      omega
    exact fun q => e v.toBitVec q
  have := Int32.not_lt.mp h
  simpa using Int32.le_iff_toInt_le.mp this
theorem sd_msk (m pc : Nat)  (d : decode (mCod (Md m)) pc = .ok (.iand, 1)) : SM G Md D A l m pc oMsk := by
  refine ⟨mo_oMsk, fun ls st h Q k pp ee RR ss mm aa bb me cc0 HH lc lsC c0 s0 ce se C hR hC hS hl ho hcu hsu => ?_⟩
  obtain ⟨⟨hx, hb, hml, hown, hts⟩, hr, hlk, hnm, het, hRm, htr, hA, hG⟩ := id C
  unfold oMsk at k
  split at k
  · next b a r =>
    replace ho := List.forall_mem_cons.mp (List.forall_mem_cons.mp ho).2
    obtain ⟨rfl, k⟩ := k
    refine lv_iand hx hb d ?_
    obtain ⟨e1, e2⟩ := z_i32x (Int32.ofInt a &&& Int32.ofInt 2147483647)
    have e3 := z_msk (Int32.ofInt a)
    rw [← e1]
    exact k _ e3 e2.2 pp ee RR ss mm aa bb me cc0 HH lc lsC c0 s0 ce se C hR hC hS hl (List.forall_mem_cons.mpr ⟨e2, ho.2⟩) hcu hsu
  · exact k.elim
theorem sd_ldc (m pc : Nat) (ix : Nat) (v : Int) (hv : inR v) (hw : Cond.constant (mOwn (Md m)) ix (Int32.ofInt v) ∈ mWs (Md m)) (d : decode (mCod (Md m)) pc = .ok (.ldc ix, 2)) : SM G Md D A l m pc (oCI v 2) := by
  refine ⟨mo_oCI v 2, fun ls st h Q k pp ee RR ss mm aa bb me cc0 HH lc lsC c0 s0 ce se C hR hC hS hl ho hcu hsu => ?_⟩
  obtain ⟨⟨hx, hb, hml, hown, hts⟩, hr, hlk, hnm, het, hRm, htr, hA, hG⟩ := id C
  unfold oCI at k
  exact lv_ldc hx hb hown (hts _ hw) d (k pp ee RR ss mm aa bb me cc0 HH lc lsC c0 s0 ce se C hR hC hS hl (List.forall_mem_cons.mpr ⟨hv, ho⟩) hcu hsu)
end SD1
end
section
/-! SOUNDNESS of the instructions that read and write the memory -/
/-! arrays of int arrays: the rows that the kit's text has for objects -/
theorem z_asg (vm : Vm) (c : ClassId) : vm.assignable c c = true := Vm.assignable_self vm c
section SDA
variable {p : Program} {l : Launch} {e : Env} {R : Room} {s : State} {m : MethodId} {args : Array Value} {below : List Frame} {meth : Method} {c : Code} {H : Heap} {locs : List Loc} {cells slots : Nat} {Q : State → Prop}
variable {cc : ByteArray} {pc : Nat} {ls : Array Slot} {rest : List Value} {D : va_G} {cl : List vw_C} {A : Nat → Prop} {a : Nat} {tys : List (ClassId × FieldType)} {ws : va_W} {H0 : Heap}
theorem va_aldA {et : FieldType} (hexec : p.tables.exec = Jvm.exec) (hb : c.code = cc) (hK : va_K D cl tys s) (hP : va_P D cl ws H) (q0 t0 : Nat) {cA : ClassId} {n : Nat} {f : Nat → Option Nat} (ha : ws[q0]? = some (a, .inl (cA, n, .inr (.inr (.inr (.inr f)))))) (ht : tys[t0]? = some (cA, .array et)) {i : Int32} (hin : vp_in i n) (hdg : decode cc pc = .ok (.aaload, 1))
    (kk : W p l e R s m args below meth c H locs cells slots Q (F0 m (pc + 1) ls (va_rf (f i.toNatClampNeg) :: rest))) : W p l e R s m args below meth c H locs cells slots Q (F0 m pc ls (.int i :: .ref a :: rest)) := by
  have hlt : i.toNatClampNeg < n := Nat.not_le.mp fun q => hin (Or.inr q)
  exact W.aald (v := va_rf (f i.toNatClampNeg)) (ty := .array et) hexec hb (hP q0 _ ha) ((hK.2 t0 _ ht).1 n (fun j => va_rf (f j))) rfl (fun q => by cases q) (by show ¬ (i < 0 ∨ (arrV _ _ _).slots.size ≤ _); rw [arrV_size]; exact hin) (by show (arrV _ _ _).slots[_]? = _; rw [arrV_read _ _ hlt]) rfl rfl hdg kk
theorem va_astA {et : FieldType} (het : ∀ (k : Nat) (q : ClassId × FieldType), tys[k]? = some q → q.2 = et → s.vm.findClass ("[" ++ et.toString) = some q.1) (hover : va_AOA et s) (hexec : p.tables.exec = Jvm.exec) (hb : c.code = cc) (hK : va_K D cl tys s) (hP : va_P D cl ws H) (hD : va_D A ws) (hS : va_S A H0 H locs) (q0 t0 qk tV : Nat) {cA cV : ClassId} {n v : Nat} {vv : vp_A} {f : Nat → Option Nat} (ha : ws[q0]? = some (a, .inl (cA, n, .inr (.inr (.inr (.inr f)))))) (ht : tys[t0]? = some (cA, .array et)) (hv : ws[qk]? = some (v, .inl (cV, vv))) (htV : tys[tV]? = some (cV, et)) {i : Int32} (hin : vp_in i n) (hdg : decode cc pc = .ok (.aastore, 1))
    (kk : ∀ (H1 : Heap) (locs1 : List Loc), va_P D cl (ws.set q0 (a, .inl (cA, n, .inr (.inr (.inr (.inr (va_up f i.toNatClampNeg (some v)))))))) H1 → va_D A (ws.set q0 (a, .inl (cA, n, .inr (.inr (.inr (.inr (va_up f i.toNatClampNeg (some v)))))))) → va_S A H0 H1 locs1 → W p l e R s m args below meth c H1 locs1 cells slots Q (F0 m (pc + 1) ls rest)) : W p l e R s m args below meth c H locs cells slots Q (F0 m pc ls (.ref v :: .int i :: .ref a :: rest)) := by
  have hlt : i.toNatClampNeg < n := Nat.not_le.mp fun q => hin (Or.inr q)
  have h0 : ¬ i < 0 := fun q => hin (Or.inl q)
  obtain ⟨comp, c2, kA, f1, -, f3, f4, f5⟩ := arrayOverA_spec hover
  have hcA : s.vm.findClass ("[" ++ (FieldType.array et).toString) = some cA := (hK.2 t0 _ ht).2
  have hcV : s.vm.findClass ("[" ++ et.toString) = some cV := het tV _ htV rfl
  cases Option.some.inj (f5.symm.trans hcA)
  have f1b : s.vm.findClass ("[" ++ et.toString) = some comp := f1
  cases Option.some.inj (f1b.symm.trans hcV)
  obtain ⟨kV, hkV, -⟩ := Vm.findClass_spec hcV
  have hcell : H[v]? = some (vp_cell cV vv) := hP qk _ hv
  have hcls : (vp_cell cV vv).cls = cV ∧ (vp_cell cV vv).vm = .none := by
    obtain ⟨n2, g | g | g | g | g⟩ := vv <;> exact ⟨rfl, rfl⟩
  refine W.aast hexec hb (hP q0 _ ha) (fun q h => by cases h) (fun h => by cases h) f3 f4 rfl hkV ⟨h0, by show _ < (arrV _ _ _).slots.size; rw [arrV_size]; exact hlt⟩ hcell (fun q h => by rw [hcls.2] at h; cases h) (by rw [hcls.1]; exact hkV) (by rw [hcls.1]; exact z_asg _ _) rfl rfl hdg fun H1 e z oq => ?_
  refine kk H1 _ (hP.set hD ha ?_ oq) (hD.set ha) (hS.put z oq (hD.2 q0 _ ha))
  show H1[a]? = some (vp_cell _ _)
  rw [e]
  rw [vp_cell_q, vp_cell_q, arrV_store]
  congr 2
  funext q
  by_cases hq : q = i.toNatClampNeg
  · subst hq
    simp [updV, va_up, va_rf]
  · simp [updV, va_up, hq]
end SDA
theorem akE_n (h : Zh) (a c : Nat) : (akE h a c).1 = (gL h a).toNat := by unfold akE; split <;> rfl
theorem isE_congr {h g : Zh} {tys : List (ClassId × FieldType)} {b : Nat} {e : va_E} (h1 : gK g b = gK h b) (h2 : gL g b = gL h b) (h3 : ∀ i, gI g b i = gI h b i) (h4 : ∀ i, gR g b i = gR h b i) (h5 : ∀ i, gJ g b i = gJ h b i) (k : isE h tys b e) : isE g tys b e := by
  have e1 : ∀ c, encF g b c = encF h b c := fun c => by unfold encF; simp only [h3, h4]
  have e2 : ∀ c, akE g b c = akE h b c := fun c => by unfold akE; simp only [h2, h3, h4, h5]
  unfold isE at k ⊢
  rw [h1]
  simp only [e1, e2]
  exact k
theorem inW_set {h g : Zh} {tys : List (ClassId × FieldType)} {ws : va_W} {q0 a : Nat} {e0 e1 : va_E} (hI : inW h tys ws) (he : ws[q0]? = some (a, e0)) (hk : ∀ b, gK g b = gK h b) (hl : ∀ b, gL g b = gL h b) (h3 : ∀ b, b ≠ a → ∀ i, gI g b i = gI h b i) (h4 : ∀ b, b ≠ a → ∀ i, gR g b i = gR h b i) (h5 : ∀ b, b ≠ a → ∀ i, gJ g b i = gJ h b i) (hE : isE g tys a e1) : inW g tys (ws.set q0 (a, e1)) := by
  intro b hb0 hb1
  rw [hk] at hb0 hb1
  have hq : q0 < ws.length := (List.getElem?_eq_some_iff.mp he).1
  by_cases q : b = a
  · subst q
    exact ⟨q0, e1, by rw [List.getElem?_set_self hq], hE⟩
  · obtain ⟨k, e, hk1, hk2⟩ := hI b hb0 hb1
    have n : q0 ≠ k := fun z => by rw [← z, he] at hk1; cases hk1; exact q rfl
    exact ⟨k, e, by rw [List.getElem?_set_ne n]; exact hk1, isE_congr (hk b) (hl b) (h3 b q) (h4 b q) (h5 b q) hk2⟩
theorem SC.congr {A : Nat → Prop} {h g : Zh} {s : State} (k : SC A h s) (h1 : ∀ b, gK g b = 15 → gK h b = 15 ∧ gL g b = gL h b ∧ ∀ i, gI g b i = gI h b i) : SC A g s := by
  intro a ha
  obtain ⟨e1, e2, e3⟩ := h1 a ha
  have z := k a e1
  rw [e2, show (fun j : Nat => Int32.ofInt (gI g a j)) = (fun j : Nat => Int32.ofInt (gI h a j)) from funext fun j => by rw [e3]]
  exact z
theorem encF_at (h : Zh) (a c k : Nat) (hk : k < nF c) : (encF h a c)[k]? = some (if fR c k = true then va_rf (gR h a k) else Value.int (Int32.ofInt (gI h a k))) := by
  unfold encF
  rw [List.getElem?_map, List.getElem?_range hk]
  rfl
theorem encF_len (h : Zh) (a c : Nat) : (encF h a c).length = nF c := by unfold encF; rw [List.length_map, List.length_range]
theorem encF_pI {h : Zh} {a c k : Nat} {x : Int} (hk : k < nF c) (hf : fR c k = false) : encF (pI h a k x) a c = (encF h a c).set k (.int (Int32.ofInt x)) := by
  apply List.ext_getElem?
  intro j
  by_cases hj : j < nF c
  · rw [encF_at _ _ _ _ hj]
    by_cases q : k = j
    · subst q
      rw [List.getElem?_set_self (by rw [encF_len]; exact hj), hf]
      simp [gI_pI]
    · rw [List.getElem?_set_ne q, encF_at _ _ _ _ hj, gI_pI, gR_pI, if_neg (show ¬ (a = a ∧ ((j : Nat) : Int) = ((k : Nat) : Int)) from fun z => q (by have := z.2; omega))]
  · rw [List.getElem?_eq_none (by rw [encF_len]; omega), List.getElem?_eq_none (by rw [List.length_set, encF_len]; omega)]
theorem encF_pR {h : Zh} {a c k : Nat} {x : Option Nat} (hk : k < nF c) (hf : fR c k = true) : encF (pR h a k x) a c = (encF h a c).set k (va_rf x) := by
  apply List.ext_getElem?
  intro j
  by_cases hj : j < nF c
  · rw [encF_at _ _ _ _ hj]
    by_cases q : k = j
    · subst q
      rw [List.getElem?_set_self (by rw [encF_len]; exact hj), hf]
      simp [gR_pR]
    · rw [List.getElem?_set_ne q, encF_at _ _ _ _ hj, gI_pR, gR_pR, if_neg (show ¬ (a = a ∧ ((j : Nat) : Int) = ((k : Nat) : Int)) from fun z => q (by have := z.2; omega))]
  · rw [List.getElem?_eq_none (by rw [encF_len]; omega), List.getElem?_eq_none (by rw [List.length_set, encF_len]; omega)]
theorem okh_pI {h : Zh} {a : Nat} {k x : Int} (ho : okh h) (hx : inR x) : okh (pI h a k x) := ⟨fun b i => by rw [gI_pI]; split; exact hx; exact ho.1 b i, ho.2.1, ho.2.2⟩
theorem okh_pR {h : Zh} {a : Nat} {k : Int} {x : Option Nat} (ho : okh h) : okh (pR h a k x) := ⟨fun b i => by rw [gI_pR]; exact ho.1 b i, ho.2.1, ho.2.2⟩
theorem okh_pJ {h : Zh} {a : Nat} {k : Int} {x : Int64} (ho : okh h) : okh (pJ h a k x) := ⟨fun b i => by rw [gI_pJ]; exact ho.1 b i, ho.2.1, ho.2.2⟩
theorem SC_pI {A : Nat → Prop} {h : Zh} {a : Nat} {k x : Int} {s : State} (hC : SC A h s) (ha : gK h a ≠ 15) : SC A (pI h a k x) s := hC.congr fun b hb => ⟨hb, rfl, fun i => by rw [gI_pI, if_neg (fun z => ha (by rw [← z.1]; exact hb))]⟩
theorem SC_pR {A : Nat → Prop} {h : Zh} {a : Nat} {k : Int} {x : Option Nat} {s : State} (hC : SC A h s) : SC A (pR h a k x) s := hC.congr fun b hb => ⟨hb, rfl, fun i => rfl⟩
theorem SC_pJ {A : Nat → Prop} {h : Zh} {a : Nat} {k : Int} {x : Int64} {s : State} (hC : SC A h s) : SC A (pJ h a k x) s := hC.congr fun b hb => ⟨hb, rfl, fun i => rfl⟩
theorem isE_arr {h : Zh} {tys : List (ClassId × FieldType)} {a : Nat} {e : va_E} {c : Nat} (k : isE h tys a e) (hc : gK h a = c) (h10 : 10 ≤ c) : ∃ (cA : ClassId) (t : Nat), e = .inl (cA, akE h a c) ∧ tys[t]? = some (cA, akT c) := by
  subst hc
  exact k.2 h10
theorem isE_obj {h : Zh} {tys : List (ClassId × FieldType)} {a : Nat} {e : va_E} {c : Nat} (k : isE h tys a e) (hc : gK h a = c) (h7 : c ≤ 7) : e = .inr (c - 1, encF h a c) := by
  subst hc
  exact k.1 h7
theorem isE_mkA {h : Zh} {tys : List (ClassId × FieldType)} {a : Nat} {e : va_E} {c : Nat} (hc : gK h a = c) (h10 : 10 ≤ c) (cA : ClassId) (t : Nat) (h1 : e = .inl (cA, akE h a c)) (h2 : tys[t]? = some (cA, akT c)) : isE h tys a e := by
  subst hc
  exact ⟨fun z => by omega, fun _ => ⟨cA, t, h1, h2⟩⟩
theorem isE_mkO {h : Zh} {tys : List (ClassId × FieldType)} {a : Nat} {e : va_E} {c : Nat} (hc : gK h a = c) (h7 : c ≤ 7) (h1 : e = .inr (c - 1, encF h a c)) : isE h tys a e := by
  subst hc
  exact ⟨fun _ => h1, fun z => by omega⟩
section SD2
variable {G : GwT} {Md : Nat → MdT} {D : va_G} {A : Nat → Prop} {l : Launch}
theorem sd_oGetI (m pc : Nat) (c fk ix : Nat) (C : String) (T : u_T) (N : Nat) (hcl : vwCl[c - 1]? = some (C, T, N)) (hc : 1 ≤ c ∧ c ≤ 7) (hN : nF c = N) (hfk : fk < N) (hT : (T fk).1 = C) (hin : ∀ w ∈ u_ws C T N, w ∈ mWs (Md m)) (hf : fR c fk = false) (hw : Cond.fieldLink (mOwn (Md m)) ix C (T fk).2.1 (T fk).2.2.1 ∈ mWs (Md m)) (d : decode (mCod (Md m)) pc = .ok (.getfield ix, 3)) : SM G Md D A l m pc (oGetI c fk) := by
  refine ⟨mo_oGetI c fk, fun ls st h Q k pp ee RR ss mm aa bb me cc0 HH lc lsC c0 s0 ce se C0 hR hC hS hl ho hcu hsu => ?_⟩
  obtain ⟨⟨hx, hb, hml, hown, hts⟩, hr, hlk, hnm, het, hRm, htr, hA, hG⟩ := id C0
  unfold oGetI at k
  split at k
  · next r t =>
    obtain ⟨⟨a, rfl, ha⟩, k⟩ := k
    replace ho := List.forall_mem_cons.mp ho
    obtain ⟨-, ho⟩ := ho
    obtain ⟨hok, ws, tys, hP, hD, hKK, hI⟩ := id hR
    obtain ⟨q0, e, he, hE⟩ := hI a (by omega) (by omega)
    have he2 := isE_obj hE ha hc.2
    subst he2
    have hv := encF_at h a c fk (by omega)
    rw [hf] at hv
    exact va_get hx hb hts hin hown hKK hP q0 he hcl fk hfk (hts _ hw) (fun _ z => by rw [hT] at z; exact z) hv d (k pp ee RR ss mm aa bb me cc0 HH lc lsC c0 s0 ce se C0 hR hC hS hl (List.forall_mem_cons.mpr ⟨hok.1 a fk, ho⟩) hcu hsu)
  · exact k.elim
theorem sd_oGetIN (m pc : Nat) (c fk ix : Nat) (C : String) (T : u_T) (N : Nat) (hcl : vwCl[c - 1]? = some (C, T, N)) (hc : 1 ≤ c ∧ c ≤ 7) (hN : nF c = N) (hfk : fk < N) (hT : (T fk).1 = C) (hin : ∀ w ∈ u_ws C T N, w ∈ mWs (Md m)) (hf : fR c fk = false) (host : String) (hw : (mOwn (Md m), ix, C, (T fk).2.1, (T fk).2.2.1, host) ∈ G.2.2.2.1) (d : decode (mCod (Md m)) pc = .ok (.getfield ix, 3)) : SM G Md D A l m pc (oGetI c fk) := by
  refine ⟨mo_oGetI c fk, fun ls st h Q k pp ee RR ss mm aa bb me cc0 HH lc lsC c0 s0 ce se C0 hR hC hS hl ho hcu hsu => ?_⟩
  obtain ⟨⟨hx, hb, hml, hown, hts⟩, hr, hlk, hnm, het, hRm, htr, hA, hG⟩ := id C0
  unfold oGetI at k
  split at k
  · next r t =>
    obtain ⟨⟨a, rfl, ha⟩, k⟩ := k
    replace ho := List.forall_mem_cons.mp ho
    obtain ⟨-, ho⟩ := ho
    obtain ⟨hok, ws, tys, hP, hD, hKK, hI⟩ := id hR
    obtain ⟨q0, e, he, hE⟩ := hI a (by omega) (by omega)
    have he2 := isE_obj hE ha hc.2
    subst he2
    have hv := encF_at h a c fk (by omega)
    rw [hf] at hv
    exact va_getN hx hb hts hin hown hKK hP q0 he hcl fk hfk (va_Nw.use rfl (hG.2.2.2.2.2.1 _ hw)) (fun _ z => by rw [hT] at z; exact z) hv d (k pp ee RR ss mm aa bb me cc0 HH lc lsC c0 s0 ce se C0 hR hC hS hl (List.forall_mem_cons.mpr ⟨hok.1 a fk, ho⟩) hcu hsu)
  · exact k.elim
theorem sd_oGetR (m pc : Nat) (c fk ix : Nat) (C : String) (T : u_T) (N : Nat) (hcl : vwCl[c - 1]? = some (C, T, N)) (hc : 1 ≤ c ∧ c ≤ 7) (hN : nF c = N) (hfk : fk < N) (hT : (T fk).1 = C) (hin : ∀ w ∈ u_ws C T N, w ∈ mWs (Md m)) (hf : fR c fk = true) (hw : Cond.fieldLink (mOwn (Md m)) ix C (T fk).2.1 (T fk).2.2.1 ∈ mWs (Md m)) (d : decode (mCod (Md m)) pc = .ok (.getfield ix, 3)) : SM G Md D A l m pc (oGetR c fk) := by
  refine ⟨mo_oGetR c fk, fun ls st h Q k pp ee RR ss mm aa bb me cc0 HH lc lsC c0 s0 ce se C0 hR hC hS hl ho hcu hsu => ?_⟩
  obtain ⟨⟨hx, hb, hml, hown, hts⟩, hr, hlk, hnm, het, hRm, htr, hA, hG⟩ := id C0
  unfold oGetR at k
  split at k
  · next r t =>
    obtain ⟨⟨a, rfl, ha⟩, k⟩ := k
    replace ho := List.forall_mem_cons.mp ho
    obtain ⟨-, ho⟩ := ho
    obtain ⟨hok, ws, tys, hP, hD, hKK, hI⟩ := id hR
    obtain ⟨q0, e, he, hE⟩ := hI a (by omega) (by omega)
    have he2 := isE_obj hE ha hc.2
    subst he2
    have hv := encF_at h a c fk (by omega)
    rw [hf] at hv
    exact va_get hx hb hts hin hown hKK hP q0 he hcl fk hfk (hts _ hw) (fun _ z => by rw [hT] at z; exact z) hv d (k pp ee RR ss mm aa bb me cc0 HH lc lsC c0 s0 ce se C0 hR hC hS hl (List.forall_mem_cons.mpr ⟨trivial, ho⟩) hcu hsu)
  · exact k.elim
theorem sd_oGetRN (m pc : Nat) (c fk ix : Nat) (C : String) (T : u_T) (N : Nat) (hcl : vwCl[c - 1]? = some (C, T, N)) (hc : 1 ≤ c ∧ c ≤ 7) (hN : nF c = N) (hfk : fk < N) (hT : (T fk).1 = C) (hin : ∀ w ∈ u_ws C T N, w ∈ mWs (Md m)) (hf : fR c fk = true) (host : String) (hw : (mOwn (Md m), ix, C, (T fk).2.1, (T fk).2.2.1, host) ∈ G.2.2.2.1) (d : decode (mCod (Md m)) pc = .ok (.getfield ix, 3)) : SM G Md D A l m pc (oGetR c fk) := by
  refine ⟨mo_oGetR c fk, fun ls st h Q k pp ee RR ss mm aa bb me cc0 HH lc lsC c0 s0 ce se C0 hR hC hS hl ho hcu hsu => ?_⟩
  obtain ⟨⟨hx, hb, hml, hown, hts⟩, hr, hlk, hnm, het, hRm, htr, hA, hG⟩ := id C0
  unfold oGetR at k
  split at k
  · next r t =>
    obtain ⟨⟨a, rfl, ha⟩, k⟩ := k
    replace ho := List.forall_mem_cons.mp ho
    obtain ⟨-, ho⟩ := ho
    obtain ⟨hok, ws, tys, hP, hD, hKK, hI⟩ := id hR
    obtain ⟨q0, e, he, hE⟩ := hI a (by omega) (by omega)
    have he2 := isE_obj hE ha hc.2
    subst he2
    have hv := encF_at h a c fk (by omega)
    rw [hf] at hv
    exact va_getN hx hb hts hin hown hKK hP q0 he hcl fk hfk (va_Nw.use rfl (hG.2.2.2.2.2.1 _ hw)) (fun _ z => by rw [hT] at z; exact z) hv d (k pp ee RR ss mm aa bb me cc0 HH lc lsC c0 s0 ce se C0 hR hC hS hl (List.forall_mem_cons.mpr ⟨trivial, ho⟩) hcu hsu)
  · exact k.elim
theorem sd_oPutI (m pc : Nat) (c fk ix : Nat) (C : String) (T : u_T) (N : Nat) (hcl : vwCl[c - 1]? = some (C, T, N)) (hc : 1 ≤ c ∧ c ≤ 7) (hN : nF c = N) (hfk : fk < N) (hT : (T fk).1 = C) (hin : ∀ w ∈ u_ws C T N, w ∈ mWs (Md m)) (hf : fR c fk = false) (ty0 : Nat → FieldType) (hty : ∀ k, k < N → parseFieldDescriptor (T k).2.2.1 = some (ty0 k)) (hnm2 : ∀ a, a < N → ∀ b, b < N → a ≠ b → (T a).2.1 ≠ (T b).2.1) (htk : ty0 fk = .int) (hfin : (T fk).2.2.2 = false) (hw : Cond.fieldLink (mOwn (Md m)) ix C (T fk).2.1 (T fk).2.2.1 ∈ mWs (Md m)) (d : decode (mCod (Md m)) pc = .ok (.putfield ix, 3)) : SM G Md D A l m pc (oPutI c fk) := by
  refine ⟨mo_oPutI c fk, fun ls st h Q k pp ee RR ss mm aa bb me cc0 HH lc lsC c0 s0 ce se C0 hR hC hS hl ho hcu hsu => ?_⟩
  obtain ⟨⟨hx, hb, hml, hown, hts⟩, hr, hlk, hnm, het, hRm, htr, hA, hG⟩ := id C0
  unfold oPutI at k
  split at k
  · next x r t =>
    obtain ⟨⟨a, rfl, ha⟩, k⟩ := k
    replace ho := List.forall_mem_cons.mp ho
    obtain ⟨ox, ho⟩ := ho
    replace ho := List.forall_mem_cons.mp ho
    obtain ⟨-, ho⟩ := ho
    obtain ⟨hok, ws, tys, hP, hD, hKK, hI⟩ := id hR
    obtain ⟨q0, e, he, hE⟩ := hI a (by omega) (by omega)
    have he2 := isE_obj hE ha hc.2
    subst he2
    refine va_put hx hb hts hin ty0 hty hnm2 hown hKK hP hD hS q0 he hcl fk hfk (hts _ hw) (fun _ z => by rw [hT] at z; exact z) hfin (hty fk hfk) (v := .int (Int32.ofInt x)) (by rw [htk]; rfl) (by rw [htk]; rfl) (by rw [encF_len]; omega) d (fun H1 lc1 hP1 hD1 hS1 => ?_)
    rw [← encF_pI (by omega) hf] at hP1 hD1
    refine k pp ee RR ss mm aa bb me cc0 H1 lc1 lsC c0 s0 ce se C0 ⟨okh_pI hok ox, _, tys, hP1, hD1, hKK, inW_set hI he (fun _ => rfl) (fun _ => rfl) (fun b nb i => by rw [gI_pI, if_neg (fun z => nb z.1)]) (fun b nb i => rfl) (fun _ _ _ => rfl) (isE_mkO (c := c) ha hc.2 rfl)⟩ (SC_pI (a := a) hC (by omega)) hS1 hl ho hcu hsu
  · exact k.elim
theorem sd_oPutIF (m pc : Nat) (c fk ix : Nat) (C : String) (T : u_T) (N : Nat) (hcl : vwCl[c - 1]? = some (C, T, N)) (hc : 1 ≤ c ∧ c ≤ 7) (hN : nF c = N) (hfk : fk < N) (hT : (T fk).1 = C) (hin : ∀ w ∈ u_ws C T N, w ∈ mWs (Md m)) (hf : fR c fk = false) (ty0 : Nat → FieldType) (hty : ∀ k, k < N → parseFieldDescriptor (T k).2.2.1 = some (ty0 k)) (hnm2 : ∀ a, a < N → ∀ b, b < N → a ≠ b → (T a).2.1 ≠ (T b).2.1) (htk : ty0 fk = .int) (hfin : (T fk).2.2.2 = true) (hini : (mNam (Md m)).name = "<init>") (hdecl : C = mOwn (Md m)) (hw : Cond.fieldLink (mOwn (Md m)) ix C (T fk).2.1 (T fk).2.2.1 ∈ mWs (Md m)) (d : decode (mCod (Md m)) pc = .ok (.putfield ix, 3)) : SM G Md D A l m pc (oPutI c fk) := by
  refine ⟨mo_oPutI c fk, fun ls st h Q k pp ee RR ss mm aa bb me cc0 HH lc lsC c0 s0 ce se C0 hR hC hS hl ho hcu hsu => ?_⟩
  obtain ⟨⟨hx, hb, hml, hown, hts⟩, hr, hlk, hnm, het, hRm, htr, hA, hG⟩ := id C0
  unfold oPutI at k
  split at k
  · next x r t =>
    obtain ⟨⟨a, rfl, ha⟩, k⟩ := k
    replace ho := List.forall_mem_cons.mp ho
    obtain ⟨ox, ho⟩ := ho
    replace ho := List.forall_mem_cons.mp ho
    obtain ⟨-, ho⟩ := ho
    obtain ⟨hok, ws, tys, hP, hD, hKK, hI⟩ := id hR
    obtain ⟨q0, e, he, hE⟩ := hI a (by omega) (by omega)
    have he2 := isE_obj hE ha hc.2
    subst he2
    refine va_putF hx hb hts hin ty0 hty hnm2 hown hKK hP hD hS q0 he hcl fk hfk (hts _ hw) (fun _ z => by rw [hT] at z; exact z) hfin (by rw [hnm]; exact hini) (by rw [hT]; exact hdecl) (hty fk hfk) (v := .int (Int32.ofInt x)) (by rw [htk]; rfl) (by rw [htk]; rfl) (by rw [encF_len]; omega) d (fun H1 lc1 hP1 hD1 hS1 => ?_)
    rw [← encF_pI (by omega) hf] at hP1 hD1
    refine k pp ee RR ss mm aa bb me cc0 H1 lc1 lsC c0 s0 ce se C0 ⟨okh_pI hok ox, _, tys, hP1, hD1, hKK, inW_set hI he (fun _ => rfl) (fun _ => rfl) (fun b nb i => by rw [gI_pI, if_neg (fun z => nb z.1)]) (fun b nb i => rfl) (fun _ _ _ => rfl) (isE_mkO (c := c) ha hc.2 rfl)⟩ (SC_pI (a := a) hC (by omega)) hS1 hl ho hcu hsu
  · exact k.elim
theorem sd_oPutIN (m pc : Nat) (c fk ix : Nat) (C : String) (T : u_T) (N : Nat) (hcl : vwCl[c - 1]? = some (C, T, N)) (hc : 1 ≤ c ∧ c ≤ 7) (hN : nF c = N) (hfk : fk < N) (hT : (T fk).1 = C) (hin : ∀ w ∈ u_ws C T N, w ∈ mWs (Md m)) (hf : fR c fk = false) (ty0 : Nat → FieldType) (hty : ∀ k, k < N → parseFieldDescriptor (T k).2.2.1 = some (ty0 k)) (hnm2 : ∀ a, a < N → ∀ b, b < N → a ≠ b → (T a).2.1 ≠ (T b).2.1) (htk : ty0 fk = .int) (hfin : (T fk).2.2.2 = false) (host : String) (hw : (mOwn (Md m), ix, C, (T fk).2.1, (T fk).2.2.1, host) ∈ G.2.2.2.1) (d : decode (mCod (Md m)) pc = .ok (.putfield ix, 3)) : SM G Md D A l m pc (oPutI c fk) := by
  refine ⟨mo_oPutI c fk, fun ls st h Q k pp ee RR ss mm aa bb me cc0 HH lc lsC c0 s0 ce se C0 hR hC hS hl ho hcu hsu => ?_⟩
  obtain ⟨⟨hx, hb, hml, hown, hts⟩, hr, hlk, hnm, het, hRm, htr, hA, hG⟩ := id C0
  unfold oPutI at k
  split at k
  · next x r t =>
    obtain ⟨⟨a, rfl, ha⟩, k⟩ := k
    replace ho := List.forall_mem_cons.mp ho
    obtain ⟨ox, ho⟩ := ho
    replace ho := List.forall_mem_cons.mp ho
    obtain ⟨-, ho⟩ := ho
    obtain ⟨hok, ws, tys, hP, hD, hKK, hI⟩ := id hR
    obtain ⟨q0, e, he, hE⟩ := hI a (by omega) (by omega)
    have he2 := isE_obj hE ha hc.2
    subst he2
    refine va_putN hx hb hts hin ty0 hty hnm2 hown hKK hP hD hS q0 he hcl fk hfk (va_Nw.use rfl (hG.2.2.2.2.2.1 _ hw)) (fun _ z => by rw [hT] at z; exact z) hfin (hty fk hfk) (v := .int (Int32.ofInt x)) (by rw [htk]; rfl) (by rw [htk]; rfl) (by rw [encF_len]; omega) d (fun H1 lc1 hP1 hD1 hS1 => ?_)
    rw [← encF_pI (by omega) hf] at hP1 hD1
    refine k pp ee RR ss mm aa bb me cc0 H1 lc1 lsC c0 s0 ce se C0 ⟨okh_pI hok ox, _, tys, hP1, hD1, hKK, inW_set hI he (fun _ => rfl) (fun _ => rfl) (fun b nb i => by rw [gI_pI, if_neg (fun z => nb z.1)]) (fun b nb i => rfl) (fun _ _ _ => rfl) (isE_mkO (c := c) ha hc.2 rfl)⟩ (SC_pI (a := a) hC (by omega)) hS1 hl ho hcu hsu
  · exact k.elim
theorem sd_oPutZ (m pc : Nat) (c fk ix : Nat) (C : String) (T : u_T) (N : Nat) (hcl : vwCl[c - 1]? = some (C, T, N)) (hc : 1 ≤ c ∧ c ≤ 7) (hN : nF c = N) (hfk : fk < N) (hT : (T fk).1 = C) (hin : ∀ w ∈ u_ws C T N, w ∈ mWs (Md m)) (hf : fR c fk = false) (ty0 : Nat → FieldType) (hty : ∀ k, k < N → parseFieldDescriptor (T k).2.2.1 = some (ty0 k)) (hnm2 : ∀ a, a < N → ∀ b, b < N → a ≠ b → (T a).2.1 ≠ (T b).2.1) (htk : ty0 fk = .boolean) (hfin : (T fk).2.2.2 = false) (hw : Cond.fieldLink (mOwn (Md m)) ix C (T fk).2.1 (T fk).2.2.1 ∈ mWs (Md m)) (d : decode (mCod (Md m)) pc = .ok (.putfield ix, 3)) : SM G Md D A l m pc (oPutZ c fk) := by
  refine ⟨mo_oPutZ c fk, fun ls st h Q k pp ee RR ss mm aa bb me cc0 HH lc lsC c0 s0 ce se C0 hR hC hS hl ho hcu hsu => ?_⟩
  obtain ⟨⟨hx, hb, hml, hown, hts⟩, hr, hlk, hnm, het, hRm, htr, hA, hG⟩ := id C0
  unfold oPutZ at k
  split at k
  · next x r t =>
    obtain ⟨⟨⟨a, rfl, ha⟩, h01⟩, k⟩ := k
    replace ho := List.forall_mem_cons.mp ho
    obtain ⟨ox, ho⟩ := ho
    replace ho := List.forall_mem_cons.mp ho
    obtain ⟨-, ho⟩ := ho
    obtain ⟨hok, ws, tys, hP, hD, hKK, hI⟩ := id hR
    obtain ⟨q0, e, he, hE⟩ := hI a (by omega) (by omega)
    have he2 := isE_obj hE ha hc.2
    subst he2
    refine va_put hx hb hts hin ty0 hty hnm2 hown hKK hP hD hS q0 he hcl fk hfk (hts _ hw) (fun _ z => by rw [hT] at z; exact z) hfin (hty fk hfk) (v := .int (Int32.ofInt x)) (by rw [htk]; rcases h01 with rfl | rfl <;> rfl) (by rw [htk]; rcases h01 with rfl | rfl <;> rfl) (by rw [encF_len]; omega) d (fun H1 lc1 hP1 hD1 hS1 => ?_)
    rw [← encF_pI (by omega) hf] at hP1 hD1
    refine k pp ee RR ss mm aa bb me cc0 H1 lc1 lsC c0 s0 ce se C0 ⟨okh_pI hok ox, _, tys, hP1, hD1, hKK, inW_set hI he (fun _ => rfl) (fun _ => rfl) (fun b nb i => by rw [gI_pI, if_neg (fun z => nb z.1)]) (fun b nb i => rfl) (fun _ _ _ => rfl) (isE_mkO (c := c) ha hc.2 rfl)⟩ (SC_pI (a := a) hC (by omega)) hS1 hl ho hcu hsu
  · exact k.elim
theorem sd_oPutZF (m pc : Nat) (c fk ix : Nat) (C : String) (T : u_T) (N : Nat) (hcl : vwCl[c - 1]? = some (C, T, N)) (hc : 1 ≤ c ∧ c ≤ 7) (hN : nF c = N) (hfk : fk < N) (hT : (T fk).1 = C) (hin : ∀ w ∈ u_ws C T N, w ∈ mWs (Md m)) (hf : fR c fk = false) (ty0 : Nat → FieldType) (hty : ∀ k, k < N → parseFieldDescriptor (T k).2.2.1 = some (ty0 k)) (hnm2 : ∀ a, a < N → ∀ b, b < N → a ≠ b → (T a).2.1 ≠ (T b).2.1) (htk : ty0 fk = .boolean) (hfin : (T fk).2.2.2 = true) (hini : (mNam (Md m)).name = "<init>") (hdecl : C = mOwn (Md m)) (hw : Cond.fieldLink (mOwn (Md m)) ix C (T fk).2.1 (T fk).2.2.1 ∈ mWs (Md m)) (d : decode (mCod (Md m)) pc = .ok (.putfield ix, 3)) : SM G Md D A l m pc (oPutZ c fk) := by
  refine ⟨mo_oPutZ c fk, fun ls st h Q k pp ee RR ss mm aa bb me cc0 HH lc lsC c0 s0 ce se C0 hR hC hS hl ho hcu hsu => ?_⟩
  obtain ⟨⟨hx, hb, hml, hown, hts⟩, hr, hlk, hnm, het, hRm, htr, hA, hG⟩ := id C0
  unfold oPutZ at k
  split at k
  · next x r t =>
    obtain ⟨⟨⟨a, rfl, ha⟩, h01⟩, k⟩ := k
    replace ho := List.forall_mem_cons.mp ho
    obtain ⟨ox, ho⟩ := ho
    replace ho := List.forall_mem_cons.mp ho
    obtain ⟨-, ho⟩ := ho
    obtain ⟨hok, ws, tys, hP, hD, hKK, hI⟩ := id hR
    obtain ⟨q0, e, he, hE⟩ := hI a (by omega) (by omega)
    have he2 := isE_obj hE ha hc.2
    subst he2
    refine va_putF hx hb hts hin ty0 hty hnm2 hown hKK hP hD hS q0 he hcl fk hfk (hts _ hw) (fun _ z => by rw [hT] at z; exact z) hfin (by rw [hnm]; exact hini) (by rw [hT]; exact hdecl) (hty fk hfk) (v := .int (Int32.ofInt x)) (by rw [htk]; rcases h01 with rfl | rfl <;> rfl) (by rw [htk]; rcases h01 with rfl | rfl <;> rfl) (by rw [encF_len]; omega) d (fun H1 lc1 hP1 hD1 hS1 => ?_)
    rw [← encF_pI (by omega) hf] at hP1 hD1
    refine k pp ee RR ss mm aa bb me cc0 H1 lc1 lsC c0 s0 ce se C0 ⟨okh_pI hok ox, _, tys, hP1, hD1, hKK, inW_set hI he (fun _ => rfl) (fun _ => rfl) (fun b nb i => by rw [gI_pI, if_neg (fun z => nb z.1)]) (fun b nb i => rfl) (fun _ _ _ => rfl) (isE_mkO (c := c) ha hc.2 rfl)⟩ (SC_pI (a := a) hC (by omega)) hS1 hl ho hcu hsu
  · exact k.elim
theorem sd_oPutZN (m pc : Nat) (c fk ix : Nat) (C : String) (T : u_T) (N : Nat) (hcl : vwCl[c - 1]? = some (C, T, N)) (hc : 1 ≤ c ∧ c ≤ 7) (hN : nF c = N) (hfk : fk < N) (hT : (T fk).1 = C) (hin : ∀ w ∈ u_ws C T N, w ∈ mWs (Md m)) (hf : fR c fk = false) (ty0 : Nat → FieldType) (hty : ∀ k, k < N → parseFieldDescriptor (T k).2.2.1 = some (ty0 k)) (hnm2 : ∀ a, a < N → ∀ b, b < N → a ≠ b → (T a).2.1 ≠ (T b).2.1) (htk : ty0 fk = .boolean) (hfin : (T fk).2.2.2 = false) (host : String) (hw : (mOwn (Md m), ix, C, (T fk).2.1, (T fk).2.2.1, host) ∈ G.2.2.2.1) (d : decode (mCod (Md m)) pc = .ok (.putfield ix, 3)) : SM G Md D A l m pc (oPutZ c fk) := by
  refine ⟨mo_oPutZ c fk, fun ls st h Q k pp ee RR ss mm aa bb me cc0 HH lc lsC c0 s0 ce se C0 hR hC hS hl ho hcu hsu => ?_⟩
  obtain ⟨⟨hx, hb, hml, hown, hts⟩, hr, hlk, hnm, het, hRm, htr, hA, hG⟩ := id C0
  unfold oPutZ at k
  split at k
  · next x r t =>
    obtain ⟨⟨⟨a, rfl, ha⟩, h01⟩, k⟩ := k
    replace ho := List.forall_mem_cons.mp ho
    obtain ⟨ox, ho⟩ := ho
    replace ho := List.forall_mem_cons.mp ho
    obtain ⟨-, ho⟩ := ho
    obtain ⟨hok, ws, tys, hP, hD, hKK, hI⟩ := id hR
    obtain ⟨q0, e, he, hE⟩ := hI a (by omega) (by omega)
    have he2 := isE_obj hE ha hc.2
    subst he2
    refine va_putN hx hb hts hin ty0 hty hnm2 hown hKK hP hD hS q0 he hcl fk hfk (va_Nw.use rfl (hG.2.2.2.2.2.1 _ hw)) (fun _ z => by rw [hT] at z; exact z) hfin (hty fk hfk) (v := .int (Int32.ofInt x)) (by rw [htk]; rcases h01 with rfl | rfl <;> rfl) (by rw [htk]; rcases h01 with rfl | rfl <;> rfl) (by rw [encF_len]; omega) d (fun H1 lc1 hP1 hD1 hS1 => ?_)
    rw [← encF_pI (by omega) hf] at hP1 hD1
    refine k pp ee RR ss mm aa bb me cc0 H1 lc1 lsC c0 s0 ce se C0 ⟨okh_pI hok ox, _, tys, hP1, hD1, hKK, inW_set hI he (fun _ => rfl) (fun _ => rfl) (fun b nb i => by rw [gI_pI, if_neg (fun z => nb z.1)]) (fun b nb i => rfl) (fun _ _ _ => rfl) (isE_mkO (c := c) ha hc.2 rfl)⟩ (SC_pI (a := a) hC (by omega)) hS1 hl ho hcu hsu
  · exact k.elim
theorem sd_oPutR (m pc : Nat) (c fk ix : Nat) (C : String) (T : u_T) (N : Nat) (hcl : vwCl[c - 1]? = some (C, T, N)) (hc : 1 ≤ c ∧ c ≤ 7) (hN : nF c = N) (hfk : fk < N) (hT : (T fk).1 = C) (hin : ∀ w ∈ u_ws C T N, w ∈ mWs (Md m)) (hf : fR c fk = true) (ty0 : Nat → FieldType) (hty : ∀ k, k < N → parseFieldDescriptor (T k).2.2.1 = some (ty0 k)) (hnm2 : ∀ a, a < N → ∀ b, b < N → a ≠ b → (T a).2.1 ≠ (T b).2.1) (htk : (∃ n, ty0 fk = .object n) ∨ ∃ t, ty0 fk = .array t) (hfin : (T fk).2.2.2 = false) (hw : Cond.fieldLink (mOwn (Md m)) ix C (T fk).2.1 (T fk).2.2.1 ∈ mWs (Md m)) (d : decode (mCod (Md m)) pc = .ok (.putfield ix, 3)) : SM G Md D A l m pc (oPutR c fk) := by
  refine ⟨mo_oPutR c fk, fun ls st h Q k pp ee RR ss mm aa bb me cc0 HH lc lsC c0 s0 ce se C0 hR hC hS hl ho hcu hsu => ?_⟩
  obtain ⟨⟨hx, hb, hml, hown, hts⟩, hr, hlk, hnm, het, hRm, htr, hA, hG⟩ := id C0
  unfold oPutR at k
  split at k
  · next x r t =>
    obtain ⟨⟨a, rfl, ha⟩, k⟩ := k
    replace ho := List.forall_mem_cons.mp ho
    obtain ⟨ox, ho⟩ := ho
    replace ho := List.forall_mem_cons.mp ho
    obtain ⟨-, ho⟩ := ho
    obtain ⟨hok, ws, tys, hP, hD, hKK, hI⟩ := id hR
    obtain ⟨q0, e, he, hE⟩ := hI a (by omega) (by omega)
    have he2 := isE_obj hE ha hc.2
    subst he2
    refine va_put hx hb hts hin ty0 hty hnm2 hown hKK hP hD hS q0 he hcl fk hfk (hts _ hw) (fun _ z => by rw [hT] at z; exact z) hfin (hty fk hfk) (v := va_rf x) (by rcases htk with ⟨n, e⟩ | ⟨n, e⟩ <;> rw [e] <;> cases x <;> rfl) (by rcases htk with ⟨n, e⟩ | ⟨n, e⟩ <;> rw [e] <;> cases x <;> rfl) (by rw [encF_len]; omega) d (fun H1 lc1 hP1 hD1 hS1 => ?_)
    rw [← encF_pR (by omega) hf] at hP1 hD1
    refine k pp ee RR ss mm aa bb me cc0 H1 lc1 lsC c0 s0 ce se C0 ⟨okh_pR hok, _, tys, hP1, hD1, hKK, inW_set hI he (fun _ => rfl) (fun _ => rfl) (fun b nb i => rfl) (fun b nb i => by rw [gR_pR, if_neg (fun z => nb z.1)]) (fun _ _ _ => rfl) (isE_mkO (c := c) ha hc.2 rfl)⟩ (SC_pR hC) hS1 hl ho hcu hsu
  · exact k.elim
theorem sd_oPutRF (m pc : Nat) (c fk ix : Nat) (C : String) (T : u_T) (N : Nat) (hcl : vwCl[c - 1]? = some (C, T, N)) (hc : 1 ≤ c ∧ c ≤ 7) (hN : nF c = N) (hfk : fk < N) (hT : (T fk).1 = C) (hin : ∀ w ∈ u_ws C T N, w ∈ mWs (Md m)) (hf : fR c fk = true) (ty0 : Nat → FieldType) (hty : ∀ k, k < N → parseFieldDescriptor (T k).2.2.1 = some (ty0 k)) (hnm2 : ∀ a, a < N → ∀ b, b < N → a ≠ b → (T a).2.1 ≠ (T b).2.1) (htk : (∃ n, ty0 fk = .object n) ∨ ∃ t, ty0 fk = .array t) (hfin : (T fk).2.2.2 = true) (hini : (mNam (Md m)).name = "<init>") (hdecl : C = mOwn (Md m)) (hw : Cond.fieldLink (mOwn (Md m)) ix C (T fk).2.1 (T fk).2.2.1 ∈ mWs (Md m)) (d : decode (mCod (Md m)) pc = .ok (.putfield ix, 3)) : SM G Md D A l m pc (oPutR c fk) := by
  refine ⟨mo_oPutR c fk, fun ls st h Q k pp ee RR ss mm aa bb me cc0 HH lc lsC c0 s0 ce se C0 hR hC hS hl ho hcu hsu => ?_⟩
  obtain ⟨⟨hx, hb, hml, hown, hts⟩, hr, hlk, hnm, het, hRm, htr, hA, hG⟩ := id C0
  unfold oPutR at k
  split at k
  · next x r t =>
    obtain ⟨⟨a, rfl, ha⟩, k⟩ := k
    replace ho := List.forall_mem_cons.mp ho
    obtain ⟨ox, ho⟩ := ho
    replace ho := List.forall_mem_cons.mp ho
    obtain ⟨-, ho⟩ := ho
    obtain ⟨hok, ws, tys, hP, hD, hKK, hI⟩ := id hR
    obtain ⟨q0, e, he, hE⟩ := hI a (by omega) (by omega)
    have he2 := isE_obj hE ha hc.2
    subst he2
    refine va_putF hx hb hts hin ty0 hty hnm2 hown hKK hP hD hS q0 he hcl fk hfk (hts _ hw) (fun _ z => by rw [hT] at z; exact z) hfin (by rw [hnm]; exact hini) (by rw [hT]; exact hdecl) (hty fk hfk) (v := va_rf x) (by rcases htk with ⟨n, e⟩ | ⟨n, e⟩ <;> rw [e] <;> cases x <;> rfl) (by rcases htk with ⟨n, e⟩ | ⟨n, e⟩ <;> rw [e] <;> cases x <;> rfl) (by rw [encF_len]; omega) d (fun H1 lc1 hP1 hD1 hS1 => ?_)
    rw [← encF_pR (by omega) hf] at hP1 hD1
    refine k pp ee RR ss mm aa bb me cc0 H1 lc1 lsC c0 s0 ce se C0 ⟨okh_pR hok, _, tys, hP1, hD1, hKK, inW_set hI he (fun _ => rfl) (fun _ => rfl) (fun b nb i => rfl) (fun b nb i => by rw [gR_pR, if_neg (fun z => nb z.1)]) (fun _ _ _ => rfl) (isE_mkO (c := c) ha hc.2 rfl)⟩ (SC_pR hC) hS1 hl ho hcu hsu
  · exact k.elim
theorem sd_oPutRN (m pc : Nat) (c fk ix : Nat) (C : String) (T : u_T) (N : Nat) (hcl : vwCl[c - 1]? = some (C, T, N)) (hc : 1 ≤ c ∧ c ≤ 7) (hN : nF c = N) (hfk : fk < N) (hT : (T fk).1 = C) (hin : ∀ w ∈ u_ws C T N, w ∈ mWs (Md m)) (hf : fR c fk = true) (ty0 : Nat → FieldType) (hty : ∀ k, k < N → parseFieldDescriptor (T k).2.2.1 = some (ty0 k)) (hnm2 : ∀ a, a < N → ∀ b, b < N → a ≠ b → (T a).2.1 ≠ (T b).2.1) (htk : (∃ n, ty0 fk = .object n) ∨ ∃ t, ty0 fk = .array t) (hfin : (T fk).2.2.2 = false) (host : String) (hw : (mOwn (Md m), ix, C, (T fk).2.1, (T fk).2.2.1, host) ∈ G.2.2.2.1) (d : decode (mCod (Md m)) pc = .ok (.putfield ix, 3)) : SM G Md D A l m pc (oPutR c fk) := by
  refine ⟨mo_oPutR c fk, fun ls st h Q k pp ee RR ss mm aa bb me cc0 HH lc lsC c0 s0 ce se C0 hR hC hS hl ho hcu hsu => ?_⟩
  obtain ⟨⟨hx, hb, hml, hown, hts⟩, hr, hlk, hnm, het, hRm, htr, hA, hG⟩ := id C0
  unfold oPutR at k
  split at k
  · next x r t =>
    obtain ⟨⟨a, rfl, ha⟩, k⟩ := k
    replace ho := List.forall_mem_cons.mp ho
    obtain ⟨ox, ho⟩ := ho
    replace ho := List.forall_mem_cons.mp ho
    obtain ⟨-, ho⟩ := ho
    obtain ⟨hok, ws, tys, hP, hD, hKK, hI⟩ := id hR
    obtain ⟨q0, e, he, hE⟩ := hI a (by omega) (by omega)
    have he2 := isE_obj hE ha hc.2
    subst he2
    refine va_putN hx hb hts hin ty0 hty hnm2 hown hKK hP hD hS q0 he hcl fk hfk (va_Nw.use rfl (hG.2.2.2.2.2.1 _ hw)) (fun _ z => by rw [hT] at z; exact z) hfin (hty fk hfk) (v := va_rf x) (by rcases htk with ⟨n, e⟩ | ⟨n, e⟩ <;> rw [e] <;> cases x <;> rfl) (by rcases htk with ⟨n, e⟩ | ⟨n, e⟩ <;> rw [e] <;> cases x <;> rfl) (by rw [encF_len]; omega) d (fun H1 lc1 hP1 hD1 hS1 => ?_)
    rw [← encF_pR (by omega) hf] at hP1 hD1
    refine k pp ee RR ss mm aa bb me cc0 H1 lc1 lsC c0 s0 ce se C0 ⟨okh_pR hok, _, tys, hP1, hD1, hKK, inW_set hI he (fun _ => rfl) (fun _ => rfl) (fun b nb i => rfl) (fun b nb i => by rw [gR_pR, if_neg (fun z => nb z.1)]) (fun _ _ _ => rfl) (isE_mkO (c := c) ha hc.2 rfl)⟩ (SC_pR hC) hS1 hl ho hcu hsu
  · exact k.elim
theorem sd_iald (m pc : Nat)  (d : decode (mCod (Md m)) pc = .ok (.iaload, 1)) : SM G Md D A l m pc (oALdI 10) := by
  refine ⟨mo_oALdI 10, fun ls st h Q k pp ee RR ss mm aa bb me cc0 HH lc lsC c0 s0 ce se C0 hR hC hS hl ho hcu hsu => ?_⟩
  obtain ⟨⟨hx, hb, hml, hown, hts⟩, hr, hlk, hnm, het, hRm, htr, hA, hG⟩ := id C0
  unfold oALdI at k
  split at k
  · next i r t =>
    obtain ⟨⟨⟨a, rfl, ha⟩, h0, h1⟩, k⟩ := k
    replace ho := List.forall_mem_cons.mp ho
    obtain ⟨oi, ho⟩ := ho
    replace ho := List.forall_mem_cons.mp ho
    obtain ⟨-, ho⟩ := ho
    obtain ⟨hok, ws, tys, hP, hD, hKK, hI⟩ := id hR
    have h1 : i < gL h a := h1
    have hlen := (hok.2.1 a).1
    obtain ⟨q0, e, he, hE⟩ := hI a (by omega) (by omega)
    obtain ⟨cA, t0, he2, ht0⟩ := isE_arr hE ha (by omega)
    subst he2
    refine va_iald hx hb hKK hP q0 t0 he ht0 (z_in oi h0 (by omega)) d ?_
    rw [z_cl oi, show (((i.toNat : Nat) : Int)) = i by omega]
    exact k pp ee RR ss mm aa bb me cc0 HH lc lsC c0 s0 ce se C0 hR hC hS hl (List.forall_mem_cons.mpr ⟨hok.1 a i, ho⟩) hcu hsu
  · exact k.elim
theorem sd_zald (m pc : Nat)  (d : decode (mCod (Md m)) pc = .ok (.baload, 1)) : SM G Md D A l m pc (oALdI 12) := by
  refine ⟨mo_oALdI 12, fun ls st h Q k pp ee RR ss mm aa bb me cc0 HH lc lsC c0 s0 ce se C0 hR hC hS hl ho hcu hsu => ?_⟩
  obtain ⟨⟨hx, hb, hml, hown, hts⟩, hr, hlk, hnm, het, hRm, htr, hA, hG⟩ := id C0
  unfold oALdI at k
  split at k
  · next i r t =>
    obtain ⟨⟨⟨a, rfl, ha⟩, h0, h1⟩, k⟩ := k
    replace ho := List.forall_mem_cons.mp ho
    obtain ⟨oi, ho⟩ := ho
    replace ho := List.forall_mem_cons.mp ho
    obtain ⟨-, ho⟩ := ho
    obtain ⟨hok, ws, tys, hP, hD, hKK, hI⟩ := id hR
    have h1 : i < gL h a := h1
    have hlen := (hok.2.1 a).1
    obtain ⟨q0, e, he, hE⟩ := hI a (by omega) (by omega)
    obtain ⟨cA, t0, he2, ht0⟩ := isE_arr hE ha (by omega)
    subst he2
    refine va_zald hx hb hKK hP q0 t0 he ht0 (z_in oi h0 (by omega)) d ?_
    rw [z_cl oi, show (((i.toNat : Nat) : Int)) = i by omega]
    exact k pp ee RR ss mm aa bb me cc0 HH lc lsC c0 s0 ce se C0 hR hC hS hl (List.forall_mem_cons.mpr ⟨hok.1 a i, ho⟩) hcu hsu
  · exact k.elim
theorem sd_lald (m pc : Nat)  (d : decode (mCod (Md m)) pc = .ok (.laload, 1)) : SM G Md D A l m pc (oALdJ) := by
  refine ⟨mo_oALdJ, fun ls st h Q k pp ee RR ss mm aa bb me cc0 HH lc lsC c0 s0 ce se C0 hR hC hS hl ho hcu hsu => ?_⟩
  obtain ⟨⟨hx, hb, hml, hown, hts⟩, hr, hlk, hnm, het, hRm, htr, hA, hG⟩ := id C0
  unfold oALdJ at k
  split at k
  · next i r t =>
    obtain ⟨⟨⟨a, rfl, ha⟩, h0, h1⟩, k⟩ := k
    replace ho := List.forall_mem_cons.mp ho
    obtain ⟨oi, ho⟩ := ho
    replace ho := List.forall_mem_cons.mp ho
    obtain ⟨-, ho⟩ := ho
    obtain ⟨hok, ws, tys, hP, hD, hKK, hI⟩ := id hR
    have h1 : i < gL h a := h1
    have hlen := (hok.2.1 a).1
    obtain ⟨q0, e, he, hE⟩ := hI a (by omega) (by omega)
    obtain ⟨cA, t0, he2, ht0⟩ := isE_arr hE ha (by omega)
    subst he2
    refine va_lald hx hb hKK hP q0 t0 he ht0 (z_in oi h0 (by omega)) d ?_
    rw [z_cl oi, show (((i.toNat : Nat) : Int)) = i by omega]
    exact k pp ee RR ss mm aa bb me cc0 HH lc lsC c0 s0 ce se C0 hR hC hS hl (List.forall_mem_cons.mpr ⟨trivial, ho⟩) hcu hsu
  · exact k.elim
theorem sd_aaldN (m pc : Nat)  (d : decode (mCod (Md m)) pc = .ok (.aaload, 1)) : SM G Md D A l m pc (oALdR 13) := by
  refine ⟨mo_oALdR 13, fun ls st h Q k pp ee RR ss mm aa bb me cc0 HH lc lsC c0 s0 ce se C0 hR hC hS hl ho hcu hsu => ?_⟩
  obtain ⟨⟨hx, hb, hml, hown, hts⟩, hr, hlk, hnm, het, hRm, htr, hA, hG⟩ := id C0
  unfold oALdR at k
  split at k
  · next i r t =>
    obtain ⟨⟨⟨a, rfl, ha⟩, h0, h1⟩, k⟩ := k
    replace ho := List.forall_mem_cons.mp ho
    obtain ⟨oi, ho⟩ := ho
    replace ho := List.forall_mem_cons.mp ho
    obtain ⟨-, ho⟩ := ho
    obtain ⟨hok, ws, tys, hP, hD, hKK, hI⟩ := id hR
    have h1 : i < gL h a := h1
    have hlen := (hok.2.1 a).1
    obtain ⟨q0, e, he, hE⟩ := hI a (by omega) (by omega)
    obtain ⟨cA, t0, he2, ht0⟩ := isE_arr hE ha (by omega)
    subst he2
    refine va_aldq hx hb hKK hP q0 t0 he ht0 (z_in oi h0 (by omega)) d ?_
    rw [z_cl oi, show (((i.toNat : Nat) : Int)) = i by omega]
    exact k pp ee RR ss mm aa bb me cc0 HH lc lsC c0 s0 ce se C0 hR hC hS hl (List.forall_mem_cons.mpr ⟨trivial, ho⟩) hcu hsu
  · exact k.elim
theorem sd_aaldA (m pc : Nat)  (d : decode (mCod (Md m)) pc = .ok (.aaload, 1)) : SM G Md D A l m pc (oALdR 14) := by
  refine ⟨mo_oALdR 14, fun ls st h Q k pp ee RR ss mm aa bb me cc0 HH lc lsC c0 s0 ce se C0 hR hC hS hl ho hcu hsu => ?_⟩
  obtain ⟨⟨hx, hb, hml, hown, hts⟩, hr, hlk, hnm, het, hRm, htr, hA, hG⟩ := id C0
  unfold oALdR at k
  split at k
  · next i r t =>
    obtain ⟨⟨⟨a, rfl, ha⟩, h0, h1⟩, k⟩ := k
    replace ho := List.forall_mem_cons.mp ho
    obtain ⟨oi, ho⟩ := ho
    replace ho := List.forall_mem_cons.mp ho
    obtain ⟨-, ho⟩ := ho
    obtain ⟨hok, ws, tys, hP, hD, hKK, hI⟩ := id hR
    have h1 : i < gL h a := h1
    have hlen := (hok.2.1 a).1
    obtain ⟨q0, e, he, hE⟩ := hI a (by omega) (by omega)
    obtain ⟨cA, t0, he2, ht0⟩ := isE_arr hE ha (by omega)
    subst he2
    refine va_aldA hx hb hKK hP q0 t0 he ht0 (z_in oi h0 (by omega)) d ?_
    rw [z_cl oi, show (((i.toNat : Nat) : Int)) = i by omega]
    exact k pp ee RR ss mm aa bb me cc0 HH lc lsC c0 s0 ce se C0 hR hC hS hl (List.forall_mem_cons.mpr ⟨trivial, ho⟩) hcu hsu
  · exact k.elim
theorem sd_aaldB (m pc : Nat)  (d : decode (mCod (Md m)) pc = .ok (.aaload, 1)) : SM G Md D A l m pc (oALdR 16) := by
  refine ⟨mo_oALdR 16, fun ls st h Q k pp ee RR ss mm aa bb me cc0 HH lc lsC c0 s0 ce se C0 hR hC hS hl ho hcu hsu => ?_⟩
  obtain ⟨⟨hx, hb, hml, hown, hts⟩, hr, hlk, hnm, het, hRm, htr, hA, hG⟩ := id C0
  unfold oALdR at k
  split at k
  · next i r t =>
    obtain ⟨⟨⟨a, rfl, ha⟩, h0, h1⟩, k⟩ := k
    replace ho := List.forall_mem_cons.mp ho
    obtain ⟨oi, ho⟩ := ho
    replace ho := List.forall_mem_cons.mp ho
    obtain ⟨-, ho⟩ := ho
    obtain ⟨hok, ws, tys, hP, hD, hKK, hI⟩ := id hR
    have h1 : i < gL h a := h1
    have hlen := (hok.2.1 a).1
    obtain ⟨q0, e, he, hE⟩ := hI a (by omega) (by omega)
    obtain ⟨cA, t0, he2, ht0⟩ := isE_arr hE ha (by omega)
    subst he2
    refine va_aldA hx hb hKK hP q0 t0 he ht0 (z_in oi h0 (by omega)) d ?_
    rw [z_cl oi, show (((i.toNat : Nat) : Int)) = i by omega]
    exact k pp ee RR ss mm aa bb me cc0 HH lc lsC c0 s0 ce se C0 hR hC hS hl (List.forall_mem_cons.mpr ⟨trivial, ho⟩) hcu hsu
  · exact k.elim
theorem sd_sld (m pc : Nat)  (d : decode (mCod (Md m)) pc = .ok (.iaload, 1)) : SM G Md D A l m pc (oALdI 15) := by
  refine ⟨mo_oALdI 15, fun ls st h Q k pp ee RR ss mm aa bb me cc0 HH lc lsC c0 s0 ce se C0 hR hC hS hl ho hcu hsu => ?_⟩
  obtain ⟨⟨hx, hb, hml, hown, hts⟩, hr, hlk, hnm, het, hRm, htr, hA, hG⟩ := id C0
  unfold oALdI at k
  split at k
  · next i r t =>
    obtain ⟨⟨⟨a, rfl, ha⟩, h0, h1⟩, k⟩ := k
    replace ho := List.forall_mem_cons.mp ho
    obtain ⟨oi, ho⟩ := ho
    replace ho := List.forall_mem_cons.mp ho
    obtain ⟨-, ho⟩ := ho
    have hok := hR.1
    have h1 : i < gL h a := h1
    have hlen := (hok.2.1 a).1
    obtain ⟨c1, c2, c3⟩ := hC a ha
    refine va_sld hx hb c3 c2 c1 hS (z_in oi h0 (by omega)) d ?_
    rw [z_cl oi, show (((i.toNat : Nat) : Int)) = i by omega]
    exact k pp ee RR ss mm aa bb me cc0 HH lc lsC c0 s0 ce se C0 hR hC hS hl (List.forall_mem_cons.mpr ⟨hok.1 a i, ho⟩) hcu hsu
  · exact k.elim
theorem sd_alen (m pc : Nat) (c : Nat) (h10 : 10 ≤ c ∧ c ≠ 15) (d : decode (mCod (Md m)) pc = .ok (.arraylength, 1)) : SM G Md D A l m pc (oALen c) := by
  refine ⟨mo_oALen c, fun ls st h Q k pp ee RR ss mm aa bb me cc0 HH lc lsC c0 s0 ce se C0 hR hC hS hl ho hcu hsu => ?_⟩
  obtain ⟨⟨hx, hb, hml, hown, hts⟩, hr, hlk, hnm, het, hRm, htr, hA, hG⟩ := id C0
  unfold oALen at k
  split at k
  · next r t =>
    obtain ⟨⟨a, rfl, ha⟩, k⟩ := k
    replace ho := List.forall_mem_cons.mp ho
    obtain ⟨-, ho⟩ := ho
    obtain ⟨hok, ws, tys, hP, hD, hKK, hI⟩ := id hR
    have hlen := hok.2.1 a
    obtain ⟨q0, e, he, hE⟩ := hI a (by omega) (by omega)
    obtain ⟨cA, t0, he2, ht0⟩ := isE_arr hE ha h10.1
    subst he2
    refine va_alen (v := Int32.ofInt (gL h a)) hx hb hKK hP q0 t0 he ht0 ?_ d (k pp ee RR ss mm aa bb me cc0 HH lc lsC c0 s0 ce se C0 hR hC hS hl (List.forall_mem_cons.mpr ⟨⟨by have := hlen.1; show _ ≤ gL h a; omega, by have := hlen.2; show gL h a ≤ _; omega⟩, ho⟩) hcu hsu)
    rw [akE_n]
    show Int32.ofInt ((gL h a).toNat : Int) = _
    rw [Int.toNat_of_nonneg hlen.1]
  · exact k.elim
theorem sd_slen (m pc : Nat)  (d : decode (mCod (Md m)) pc = .ok (.arraylength, 1)) : SM G Md D A l m pc (oALen 15) := by
  refine ⟨mo_oALen 15, fun ls st h Q k pp ee RR ss mm aa bb me cc0 HH lc lsC c0 s0 ce se C0 hR hC hS hl ho hcu hsu => ?_⟩
  obtain ⟨⟨hx, hb, hml, hown, hts⟩, hr, hlk, hnm, het, hRm, htr, hA, hG⟩ := id C0
  unfold oALen at k
  split at k
  · next r t =>
    obtain ⟨⟨a, rfl, ha⟩, k⟩ := k
    replace ho := List.forall_mem_cons.mp ho
    obtain ⟨-, ho⟩ := ho
    have hok := hR.1
    have hlen := hok.2.1 a
    obtain ⟨c1, c2, c3⟩ := hC a ha
    refine va_slen hx hb c3 c2 c1 hS d ?_
    rw [show Int32.ofNat (gL h a).toNat = Int32.ofInt (gL h a) from by
      show Int32.ofInt ((gL h a).toNat : Int) = _
      rw [Int.toNat_of_nonneg hlen.1]]
    exact k pp ee RR ss mm aa bb me cc0 HH lc lsC c0 s0 ce se C0 hR hC hS hl (List.forall_mem_cons.mpr ⟨⟨by have := hlen.1; show _ ≤ gL h a; omega, by have := hlen.2; show gL h a ≤ _; omega⟩, ho⟩) hcu hsu
  · exact k.elim
theorem sd_iast (m pc : Nat)  (d : decode (mCod (Md m)) pc = .ok (.iastore, 1)) : SM G Md D A l m pc (oAStI) := by
  refine ⟨mo_oAStI, fun ls st h Q k pp ee RR ss mm aa bb me cc0 HH lc lsC c0 s0 ce se C0 hR hC hS hl ho hcu hsu => ?_⟩
  obtain ⟨⟨hx, hb, hml, hown, hts⟩, hr, hlk, hnm, het, hRm, htr, hA, hG⟩ := id C0
  unfold oAStI at k
  split at k
  · next x i r t =>
    obtain ⟨⟨⟨a, rfl, ha⟩, h0, h1⟩, k⟩ := k
    replace ho := List.forall_mem_cons.mp ho
    obtain ⟨ox, ho⟩ := ho
    replace ho := List.forall_mem_cons.mp ho
    obtain ⟨oi, ho⟩ := ho
    replace ho := List.forall_mem_cons.mp ho
    obtain ⟨-, ho⟩ := ho
    obtain ⟨hok, ws, tys, hP, hD, hKK, hI⟩ := id hR
    have h1 : i < gL h a := h1
    have hlen := (hok.2.1 a).1
    obtain ⟨q0, e, he, hE⟩ := hI a (by omega) (by omega)
    obtain ⟨cA, t0, he2, ht0⟩ := isE_arr hE ha (by omega)
    subst he2
    refine va_iast hx hb hKK hP hD hS q0 t0 he ht0 (z_in oi h0 (by omega)) d (fun H1 lc1 hP1 hD1 hS1 => ?_)
    rw [z_cl oi] at hP1 hD1
    refine k pp ee RR ss mm aa bb me cc0 H1 lc1 lsC c0 s0 ce se C0 ⟨okh_pI hok ox, _, tys, hP1, hD1, hKK, inW_set hI he (fun _ => rfl) (fun _ => rfl) (fun b nb j => by rw [gI_pI, if_neg (fun z => nb z.1)]) (fun b nb j => rfl) (fun b nb j => rfl) (isE_mkA ha (by omega) cA t0 ?_ ht0)⟩ (SC_pI (a := a) hC (by omega)) hS1 hl ho hcu hsu
    refine congrArg Sum.inl (congrArg (Prod.mk cA) ?_)
    show ((gL h a).toNat, _) = ((gL h a).toNat, _)
    refine congrArg (Prod.mk _) (congrArg _ (funext fun j => ?_))
    show upd (fun j : Nat => Int32.ofInt (gI h a j)) i.toNat (Int32.ofInt x) j = Int32.ofInt (gI (pI h (ad (some a)) i x) a j)
    rw [gI_pI]
    by_cases z : j = i.toNat
    · rw [if_pos ⟨rfl, by omega⟩]; simp [upd, z]
    · rw [if_neg (fun q => z (by have := q.2; omega))]; simp [upd, z]
  · exact k.elim
theorem sd_zast (m pc : Nat)  (d : decode (mCod (Md m)) pc = .ok (.bastore, 1)) : SM G Md D A l m pc (oAStZ) := by
  refine ⟨mo_oAStZ, fun ls st h Q k pp ee RR ss mm aa bb me cc0 HH lc lsC c0 s0 ce se C0 hR hC hS hl ho hcu hsu => ?_⟩
  obtain ⟨⟨hx, hb, hml, hown, hts⟩, hr, hlk, hnm, het, hRm, htr, hA, hG⟩ := id C0
  unfold oAStZ at k
  split at k
  · next x i r t =>
    obtain ⟨⟨⟨⟨a, rfl, ha⟩, h0, h1⟩, h01⟩, k⟩ := k
    replace ho := List.forall_mem_cons.mp ho
    obtain ⟨ox, ho⟩ := ho
    replace ho := List.forall_mem_cons.mp ho
    obtain ⟨oi, ho⟩ := ho
    replace ho := List.forall_mem_cons.mp ho
    obtain ⟨-, ho⟩ := ho
    obtain ⟨hok, ws, tys, hP, hD, hKK, hI⟩ := id hR
    have h1 : i < gL h a := h1
    have hlen := (hok.2.1 a).1
    obtain ⟨q0, e, he, hE⟩ := hI a (by omega) (by omega)
    obtain ⟨cA, t0, he2, ht0⟩ := isE_arr hE ha (by omega)
    subst he2
    refine va_zast hx hb hKK hP hD hS q0 t0 he ht0 (z_in oi h0 (by omega)) d (fun H1 lc1 hP1 hD1 hS1 => ?_)
    rw [z_cl oi] at hP1 hD1
    refine k pp ee RR ss mm aa bb me cc0 H1 lc1 lsC c0 s0 ce se C0 ⟨okh_pI hok ox, _, tys, hP1, hD1, hKK, inW_set hI he (fun _ => rfl) (fun _ => rfl) (fun b nb j => by rw [gI_pI, if_neg (fun z => nb z.1)]) (fun b nb j => rfl) (fun b nb j => rfl) (isE_mkA ha (by omega) cA t0 ?_ ht0)⟩ (SC_pI (a := a) hC (by omega)) hS1 hl ho hcu hsu
    refine congrArg Sum.inl (congrArg (Prod.mk cA) ?_)
    show ((gL h a).toNat, _) = ((gL h a).toNat, _)
    refine congrArg (Prod.mk _) (congrArg _ (funext fun j => ?_))
    show upd (fun j : Nat => Int32.ofInt (gI h a j)) i.toNat (vp_nar .boolean (Int32.ofInt x)) j = Int32.ofInt (gI (pI h (ad (some a)) i x) a j)
    rw [gI_pI, show vp_nar .boolean (Int32.ofInt x) = Int32.ofInt x from by rcases h01 with rfl | rfl <;> rfl]
    by_cases z : j = i.toNat
    · rw [if_pos ⟨rfl, by omega⟩]; simp [upd, z]
    · rw [if_neg (fun q => z (by have := q.2; omega))]; simp [upd, z]
  · exact k.elim
theorem sd_last (m pc : Nat)  (d : decode (mCod (Md m)) pc = .ok (.lastore, 1)) : SM G Md D A l m pc (oAStJ) := by
  refine ⟨mo_oAStJ, fun ls st h Q k pp ee RR ss mm aa bb me cc0 HH lc lsC c0 s0 ce se C0 hR hC hS hl ho hcu hsu => ?_⟩
  obtain ⟨⟨hx, hb, hml, hown, hts⟩, hr, hlk, hnm, het, hRm, htr, hA, hG⟩ := id C0
  unfold oAStJ at k
  split at k
  · next x i r t =>
    obtain ⟨⟨⟨a, rfl, ha⟩, h0, h1⟩, k⟩ := k
    replace ho := List.forall_mem_cons.mp ho
    obtain ⟨ox, ho⟩ := ho
    replace ho := List.forall_mem_cons.mp ho
    obtain ⟨oi, ho⟩ := ho
    replace ho := List.forall_mem_cons.mp ho
    obtain ⟨-, ho⟩ := ho
    obtain ⟨hok, ws, tys, hP, hD, hKK, hI⟩ := id hR
    have h1 : i < gL h a := h1
    have hlen := (hok.2.1 a).1
    obtain ⟨q0, e, he, hE⟩ := hI a (by omega) (by omega)
    obtain ⟨cA, t0, he2, ht0⟩ := isE_arr hE ha (by omega)
    subst he2
    refine va_last hx hb hKK hP hD hS q0 t0 he ht0 (z_in oi h0 (by omega)) d (fun H1 lc1 hP1 hD1 hS1 => ?_)
    rw [z_cl oi] at hP1 hD1
    refine k pp ee RR ss mm aa bb me cc0 H1 lc1 lsC c0 s0 ce se C0 ⟨okh_pJ hok, _, tys, hP1, hD1, hKK, inW_set hI he (fun _ => rfl) (fun _ => rfl) (fun b nb j => rfl) (fun b nb j => rfl) (fun b nb j => by rw [gJ_pJ, if_neg (fun z => nb z.1)]) (isE_mkA ha (by omega) cA t0 ?_ ht0)⟩ (SC_pJ hC) hS1 hl ho hcu hsu
    refine congrArg Sum.inl (congrArg (Prod.mk cA) ?_)
    show ((gL h a).toNat, _) = ((gL h a).toNat, _)
    refine congrArg (Prod.mk _) (congrArg _ (congrArg Sum.inl (funext fun j => ?_)))
    show vp_updL (fun j : Nat => gJ h a j) i.toNat x j = gJ (pJ h (ad (some a)) i x) a j
    rw [gJ_pJ]
    by_cases z : j = i.toNat
    · rw [if_pos ⟨rfl, by omega⟩]; simp [vp_updL, z]
    · rw [if_neg (fun q => z (by have := q.2; omega))]; simp [vp_updL, z]
  · exact k.elim
theorem sd_aastN (m pc : Nat)  (d : decode (mCod (Md m)) pc = .ok (.aastore, 1)) : SM G Md D A l m pc (oAStR 13 3) := by
  refine ⟨mo_oAStR 13 3, fun ls st h Q k pp ee RR ss mm aa bb me cc0 HH lc lsC c0 s0 ce se C0 hR hC hS hl ho hcu hsu => ?_⟩
  obtain ⟨⟨hx, hb, hml, hown, hts⟩, hr, hlk, hnm, het, hRm, htr, hA, hG⟩ := id C0
  unfold oAStR at k
  split at k
  · next x i r t =>
    obtain ⟨⟨⟨⟨a, rfl, ha⟩, h0, h1⟩, ⟨xa, rfl, hxa⟩⟩, k⟩ := k
    replace ho := List.forall_mem_cons.mp ho
    obtain ⟨ox, ho⟩ := ho
    replace ho := List.forall_mem_cons.mp ho
    obtain ⟨oi, ho⟩ := ho
    replace ho := List.forall_mem_cons.mp ho
    obtain ⟨-, ho⟩ := ho
    obtain ⟨hok, ws, tys, hP, hD, hKK, hI⟩ := id hR
    have h1 : i < gL h a := h1
    have hlen := (hok.2.1 a).1
    obtain ⟨q0, e, he, hE⟩ := hI a (by omega) (by omega)
    obtain ⟨cA, t0, he2, ht0⟩ := isE_arr hE ha (by omega)
    subst he2
    obtain ⟨qk, ev, hev, hEv⟩ := hI xa (by omega) (by omega)
    have hev2 := isE_obj hEv hxa (by omega)
    subst hev2
    refine va_astq (r := (RX2, TX2, 10)) hx hb hKK hP hD hS q0 t0 qk 2 he ht0 hev rfl (z_in oi h0 (by omega)) d (fun H1 lc1 hP1 hD1 hS1 => ?_)
    rw [z_cl oi] at hP1 hD1
    refine k pp ee RR ss mm aa bb me cc0 H1 lc1 lsC c0 s0 ce se C0 ⟨okh_pR hok, _, tys, hP1, hD1, hKK, inW_set hI he (fun _ => rfl) (fun _ => rfl) (fun b nb j => rfl) (fun b nb j => by rw [gR_pR, if_neg (fun z => nb z.1)]) (fun b nb j => rfl) (isE_mkA ha (by omega) cA t0 ?_ ht0)⟩ (SC_pR hC) hS1 hl ho hcu hsu
    refine congrArg Sum.inl (congrArg (Prod.mk cA) ?_)
    show ((gL h a).toNat, _) = ((gL h a).toNat, _)
    refine congrArg (Prod.mk _) (congrArg (fun z => Sum.inr (Sum.inr (Sum.inr (Sum.inr z)))) (funext fun j => ?_))
    show va_up (fun j : Nat => gR h a j) i.toNat (some xa) j = gR (pR h (ad (some a)) i (some xa)) a j
    rw [gR_pR]
    by_cases z : j = i.toNat
    · rw [if_pos ⟨rfl, by omega⟩]; simp [va_up, z]
    · rw [if_neg (fun q => z (by have := q.2; omega))]; simp [va_up, z]
  · exact k.elim
theorem sd_aastA (m pc : Nat)  (d : decode (mCod (Md m)) pc = .ok (.aastore, 1)) : SM G Md D A l m pc (oAStR 14 10) := by
  refine ⟨mo_oAStR 14 10, fun ls st h Q k pp ee RR ss mm aa bb me cc0 HH lc lsC c0 s0 ce se C0 hR hC hS hl ho hcu hsu => ?_⟩
  obtain ⟨⟨hx, hb, hml, hown, hts⟩, hr, hlk, hnm, het, hRm, htr, hA, hG⟩ := id C0
  unfold oAStR at k
  split at k
  · next x i r t =>
    obtain ⟨⟨⟨⟨a, rfl, ha⟩, h0, h1⟩, ⟨xa, rfl, hxa⟩⟩, k⟩ := k
    replace ho := List.forall_mem_cons.mp ho
    obtain ⟨ox, ho⟩ := ho
    replace ho := List.forall_mem_cons.mp ho
    obtain ⟨oi, ho⟩ := ho
    replace ho := List.forall_mem_cons.mp ho
    obtain ⟨-, ho⟩ := ho
    obtain ⟨hok, ws, tys, hP, hD, hKK, hI⟩ := id hR
    have h1 : i < gL h a := h1
    have hlen := (hok.2.1 a).1
    obtain ⟨q0, e, he, hE⟩ := hI a (by omega) (by omega)
    obtain ⟨cA, t0, he2, ht0⟩ := isE_arr hE ha (by omega)
    subst he2
    obtain ⟨qk, ev, hev, hEv⟩ := hI xa (by omega) (by omega)
    obtain ⟨cV, tV, hev2, htV⟩ := isE_arr hEv hxa (by omega)
    subst hev2
    refine va_astA (fun k q h1 h2 => by have z := (hKK.2 k q h1).2; rw [h2] at z; exact z) hG.2.2.2.2.2.2.2.2.1 hx hb hKK hP hD hS q0 t0 qk tV he ht0 hev htV (z_in oi h0 (by omega)) d (fun H1 lc1 hP1 hD1 hS1 => ?_)
    rw [z_cl oi] at hP1 hD1
    refine k pp ee RR ss mm aa bb me cc0 H1 lc1 lsC c0 s0 ce se C0 ⟨okh_pR hok, _, tys, hP1, hD1, hKK, inW_set hI he (fun _ => rfl) (fun _ => rfl) (fun b nb j => rfl) (fun b nb j => by rw [gR_pR, if_neg (fun z => nb z.1)]) (fun b nb j => rfl) (isE_mkA ha (by omega) cA t0 ?_ ht0)⟩ (SC_pR hC) hS1 hl ho hcu hsu
    refine congrArg Sum.inl (congrArg (Prod.mk cA) ?_)
    show ((gL h a).toNat, _) = ((gL h a).toNat, _)
    refine congrArg (Prod.mk _) (congrArg (fun z => Sum.inr (Sum.inr (Sum.inr (Sum.inr z)))) (funext fun j => ?_))
    show va_up (fun j : Nat => gR h a j) i.toNat (some xa) j = gR (pR h (ad (some a)) i (some xa)) a j
    rw [gR_pR]
    by_cases z : j = i.toNat
    · rw [if_pos ⟨rfl, by omega⟩]; simp [va_up, z]
    · rw [if_neg (fun q => z (by have := q.2; omega))]; simp [va_up, z]
  · exact k.elim
theorem sd_aastB (m pc : Nat)  (d : decode (mCod (Md m)) pc = .ok (.aastore, 1)) : SM G Md D A l m pc (oAStR 16 14) := by
  refine ⟨mo_oAStR 16 14, fun ls st h Q k pp ee RR ss mm aa bb me cc0 HH lc lsC c0 s0 ce se C0 hR hC hS hl ho hcu hsu => ?_⟩
  obtain ⟨⟨hx, hb, hml, hown, hts⟩, hr, hlk, hnm, het, hRm, htr, hA, hG⟩ := id C0
  unfold oAStR at k
  split at k
  · next x i r t =>
    obtain ⟨⟨⟨⟨a, rfl, ha⟩, h0, h1⟩, ⟨xa, rfl, hxa⟩⟩, k⟩ := k
    replace ho := List.forall_mem_cons.mp ho
    obtain ⟨ox, ho⟩ := ho
    replace ho := List.forall_mem_cons.mp ho
    obtain ⟨oi, ho⟩ := ho
    replace ho := List.forall_mem_cons.mp ho
    obtain ⟨-, ho⟩ := ho
    obtain ⟨hok, ws, tys, hP, hD, hKK, hI⟩ := id hR
    have h1 : i < gL h a := h1
    have hlen := (hok.2.1 a).1
    obtain ⟨q0, e, he, hE⟩ := hI a (by omega) (by omega)
    obtain ⟨cA, t0, he2, ht0⟩ := isE_arr hE ha (by omega)
    subst he2
    obtain ⟨qk, ev, hev, hEv⟩ := hI xa (by omega) (by omega)
    obtain ⟨cV, tV, hev2, htV⟩ := isE_arr hEv hxa (by omega)
    subst hev2
    refine va_astA (fun k q h1 h2 => by have z := (hKK.2 k q h1).2; rw [h2] at z; exact z) hG.2.2.2.2.2.2.2.2.2 hx hb hKK hP hD hS q0 t0 qk tV he ht0 hev htV (z_in oi h0 (by omega)) d (fun H1 lc1 hP1 hD1 hS1 => ?_)
    rw [z_cl oi] at hP1 hD1
    refine k pp ee RR ss mm aa bb me cc0 H1 lc1 lsC c0 s0 ce se C0 ⟨okh_pR hok, _, tys, hP1, hD1, hKK, inW_set hI he (fun _ => rfl) (fun _ => rfl) (fun b nb j => rfl) (fun b nb j => by rw [gR_pR, if_neg (fun z => nb z.1)]) (fun b nb j => rfl) (isE_mkA ha (by omega) cA t0 ?_ ht0)⟩ (SC_pR hC) hS1 hl ho hcu hsu
    refine congrArg Sum.inl (congrArg (Prod.mk cA) ?_)
    show ((gL h a).toNat, _) = ((gL h a).toNat, _)
    refine congrArg (Prod.mk _) (congrArg (fun z => Sum.inr (Sum.inr (Sum.inr (Sum.inr z)))) (funext fun j => ?_))
    show va_up (fun j : Nat => gR h a j) i.toNat (some xa) j = gR (pR h (ad (some a)) i (some xa)) a j
    rw [gR_pR]
    by_cases z : j = i.toNat
    · rw [if_pos ⟨rfl, by omega⟩]; simp [va_up, z]
    · rw [if_neg (fun q => z (by have := q.2; omega))]; simp [va_up, z]
  · exact k.elim
end SD2
end
section
/-! SOUNDNESS of the instructions that make things -/
section SDB
variable {p : Program} {l : Launch} {e : Env} {R : Room} {s : State} {m : MethodId} {args : Array Value} {below : List Frame} {meth : Method} {c : Code} {H : Heap} {locs : List Loc} {cells slots : Nat} {Q : State → Prop}
variable {cc : ByteArray} {pc : Nat} {ls : Array Slot} {rest : List Value} {D : va_G} {cl : List vw_C} {A : Nat → Prop} {a : Nat} {tys : List (ClassId × FieldType)} {ws : va_W} {H0 : Heap}
/-- a row of int arrays, by an instruction of one length -/
theorem va_newA2 {et : FieldType} (hexec : p.tables.exec = Jvm.exec) (hb : c.code = cc) {own : String} {index : Nat} (hown : s.vm.findClass own = some m.cls) (hclink : (Cond.classLink own index (FieldType.array et).toString).before args s = true) (hover : va_AOA et s) (hK : va_K D cl tys s) (hP : va_P D cl ws H) (hD : va_D A ws) (hS : va_S A H0 H locs) (hA : ∀ q, H0.size ≤ q → A q)
    {n : Int32} {N' : Nat} (hn : ¬ n < 0) (hN : n.toNatClampNeg = N') (hbytes : N' * 4 ≤ 536870912) (hcells : cells + 1 ≤ R.cells) (hslots : slots + N' ≤ R.slots) (hdg : decode cc pc = .ok (.anewarray index, 3))
    (kk : ∀ (q : Nat) (cA : ClassId) (H1 : Heap), va_K D cl (tys ++ [(cA, .array et)]) s → va_P D cl (ws ++ [(q, .inl (cA, N', .inr (.inr (.inr (.inr (fun _ => none))))))]) H1 → va_D A (ws ++ [(q, .inl (cA, N', .inr (.inr (.inr (.inr (fun _ => none))))))]) → va_S A H0 H1 locs →
      W p l e R s m args below meth c H1 locs (cells + 1) (slots + N') Q (F0 m (pc + 3) ls (.ref q :: rest))) : W p l e R s m args below meth c H locs cells slots Q (F0 m pc ls (.int n :: rest)) := by
  subst hN
  refine W.anewA hexec hb hown hclink (va_AOA.use hover) rfl hdg rfl hn hbytes hcells hslots fun cA kA comp f1 f2 f3 f4 => ?_
  generalize hH1 : H.push ({ cls := cA, slots := Array.replicate n.toNatClampNeg .null, vm := .none } : Cell) = H1
  have z1 : H1.size = H.size + 1 := by rw [← hH1, Array.size_push]
  have o1 : ∀ q : Nat, q < H.size → H1[q]? = H[q]? := fun q hq => by rw [← hH1, Array.getElem?_push, if_neg (Nat.ne_of_lt hq)]
  have e1 : H1[H.size]? = some (vp_cell cA (n.toNatClampNeg, .inr (.inr (.inr (.inr (fun _ => none)))))) := by
    rw [← hH1, Array.getElem?_push, if_pos rfl, vp_cell_q]
    rw [arrV_new]
    rfl
  refine kk H.size cA H1 ⟨hK.1, fun k x hx => ?_⟩ ((hP.kept (fun k x hx => o1 x.1 ((hP k x hx).lt))).app (fun k x hx => ?_)) (hD.push hP rfl (hA _ hS.1)) ⟨Nat.le_trans hS.1 (by omega), fun x h1 h2 => (o1 x (Nat.lt_of_lt_of_le h1 hS.1)).trans (hS.2.1 x h1 h2), hS.2.2⟩
  · by_cases hl : k < tys.length
    · rw [List.getElem?_append_left hl] at hx
      exact hK.2 k x hx
    · rw [List.getElem?_append_right (by omega)] at hx
      have hz : k - tys.length < 1 := (List.getElem?_eq_some_iff.mp hx).1
      rw [show k - tys.length = 0 by omega] at hx
      cases hx
      exact ⟨fun n z => ⟨fun k h => (by cases h), kA, f2, comp, f3⟩, f1⟩
  · have hz : k < 1 := (List.getElem?_eq_some_iff.mp hx).1
    rw [show k = 0 by omega] at hx
    cases hx
    exact e1
end SDB
theorem isE_tys {h : Zh} {tys tz : List (ClassId × FieldType)} {b : Nat} {e : va_E} (k : isE h tys b e) : isE h (tys ++ tz) b e := ⟨k.1, fun z => by
  obtain ⟨cA, t, h1, h2⟩ := k.2 z
  exact ⟨cA, t, h1, by rw [List.getElem?_append_left (List.getElem?_eq_some_iff.mp h2).1]; exact h2⟩⟩
theorem inW_tys {h : Zh} {tys tz : List (ClassId × FieldType)} {ws : va_W} (k : inW h tys ws) : inW h (tys ++ tz) ws := fun a h1 h2 => by
  obtain ⟨i, e, h3, h4⟩ := k a h1 h2
  exact ⟨i, e, h3, isE_tys h4⟩
/-- what lies in the world isn't new -/
theorem fresh_of {h : Zh} {A : Nat → Prop} {tys : List (ClassId × FieldType)} {ws wx : va_W} {s : State} {i q : Nat} {x : va_E} (hI : inW h tys ws) (hC : SC A h s) (hD : va_D A (ws ++ wx)) (hi : ws.length ≤ i) (hq : (ws ++ wx)[i]? = some (q, x)) : gK h q = 0 := by
  refine Decidable.byContradiction fun n0 => ?_
  by_cases n1 : gK h q = 15
  · exact (hC q n1).1 (hD.2 i _ hq)
  · obtain ⟨k, e, h1, -⟩ := hI q n0 n1
    have hk : k < ws.length := (List.getElem?_eq_some_iff.mp h1).1
    have h2 : (ws ++ wx)[k]? = some (q, e) := by rw [List.getElem?_append_left hk]; exact h1
    have := hD.1 k i _ _ h2 hq rfl
    omega
theorem inW_push {h : Zh} {tys : List (ClassId × FieldType)} {ws : va_W} {q kd : Nat} {n : Int} {e : va_E} (hI : inW h tys ws) (hE : isE (nw h q kd n) tys q e) : inW (nw h q kd n) tys (ws ++ [(q, e)]) := by
  intro b h0 h1
  by_cases z : b = q
  · subst z
    exact ⟨ws.length, e, by rw [List.getElem?_append_right (Nat.le_refl _), Nat.sub_self]; rfl, hE⟩
  · have e1 : gK (nw h q kd n) b = gK h b := by rw [gK_nw, if_neg z]
    rw [e1] at h0 h1
    obtain ⟨k, x, h2, h3⟩ := hI b h0 h1
    refine ⟨k, x, by rw [List.getElem?_append_left (List.getElem?_eq_some_iff.mp h2).1]; exact h2, isE_congr e1 (by rw [gL_nw, if_neg z]) (fun i => by rw [gI_nw, if_neg z]) (fun i => by rw [gR_nw, if_neg z]) (fun i => by rw [gJ_nw, if_neg z]) h3⟩
theorem okh_nw {h : Zh} {q c : Nat} {n : Int} (ho : okh h) (hc : c ≤ 7 ∨ (10 ≤ c ∧ c ≤ 16)) (hn : 0 ≤ n ∧ n ≤ 1000000) (h1 : gC h + 1 ≤ MXC) (h2 : gS h + n.toNat ≤ MXS) : okh (nw h q c n) := ⟨fun a i => by rw [gI_nw]; split; exact z_0; exact ho.1 a i, fun a => by rw [gL_nw]; split; exact hn; exact ho.2.1 a, fun a => by rw [gK_nw]; split; exact hc; exact ho.2.2.1 a, h1, h2⟩
theorem SC_nw {A : Nat → Prop} {h : Zh} {q c : Nat} {n : Int} {s : State} (hC : SC A h s) (hc : c ≠ 15) : SC A (nw h q c n) s := hC.congr fun b hb => by
  have z : b ≠ q := fun z => hc (by rw [gK_nw, if_pos z] at hb; exact hb)
  rw [gK_nw, if_neg z] at hb
  exact ⟨hb, by rw [gL_nw, if_neg z], fun i => by rw [gI_nw, if_neg z]⟩
theorem gK_nws (h : Zh) (q c : Nat) (n : Int) : gK (nw h q c n) q = c := by rw [gK_nw, if_pos rfl]
theorem encF_nw (h : Zh) (q c : Nat) (n : Int) : encF (nw h q c n) q c = (List.range (nF c)).map (fun k => if fR c k = true then Value.null else Value.int 0) := by
  unfold encF
  refine List.map_congr_left fun k _ => ?_
  rw [gR_nw, gI_nw, if_pos rfl, if_pos rfl]
  rfl
section SD3
variable {G : GwT} {Md : Nat → MdT} {D : va_G} {A : Nat → Prop} {l : Launch}
theorem sd_new (m pc : Nat) (c ix : Nat) (C : String) (T : u_T) (N : Nat) (hcl : vwCl[c - 1]? = some (C, T, N)) (hc : 1 ≤ c ∧ c ≤ 7) (hN : nF c = N) (hin : ∀ w ∈ u_ws C T N, w ∈ mWs (Md m)) (ty0 : Nat → FieldType) (hty : ∀ k, k < N → parseFieldDescriptor (T k).2.2.1 = some (ty0 k)) (hdf : ∀ j, j < N → defaultValue (ty0 j) = if fR c j = true then Value.null else Value.int 0)
    (w1 : Cond.classLink (mOwn (Md m)) ix C ∈ mWs (Md m)) (w2 : Cond.instantiable C N ∈ mWs (Md m)) (w3 : Cond.initialized C ∈ mWs (Md m)) (hN2 : N ≤ 1000)
    (d : decode (mCod (Md m)) pc = .ok (.new ix, 3)) : SM G Md D A l m pc (oNew c N) := by
  refine ⟨mo_oNew c N, fun ls st h Q k pp ee RR ss mm aa bb me cc0 HH lc lsC c0 s0 ce se C0 hR hC hS hl ho hcu hsu => ?_⟩
  obtain ⟨⟨hx, hb, hml, hown, hts⟩, hr, hlk, hnm, het, hRm, htr, hA, hG⟩ := id C0
  unfold oNew at k
  obtain ⟨⟨k1, k2⟩, k⟩ := k
  obtain ⟨hok, ws, tys, hP, hD, hKK, hI⟩ := id hR
  have r1 : RR.cells = MXC - c0 := by rw [hRm]; rfl
  have r2 : RR.slots = MXS - s0 := by rw [hRm]; rfl
  refine va_new hx hb hts hin ty0 hty hown (hts _ w1) (hts _ w2) (hts _ w3) hKK hP hD hS hA hcl (fs := (List.range (nF c)).map (fun k => if fR c k = true then Value.null else Value.int 0)) (fun j hj => ?_) (by omega) (by omega) d (fun q H1 hP1 hD1 hS1 => ?_)
  · rw [hdf j hj]
    unfold vp_V
    rw [List.getD_eq_getElem?_getD, List.getElem?_map, List.getElem?_range (by omega)]
    rfl
  · have hf : gK h q = 0 := fresh_of hI hC hD1 (Nat.le_refl _) (by rw [List.getElem?_append_right (Nat.le_refl _), Nat.sub_self]; rfl)
    refine k q hf pp ee RR ss mm aa bb me cc0 H1 lc lsC c0 s0 (ce + 1) (se + N) C0 ⟨okh_nw hok (Or.inl hc.2) (by omega) k1 (by rw [Int.toNat_natCast]; exact k2), _, tys, hP1, hD1, hKK, inW_push hI (isE_mkO (c := c) (gK_nws _ _ _ _) hc.2 (by rw [encF_nw]))⟩ (SC_nw hC (by omega)) hS1 hl (List.forall_mem_cons.mpr ⟨trivial, ho⟩) (by rw [gC_nw]; omega) (by rw [gS_nw, Int.toNat_natCast]; omega)
theorem sd_newA (m pc : Nat) (c : Nat) (at0 : ArrayType) (hat : (at0 = .int ∧ c = 10) ∨ (at0 = .long ∧ c = 11) ∨ (at0 = .boolean ∧ c = 12)) (w1 : Cond.arrayClass (newarray.typeOf at0) ∈ mWs (Md m))
    (d : decode (mCod (Md m)) pc = .ok (.newarray at0, 2)) : SM G Md D A l m pc (oNewA c 2) := by
  refine ⟨mo_oNewA c 2, fun ls st h Q k pp ee RR ss mm aa bb me cc0 HH lc lsC c0 s0 ce se C0 hR hC hS hl ho hcu hsu => ?_⟩
  obtain ⟨⟨hx, hb, hml, hown, hts⟩, hr, hlk, hnm, het, hRm, htr, hA, hG⟩ := id C0
  unfold oNewA at k
  split at k
  · next n t =>
    obtain ⟨on, ho⟩ := List.forall_mem_cons.mp ho
    obtain ⟨⟨k0, k3, k1, k2⟩, k⟩ := k
    obtain ⟨hok, ws, tys, hP, hD, hKK, hI⟩ := id hR
    have r1 : RR.cells = MXC - c0 := by rw [hRm]; rfl
    have r2 : RR.slots = MXS - s0 := by rw [hRm]; rfl
    have fin : ∀ (q : Nat) (cA : ClassId) (H1 : Heap) (a0 : vp_A), va_K D vwCl (tys ++ [(cA, akT c)]) ss → va_P D vwCl (ws ++ [(q, .inl (cA, a0))]) H1 → va_D A (ws ++ [(q, .inl (cA, a0))]) → va_S A ss.heap H1 lc → akE (nw h q c n) q c = a0 → 10 ≤ c → c ≤ 12 →
        W pp l ee RR ss mm aa bb me cc0 H1 lc (ce + 1) (se + n.toNat) (EndZ D A Q c0 s0 bb ss) (F0 mm (pc + 2) lsC (.ref q :: t.map cz)) := by
      intro q cA H1 a0 hK1 hP1 hD1 hS1 he h10 h12
      have hf : gK h q = 0 := fresh_of hI hC hD1 (Nat.le_refl _) (by rw [List.getElem?_append_right (Nat.le_refl _), Nat.sub_self]; rfl)
      exact k q hf pp ee RR ss mm aa bb me cc0 H1 lc lsC c0 s0 (ce + 1) (se + n.toNat) C0 ⟨okh_nw hok (by omega) (by omega) k1 k2, _, _, hP1, hD1, hK1, inW_push (inW_tys hI) (isE_mkA (gK_nws _ _ _ _) h10 cA tys.length (by rw [he]) (by rw [List.getElem?_append_right (Nat.le_refl _), Nat.sub_self]; rfl))⟩ (SC_nw hC (by omega)) hS1 hl (List.forall_mem_cons.mpr ⟨trivial, ho⟩) (by rw [gC_nw]; omega) (by rw [gS_nw]; omega)
    have hb1 : n.toNat ≤ 1000000 := by omega
    rcases hat with ⟨rfl, rfl⟩ | ⟨rfl, rfl⟩ | ⟨rfl, rfl⟩
    · refine va_newa (ty := .int) (N' := n.toNat) (a0 := (n.toNat, .inl (fun _ => 0))) hx hb (hts _ w1) rfl hKK hP hD hS hA (fun _ => rfl) (z_nneg on k0) (z_cl on) (by show n.toNat * 4 ≤ _; omega) (by omega) (by omega) d (fun q cA H1 hK1 hP1 hD1 hS1 => fin q cA H1 _ hK1 hP1 hD1 hS1 ?_ (by omega) (by omega))
      show ((gL (nw h q 10 n) q).toNat, _) = (n.toNat, _)
      rw [gL_nw, if_pos rfl]
      exact congrArg (Prod.mk _) (congrArg Sum.inl (funext fun j => by rw [gI_nw, if_pos rfl]; rfl))
    · refine va_newa (ty := .long) (N' := n.toNat) (a0 := (n.toNat, .inr (.inl (fun _ => 0)))) hx hb (hts _ w1) rfl hKK hP hD hS hA (fun _ => rfl) (z_nneg on k0) (z_cl on) (by show n.toNat * 8 ≤ _; omega) (by omega) (by omega) d (fun q cA H1 hK1 hP1 hD1 hS1 => fin q cA H1 _ hK1 hP1 hD1 hS1 ?_ (by omega) (by omega))
      show ((gL (nw h q 11 n) q).toNat, _) = (n.toNat, _)
      rw [gL_nw, if_pos rfl]
      exact congrArg (Prod.mk _) (congrArg Sum.inr (congrArg Sum.inl (funext fun j => by rw [gJ_nw, if_pos rfl])))
    · refine va_newa (ty := .boolean) (N' := n.toNat) (a0 := (n.toNat, .inl (fun _ => 0))) hx hb (hts _ w1) rfl hKK hP hD hS hA (fun _ => rfl) (z_nneg on k0) (z_cl on) (by show n.toNat * 1 ≤ _; omega) (by omega) (by omega) d (fun q cA H1 hK1 hP1 hD1 hS1 => fin q cA H1 _ hK1 hP1 hD1 hS1 ?_ (by omega) (by omega))
      show ((gL (nw h q 12 n) q).toNat, _) = (n.toNat, _)
      rw [gL_nw, if_pos rfl]
      exact congrArg (Prod.mk _) (congrArg Sum.inl (funext fun j => by rw [gI_nw, if_pos rfl]; rfl))
  · exact k.elim
theorem sd_newR (m pc : Nat) (c ix : Nat) (C : String) (hat : (C = "Marginalia$Note" ∧ c = 13) ∨ (C = "[I" ∧ c = 14) ∨ (C = "[[I" ∧ c = 16)) (w1 : Cond.classLink (mOwn (Md m)) ix C ∈ mWs (Md m))
    (d : decode (mCod (Md m)) pc = .ok (.anewarray ix, 3)) : SM G Md D A l m pc (oNewA c 3) := by
  refine ⟨mo_oNewA c 3, fun ls st h Q k pp ee RR ss mm aa bb me cc0 HH lc lsC c0 s0 ce se C0 hR hC hS hl ho hcu hsu => ?_⟩
  obtain ⟨⟨hx, hb, hml, hown, hts⟩, hr, hlk, hnm, het, hRm, htr, hA, hG⟩ := id C0
  unfold oNewA at k
  split at k
  · next n t =>
    obtain ⟨on, ho⟩ := List.forall_mem_cons.mp ho
    obtain ⟨⟨k0, k3, k1, k2⟩, k⟩ := k
    obtain ⟨hok, ws, tys, hP, hD, hKK, hI⟩ := id hR
    have r1 : RR.cells = MXC - c0 := by rw [hRm]; rfl
    have r2 : RR.slots = MXS - s0 := by rw [hRm]; rfl
    have fin : ∀ (q : Nat) (cA : ClassId) (H1 : Heap), va_K D vwCl (tys ++ [(cA, akT c)]) ss → va_P D vwCl (ws ++ [(q, .inl (cA, n.toNat, .inr (.inr (.inr (.inr (fun _ => none))))))]) H1 → va_D A (ws ++ [(q, .inl (cA, n.toNat, .inr (.inr (.inr (.inr (fun _ => none))))))]) → va_S A ss.heap H1 lc → c = 13 ∨ c = 14 ∨ c = 16 →
        W pp l ee RR ss mm aa bb me cc0 H1 lc (ce + 1) (se + n.toNat) (EndZ D A Q c0 s0 bb ss) (F0 mm (pc + 3) lsC (.ref q :: t.map cz)) := by
      intro q cA H1 hK1 hP1 hD1 hS1 h13
      have hf : gK h q = 0 := fresh_of hI hC hD1 (Nat.le_refl _) (by rw [List.getElem?_append_right (Nat.le_refl _), Nat.sub_self]; rfl)
      have he : akE (nw h q c n) q c = (n.toNat, .inr (.inr (.inr (.inr (fun _ => none))))) := by
        rcases h13 with rfl | rfl | rfl <;>
        · show ((gL (nw h q _ n) q).toNat, _) = (n.toNat, _)
          rw [gL_nw, if_pos rfl]
          exact congrArg (Prod.mk _) (congrArg (fun z => Sum.inr (Sum.inr (Sum.inr (Sum.inr z)))) (funext fun j => by rw [gR_nw, if_pos rfl]))
      exact k q hf pp ee RR ss mm aa bb me cc0 H1 lc lsC c0 s0 (ce + 1) (se + n.toNat) C0 ⟨okh_nw hok (by omega) (by omega) k1 k2, _, _, hP1, hD1, hK1, inW_push (inW_tys hI) (isE_mkA (gK_nws _ _ _ _) (by omega) cA tys.length (by rw [he]) (by rw [List.getElem?_append_right (Nat.le_refl _), Nat.sub_self]; rfl))⟩ (SC_nw hC (by omega)) hS1 hl (List.forall_mem_cons.mpr ⟨trivial, ho⟩) (by rw [gC_nw]; omega) (by rw [gS_nw]; omega)
    have hb1 : n.toNat ≤ 1000000 := by omega
    rcases hat with ⟨rfl, rfl⟩ | ⟨rfl, rfl⟩ | ⟨rfl, rfl⟩
    · exact va_newq hx hb hown (hts _ w1) hG.2.2.2.2.2.2.2.1 hKK hP hD hS hA (z_nneg on k0) (z_cl on) (by omega) (by omega) (by omega) d (fun q cA H1 hK1 hP1 hD1 hS1 => fin q cA H1 hK1 hP1 hD1 hS1 (by omega))
    · exact va_newA2 hx hb hown (hts _ w1) hG.2.2.2.2.2.2.2.2.1 hKK hP hD hS hA (z_nneg on k0) (z_cl on) (by omega) (by omega) (by omega) d (fun q cA H1 hK1 hP1 hD1 hS1 => fin q cA H1 hK1 hP1 hD1 hS1 (by omega))
    · exact va_newA2 hx hb hown (hts _ w1) hG.2.2.2.2.2.2.2.2.2 hKK hP hD hS hA (z_nneg on k0) (z_cl on) (by omega) (by omega) (by omega) d (fun q cA H1 hK1 hP1 hD1 hS1 => fin q cA H1 hK1 hP1 hD1 hS1 (by omega))
  · exact k.elim
end SD3
end
section
/-! SOUNDNESS of new int[n][m], arraycopy, Math, Object's constructor, returns, throws -/
theorem sum_cz : ∀ (r : List Zv), ((r.map cz).map (fun v => v.category)).sum = (r.map ctz).sum
  | [] => rfl
  | v :: r => by rw [List.map_cons, List.map_cons, List.map_cons, List.sum_cons, List.sum_cons, ctz_cz, sum_cz r]
section SD4
variable {G : GwT} {Md : Nat → MdT} {D : va_G} {A : Nat → Prop} {l : Launch}
theorem sd_max (m pc ix : Nat) (w1 : Cond.methodLink (mOwn (Md m)) ix Lib.Math.max.name ∈ mWs (Md m)) (w2 : Cond.static Lib.Math.max.name ∈ mWs (Md m)) (w3 : Cond.initialized "java/lang/Math" ∈ mWs (Md m)) (w4 : Cond.code Lib.Math.max.name Lib.Math.max.code 2 (some .int) ∈ mWs (Md m)) (hfr : 1 ≤ mFr (Md m)) (hlo : 21 ≤ mLo (Md m))
    (d : decode (mCod (Md m)) pc = .ok (.invokestatic ix, 3)) : SM G Md D A l m pc oMax := by
  refine ⟨mo_oMax, fun ls st h Q k pp ee RR ss mm aa bb me cc0 HH lc lsC c0 s0 ce se C0 hR hC hS hl ho hcu hsu => ?_⟩
  obtain ⟨⟨hx, hb, hml, hown, hts⟩, hr, hlk, hnm, het, hRm, htr, hA, hG⟩ := id C0
  have hok := hR.1
  unfold oMax at k
  split at k
  · next b a r =>
    obtain ⟨k0, k⟩ := gd_iff.mp k
    have k0 := Nat.le_of_ble_eq_true k0
    have oa : inR a := ho (zi a) (by simp)
    have ob : inR b := ho (zi b) (by simp)
    have hor : ∀ v ∈ r, okz v := fun v hv => ho v (by simp [hv])
    have e9 : (if Int32.ofInt a < Int32.ofInt b then Int32.ofInt b else Int32.ofInt a) = Int32.ofInt (if a < b then b else a) := by
      by_cases z : a < b
      · rw [if_pos z, if_pos ((z_lt oa ob).mpr z)]
      · rw [if_neg z, if_neg (fun q => z ((z_lt oa ob).mp q))]
    refine va_mmax hx hb (by rw [hml, hl.1]) hown (hts _ w1) (hts _ w2) (hts _ w3) (hts _ w4) (by rw [hRm]; exact hfr) (by rw [sum_cz, hRm]; show _ ≤ mLo (Md m); omega) (by rw [hRm]; show ce ≤ MXC - c0; have := hok.2.2.2.1; omega) (by rw [hRm]; show se ≤ MXS - s0; have := hok.2.2.2.2; omega) d ?_
    rw [e9]
    exact k pp ee RR ss mm aa bb me cc0 HH lc lsC c0 s0 ce se C0 hR hC hS hl (List.forall_mem_cons.mpr ⟨by show inR (if a < b then b else a); split; exact ob; exact oa, hor⟩) hcu hsu
  · exact k.elim
theorem sd_min (m pc ix : Nat) (w1 : Cond.methodLink (mOwn (Md m)) ix Lib.Math.min.name ∈ mWs (Md m)) (w2 : Cond.static Lib.Math.min.name ∈ mWs (Md m)) (w3 : Cond.initialized "java/lang/Math" ∈ mWs (Md m)) (w4 : Cond.code Lib.Math.min.name Lib.Math.min.code 2 (some .int) ∈ mWs (Md m)) (hfr : 1 ≤ mFr (Md m)) (hlo : 21 ≤ mLo (Md m))
    (d : decode (mCod (Md m)) pc = .ok (.invokestatic ix, 3)) : SM G Md D A l m pc oMin := by
  refine ⟨mo_oMin, fun ls st h Q k pp ee RR ss mm aa bb me cc0 HH lc lsC c0 s0 ce se C0 hR hC hS hl ho hcu hsu => ?_⟩
  obtain ⟨⟨hx, hb, hml, hown, hts⟩, hr, hlk, hnm, het, hRm, htr, hA, hG⟩ := id C0
  have hok := hR.1
  unfold oMin at k
  split at k
  · next b a r =>
    obtain ⟨k0, k⟩ := gd_iff.mp k
    have k0 := Nat.le_of_ble_eq_true k0
    have oa : inR a := ho (zi a) (by simp)
    have ob : inR b := ho (zi b) (by simp)
    have hor : ∀ v ∈ r, okz v := fun v hv => ho v (by simp [hv])
    have e9 : (if Int32.ofInt b < Int32.ofInt a then Int32.ofInt b else Int32.ofInt a) = Int32.ofInt (if b < a then b else a) := by
      by_cases z : b < a
      · rw [if_pos z, if_pos ((z_lt ob oa).mpr z)]
      · rw [if_neg z, if_neg (fun q => z ((z_lt ob oa).mp q))]
    refine va_mmin hx hb (by rw [hml, hl.1]) hown (hts _ w1) (hts _ w2) (hts _ w3) (hts _ w4) (by rw [hRm]; exact hfr) (by rw [sum_cz, hRm]; show _ ≤ mLo (Md m); omega) (by rw [hRm]; show ce ≤ MXC - c0; have := hok.2.2.2.1; omega) (by rw [hRm]; show se ≤ MXS - s0; have := hok.2.2.2.2; omega) d ?_
    rw [e9]
    exact k pp ee RR ss mm aa bb me cc0 HH lc lsC c0 s0 ce se C0 hR hC hS hl (List.forall_mem_cons.mpr ⟨by show inR (if b < a then b else a); split; exact ob; exact oa, hor⟩) hcu hsu
  · exact k.elim
theorem sd_abs (m pc ix : Nat) (w1 : Cond.methodLink (mOwn (Md m)) ix Lib.Math.abs.name ∈ mWs (Md m)) (w2 : Cond.static Lib.Math.abs.name ∈ mWs (Md m)) (w3 : Cond.initialized "java/lang/Math" ∈ mWs (Md m)) (w4 : Cond.code Lib.Math.abs.name Lib.Math.abs.code 1 (some .int) ∈ mWs (Md m)) (hfr : 1 ≤ mFr (Md m)) (hlo : 21 ≤ mLo (Md m))
    (d : decode (mCod (Md m)) pc = .ok (.invokestatic ix, 3)) : SM G Md D A l m pc oAbs := by
  refine ⟨mo_oAbs, fun ls st h Q k pp ee RR ss mm aa bb me cc0 HH lc lsC c0 s0 ce se C0 hR hC hS hl ho hcu hsu => ?_⟩
  obtain ⟨⟨hx, hb, hml, hown, hts⟩, hr, hlk, hnm, het, hRm, htr, hA, hG⟩ := id C0
  have hok := hR.1
  unfold oAbs at k
  split at k
  · next a r =>
    obtain ⟨k0, kr, k⟩ := gd_iff.mp k
    have k0 := Nat.le_of_ble_eq_true k0
    have oa : inR a := ho (zi a) (by simp)
    have hor : ∀ v ∈ r, okz v := fun v hv => ho v (by simp [hv])
    have e9 : (if 0 ≤ Int32.ofInt a then Int32.ofInt a else 0 - Int32.ofInt a) = Int32.ofInt (if a < 0 then -a else a) := by
      by_cases z : a < 0
      · rw [if_pos z, if_neg (fun q => by rw [z_0e, z_le z_0 oa] at q; omega), z_0e, ← Int32.ofInt_sub]
        congr 1
        omega
      · rw [if_neg z, if_pos (by rw [z_0e, z_le z_0 oa]; omega)]
    refine va_mabs hx hb (by rw [hml, hl.1]) hown (hts _ w1) (hts _ w2) (hts _ w3) (hts _ w4) (by rw [hRm]; exact hfr) (by rw [sum_cz, hRm]; show _ ≤ mLo (Md m); omega) (by rw [hRm]; show ce ≤ MXC - c0; have := hok.2.2.2.1; omega) (by rw [hRm]; show se ≤ MXS - s0; have := hok.2.2.2.2; omega) d ?_
    rw [e9]
    exact k pp ee RR ss mm aa bb me cc0 HH lc lsC c0 s0 ce se C0 hR hC hS hl (List.forall_mem_cons.mpr ⟨by show inR (if a < 0 then -a else a); split; exact kr; exact oa, hor⟩) hcu hsu
  · exact k.elim
theorem sd_obj (m pc ix : Nat) (w1 : Cond.methodLink (mOwn (Md m)) ix Lib.objectInit ∈ mWs (Md m)) (w2 : Cond.instanceMethod Lib.objectInit ∈ mWs (Md m)) (w3 : Cond.code Lib.objectInit ⟨#[0xb1]⟩ 1 none ∈ mWs (Md m)) (hfr : 1 ≤ mFr (Md m)) (hlo : 20 ≤ mLo (Md m))
    (d : decode (mCod (Md m)) pc = .ok (.invokespecial ix, 3)) : SM G Md D A l m pc oObj := by
  refine ⟨mo_oObj, fun ls st h Q k pp ee RR ss mm aa bb me cc0 HH lc lsC c0 s0 ce se C0 hR hC hS hl ho hcu hsu => ?_⟩
  obtain ⟨⟨hx, hb, hml, hown, hts⟩, hr, hlk, hnm, het, hRm, htr, hA, hG⟩ := id C0
  unfold oObj at k
  split at k
  · next a r =>
    replace k := gd_iff.mp k
    obtain ⟨k0, kn, k⟩ := k
    have k0 := Nat.le_of_ble_eq_true k0
    obtain ⟨a, rfl⟩ : ∃ b, a = some b := by cases a with | none => exact absurd rfl kn | some b => exact ⟨b, rfl⟩
    have hor : ∀ v ∈ r, okz v := fun v hv => ho v (by simp [hv])
    refine W.objInit hx hb hown (hts _ w1) (hts _ w2) (hts _ w3) rfl (by rw [hml]; exact hl.1) rfl d (by rw [hRm]; exact hfr) (by rw [sum_cz, hRm]; show 2 * 0 + _ + 12 ≤ mLo (Md m); omega) ?_
    exact k pp ee RR ss mm aa bb me cc0 HH lc lsC c0 s0 ce se C0 hR hC hS hl hor hcu hsu
  · exact k.elim
theorem okh_cpy {h : Zh} {s d : Nat} {sp dp n : Int} (ho : okh h) : okh (cpy h s sp d dp n) := ⟨fun b i => by rw [gI_cpy]; split <;> exact ho.1 _ _, ho.2.1, ho.2.2⟩
theorem sd_cpy (m pc ix : Nat) (w1 : Cond.methodLink (mOwn (Md m)) ix arraycopyName ∈ mWs (Md m)) (w2 : Cond.native arraycopyName ∈ mWs (Md m)) (w3 : Cond.static arraycopyName ∈ mWs (Md m)) (w4 : Cond.initialized "java/lang/System" ∈ mWs (Md m)) (hfr : 1 ≤ mFr (Md m)) (hlo : 8 + (nativeFrameWords "java/lang/System" "arraycopy" 5 + 11) ≤ mLo (Md m))
    (d : decode (mCod (Md m)) pc = .ok (.invokestatic ix, 3)) : SM G Md D A l m pc oCpy := by
  refine ⟨mo_oCpy, fun ls st h Q k pp ee RR ss mm aa bb me cc0 HH lc lsC c0 s0 ce se C0 hR hC hS hl ho hcu hsu => ?_⟩
  obtain ⟨⟨hx, hb, hml, hown, hts⟩, hr, hlk, hnm, het, hRm, htr, hA, hG⟩ := id C0
  unfold oCpy at k
  split at k
  · next n dp dr sp sr r =>
    obtain ⟨k0, ⟨⟨sa, rfl, hsa⟩, ⟨da, rfl, hda⟩, n0, sp0, dp0, hs1, hd1⟩, k⟩ := gd_iff.mp k
    have k0 := Nat.le_of_ble_eq_true k0
    have on : inR n := ho (zi n) (by simp)
    have od : inR dp := ho (zi dp) (by simp)
    have os : inR sp := ho (zi sp) (by simp)
    have hor : ∀ v ∈ r, okz v := fun v hv => ho v (by simp [hv])
    have hs1 : sp + n ≤ gL h sa := hs1
    have hd1 : dp + n ≤ gL h da := hd1
    obtain ⟨hok, ws, tys, hP, hD, hKK, hI⟩ := id hR
    obtain ⟨q0, e0, he0, hE0⟩ := hI sa (by omega) (by omega)
    obtain ⟨cA, t0, he2, ht0⟩ := isE_arr hE0 hsa (by omega)
    subst he2
    obtain ⟨q1, e1, he1, hE1⟩ := hI da (by omega) (by omega)
    obtain ⟨cB, t1, he3, ht1⟩ := isE_arr hE1 hda (by omega)
    subst he3
    refine va_copyi (ty := .int) hx hb (by rw [hml, hl.1]) hown (hts _ w1) (hts _ w2) (hts _ w3) (hts _ w4) hKK hP hD hS q0 q1 t0 t1 he0 he1 ht0 ht1 rfl (z_nneg os sp0) (z_nneg od dp0) (z_nneg on n0) (by rw [z_cl os, z_cl on]; omega) (by rw [z_cl od, z_cl on]; omega) (fun _ _ => rfl) (by rw [hRm]; exact hfr) (by rw [sum_cz, hRm]; show _ ≤ mLo (Md m); omega) d (fun H1 lc1 hP1 hD1 hS1 => ?_)
    rw [z_cl os, z_cl od, z_cl on] at hP1 hD1
    refine k pp ee RR ss mm aa bb me cc0 H1 lc1 lsC c0 s0 ce se C0 ⟨okh_cpy hok, _, tys, hP1, hD1, hKK, inW_set hI he1 (fun _ => rfl) (fun _ => rfl) (fun b nb j => by rw [gI_cpy, if_neg (fun z => nb z.1)]) (fun b nb j => rfl) (fun b nb j => rfl) (isE_mkA hda (by omega) cB t1 ?_ ht1)⟩ (hC.congr fun b hb9 => ⟨hb9, rfl, fun i => by rw [gI_cpy, if_neg (fun z => by have e5 : b = da := z.1; have e6 : gK h b = 15 := hb9; rw [e5, hda] at e6; omega)]⟩) hS1 hl hor hcu hsu
    refine congrArg Sum.inl (congrArg (Prod.mk cB) ?_)
    show ((gL h da).toNat, _) = ((gL h da).toNat, _)
    refine congrArg (Prod.mk _) (congrArg Sum.inl (funext fun j => ?_))
    show va_cpy (fun j : Nat => Int32.ofInt (gI h sa j)) (fun j : Nat => Int32.ofInt (gI h da j)) sp.toNat dp.toNat n.toNat j = Int32.ofInt (gI (cpy h sa sp da dp n) da j)
    rw [gI_cpy]
    unfold va_cpy
    by_cases z : dp.toNat ≤ j ∧ j < dp.toNat + n.toNat
    · rw [if_pos z, if_pos ⟨rfl, by omega, by omega⟩]
      show Int32.ofInt (gI h sa ((sp.toNat + (j - dp.toNat) : Nat) : Int)) = _
      rw [show ((sp.toNat + (j - dp.toNat) : Nat) : Int) = sp + (j - dp) by omega]
    · rw [if_neg z, if_neg (fun y => z (by have := y.2; omega))]
  · exact k.elim
theorem inW_nw2 {h : Zh} {tys : List (ClassId × FieldType)} {ws : va_W} {q : Nat} {r : Nat → Nat} {n : Nat} {k : Int} {cA cy : ClassId} {t1 t2 : Nat} {z : va_E} {f : Nat → va_E} (hI : inW h tys ws) (hn : ∀ i, i < n → r i ≠ q) (hfq : gK h q = 0) (hfr : ∀ i, i < n → gK h (r i) = 0)
    (h1 : tys[t1]? = some (cA, .array .int)) (h2 : tys[t2]? = some (cy, .int)) (hk : 0 ≤ k) (hz : z = .inl (cy, k.toNat, .inl (fun _ => 0))) :
    inW (nw2 h q r n k) tys ((ws ++ [(q, .inl (cA, n, .inr (.inr (.inr (.inr (fun i => if i < n then some (r i) else none))))))]) ++ va_pl ([] ++ (List.range n).map r) (vr_up f ((List.range n).map r) z)) := by
  have hmem : ∀ b, b ∈ (List.range n).map r → ∃ i, i < n ∧ r i = b := fun b hb => by
    obtain ⟨i, hi, rfl⟩ := List.mem_map.mp hb
    exact ⟨i, List.mem_range.mp hi, rfl⟩
  intro b h0 h15
  by_cases e1 : b = q
  · subst e1
    refine ⟨ws.length, _, by rw [List.getElem?_append_left (by simp), List.getElem?_append_right (Nat.le_refl _), Nat.sub_self]; rfl, ?_⟩
    refine isE_mkA (c := 14) (by rw [gK_nw2, if_pos rfl]) (by omega) cA t1 (congrArg Sum.inl (congrArg (Prod.mk cA) ?_)) h1
    show _ = ((gL (nw2 h b r n k) b).toNat, _)
    rw [gL_nw2, if_pos rfl, Int.toNat_natCast]
    refine congrArg (Prod.mk _) (congrArg (fun z => Sum.inr (Sum.inr (Sum.inr (Sum.inr z)))) (funext fun j => ?_))
    rw [gR_nw2, if_pos rfl]
    by_cases hj : j < n
    · rw [if_pos hj, if_pos (by omega), Int.toNat_natCast]
    · rw [if_neg hj, if_neg (by omega)]
  · by_cases e2 : b ∈ (List.range n).map r
    · obtain ⟨i, hi⟩ := List.getElem?_of_mem e2
      have e5 : ∀ y : va_E, ws.length + 1 + i - (ws ++ [(q, y)]).length = i := fun y => by simp <;> omega
      refine ⟨ws.length + 1 + i, z, ?_, ?_⟩
      · rw [List.getElem?_append_right (by simp <;> omega), e5]
        unfold va_pl
        rw [List.nil_append, List.getElem?_map, hi]
        show some (b, vr_up f _ z b) = _
        rw [vr_up_in e2]
      · subst hz
        refine isE_mkA (c := 10) (by rw [gK_nw2, if_neg e1, if_pos e2]) (by omega) cy t2 (congrArg Sum.inl (congrArg (Prod.mk cy) ?_)) h2
        show _ = ((gL (nw2 h q r n k) b).toNat, _)
        rw [gL_nw2, if_neg e1, if_pos e2]
        refine congrArg (Prod.mk _) (congrArg Sum.inl (funext fun j => ?_))
        rw [gI_nw2, if_pos (Or.inr e2)]
        rfl
    · have e3 : gK (nw2 h q r n k) b = gK h b := by rw [gK_nw2, if_neg e1, if_neg e2]
      rw [e3] at h0 h15
      obtain ⟨i, x, hx1, hx2⟩ := hI b h0 h15
      have hlt := (List.getElem?_eq_some_iff.mp hx1).1
      refine ⟨i, x, by rw [List.getElem?_append_left (by simp; omega), List.getElem?_append_left hlt]; exact hx1, isE_congr e3 (by rw [gL_nw2, if_neg e1, if_neg e2]) (fun j => by rw [gI_nw2, if_neg (fun y => y.elim e1 e2)]) (fun j => by rw [gR_nw2, if_neg e1, if_neg e2]) (fun j => by rw [gJ_nw2, if_neg (fun y => y.elim e1 e2)]) hx2⟩
theorem sd_new2 (m pc ix : Nat) (w1 : Cond.classLink (mOwn (Md m)) ix ("[" ++ (FieldType.array .int).toString) ∈ mWs (Md m)) (w2 : Cond.arrayClass .int ∈ mWs (Md m))
    (d : decode (mCod (Md m)) pc = .ok (.multianewarray ix 2, 4)) : SM G Md D A l m pc oNew2 := by
  refine ⟨mo_oNew2, fun ls st h Q k9 pp ee RR ss mm aa bb me cc0 HH lc lsC c0 s0 ce se C0 hR hC hS hl ho hcu hsu => ?_⟩
  obtain ⟨⟨hx, hb, hml, hown, hts⟩, hr, hlk, hnm, het, hRm, htr, hA, hG⟩ := id C0
  unfold oNew2 at k9
  split at k9
  · next k n t =>
    obtain ⟨⟨n0, n1, k0, k1, hc1, hc2⟩, k9⟩ := k9
    have on : inR n := ho (zi n) (by simp)
    have ok9 : inR k := ho (zi k) (by simp)
    have hor : ∀ v ∈ t, okz v := fun v hv => ho v (by simp [hv])
    obtain ⟨hok, ws, tys, hP, hD, hKK, hI⟩ := id hR
    obtain ⟨cy, ky, compy, f1, f2, f3⟩ := Cond.arrayClass_spec (hts _ w2)
    have hKK2 : va_K D vwCl (tys ++ [(cy, .int)]) ss := ⟨hKK.1, fun i x hx9 => by
      by_cases hl9 : i < tys.length
      · rw [List.getElem?_append_left hl9] at hx9
        exact hKK.2 i x hx9
      · rw [List.getElem?_append_right (by omega)] at hx9
        have hz : i - tys.length < 1 := (List.getElem?_eq_some_iff.mp hx9).1
        rw [show i - tys.length = 0 by omega] at hx9
        cases hx9
        exact ⟨fun n z => ⟨fun k h => (by cases h), ky, f2, compy, f3⟩, f1⟩⟩
    have b1 : k.toNat ≤ 1000 := by omega
    have b2 : n.toNat ≤ 1000 := by omega
    have e8 : (FieldType.array .int).toString = "[" ++ FieldType.int.toString := rfl
    refine va_mna (X := ws) (L := []) (f := fun _ => .inr (0, [])) (N' := n.toNat) (K' := k.toNat) (z := (k.toNat, .inl (fun _ => 0))) hx hb hown (hts _ w1) hG.2.2.2.2.2.2.2.2.1 (hts _ w2) (cy := cy) (by rw [e8]; exact f1) hKK2 (by rw [show va_pl [] (fun _ => (.inr (0, []) : va_E)) = [] from rfl, List.append_nil]; exact hP) (by rw [show va_pl [] (fun _ => (.inr (0, []) : va_E)) = [] from rfl, List.append_nil]; exact hD) hS hA (z_nneg on n0) (z_nneg ok9 k0) (z_cl on) (z_cl ok9) (by omega) (by show k.toNat * 4 ≤ _; omega) (by omega) rfl rfl (by rw [hRm]; show ce + (1 + n.toNat) ≤ MXC - c0; omega) (by rw [hRm]; show se + (n.toNat + n.toNat * k.toNat) ≤ MXS - s0; omega) (fun c => by show ({ cls := c, slots := Array.replicate k.toNat (defaultValue .int), vm := .none } : Cell) = _; rw [arrV_new]; rfl) d (fun q r cA H1 hinj hnL hK1 hP1 hD1 hS1 => ?_)
    have eP : ∀ (y : va_W), (ws ++ [(q, .inl (cA, n.toNat, .inr (.inr (.inr (.inr (fun i => if i < n.toNat then some (r i) else none))))))]) ++ y = ws ++ ([(q, .inl (cA, n.toNat, .inr (.inr (.inr (.inr (fun i => if i < n.toNat then some (r i) else none))))))] ++ y) := fun y => List.append_assoc _ _ _
    have hD2 := hD1
    rw [eP] at hD2
    have hq0 : gK h q = 0 := fresh_of (i := ws.length) hI hC hD2 (Nat.le_refl _) (by rw [List.getElem?_append_right (Nat.le_refl _), Nat.sub_self]; rfl)
    have hri : ∀ i, i < n.toNat → (((ws ++ [(q, .inl (cA, n.toNat, .inr (.inr (.inr (.inr (fun i => if i < n.toNat then some (r i) else none))))))]) ++ va_pl ([] ++ (List.range n.toNat).map r) (vr_up (fun _ => .inr (0, [])) ((List.range n.toNat).map r) (.inl (cy, (k.toNat, .inl (fun _ => 0)))))) : va_W)[ws.length + 1 + i]? = some (r i, .inl (cy, (k.toNat, .inl (fun _ => 0)))) := fun i hi => by
      rw [List.getElem?_append_right (by simp <;> omega)]
      rw [show ws.length + 1 + i - (ws ++ [(q, (.inl (cA, n.toNat, .inr (.inr (.inr (.inr (fun i => if i < n.toNat then some (r i) else none))))) : va_E))]).length = i by simp <;> omega]
      unfold va_pl
      rw [List.nil_append, List.getElem?_map, List.getElem?_map, List.getElem?_range hi]
      show some (r i, vr_up _ _ _ (r i)) = _
      rw [vr_up_in (List.mem_map.mpr ⟨i, List.mem_range.mpr hi, rfl⟩)]
    have hr0 : ∀ i, i < n.toNat → gK h (r i) = 0 ∧ r i ≠ q := fun i hi => by
      refine ⟨fresh_of (i := ws.length + 1 + i) hI hC hD2 (by omega) (by rw [← eP]; exact hri i hi), fun e => ?_⟩
      have := hD1.1 (ws.length + 1 + i) ws.length _ _ (hri i hi) (by rw [List.getElem?_append_left (by simp), List.getElem?_append_right (Nat.le_refl _), Nat.sub_self]; rfl) e
      omega
    refine k9 q r hq0 hr0 hinj pp ee RR ss mm aa bb me cc0 H1 lc lsC c0 s0 (ce + 1 + n.toNat) (se + n.toNat + n.toNat * k.toNat) C0 ⟨⟨fun a i => ?_, fun a => ?_, fun a => ?_, hc1, hc2⟩, _, _, hP1, hD1, hK1, inW_nw2 (cA := cA) (cy := cy) (t1 := (tys ++ [((cy, FieldType.int) : ClassId × FieldType)]).length) (t2 := tys.length) (inW_tys (inW_tys hI)) (fun i hi => (hr0 i hi).2) hq0 (fun i hi => (hr0 i hi).1) (by rw [List.getElem?_append_right (Nat.le_refl _), Nat.sub_self]; rfl) (by rw [List.getElem?_append_left (by simp), List.getElem?_append_right (Nat.le_refl _), Nat.sub_self]; rfl) k0 rfl⟩ (hC.congr fun b hb9 => ?_) hS1 hl (List.forall_mem_cons.mpr ⟨trivial, hor⟩) (by rw [gC_nw2]; omega) (by rw [gS_nw2]; omega)
    · rw [gI_nw2]; split; exact z_0; exact hok.1 a i
    · rw [gL_nw2]; split; omega; split; omega; exact hok.2.1 a
    · rw [gK_nw2]; split; omega; split; omega; exact hok.2.2.1 a
    · rw [gK_nw2] at hb9
      by_cases z1 : b = q
      · rw [if_pos z1] at hb9; omega
      · rw [if_neg z1] at hb9
        by_cases z2 : b ∈ (List.range n.toNat).map r
        · rw [if_pos z2] at hb9; omega
        · rw [if_neg z2] at hb9
          exact ⟨hb9, by rw [gL_nw2, if_neg z1, if_neg z2], fun i => by rw [gI_nw2, if_neg (fun y => y.elim z1 z2)]⟩
  · exact k9.elim
/-- from the kit's ends to ours -/
theorem end_ret {h : Zh} {Q : Zp} {s : State} {H : Heap} {locs : List Loc} {args : Array Value} {below : List Frame} {c0 s0 ce se : Nat} (hR : RH D A h s H) (hC : SC A h s) (hS : va_S A s.heap H locs) (hcu : gC h = c0 + ce) (hsu : gS h = s0 + se) {v : Option Zv} (hv : ∀ x, v = some x → okz x) (hQ : Q (.inl v) h) :
    ∀ t, MQ below (fun _ st o t => o = .returned (v.map cz) ∧ t.heap = H ∧ st.WarmedH t.vm) args s ce se A t → EndZ D A Q c0 s0 below s t := by
  rintro t ⟨o, c1, c2, ⟨rfl, hh, hW⟩, L, hF, hL⟩
  refine ⟨_, c1, c2, Or.inl ⟨v, h, L, rfl, hv, hQ, by rw [hh]; exact hR.moved hW.alike, SC.fwd hW.alike (by rw [hh]; exact hS.1) (fun a h1 h2 => by rw [hh]; exact hS.2.1 a h1 h2) hC, hS.F hh, by omega, by omega, ?_, hL⟩⟩
  rw [show gC h - c0 = ce by omega, show gS h - s0 = se by omega]
  exact hF
theorem sd_iret (m pc : Nat) (hret : mRet (Md m) = some .int) (d : decode (mCod (Md m)) pc = .ok (.ireturn, 1)) : SM G Md D A l m pc oRetI := by
  refine ⟨mo_oRetI, fun ls st h Q k pp ee RR ss mm aa bb me cc0 HH lc lsC c0 s0 ce se C0 hR hC hS hl ho hcu hsu => ?_⟩
  obtain ⟨⟨hx, hb, hml, hown, hts⟩, hr, hlk, hnm, het, hRm, htr, hA, hG⟩ := id C0
  unfold oRetI at k
  split at k
  · next x =>
    exact W_mo (end_ret hR hC hS hcu hsu (v := some (zi x)) (fun y e => by cases e; exact ho _ List.mem_cons_self) k) (W.iret hx hb (by rw [hr, hret]) (fun t h1 h2 => ⟨rfl, h1, h2⟩) hS.2.2 d hlk)
  · exact k.elim
theorem sd_zret (m pc : Nat) (hret : mRet (Md m) = some .boolean) (d : decode (mCod (Md m)) pc = .ok (.ireturn, 1)) : SM G Md D A l m pc oRetZ := by
  refine ⟨mo_oRetZ, fun ls st h Q k pp ee RR ss mm aa bb me cc0 HH lc lsC c0 s0 ce se C0 hR hC hS hl ho hcu hsu => ?_⟩
  obtain ⟨⟨hx, hb, hml, hown, hts⟩, hr, hlk, hnm, het, hRm, htr, hA, hG⟩ := id C0
  unfold oRetZ at k
  split at k
  · next x =>
    obtain ⟨h01, k⟩ := k
    exact W_mo (end_ret hR hC hS hcu hsu (v := some (zi x)) (fun y e => by cases e; exact ho _ List.mem_cons_self) k) (W.zret hx hb (by rw [hr, hret]) (by rcases h01 with rfl | rfl <;> rfl) (fun t h1 h2 => ⟨rfl, h1, h2⟩) hS.2.2 d hlk)
  · exact k.elim
theorem sd_lret (m pc : Nat) (hret : mRet (Md m) = some .long) (d : decode (mCod (Md m)) pc = .ok (.lreturn, 1)) : SM G Md D A l m pc oRetL := by
  refine ⟨mo_oRetL, fun ls st h Q k pp ee RR ss mm aa bb me cc0 HH lc lsC c0 s0 ce se C0 hR hC hS hl ho hcu hsu => ?_⟩
  obtain ⟨⟨hx, hb, hml, hown, hts⟩, hr, hlk, hnm, het, hRm, htr, hA, hG⟩ := id C0
  unfold oRetL at k
  split at k
  · next x =>
    exact W_mo (end_ret hR hC hS hcu hsu (v := some (zl x)) (fun y e => by cases e; trivial) k) (W.lret hx hb (by rw [hr, hret]) (fun t h1 h2 => ⟨rfl, h1, h2⟩) hS.2.2 d hlk)
  · exact k.elim
theorem sd_dret (m pc : Nat) (hret : mRet (Md m) = some .double) (d : decode (mCod (Md m)) pc = .ok (.dreturn, 1)) : SM G Md D A l m pc oRetD := by
  refine ⟨mo_oRetD, fun ls st h Q k pp ee RR ss mm aa bb me cc0 HH lc lsC c0 s0 ce se C0 hR hC hS hl ho hcu hsu => ?_⟩
  obtain ⟨⟨hx, hb, hml, hown, hts⟩, hr, hlk, hnm, het, hRm, htr, hA, hG⟩ := id C0
  unfold oRetD at k
  split at k
  · next x =>
    exact W_mo (end_ret hR hC hS hcu hsu (v := some (zd x)) (fun y e => by cases e; trivial) k) (W.dret hx hb (by rw [hr, hret]) (fun t h1 h2 => ⟨rfl, h1, h2⟩) hS.2.2 d hlk)
  · exact k.elim
theorem sd_aret (m pc : Nat) {rt : FieldType} (hret : mRet (Md m) = some rt) (hrt : (∃ n, rt = .object n) ∨ ∃ t, rt = .array t) (d : decode (mCod (Md m)) pc = .ok (.areturn, 1)) : SM G Md D A l m pc oRetR := by
  refine ⟨mo_oRetR, fun ls st h Q k pp ee RR ss mm aa bb me cc0 HH lc lsC c0 s0 ce se C0 hR hC hS hl ho hcu hsu => ?_⟩
  obtain ⟨⟨hx, hb, hml, hown, hts⟩, hr, hlk, hnm, het, hRm, htr, hA, hG⟩ := id C0
  unfold oRetR at k
  split at k
  · next x =>
    exact W_mo (end_ret hR hC hS hcu hsu (v := some (zr x)) (fun y e => by cases e; trivial) k) (W.aret hx hb (by rw [hr, hret]) hrt (by cases x; exact Or.inl rfl; exact Or.inr ⟨_, rfl⟩) (fun t h1 h2 => ⟨rfl, h1, h2⟩) hS.2.2 d hlk)
  · exact k.elim
theorem sd_vret (m pc : Nat) (hret : mRet (Md m) = none) (d : decode (mCod (Md m)) pc = .ok (.return_, 1)) : SM G Md D A l m pc oRetV := by
  refine ⟨mo_oRetV, fun ls st h Q k pp ee RR ss mm aa bb me cc0 HH lc lsC c0 s0 ce se C0 hR hC hS hl ho hcu hsu => ?_⟩
  obtain ⟨⟨hx, hb, hml, hown, hts⟩, hr, hlk, hnm, het, hRm, htr, hA, hG⟩ := id C0
  unfold oRetV at k
  split at k
  · exact W_mo (end_ret hR hC hS hcu hsu (v := none) (fun y e => by cases e) k) (W.vret hx hb (by rw [hr, hret]) (fun t h1 h2 => ⟨rfl, h1, h2⟩) hS.2.2 d hlk)
  · exact k.elim
/-- the superclasses of what is thrown, below Throwable -/
def xsup : List String := ["java/lang/RuntimeException", "java/lang/Exception"]
theorem RH_tk {h : Zh} {s t : State} {H : Heap} (hR : RH D A h s H) (hvm : s.vm.Alike t.vm) (hk : ∀ q : Nat, q < H.size → t.heap[q]? = H[q]?) (h1 : gC h + 1 ≤ MXC) (h2 : gS h + 6 ≤ MXS) : RH D A (tk h) t t.heap := by
  obtain ⟨hok, ws, tys, hP, hD, hKK, hI⟩ := hR
  exact ⟨⟨hok.1, hok.2.1, hok.2.2.1, h1, h2⟩, ws, tys, hP.kept (fun k x hx => hk x.1 ((hP k x hx).lt)), hD, hKK.moved hvm, fun a ha hb => by
    obtain ⟨i, e, g1, g2⟩ := hI a ha hb
    exact ⟨i, e, g1, isE_congr rfl rfl (fun _ => rfl) (fun _ => rfl) (fun _ => rfl) g2⟩⟩
theorem end_thr {h : Zh} {Q : Zp} {s : State} {H : Heap} {locs : List Loc} {args : Array Value} {below : List Frame} {c0 s0 ce se e : Nat} (hR : RH D A h s H) (hC : SC A h s) (hS : va_S A s.heap H locs) (hcu : gC h = c0 + ce) (hsu : gS h = s0 + se) (h1 : gC h + 1 ≤ MXC) (h2 : gS h + 6 ≤ MXS) (hQ : Q (.inr e) (tk h)) :
    ∀ t, vx_MQ below (fun _ _ _ _ => False) (fun E st t => E = xcl e ∧ st.vm.Alike t.vm ∧ H.size ≤ t.heap.size ∧ ∀ q : Nat, q < H.size → t.heap[q]? = H[q]?) args s (ce + 1) (se + 6) A t → EndZ D A Q c0 s0 below s t := by
  rintro t ⟨o, c1, c2, ⟨hf, -⟩ | ⟨q, rfl, E, cell, L, ⟨rfl, hvm, hsz, hk⟩, hq, hv, hcl, hW, hsm, hL⟩⟩
  · exact hf.elim
  · have hk2 : ∀ a : Nat, a < s.heap.size → ¬ A a → t.heap[a]? = s.heap[a]? := fun a g1 g2 => by rw [hk a (Nat.lt_of_lt_of_le g1 hS.1)]; exact hS.2.1 a g1 g2
    refine ⟨_, c1, c2, Or.inr ⟨q, e, cell, rfl, ⟨tk h, L, hQ, RH_tk hR hvm hk h1 h2, SC.fwd hvm (Nat.le_trans hS.1 hsz) hk2 (hC.congr fun b hb => ⟨hb, rfl, fun i => rfl⟩), ⟨Nat.le_trans hS.1 hsz, hk2⟩, by rw [gC_tk]; omega, by rw [gS_tk]; omega, ?_, hL⟩, hq, hv, hcl, hW⟩⟩
    rw [show gC (tk h) - c0 = ce + 1 by rw [gC_tk]; omega, show gS (tk h) - s0 = se + 6 by rw [gS_tk]; omega]
    exact hsm
theorem sd_thr (m pc e ik is ic : Nat) (text : String) (hcls : Bundle.fit (xcl e) = true) (hnames : ∀ n ∈ xsup, Bundle.fit n = true) (w1 : Cond.classLink (mOwn (Md m)) ik (xcl e) ∈ mWs (Md m)) (w2 : Cond.initialized (xcl e) ∈ mWs (Md m)) (w3 : (mOwn (Md m), is, text) ∈ G.1)
    (hat : ∀ w ∈ vx_atS (mOwn (Md m)) ic (xcl e) xsup, w ∈ mWs (Md m) ∨ (∃ q ∈ G.2.2.1, w = .castable q.1 q.2) ∨ ∃ q ∈ G.2.2.2.2.2, w = .declares q) (hgood : ∀ w ∈ Cond.classLink (mOwn (Md m)) ik (xcl e) :: Cond.initialized (xcl e) :: vx_atS (mOwn (Md m)) ic (xcl e) xsup, vx_ot w = true) (hfr : 6 ≤ mFr (Md m)) (hlo : 90 ≤ mLo (Md m)) (hhh : mHH (Md m) = [])
    (d0 : decode (mCod (Md m)) pc = .ok (.new ik, 3)) (d3 : decode (mCod (Md m)) (pc + 3) = .ok (.dup, 1)) (d4 : decode (mCod (Md m)) (pc + 4) = .ok (.ldc is, 2)) (d6 : decode (mCod (Md m)) (pc + 6) = .ok (.invokespecial ic, 3)) (d9 : decode (mCod (Md m)) (pc + 9) = .ok (.athrow, 1)) : SM G Md D A l m pc (oThr e) := by
  refine ⟨mo_oThr e, fun ls st h Q k pp ee RR ss mm aa bb me cc0 HH lc lsC c0 s0 ce se C0 hR hC hS hl ho hcu hsu => ?_⟩
  obtain ⟨⟨hx, hb, hml, hown, hts⟩, hr, hlk, hnm, het, hRm, htr, hA, hG⟩ := id C0
  obtain ⟨k0, ⟨k1, k2⟩, k⟩ := gd_iff.mp k
  have k0 := Nat.le_of_ble_eq_true k0
  obtain ⟨sa, hsa⟩ := hG.2.2.1 _ w3
  refine W_mo (end_thr hR hC hS hcu hsu k1 k2 k) (vx_throwS (A := A) hx hb htr hown hcls hnames (hts _ w1) (hts _ w2) hsa (fun w hw => ?_) hgood hG.1 hG.2.1 hS (by rw [hml]; exact hl.1) d0 d3 d4 d6 d9 (fun x hx9 => by rw [het, hhh] at hx9; cases hx9) (by rw [hRm]; show xsup.length + 3 < mFr (Md m); simp [xsup]; omega) (by rw [sum_cz, hRm]; show _ ≤ mLo (Md m); simp [xsup]; omega) (by rw [hRm]; show ce + 1 ≤ MXC - c0; omega) (by rw [hRm]; show se + 6 ≤ MXS - s0; omega) hlk (fun t g1 g2 g3 => ⟨rfl, g1, g2, g3⟩) hS.2.2 (Nat.le_refl _) (Nat.le_refl _))
  rcases hat w hw with g | ⟨q, g1, rfl⟩ | ⟨q, g1, rfl⟩
  · exact hts _ g
  · exact va_tabs rfl rfl (hG.2.2.2.2.1.1 q g1)
  · exact va_tabs rfl rfl (hG.2.2.2.2.1.2 q g1)
theorem sd_thrW (m pc e ik is ic : Nat) (text : String) (hcls : Bundle.fit (xcl e) = true) (hnames : ∀ n ∈ xsup, Bundle.fit n = true) (w1 : Cond.classLink (mOwn (Md m)) ik (xcl e) ∈ mWs (Md m)) (w2 : Cond.initialized (xcl e) ∈ mWs (Md m)) (w3 : (mOwn (Md m), is, text) ∈ G.1)
    (hat : ∀ w ∈ vx_atS (mOwn (Md m)) ic (xcl e) xsup, w ∈ mWs (Md m) ∨ (∃ q ∈ G.2.2.1, w = .castable q.1 q.2) ∨ ∃ q ∈ G.2.2.2.2.2, w = .declares q) (hgood : ∀ w ∈ Cond.classLink (mOwn (Md m)) ik (xcl e) :: Cond.initialized (xcl e) :: vx_atS (mOwn (Md m)) ic (xcl e) xsup, vx_ot w = true) (hfr : 6 ≤ mFr (Md m)) (hlo : 90 ≤ mLo (Md m)) (hhh : mHH (Md m) = [])
    (d0 : decode (mCod (Md m)) pc = .ok (.new ik, 3)) (d3 : decode (mCod (Md m)) (pc + 3) = .ok (.dup, 1)) (d4 : decode (mCod (Md m)) (pc + 4) = .ok (.ldc_w is, 3)) (d6 : decode (mCod (Md m)) (pc + 7) = .ok (.invokespecial ic, 3)) (d9 : decode (mCod (Md m)) (pc + 10) = .ok (.athrow, 1)) : SM G Md D A l m pc (oThr e) := by
  refine ⟨mo_oThr e, fun ls st h Q k pp ee RR ss mm aa bb me cc0 HH lc lsC c0 s0 ce se C0 hR hC hS hl ho hcu hsu => ?_⟩
  obtain ⟨⟨hx, hb, hml, hown, hts⟩, hr, hlk, hnm, het, hRm, htr, hA, hG⟩ := id C0
  obtain ⟨k0, ⟨k1, k2⟩, k⟩ := gd_iff.mp k
  have k0 := Nat.le_of_ble_eq_true k0
  obtain ⟨sa, hsa⟩ := hG.2.2.1 _ w3
  refine W_mo (end_thr hR hC hS hcu hsu k1 k2 k) (vx_throwSW (A := A) hx hb htr hown hcls hnames (hts _ w1) (hts _ w2) hsa (fun w hw => ?_) hgood hG.1 hG.2.1 hS (by rw [hml]; exact hl.1) d0 d3 d4 d6 d9 (fun x hx9 => by rw [het, hhh] at hx9; cases hx9) (by rw [hRm]; show xsup.length + 3 < mFr (Md m); simp [xsup]; omega) (by rw [sum_cz, hRm]; show _ ≤ mLo (Md m); simp [xsup]; omega) (by rw [hRm]; show ce + 1 ≤ MXC - c0; omega) (by rw [hRm]; show se + 6 ≤ MXS - s0; omega) hlk (fun t g1 g2 g3 => ⟨rfl, g1, g2, g3⟩) hS.2.2 (Nat.le_refl _) (Nat.le_refl _))
  rcases hat w hw with g | ⟨q, g1, rfl⟩ | ⟨q, g1, rfl⟩
  · exact hts _ g
  · exact va_tabs rfl rfl (hG.2.2.2.2.1.1 q g1)
  · exact va_tabs rfl rfl (hG.2.2.2.2.1.2 q g1)
end SD4
end
section
/-! SOUNDNESS of calls: a body's soundness is its contract; behind a call what was made is counted to the cell -/
theorem list_drop_sum {α : Type} (f : α → Nat) (L1 L2 : List α) (a : Nat) (ha : a ≤ L1.length) (hl : L1.length ≤ L2.length) (h : ∀ i, i < L1.length → (L2[i]?).map f = (L1[i]?).map f) : ((L2.drop a).map f).sum = ((L1.drop a).map f).sum + ((L2.drop L1.length).map f).sum := by
  have e1 : L2.map f = L1.map f ++ (L2.drop L1.length).map f := by
    apply List.ext_getElem?
    intro i
    by_cases hi : i < L1.length
    · rw [List.getElem?_append_left (by rw [List.length_map]; exact hi), List.getElem?_map, List.getElem?_map]
      exact h i hi
    · rw [List.getElem?_append_right (by rw [List.length_map]; omega), List.length_map, List.getElem?_map, List.getElem?_map, List.getElem?_drop]
      congr 2
      omega
  rw [List.map_drop, e1, List.drop_append_of_le_length (by rw [List.length_map]; exact ha), List.sum_append]
  simp only [List.map_drop]
theorem z_tight {p : Program} {l : Launch} {e : Env} {R : Room} {s : State} {mm : MethodId} {args : Array Value} {below : List Frame} {meth : Method} {c : Code} {T T' st t : State} {locs locs' L : List Loc} {ce se k n k1 n1 : Nat} (X : Stand p l e R s mm args below meth c T locs ce se) (X' : Stand p l e R s mm args below meth c T' locs' k n) (h0 : st.heap = T.heap) (e1 : T'.heap = t.heap) (hs : st.sameButNew ({ t with vm := st.vm } : State) L k1 n1) : Stand p l e R s mm args below meth c T' locs' (ce + k1) (se + n1) := by
  obtain ⟨-, a2, a3, -, a5, a6⟩ := hs
  have b2 : s.heap.size ≤ T.heap.size := X.same.2.1
  have b3 : T.heap.size ≤ s.heap.size + ce := X.same.2.2.1
  have b5 : ((T.heap.toList.drop s.heap.size).map (·.slots.size)).sum ≤ se := X.same.2.2.2.2.1
  have a2 : T.heap.size ≤ T'.heap.size := by rw [e1, ← h0]; exact a2
  have a3 : T'.heap.size ≤ T.heap.size + k1 := by rw [e1, ← h0]; exact a3
  have a5 : ((T'.heap.toList.drop T.heap.size).map (·.slots.size)).sum ≤ n1 := by rw [e1, ← h0]; exact a5
  have a6 : ∀ i, i < T.heap.toList.length → (T'.heap.toList[i]?).map (·.slots.size) = (T.heap.toList[i]?).map (·.slots.size) := by
    intro i hi
    have hi2 : i < T.heap.size := by simpa using hi
    obtain ⟨c1, g1, -, g3, -⟩ := a6 i (T.heap[i]) (by rw [h0]; exact Array.getElem?_eq_getElem hi2)
    have g4 : T'.heap[i]? = some c1 := by rw [e1]; exact g1
    rw [Array.getElem?_toList, Array.getElem?_toList, g4, Array.getElem?_eq_getElem hi2]
    exact congrArg some g3
  refine { X' with same := ⟨X'.same.1, X'.same.2.1, ?_, X'.same.2.2.2.1, ?_, X'.same.2.2.2.2.2⟩ }
  · show T'.heap.size ≤ s.heap.size + (ce + k1)
    omega
  · show ((T'.heap.toList.drop s.heap.size).map (·.slots.size)).sum ≤ se + n1
    rw [list_drop_sum (·.slots.size) T.heap.toList T'.heap.toList s.heap.size (by simpa using b2) (by simpa using a2) a6]
    have : ((T'.heap.toList.drop T.heap.toList.length).map (·.slots.size)).sum ≤ n1 := by simpa using a5
    omega
theorem sl1_len : ∀ (vs : List Zv), (lg_sl (vs.map cz)).length = (sl1 vs).length
  | [] => rfl
  | v :: r => by
    have ih := sl1_len r
    unfold lg_sl at ih ⊢
    rw [List.map_cons, List.flatMap_cons, List.length_append, ih, ctz_cz]
    show _ = (if ctz v = 2 then some v :: none :: sl1 r else some v :: sl1 r).length
    split <;> simp <;> omega
theorem sl1_get : ∀ (vs : List Zv) (i : Nat) (v : Zv), (sl1 vs)[i]? = some (some v) → (lg_sl (vs.map cz))[i]? = some (.val (cz v)) ∧ v ∈ vs
  | [], i, v, h => by simp [sl1] at h
  | w :: r, i, v, h => by
    have ih := sl1_get r
    unfold lg_sl at ih ⊢
    rw [List.map_cons, List.flatMap_cons, ctz_cz]
    unfold sl1 at h
    split at h
    · next e =>
      rw [if_pos e]
      match i, h with
      | 0, h => simp at h; subst h; exact ⟨rfl, List.mem_cons_self⟩
      | 1, h => simp at h
      | i + 2, h =>
        obtain ⟨a, b⟩ := ih i v (by simpa using h)
        exact ⟨by simpa using a, List.mem_cons_of_mem _ b⟩
    · next e =>
      rw [if_neg e]
      match i, h with
      | 0, h => simp at h; subst h; exact ⟨rfl, List.mem_cons_self⟩
      | i + 1, h =>
        obtain ⟨a, b⟩ := ih i v (by simpa using h)
        exact ⟨by simpa using a, List.mem_cons_of_mem _ b⟩
theorem lh_ent {vs : List Zv} {n : Nat} (hn : (sl1 vs).length ≤ n) (ho : ∀ v ∈ vs, okz v) : lh ((lg_sl (vs.map cz) ++ List.replicate (n - (lg_sl (vs.map cz)).length) Slot.unset).toArray) n (ent n vs) := by
  have h := lv_entry (vs.map cz) (n := n) (by rw [sl1_len]; exact hn)
  refine ⟨h.1, by unfold ent; simp; omega, h.2.1, fun i v hi => ?_⟩
  unfold ent at hi
  by_cases z : i < (sl1 vs).length
  · rw [List.getElem?_append_left z] at hi
    obtain ⟨a, b⟩ := sl1_get vs i v hi
    refine ⟨?_, ho v b⟩
    rw [List.getElem?_toArray, List.getElem?_append_left (by rw [sl1_len]; exact z)]
    exact a
  · rw [List.getElem?_append_right (by omega), List.getElem?_replicate] at hi
    split at hi <;> cases hi
section SD5
variable {G : GwT} {Md : Nat → MdT} {D : va_G} {A : Nat → Prop} {l : Launch}
def PreZ (G : GwT) (D : va_G) (A : Nat → Prop) (h : Zh) : State → Prop := fun U => RH D A h U U.heap ∧ SC A h U ∧ GL G A U ∧ ∀ q, U.heap.size ≤ q → A q
def Qc9 (D : va_G) (A : Nat → Prop) (Q : Zp) (c0 s0 : Nat) : Array Value → State → Outcome → State → Prop := fun _ st o t => EndR D A Q c0 s0 st o t
def Xc9 (D : va_G) (A : Nat → Prop) (Q : Zp) (c0 s0 : Nat) : String → State → State → Prop := fun E st t => ∃ e, E = xcl e ∧ EndX D A Q c0 s0 e st t
theorem end_mq {Q : Zp} {s : State} {args : Array Value} {below : List Frame} {c0 s0 : Nat} : ∀ t, EndZ D A Q c0 s0 below s t → vx_MQ below (Qc9 D A Q c0 s0) (Xc9 D A Q c0 s0) args s (MXC - c0) (MXS - s0) A t := by
  rintro t ⟨o, c1, c2, hr | ⟨q, e, cell, rfl, hx, hq, hv, hcl, hW⟩⟩
  · obtain ⟨v, g, L, d1, d2, d3, d4, d5, d6, d7, d8, ⟨f1, f2, f3⟩, d9⟩ := id hr
    have hok := d4.1.2.2.2
    exact ⟨o, c1, c2, Or.inl ⟨hr, L, ⟨f1, f2, f3.mono (by omega) (by omega)⟩, d9⟩⟩
  · obtain ⟨g, L, d1, d4, d5, d6, d7, d8, f3, d9⟩ := id hx
    have hok := d4.1.2.2.2
    exact ⟨_, c1, c2, Or.inr ⟨q, rfl, xcl e, cell, L, ⟨e, rfl, hx⟩, hq, hv, hcl, hW, f3.mono (by omega) (by omega), d9⟩⟩
/-- a method without handlers -/
theorem met_of {m2 : Nat} {w' : List Cond} {vs : List Zv} {h : Zh} {Q : Zp} (hws : mWs (Md m2) = Cond.code (mNam (Md m2)) (mCod (Md m2)) (mMax (Md m2)) (mRet (Md m2)) :: w') (hhh : mHH (Md m2) = []) (hpl : plainName (mNam (Md m2)).cls = true) (hown : mOwn (Md m2) = (mNam (Md m2)).cls) (htr : l.stackTraces = false)
    (hn : (sl1 vs).length ≤ mMax (Md m2)) (ho : ∀ v ∈ vs, okz v) (k : XS G Md D A l m2 0 (ent (mMax (Md m2)) vs) [] h Q) :
    vx_Met l (mNam (Md m2)) (mWs (Md m2)) (mRm (Md m2) (gC h) (gS h)) (va_Pc (vs.map cz) (PreZ G D A h)) (Qc9 D A Q (gC h) (gS h)) (Xc9 D A Q (gC h) (gS h)) (MXC - gC h) (MXS - gS h) A := by
  refine vx_ofW (cc := mCod (Md m2)) (maxL := mMax (Md m2)) (ret := mRet (Md m2)) hpl hws ?_
  intro p e s m args below meth c s₁ B hml ht hv
  obtain ⟨rfl, hR, hC, hG, hA⟩ := hv
  rw [lg_entry_eq]
  have hts : ∀ w ∈ mWs (Md m2), w.before (vs.map cz).toArray s = true := atoms_spec (ws := mWs (Md m2)) B.pre
  have het : c.exceptionTable.toList = tableOf (mHH (Md m2)) := by
    rw [hhh]
    cases q : c.exceptionTable.toList with
    | nil => rfl
    | cons x r => exact (ht x (by rw [q]; exact List.mem_cons_self)).elim
  exact W_mo end_mq (k p e _ s m _ below meth c s.heap [] _ (gC h) (gS h) 0 0 ⟨⟨B.exec, B.bytes, hml, by rw [hown]; exact findClass_of_methodNamed B.named, hts⟩, B.returns, B.notSynchronized, (name_of_methodNamed B.named B.method).1, het, rfl, htr, hA, hG⟩ hR hC va_S.rf (lh_ent hn ho) (fun v hv => by cases hv) rfl rfl)
/-- a method with handlers -/
theorem met_ofH {m2 : Nat} {w' : List Cond} {vs : List Zv} {h : Zh} {Q : Zp} (hws : mWs (Md m2) = Cond.codeWith (mNam (Md m2)) (mCod (Md m2)) (mMax (Md m2)) (mRet (Md m2)) (mHH (Md m2)) :: w') (hpl : plainName (mNam (Md m2)).cls = true) (hown : mOwn (Md m2) = (mNam (Md m2)).cls) (htr : l.stackTraces = false)
    (hn : (sl1 vs).length ≤ mMax (Md m2)) (ho : ∀ v ∈ vs, okz v) (k : XS G Md D A l m2 0 (ent (mMax (Md m2)) vs) [] h Q) :
    vx_Met l (mNam (Md m2)) (mWs (Md m2)) (mRm (Md m2) (gC h) (gS h)) (va_Pc (vs.map cz) (PreZ G D A h)) (Qc9 D A Q (gC h) (gS h)) (Xc9 D A Q (gC h) (gS h)) (MXC - gC h) (MXS - gS h) A := by
  refine vx_ofWH (cc := mCod (Md m2)) (maxL := mMax (Md m2)) (ret := mRet (Md m2)) (hh := mHH (Md m2)) hpl hws ?_
  intro p e s m args below meth c s₁ B hml hv
  obtain ⟨rfl, hR, hC, hG, hA⟩ := hv
  rw [lg_entry_eq]
  have hts : ∀ w ∈ mWs (Md m2), w.before (vs.map cz).toArray s = true := atoms_spec (ws := mWs (Md m2)) B.pre
  have het : c.exceptionTable.toList = tableOf (mHH (Md m2)) := vx_table (x := mNam (Md m2)) B (hts _ (by rw [hws]; exact List.mem_cons_self))
  exact W_mo end_mq (k p e _ s m _ below meth c s.heap [] _ (gC h) (gS h) 0 0 ⟨⟨B.exec, B.bytes, hml, by rw [hown]; exact findClass_of_methodNamed B.named, hts⟩, B.returns, B.notSynchronized, (name_of_methodNamed B.named B.method).1, het, rfl, htr, hA, hG⟩ hR hC va_S.rf (lh_ent hn ho) (fun v hv => by cases hv) rfl rfl)
theorem pre_blind {vs : List Zv} {h : Zh} : FrameBlind (va_Pc (vs.map cz) (PreZ G D A h)) := by
  rintro a U g mk ⟨e, h1, h2, h3, h4⟩
  have hW : U.WarmedH (U.calling g mk a).vm := State.WarmedH.refl U
  exact ⟨e, h1.moved hW.alike, SC.fwd hW.alike (Nat.le_refl _) (fun _ _ _ => rfl) h2, h3.go hW (fun _ _ _ => rfl), h4⟩
/-- what is known of a place's handlers -/
def CatchOK (G : GwT) (M : MdT) (pc : Nat) (hs : List (Nat × Nat)) : Prop := (hs = [] → ∀ z ∈ tableOf (mHH M), covers z pc = false) ∧ ∀ e t, hs.lookup e = some t → ∃ (pre : List ExceptionTableEntry) (x : ExceptionTableEntry) (suf : List ExceptionTableEntry) (name : String), tableOf (mHH M) = pre ++ x :: suf ∧
  (∀ z ∈ pre, covers z pc = false ∨ (z.catchType ≠ 0 ∧ ∃ nm, Cond.classLink (mOwn M) z.catchType nm ∈ mWs M ∧ (xcl e, nm) ∈ G.2.1)) ∧ covers x pc = true ∧ x.catchType ≠ 0 ∧ Cond.classLink (mOwn M) x.catchType name ∈ mWs M ∧ (xcl e, name) ∈ G.2.2.1 ∧ x.handlerPc = t
theorem catch_nil {G : GwT} {M : MdT} {pc : Nat} (h : mHH M = []) : CatchOK G M pc [] := ⟨fun _ z hz => (by rw [h] at hz; cases hz), fun e t q => (by cases q)⟩
theorem run_fin {p : Program} {e : Env} {R : Room} {s : State} {mm : MethodId} {args : Array Value} {below : List Frame} {meth : Method} {c : Code} {H : Heap} {locs : List Loc} {lsC : Array Slot} {c0 s0 ce se m pc : Nat} {ls : Zl} {r : List Zv} {h : Zh} {Q : Zp} {hs : List (Nat × Nat)} {st0 : List Value} {aa2 : Array Value}
    (C0 : Cx G A l (Md m) c0 s0 p R s mm args meth c) (hR : RH D A h s H) (hC : SC A h s) (hS : va_S A s.heap H locs) (hl : lh lsC (mMax (Md m)) ls) (ho : ∀ v ∈ r, okz v) (hcu : gC h = c0 + ce) (hsu : gS h = s0 + se) (hcat : CatchOK G (Md m) pc hs)
    (hrun : vx_Run p l e R s mm args below meth c H locs ce se (MXC - gC h) (MXS - gS h) (F0 mm pc lsC st0) (r.map cz) (Qc9 D A (kont (XS G Md D A l) m pc ls r hs Q) (gC h) (gS h) aa2) (Xc9 D A (kont (XS G Md D A l) m pc ls r hs Q) (gC h) (gS h)) A) :
    W p l e R s mm args below meth c H locs ce se (EndZ D A Q c0 s0 below s) (F0 mm pc lsC st0) := by
  obtain ⟨⟨hx, hb, hml, hown, hts⟩, hr, hlk, hnm, het, hRm, htr, hA, hG⟩ := id C0
  intro T hT X
  rcases hrun T hT X with ⟨v, st₀, t, T', L, h0, X', hL, e1, e2, hq, stp⟩ | ⟨q, st₀, t, T', L, E, cell, h0, X', hL, e1, e2, ⟨ec, rfl, hq⟩, hce, hcv, hcl, stp⟩
  · obtain ⟨v', g, L2, d1, d2, d3, d4, d5, d6, d7, d8, ⟨f1, f2, f3⟩, d9⟩ := hq
    cases d1
    have hal : s.vm.Alike t.vm := by rw [← e2]; exact X'.warmed.alike
    have hkp : ∀ a : Nat, a < s.heap.size → ¬ A a → t.heap[a]? = s.heap[a]? := fun a g1 g2 => by
      rw [d6.2 a (by rw [h0]; exact Nat.lt_of_lt_of_le g1 hS.1) g2, h0]
      exact hS.2.1 a g1 g2
    obtain ⟨-, -, k3⟩ := vx_keep (A0 := A) (A1 := A) (free := A) (L := L) h0 e1 hS (fun _ _ z => z) (fun _ z => z) hL d6
    have X2 := z_tight X X' (by rw [h0, hT]) e1 f3
    have hQ : XS G Md D A l m (pc + 3) ls (v'.toList ++ r) g Q := d3
    obtain ⟨t2, a1, b1⟩ := hQ p e R s mm args below meth c T'.heap (locs ++ L) lsC c0 s0 (ce + (gC g - gC h)) (se + (gS g - gS h)) C0 (by rw [e1]; exact d4.moved hal.symm) (SC.back hal hA hkp d5) k3 hl (fun x hx9 => by
      rcases List.mem_append.mp hx9 with z | z
      · exact d2 x (by cases v' with | none => cases z | some y => rw [List.mem_singleton.mp z])
      · exact ho x z) (by omega) (by omega) T' rfl X2
    refine ⟨t2, stp t2 ?_, b1⟩
    have e9 : (v'.map cz).toList ++ r.map cz = (v'.toList ++ r).map cz := by cases v' <;> rfl
    show Steps p.tables e below (T'.setTop (F0 mm (pc + 3) lsC ((v'.map cz).toList ++ r.map cz))) t2
    rw [e9]
    exact a1
  · obtain ⟨g, L2, d1, d4, d5, d6, d7, d8, f3, d9⟩ := hq
    have hal : s.vm.Alike t.vm := by rw [← e2]; exact X'.warmed.alike
    have hkp : ∀ a : Nat, a < s.heap.size → ¬ A a → t.heap[a]? = s.heap[a]? := fun a g1 g2 => by
      rw [d6.2 a (by rw [h0]; exact Nat.lt_of_lt_of_le g1 hS.1) g2, h0]
      exact hS.2.1 a g1 g2
    obtain ⟨-, -, k3⟩ := vx_keep (A0 := A) (A1 := A) (free := A) (L := L) h0 e1 hS (fun _ _ z => z) (fun _ z => z) hL d6
    have X2 := z_tight X X' (by rw [h0, hT]) e1 f3
    have hRg : RH D A g s T'.heap := by rw [e1]; exact d4.moved hal.symm
    have hCg : SC A g s := SC.back hal hA hkp d5
    have hceT : T'.heap[q]? = some cell := by rw [e1]; exact hce
    have fin : vx_W p l e R s mm args below meth c T'.heap (locs ++ L) (ce + (gC g - gC h)) (se + (gS g - gS h)) (EndZ D A Q c0 s0 below s) (F0 mm pc lsC (r.map cz)) q := by
      cases hs with
      | nil =>
        have hQ : Q (.inr ec) g := d1
        have hout : ∀ x ∈ c.exceptionTable.toList, covers x pc = false := fun x hx9 => by
          rw [het] at hx9
          exact hcat.1 rfl x hx9
        have k9 := vx_out (p := p) (l := l) (e := e) (R := R) (args := args) (below := below) (meth := meth) (locs := locs ++ L) (ls := lsC) (m := mm) (rest := r.map cz) (Qc := fun _ _ _ _ => False) (XC := fun E s9 t9 => E = xcl ec ∧ s9.vm.Alike t9.vm ∧ t9.heap = T'.heap) (free := A) hout hlk hceT hcv hcl (fun t9 z1 z2 => ⟨rfl, z2, z1⟩) k3.2.2 (Nat.le_refl (ce + (gC g - gC h))) (Nat.le_refl (se + (gS g - gS h)))
        intro T2 hT2 Y
        obtain ⟨t2, a1, o, b1, b2, ⟨hf, -⟩ | ⟨q2, rfl, E2, cell2, L3, ⟨rfl, y1, y2⟩, y3, y4, y5, y6, y7, y8⟩⟩ := k9 T2 hT2 Y
        · exact hf.elim
        · have hk2 : ∀ a : Nat, a < s.heap.size → ¬ A a → t2.heap[a]? = s.heap[a]? := fun a g1 g2 => by rw [y2]; exact k3.2.1 a g1 g2
          refine ⟨t2, a1, _, b1, b2, Or.inr ⟨q2, ec, cell2, rfl, ⟨g, L3, hQ, by rw [y2]; exact hRg.moved y1, SC.fwd y1 (by rw [y2]; exact k3.1) hk2 hCg, ⟨by rw [y2]; exact k3.1, hk2⟩, by omega, by omega, ?_, y8⟩, y3, y4, y5, y6⟩⟩
          rw [show gC g - c0 = ce + (gC g - gC h) by omega, show gS g - s0 = se + (gS g - gS h) by omega]
          exact y7
      | cons z9 hs9 =>
        have d1 : (match (z9 :: hs9).lookup ec with | some t => ∀ q, XS G Md D A l m t ls [zr (some q)] g Q | none => False) := d1
        cases hlook : (z9 :: hs9).lookup ec with
        | none => rw [hlook] at d1; exact d1.elim
        | some tgt =>
          rw [hlook] at d1
          obtain ⟨pre, x, suf, name, g1, g2, g3, g4, g5, g6, g7⟩ := hcat.2 ec tgt hlook
          have hQ := d1 q p e R s mm args below meth c T'.heap (locs ++ L) lsC c0 s0 (ce + (gC g - gC h)) (se + (gS g - gS h)) C0 hRg hCg k3 hl (fun x hx9 => by rw [List.mem_singleton.mp hx9]; trivial) (by omega) (by omega)
          rw [← g7] at hQ
          exact vx_catch hown pre x suf (by rw [het]; exact g1) (fun z hz => (g2 z hz).imp id (fun ⟨y1, nm, y2, y3⟩ => ⟨y1, nm, hts _ y2, hG.2.2.2.1 _ y3⟩)) g3 g4 (hts _ g5) (va_tabs rfl rfl (hG.2.2.2.2.1.1 _ g6)) hceT hcv hcl hQ
    obtain ⟨t2, a1, b1⟩ := fin T' rfl X2
    exact ⟨t2, stp.trans a1, b1⟩
theorem as_rev {st : List Zv} {n : Nat} : st.map cz = (((st.take n).reverse).map cz).reverse ++ (st.drop n).map cz := by
  rw [← List.map_reverse, List.reverse_reverse, ← List.map_append, List.take_append_drop]
theorem pre_at {h : Zh} {s : State} {H : Heap} {locs : List Loc} {vs : List Zv} (hR : RH D A h s H) (hC : SC A h s) (hS : va_S A s.heap H locs) (hA : ∀ q, s.heap.size ≤ q → A q) (hG : GL G A s) : ∀ U : State, U.heap = H → s.WarmedH U.vm → va_Pc (vs.map cz) (PreZ G D A h) (vs.map cz).toArray U := by
  intro U hU hW
  have hk : ∀ a : Nat, a < s.heap.size → ¬ A a → U.heap[a]? = s.heap[a]? := fun a h1 h2 => by rw [hU]; exact hS.2.1 a h1 h2
  have hz : s.heap.size ≤ U.heap.size := by rw [hU]; exact hS.1
  exact ⟨rfl, by rw [hU]; exact hR.moved hW.alike, SC.fwd hW.alike hz hk hC, hG.go hW hk, fun q hq => hA q (Nat.le_trans hz hq)⟩
/-- a static call -/
theorem sd_callS (m pc m2 n mx ix : Nat) (hs : List (Nat × Nat)) {w' : List Cond} (hG0 : GoodIn (mWs (Md m)) (va_wsS (mOwn (Md m)) ix (mNam (Md m2)) (mWs (Md m2)))) (hws : mWs (Md m2) = Cond.code (mNam (Md m2)) (mCod (Md m2)) (mMax (Md m2)) (mRet (Md m2)) :: w') (hhh : mHH (Md m2) = []) (hpl : plainName (mNam (Md m2)).cls = true) (hown2 : mOwn (Md m2) = (mNam (Md m2)).cls) (hmx : mMax (Md m2) = mx)
    (hd : (mNam (Md m2)).cls ≠ "java/lang/invoke/MethodHandle" ∧ (mNam (Md m2)).cls ≠ "java/lang/invoke/VarHandle" ∧ (parseMethodDescriptor (mNam (Md m2)).desc).map (fun d => d.parameters.length) = some n) (hfr : mFr (Md m2) + 1 ≤ mFr (Md m) ∧ 8 + (mMax (Md m2) + 11) + mLo (Md m2) ≤ mLo (Md m)) (hcat : CatchOK G (Md m) pc hs)
    (d : decode (mCod (Md m)) pc = .ok (.invokestatic ix, 3)) : SM G Md D A l m pc (oCallS m2 n mx hs) := by
  refine ⟨mo_oCallS m2 n mx hs, fun ls st h Q k pp ee RR ss mm aa bb me cc0 HH lc lsC c0 s0 ce se C0 hR hC hS hl ho hcu hsu => ?_⟩
  obtain ⟨⟨hx, hb, hml, hown, hts⟩, hr, hlk, hnm, het, hRm, htr, hA, hG⟩ := id C0
  subst hmx
  have hok := hR.1.2.2.2
  obtain ⟨k1, k⟩ := gd_iff.mp k
  obtain ⟨k1, k2⟩ := Bool.and_eq_true_iff.mp k1
  obtain ⟨k2, k0⟩ := Bool.and_eq_true_iff.mp k2
  have k1 := Nat.le_of_ble_eq_true k1
  have k2 := Nat.le_of_ble_eq_true k2
  have k0 := Nat.le_of_ble_eq_true k0
  have hM := met_of hws hhh hpl hown2 htr k0 (fun v hv => ho v (List.mem_of_mem_take (List.mem_reverse.mp hv))) k
  refine run_fin C0 hR hC hS hl (fun v hv => ho v (List.mem_of_mem_drop hv)) hcu hsu hcat (vx_runS (As := ((st.take n).reverse).map cz) ⟨hx, hb, hml, hown, hts⟩ hM (va_cwS n hts hG0 hws rfl rfl hd ⟨by rw [hRm]; exact hfr.1, by rw [hRm]; exact hfr.2⟩) ⟨pre_blind, pre_at hR hC hS hA hG⟩ rfl (by rw [List.length_map, List.length_reverse, List.length_take]; omega) hl.1 as_rev (lv_room (by rw [sum_cz]; exact k1)) d ⟨by rw [hRm]; show ce + (MXC - gC h) ≤ MXC - c0; omega, by rw [hRm]; show se + (MXS - gS h) ≤ MXS - s0; omega⟩)
/-- a static call of a nest mate -/
theorem sd_callSN (m pc m2 n mx ix : Nat) (hs : List (Nat × Nat)) {w' : List Cond} (hG0 : GoodIn (mWs (Md m)) (mWs (Md m2))) (host : String) (wl : (mOwn (Md m), ix, mNam (Md m2), host) ∈ G.2.2.2.2.1) (wi : Cond.initialized (mNam (Md m2)).cls ∈ mWs (Md m)) (wst : Cond.static (mNam (Md m2)) ∈ mWs (Md m)) (hws : mWs (Md m2) = Cond.code (mNam (Md m2)) (mCod (Md m2)) (mMax (Md m2)) (mRet (Md m2)) :: w') (hhh : mHH (Md m2) = []) (hpl : plainName (mNam (Md m2)).cls = true) (hown2 : mOwn (Md m2) = (mNam (Md m2)).cls) (hmx : mMax (Md m2) = mx)
    (hd : (mNam (Md m2)).cls ≠ "java/lang/invoke/MethodHandle" ∧ (mNam (Md m2)).cls ≠ "java/lang/invoke/VarHandle" ∧ (parseMethodDescriptor (mNam (Md m2)).desc).map (fun d => d.parameters.length) = some n) (hfr : mFr (Md m2) + 1 ≤ mFr (Md m) ∧ 8 + (mMax (Md m2) + 11) + mLo (Md m2) ≤ mLo (Md m)) (hcat : CatchOK G (Md m) pc hs)
    (d : decode (mCod (Md m)) pc = .ok (.invokestatic ix, 3)) : SM G Md D A l m pc (oCallS m2 n mx hs) := by
  refine ⟨mo_oCallS m2 n mx hs, fun ls st h Q k pp ee RR ss mm aa bb me cc0 HH lc lsC c0 s0 ce se C0 hR hC hS hl ho hcu hsu => ?_⟩
  obtain ⟨⟨hx, hb, hml, hown, hts⟩, hr, hlk, hnm, het, hRm, htr, hA, hG⟩ := id C0
  subst hmx
  have hok := hR.1.2.2.2
  obtain ⟨k1, k⟩ := gd_iff.mp k
  obtain ⟨k1, k2⟩ := Bool.and_eq_true_iff.mp k1
  obtain ⟨k2, k0⟩ := Bool.and_eq_true_iff.mp k2
  have k1 := Nat.le_of_ble_eq_true k1
  have k2 := Nat.le_of_ble_eq_true k2
  have k0 := Nat.le_of_ble_eq_true k0
  have hM := met_of hws hhh hpl hown2 htr k0 (fun v hv => ho v (List.mem_of_mem_take (List.mem_reverse.mp hv))) k
  refine run_fin C0 hR hC hS hl (fun v hv => ho v (List.mem_of_mem_drop hv)) hcu hsu hcat (vx_runSN (As := ((st.take n).reverse).map cz) ⟨hx, hb, hml, hown, hts⟩ hM ⟨va_cnB n hts hG0 hws rfl rfl (hG.2.2.2.2.2.2.1 _ wl) (hts _ wi) hd ⟨by rw [hRm]; exact hfr.1, by rw [hRm]; exact hfr.2⟩, hts _ wst, trivial⟩ ⟨pre_blind, pre_at hR hC hS hA hG⟩ rfl (by rw [List.length_map, List.length_reverse, List.length_take]; omega) hl.1 as_rev (lv_room (by rw [sum_cz]; exact k1)) d ⟨by rw [hRm]; show ce + (MXC - gC h) ≤ MXC - c0; omega, by rw [hRm]; show se + (MXS - gS h) ≤ MXS - s0; omega⟩)
/-- a static call of a method with handlers -/
theorem sd_callSW (m pc m2 n mx ix : Nat) (hs : List (Nat × Nat)) {w' : List Cond} (hG0 : GoodIn (mWs (Md m)) (va_wsS (mOwn (Md m)) ix (mNam (Md m2)) (mWs (Md m2)))) (hws : mWs (Md m2) = Cond.codeWith (mNam (Md m2)) (mCod (Md m2)) (mMax (Md m2)) (mRet (Md m2)) (mHH (Md m2)) :: w') (hpl : plainName (mNam (Md m2)).cls = true) (hown2 : mOwn (Md m2) = (mNam (Md m2)).cls) (hmx : mMax (Md m2) = mx)
    (hd : (mNam (Md m2)).cls ≠ "java/lang/invoke/MethodHandle" ∧ (mNam (Md m2)).cls ≠ "java/lang/invoke/VarHandle" ∧ (parseMethodDescriptor (mNam (Md m2)).desc).map (fun d => d.parameters.length) = some n) (hfr : mFr (Md m2) + 1 ≤ mFr (Md m) ∧ 8 + (mMax (Md m2) + 11) + mLo (Md m2) ≤ mLo (Md m)) (hcat : CatchOK G (Md m) pc hs)
    (d : decode (mCod (Md m)) pc = .ok (.invokestatic ix, 3)) : SM G Md D A l m pc (oCallS m2 n mx hs) := by
  refine ⟨mo_oCallS m2 n mx hs, fun ls st h Q k pp ee RR ss mm aa bb me cc0 HH lc lsC c0 s0 ce se C0 hR hC hS hl ho hcu hsu => ?_⟩
  obtain ⟨⟨hx, hb, hml, hown, hts⟩, hr, hlk, hnm, het, hRm, htr, hA, hG⟩ := id C0
  subst hmx
  have hok := hR.1.2.2.2
  obtain ⟨k1, k⟩ := gd_iff.mp k
  obtain ⟨k1, k2⟩ := Bool.and_eq_true_iff.mp k1
  obtain ⟨k2, k0⟩ := Bool.and_eq_true_iff.mp k2
  have k1 := Nat.le_of_ble_eq_true k1
  have k2 := Nat.le_of_ble_eq_true k2
  have k0 := Nat.le_of_ble_eq_true k0
  have hM := met_ofH hws hpl hown2 htr k0 (fun v hv => ho v (List.mem_of_mem_take (List.mem_reverse.mp hv))) k
  refine run_fin C0 hR hC hS hl (fun v hv => ho v (List.mem_of_mem_drop hv)) hcu hsu hcat (vx_runSX (As := ((st.take n).reverse).map cz) ⟨hx, hb, hml, hown, hts⟩ hM (vx_cwSW n hts hG0 hws rfl rfl hd ⟨by rw [hRm]; exact hfr.1, by rw [hRm]; exact hfr.2⟩) ⟨pre_blind, pre_at hR hC hS hA hG⟩ rfl (by rw [List.length_map, List.length_reverse, List.length_take]; omega) hl.1 as_rev (lv_room (by rw [sum_cz]; exact k1)) d ⟨by rw [hRm]; show ce + (MXC - gC h) ≤ MXC - c0; omega, by rw [hRm]; show se + (MXS - gS h) ≤ MXS - s0; omega⟩)
/-- a call of a method of its receiver -/
theorem sd_callV (m pc m2 n mx ix c : Nat) (hs : List (Nat × Nat)) {w' : List Cond} (hG0 : GoodIn (mWs (Md m)) (wsV (mOwn (Md m)) ix (mNam (Md m2)).cls (mNam (Md m2)) (mWs (Md m2)))) (hws : mWs (Md m2) = Cond.code (mNam (Md m2)) (mCod (Md m2)) (mMax (Md m2)) (mRet (Md m2)) :: w') (hhh : mHH (Md m2) = []) (hpl : plainName (mNam (Md m2)).cls = true) (hown2 : mOwn (Md m2) = (mNam (Md m2)).cls) (hmx : mMax (Md m2) = mx)
    (hd : (mNam (Md m2)).cls ≠ "java/lang/invoke/MethodHandle" ∧ (mNam (Md m2)).cls ≠ "java/lang/invoke/VarHandle" ∧ (parseMethodDescriptor (mNam (Md m2)).desc).map (fun d => d.parameters.length) = some n) (hfr : mFr (Md m2) + 1 ≤ mFr (Md m) ∧ 8 + (mMax (Md m2) + 11) + mLo (Md m2) ≤ mLo (Md m)) (hcat : CatchOK G (Md m) pc hs) (C : String) (hCn : (mNam (Md m2)).cls = C) (T : u_T) (N : Nat) (hcl : vwCl[c - 1]? = some (C, T, N)) (hc : 1 ≤ c ∧ c ≤ 7)
    (d : decode (mCod (Md m)) pc = .ok (.invokevirtual ix, 3)) : SM G Md D A l m pc (oCallV m2 n mx c hs) := by
  refine ⟨mo_oCallV m2 n mx c hs, fun ls st h Q k pp ee RR ss mm aa bb me cc0 HH lc lsC c0 s0 ce se C0 hR hC hS hl ho hcu hsu => ?_⟩
  obtain ⟨⟨hx, hb, hml, hown, hts⟩, hr, hlk, hnm, het, hRm, htr, hA, hG⟩ := id C0
  subst hmx
  have hok := hR.1.2.2.2
  unfold oCallV at k
  split at k
  · next r t edr =>
    obtain ⟨k1, ⟨a, rfl, ha⟩, k⟩ := gd_iff.mp k
    obtain ⟨k1, k2⟩ := Bool.and_eq_true_iff.mp k1
    obtain ⟨k2, k0⟩ := Bool.and_eq_true_iff.mp k2
    have k1 := Nat.le_of_ble_eq_true k1
    have k2 := Nat.le_of_ble_eq_true k2
    have k0 := Nat.le_of_ble_eq_true k0
    have hor : ∀ v ∈ t, okz v := fun v hv => ho v (List.mem_of_mem_drop (by rw [edr]; exact List.mem_cons_of_mem _ hv))
    have hM := met_of hws hhh hpl hown2 htr k0 (List.forall_mem_cons.mpr ⟨trivial, fun v hv => ho v (List.mem_of_mem_take (List.mem_reverse.mp hv))⟩) k
    obtain ⟨-, ws, tys, hP, hD, hKK, hI⟩ := id hR
    obtain ⟨q0, e, he, hE⟩ := hI a (by omega) (by omega)
    have he2 := isE_obj hE ha hc.2
    subst he2
    subst hCn
    refine run_fin C0 hR hC hS hl hor hcu hsu hcat (vx_runV (As := ((st.take n).reverse).map cz) (b := a) ⟨hx, hb, hml, hown, hts⟩ hM (cwV n hts hG0 hws rfl rfl ⟨rfl, hd⟩ ⟨by rw [hRm]; exact hfr.1, by rw [hRm]; exact hfr.2⟩) ⟨pre_blind, va_recv hKK hP hcl he, pre_at (vs := zr (some a) :: (st.take n).reverse) hR hC hS hA hG⟩ rfl (by rw [List.length_map, List.length_reverse, List.length_take]; omega) hl.1 (by rw [show (F0 mm pc lsC (st.map cz)).stack = st.map cz from rfl, as_rev (n := n), edr]; rfl) (lv_room (by rw [sum_cz]; exact k1)) d ⟨by rw [hRm]; show ce + (MXC - gC h) ≤ MXC - c0; omega, by rw [hRm]; show se + (MXS - gS h) ≤ MXS - s0; omega⟩)
  · exact k.elim
/-- a call of a method of its receiver, which has handlers -/
theorem sd_callVW (m pc m2 n mx ix c : Nat) (hs : List (Nat × Nat)) {w' : List Cond} (hG0 : GoodIn (mWs (Md m)) (wsV (mOwn (Md m)) ix (mNam (Md m2)).cls (mNam (Md m2)) (mWs (Md m2)))) (hws : mWs (Md m2) = Cond.codeWith (mNam (Md m2)) (mCod (Md m2)) (mMax (Md m2)) (mRet (Md m2)) (mHH (Md m2)) :: w') (hpl : plainName (mNam (Md m2)).cls = true) (hown2 : mOwn (Md m2) = (mNam (Md m2)).cls) (hmx : mMax (Md m2) = mx)
    (hd : (mNam (Md m2)).cls ≠ "java/lang/invoke/MethodHandle" ∧ (mNam (Md m2)).cls ≠ "java/lang/invoke/VarHandle" ∧ (parseMethodDescriptor (mNam (Md m2)).desc).map (fun d => d.parameters.length) = some n) (hfr : mFr (Md m2) + 1 ≤ mFr (Md m) ∧ 8 + (mMax (Md m2) + 11) + mLo (Md m2) ≤ mLo (Md m)) (hcat : CatchOK G (Md m) pc hs) (C : String) (hCn : (mNam (Md m2)).cls = C) (T : u_T) (N : Nat) (hcl : vwCl[c - 1]? = some (C, T, N)) (hc : 1 ≤ c ∧ c ≤ 7)
    (d : decode (mCod (Md m)) pc = .ok (.invokevirtual ix, 3)) : SM G Md D A l m pc (oCallV m2 n mx c hs) := by
  refine ⟨mo_oCallV m2 n mx c hs, fun ls st h Q k pp ee RR ss mm aa bb me cc0 HH lc lsC c0 s0 ce se C0 hR hC hS hl ho hcu hsu => ?_⟩
  obtain ⟨⟨hx, hb, hml, hown, hts⟩, hr, hlk, hnm, het, hRm, htr, hA, hG⟩ := id C0
  subst hmx
  have hok := hR.1.2.2.2
  unfold oCallV at k
  split at k
  · next r t edr =>
    obtain ⟨k1, ⟨a, rfl, ha⟩, k⟩ := gd_iff.mp k
    obtain ⟨k1, k2⟩ := Bool.and_eq_true_iff.mp k1
    obtain ⟨k2, k0⟩ := Bool.and_eq_true_iff.mp k2
    have k1 := Nat.le_of_ble_eq_true k1
    have k2 := Nat.le_of_ble_eq_true k2
    have k0 := Nat.le_of_ble_eq_true k0
    have hor : ∀ v ∈ t, okz v := fun v hv => ho v (List.mem_of_mem_drop (by rw [edr]; exact List.mem_cons_of_mem _ hv))
    have hM := met_ofH hws hpl hown2 htr k0 (List.forall_mem_cons.mpr ⟨trivial, fun v hv => ho v (List.mem_of_mem_take (List.mem_reverse.mp hv))⟩) k
    obtain ⟨-, ws, tys, hP, hD, hKK, hI⟩ := id hR
    obtain ⟨q0, e, he, hE⟩ := hI a (by omega) (by omega)
    have he2 := isE_obj hE ha hc.2
    subst he2
    subst hCn
    refine run_fin C0 hR hC hS hl hor hcu hsu hcat (vx_runVX (As := ((st.take n).reverse).map cz) (b := a) ⟨hx, hb, hml, hown, hts⟩ hM (vx_cwVW n hts hG0 hws rfl rfl ⟨rfl, hd⟩ ⟨by rw [hRm]; exact hfr.1, by rw [hRm]; exact hfr.2⟩) ⟨pre_blind, va_recv hKK hP hcl he, pre_at (vs := zr (some a) :: (st.take n).reverse) hR hC hS hA hG⟩ rfl (by rw [List.length_map, List.length_reverse, List.length_take]; omega) hl.1 (by rw [show (F0 mm pc lsC (st.map cz)).stack = st.map cz from rfl, as_rev (n := n), edr]; rfl) (lv_room (by rw [sum_cz]; exact k1)) d ⟨by rw [hRm]; show ce + (MXC - gC h) ≤ MXC - c0; omega, by rw [hRm]; show se + (MXS - gS h) ≤ MXS - s0; omega⟩)
  · exact k.elim
/-- a constructor -/
theorem sd_callI (m pc m2 n mx ix c : Nat) (hs : List (Nat × Nat)) {w' : List Cond} (hG0 : GoodIn (mWs (Md m)) (mWs (Md m2))) (hret : mRet (Md m2) = none) (wi : Cond.initialized (mNam (Md m2)).cls ∈ mWs (Md m)) (wl : Cond.methodLink (mOwn (Md m)) ix (mNam (Md m2)) ∈ mWs (Md m)) (win : Cond.instanceMethod (mNam (Md m2)) ∈ mWs (Md m)) (hini : (mNam (Md m2)).name = "<init>") (hws : mWs (Md m2) = Cond.code (mNam (Md m2)) (mCod (Md m2)) (mMax (Md m2)) (mRet (Md m2)) :: w') (hhh : mHH (Md m2) = []) (hpl : plainName (mNam (Md m2)).cls = true) (hown2 : mOwn (Md m2) = (mNam (Md m2)).cls) (hmx : mMax (Md m2) = mx)
    (hd : (mNam (Md m2)).cls ≠ "java/lang/invoke/MethodHandle" ∧ (mNam (Md m2)).cls ≠ "java/lang/invoke/VarHandle" ∧ (parseMethodDescriptor (mNam (Md m2)).desc).map (fun d => d.parameters.length) = some n) (hfr : mFr (Md m2) + 1 ≤ mFr (Md m) ∧ 8 + (mMax (Md m2) + 11) + mLo (Md m2) ≤ mLo (Md m)) (hcat : CatchOK G (Md m) pc hs) (C : String) (T : u_T) (N : Nat) (hcl : vwCl[c - 1]? = some (C, T, N)) (hc : 1 ≤ c ∧ c ≤ 7)
    (d : decode (mCod (Md m)) pc = .ok (.invokespecial ix, 3)) : SM G Md D A l m pc (oCallV m2 n mx c hs) := by
  refine ⟨mo_oCallV m2 n mx c hs, fun ls st h Q k pp ee RR ss mm aa bb me cc0 HH lc lsC c0 s0 ce se C0 hR hC hS hl ho hcu hsu => ?_⟩
  obtain ⟨⟨hx, hb, hml, hown, hts⟩, hr, hlk, hnm, het, hRm, htr, hA, hG⟩ := id C0
  subst hmx
  have hok := hR.1.2.2.2
  unfold oCallV at k
  split at k
  · next r t edr =>
    obtain ⟨k1, ⟨a, rfl, ha⟩, k⟩ := gd_iff.mp k
    obtain ⟨k1, k2⟩ := Bool.and_eq_true_iff.mp k1
    obtain ⟨k2, k0⟩ := Bool.and_eq_true_iff.mp k2
    have k1 := Nat.le_of_ble_eq_true k1
    have k2 := Nat.le_of_ble_eq_true k2
    have k0 := Nat.le_of_ble_eq_true k0
    have hor : ∀ v ∈ t, okz v := fun v hv => ho v (List.mem_of_mem_drop (by rw [edr]; exact List.mem_cons_of_mem _ hv))
    have hM := met_of hws hhh hpl hown2 htr k0 (List.forall_mem_cons.mpr ⟨trivial, fun v hv => ho v (List.mem_of_mem_take (List.mem_reverse.mp hv))⟩) k
    obtain ⟨-, ws, tys, hP, hD, hKK, hI⟩ := id hR
    obtain ⟨q0, e, he, hE⟩ := hI a (by omega) (by omega)
    have he2 := isE_obj hE ha hc.2
    subst he2
    refine run_fin C0 hR hC hS hl hor hcu hsu hcat (vx_runI (As := ((st.take n).reverse).map cz) (b := a) ⟨hx, hb, hml, hown, hts⟩ hM (cwI n hts hG0 (by rw [hws, hret]) rfl rfl (hts _ wi) (hts _ wl) (hts _ win) hini hd ⟨by rw [hRm]; exact hfr.1, by rw [hRm]; exact hfr.2⟩) ⟨pre_blind, pre_at (vs := zr (some a) :: (st.take n).reverse) hR hC hS hA hG⟩ rfl (by rw [List.length_map, List.length_reverse, List.length_take]; omega) hl.1 (by rw [show (F0 mm pc lsC (st.map cz)).stack = st.map cz from rfl, as_rev (n := n), edr]; rfl) (lv_room (by rw [sum_cz]; exact k1)) d ⟨by rw [hRm]; show ce + (MXC - gC h) ≤ MXC - c0; omega, by rw [hRm]; show se + (MXS - gS h) ≤ MXS - s0; omega⟩)
  · exact k.elim
end SD5
end
section
/-! MORE INSTRUCTIONS: rows of references copied; new int[1][0][] -/
section SDC
variable {p : Program} {l : Launch} {e : Env} {R : Room} {s : State} {m : MethodId} {args : Array Value} {below : List Frame} {meth : Method} {c : Code} {H : Heap} {locs : List Loc} {cells slots : Nat} {Q : State → Prop}
variable {cc : ByteArray} {pc : Nat} {ls : Array Slot} {rest : List Value} {D : va_G} {cl : List vw_C} {A : Nat → Prop} {a : Nat} {tys : List (ClassId × FieldType)} {ws : va_W} {H0 : Heap}
theorem nn_i32 {x : Int32} (hx : ¬ x < 0) : x.toInt = (x.toNatClampNeg : Int) := by
  have h0 : (0 : Int) ≤ x.toInt := by
    have := Int32.not_lt.mp hx
    simpa using Int32.le_iff_toInt_le.mp this
  show x.toInt = ((x.toInt.toNat : Nat) : Int)
  omega
/-- rows of a copied array of arrays -/
abbrev vpq (f : Nat → Option Nat) (n : Nat) : vp_A := (n, .inr (.inr (.inr (.inr f))))
theorem va_cpyA {et : FieldType} (hover : va_AOA et s) (hexec : p.tables.exec = Jvm.exec) (hb : c.code = cc) (hml : c.maxLocals = ls.size) {own : String} {index : Nat} (hown : s.vm.findClass own = some m.cls) (w1 : (Cond.methodLink own index arraycopyName).before args s = true) (w2 : (Cond.native arraycopyName).before args s = true) (w3 : (Cond.static arraycopyName).before args s = true) (w4 : (Cond.initialized "java/lang/System").before args s = true)
    (hK : va_K D cl tys s) (hP : va_P D cl ws H) (hD : va_D A ws) (hS : va_S A H0 H locs) (q0 q1 t0 t1 : Nat) {a0 : Nat} {c0 c1 : ClassId} {n0 n1 : Nat} {f g : Nat → Option Nat} (ha0 : ws[q0]? = some (a0, .inl (c0, vpq f n0))) (ha1 : ws[q1]? = some (a, .inl (c1, vpq g n1))) (ht0 : tys[t0]? = some (c0, .array et)) (ht1 : tys[t1]? = some (c1, .array et))
    {sp dp n : Int32} (h1 : ¬ sp < 0) (h2 : ¬ dp < 0) (h3 : ¬ n < 0) (h4 : sp.toNatClampNeg + n.toNatClampNeg ≤ n0) (h5 : dp.toNatClampNeg + n.toNatClampNeg ≤ n1) (hel : ∀ i : Nat, i < n.toNatClampNeg → ∀ y : Nat, f (sp.toNatClampNeg + i) = some y → ∃ cv : Cell, H[y]? = some cv ∧ cv.vm = .none ∧ s.vm.findClass ("[" ++ et.toString) = some cv.cls)
    (hfr : 1 ≤ R.frames) (hlo : (rest.map fun v => v.category).sum + (nativeFrameWords "java/lang/System" "arraycopy" 5 + 11) ≤ R.locals) (hdg : decode cc pc = .ok (.invokestatic index, 3))
    (kk : ∀ (H1 : Heap) (locs1 : List Loc), va_P D cl (ws.set q1 (a, .inl (c1, vpq (va_cpy f g sp.toNatClampNeg dp.toNatClampNeg n.toNatClampNeg) n1))) H1 → va_D A (ws.set q1 (a, .inl (c1, vpq (va_cpy f g sp.toNatClampNeg dp.toNatClampNeg n.toNatClampNeg) n1))) → va_S A H0 H1 locs1 → W p l e R s m args below meth c H1 locs1 cells slots Q (F0 m (pc + 3) ls rest)) : W p l e R s m args below meth c H locs cells slots Q (F0 m pc ls (.int n :: .int dp :: .ref a :: .int sp :: .ref a0 :: rest)) := by
  intro T hT X
  obtain ⟨cm, c2, kA, fcm, -, f3, f4, f5⟩ := arrayOverA_spec hover
  have b0 : H[a0]? = some (vp_cell c0 (vpq f n0)) := hP q0 _ ha0
  have b1 : H[a]? = some (vp_cell c1 (vpq g n1)) := hP q1 _ ha1
  have e0 : c2 = c0 := Option.some.inj (f5.symm.trans (hK.2 t0 _ ht0).2)
  have e1 : c2 = c1 := Option.some.inj (f5.symm.trans (hK.2 t1 _ ht1).2)
  subst e0
  subst e1
  have sz : ∀ (x : Nat) (u : Nat → Option Nat), (vp_cell c2 (vpq u x)).slots.size = x := fun x u => arrV_size _ _ _
  have hcmv : ∀ (cv : Cell), s.vm.findClass ("[" ++ et.toString) = some cv.cls → cv.cls = cm := fun cv h => Option.some.inj (h.symm.trans fcm)
  obtain ⟨kE, hkE, -⟩ := Vm.findClass_spec fcm
  obtain ⟨vm', X', step⟩ := X.arraycopy hexec hown w1 w2 w3 w4 (srcPos := sp) (destPos := dp) (n := n) (by rw [hT]; exact b0) (by rw [hT]; exact b1)
    (fun _ h => by cases h) (fun _ h => by cases h) (fun h => by cases h) (fun h => by cases h) f3 f3 f4 f4 rfl h1 h2 h3
    (by rw [nn_i32 h1, nn_i32 h3, sz]; omega) (by rw [nn_i32 h2, nn_i32 h3, sz]; omega)
    (fun vm₁ hal i hi => by
      have e : (vp_cell c2 (vpq f n0)).slots.getD (sp.toNatClampNeg + i) .null = va_rf (f (sp.toNatClampNeg + i)) := by
        show (arrV c2 n0 (fun j => va_rf (f j))).slots.getD _ _ = _
        rw [Array.getD_eq_getD_getElem?, arrV_read _ _ (by omega)]
        rfl
      rw [e]
      cases hy : f (sp.toNatClampNeg + i) with
      | none => exact ⟨rfl, trivial⟩
      | some y =>
        obtain ⟨cv, g1, g2, g3⟩ := hel i hi y hy
        obtain ⟨kE', hkE', -⟩ := hal.2.2 _ _ hkE
        refine ⟨rfl, cv, (show T.heap[y]? = some cv by rw [hT]; exact g1), (fun q h => by rw [g2] at h; cases h), ⟨kE', by rw [hcmv cv g3]; exact hkE'⟩, ⟨kE', hkE'⟩, ?_⟩
        show vm₁.assignable _ _ = true
        rw [hcmv cv g3]
        exact z_asg _ _)
    (g := F0 m pc ls (.int n :: .int dp :: .ref a :: .int sp :: .ref a0 :: rest)) rfl (by rw [hml]) (rest := rest) rfl (by rw [hb]; exact hdg) hfr (by show 2 * 0 + _ + _ ≤ _; omega)
  have ec : copied (vp_cell c2 (vpq f n0)) (vp_cell c2 (vpq g n1)) sp dp n = vp_cell c2 (vpq (va_cpy f g sp.toNatClampNeg dp.toNatClampNeg n.toNatClampNeg) n1) := by
    rw [vp_cell_q, vp_cell_q, vp_cell_q]
    exact va_copied (fun z => va_rf z) c2 c2 f g h4
  rw [ec] at X' step
  have hl : a < H.size := (Array.getElem?_eq_some_iff.mp b1).1
  generalize hC : vp_cell c2 (vpq (va_cpy f g sp.toNatClampNeg dp.toNatClampNeg n.toNatClampNeg) n1) = C at X' step
  have hh : ((T.setVm vm').setCell a C).heap = H.setIfInBounds a C := by rw [← hT]; rfl
  have oq : ∀ q : Nat, q ≠ a → (H.setIfInBounds a C)[q]? = H[q]? := fun q hq => by simp [Array.getElem?_setIfInBounds, Ne.symm hq]
  obtain ⟨t, a1, b9⟩ := kk _ _ (hP.set hD ha1 (show (H.setIfInBounds a C)[a]? = some _ by simp [Array.getElem?_setIfInBounds, hl, hC]) oq) (hD.set ha1) ⟨by simp; exact hS.1, fun q g1 g2 => by
      rw [oq q (fun e => g2 (by rw [e]; exact hD.2 q1 _ ha1))]
      exact hS.2.1 q g1 g2, fun q hq => by
      rcases List.mem_append.mp hq with h | h
      · exact hS.2.2 q h
      · obtain ⟨z, -, hz⟩ := List.mem_map.mp h
        rw [← hz]
        exact hD.2 q1 _ ha1⟩ _ hh X'
  exact ⟨t, step t a1, b9⟩
end SDC
section SD6
variable {G : GwT} {Md : Nat → MdT} {D : va_G} {A : Nat → Prop} {l : Launch}
theorem okh_cpyR {h : Zh} {s d : Nat} {sp dp n : Int} (ho : okh h) : okh (cpyR h s sp d dp n) := ⟨fun b i => by rw [gI_cpyR]; exact ho.1 _ _, ho.2.1, ho.2.2⟩
theorem sd_cpyA (m pc ix : Nat) (w1 : Cond.methodLink (mOwn (Md m)) ix arraycopyName ∈ mWs (Md m)) (w2 : Cond.native arraycopyName ∈ mWs (Md m)) (w3 : Cond.static arraycopyName ∈ mWs (Md m)) (w4 : Cond.initialized "java/lang/System" ∈ mWs (Md m)) (hfr : 1 ≤ mFr (Md m)) (hlo : 8 + (nativeFrameWords "java/lang/System" "arraycopy" 5 + 11) ≤ mLo (Md m))
    (d : decode (mCod (Md m)) pc = .ok (.invokestatic ix, 3)) : SM G Md D A l m pc (oCpyR 14 10) := by
  refine ⟨mo_oCpyR 14 10, fun ls st h Q k pp ee RR ss mm aa bb me cc0 HH lc lsC c0 s0 ce se C0 hR hC hS hl ho hcu hsu => ?_⟩
  obtain ⟨⟨hx, hb, hml, hown, hts⟩, hr, hlk, hnm, het, hRm, htr, hA, hG⟩ := id C0
  unfold oCpyR at k
  split at k
  · next n dp dr sp sr r =>
    obtain ⟨k0, ⟨⟨sa, rfl, hsa⟩, ⟨da, rfl, hda⟩, n0, sp0, dp0, hs1, hd1, hel⟩, k⟩ := gd_iff.mp k
    have k0 := Nat.le_of_ble_eq_true k0
    have on : inR n := ho (zi n) (by simp)
    have od : inR dp := ho (zi dp) (by simp)
    have os : inR sp := ho (zi sp) (by simp)
    have hor : ∀ v ∈ r, okz v := fun v hv => ho v (by simp [hv])
    have hs1 : sp + n ≤ gL h sa := hs1
    have hd1 : dp + n ≤ gL h da := hd1
    obtain ⟨hok, ws, tys, hP, hD, hKK, hI⟩ := id hR
    obtain ⟨q0, e0, he0, hE0⟩ := hI sa (by omega) (by omega)
    obtain ⟨cA, t0, he2, ht0⟩ := isE_arr hE0 hsa (by omega)
    subst he2
    obtain ⟨q1, e1, he1, hE1⟩ := hI da (by omega) (by omega)
    obtain ⟨cB, t1, he3, ht1⟩ := isE_arr hE1 hda (by omega)
    subst he3
    refine va_cpyA hG.2.2.2.2.2.2.2.2.1 hx hb (by rw [hml, hl.1]) hown (hts _ w1) (hts _ w2) (hts _ w3) (hts _ w4) hKK hP hD hS q0 q1 t0 t1 he0 he1 ht0 ht1 (z_nneg os sp0) (z_nneg od dp0) (z_nneg on n0) (by rw [z_cl os, z_cl on]; omega) (by rw [z_cl od, z_cl on]; omega) (fun i hi y hy => ?_) (by rw [hRm]; exact hfr) (by rw [sum_cz, hRm]; show _ ≤ mLo (Md m); omega) d (fun H1 lc1 hP1 hD1 hS1 => ?_)
    · rw [z_cl on] at hi
      rw [z_cl os] at hy
      have hk : gK h y = 10 := hel ((sp.toNat + i : Nat) : Int) y (by omega) (by omega) hy
      obtain ⟨qy, ey, hey, hEy⟩ := hI y (by omega) (by omega)
      obtain ⟨cV, tV, he9, htV⟩ := isE_arr hEy hk (by omega)
      subst he9
      have h7 : ∀ x : vp_A, (vp_cell cV x).cls = cV ∧ (vp_cell cV x).vm = .none := fun x => by
        obtain ⟨n2, g | g | g | g | g⟩ := x <;> exact ⟨rfl, rfl⟩
      exact ⟨_, hP qy _ hey, (h7 _).2, by rw [(h7 _).1]; exact (hKK.2 tV _ htV).2⟩
    rw [z_cl os, z_cl od, z_cl on] at hP1 hD1
    refine k pp ee RR ss mm aa bb me cc0 H1 lc1 lsC c0 s0 ce se C0 ⟨okh_cpyR hok, _, tys, hP1, hD1, hKK, inW_set hI he1 (fun _ => rfl) (fun _ => rfl) (fun b nb j => rfl) (fun b nb j => by rw [gR_cpyR, if_neg (fun z => nb z.1)]) (fun b nb j => rfl) (isE_mkA hda (by omega) cB t1 ?_ ht1)⟩ (hC.congr fun b hb9 => ⟨hb9, rfl, fun i => rfl⟩) hS1 hl hor hcu hsu
    refine congrArg Sum.inl (congrArg (Prod.mk cB) ?_)
    show ((gL h da).toNat, _) = ((gL h da).toNat, _)
    refine congrArg (Prod.mk _) (congrArg (fun z => Sum.inr (Sum.inr (Sum.inr (Sum.inr z)))) (funext fun j => ?_))
    show va_cpy (fun j : Nat => gR h sa j) (fun j : Nat => gR h da j) sp.toNat dp.toNat n.toNat j = gR (cpyR h sa sp da dp n) da j
    rw [gR_cpyR]
    unfold va_cpy
    by_cases z : dp.toNat ≤ j ∧ j < dp.toNat + n.toNat
    · rw [if_pos z, if_pos ⟨rfl, by omega, by omega⟩]
      show gR h sa ((sp.toNat + (j - dp.toNat) : Nat) : Int) = _
      rw [show ((sp.toNat + (j - dp.toNat) : Nat) : Int) = sp + (j - dp) by omega]
    · rw [if_neg z, if_neg (fun y => z (by have := y.2; omega))]
  · exact k.elim
theorem sd_cpyB (m pc ix : Nat) (w1 : Cond.methodLink (mOwn (Md m)) ix arraycopyName ∈ mWs (Md m)) (w2 : Cond.native arraycopyName ∈ mWs (Md m)) (w3 : Cond.static arraycopyName ∈ mWs (Md m)) (w4 : Cond.initialized "java/lang/System" ∈ mWs (Md m)) (hfr : 1 ≤ mFr (Md m)) (hlo : 8 + (nativeFrameWords "java/lang/System" "arraycopy" 5 + 11) ≤ mLo (Md m))
    (d : decode (mCod (Md m)) pc = .ok (.invokestatic ix, 3)) : SM G Md D A l m pc (oCpyR 16 14) := by
  refine ⟨mo_oCpyR 16 14, fun ls st h Q k pp ee RR ss mm aa bb me cc0 HH lc lsC c0 s0 ce se C0 hR hC hS hl ho hcu hsu => ?_⟩
  obtain ⟨⟨hx, hb, hml, hown, hts⟩, hr, hlk, hnm, het, hRm, htr, hA, hG⟩ := id C0
  unfold oCpyR at k
  split at k
  · next n dp dr sp sr r =>
    obtain ⟨k0, ⟨⟨sa, rfl, hsa⟩, ⟨da, rfl, hda⟩, n0, sp0, dp0, hs1, hd1, hel⟩, k⟩ := gd_iff.mp k
    have k0 := Nat.le_of_ble_eq_true k0
    have on : inR n := ho (zi n) (by simp)
    have od : inR dp := ho (zi dp) (by simp)
    have os : inR sp := ho (zi sp) (by simp)
    have hor : ∀ v ∈ r, okz v := fun v hv => ho v (by simp [hv])
    have hs1 : sp + n ≤ gL h sa := hs1
    have hd1 : dp + n ≤ gL h da := hd1
    obtain ⟨hok, ws, tys, hP, hD, hKK, hI⟩ := id hR
    obtain ⟨q0, e0, he0, hE0⟩ := hI sa (by omega) (by omega)
    obtain ⟨cA, t0, he2, ht0⟩ := isE_arr hE0 hsa (by omega)
    subst he2
    obtain ⟨q1, e1, he1, hE1⟩ := hI da (by omega) (by omega)
    obtain ⟨cB, t1, he3, ht1⟩ := isE_arr hE1 hda (by omega)
    subst he3
    refine va_cpyA hG.2.2.2.2.2.2.2.2.2 hx hb (by rw [hml, hl.1]) hown (hts _ w1) (hts _ w2) (hts _ w3) (hts _ w4) hKK hP hD hS q0 q1 t0 t1 he0 he1 ht0 ht1 (z_nneg os sp0) (z_nneg od dp0) (z_nneg on n0) (by rw [z_cl os, z_cl on]; omega) (by rw [z_cl od, z_cl on]; omega) (fun i hi y hy => ?_) (by rw [hRm]; exact hfr) (by rw [sum_cz, hRm]; show _ ≤ mLo (Md m); omega) d (fun H1 lc1 hP1 hD1 hS1 => ?_)
    · rw [z_cl on] at hi
      rw [z_cl os] at hy
      have hk : gK h y = 14 := hel ((sp.toNat + i : Nat) : Int) y (by omega) (by omega) hy
      obtain ⟨qy, ey, hey, hEy⟩ := hI y (by omega) (by omega)
      obtain ⟨cV, tV, he9, htV⟩ := isE_arr hEy hk (by omega)
      subst he9
      have h7 : ∀ x : vp_A, (vp_cell cV x).cls = cV ∧ (vp_cell cV x).vm = .none := fun x => by
        obtain ⟨n2, g | g | g | g | g⟩ := x <;> exact ⟨rfl, rfl⟩
      exact ⟨_, hP qy _ hey, (h7 _).2, by rw [(h7 _).1]; exact (hKK.2 tV _ htV).2⟩
    rw [z_cl os, z_cl od, z_cl on] at hP1 hD1
    refine k pp ee RR ss mm aa bb me cc0 H1 lc1 lsC c0 s0 ce se C0 ⟨okh_cpyR hok, _, tys, hP1, hD1, hKK, inW_set hI he1 (fun _ => rfl) (fun _ => rfl) (fun b nb j => rfl) (fun b nb j => by rw [gR_cpyR, if_neg (fun z => nb z.1)]) (fun b nb j => rfl) (isE_mkA hda (by omega) cB t1 ?_ ht1)⟩ (hC.congr fun b hb9 => ⟨hb9, rfl, fun i => rfl⟩) hS1 hl hor hcu hsu
    refine congrArg Sum.inl (congrArg (Prod.mk cB) ?_)
    show ((gL h da).toNat, _) = ((gL h da).toNat, _)
    refine congrArg (Prod.mk _) (congrArg (fun z => Sum.inr (Sum.inr (Sum.inr (Sum.inr z)))) (funext fun j => ?_))
    show va_cpy (fun j : Nat => gR h sa j) (fun j : Nat => gR h da j) sp.toNat dp.toNat n.toNat j = gR (cpyR h sa sp da dp n) da j
    rw [gR_cpyR]
    unfold va_cpy
    by_cases z : dp.toNat ≤ j ∧ j < dp.toNat + n.toNat
    · rw [if_pos z, if_pos ⟨rfl, by omega, by omega⟩]
      show gR h sa ((sp.toNat + (j - dp.toNat) : Nat) : Int) = _
      rw [show ((sp.toNat + (j - dp.toNat) : Nat) : Int) = sp + (j - dp) by omega]
    · rw [if_neg z, if_neg (fun y => z (by have := y.2; omega))]
  · exact k.elim
theorem ac_of {args : Array Value} {s : State} (h : va_AOA .int s) : (Cond.arrayClass (.array .int)).before args s = true := by
  obtain ⟨cm, c2, kA, fcm, -, f3, f4, f5⟩ := arrayOverA_spec h
  have f5b : s.vm.findClass ("[" ++ (FieldType.array .int).toString) = some c2 := f5
  unfold Cond.before
  simp only [Cond.holds, Cond.value]
  rw [f5b]
  simp [f3, f4]
theorem inW_nw3 {h : Zh} {tys : List (ClassId × FieldType)} {ws : va_W} {q r : Nat} {e1 e2 : va_E} {cA cy : ClassId} {t1 t2 : Nat} (hI : inW h tys ws) (hn : r ≠ q) (h1 : tys[t1]? = some (cA, .array (.array .int))) (h2 : tys[t2]? = some (cy, .array .int)) (d1 : e1 = .inl (cA, 1, .inr (.inr (.inr (.inr (fun i => if i < 1 then some r else none)))))) (d2 : e2 = .inl (cy, 0, .inr (.inr (.inr (.inr (fun _ => none)))))) : inW (nw3 h q r) tys (ws ++ [(q, e1), (r, e2)]) := by
  intro b g0 g1
  by_cases z1 : b = q
  · subst z1
    refine ⟨ws.length, e1, by rw [List.getElem?_append_right (Nat.le_refl _), Nat.sub_self]; rfl, ?_⟩
    subst d1
    have hk : gK (nw3 h b r) b = 16 := by unfold nw3; rw [gK_pR, gK_nw, if_pos rfl]
    refine isE_mkA hk (by omega) cA t1 (congrArg Sum.inl (congrArg (Prod.mk cA) ?_)) h1
    show _ = ((gL (nw3 h b r) b).toNat, _)
    have hl : gL (nw3 h b r) b = 1 := by unfold nw3; rw [gL_pR, gL_nw, if_pos rfl]
    rw [hl]
    refine congrArg (Prod.mk _) (congrArg (fun z => Sum.inr (Sum.inr (Sum.inr (Sum.inr z)))) (funext fun j => ?_))
    unfold nw3
    rw [gR_pR]
    by_cases hj : j < 1
    · rw [if_pos hj, if_pos ⟨rfl, by omega⟩]
    · rw [if_neg hj, if_neg (fun y => hj (by have := y.2; omega)), gR_nw, if_pos rfl]
  · by_cases z2 : b = r
    · subst z2
      refine ⟨ws.length + 1, e2, by rw [List.getElem?_append_right (by omega)]; rw [show ws.length + 1 - ws.length = 1 by omega]; rfl, ?_⟩
      subst d2
      have hk : gK (nw3 h q b) b = 14 := by unfold nw3; rw [gK_pR, gK_nw, if_neg hn, gK_nw, if_pos rfl]
      refine isE_mkA hk (by omega) cy t2 (congrArg Sum.inl (congrArg (Prod.mk cy) ?_)) h2
      show _ = ((gL (nw3 h q b) b).toNat, _)
      have hl : gL (nw3 h q b) b = 0 := by unfold nw3; rw [gL_pR, gL_nw, if_neg hn, gL_nw, if_pos rfl]
      rw [hl]
      refine congrArg (Prod.mk _) (congrArg (fun z => Sum.inr (Sum.inr (Sum.inr (Sum.inr z)))) (funext fun j => ?_))
      unfold nw3
      rw [gR_pR, if_neg (fun y => hn y.1), gR_nw, if_neg hn, gR_nw, if_pos rfl]
    · have k1 : gK (nw3 h q r) b = gK h b := by unfold nw3; rw [gK_pR, gK_nw, if_neg z1, gK_nw, if_neg z2]
      rw [k1] at g0 g1
      obtain ⟨k, x, g2, g3⟩ := hI b g0 g1
      exact ⟨k, x, by rw [List.getElem?_append_left (List.getElem?_eq_some_iff.mp g2).1]; exact g2, isE_congr k1 (by unfold nw3; rw [gL_pR, gL_nw, if_neg z1, gL_nw, if_neg z2]) (fun i => by unfold nw3; rw [gI_pR, gI_nw, if_neg z1, gI_nw, if_neg z2]) (fun i => by unfold nw3; rw [gR_pR, if_neg (fun y => z1 y.1), gR_nw, if_neg z1, gR_nw, if_neg z2]) (fun i => by unfold nw3; rw [gJ_pR, gJ_nw, if_neg z1, gJ_nw, if_neg z2]) g3⟩
theorem sd_new3 (m pc ix : Nat) (w1 : Cond.classLink (mOwn (Md m)) ix ("[" ++ (FieldType.array (.array .int)).toString) ∈ mWs (Md m))
    (d : decode (mCod (Md m)) pc = .ok (.multianewarray ix 2, 4)) : SM G Md D A l m pc oNew3 := by
  refine ⟨mo_oNew3, fun ls st h Q k9 pp ee RR ss mm aa bb me cc0 HH lc lsC c0 s0 ce se C0 hR hC hS hl ho hcu hsu => ?_⟩
  obtain ⟨⟨hx, hb, hml, hown, hts⟩, hr, hlk, hnm, het, hRm, htr, hA, hG⟩ := id C0
  unfold oNew3 at k9
  split at k9
  · next k n t =>
    obtain ⟨⟨⟨rfl, rfl⟩, hc1, hc2⟩, k9⟩ := k9
    have hor : ∀ v ∈ t, okz v := fun v hv => ho v (by simp [hv])
    obtain ⟨hok, ws, tys, hP, hD, hKK, hI⟩ := id hR
    have wac : (Cond.arrayClass (.array .int)).before aa ss = true := ac_of hG.2.2.2.2.2.2.2.2.1
    obtain ⟨cy, ky, compy, f1, f2, f3⟩ := Cond.arrayClass_spec wac
    have hKK2 : va_K D vwCl (tys ++ [(cy, .array .int)]) ss := ⟨hKK.1, fun i x hx9 => by
      by_cases hl9 : i < tys.length
      · rw [List.getElem?_append_left hl9] at hx9
        exact hKK.2 i x hx9
      · rw [List.getElem?_append_right (by omega)] at hx9
        have hz : i - tys.length < 1 := (List.getElem?_eq_some_iff.mp hx9).1
        rw [show i - tys.length = 0 by omega] at hx9
        cases hx9
        exact ⟨fun n z => ⟨fun k h => (by cases h), ky, f2, compy, f3⟩, f1⟩⟩
    have e8 : (FieldType.array (.array .int)).toString = "[" ++ (FieldType.array .int).toString := rfl
    refine va_mna (X := ws) (L := []) (f := fun _ => .inr (0, [])) (N' := 1) (K' := 0) (n := 1) (k := 0) (z := (0, .inr (.inr (.inr (.inr (fun _ => none)))))) hx hb hown (hts _ w1) hG.2.2.2.2.2.2.2.2.2 wac (cy := cy) (by rw [e8]; exact f1) hKK2 (by rw [show va_pl [] (fun _ => (.inr (0, []) : va_E)) = [] from rfl, List.append_nil]; exact hP) (by rw [show va_pl [] (fun _ => (.inr (0, []) : va_E)) = [] from rfl, List.append_nil]; exact hD) hS hA (by decide) (by decide) (by decide) (by decide) (by decide) (by decide) (by decide) rfl rfl (by rw [hRm]; show ce + (1 + 1) ≤ MXC - c0; omega) (by rw [hRm]; show se + (1 + 1 * 0) ≤ MXS - s0; omega) (fun c => by show ({ cls := c, slots := Array.replicate 0 (defaultValue (.array .int)), vm := .none } : Cell) = _; exact arrV_new _ _ _) d (fun q r cA H1 hinj hnL hK1 hP1 hD1 hS1 => ?_)
    have eW : ((ws ++ [(q, .inl (cA, 1, .inr (.inr (.inr (.inr (fun i => if i < 1 then some (r i) else none))))))]) ++ va_pl ([] ++ (List.range 1).map r) (vr_up (fun _ => .inr (0, [])) ((List.range 1).map r) (.inl (cy, 0, .inr (.inr (.inr (.inr (fun _ => none))))))) : va_W) = ws ++ [(q, .inl (cA, 1, .inr (.inr (.inr (.inr (fun i => if i < 1 then some (r 0) else none)))))), (r 0, .inl (cy, 0, .inr (.inr (.inr (.inr (fun _ => none))))))] := by
      rw [List.append_assoc]
      have e1 : (fun i => if i < 1 then some (r i) else none : Nat → Option Nat) = fun i => if i < 1 then some (r 0) else none := funext fun i => by
        by_cases hi : i < 1
        · rw [if_pos hi, if_pos hi, show i = 0 by omega]
        · rw [if_neg hi, if_neg hi]
      rw [e1]
      have e2 : va_pl ([] ++ (List.range 1).map r) (vr_up (fun _ => .inr (0, [])) ((List.range 1).map r) (.inl (cy, 0, .inr (.inr (.inr (.inr (fun _ => none))))))) = [(r 0, (.inl (cy, 0, .inr (.inr (.inr (.inr (fun _ => none))))) : va_E))] := by
        unfold va_pl
        show [(r 0, vr_up _ [r 0] _ (r 0))] = _
        rw [vr_up_in (by simp)]
      rw [e2]
      rfl
    rw [eW] at hP1 hD1
    have hq0 : gK h q = 0 := fresh_of (i := ws.length) hI hC hD1 (Nat.le_refl _) (by rw [List.getElem?_append_right (Nat.le_refl _), Nat.sub_self]; rfl)
    have hr1 : (ws ++ [(q, .inl (cA, 1, .inr (.inr (.inr (.inr (fun i => if i < 1 then some (r 0) else none)))))), (r 0, .inl (cy, 0, .inr (.inr (.inr (.inr (fun _ => none))))))] : va_W)[ws.length + 1]? = some (r 0, .inl (cy, 0, .inr (.inr (.inr (.inr (fun _ => none)))))) := by
      rw [List.getElem?_append_right (by omega), show ws.length + 1 - ws.length = 1 by omega]
      rfl
    have hr0 : gK h (r 0) = 0 := fresh_of (i := ws.length + 1) hI hC hD1 (by omega) hr1
    have hne : r 0 ≠ q := fun e => by
      have := hD1.1 (ws.length + 1) ws.length _ _ hr1 (by rw [List.getElem?_append_right (Nat.le_refl _), Nat.sub_self]; rfl) e
      omega
    refine k9 q (r 0) hq0 hr0 hne pp ee RR ss mm aa bb me cc0 H1 lc lsC c0 s0 (ce + 1 + 1) (se + 1 + 1 * 0) C0 ⟨⟨fun a i => ?_, fun a => ?_, fun a => ?_, by show gC h + 1 + 1 ≤ _; omega, by show gS h + 0 + 1 ≤ _; omega⟩, _, _, hP1, hD1, hK1, inW_nw3 (cA := cA) (cy := cy) (t1 := (tys ++ [((cy, FieldType.array .int) : ClassId × FieldType)]).length) (t2 := tys.length) (inW_tys (inW_tys hI)) hne (by rw [List.getElem?_append_right (Nat.le_refl _), Nat.sub_self]; rfl) (by rw [List.getElem?_append_left (by simp), List.getElem?_append_right (Nat.le_refl _), Nat.sub_self]; rfl) rfl rfl⟩ (hC.congr fun b hb9 => ?_) hS1 hl (List.forall_mem_cons.mpr ⟨trivial, hor⟩) (by show gC h + 1 + 1 = _; omega) (by show gS h + 0 + 1 = _; omega)
    · unfold nw3; rw [gI_pR, gI_nw]; split; exact z_0; rw [gI_nw]; split; exact z_0; exact hok.1 a i
    · unfold nw3; rw [gL_pR, gL_nw]; split; omega; rw [gL_nw]; split; omega; exact hok.2.1 a
    · unfold nw3; rw [gK_pR, gK_nw]; split; omega; rw [gK_nw]; split; omega; exact hok.2.2.1 a
    · unfold nw3 at hb9
      rw [gK_pR, gK_nw] at hb9
      by_cases z1 : b = q
      · rw [if_pos z1] at hb9; omega
      · rw [if_neg z1, gK_nw] at hb9
        by_cases z2 : b = r 0
        · rw [if_pos z2] at hb9; omega
        · rw [if_neg z2] at hb9
          exact ⟨hb9, by unfold nw3; rw [gL_pR, gL_nw, if_neg z1, gL_nw, if_neg z2], fun i => by unfold nw3; rw [gI_pR, gI_nw, if_neg z1, gI_nw, if_neg z2]⟩
  · exact k9.elim
end SD6
end
