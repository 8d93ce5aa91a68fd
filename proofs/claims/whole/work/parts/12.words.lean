/-! THE PROGRAM's words, out of the tables, by their places; all methods have the same list behind their own code -/
def zBig : List Cond := lw_tbl.filter goodWord
theorem zin (i : Nat) {w : Cond} (h : lw_tbl[i]? = some w) (g : goodWord w = true) : w ∈ zBig := List.mem_filter.mpr ⟨List.mem_of_getElem? h, g⟩
theorem zgood {w : Cond} (h : w ∈ zBig) : (w.onTables && w.keeps) = true ∨ ∃ ty, w = .arrayClass ty := good_of_word (List.mem_filter.mp h).2
theorem gdI {a b : Cond} {r1 r2 : List Cond} (h1 : r1 = a :: zBig) (h2 : r2 = b :: zBig) (hb : b ∈ zBig) : GoodIn r1 r2 := by
  subst h1; subst h2
  intro w hw
  rcases List.mem_cons.mp hw with rfl | hw
  · exact ⟨List.mem_cons_of_mem _ hb, zgood hb⟩
  · exact ⟨List.mem_cons_of_mem _ hw, zgood hw⟩
theorem gd1 {a w : Cond} {r1 : List Cond} (h1 : r1 = a :: zBig) (hw : w ∈ zBig) : w ∈ r1 ∧ ((w.onTables && w.keeps) = true ∨ ∃ ty, w = .arrayClass ty) := by
  subst h1
  exact ⟨List.mem_cons_of_mem _ hw, zgood hw⟩
theorem gdV {a b : Cond} {r1 r2 : List Cond} {own C : String} {ix : Nat} {y : MethodName} (h1 : r1 = a :: zBig) (h2 : r2 = b :: zBig) (w1 : Cond.methodLink own ix y ∈ zBig) (w2 : Cond.instanceMethod y ∈ zBig) (w3 : Cond.selects C y y ∈ zBig) (w4 : Cond.initialized C ∈ zBig) (hb : b ∈ zBig) : GoodIn r1 (wsV own ix C y r2) := by
  intro w hw
  unfold wsV at hw
  rcases List.mem_append.mp hw with hw | hw
  · simp only [List.mem_cons, List.not_mem_nil, or_false] at hw
    rcases hw with rfl | rfl | rfl | rfl
    · exact gd1 h1 w1
    · exact gd1 h1 w2
    · exact gd1 h1 w3
    · exact gd1 h1 w4
  · exact gdI h1 h2 hb w hw
theorem gdS {a b : Cond} {r1 r2 : List Cond} {own : String} {ix : Nat} {y : MethodName} (h1 : r1 = a :: zBig) (h2 : r2 = b :: zBig) (w1 : Cond.methodLink own ix y ∈ zBig) (w2 : Cond.static y ∈ zBig) (w4 : Cond.initialized y.cls ∈ zBig) (hb : b ∈ zBig) : GoodIn r1 (va_wsS own ix y r2) := by
  intro w hw
  unfold va_wsS at hw
  rcases List.mem_append.mp hw with hw | hw
  · simp only [List.mem_cons, List.not_mem_nil, or_false] at hw
    rcases hw with rfl | rfl | rfl
    · exact gd1 h1 w1
    · exact gd1 h1 w2
    · exact gd1 h1 w4
  · exact gdI h1 h2 hb w hw
theorem lookup_mem {e t : Nat} : ∀ (hs : List (Nat × Nat)), hs.lookup e = some t → (e, t) ∈ hs
  | [], h => by cases h
  | (a, b) :: r, h => by
    rw [List.lookup_cons] at h
    by_cases q : e = a
    · subst q
      simp at h
      subst h
      exact List.mem_cons_self
    · have q2 : (e == a) = false := by simp [q]
      rw [q2] at h
      exact List.mem_cons_of_mem _ (lookup_mem r h)
theorem catch_of {G : GwT} {M : MdT} {pc : Nat} {hs : List (Nat × Nat)} (h0 : hs = [] → mHH M = []) (h : ∀ q ∈ hs, ∃ (pre : List ExceptionTableEntry) (x : ExceptionTableEntry) (suf : List ExceptionTableEntry) (name : String), tableOf (mHH M) = pre ++ x :: suf ∧
  (∀ z ∈ pre, covers z pc = false ∨ (z.catchType ≠ 0 ∧ ∃ nm, Cond.classLink (mOwn M) z.catchType nm ∈ mWs M ∧ (xcl q.1, nm) ∈ G.2.1)) ∧ covers x pc = true ∧ x.catchType ≠ 0 ∧ Cond.classLink (mOwn M) x.catchType name ∈ mWs M ∧ (xcl q.1, name) ∈ G.2.2.1 ∧ x.handlerPc = q.2) : CatchOK G M pc hs := ⟨h0, fun e t q => h (e, t) (lookup_mem hs q)⟩
theorem zw0 : Cond.methodLink RX0 1 Lib.objectInit ∈ zBig := zin 516 (by decide +kernel) (by decide +kernel)
theorem zw1 : Cond.instanceMethod Lib.objectInit ∈ zBig := zin 70 (by decide +kernel) (by decide +kernel)
theorem zw2 : Cond.code Lib.objectInit ⟨#[0xb1]⟩ 1 none ∈ zBig := zin 71 (by decide +kernel) (by decide +kernel)
theorem zw3 : Cond.fieldLink RX0 7 "Marginalia$Anchor" "from" "I" ∈ zBig := zin 517 (by decide +kernel) (by decide +kernel)
theorem zw4 : Cond.fieldLink RX0 13 "Marginalia$Anchor" "to" "I" ∈ zBig := zin 521 (by decide +kernel) (by decide +kernel)
theorem zw5 : Cond.code yX0_isLost cX0_isLost 1 (some .boolean) ∈ zBig := zin 165 (by decide +kernel) (by decide +kernel)
theorem zw6 : Cond.methodLink RX0 16 yX0_isLost ∈ zBig := zin 763 (by decide +kernel) (by decide +kernel)
theorem zw7 : Cond.instanceMethod yX0_isLost ∈ zBig := zin 163 (by decide +kernel) (by decide +kernel)
theorem zw8 : Cond.selects RX0 yX0_isLost yX0_isLost ∈ zBig := zin 164 (by decide +kernel) (by decide +kernel)
theorem zw9 : Cond.initialized RX0 ∈ zBig := zin 60 (by decide +kernel) (by decide +kernel)
theorem zw10 : Cond.code yX0_cutAheadOf cX0_cutAheadOf 3 (some .int) ∈ zBig := zin 466 (by decide +kernel) (by decide +kernel)
theorem zw11 : Cond.methodLink RX0 20 yX0_cutAheadOf ∈ zBig := zin 464 (by decide +kernel) (by decide +kernel)
theorem zw12 : Cond.static yX0_cutAheadOf ∈ zBig := zin 465 (by decide +kernel) (by decide +kernel)
theorem zw13 : Cond.methodLink RX0 24 Lib.Math.min.name ∈ zBig := zin 467 (by decide +kernel) (by decide +kernel)
theorem zw14 : Cond.static Lib.Math.min.name ∈ zBig := zin 468 (by decide +kernel) (by decide +kernel)
theorem zw15 : Cond.initialized "java/lang/Math" ∈ zBig := zin 61 (by decide +kernel) (by decide +kernel)
theorem zw16 : Cond.code Lib.Math.min.name Lib.Math.min.code 2 (some .int) ∈ zBig := zin 469 (by decide +kernel) (by decide +kernel)
theorem zw17 : Cond.methodLink RX0 30 Lib.Math.max.name ∈ zBig := zin 470 (by decide +kernel) (by decide +kernel)
theorem zw18 : Cond.static Lib.Math.max.name ∈ zBig := zin 471 (by decide +kernel) (by decide +kernel)
theorem zw19 : Cond.code Lib.Math.max.name Lib.Math.max.code 2 (some .int) ∈ zBig := zin 472 (by decide +kernel) (by decide +kernel)
theorem zw20 : Cond.methodLink RX1 3 Lib.objectInit ∈ zBig := zin 105 (by decide +kernel) (by decide +kernel)
theorem zw21 : Cond.classLink RX1 11 "[[I" ∈ zBig := zin 106 (by decide +kernel) (by decide +kernel)
theorem zw22 : Cond.arrayClass .int ∈ zBig := zin 97 (by decide +kernel) (by decide +kernel)
theorem zw23 : Cond.fieldLink RX1 13 "Marginalia$Export" "columns" "[[I" ∈ zBig := zin 107 (by decide +kernel) (by decide +kernel)
theorem zw24 : Cond.fieldLink RX1 22 "Marginalia$Export" "size" "I" ∈ zBig := zin 109 (by decide +kernel) (by decide +kernel)
theorem zw25 : Cond.code yX2_contentShown cX2_contentShown 1 (some .int) ∈ zBig := zin 361 (by decide +kernel) (by decide +kernel)
theorem zw26 : Cond.methodLink RX1 47 yX2_contentShown ∈ zBig := zin 744 (by decide +kernel) (by decide +kernel)
theorem zw27 : Cond.instanceMethod yX2_contentShown ∈ zBig := zin 359 (by decide +kernel) (by decide +kernel)
theorem zw28 : Cond.selects RX2 yX2_contentShown yX2_contentShown ∈ zBig := zin 360 (by decide +kernel) (by decide +kernel)
theorem zw29 : Cond.initialized RX2 ∈ zBig := zin 63 (by decide +kernel) (by decide +kernel)
theorem zw30 : Cond.methodLink RX2 3 Lib.objectInit ∈ zBig := zin 578 (by decide +kernel) (by decide +kernel)
theorem zw31 : Cond.fieldLink RX2 9 "Marginalia$Note" "number" "I" ∈ zBig := zin 579 (by decide +kernel) (by decide +kernel)
theorem zw32 : Cond.fieldLink RX2 15 "Marginalia$Note" "author" "I" ∈ zBig := zin 582 (by decide +kernel) (by decide +kernel)
theorem zw33 : Cond.fieldLink RX2 18 "Marginalia$Note" "content" "I" ∈ zBig := zin 584 (by decide +kernel) (by decide +kernel)
theorem zw34 : Cond.fieldLink RX2 21 "Marginalia$Note" "parent" "LMarginalia$Note;" ∈ zBig := zin 587 (by decide +kernel) (by decide +kernel)
theorem zw35 : Cond.fieldLink RX2 25 "Marginalia$Note" "strand" "LMarginalia$Strand;" ∈ zBig := zin 588 (by decide +kernel) (by decide +kernel)
theorem zw36 : Cond.fieldLink RX2 29 "Marginalia$Note" "depth" "I" ∈ zBig := zin 585 (by decide +kernel) (by decide +kernel)
theorem zw37 : Cond.fieldLink RX2 32 "Marginalia$Note" "isGone" "Z" ∈ zBig := zin 598 (by decide +kernel) (by decide +kernel)
theorem zw38 : Cond.fieldLink RX2 36 "Marginalia$Note" "isEmpty" "Z" ∈ zBig := zin 595 (by decide +kernel) (by decide +kernel)
theorem zw39 : Cond.fieldLink RX2 39 "Marginalia$Note" "nextInOrder" "LMarginalia$Note;" ∈ zBig := zin 592 (by decide +kernel) (by decide +kernel)
theorem zw40 : Cond.fieldLink RX2 42 "Marginalia$Note" "repliesNotGone" "I" ∈ zBig := zin 594 (by decide +kernel) (by decide +kernel)
theorem zw41 : Cond.methodLink RX2 50 yX2_contentShown ∈ zBig := zin 358 (by decide +kernel) (by decide +kernel)
theorem zw42 : Cond.methodLink RX3 3 Lib.objectInit ∈ zBig := zin 536 (by decide +kernel) (by decide +kernel)
theorem zw43 : Cond.fieldLink RX3 9 "Marginalia$Strand" "headNumber" "I" ∈ zBig := zin 537 (by decide +kernel) (by decide +kernel)
theorem zw44 : Cond.fieldLink RX3 15 "Marginalia$Strand" "author" "I" ∈ zBig := zin 540 (by decide +kernel) (by decide +kernel)
theorem zw45 : Cond.fieldLink RX3 18 "Marginalia$Strand" "view" "I" ∈ zBig := zin 542 (by decide +kernel) (by decide +kernel)
theorem zw46 : Cond.fieldLink RX3 21 "Marginalia$Strand" "anchor" "LMarginalia$Anchor;" ∈ zBig := zin 544 (by decide +kernel) (by decide +kernel)
theorem zw47 : Cond.fieldLink RX3 25 "Marginalia$Strand" "quoted" "[I" ∈ zBig := zin 548 (by decide +kernel) (by decide +kernel)
theorem zw48 : Cond.fieldLink RX3 29 "Marginalia$Strand" "proposedMany" "I" ∈ zBig := zin 553 (by decide +kernel) (by decide +kernel)
theorem zw49 : Cond.fieldLink RX3 32 "Marginalia$Strand" "isSettled" "Z" ∈ zBig := zin 550 (by decide +kernel) (by decide +kernel)
theorem zw50 : Cond.methodLink RX3 36 yX0_isLost ∈ zBig := zin 198 (by decide +kernel) (by decide +kernel)
theorem zw51 : Cond.methodLink RX4 3 Lib.objectInit ∈ zBig := zin 77 (by decide +kernel) (by decide +kernel)
theorem zw52 : Cond.classLink RX4 9 "[[I" ∈ zBig := zin 78 (by decide +kernel) (by decide +kernel)
theorem zw53 : Cond.fieldLink RX4 11 "Marginalia$Text" "namesIn" "[[I" ∈ zBig := zin 80 (by decide +kernel) (by decide +kernel)
theorem zw54 : Cond.fieldLink RX4 16 "Marginalia$Text" "sizeIn" "[I" ∈ zBig := zin 81 (by decide +kernel) (by decide +kernel)
theorem zw55 : Cond.fieldLink RX4 20 "Marginalia$Text" "signOfName" "[I" ∈ zBig := zin 82 (by decide +kernel) (by decide +kernel)
theorem zw56 : Cond.fieldLink RX4 23 "Marginalia$Text" "edits" "I" ∈ zBig := zin 84 (by decide +kernel) (by decide +kernel)
theorem zw57 : Cond.code yX4_size cX4_size 1 (some .int) ∈ zBig := zin 145 (by decide +kernel) (by decide +kernel)
theorem zw58 : Cond.methodLink RX4 27 yX4_size ∈ zBig := zin 174 (by decide +kernel) (by decide +kernel)
theorem zw59 : Cond.instanceMethod yX4_size ∈ zBig := zin 143 (by decide +kernel) (by decide +kernel)
theorem zw60 : Cond.selects RX4 yX4_size yX4_size ∈ zBig := zin 144 (by decide +kernel) (by decide +kernel)
theorem zw61 : Cond.initialized RX4 ∈ zBig := zin 50 (by decide +kernel) (by decide +kernel)
theorem zw62 : Cond.code yX5_isWithin cX5_isWithin 3 (some .boolean) ∈ zBig := zin 177 (by decide +kernel) (by decide +kernel)
theorem zw63 : Cond.initialized RX5 ∈ zBig := zin 49 (by decide +kernel) (by decide +kernel)
theorem zw64 : Cond.static yX5_isWithin ∈ zBig := zin 176 (by decide +kernel) (by decide +kernel)
theorem zw65 : Cond.code yX4_signIn cX4_signIn 3 (some .int) ∈ zBig := zin 181 (by decide +kernel) (by decide +kernel)
theorem zw66 : Cond.methodLink RX4 35 yX4_signIn ∈ zBig := zin 178 (by decide +kernel) (by decide +kernel)
theorem zw67 : Cond.instanceMethod yX4_signIn ∈ zBig := zin 179 (by decide +kernel) (by decide +kernel)
theorem zw68 : Cond.selects RX4 yX4_signIn yX4_signIn ∈ zBig := zin 180 (by decide +kernel) (by decide +kernel)
theorem zw69 : Cond.methodLink RX4 39 arraycopyName ∈ zBig := zin 433 (by decide +kernel) (by decide +kernel)
theorem zw70 : Cond.native arraycopyName ∈ zBig := zin 435 (by decide +kernel) (by decide +kernel)
theorem zw71 : Cond.static arraycopyName ∈ zBig := zin 434 (by decide +kernel) (by decide +kernel)
theorem zw72 : Cond.initialized "java/lang/System" ∈ zBig := zin 59 (by decide +kernel) (by decide +kernel)
theorem zw73 : Cond.fieldLink RX4 45 "Marginalia$Text" "nameCount" "I" ∈ zBig := zin 83 (by decide +kernel) (by decide +kernel)
theorem zw74 : Cond.methodLink RX5 1 Lib.objectInit ∈ zBig := zin 69 (by decide +kernel) (by decide +kernel)
theorem zw75 : Cond.fieldLink RX5 9 "Marginalia" "rights" "[I" ∈ zBig := zin 116 (by decide +kernel) (by decide +kernel)
theorem zw76 : Cond.classLink RX5 13 RX4 ∈ zBig := zin 72 (by decide +kernel) (by decide +kernel)
theorem zw77 : Cond.instantiable RX4 5 ∈ zBig := zin 73 (by decide +kernel) (by decide +kernel)
theorem zw78 : Cond.code yX4_init cX4_init 1 none ∈ zBig := zin 76 (by decide +kernel) (by decide +kernel)
theorem zw79 : Cond.methodLink RX5 15 yX4_init ∈ zBig := zin 74 (by decide +kernel) (by decide +kernel)
theorem zw80 : Cond.instanceMethod yX4_init ∈ zBig := zin 75 (by decide +kernel) (by decide +kernel)
theorem zw81 : Cond.fieldLink RX5 16 "Marginalia" "text" "LMarginalia$Text;" ∈ zBig := zin 117 (by decide +kernel) (by decide +kernel)
theorem zw82 : Cond.classLink RX5 20 RX2 ∈ zBig := zin 98 (by decide +kernel) (by decide +kernel)
theorem zw83 : Cond.fieldLink RX5 22 "Marginalia" "notes" "[LMarginalia$Note;" ∈ zBig := zin 118 (by decide +kernel) (by decide +kernel)
theorem zw84 : Cond.fieldLink RX5 26 "Marginalia" "chosenHeads" "[LMarginalia$Note;" ∈ zBig := zin 119 (by decide +kernel) (by decide +kernel)
theorem zw85 : Cond.classLink RX5 29 RX1 ∈ zBig := zin 100 (by decide +kernel) (by decide +kernel)
theorem zw86 : Cond.instantiable RX1 2 ∈ zBig := zin 101 (by decide +kernel) (by decide +kernel)
theorem zw87 : Cond.initialized RX1 ∈ zBig := zin 51 (by decide +kernel) (by decide +kernel)
theorem zw88 : Cond.code yX1_init cX1_init 1 none ∈ zBig := zin 104 (by decide +kernel) (by decide +kernel)
theorem zw89 : Cond.methodLink RX5 31 yX1_init ∈ zBig := zin 102 (by decide +kernel) (by decide +kernel)
theorem zw90 : Cond.instanceMethod yX1_init ∈ zBig := zin 103 (by decide +kernel) (by decide +kernel)
theorem zw91 : Cond.fieldLink RX5 32 "Marginalia" "kept" "LMarginalia$Export;" ∈ zBig := zin 120 (by decide +kernel) (by decide +kernel)
theorem zw92 : Cond.code yX5_isRight cX5_isRight 1 (some .boolean) ∈ zBig := zin 323 (by decide +kernel) (by decide +kernel)
theorem zw93 : Cond.methodLink RX5 36 yX5_isRight ∈ zBig := zin 321 (by decide +kernel) (by decide +kernel)
theorem zw94 : Cond.static yX5_isRight ∈ zBig := zin 322 (by decide +kernel) (by decide +kernel)
theorem zw95 : Cond.code yX5_requireArgument cX5_requireArgument 1 none ∈ zBig := zin 219 (by decide +kernel) (by decide +kernel)
theorem zw96 : Cond.methodLink RX5 40 yX5_requireArgument ∈ zBig := zin 217 (by decide +kernel) (by decide +kernel)
theorem zw97 : Cond.static yX5_requireArgument ∈ zBig := zin 218 (by decide +kernel) (by decide +kernel)
theorem zw98 : Cond.fieldLink RX5 44 "Marginalia" "userCount" "I" ∈ zBig := zin 121 (by decide +kernel) (by decide +kernel)
theorem zw99 : Cond.code yX5_requireState cX5_requireState 1 none ∈ zBig := zin 385 (by decide +kernel) (by decide +kernel)
theorem zw100 : Cond.methodLink RX5 48 yX5_requireState ∈ zBig := zin 383 (by decide +kernel) (by decide +kernel)
theorem zw101 : Cond.static yX5_requireState ∈ zBig := zin 384 (by decide +kernel) (by decide +kernel)
theorem zw102 : Cond.code yX5_requireUser cX5_requireUser 2 none ∈ zBig := zin 304 (by decide +kernel) (by decide +kernel)
theorem zw103 : Cond.methodLink RX5 51 yX5_requireUser ∈ zBig := zin 301 (by decide +kernel) (by decide +kernel)
theorem zw104 : Cond.instanceMethod yX5_requireUser ∈ zBig := zin 303 (by decide +kernel) (by decide +kernel)
theorem zw105 : Cond.selects RX5 yX5_requireUser yX5_requireUser ∈ zBig := zin 7 (by decide +kernel) (by decide +kernel)
theorem zw106 : Cond.methodLink RX5 55 yX4_size ∈ zBig := zin 142 (by decide +kernel) (by decide +kernel)
theorem zw107 : Cond.methodLink RX5 59 yX5_isWithin ∈ zBig := zin 216 (by decide +kernel) (by decide +kernel)
theorem zw108 : Cond.code yX5_requireIndex cX5_requireIndex 1 none ∈ zBig := zin 419 (by decide +kernel) (by decide +kernel)
theorem zw109 : Cond.methodLink RX5 63 yX5_requireIndex ∈ zBig := zin 417 (by decide +kernel) (by decide +kernel)
theorem zw110 : Cond.static yX5_requireIndex ∈ zBig := zin 418 (by decide +kernel) (by decide +kernel)
theorem zw111 : Cond.code yX4_hasRoomFor cX4_hasRoomFor 3 (some .boolean) ∈ zBig := zin 424 (by decide +kernel) (by decide +kernel)
theorem zw112 : Cond.methodLink RX5 66 yX4_hasRoomFor ∈ zBig := zin 421 (by decide +kernel) (by decide +kernel)
theorem zw113 : Cond.instanceMethod yX4_hasRoomFor ∈ zBig := zin 422 (by decide +kernel) (by decide +kernel)
theorem zw114 : Cond.selects RX4 yX4_hasRoomFor yX4_hasRoomFor ∈ zBig := zin 423 (by decide +kernel) (by decide +kernel)
theorem zw115 : Cond.code yX5_putSigns cX5_putSigns 5 none ∈ zBig := zin 428 (by decide +kernel) (by decide +kernel)
theorem zw116 : Cond.methodLink RX5 70 yX5_putSigns ∈ zBig := zin 425 (by decide +kernel) (by decide +kernel)
theorem zw117 : Cond.instanceMethod yX5_putSigns ∈ zBig := zin 427 (by decide +kernel) (by decide +kernel)
theorem zw118 : Cond.selects RX5 yX5_putSigns yX5_putSigns ∈ zBig := zin 12 (by decide +kernel) (by decide +kernel)
theorem zw119 : Cond.code yX5_requireSign cX5_requireSign 2 none ∈ zBig := zin 454 (by decide +kernel) (by decide +kernel)
theorem zw120 : Cond.methodLink RX5 74 yX5_requireSign ∈ zBig := zin 451 (by decide +kernel) (by decide +kernel)
theorem zw121 : Cond.instanceMethod yX5_requireSign ∈ zBig := zin 453 (by decide +kernel) (by decide +kernel)
theorem zw122 : Cond.selects RX5 yX5_requireSign yX5_requireSign ∈ zBig := zin 13 (by decide +kernel) (by decide +kernel)
theorem zw123 : Cond.code yX5_cutSigns cX5_cutSigns 4 none ∈ zBig := zin 459 (by decide +kernel) (by decide +kernel)
theorem zw124 : Cond.methodLink RX5 77 yX5_cutSigns ∈ zBig := zin 456 (by decide +kernel) (by decide +kernel)
theorem zw125 : Cond.instanceMethod yX5_cutSigns ∈ zBig := zin 458 (by decide +kernel) (by decide +kernel)
theorem zw126 : Cond.selects RX5 yX5_cutSigns yX5_cutSigns ∈ zBig := zin 14 (by decide +kernel) (by decide +kernel)
theorem zw127 : Cond.code yX4_hasVersion cX4_hasVersion 2 (some .boolean) ∈ zBig := zin 483 (by decide +kernel) (by decide +kernel)
theorem zw128 : Cond.methodLink RX5 81 yX4_hasVersion ∈ zBig := zin 480 (by decide +kernel) (by decide +kernel)
theorem zw129 : Cond.instanceMethod yX4_hasVersion ∈ zBig := zin 481 (by decide +kernel) (by decide +kernel)
theorem zw130 : Cond.selects RX4 yX4_hasVersion yX4_hasVersion ∈ zBig := zin 482 (by decide +kernel) (by decide +kernel)
theorem zw131 : Cond.code yX4_hasSignIn cX4_hasSignIn 3 (some .boolean) ∈ zBig := zin 487 (by decide +kernel) (by decide +kernel)
theorem zw132 : Cond.methodLink RX5 84 yX4_hasSignIn ∈ zBig := zin 484 (by decide +kernel) (by decide +kernel)
theorem zw133 : Cond.instanceMethod yX4_hasSignIn ∈ zBig := zin 485 (by decide +kernel) (by decide +kernel)
theorem zw134 : Cond.selects RX4 yX4_hasSignIn yX4_hasSignIn ∈ zBig := zin 486 (by decide +kernel) (by decide +kernel)
theorem zw135 : Cond.methodLink RX5 87 yX4_signIn ∈ zBig := zin 292 (by decide +kernel) (by decide +kernel)
theorem zw136 : Cond.code yX4_placeNow cX4_placeNow 5 (some .int) ∈ zBig := zin 498 (by decide +kernel) (by decide +kernel)
theorem zw137 : Cond.methodLink RX5 91 yX4_placeNow ∈ zBig := zin 495 (by decide +kernel) (by decide +kernel)
theorem zw138 : Cond.instanceMethod yX4_placeNow ∈ zBig := zin 496 (by decide +kernel) (by decide +kernel)
theorem zw139 : Cond.selects RX4 yX4_placeNow yX4_placeNow ∈ zBig := zin 497 (by decide +kernel) (by decide +kernel)
theorem zw140 : Cond.code yX5_isContent cX5_isContent 1 (some .boolean) ∈ zBig := zin 508 (by decide +kernel) (by decide +kernel)
theorem zw141 : Cond.methodLink RX5 97 yX5_isContent ∈ zBig := zin 506 (by decide +kernel) (by decide +kernel)
theorem zw142 : Cond.static yX5_isContent ∈ zBig := zin 507 (by decide +kernel) (by decide +kernel)
theorem zw143 : Cond.fieldLink RX5 100 "Marginalia" "noteCount" "I" ∈ zBig := zin 122 (by decide +kernel) (by decide +kernel)
theorem zw144 : Cond.classLink RX5 103 RX3 ∈ zBig := zin 509 (by decide +kernel) (by decide +kernel)
theorem zw145 : Cond.instantiable RX3 8 ∈ zBig := zin 510 (by decide +kernel) (by decide +kernel)
theorem zw146 : Cond.initialized RX3 ∈ zBig := zin 62 (by decide +kernel) (by decide +kernel)
theorem zw147 : Cond.classLink RX5 105 RX0 ∈ zBig := zin 511 (by decide +kernel) (by decide +kernel)
theorem zw148 : Cond.instantiable RX0 2 ∈ zBig := zin 512 (by decide +kernel) (by decide +kernel)
theorem zw149 : Cond.code yX0_init cX0_init 3 none ∈ zBig := zin 515 (by decide +kernel) (by decide +kernel)
theorem zw150 : Cond.methodLink RX5 107 yX0_init ∈ zBig := zin 513 (by decide +kernel) (by decide +kernel)
theorem zw151 : Cond.instanceMethod yX0_init ∈ zBig := zin 514 (by decide +kernel) (by decide +kernel)
theorem zw152 : Cond.code yX5_quoteOf cX5_quoteOf 5 (some (.array .int)) ∈ zBig := zin 531 (by decide +kernel) (by decide +kernel)
theorem zw153 : Cond.methodLink RX5 109 yX5_quoteOf ∈ zBig := zin 528 (by decide +kernel) (by decide +kernel)
theorem zw154 : Cond.instanceMethod yX5_quoteOf ∈ zBig := zin 530 (by decide +kernel) (by decide +kernel)
theorem zw155 : Cond.selects RX5 yX5_quoteOf yX5_quoteOf ∈ zBig := zin 15 (by decide +kernel) (by decide +kernel)
theorem zw156 : Cond.code yX3_init cX3_init 6 none ∈ zBig := zin 535 (by decide +kernel) (by decide +kernel)
theorem zw157 : Cond.methodLink RX5 113 yX3_init ∈ zBig := zin 533 (by decide +kernel) (by decide +kernel)
theorem zw158 : Cond.instanceMethod yX3_init ∈ zBig := zin 534 (by decide +kernel) (by decide +kernel)
theorem zw159 : Cond.instantiable RX2 10 ∈ zBig := zin 574 (by decide +kernel) (by decide +kernel)
theorem zw160 : Cond.code yX2_init cX2_init 6 none ∈ zBig := zin 577 (by decide +kernel) (by decide +kernel)
theorem zw161 : Cond.methodLink RX5 116 yX2_init ∈ zBig := zin 575 (by decide +kernel) (by decide +kernel)
theorem zw162 : Cond.instanceMethod yX2_init ∈ zBig := zin 576 (by decide +kernel) (by decide +kernel)
theorem zw163 : Cond.code yX5_keepNote cX5_keepNote 2 (some .int) ∈ zBig := zin 624 (by decide +kernel) (by decide +kernel)
theorem zw164 : Cond.methodLink RX5 119 yX5_keepNote ∈ zBig := zin 621 (by decide +kernel) (by decide +kernel)
theorem zw165 : Cond.instanceMethod yX5_keepNote ∈ zBig := zin 623 (by decide +kernel) (by decide +kernel)
theorem zw166 : Cond.selects RX5 yX5_keepNote yX5_keepNote ∈ zBig := zin 16 (by decide +kernel) (by decide +kernel)
theorem zw167 : Cond.code yX5_requireNote cX5_requireNote 3 (some (.object "Marginalia$Note")) ∈ zBig := zin 351 (by decide +kernel) (by decide +kernel)
theorem zw168 : Cond.methodLink RX5 123 yX5_requireNote ∈ zBig := zin 348 (by decide +kernel) (by decide +kernel)
theorem zw169 : Cond.instanceMethod yX5_requireNote ∈ zBig := zin 350 (by decide +kernel) (by decide +kernel)
theorem zw170 : Cond.selects RX5 yX5_requireNote yX5_requireNote ∈ zBig := zin 10 (by decide +kernel) (by decide +kernel)
theorem zw171 : Cond.code yX5_isSeen cX5_isSeen 3 (some .boolean) ∈ zBig := zin 335 (by decide +kernel) (by decide +kernel)
theorem zw172 : Cond.methodLink RX5 127 yX5_isSeen ∈ zBig := zin 332 (by decide +kernel) (by decide +kernel)
theorem zw173 : Cond.instanceMethod yX5_isSeen ∈ zBig := zin 334 (by decide +kernel) (by decide +kernel)
theorem zw174 : Cond.selects RX5 yX5_isSeen yX5_isSeen ∈ zBig := zin 8 (by decide +kernel) (by decide +kernel)
theorem zw175 : Cond.code yX2_addReply cX2_addReply 3 none ∈ zBig := zin 635 (by decide +kernel) (by decide +kernel)
theorem zw176 : Cond.methodLink RX5 139 yX2_addReply ∈ zBig := zin 632 (by decide +kernel) (by decide +kernel)
theorem zw177 : Cond.instanceMethod yX2_addReply ∈ zBig := zin 633 (by decide +kernel) (by decide +kernel)
theorem zw178 : Cond.selects RX2 yX2_addReply yX2_addReply ∈ zBig := zin 634 (by decide +kernel) (by decide +kernel)
theorem zw179 : Cond.code yX2_emptyAndDrop cX2_emptyAndDrop 3 (some .int) ∈ zBig := zin 653 (by decide +kernel) (by decide +kernel)
theorem zw180 : Cond.methodLink RX5 150 yX2_emptyAndDrop ∈ zBig := zin 650 (by decide +kernel) (by decide +kernel)
theorem zw181 : Cond.instanceMethod yX2_emptyAndDrop ∈ zBig := zin 651 (by decide +kernel) (by decide +kernel)
theorem zw182 : Cond.selects RX2 yX2_emptyAndDrop yX2_emptyAndDrop ∈ zBig := zin 652 (by decide +kernel) (by decide +kernel)
theorem zw183 : Cond.code yX2_isHead cX2_isHead 1 (some .boolean) ∈ zBig := zin 439 (by decide +kernel) (by decide +kernel)
theorem zw184 : Cond.methodLink RX5 153 yX2_isHead ∈ zBig := zin 436 (by decide +kernel) (by decide +kernel)
theorem zw185 : Cond.instanceMethod yX2_isHead ∈ zBig := zin 437 (by decide +kernel) (by decide +kernel)
theorem zw186 : Cond.selects RX2 yX2_isHead yX2_isHead ∈ zBig := zin 438 (by decide +kernel) (by decide +kernel)
theorem zw187 : Cond.code yX5_canTake cX5_canTake 3 (some .boolean) ∈ zBig := zin 671 (by decide +kernel) (by decide +kernel)
theorem zw188 : Cond.methodLink RX5 166 yX5_canTake ∈ zBig := zin 668 (by decide +kernel) (by decide +kernel)
theorem zw189 : Cond.instanceMethod yX5_canTake ∈ zBig := zin 670 (by decide +kernel) (by decide +kernel)
theorem zw190 : Cond.selects RX5 yX5_canTake yX5_canTake ∈ zBig := zin 17 (by decide +kernel) (by decide +kernel)
theorem zw191 : Cond.code yX5_putProposal cX5_putProposal 5 none ∈ zBig := zin 679 (by decide +kernel) (by decide +kernel)
theorem zw192 : Cond.methodLink RX5 170 yX5_putProposal ∈ zBig := zin 676 (by decide +kernel) (by decide +kernel)
theorem zw193 : Cond.instanceMethod yX5_putProposal ∈ zBig := zin 678 (by decide +kernel) (by decide +kernel)
theorem zw194 : Cond.selects RX5 yX5_putProposal yX5_putProposal ∈ zBig := zin 18 (by decide +kernel) (by decide +kernel)
theorem zw195 : Cond.code yX2_isHeadNotGone cX2_isHeadNotGone 1 (some .boolean) ∈ zBig := zin 157 (by decide +kernel) (by decide +kernel)
theorem zw196 : Cond.methodLink RX5 174 yX2_isHeadNotGone ∈ zBig := zin 154 (by decide +kernel) (by decide +kernel)
theorem zw197 : Cond.instanceMethod yX2_isHeadNotGone ∈ zBig := zin 155 (by decide +kernel) (by decide +kernel)
theorem zw198 : Cond.selects RX2 yX2_isHeadNotGone yX2_isHeadNotGone ∈ zBig := zin 156 (by decide +kernel) (by decide +kernel)
theorem zw199 : Cond.code yX5_healAnchor cX5_healAnchor 3 (some .boolean) ∈ zBig := zin 161 (by decide +kernel) (by decide +kernel)
theorem zw200 : Cond.methodLink RX5 177 yX5_healAnchor ∈ zBig := zin 158 (by decide +kernel) (by decide +kernel)
theorem zw201 : Cond.instanceMethod yX5_healAnchor ∈ zBig := zin 160 (by decide +kernel) (by decide +kernel)
theorem zw202 : Cond.selects RX5 yX5_healAnchor yX5_healAnchor ∈ zBig := zin 0 (by decide +kernel) (by decide +kernel)
theorem zw203 : Cond.code yX5_countNotes cX5_countNotes 3 (some .int) ∈ zBig := zin 202 (by decide +kernel) (by decide +kernel)
theorem zw204 : Cond.methodLink RX5 180 yX5_countNotes ∈ zBig := zin 199 (by decide +kernel) (by decide +kernel)
theorem zw205 : Cond.instanceMethod yX5_countNotes ∈ zBig := zin 201 (by decide +kernel) (by decide +kernel)
theorem zw206 : Cond.selects RX5 yX5_countNotes yX5_countNotes ∈ zBig := zin 3 (by decide +kernel) (by decide +kernel)
theorem zw207 : Cond.code yX5_countStrands cX5_countStrands 4 (some .int) ∈ zBig := zin 193 (by decide +kernel) (by decide +kernel)
theorem zw208 : Cond.methodLink RX5 183 yX5_countStrands ∈ zBig := zin 190 (by decide +kernel) (by decide +kernel)
theorem zw209 : Cond.instanceMethod yX5_countStrands ∈ zBig := zin 192 (by decide +kernel) (by decide +kernel)
theorem zw210 : Cond.selects RX5 yX5_countStrands yX5_countStrands ∈ zBig := zin 2 (by decide +kernel) (by decide +kernel)
theorem zw211 : Cond.code yX2_fact cX2_fact 2 (some .int) ∈ zBig := zin 357 (by decide +kernel) (by decide +kernel)
theorem zw212 : Cond.methodLink RX5 187 yX2_fact ∈ zBig := zin 354 (by decide +kernel) (by decide +kernel)
theorem zw213 : Cond.instanceMethod yX2_fact ∈ zBig := zin 355 (by decide +kernel) (by decide +kernel)
theorem zw214 : Cond.selects RX2 yX2_fact yX2_fact ∈ zBig := zin 356 (by decide +kernel) (by decide +kernel)
theorem zw215 : Cond.code yX5_headOf cX5_headOf 2 (some (.object "Marginalia$Note")) ∈ zBig := zin 716 (by decide +kernel) (by decide +kernel)
theorem zw216 : Cond.methodLink RX5 193 yX5_headOf ∈ zBig := zin 713 (by decide +kernel) (by decide +kernel)
theorem zw217 : Cond.instanceMethod yX5_headOf ∈ zBig := zin 715 (by decide +kernel) (by decide +kernel)
theorem zw218 : Cond.selects RX5 yX5_headOf yX5_headOf ∈ zBig := zin 19 (by decide +kernel) (by decide +kernel)
theorem zw219 : Cond.code yX0_covers cX0_covers 2 (some .boolean) ∈ zBig := zin 339 (by decide +kernel) (by decide +kernel)
theorem zw220 : Cond.methodLink RX5 208 yX0_covers ∈ zBig := zin 336 (by decide +kernel) (by decide +kernel)
theorem zw221 : Cond.instanceMethod yX0_covers ∈ zBig := zin 337 (by decide +kernel) (by decide +kernel)
theorem zw222 : Cond.selects RX0 yX0_covers yX0_covers ∈ zBig := zin 338 (by decide +kernel) (by decide +kernel)
theorem zw223 : Cond.code yX5_chooseHeads cX5_chooseHeads 6 (some .int) ∈ zBig := zin 731 (by decide +kernel) (by decide +kernel)
theorem zw224 : Cond.methodLink RX5 211 yX5_chooseHeads ∈ zBig := zin 728 (by decide +kernel) (by decide +kernel)
theorem zw225 : Cond.instanceMethod yX5_chooseHeads ∈ zBig := zin 730 (by decide +kernel) (by decide +kernel)
theorem zw226 : Cond.selects RX5 yX5_chooseHeads yX5_chooseHeads ∈ zBig := zin 20 (by decide +kernel) (by decide +kernel)
theorem zw227 : Cond.code yX1_addOrder cX1_addOrder 3 none ∈ zBig := zin 743 (by decide +kernel) (by decide +kernel)
theorem zw228 : Cond.methodLink RX5 217 yX1_addOrder ∈ zBig := zin 740 (by decide +kernel) (by decide +kernel)
theorem zw229 : Cond.instanceMethod yX1_addOrder ∈ zBig := zin 741 (by decide +kernel) (by decide +kernel)
theorem zw230 : Cond.selects RX1 yX1_addOrder yX1_addOrder ∈ zBig := zin 742 (by decide +kernel) (by decide +kernel)
theorem zw231 : Cond.code yX0_wouldBeLost cX0_wouldBeLost 3 (some .boolean) ∈ zBig := zin 762 (by decide +kernel) (by decide +kernel)
theorem zw232 : Cond.methodLink RX5 224 yX0_wouldBeLost ∈ zBig := zin 759 (by decide +kernel) (by decide +kernel)
theorem zw233 : Cond.instanceMethod yX0_wouldBeLost ∈ zBig := zin 760 (by decide +kernel) (by decide +kernel)
theorem zw234 : Cond.selects RX0 yX0_wouldBeLost yX0_wouldBeLost ∈ zBig := zin 761 (by decide +kernel) (by decide +kernel)
theorem zw235 : Cond.code yX5_placeOfQuote cX5_placeOfQuote 4 (some .int) ∈ zBig := zin 169 (by decide +kernel) (by decide +kernel)
theorem zw236 : Cond.methodLink RX5 227 yX5_placeOfQuote ∈ zBig := zin 166 (by decide +kernel) (by decide +kernel)
theorem zw237 : Cond.instanceMethod yX5_placeOfQuote ∈ zBig := zin 168 (by decide +kernel) (by decide +kernel)
theorem zw238 : Cond.selects RX5 yX5_placeOfQuote yX5_placeOfQuote ∈ zBig := zin 1 (by decide +kernel) (by decide +kernel)
theorem zw239 : Cond.code yX3_isSeenBy cX3_isSeenBy 3 (some .boolean) ∈ zBig := zin 327 (by decide +kernel) (by decide +kernel)
theorem zw240 : Cond.methodLink RX5 231 yX3_isSeenBy ∈ zBig := zin 324 (by decide +kernel) (by decide +kernel)
theorem zw241 : Cond.instanceMethod yX3_isSeenBy ∈ zBig := zin 325 (by decide +kernel) (by decide +kernel)
theorem zw242 : Cond.selects RX3 yX3_isSeenBy yX3_isSeenBy ∈ zBig := zin 326 (by decide +kernel) (by decide +kernel)
theorem zw243 : Cond.constantLong RX5 234 (58083 : Int64) ∈ zBig := zin 207 (by decide +kernel) (by decide +kernel)
theorem zw244 : Cond.code yX5_digestText cX5_digestText 6 (some .long) ∈ zBig := zin 211 (by decide +kernel) (by decide +kernel)
theorem zw245 : Cond.methodLink RX5 236 yX5_digestText ∈ zBig := zin 208 (by decide +kernel) (by decide +kernel)
theorem zw246 : Cond.instanceMethod yX5_digestText ∈ zBig := zin 210 (by decide +kernel) (by decide +kernel)
theorem zw247 : Cond.selects RX5 yX5_digestText yX5_digestText ∈ zBig := zin 4 (by decide +kernel) (by decide +kernel)
theorem zw248 : Cond.code yX5_digestUser cX5_digestUser 6 (some .long) ∈ zBig := zin 296 (by decide +kernel) (by decide +kernel)
theorem zw249 : Cond.methodLink RX5 240 yX5_digestUser ∈ zBig := zin 293 (by decide +kernel) (by decide +kernel)
theorem zw250 : Cond.instanceMethod yX5_digestUser ∈ zBig := zin 295 (by decide +kernel) (by decide +kernel)
theorem zw251 : Cond.selects RX5 yX5_digestUser yX5_digestUser ∈ zBig := zin 6 (by decide +kernel) (by decide +kernel)
theorem zw252 : Cond.code yX5_digestNote cX5_digestNote 7 (some .long) ∈ zBig := zin 343 (by decide +kernel) (by decide +kernel)
theorem zw253 : Cond.methodLink RX5 244 yX5_digestNote ∈ zBig := zin 340 (by decide +kernel) (by decide +kernel)
theorem zw254 : Cond.instanceMethod yX5_digestNote ∈ zBig := zin 342 (by decide +kernel) (by decide +kernel)
theorem zw255 : Cond.selects RX5 yX5_digestNote yX5_digestNote ∈ zBig := zin 9 (by decide +kernel) (by decide +kernel)
theorem zw256 : Cond.code yX5_digestExport cX5_digestExport 7 (some .long) ∈ zBig := zin 373 (by decide +kernel) (by decide +kernel)
theorem zw257 : Cond.methodLink RX5 247 yX5_digestExport ∈ zBig := zin 370 (by decide +kernel) (by decide +kernel)
theorem zw258 : Cond.instanceMethod yX5_digestExport ∈ zBig := zin 372 (by decide +kernel) (by decide +kernel)
theorem zw259 : Cond.selects RX5 yX5_digestExport yX5_digestExport ∈ zBig := zin 11 (by decide +kernel) (by decide +kernel)
theorem zw260 : Cond.classLink RX5 250 "java/lang/IndexOutOfBoundsException" ∈ zBig := zin 305 (by decide +kernel) (by decide +kernel)
theorem zw261 : Cond.initialized "java/lang/IndexOutOfBoundsException" ∈ zBig := zin 58 (by decide +kernel) (by decide +kernel)
theorem zw262 : Cond.classLink RX5 265 "java/lang/IllegalArgumentException" ∈ zBig := zin 220 (by decide +kernel) (by decide +kernel)
theorem zw263 : Cond.initialized "java/lang/IllegalArgumentException" ∈ zBig := zin 56 (by decide +kernel) (by decide +kernel)
theorem zw264 : Cond.classLink RX5 270 "java/lang/IllegalStateException" ∈ zBig := zin 386 (by decide +kernel) (by decide +kernel)
theorem zw265 : Cond.initialized "java/lang/IllegalStateException" ∈ zBig := zin 57 (by decide +kernel) (by decide +kernel)
theorem zw266 : Cond.code yX4_edit cX4_edit 8 none ∈ zBig := zin 432 (by decide +kernel) (by decide +kernel)
theorem zw267 : Cond.methodLink RX5 275 yX4_edit ∈ zBig := zin 429 (by decide +kernel) (by decide +kernel)
theorem zw268 : Cond.instanceMethod yX4_edit ∈ zBig := zin 430 (by decide +kernel) (by decide +kernel)
theorem zw269 : Cond.selects RX4 yX4_edit yX4_edit ∈ zBig := zin 431 (by decide +kernel) (by decide +kernel)
theorem zw270 : Cond.code yX0_moveAsPut cX0_moveAsPut 3 none ∈ zBig := zin 443 (by decide +kernel) (by decide +kernel)
theorem zw271 : Cond.methodLink RX5 279 yX0_moveAsPut ∈ zBig := zin 440 (by decide +kernel) (by decide +kernel)
theorem zw272 : Cond.instanceMethod yX0_moveAsPut ∈ zBig := zin 441 (by decide +kernel) (by decide +kernel)
theorem zw273 : Cond.selects RX0 yX0_moveAsPut yX0_moveAsPut ∈ zBig := zin 442 (by decide +kernel) (by decide +kernel)
theorem zw274 : Cond.code yX0_moveAsCut cX0_moveAsCut 3 none ∈ zBig := zin 463 (by decide +kernel) (by decide +kernel)
theorem zw275 : Cond.methodLink RX5 282 yX0_moveAsCut ∈ zBig := zin 460 (by decide +kernel) (by decide +kernel)
theorem zw276 : Cond.instanceMethod yX0_moveAsCut ∈ zBig := zin 461 (by decide +kernel) (by decide +kernel)
theorem zw277 : Cond.selects RX0 yX0_moveAsCut yX0_moveAsCut ∈ zBig := zin 462 (by decide +kernel) (by decide +kernel)
theorem zw278 : Cond.methodLink RX5 285 yX0_isLost ∈ zBig := zin 162 (by decide +kernel) (by decide +kernel)
theorem zw279 : Cond.code yX0_size cX0_size 1 (some .int) ∈ zBig := zin 675 (by decide +kernel) (by decide +kernel)
theorem zw280 : Cond.methodLink RX5 288 yX0_size ∈ zBig := zin 672 (by decide +kernel) (by decide +kernel)
theorem zw281 : Cond.instanceMethod yX0_size ∈ zBig := zin 673 (by decide +kernel) (by decide +kernel)
theorem zw282 : Cond.selects RX0 yX0_size yX0_size ∈ zBig := zin 674 (by decide +kernel) (by decide +kernel)
theorem zw283 : Cond.code yX0_lay cX0_lay 3 none ∈ zBig := zin 185 (by decide +kernel) (by decide +kernel)
theorem zw284 : Cond.methodLink RX5 292 yX0_lay ∈ zBig := zin 182 (by decide +kernel) (by decide +kernel)
theorem zw285 : Cond.instanceMethod yX0_lay ∈ zBig := zin 183 (by decide +kernel) (by decide +kernel)
theorem zw286 : Cond.selects RX0 yX0_lay yX0_lay ∈ zBig := zin 184 (by decide +kernel) (by decide +kernel)
theorem zw287 : Cond.methodLink RX5 295 Lib.Math.min.name ∈ zBig := zin 532 (by decide +kernel) (by decide +kernel)
theorem zw288 : Cond.code yX4_hasAt cX4_hasAt 4 (some .boolean) ∈ zBig := zin 173 (by decide +kernel) (by decide +kernel)
theorem zw289 : Cond.methodLink RX5 300 yX4_hasAt ∈ zBig := zin 170 (by decide +kernel) (by decide +kernel)
theorem zw290 : Cond.instanceMethod yX4_hasAt ∈ zBig := zin 171 (by decide +kernel) (by decide +kernel)
theorem zw291 : Cond.selects RX4 yX4_hasAt yX4_hasAt ∈ zBig := zin 172 (by decide +kernel) (by decide +kernel)
theorem zw292 : Cond.code yX3_isCountedAs cX3_isCountedAs 2 (some .boolean) ∈ zBig := zin 197 (by decide +kernel) (by decide +kernel)
theorem zw293 : Cond.methodLink RX5 307 yX3_isCountedAs ∈ zBig := zin 194 (by decide +kernel) (by decide +kernel)
theorem zw294 : Cond.instanceMethod yX3_isCountedAs ∈ zBig := zin 195 (by decide +kernel) (by decide +kernel)
theorem zw295 : Cond.selects RX3 yX3_isCountedAs yX3_isCountedAs ∈ zBig := zin 196 (by decide +kernel) (by decide +kernel)
theorem zw296 : Cond.code yX5_putAmongChosen cX5_putAmongChosen 4 none ∈ zBig := zin 735 (by decide +kernel) (by decide +kernel)
theorem zw297 : Cond.methodLink RX5 310 yX5_putAmongChosen ∈ zBig := zin 732 (by decide +kernel) (by decide +kernel)
theorem zw298 : Cond.instanceMethod yX5_putAmongChosen ∈ zBig := zin 734 (by decide +kernel) (by decide +kernel)
theorem zw299 : Cond.selects RX5 yX5_putAmongChosen yX5_putAmongChosen ∈ zBig := zin 21 (by decide +kernel) (by decide +kernel)
theorem zw300 : Cond.code yX0_isAheadOf cX0_isAheadOf 2 (some .boolean) ∈ zBig := zin 739 (by decide +kernel) (by decide +kernel)
theorem zw301 : Cond.methodLink RX5 314 yX0_isAheadOf ∈ zBig := zin 736 (by decide +kernel) (by decide +kernel)
theorem zw302 : Cond.instanceMethod yX0_isAheadOf ∈ zBig := zin 737 (by decide +kernel) (by decide +kernel)
theorem zw303 : Cond.selects RX0 yX0_isAheadOf yX0_isAheadOf ∈ zBig := zin 738 (by decide +kernel) (by decide +kernel)
theorem zw304 : Cond.constantLong RX5 318 (31 : Int64) ∈ zBig := zin 291 (by decide +kernel) (by decide +kernel)
theorem zw305 : Cond.code yX5_many cX5_many 2 (some .int) ∈ zBig := zin 215 (by decide +kernel) (by decide +kernel)
theorem zw306 : Cond.methodLink RX5 320 yX5_many ∈ zBig := zin 212 (by decide +kernel) (by decide +kernel)
theorem zw307 : Cond.instanceMethod yX5_many ∈ zBig := zin 213 (by decide +kernel) (by decide +kernel)
theorem zw308 : Cond.selects RX5 yX5_many yX5_many ∈ zBig := zin 214 (by decide +kernel) (by decide +kernel)
theorem zw309 : Cond.code yX5_mix cX5_mix 4 (some .long) ∈ zBig := zin 290 (by decide +kernel) (by decide +kernel)
theorem zw310 : Cond.methodLink RX5 323 yX5_mix ∈ zBig := zin 288 (by decide +kernel) (by decide +kernel)
theorem zw311 : Cond.static yX5_mix ∈ zBig := zin 289 (by decide +kernel) (by decide +kernel)
theorem zw312 : Cond.code yX5_wouldSee cX5_wouldSee 5 (some .int) ∈ zBig := zin 300 (by decide +kernel) (by decide +kernel)
theorem zw313 : Cond.methodLink RX5 327 yX5_wouldSee ∈ zBig := zin 297 (by decide +kernel) (by decide +kernel)
theorem zw314 : Cond.instanceMethod yX5_wouldSee ∈ zBig := zin 298 (by decide +kernel) (by decide +kernel)
theorem zw315 : Cond.selects RX5 yX5_wouldSee yX5_wouldSee ∈ zBig := zin 299 (by decide +kernel) (by decide +kernel)
theorem zw316 : Cond.code yX5_over cX5_over 6 (some .int) ∈ zBig := zin 331 (by decide +kernel) (by decide +kernel)
theorem zw317 : Cond.methodLink RX5 330 yX5_over ∈ zBig := zin 328 (by decide +kernel) (by decide +kernel)
theorem zw318 : Cond.instanceMethod yX5_over ∈ zBig := zin 329 (by decide +kernel) (by decide +kernel)
theorem zw319 : Cond.selects RX5 yX5_over yX5_over ∈ zBig := zin 330 (by decide +kernel) (by decide +kernel)
theorem zw320 : Cond.code yX5_ofNote cX5_ofNote 4 (some .int) ∈ zBig := zin 347 (by decide +kernel) (by decide +kernel)
theorem zw321 : Cond.methodLink RX5 333 yX5_ofNote ∈ zBig := zin 344 (by decide +kernel) (by decide +kernel)
theorem zw322 : Cond.instanceMethod yX5_ofNote ∈ zBig := zin 345 (by decide +kernel) (by decide +kernel)
theorem zw323 : Cond.selects RX5 yX5_ofNote yX5_ofNote ∈ zBig := zin 346 (by decide +kernel) (by decide +kernel)
theorem zw324 : Cond.code yX5_wouldHeal cX5_wouldHeal 2 (some .int) ∈ zBig := zin 365 (by decide +kernel) (by decide +kernel)
theorem zw325 : Cond.methodLink RX5 336 yX5_wouldHeal ∈ zBig := zin 362 (by decide +kernel) (by decide +kernel)
theorem zw326 : Cond.instanceMethod yX5_wouldHeal ∈ zBig := zin 363 (by decide +kernel) (by decide +kernel)
theorem zw327 : Cond.selects RX5 yX5_wouldHeal yX5_wouldHeal ∈ zBig := zin 364 (by decide +kernel) (by decide +kernel)
theorem zw328 : Cond.code yX5_sees cX5_sees 3 (some .boolean) ∈ zBig := zin 369 (by decide +kernel) (by decide +kernel)
theorem zw329 : Cond.methodLink RX5 339 yX5_sees ∈ zBig := zin 366 (by decide +kernel) (by decide +kernel)
theorem zw330 : Cond.instanceMethod yX5_sees ∈ zBig := zin 367 (by decide +kernel) (by decide +kernel)
theorem zw331 : Cond.selects RX5 yX5_sees yX5_sees ∈ zBig := zin 368 (by decide +kernel) (by decide +kernel)
theorem zw332 : Cond.methodLink RX6 1 Lib.objectInit ∈ zBig := zin 777 (by decide +kernel) (by decide +kernel)
theorem zw333 : Cond.fieldLink RX6 9 "MarginaliaModel" "right" "[I" ∈ zBig := zin 782 (by decide +kernel) (by decide +kernel)
theorem zw334 : Cond.fieldLink RX6 13 "MarginaliaModel" "signOf" "[I" ∈ zBig := zin 784 (by decide +kernel) (by decide +kernel)
theorem zw335 : Cond.classLink RX6 16 "[[I" ∈ zBig := zin 778 (by decide +kernel) (by decide +kernel)
theorem zw336 : Cond.fieldLink RX6 18 "MarginaliaModel" "texts" "[[I" ∈ zBig := zin 785 (by decide +kernel) (by decide +kernel)
theorem zw337 : Cond.fieldLink RX6 21 "MarginaliaModel" "author" "[I" ∈ zBig := zin 788 (by decide +kernel) (by decide +kernel)
theorem zw338 : Cond.fieldLink RX6 24 "MarginaliaModel" "content" "[I" ∈ zBig := zin 789 (by decide +kernel) (by decide +kernel)
theorem zw339 : Cond.fieldLink RX6 27 "MarginaliaModel" "parent" "[I" ∈ zBig := zin 790 (by decide +kernel) (by decide +kernel)
theorem zw340 : Cond.fieldLink RX6 30 "MarginaliaModel" "head" "[I" ∈ zBig := zin 791 (by decide +kernel) (by decide +kernel)
theorem zw341 : Cond.fieldLink RX6 33 "MarginaliaModel" "state" "[I" ∈ zBig := zin 792 (by decide +kernel) (by decide +kernel)
theorem zw342 : Cond.fieldLink RX6 36 "MarginaliaModel" "from" "[I" ∈ zBig := zin 793 (by decide +kernel) (by decide +kernel)
theorem zw343 : Cond.fieldLink RX6 39 "MarginaliaModel" "to" "[I" ∈ zBig := zin 794 (by decide +kernel) (by decide +kernel)
theorem zw344 : Cond.fieldLink RX6 42 "MarginaliaModel" "view" "[I" ∈ zBig := zin 795 (by decide +kernel) (by decide +kernel)
theorem zw345 : Cond.fieldLink RX6 45 "MarginaliaModel" "many" "[I" ∈ zBig := zin 796 (by decide +kernel) (by decide +kernel)
theorem zw346 : Cond.fieldLink RX6 48 "MarginaliaModel" "first" "[I" ∈ zBig := zin 797 (by decide +kernel) (by decide +kernel)
theorem zw347 : Cond.arrayClass .boolean ∈ zBig := zin 850 (by decide +kernel) (by decide +kernel)
theorem zw348 : Cond.fieldLink RX6 51 "MarginaliaModel" "isSettled" "[Z" ∈ zBig := zin 798 (by decide +kernel) (by decide +kernel)
theorem zw349 : Cond.classLink RX6 55 "[I" ∈ zBig := zin 779 (by decide +kernel) (by decide +kernel)
theorem zw350 : Cond.fieldLink RX6 56 "MarginaliaModel" "quotes" "[[I" ∈ zBig := zin 799 (by decide +kernel) (by decide +kernel)
theorem zw351 : Cond.fieldLink RX6 59 "MarginaliaModel" "exported" "[I" ∈ zBig := zin 800 (by decide +kernel) (by decide +kernel)
theorem zw352 : Cond.fieldLink RX6 62 "MarginaliaModel" "order" "[I" ∈ zBig := zin 802 (by decide +kernel) (by decide +kernel)
theorem zw353 : Cond.fieldLink RX6 65 "MarginaliaModel" "thrown" "I" ∈ zBig := zin 780 (by decide +kernel) (by decide +kernel)
theorem zw354 : Cond.fieldLink RX6 69 "MarginaliaModel" "users" "I" ∈ zBig := zin 781 (by decide +kernel) (by decide +kernel)
theorem zw355 : Cond.code yX6_isIn cX6_isIn 3 (some .boolean) ∈ zBig := zin 861 (by decide +kernel) (by decide +kernel)
theorem zw356 : Cond.methodLink RX6 72 yX6_isIn ∈ zBig := zin 859 (by decide +kernel) (by decide +kernel)
theorem zw357 : Cond.static yX6_isIn ∈ zBig := zin 860 (by decide +kernel) (by decide +kernel)
theorem zw358 : Cond.initialized RX6 ∈ zBig := zin 52 (by decide +kernel) (by decide +kernel)
theorem zw359 : Cond.fieldLink RX6 76 "MarginaliaModel" "notes" "I" ∈ zBig := zin 787 (by decide +kernel) (by decide +kernel)
theorem zw360 : Cond.fieldLink RX6 79 "MarginaliaModel" "version" "I" ∈ zBig := zin 786 (by decide +kernel) (by decide +kernel)
theorem zw361 : Cond.code yX6_no cX6_no 2 (some .int) ∈ zBig := zin 865 (by decide +kernel) (by decide +kernel)
theorem zw362 : Cond.methodLink RX6 82 yX6_no ∈ zBig := zin 862 (by decide +kernel) (by decide +kernel)
theorem zw363 : Cond.instanceMethod yX6_no ∈ zBig := zin 864 (by decide +kernel) (by decide +kernel)
theorem zw364 : Cond.selects RX6 yX6_no yX6_no ∈ zBig := zin 22 (by decide +kernel) (by decide +kernel)
theorem zw365 : Cond.code yX6_isUser cX6_isUser 2 (some .boolean) ∈ zBig := zin 873 (by decide +kernel) (by decide +kernel)
theorem zw366 : Cond.methodLink RX6 86 yX6_isUser ∈ zBig := zin 870 (by decide +kernel) (by decide +kernel)
theorem zw367 : Cond.instanceMethod yX6_isUser ∈ zBig := zin 872 (by decide +kernel) (by decide +kernel)
theorem zw368 : Cond.selects RX6 yX6_isUser yX6_isUser ∈ zBig := zin 23 (by decide +kernel) (by decide +kernel)
theorem zw369 : Cond.code yX6_text cX6_text 1 (some (.array .int)) ∈ zBig := zin 881 (by decide +kernel) (by decide +kernel)
theorem zw370 : Cond.methodLink RX6 90 yX6_text ∈ zBig := zin 878 (by decide +kernel) (by decide +kernel)
theorem zw371 : Cond.instanceMethod yX6_text ∈ zBig := zin 880 (by decide +kernel) (by decide +kernel)
theorem zw372 : Cond.selects RX6 yX6_text yX6_text ∈ zBig := zin 24 (by decide +kernel) (by decide +kernel)
theorem zw373 : Cond.methodLink RX6 94 arraycopyName ∈ zBig := zin 886 (by decide +kernel) (by decide +kernel)
theorem zw374 : Cond.fieldLink RX6 100 "MarginaliaModel" "ever" "I" ∈ zBig := zin 783 (by decide +kernel) (by decide +kernel)
theorem zw375 : Cond.methodLink RX6 103 Lib.Math.min.name ∈ zBig := zin 895 (by decide +kernel) (by decide +kernel)
theorem zw376 : Cond.methodLink RX6 109 Lib.Math.max.name ∈ zBig := zin 896 (by decide +kernel) (by decide +kernel)
theorem zw377 : Cond.code yX6_put cX6_put 7 none ∈ zBig := zin 885 (by decide +kernel) (by decide +kernel)
theorem zw378 : Cond.methodLink RX6 112 yX6_put ∈ zBig := zin 882 (by decide +kernel) (by decide +kernel)
theorem zw379 : Cond.instanceMethod yX6_put ∈ zBig := zin 884 (by decide +kernel) (by decide +kernel)
theorem zw380 : Cond.selects RX6 yX6_put yX6_put ∈ zBig := zin 25 (by decide +kernel) (by decide +kernel)
theorem zw381 : Cond.code yX6_cut cX6_cut 6 none ∈ zBig := zin 894 (by decide +kernel) (by decide +kernel)
theorem zw382 : Cond.methodLink RX6 116 yX6_cut ∈ zBig := zin 891 (by decide +kernel) (by decide +kernel)
theorem zw383 : Cond.instanceMethod yX6_cut ∈ zBig := zin 893 (by decide +kernel) (by decide +kernel)
theorem zw384 : Cond.selects RX6 yX6_cut yX6_cut ∈ zBig := zin 26 (by decide +kernel) (by decide +kernel)
theorem zw385 : Cond.code yX6_ok cX6_ok 2 (some .int) ∈ zBig := zin 904 (by decide +kernel) (by decide +kernel)
theorem zw386 : Cond.methodLink RX6 120 yX6_ok ∈ zBig := zin 901 (by decide +kernel) (by decide +kernel)
theorem zw387 : Cond.instanceMethod yX6_ok ∈ zBig := zin 903 (by decide +kernel) (by decide +kernel)
theorem zw388 : Cond.selects RX6 yX6_ok yX6_ok ∈ zBig := zin 27 (by decide +kernel) (by decide +kernel)
theorem zw389 : Cond.code yX6_seesBy cX6_seesBy 4 (some .boolean) ∈ zBig := zin 944 (by decide +kernel) (by decide +kernel)
theorem zw390 : Cond.methodLink RX6 123 yX6_seesBy ∈ zBig := zin 941 (by decide +kernel) (by decide +kernel)
theorem zw391 : Cond.instanceMethod yX6_seesBy ∈ zBig := zin 943 (by decide +kernel) (by decide +kernel)
theorem zw392 : Cond.selects RX6 yX6_seesBy yX6_seesBy ∈ zBig := zin 32 (by decide +kernel) (by decide +kernel)
theorem zw393 : Cond.code yX6_seesNow cX6_seesNow 3 (some .boolean) ∈ zBig := zin 940 (by decide +kernel) (by decide +kernel)
theorem zw394 : Cond.methodLink RX6 126 yX6_seesNow ∈ zBig := zin 937 (by decide +kernel) (by decide +kernel)
theorem zw395 : Cond.instanceMethod yX6_seesNow ∈ zBig := zin 939 (by decide +kernel) (by decide +kernel)
theorem zw396 : Cond.selects RX6 yX6_seesNow yX6_seesNow ∈ zBig := zin 31 (by decide +kernel) (by decide +kernel)
theorem zw397 : Cond.code yX6_add cX6_add 4 (some .int) ∈ zBig := zin 924 (by decide +kernel) (by decide +kernel)
theorem zw398 : Cond.methodLink RX6 130 yX6_add ∈ zBig := zin 921 (by decide +kernel) (by decide +kernel)
theorem zw399 : Cond.instanceMethod yX6_add ∈ zBig := zin 923 (by decide +kernel) (by decide +kernel)
theorem zw400 : Cond.selects RX6 yX6_add yX6_add ∈ zBig := zin 28 (by decide +kernel) (by decide +kernel)
theorem zw401 : Cond.code yX6_isNote cX6_isNote 2 (some .boolean) ∈ zBig := zin 932 (by decide +kernel) (by decide +kernel)
theorem zw402 : Cond.methodLink RX6 134 yX6_isNote ∈ zBig := zin 929 (by decide +kernel) (by decide +kernel)
theorem zw403 : Cond.instanceMethod yX6_isNote ∈ zBig := zin 931 (by decide +kernel) (by decide +kernel)
theorem zw404 : Cond.selects RX6 yX6_isNote yX6_isNote ∈ zBig := zin 29 (by decide +kernel) (by decide +kernel)
theorem zw405 : Cond.code yX6_may cX6_may 4 (some .boolean) ∈ zBig := zin 936 (by decide +kernel) (by decide +kernel)
theorem zw406 : Cond.methodLink RX6 137 yX6_may ∈ zBig := zin 933 (by decide +kernel) (by decide +kernel)
theorem zw407 : Cond.instanceMethod yX6_may ∈ zBig := zin 935 (by decide +kernel) (by decide +kernel)
theorem zw408 : Cond.selects RX6 yX6_may yX6_may ∈ zBig := zin 30 (by decide +kernel) (by decide +kernel)
theorem zw409 : Cond.code yX6_isNot cX6_isNot 2 (some .boolean) ∈ zBig := zin 952 (by decide +kernel) (by decide +kernel)
theorem zw410 : Cond.methodLink RX6 140 yX6_isNot ∈ zBig := zin 949 (by decide +kernel) (by decide +kernel)
theorem zw411 : Cond.instanceMethod yX6_isNot ∈ zBig := zin 951 (by decide +kernel) (by decide +kernel)
theorem zw412 : Cond.selects RX6 yX6_isNot yX6_isNot ∈ zBig := zin 33 (by decide +kernel) (by decide +kernel)
theorem zw413 : Cond.code yX6_replies cX6_replies 4 (some .int) ∈ zBig := zin 960 (by decide +kernel) (by decide +kernel)
theorem zw414 : Cond.methodLink RX6 143 yX6_replies ∈ zBig := zin 957 (by decide +kernel) (by decide +kernel)
theorem zw415 : Cond.instanceMethod yX6_replies ∈ zBig := zin 959 (by decide +kernel) (by decide +kernel)
theorem zw416 : Cond.selects RX6 yX6_replies yX6_replies ∈ zBig := zin 34 (by decide +kernel) (by decide +kernel)
theorem zw417 : Cond.methodLink RX6 146 Lib.Math.abs.name ∈ zBig := zin 985 (by decide +kernel) (by decide +kernel)
theorem zw418 : Cond.static Lib.Math.abs.name ∈ zBig := zin 986 (by decide +kernel) (by decide +kernel)
theorem zw419 : Cond.code Lib.Math.abs.name Lib.Math.abs.code 1 (some .int) ∈ zBig := zin 987 (by decide +kernel) (by decide +kernel)
theorem zw420 : Cond.code yX6_isHead cX6_isHead 2 (some .boolean) ∈ zBig := zin 976 (by decide +kernel) (by decide +kernel)
theorem zw421 : Cond.methodLink RX6 149 yX6_isHead ∈ zBig := zin 973 (by decide +kernel) (by decide +kernel)
theorem zw422 : Cond.instanceMethod yX6_isHead ∈ zBig := zin 975 (by decide +kernel) (by decide +kernel)
theorem zw423 : Cond.selects RX6 yX6_isHead yX6_isHead ∈ zBig := zin 35 (by decide +kernel) (by decide +kernel)
theorem zw424 : Cond.code yX6_isLost cX6_isLost 2 (some .boolean) ∈ zBig := zin 980 (by decide +kernel) (by decide +kernel)
theorem zw425 : Cond.methodLink RX6 152 yX6_isLost ∈ zBig := zin 977 (by decide +kernel) (by decide +kernel)
theorem zw426 : Cond.instanceMethod yX6_isLost ∈ zBig := zin 979 (by decide +kernel) (by decide +kernel)
theorem zw427 : Cond.selects RX6 yX6_isLost yX6_isLost ∈ zBig := zin 36 (by decide +kernel) (by decide +kernel)
theorem zw428 : Cond.code yX6_found cX6_found 6 (some .int) ∈ zBig := zin 984 (by decide +kernel) (by decide +kernel)
theorem zw429 : Cond.methodLink RX6 155 yX6_found ∈ zBig := zin 981 (by decide +kernel) (by decide +kernel)
theorem zw430 : Cond.instanceMethod yX6_found ∈ zBig := zin 983 (by decide +kernel) (by decide +kernel)
theorem zw431 : Cond.selects RX6 yX6_found yX6_found ∈ zBig := zin 37 (by decide +kernel) (by decide +kernel)
theorem zw432 : Cond.code yX6_manyNow cX6_manyNow 5 (some .int) ∈ zBig := zin 995 (by decide +kernel) (by decide +kernel)
theorem zw433 : Cond.methodLink RX6 158 yX6_manyNow ∈ zBig := zin 992 (by decide +kernel) (by decide +kernel)
theorem zw434 : Cond.instanceMethod yX6_manyNow ∈ zBig := zin 994 (by decide +kernel) (by decide +kernel)
theorem zw435 : Cond.selects RX6 yX6_manyNow yX6_manyNow ∈ zBig := zin 38 (by decide +kernel) (by decide +kernel)
theorem zw436 : Cond.code yX6_contentOf cX6_contentOf 2 (some .int) ∈ zBig := zin 1011 (by decide +kernel) (by decide +kernel)
theorem zw437 : Cond.methodLink RX6 161 yX6_contentOf ∈ zBig := zin 1008 (by decide +kernel) (by decide +kernel)
theorem zw438 : Cond.instanceMethod yX6_contentOf ∈ zBig := zin 1010 (by decide +kernel) (by decide +kernel)
theorem zw439 : Cond.selects RX6 yX6_contentOf yX6_contentOf ∈ zBig := zin 40 (by decide +kernel) (by decide +kernel)
theorem zw440 : Cond.code yX6_depth cX6_depth 4 (some .int) ∈ zBig := zin 1015 (by decide +kernel) (by decide +kernel)
theorem zw441 : Cond.methodLink RX6 164 yX6_depth ∈ zBig := zin 1012 (by decide +kernel) (by decide +kernel)
theorem zw442 : Cond.instanceMethod yX6_depth ∈ zBig := zin 1014 (by decide +kernel) (by decide +kernel)
theorem zw443 : Cond.selects RX6 yX6_depth yX6_depth ∈ zBig := zin 41 (by decide +kernel) (by decide +kernel)
theorem zw444 : Cond.code yX6_ofNow cX6_ofNow 4 (some .int) ∈ zBig := zin 1007 (by decide +kernel) (by decide +kernel)
theorem zw445 : Cond.methodLink RX6 167 yX6_ofNow ∈ zBig := zin 1004 (by decide +kernel) (by decide +kernel)
theorem zw446 : Cond.instanceMethod yX6_ofNow ∈ zBig := zin 1006 (by decide +kernel) (by decide +kernel)
theorem zw447 : Cond.selects RX6 yX6_ofNow yX6_ofNow ∈ zBig := zin 39 (by decide +kernel) (by decide +kernel)
theorem zw448 : Cond.fieldLink RX6 170 "MarginaliaModel" "ordered" "I" ∈ zBig := zin 801 (by decide +kernel) (by decide +kernel)
theorem zw449 : Cond.code yX6_behind cX6_behind 4 (some .int) ∈ zBig := zin 1035 (by decide +kernel) (by decide +kernel)
theorem zw450 : Cond.methodLink RX6 173 yX6_behind ∈ zBig := zin 1032 (by decide +kernel) (by decide +kernel)
theorem zw451 : Cond.instanceMethod yX6_behind ∈ zBig := zin 1034 (by decide +kernel) (by decide +kernel)
theorem zw452 : Cond.selects RX6 yX6_behind yX6_behind ∈ zBig := zin 43 (by decide +kernel) (by decide +kernel)
theorem zw453 : Cond.code yX6_reply_ cX6_reply_ 4 (some .int) ∈ zBig := zin 1039 (by decide +kernel) (by decide +kernel)
theorem zw454 : Cond.methodLink RX6 176 yX6_reply_ ∈ zBig := zin 1036 (by decide +kernel) (by decide +kernel)
theorem zw455 : Cond.instanceMethod yX6_reply_ ∈ zBig := zin 1038 (by decide +kernel) (by decide +kernel)
theorem zw456 : Cond.selects RX6 yX6_reply_ yX6_reply_ ∈ zBig := zin 44 (by decide +kernel) (by decide +kernel)
theorem zw457 : Cond.code yX6_tellOrder cX6_tellOrder 3 none ∈ zBig := zin 1031 (by decide +kernel) (by decide +kernel)
theorem zw458 : Cond.methodLink RX6 179 yX6_tellOrder ∈ zBig := zin 1028 (by decide +kernel) (by decide +kernel)
theorem zw459 : Cond.instanceMethod yX6_tellOrder ∈ zBig := zin 1030 (by decide +kernel) (by decide +kernel)
theorem zw460 : Cond.selects RX6 yX6_tellOrder yX6_tellOrder ∈ zBig := zin 42 (by decide +kernel) (by decide +kernel)
theorem zw461 : Cond.code yX6_overNow cX6_overNow 5 (some .int) ∈ zBig := zin 1047 (by decide +kernel) (by decide +kernel)
theorem zw462 : Cond.methodLink RX6 183 yX6_overNow ∈ zBig := zin 1044 (by decide +kernel) (by decide +kernel)
theorem zw463 : Cond.instanceMethod yX6_overNow ∈ zBig := zin 1046 (by decide +kernel) (by decide +kernel)
theorem zw464 : Cond.selects RX6 yX6_overNow yX6_overNow ∈ zBig := zin 45 (by decide +kernel) (by decide +kernel)
theorem zw465 : Cond.code yX6_isAhead cX6_isAhead 3 (some .boolean) ∈ zBig := zin 1055 (by decide +kernel) (by decide +kernel)
theorem zw466 : Cond.methodLink RX6 186 yX6_isAhead ∈ zBig := zin 1052 (by decide +kernel) (by decide +kernel)
theorem zw467 : Cond.instanceMethod yX6_isAhead ∈ zBig := zin 1054 (by decide +kernel) (by decide +kernel)
theorem zw468 : Cond.selects RX6 yX6_isAhead yX6_isAhead ∈ zBig := zin 46 (by decide +kernel) (by decide +kernel)
theorem zw469 : Cond.code yX6_seen cX6_seen 5 (some .int) ∈ zBig := zin 1079 (by decide +kernel) (by decide +kernel)
theorem zw470 : Cond.methodLink RX6 189 yX6_seen ∈ zBig := zin 1076 (by decide +kernel) (by decide +kernel)
theorem zw471 : Cond.instanceMethod yX6_seen ∈ zBig := zin 1078 (by decide +kernel) (by decide +kernel)
theorem zw472 : Cond.selects RX6 yX6_seen yX6_seen ∈ zBig := zin 47 (by decide +kernel) (by decide +kernel)
theorem zw473 : Cond.constantLong RX6 192 (58083 : Int64) ∈ zBig := zin 1084 (by decide +kernel) (by decide +kernel)
theorem zw474 : Cond.constantLong RX6 194 (31 : Int64) ∈ zBig := zin 1085 (by decide +kernel) (by decide +kernel)
theorem zw475 : Cond.classLink RL 13 "java/lang/IllegalArgumentException" ∈ zBig := zin 377 (by decide +kernel) (by decide +kernel)
theorem zw476 : Cond.classLink RL 15 "java/lang/IllegalStateException" ∈ zBig := zin 378 (by decide +kernel) (by decide +kernel)
theorem zw477 : Cond.code yX5_user cX5_user 2 (some .int) ∈ zBig := zin 382 (by decide +kernel) (by decide +kernel)
theorem zw478 : Cond.methodLink RL 7 yX5_user ∈ zBig := zin 379 (by decide +kernel) (by decide +kernel)
theorem zw479 : Cond.instanceMethod yX5_user ∈ zBig := zin 380 (by decide +kernel) (by decide +kernel)
theorem zw480 : Cond.selects RX5 yX5_user yX5_user ∈ zBig := zin 381 (by decide +kernel) (by decide +kernel)
theorem zw481 : Cond.classLink RL 21 "java/lang/IndexOutOfBoundsException" ∈ zBig := zin 405 (by decide +kernel) (by decide +kernel)
theorem zw482 : Cond.code yX5_setRight cX5_setRight 5 (some .int) ∈ zBig := zin 409 (by decide +kernel) (by decide +kernel)
theorem zw483 : Cond.methodLink RL 17 yX5_setRight ∈ zBig := zin 406 (by decide +kernel) (by decide +kernel)
theorem zw484 : Cond.instanceMethod yX5_setRight ∈ zBig := zin 407 (by decide +kernel) (by decide +kernel)
theorem zw485 : Cond.selects RX5 yX5_setRight yX5_setRight ∈ zBig := zin 408 (by decide +kernel) (by decide +kernel)
theorem zw486 : Cond.code yX5_insert cX5_insert 5 (some .int) ∈ zBig := zin 416 (by decide +kernel) (by decide +kernel)
theorem zw487 : Cond.methodLink RL 23 yX5_insert ∈ zBig := zin 413 (by decide +kernel) (by decide +kernel)
theorem zw488 : Cond.instanceMethod yX5_insert ∈ zBig := zin 414 (by decide +kernel) (by decide +kernel)
theorem zw489 : Cond.selects RX5 yX5_insert yX5_insert ∈ zBig := zin 415 (by decide +kernel) (by decide +kernel)
theorem zw490 : Cond.code yX5_delete cX5_delete 4 (some .int) ∈ zBig := zin 450 (by decide +kernel) (by decide +kernel)
theorem zw491 : Cond.methodLink RL 27 yX5_delete ∈ zBig := zin 447 (by decide +kernel) (by decide +kernel)
theorem zw492 : Cond.instanceMethod yX5_delete ∈ zBig := zin 448 (by decide +kernel) (by decide +kernel)
theorem zw493 : Cond.selects RX5 yX5_delete yX5_delete ∈ zBig := zin 449 (by decide +kernel) (by decide +kernel)
theorem zw494 : Cond.code yX5_sign cX5_sign 3 (some .int) ∈ zBig := zin 479 (by decide +kernel) (by decide +kernel)
theorem zw495 : Cond.methodLink RL 30 yX5_sign ∈ zBig := zin 476 (by decide +kernel) (by decide +kernel)
theorem zw496 : Cond.instanceMethod yX5_sign ∈ zBig := zin 477 (by decide +kernel) (by decide +kernel)
theorem zw497 : Cond.selects RX5 yX5_sign yX5_sign ∈ zBig := zin 478 (by decide +kernel) (by decide +kernel)
theorem zw498 : Cond.code yX5_now cX5_now 3 (some .int) ∈ zBig := zin 494 (by decide +kernel) (by decide +kernel)
theorem zw499 : Cond.methodLink RL 34 yX5_now ∈ zBig := zin 491 (by decide +kernel) (by decide +kernel)
theorem zw500 : Cond.instanceMethod yX5_now ∈ zBig := zin 492 (by decide +kernel) (by decide +kernel)
theorem zw501 : Cond.selects RX5 yX5_now yX5_now ∈ zBig := zin 493 (by decide +kernel) (by decide +kernel)
theorem zw502 : Cond.code yX5_note cX5_note 7 (some .int) ∈ zBig := zin 505 (by decide +kernel) (by decide +kernel)
theorem zw503 : Cond.methodLink RL 37 yX5_note ∈ zBig := zin 502 (by decide +kernel) (by decide +kernel)
theorem zw504 : Cond.instanceMethod yX5_note ∈ zBig := zin 503 (by decide +kernel) (by decide +kernel)
theorem zw505 : Cond.selects RX5 yX5_note yX5_note ∈ zBig := zin 504 (by decide +kernel) (by decide +kernel)
theorem zw506 : Cond.code yX5_reply cX5_reply 6 (some .int) ∈ zBig := zin 631 (by decide +kernel) (by decide +kernel)
theorem zw507 : Cond.methodLink RL 41 yX5_reply ∈ zBig := zin 628 (by decide +kernel) (by decide +kernel)
theorem zw508 : Cond.instanceMethod yX5_reply ∈ zBig := zin 629 (by decide +kernel) (by decide +kernel)
theorem zw509 : Cond.selects RX5 yX5_reply yX5_reply ∈ zBig := zin 630 (by decide +kernel) (by decide +kernel)
theorem zw510 : Cond.code yX5_settle cX5_settle 7 (some .boolean) ∈ zBig := zin 642 (by decide +kernel) (by decide +kernel)
theorem zw511 : Cond.methodLink RL 44 yX5_settle ∈ zBig := zin 639 (by decide +kernel) (by decide +kernel)
theorem zw512 : Cond.instanceMethod yX5_settle ∈ zBig := zin 640 (by decide +kernel) (by decide +kernel)
theorem zw513 : Cond.selects RX5 yX5_settle yX5_settle ∈ zBig := zin 641 (by decide +kernel) (by decide +kernel)
theorem zw514 : Cond.code yX5_remove cX5_remove 4 (some .int) ∈ zBig := zin 649 (by decide +kernel) (by decide +kernel)
theorem zw515 : Cond.methodLink RL 48 yX5_remove ∈ zBig := zin 646 (by decide +kernel) (by decide +kernel)
theorem zw516 : Cond.instanceMethod yX5_remove ∈ zBig := zin 647 (by decide +kernel) (by decide +kernel)
theorem zw517 : Cond.selects RX5 yX5_remove yX5_remove ∈ zBig := zin 648 (by decide +kernel) (by decide +kernel)
theorem zw518 : Cond.code yX5_propose cX5_propose 6 (some .int) ∈ zBig := zin 660 (by decide +kernel) (by decide +kernel)
theorem zw519 : Cond.methodLink RL 51 yX5_propose ∈ zBig := zin 657 (by decide +kernel) (by decide +kernel)
theorem zw520 : Cond.instanceMethod yX5_propose ∈ zBig := zin 658 (by decide +kernel) (by decide +kernel)
theorem zw521 : Cond.selects RX5 yX5_propose yX5_propose ∈ zBig := zin 659 (by decide +kernel) (by decide +kernel)
theorem zw522 : Cond.code yX5_take cX5_take 4 (some .int) ∈ zBig := zin 667 (by decide +kernel) (by decide +kernel)
theorem zw523 : Cond.methodLink RL 54 yX5_take ∈ zBig := zin 664 (by decide +kernel) (by decide +kernel)
theorem zw524 : Cond.instanceMethod yX5_take ∈ zBig := zin 665 (by decide +kernel) (by decide +kernel)
theorem zw525 : Cond.selects RX5 yX5_take yX5_take ∈ zBig := zin 666 (by decide +kernel) (by decide +kernel)
theorem zw526 : Cond.methodLink RL 57 yX5_many ∈ zBig := zin 683 (by decide +kernel) (by decide +kernel)
theorem zw527 : Cond.code yX5_right cX5_right 2 (some .int) ∈ zBig := zin 690 (by decide +kernel) (by decide +kernel)
theorem zw528 : Cond.methodLink RL 60 yX5_right ∈ zBig := zin 687 (by decide +kernel) (by decide +kernel)
theorem zw529 : Cond.instanceMethod yX5_right ∈ zBig := zin 688 (by decide +kernel) (by decide +kernel)
theorem zw530 : Cond.selects RX5 yX5_right yX5_right ∈ zBig := zin 689 (by decide +kernel) (by decide +kernel)
theorem zw531 : Cond.methodLink RL 63 yX5_ofNote ∈ zBig := zin 694 (by decide +kernel) (by decide +kernel)
theorem zw532 : Cond.code yX5_quote cX5_quote 4 (some .int) ∈ zBig := zin 701 (by decide +kernel) (by decide +kernel)
theorem zw533 : Cond.methodLink RL 66 yX5_quote ∈ zBig := zin 698 (by decide +kernel) (by decide +kernel)
theorem zw534 : Cond.instanceMethod yX5_quote ∈ zBig := zin 699 (by decide +kernel) (by decide +kernel)
theorem zw535 : Cond.selects RX5 yX5_quote yX5_quote ∈ zBig := zin 700 (by decide +kernel) (by decide +kernel)
theorem zw536 : Cond.methodLink RL 69 yX5_sees ∈ zBig := zin 705 (by decide +kernel) (by decide +kernel)
theorem zw537 : Cond.code yX5_thread cX5_thread 5 (some .int) ∈ zBig := zin 712 (by decide +kernel) (by decide +kernel)
theorem zw538 : Cond.methodLink RL 73 yX5_thread ∈ zBig := zin 709 (by decide +kernel) (by decide +kernel)
theorem zw539 : Cond.instanceMethod yX5_thread ∈ zBig := zin 710 (by decide +kernel) (by decide +kernel)
theorem zw540 : Cond.selects RX5 yX5_thread yX5_thread ∈ zBig := zin 711 (by decide +kernel) (by decide +kernel)
theorem zw541 : Cond.methodLink RL 76 yX5_over ∈ zBig := zin 720 (by decide +kernel) (by decide +kernel)
theorem zw542 : Cond.code yX5_export cX5_export 5 (some .int) ∈ zBig := zin 727 (by decide +kernel) (by decide +kernel)
theorem zw543 : Cond.methodLink RL 79 yX5_export ∈ zBig := zin 724 (by decide +kernel) (by decide +kernel)
theorem zw544 : Cond.instanceMethod yX5_export ∈ zBig := zin 725 (by decide +kernel) (by decide +kernel)
theorem zw545 : Cond.selects RX5 yX5_export yX5_export ∈ zBig := zin 726 (by decide +kernel) (by decide +kernel)
theorem zw546 : Cond.code yX5_exported cX5_exported 3 (some .int) ∈ zBig := zin 751 (by decide +kernel) (by decide +kernel)
theorem zw547 : Cond.methodLink RL 83 yX5_exported ∈ zBig := zin 748 (by decide +kernel) (by decide +kernel)
theorem zw548 : Cond.instanceMethod yX5_exported ∈ zBig := zin 749 (by decide +kernel) (by decide +kernel)
theorem zw549 : Cond.selects RX5 yX5_exported yX5_exported ∈ zBig := zin 750 (by decide +kernel) (by decide +kernel)
theorem zw550 : Cond.code yX5_lostBy cX5_lostBy 5 (some .int) ∈ zBig := zin 758 (by decide +kernel) (by decide +kernel)
theorem zw551 : Cond.methodLink RL 86 yX5_lostBy ∈ zBig := zin 755 (by decide +kernel) (by decide +kernel)
theorem zw552 : Cond.instanceMethod yX5_lostBy ∈ zBig := zin 756 (by decide +kernel) (by decide +kernel)
theorem zw553 : Cond.selects RX5 yX5_lostBy yX5_lostBy ∈ zBig := zin 757 (by decide +kernel) (by decide +kernel)
theorem zw554 : Cond.methodLink RL 89 yX5_wouldHeal ∈ zBig := zin 767 (by decide +kernel) (by decide +kernel)
theorem zw555 : Cond.methodLink RL 92 yX5_wouldSee ∈ zBig := zin 771 (by decide +kernel) (by decide +kernel)
theorem zw556 : Cond.classLink RL 8 RX5 ∈ zBig := zin 64 (by decide +kernel) (by decide +kernel)
theorem zw557 : Cond.instantiable RX5 7 ∈ zBig := zin 65 (by decide +kernel) (by decide +kernel)
theorem zw558 : Cond.code yX5_init cX5_init 1 none ∈ zBig := zin 68 (by decide +kernel) (by decide +kernel)
theorem zw559 : Cond.methodLink RL 95 yX5_init ∈ zBig := zin 66 (by decide +kernel) (by decide +kernel)
theorem zw560 : Cond.instanceMethod yX5_init ∈ zBig := zin 67 (by decide +kernel) (by decide +kernel)
theorem zw561 : Cond.classLink RL 96 RX6 ∈ zBig := zin 772 (by decide +kernel) (by decide +kernel)
theorem zw562 : Cond.instantiable RX6 23 ∈ zBig := zin 773 (by decide +kernel) (by decide +kernel)
theorem zw563 : Cond.code yX6_init cX6_init 1 none ∈ zBig := zin 776 (by decide +kernel) (by decide +kernel)
theorem zw564 : Cond.methodLink RL 98 yX6_init ∈ zBig := zin 774 (by decide +kernel) (by decide +kernel)
theorem zw565 : Cond.instanceMethod yX6_init ∈ zBig := zin 775 (by decide +kernel) (by decide +kernel)
theorem zw566 : Cond.arrayClass .long ∈ zBig := zin 1086 (by decide +kernel) (by decide +kernel)
theorem zw567 : Cond.codeWith yL_user cL_user 4 (some .int) [(0, 9, 12, 13), (0, 9, 15, 15)] ∈ zBig := zin 376 (by decide +kernel) (by decide +kernel)
theorem zw568 : Cond.methodLink RL 99 yL_user ∈ zBig := zin 374 (by decide +kernel) (by decide +kernel)
theorem zw569 : Cond.static yL_user ∈ zBig := zin 375 (by decide +kernel) (by decide +kernel)
theorem zw570 : Cond.initialized RL ∈ zBig := zin 48 (by decide +kernel) (by decide +kernel)
theorem zw571 : Cond.code yX6_user cX6_user 2 (some .int) ∈ zBig := zin 858 (by decide +kernel) (by decide +kernel)
theorem zw572 : Cond.methodLink RL 104 yX6_user ∈ zBig := zin 855 (by decide +kernel) (by decide +kernel)
theorem zw573 : Cond.instanceMethod yX6_user ∈ zBig := zin 856 (by decide +kernel) (by decide +kernel)
theorem zw574 : Cond.selects RX6 yX6_user yX6_user ∈ zBig := zin 857 (by decide +kernel) (by decide +kernel)
theorem zw575 : Cond.code yX6_thrown cX6_thrown 1 (some .int) ∈ zBig := zin 854 (by decide +kernel) (by decide +kernel)
theorem zw576 : Cond.methodLink RL 105 yX6_thrown ∈ zBig := zin 851 (by decide +kernel) (by decide +kernel)
theorem zw577 : Cond.instanceMethod yX6_thrown ∈ zBig := zin 852 (by decide +kernel) (by decide +kernel)
theorem zw578 : Cond.selects RX6 yX6_thrown yX6_thrown ∈ zBig := zin 853 (by decide +kernel) (by decide +kernel)
theorem zw579 : Cond.codeWith yL_setRight cL_setRight 6 (some .int) [(0, 12, 15, 21), (0, 12, 19, 13), (0, 12, 23, 15)] ∈ zBig := zin 404 (by decide +kernel) (by decide +kernel)
theorem zw580 : Cond.methodLink RL 109 yL_setRight ∈ zBig := zin 402 (by decide +kernel) (by decide +kernel)
theorem zw581 : Cond.static yL_setRight ∈ zBig := zin 403 (by decide +kernel) (by decide +kernel)
theorem zw582 : Cond.code yX6_setRight cX6_setRight 5 (some .int) ∈ zBig := zin 869 (by decide +kernel) (by decide +kernel)
theorem zw583 : Cond.methodLink RL 112 yX6_setRight ∈ zBig := zin 866 (by decide +kernel) (by decide +kernel)
theorem zw584 : Cond.instanceMethod yX6_setRight ∈ zBig := zin 867 (by decide +kernel) (by decide +kernel)
theorem zw585 : Cond.selects RX6 yX6_setRight yX6_setRight ∈ zBig := zin 868 (by decide +kernel) (by decide +kernel)
theorem zw586 : Cond.codeWith yL_insert cL_insert 7 (some .int) [(0, 14, 17, 21), (0, 14, 21, 13), (0, 14, 25, 15)] ∈ zBig := zin 412 (by decide +kernel) (by decide +kernel)
theorem zw587 : Cond.methodLink RL 113 yL_insert ∈ zBig := zin 410 (by decide +kernel) (by decide +kernel)
theorem zw588 : Cond.static yL_insert ∈ zBig := zin 411 (by decide +kernel) (by decide +kernel)
theorem zw589 : Cond.code yX6_insert cX6_insert 5 (some .int) ∈ zBig := zin 877 (by decide +kernel) (by decide +kernel)
theorem zw590 : Cond.methodLink RL 116 yX6_insert ∈ zBig := zin 874 (by decide +kernel) (by decide +kernel)
theorem zw591 : Cond.instanceMethod yX6_insert ∈ zBig := zin 875 (by decide +kernel) (by decide +kernel)
theorem zw592 : Cond.selects RX6 yX6_insert yX6_insert ∈ zBig := zin 876 (by decide +kernel) (by decide +kernel)
theorem zw593 : Cond.codeWith yL_delete cL_delete 6 (some .int) [(0, 12, 15, 21), (0, 12, 19, 13), (0, 12, 23, 15)] ∈ zBig := zin 446 (by decide +kernel) (by decide +kernel)
theorem zw594 : Cond.methodLink RL 117 yL_delete ∈ zBig := zin 444 (by decide +kernel) (by decide +kernel)
theorem zw595 : Cond.static yL_delete ∈ zBig := zin 445 (by decide +kernel) (by decide +kernel)
theorem zw596 : Cond.code yX6_delete cX6_delete 4 (some .int) ∈ zBig := zin 890 (by decide +kernel) (by decide +kernel)
theorem zw597 : Cond.methodLink RL 119 yX6_delete ∈ zBig := zin 887 (by decide +kernel) (by decide +kernel)
theorem zw598 : Cond.instanceMethod yX6_delete ∈ zBig := zin 888 (by decide +kernel) (by decide +kernel)
theorem zw599 : Cond.selects RX6 yX6_delete yX6_delete ∈ zBig := zin 889 (by decide +kernel) (by decide +kernel)
theorem zw600 : Cond.code yX5_length cX5_length 1 (some .int) ∈ zBig := zin 141 (by decide +kernel) (by decide +kernel)
theorem zw601 : Cond.methodLink RL 120 yX5_length ∈ zBig := zin 138 (by decide +kernel) (by decide +kernel)
theorem zw602 : Cond.instanceMethod yX5_length ∈ zBig := zin 139 (by decide +kernel) (by decide +kernel)
theorem zw603 : Cond.selects RX5 yX5_length yX5_length ∈ zBig := zin 140 (by decide +kernel) (by decide +kernel)
theorem zw604 : Cond.code yX6_length cX6_length 1 (some .int) ∈ zBig := zin 900 (by decide +kernel) (by decide +kernel)
theorem zw605 : Cond.methodLink RL 123 yX6_length ∈ zBig := zin 897 (by decide +kernel) (by decide +kernel)
theorem zw606 : Cond.instanceMethod yX6_length ∈ zBig := zin 898 (by decide +kernel) (by decide +kernel)
theorem zw607 : Cond.selects RX6 yX6_length yX6_length ∈ zBig := zin 899 (by decide +kernel) (by decide +kernel)
theorem zw608 : Cond.codeWith yL_sign cL_sign 5 (some .int) [(0, 10, 13, 21)] ∈ zBig := zin 475 (by decide +kernel) (by decide +kernel)
theorem zw609 : Cond.methodLink RL 124 yL_sign ∈ zBig := zin 473 (by decide +kernel) (by decide +kernel)
theorem zw610 : Cond.static yL_sign ∈ zBig := zin 474 (by decide +kernel) (by decide +kernel)
theorem zw611 : Cond.code yX6_sign cX6_sign 3 (some .int) ∈ zBig := zin 908 (by decide +kernel) (by decide +kernel)
theorem zw612 : Cond.methodLink RL 127 yX6_sign ∈ zBig := zin 905 (by decide +kernel) (by decide +kernel)
theorem zw613 : Cond.instanceMethod yX6_sign ∈ zBig := zin 906 (by decide +kernel) (by decide +kernel)
theorem zw614 : Cond.selects RX6 yX6_sign yX6_sign ∈ zBig := zin 907 (by decide +kernel) (by decide +kernel)
theorem zw615 : Cond.codeWith yL_now cL_now 5 (some .int) [(0, 10, 13, 21)] ∈ zBig := zin 490 (by decide +kernel) (by decide +kernel)
theorem zw616 : Cond.methodLink RL 128 yL_now ∈ zBig := zin 488 (by decide +kernel) (by decide +kernel)
theorem zw617 : Cond.static yL_now ∈ zBig := zin 489 (by decide +kernel) (by decide +kernel)
theorem zw618 : Cond.code yX6_now cX6_now 4 (some .int) ∈ zBig := zin 912 (by decide +kernel) (by decide +kernel)
theorem zw619 : Cond.methodLink RL 130 yX6_now ∈ zBig := zin 909 (by decide +kernel) (by decide +kernel)
theorem zw620 : Cond.instanceMethod yX6_now ∈ zBig := zin 910 (by decide +kernel) (by decide +kernel)
theorem zw621 : Cond.selects RX6 yX6_now yX6_now ∈ zBig := zin 911 (by decide +kernel) (by decide +kernel)
theorem zw622 : Cond.code yX5_version cX5_version 1 (some .int) ∈ zBig := zin 149 (by decide +kernel) (by decide +kernel)
theorem zw623 : Cond.methodLink RL 131 yX5_version ∈ zBig := zin 146 (by decide +kernel) (by decide +kernel)
theorem zw624 : Cond.instanceMethod yX5_version ∈ zBig := zin 147 (by decide +kernel) (by decide +kernel)
theorem zw625 : Cond.selects RX5 yX5_version yX5_version ∈ zBig := zin 148 (by decide +kernel) (by decide +kernel)
theorem zw626 : Cond.code yX6_version cX6_version 1 (some .int) ∈ zBig := zin 916 (by decide +kernel) (by decide +kernel)
theorem zw627 : Cond.methodLink RL 134 yX6_version ∈ zBig := zin 913 (by decide +kernel) (by decide +kernel)
theorem zw628 : Cond.instanceMethod yX6_version ∈ zBig := zin 914 (by decide +kernel) (by decide +kernel)
theorem zw629 : Cond.selects RX6 yX6_version yX6_version ∈ zBig := zin 915 (by decide +kernel) (by decide +kernel)
theorem zw630 : Cond.codeWith yL_note cL_note 8 (some .int) [(0, 16, 19, 21), (0, 16, 23, 13), (0, 16, 27, 15)] ∈ zBig := zin 501 (by decide +kernel) (by decide +kernel)
theorem zw631 : Cond.methodLink RL 135 yL_note ∈ zBig := zin 499 (by decide +kernel) (by decide +kernel)
theorem zw632 : Cond.static yL_note ∈ zBig := zin 500 (by decide +kernel) (by decide +kernel)
theorem zw633 : Cond.code yX6_note cX6_note 7 (some .int) ∈ zBig := zin 920 (by decide +kernel) (by decide +kernel)
theorem zw634 : Cond.methodLink RL 138 yX6_note ∈ zBig := zin 917 (by decide +kernel) (by decide +kernel)
theorem zw635 : Cond.instanceMethod yX6_note ∈ zBig := zin 918 (by decide +kernel) (by decide +kernel)
theorem zw636 : Cond.selects RX6 yX6_note yX6_note ∈ zBig := zin 919 (by decide +kernel) (by decide +kernel)
theorem zw637 : Cond.codeWith yL_reply cL_reply 6 (some .int) [(0, 12, 15, 21), (0, 12, 19, 13), (0, 12, 23, 15)] ∈ zBig := zin 627 (by decide +kernel) (by decide +kernel)
theorem zw638 : Cond.methodLink RL 139 yL_reply ∈ zBig := zin 625 (by decide +kernel) (by decide +kernel)
theorem zw639 : Cond.static yL_reply ∈ zBig := zin 626 (by decide +kernel) (by decide +kernel)
theorem zw640 : Cond.code yX6_reply cX6_reply 4 (some .int) ∈ zBig := zin 928 (by decide +kernel) (by decide +kernel)
theorem zw641 : Cond.methodLink RL 141 yX6_reply ∈ zBig := zin 925 (by decide +kernel) (by decide +kernel)
theorem zw642 : Cond.instanceMethod yX6_reply ∈ zBig := zin 926 (by decide +kernel) (by decide +kernel)
theorem zw643 : Cond.selects RX6 yX6_reply yX6_reply ∈ zBig := zin 927 (by decide +kernel) (by decide +kernel)
theorem zw644 : Cond.codeWith yL_settle cL_settle 6 (some .int) [(0, 19, 22, 21), (0, 19, 26, 15)] ∈ zBig := zin 638 (by decide +kernel) (by decide +kernel)
theorem zw645 : Cond.methodLink RL 142 yL_settle ∈ zBig := zin 636 (by decide +kernel) (by decide +kernel)
theorem zw646 : Cond.static yL_settle ∈ zBig := zin 637 (by decide +kernel) (by decide +kernel)
theorem zw647 : Cond.code yX6_settle cX6_settle 5 (some .boolean) ∈ zBig := zin 948 (by decide +kernel) (by decide +kernel)
theorem zw648 : Cond.methodLink RL 145 yX6_settle ∈ zBig := zin 945 (by decide +kernel) (by decide +kernel)
theorem zw649 : Cond.instanceMethod yX6_settle ∈ zBig := zin 946 (by decide +kernel) (by decide +kernel)
theorem zw650 : Cond.selects RX6 yX6_settle yX6_settle ∈ zBig := zin 947 (by decide +kernel) (by decide +kernel)
theorem zw651 : Cond.codeWith yL_remove cL_remove 5 (some .int) [(0, 10, 13, 21), (0, 10, 17, 15)] ∈ zBig := zin 645 (by decide +kernel) (by decide +kernel)
theorem zw652 : Cond.methodLink RL 146 yL_remove ∈ zBig := zin 643 (by decide +kernel) (by decide +kernel)
theorem zw653 : Cond.static yL_remove ∈ zBig := zin 644 (by decide +kernel) (by decide +kernel)
theorem zw654 : Cond.code yX6_remove cX6_remove 5 (some .int) ∈ zBig := zin 956 (by decide +kernel) (by decide +kernel)
theorem zw655 : Cond.methodLink RL 148 yX6_remove ∈ zBig := zin 953 (by decide +kernel) (by decide +kernel)
theorem zw656 : Cond.instanceMethod yX6_remove ∈ zBig := zin 954 (by decide +kernel) (by decide +kernel)
theorem zw657 : Cond.selects RX6 yX6_remove yX6_remove ∈ zBig := zin 955 (by decide +kernel) (by decide +kernel)
theorem zw658 : Cond.codeWith yL_propose cL_propose 7 (some .int) [(0, 14, 17, 21), (0, 14, 21, 13), (0, 14, 25, 15)] ∈ zBig := zin 656 (by decide +kernel) (by decide +kernel)
theorem zw659 : Cond.methodLink RL 149 yL_propose ∈ zBig := zin 654 (by decide +kernel) (by decide +kernel)
theorem zw660 : Cond.static yL_propose ∈ zBig := zin 655 (by decide +kernel) (by decide +kernel)
theorem zw661 : Cond.code yX6_propose cX6_propose 5 (some .int) ∈ zBig := zin 964 (by decide +kernel) (by decide +kernel)
theorem zw662 : Cond.methodLink RL 151 yX6_propose ∈ zBig := zin 961 (by decide +kernel) (by decide +kernel)
theorem zw663 : Cond.instanceMethod yX6_propose ∈ zBig := zin 962 (by decide +kernel) (by decide +kernel)
theorem zw664 : Cond.selects RX6 yX6_propose yX6_propose ∈ zBig := zin 963 (by decide +kernel) (by decide +kernel)
theorem zw665 : Cond.codeWith yL_take cL_take 5 (some .int) [(0, 10, 13, 21), (0, 10, 17, 13), (0, 10, 21, 15)] ∈ zBig := zin 663 (by decide +kernel) (by decide +kernel)
theorem zw666 : Cond.methodLink RL 152 yL_take ∈ zBig := zin 661 (by decide +kernel) (by decide +kernel)
theorem zw667 : Cond.static yL_take ∈ zBig := zin 662 (by decide +kernel) (by decide +kernel)
theorem zw668 : Cond.code yX6_take cX6_take 6 (some .int) ∈ zBig := zin 968 (by decide +kernel) (by decide +kernel)
theorem zw669 : Cond.methodLink RL 154 yX6_take ∈ zBig := zin 965 (by decide +kernel) (by decide +kernel)
theorem zw670 : Cond.instanceMethod yX6_take ∈ zBig := zin 966 (by decide +kernel) (by decide +kernel)
theorem zw671 : Cond.selects RX6 yX6_take yX6_take ∈ zBig := zin 967 (by decide +kernel) (by decide +kernel)
theorem zw672 : Cond.code yX5_heal cX5_heal 3 (some .int) ∈ zBig := zin 153 (by decide +kernel) (by decide +kernel)
theorem zw673 : Cond.methodLink RL 155 yX5_heal ∈ zBig := zin 150 (by decide +kernel) (by decide +kernel)
theorem zw674 : Cond.instanceMethod yX5_heal ∈ zBig := zin 151 (by decide +kernel) (by decide +kernel)
theorem zw675 : Cond.selects RX5 yX5_heal yX5_heal ∈ zBig := zin 152 (by decide +kernel) (by decide +kernel)
theorem zw676 : Cond.code yX6_heal cX6_heal 3 (some .int) ∈ zBig := zin 972 (by decide +kernel) (by decide +kernel)
theorem zw677 : Cond.methodLink RL 158 yX6_heal ∈ zBig := zin 969 (by decide +kernel) (by decide +kernel)
theorem zw678 : Cond.instanceMethod yX6_heal ∈ zBig := zin 970 (by decide +kernel) (by decide +kernel)
theorem zw679 : Cond.selects RX6 yX6_heal yX6_heal ∈ zBig := zin 971 (by decide +kernel) (by decide +kernel)
theorem zw680 : Cond.codeWith yL_many cL_many 4 (some .int) [(0, 9, 12, 13)] ∈ zBig := zin 682 (by decide +kernel) (by decide +kernel)
theorem zw681 : Cond.methodLink RL 159 yL_many ∈ zBig := zin 680 (by decide +kernel) (by decide +kernel)
theorem zw682 : Cond.static yL_many ∈ zBig := zin 681 (by decide +kernel) (by decide +kernel)
theorem zw683 : Cond.code yX6_many cX6_many 2 (some .int) ∈ zBig := zin 991 (by decide +kernel) (by decide +kernel)
theorem zw684 : Cond.methodLink RL 161 yX6_many ∈ zBig := zin 988 (by decide +kernel) (by decide +kernel)
theorem zw685 : Cond.instanceMethod yX6_many ∈ zBig := zin 989 (by decide +kernel) (by decide +kernel)
theorem zw686 : Cond.selects RX6 yX6_many yX6_many ∈ zBig := zin 990 (by decide +kernel) (by decide +kernel)
theorem zw687 : Cond.codeWith yL_right cL_right 4 (some .int) [(0, 9, 12, 21)] ∈ zBig := zin 686 (by decide +kernel) (by decide +kernel)
theorem zw688 : Cond.methodLink RL 162 yL_right ∈ zBig := zin 684 (by decide +kernel) (by decide +kernel)
theorem zw689 : Cond.static yL_right ∈ zBig := zin 685 (by decide +kernel) (by decide +kernel)
theorem zw690 : Cond.code yX6_right cX6_right 2 (some .int) ∈ zBig := zin 999 (by decide +kernel) (by decide +kernel)
theorem zw691 : Cond.methodLink RL 164 yX6_right ∈ zBig := zin 996 (by decide +kernel) (by decide +kernel)
theorem zw692 : Cond.instanceMethod yX6_right ∈ zBig := zin 997 (by decide +kernel) (by decide +kernel)
theorem zw693 : Cond.selects RX6 yX6_right yX6_right ∈ zBig := zin 998 (by decide +kernel) (by decide +kernel)
theorem zw694 : Cond.codeWith yL_ofNote cL_ofNote 5 (some .int) [(0, 10, 13, 21), (0, 10, 17, 13)] ∈ zBig := zin 693 (by decide +kernel) (by decide +kernel)
theorem zw695 : Cond.methodLink RL 165 yL_ofNote ∈ zBig := zin 691 (by decide +kernel) (by decide +kernel)
theorem zw696 : Cond.static yL_ofNote ∈ zBig := zin 692 (by decide +kernel) (by decide +kernel)
theorem zw697 : Cond.code yX6_ofNote cX6_ofNote 3 (some .int) ∈ zBig := zin 1003 (by decide +kernel) (by decide +kernel)
theorem zw698 : Cond.methodLink RL 167 yX6_ofNote ∈ zBig := zin 1000 (by decide +kernel) (by decide +kernel)
theorem zw699 : Cond.instanceMethod yX6_ofNote ∈ zBig := zin 1001 (by decide +kernel) (by decide +kernel)
theorem zw700 : Cond.selects RX6 yX6_ofNote yX6_ofNote ∈ zBig := zin 1002 (by decide +kernel) (by decide +kernel)
theorem zw701 : Cond.codeWith yL_quote cL_quote 5 (some .int) [(0, 10, 13, 21)] ∈ zBig := zin 697 (by decide +kernel) (by decide +kernel)
theorem zw702 : Cond.methodLink RL 168 yL_quote ∈ zBig := zin 695 (by decide +kernel) (by decide +kernel)
theorem zw703 : Cond.static yL_quote ∈ zBig := zin 696 (by decide +kernel) (by decide +kernel)
theorem zw704 : Cond.code yX6_quote cX6_quote 4 (some .int) ∈ zBig := zin 1019 (by decide +kernel) (by decide +kernel)
theorem zw705 : Cond.methodLink RL 170 yX6_quote ∈ zBig := zin 1016 (by decide +kernel) (by decide +kernel)
theorem zw706 : Cond.instanceMethod yX6_quote ∈ zBig := zin 1017 (by decide +kernel) (by decide +kernel)
theorem zw707 : Cond.selects RX6 yX6_quote yX6_quote ∈ zBig := zin 1018 (by decide +kernel) (by decide +kernel)
theorem zw708 : Cond.codeWith yL_sees cL_sees 5 (some .int) [(0, 17, 20, 21)] ∈ zBig := zin 704 (by decide +kernel) (by decide +kernel)
theorem zw709 : Cond.methodLink RL 171 yL_sees ∈ zBig := zin 702 (by decide +kernel) (by decide +kernel)
theorem zw710 : Cond.static yL_sees ∈ zBig := zin 703 (by decide +kernel) (by decide +kernel)
theorem zw711 : Cond.code yX6_sees cX6_sees 3 (some .boolean) ∈ zBig := zin 1023 (by decide +kernel) (by decide +kernel)
theorem zw712 : Cond.methodLink RL 173 yX6_sees ∈ zBig := zin 1020 (by decide +kernel) (by decide +kernel)
theorem zw713 : Cond.instanceMethod yX6_sees ∈ zBig := zin 1021 (by decide +kernel) (by decide +kernel)
theorem zw714 : Cond.selects RX6 yX6_sees yX6_sees ∈ zBig := zin 1022 (by decide +kernel) (by decide +kernel)
theorem zw715 : Cond.codeWith yL_thread cL_thread 5 (some .int) [(0, 10, 13, 21)] ∈ zBig := zin 708 (by decide +kernel) (by decide +kernel)
theorem zw716 : Cond.methodLink RL 174 yL_thread ∈ zBig := zin 706 (by decide +kernel) (by decide +kernel)
theorem zw717 : Cond.static yL_thread ∈ zBig := zin 707 (by decide +kernel) (by decide +kernel)
theorem zw718 : Cond.code yX6_thread cX6_thread 3 (some .int) ∈ zBig := zin 1027 (by decide +kernel) (by decide +kernel)
theorem zw719 : Cond.methodLink RL 176 yX6_thread ∈ zBig := zin 1024 (by decide +kernel) (by decide +kernel)
theorem zw720 : Cond.instanceMethod yX6_thread ∈ zBig := zin 1025 (by decide +kernel) (by decide +kernel)
theorem zw721 : Cond.selects RX6 yX6_thread yX6_thread ∈ zBig := zin 1026 (by decide +kernel) (by decide +kernel)
theorem zw722 : Cond.codeWith yL_over cL_over 5 (some .int) [(0, 10, 13, 21)] ∈ zBig := zin 719 (by decide +kernel) (by decide +kernel)
theorem zw723 : Cond.methodLink RL 177 yL_over ∈ zBig := zin 717 (by decide +kernel) (by decide +kernel)
theorem zw724 : Cond.static yL_over ∈ zBig := zin 718 (by decide +kernel) (by decide +kernel)
theorem zw725 : Cond.code yX6_over cX6_over 3 (some .int) ∈ zBig := zin 1043 (by decide +kernel) (by decide +kernel)
theorem zw726 : Cond.methodLink RL 179 yX6_over ∈ zBig := zin 1040 (by decide +kernel) (by decide +kernel)
theorem zw727 : Cond.instanceMethod yX6_over ∈ zBig := zin 1041 (by decide +kernel) (by decide +kernel)
theorem zw728 : Cond.selects RX6 yX6_over yX6_over ∈ zBig := zin 1042 (by decide +kernel) (by decide +kernel)
theorem zw729 : Cond.codeWith yL_export cL_export 5 (some .int) [(0, 10, 13, 21)] ∈ zBig := zin 723 (by decide +kernel) (by decide +kernel)
theorem zw730 : Cond.methodLink RL 180 yL_export ∈ zBig := zin 721 (by decide +kernel) (by decide +kernel)
theorem zw731 : Cond.static yL_export ∈ zBig := zin 722 (by decide +kernel) (by decide +kernel)
theorem zw732 : Cond.code yX6_export cX6_export 10 (some .int) ∈ zBig := zin 1051 (by decide +kernel) (by decide +kernel)
theorem zw733 : Cond.methodLink RL 183 yX6_export ∈ zBig := zin 1048 (by decide +kernel) (by decide +kernel)
theorem zw734 : Cond.instanceMethod yX6_export ∈ zBig := zin 1049 (by decide +kernel) (by decide +kernel)
theorem zw735 : Cond.selects RX6 yX6_export yX6_export ∈ zBig := zin 1050 (by decide +kernel) (by decide +kernel)
theorem zw736 : Cond.codeWith yL_exported cL_exported 5 (some .int) [(0, 10, 13, 21), (0, 10, 17, 13)] ∈ zBig := zin 747 (by decide +kernel) (by decide +kernel)
theorem zw737 : Cond.methodLink RL 184 yL_exported ∈ zBig := zin 745 (by decide +kernel) (by decide +kernel)
theorem zw738 : Cond.static yL_exported ∈ zBig := zin 746 (by decide +kernel) (by decide +kernel)
theorem zw739 : Cond.code yX6_exported cX6_exported 3 (some .int) ∈ zBig := zin 1059 (by decide +kernel) (by decide +kernel)
theorem zw740 : Cond.methodLink RL 186 yX6_exported ∈ zBig := zin 1056 (by decide +kernel) (by decide +kernel)
theorem zw741 : Cond.instanceMethod yX6_exported ∈ zBig := zin 1057 (by decide +kernel) (by decide +kernel)
theorem zw742 : Cond.selects RX6 yX6_exported yX6_exported ∈ zBig := zin 1058 (by decide +kernel) (by decide +kernel)
theorem zw743 : Cond.code yX5_meanThread cX5_meanThread 2 (some .double) ∈ zBig := zin 189 (by decide +kernel) (by decide +kernel)
theorem zw744 : Cond.methodLink RL 187 yX5_meanThread ∈ zBig := zin 186 (by decide +kernel) (by decide +kernel)
theorem zw745 : Cond.instanceMethod yX5_meanThread ∈ zBig := zin 187 (by decide +kernel) (by decide +kernel)
theorem zw746 : Cond.selects RX5 yX5_meanThread yX5_meanThread ∈ zBig := zin 188 (by decide +kernel) (by decide +kernel)
theorem zw747 : Cond.code yX6_meanThread cX6_meanThread 1 (some .double) ∈ zBig := zin 1063 (by decide +kernel) (by decide +kernel)
theorem zw748 : Cond.methodLink RL 191 yX6_meanThread ∈ zBig := zin 1060 (by decide +kernel) (by decide +kernel)
theorem zw749 : Cond.instanceMethod yX6_meanThread ∈ zBig := zin 1061 (by decide +kernel) (by decide +kernel)
theorem zw750 : Cond.selects RX6 yX6_meanThread yX6_meanThread ∈ zBig := zin 1062 (by decide +kernel) (by decide +kernel)
theorem zw751 : Cond.codeWith yL_lostBy cL_lostBy 5 (some .int) [(0, 10, 13, 21), (0, 10, 17, 13)] ∈ zBig := zin 754 (by decide +kernel) (by decide +kernel)
theorem zw752 : Cond.methodLink RL 192 yL_lostBy ∈ zBig := zin 752 (by decide +kernel) (by decide +kernel)
theorem zw753 : Cond.static yL_lostBy ∈ zBig := zin 753 (by decide +kernel) (by decide +kernel)
theorem zw754 : Cond.code yX6_lostBy cX6_lostBy 5 (some .int) ∈ zBig := zin 1067 (by decide +kernel) (by decide +kernel)
theorem zw755 : Cond.methodLink RL 194 yX6_lostBy ∈ zBig := zin 1064 (by decide +kernel) (by decide +kernel)
theorem zw756 : Cond.instanceMethod yX6_lostBy ∈ zBig := zin 1065 (by decide +kernel) (by decide +kernel)
theorem zw757 : Cond.selects RX6 yX6_lostBy yX6_lostBy ∈ zBig := zin 1066 (by decide +kernel) (by decide +kernel)
theorem zw758 : Cond.codeWith yL_wouldHeal cL_wouldHeal 4 (some .int) [(0, 9, 12, 21)] ∈ zBig := zin 766 (by decide +kernel) (by decide +kernel)
theorem zw759 : Cond.methodLink RL 195 yL_wouldHeal ∈ zBig := zin 764 (by decide +kernel) (by decide +kernel)
theorem zw760 : Cond.static yL_wouldHeal ∈ zBig := zin 765 (by decide +kernel) (by decide +kernel)
theorem zw761 : Cond.code yX6_wouldHeal cX6_wouldHeal 2 (some .int) ∈ zBig := zin 1071 (by decide +kernel) (by decide +kernel)
theorem zw762 : Cond.methodLink RL 197 yX6_wouldHeal ∈ zBig := zin 1068 (by decide +kernel) (by decide +kernel)
theorem zw763 : Cond.instanceMethod yX6_wouldHeal ∈ zBig := zin 1069 (by decide +kernel) (by decide +kernel)
theorem zw764 : Cond.selects RX6 yX6_wouldHeal yX6_wouldHeal ∈ zBig := zin 1070 (by decide +kernel) (by decide +kernel)
theorem zw765 : Cond.codeWith yL_wouldSee cL_wouldSee 5 (some .int) [(0, 10, 13, 21), (0, 10, 17, 13)] ∈ zBig := zin 770 (by decide +kernel) (by decide +kernel)
theorem zw766 : Cond.methodLink RL 198 yL_wouldSee ∈ zBig := zin 768 (by decide +kernel) (by decide +kernel)
theorem zw767 : Cond.static yL_wouldSee ∈ zBig := zin 769 (by decide +kernel) (by decide +kernel)
theorem zw768 : Cond.code yX6_wouldSee cX6_wouldSee 3 (some .int) ∈ zBig := zin 1075 (by decide +kernel) (by decide +kernel)
theorem zw769 : Cond.methodLink RL 200 yX6_wouldSee ∈ zBig := zin 1072 (by decide +kernel) (by decide +kernel)
theorem zw770 : Cond.instanceMethod yX6_wouldSee ∈ zBig := zin 1073 (by decide +kernel) (by decide +kernel)
theorem zw771 : Cond.selects RX6 yX6_wouldSee yX6_wouldSee ∈ zBig := zin 1074 (by decide +kernel) (by decide +kernel)
theorem zw772 : Cond.code yX5_digest cX5_digest 4 (some .long) ∈ zBig := zin 206 (by decide +kernel) (by decide +kernel)
theorem zw773 : Cond.methodLink RL 201 yX5_digest ∈ zBig := zin 203 (by decide +kernel) (by decide +kernel)
theorem zw774 : Cond.instanceMethod yX5_digest ∈ zBig := zin 204 (by decide +kernel) (by decide +kernel)
theorem zw775 : Cond.selects RX5 yX5_digest yX5_digest ∈ zBig := zin 205 (by decide +kernel) (by decide +kernel)
theorem zw776 : Cond.code yX6_digest cX6_digest 7 (some .long) ∈ zBig := zin 1083 (by decide +kernel) (by decide +kernel)
theorem zw777 : Cond.methodLink RL 205 yX6_digest ∈ zBig := zin 1080 (by decide +kernel) (by decide +kernel)
theorem zw778 : Cond.instanceMethod yX6_digest ∈ zBig := zin 1081 (by decide +kernel) (by decide +kernel)
theorem zw779 : Cond.selects RX6 yX6_digest yX6_digest ∈ zBig := zin 1082 (by decide +kernel) (by decide +kernel)
theorem uz_0 : ∀ w ∈ u_ws RX0 TX0 2, w ∈ zBig := by decide +kernel
theorem df_0 : ∀ j, j < 2 → defaultValue (tyX0 j) = if fR 1 j = true then Value.null else Value.int 0 := by decide +kernel
theorem uz_1 : ∀ w ∈ u_ws RX1 TX1 2, w ∈ zBig := by decide +kernel
theorem df_1 : ∀ j, j < 2 → defaultValue (tyX1 j) = if fR 2 j = true then Value.null else Value.int 0 := by decide +kernel
theorem uz_2 : ∀ w ∈ u_ws RX2 TX2 10, w ∈ zBig := by decide +kernel
theorem df_2 : ∀ j, j < 10 → defaultValue (tyX2 j) = if fR 3 j = true then Value.null else Value.int 0 := by decide +kernel
theorem uz_3 : ∀ w ∈ u_ws RX3 TX3 8, w ∈ zBig := by decide +kernel
theorem df_3 : ∀ j, j < 8 → defaultValue (tyX3 j) = if fR 4 j = true then Value.null else Value.int 0 := by decide +kernel
theorem uz_4 : ∀ w ∈ u_ws RX4 TX4 5, w ∈ zBig := by decide +kernel
theorem df_4 : ∀ j, j < 5 → defaultValue (tyX4 j) = if fR 5 j = true then Value.null else Value.int 0 := by decide +kernel
theorem uz_5 : ∀ w ∈ u_ws RX5 TX5 7, w ∈ zBig := by decide +kernel
theorem df_5 : ∀ j, j < 7 → defaultValue (tyX5 j) = if fR 6 j = true then Value.null else Value.int 0 := by decide +kernel
theorem uz_6 : ∀ w ∈ u_ws RX6 TX6 23, w ∈ zBig := by decide +kernel
theorem df_6 : ∀ j, j < 23 → defaultValue (tyX6 j) = if fR 7 j = true then Value.null else Value.int 0 := by decide +kernel
def zDe : List MethodName := [Bundle.initS "java/lang/RuntimeException", Bundle.initS "java/lang/Exception", Bundle.initS "java/lang/Throwable"]
theorem zat_254 : ∀ w ∈ vx_atS RX5 254 (xcl 3) xsup, w ∈ zBig ∨ w = Cond.castable "java/lang/IndexOutOfBoundsException" "java/lang/IndexOutOfBoundsException" ∨ ∃ q ∈ zDe, w = Cond.declares q := by decide +kernel
theorem zat_269 : ∀ w ∈ vx_atS RX5 269 (xcl 1) xsup, w ∈ zBig ∨ w = Cond.castable "java/lang/IllegalArgumentException" "java/lang/IllegalArgumentException" ∨ ∃ q ∈ zDe, w = Cond.declares q := by decide +kernel
theorem zat_274 : ∀ w ∈ vx_atS RX5 274 (xcl 2) xsup, w ∈ zBig ∨ w = Cond.castable "java/lang/IllegalStateException" "java/lang/IllegalStateException" ∨ ∃ q ∈ zDe, w = Cond.declares q := by decide +kernel
def GwP : GwT := ([("Marginalia", 252, "there is no such user"), ("Marginalia", 257, "there is no such sign"), ("Marginalia", 259, "there is no such note"), ("Marginalia", 261, "the note is gone"), ("Marginalia", 263, "there is no such place or version"), ("Marginalia", 267, "a number is outside its range"), ("Marginalia", 272, "it is refused, or a limit is reached")], [("java/lang/IllegalArgumentException", "java/lang/IndexOutOfBoundsException"), ("java/lang/IllegalStateException", "java/lang/IllegalArgumentException"), ("java/lang/IllegalStateException", "java/lang/IndexOutOfBoundsException")], [("java/lang/IllegalArgumentException", "java/lang/IllegalArgumentException"), ("java/lang/IllegalStateException", "java/lang/IllegalStateException"), ("java/lang/IndexOutOfBoundsException", "java/lang/IndexOutOfBoundsException")], [("Marginalia", 94, "Marginalia$Text", "edits", "I", "Marginalia"), ("Marginalia", 131, "Marginalia$Note", "isEmpty", "Z", "Marginalia"), ("Marginalia", 135, "Marginalia$Note", "strand", "LMarginalia$Strand;", "Marginalia"), ("Marginalia", 143, "Marginalia$Strand", "isSettled", "Z", "Marginalia"), ("Marginalia", 146, "Marginalia$Strand", "author", "I", "Marginalia"), ("Marginalia", 149, "Marginalia$Note", "author", "I", "Marginalia"), ("Marginalia", 157, "Marginalia$Strand", "proposedMany", "I", "Marginalia"), ("Marginalia", 160, "Marginalia$Strand", "proposedSign", "I", "Marginalia"), ("Marginalia", 163, "Marginalia$Note", "number", "I", "Marginalia"), ("Marginalia", 190, "Marginalia$Strand", "quoted", "[I", "Marginalia"), ("Marginalia", 197, "Marginalia$Note", "isGone", "Z", "Marginalia"), ("Marginalia", 200, "Marginalia$Note", "nextInOrder", "LMarginalia$Note;", "Marginalia"), ("Marginalia", 204, "Marginalia$Strand", "anchor", "LMarginalia$Anchor;", "Marginalia"), ("Marginalia", 215, "Marginalia$Export", "size", "I", "Marginalia"), ("Marginalia", 220, "Marginalia$Export", "columns", "[[I", "Marginalia"), ("Marginalia", 289, "Marginalia$Anchor", "from", "I", "Marginalia"), ("Marginalia", 304, "Marginalia$Strand", "headNumber", "I", "Marginalia"), ("Marginalia$Export", 16, "Marginalia$Note", "isGone", "Z", "Marginalia"), ("Marginalia$Export", 26, "Marginalia$Note", "number", "I", "Marginalia"), ("Marginalia$Export", 29, "Marginalia$Note", "depth", "I", "Marginalia"), ("Marginalia$Export", 32, "Marginalia$Note", "strand", "LMarginalia$Strand;", "Marginalia"), ("Marginalia$Export", 36, "Marginalia$Strand", "anchor", "LMarginalia$Anchor;", "Marginalia"), ("Marginalia$Export", 42, "Marginalia$Anchor", "from", "I", "Marginalia"), ("Marginalia$Export", 51, "Marginalia$Note", "nextInOrder", "LMarginalia$Note;", "Marginalia"), ("Marginalia$Note", 45, "Marginalia$Strand", "headNumber", "I", "Marginalia"), ("Marginalia$Note", 54, "Marginalia$Strand", "anchor", "LMarginalia$Anchor;", "Marginalia"), ("Marginalia$Note", 58, "Marginalia$Anchor", "from", "I", "Marginalia"), ("Marginalia$Note", 63, "Marginalia$Anchor", "to", "I", "Marginalia"), ("Marginalia$Note", 66, "Marginalia$Strand", "isSettled", "Z", "Marginalia"), ("Marginalia$Note", 69, "Marginalia$Strand", "view", "I", "Marginalia"), ("Marginalia$Note", 72, "Marginalia$Strand", "proposedMany", "I", "Marginalia")], [("Marginalia$Text", 31, yX5_isWithin, "Marginalia")], zDe)
def md_0 : MdT := (RX0, yX0_init, cX0_init, 3, none, Cond.code yX0_init cX0_init 3 none :: zBig, [], 1, 20)
def md_1 : MdT := (RX0, yX0_lay, cX0_lay, 3, none, Cond.code yX0_lay cX0_lay 3 none :: zBig, [], 0, 0)
def md_2 : MdT := (RX0, yX0_size, cX0_size, 1, (some .int), Cond.code yX0_size cX0_size 1 (some .int) :: zBig, [], 0, 0)
def md_3 : MdT := (RX0, yX0_isLost, cX0_isLost, 1, (some .boolean), Cond.code yX0_isLost cX0_isLost 1 (some .boolean) :: zBig, [], 0, 0)
def md_4 : MdT := (RX0, yX0_covers, cX0_covers, 2, (some .boolean), Cond.code yX0_covers cX0_covers 2 (some .boolean) :: zBig, [], 0, 0)
def md_5 : MdT := (RX0, yX0_isAheadOf, cX0_isAheadOf, 2, (some .boolean), Cond.code yX0_isAheadOf cX0_isAheadOf 2 (some .boolean) :: zBig, [], 0, 0)
def md_6 : MdT := (RX0, yX0_wouldBeLost, cX0_wouldBeLost, 3, (some .boolean), Cond.code yX0_wouldBeLost cX0_wouldBeLost 3 (some .boolean) :: zBig, [], 1, 20)
def md_7 : MdT := (RX0, yX0_moveAsPut, cX0_moveAsPut, 3, none, Cond.code yX0_moveAsPut cX0_moveAsPut 3 none :: zBig, [], 0, 0)
def md_8 : MdT := (RX0, yX0_moveAsCut, cX0_moveAsCut, 3, none, Cond.code yX0_moveAsCut cX0_moveAsCut 3 none :: zBig, [], 2, 43)
def md_9 : MdT := (RX0, yX0_cutAheadOf, cX0_cutAheadOf, 3, (some .int), Cond.code yX0_cutAheadOf cX0_cutAheadOf 3 (some .int) :: zBig, [], 1, 21)
def md_10 : MdT := (RX1, yX1_init, cX1_init, 1, none, Cond.code yX1_init cX1_init 1 none :: zBig, [], 1, 20)
def md_11 : MdT := (RX1, yX1_addOrder, cX1_addOrder, 3, none, Cond.code yX1_addOrder cX1_addOrder 3 none :: zBig, [], 1, 20)
def md_12 : MdT := (RX2, yX2_init, cX2_init, 6, none, Cond.code yX2_init cX2_init 6 none :: zBig, [], 1, 20)
def md_13 : MdT := (RX2, yX2_isHead, cX2_isHead, 1, (some .boolean), Cond.code yX2_isHead cX2_isHead 1 (some .boolean) :: zBig, [], 0, 0)
def md_14 : MdT := (RX2, yX2_isHeadNotGone, cX2_isHeadNotGone, 1, (some .boolean), Cond.code yX2_isHeadNotGone cX2_isHeadNotGone 1 (some .boolean) :: zBig, [], 0, 0)
def md_15 : MdT := (RX2, yX2_contentShown, cX2_contentShown, 1, (some .int), Cond.code yX2_contentShown cX2_contentShown 1 (some .int) :: zBig, [], 0, 0)
def md_16 : MdT := (RX2, yX2_addReply, cX2_addReply, 3, none, Cond.code yX2_addReply cX2_addReply 3 none :: zBig, [], 0, 0)
def md_17 : MdT := (RX2, yX2_emptyAndDrop, cX2_emptyAndDrop, 3, (some .int), Cond.code yX2_emptyAndDrop cX2_emptyAndDrop 3 (some .int) :: zBig, [], 0, 0)
def md_18 : MdT := (RX2, yX2_fact, cX2_fact, 2, (some .int), Cond.code yX2_fact cX2_fact 2 (some .int) :: zBig, [], 1, 20)
def md_19 : MdT := (RX3, yX3_init, cX3_init, 6, none, Cond.code yX3_init cX3_init 6 none :: zBig, [], 1, 20)
def md_20 : MdT := (RX3, yX3_isSeenBy, cX3_isSeenBy, 3, (some .boolean), Cond.code yX3_isSeenBy cX3_isSeenBy 3 (some .boolean) :: zBig, [], 0, 0)
def md_21 : MdT := (RX3, yX3_isCountedAs, cX3_isCountedAs, 2, (some .boolean), Cond.code yX3_isCountedAs cX3_isCountedAs 2 (some .boolean) :: zBig, [], 1, 20)
def md_22 : MdT := (RX4, yX4_init, cX4_init, 1, none, Cond.code yX4_init cX4_init 1 none :: zBig, [], 1, 20)
def md_23 : MdT := (RX4, yX4_size, cX4_size, 1, (some .int), Cond.code yX4_size cX4_size 1 (some .int) :: zBig, [], 0, 0)
def md_24 : MdT := (RX4, yX4_hasRoomFor, cX4_hasRoomFor, 3, (some .boolean), Cond.code yX4_hasRoomFor cX4_hasRoomFor 3 (some .boolean) :: zBig, [], 1, 20)
def md_25 : MdT := (RX4, yX4_hasVersion, cX4_hasVersion, 2, (some .boolean), Cond.code yX4_hasVersion cX4_hasVersion 2 (some .boolean) :: zBig, [], 1, 22)
def md_26 : MdT := (RX4, yX4_hasSignIn, cX4_hasSignIn, 3, (some .boolean), Cond.code yX4_hasSignIn cX4_hasSignIn 3 (some .boolean) :: zBig, [], 1, 22)
def md_27 : MdT := (RX4, yX4_signIn, cX4_signIn, 3, (some .int), Cond.code yX4_signIn cX4_signIn 3 (some .int) :: zBig, [], 0, 0)
def md_28 : MdT := (RX4, yX4_placeNow, cX4_placeNow, 5, (some .int), Cond.code yX4_placeNow cX4_placeNow 5 (some .int) :: zBig, [], 1, 20)
def md_29 : MdT := (RX4, yX4_hasAt, cX4_hasAt, 4, (some .boolean), Cond.code yX4_hasAt cX4_hasAt 4 (some .boolean) :: zBig, [], 1, 22)
def md_30 : MdT := (RX4, yX4_edit, cX4_edit, 8, none, Cond.code yX4_edit cX4_edit 8 none :: zBig, [], 1, 26)
def md_31 : MdT := (RX5, yX5_init, cX5_init, 1, none, Cond.code yX5_init cX5_init 1 none :: zBig, [], 2, 40)
def md_32 : MdT := (RX5, yX5_user, cX5_user, 2, (some .int), Cond.code yX5_user cX5_user 2 (some .int) :: zBig, [], 7, 110)
def md_33 : MdT := (RX5, yX5_setRight, cX5_setRight, 5, (some .int), Cond.code yX5_setRight cX5_setRight 5 (some .int) :: zBig, [], 7, 111)
def md_34 : MdT := (RX5, yX5_insert, cX5_insert, 5, (some .int), Cond.code yX5_insert cX5_insert 5 (some .int) :: zBig, [], 7, 111)
def md_35 : MdT := (RX5, yX5_delete, cX5_delete, 4, (some .int), Cond.code yX5_delete cX5_delete 4 (some .int) :: zBig, [], 7, 111)
def md_36 : MdT := (RX5, yX5_length, cX5_length, 1, (some .int), Cond.code yX5_length cX5_length 1 (some .int) :: zBig, [], 1, 20)
def md_37 : MdT := (RX5, yX5_sign, cX5_sign, 3, (some .int), Cond.code yX5_sign cX5_sign 3 (some .int) :: zBig, [], 7, 110)
def md_38 : MdT := (RX5, yX5_now, cX5_now, 3, (some .int), Cond.code yX5_now cX5_now 3 (some .int) :: zBig, [], 7, 110)
def md_39 : MdT := (RX5, yX5_version, cX5_version, 1, (some .int), Cond.code yX5_version cX5_version 1 (some .int) :: zBig, [], 0, 0)
def md_40 : MdT := (RX5, yX5_note, cX5_note, 7, (some .int), Cond.code yX5_note cX5_note 7 (some .int) :: zBig, [], 7, 111)
def md_41 : MdT := (RX5, yX5_reply, cX5_reply, 6, (some .int), Cond.code yX5_reply cX5_reply 6 (some .int) :: zBig, [], 7, 112)
def md_42 : MdT := (RX5, yX5_settle, cX5_settle, 7, (some .boolean), Cond.code yX5_settle cX5_settle 7 (some .boolean) :: zBig, [], 7, 112)
def md_43 : MdT := (RX5, yX5_remove, cX5_remove, 4, (some .int), Cond.code yX5_remove cX5_remove 4 (some .int) :: zBig, [], 7, 112)
def md_44 : MdT := (RX5, yX5_propose, cX5_propose, 6, (some .int), Cond.code yX5_propose cX5_propose 6 (some .int) :: zBig, [], 7, 112)
def md_45 : MdT := (RX5, yX5_take, cX5_take, 4, (some .int), Cond.code yX5_take cX5_take 4 (some .int) :: zBig, [], 7, 112)
def md_46 : MdT := (RX5, yX5_heal, cX5_heal, 3, (some .int), Cond.code yX5_heal cX5_heal 3 (some .int) :: zBig, [], 4, 90)
def md_47 : MdT := (RX5, yX5_many, cX5_many, 2, (some .int), Cond.code yX5_many cX5_many 2 (some .int) :: zBig, [], 7, 110)
def md_48 : MdT := (RX5, yX5_right, cX5_right, 2, (some .int), Cond.code yX5_right cX5_right 2 (some .int) :: zBig, [], 7, 111)
def md_49 : MdT := (RX5, yX5_ofNote, cX5_ofNote, 4, (some .int), Cond.code yX5_ofNote cX5_ofNote 4 (some .int) :: zBig, [], 7, 112)
def md_50 : MdT := (RX5, yX5_quote, cX5_quote, 4, (some .int), Cond.code yX5_quote cX5_quote 4 (some .int) :: zBig, [], 7, 112)
def md_51 : MdT := (RX5, yX5_sees, cX5_sees, 3, (some .boolean), Cond.code yX5_sees cX5_sees 3 (some .boolean) :: zBig, [], 7, 112)
def md_52 : MdT := (RX5, yX5_thread, cX5_thread, 5, (some .int), Cond.code yX5_thread cX5_thread 5 (some .int) :: zBig, [], 7, 112)
def md_53 : MdT := (RX5, yX5_over, cX5_over, 6, (some .int), Cond.code yX5_over cX5_over 6 (some .int) :: zBig, [], 7, 111)
def md_54 : MdT := (RX5, yX5_export, cX5_export, 5, (some .int), Cond.code yX5_export cX5_export 5 (some .int) :: zBig, [], 7, 111)
def md_55 : MdT := (RX5, yX5_exported, cX5_exported, 3, (some .int), Cond.code yX5_exported cX5_exported 3 (some .int) :: zBig, [], 7, 110)
def md_56 : MdT := (RX5, yX5_meanThread, cX5_meanThread, 2, (some .double), Cond.code yX5_meanThread cX5_meanThread 2 (some .double) :: zBig, [], 3, 64)
def md_57 : MdT := (RX5, yX5_lostBy, cX5_lostBy, 5, (some .int), Cond.code yX5_lostBy cX5_lostBy 5 (some .int) :: zBig, [], 7, 111)
def md_58 : MdT := (RX5, yX5_wouldHeal, cX5_wouldHeal, 2, (some .int), Cond.code yX5_wouldHeal cX5_wouldHeal 2 (some .int) :: zBig, [], 7, 112)
def md_59 : MdT := (RX5, yX5_wouldSee, cX5_wouldSee, 5, (some .int), Cond.code yX5_wouldSee cX5_wouldSee 5 (some .int) :: zBig, [], 7, 111)
def md_60 : MdT := (RX5, yX5_digest, cX5_digest, 4, (some .long), Cond.code yX5_digest cX5_digest 4 (some .long) :: zBig, [], 9, 161)
def md_61 : MdT := (RX5, yX5_requireUser, cX5_requireUser, 2, none, Cond.code yX5_requireUser cX5_requireUser 2 none :: zBig, [], 6, 90)
def md_62 : MdT := (RX5, yX5_requireSign, cX5_requireSign, 2, none, Cond.code yX5_requireSign cX5_requireSign 2 none :: zBig, [], 6, 90)
def md_63 : MdT := (RX5, yX5_requireNote, cX5_requireNote, 3, (some (.object "Marginalia$Note")), Cond.code yX5_requireNote cX5_requireNote 3 (some (.object "Marginalia$Note")) :: zBig, [], 6, 90)
def md_64 : MdT := (RX5, yX5_requireIndex, cX5_requireIndex, 1, none, Cond.code yX5_requireIndex cX5_requireIndex 1 none :: zBig, [], 6, 90)
def md_65 : MdT := (RX5, yX5_requireArgument, cX5_requireArgument, 1, none, Cond.code yX5_requireArgument cX5_requireArgument 1 none :: zBig, [], 6, 90)
def md_66 : MdT := (RX5, yX5_requireState, cX5_requireState, 1, none, Cond.code yX5_requireState cX5_requireState 1 none :: zBig, [], 6, 90)
def md_67 : MdT := (RX5, yX5_isWithin, cX5_isWithin, 3, (some .boolean), Cond.code yX5_isWithin cX5_isWithin 3 (some .boolean) :: zBig, [], 0, 0)
def md_68 : MdT := (RX5, yX5_isRight, cX5_isRight, 1, (some .boolean), Cond.code yX5_isRight cX5_isRight 1 (some .boolean) :: zBig, [], 1, 22)
def md_69 : MdT := (RX5, yX5_isContent, cX5_isContent, 1, (some .boolean), Cond.code yX5_isContent cX5_isContent 1 (some .boolean) :: zBig, [], 1, 22)
def md_70 : MdT := (RX5, yX5_putSigns, cX5_putSigns, 5, none, Cond.code yX5_putSigns cX5_putSigns 5 none :: zBig, [], 2, 53)
def md_71 : MdT := (RX5, yX5_cutSigns, cX5_cutSigns, 4, none, Cond.code yX5_cutSigns cX5_cutSigns 4 none :: zBig, [], 3, 65)
def md_72 : MdT := (RX5, yX5_canTake, cX5_canTake, 3, (some .boolean), Cond.code yX5_canTake cX5_canTake 3 (some .boolean) :: zBig, [], 2, 42)
def md_73 : MdT := (RX5, yX5_putProposal, cX5_putProposal, 5, none, Cond.code yX5_putProposal cX5_putProposal 5 none :: zBig, [], 4, 88)
def md_74 : MdT := (RX5, yX5_quoteOf, cX5_quoteOf, 5, (some (.array .int)), Cond.code yX5_quoteOf cX5_quoteOf 5 (some (.array .int)) :: zBig, [], 1, 22)
def md_75 : MdT := (RX5, yX5_healAnchor, cX5_healAnchor, 3, (some .boolean), Cond.code yX5_healAnchor cX5_healAnchor 3 (some .boolean) :: zBig, [], 3, 68)
def md_76 : MdT := (RX5, yX5_placeOfQuote, cX5_placeOfQuote, 4, (some .int), Cond.code yX5_placeOfQuote cX5_placeOfQuote 4 (some .int) :: zBig, [], 2, 45)
def md_77 : MdT := (RX5, yX5_keepNote, cX5_keepNote, 2, (some .int), Cond.code yX5_keepNote cX5_keepNote 2 (some .int) :: zBig, [], 0, 0)
def md_78 : MdT := (RX5, yX5_headOf, cX5_headOf, 2, (some (.object "Marginalia$Note")), Cond.code yX5_headOf cX5_headOf 2 (some (.object "Marginalia$Note")) :: zBig, [], 0, 0)
def md_79 : MdT := (RX5, yX5_isSeen, cX5_isSeen, 3, (some .boolean), Cond.code yX5_isSeen cX5_isSeen 3 (some .boolean) :: zBig, [], 1, 22)
def md_80 : MdT := (RX5, yX5_countNotes, cX5_countNotes, 3, (some .int), Cond.code yX5_countNotes cX5_countNotes 3 (some .int) :: zBig, [], 0, 0)
def md_81 : MdT := (RX5, yX5_countStrands, cX5_countStrands, 4, (some .int), Cond.code yX5_countStrands cX5_countStrands 4 (some .int) :: zBig, [], 2, 41)
def md_82 : MdT := (RX5, yX5_chooseHeads, cX5_chooseHeads, 6, (some .int), Cond.code yX5_chooseHeads cX5_chooseHeads 6 (some .int) :: zBig, [], 2, 44)
def md_83 : MdT := (RX5, yX5_putAmongChosen, cX5_putAmongChosen, 4, none, Cond.code yX5_putAmongChosen cX5_putAmongChosen 4 none :: zBig, [], 1, 21)
def md_84 : MdT := (RX5, yX5_mix, cX5_mix, 4, (some .long), Cond.code yX5_mix cX5_mix 4 (some .long) :: zBig, [], 0, 0)
def md_85 : MdT := (RX5, yX5_digestText, cX5_digestText, 6, (some .long), Cond.code yX5_digestText cX5_digestText 6 (some .long) :: zBig, [], 8, 131)
def md_86 : MdT := (RX5, yX5_digestUser, cX5_digestUser, 6, (some .long), Cond.code yX5_digestUser cX5_digestUser 6 (some .long) :: zBig, [], 8, 136)
def md_87 : MdT := (RX5, yX5_digestNote, cX5_digestNote, 7, (some .long), Cond.code yX5_digestNote cX5_digestNote 7 (some .long) :: zBig, [], 8, 135)
def md_88 : MdT := (RX5, yX5_digestExport, cX5_digestExport, 7, (some .long), Cond.code yX5_digestExport cX5_digestExport 7 (some .long) :: zBig, [], 1, 23)
def md_89 : MdT := (RX6, yX6_init, cX6_init, 1, none, Cond.code yX6_init cX6_init 1 none :: zBig, [], 1, 20)
def md_90 : MdT := (RX6, yX6_thrown, cX6_thrown, 1, (some .int), Cond.code yX6_thrown cX6_thrown 1 (some .int) :: zBig, [], 0, 0)
def md_91 : MdT := (RX6, yX6_no, cX6_no, 2, (some .int), Cond.code yX6_no cX6_no 2 (some .int) :: zBig, [], 0, 0)
def md_92 : MdT := (RX6, yX6_isNot, cX6_isNot, 2, (some .boolean), Cond.code yX6_isNot cX6_isNot 2 (some .boolean) :: zBig, [], 0, 0)
def md_93 : MdT := (RX6, yX6_ok, cX6_ok, 2, (some .int), Cond.code yX6_ok cX6_ok 2 (some .int) :: zBig, [], 0, 0)
def md_94 : MdT := (RX6, yX6_isIn, cX6_isIn, 3, (some .boolean), Cond.code yX6_isIn cX6_isIn 3 (some .boolean) :: zBig, [], 0, 0)
def md_95 : MdT := (RX6, yX6_isUser, cX6_isUser, 2, (some .boolean), Cond.code yX6_isUser cX6_isUser 2 (some .boolean) :: zBig, [], 1, 22)
def md_96 : MdT := (RX6, yX6_isNote, cX6_isNote, 2, (some .boolean), Cond.code yX6_isNote cX6_isNote 2 (some .boolean) :: zBig, [], 1, 22)
def md_97 : MdT := (RX6, yX6_text, cX6_text, 1, (some (.array .int)), Cond.code yX6_text cX6_text 1 (some (.array .int)) :: zBig, [], 0, 0)
def md_98 : MdT := (RX6, yX6_user, cX6_user, 2, (some .int), Cond.code yX6_user cX6_user 2 (some .int) :: zBig, [], 1, 22)
def md_99 : MdT := (RX6, yX6_setRight, cX6_setRight, 5, (some .int), Cond.code yX6_setRight cX6_setRight 5 (some .int) :: zBig, [], 2, 43)
def md_100 : MdT := (RX6, yX6_put, cX6_put, 7, none, Cond.code yX6_put cX6_put 7 none :: zBig, [], 1, 26)
def md_101 : MdT := (RX6, yX6_cut, cX6_cut, 6, none, Cond.code yX6_cut cX6_cut 6 none :: zBig, [], 1, 26)
def md_102 : MdT := (RX6, yX6_insert, cX6_insert, 5, (some .int), Cond.code yX6_insert cX6_insert 5 (some .int) :: zBig, [], 2, 52)
def md_103 : MdT := (RX6, yX6_delete, cX6_delete, 4, (some .int), Cond.code yX6_delete cX6_delete 4 (some .int) :: zBig, [], 2, 51)
def md_104 : MdT := (RX6, yX6_length, cX6_length, 1, (some .int), Cond.code yX6_length cX6_length 1 (some .int) :: zBig, [], 1, 21)
def md_105 : MdT := (RX6, yX6_sign, cX6_sign, 3, (some .int), Cond.code yX6_sign cX6_sign 3 (some .int) :: zBig, [], 1, 22)
def md_106 : MdT := (RX6, yX6_now, cX6_now, 4, (some .int), Cond.code yX6_now cX6_now 4 (some .int) :: zBig, [], 1, 22)
def md_107 : MdT := (RX6, yX6_version, cX6_version, 1, (some .int), Cond.code yX6_version cX6_version 1 (some .int) :: zBig, [], 1, 21)
def md_108 : MdT := (RX6, yX6_seesBy, cX6_seesBy, 4, (some .boolean), Cond.code yX6_seesBy cX6_seesBy 4 (some .boolean) :: zBig, [], 0, 0)
def md_109 : MdT := (RX6, yX6_seesNow, cX6_seesNow, 3, (some .boolean), Cond.code yX6_seesNow cX6_seesNow 3 (some .boolean) :: zBig, [], 1, 23)
def md_110 : MdT := (RX6, yX6_may, cX6_may, 4, (some .boolean), Cond.code yX6_may cX6_may 4 (some .boolean) :: zBig, [], 2, 45)
def md_111 : MdT := (RX6, yX6_add, cX6_add, 4, (some .int), Cond.code yX6_add cX6_add 4 (some .int) :: zBig, [], 0, 0)
def md_112 : MdT := (RX6, yX6_note, cX6_note, 7, (some .int), Cond.code yX6_note cX6_note 7 (some .int) :: zBig, [], 2, 43)
def md_113 : MdT := (RX6, yX6_reply, cX6_reply, 4, (some .int), Cond.code yX6_reply cX6_reply 4 (some .int) :: zBig, [], 3, 68)
def md_114 : MdT := (RX6, yX6_settle, cX6_settle, 5, (some .boolean), Cond.code yX6_settle cX6_settle 5 (some .boolean) :: zBig, [], 3, 68)
def md_115 : MdT := (RX6, yX6_replies, cX6_replies, 4, (some .int), Cond.code yX6_replies cX6_replies 4 (some .int) :: zBig, [], 0, 0)
def md_116 : MdT := (RX6, yX6_remove, cX6_remove, 5, (some .int), Cond.code yX6_remove cX6_remove 5 (some .int) :: zBig, [], 3, 68)
def md_117 : MdT := (RX6, yX6_propose, cX6_propose, 5, (some .int), Cond.code yX6_propose cX6_propose 5 (some .int) :: zBig, [], 3, 68)
def md_118 : MdT := (RX6, yX6_take, cX6_take, 6, (some .int), Cond.code yX6_take cX6_take 6 (some .int) :: zBig, [], 3, 68)
def md_119 : MdT := (RX6, yX6_found, cX6_found, 6, (some .int), Cond.code yX6_found cX6_found 6 (some .int) :: zBig, [], 1, 21)
def md_120 : MdT := (RX6, yX6_isHead, cX6_isHead, 2, (some .boolean), Cond.code yX6_isHead cX6_isHead 2 (some .boolean) :: zBig, [], 0, 0)
def md_121 : MdT := (RX6, yX6_isLost, cX6_isLost, 2, (some .boolean), Cond.code yX6_isLost cX6_isLost 2 (some .boolean) :: zBig, [], 0, 0)
def md_122 : MdT := (RX6, yX6_heal, cX6_heal, 3, (some .int), Cond.code yX6_heal cX6_heal 3 (some .int) :: zBig, [], 2, 46)
def md_123 : MdT := (RX6, yX6_manyNow, cX6_manyNow, 5, (some .int), Cond.code yX6_manyNow cX6_manyNow 5 (some .int) :: zBig, [], 1, 21)
def md_124 : MdT := (RX6, yX6_many, cX6_many, 2, (some .int), Cond.code yX6_many cX6_many 2 (some .int) :: zBig, [], 2, 45)
def md_125 : MdT := (RX6, yX6_right, cX6_right, 2, (some .int), Cond.code yX6_right cX6_right 2 (some .int) :: zBig, [], 2, 43)
def md_126 : MdT := (RX6, yX6_depth, cX6_depth, 4, (some .int), Cond.code yX6_depth cX6_depth 4 (some .int) :: zBig, [], 0, 0)
def md_127 : MdT := (RX6, yX6_contentOf, cX6_contentOf, 2, (some .int), Cond.code yX6_contentOf cX6_contentOf 2 (some .int) :: zBig, [], 0, 0)
def md_128 : MdT := (RX6, yX6_ofNow, cX6_ofNow, 4, (some .int), Cond.code yX6_ofNow cX6_ofNow 4 (some .int) :: zBig, [], 1, 23)
def md_129 : MdT := (RX6, yX6_ofNote, cX6_ofNote, 3, (some .int), Cond.code yX6_ofNote cX6_ofNote 3 (some .int) :: zBig, [], 2, 46)
def md_130 : MdT := (RX6, yX6_quote, cX6_quote, 4, (some .int), Cond.code yX6_quote cX6_quote 4 (some .int) :: zBig, [], 2, 43)
def md_131 : MdT := (RX6, yX6_sees, cX6_sees, 3, (some .boolean), Cond.code yX6_sees cX6_sees 3 (some .boolean) :: zBig, [], 2, 45)
def md_132 : MdT := (RX6, yX6_tellOrder, cX6_tellOrder, 3, none, Cond.code yX6_tellOrder cX6_tellOrder 3 none :: zBig, [], 2, 46)
def md_133 : MdT := (RX6, yX6_behind, cX6_behind, 4, (some .int), Cond.code yX6_behind cX6_behind 4 (some .int) :: zBig, [], 1, 23)
def md_134 : MdT := (RX6, yX6_reply_, cX6_reply_, 4, (some .int), Cond.code yX6_reply_ cX6_reply_ 4 (some .int) :: zBig, [], 0, 0)
def md_135 : MdT := (RX6, yX6_thread, cX6_thread, 3, (some .int), Cond.code yX6_thread cX6_thread 3 (some .int) :: zBig, [], 3, 68)
def md_136 : MdT := (RX6, yX6_overNow, cX6_overNow, 5, (some .int), Cond.code yX6_overNow cX6_overNow 5 (some .int) :: zBig, [], 2, 45)
def md_137 : MdT := (RX6, yX6_over, cX6_over, 3, (some .int), Cond.code yX6_over cX6_over 3 (some .int) :: zBig, [], 3, 69)
def md_138 : MdT := (RX6, yX6_isAhead, cX6_isAhead, 3, (some .boolean), Cond.code yX6_isAhead cX6_isAhead 3 (some .boolean) :: zBig, [], 0, 0)
def md_139 : MdT := (RX6, yX6_export, cX6_export, 10, (some .int), Cond.code yX6_export cX6_export 10 (some .int) :: zBig, [], 3, 68)
def md_140 : MdT := (RX6, yX6_exported, cX6_exported, 3, (some .int), Cond.code yX6_exported cX6_exported 3 (some .int) :: zBig, [], 1, 22)
def md_141 : MdT := (RX6, yX6_meanThread, cX6_meanThread, 1, (some .double), Cond.code yX6_meanThread cX6_meanThread 1 (some .double) :: zBig, [], 2, 45)
def md_142 : MdT := (RX6, yX6_lostBy, cX6_lostBy, 5, (some .int), Cond.code yX6_lostBy cX6_lostBy 5 (some .int) :: zBig, [], 1, 22)
def md_143 : MdT := (RX6, yX6_wouldHeal, cX6_wouldHeal, 2, (some .int), Cond.code yX6_wouldHeal cX6_wouldHeal 2 (some .int) :: zBig, [], 2, 46)
def md_144 : MdT := (RX6, yX6_seen, cX6_seen, 5, (some .int), Cond.code yX6_seen cX6_seen 5 (some .int) :: zBig, [], 1, 23)
def md_145 : MdT := (RX6, yX6_wouldSee, cX6_wouldSee, 3, (some .int), Cond.code yX6_wouldSee cX6_wouldSee 3 (some .int) :: zBig, [], 2, 47)
def md_146 : MdT := (RX6, yX6_digest, cX6_digest, 7, (some .long), Cond.code yX6_digest cX6_digest 7 (some .long) :: zBig, [], 3, 69)
def md_147 : MdT := (RL, yL_user, cL_user, 4, (some .int), Cond.codeWith yL_user cL_user 4 (some .int) [(0, 9, 12, 13), (0, 9, 15, 15)] :: zBig, [(0, 9, 12, 13), (0, 9, 15, 15)], 8, 131)
def md_148 : MdT := (RL, yL_setRight, cL_setRight, 6, (some .int), Cond.codeWith yL_setRight cL_setRight 6 (some .int) [(0, 12, 15, 21), (0, 12, 19, 13), (0, 12, 23, 15)] :: zBig, [(0, 12, 15, 21), (0, 12, 19, 13), (0, 12, 23, 15)], 8, 135)
def md_149 : MdT := (RL, yL_insert, cL_insert, 7, (some .int), Cond.codeWith yL_insert cL_insert 7 (some .int) [(0, 14, 17, 21), (0, 14, 21, 13), (0, 14, 25, 15)] :: zBig, [(0, 14, 17, 21), (0, 14, 21, 13), (0, 14, 25, 15)], 8, 135)
def md_150 : MdT := (RL, yL_delete, cL_delete, 6, (some .int), Cond.codeWith yL_delete cL_delete 6 (some .int) [(0, 12, 15, 21), (0, 12, 19, 13), (0, 12, 23, 15)] :: zBig, [(0, 12, 15, 21), (0, 12, 19, 13), (0, 12, 23, 15)], 8, 134)
def md_151 : MdT := (RL, yL_sign, cL_sign, 5, (some .int), Cond.codeWith yL_sign cL_sign 5 (some .int) [(0, 10, 13, 21)] :: zBig, [(0, 10, 13, 21)], 8, 132)
def md_152 : MdT := (RL, yL_now, cL_now, 5, (some .int), Cond.codeWith yL_now cL_now 5 (some .int) [(0, 10, 13, 21)] :: zBig, [(0, 10, 13, 21)], 8, 132)
def md_153 : MdT := (RL, yL_note, cL_note, 8, (some .int), Cond.codeWith yL_note cL_note 8 (some .int) [(0, 16, 19, 21), (0, 16, 23, 13), (0, 16, 27, 15)] :: zBig, [(0, 16, 19, 21), (0, 16, 23, 13), (0, 16, 27, 15)], 8, 137)
def md_154 : MdT := (RL, yL_reply, cL_reply, 6, (some .int), Cond.codeWith yL_reply cL_reply 6 (some .int) [(0, 12, 15, 21), (0, 12, 19, 13), (0, 12, 23, 15)] :: zBig, [(0, 12, 15, 21), (0, 12, 19, 13), (0, 12, 23, 15)], 8, 137)
def md_155 : MdT := (RL, yL_settle, cL_settle, 6, (some .int), Cond.codeWith yL_settle cL_settle 6 (some .int) [(0, 19, 22, 21), (0, 19, 26, 15)] :: zBig, [(0, 19, 22, 21), (0, 19, 26, 15)], 8, 138)
def md_156 : MdT := (RL, yL_remove, cL_remove, 5, (some .int), Cond.codeWith yL_remove cL_remove 5 (some .int) [(0, 10, 13, 21), (0, 10, 17, 15)] :: zBig, [(0, 10, 13, 21), (0, 10, 17, 15)], 8, 135)
def md_157 : MdT := (RL, yL_propose, cL_propose, 7, (some .int), Cond.codeWith yL_propose cL_propose 7 (some .int) [(0, 14, 17, 21), (0, 14, 21, 13), (0, 14, 25, 15)] :: zBig, [(0, 14, 17, 21), (0, 14, 21, 13), (0, 14, 25, 15)], 8, 137)
def md_158 : MdT := (RL, yL_take, cL_take, 5, (some .int), Cond.codeWith yL_take cL_take 5 (some .int) [(0, 10, 13, 21), (0, 10, 17, 13), (0, 10, 21, 15)] :: zBig, [(0, 10, 13, 21), (0, 10, 17, 13), (0, 10, 21, 15)], 8, 135)
def md_159 : MdT := (RL, yL_many, cL_many, 4, (some .int), Cond.codeWith yL_many cL_many 4 (some .int) [(0, 9, 12, 13)] :: zBig, [(0, 9, 12, 13)], 8, 131)
def md_160 : MdT := (RL, yL_right, cL_right, 4, (some .int), Cond.codeWith yL_right cL_right 4 (some .int) [(0, 9, 12, 21)] :: zBig, [(0, 9, 12, 21)], 8, 132)
def md_161 : MdT := (RL, yL_ofNote, cL_ofNote, 5, (some .int), Cond.codeWith yL_ofNote cL_ofNote 5 (some .int) [(0, 10, 13, 21), (0, 10, 17, 13)] :: zBig, [(0, 10, 13, 21), (0, 10, 17, 13)], 8, 135)
def md_162 : MdT := (RL, yL_quote, cL_quote, 5, (some .int), Cond.codeWith yL_quote cL_quote 5 (some .int) [(0, 10, 13, 21)] :: zBig, [(0, 10, 13, 21)], 8, 135)
def md_163 : MdT := (RL, yL_sees, cL_sees, 5, (some .int), Cond.codeWith yL_sees cL_sees 5 (some .int) [(0, 17, 20, 21)] :: zBig, [(0, 17, 20, 21)], 8, 134)
def md_164 : MdT := (RL, yL_thread, cL_thread, 5, (some .int), Cond.codeWith yL_thread cL_thread 5 (some .int) [(0, 10, 13, 21)] :: zBig, [(0, 10, 13, 21)], 8, 136)
def md_165 : MdT := (RL, yL_over, cL_over, 5, (some .int), Cond.codeWith yL_over cL_over 5 (some .int) [(0, 10, 13, 21)] :: zBig, [(0, 10, 13, 21)], 8, 136)
def md_166 : MdT := (RL, yL_export, cL_export, 5, (some .int), Cond.codeWith yL_export cL_export 5 (some .int) [(0, 10, 13, 21)] :: zBig, [(0, 10, 13, 21)], 8, 135)
def md_167 : MdT := (RL, yL_exported, cL_exported, 5, (some .int), Cond.codeWith yL_exported cL_exported 5 (some .int) [(0, 10, 13, 21), (0, 10, 17, 13)] :: zBig, [(0, 10, 13, 21), (0, 10, 17, 13)], 8, 132)
def md_168 : MdT := (RL, yL_lostBy, cL_lostBy, 5, (some .int), Cond.codeWith yL_lostBy cL_lostBy 5 (some .int) [(0, 10, 13, 21), (0, 10, 17, 13)] :: zBig, [(0, 10, 13, 21), (0, 10, 17, 13)], 8, 135)
def md_169 : MdT := (RL, yL_wouldHeal, cL_wouldHeal, 4, (some .int), Cond.codeWith yL_wouldHeal cL_wouldHeal 4 (some .int) [(0, 9, 12, 21)] :: zBig, [(0, 9, 12, 21)], 8, 133)
def md_170 : MdT := (RL, yL_wouldSee, cL_wouldSee, 5, (some .int), Cond.codeWith yL_wouldSee cL_wouldSee 5 (some .int) [(0, 10, 13, 21), (0, 10, 17, 13)] :: zBig, [(0, 10, 13, 21), (0, 10, 17, 13)], 8, 135)
def md_171 : MdT := (RL, x, code, 9, (some .boolean), Cond.code x code 9 (some .boolean) :: zBig, [], 12, 438)
def mdl_0 : List MdT := [md_0, md_1, md_2, md_3, md_4, md_5, md_6, md_7, md_8, md_9, md_10, md_11, md_12, md_13, md_14, md_15, md_16, md_17, md_18, md_19, md_20, md_21, md_22, md_23, md_24]
def mdl_1 : List MdT := [md_25, md_26, md_27, md_28, md_29, md_30, md_31, md_32, md_33, md_34, md_35, md_36, md_37, md_38, md_39, md_40, md_41, md_42, md_43, md_44, md_45, md_46, md_47, md_48, md_49]
def mdl_2 : List MdT := [md_50, md_51, md_52, md_53, md_54, md_55, md_56, md_57, md_58, md_59, md_60, md_61, md_62, md_63, md_64, md_65, md_66, md_67, md_68, md_69, md_70, md_71, md_72, md_73, md_74]
def mdl_3 : List MdT := [md_75, md_76, md_77, md_78, md_79, md_80, md_81, md_82, md_83, md_84, md_85, md_86, md_87, md_88, md_89, md_90, md_91, md_92, md_93, md_94, md_95, md_96, md_97, md_98, md_99]
def mdl_4 : List MdT := [md_100, md_101, md_102, md_103, md_104, md_105, md_106, md_107, md_108, md_109, md_110, md_111, md_112, md_113, md_114, md_115, md_116, md_117, md_118, md_119, md_120, md_121, md_122, md_123, md_124]
def mdl_5 : List MdT := [md_125, md_126, md_127, md_128, md_129, md_130, md_131, md_132, md_133, md_134, md_135, md_136, md_137, md_138, md_139, md_140, md_141, md_142, md_143, md_144, md_145, md_146, md_147, md_148, md_149]
def mdl_6 : List MdT := [md_150, md_151, md_152, md_153, md_154, md_155, md_156, md_157, md_158, md_159, md_160, md_161, md_162, md_163, md_164, md_165, md_166, md_167, md_168, md_169, md_170, md_171]
def MdP (m : Nat) : MdT := ([mdl_0, mdl_1, mdl_2, mdl_3, mdl_4, mdl_5, mdl_6][m / 25]?.getD [])[m % 25]?.getD md_0
theorem hws_0 : mWs (MdP 0) = Cond.code (mNam (MdP 0)) (mCod (MdP 0)) (mMax (MdP 0)) (mRet (MdP 0)) :: zBig := rfl
theorem iw_0 : ∀ w ∈ zBig, w ∈ mWs (MdP 0) := fun w h => List.mem_cons_of_mem _ h
theorem hws_1 : mWs (MdP 1) = Cond.code (mNam (MdP 1)) (mCod (MdP 1)) (mMax (MdP 1)) (mRet (MdP 1)) :: zBig := rfl
theorem iw_1 : ∀ w ∈ zBig, w ∈ mWs (MdP 1) := fun w h => List.mem_cons_of_mem _ h
theorem hws_2 : mWs (MdP 2) = Cond.code (mNam (MdP 2)) (mCod (MdP 2)) (mMax (MdP 2)) (mRet (MdP 2)) :: zBig := rfl
theorem iw_2 : ∀ w ∈ zBig, w ∈ mWs (MdP 2) := fun w h => List.mem_cons_of_mem _ h
theorem hws_3 : mWs (MdP 3) = Cond.code (mNam (MdP 3)) (mCod (MdP 3)) (mMax (MdP 3)) (mRet (MdP 3)) :: zBig := rfl
theorem iw_3 : ∀ w ∈ zBig, w ∈ mWs (MdP 3) := fun w h => List.mem_cons_of_mem _ h
theorem hws_4 : mWs (MdP 4) = Cond.code (mNam (MdP 4)) (mCod (MdP 4)) (mMax (MdP 4)) (mRet (MdP 4)) :: zBig := rfl
theorem iw_4 : ∀ w ∈ zBig, w ∈ mWs (MdP 4) := fun w h => List.mem_cons_of_mem _ h
theorem hws_5 : mWs (MdP 5) = Cond.code (mNam (MdP 5)) (mCod (MdP 5)) (mMax (MdP 5)) (mRet (MdP 5)) :: zBig := rfl
theorem iw_5 : ∀ w ∈ zBig, w ∈ mWs (MdP 5) := fun w h => List.mem_cons_of_mem _ h
theorem hws_6 : mWs (MdP 6) = Cond.code (mNam (MdP 6)) (mCod (MdP 6)) (mMax (MdP 6)) (mRet (MdP 6)) :: zBig := rfl
theorem iw_6 : ∀ w ∈ zBig, w ∈ mWs (MdP 6) := fun w h => List.mem_cons_of_mem _ h
theorem hws_7 : mWs (MdP 7) = Cond.code (mNam (MdP 7)) (mCod (MdP 7)) (mMax (MdP 7)) (mRet (MdP 7)) :: zBig := rfl
theorem iw_7 : ∀ w ∈ zBig, w ∈ mWs (MdP 7) := fun w h => List.mem_cons_of_mem _ h
theorem hws_8 : mWs (MdP 8) = Cond.code (mNam (MdP 8)) (mCod (MdP 8)) (mMax (MdP 8)) (mRet (MdP 8)) :: zBig := rfl
theorem iw_8 : ∀ w ∈ zBig, w ∈ mWs (MdP 8) := fun w h => List.mem_cons_of_mem _ h
theorem hws_9 : mWs (MdP 9) = Cond.code (mNam (MdP 9)) (mCod (MdP 9)) (mMax (MdP 9)) (mRet (MdP 9)) :: zBig := rfl
theorem iw_9 : ∀ w ∈ zBig, w ∈ mWs (MdP 9) := fun w h => List.mem_cons_of_mem _ h
theorem hws_10 : mWs (MdP 10) = Cond.code (mNam (MdP 10)) (mCod (MdP 10)) (mMax (MdP 10)) (mRet (MdP 10)) :: zBig := rfl
theorem iw_10 : ∀ w ∈ zBig, w ∈ mWs (MdP 10) := fun w h => List.mem_cons_of_mem _ h
theorem hws_11 : mWs (MdP 11) = Cond.code (mNam (MdP 11)) (mCod (MdP 11)) (mMax (MdP 11)) (mRet (MdP 11)) :: zBig := rfl
theorem iw_11 : ∀ w ∈ zBig, w ∈ mWs (MdP 11) := fun w h => List.mem_cons_of_mem _ h
theorem hws_12 : mWs (MdP 12) = Cond.code (mNam (MdP 12)) (mCod (MdP 12)) (mMax (MdP 12)) (mRet (MdP 12)) :: zBig := rfl
theorem iw_12 : ∀ w ∈ zBig, w ∈ mWs (MdP 12) := fun w h => List.mem_cons_of_mem _ h
theorem hws_13 : mWs (MdP 13) = Cond.code (mNam (MdP 13)) (mCod (MdP 13)) (mMax (MdP 13)) (mRet (MdP 13)) :: zBig := rfl
theorem iw_13 : ∀ w ∈ zBig, w ∈ mWs (MdP 13) := fun w h => List.mem_cons_of_mem _ h
theorem hws_14 : mWs (MdP 14) = Cond.code (mNam (MdP 14)) (mCod (MdP 14)) (mMax (MdP 14)) (mRet (MdP 14)) :: zBig := rfl
theorem iw_14 : ∀ w ∈ zBig, w ∈ mWs (MdP 14) := fun w h => List.mem_cons_of_mem _ h
theorem hws_15 : mWs (MdP 15) = Cond.code (mNam (MdP 15)) (mCod (MdP 15)) (mMax (MdP 15)) (mRet (MdP 15)) :: zBig := rfl
theorem iw_15 : ∀ w ∈ zBig, w ∈ mWs (MdP 15) := fun w h => List.mem_cons_of_mem _ h
theorem hws_16 : mWs (MdP 16) = Cond.code (mNam (MdP 16)) (mCod (MdP 16)) (mMax (MdP 16)) (mRet (MdP 16)) :: zBig := rfl
theorem iw_16 : ∀ w ∈ zBig, w ∈ mWs (MdP 16) := fun w h => List.mem_cons_of_mem _ h
theorem hws_17 : mWs (MdP 17) = Cond.code (mNam (MdP 17)) (mCod (MdP 17)) (mMax (MdP 17)) (mRet (MdP 17)) :: zBig := rfl
theorem iw_17 : ∀ w ∈ zBig, w ∈ mWs (MdP 17) := fun w h => List.mem_cons_of_mem _ h
theorem hws_18 : mWs (MdP 18) = Cond.code (mNam (MdP 18)) (mCod (MdP 18)) (mMax (MdP 18)) (mRet (MdP 18)) :: zBig := rfl
theorem iw_18 : ∀ w ∈ zBig, w ∈ mWs (MdP 18) := fun w h => List.mem_cons_of_mem _ h
theorem hws_19 : mWs (MdP 19) = Cond.code (mNam (MdP 19)) (mCod (MdP 19)) (mMax (MdP 19)) (mRet (MdP 19)) :: zBig := rfl
theorem iw_19 : ∀ w ∈ zBig, w ∈ mWs (MdP 19) := fun w h => List.mem_cons_of_mem _ h
theorem hws_20 : mWs (MdP 20) = Cond.code (mNam (MdP 20)) (mCod (MdP 20)) (mMax (MdP 20)) (mRet (MdP 20)) :: zBig := rfl
theorem iw_20 : ∀ w ∈ zBig, w ∈ mWs (MdP 20) := fun w h => List.mem_cons_of_mem _ h
theorem hws_21 : mWs (MdP 21) = Cond.code (mNam (MdP 21)) (mCod (MdP 21)) (mMax (MdP 21)) (mRet (MdP 21)) :: zBig := rfl
theorem iw_21 : ∀ w ∈ zBig, w ∈ mWs (MdP 21) := fun w h => List.mem_cons_of_mem _ h
theorem hws_22 : mWs (MdP 22) = Cond.code (mNam (MdP 22)) (mCod (MdP 22)) (mMax (MdP 22)) (mRet (MdP 22)) :: zBig := rfl
theorem iw_22 : ∀ w ∈ zBig, w ∈ mWs (MdP 22) := fun w h => List.mem_cons_of_mem _ h
theorem hws_23 : mWs (MdP 23) = Cond.code (mNam (MdP 23)) (mCod (MdP 23)) (mMax (MdP 23)) (mRet (MdP 23)) :: zBig := rfl
theorem iw_23 : ∀ w ∈ zBig, w ∈ mWs (MdP 23) := fun w h => List.mem_cons_of_mem _ h
theorem hws_24 : mWs (MdP 24) = Cond.code (mNam (MdP 24)) (mCod (MdP 24)) (mMax (MdP 24)) (mRet (MdP 24)) :: zBig := rfl
theorem iw_24 : ∀ w ∈ zBig, w ∈ mWs (MdP 24) := fun w h => List.mem_cons_of_mem _ h
theorem hws_25 : mWs (MdP 25) = Cond.code (mNam (MdP 25)) (mCod (MdP 25)) (mMax (MdP 25)) (mRet (MdP 25)) :: zBig := rfl
theorem iw_25 : ∀ w ∈ zBig, w ∈ mWs (MdP 25) := fun w h => List.mem_cons_of_mem _ h
theorem hws_26 : mWs (MdP 26) = Cond.code (mNam (MdP 26)) (mCod (MdP 26)) (mMax (MdP 26)) (mRet (MdP 26)) :: zBig := rfl
theorem iw_26 : ∀ w ∈ zBig, w ∈ mWs (MdP 26) := fun w h => List.mem_cons_of_mem _ h
theorem hws_27 : mWs (MdP 27) = Cond.code (mNam (MdP 27)) (mCod (MdP 27)) (mMax (MdP 27)) (mRet (MdP 27)) :: zBig := rfl
theorem iw_27 : ∀ w ∈ zBig, w ∈ mWs (MdP 27) := fun w h => List.mem_cons_of_mem _ h
theorem hws_28 : mWs (MdP 28) = Cond.code (mNam (MdP 28)) (mCod (MdP 28)) (mMax (MdP 28)) (mRet (MdP 28)) :: zBig := rfl
theorem iw_28 : ∀ w ∈ zBig, w ∈ mWs (MdP 28) := fun w h => List.mem_cons_of_mem _ h
theorem hws_29 : mWs (MdP 29) = Cond.code (mNam (MdP 29)) (mCod (MdP 29)) (mMax (MdP 29)) (mRet (MdP 29)) :: zBig := rfl
theorem iw_29 : ∀ w ∈ zBig, w ∈ mWs (MdP 29) := fun w h => List.mem_cons_of_mem _ h
theorem hws_30 : mWs (MdP 30) = Cond.code (mNam (MdP 30)) (mCod (MdP 30)) (mMax (MdP 30)) (mRet (MdP 30)) :: zBig := rfl
theorem iw_30 : ∀ w ∈ zBig, w ∈ mWs (MdP 30) := fun w h => List.mem_cons_of_mem _ h
theorem hws_31 : mWs (MdP 31) = Cond.code (mNam (MdP 31)) (mCod (MdP 31)) (mMax (MdP 31)) (mRet (MdP 31)) :: zBig := rfl
theorem iw_31 : ∀ w ∈ zBig, w ∈ mWs (MdP 31) := fun w h => List.mem_cons_of_mem _ h
theorem hws_32 : mWs (MdP 32) = Cond.code (mNam (MdP 32)) (mCod (MdP 32)) (mMax (MdP 32)) (mRet (MdP 32)) :: zBig := rfl
theorem iw_32 : ∀ w ∈ zBig, w ∈ mWs (MdP 32) := fun w h => List.mem_cons_of_mem _ h
theorem hws_33 : mWs (MdP 33) = Cond.code (mNam (MdP 33)) (mCod (MdP 33)) (mMax (MdP 33)) (mRet (MdP 33)) :: zBig := rfl
theorem iw_33 : ∀ w ∈ zBig, w ∈ mWs (MdP 33) := fun w h => List.mem_cons_of_mem _ h
theorem hws_34 : mWs (MdP 34) = Cond.code (mNam (MdP 34)) (mCod (MdP 34)) (mMax (MdP 34)) (mRet (MdP 34)) :: zBig := rfl
theorem iw_34 : ∀ w ∈ zBig, w ∈ mWs (MdP 34) := fun w h => List.mem_cons_of_mem _ h
theorem hws_35 : mWs (MdP 35) = Cond.code (mNam (MdP 35)) (mCod (MdP 35)) (mMax (MdP 35)) (mRet (MdP 35)) :: zBig := rfl
theorem iw_35 : ∀ w ∈ zBig, w ∈ mWs (MdP 35) := fun w h => List.mem_cons_of_mem _ h
theorem hws_36 : mWs (MdP 36) = Cond.code (mNam (MdP 36)) (mCod (MdP 36)) (mMax (MdP 36)) (mRet (MdP 36)) :: zBig := rfl
theorem iw_36 : ∀ w ∈ zBig, w ∈ mWs (MdP 36) := fun w h => List.mem_cons_of_mem _ h
theorem hws_37 : mWs (MdP 37) = Cond.code (mNam (MdP 37)) (mCod (MdP 37)) (mMax (MdP 37)) (mRet (MdP 37)) :: zBig := rfl
theorem iw_37 : ∀ w ∈ zBig, w ∈ mWs (MdP 37) := fun w h => List.mem_cons_of_mem _ h
theorem hws_38 : mWs (MdP 38) = Cond.code (mNam (MdP 38)) (mCod (MdP 38)) (mMax (MdP 38)) (mRet (MdP 38)) :: zBig := rfl
theorem iw_38 : ∀ w ∈ zBig, w ∈ mWs (MdP 38) := fun w h => List.mem_cons_of_mem _ h
theorem hws_39 : mWs (MdP 39) = Cond.code (mNam (MdP 39)) (mCod (MdP 39)) (mMax (MdP 39)) (mRet (MdP 39)) :: zBig := rfl
theorem iw_39 : ∀ w ∈ zBig, w ∈ mWs (MdP 39) := fun w h => List.mem_cons_of_mem _ h
theorem hws_40 : mWs (MdP 40) = Cond.code (mNam (MdP 40)) (mCod (MdP 40)) (mMax (MdP 40)) (mRet (MdP 40)) :: zBig := rfl
theorem iw_40 : ∀ w ∈ zBig, w ∈ mWs (MdP 40) := fun w h => List.mem_cons_of_mem _ h
theorem hws_41 : mWs (MdP 41) = Cond.code (mNam (MdP 41)) (mCod (MdP 41)) (mMax (MdP 41)) (mRet (MdP 41)) :: zBig := rfl
theorem iw_41 : ∀ w ∈ zBig, w ∈ mWs (MdP 41) := fun w h => List.mem_cons_of_mem _ h
theorem hws_42 : mWs (MdP 42) = Cond.code (mNam (MdP 42)) (mCod (MdP 42)) (mMax (MdP 42)) (mRet (MdP 42)) :: zBig := rfl
theorem iw_42 : ∀ w ∈ zBig, w ∈ mWs (MdP 42) := fun w h => List.mem_cons_of_mem _ h
theorem hws_43 : mWs (MdP 43) = Cond.code (mNam (MdP 43)) (mCod (MdP 43)) (mMax (MdP 43)) (mRet (MdP 43)) :: zBig := rfl
theorem iw_43 : ∀ w ∈ zBig, w ∈ mWs (MdP 43) := fun w h => List.mem_cons_of_mem _ h
theorem hws_44 : mWs (MdP 44) = Cond.code (mNam (MdP 44)) (mCod (MdP 44)) (mMax (MdP 44)) (mRet (MdP 44)) :: zBig := rfl
theorem iw_44 : ∀ w ∈ zBig, w ∈ mWs (MdP 44) := fun w h => List.mem_cons_of_mem _ h
theorem hws_45 : mWs (MdP 45) = Cond.code (mNam (MdP 45)) (mCod (MdP 45)) (mMax (MdP 45)) (mRet (MdP 45)) :: zBig := rfl
theorem iw_45 : ∀ w ∈ zBig, w ∈ mWs (MdP 45) := fun w h => List.mem_cons_of_mem _ h
theorem hws_46 : mWs (MdP 46) = Cond.code (mNam (MdP 46)) (mCod (MdP 46)) (mMax (MdP 46)) (mRet (MdP 46)) :: zBig := rfl
theorem iw_46 : ∀ w ∈ zBig, w ∈ mWs (MdP 46) := fun w h => List.mem_cons_of_mem _ h
theorem hws_47 : mWs (MdP 47) = Cond.code (mNam (MdP 47)) (mCod (MdP 47)) (mMax (MdP 47)) (mRet (MdP 47)) :: zBig := rfl
theorem iw_47 : ∀ w ∈ zBig, w ∈ mWs (MdP 47) := fun w h => List.mem_cons_of_mem _ h
theorem hws_48 : mWs (MdP 48) = Cond.code (mNam (MdP 48)) (mCod (MdP 48)) (mMax (MdP 48)) (mRet (MdP 48)) :: zBig := rfl
theorem iw_48 : ∀ w ∈ zBig, w ∈ mWs (MdP 48) := fun w h => List.mem_cons_of_mem _ h
theorem hws_49 : mWs (MdP 49) = Cond.code (mNam (MdP 49)) (mCod (MdP 49)) (mMax (MdP 49)) (mRet (MdP 49)) :: zBig := rfl
theorem iw_49 : ∀ w ∈ zBig, w ∈ mWs (MdP 49) := fun w h => List.mem_cons_of_mem _ h
theorem hws_50 : mWs (MdP 50) = Cond.code (mNam (MdP 50)) (mCod (MdP 50)) (mMax (MdP 50)) (mRet (MdP 50)) :: zBig := rfl
theorem iw_50 : ∀ w ∈ zBig, w ∈ mWs (MdP 50) := fun w h => List.mem_cons_of_mem _ h
theorem hws_51 : mWs (MdP 51) = Cond.code (mNam (MdP 51)) (mCod (MdP 51)) (mMax (MdP 51)) (mRet (MdP 51)) :: zBig := rfl
theorem iw_51 : ∀ w ∈ zBig, w ∈ mWs (MdP 51) := fun w h => List.mem_cons_of_mem _ h
theorem hws_52 : mWs (MdP 52) = Cond.code (mNam (MdP 52)) (mCod (MdP 52)) (mMax (MdP 52)) (mRet (MdP 52)) :: zBig := rfl
theorem iw_52 : ∀ w ∈ zBig, w ∈ mWs (MdP 52) := fun w h => List.mem_cons_of_mem _ h
theorem hws_53 : mWs (MdP 53) = Cond.code (mNam (MdP 53)) (mCod (MdP 53)) (mMax (MdP 53)) (mRet (MdP 53)) :: zBig := rfl
theorem iw_53 : ∀ w ∈ zBig, w ∈ mWs (MdP 53) := fun w h => List.mem_cons_of_mem _ h
theorem hws_54 : mWs (MdP 54) = Cond.code (mNam (MdP 54)) (mCod (MdP 54)) (mMax (MdP 54)) (mRet (MdP 54)) :: zBig := rfl
theorem iw_54 : ∀ w ∈ zBig, w ∈ mWs (MdP 54) := fun w h => List.mem_cons_of_mem _ h
theorem hws_55 : mWs (MdP 55) = Cond.code (mNam (MdP 55)) (mCod (MdP 55)) (mMax (MdP 55)) (mRet (MdP 55)) :: zBig := rfl
theorem iw_55 : ∀ w ∈ zBig, w ∈ mWs (MdP 55) := fun w h => List.mem_cons_of_mem _ h
theorem hws_56 : mWs (MdP 56) = Cond.code (mNam (MdP 56)) (mCod (MdP 56)) (mMax (MdP 56)) (mRet (MdP 56)) :: zBig := rfl
theorem iw_56 : ∀ w ∈ zBig, w ∈ mWs (MdP 56) := fun w h => List.mem_cons_of_mem _ h
theorem hws_57 : mWs (MdP 57) = Cond.code (mNam (MdP 57)) (mCod (MdP 57)) (mMax (MdP 57)) (mRet (MdP 57)) :: zBig := rfl
theorem iw_57 : ∀ w ∈ zBig, w ∈ mWs (MdP 57) := fun w h => List.mem_cons_of_mem _ h
theorem hws_58 : mWs (MdP 58) = Cond.code (mNam (MdP 58)) (mCod (MdP 58)) (mMax (MdP 58)) (mRet (MdP 58)) :: zBig := rfl
theorem iw_58 : ∀ w ∈ zBig, w ∈ mWs (MdP 58) := fun w h => List.mem_cons_of_mem _ h
theorem hws_59 : mWs (MdP 59) = Cond.code (mNam (MdP 59)) (mCod (MdP 59)) (mMax (MdP 59)) (mRet (MdP 59)) :: zBig := rfl
theorem iw_59 : ∀ w ∈ zBig, w ∈ mWs (MdP 59) := fun w h => List.mem_cons_of_mem _ h
theorem hws_60 : mWs (MdP 60) = Cond.code (mNam (MdP 60)) (mCod (MdP 60)) (mMax (MdP 60)) (mRet (MdP 60)) :: zBig := rfl
theorem iw_60 : ∀ w ∈ zBig, w ∈ mWs (MdP 60) := fun w h => List.mem_cons_of_mem _ h
theorem hws_61 : mWs (MdP 61) = Cond.code (mNam (MdP 61)) (mCod (MdP 61)) (mMax (MdP 61)) (mRet (MdP 61)) :: zBig := rfl
theorem iw_61 : ∀ w ∈ zBig, w ∈ mWs (MdP 61) := fun w h => List.mem_cons_of_mem _ h
theorem hws_62 : mWs (MdP 62) = Cond.code (mNam (MdP 62)) (mCod (MdP 62)) (mMax (MdP 62)) (mRet (MdP 62)) :: zBig := rfl
theorem iw_62 : ∀ w ∈ zBig, w ∈ mWs (MdP 62) := fun w h => List.mem_cons_of_mem _ h
theorem hws_63 : mWs (MdP 63) = Cond.code (mNam (MdP 63)) (mCod (MdP 63)) (mMax (MdP 63)) (mRet (MdP 63)) :: zBig := rfl
theorem iw_63 : ∀ w ∈ zBig, w ∈ mWs (MdP 63) := fun w h => List.mem_cons_of_mem _ h
theorem hws_64 : mWs (MdP 64) = Cond.code (mNam (MdP 64)) (mCod (MdP 64)) (mMax (MdP 64)) (mRet (MdP 64)) :: zBig := rfl
theorem iw_64 : ∀ w ∈ zBig, w ∈ mWs (MdP 64) := fun w h => List.mem_cons_of_mem _ h
theorem hws_65 : mWs (MdP 65) = Cond.code (mNam (MdP 65)) (mCod (MdP 65)) (mMax (MdP 65)) (mRet (MdP 65)) :: zBig := rfl
theorem iw_65 : ∀ w ∈ zBig, w ∈ mWs (MdP 65) := fun w h => List.mem_cons_of_mem _ h
theorem hws_66 : mWs (MdP 66) = Cond.code (mNam (MdP 66)) (mCod (MdP 66)) (mMax (MdP 66)) (mRet (MdP 66)) :: zBig := rfl
theorem iw_66 : ∀ w ∈ zBig, w ∈ mWs (MdP 66) := fun w h => List.mem_cons_of_mem _ h
theorem hws_67 : mWs (MdP 67) = Cond.code (mNam (MdP 67)) (mCod (MdP 67)) (mMax (MdP 67)) (mRet (MdP 67)) :: zBig := rfl
theorem iw_67 : ∀ w ∈ zBig, w ∈ mWs (MdP 67) := fun w h => List.mem_cons_of_mem _ h
theorem hws_68 : mWs (MdP 68) = Cond.code (mNam (MdP 68)) (mCod (MdP 68)) (mMax (MdP 68)) (mRet (MdP 68)) :: zBig := rfl
theorem iw_68 : ∀ w ∈ zBig, w ∈ mWs (MdP 68) := fun w h => List.mem_cons_of_mem _ h
theorem hws_69 : mWs (MdP 69) = Cond.code (mNam (MdP 69)) (mCod (MdP 69)) (mMax (MdP 69)) (mRet (MdP 69)) :: zBig := rfl
theorem iw_69 : ∀ w ∈ zBig, w ∈ mWs (MdP 69) := fun w h => List.mem_cons_of_mem _ h
theorem hws_70 : mWs (MdP 70) = Cond.code (mNam (MdP 70)) (mCod (MdP 70)) (mMax (MdP 70)) (mRet (MdP 70)) :: zBig := rfl
theorem iw_70 : ∀ w ∈ zBig, w ∈ mWs (MdP 70) := fun w h => List.mem_cons_of_mem _ h
theorem hws_71 : mWs (MdP 71) = Cond.code (mNam (MdP 71)) (mCod (MdP 71)) (mMax (MdP 71)) (mRet (MdP 71)) :: zBig := rfl
theorem iw_71 : ∀ w ∈ zBig, w ∈ mWs (MdP 71) := fun w h => List.mem_cons_of_mem _ h
theorem hws_72 : mWs (MdP 72) = Cond.code (mNam (MdP 72)) (mCod (MdP 72)) (mMax (MdP 72)) (mRet (MdP 72)) :: zBig := rfl
theorem iw_72 : ∀ w ∈ zBig, w ∈ mWs (MdP 72) := fun w h => List.mem_cons_of_mem _ h
theorem hws_73 : mWs (MdP 73) = Cond.code (mNam (MdP 73)) (mCod (MdP 73)) (mMax (MdP 73)) (mRet (MdP 73)) :: zBig := rfl
theorem iw_73 : ∀ w ∈ zBig, w ∈ mWs (MdP 73) := fun w h => List.mem_cons_of_mem _ h
theorem hws_74 : mWs (MdP 74) = Cond.code (mNam (MdP 74)) (mCod (MdP 74)) (mMax (MdP 74)) (mRet (MdP 74)) :: zBig := rfl
theorem iw_74 : ∀ w ∈ zBig, w ∈ mWs (MdP 74) := fun w h => List.mem_cons_of_mem _ h
theorem hws_75 : mWs (MdP 75) = Cond.code (mNam (MdP 75)) (mCod (MdP 75)) (mMax (MdP 75)) (mRet (MdP 75)) :: zBig := rfl
theorem iw_75 : ∀ w ∈ zBig, w ∈ mWs (MdP 75) := fun w h => List.mem_cons_of_mem _ h
theorem hws_76 : mWs (MdP 76) = Cond.code (mNam (MdP 76)) (mCod (MdP 76)) (mMax (MdP 76)) (mRet (MdP 76)) :: zBig := rfl
theorem iw_76 : ∀ w ∈ zBig, w ∈ mWs (MdP 76) := fun w h => List.mem_cons_of_mem _ h
theorem hws_77 : mWs (MdP 77) = Cond.code (mNam (MdP 77)) (mCod (MdP 77)) (mMax (MdP 77)) (mRet (MdP 77)) :: zBig := rfl
theorem iw_77 : ∀ w ∈ zBig, w ∈ mWs (MdP 77) := fun w h => List.mem_cons_of_mem _ h
theorem hws_78 : mWs (MdP 78) = Cond.code (mNam (MdP 78)) (mCod (MdP 78)) (mMax (MdP 78)) (mRet (MdP 78)) :: zBig := rfl
theorem iw_78 : ∀ w ∈ zBig, w ∈ mWs (MdP 78) := fun w h => List.mem_cons_of_mem _ h
theorem hws_79 : mWs (MdP 79) = Cond.code (mNam (MdP 79)) (mCod (MdP 79)) (mMax (MdP 79)) (mRet (MdP 79)) :: zBig := rfl
theorem iw_79 : ∀ w ∈ zBig, w ∈ mWs (MdP 79) := fun w h => List.mem_cons_of_mem _ h
theorem hws_80 : mWs (MdP 80) = Cond.code (mNam (MdP 80)) (mCod (MdP 80)) (mMax (MdP 80)) (mRet (MdP 80)) :: zBig := rfl
theorem iw_80 : ∀ w ∈ zBig, w ∈ mWs (MdP 80) := fun w h => List.mem_cons_of_mem _ h
theorem hws_81 : mWs (MdP 81) = Cond.code (mNam (MdP 81)) (mCod (MdP 81)) (mMax (MdP 81)) (mRet (MdP 81)) :: zBig := rfl
theorem iw_81 : ∀ w ∈ zBig, w ∈ mWs (MdP 81) := fun w h => List.mem_cons_of_mem _ h
theorem hws_82 : mWs (MdP 82) = Cond.code (mNam (MdP 82)) (mCod (MdP 82)) (mMax (MdP 82)) (mRet (MdP 82)) :: zBig := rfl
theorem iw_82 : ∀ w ∈ zBig, w ∈ mWs (MdP 82) := fun w h => List.mem_cons_of_mem _ h
theorem hws_83 : mWs (MdP 83) = Cond.code (mNam (MdP 83)) (mCod (MdP 83)) (mMax (MdP 83)) (mRet (MdP 83)) :: zBig := rfl
theorem iw_83 : ∀ w ∈ zBig, w ∈ mWs (MdP 83) := fun w h => List.mem_cons_of_mem _ h
theorem hws_84 : mWs (MdP 84) = Cond.code (mNam (MdP 84)) (mCod (MdP 84)) (mMax (MdP 84)) (mRet (MdP 84)) :: zBig := rfl
theorem iw_84 : ∀ w ∈ zBig, w ∈ mWs (MdP 84) := fun w h => List.mem_cons_of_mem _ h
theorem hws_85 : mWs (MdP 85) = Cond.code (mNam (MdP 85)) (mCod (MdP 85)) (mMax (MdP 85)) (mRet (MdP 85)) :: zBig := rfl
theorem iw_85 : ∀ w ∈ zBig, w ∈ mWs (MdP 85) := fun w h => List.mem_cons_of_mem _ h
theorem hws_86 : mWs (MdP 86) = Cond.code (mNam (MdP 86)) (mCod (MdP 86)) (mMax (MdP 86)) (mRet (MdP 86)) :: zBig := rfl
theorem iw_86 : ∀ w ∈ zBig, w ∈ mWs (MdP 86) := fun w h => List.mem_cons_of_mem _ h
theorem hws_87 : mWs (MdP 87) = Cond.code (mNam (MdP 87)) (mCod (MdP 87)) (mMax (MdP 87)) (mRet (MdP 87)) :: zBig := rfl
theorem iw_87 : ∀ w ∈ zBig, w ∈ mWs (MdP 87) := fun w h => List.mem_cons_of_mem _ h
theorem hws_88 : mWs (MdP 88) = Cond.code (mNam (MdP 88)) (mCod (MdP 88)) (mMax (MdP 88)) (mRet (MdP 88)) :: zBig := rfl
theorem iw_88 : ∀ w ∈ zBig, w ∈ mWs (MdP 88) := fun w h => List.mem_cons_of_mem _ h
theorem hws_89 : mWs (MdP 89) = Cond.code (mNam (MdP 89)) (mCod (MdP 89)) (mMax (MdP 89)) (mRet (MdP 89)) :: zBig := rfl
theorem iw_89 : ∀ w ∈ zBig, w ∈ mWs (MdP 89) := fun w h => List.mem_cons_of_mem _ h
theorem hws_90 : mWs (MdP 90) = Cond.code (mNam (MdP 90)) (mCod (MdP 90)) (mMax (MdP 90)) (mRet (MdP 90)) :: zBig := rfl
theorem iw_90 : ∀ w ∈ zBig, w ∈ mWs (MdP 90) := fun w h => List.mem_cons_of_mem _ h
theorem hws_91 : mWs (MdP 91) = Cond.code (mNam (MdP 91)) (mCod (MdP 91)) (mMax (MdP 91)) (mRet (MdP 91)) :: zBig := rfl
theorem iw_91 : ∀ w ∈ zBig, w ∈ mWs (MdP 91) := fun w h => List.mem_cons_of_mem _ h
theorem hws_92 : mWs (MdP 92) = Cond.code (mNam (MdP 92)) (mCod (MdP 92)) (mMax (MdP 92)) (mRet (MdP 92)) :: zBig := rfl
theorem iw_92 : ∀ w ∈ zBig, w ∈ mWs (MdP 92) := fun w h => List.mem_cons_of_mem _ h
theorem hws_93 : mWs (MdP 93) = Cond.code (mNam (MdP 93)) (mCod (MdP 93)) (mMax (MdP 93)) (mRet (MdP 93)) :: zBig := rfl
theorem iw_93 : ∀ w ∈ zBig, w ∈ mWs (MdP 93) := fun w h => List.mem_cons_of_mem _ h
theorem hws_94 : mWs (MdP 94) = Cond.code (mNam (MdP 94)) (mCod (MdP 94)) (mMax (MdP 94)) (mRet (MdP 94)) :: zBig := rfl
theorem iw_94 : ∀ w ∈ zBig, w ∈ mWs (MdP 94) := fun w h => List.mem_cons_of_mem _ h
theorem hws_95 : mWs (MdP 95) = Cond.code (mNam (MdP 95)) (mCod (MdP 95)) (mMax (MdP 95)) (mRet (MdP 95)) :: zBig := rfl
theorem iw_95 : ∀ w ∈ zBig, w ∈ mWs (MdP 95) := fun w h => List.mem_cons_of_mem _ h
theorem hws_96 : mWs (MdP 96) = Cond.code (mNam (MdP 96)) (mCod (MdP 96)) (mMax (MdP 96)) (mRet (MdP 96)) :: zBig := rfl
theorem iw_96 : ∀ w ∈ zBig, w ∈ mWs (MdP 96) := fun w h => List.mem_cons_of_mem _ h
theorem hws_97 : mWs (MdP 97) = Cond.code (mNam (MdP 97)) (mCod (MdP 97)) (mMax (MdP 97)) (mRet (MdP 97)) :: zBig := rfl
theorem iw_97 : ∀ w ∈ zBig, w ∈ mWs (MdP 97) := fun w h => List.mem_cons_of_mem _ h
theorem hws_98 : mWs (MdP 98) = Cond.code (mNam (MdP 98)) (mCod (MdP 98)) (mMax (MdP 98)) (mRet (MdP 98)) :: zBig := rfl
theorem iw_98 : ∀ w ∈ zBig, w ∈ mWs (MdP 98) := fun w h => List.mem_cons_of_mem _ h
theorem hws_99 : mWs (MdP 99) = Cond.code (mNam (MdP 99)) (mCod (MdP 99)) (mMax (MdP 99)) (mRet (MdP 99)) :: zBig := rfl
theorem iw_99 : ∀ w ∈ zBig, w ∈ mWs (MdP 99) := fun w h => List.mem_cons_of_mem _ h
theorem hws_100 : mWs (MdP 100) = Cond.code (mNam (MdP 100)) (mCod (MdP 100)) (mMax (MdP 100)) (mRet (MdP 100)) :: zBig := rfl
theorem iw_100 : ∀ w ∈ zBig, w ∈ mWs (MdP 100) := fun w h => List.mem_cons_of_mem _ h
theorem hws_101 : mWs (MdP 101) = Cond.code (mNam (MdP 101)) (mCod (MdP 101)) (mMax (MdP 101)) (mRet (MdP 101)) :: zBig := rfl
theorem iw_101 : ∀ w ∈ zBig, w ∈ mWs (MdP 101) := fun w h => List.mem_cons_of_mem _ h
theorem hws_102 : mWs (MdP 102) = Cond.code (mNam (MdP 102)) (mCod (MdP 102)) (mMax (MdP 102)) (mRet (MdP 102)) :: zBig := rfl
theorem iw_102 : ∀ w ∈ zBig, w ∈ mWs (MdP 102) := fun w h => List.mem_cons_of_mem _ h
theorem hws_103 : mWs (MdP 103) = Cond.code (mNam (MdP 103)) (mCod (MdP 103)) (mMax (MdP 103)) (mRet (MdP 103)) :: zBig := rfl
theorem iw_103 : ∀ w ∈ zBig, w ∈ mWs (MdP 103) := fun w h => List.mem_cons_of_mem _ h
theorem hws_104 : mWs (MdP 104) = Cond.code (mNam (MdP 104)) (mCod (MdP 104)) (mMax (MdP 104)) (mRet (MdP 104)) :: zBig := rfl
theorem iw_104 : ∀ w ∈ zBig, w ∈ mWs (MdP 104) := fun w h => List.mem_cons_of_mem _ h
theorem hws_105 : mWs (MdP 105) = Cond.code (mNam (MdP 105)) (mCod (MdP 105)) (mMax (MdP 105)) (mRet (MdP 105)) :: zBig := rfl
theorem iw_105 : ∀ w ∈ zBig, w ∈ mWs (MdP 105) := fun w h => List.mem_cons_of_mem _ h
theorem hws_106 : mWs (MdP 106) = Cond.code (mNam (MdP 106)) (mCod (MdP 106)) (mMax (MdP 106)) (mRet (MdP 106)) :: zBig := rfl
theorem iw_106 : ∀ w ∈ zBig, w ∈ mWs (MdP 106) := fun w h => List.mem_cons_of_mem _ h
theorem hws_107 : mWs (MdP 107) = Cond.code (mNam (MdP 107)) (mCod (MdP 107)) (mMax (MdP 107)) (mRet (MdP 107)) :: zBig := rfl
theorem iw_107 : ∀ w ∈ zBig, w ∈ mWs (MdP 107) := fun w h => List.mem_cons_of_mem _ h
theorem hws_108 : mWs (MdP 108) = Cond.code (mNam (MdP 108)) (mCod (MdP 108)) (mMax (MdP 108)) (mRet (MdP 108)) :: zBig := rfl
theorem iw_108 : ∀ w ∈ zBig, w ∈ mWs (MdP 108) := fun w h => List.mem_cons_of_mem _ h
theorem hws_109 : mWs (MdP 109) = Cond.code (mNam (MdP 109)) (mCod (MdP 109)) (mMax (MdP 109)) (mRet (MdP 109)) :: zBig := rfl
theorem iw_109 : ∀ w ∈ zBig, w ∈ mWs (MdP 109) := fun w h => List.mem_cons_of_mem _ h
theorem hws_110 : mWs (MdP 110) = Cond.code (mNam (MdP 110)) (mCod (MdP 110)) (mMax (MdP 110)) (mRet (MdP 110)) :: zBig := rfl
theorem iw_110 : ∀ w ∈ zBig, w ∈ mWs (MdP 110) := fun w h => List.mem_cons_of_mem _ h
theorem hws_111 : mWs (MdP 111) = Cond.code (mNam (MdP 111)) (mCod (MdP 111)) (mMax (MdP 111)) (mRet (MdP 111)) :: zBig := rfl
theorem iw_111 : ∀ w ∈ zBig, w ∈ mWs (MdP 111) := fun w h => List.mem_cons_of_mem _ h
theorem hws_112 : mWs (MdP 112) = Cond.code (mNam (MdP 112)) (mCod (MdP 112)) (mMax (MdP 112)) (mRet (MdP 112)) :: zBig := rfl
theorem iw_112 : ∀ w ∈ zBig, w ∈ mWs (MdP 112) := fun w h => List.mem_cons_of_mem _ h
theorem hws_113 : mWs (MdP 113) = Cond.code (mNam (MdP 113)) (mCod (MdP 113)) (mMax (MdP 113)) (mRet (MdP 113)) :: zBig := rfl
theorem iw_113 : ∀ w ∈ zBig, w ∈ mWs (MdP 113) := fun w h => List.mem_cons_of_mem _ h
theorem hws_114 : mWs (MdP 114) = Cond.code (mNam (MdP 114)) (mCod (MdP 114)) (mMax (MdP 114)) (mRet (MdP 114)) :: zBig := rfl
theorem iw_114 : ∀ w ∈ zBig, w ∈ mWs (MdP 114) := fun w h => List.mem_cons_of_mem _ h
theorem hws_115 : mWs (MdP 115) = Cond.code (mNam (MdP 115)) (mCod (MdP 115)) (mMax (MdP 115)) (mRet (MdP 115)) :: zBig := rfl
theorem iw_115 : ∀ w ∈ zBig, w ∈ mWs (MdP 115) := fun w h => List.mem_cons_of_mem _ h
theorem hws_116 : mWs (MdP 116) = Cond.code (mNam (MdP 116)) (mCod (MdP 116)) (mMax (MdP 116)) (mRet (MdP 116)) :: zBig := rfl
theorem iw_116 : ∀ w ∈ zBig, w ∈ mWs (MdP 116) := fun w h => List.mem_cons_of_mem _ h
theorem hws_117 : mWs (MdP 117) = Cond.code (mNam (MdP 117)) (mCod (MdP 117)) (mMax (MdP 117)) (mRet (MdP 117)) :: zBig := rfl
theorem iw_117 : ∀ w ∈ zBig, w ∈ mWs (MdP 117) := fun w h => List.mem_cons_of_mem _ h
theorem hws_118 : mWs (MdP 118) = Cond.code (mNam (MdP 118)) (mCod (MdP 118)) (mMax (MdP 118)) (mRet (MdP 118)) :: zBig := rfl
theorem iw_118 : ∀ w ∈ zBig, w ∈ mWs (MdP 118) := fun w h => List.mem_cons_of_mem _ h
theorem hws_119 : mWs (MdP 119) = Cond.code (mNam (MdP 119)) (mCod (MdP 119)) (mMax (MdP 119)) (mRet (MdP 119)) :: zBig := rfl
theorem iw_119 : ∀ w ∈ zBig, w ∈ mWs (MdP 119) := fun w h => List.mem_cons_of_mem _ h
theorem hws_120 : mWs (MdP 120) = Cond.code (mNam (MdP 120)) (mCod (MdP 120)) (mMax (MdP 120)) (mRet (MdP 120)) :: zBig := rfl
theorem iw_120 : ∀ w ∈ zBig, w ∈ mWs (MdP 120) := fun w h => List.mem_cons_of_mem _ h
theorem hws_121 : mWs (MdP 121) = Cond.code (mNam (MdP 121)) (mCod (MdP 121)) (mMax (MdP 121)) (mRet (MdP 121)) :: zBig := rfl
theorem iw_121 : ∀ w ∈ zBig, w ∈ mWs (MdP 121) := fun w h => List.mem_cons_of_mem _ h
theorem hws_122 : mWs (MdP 122) = Cond.code (mNam (MdP 122)) (mCod (MdP 122)) (mMax (MdP 122)) (mRet (MdP 122)) :: zBig := rfl
theorem iw_122 : ∀ w ∈ zBig, w ∈ mWs (MdP 122) := fun w h => List.mem_cons_of_mem _ h
theorem hws_123 : mWs (MdP 123) = Cond.code (mNam (MdP 123)) (mCod (MdP 123)) (mMax (MdP 123)) (mRet (MdP 123)) :: zBig := rfl
theorem iw_123 : ∀ w ∈ zBig, w ∈ mWs (MdP 123) := fun w h => List.mem_cons_of_mem _ h
theorem hws_124 : mWs (MdP 124) = Cond.code (mNam (MdP 124)) (mCod (MdP 124)) (mMax (MdP 124)) (mRet (MdP 124)) :: zBig := rfl
theorem iw_124 : ∀ w ∈ zBig, w ∈ mWs (MdP 124) := fun w h => List.mem_cons_of_mem _ h
theorem hws_125 : mWs (MdP 125) = Cond.code (mNam (MdP 125)) (mCod (MdP 125)) (mMax (MdP 125)) (mRet (MdP 125)) :: zBig := rfl
theorem iw_125 : ∀ w ∈ zBig, w ∈ mWs (MdP 125) := fun w h => List.mem_cons_of_mem _ h
theorem hws_126 : mWs (MdP 126) = Cond.code (mNam (MdP 126)) (mCod (MdP 126)) (mMax (MdP 126)) (mRet (MdP 126)) :: zBig := rfl
theorem iw_126 : ∀ w ∈ zBig, w ∈ mWs (MdP 126) := fun w h => List.mem_cons_of_mem _ h
theorem hws_127 : mWs (MdP 127) = Cond.code (mNam (MdP 127)) (mCod (MdP 127)) (mMax (MdP 127)) (mRet (MdP 127)) :: zBig := rfl
theorem iw_127 : ∀ w ∈ zBig, w ∈ mWs (MdP 127) := fun w h => List.mem_cons_of_mem _ h
theorem hws_128 : mWs (MdP 128) = Cond.code (mNam (MdP 128)) (mCod (MdP 128)) (mMax (MdP 128)) (mRet (MdP 128)) :: zBig := rfl
theorem iw_128 : ∀ w ∈ zBig, w ∈ mWs (MdP 128) := fun w h => List.mem_cons_of_mem _ h
theorem hws_129 : mWs (MdP 129) = Cond.code (mNam (MdP 129)) (mCod (MdP 129)) (mMax (MdP 129)) (mRet (MdP 129)) :: zBig := rfl
theorem iw_129 : ∀ w ∈ zBig, w ∈ mWs (MdP 129) := fun w h => List.mem_cons_of_mem _ h
theorem hws_130 : mWs (MdP 130) = Cond.code (mNam (MdP 130)) (mCod (MdP 130)) (mMax (MdP 130)) (mRet (MdP 130)) :: zBig := rfl
theorem iw_130 : ∀ w ∈ zBig, w ∈ mWs (MdP 130) := fun w h => List.mem_cons_of_mem _ h
theorem hws_131 : mWs (MdP 131) = Cond.code (mNam (MdP 131)) (mCod (MdP 131)) (mMax (MdP 131)) (mRet (MdP 131)) :: zBig := rfl
theorem iw_131 : ∀ w ∈ zBig, w ∈ mWs (MdP 131) := fun w h => List.mem_cons_of_mem _ h
theorem hws_132 : mWs (MdP 132) = Cond.code (mNam (MdP 132)) (mCod (MdP 132)) (mMax (MdP 132)) (mRet (MdP 132)) :: zBig := rfl
theorem iw_132 : ∀ w ∈ zBig, w ∈ mWs (MdP 132) := fun w h => List.mem_cons_of_mem _ h
theorem hws_133 : mWs (MdP 133) = Cond.code (mNam (MdP 133)) (mCod (MdP 133)) (mMax (MdP 133)) (mRet (MdP 133)) :: zBig := rfl
theorem iw_133 : ∀ w ∈ zBig, w ∈ mWs (MdP 133) := fun w h => List.mem_cons_of_mem _ h
theorem hws_134 : mWs (MdP 134) = Cond.code (mNam (MdP 134)) (mCod (MdP 134)) (mMax (MdP 134)) (mRet (MdP 134)) :: zBig := rfl
theorem iw_134 : ∀ w ∈ zBig, w ∈ mWs (MdP 134) := fun w h => List.mem_cons_of_mem _ h
theorem hws_135 : mWs (MdP 135) = Cond.code (mNam (MdP 135)) (mCod (MdP 135)) (mMax (MdP 135)) (mRet (MdP 135)) :: zBig := rfl
theorem iw_135 : ∀ w ∈ zBig, w ∈ mWs (MdP 135) := fun w h => List.mem_cons_of_mem _ h
theorem hws_136 : mWs (MdP 136) = Cond.code (mNam (MdP 136)) (mCod (MdP 136)) (mMax (MdP 136)) (mRet (MdP 136)) :: zBig := rfl
theorem iw_136 : ∀ w ∈ zBig, w ∈ mWs (MdP 136) := fun w h => List.mem_cons_of_mem _ h
theorem hws_137 : mWs (MdP 137) = Cond.code (mNam (MdP 137)) (mCod (MdP 137)) (mMax (MdP 137)) (mRet (MdP 137)) :: zBig := rfl
theorem iw_137 : ∀ w ∈ zBig, w ∈ mWs (MdP 137) := fun w h => List.mem_cons_of_mem _ h
theorem hws_138 : mWs (MdP 138) = Cond.code (mNam (MdP 138)) (mCod (MdP 138)) (mMax (MdP 138)) (mRet (MdP 138)) :: zBig := rfl
theorem iw_138 : ∀ w ∈ zBig, w ∈ mWs (MdP 138) := fun w h => List.mem_cons_of_mem _ h
theorem hws_139 : mWs (MdP 139) = Cond.code (mNam (MdP 139)) (mCod (MdP 139)) (mMax (MdP 139)) (mRet (MdP 139)) :: zBig := rfl
theorem iw_139 : ∀ w ∈ zBig, w ∈ mWs (MdP 139) := fun w h => List.mem_cons_of_mem _ h
theorem hws_140 : mWs (MdP 140) = Cond.code (mNam (MdP 140)) (mCod (MdP 140)) (mMax (MdP 140)) (mRet (MdP 140)) :: zBig := rfl
theorem iw_140 : ∀ w ∈ zBig, w ∈ mWs (MdP 140) := fun w h => List.mem_cons_of_mem _ h
theorem hws_141 : mWs (MdP 141) = Cond.code (mNam (MdP 141)) (mCod (MdP 141)) (mMax (MdP 141)) (mRet (MdP 141)) :: zBig := rfl
theorem iw_141 : ∀ w ∈ zBig, w ∈ mWs (MdP 141) := fun w h => List.mem_cons_of_mem _ h
theorem hws_142 : mWs (MdP 142) = Cond.code (mNam (MdP 142)) (mCod (MdP 142)) (mMax (MdP 142)) (mRet (MdP 142)) :: zBig := rfl
theorem iw_142 : ∀ w ∈ zBig, w ∈ mWs (MdP 142) := fun w h => List.mem_cons_of_mem _ h
theorem hws_143 : mWs (MdP 143) = Cond.code (mNam (MdP 143)) (mCod (MdP 143)) (mMax (MdP 143)) (mRet (MdP 143)) :: zBig := rfl
theorem iw_143 : ∀ w ∈ zBig, w ∈ mWs (MdP 143) := fun w h => List.mem_cons_of_mem _ h
theorem hws_144 : mWs (MdP 144) = Cond.code (mNam (MdP 144)) (mCod (MdP 144)) (mMax (MdP 144)) (mRet (MdP 144)) :: zBig := rfl
theorem iw_144 : ∀ w ∈ zBig, w ∈ mWs (MdP 144) := fun w h => List.mem_cons_of_mem _ h
theorem hws_145 : mWs (MdP 145) = Cond.code (mNam (MdP 145)) (mCod (MdP 145)) (mMax (MdP 145)) (mRet (MdP 145)) :: zBig := rfl
theorem iw_145 : ∀ w ∈ zBig, w ∈ mWs (MdP 145) := fun w h => List.mem_cons_of_mem _ h
theorem hws_146 : mWs (MdP 146) = Cond.code (mNam (MdP 146)) (mCod (MdP 146)) (mMax (MdP 146)) (mRet (MdP 146)) :: zBig := rfl
theorem iw_146 : ∀ w ∈ zBig, w ∈ mWs (MdP 146) := fun w h => List.mem_cons_of_mem _ h
theorem hws_147 : mWs (MdP 147) = Cond.codeWith (mNam (MdP 147)) (mCod (MdP 147)) (mMax (MdP 147)) (mRet (MdP 147)) (mHH (MdP 147)) :: zBig := rfl
theorem iw_147 : ∀ w ∈ zBig, w ∈ mWs (MdP 147) := fun w h => List.mem_cons_of_mem _ h
theorem hws_148 : mWs (MdP 148) = Cond.codeWith (mNam (MdP 148)) (mCod (MdP 148)) (mMax (MdP 148)) (mRet (MdP 148)) (mHH (MdP 148)) :: zBig := rfl
theorem iw_148 : ∀ w ∈ zBig, w ∈ mWs (MdP 148) := fun w h => List.mem_cons_of_mem _ h
theorem hws_149 : mWs (MdP 149) = Cond.codeWith (mNam (MdP 149)) (mCod (MdP 149)) (mMax (MdP 149)) (mRet (MdP 149)) (mHH (MdP 149)) :: zBig := rfl
theorem iw_149 : ∀ w ∈ zBig, w ∈ mWs (MdP 149) := fun w h => List.mem_cons_of_mem _ h
theorem hws_150 : mWs (MdP 150) = Cond.codeWith (mNam (MdP 150)) (mCod (MdP 150)) (mMax (MdP 150)) (mRet (MdP 150)) (mHH (MdP 150)) :: zBig := rfl
theorem iw_150 : ∀ w ∈ zBig, w ∈ mWs (MdP 150) := fun w h => List.mem_cons_of_mem _ h
theorem hws_151 : mWs (MdP 151) = Cond.codeWith (mNam (MdP 151)) (mCod (MdP 151)) (mMax (MdP 151)) (mRet (MdP 151)) (mHH (MdP 151)) :: zBig := rfl
theorem iw_151 : ∀ w ∈ zBig, w ∈ mWs (MdP 151) := fun w h => List.mem_cons_of_mem _ h
theorem hws_152 : mWs (MdP 152) = Cond.codeWith (mNam (MdP 152)) (mCod (MdP 152)) (mMax (MdP 152)) (mRet (MdP 152)) (mHH (MdP 152)) :: zBig := rfl
theorem iw_152 : ∀ w ∈ zBig, w ∈ mWs (MdP 152) := fun w h => List.mem_cons_of_mem _ h
theorem hws_153 : mWs (MdP 153) = Cond.codeWith (mNam (MdP 153)) (mCod (MdP 153)) (mMax (MdP 153)) (mRet (MdP 153)) (mHH (MdP 153)) :: zBig := rfl
theorem iw_153 : ∀ w ∈ zBig, w ∈ mWs (MdP 153) := fun w h => List.mem_cons_of_mem _ h
theorem hws_154 : mWs (MdP 154) = Cond.codeWith (mNam (MdP 154)) (mCod (MdP 154)) (mMax (MdP 154)) (mRet (MdP 154)) (mHH (MdP 154)) :: zBig := rfl
theorem iw_154 : ∀ w ∈ zBig, w ∈ mWs (MdP 154) := fun w h => List.mem_cons_of_mem _ h
theorem hws_155 : mWs (MdP 155) = Cond.codeWith (mNam (MdP 155)) (mCod (MdP 155)) (mMax (MdP 155)) (mRet (MdP 155)) (mHH (MdP 155)) :: zBig := rfl
theorem iw_155 : ∀ w ∈ zBig, w ∈ mWs (MdP 155) := fun w h => List.mem_cons_of_mem _ h
theorem hws_156 : mWs (MdP 156) = Cond.codeWith (mNam (MdP 156)) (mCod (MdP 156)) (mMax (MdP 156)) (mRet (MdP 156)) (mHH (MdP 156)) :: zBig := rfl
theorem iw_156 : ∀ w ∈ zBig, w ∈ mWs (MdP 156) := fun w h => List.mem_cons_of_mem _ h
theorem hws_157 : mWs (MdP 157) = Cond.codeWith (mNam (MdP 157)) (mCod (MdP 157)) (mMax (MdP 157)) (mRet (MdP 157)) (mHH (MdP 157)) :: zBig := rfl
theorem iw_157 : ∀ w ∈ zBig, w ∈ mWs (MdP 157) := fun w h => List.mem_cons_of_mem _ h
theorem hws_158 : mWs (MdP 158) = Cond.codeWith (mNam (MdP 158)) (mCod (MdP 158)) (mMax (MdP 158)) (mRet (MdP 158)) (mHH (MdP 158)) :: zBig := rfl
theorem iw_158 : ∀ w ∈ zBig, w ∈ mWs (MdP 158) := fun w h => List.mem_cons_of_mem _ h
theorem hws_159 : mWs (MdP 159) = Cond.codeWith (mNam (MdP 159)) (mCod (MdP 159)) (mMax (MdP 159)) (mRet (MdP 159)) (mHH (MdP 159)) :: zBig := rfl
theorem iw_159 : ∀ w ∈ zBig, w ∈ mWs (MdP 159) := fun w h => List.mem_cons_of_mem _ h
theorem hws_160 : mWs (MdP 160) = Cond.codeWith (mNam (MdP 160)) (mCod (MdP 160)) (mMax (MdP 160)) (mRet (MdP 160)) (mHH (MdP 160)) :: zBig := rfl
theorem iw_160 : ∀ w ∈ zBig, w ∈ mWs (MdP 160) := fun w h => List.mem_cons_of_mem _ h
theorem hws_161 : mWs (MdP 161) = Cond.codeWith (mNam (MdP 161)) (mCod (MdP 161)) (mMax (MdP 161)) (mRet (MdP 161)) (mHH (MdP 161)) :: zBig := rfl
theorem iw_161 : ∀ w ∈ zBig, w ∈ mWs (MdP 161) := fun w h => List.mem_cons_of_mem _ h
theorem hws_162 : mWs (MdP 162) = Cond.codeWith (mNam (MdP 162)) (mCod (MdP 162)) (mMax (MdP 162)) (mRet (MdP 162)) (mHH (MdP 162)) :: zBig := rfl
theorem iw_162 : ∀ w ∈ zBig, w ∈ mWs (MdP 162) := fun w h => List.mem_cons_of_mem _ h
theorem hws_163 : mWs (MdP 163) = Cond.codeWith (mNam (MdP 163)) (mCod (MdP 163)) (mMax (MdP 163)) (mRet (MdP 163)) (mHH (MdP 163)) :: zBig := rfl
theorem iw_163 : ∀ w ∈ zBig, w ∈ mWs (MdP 163) := fun w h => List.mem_cons_of_mem _ h
theorem hws_164 : mWs (MdP 164) = Cond.codeWith (mNam (MdP 164)) (mCod (MdP 164)) (mMax (MdP 164)) (mRet (MdP 164)) (mHH (MdP 164)) :: zBig := rfl
theorem iw_164 : ∀ w ∈ zBig, w ∈ mWs (MdP 164) := fun w h => List.mem_cons_of_mem _ h
theorem hws_165 : mWs (MdP 165) = Cond.codeWith (mNam (MdP 165)) (mCod (MdP 165)) (mMax (MdP 165)) (mRet (MdP 165)) (mHH (MdP 165)) :: zBig := rfl
theorem iw_165 : ∀ w ∈ zBig, w ∈ mWs (MdP 165) := fun w h => List.mem_cons_of_mem _ h
theorem hws_166 : mWs (MdP 166) = Cond.codeWith (mNam (MdP 166)) (mCod (MdP 166)) (mMax (MdP 166)) (mRet (MdP 166)) (mHH (MdP 166)) :: zBig := rfl
theorem iw_166 : ∀ w ∈ zBig, w ∈ mWs (MdP 166) := fun w h => List.mem_cons_of_mem _ h
theorem hws_167 : mWs (MdP 167) = Cond.codeWith (mNam (MdP 167)) (mCod (MdP 167)) (mMax (MdP 167)) (mRet (MdP 167)) (mHH (MdP 167)) :: zBig := rfl
theorem iw_167 : ∀ w ∈ zBig, w ∈ mWs (MdP 167) := fun w h => List.mem_cons_of_mem _ h
theorem hws_168 : mWs (MdP 168) = Cond.codeWith (mNam (MdP 168)) (mCod (MdP 168)) (mMax (MdP 168)) (mRet (MdP 168)) (mHH (MdP 168)) :: zBig := rfl
theorem iw_168 : ∀ w ∈ zBig, w ∈ mWs (MdP 168) := fun w h => List.mem_cons_of_mem _ h
theorem hws_169 : mWs (MdP 169) = Cond.codeWith (mNam (MdP 169)) (mCod (MdP 169)) (mMax (MdP 169)) (mRet (MdP 169)) (mHH (MdP 169)) :: zBig := rfl
theorem iw_169 : ∀ w ∈ zBig, w ∈ mWs (MdP 169) := fun w h => List.mem_cons_of_mem _ h
theorem hws_170 : mWs (MdP 170) = Cond.codeWith (mNam (MdP 170)) (mCod (MdP 170)) (mMax (MdP 170)) (mRet (MdP 170)) (mHH (MdP 170)) :: zBig := rfl
theorem iw_170 : ∀ w ∈ zBig, w ∈ mWs (MdP 170) := fun w h => List.mem_cons_of_mem _ h
theorem hws_171 : mWs (MdP 171) = Cond.code (mNam (MdP 171)) (mCod (MdP 171)) (mMax (MdP 171)) (mRet (MdP 171)) :: zBig := rfl
theorem iw_171 : ∀ w ∈ zBig, w ∈ mWs (MdP 171) := fun w h => List.mem_cons_of_mem _ h
