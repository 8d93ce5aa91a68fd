/-! THE PROGRAM's words, out of the tables, by their places; all methods have the same list behind their own code -/
def zBig : List Cond := lw_tbl.filter goodWord
theorem zin (i : Nat) {w : Cond} (h : lw_tbl[i]? = some w) (g : goodWord w = true) : w ∈ zBig := List.mem_filter.mpr ⟨List.mem_of_getElem? h, g⟩
theorem zgood {w : Cond} (h : w ∈ zBig) : (w.onTables && w.keeps) = true ∨ ∃ ty, w = .arrayClass ty := good_of_word (List.mem_filter.mp h).2
theorem gdI {a b : Cond} {r1 r2 : List Cond} (h1 : r1 = a :: zBig) (h2 : r2 = b :: zBig) (hb : b ∈ zBig) : GoodIn r1 r2 := by
  subst h1; subst h2
  intro w hw
  rcases List.mem_cons.mp hw with rfl | hw
  · exact ⟨List.mem_cons_of_mem _ hb, zgood hb⟩
  · exact ⟨List.mem_cons_of_mem _ hw, zgood hw⟩
theorem gd1 {a w : Cond} {r1 : List Cond} (h1 : r1 = a :: zBig) (hw : w ∈ zBig) : w ∈ r1 ∧ ((w.onTables && w.keeps) = true ∨ ∃ ty, w = .arrayClass ty) := by
  subst h1
  exact ⟨List.mem_cons_of_mem _ hw, zgood hw⟩
theorem gdV {a b : Cond} {r1 r2 : List Cond} {own C : String} {ix : Nat} {y : MethodName} (h1 : r1 = a :: zBig) (h2 : r2 = b :: zBig) (w1 : Cond.methodLink own ix y ∈ zBig) (w2 : Cond.instanceMethod y ∈ zBig) (w3 : Cond.selects C y y ∈ zBig) (w4 : Cond.initialized C ∈ zBig) (hb : b ∈ zBig) : GoodIn r1 (wsV own ix C y r2) := by
  intro w hw
  unfold wsV at hw
  rcases List.mem_append.mp hw with hw | hw
  · simp only [List.mem_cons, List.not_mem_nil, or_false] at hw
    rcases hw with rfl | rfl | rfl | rfl
    · exact gd1 h1 w1
    · exact gd1 h1 w2
    · exact gd1 h1 w3
    · exact gd1 h1 w4
  · exact gdI h1 h2 hb w hw
theorem gdS {a b : Cond} {r1 r2 : List Cond} {own : String} {ix : Nat} {y : MethodName} (h1 : r1 = a :: zBig) (h2 : r2 = b :: zBig) (w1 : Cond.methodLink own ix y ∈ zBig) (w2 : Cond.static y ∈ zBig) (w4 : Cond.initialized y.cls ∈ zBig) (hb : b ∈ zBig) : GoodIn r1 (va_wsS own ix y r2) := by
  intro w hw
  unfold va_wsS at hw
  rcases List.mem_append.mp hw with hw | hw
  · simp only [List.mem_cons, List.not_mem_nil, or_false] at hw
    rcases hw with rfl | rfl | rfl
    · exact gd1 h1 w1
    · exact gd1 h1 w2
    · exact gd1 h1 w4
  · exact gdI h1 h2 hb w hw
theorem lookup_mem {e t : Nat} : ∀ (hs : List (Nat × Nat)), hs.lookup e = some t → (e, t) ∈ hs
  | [], h => by cases h
  | (a, b) :: r, h => by
    rw [List.lookup_cons] at h
    by_cases q : e = a
    · subst q
      simp at h
      subst h
      exact List.mem_cons_self
    · have q2 : (e == a) = false := by simp [q]
      rw [q2] at h
      exact List.mem_cons_of_mem _ (lookup_mem r h)
theorem catch_of {G : GwT} {M : MdT} {pc : Nat} {hs : List (Nat × Nat)} (h0 : hs = [] → ∀ z ∈ tableOf (mHH M), covers z pc = false) (h : ∀ q ∈ hs, ∃ (pre : List ExceptionTableEntry) (x : ExceptionTableEntry) (suf : List ExceptionTableEntry) (name : String), tableOf (mHH M) = pre ++ x :: suf ∧
  (∀ z ∈ pre, covers z pc = false ∨ (z.catchType ≠ 0 ∧ ∃ nm, Cond.classLink (mOwn M) z.catchType nm ∈ mWs M ∧ (xcl q.1, nm) ∈ G.2.1)) ∧ covers x pc = true ∧ x.catchType ≠ 0 ∧ Cond.classLink (mOwn M) x.catchType name ∈ mWs M ∧ (xcl q.1, name) ∈ G.2.2.1 ∧ x.handlerPc = q.2) : CatchOK G M pc hs := ⟨h0, fun e t q => h (e, t) (lookup_mem hs q)⟩
theorem zw0 : Cond.methodLink RX0 1 Lib.objectInit ∈ zBig := zin 566 (by decide +kernel) (by decide +kernel)
theorem zw1 : Cond.instanceMethod Lib.objectInit ∈ zBig := zin 90 (by decide +kernel) (by decide +kernel)
theorem zw2 : Cond.code Lib.objectInit ⟨#[0xb1]⟩ 1 none ∈ zBig := zin 91 (by decide +kernel) (by decide +kernel)
theorem zw3 : Cond.fieldLink RX0 7 "Marginalia$Anchor" "from" "I" ∈ zBig := zin 567 (by decide +kernel) (by decide +kernel)
theorem zw4 : Cond.fieldLink RX0 13 "Marginalia$Anchor" "to" "I" ∈ zBig := zin 571 (by decide +kernel) (by decide +kernel)
theorem zw5 : Cond.code yX0_isLost cX0_isLost 1 (some .boolean) ∈ zBig := zin 191 (by decide +kernel) (by decide +kernel)
theorem zw6 : Cond.methodLink RX0 16 yX0_isLost ∈ zBig := zin 289 (by decide +kernel) (by decide +kernel)
theorem zw7 : Cond.instanceMethod yX0_isLost ∈ zBig := zin 189 (by decide +kernel) (by decide +kernel)
theorem zw8 : Cond.selects RX0 yX0_isLost yX0_isLost ∈ zBig := zin 190 (by decide +kernel) (by decide +kernel)
theorem zw9 : Cond.initialized RX0 ∈ zBig := zin 40 (by decide +kernel) (by decide +kernel)
theorem zw10 : Cond.code yX0_cutAheadOf cX0_cutAheadOf 3 (some .int) ∈ zBig := zin 729 (by decide +kernel) (by decide +kernel)
theorem zw11 : Cond.methodLink RX0 20 yX0_cutAheadOf ∈ zBig := zin 727 (by decide +kernel) (by decide +kernel)
theorem zw12 : Cond.static yX0_cutAheadOf ∈ zBig := zin 728 (by decide +kernel) (by decide +kernel)
theorem zw13 : Cond.methodLink RX0 24 Lib.Math.min.name ∈ zBig := zin 730 (by decide +kernel) (by decide +kernel)
theorem zw14 : Cond.static Lib.Math.min.name ∈ zBig := zin 550 (by decide +kernel) (by decide +kernel)
theorem zw15 : Cond.initialized "java/lang/Math" ∈ zBig := zin 38 (by decide +kernel) (by decide +kernel)
theorem zw16 : Cond.code Lib.Math.min.name Lib.Math.min.code 2 (some .int) ∈ zBig := zin 551 (by decide +kernel) (by decide +kernel)
theorem zw17 : Cond.methodLink RX0 30 Lib.Math.max.name ∈ zBig := zin 731 (by decide +kernel) (by decide +kernel)
theorem zw18 : Cond.static Lib.Math.max.name ∈ zBig := zin 732 (by decide +kernel) (by decide +kernel)
theorem zw19 : Cond.code Lib.Math.max.name Lib.Math.max.code 2 (some .int) ∈ zBig := zin 733 (by decide +kernel) (by decide +kernel)
theorem zw20 : Cond.methodLink RX1 3 Lib.objectInit ∈ zBig := zin 388 (by decide +kernel) (by decide +kernel)
theorem zw21 : Cond.classLink RX1 11 "[[I" ∈ zBig := zin 389 (by decide +kernel) (by decide +kernel)
theorem zw22 : Cond.arrayClass .int ∈ zBig := zin 380 (by decide +kernel) (by decide +kernel)
theorem zw23 : Cond.fieldLink RX1 13 "Marginalia$Export" "columns" "[[I" ∈ zBig := zin 390 (by decide +kernel) (by decide +kernel)
theorem zw24 : Cond.fieldLink RX1 22 "Marginalia$Export" "size" "I" ∈ zBig := zin 392 (by decide +kernel) (by decide +kernel)
theorem zw25 : Cond.code yX2_contentShown cX2_contentShown 1 (some .int) ∈ zBig := zin 218 (by decide +kernel) (by decide +kernel)
theorem zw26 : Cond.methodLink RX1 47 yX2_contentShown ∈ zBig := zin 267 (by decide +kernel) (by decide +kernel)
theorem zw27 : Cond.instanceMethod yX2_contentShown ∈ zBig := zin 216 (by decide +kernel) (by decide +kernel)
theorem zw28 : Cond.selects RX2 yX2_contentShown yX2_contentShown ∈ zBig := zin 217 (by decide +kernel) (by decide +kernel)
theorem zw29 : Cond.initialized RX2 ∈ zBig := zin 41 (by decide +kernel) (by decide +kernel)
theorem zw30 : Cond.methodLink RX2 3 Lib.objectInit ∈ zBig := zin 628 (by decide +kernel) (by decide +kernel)
theorem zw31 : Cond.fieldLink RX2 9 "Marginalia$Note" "number" "I" ∈ zBig := zin 629 (by decide +kernel) (by decide +kernel)
theorem zw32 : Cond.fieldLink RX2 15 "Marginalia$Note" "author" "I" ∈ zBig := zin 632 (by decide +kernel) (by decide +kernel)
theorem zw33 : Cond.fieldLink RX2 18 "Marginalia$Note" "content" "I" ∈ zBig := zin 634 (by decide +kernel) (by decide +kernel)
theorem zw34 : Cond.fieldLink RX2 21 "Marginalia$Note" "parent" "LMarginalia$Note;" ∈ zBig := zin 637 (by decide +kernel) (by decide +kernel)
theorem zw35 : Cond.fieldLink RX2 25 "Marginalia$Note" "strand" "LMarginalia$Strand;" ∈ zBig := zin 638 (by decide +kernel) (by decide +kernel)
theorem zw36 : Cond.fieldLink RX2 29 "Marginalia$Note" "depth" "I" ∈ zBig := zin 635 (by decide +kernel) (by decide +kernel)
theorem zw37 : Cond.fieldLink RX2 32 "Marginalia$Note" "isGone" "Z" ∈ zBig := zin 648 (by decide +kernel) (by decide +kernel)
theorem zw38 : Cond.fieldLink RX2 36 "Marginalia$Note" "isEmpty" "Z" ∈ zBig := zin 645 (by decide +kernel) (by decide +kernel)
theorem zw39 : Cond.fieldLink RX2 39 "Marginalia$Note" "nextInOrder" "LMarginalia$Note;" ∈ zBig := zin 642 (by decide +kernel) (by decide +kernel)
theorem zw40 : Cond.fieldLink RX2 42 "Marginalia$Note" "repliesNotGone" "I" ∈ zBig := zin 644 (by decide +kernel) (by decide +kernel)
theorem zw41 : Cond.methodLink RX2 50 yX2_contentShown ∈ zBig := zin 215 (by decide +kernel) (by decide +kernel)
theorem zw42 : Cond.methodLink RX3 3 Lib.objectInit ∈ zBig := zin 586 (by decide +kernel) (by decide +kernel)
theorem zw43 : Cond.fieldLink RX3 9 "Marginalia$Strand" "headNumber" "I" ∈ zBig := zin 587 (by decide +kernel) (by decide +kernel)
theorem zw44 : Cond.fieldLink RX3 15 "Marginalia$Strand" "author" "I" ∈ zBig := zin 590 (by decide +kernel) (by decide +kernel)
theorem zw45 : Cond.fieldLink RX3 18 "Marginalia$Strand" "view" "I" ∈ zBig := zin 592 (by decide +kernel) (by decide +kernel)
theorem zw46 : Cond.fieldLink RX3 21 "Marginalia$Strand" "anchor" "LMarginalia$Anchor;" ∈ zBig := zin 594 (by decide +kernel) (by decide +kernel)
theorem zw47 : Cond.fieldLink RX3 25 "Marginalia$Strand" "quoted" "[I" ∈ zBig := zin 598 (by decide +kernel) (by decide +kernel)
theorem zw48 : Cond.fieldLink RX3 29 "Marginalia$Strand" "proposedMany" "I" ∈ zBig := zin 603 (by decide +kernel) (by decide +kernel)
theorem zw49 : Cond.fieldLink RX3 32 "Marginalia$Strand" "isSettled" "Z" ∈ zBig := zin 600 (by decide +kernel) (by decide +kernel)
theorem zw50 : Cond.methodLink RX3 36 yX0_isLost ∈ zBig := zin 188 (by decide +kernel) (by decide +kernel)
theorem zw51 : Cond.methodLink RX4 3 Lib.objectInit ∈ zBig := zin 360 (by decide +kernel) (by decide +kernel)
theorem zw52 : Cond.classLink RX4 9 "[[I" ∈ zBig := zin 361 (by decide +kernel) (by decide +kernel)
theorem zw53 : Cond.fieldLink RX4 11 "Marginalia$Text" "namesIn" "[[I" ∈ zBig := zin 363 (by decide +kernel) (by decide +kernel)
theorem zw54 : Cond.fieldLink RX4 16 "Marginalia$Text" "sizeIn" "[I" ∈ zBig := zin 364 (by decide +kernel) (by decide +kernel)
theorem zw55 : Cond.fieldLink RX4 20 "Marginalia$Text" "signOfName" "[I" ∈ zBig := zin 365 (by decide +kernel) (by decide +kernel)
theorem zw56 : Cond.fieldLink RX4 23 "Marginalia$Text" "edits" "I" ∈ zBig := zin 367 (by decide +kernel) (by decide +kernel)
theorem zw57 : Cond.code yX4_size cX4_size 1 (some .int) ∈ zBig := zin 49 (by decide +kernel) (by decide +kernel)
theorem zw58 : Cond.methodLink RX4 27 yX4_size ∈ zBig := zin 142 (by decide +kernel) (by decide +kernel)
theorem zw59 : Cond.instanceMethod yX4_size ∈ zBig := zin 47 (by decide +kernel) (by decide +kernel)
theorem zw60 : Cond.selects RX4 yX4_size yX4_size ∈ zBig := zin 48 (by decide +kernel) (by decide +kernel)
theorem zw61 : Cond.initialized RX4 ∈ zBig := zin 29 (by decide +kernel) (by decide +kernel)
theorem zw62 : Cond.code yX5_isWithin cX5_isWithin 3 (some .boolean) ∈ zBig := zin 60 (by decide +kernel) (by decide +kernel)
theorem zw63 : Cond.initialized RX5 ∈ zBig := zin 28 (by decide +kernel) (by decide +kernel)
theorem zw64 : Cond.static yX5_isWithin ∈ zBig := zin 59 (by decide +kernel) (by decide +kernel)
theorem zw65 : Cond.code yX4_signIn cX4_signIn 3 (some .int) ∈ zBig := zin 314 (by decide +kernel) (by decide +kernel)
theorem zw66 : Cond.methodLink RX4 35 yX4_signIn ∈ zBig := zin 338 (by decide +kernel) (by decide +kernel)
theorem zw67 : Cond.instanceMethod yX4_signIn ∈ zBig := zin 312 (by decide +kernel) (by decide +kernel)
theorem zw68 : Cond.selects RX4 yX4_signIn yX4_signIn ∈ zBig := zin 313 (by decide +kernel) (by decide +kernel)
theorem zw69 : Cond.methodLink RX4 39 arraycopyName ∈ zBig := zin 524 (by decide +kernel) (by decide +kernel)
theorem zw70 : Cond.native arraycopyName ∈ zBig := zin 475 (by decide +kernel) (by decide +kernel)
theorem zw71 : Cond.static arraycopyName ∈ zBig := zin 474 (by decide +kernel) (by decide +kernel)
theorem zw72 : Cond.initialized "java/lang/System" ∈ zBig := zin 31 (by decide +kernel) (by decide +kernel)
theorem zw73 : Cond.fieldLink RX4 45 "Marginalia$Text" "nameCount" "I" ∈ zBig := zin 366 (by decide +kernel) (by decide +kernel)
theorem zw74 : Cond.methodLink RX5 1 Lib.objectInit ∈ zBig := zin 354 (by decide +kernel) (by decide +kernel)
theorem zw75 : Cond.fieldLink RX5 9 "Marginalia" "rights" "[I" ∈ zBig := zin 399 (by decide +kernel) (by decide +kernel)
theorem zw76 : Cond.classLink RX5 13 RX4 ∈ zBig := zin 355 (by decide +kernel) (by decide +kernel)
theorem zw77 : Cond.instantiable RX4 5 ∈ zBig := zin 356 (by decide +kernel) (by decide +kernel)
theorem zw78 : Cond.code yX4_init cX4_init 1 none ∈ zBig := zin 359 (by decide +kernel) (by decide +kernel)
theorem zw79 : Cond.methodLink RX5 15 yX4_init ∈ zBig := zin 357 (by decide +kernel) (by decide +kernel)
theorem zw80 : Cond.instanceMethod yX4_init ∈ zBig := zin 358 (by decide +kernel) (by decide +kernel)
theorem zw81 : Cond.fieldLink RX5 16 "Marginalia" "text" "LMarginalia$Text;" ∈ zBig := zin 400 (by decide +kernel) (by decide +kernel)
theorem zw82 : Cond.classLink RX5 20 RX2 ∈ zBig := zin 381 (by decide +kernel) (by decide +kernel)
theorem zw83 : Cond.fieldLink RX5 22 "Marginalia" "notes" "[LMarginalia$Note;" ∈ zBig := zin 401 (by decide +kernel) (by decide +kernel)
theorem zw84 : Cond.fieldLink RX5 26 "Marginalia" "chosenHeads" "[LMarginalia$Note;" ∈ zBig := zin 402 (by decide +kernel) (by decide +kernel)
theorem zw85 : Cond.classLink RX5 29 RX1 ∈ zBig := zin 383 (by decide +kernel) (by decide +kernel)
theorem zw86 : Cond.instantiable RX1 2 ∈ zBig := zin 384 (by decide +kernel) (by decide +kernel)
theorem zw87 : Cond.initialized RX1 ∈ zBig := zin 30 (by decide +kernel) (by decide +kernel)
theorem zw88 : Cond.code yX1_init cX1_init 1 none ∈ zBig := zin 387 (by decide +kernel) (by decide +kernel)
theorem zw89 : Cond.methodLink RX5 31 yX1_init ∈ zBig := zin 385 (by decide +kernel) (by decide +kernel)
theorem zw90 : Cond.instanceMethod yX1_init ∈ zBig := zin 386 (by decide +kernel) (by decide +kernel)
theorem zw91 : Cond.fieldLink RX5 32 "Marginalia" "kept" "LMarginalia$Export;" ∈ zBig := zin 403 (by decide +kernel) (by decide +kernel)
theorem zw92 : Cond.code yX5_isRight cX5_isRight 1 (some .boolean) ∈ zBig := zin 296 (by decide +kernel) (by decide +kernel)
theorem zw93 : Cond.methodLink RX5 36 yX5_isRight ∈ zBig := zin 294 (by decide +kernel) (by decide +kernel)
theorem zw94 : Cond.static yX5_isRight ∈ zBig := zin 295 (by decide +kernel) (by decide +kernel)
theorem zw95 : Cond.code yX5_requireArgument cX5_requireArgument 1 none ∈ zBig := zin 154 (by decide +kernel) (by decide +kernel)
theorem zw96 : Cond.methodLink RX5 40 yX5_requireArgument ∈ zBig := zin 152 (by decide +kernel) (by decide +kernel)
theorem zw97 : Cond.static yX5_requireArgument ∈ zBig := zin 153 (by decide +kernel) (by decide +kernel)
theorem zw98 : Cond.fieldLink RX5 44 "Marginalia" "userCount" "I" ∈ zBig := zin 404 (by decide +kernel) (by decide +kernel)
theorem zw99 : Cond.code yX5_requireState cX5_requireState 1 none ∈ zBig := zin 482 (by decide +kernel) (by decide +kernel)
theorem zw100 : Cond.methodLink RX5 48 yX5_requireState ∈ zBig := zin 480 (by decide +kernel) (by decide +kernel)
theorem zw101 : Cond.static yX5_requireState ∈ zBig := zin 481 (by decide +kernel) (by decide +kernel)
theorem zw102 : Cond.code yX5_requireUser cX5_requireUser 2 none ∈ zBig := zin 199 (by decide +kernel) (by decide +kernel)
theorem zw103 : Cond.methodLink RX5 51 yX5_requireUser ∈ zBig := zin 196 (by decide +kernel) (by decide +kernel)
theorem zw104 : Cond.instanceMethod yX5_requireUser ∈ zBig := zin 198 (by decide +kernel) (by decide +kernel)
theorem zw105 : Cond.selects RX5 yX5_requireUser yX5_requireUser ∈ zBig := zin 3 (by decide +kernel) (by decide +kernel)
theorem zw106 : Cond.methodLink RX5 55 yX4_size ∈ zBig := zin 46 (by decide +kernel) (by decide +kernel)
theorem zw107 : Cond.methodLink RX5 59 yX5_isWithin ∈ zBig := zin 151 (by decide +kernel) (by decide +kernel)
theorem zw108 : Cond.code yX5_requireIndex cX5_requireIndex 1 none ∈ zBig := zin 63 (by decide +kernel) (by decide +kernel)
theorem zw109 : Cond.methodLink RX5 63 yX5_requireIndex ∈ zBig := zin 61 (by decide +kernel) (by decide +kernel)
theorem zw110 : Cond.static yX5_requireIndex ∈ zBig := zin 62 (by decide +kernel) (by decide +kernel)
theorem zw111 : Cond.code yX4_hasRoomFor cX4_hasRoomFor 3 (some .boolean) ∈ zBig := zin 515 (by decide +kernel) (by decide +kernel)
theorem zw112 : Cond.methodLink RX5 66 yX4_hasRoomFor ∈ zBig := zin 512 (by decide +kernel) (by decide +kernel)
theorem zw113 : Cond.instanceMethod yX4_hasRoomFor ∈ zBig := zin 513 (by decide +kernel) (by decide +kernel)
theorem zw114 : Cond.selects RX4 yX4_hasRoomFor yX4_hasRoomFor ∈ zBig := zin 514 (by decide +kernel) (by decide +kernel)
theorem zw115 : Cond.code yX5_putSigns cX5_putSigns 5 none ∈ zBig := zin 519 (by decide +kernel) (by decide +kernel)
theorem zw116 : Cond.methodLink RX5 70 yX5_putSigns ∈ zBig := zin 516 (by decide +kernel) (by decide +kernel)
theorem zw117 : Cond.instanceMethod yX5_putSigns ∈ zBig := zin 518 (by decide +kernel) (by decide +kernel)
theorem zw118 : Cond.selects RX5 yX5_putSigns yX5_putSigns ∈ zBig := zin 15 (by decide +kernel) (by decide +kernel)
theorem zw119 : Cond.code yX5_requireSign cX5_requireSign 2 none ∈ zBig := zin 283 (by decide +kernel) (by decide +kernel)
theorem zw120 : Cond.methodLink RX5 74 yX5_requireSign ∈ zBig := zin 280 (by decide +kernel) (by decide +kernel)
theorem zw121 : Cond.instanceMethod yX5_requireSign ∈ zBig := zin 282 (by decide +kernel) (by decide +kernel)
theorem zw122 : Cond.selects RX5 yX5_requireSign yX5_requireSign ∈ zBig := zin 9 (by decide +kernel) (by decide +kernel)
theorem zw123 : Cond.code yX5_cutSigns cX5_cutSigns 4 none ∈ zBig := zin 722 (by decide +kernel) (by decide +kernel)
theorem zw124 : Cond.methodLink RX5 77 yX5_cutSigns ∈ zBig := zin 719 (by decide +kernel) (by decide +kernel)
theorem zw125 : Cond.instanceMethod yX5_cutSigns ∈ zBig := zin 721 (by decide +kernel) (by decide +kernel)
theorem zw126 : Cond.selects RX5 yX5_cutSigns yX5_cutSigns ∈ zBig := zin 20 (by decide +kernel) (by decide +kernel)
theorem zw127 : Cond.code yX4_hasVersion cX4_hasVersion 2 (some .boolean) ∈ zBig := zin 57 (by decide +kernel) (by decide +kernel)
theorem zw128 : Cond.methodLink RX5 81 yX4_hasVersion ∈ zBig := zin 54 (by decide +kernel) (by decide +kernel)
theorem zw129 : Cond.instanceMethod yX4_hasVersion ∈ zBig := zin 55 (by decide +kernel) (by decide +kernel)
theorem zw130 : Cond.selects RX4 yX4_hasVersion yX4_hasVersion ∈ zBig := zin 56 (by decide +kernel) (by decide +kernel)
theorem zw131 : Cond.code yX4_hasSignIn cX4_hasSignIn 3 (some .boolean) ∈ zBig := zin 137 (by decide +kernel) (by decide +kernel)
theorem zw132 : Cond.methodLink RX5 84 yX4_hasSignIn ∈ zBig := zin 134 (by decide +kernel) (by decide +kernel)
theorem zw133 : Cond.instanceMethod yX4_hasSignIn ∈ zBig := zin 135 (by decide +kernel) (by decide +kernel)
theorem zw134 : Cond.selects RX4 yX4_hasSignIn yX4_hasSignIn ∈ zBig := zin 136 (by decide +kernel) (by decide +kernel)
theorem zw135 : Cond.code yX4_placeNow cX4_placeNow 5 (some .int) ∈ zBig := zin 141 (by decide +kernel) (by decide +kernel)
theorem zw136 : Cond.methodLink RX5 91 yX4_placeNow ∈ zBig := zin 138 (by decide +kernel) (by decide +kernel)
theorem zw137 : Cond.instanceMethod yX4_placeNow ∈ zBig := zin 139 (by decide +kernel) (by decide +kernel)
theorem zw138 : Cond.selects RX4 yX4_placeNow yX4_placeNow ∈ zBig := zin 140 (by decide +kernel) (by decide +kernel)
theorem zw139 : Cond.code yX5_isContent cX5_isContent 1 (some .boolean) ∈ zBig := zin 558 (by decide +kernel) (by decide +kernel)
theorem zw140 : Cond.methodLink RX5 97 yX5_isContent ∈ zBig := zin 556 (by decide +kernel) (by decide +kernel)
theorem zw141 : Cond.static yX5_isContent ∈ zBig := zin 557 (by decide +kernel) (by decide +kernel)
theorem zw142 : Cond.fieldLink RX5 100 "Marginalia" "noteCount" "I" ∈ zBig := zin 405 (by decide +kernel) (by decide +kernel)
theorem zw143 : Cond.classLink RX5 103 RX3 ∈ zBig := zin 559 (by decide +kernel) (by decide +kernel)
theorem zw144 : Cond.instantiable RX3 8 ∈ zBig := zin 560 (by decide +kernel) (by decide +kernel)
theorem zw145 : Cond.initialized RX3 ∈ zBig := zin 39 (by decide +kernel) (by decide +kernel)
theorem zw146 : Cond.classLink RX5 105 RX0 ∈ zBig := zin 561 (by decide +kernel) (by decide +kernel)
theorem zw147 : Cond.instantiable RX0 2 ∈ zBig := zin 562 (by decide +kernel) (by decide +kernel)
theorem zw148 : Cond.code yX0_init cX0_init 3 none ∈ zBig := zin 565 (by decide +kernel) (by decide +kernel)
theorem zw149 : Cond.methodLink RX5 107 yX0_init ∈ zBig := zin 563 (by decide +kernel) (by decide +kernel)
theorem zw150 : Cond.instanceMethod yX0_init ∈ zBig := zin 564 (by decide +kernel) (by decide +kernel)
theorem zw151 : Cond.code yX5_quoteOf cX5_quoteOf 5 (some (.array .int)) ∈ zBig := zin 581 (by decide +kernel) (by decide +kernel)
theorem zw152 : Cond.methodLink RX5 109 yX5_quoteOf ∈ zBig := zin 578 (by decide +kernel) (by decide +kernel)
theorem zw153 : Cond.instanceMethod yX5_quoteOf ∈ zBig := zin 580 (by decide +kernel) (by decide +kernel)
theorem zw154 : Cond.selects RX5 yX5_quoteOf yX5_quoteOf ∈ zBig := zin 18 (by decide +kernel) (by decide +kernel)
theorem zw155 : Cond.code yX3_init cX3_init 6 none ∈ zBig := zin 585 (by decide +kernel) (by decide +kernel)
theorem zw156 : Cond.methodLink RX5 113 yX3_init ∈ zBig := zin 583 (by decide +kernel) (by decide +kernel)
theorem zw157 : Cond.instanceMethod yX3_init ∈ zBig := zin 584 (by decide +kernel) (by decide +kernel)
theorem zw158 : Cond.instantiable RX2 10 ∈ zBig := zin 624 (by decide +kernel) (by decide +kernel)
theorem zw159 : Cond.code yX2_init cX2_init 6 none ∈ zBig := zin 627 (by decide +kernel) (by decide +kernel)
theorem zw160 : Cond.methodLink RX5 116 yX2_init ∈ zBig := zin 625 (by decide +kernel) (by decide +kernel)
theorem zw161 : Cond.instanceMethod yX2_init ∈ zBig := zin 626 (by decide +kernel) (by decide +kernel)
theorem zw162 : Cond.code yX5_keepNote cX5_keepNote 2 (some .int) ∈ zBig := zin 674 (by decide +kernel) (by decide +kernel)
theorem zw163 : Cond.methodLink RX5 119 yX5_keepNote ∈ zBig := zin 671 (by decide +kernel) (by decide +kernel)
theorem zw164 : Cond.instanceMethod yX5_keepNote ∈ zBig := zin 673 (by decide +kernel) (by decide +kernel)
theorem zw165 : Cond.selects RX5 yX5_keepNote yX5_keepNote ∈ zBig := zin 19 (by decide +kernel) (by decide +kernel)
theorem zw166 : Cond.code yX5_requireNote cX5_requireNote 3 (some (.object "Marginalia$Note")) ∈ zBig := zin 208 (by decide +kernel) (by decide +kernel)
theorem zw167 : Cond.methodLink RX5 123 yX5_requireNote ∈ zBig := zin 205 (by decide +kernel) (by decide +kernel)
theorem zw168 : Cond.instanceMethod yX5_requireNote ∈ zBig := zin 207 (by decide +kernel) (by decide +kernel)
theorem zw169 : Cond.selects RX5 yX5_requireNote yX5_requireNote ∈ zBig := zin 4 (by decide +kernel) (by decide +kernel)
theorem zw170 : Cond.code yX5_isSeen cX5_isSeen 3 (some .boolean) ∈ zBig := zin 226 (by decide +kernel) (by decide +kernel)
theorem zw171 : Cond.methodLink RX5 127 yX5_isSeen ∈ zBig := zin 223 (by decide +kernel) (by decide +kernel)
theorem zw172 : Cond.instanceMethod yX5_isSeen ∈ zBig := zin 225 (by decide +kernel) (by decide +kernel)
theorem zw173 : Cond.selects RX5 yX5_isSeen yX5_isSeen ∈ zBig := zin 5 (by decide +kernel) (by decide +kernel)
theorem zw174 : Cond.code yX2_addReply cX2_addReply 3 none ∈ zBig := zin 698 (by decide +kernel) (by decide +kernel)
theorem zw175 : Cond.methodLink RX5 139 yX2_addReply ∈ zBig := zin 695 (by decide +kernel) (by decide +kernel)
theorem zw176 : Cond.instanceMethod yX2_addReply ∈ zBig := zin 696 (by decide +kernel) (by decide +kernel)
theorem zw177 : Cond.selects RX2 yX2_addReply yX2_addReply ∈ zBig := zin 697 (by decide +kernel) (by decide +kernel)
theorem zw178 : Cond.code yX2_emptyAndDrop cX2_emptyAndDrop 3 (some .int) ∈ zBig := zin 757 (by decide +kernel) (by decide +kernel)
theorem zw179 : Cond.methodLink RX5 150 yX2_emptyAndDrop ∈ zBig := zin 754 (by decide +kernel) (by decide +kernel)
theorem zw180 : Cond.instanceMethod yX2_emptyAndDrop ∈ zBig := zin 755 (by decide +kernel) (by decide +kernel)
theorem zw181 : Cond.selects RX2 yX2_emptyAndDrop yX2_emptyAndDrop ∈ zBig := zin 756 (by decide +kernel) (by decide +kernel)
theorem zw182 : Cond.code yX2_isHead cX2_isHead 1 (some .boolean) ∈ zBig := zin 528 (by decide +kernel) (by decide +kernel)
theorem zw183 : Cond.methodLink RX5 153 yX2_isHead ∈ zBig := zin 525 (by decide +kernel) (by decide +kernel)
theorem zw184 : Cond.instanceMethod yX2_isHead ∈ zBig := zin 526 (by decide +kernel) (by decide +kernel)
theorem zw185 : Cond.selects RX2 yX2_isHead yX2_isHead ∈ zBig := zin 527 (by decide +kernel) (by decide +kernel)
theorem zw186 : Cond.code yX5_canTake cX5_canTake 3 (some .boolean) ∈ zBig := zin 781 (by decide +kernel) (by decide +kernel)
theorem zw187 : Cond.methodLink RX5 166 yX5_canTake ∈ zBig := zin 778 (by decide +kernel) (by decide +kernel)
theorem zw188 : Cond.instanceMethod yX5_canTake ∈ zBig := zin 780 (by decide +kernel) (by decide +kernel)
theorem zw189 : Cond.selects RX5 yX5_canTake yX5_canTake ∈ zBig := zin 22 (by decide +kernel) (by decide +kernel)
theorem zw190 : Cond.code yX5_putProposal cX5_putProposal 5 none ∈ zBig := zin 790 (by decide +kernel) (by decide +kernel)
theorem zw191 : Cond.methodLink RX5 170 yX5_putProposal ∈ zBig := zin 787 (by decide +kernel) (by decide +kernel)
theorem zw192 : Cond.instanceMethod yX5_putProposal ∈ zBig := zin 789 (by decide +kernel) (by decide +kernel)
theorem zw193 : Cond.selects RX5 yX5_putProposal yX5_putProposal ∈ zBig := zin 23 (by decide +kernel) (by decide +kernel)
theorem zw194 : Cond.code yX2_isHeadNotGone cX2_isHeadNotGone 1 (some .boolean) ∈ zBig := zin 183 (by decide +kernel) (by decide +kernel)
theorem zw195 : Cond.methodLink RX5 174 yX2_isHeadNotGone ∈ zBig := zin 180 (by decide +kernel) (by decide +kernel)
theorem zw196 : Cond.instanceMethod yX2_isHeadNotGone ∈ zBig := zin 181 (by decide +kernel) (by decide +kernel)
theorem zw197 : Cond.selects RX2 yX2_isHeadNotGone yX2_isHeadNotGone ∈ zBig := zin 182 (by decide +kernel) (by decide +kernel)
theorem zw198 : Cond.code yX5_healAnchor cX5_healAnchor 3 (some .boolean) ∈ zBig := zin 818 (by decide +kernel) (by decide +kernel)
theorem zw199 : Cond.methodLink RX5 177 yX5_healAnchor ∈ zBig := zin 815 (by decide +kernel) (by decide +kernel)
theorem zw200 : Cond.instanceMethod yX5_healAnchor ∈ zBig := zin 817 (by decide +kernel) (by decide +kernel)
theorem zw201 : Cond.selects RX5 yX5_healAnchor yX5_healAnchor ∈ zBig := zin 25 (by decide +kernel) (by decide +kernel)
theorem zw202 : Cond.code yX5_countNotes cX5_countNotes 3 (some .int) ∈ zBig := zin 175 (by decide +kernel) (by decide +kernel)
theorem zw203 : Cond.methodLink RX5 180 yX5_countNotes ∈ zBig := zin 171 (by decide +kernel) (by decide +kernel)
theorem zw204 : Cond.instanceMethod yX5_countNotes ∈ zBig := zin 173 (by decide +kernel) (by decide +kernel)
theorem zw205 : Cond.selects RX5 yX5_countNotes yX5_countNotes ∈ zBig := zin 1 (by decide +kernel) (by decide +kernel)
theorem zw206 : Cond.code yX5_countStrands cX5_countStrands 4 (some .int) ∈ zBig := zin 179 (by decide +kernel) (by decide +kernel)
theorem zw207 : Cond.methodLink RX5 183 yX5_countStrands ∈ zBig := zin 176 (by decide +kernel) (by decide +kernel)
theorem zw208 : Cond.instanceMethod yX5_countStrands ∈ zBig := zin 178 (by decide +kernel) (by decide +kernel)
theorem zw209 : Cond.selects RX5 yX5_countStrands yX5_countStrands ∈ zBig := zin 2 (by decide +kernel) (by decide +kernel)
theorem zw210 : Cond.code yX2_fact cX2_fact 2 (some .int) ∈ zBig := zin 214 (by decide +kernel) (by decide +kernel)
theorem zw211 : Cond.methodLink RX5 187 yX2_fact ∈ zBig := zin 211 (by decide +kernel) (by decide +kernel)
theorem zw212 : Cond.instanceMethod yX2_fact ∈ zBig := zin 212 (by decide +kernel) (by decide +kernel)
theorem zw213 : Cond.selects RX2 yX2_fact yX2_fact ∈ zBig := zin 213 (by decide +kernel) (by decide +kernel)
theorem zw214 : Cond.code yX5_headOf cX5_headOf 2 (some (.object "Marginalia$Note")) ∈ zBig := zin 238 (by decide +kernel) (by decide +kernel)
theorem zw215 : Cond.methodLink RX5 193 yX5_headOf ∈ zBig := zin 235 (by decide +kernel) (by decide +kernel)
theorem zw216 : Cond.instanceMethod yX5_headOf ∈ zBig := zin 237 (by decide +kernel) (by decide +kernel)
theorem zw217 : Cond.selects RX5 yX5_headOf yX5_headOf ∈ zBig := zin 6 (by decide +kernel) (by decide +kernel)
theorem zw218 : Cond.code yX0_covers cX0_covers 2 (some .boolean) ∈ zBig := zin 246 (by decide +kernel) (by decide +kernel)
theorem zw219 : Cond.methodLink RX5 208 yX0_covers ∈ zBig := zin 243 (by decide +kernel) (by decide +kernel)
theorem zw220 : Cond.instanceMethod yX0_covers ∈ zBig := zin 244 (by decide +kernel) (by decide +kernel)
theorem zw221 : Cond.selects RX0 yX0_covers yX0_covers ∈ zBig := zin 245 (by decide +kernel) (by decide +kernel)
theorem zw222 : Cond.code yX5_chooseHeads cX5_chooseHeads 6 (some .int) ∈ zBig := zin 254 (by decide +kernel) (by decide +kernel)
theorem zw223 : Cond.methodLink RX5 211 yX5_chooseHeads ∈ zBig := zin 251 (by decide +kernel) (by decide +kernel)
theorem zw224 : Cond.instanceMethod yX5_chooseHeads ∈ zBig := zin 253 (by decide +kernel) (by decide +kernel)
theorem zw225 : Cond.selects RX5 yX5_chooseHeads yX5_chooseHeads ∈ zBig := zin 7 (by decide +kernel) (by decide +kernel)
theorem zw226 : Cond.code yX1_addOrder cX1_addOrder 3 none ∈ zBig := zin 266 (by decide +kernel) (by decide +kernel)
theorem zw227 : Cond.methodLink RX5 217 yX1_addOrder ∈ zBig := zin 263 (by decide +kernel) (by decide +kernel)
theorem zw228 : Cond.instanceMethod yX1_addOrder ∈ zBig := zin 264 (by decide +kernel) (by decide +kernel)
theorem zw229 : Cond.selects RX1 yX1_addOrder yX1_addOrder ∈ zBig := zin 265 (by decide +kernel) (by decide +kernel)
theorem zw230 : Cond.code yX0_wouldBeLost cX0_wouldBeLost 3 (some .boolean) ∈ zBig := zin 288 (by decide +kernel) (by decide +kernel)
theorem zw231 : Cond.methodLink RX5 224 yX0_wouldBeLost ∈ zBig := zin 285 (by decide +kernel) (by decide +kernel)
theorem zw232 : Cond.instanceMethod yX0_wouldBeLost ∈ zBig := zin 286 (by decide +kernel) (by decide +kernel)
theorem zw233 : Cond.selects RX0 yX0_wouldBeLost yX0_wouldBeLost ∈ zBig := zin 287 (by decide +kernel) (by decide +kernel)
theorem zw234 : Cond.code yX5_placeOfQuote cX5_placeOfQuote 4 (some .int) ∈ zBig := zin 333 (by decide +kernel) (by decide +kernel)
theorem zw235 : Cond.methodLink RX5 227 yX5_placeOfQuote ∈ zBig := zin 330 (by decide +kernel) (by decide +kernel)
theorem zw236 : Cond.instanceMethod yX5_placeOfQuote ∈ zBig := zin 332 (by decide +kernel) (by decide +kernel)
theorem zw237 : Cond.selects RX5 yX5_placeOfQuote yX5_placeOfQuote ∈ zBig := zin 13 (by decide +kernel) (by decide +kernel)
theorem zw238 : Cond.code yX3_isSeenBy cX3_isSeenBy 3 (some .boolean) ∈ zBig := zin 230 (by decide +kernel) (by decide +kernel)
theorem zw239 : Cond.methodLink RX5 231 yX3_isSeenBy ∈ zBig := zin 227 (by decide +kernel) (by decide +kernel)
theorem zw240 : Cond.instanceMethod yX3_isSeenBy ∈ zBig := zin 228 (by decide +kernel) (by decide +kernel)
theorem zw241 : Cond.selects RX3 yX3_isSeenBy yX3_isSeenBy ∈ zBig := zin 229 (by decide +kernel) (by decide +kernel)
theorem zw242 : Cond.constantLong RX5 234 (58083 : Int64) ∈ zBig := zin 301 (by decide +kernel) (by decide +kernel)
theorem zw243 : Cond.code yX5_digestText cX5_digestText 6 (some .long) ∈ zBig := zin 305 (by decide +kernel) (by decide +kernel)
theorem zw244 : Cond.methodLink RX5 236 yX5_digestText ∈ zBig := zin 302 (by decide +kernel) (by decide +kernel)
theorem zw245 : Cond.instanceMethod yX5_digestText ∈ zBig := zin 304 (by decide +kernel) (by decide +kernel)
theorem zw246 : Cond.selects RX5 yX5_digestText yX5_digestText ∈ zBig := zin 10 (by decide +kernel) (by decide +kernel)
theorem zw247 : Cond.code yX5_digestUser cX5_digestUser 6 (some .long) ∈ zBig := zin 318 (by decide +kernel) (by decide +kernel)
theorem zw248 : Cond.methodLink RX5 240 yX5_digestUser ∈ zBig := zin 315 (by decide +kernel) (by decide +kernel)
theorem zw249 : Cond.instanceMethod yX5_digestUser ∈ zBig := zin 317 (by decide +kernel) (by decide +kernel)
theorem zw250 : Cond.selects RX5 yX5_digestUser yX5_digestUser ∈ zBig := zin 11 (by decide +kernel) (by decide +kernel)
theorem zw251 : Cond.code yX5_digestNote cX5_digestNote 7 (some .long) ∈ zBig := zin 324 (by decide +kernel) (by decide +kernel)
theorem zw252 : Cond.methodLink RX5 244 yX5_digestNote ∈ zBig := zin 321 (by decide +kernel) (by decide +kernel)
theorem zw253 : Cond.instanceMethod yX5_digestNote ∈ zBig := zin 323 (by decide +kernel) (by decide +kernel)
theorem zw254 : Cond.selects RX5 yX5_digestNote yX5_digestNote ∈ zBig := zin 12 (by decide +kernel) (by decide +kernel)
theorem zw255 : Cond.code yX5_digestExport cX5_digestExport 7 (some .long) ∈ zBig := zin 343 (by decide +kernel) (by decide +kernel)
theorem zw256 : Cond.methodLink RX5 247 yX5_digestExport ∈ zBig := zin 340 (by decide +kernel) (by decide +kernel)
theorem zw257 : Cond.instanceMethod yX5_digestExport ∈ zBig := zin 342 (by decide +kernel) (by decide +kernel)
theorem zw258 : Cond.selects RX5 yX5_digestExport yX5_digestExport ∈ zBig := zin 14 (by decide +kernel) (by decide +kernel)
theorem zw259 : Cond.classLink RX5 250 "java/lang/IndexOutOfBoundsException" ∈ zBig := zin 64 (by decide +kernel) (by decide +kernel)
theorem zw260 : Cond.initialized "java/lang/IndexOutOfBoundsException" ∈ zBig := zin 37 (by decide +kernel) (by decide +kernel)
theorem zw261 : Cond.classLink RX5 265 "java/lang/IllegalArgumentException" ∈ zBig := zin 155 (by decide +kernel) (by decide +kernel)
theorem zw262 : Cond.initialized "java/lang/IllegalArgumentException" ∈ zBig := zin 35 (by decide +kernel) (by decide +kernel)
theorem zw263 : Cond.classLink RX5 270 "java/lang/IllegalStateException" ∈ zBig := zin 483 (by decide +kernel) (by decide +kernel)
theorem zw264 : Cond.initialized "java/lang/IllegalStateException" ∈ zBig := zin 36 (by decide +kernel) (by decide +kernel)
theorem zw265 : Cond.code yX4_edit cX4_edit 8 none ∈ zBig := zin 523 (by decide +kernel) (by decide +kernel)
theorem zw266 : Cond.methodLink RX5 275 yX4_edit ∈ zBig := zin 520 (by decide +kernel) (by decide +kernel)
theorem zw267 : Cond.instanceMethod yX4_edit ∈ zBig := zin 521 (by decide +kernel) (by decide +kernel)
theorem zw268 : Cond.selects RX4 yX4_edit yX4_edit ∈ zBig := zin 522 (by decide +kernel) (by decide +kernel)
theorem zw269 : Cond.code yX0_moveAsPut cX0_moveAsPut 3 none ∈ zBig := zin 532 (by decide +kernel) (by decide +kernel)
theorem zw270 : Cond.methodLink RX5 279 yX0_moveAsPut ∈ zBig := zin 529 (by decide +kernel) (by decide +kernel)
theorem zw271 : Cond.instanceMethod yX0_moveAsPut ∈ zBig := zin 530 (by decide +kernel) (by decide +kernel)
theorem zw272 : Cond.selects RX0 yX0_moveAsPut yX0_moveAsPut ∈ zBig := zin 531 (by decide +kernel) (by decide +kernel)
theorem zw273 : Cond.code yX0_moveAsCut cX0_moveAsCut 3 none ∈ zBig := zin 726 (by decide +kernel) (by decide +kernel)
theorem zw274 : Cond.methodLink RX5 282 yX0_moveAsCut ∈ zBig := zin 723 (by decide +kernel) (by decide +kernel)
theorem zw275 : Cond.instanceMethod yX0_moveAsCut ∈ zBig := zin 724 (by decide +kernel) (by decide +kernel)
theorem zw276 : Cond.selects RX0 yX0_moveAsCut yX0_moveAsCut ∈ zBig := zin 725 (by decide +kernel) (by decide +kernel)
theorem zw277 : Cond.methodLink RX5 285 yX0_isLost ∈ zBig := zin 782 (by decide +kernel) (by decide +kernel)
theorem zw278 : Cond.code yX0_size cX0_size 1 (some .int) ∈ zBig := zin 786 (by decide +kernel) (by decide +kernel)
theorem zw279 : Cond.methodLink RX5 288 yX0_size ∈ zBig := zin 783 (by decide +kernel) (by decide +kernel)
theorem zw280 : Cond.instanceMethod yX0_size ∈ zBig := zin 784 (by decide +kernel) (by decide +kernel)
theorem zw281 : Cond.selects RX0 yX0_size yX0_size ∈ zBig := zin 785 (by decide +kernel) (by decide +kernel)
theorem zw282 : Cond.code yX0_lay cX0_lay 3 none ∈ zBig := zin 794 (by decide +kernel) (by decide +kernel)
theorem zw283 : Cond.methodLink RX5 292 yX0_lay ∈ zBig := zin 791 (by decide +kernel) (by decide +kernel)
theorem zw284 : Cond.instanceMethod yX0_lay ∈ zBig := zin 792 (by decide +kernel) (by decide +kernel)
theorem zw285 : Cond.selects RX0 yX0_lay yX0_lay ∈ zBig := zin 793 (by decide +kernel) (by decide +kernel)
theorem zw286 : Cond.methodLink RX5 295 Lib.Math.min.name ∈ zBig := zin 582 (by decide +kernel) (by decide +kernel)
theorem zw287 : Cond.methodLink RX5 87 yX4_signIn ∈ zBig := zin 311 (by decide +kernel) (by decide +kernel)
theorem zw288 : Cond.code yX4_hasAt cX4_hasAt 4 (some .boolean) ∈ zBig := zin 337 (by decide +kernel) (by decide +kernel)
theorem zw289 : Cond.methodLink RX5 300 yX4_hasAt ∈ zBig := zin 334 (by decide +kernel) (by decide +kernel)
theorem zw290 : Cond.instanceMethod yX4_hasAt ∈ zBig := zin 335 (by decide +kernel) (by decide +kernel)
theorem zw291 : Cond.selects RX4 yX4_hasAt yX4_hasAt ∈ zBig := zin 336 (by decide +kernel) (by decide +kernel)
theorem zw292 : Cond.code yX3_isCountedAs cX3_isCountedAs 2 (some .boolean) ∈ zBig := zin 187 (by decide +kernel) (by decide +kernel)
theorem zw293 : Cond.methodLink RX5 307 yX3_isCountedAs ∈ zBig := zin 184 (by decide +kernel) (by decide +kernel)
theorem zw294 : Cond.instanceMethod yX3_isCountedAs ∈ zBig := zin 185 (by decide +kernel) (by decide +kernel)
theorem zw295 : Cond.selects RX3 yX3_isCountedAs yX3_isCountedAs ∈ zBig := zin 186 (by decide +kernel) (by decide +kernel)
theorem zw296 : Cond.code yX5_putAmongChosen cX5_putAmongChosen 4 none ∈ zBig := zin 258 (by decide +kernel) (by decide +kernel)
theorem zw297 : Cond.methodLink RX5 310 yX5_putAmongChosen ∈ zBig := zin 255 (by decide +kernel) (by decide +kernel)
theorem zw298 : Cond.instanceMethod yX5_putAmongChosen ∈ zBig := zin 257 (by decide +kernel) (by decide +kernel)
theorem zw299 : Cond.selects RX5 yX5_putAmongChosen yX5_putAmongChosen ∈ zBig := zin 8 (by decide +kernel) (by decide +kernel)
theorem zw300 : Cond.code yX0_isAheadOf cX0_isAheadOf 2 (some .boolean) ∈ zBig := zin 262 (by decide +kernel) (by decide +kernel)
theorem zw301 : Cond.methodLink RX5 314 yX0_isAheadOf ∈ zBig := zin 259 (by decide +kernel) (by decide +kernel)
theorem zw302 : Cond.instanceMethod yX0_isAheadOf ∈ zBig := zin 260 (by decide +kernel) (by decide +kernel)
theorem zw303 : Cond.selects RX0 yX0_isAheadOf yX0_isAheadOf ∈ zBig := zin 261 (by decide +kernel) (by decide +kernel)
theorem zw304 : Cond.constantLong RX5 318 (31 : Int64) ∈ zBig := zin 310 (by decide +kernel) (by decide +kernel)
theorem zw305 : Cond.code yX5_many cX5_many 2 (some .int) ∈ zBig := zin 150 (by decide +kernel) (by decide +kernel)
theorem zw306 : Cond.methodLink RX5 320 yX5_many ∈ zBig := zin 306 (by decide +kernel) (by decide +kernel)
theorem zw307 : Cond.instanceMethod yX5_many ∈ zBig := zin 148 (by decide +kernel) (by decide +kernel)
theorem zw308 : Cond.selects RX5 yX5_many yX5_many ∈ zBig := zin 149 (by decide +kernel) (by decide +kernel)
theorem zw309 : Cond.code yX5_mix cX5_mix 4 (some .long) ∈ zBig := zin 309 (by decide +kernel) (by decide +kernel)
theorem zw310 : Cond.methodLink RX5 323 yX5_mix ∈ zBig := zin 307 (by decide +kernel) (by decide +kernel)
theorem zw311 : Cond.static yX5_mix ∈ zBig := zin 308 (by decide +kernel) (by decide +kernel)
theorem zw312 : Cond.code yX5_wouldSee cX5_wouldSee 5 (some .int) ∈ zBig := zin 293 (by decide +kernel) (by decide +kernel)
theorem zw313 : Cond.methodLink RX5 327 yX5_wouldSee ∈ zBig := zin 319 (by decide +kernel) (by decide +kernel)
theorem zw314 : Cond.instanceMethod yX5_wouldSee ∈ zBig := zin 291 (by decide +kernel) (by decide +kernel)
theorem zw315 : Cond.selects RX5 yX5_wouldSee yX5_wouldSee ∈ zBig := zin 292 (by decide +kernel) (by decide +kernel)
theorem zw316 : Cond.code yX5_over cX5_over 6 (some .int) ∈ zBig := zin 242 (by decide +kernel) (by decide +kernel)
theorem zw317 : Cond.methodLink RX5 330 yX5_over ∈ zBig := zin 320 (by decide +kernel) (by decide +kernel)
theorem zw318 : Cond.instanceMethod yX5_over ∈ zBig := zin 240 (by decide +kernel) (by decide +kernel)
theorem zw319 : Cond.selects RX5 yX5_over yX5_over ∈ zBig := zin 241 (by decide +kernel) (by decide +kernel)
theorem zw320 : Cond.code yX5_ofNote cX5_ofNote 4 (some .int) ∈ zBig := zin 204 (by decide +kernel) (by decide +kernel)
theorem zw321 : Cond.methodLink RX5 333 yX5_ofNote ∈ zBig := zin 325 (by decide +kernel) (by decide +kernel)
theorem zw322 : Cond.instanceMethod yX5_ofNote ∈ zBig := zin 202 (by decide +kernel) (by decide +kernel)
theorem zw323 : Cond.selects RX5 yX5_ofNote yX5_ofNote ∈ zBig := zin 203 (by decide +kernel) (by decide +kernel)
theorem zw324 : Cond.code yX5_wouldHeal cX5_wouldHeal 2 (some .int) ∈ zBig := zin 329 (by decide +kernel) (by decide +kernel)
theorem zw325 : Cond.methodLink RX5 336 yX5_wouldHeal ∈ zBig := zin 326 (by decide +kernel) (by decide +kernel)
theorem zw326 : Cond.instanceMethod yX5_wouldHeal ∈ zBig := zin 327 (by decide +kernel) (by decide +kernel)
theorem zw327 : Cond.selects RX5 yX5_wouldHeal yX5_wouldHeal ∈ zBig := zin 328 (by decide +kernel) (by decide +kernel)
theorem zw328 : Cond.code yX5_sees cX5_sees 3 (some .boolean) ∈ zBig := zin 222 (by decide +kernel) (by decide +kernel)
theorem zw329 : Cond.methodLink RX5 339 yX5_sees ∈ zBig := zin 339 (by decide +kernel) (by decide +kernel)
theorem zw330 : Cond.instanceMethod yX5_sees ∈ zBig := zin 220 (by decide +kernel) (by decide +kernel)
theorem zw331 : Cond.selects RX5 yX5_sees yX5_sees ∈ zBig := zin 221 (by decide +kernel) (by decide +kernel)
theorem zw332 : Cond.methodLink RX6 1 Lib.objectInit ∈ zBig := zin 349 (by decide +kernel) (by decide +kernel)
theorem zw333 : Cond.classLink RX6 7 RX5 ∈ zBig := zin 350 (by decide +kernel) (by decide +kernel)
theorem zw334 : Cond.instantiable RX5 7 ∈ zBig := zin 174 (by decide +kernel) (by decide +kernel)
theorem zw335 : Cond.code yX5_init cX5_init 1 none ∈ zBig := zin 353 (by decide +kernel) (by decide +kernel)
theorem zw336 : Cond.methodLink RX6 9 yX5_init ∈ zBig := zin 351 (by decide +kernel) (by decide +kernel)
theorem zw337 : Cond.instanceMethod yX5_init ∈ zBig := zin 352 (by decide +kernel) (by decide +kernel)
theorem zw338 : Cond.fieldLink RX6 10 "MarginaliaLaw$Page" "m" "LMarginalia;" ∈ zBig := zin 424 (by decide +kernel) (by decide +kernel)
theorem zw339 : Cond.fieldLink RX6 16 "MarginaliaLaw$Page" "rights" "[I" ∈ zBig := zin 428 (by decide +kernel) (by decide +kernel)
theorem zw340 : Cond.classLink RX6 20 "[[[I" ∈ zBig := zin 421 (by decide +kernel) (by decide +kernel)
theorem zw341 : Cond.fieldLink RX6 22 "MarginaliaLaw$Page" "texts" "[[[I" ∈ zBig := zin 431 (by decide +kernel) (by decide +kernel)
theorem zw342 : Cond.classLink RX6 25 "[I" ∈ zBig := zin 423 (by decide +kernel) (by decide +kernel)
theorem zw343 : Cond.fieldLink RX6 26 "MarginaliaLaw$Page" "notes" "[[I" ∈ zBig := zin 432 (by decide +kernel) (by decide +kernel)
theorem zw344 : Cond.fieldLink RX6 30 "MarginaliaLaw$Page" "exported" "[[I" ∈ zBig := zin 434 (by decide +kernel) (by decide +kernel)
theorem zw345 : Cond.fieldLink RX6 33 "MarginaliaLaw$Page" "s" "[I" ∈ zBig := zin 426 (by decide +kernel) (by decide +kernel)
theorem zw346 : Cond.fieldLink RX6 36 "MarginaliaLaw$Page" "draws" "I" ∈ zBig := zin 427 (by decide +kernel) (by decide +kernel)
theorem zw347 : Cond.code yL_cell cL_cell 2 (some .int) ∈ zBig := zin 458 (by decide +kernel) (by decide +kernel)
theorem zw348 : Cond.initialized RL ∈ zBig := zin 26 (by decide +kernel) (by decide +kernel)
theorem zw349 : Cond.static yL_cell ∈ zBig := zin 457 (by decide +kernel) (by decide +kernel)
theorem zw350 : Cond.code yL_below cL_below 2 (some .int) ∈ zBig := zin 462 (by decide +kernel) (by decide +kernel)
theorem zw351 : Cond.static yL_below ∈ zBig := zin 461 (by decide +kernel) (by decide +kernel)
theorem zw352 : Cond.methodLink RX6 50 arraycopyName ∈ zBig := zin 473 (by decide +kernel) (by decide +kernel)
theorem zw353 : Cond.classLink RX6 56 "[[I" ∈ zBig := zin 544 (by decide +kernel) (by decide +kernel)
theorem zw354 : Cond.code yX5_user cX5_user 2 (some .int) ∈ zBig := zin 479 (by decide +kernel) (by decide +kernel)
theorem zw355 : Cond.methodLink RX6 57 yX5_user ∈ zBig := zin 476 (by decide +kernel) (by decide +kernel)
theorem zw356 : Cond.instanceMethod yX5_user ∈ zBig := zin 477 (by decide +kernel) (by decide +kernel)
theorem zw357 : Cond.selects RX5 yX5_user yX5_user ∈ zBig := zin 478 (by decide +kernel) (by decide +kernel)
theorem zw358 : Cond.code yX6_draw cX6_draw 3 (some .int) ∈ zBig := zin 455 (by decide +kernel) (by decide +kernel)
theorem zw359 : Cond.methodLink RX6 61 yX6_draw ∈ zBig := zin 468 (by decide +kernel) (by decide +kernel)
theorem zw360 : Cond.instanceMethod yX6_draw ∈ zBig := zin 453 (by decide +kernel) (by decide +kernel)
theorem zw361 : Cond.selects RX6 yX6_draw yX6_draw ∈ zBig := zin 454 (by decide +kernel) (by decide +kernel)
theorem zw362 : Cond.initialized RX6 ∈ zBig := zin 27 (by decide +kernel) (by decide +kernel)
theorem zw363 : Cond.code yX5_setRight cX5_setRight 5 (some .int) ∈ zBig := zin 710 (by decide +kernel) (by decide +kernel)
theorem zw364 : Cond.methodLink RX6 64 yX5_setRight ∈ zBig := zin 707 (by decide +kernel) (by decide +kernel)
theorem zw365 : Cond.instanceMethod yX5_setRight ∈ zBig := zin 708 (by decide +kernel) (by decide +kernel)
theorem zw366 : Cond.selects RX5 yX5_setRight yX5_setRight ∈ zBig := zin 709 (by decide +kernel) (by decide +kernel)
theorem zw367 : Cond.code yX6_text cX6_text 1 (some (.array (.array .int))) ∈ zBig := zin 507 (by decide +kernel) (by decide +kernel)
theorem zw368 : Cond.methodLink RX6 68 yX6_text ∈ zBig := zin 504 (by decide +kernel) (by decide +kernel)
theorem zw369 : Cond.instanceMethod yX6_text ∈ zBig := zin 505 (by decide +kernel) (by decide +kernel)
theorem zw370 : Cond.selects RX6 yX6_text yX6_text ∈ zBig := zin 506 (by decide +kernel) (by decide +kernel)
theorem zw371 : Cond.fieldLink RX6 72 "MarginaliaLaw$Page" "ever" "I" ∈ zBig := zin 430 (by decide +kernel) (by decide +kernel)
theorem zw372 : Cond.code yX6_with cX6_with 4 (some (.array (.array .int))) ∈ zBig := zin 539 (by decide +kernel) (by decide +kernel)
theorem zw373 : Cond.methodLink RX6 75 yX6_with ∈ zBig := zin 537 (by decide +kernel) (by decide +kernel)
theorem zw374 : Cond.static yX6_with ∈ zBig := zin 538 (by decide +kernel) (by decide +kernel)
theorem zw375 : Cond.code yX6_edited cX6_edited 3 none ∈ zBig := zin 543 (by decide +kernel) (by decide +kernel)
theorem zw376 : Cond.methodLink RX6 79 yX6_edited ∈ zBig := zin 540 (by decide +kernel) (by decide +kernel)
theorem zw377 : Cond.instanceMethod yX6_edited ∈ zBig := zin 542 (by decide +kernel) (by decide +kernel)
theorem zw378 : Cond.selects RX6 yX6_edited yX6_edited ∈ zBig := zin 17 (by decide +kernel) (by decide +kernel)
theorem zw379 : Cond.classLink RX6 91 "java/lang/IllegalStateException" ∈ zBig := zin 503 (by decide +kernel) (by decide +kernel)
theorem zw380 : Cond.code yX5_insert cX5_insert 5 (some .int) ∈ zBig := zin 511 (by decide +kernel) (by decide +kernel)
theorem zw381 : Cond.methodLink RX6 83 yX5_insert ∈ zBig := zin 508 (by decide +kernel) (by decide +kernel)
theorem zw382 : Cond.instanceMethod yX5_insert ∈ zBig := zin 509 (by decide +kernel) (by decide +kernel)
theorem zw383 : Cond.selects RX5 yX5_insert yX5_insert ∈ zBig := zin 510 (by decide +kernel) (by decide +kernel)
theorem zw384 : Cond.code yX6_put cX6_put 9 none ∈ zBig := zin 536 (by decide +kernel) (by decide +kernel)
theorem zw385 : Cond.methodLink RX6 87 yX6_put ∈ zBig := zin 533 (by decide +kernel) (by decide +kernel)
theorem zw386 : Cond.instanceMethod yX6_put ∈ zBig := zin 535 (by decide +kernel) (by decide +kernel)
theorem zw387 : Cond.selects RX6 yX6_put yX6_put ∈ zBig := zin 16 (by decide +kernel) (by decide +kernel)
theorem zw388 : Cond.methodLink RX6 93 Lib.Math.min.name ∈ zBig := zin 549 (by decide +kernel) (by decide +kernel)
theorem zw389 : Cond.code yX5_delete cX5_delete 4 (some .int) ∈ zBig := zin 718 (by decide +kernel) (by decide +kernel)
theorem zw390 : Cond.methodLink RX6 98 yX5_delete ∈ zBig := zin 715 (by decide +kernel) (by decide +kernel)
theorem zw391 : Cond.instanceMethod yX5_delete ∈ zBig := zin 716 (by decide +kernel) (by decide +kernel)
theorem zw392 : Cond.selects RX5 yX5_delete yX5_delete ∈ zBig := zin 717 (by decide +kernel) (by decide +kernel)
theorem zw393 : Cond.code yX6_cut cX6_cut 10 none ∈ zBig := zin 737 (by decide +kernel) (by decide +kernel)
theorem zw394 : Cond.methodLink RX6 101 yX6_cut ∈ zBig := zin 734 (by decide +kernel) (by decide +kernel)
theorem zw395 : Cond.instanceMethod yX6_cut ∈ zBig := zin 736 (by decide +kernel) (by decide +kernel)
theorem zw396 : Cond.selects RX6 yX6_cut yX6_cut ∈ zBig := zin 21 (by decide +kernel) (by decide +kernel)
theorem zw397 : Cond.code yX6_sees cX6_sees 5 (some .boolean) ∈ zBig := zin 690 (by decide +kernel) (by decide +kernel)
theorem zw398 : Cond.methodLink RX6 105 yX6_sees ∈ zBig := zin 687 (by decide +kernel) (by decide +kernel)
theorem zw399 : Cond.instanceMethod yX6_sees ∈ zBig := zin 688 (by decide +kernel) (by decide +kernel)
theorem zw400 : Cond.selects RX6 yX6_sees yX6_sees ∈ zBig := zin 689 (by decide +kernel) (by decide +kernel)
theorem zw401 : Cond.code yX5_note cX5_note 7 (some .int) ∈ zBig := zin 555 (by decide +kernel) (by decide +kernel)
theorem zw402 : Cond.methodLink RX6 109 yX5_note ∈ zBig := zin 552 (by decide +kernel) (by decide +kernel)
theorem zw403 : Cond.instanceMethod yX5_note ∈ zBig := zin 553 (by decide +kernel) (by decide +kernel)
theorem zw404 : Cond.selects RX5 yX5_note yX5_note ∈ zBig := zin 554 (by decide +kernel) (by decide +kernel)
theorem zw405 : Cond.code yX6_any cX6_any 6 (some .int) ∈ zBig := zin 682 (by decide +kernel) (by decide +kernel)
theorem zw406 : Cond.methodLink RX6 113 yX6_any ∈ zBig := zin 679 (by decide +kernel) (by decide +kernel)
theorem zw407 : Cond.instanceMethod yX6_any ∈ zBig := zin 680 (by decide +kernel) (by decide +kernel)
theorem zw408 : Cond.selects RX6 yX6_any yX6_any ∈ zBig := zin 681 (by decide +kernel) (by decide +kernel)
theorem zw409 : Cond.code yX6_sees_ cX6_sees_ 3 (some .boolean) ∈ zBig := zin 686 (by decide +kernel) (by decide +kernel)
theorem zw410 : Cond.methodLink RX6 117 yX6_sees_ ∈ zBig := zin 683 (by decide +kernel) (by decide +kernel)
theorem zw411 : Cond.instanceMethod yX6_sees_ ∈ zBig := zin 684 (by decide +kernel) (by decide +kernel)
theorem zw412 : Cond.selects RX6 yX6_sees_ yX6_sees_ ∈ zBig := zin 685 (by decide +kernel) (by decide +kernel)
theorem zw413 : Cond.code yX5_reply cX5_reply 6 (some .int) ∈ zBig := zin 694 (by decide +kernel) (by decide +kernel)
theorem zw414 : Cond.methodLink RX6 120 yX5_reply ∈ zBig := zin 691 (by decide +kernel) (by decide +kernel)
theorem zw415 : Cond.instanceMethod yX5_reply ∈ zBig := zin 692 (by decide +kernel) (by decide +kernel)
theorem zw416 : Cond.selects RX5 yX5_reply yX5_reply ∈ zBig := zin 693 (by decide +kernel) (by decide +kernel)
theorem zw417 : Cond.code yX5_settle cX5_settle 7 (some .boolean) ∈ zBig := zin 745 (by decide +kernel) (by decide +kernel)
theorem zw418 : Cond.methodLink RX6 123 yX5_settle ∈ zBig := zin 742 (by decide +kernel) (by decide +kernel)
theorem zw419 : Cond.instanceMethod yX5_settle ∈ zBig := zin 743 (by decide +kernel) (by decide +kernel)
theorem zw420 : Cond.selects RX5 yX5_settle yX5_settle ∈ zBig := zin 744 (by decide +kernel) (by decide +kernel)
theorem zw421 : Cond.code yX5_remove cX5_remove 4 (some .int) ∈ zBig := zin 753 (by decide +kernel) (by decide +kernel)
theorem zw422 : Cond.methodLink RX6 127 yX5_remove ∈ zBig := zin 750 (by decide +kernel) (by decide +kernel)
theorem zw423 : Cond.instanceMethod yX5_remove ∈ zBig := zin 751 (by decide +kernel) (by decide +kernel)
theorem zw424 : Cond.selects RX5 yX5_remove yX5_remove ∈ zBig := zin 752 (by decide +kernel) (by decide +kernel)
theorem zw425 : Cond.code yX6_replies cX6_replies 7 (some .int) ∈ zBig := zin 761 (by decide +kernel) (by decide +kernel)
theorem zw426 : Cond.methodLink RX6 130 yX6_replies ∈ zBig := zin 758 (by decide +kernel) (by decide +kernel)
theorem zw427 : Cond.instanceMethod yX6_replies ∈ zBig := zin 759 (by decide +kernel) (by decide +kernel)
theorem zw428 : Cond.selects RX6 yX6_replies yX6_replies ∈ zBig := zin 760 (by decide +kernel) (by decide +kernel)
theorem zw429 : Cond.code yX5_propose cX5_propose 6 (some .int) ∈ zBig := zin 769 (by decide +kernel) (by decide +kernel)
theorem zw430 : Cond.methodLink RX6 133 yX5_propose ∈ zBig := zin 766 (by decide +kernel) (by decide +kernel)
theorem zw431 : Cond.instanceMethod yX5_propose ∈ zBig := zin 767 (by decide +kernel) (by decide +kernel)
theorem zw432 : Cond.selects RX5 yX5_propose yX5_propose ∈ zBig := zin 768 (by decide +kernel) (by decide +kernel)
theorem zw433 : Cond.code yX5_take cX5_take 4 (some .int) ∈ zBig := zin 777 (by decide +kernel) (by decide +kernel)
theorem zw434 : Cond.methodLink RX6 136 yX5_take ∈ zBig := zin 774 (by decide +kernel) (by decide +kernel)
theorem zw435 : Cond.instanceMethod yX5_take ∈ zBig := zin 775 (by decide +kernel) (by decide +kernel)
theorem zw436 : Cond.selects RX5 yX5_take yX5_take ∈ zBig := zin 776 (by decide +kernel) (by decide +kernel)
theorem zw437 : Cond.code yX6_stands cX6_stands 4 (some .boolean) ∈ zBig := zin 810 (by decide +kernel) (by decide +kernel)
theorem zw438 : Cond.methodLink RX6 139 yX6_stands ∈ zBig := zin 807 (by decide +kernel) (by decide +kernel)
theorem zw439 : Cond.instanceMethod yX6_stands ∈ zBig := zin 809 (by decide +kernel) (by decide +kernel)
theorem zw440 : Cond.selects RX6 yX6_stands yX6_stands ∈ zBig := zin 24 (by decide +kernel) (by decide +kernel)
theorem zw441 : Cond.code yX6_isHead cX6_isHead 2 (some .boolean) ∈ zBig := zin 802 (by decide +kernel) (by decide +kernel)
theorem zw442 : Cond.methodLink RX6 143 yX6_isHead ∈ zBig := zin 799 (by decide +kernel) (by decide +kernel)
theorem zw443 : Cond.instanceMethod yX6_isHead ∈ zBig := zin 800 (by decide +kernel) (by decide +kernel)
theorem zw444 : Cond.selects RX6 yX6_isHead yX6_isHead ∈ zBig := zin 801 (by decide +kernel) (by decide +kernel)
theorem zw445 : Cond.code yX6_found cX6_found 4 (some .int) ∈ zBig := zin 806 (by decide +kernel) (by decide +kernel)
theorem zw446 : Cond.methodLink RX6 147 yX6_found ∈ zBig := zin 803 (by decide +kernel) (by decide +kernel)
theorem zw447 : Cond.instanceMethod yX6_found ∈ zBig := zin 804 (by decide +kernel) (by decide +kernel)
theorem zw448 : Cond.selects RX6 yX6_found yX6_found ∈ zBig := zin 805 (by decide +kernel) (by decide +kernel)
theorem zw449 : Cond.code yX5_heal cX5_heal 3 (some .int) ∈ zBig := zin 814 (by decide +kernel) (by decide +kernel)
theorem zw450 : Cond.methodLink RX6 150 yX5_heal ∈ zBig := zin 811 (by decide +kernel) (by decide +kernel)
theorem zw451 : Cond.instanceMethod yX5_heal ∈ zBig := zin 812 (by decide +kernel) (by decide +kernel)
theorem zw452 : Cond.selects RX5 yX5_heal yX5_heal ∈ zBig := zin 813 (by decide +kernel) (by decide +kernel)
theorem zw453 : Cond.code yX6_addUser cX6_addUser 3 (some .boolean) ∈ zBig := zin 472 (by decide +kernel) (by decide +kernel)
theorem zw454 : Cond.methodLink RX6 153 yX6_addUser ∈ zBig := zin 469 (by decide +kernel) (by decide +kernel)
theorem zw455 : Cond.instanceMethod yX6_addUser ∈ zBig := zin 470 (by decide +kernel) (by decide +kernel)
theorem zw456 : Cond.selects RX6 yX6_addUser yX6_addUser ∈ zBig := zin 471 (by decide +kernel) (by decide +kernel)
theorem zw457 : Cond.codeWith yX6_insert cX6_insert 7 (some .boolean) [(95, 115, 140, 91), (116, 139, 140, 91)] ∈ zBig := zin 502 (by decide +kernel) (by decide +kernel)
theorem zw458 : Cond.methodLink RX6 156 yX6_insert ∈ zBig := zin 499 (by decide +kernel) (by decide +kernel)
theorem zw459 : Cond.instanceMethod yX6_insert ∈ zBig := zin 500 (by decide +kernel) (by decide +kernel)
theorem zw460 : Cond.selects RX6 yX6_insert yX6_insert ∈ zBig := zin 501 (by decide +kernel) (by decide +kernel)
theorem zw461 : Cond.codeWith yX6_note cX6_note 11 (some .boolean) [(220, 242, 279, 91), (243, 278, 279, 91)] ∈ zBig := zin 548 (by decide +kernel) (by decide +kernel)
theorem zw462 : Cond.methodLink RX6 159 yX6_note ∈ zBig := zin 545 (by decide +kernel) (by decide +kernel)
theorem zw463 : Cond.instanceMethod yX6_note ∈ zBig := zin 546 (by decide +kernel) (by decide +kernel)
theorem zw464 : Cond.selects RX6 yX6_note yX6_note ∈ zBig := zin 547 (by decide +kernel) (by decide +kernel)
theorem zw465 : Cond.codeWith yX6_reply cX6_reply 7 (some .boolean) [(76, 94, 180, 91), (95, 179, 180, 91)] ∈ zBig := zin 678 (by decide +kernel) (by decide +kernel)
theorem zw466 : Cond.methodLink RX6 161 yX6_reply ∈ zBig := zin 675 (by decide +kernel) (by decide +kernel)
theorem zw467 : Cond.instanceMethod yX6_reply ∈ zBig := zin 676 (by decide +kernel) (by decide +kernel)
theorem zw468 : Cond.selects RX6 yX6_reply yX6_reply ∈ zBig := zin 677 (by decide +kernel) (by decide +kernel)
theorem zw469 : Cond.code yX6_setRight cX6_setRight 3 (some .boolean) ∈ zBig := zin 706 (by decide +kernel) (by decide +kernel)
theorem zw470 : Cond.methodLink RX6 163 yX6_setRight ∈ zBig := zin 703 (by decide +kernel) (by decide +kernel)
theorem zw471 : Cond.instanceMethod yX6_setRight ∈ zBig := zin 704 (by decide +kernel) (by decide +kernel)
theorem zw472 : Cond.selects RX6 yX6_setRight yX6_setRight ∈ zBig := zin 705 (by decide +kernel) (by decide +kernel)
theorem zw473 : Cond.codeWith yX6_delete cX6_delete 6 (some .boolean) [(76, 94, 117, 91), (95, 116, 117, 91)] ∈ zBig := zin 714 (by decide +kernel) (by decide +kernel)
theorem zw474 : Cond.methodLink RX6 165 yX6_delete ∈ zBig := zin 711 (by decide +kernel) (by decide +kernel)
theorem zw475 : Cond.instanceMethod yX6_delete ∈ zBig := zin 712 (by decide +kernel) (by decide +kernel)
theorem zw476 : Cond.selects RX6 yX6_delete yX6_delete ∈ zBig := zin 713 (by decide +kernel) (by decide +kernel)
theorem zw477 : Cond.codeWith yX6_settle cX6_settle 7 (some .boolean) [(83, 120, 137, 91), (121, 136, 137, 91)] ∈ zBig := zin 741 (by decide +kernel) (by decide +kernel)
theorem zw478 : Cond.methodLink RX6 167 yX6_settle ∈ zBig := zin 738 (by decide +kernel) (by decide +kernel)
theorem zw479 : Cond.instanceMethod yX6_settle ∈ zBig := zin 739 (by decide +kernel) (by decide +kernel)
theorem zw480 : Cond.selects RX6 yX6_settle yX6_settle ∈ zBig := zin 740 (by decide +kernel) (by decide +kernel)
theorem zw481 : Cond.codeWith yX6_remove cX6_remove 7 (some .boolean) [(69, 85, 168, 91), (86, 167, 168, 91)] ∈ zBig := zin 749 (by decide +kernel) (by decide +kernel)
theorem zw482 : Cond.methodLink RX6 169 yX6_remove ∈ zBig := zin 746 (by decide +kernel) (by decide +kernel)
theorem zw483 : Cond.instanceMethod yX6_remove ∈ zBig := zin 747 (by decide +kernel) (by decide +kernel)
theorem zw484 : Cond.selects RX6 yX6_remove yX6_remove ∈ zBig := zin 748 (by decide +kernel) (by decide +kernel)
theorem zw485 : Cond.codeWith yX6_propose cX6_propose 7 (some .boolean) [(84, 104, 138, 91), (105, 137, 138, 91)] ∈ zBig := zin 765 (by decide +kernel) (by decide +kernel)
theorem zw486 : Cond.methodLink RX6 171 yX6_propose ∈ zBig := zin 762 (by decide +kernel) (by decide +kernel)
theorem zw487 : Cond.instanceMethod yX6_propose ∈ zBig := zin 763 (by decide +kernel) (by decide +kernel)
theorem zw488 : Cond.selects RX6 yX6_propose yX6_propose ∈ zBig := zin 764 (by decide +kernel) (by decide +kernel)
theorem zw489 : Cond.codeWith yX6_take cX6_take 8 (some .boolean) [(129, 146, 223, 91), (147, 222, 223, 91)] ∈ zBig := zin 773 (by decide +kernel) (by decide +kernel)
theorem zw490 : Cond.methodLink RX6 173 yX6_take ∈ zBig := zin 770 (by decide +kernel) (by decide +kernel)
theorem zw491 : Cond.instanceMethod yX6_take ∈ zBig := zin 771 (by decide +kernel) (by decide +kernel)
theorem zw492 : Cond.selects RX6 yX6_take yX6_take ∈ zBig := zin 772 (by decide +kernel) (by decide +kernel)
theorem zw493 : Cond.code yX6_heal cX6_heal 3 (some .boolean) ∈ zBig := zin 798 (by decide +kernel) (by decide +kernel)
theorem zw494 : Cond.methodLink RX6 175 yX6_heal ∈ zBig := zin 795 (by decide +kernel) (by decide +kernel)
theorem zw495 : Cond.instanceMethod yX6_heal ∈ zBig := zin 796 (by decide +kernel) (by decide +kernel)
theorem zw496 : Cond.selects RX6 yX6_heal yX6_heal ∈ zBig := zin 797 (by decide +kernel) (by decide +kernel)
theorem zw497 : Cond.constant RL 7 (Int32.ofInt 2147483647) ∈ zBig := zin 463 (by decide +kernel) (by decide +kernel)
theorem zw498 : Cond.constant RL 8 (Int32.ofInt 790386105) ∈ zBig := zin 459 (by decide +kernel) (by decide +kernel)
theorem zw499 : Cond.classLink RL 9 RX6 ∈ zBig := zin 344 (by decide +kernel) (by decide +kernel)
theorem zw500 : Cond.instantiable RX6 8 ∈ zBig := zin 345 (by decide +kernel) (by decide +kernel)
theorem zw501 : Cond.code yX6_init cX6_init 3 none ∈ zBig := zin 348 (by decide +kernel) (by decide +kernel)
theorem zw502 : Cond.methodLink RL 11 yX6_init ∈ zBig := zin 346 (by decide +kernel) (by decide +kernel)
theorem zw503 : Cond.instanceMethod yX6_init ∈ zBig := zin 347 (by decide +kernel) (by decide +kernel)
theorem zw504 : Cond.fieldLink RL 14 "MarginaliaLaw$Page" "m" "LMarginalia;" ∈ zBig := zin 425 (by decide +kernel) (by decide +kernel)
theorem zw505 : Cond.code yX6_found_ cX6_found_ 2 (some .boolean) ∈ zBig := zin 467 (by decide +kernel) (by decide +kernel)
theorem zw506 : Cond.methodLink RL 18 yX6_found_ ∈ zBig := zin 464 (by decide +kernel) (by decide +kernel)
theorem zw507 : Cond.instanceMethod yX6_found_ ∈ zBig := zin 465 (by decide +kernel) (by decide +kernel)
theorem zw508 : Cond.selects RX6 yX6_found_ yX6_found_ ∈ zBig := zin 466 (by decide +kernel) (by decide +kernel)
theorem zw509 : Cond.code yX6_act cX6_act 1 (some .boolean) ∈ zBig := zin 702 (by decide +kernel) (by decide +kernel)
theorem zw510 : Cond.methodLink RL 22 yX6_act ∈ zBig := zin 699 (by decide +kernel) (by decide +kernel)
theorem zw511 : Cond.instanceMethod yX6_act ∈ zBig := zin 700 (by decide +kernel) (by decide +kernel)
theorem zw512 : Cond.selects RX6 yX6_act yX6_act ∈ zBig := zin 701 (by decide +kernel) (by decide +kernel)
theorem zw513 : Cond.code yX5_digest cX5_digest 4 (some .long) ∈ zBig := zin 300 (by decide +kernel) (by decide +kernel)
theorem zw514 : Cond.methodLink RL 25 yX5_digest ∈ zBig := zin 297 (by decide +kernel) (by decide +kernel)
theorem zw515 : Cond.instanceMethod yX5_digest ∈ zBig := zin 298 (by decide +kernel) (by decide +kernel)
theorem zw516 : Cond.selects RX5 yX5_digest yX5_digest ∈ zBig := zin 299 (by decide +kernel) (by decide +kernel)
theorem zw517 : Cond.fieldLink RL 31 "MarginaliaLaw$Page" "notes" "[[I" ∈ zBig := zin 433 (by decide +kernel) (by decide +kernel)
theorem zw518 : Cond.methodLink RL 35 yX5_ofNote ∈ zBig := zin 201 (by decide +kernel) (by decide +kernel)
theorem zw519 : Cond.code yX5_length cX5_length 1 (some .int) ∈ zBig := zin 45 (by decide +kernel) (by decide +kernel)
theorem zw520 : Cond.methodLink RL 39 yX5_length ∈ zBig := zin 42 (by decide +kernel) (by decide +kernel)
theorem zw521 : Cond.instanceMethod yX5_length ∈ zBig := zin 43 (by decide +kernel) (by decide +kernel)
theorem zw522 : Cond.selects RX5 yX5_length yX5_length ∈ zBig := zin 44 (by decide +kernel) (by decide +kernel)
theorem zw523 : Cond.fieldLink RL 43 "MarginaliaLaw$Page" "rights" "[I" ∈ zBig := zin 429 (by decide +kernel) (by decide +kernel)
theorem zw524 : Cond.methodLink RL 47 yX5_sees ∈ zBig := zin 219 (by decide +kernel) (by decide +kernel)
theorem zw525 : Cond.arrayClass .boolean ∈ zBig := zin 819 (by decide +kernel) (by decide +kernel)
theorem zw526 : Cond.code yX5_thread cX5_thread 5 (some .int) ∈ zBig := zin 234 (by decide +kernel) (by decide +kernel)
theorem zw527 : Cond.methodLink RL 51 yX5_thread ∈ zBig := zin 231 (by decide +kernel) (by decide +kernel)
theorem zw528 : Cond.instanceMethod yX5_thread ∈ zBig := zin 232 (by decide +kernel) (by decide +kernel)
theorem zw529 : Cond.selects RX5 yX5_thread yX5_thread ∈ zBig := zin 233 (by decide +kernel) (by decide +kernel)
theorem zw530 : Cond.methodLink RL 54 yX5_many ∈ zBig := zin 147 (by decide +kernel) (by decide +kernel)
theorem zw531 : Cond.code yX5_meanThread cX5_meanThread 2 (some .double) ∈ zBig := zin 275 (by decide +kernel) (by decide +kernel)
theorem zw532 : Cond.methodLink RL 58 yX5_meanThread ∈ zBig := zin 272 (by decide +kernel) (by decide +kernel)
theorem zw533 : Cond.instanceMethod yX5_meanThread ∈ zBig := zin 273 (by decide +kernel) (by decide +kernel)
theorem zw534 : Cond.selects RX5 yX5_meanThread yX5_meanThread ∈ zBig := zin 274 (by decide +kernel) (by decide +kernel)
theorem zw535 : Cond.methodLink RL 62 yX5_wouldSee ∈ zBig := zin 290 (by decide +kernel) (by decide +kernel)
theorem zw536 : Cond.code yX5_version cX5_version 1 (some .int) ∈ zBig := zin 146 (by decide +kernel) (by decide +kernel)
theorem zw537 : Cond.methodLink RL 65 yX5_version ∈ zBig := zin 143 (by decide +kernel) (by decide +kernel)
theorem zw538 : Cond.instanceMethod yX5_version ∈ zBig := zin 144 (by decide +kernel) (by decide +kernel)
theorem zw539 : Cond.selects RX5 yX5_version yX5_version ∈ zBig := zin 145 (by decide +kernel) (by decide +kernel)
theorem zw540 : Cond.code yX5_now cX5_now 3 (some .int) ∈ zBig := zin 53 (by decide +kernel) (by decide +kernel)
theorem zw541 : Cond.methodLink RL 68 yX5_now ∈ zBig := zin 50 (by decide +kernel) (by decide +kernel)
theorem zw542 : Cond.instanceMethod yX5_now ∈ zBig := zin 51 (by decide +kernel) (by decide +kernel)
theorem zw543 : Cond.selects RX5 yX5_now yX5_now ∈ zBig := zin 52 (by decide +kernel) (by decide +kernel)
theorem zw544 : Cond.methodLink RL 71 yX5_over ∈ zBig := zin 239 (by decide +kernel) (by decide +kernel)
theorem zw545 : Cond.code yX5_lostBy cX5_lostBy 5 (some .int) ∈ zBig := zin 279 (by decide +kernel) (by decide +kernel)
theorem zw546 : Cond.methodLink RL 74 yX5_lostBy ∈ zBig := zin 276 (by decide +kernel) (by decide +kernel)
theorem zw547 : Cond.instanceMethod yX5_lostBy ∈ zBig := zin 277 (by decide +kernel) (by decide +kernel)
theorem zw548 : Cond.selects RX5 yX5_lostBy yX5_lostBy ∈ zBig := zin 278 (by decide +kernel) (by decide +kernel)
theorem zw549 : Cond.methodLink RL 77 yX6_draw ∈ zBig := zin 452 (by decide +kernel) (by decide +kernel)
theorem zw550 : Cond.code yX5_export cX5_export 5 (some .int) ∈ zBig := zin 250 (by decide +kernel) (by decide +kernel)
theorem zw551 : Cond.methodLink RL 80 yX5_export ∈ zBig := zin 247 (by decide +kernel) (by decide +kernel)
theorem zw552 : Cond.instanceMethod yX5_export ∈ zBig := zin 248 (by decide +kernel) (by decide +kernel)
theorem zw553 : Cond.selects RX5 yX5_export yX5_export ∈ zBig := zin 249 (by decide +kernel) (by decide +kernel)
theorem zw554 : Cond.code yX5_right cX5_right 2 (some .int) ∈ zBig := zin 195 (by decide +kernel) (by decide +kernel)
theorem zw555 : Cond.methodLink RL 84 yX5_right ∈ zBig := zin 192 (by decide +kernel) (by decide +kernel)
theorem zw556 : Cond.instanceMethod yX5_right ∈ zBig := zin 193 (by decide +kernel) (by decide +kernel)
theorem zw557 : Cond.selects RX5 yX5_right yX5_right ∈ zBig := zin 194 (by decide +kernel) (by decide +kernel)
theorem zw558 : Cond.code yX5_exported cX5_exported 3 (some .int) ∈ zBig := zin 271 (by decide +kernel) (by decide +kernel)
theorem zw559 : Cond.methodLink RL 87 yX5_exported ∈ zBig := zin 268 (by decide +kernel) (by decide +kernel)
theorem zw560 : Cond.instanceMethod yX5_exported ∈ zBig := zin 269 (by decide +kernel) (by decide +kernel)
theorem zw561 : Cond.selects RX5 yX5_exported yX5_exported ∈ zBig := zin 270 (by decide +kernel) (by decide +kernel)
theorem uz_0 : ∀ w ∈ u_ws RX0 TX0 2, w ∈ zBig := by decide +kernel
theorem df_0 : ∀ j, j < 2 → defaultValue (tyX0 j) = if fR 1 j = true then Value.null else Value.int 0 := by decide +kernel
theorem uz_1 : ∀ w ∈ u_ws RX1 TX1 2, w ∈ zBig := by decide +kernel
theorem df_1 : ∀ j, j < 2 → defaultValue (tyX1 j) = if fR 2 j = true then Value.null else Value.int 0 := by decide +kernel
theorem uz_2 : ∀ w ∈ u_ws RX2 TX2 10, w ∈ zBig := by decide +kernel
theorem df_2 : ∀ j, j < 10 → defaultValue (tyX2 j) = if fR 3 j = true then Value.null else Value.int 0 := by decide +kernel
theorem uz_3 : ∀ w ∈ u_ws RX3 TX3 8, w ∈ zBig := by decide +kernel
theorem df_3 : ∀ j, j < 8 → defaultValue (tyX3 j) = if fR 4 j = true then Value.null else Value.int 0 := by decide +kernel
theorem uz_4 : ∀ w ∈ u_ws RX4 TX4 5, w ∈ zBig := by decide +kernel
theorem df_4 : ∀ j, j < 5 → defaultValue (tyX4 j) = if fR 5 j = true then Value.null else Value.int 0 := by decide +kernel
theorem uz_5 : ∀ w ∈ u_ws RX5 TX5 7, w ∈ zBig := by decide +kernel
theorem df_5 : ∀ j, j < 7 → defaultValue (tyX5 j) = if fR 6 j = true then Value.null else Value.int 0 := by decide +kernel
theorem uz_6 : ∀ w ∈ u_ws RX6 TX6 8, w ∈ zBig := by decide +kernel
theorem df_6 : ∀ j, j < 8 → defaultValue (tyX6 j) = if fR 7 j = true then Value.null else Value.int 0 := by decide +kernel
def zDe : List MethodName := [Bundle.initS "java/lang/RuntimeException", Bundle.initS "java/lang/Exception", Bundle.initS "java/lang/Throwable"]
theorem zat_254 : ∀ w ∈ vx_atS RX5 254 (xcl 3) xsup, w ∈ zBig ∨ w = Cond.castable "java/lang/IndexOutOfBoundsException" "java/lang/IndexOutOfBoundsException" ∨ ∃ q ∈ zDe, w = Cond.declares q := by decide +kernel
theorem zat_269 : ∀ w ∈ vx_atS RX5 269 (xcl 1) xsup, w ∈ zBig ∨ w = Cond.castable "java/lang/IllegalArgumentException" "java/lang/IllegalArgumentException" ∨ ∃ q ∈ zDe, w = Cond.declares q := by decide +kernel
theorem zat_274 : ∀ w ∈ vx_atS RX5 274 (xcl 2) xsup, w ∈ zBig ∨ w = Cond.castable "java/lang/IllegalStateException" "java/lang/IllegalStateException" ∨ ∃ q ∈ zDe, w = Cond.declares q := by decide +kernel
def GwP : GwT := ([("Marginalia", 252, "there is no such user"), ("Marginalia", 257, "there is no such sign"), ("Marginalia", 259, "there is no such note"), ("Marginalia", 261, "the note is gone"), ("Marginalia", 263, "there is no such place or version"), ("Marginalia", 267, "a number is outside its range"), ("Marginalia", 272, "it is refused, or a limit is reached")], [], [("java/lang/IllegalArgumentException", "java/lang/IllegalArgumentException"), ("java/lang/IllegalStateException", "java/lang/IllegalStateException"), ("java/lang/IndexOutOfBoundsException", "java/lang/IndexOutOfBoundsException")], [("Marginalia", 94, "Marginalia$Text", "edits", "I", "Marginalia"), ("Marginalia", 131, "Marginalia$Note", "isEmpty", "Z", "Marginalia"), ("Marginalia", 135, "Marginalia$Note", "strand", "LMarginalia$Strand;", "Marginalia"), ("Marginalia", 143, "Marginalia$Strand", "isSettled", "Z", "Marginalia"), ("Marginalia", 146, "Marginalia$Strand", "author", "I", "Marginalia"), ("Marginalia", 149, "Marginalia$Note", "author", "I", "Marginalia"), ("Marginalia", 157, "Marginalia$Strand", "proposedMany", "I", "Marginalia"), ("Marginalia", 160, "Marginalia$Strand", "proposedSign", "I", "Marginalia"), ("Marginalia", 163, "Marginalia$Note", "number", "I", "Marginalia"), ("Marginalia", 190, "Marginalia$Strand", "quoted", "[I", "Marginalia"), ("Marginalia", 197, "Marginalia$Note", "isGone", "Z", "Marginalia"), ("Marginalia", 200, "Marginalia$Note", "nextInOrder", "LMarginalia$Note;", "Marginalia"), ("Marginalia", 204, "Marginalia$Strand", "anchor", "LMarginalia$Anchor;", "Marginalia"), ("Marginalia", 215, "Marginalia$Export", "size", "I", "Marginalia"), ("Marginalia", 220, "Marginalia$Export", "columns", "[[I", "Marginalia"), ("Marginalia", 289, "Marginalia$Anchor", "from", "I", "Marginalia"), ("Marginalia", 304, "Marginalia$Strand", "headNumber", "I", "Marginalia"), ("Marginalia$Export", 16, "Marginalia$Note", "isGone", "Z", "Marginalia"), ("Marginalia$Export", 26, "Marginalia$Note", "number", "I", "Marginalia"), ("Marginalia$Export", 29, "Marginalia$Note", "depth", "I", "Marginalia"), ("Marginalia$Export", 32, "Marginalia$Note", "strand", "LMarginalia$Strand;", "Marginalia"), ("Marginalia$Export", 36, "Marginalia$Strand", "anchor", "LMarginalia$Anchor;", "Marginalia"), ("Marginalia$Export", 42, "Marginalia$Anchor", "from", "I", "Marginalia"), ("Marginalia$Export", 51, "Marginalia$Note", "nextInOrder", "LMarginalia$Note;", "Marginalia"), ("Marginalia$Note", 45, "Marginalia$Strand", "headNumber", "I", "Marginalia"), ("Marginalia$Note", 54, "Marginalia$Strand", "anchor", "LMarginalia$Anchor;", "Marginalia"), ("Marginalia$Note", 58, "Marginalia$Anchor", "from", "I", "Marginalia"), ("Marginalia$Note", 63, "Marginalia$Anchor", "to", "I", "Marginalia"), ("Marginalia$Note", 66, "Marginalia$Strand", "isSettled", "Z", "Marginalia"), ("Marginalia$Note", 69, "Marginalia$Strand", "view", "I", "Marginalia"), ("Marginalia$Note", 72, "Marginalia$Strand", "proposedMany", "I", "Marginalia")], [("Marginalia$Text", 31, yX5_isWithin, "Marginalia"), ("MarginaliaLaw$Page", 40, yL_cell, "MarginaliaLaw"), ("MarginaliaLaw$Page", 46, yL_below, "MarginaliaLaw")], zDe)
def md_0 : MdT := (RX0, yX0_init, cX0_init, 3, none, Cond.code yX0_init cX0_init 3 none :: zBig, [], 1, 20)
def md_1 : MdT := (RX0, yX0_lay, cX0_lay, 3, none, Cond.code yX0_lay cX0_lay 3 none :: zBig, [], 0, 0)
def md_2 : MdT := (RX0, yX0_size, cX0_size, 1, (some .int), Cond.code yX0_size cX0_size 1 (some .int) :: zBig, [], 0, 0)
def md_3 : MdT := (RX0, yX0_isLost, cX0_isLost, 1, (some .boolean), Cond.code yX0_isLost cX0_isLost 1 (some .boolean) :: zBig, [], 0, 0)
def md_4 : MdT := (RX0, yX0_covers, cX0_covers, 2, (some .boolean), Cond.code yX0_covers cX0_covers 2 (some .boolean) :: zBig, [], 0, 0)
def md_5 : MdT := (RX0, yX0_isAheadOf, cX0_isAheadOf, 2, (some .boolean), Cond.code yX0_isAheadOf cX0_isAheadOf 2 (some .boolean) :: zBig, [], 0, 0)
def md_6 : MdT := (RX0, yX0_wouldBeLost, cX0_wouldBeLost, 3, (some .boolean), Cond.code yX0_wouldBeLost cX0_wouldBeLost 3 (some .boolean) :: zBig, [], 1, 20)
def md_7 : MdT := (RX0, yX0_moveAsPut, cX0_moveAsPut, 3, none, Cond.code yX0_moveAsPut cX0_moveAsPut 3 none :: zBig, [], 0, 0)
def md_8 : MdT := (RX0, yX0_moveAsCut, cX0_moveAsCut, 3, none, Cond.code yX0_moveAsCut cX0_moveAsCut 3 none :: zBig, [], 2, 43)
def md_9 : MdT := (RX0, yX0_cutAheadOf, cX0_cutAheadOf, 3, (some .int), Cond.code yX0_cutAheadOf cX0_cutAheadOf 3 (some .int) :: zBig, [], 1, 21)
def md_10 : MdT := (RX1, yX1_init, cX1_init, 1, none, Cond.code yX1_init cX1_init 1 none :: zBig, [], 1, 20)
def md_11 : MdT := (RX1, yX1_addOrder, cX1_addOrder, 3, none, Cond.code yX1_addOrder cX1_addOrder 3 none :: zBig, [], 1, 20)
def md_12 : MdT := (RX2, yX2_init, cX2_init, 6, none, Cond.code yX2_init cX2_init 6 none :: zBig, [], 1, 20)
def md_13 : MdT := (RX2, yX2_isHead, cX2_isHead, 1, (some .boolean), Cond.code yX2_isHead cX2_isHead 1 (some .boolean) :: zBig, [], 0, 0)
def md_14 : MdT := (RX2, yX2_isHeadNotGone, cX2_isHeadNotGone, 1, (some .boolean), Cond.code yX2_isHeadNotGone cX2_isHeadNotGone 1 (some .boolean) :: zBig, [], 0, 0)
def md_15 : MdT := (RX2, yX2_contentShown, cX2_contentShown, 1, (some .int), Cond.code yX2_contentShown cX2_contentShown 1 (some .int) :: zBig, [], 0, 0)
def md_16 : MdT := (RX2, yX2_addReply, cX2_addReply, 3, none, Cond.code yX2_addReply cX2_addReply 3 none :: zBig, [], 0, 0)
def md_17 : MdT := (RX2, yX2_emptyAndDrop, cX2_emptyAndDrop, 3, (some .int), Cond.code yX2_emptyAndDrop cX2_emptyAndDrop 3 (some .int) :: zBig, [], 0, 0)
def md_18 : MdT := (RX2, yX2_fact, cX2_fact, 2, (some .int), Cond.code yX2_fact cX2_fact 2 (some .int) :: zBig, [], 1, 20)
def md_19 : MdT := (RX3, yX3_init, cX3_init, 6, none, Cond.code yX3_init cX3_init 6 none :: zBig, [], 1, 20)
def md_20 : MdT := (RX3, yX3_isSeenBy, cX3_isSeenBy, 3, (some .boolean), Cond.code yX3_isSeenBy cX3_isSeenBy 3 (some .boolean) :: zBig, [], 0, 0)
def md_21 : MdT := (RX3, yX3_isCountedAs, cX3_isCountedAs, 2, (some .boolean), Cond.code yX3_isCountedAs cX3_isCountedAs 2 (some .boolean) :: zBig, [], 1, 20)
def md_22 : MdT := (RX4, yX4_init, cX4_init, 1, none, Cond.code yX4_init cX4_init 1 none :: zBig, [], 1, 20)
def md_23 : MdT := (RX4, yX4_size, cX4_size, 1, (some .int), Cond.code yX4_size cX4_size 1 (some .int) :: zBig, [], 0, 0)
def md_24 : MdT := (RX4, yX4_hasRoomFor, cX4_hasRoomFor, 3, (some .boolean), Cond.code yX4_hasRoomFor cX4_hasRoomFor 3 (some .boolean) :: zBig, [], 1, 20)
def md_25 : MdT := (RX4, yX4_hasVersion, cX4_hasVersion, 2, (some .boolean), Cond.code yX4_hasVersion cX4_hasVersion 2 (some .boolean) :: zBig, [], 1, 22)
def md_26 : MdT := (RX4, yX4_hasSignIn, cX4_hasSignIn, 3, (some .boolean), Cond.code yX4_hasSignIn cX4_hasSignIn 3 (some .boolean) :: zBig, [], 1, 22)
def md_27 : MdT := (RX4, yX4_signIn, cX4_signIn, 3, (some .int), Cond.code yX4_signIn cX4_signIn 3 (some .int) :: zBig, [], 0, 0)
def md_28 : MdT := (RX4, yX4_placeNow, cX4_placeNow, 5, (some .int), Cond.code yX4_placeNow cX4_placeNow 5 (some .int) :: zBig, [], 1, 20)
def md_29 : MdT := (RX4, yX4_hasAt, cX4_hasAt, 4, (some .boolean), Cond.code yX4_hasAt cX4_hasAt 4 (some .boolean) :: zBig, [], 1, 22)
def md_30 : MdT := (RX4, yX4_edit, cX4_edit, 8, none, Cond.code yX4_edit cX4_edit 8 none :: zBig, [], 1, 26)
def md_31 : MdT := (RX5, yX5_init, cX5_init, 1, none, Cond.code yX5_init cX5_init 1 none :: zBig, [], 2, 40)
def md_32 : MdT := (RX5, yX5_user, cX5_user, 2, (some .int), Cond.code yX5_user cX5_user 2 (some .int) :: zBig, [], 7, 110)
def md_33 : MdT := (RX5, yX5_setRight, cX5_setRight, 5, (some .int), Cond.code yX5_setRight cX5_setRight 5 (some .int) :: zBig, [], 7, 111)
def md_34 : MdT := (RX5, yX5_insert, cX5_insert, 5, (some .int), Cond.code yX5_insert cX5_insert 5 (some .int) :: zBig, [], 7, 111)
def md_35 : MdT := (RX5, yX5_delete, cX5_delete, 4, (some .int), Cond.code yX5_delete cX5_delete 4 (some .int) :: zBig, [], 7, 111)
def md_36 : MdT := (RX5, yX5_length, cX5_length, 1, (some .int), Cond.code yX5_length cX5_length 1 (some .int) :: zBig, [], 1, 20)
def md_38 : MdT := (RX5, yX5_now, cX5_now, 3, (some .int), Cond.code yX5_now cX5_now 3 (some .int) :: zBig, [], 7, 110)
def md_39 : MdT := (RX5, yX5_version, cX5_version, 1, (some .int), Cond.code yX5_version cX5_version 1 (some .int) :: zBig, [], 0, 0)
def md_40 : MdT := (RX5, yX5_note, cX5_note, 7, (some .int), Cond.code yX5_note cX5_note 7 (some .int) :: zBig, [], 7, 111)
def md_41 : MdT := (RX5, yX5_reply, cX5_reply, 6, (some .int), Cond.code yX5_reply cX5_reply 6 (some .int) :: zBig, [], 7, 112)
def md_42 : MdT := (RX5, yX5_settle, cX5_settle, 7, (some .boolean), Cond.code yX5_settle cX5_settle 7 (some .boolean) :: zBig, [], 7, 112)
def md_43 : MdT := (RX5, yX5_remove, cX5_remove, 4, (some .int), Cond.code yX5_remove cX5_remove 4 (some .int) :: zBig, [], 7, 112)
def md_44 : MdT := (RX5, yX5_propose, cX5_propose, 6, (some .int), Cond.code yX5_propose cX5_propose 6 (some .int) :: zBig, [], 7, 112)
def md_45 : MdT := (RX5, yX5_take, cX5_take, 4, (some .int), Cond.code yX5_take cX5_take 4 (some .int) :: zBig, [], 7, 112)
def md_46 : MdT := (RX5, yX5_heal, cX5_heal, 3, (some .int), Cond.code yX5_heal cX5_heal 3 (some .int) :: zBig, [], 4, 90)
def md_47 : MdT := (RX5, yX5_many, cX5_many, 2, (some .int), Cond.code yX5_many cX5_many 2 (some .int) :: zBig, [], 7, 110)
def md_48 : MdT := (RX5, yX5_right, cX5_right, 2, (some .int), Cond.code yX5_right cX5_right 2 (some .int) :: zBig, [], 7, 111)
def md_49 : MdT := (RX5, yX5_ofNote, cX5_ofNote, 4, (some .int), Cond.code yX5_ofNote cX5_ofNote 4 (some .int) :: zBig, [], 7, 112)
def md_51 : MdT := (RX5, yX5_sees, cX5_sees, 3, (some .boolean), Cond.code yX5_sees cX5_sees 3 (some .boolean) :: zBig, [], 7, 112)
def md_52 : MdT := (RX5, yX5_thread, cX5_thread, 5, (some .int), Cond.code yX5_thread cX5_thread 5 (some .int) :: zBig, [], 7, 112)
def md_53 : MdT := (RX5, yX5_over, cX5_over, 6, (some .int), Cond.code yX5_over cX5_over 6 (some .int) :: zBig, [], 7, 111)
def md_54 : MdT := (RX5, yX5_export, cX5_export, 5, (some .int), Cond.code yX5_export cX5_export 5 (some .int) :: zBig, [], 7, 111)
def md_55 : MdT := (RX5, yX5_exported, cX5_exported, 3, (some .int), Cond.code yX5_exported cX5_exported 3 (some .int) :: zBig, [], 7, 110)
def md_56 : MdT := (RX5, yX5_meanThread, cX5_meanThread, 2, (some .double), Cond.code yX5_meanThread cX5_meanThread 2 (some .double) :: zBig, [], 3, 64)
def md_57 : MdT := (RX5, yX5_lostBy, cX5_lostBy, 5, (some .int), Cond.code yX5_lostBy cX5_lostBy 5 (some .int) :: zBig, [], 7, 111)
def md_58 : MdT := (RX5, yX5_wouldHeal, cX5_wouldHeal, 2, (some .int), Cond.code yX5_wouldHeal cX5_wouldHeal 2 (some .int) :: zBig, [], 7, 112)
def md_59 : MdT := (RX5, yX5_wouldSee, cX5_wouldSee, 5, (some .int), Cond.code yX5_wouldSee cX5_wouldSee 5 (some .int) :: zBig, [], 7, 111)
def md_60 : MdT := (RX5, yX5_digest, cX5_digest, 4, (some .long), Cond.code yX5_digest cX5_digest 4 (some .long) :: zBig, [], 9, 161)
def md_61 : MdT := (RX5, yX5_requireUser, cX5_requireUser, 2, none, Cond.code yX5_requireUser cX5_requireUser 2 none :: zBig, [], 6, 90)
def md_62 : MdT := (RX5, yX5_requireSign, cX5_requireSign, 2, none, Cond.code yX5_requireSign cX5_requireSign 2 none :: zBig, [], 6, 90)
def md_63 : MdT := (RX5, yX5_requireNote, cX5_requireNote, 3, (some (.object "Marginalia$Note")), Cond.code yX5_requireNote cX5_requireNote 3 (some (.object "Marginalia$Note")) :: zBig, [], 6, 90)
def md_64 : MdT := (RX5, yX5_requireIndex, cX5_requireIndex, 1, none, Cond.code yX5_requireIndex cX5_requireIndex 1 none :: zBig, [], 6, 90)
def md_65 : MdT := (RX5, yX5_requireArgument, cX5_requireArgument, 1, none, Cond.code yX5_requireArgument cX5_requireArgument 1 none :: zBig, [], 6, 90)
def md_66 : MdT := (RX5, yX5_requireState, cX5_requireState, 1, none, Cond.code yX5_requireState cX5_requireState 1 none :: zBig, [], 6, 90)
def md_67 : MdT := (RX5, yX5_isWithin, cX5_isWithin, 3, (some .boolean), Cond.code yX5_isWithin cX5_isWithin 3 (some .boolean) :: zBig, [], 0, 0)
def md_68 : MdT := (RX5, yX5_isRight, cX5_isRight, 1, (some .boolean), Cond.code yX5_isRight cX5_isRight 1 (some .boolean) :: zBig, [], 1, 22)
def md_69 : MdT := (RX5, yX5_isContent, cX5_isContent, 1, (some .boolean), Cond.code yX5_isContent cX5_isContent 1 (some .boolean) :: zBig, [], 1, 22)
def md_70 : MdT := (RX5, yX5_putSigns, cX5_putSigns, 5, none, Cond.code yX5_putSigns cX5_putSigns 5 none :: zBig, [], 2, 53)
def md_71 : MdT := (RX5, yX5_cutSigns, cX5_cutSigns, 4, none, Cond.code yX5_cutSigns cX5_cutSigns 4 none :: zBig, [], 3, 65)
def md_72 : MdT := (RX5, yX5_canTake, cX5_canTake, 3, (some .boolean), Cond.code yX5_canTake cX5_canTake 3 (some .boolean) :: zBig, [], 2, 42)
def md_73 : MdT := (RX5, yX5_putProposal, cX5_putProposal, 5, none, Cond.code yX5_putProposal cX5_putProposal 5 none :: zBig, [], 4, 88)
def md_74 : MdT := (RX5, yX5_quoteOf, cX5_quoteOf, 5, (some (.array .int)), Cond.code yX5_quoteOf cX5_quoteOf 5 (some (.array .int)) :: zBig, [], 1, 22)
def md_75 : MdT := (RX5, yX5_healAnchor, cX5_healAnchor, 3, (some .boolean), Cond.code yX5_healAnchor cX5_healAnchor 3 (some .boolean) :: zBig, [], 3, 68)
def md_76 : MdT := (RX5, yX5_placeOfQuote, cX5_placeOfQuote, 4, (some .int), Cond.code yX5_placeOfQuote cX5_placeOfQuote 4 (some .int) :: zBig, [], 2, 45)
def md_77 : MdT := (RX5, yX5_keepNote, cX5_keepNote, 2, (some .int), Cond.code yX5_keepNote cX5_keepNote 2 (some .int) :: zBig, [], 0, 0)
def md_78 : MdT := (RX5, yX5_headOf, cX5_headOf, 2, (some (.object "Marginalia$Note")), Cond.code yX5_headOf cX5_headOf 2 (some (.object "Marginalia$Note")) :: zBig, [], 0, 0)
def md_79 : MdT := (RX5, yX5_isSeen, cX5_isSeen, 3, (some .boolean), Cond.code yX5_isSeen cX5_isSeen 3 (some .boolean) :: zBig, [], 1, 22)
def md_80 : MdT := (RX5, yX5_countNotes, cX5_countNotes, 3, (some .int), Cond.code yX5_countNotes cX5_countNotes 3 (some .int) :: zBig, [], 0, 0)
def md_81 : MdT := (RX5, yX5_countStrands, cX5_countStrands, 4, (some .int), Cond.code yX5_countStrands cX5_countStrands 4 (some .int) :: zBig, [], 2, 41)
def md_82 : MdT := (RX5, yX5_chooseHeads, cX5_chooseHeads, 6, (some .int), Cond.code yX5_chooseHeads cX5_chooseHeads 6 (some .int) :: zBig, [], 2, 44)
def md_83 : MdT := (RX5, yX5_putAmongChosen, cX5_putAmongChosen, 4, none, Cond.code yX5_putAmongChosen cX5_putAmongChosen 4 none :: zBig, [], 1, 21)
def md_84 : MdT := (RX5, yX5_mix, cX5_mix, 4, (some .long), Cond.code yX5_mix cX5_mix 4 (some .long) :: zBig, [], 0, 0)
def md_85 : MdT := (RX5, yX5_digestText, cX5_digestText, 6, (some .long), Cond.code yX5_digestText cX5_digestText 6 (some .long) :: zBig, [], 8, 131)
def md_86 : MdT := (RX5, yX5_digestUser, cX5_digestUser, 6, (some .long), Cond.code yX5_digestUser cX5_digestUser 6 (some .long) :: zBig, [], 8, 136)
def md_87 : MdT := (RX5, yX5_digestNote, cX5_digestNote, 7, (some .long), Cond.code yX5_digestNote cX5_digestNote 7 (some .long) :: zBig, [], 8, 135)
def md_88 : MdT := (RX5, yX5_digestExport, cX5_digestExport, 7, (some .long), Cond.code yX5_digestExport cX5_digestExport 7 (some .long) :: zBig, [], 1, 23)
def md_89 : MdT := (RX6, yX6_init, cX6_init, 3, none, Cond.code yX6_init cX6_init 3 none :: zBig, [], 3, 60)
def md_90 : MdT := (RX6, yX6_draw, cX6_draw, 3, (some .int), Cond.code yX6_draw cX6_draw 3 (some .int) :: zBig, [], 1, 21)
def md_91 : MdT := (RX6, yX6_with, cX6_with, 4, (some (.array (.array .int))), Cond.code yX6_with cX6_with 4 (some (.array (.array .int))) :: zBig, [], 1, 26)
def md_92 : MdT := (RX6, yX6_text, cX6_text, 1, (some (.array (.array .int))), Cond.code yX6_text cX6_text 1 (some (.array (.array .int))) :: zBig, [], 0, 0)
def md_93 : MdT := (RX6, yX6_edited, cX6_edited, 3, none, Cond.code yX6_edited cX6_edited 3 none :: zBig, [], 1, 26)
def md_94 : MdT := (RX6, yX6_addUser, cX6_addUser, 3, (some .boolean), Cond.code yX6_addUser cX6_addUser 3 (some .boolean) :: zBig, [], 8, 131)
def md_95 : MdT := (RX6, yX6_setRight, cX6_setRight, 3, (some .boolean), Cond.code yX6_setRight cX6_setRight 3 (some .boolean) :: zBig, [], 8, 135)
def md_96 : MdT := (RX6, yX6_put, cX6_put, 9, none, Cond.code yX6_put cX6_put 9 none :: zBig, [], 2, 49)
def md_97 : MdT := (RX6, yX6_cut, cX6_cut, 10, none, Cond.code yX6_cut cX6_cut 10 none :: zBig, [], 2, 48)
def md_98 : MdT := (RX6, yX6_insert, cX6_insert, 7, (some .boolean), Cond.codeWith yX6_insert cX6_insert 7 (some .boolean) [(95, 115, 140, 91), (116, 139, 140, 91)] :: zBig, [(95, 115, 140, 91), (116, 139, 140, 91)], 8, 135)
def md_99 : MdT := (RX6, yX6_delete, cX6_delete, 6, (some .boolean), Cond.codeWith yX6_delete cX6_delete 6 (some .boolean) [(76, 94, 117, 91), (95, 116, 117, 91)] :: zBig, [(76, 94, 117, 91), (95, 116, 117, 91)], 8, 134)
def md_100 : MdT := (RX6, yX6_sees, cX6_sees, 5, (some .boolean), Cond.code yX6_sees cX6_sees 5 (some .boolean) :: zBig, [], 0, 0)
def md_101 : MdT := (RX6, yX6_sees_, cX6_sees_, 3, (some .boolean), Cond.code yX6_sees_ cX6_sees_ 3 (some .boolean) :: zBig, [], 1, 24)
def md_102 : MdT := (RX6, yX6_note, cX6_note, 11, (some .boolean), Cond.codeWith yX6_note cX6_note 11 (some .boolean) [(220, 242, 279, 91), (243, 278, 279, 91)] :: zBig, [(220, 242, 279, 91), (243, 278, 279, 91)], 8, 137)
def md_103 : MdT := (RX6, yX6_any, cX6_any, 6, (some .int), Cond.code yX6_any cX6_any 6 (some .int) :: zBig, [], 2, 43)
def md_104 : MdT := (RX6, yX6_reply, cX6_reply, 7, (some .boolean), Cond.codeWith yX6_reply cX6_reply 7 (some .boolean) [(76, 94, 180, 91), (95, 179, 180, 91)] :: zBig, [(76, 94, 180, 91), (95, 179, 180, 91)], 8, 137)
def md_105 : MdT := (RX6, yX6_settle, cX6_settle, 7, (some .boolean), Cond.codeWith yX6_settle cX6_settle 7 (some .boolean) [(83, 120, 137, 91), (121, 136, 137, 91)] :: zBig, [(83, 120, 137, 91), (121, 136, 137, 91)], 8, 138)
def md_106 : MdT := (RX6, yX6_replies, cX6_replies, 7, (some .int), Cond.code yX6_replies cX6_replies 7 (some .int) :: zBig, [], 0, 0)
def md_107 : MdT := (RX6, yX6_remove, cX6_remove, 7, (some .boolean), Cond.codeWith yX6_remove cX6_remove 7 (some .boolean) [(69, 85, 168, 91), (86, 167, 168, 91)] :: zBig, [(69, 85, 168, 91), (86, 167, 168, 91)], 8, 135)
def md_108 : MdT := (RX6, yX6_propose, cX6_propose, 7, (some .boolean), Cond.codeWith yX6_propose cX6_propose 7 (some .boolean) [(84, 104, 138, 91), (105, 137, 138, 91)] :: zBig, [(84, 104, 138, 91), (105, 137, 138, 91)], 8, 137)
def md_109 : MdT := (RX6, yX6_take, cX6_take, 8, (some .boolean), Cond.codeWith yX6_take cX6_take 8 (some .boolean) [(129, 146, 223, 91), (147, 222, 223, 91)] :: zBig, [(129, 146, 223, 91), (147, 222, 223, 91)], 8, 135)
def md_110 : MdT := (RX6, yX6_found, cX6_found, 4, (some .int), Cond.code yX6_found cX6_found 4 (some .int) :: zBig, [], 2, 43)
def md_111 : MdT := (RX6, yX6_stands, cX6_stands, 4, (some .boolean), Cond.code yX6_stands cX6_stands 4 (some .boolean) :: zBig, [], 1, 20)
def md_112 : MdT := (RX6, yX6_isHead, cX6_isHead, 2, (some .boolean), Cond.code yX6_isHead cX6_isHead 2 (some .boolean) :: zBig, [], 0, 0)
def md_113 : MdT := (RX6, yX6_heal, cX6_heal, 3, (some .boolean), Cond.code yX6_heal cX6_heal 3 (some .boolean) :: zBig, [], 5, 112)
def md_114 : MdT := (RX6, yX6_found_, cX6_found_, 2, (some .boolean), Cond.code yX6_found_ cX6_found_ 2 (some .boolean) :: zBig, [], 9, 167)
def md_115 : MdT := (RX6, yX6_act, cX6_act, 1, (some .boolean), Cond.code yX6_act cX6_act 1 (some .boolean) :: zBig, [], 9, 167)
def md_116 : MdT := (RL, yL_below, cL_below, 2, (some .int), Cond.code yL_below cL_below 2 (some .int) :: zBig, [], 0, 0)
def md_117 : MdT := (RL, yL_cell, cL_cell, 2, (some .int), Cond.code yL_cell cL_cell 2 (some .int) :: zBig, [], 0, 0)
def md_118 : MdT := (RL, x, code, 14, (some .boolean), Cond.code x code 14 (some .boolean) :: zBig, [], 12, 448)
def md_37 : MdT := md_0
def md_50 : MdT := md_0
def mdl_0 : List MdT := [md_0, md_1, md_2, md_3, md_4, md_5, md_6, md_7, md_8, md_9, md_10, md_11, md_12, md_13, md_14, md_15, md_16, md_17, md_18, md_19, md_20, md_21, md_22, md_23, md_24]
def mdl_1 : List MdT := [md_25, md_26, md_27, md_28, md_29, md_30, md_31, md_32, md_33, md_34, md_35, md_36, md_37, md_38, md_39, md_40, md_41, md_42, md_43, md_44, md_45, md_46, md_47, md_48, md_49]
def mdl_2 : List MdT := [md_50, md_51, md_52, md_53, md_54, md_55, md_56, md_57, md_58, md_59, md_60, md_61, md_62, md_63, md_64, md_65, md_66, md_67, md_68, md_69, md_70, md_71, md_72, md_73, md_74]
def mdl_3 : List MdT := [md_75, md_76, md_77, md_78, md_79, md_80, md_81, md_82, md_83, md_84, md_85, md_86, md_87, md_88, md_89, md_90, md_91, md_92, md_93, md_94, md_95, md_96, md_97, md_98, md_99]
def mdl_4 : List MdT := [md_100, md_101, md_102, md_103, md_104, md_105, md_106, md_107, md_108, md_109, md_110, md_111, md_112, md_113, md_114, md_115, md_116, md_117, md_118]
def MdP (m : Nat) : MdT := ([mdl_0, mdl_1, mdl_2, mdl_3, mdl_4][m / 25]?.getD [])[m % 25]?.getD md_0
theorem hws_0 : mWs (MdP 0) = Cond.code (mNam (MdP 0)) (mCod (MdP 0)) (mMax (MdP 0)) (mRet (MdP 0)) :: zBig := rfl
theorem iw_0 : ∀ w ∈ zBig, w ∈ mWs (MdP 0) := fun w h => List.mem_cons_of_mem _ h
theorem hws_1 : mWs (MdP 1) = Cond.code (mNam (MdP 1)) (mCod (MdP 1)) (mMax (MdP 1)) (mRet (MdP 1)) :: zBig := rfl
theorem iw_1 : ∀ w ∈ zBig, w ∈ mWs (MdP 1) := fun w h => List.mem_cons_of_mem _ h
theorem hws_2 : mWs (MdP 2) = Cond.code (mNam (MdP 2)) (mCod (MdP 2)) (mMax (MdP 2)) (mRet (MdP 2)) :: zBig := rfl
theorem iw_2 : ∀ w ∈ zBig, w ∈ mWs (MdP 2) := fun w h => List.mem_cons_of_mem _ h
theorem hws_3 : mWs (MdP 3) = Cond.code (mNam (MdP 3)) (mCod (MdP 3)) (mMax (MdP 3)) (mRet (MdP 3)) :: zBig := rfl
theorem iw_3 : ∀ w ∈ zBig, w ∈ mWs (MdP 3) := fun w h => List.mem_cons_of_mem _ h
theorem hws_4 : mWs (MdP 4) = Cond.code (mNam (MdP 4)) (mCod (MdP 4)) (mMax (MdP 4)) (mRet (MdP 4)) :: zBig := rfl
theorem iw_4 : ∀ w ∈ zBig, w ∈ mWs (MdP 4) := fun w h => List.mem_cons_of_mem _ h
theorem hws_5 : mWs (MdP 5) = Cond.code (mNam (MdP 5)) (mCod (MdP 5)) (mMax (MdP 5)) (mRet (MdP 5)) :: zBig := rfl
theorem iw_5 : ∀ w ∈ zBig, w ∈ mWs (MdP 5) := fun w h => List.mem_cons_of_mem _ h
theorem hws_6 : mWs (MdP 6) = Cond.code (mNam (MdP 6)) (mCod (MdP 6)) (mMax (MdP 6)) (mRet (MdP 6)) :: zBig := rfl
theorem iw_6 : ∀ w ∈ zBig, w ∈ mWs (MdP 6) := fun w h => List.mem_cons_of_mem _ h
theorem hws_7 : mWs (MdP 7) = Cond.code (mNam (MdP 7)) (mCod (MdP 7)) (mMax (MdP 7)) (mRet (MdP 7)) :: zBig := rfl
theorem iw_7 : ∀ w ∈ zBig, w ∈ mWs (MdP 7) := fun w h => List.mem_cons_of_mem _ h
theorem hws_8 : mWs (MdP 8) = Cond.code (mNam (MdP 8)) (mCod (MdP 8)) (mMax (MdP 8)) (mRet (MdP 8)) :: zBig := rfl
theorem iw_8 : ∀ w ∈ zBig, w ∈ mWs (MdP 8) := fun w h => List.mem_cons_of_mem _ h
theorem hws_9 : mWs (MdP 9) = Cond.code (mNam (MdP 9)) (mCod (MdP 9)) (mMax (MdP 9)) (mRet (MdP 9)) :: zBig := rfl
theorem iw_9 : ∀ w ∈ zBig, w ∈ mWs (MdP 9) := fun w h => List.mem_cons_of_mem _ h
theorem hws_10 : mWs (MdP 10) = Cond.code (mNam (MdP 10)) (mCod (MdP 10)) (mMax (MdP 10)) (mRet (MdP 10)) :: zBig := rfl
theorem iw_10 : ∀ w ∈ zBig, w ∈ mWs (MdP 10) := fun w h => List.mem_cons_of_mem _ h
theorem hws_11 : mWs (MdP 11) = Cond.code (mNam (MdP 11)) (mCod (MdP 11)) (mMax (MdP 11)) (mRet (MdP 11)) :: zBig := rfl
theorem iw_11 : ∀ w ∈ zBig, w ∈ mWs (MdP 11) := fun w h => List.mem_cons_of_mem _ h
theorem hws_12 : mWs (MdP 12) = Cond.code (mNam (MdP 12)) (mCod (MdP 12)) (mMax (MdP 12)) (mRet (MdP 12)) :: zBig := rfl
theorem iw_12 : ∀ w ∈ zBig, w ∈ mWs (MdP 12) := fun w h => List.mem_cons_of_mem _ h
theorem hws_13 : mWs (MdP 13) = Cond.code (mNam (MdP 13)) (mCod (MdP 13)) (mMax (MdP 13)) (mRet (MdP 13)) :: zBig := rfl
theorem iw_13 : ∀ w ∈ zBig, w ∈ mWs (MdP 13) := fun w h => List.mem_cons_of_mem _ h
theorem hws_14 : mWs (MdP 14) = Cond.code (mNam (MdP 14)) (mCod (MdP 14)) (mMax (MdP 14)) (mRet (MdP 14)) :: zBig := rfl
theorem iw_14 : ∀ w ∈ zBig, w ∈ mWs (MdP 14) := fun w h => List.mem_cons_of_mem _ h
theorem hws_15 : mWs (MdP 15) = Cond.code (mNam (MdP 15)) (mCod (MdP 15)) (mMax (MdP 15)) (mRet (MdP 15)) :: zBig := rfl
theorem iw_15 : ∀ w ∈ zBig, w ∈ mWs (MdP 15) := fun w h => List.mem_cons_of_mem _ h
theorem hws_16 : mWs (MdP 16) = Cond.code (mNam (MdP 16)) (mCod (MdP 16)) (mMax (MdP 16)) (mRet (MdP 16)) :: zBig := rfl
theorem iw_16 : ∀ w ∈ zBig, w ∈ mWs (MdP 16) := fun w h => List.mem_cons_of_mem _ h
theorem hws_17 : mWs (MdP 17) = Cond.code (mNam (MdP 17)) (mCod (MdP 17)) (mMax (MdP 17)) (mRet (MdP 17)) :: zBig := rfl
theorem iw_17 : ∀ w ∈ zBig, w ∈ mWs (MdP 17) := fun w h => List.mem_cons_of_mem _ h
theorem hws_18 : mWs (MdP 18) = Cond.code (mNam (MdP 18)) (mCod (MdP 18)) (mMax (MdP 18)) (mRet (MdP 18)) :: zBig := rfl
theorem iw_18 : ∀ w ∈ zBig, w ∈ mWs (MdP 18) := fun w h => List.mem_cons_of_mem _ h
theorem hws_19 : mWs (MdP 19) = Cond.code (mNam (MdP 19)) (mCod (MdP 19)) (mMax (MdP 19)) (mRet (MdP 19)) :: zBig := rfl
theorem iw_19 : ∀ w ∈ zBig, w ∈ mWs (MdP 19) := fun w h => List.mem_cons_of_mem _ h
theorem hws_20 : mWs (MdP 20) = Cond.code (mNam (MdP 20)) (mCod (MdP 20)) (mMax (MdP 20)) (mRet (MdP 20)) :: zBig := rfl
theorem iw_20 : ∀ w ∈ zBig, w ∈ mWs (MdP 20) := fun w h => List.mem_cons_of_mem _ h
theorem hws_21 : mWs (MdP 21) = Cond.code (mNam (MdP 21)) (mCod (MdP 21)) (mMax (MdP 21)) (mRet (MdP 21)) :: zBig := rfl
theorem iw_21 : ∀ w ∈ zBig, w ∈ mWs (MdP 21) := fun w h => List.mem_cons_of_mem _ h
theorem hws_22 : mWs (MdP 22) = Cond.code (mNam (MdP 22)) (mCod (MdP 22)) (mMax (MdP 22)) (mRet (MdP 22)) :: zBig := rfl
theorem iw_22 : ∀ w ∈ zBig, w ∈ mWs (MdP 22) := fun w h => List.mem_cons_of_mem _ h
theorem hws_23 : mWs (MdP 23) = Cond.code (mNam (MdP 23)) (mCod (MdP 23)) (mMax (MdP 23)) (mRet (MdP 23)) :: zBig := rfl
theorem iw_23 : ∀ w ∈ zBig, w ∈ mWs (MdP 23) := fun w h => List.mem_cons_of_mem _ h
theorem hws_24 : mWs (MdP 24) = Cond.code (mNam (MdP 24)) (mCod (MdP 24)) (mMax (MdP 24)) (mRet (MdP 24)) :: zBig := rfl
theorem iw_24 : ∀ w ∈ zBig, w ∈ mWs (MdP 24) := fun w h => List.mem_cons_of_mem _ h
theorem hws_25 : mWs (MdP 25) = Cond.code (mNam (MdP 25)) (mCod (MdP 25)) (mMax (MdP 25)) (mRet (MdP 25)) :: zBig := rfl
theorem iw_25 : ∀ w ∈ zBig, w ∈ mWs (MdP 25) := fun w h => List.mem_cons_of_mem _ h
theorem hws_26 : mWs (MdP 26) = Cond.code (mNam (MdP 26)) (mCod (MdP 26)) (mMax (MdP 26)) (mRet (MdP 26)) :: zBig := rfl
theorem iw_26 : ∀ w ∈ zBig, w ∈ mWs (MdP 26) := fun w h => List.mem_cons_of_mem _ h
theorem hws_27 : mWs (MdP 27) = Cond.code (mNam (MdP 27)) (mCod (MdP 27)) (mMax (MdP 27)) (mRet (MdP 27)) :: zBig := rfl
theorem iw_27 : ∀ w ∈ zBig, w ∈ mWs (MdP 27) := fun w h => List.mem_cons_of_mem _ h
theorem hws_28 : mWs (MdP 28) = Cond.code (mNam (MdP 28)) (mCod (MdP 28)) (mMax (MdP 28)) (mRet (MdP 28)) :: zBig := rfl
theorem iw_28 : ∀ w ∈ zBig, w ∈ mWs (MdP 28) := fun w h => List.mem_cons_of_mem _ h
theorem hws_29 : mWs (MdP 29) = Cond.code (mNam (MdP 29)) (mCod (MdP 29)) (mMax (MdP 29)) (mRet (MdP 29)) :: zBig := rfl
theorem iw_29 : ∀ w ∈ zBig, w ∈ mWs (MdP 29) := fun w h => List.mem_cons_of_mem _ h
theorem hws_30 : mWs (MdP 30) = Cond.code (mNam (MdP 30)) (mCod (MdP 30)) (mMax (MdP 30)) (mRet (MdP 30)) :: zBig := rfl
theorem iw_30 : ∀ w ∈ zBig, w ∈ mWs (MdP 30) := fun w h => List.mem_cons_of_mem _ h
theorem hws_31 : mWs (MdP 31) = Cond.code (mNam (MdP 31)) (mCod (MdP 31)) (mMax (MdP 31)) (mRet (MdP 31)) :: zBig := rfl
theorem iw_31 : ∀ w ∈ zBig, w ∈ mWs (MdP 31) := fun w h => List.mem_cons_of_mem _ h
theorem hws_32 : mWs (MdP 32) = Cond.code (mNam (MdP 32)) (mCod (MdP 32)) (mMax (MdP 32)) (mRet (MdP 32)) :: zBig := rfl
theorem iw_32 : ∀ w ∈ zBig, w ∈ mWs (MdP 32) := fun w h => List.mem_cons_of_mem _ h
theorem hws_33 : mWs (MdP 33) = Cond.code (mNam (MdP 33)) (mCod (MdP 33)) (mMax (MdP 33)) (mRet (MdP 33)) :: zBig := rfl
theorem iw_33 : ∀ w ∈ zBig, w ∈ mWs (MdP 33) := fun w h => List.mem_cons_of_mem _ h
theorem hws_34 : mWs (MdP 34) = Cond.code (mNam (MdP 34)) (mCod (MdP 34)) (mMax (MdP 34)) (mRet (MdP 34)) :: zBig := rfl
theorem iw_34 : ∀ w ∈ zBig, w ∈ mWs (MdP 34) := fun w h => List.mem_cons_of_mem _ h
theorem hws_35 : mWs (MdP 35) = Cond.code (mNam (MdP 35)) (mCod (MdP 35)) (mMax (MdP 35)) (mRet (MdP 35)) :: zBig := rfl
theorem iw_35 : ∀ w ∈ zBig, w ∈ mWs (MdP 35) := fun w h => List.mem_cons_of_mem _ h
theorem hws_36 : mWs (MdP 36) = Cond.code (mNam (MdP 36)) (mCod (MdP 36)) (mMax (MdP 36)) (mRet (MdP 36)) :: zBig := rfl
theorem iw_36 : ∀ w ∈ zBig, w ∈ mWs (MdP 36) := fun w h => List.mem_cons_of_mem _ h
theorem hws_38 : mWs (MdP 38) = Cond.code (mNam (MdP 38)) (mCod (MdP 38)) (mMax (MdP 38)) (mRet (MdP 38)) :: zBig := rfl
theorem iw_38 : ∀ w ∈ zBig, w ∈ mWs (MdP 38) := fun w h => List.mem_cons_of_mem _ h
theorem hws_39 : mWs (MdP 39) = Cond.code (mNam (MdP 39)) (mCod (MdP 39)) (mMax (MdP 39)) (mRet (MdP 39)) :: zBig := rfl
theorem iw_39 : ∀ w ∈ zBig, w ∈ mWs (MdP 39) := fun w h => List.mem_cons_of_mem _ h
theorem hws_40 : mWs (MdP 40) = Cond.code (mNam (MdP 40)) (mCod (MdP 40)) (mMax (MdP 40)) (mRet (MdP 40)) :: zBig := rfl
theorem iw_40 : ∀ w ∈ zBig, w ∈ mWs (MdP 40) := fun w h => List.mem_cons_of_mem _ h
theorem hws_41 : mWs (MdP 41) = Cond.code (mNam (MdP 41)) (mCod (MdP 41)) (mMax (MdP 41)) (mRet (MdP 41)) :: zBig := rfl
theorem iw_41 : ∀ w ∈ zBig, w ∈ mWs (MdP 41) := fun w h => List.mem_cons_of_mem _ h
theorem hws_42 : mWs (MdP 42) = Cond.code (mNam (MdP 42)) (mCod (MdP 42)) (mMax (MdP 42)) (mRet (MdP 42)) :: zBig := rfl
theorem iw_42 : ∀ w ∈ zBig, w ∈ mWs (MdP 42) := fun w h => List.mem_cons_of_mem _ h
theorem hws_43 : mWs (MdP 43) = Cond.code (mNam (MdP 43)) (mCod (MdP 43)) (mMax (MdP 43)) (mRet (MdP 43)) :: zBig := rfl
theorem iw_43 : ∀ w ∈ zBig, w ∈ mWs (MdP 43) := fun w h => List.mem_cons_of_mem _ h
theorem hws_44 : mWs (MdP 44) = Cond.code (mNam (MdP 44)) (mCod (MdP 44)) (mMax (MdP 44)) (mRet (MdP 44)) :: zBig := rfl
theorem iw_44 : ∀ w ∈ zBig, w ∈ mWs (MdP 44) := fun w h => List.mem_cons_of_mem _ h
theorem hws_45 : mWs (MdP 45) = Cond.code (mNam (MdP 45)) (mCod (MdP 45)) (mMax (MdP 45)) (mRet (MdP 45)) :: zBig := rfl
theorem iw_45 : ∀ w ∈ zBig, w ∈ mWs (MdP 45) := fun w h => List.mem_cons_of_mem _ h
theorem hws_46 : mWs (MdP 46) = Cond.code (mNam (MdP 46)) (mCod (MdP 46)) (mMax (MdP 46)) (mRet (MdP 46)) :: zBig := rfl
theorem iw_46 : ∀ w ∈ zBig, w ∈ mWs (MdP 46) := fun w h => List.mem_cons_of_mem _ h
theorem hws_47 : mWs (MdP 47) = Cond.code (mNam (MdP 47)) (mCod (MdP 47)) (mMax (MdP 47)) (mRet (MdP 47)) :: zBig := rfl
theorem iw_47 : ∀ w ∈ zBig, w ∈ mWs (MdP 47) := fun w h => List.mem_cons_of_mem _ h
theorem hws_48 : mWs (MdP 48) = Cond.code (mNam (MdP 48)) (mCod (MdP 48)) (mMax (MdP 48)) (mRet (MdP 48)) :: zBig := rfl
theorem iw_48 : ∀ w ∈ zBig, w ∈ mWs (MdP 48) := fun w h => List.mem_cons_of_mem _ h
theorem hws_49 : mWs (MdP 49) = Cond.code (mNam (MdP 49)) (mCod (MdP 49)) (mMax (MdP 49)) (mRet (MdP 49)) :: zBig := rfl
theorem iw_49 : ∀ w ∈ zBig, w ∈ mWs (MdP 49) := fun w h => List.mem_cons_of_mem _ h
theorem hws_51 : mWs (MdP 51) = Cond.code (mNam (MdP 51)) (mCod (MdP 51)) (mMax (MdP 51)) (mRet (MdP 51)) :: zBig := rfl
theorem iw_51 : ∀ w ∈ zBig, w ∈ mWs (MdP 51) := fun w h => List.mem_cons_of_mem _ h
theorem hws_52 : mWs (MdP 52) = Cond.code (mNam (MdP 52)) (mCod (MdP 52)) (mMax (MdP 52)) (mRet (MdP 52)) :: zBig := rfl
theorem iw_52 : ∀ w ∈ zBig, w ∈ mWs (MdP 52) := fun w h => List.mem_cons_of_mem _ h
theorem hws_53 : mWs (MdP 53) = Cond.code (mNam (MdP 53)) (mCod (MdP 53)) (mMax (MdP 53)) (mRet (MdP 53)) :: zBig := rfl
theorem iw_53 : ∀ w ∈ zBig, w ∈ mWs (MdP 53) := fun w h => List.mem_cons_of_mem _ h
theorem hws_54 : mWs (MdP 54) = Cond.code (mNam (MdP 54)) (mCod (MdP 54)) (mMax (MdP 54)) (mRet (MdP 54)) :: zBig := rfl
theorem iw_54 : ∀ w ∈ zBig, w ∈ mWs (MdP 54) := fun w h => List.mem_cons_of_mem _ h
theorem hws_55 : mWs (MdP 55) = Cond.code (mNam (MdP 55)) (mCod (MdP 55)) (mMax (MdP 55)) (mRet (MdP 55)) :: zBig := rfl
theorem iw_55 : ∀ w ∈ zBig, w ∈ mWs (MdP 55) := fun w h => List.mem_cons_of_mem _ h
theorem hws_56 : mWs (MdP 56) = Cond.code (mNam (MdP 56)) (mCod (MdP 56)) (mMax (MdP 56)) (mRet (MdP 56)) :: zBig := rfl
theorem iw_56 : ∀ w ∈ zBig, w ∈ mWs (MdP 56) := fun w h => List.mem_cons_of_mem _ h
theorem hws_57 : mWs (MdP 57) = Cond.code (mNam (MdP 57)) (mCod (MdP 57)) (mMax (MdP 57)) (mRet (MdP 57)) :: zBig := rfl
theorem iw_57 : ∀ w ∈ zBig, w ∈ mWs (MdP 57) := fun w h => List.mem_cons_of_mem _ h
theorem hws_58 : mWs (MdP 58) = Cond.code (mNam (MdP 58)) (mCod (MdP 58)) (mMax (MdP 58)) (mRet (MdP 58)) :: zBig := rfl
theorem iw_58 : ∀ w ∈ zBig, w ∈ mWs (MdP 58) := fun w h => List.mem_cons_of_mem _ h
theorem hws_59 : mWs (MdP 59) = Cond.code (mNam (MdP 59)) (mCod (MdP 59)) (mMax (MdP 59)) (mRet (MdP 59)) :: zBig := rfl
theorem iw_59 : ∀ w ∈ zBig, w ∈ mWs (MdP 59) := fun w h => List.mem_cons_of_mem _ h
theorem hws_60 : mWs (MdP 60) = Cond.code (mNam (MdP 60)) (mCod (MdP 60)) (mMax (MdP 60)) (mRet (MdP 60)) :: zBig := rfl
theorem iw_60 : ∀ w ∈ zBig, w ∈ mWs (MdP 60) := fun w h => List.mem_cons_of_mem _ h
theorem hws_61 : mWs (MdP 61) = Cond.code (mNam (MdP 61)) (mCod (MdP 61)) (mMax (MdP 61)) (mRet (MdP 61)) :: zBig := rfl
theorem iw_61 : ∀ w ∈ zBig, w ∈ mWs (MdP 61) := fun w h => List.mem_cons_of_mem _ h
theorem hws_62 : mWs (MdP 62) = Cond.code (mNam (MdP 62)) (mCod (MdP 62)) (mMax (MdP 62)) (mRet (MdP 62)) :: zBig := rfl
theorem iw_62 : ∀ w ∈ zBig, w ∈ mWs (MdP 62) := fun w h => List.mem_cons_of_mem _ h
theorem hws_63 : mWs (MdP 63) = Cond.code (mNam (MdP 63)) (mCod (MdP 63)) (mMax (MdP 63)) (mRet (MdP 63)) :: zBig := rfl
theorem iw_63 : ∀ w ∈ zBig, w ∈ mWs (MdP 63) := fun w h => List.mem_cons_of_mem _ h
theorem hws_64 : mWs (MdP 64) = Cond.code (mNam (MdP 64)) (mCod (MdP 64)) (mMax (MdP 64)) (mRet (MdP 64)) :: zBig := rfl
theorem iw_64 : ∀ w ∈ zBig, w ∈ mWs (MdP 64) := fun w h => List.mem_cons_of_mem _ h
theorem hws_65 : mWs (MdP 65) = Cond.code (mNam (MdP 65)) (mCod (MdP 65)) (mMax (MdP 65)) (mRet (MdP 65)) :: zBig := rfl
theorem iw_65 : ∀ w ∈ zBig, w ∈ mWs (MdP 65) := fun w h => List.mem_cons_of_mem _ h
theorem hws_66 : mWs (MdP 66) = Cond.code (mNam (MdP 66)) (mCod (MdP 66)) (mMax (MdP 66)) (mRet (MdP 66)) :: zBig := rfl
theorem iw_66 : ∀ w ∈ zBig, w ∈ mWs (MdP 66) := fun w h => List.mem_cons_of_mem _ h
theorem hws_67 : mWs (MdP 67) = Cond.code (mNam (MdP 67)) (mCod (MdP 67)) (mMax (MdP 67)) (mRet (MdP 67)) :: zBig := rfl
theorem iw_67 : ∀ w ∈ zBig, w ∈ mWs (MdP 67) := fun w h => List.mem_cons_of_mem _ h
theorem hws_68 : mWs (MdP 68) = Cond.code (mNam (MdP 68)) (mCod (MdP 68)) (mMax (MdP 68)) (mRet (MdP 68)) :: zBig := rfl
theorem iw_68 : ∀ w ∈ zBig, w ∈ mWs (MdP 68) := fun w h => List.mem_cons_of_mem _ h
theorem hws_69 : mWs (MdP 69) = Cond.code (mNam (MdP 69)) (mCod (MdP 69)) (mMax (MdP 69)) (mRet (MdP 69)) :: zBig := rfl
theorem iw_69 : ∀ w ∈ zBig, w ∈ mWs (MdP 69) := fun w h => List.mem_cons_of_mem _ h
theorem hws_70 : mWs (MdP 70) = Cond.code (mNam (MdP 70)) (mCod (MdP 70)) (mMax (MdP 70)) (mRet (MdP 70)) :: zBig := rfl
theorem iw_70 : ∀ w ∈ zBig, w ∈ mWs (MdP 70) := fun w h => List.mem_cons_of_mem _ h
theorem hws_71 : mWs (MdP 71) = Cond.code (mNam (MdP 71)) (mCod (MdP 71)) (mMax (MdP 71)) (mRet (MdP 71)) :: zBig := rfl
theorem iw_71 : ∀ w ∈ zBig, w ∈ mWs (MdP 71) := fun w h => List.mem_cons_of_mem _ h
theorem hws_72 : mWs (MdP 72) = Cond.code (mNam (MdP 72)) (mCod (MdP 72)) (mMax (MdP 72)) (mRet (MdP 72)) :: zBig := rfl
theorem iw_72 : ∀ w ∈ zBig, w ∈ mWs (MdP 72) := fun w h => List.mem_cons_of_mem _ h
theorem hws_73 : mWs (MdP 73) = Cond.code (mNam (MdP 73)) (mCod (MdP 73)) (mMax (MdP 73)) (mRet (MdP 73)) :: zBig := rfl
theorem iw_73 : ∀ w ∈ zBig, w ∈ mWs (MdP 73) := fun w h => List.mem_cons_of_mem _ h
theorem hws_74 : mWs (MdP 74) = Cond.code (mNam (MdP 74)) (mCod (MdP 74)) (mMax (MdP 74)) (mRet (MdP 74)) :: zBig := rfl
theorem iw_74 : ∀ w ∈ zBig, w ∈ mWs (MdP 74) := fun w h => List.mem_cons_of_mem _ h
theorem hws_75 : mWs (MdP 75) = Cond.code (mNam (MdP 75)) (mCod (MdP 75)) (mMax (MdP 75)) (mRet (MdP 75)) :: zBig := rfl
theorem iw_75 : ∀ w ∈ zBig, w ∈ mWs (MdP 75) := fun w h => List.mem_cons_of_mem _ h
theorem hws_76 : mWs (MdP 76) = Cond.code (mNam (MdP 76)) (mCod (MdP 76)) (mMax (MdP 76)) (mRet (MdP 76)) :: zBig := rfl
theorem iw_76 : ∀ w ∈ zBig, w ∈ mWs (MdP 76) := fun w h => List.mem_cons_of_mem _ h
theorem hws_77 : mWs (MdP 77) = Cond.code (mNam (MdP 77)) (mCod (MdP 77)) (mMax (MdP 77)) (mRet (MdP 77)) :: zBig := rfl
theorem iw_77 : ∀ w ∈ zBig, w ∈ mWs (MdP 77) := fun w h => List.mem_cons_of_mem _ h
theorem hws_78 : mWs (MdP 78) = Cond.code (mNam (MdP 78)) (mCod (MdP 78)) (mMax (MdP 78)) (mRet (MdP 78)) :: zBig := rfl
theorem iw_78 : ∀ w ∈ zBig, w ∈ mWs (MdP 78) := fun w h => List.mem_cons_of_mem _ h
theorem hws_79 : mWs (MdP 79) = Cond.code (mNam (MdP 79)) (mCod (MdP 79)) (mMax (MdP 79)) (mRet (MdP 79)) :: zBig := rfl
theorem iw_79 : ∀ w ∈ zBig, w ∈ mWs (MdP 79) := fun w h => List.mem_cons_of_mem _ h
theorem hws_80 : mWs (MdP 80) = Cond.code (mNam (MdP 80)) (mCod (MdP 80)) (mMax (MdP 80)) (mRet (MdP 80)) :: zBig := rfl
theorem iw_80 : ∀ w ∈ zBig, w ∈ mWs (MdP 80) := fun w h => List.mem_cons_of_mem _ h
theorem hws_81 : mWs (MdP 81) = Cond.code (mNam (MdP 81)) (mCod (MdP 81)) (mMax (MdP 81)) (mRet (MdP 81)) :: zBig := rfl
theorem iw_81 : ∀ w ∈ zBig, w ∈ mWs (MdP 81) := fun w h => List.mem_cons_of_mem _ h
theorem hws_82 : mWs (MdP 82) = Cond.code (mNam (MdP 82)) (mCod (MdP 82)) (mMax (MdP 82)) (mRet (MdP 82)) :: zBig := rfl
theorem iw_82 : ∀ w ∈ zBig, w ∈ mWs (MdP 82) := fun w h => List.mem_cons_of_mem _ h
theorem hws_83 : mWs (MdP 83) = Cond.code (mNam (MdP 83)) (mCod (MdP 83)) (mMax (MdP 83)) (mRet (MdP 83)) :: zBig := rfl
theorem iw_83 : ∀ w ∈ zBig, w ∈ mWs (MdP 83) := fun w h => List.mem_cons_of_mem _ h
theorem hws_84 : mWs (MdP 84) = Cond.code (mNam (MdP 84)) (mCod (MdP 84)) (mMax (MdP 84)) (mRet (MdP 84)) :: zBig := rfl
theorem iw_84 : ∀ w ∈ zBig, w ∈ mWs (MdP 84) := fun w h => List.mem_cons_of_mem _ h
theorem hws_85 : mWs (MdP 85) = Cond.code (mNam (MdP 85)) (mCod (MdP 85)) (mMax (MdP 85)) (mRet (MdP 85)) :: zBig := rfl
theorem iw_85 : ∀ w ∈ zBig, w ∈ mWs (MdP 85) := fun w h => List.mem_cons_of_mem _ h
theorem hws_86 : mWs (MdP 86) = Cond.code (mNam (MdP 86)) (mCod (MdP 86)) (mMax (MdP 86)) (mRet (MdP 86)) :: zBig := rfl
theorem iw_86 : ∀ w ∈ zBig, w ∈ mWs (MdP 86) := fun w h => List.mem_cons_of_mem _ h
theorem hws_87 : mWs (MdP 87) = Cond.code (mNam (MdP 87)) (mCod (MdP 87)) (mMax (MdP 87)) (mRet (MdP 87)) :: zBig := rfl
theorem iw_87 : ∀ w ∈ zBig, w ∈ mWs (MdP 87) := fun w h => List.mem_cons_of_mem _ h
theorem hws_88 : mWs (MdP 88) = Cond.code (mNam (MdP 88)) (mCod (MdP 88)) (mMax (MdP 88)) (mRet (MdP 88)) :: zBig := rfl
theorem iw_88 : ∀ w ∈ zBig, w ∈ mWs (MdP 88) := fun w h => List.mem_cons_of_mem _ h
theorem hws_89 : mWs (MdP 89) = Cond.code (mNam (MdP 89)) (mCod (MdP 89)) (mMax (MdP 89)) (mRet (MdP 89)) :: zBig := rfl
theorem iw_89 : ∀ w ∈ zBig, w ∈ mWs (MdP 89) := fun w h => List.mem_cons_of_mem _ h
theorem hws_90 : mWs (MdP 90) = Cond.code (mNam (MdP 90)) (mCod (MdP 90)) (mMax (MdP 90)) (mRet (MdP 90)) :: zBig := rfl
theorem iw_90 : ∀ w ∈ zBig, w ∈ mWs (MdP 90) := fun w h => List.mem_cons_of_mem _ h
theorem hws_91 : mWs (MdP 91) = Cond.code (mNam (MdP 91)) (mCod (MdP 91)) (mMax (MdP 91)) (mRet (MdP 91)) :: zBig := rfl
theorem iw_91 : ∀ w ∈ zBig, w ∈ mWs (MdP 91) := fun w h => List.mem_cons_of_mem _ h
theorem hws_92 : mWs (MdP 92) = Cond.code (mNam (MdP 92)) (mCod (MdP 92)) (mMax (MdP 92)) (mRet (MdP 92)) :: zBig := rfl
theorem iw_92 : ∀ w ∈ zBig, w ∈ mWs (MdP 92) := fun w h => List.mem_cons_of_mem _ h
theorem hws_93 : mWs (MdP 93) = Cond.code (mNam (MdP 93)) (mCod (MdP 93)) (mMax (MdP 93)) (mRet (MdP 93)) :: zBig := rfl
theorem iw_93 : ∀ w ∈ zBig, w ∈ mWs (MdP 93) := fun w h => List.mem_cons_of_mem _ h
theorem hws_94 : mWs (MdP 94) = Cond.code (mNam (MdP 94)) (mCod (MdP 94)) (mMax (MdP 94)) (mRet (MdP 94)) :: zBig := rfl
theorem iw_94 : ∀ w ∈ zBig, w ∈ mWs (MdP 94) := fun w h => List.mem_cons_of_mem _ h
theorem hws_95 : mWs (MdP 95) = Cond.code (mNam (MdP 95)) (mCod (MdP 95)) (mMax (MdP 95)) (mRet (MdP 95)) :: zBig := rfl
theorem iw_95 : ∀ w ∈ zBig, w ∈ mWs (MdP 95) := fun w h => List.mem_cons_of_mem _ h
theorem hws_96 : mWs (MdP 96) = Cond.code (mNam (MdP 96)) (mCod (MdP 96)) (mMax (MdP 96)) (mRet (MdP 96)) :: zBig := rfl
theorem iw_96 : ∀ w ∈ zBig, w ∈ mWs (MdP 96) := fun w h => List.mem_cons_of_mem _ h
theorem hws_97 : mWs (MdP 97) = Cond.code (mNam (MdP 97)) (mCod (MdP 97)) (mMax (MdP 97)) (mRet (MdP 97)) :: zBig := rfl
theorem iw_97 : ∀ w ∈ zBig, w ∈ mWs (MdP 97) := fun w h => List.mem_cons_of_mem _ h
theorem hws_98 : mWs (MdP 98) = Cond.codeWith (mNam (MdP 98)) (mCod (MdP 98)) (mMax (MdP 98)) (mRet (MdP 98)) (mHH (MdP 98)) :: zBig := rfl
theorem iw_98 : ∀ w ∈ zBig, w ∈ mWs (MdP 98) := fun w h => List.mem_cons_of_mem _ h
theorem hws_99 : mWs (MdP 99) = Cond.codeWith (mNam (MdP 99)) (mCod (MdP 99)) (mMax (MdP 99)) (mRet (MdP 99)) (mHH (MdP 99)) :: zBig := rfl
theorem iw_99 : ∀ w ∈ zBig, w ∈ mWs (MdP 99) := fun w h => List.mem_cons_of_mem _ h
theorem hws_100 : mWs (MdP 100) = Cond.code (mNam (MdP 100)) (mCod (MdP 100)) (mMax (MdP 100)) (mRet (MdP 100)) :: zBig := rfl
theorem iw_100 : ∀ w ∈ zBig, w ∈ mWs (MdP 100) := fun w h => List.mem_cons_of_mem _ h
theorem hws_101 : mWs (MdP 101) = Cond.code (mNam (MdP 101)) (mCod (MdP 101)) (mMax (MdP 101)) (mRet (MdP 101)) :: zBig := rfl
theorem iw_101 : ∀ w ∈ zBig, w ∈ mWs (MdP 101) := fun w h => List.mem_cons_of_mem _ h
theorem hws_102 : mWs (MdP 102) = Cond.codeWith (mNam (MdP 102)) (mCod (MdP 102)) (mMax (MdP 102)) (mRet (MdP 102)) (mHH (MdP 102)) :: zBig := rfl
theorem iw_102 : ∀ w ∈ zBig, w ∈ mWs (MdP 102) := fun w h => List.mem_cons_of_mem _ h
theorem hws_103 : mWs (MdP 103) = Cond.code (mNam (MdP 103)) (mCod (MdP 103)) (mMax (MdP 103)) (mRet (MdP 103)) :: zBig := rfl
theorem iw_103 : ∀ w ∈ zBig, w ∈ mWs (MdP 103) := fun w h => List.mem_cons_of_mem _ h
theorem hws_104 : mWs (MdP 104) = Cond.codeWith (mNam (MdP 104)) (mCod (MdP 104)) (mMax (MdP 104)) (mRet (MdP 104)) (mHH (MdP 104)) :: zBig := rfl
theorem iw_104 : ∀ w ∈ zBig, w ∈ mWs (MdP 104) := fun w h => List.mem_cons_of_mem _ h
theorem hws_105 : mWs (MdP 105) = Cond.codeWith (mNam (MdP 105)) (mCod (MdP 105)) (mMax (MdP 105)) (mRet (MdP 105)) (mHH (MdP 105)) :: zBig := rfl
theorem iw_105 : ∀ w ∈ zBig, w ∈ mWs (MdP 105) := fun w h => List.mem_cons_of_mem _ h
theorem hws_106 : mWs (MdP 106) = Cond.code (mNam (MdP 106)) (mCod (MdP 106)) (mMax (MdP 106)) (mRet (MdP 106)) :: zBig := rfl
theorem iw_106 : ∀ w ∈ zBig, w ∈ mWs (MdP 106) := fun w h => List.mem_cons_of_mem _ h
theorem hws_107 : mWs (MdP 107) = Cond.codeWith (mNam (MdP 107)) (mCod (MdP 107)) (mMax (MdP 107)) (mRet (MdP 107)) (mHH (MdP 107)) :: zBig := rfl
theorem iw_107 : ∀ w ∈ zBig, w ∈ mWs (MdP 107) := fun w h => List.mem_cons_of_mem _ h
theorem hws_108 : mWs (MdP 108) = Cond.codeWith (mNam (MdP 108)) (mCod (MdP 108)) (mMax (MdP 108)) (mRet (MdP 108)) (mHH (MdP 108)) :: zBig := rfl
theorem iw_108 : ∀ w ∈ zBig, w ∈ mWs (MdP 108) := fun w h => List.mem_cons_of_mem _ h
theorem hws_109 : mWs (MdP 109) = Cond.codeWith (mNam (MdP 109)) (mCod (MdP 109)) (mMax (MdP 109)) (mRet (MdP 109)) (mHH (MdP 109)) :: zBig := rfl
theorem iw_109 : ∀ w ∈ zBig, w ∈ mWs (MdP 109) := fun w h => List.mem_cons_of_mem _ h
theorem hws_110 : mWs (MdP 110) = Cond.code (mNam (MdP 110)) (mCod (MdP 110)) (mMax (MdP 110)) (mRet (MdP 110)) :: zBig := rfl
theorem iw_110 : ∀ w ∈ zBig, w ∈ mWs (MdP 110) := fun w h => List.mem_cons_of_mem _ h
theorem hws_111 : mWs (MdP 111) = Cond.code (mNam (MdP 111)) (mCod (MdP 111)) (mMax (MdP 111)) (mRet (MdP 111)) :: zBig := rfl
theorem iw_111 : ∀ w ∈ zBig, w ∈ mWs (MdP 111) := fun w h => List.mem_cons_of_mem _ h
theorem hws_112 : mWs (MdP 112) = Cond.code (mNam (MdP 112)) (mCod (MdP 112)) (mMax (MdP 112)) (mRet (MdP 112)) :: zBig := rfl
theorem iw_112 : ∀ w ∈ zBig, w ∈ mWs (MdP 112) := fun w h => List.mem_cons_of_mem _ h
theorem hws_113 : mWs (MdP 113) = Cond.code (mNam (MdP 113)) (mCod (MdP 113)) (mMax (MdP 113)) (mRet (MdP 113)) :: zBig := rfl
theorem iw_113 : ∀ w ∈ zBig, w ∈ mWs (MdP 113) := fun w h => List.mem_cons_of_mem _ h
theorem hws_114 : mWs (MdP 114) = Cond.code (mNam (MdP 114)) (mCod (MdP 114)) (mMax (MdP 114)) (mRet (MdP 114)) :: zBig := rfl
theorem iw_114 : ∀ w ∈ zBig, w ∈ mWs (MdP 114) := fun w h => List.mem_cons_of_mem _ h
theorem hws_115 : mWs (MdP 115) = Cond.code (mNam (MdP 115)) (mCod (MdP 115)) (mMax (MdP 115)) (mRet (MdP 115)) :: zBig := rfl
theorem iw_115 : ∀ w ∈ zBig, w ∈ mWs (MdP 115) := fun w h => List.mem_cons_of_mem _ h
theorem hws_116 : mWs (MdP 116) = Cond.code (mNam (MdP 116)) (mCod (MdP 116)) (mMax (MdP 116)) (mRet (MdP 116)) :: zBig := rfl
theorem iw_116 : ∀ w ∈ zBig, w ∈ mWs (MdP 116) := fun w h => List.mem_cons_of_mem _ h
theorem hws_117 : mWs (MdP 117) = Cond.code (mNam (MdP 117)) (mCod (MdP 117)) (mMax (MdP 117)) (mRet (MdP 117)) :: zBig := rfl
theorem iw_117 : ∀ w ∈ zBig, w ∈ mWs (MdP 117) := fun w h => List.mem_cons_of_mem _ h
theorem hws_118 : mWs (MdP 118) = Cond.code (mNam (MdP 118)) (mCod (MdP 118)) (mMax (MdP 118)) (mRet (MdP 118)) :: zBig := rfl
theorem iw_118 : ∀ w ∈ zBig, w ∈ mWs (MdP 118) := fun w h => List.mem_cons_of_mem _ h
