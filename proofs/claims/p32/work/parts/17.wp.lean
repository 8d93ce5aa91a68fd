/-! ALL INSTRUCTIONS, and WP: what it says is so in the JVM model -/
def tb_37 : List (List (Nat × Op1)) := []
def tb_50 : List (List (Nat × Op1)) := []
def opl_0 : List (List (List (Nat × Op1))) := [tb_0, tb_1, tb_2, tb_3, tb_4, tb_5, tb_6, tb_7, tb_8, tb_9, tb_10, tb_11, tb_12, tb_13, tb_14, tb_15, tb_16, tb_17, tb_18, tb_19, tb_20, tb_21, tb_22, tb_23, tb_24]
def opl_1 : List (List (List (Nat × Op1))) := [tb_25, tb_26, tb_27, tb_28, tb_29, tb_30, tb_31, tb_32, tb_33, tb_34, tb_35, tb_36, tb_37, tb_38, tb_39, tb_40, tb_41, tb_42, tb_43, tb_44, tb_45, tb_46, tb_47, tb_48, tb_49]
def opl_2 : List (List (List (Nat × Op1))) := [tb_50, tb_51, tb_52, tb_53, tb_54, tb_55, tb_56, tb_57, tb_58, tb_59, tb_60, tb_61, tb_62, tb_63, tb_64, tb_65, tb_66, tb_67, tb_68, tb_69, tb_70, tb_71, tb_72, tb_73, tb_74]
def opl_3 : List (List (List (Nat × Op1))) := [tb_75, tb_76, tb_77, tb_78, tb_79, tb_80, tb_81, tb_82, tb_83, tb_84, tb_85, tb_86, tb_87, tb_88, tb_89, tb_90, tb_91, tb_92, tb_93, tb_94, tb_95, tb_96, tb_97, tb_98, tb_99]
def opl_4 : List (List (List (Nat × Op1))) := [tb_100, tb_101, tb_102, tb_103, tb_104, tb_105, tb_106, tb_107, tb_108, tb_109, tb_110, tb_111, tb_112, tb_113, tb_114, tb_115, tb_116, tb_117, tb_118]
def opP (m pc : Nat) : Op1 := (((([opl_0, opl_1, opl_2, opl_3, opl_4][m / 25]?.getD [])[m % 25]?.getD [])[pc / 64]?.getD []).lookup pc).getD oFail
section
variable {D : va_G} {A : Nat → Prop} {l : Launch}
theorem look_mem {α : Type} {e : Nat} {t : α} : ∀ (hs : List (Nat × α)), hs.lookup e = some t → (e, t) ∈ hs
  | [], h => by cases h
  | (a, b) :: r, h => by
    rw [List.lookup_cons] at h
    by_cases q : e = a
    · subst q
      simp at h
      subst h
      exact List.mem_cons_self
    · have q2 : (e == a) = false := by simp [q]
      rw [q2] at h
      exact List.mem_cons_of_mem _ (look_mem r h)
theorem sm_fail (m pc : Nat) : SM GwP MdP D A l m pc oFail := ⟨mo_oFail, fun _ _ _ _ k => k.elim⟩
theorem sm_look {m pc : Nat} {tt : List (List (Nat × Op1))} (h : ∀ t ∈ tt, ∀ q ∈ t, SM GwP MdP D A l m q.1 q.2) : SM GwP MdP D A l m pc (((tt[pc / 64]?.getD []).lookup pc).getD oFail) := by
  cases e0 : tt[pc / 64]? with
  | none => exact sm_fail m pc
  | some t =>
    show SM GwP MdP D A l m pc ((t.lookup pc).getD oFail)
    cases e : t.lookup pc with
    | none => exact sm_fail m pc
    | some f => exact h t (List.mem_of_getElem? e0) (pc, f) (look_mem t e)
theorem sm_all : ∀ m pc, SM GwP MdP D A l m pc (opP m pc) := by
  intro m pc
  match m with
  | 0 => exact sm_look sm_0
  | 1 => exact sm_look sm_1
  | 2 => exact sm_look sm_2
  | 3 => exact sm_look sm_3
  | 4 => exact sm_look sm_4
  | 5 => exact sm_look sm_5
  | 6 => exact sm_look sm_6
  | 7 => exact sm_look sm_7
  | 8 => exact sm_look sm_8
  | 9 => exact sm_look sm_9
  | 10 => exact sm_look sm_10
  | 11 => exact sm_look sm_11
  | 12 => exact sm_look sm_12
  | 13 => exact sm_look sm_13
  | 14 => exact sm_look sm_14
  | 15 => exact sm_look sm_15
  | 16 => exact sm_look sm_16
  | 17 => exact sm_look sm_17
  | 18 => exact sm_look sm_18
  | 19 => exact sm_look sm_19
  | 20 => exact sm_look sm_20
  | 21 => exact sm_look sm_21
  | 22 => exact sm_look sm_22
  | 23 => exact sm_look sm_23
  | 24 => exact sm_look sm_24
  | 25 => exact sm_look sm_25
  | 26 => exact sm_look sm_26
  | 27 => exact sm_look sm_27
  | 28 => exact sm_look sm_28
  | 29 => exact sm_look sm_29
  | 30 => exact sm_look sm_30
  | 31 => exact sm_look sm_31
  | 32 => exact sm_look sm_32
  | 33 => exact sm_look sm_33
  | 34 => exact sm_look sm_34
  | 35 => exact sm_look sm_35
  | 36 => exact sm_look sm_36
  | 37 => exact sm_look (fun _ h => nomatch h)
  | 38 => exact sm_look sm_38
  | 39 => exact sm_look sm_39
  | 40 => exact sm_look sm_40
  | 41 => exact sm_look sm_41
  | 42 => exact sm_look sm_42
  | 43 => exact sm_look sm_43
  | 44 => exact sm_look sm_44
  | 45 => exact sm_look sm_45
  | 46 => exact sm_look sm_46
  | 47 => exact sm_look sm_47
  | 48 => exact sm_look sm_48
  | 49 => exact sm_look sm_49
  | 50 => exact sm_look (fun _ h => nomatch h)
  | 51 => exact sm_look sm_51
  | 52 => exact sm_look sm_52
  | 53 => exact sm_look sm_53
  | 54 => exact sm_look sm_54
  | 55 => exact sm_look sm_55
  | 56 => exact sm_look sm_56
  | 57 => exact sm_look sm_57
  | 58 => exact sm_look sm_58
  | 59 => exact sm_look sm_59
  | 60 => exact sm_look sm_60
  | 61 => exact sm_look sm_61
  | 62 => exact sm_look sm_62
  | 63 => exact sm_look sm_63
  | 64 => exact sm_look sm_64
  | 65 => exact sm_look sm_65
  | 66 => exact sm_look sm_66
  | 67 => exact sm_look sm_67
  | 68 => exact sm_look sm_68
  | 69 => exact sm_look sm_69
  | 70 => exact sm_look sm_70
  | 71 => exact sm_look sm_71
  | 72 => exact sm_look sm_72
  | 73 => exact sm_look sm_73
  | 74 => exact sm_look sm_74
  | 75 => exact sm_look sm_75
  | 76 => exact sm_look sm_76
  | 77 => exact sm_look sm_77
  | 78 => exact sm_look sm_78
  | 79 => exact sm_look sm_79
  | 80 => exact sm_look sm_80
  | 81 => exact sm_look sm_81
  | 82 => exact sm_look sm_82
  | 83 => exact sm_look sm_83
  | 84 => exact sm_look sm_84
  | 85 => exact sm_look sm_85
  | 86 => exact sm_look sm_86
  | 87 => exact sm_look sm_87
  | 88 => exact sm_look sm_88
  | 89 => exact sm_look sm_89
  | 90 => exact sm_look sm_90
  | 91 => exact sm_look sm_91
  | 92 => exact sm_look sm_92
  | 93 => exact sm_look sm_93
  | 94 => exact sm_look sm_94
  | 95 => exact sm_look sm_95
  | 96 => exact sm_look sm_96
  | 97 => exact sm_look sm_97
  | 98 => exact sm_look sm_98
  | 99 => exact sm_look sm_99
  | 100 => exact sm_look sm_100
  | 101 => exact sm_look sm_101
  | 102 => exact sm_look sm_102
  | 103 => exact sm_look sm_103
  | 104 => exact sm_look sm_104
  | 105 => exact sm_look sm_105
  | 106 => exact sm_look sm_106
  | 107 => exact sm_look sm_107
  | 108 => exact sm_look sm_108
  | 109 => exact sm_look sm_109
  | 110 => exact sm_look sm_110
  | 111 => exact sm_look sm_111
  | 112 => exact sm_look sm_112
  | 113 => exact sm_look sm_113
  | 114 => exact sm_look sm_114
  | 115 => exact sm_look sm_115
  | 116 => exact sm_look sm_116
  | 117 => exact sm_look sm_117
  | 118 => exact sm_look sm_118
  | k + 119 =>
    have e : opP (k + 119) pc = oFail := by
      unfold opP
      have h0 : ∀ (i : Nat), 5 ≤ i → ([opl_0, opl_1, opl_2, opl_3, opl_4])[i]? = none := fun i hi => List.getElem?_eq_none (by simpa using hi)
      by_cases q : 5 ≤ (k + 119) / 25
      · rw [h0 _ q]
        show ((([] : List (List (Nat × Op1)))[pc / 64]?.getD []).lookup pc).getD oFail = oFail
        rfl
      · have q1 : (k + 119) / 25 = 4 := by omega
        rw [q1]
        have h1 : opl_4[(k + 119) % 25]? = none := List.getElem?_eq_none (by show 19 ≤ _; omega)
        show (((((some opl_4).getD [])[(k + 119) % 25]?.getD [])[pc / 64]?.getD []).lookup pc).getD oFail = oFail
        rw [show ((some opl_4).getD []) = opl_4 from rfl, h1]
        rfl
    rw [e]
    exact sm_fail _ pc
end
def WP : Zx := WPo opP
theorem op_mo : ∀ m pc, OpMo (opP m pc) := fun m pc => (sm_all (D := (fun _ => 0, fun _ _ => 0)) (A := fun _ => True) (l := launch0) m pc).1
theorem WP_mo : ZxMo WP := WPo_mo opP
theorem WP_eq (m pc : Nat) (ls : Zl) (st : List Zv) (h : Zh) (Q : Zp) : WP m pc ls st h Q = opP m pc WP m pc ls st h Q := WPo_eq op_mo m pc ls st h Q
/-- SOUND -/
theorem WP_sound {D : va_G} {A : Nat → Prop} {l : Launch} {m pc : Nat} {ls : Zl} {st : List Zv} {h : Zh} {Q : Zp} (k : WP m pc ls st h Q) : XS GwP MdP D A l m pc ls st h Q := k _ (XS_mo GwP MdP D A l) (fun m pc ls st h Q z => (sm_all m pc).2 ls st h Q z)
