/-! THE PAGE: an action, the start of a page -/
/-- so many calls' worth of draws, cells and slots -/
def EU (a : Na) (h : Zh) (b : Na) (g : Zh) (n : Nat) : Prop := EL a h b g (20 * n) (200 * n) (20000 * n)
section
variable {a b e : Na} {S T : St} {h g k : Zh} {Q : Zp}
theorem EU.trans {n m : Nat} (x : EU a h b g n) (y : EU b g e k m) : EU a h e k (n + m) := (EL.trans x y).le (by omega) (by omega) (by omega)
theorem EU.le {n m : Nat} (x : EU a h b g n) (h1 : n ≤ m) : EU a h b g m := EL.le x (by omega) (by omega) (by omega)
theorem EU.z : EU a h a h 0 := ⟨by rfl, by rfl, by rfl, by omega, by omega, by omega⟩
theorem EL.eu {d : Int} {c s : Nat} (x : EL a h b g d c s) (h1 : d ≤ 20) (h2 : c ≤ 200) (h3 : s ≤ 20000) : EU a h b g 1 := EL.le x (by omega) (by omega) (by omega)
/-- room for so many calls more -/
def RM (a : Na) (h : Zh) (n : Nat) : Prop := gI h (a 200 0) 2 + 20 * n ≤ 800000 ∧ gC h + 200 * n ≤ MXC ∧ gS h + 20000 * n ≤ MXS
theorem RM.eu {n m : Nat} (r : RM a h (n + m)) (x : EU a h b g n) : RM b g m := by
  obtain ⟨r1, r2, r3⟩ := r
  obtain ⟨x2, x3, x4, x5, x6, x7⟩ := x
  refine ⟨?_, by omega, by omega⟩
  rw [x3]
  omega
theorem RM.le {n m : Nat} (r : RM a h n) (h1 : m ≤ n) : RM a h m := by
  obtain ⟨r1, r2, r3⟩ := r
  exact ⟨by omega, by omega, by omega⟩
theorem p_act (j : JP a S h) (r : RM a h 1) (k : ∀ b T g, JP b T g → EU a h b g 1 → Q (.inl (some (zi 1))) g) : WP 115 0 [some (zr (some (a 200 0)))] [] h Q := by
  obtain ⟨jq, xv⟩ := j
  obtain ⟨r1, r2, r3⟩ := r
  rw [b_115_0]
  refine ⟨(kd_some _ _ _).mpr jq.2.2.1.q0, ?_⟩
  refine w_draw jq 16 (by omega) (by omega) (fun v g v0 v1 j1 l1 => ?_)
  have d1 := l1.2.2.2.1
  have c1 := l1.2.2.2.2.1
  have s1 := l1.2.2.2.2.2
  have jp : JP a S g := ⟨j1, xv⟩
  have k0 := (kd_some g (a 200 0) 7).mpr j1.2.2.1.q0
  have pk : ∀ (b : Na) (T : St) (g2 : Zh), JP b T g2 → EL a g b g2 16 200 20000 → Q (.inl (some (zi 1))) g2 := fun b T g2 j2 l2 => k b T g2 j2 ((l1.trans l2).eu (by omega) (by omega) (by omega))
  rw [kont_v]
  show WP 115 6 _ _ _ _
  have cs : v = 0 ∨ v = 1 ∨ v = 2 ∨ v = 3 ∨ v = 4 ∨ v = 5 ∨ v = 6 ∨ v = 7 ∨ v = 8 ∨ v = 9 ∨ v = 10 ∨ v = 11 ∨ v = 12 ∨ v = 13 ∨ v = 14 ∨ v = 15 := by omega
  have y80 : WP 115 80 [some (zr (some (a 200 0)))] [] g Q := by
    rw [b_115_80]
    refine ⟨k0, ?_⟩
    refine w_draw j1 2 (by omega) (by omega) (fun z g2 z0 z1 j2 l2 => ?_)
    have d2 := l2.2.2.2.1
    have c2 := l2.2.2.2.2.1
    have s2 := l2.2.2.2.2.2
    have k2 := (kd_some g2 (a 200 0) 7).mpr j2.2.2.1.q0
    rw [kont_v]
    show WP 115 85 _ _ _ _
    rw [b_115_85]
    by_cases c : z = 0
    · rw [brt c, b_115_88]
      refine ⟨k2, ?_⟩
      refine p_setRight ⟨j2, xv⟩ (by omega) (fun b T g3 j3 l3 => ?_)
      rw [kont_v]
      show WP 115 92 _ _ _ _
      rw [b_115_92, b_115_104]
      exact ⟨by omega, k b T g3 j3 (((l1.trans l2).trans l3).eu (by omega) (by omega) (by omega))⟩
    · rw [brf c, b_115_95]
      refine ⟨k2, ?_⟩
      refine w_draw j2 5 (by omega) (by omega) (fun w g3 w0 w1 j3 l3 => ?_)
      have c3 := l3.2.2.2.2.1
      have s3 := l3.2.2.2.2.2
      rw [kont_v]
      show WP 115 101 _ _ _ _
      rw [b_115_101]
      refine ⟨(kd_some g3 (a 200 0) 7).mpr j3.2.2.1.q0, ?_⟩
      refine p_addUser j3 w (by omega) (by omega) (by omega) (fun _ => ?_) (fun h6 b g4 j4 l4 => ?_)
      · rw [kont_v]
        show WP 115 104 _ _ _ _
        rw [b_115_104]
        exact ⟨by omega, k a S g3 ⟨j3, xv⟩ (((l1.trans l2).trans l3).eu (by omega) (by omega) (by omega))⟩
      · rw [kont_v]
        show WP 115 104 _ _ _ _
        rw [b_115_104]
        exact ⟨by omega, k b _ g4 ⟨j4, xv_user xv w⟩ ((((l1.trans l2).trans l3).trans l4).eu (by omega) (by omega) (by omega))⟩
  have y105 : WP 115 105 [some (zr (some (a 200 0)))] [] g Q := by
    rw [b_115_105]
    refine ⟨k0, p_insert jp (by omega) (by omega) (by omega) (fun b T g2 j2 l2 => ?_)⟩
    rw [kont_v]
    show WP 115 109 _ _ _ _
    rw [b_115_109]
    exact ⟨by omega, pk b T g2 j2 l2⟩
  have y110 : WP 115 110 [some (zr (some (a 200 0)))] [] g Q := by
    rw [b_115_110]
    refine ⟨k0, p_delete jp (by omega) (by omega) (by omega) (fun b T g2 j2 l2 => ?_)⟩
    rw [kont_v]
    show WP 115 114 _ _ _ _
    rw [b_115_114]
    exact ⟨by omega, pk b T g2 j2 l2⟩
  have y115 : WP 115 115 [some (zr (some (a 200 0)))] [] g Q := by
    rw [b_115_115]
    refine ⟨k0, p_note jp (by omega) (by omega) (by omega) (fun b T g2 j2 l2 => ?_)⟩
    rw [kont_v]
    show WP 115 119 _ _ _ _
    rw [b_115_119]
    exact ⟨by omega, pk b T g2 j2 l2⟩
  have y120 : WP 115 120 [some (zr (some (a 200 0)))] [] g Q := by
    rw [b_115_120]
    refine ⟨k0, p_reply jp (by omega) (by omega) (by omega) (fun b T g2 j2 l2 => ?_)⟩
    rw [kont_v]
    show WP 115 124 _ _ _ _
    rw [b_115_124]
    exact ⟨by omega, pk b T g2 j2 l2⟩
  have y125 : WP 115 125 [some (zr (some (a 200 0)))] [] g Q := by
    rw [b_115_125]
    refine ⟨k0, p_settle jp (by omega) (by omega) (by omega) (fun b T g2 j2 l2 => ?_)⟩
    rw [kont_v]
    show WP 115 129 _ _ _ _
    rw [b_115_129]
    exact ⟨by omega, pk b T g2 j2 l2⟩
  have y130 : WP 115 130 [some (zr (some (a 200 0)))] [] g Q := by
    rw [b_115_130]
    refine ⟨k0, p_remove jp (by omega) (by omega) (by omega) (fun b T g2 j2 l2 => ?_)⟩
    rw [kont_v]
    show WP 115 134 _ _ _ _
    rw [b_115_134]
    exact ⟨by omega, pk b T g2 j2 l2⟩
  have y135 : WP 115 135 [some (zr (some (a 200 0)))] [] g Q := by
    rw [b_115_135]
    refine ⟨k0, p_propose jp (by omega) (by omega) (by omega) (fun b T g2 j2 l2 => ?_)⟩
    rw [kont_v]
    show WP 115 139 _ _ _ _
    rw [b_115_139]
    exact ⟨by omega, pk b T g2 j2 l2⟩
  have y140 : WP 115 140 [some (zr (some (a 200 0)))] [] g Q := by
    rw [b_115_140]
    refine ⟨k0, p_take jp (by omega) (by omega) (by omega) (fun b T g2 j2 l2 => ?_)⟩
    rw [kont_v]
    show WP 115 144 _ _ _ _
    rw [b_115_144]
    exact ⟨by omega, pk b T g2 j2 l2⟩
  have y145 : WP 115 145 [some (zr (some (a 200 0)))] [] g Q := by
    rw [b_115_145]
    refine ⟨k0, p_heal jp (fun b T g2 j2 l2 => ?_)⟩
    rw [kont_v]
    show WP 115 149 _ _ _ _
    rw [b_115_149]
    exact ⟨by omega, pk b T g2 j2 l2⟩
  rw [b_115_6]
  refine ⟨fun _ => y145, ?_⟩
  simp only [swA]
  exact ⟨fun _ => y80, fun _ => y105, fun _ => y105, fun _ => y105, fun _ => y110, fun _ => y110, fun _ => y115, fun _ => y115, fun _ => y120, fun _ => y120, fun _ => y125, fun _ => y130, fun _ => y130, fun _ => y135, fun _ => y140, trivial⟩
end
