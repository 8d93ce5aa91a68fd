/-! WHAT THE LAW ASKS, pure: counts -/
theorem mean_0 : ∀ x : Fin 61, ∀ y : Fin 61, y = 0 ∨ (Op.cmpValue (FP.dcmp (FP.ddiv (FP.i2d (Int32.ofInt (x.val : Int))) (FP.i2d (Int32.ofInt (y.val : Int)))) (FP.ddiv (FP.i2d (Int32.ofInt (x.val : Int))) (FP.i2d (Int32.ofInt (y.val : Int))))) .l).toInt = 0 := by decide +kernel
theorem mean_1 {x y : Int} (hx : 0 ≤ x ∧ x ≤ 60) (hy : 0 < y ∧ y ≤ 60) : (Op.cmpValue (FP.dcmp (FP.ddiv (FP.i2d (Int32.ofInt x)) (FP.i2d (Int32.ofInt y))) (FP.ddiv (FP.i2d (Int32.ofInt x)) (FP.i2d (Int32.ofInt y)))) .l).toInt = 0 := by
  have h := mean_0 ⟨x.toNat, by omega⟩ ⟨y.toNat, by omega⟩
  rcases h with h | h
  · have := congrArg Fin.val h
    have h2 : y.toNat = 0 := this
    omega
  · have e1 : ((x.toNat : Nat) : Int) = x := Int.toNat_of_nonneg hx.1
    have e2 : ((y.toNat : Nat) : Int) = y := Int.toNat_of_nonneg (by omega)
    rw [← e1, ← e2]
    exact h
theorem mean_2 : (Op.cmpValue (FP.dcmp FP.dconst0 FP.dconst0) .l).toInt = 0 := by decide +kernel
section
variable {S : St}
theorem mn_3 (S : St) : MN S 3 ≤ MN S 2 := by
  unfold MN
  rw [if_neg (by omega), if_neg (by omega), if_neg (by omega), if_neg (by omega)]
  exact cn_mo (fun j z => ⟨z.1, .inl rfl⟩) _ _
theorem mn_4 (S : St) : MN S 4 ≤ MN S 2 := by
  unfold MN
  rw [if_neg (by omega), if_neg (by omega), if_neg (by omega), if_neg (by omega)]
  exact cn_mo (fun j z => ⟨z.1, .inl rfl⟩) _ _
theorem ws_mo (S : St) (u r : Int) (h : r ≤ 4) (m : Nat) (i : Int) : cn (WS S u (r - 1)) m i ≤ cn (WS S u r) m i :=
  cn_mo (fun j z => ⟨z.1, by have := z.2; unfold SE at this ⊢; omega⟩) _ _
theorem ws_0 (S : St) (u : Int) (m : Nat) (i : Int) : cn (WS S u 0) m i = 0 := cn_z (fun j _ _ z => by have := z.2.1; omega)
theorem ws_4 (S : St) (u : Int) : cn (WS S u 4) (S 7 0 0).toNat 0 = MN S 1 := by
  unfold MN
  rw [if_neg (by omega), if_pos rfl]
  exact cn_c (fun j _ _ => ⟨fun z => z.1, fun z => ⟨z, by unfold SE; omega⟩⟩)
theorem ov_01 (xu : XU S) (p : Int) (m : Nat) (i : Int) : cn (OV S 1 p) m i ≤ cn (OV S 0 p) m i :=
  cn_mo (fun j z => ⟨z.1, by have := xu.1; unfold SE; omega, z.2.2⟩) _ _
theorem lb_all (iv : Inv S) : cn (LB S 0 (S 3 (S 2 0 0) 0)) (S 7 0 0).toNat 0 = MN S 2 - MN S 4 := by
  have e : cn (CT S 2) (S 7 0 0).toNat 0 = cn (LB S 0 (S 3 (S 2 0 0) 0)) (S 7 0 0).toNat 0 + cn (CT S 4) (S 7 0 0).toNat 0 := by
    rw [← cn_or (fun j z y => by have := z.2.1; have := y.2; omega)]
    refine cn_c (fun j h1 h2 => ⟨fun z => ?_, fun z => ?_⟩)
    · have hj : hd S j := ⟨nt_in iv h1 h2, z.1.1⟩
      have f := (iv.2.2.1.2.2.2.1 j hj).1
      by_cases c : S 13 j 0 = S 14 j 0
      · exact .inr ⟨z.1, .inr (.inr ⟨rfl, c⟩)⟩
      · exact .inl ⟨z.1, c, by omega, by omega⟩
    · rcases z with z | z
      · exact ⟨z.1, .inl rfl⟩
      · exact ⟨z.1, .inl rfl⟩
  unfold MN
  rw [if_neg (by omega), if_neg (by omega), if_neg (by omega), if_neg (by omega)]
  omega
theorem nw9_cur (x : XN S) {k : Int} (h1 : 0 ≤ k) (h2 : k < S 3 (S 2 0 0) 0) : nw9 S (S 2 0 0) k = k := by
  unfold nw9
  rcases fs_sp (fun i => S 4 (S 2 0 0) i = S 4 (S 2 0 0) k) (S 3 (S 2 0 0) 0).toNat 0 (Int.le_refl _) with ⟨e, f⟩ | ⟨e1, e2, e3, -⟩
  · exact absurd rfl (f k h1 (by omega))
  · exact x _ k e1 (by omega) h1 h2 e3
/-! an export's rows, exactly -/
theorem ms_hd (iv : Inv S) {k : Int} (hk : hd S k) : ms S (fun j => S 12 j 0 ≠ 2) k = cn (TP S k (-1)) (S 7 0 0).toNat 0 := by
  unfold ms
  refine cn_c (fun j h1 h2 => ⟨fun z => ⟨z.2.1, z.1.trans hk.2, .inl rfl⟩, fun z => ⟨z.2.1.trans hk.2.symm, z.1, ky_hd iv hk j (nt_in iv h1 h2) z.2.1⟩⟩)
theorem ms_e (iv : Inv S) {x : Int} (hx : nt S x) (gx : S 12 x 0 ≠ 2) : ms S (fun j => S 12 j 0 ≠ 2) x = 1 + (if BH S x = -1 then 0 else ms S (fun j => S 12 j 0 ≠ 2) (BH S x)) := by
  have a := nt_at iv hx
  have b := BH_sp iv x hx
  have e : ms S (fun j => S 12 j 0 ≠ 2) x = cn (fun j => j = x ∨ (BH S x ≠ -1 ∧ S 11 j 0 = S 11 x 0 ∧ S 12 j 0 ≠ 2 ∧ KY S (BH S x) ≤ KY S j)) (S 7 0 0).toNat 0 := by
    unfold ms
    refine cn_c (fun j h1 h2 => ⟨fun z => ?_, fun z => ?_⟩)
    · have hj := nt_in iv h1 h2
      by_cases c : j = x
      · exact .inl c
      · have ne : KY S j ≠ KY S x := fun q => c (ky_inj iv hj hx z.1 q)
        have l := z.2.2
        rcases b with ⟨b1, b2⟩ | ⟨b1, b2, b3, b4, b5⟩
        · have := b2 j hj z.2.1 z.1; omega
        · exact .inr ⟨by have := b1.1; omega, z.1, z.2.1, b5 j hj z.2.1 z.1 (by omega)⟩
    · rcases z with z | ⟨n, z1, z2, z3⟩
      · subst z
        exact ⟨rfl, gx, Int.le_refl _⟩
      · rcases b with ⟨b1, b2⟩ | ⟨b1, b2, b3, b4, b5⟩
        · exact absurd b1 n
        · exact ⟨z1, z2, by omega⟩
  rw [e]
  by_cases c : BH S x = -1
  · rw [if_pos c, cn_c (q := fun j => j = x) (fun j h1 h2 => ⟨fun z => z.resolve_right (fun y => y.1 c), .inl⟩), cn_1 x _ 0 a.1 a.2]
    rfl
  · obtain ⟨n1, n2, n3, n4⟩ := isN_nt b c
    rw [if_neg c, cn_or (fun j z y => by subst z; have := y.2.2.2; omega), cn_1 x _ 0 a.1 a.2]
    congr 1
    unfold ms
    exact cn_c (fun j h1 h2 => ⟨fun z => ⟨z.2.1.trans n3.symm, z.2.2⟩, fun z => ⟨c, z.1.trans n3, z.2⟩⟩)
/-- rows as they should be -/
def RO (S : St) (P : Int → Prop) (s : Int × (Int → Int → Int)) : Prop := 0 ≤ s.1 ∧ ∀ p, 0 ≤ p → p < s.1 → nt S (s.2 p 0) ∧ S 12 (s.2 p 0) 0 ≠ 2 ∧ P (S 11 (s.2 p 0) 0) ∧ ∀ w, s.2 p w = row S (s.2 p 0) w
theorem RO.ap {P : Int → Prop} {s : Int × (Int → Int → Int)} (r : RO S P s) {x : Int} (hx : nt S x) (gx : S 12 x 0 ≠ 2) (px : P (S 11 x 0)) : RO S P (ap1 S x s) := by
  have r0 := r.1
  refine ⟨by show 0 ≤ s.1 + 1; omega, fun p h1 h2 => ?_⟩
  have h2 : p < s.1 + 1 := h2
  show nt S (if p = s.1 then row S x 0 else s.2 p 0) ∧ S 12 (if p = s.1 then row S x 0 else s.2 p 0) 0 ≠ 2 ∧ P (S 11 (if p = s.1 then row S x 0 else s.2 p 0) 0) ∧ ∀ w, (if p = s.1 then row S x w else s.2 p w) = row S (if p = s.1 then row S x 0 else s.2 p 0) w
  by_cases c : p = s.1
  · have e : row S x 0 = x := rfl
    simp only [if_pos c, e]
    exact ⟨hx, gx, px, fun w => trivial⟩
  · simp only [if_neg c]
    exact r.2 p h1 (by omega)
theorem apO_e (iv : Inv S) {P : Int → Prop} (m : Nat) : ∀ (x : Int) (s : Int × (Int → Int → Int)), (x = -1 ∨ (nt S x ∧ S 12 x 0 ≠ 2 ∧ P (S 11 x 0))) → (if x = -1 then 0 else ms S (fun j => S 12 j 0 ≠ 2) x) ≤ m → RO S P s → (apO S m x s).1 = s.1 + (if x = -1 then 0 else ms S (fun j => S 12 j 0 ≠ 2) x) ∧ RO S P (apO S m x s) := by
  induction m with
  | zero =>
    intro x s hx h r
    have e : (if x = -1 then 0 else ms S (fun j => S 12 j 0 ≠ 2) x) = 0 := by
      rcases hx with c | ⟨hx, gx, -⟩
      · rw [if_pos c]
      · have := ms_1 (G := fun j => S 12 j 0 ≠ 2) iv hx gx
        rw [if_neg (by have := hx.1; omega)] at h ⊢
        omega
    rw [e]
    exact ⟨(Int.add_zero _).symm, r⟩
  | succ m ih =>
    intro x s hx h r
    show (if x = -1 then s else apO S m (BH S x) (ap1 S x s)).1 = _ ∧ RO S P (if x = -1 then s else apO S m (BH S x) (ap1 S x s))
    by_cases c : x = -1
    · rw [if_pos c, if_pos c]
      exact ⟨(Int.add_zero _).symm, r⟩
    · rw [if_neg c] at h ⊢
      rw [if_neg c]
      obtain ⟨hx, gx, px⟩ := hx.resolve_left c
      have e := ms_e iv hx gx
      have := ih (BH S x) (ap1 S x s) (by
        rcases BH_sp iv x hx with ⟨z, -⟩ | ⟨z1, z2, z3, -⟩
        · exact .inl z
        · exact .inr ⟨z1, z2, by rw [z3]; exact px⟩) (by omega) (r.ap hx gx px)
      refine ⟨?_, this.2⟩
      rw [this.1, e]
      show s.1 + 1 + _ = _
      omega
theorem BC_e (iv : Inv S) {n : Nat} {c : Int → Int} {k i : Int} (h : okC S n c k) (h0 : 0 ≤ i) (h1 : i < n) : BC S c (i + 1) = BC S c i + ms S (fun j => S 12 j 0 ≠ 2) (c i) := by
  have hi := h.1 i h0 h1
  rw [ms_hd iv ⟨hi.1, hi.2.2.1⟩]
  unfold BC
  rw [← cn_or]
  · refine cn_c (fun j _ _ => ⟨fun z => ?_, fun z => ?_⟩)
    · obtain ⟨t, t1, t2, t3, t4⟩ := z
      by_cases q : t = i
      · subst q
        exact .inr ⟨t4, t3, .inl rfl⟩
      · exact .inl ⟨t, t1, by omega, t3, t4⟩
    · rcases z with ⟨t, t1, t2, t3, t4⟩ | ⟨z1, z2, z3⟩
      · exact ⟨t, t1, by omega, t3, t4⟩
      · exact ⟨i, h0, by omega, z2, z1⟩
  · intro j z y
    obtain ⟨t, t1, t2, t3, t4⟩ := z
    have := h.2 t i t1 (by omega) h0 h1 (t3.symm.trans y.2.1)
    omega
theorem apH_e (iv : Inv S) {P : Int → Prop} {n : Nat} {c : Int → Int} {k : Int} (h : okC S n c k) (hp : ∀ i : Int, 0 ≤ i → i < n → P (c i)) (m : Nat) : ∀ (i : Int) (s : Int × (Int → Int → Int)), m = (n - i).toNat → 0 ≤ i → i ≤ n → s.1 = BC S c i → RO S P s → (apH S c m i s).1 = BC S c n ∧ RO S P (apH S c m i s) := by
  induction m with
  | zero =>
    intro i s e1 e2 e3 e r
    have : i = n := by omega
    subst this
    exact ⟨e, r⟩
  | succ m ih =>
    intro i s e1 e2 e3 e r
    have hi := h.1 i e2 (by omega)
    have c1 := hi.1.1
    have b := BC_e iv h e2 (show i < n by omega)
    have mb := ms_b (G := fun j => S 12 j 0 ≠ 2) iv (c i)
    have n60 := iv.2.2.1.1
    have a := apO_e iv (P := P) 61 (c i) s (.inr ⟨hi.1, hi.2.2.2, by rw [hi.2.2.1]; exact hp i e2 (by omega)⟩) (by rw [if_neg (by omega)]; omega) r
    rw [if_neg (by omega)] at a
    exact ih (i + 1) _ (by omega) (by omega) (by omega) (by omega) a.2
theorem iC_im {x : Int} {c : Int → Int} (n : Nat) (y : Int) : (∃ t : Int, 0 ≤ t ∧ t < ((n + 1 : Nat) : Int) ∧ iC S x c n t = y) ↔ (∃ t : Int, 0 ≤ t ∧ t < n ∧ c t = y) ∨ y = x := by
  have hp := iP_le S x c n
  have kp : iC S x c n (iP S x c n) = x := by unfold iC; rw [if_neg (by omega), if_pos rfl]
  constructor
  · rintro ⟨t, t1, t2, t3⟩
    by_cases d : t = iP S x c n
    · rw [d, kp] at t3; exact .inr t3.symm
    · unfold iC at t3
      by_cases d2 : t < iP S x c n
      · rw [if_pos d2] at t3
        exact .inl ⟨t, t1, by omega, t3⟩
      · rw [if_neg d2, if_neg d] at t3
        exact .inl ⟨t - 1, by omega, by omega, t3⟩
  · rintro (⟨t, t1, t2, t3⟩ | e)
    · by_cases d2 : t < iP S x c n
      · exact ⟨t, t1, by omega, by unfold iC; rw [if_pos d2]; exact t3⟩
      · exact ⟨t + 1, by omega, by omega, by unfold iC; rw [if_neg (by omega), if_neg (by omega), Int.add_sub_cancel]; exact t3⟩
    · exact ⟨iP S x c n, by omega, by omega, by rw [kp, e]⟩
theorem ch_im (u al : Int) (m : Nat) : ∀ (k : Int) (n : Nat) (c : Int → Int) (y : Int), (∃ t : Int, 0 ≤ t ∧ t < (chN S u al m k n c : Int) ∧ chC S u al m k n c t = y) ↔ (∃ t : Int, 0 ≤ t ∧ t < n ∧ c t = y) ∨ (k ≤ y ∧ y < k + m ∧ XC S u al y) := by
  induction m with
  | zero =>
    intro k n c y
    constructor
    · exact fun z => .inl z
    · rintro (z | z)
      · exact z
      · omega
  | succ m ih =>
    intro k n c y
    show (∃ t : Int, 0 ≤ t ∧ t < ((@ite Nat (XC S u al k) (Classical.propDecidable _) (chN S u al m (k + 1) (n + 1) (iC S k c n)) (chN S u al m (k + 1) n c) : Nat) : Int) ∧ (@ite (Int → Int) (XC S u al k) (Classical.propDecidable _) (chC S u al m (k + 1) (n + 1) (iC S k c n)) (chC S u al m (k + 1) n c)) t = y) ↔ _
    by_cases d : XC S u al k
    · rw [if_pos d, if_pos d, ih, iC_im]
      constructor
      · rintro ((z | z) | z)
        · exact .inl z
        · subst z; exact .inr ⟨by omega, by omega, d⟩
        · exact .inr ⟨by omega, by omega, z.2.2⟩
      · rintro (z | z)
        · exact .inl (.inl z)
        · by_cases q : y = k
          · exact .inl (.inr q)
          · exact .inr ⟨by omega, by omega, z.2.2⟩
    · rw [if_neg d, if_neg d, ih]
      constructor
      · rintro (z | z)
        · exact .inl z
        · exact .inr ⟨by omega, by omega, z.2.2⟩
      · rintro (z | z)
        · exact .inl z
        · refine .inr ⟨?_, by omega, z.2.2⟩
          have : y ≠ k := fun q => d (q ▸ z.2.2)
          omega
/-- what an export holds -/
def XP (S : St) (u al j : Int) : Prop := S 12 j 0 ≠ 2 ∧ SE S u (S 1 u 0) (S 11 j 0) ∧ (al ≠ 0 ∨ S 18 (S 11 j 0) 0 = 0)
theorem xp_im (iv : Inv S) (u al : Int) (y : Int) : (∃ t : Int, 0 ≤ t ∧ t < (xpN S u al : Int) ∧ xpC S u al t = y) ↔ (nt S y ∧ XC S u al y) := by
  unfold xpN xpC
  rw [ch_im]
  constructor
  · rintro (⟨t, t1, t2, -⟩ | z)
    · exact absurd t2 (by omega)
    · exact ⟨nt_in iv z.1 z.2.1, z.2.2⟩
  · rintro ⟨z1, z2⟩
    have := nt_at iv z1
    exact .inr ⟨this.1, this.2, z2⟩
theorem xpR_e (iv : Inv S) (u al : Int) : (xpR S u al).1 = cn (XP S u al) (S 7 0 0).toNat 0 ∧ RO S (fun k => XC S u al k) (xpR S u al) := by
  have ok := xp_ok iv u al
  have im := xp_im iv u al
  have b0 : BC S (xpC S u al) 0 = 0 := cn_z (fun j _ _ z => by obtain ⟨t, t1, t2, -⟩ := z; omega)
  have a := apH_e iv (P := fun k => XC S u al k) ok.1 (fun i h1 h2 => ((im _).mp ⟨i, h1, h2, rfl⟩).2) (xpN S u al) 0 (0, S 22) (by rw [Int.sub_zero, Int.toNat_natCast]) (Int.le_refl _) (by omega) b0.symm ⟨Int.le_refl _, fun p h1 h2 => absurd h2 (by show ¬ p < (0 : Int); omega)⟩
  refine ⟨a.1.trans ?_, a.2⟩
  unfold BC
  refine cn_c (fun j h1 h2 => ⟨fun z => ?_, fun z => ?_⟩)
  · obtain ⟨t, t1, t2, t3, t4⟩ := z
    have := (im _).mp ⟨t, t1, t2, rfl⟩
    rw [← t3] at this
    exact ⟨t4, this.2.2⟩
  · have hj := nt_in iv h1 h2
    have hh := iv_hd iv hj
    obtain ⟨t, t1, t2, t3⟩ := (im (S 11 j 0)).mpr ⟨hh.1, ⟨hh.2, al_hd' iv hj z.1⟩, z.2⟩
    exact ⟨t, t1, t2, t3.symm, z.1⟩
theorem xp_ws (S : St) (u : Int) (m : Nat) (i : Int) : cn (XP S u 1) m i = cn (WS S u (S 1 u 0)) m i := cn_c (fun j _ _ => ⟨fun z => ⟨z.1, z.2.1⟩, fun z => ⟨z.1, z.2, .inl (by omega)⟩⟩)
theorem xp_10 (S : St) (u : Int) (m : Nat) (i : Int) : cn (XP S u 0) m i ≤ cn (XP S u 1) m i := cn_mo (fun j z => ⟨z.1, z.2.1, .inl (by omega)⟩) _ _
end
