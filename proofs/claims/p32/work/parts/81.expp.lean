/-! AN EXPORT (pure) -/
def AH (S : St) (x y : Int) : Prop := S 13 x 0 < S 13 y 0 ∨ (S 13 x 0 = S 13 y 0 ∧ S 14 x 0 < S 14 y 0)
/-- where a head comes among the m chosen ones -/
noncomputable def iP (S : St) (x : Int) (c : Int → Int) (m : Nat) : Nat := match m with
  | 0 => 0
  | m + 1 => @ite Nat (AH S x (c m)) (Classical.propDecidable _) (iP S x c m) (m + 1)
noncomputable def iC (S : St) (x : Int) (c : Int → Int) (n : Nat) : Int → Int := fun i => if i < iP S x c n then c i else if i = iP S x c n then x else c (i - 1)
def XC (S : St) (u al k : Int) : Prop := (S 11 k 0 = k ∧ S 12 k 0 ≠ 2) ∧ SE S u (S 1 u 0) k ∧ (al ≠ 0 ∨ S 18 k 0 = 0)
noncomputable def chN (S : St) (u al : Int) (m : Nat) (k : Int) (n : Nat) (c : Int → Int) : Nat := match m with
  | 0 => n
  | m + 1 => @ite Nat (XC S u al k) (Classical.propDecidable _) (chN S u al m (k + 1) (n + 1) (iC S k c n)) (chN S u al m (k + 1) n c)
noncomputable def chC (S : St) (u al : Int) (m : Nat) (k : Int) (n : Nat) (c : Int → Int) : Int → Int := match m with
  | 0 => c
  | m + 1 => @ite (Int → Int) (XC S u al k) (Classical.propDecidable _) (chC S u al m (k + 1) (n + 1) (iC S k c n)) (chC S u al m (k + 1) n c)
/-- what is told of a note -/
def row (S : St) (x w : Int) : Int := if w = 0 then x else if w = 1 then S 23 x 0 else if w = 2 then S 13 (S 11 x 0) 0 else CO S x
def ap1 (S : St) (x : Int) (s : Int × (Int → Int → Int)) : Int × (Int → Int → Int) := (s.1 + 1, fun p w => if p = s.1 then row S x w else s.2 p w)
noncomputable def apO (S : St) (m : Nat) (x : Int) (s : Int × (Int → Int → Int)) : Int × (Int → Int → Int) := match m with
  | 0 => s
  | m + 1 => if x = -1 then s else apO S m (BH S x) (ap1 S x s)
noncomputable def apH (S : St) (c : Int → Int) (m : Nat) (i : Int) (s : Int × (Int → Int → Int)) : Int × (Int → Int → Int) := match m with
  | 0 => s
  | m + 1 => apH S c m (i + 1) (apO S 61 (c i) s)
def SX (S : St) (q : Int) (E : Int → Int → Int) : St := fun k i j => if k = 21 ∧ i = 0 ∧ j = 0 then q else if k = 22 then E i j else S k i j
noncomputable def xpN (S : St) (u al : Int) : Nat := chN S u al (S 7 0 0).toNat 0 0 (fun _ => 0)
noncomputable def xpC (S : St) (u al : Int) : Int → Int := chC S u al (S 7 0 0).toNat 0 0 (fun _ => 0)
noncomputable def xpR (S : St) (u al : Int) : Int × (Int → Int → Int) := apH S (xpC S u al) (xpN S u al) 0 (0, S 22)
noncomputable def Sexp (S : St) (u al : Int) : St := SX S (xpR S u al).1 (xpR S u al).2
section
variable {S : St}
theorem SX_21 (S : St) (q : Int) (E : Int → Int → Int) : SX S q E 21 0 0 = q := if_pos ⟨rfl, rfl, rfl⟩
theorem SX_22 (S : St) (q : Int) (E : Int → Int → Int) (i j : Int) : SX S q E 22 i j = E i j := by
  unfold SX
  rw [if_neg (by omega), if_pos rfl]
theorem SX_0 (S : St) : su S 21 0 0 0 = SX S 0 (S 22) := by
  funext k i j
  unfold su SX
  by_cases c : k = 21 ∧ i = 0 ∧ j = 0
  · rw [if_pos c, if_pos c]
  · rw [if_neg c, if_neg c]
    by_cases d : k = 22
    · rw [if_pos d, d]
    · rw [if_neg d]
theorem inv_SX (iv : Inv S) {q : Int} {E : Int → Int → Int} (hq : 0 ≤ q ∧ q ≤ 60) : Inv (SX S q E) := by
  refine ⟨iv.1, iv.2.1, iv.2.2.1, ?_⟩
  show 0 ≤ SX S q E 21 0 0 ∧ SX S q E 21 0 0 ≤ 60
  rw [SX_21]
  exact hq
theorem iP_le (S : St) (x : Int) (c : Int → Int) (m : Nat) : iP S x c m ≤ m := by
  induction m with
  | zero => exact Nat.le_refl _
  | succ m ih =>
    show @ite Nat (AH S x (c m)) (Classical.propDecidable _) (iP S x c m) (m + 1) ≤ m + 1
    split
    · omega
    · omega
/-- chosen heads: heads that are not gone, below k, each once -/
def okC (S : St) (n : Nat) (c : Int → Int) (k : Int) : Prop := (∀ i : Int, 0 ≤ i → i < (n : Int) → nt S (c i) ∧ c i < k ∧ S 11 (c i) 0 = c i ∧ S 12 (c i) 0 ≠ 2) ∧ ∀ i j : Int, 0 ≤ i → i < (n : Int) → 0 ≤ j → j < (n : Int) → c i = c j → i = j
theorem okC_0 (S : St) (c : Int → Int) (k : Int) : okC S 0 c k := ⟨fun i h1 h2 => by omega, fun i j h1 h2 => by omega⟩
theorem okC_up {n : Nat} {c : Int → Int} {k : Int} (h : okC S n c k) : okC S n c (k + 1) := ⟨fun i h1 h2 => by have := h.1 i h1 h2; exact ⟨this.1, by omega, this.2.2⟩, h.2⟩
theorem okC_in {n : Nat} {c : Int → Int} {k : Int} (hk : nt S k) (g : S 11 k 0 = k ∧ S 12 k 0 ≠ 2) (h : okC S n c k) : okC S (n + 1) (iC S k c n) (k + 1) := by
  have hp := iP_le S k c n
  refine ⟨fun i h1 h2 => ?_, fun i j h1 h2 h3 h4 e => ?_⟩
  · unfold iC
    by_cases d : i < iP S k c n
    · rw [if_pos d]
      have := h.1 i h1 (by omega)
      exact ⟨this.1, by omega, this.2.2⟩
    · rw [if_neg d]
      by_cases d2 : i = iP S k c n
      · rw [if_pos d2]
        exact ⟨hk, by omega, g⟩
      · rw [if_neg d2]
        have := h.1 (i - 1) (by omega) (by omega)
        exact ⟨this.1, by omega, this.2.2⟩
  · have key : ∀ i, 0 ≤ i → i < ((n + 1 : Nat) : Int) → i ≠ iP S k c n → iC S k c n i = c (if i < iP S k c n then i else i - 1) ∧ iC S k c n i < k := fun i h1 h2 h3 => by
      unfold iC
      by_cases d : i < iP S k c n
      · rw [if_pos d, if_pos d]
        exact ⟨rfl, (h.1 i h1 (by omega)).2.1⟩
      · rw [if_neg d, if_neg h3, if_neg d]
        exact ⟨rfl, (h.1 (i - 1) (by omega) (by omega)).2.1⟩
    have kp : iC S k c n (iP S k c n) = k := by unfold iC; rw [if_neg (by omega), if_pos rfl]
    by_cases d1 : i = iP S k c n
    · by_cases d2 : j = iP S k c n
      · omega
      · have := key j h3 h4 d2
        rw [← e, d1, kp] at this
        omega
    · by_cases d2 : j = iP S k c n
      · have := key i h1 h2 d1
        rw [e, d2, kp] at this
        omega
      · have a1 := key i h1 h2 d1
        have a2 := key j h3 h4 d2
        rw [a1.1, a2.1] at e
        have := h.2 _ _ (by split <;> omega) (by split <;> omega) (by split <;> omega) (by split <;> omega) e
        split at this <;> split at this <;> omega
theorem ch_ok (u al : Int) (m : Nat) : ∀ (k : Int) (n : Nat) (c : Int → Int), m = (S 7 0 0 - k).toNat → 0 ≤ k → k ≤ S 7 0 0 → (n : Int) ≤ k → okC S n c k → okC S (chN S u al m k n c) (chC S u al m k n c) (S 7 0 0) ∧ (chN S u al m k n c : Int) ≤ S 7 0 0 := by
  induction m with
  | zero =>
    intro k n c e1 e2 e3 e4 h
    have e : k = S 7 0 0 := by omega
    rw [← e]
    exact ⟨h, e4⟩
  | succ m ih =>
    intro k n c e1 e2 e3 e4 h
    show okC S (@ite Nat (XC S u al k) (Classical.propDecidable _) _ _) (@ite (Int → Int) (XC S u al k) (Classical.propDecidable _) _ _) _ ∧ ((@ite Nat (XC S u al k) (Classical.propDecidable _) _ _ : Nat) : Int) ≤ _
    by_cases d : XC S u al k
    · rw [if_pos d, if_pos d]
      exact ih (k + 1) (n + 1) _ (by omega) (by omega) (by omega) (by omega) (okC_in ⟨e2, by omega⟩ d.1 h)
    · rw [if_neg d, if_neg d]
      exact ih (k + 1) n c (by omega) (by omega) (by omega) (by omega) (okC_up h)
theorem xp_ok (iv : Inv S) (u al : Int) : okC S (xpN S u al) (xpC S u al) (S 7 0 0) ∧ (xpN S u al : Int) ≤ S 7 0 0 := by
  have b := iv.2.2.1.1
  exact ch_ok u al _ 0 0 _ (by omega) (Int.le_refl _) b.1 (Int.le_refl _) (okC_0 S _ 0)
/-- the notes of the first i chosen threads -/
def PC (S : St) (c : Int → Int) (i : Int) (j : Int) : Prop := ∃ t : Int, 0 ≤ t ∧ t < i ∧ S 11 j 0 = c t ∧ S 12 j 0 ≠ 2
noncomputable def BC (S : St) (c : Int → Int) (i : Int) : Int := cn (PC S c i) (S 7 0 0).toNat 0
theorem cn_or {p q : Int → Prop} (hd : ∀ j, p j → ¬ q j) (m : Nat) : ∀ i, cn (fun j => p j ∨ q j) m i = cn p m i + cn q m i := by
  induction m with
  | zero => exact fun i => rfl
  | succ m ih =>
    intro i
    show b2i (p i ∨ q i) + cn _ m (i + 1) = b2i (p i) + cn p m (i + 1) + (b2i (q i) + cn q m (i + 1))
    rw [ih]
    by_cases a : p i
    · rw [b2i_t a, b2i_f (hd i a), b2i_t (.inl a)]; omega
    · by_cases b : q i
      · rw [b2i_f a, b2i_t b, b2i_t (.inr b)]; omega
      · rw [b2i_f a, b2i_f b, b2i_f (fun z => z.elim a b)]; omega
theorem cn_mo {p q : Int → Prop} (h : ∀ j, p j → q j) (m : Nat) : ∀ i, cn p m i ≤ cn q m i := by
  induction m with
  | zero => exact fun i => Int.le_refl _
  | succ m ih =>
    intro i
    show b2i (p i) + cn p m (i + 1) ≤ b2i (q i) + cn q m (i + 1)
    have := ih (i + 1)
    by_cases a : p i
    · rw [b2i_t a, b2i_t (h i a)]; omega
    · rw [b2i_f a]
      by_cases b : q i
      · rw [b2i_t b]; omega
      · rw [b2i_f b]; omega
theorem BC_b (iv : Inv S) (c : Int → Int) (i : Int) : BC S c i ≤ 60 := by
  have b := iv.2.2.1.1
  have := cn_le (PC S c i) (S 7 0 0).toNat 0
  unfold BC
  omega
theorem BC_0 (S : St) (c : Int → Int) : 0 ≤ BC S c 0 := (cn_le _ _ _).1
theorem BC_s {n : Nat} {c : Int → Int} {k i : Int} (h : okC S n c k) (h0 : 0 ≤ i) (h1 : i < n) : BC S c i + ms S (fun j => S 12 j 0 ≠ 2) (c i) ≤ BC S c (i + 1) := by
  unfold BC ms
  rw [← cn_or]
  · refine cn_mo (fun j z => ?_) _ _
    rcases z with ⟨t, t1, t2, t3, t4⟩ | ⟨z1, z2, z3⟩
    · exact ⟨t, t1, by omega, t3, t4⟩
    · exact ⟨i, h0, by omega, z1.trans (h.1 i h0 h1).2.2.1, z2⟩
  · intro j z y
    obtain ⟨t, t1, t2, t3, t4⟩ := z
    have e := y.1.trans (h.1 i h0 h1).2.2.1
    have := h.2 t i t1 (by omega) h0 h1 (t3.symm.trans e)
    omega
/-- an order fits -/
theorem apO_b (iv : Inv S) (m : Nat) : ∀ (x : Int) (s : Int × (Int → Int → Int)) (N : Int), (x = -1 ∨ (nt S x ∧ S 12 x 0 ≠ 2)) → s.1 + (if x = -1 then 0 else ms S (fun j => S 12 j 0 ≠ 2) x) ≤ N → s.1 ≤ (apO S m x s).1 ∧ (apO S m x s).1 ≤ N := by
  induction m with
  | zero =>
    intro x s N hx h
    have : 0 ≤ (if x = -1 then 0 else ms S (fun j => S 12 j 0 ≠ 2) x) := by
      split
      · omega
      · exact (ms_b iv x).1
    exact ⟨Int.le_refl _, by show s.1 ≤ N; omega⟩
  | succ m ih =>
    intro x s N hx h
    show s.1 ≤ (if x = -1 then s else apO S m (BH S x) (ap1 S x s)).1 ∧ (if x = -1 then s else apO S m (BH S x) (ap1 S x s)).1 ≤ N
    by_cases c : x = -1
    · rw [if_pos c] at h ⊢
      exact ⟨Int.le_refl _, by omega⟩
    · rw [if_neg c] at h ⊢
      obtain ⟨hx, hg⟩ := hx.resolve_left c
      have l1 := ms_1 (G := fun j => S 12 j 0 ≠ 2) iv hx hg
      have e : (ap1 S x s).1 = s.1 + 1 := rfl
      have := ih (BH S x) (ap1 S x s) N (by
        rcases BH_sp iv x hx with ⟨z, -⟩ | ⟨z1, z2, -⟩
        · exact .inl z
        · exact .inr ⟨z1, z2⟩) (by
        rw [e]
        by_cases d : BH S x = -1
        · rw [if_pos d]; omega
        · rw [if_neg d]
          have := ms_lt (G := fun j => S 12 j 0 ≠ 2) iv hx hg (BH_sp iv x hx) d
          omega)
      omega
theorem apH_b (iv : Inv S) {n : Nat} {c : Int → Int} {k : Int} (h : okC S n c k) (m : Nat) : ∀ (i : Int) (s : Int × (Int → Int → Int)), m = (n - i).toNat → 0 ≤ i → i ≤ n → 0 ≤ s.1 → s.1 ≤ BC S c i → 0 ≤ (apH S c m i s).1 ∧ (apH S c m i s).1 ≤ 60 := by
  induction m with
  | zero =>
    intro i s e1 e2 e3 h0 hb
    have := BC_b iv c i
    exact ⟨h0, by show s.1 ≤ 60; omega⟩
  | succ m ih =>
    intro i s e1 e2 e3 h0 hb
    have hi := h.1 i e2 (by omega)
    have := BC_s h e2 (show i < n by omega)
    have c1 := hi.1.1
    have b := apO_b iv 61 (c i) s (BC S c (i + 1)) (.inr ⟨hi.1, hi.2.2.2⟩) (by rw [if_neg (by omega)]; omega)
    exact ih (i + 1) _ (by omega) (by omega) (by omega) (by omega) b.2
theorem xpR_b (iv : Inv S) (u al : Int) : 0 ≤ (xpR S u al).1 ∧ (xpR S u al).1 ≤ 60 :=
  apH_b iv (xp_ok iv u al).1 _ 0 _ (by rw [Int.sub_zero, Int.toNat_natCast]) (Int.le_refl _) (by omega) (Int.le_refl _) (BC_0 S _)
theorem inv_exp (iv : Inv S) (u al : Int) : Inv (Sexp S u al) := inv_SX iv (xpR_b iv u al)
end
