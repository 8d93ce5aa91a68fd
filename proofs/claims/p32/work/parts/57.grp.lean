/-! THE CLASS'S MEMORY IN GROUPS: each hangs on few names alone -/
def CA (a : Na) (S : St) (h : Zh) : Prop := gK h (a 0 0) = 6 ∧ gI h (a 0 0) 5 = S 0 0 0 ∧ gI h (a 0 0) 6 = S 7 0 0 ∧ gR h (a 0 0) 0 = some (a 1 0) ∧ gR h (a 0 0) 1 = some (a 2 0) ∧ gR h (a 0 0) 2 = some (a 3 0) ∧ gR h (a 0 0) 3 = some (a 4 0) ∧ gR h (a 0 0) 4 = some (a 5 0) ∧ gK h (a 1 0) = 10 ∧ gL h (a 1 0) = 6 ∧ (∀ u, gI h (a 1 0) u = S 1 u 0)
def CTx (a : Na) (S : St) (h : Zh) : Prop := gK h (a 2 0) = 5 ∧ gI h (a 2 0) 3 = S 6 0 0 ∧ gI h (a 2 0) 4 = S 2 0 0 ∧ gR h (a 2 0) 0 = some (a 6 0) ∧ gR h (a 2 0) 1 = some (a 7 0) ∧ gR h (a 2 0) 2 = some (a 8 0) ∧ gK h (a 6 0) = 14 ∧ gL h (a 6 0) = 61 ∧
  (∀ v, 0 ≤ v → v ≤ 60 → gR h (a 6 0) v = some (a 11 v)) ∧ (∀ v, 0 ≤ v → v ≤ 60 → gK h (a 11 v) = 10) ∧ (∀ v, 0 ≤ v → v ≤ 60 → gL h (a 11 v) = 200) ∧ (∀ v p, 0 ≤ v → v ≤ 60 → v ≤ S 2 0 0 → 0 ≤ p → p < S 3 v 0 → gI h (a 11 v) p = S 4 v p) ∧
  gK h (a 7 0) = 10 ∧ gL h (a 7 0) = 61 ∧ (∀ v, 0 ≤ v → v ≤ S 2 0 0 → gI h (a 7 0) v = S 3 v 0) ∧ gK h (a 8 0) = 10 ∧ gL h (a 8 0) = 2400 ∧ (∀ n, 0 ≤ n → n < S 6 0 0 → gI h (a 8 0) n = S 5 n 0)
def CB (a : Na) (h : Zh) : Prop := gK h (a 3 0) = 13 ∧ gL h (a 3 0) = 60 ∧ gK h (a 4 0) = 13 ∧ gL h (a 4 0) = 60
def CN (a : Na) (S : St) (h : Zh) (k : Int) : Prop := gR h (a 3 0) k = some (a 20 k) ∧ gK h (a 20 k) = 3 ∧ gI h (a 20 k) 0 = k ∧ gI h (a 20 k) 1 = S 8 k 0 ∧ gI h (a 20 k) 2 = S 9 k 0 ∧ gI h (a 20 k) 3 = S 23 k 0 ∧ gI h (a 20 k) 7 = RP S k ∧ gI h (a 20 k) 8 = b2i (S 12 k 0 ≠ 0) ∧ gI h (a 20 k) 9 = b2i (S 12 k 0 = 2) ∧
  (S 10 k 0 = -1 → gR h (a 20 k) 4 = none) ∧ (∀ j, nt S j → S 10 k 0 = j → gR h (a 20 k) 4 = some (a 20 j)) ∧ (∀ j, hd S j → S 11 k 0 = j → gR h (a 20 k) 5 = some (a 21 j)) ∧ (NX S k = -1 → gR h (a 20 k) 6 = none) ∧ (∀ j, nt S j → NX S k = j → gR h (a 20 k) 6 = some (a 20 j))
def CH (a : Na) (S : St) (h : Zh) (k : Int) : Prop := gK h (a 21 k) = 4 ∧ gI h (a 21 k) 0 = k ∧ gI h (a 21 k) 1 = S 8 k 0 ∧ gI h (a 21 k) 2 = S 15 k 0 ∧ gR h (a 21 k) 3 = some (a 22 k) ∧ gR h (a 21 k) 4 = some (a 23 k) ∧ gI h (a 21 k) 5 = S 18 k 0 ∧ gI h (a 21 k) 6 = S 16 k 0 ∧ gI h (a 21 k) 7 = S 17 k 0 ∧
  gK h (a 22 k) = 1 ∧ gI h (a 22 k) 0 = S 13 k 0 ∧ gI h (a 22 k) 1 = S 14 k 0 ∧ gK h (a 23 k) = 10 ∧ gL h (a 23 k) = S 19 k 0 ∧ (∀ i, 0 ≤ i → i < S 19 k 0 → gI h (a 23 k) i = S 20 k i)
def CE (a : Na) (S : St) (h : Zh) : Prop := gK h (a 5 0) = 2 ∧ gI h (a 5 0) 1 = S 21 0 0 ∧ gR h (a 5 0) 0 = some (a 9 0) ∧ gK h (a 9 0) = 14 ∧ gL h (a 9 0) = 4 ∧ (∀ w, 0 ≤ w → w < 4 → gR h (a 9 0) w = some (a 10 w)) ∧ (∀ w, 0 ≤ w → w < 4 → gK h (a 10 w) = 10) ∧ (∀ w, 0 ≤ w → w < 4 → gL h (a 10 w) = 60) ∧ (∀ w p, 0 ≤ w → w < 4 → 0 ≤ p → p < S 21 0 0 → gI h (a 10 w) p = S 22 p w)
section
variable {a : Na} {S T : St} {h g : Zh}
theorem RepC.A (hr : RepC a S h) : CA a S h := ⟨hr.c0, hr.c1, hr.c2, hr.c3, hr.c4, hr.c5, hr.c6, hr.c7, hr.c8, hr.c9, hr.c10⟩
theorem RepC.Tx (hr : RepC a S h) : CTx a S h := ⟨hr.c11, hr.c12, hr.c13, hr.c14, hr.c15, hr.c16, hr.c17, hr.c18, hr.c19, hr.c20, hr.c21, hr.c22, hr.c23, hr.c24, hr.c25, hr.c26, hr.c27, hr.c28⟩
theorem RepC.B (hr : RepC a S h) : CB a h := ⟨hr.c29, hr.c30, hr.c32, hr.c33⟩
theorem RepC.N (hr : RepC a S h) (k : Int) (hk : nt S k) : CN a S h k := ⟨hr.c31 k hk, hr.c34 k hk, hr.c35 k hk, hr.c36 k hk, hr.c37 k hk, hr.c38 k hk, hr.c39 k hk, hr.c40 k hk, hr.c41 k hk, hr.c42 k hk, fun j => hr.c43 k j hk, fun j => hr.c44 k j hk, hr.c45 k hk, fun j => hr.c46 k j hk⟩
theorem RepC.H (hr : RepC a S h) (k : Int) (hk : hd S k) : CH a S h k := ⟨hr.c47 k hk, hr.c48 k hk, hr.c49 k hk, hr.c50 k hk, hr.c51 k hk, hr.c52 k hk, hr.c53 k hk, hr.c54 k hk, hr.c55 k hk, hr.c56 k hk, hr.c57 k hk, hr.c58 k hk, hr.c59 k hk, hr.c60 k hk, fun i => hr.c61 k i hk⟩
theorem RepC.E (hr : RepC a S h) : CE a S h := ⟨hr.c62, hr.c63, hr.c64, hr.c65, hr.c66, hr.c67, hr.c68, hr.c69, hr.c70⟩
theorem RepC.mk (A : CA a S h) (T : CTx a S h) (B : CB a h) (N : ∀ k, nt S k → CN a S h k) (H : ∀ k, hd S k → CH a S h k) (E : CE a S h) : RepC a S h := by
  obtain ⟨a0, a1, a2, a3, a4, a5, a6, a7, a8, a9, a10⟩ := A
  obtain ⟨t0, t1, t2, t3, t4, t5, t6, t7, t8, t9, t10, t11, t12, t13, t14, t15, t16, t17⟩ := T
  obtain ⟨b0, b1, b2, b3⟩ := B
  obtain ⟨e0, e1, e2, e3, e4, e5, e6, e7, e8⟩ := E
  exact ⟨a0, a1, a2, a3, a4, a5, a6, a7, a8, a9, a10, t0, t1, t2, t3, t4, t5, t6, t7, t8, t9, t10, t11, t12, t13, t14, t15, t16, t17, b0, b1, fun k hk => (N k hk).1, b2, b3,
    fun k hk => (N k hk).2.1, fun k hk => (N k hk).2.2.1, fun k hk => (N k hk).2.2.2.1, fun k hk => (N k hk).2.2.2.2.1, fun k hk => (N k hk).2.2.2.2.2.1, fun k hk => (N k hk).2.2.2.2.2.2.1, fun k hk => (N k hk).2.2.2.2.2.2.2.1, fun k hk => (N k hk).2.2.2.2.2.2.2.2.1,
    fun k hk => (N k hk).2.2.2.2.2.2.2.2.2.1, fun k j hk => (N k hk).2.2.2.2.2.2.2.2.2.2.1 j, fun k j hk => (N k hk).2.2.2.2.2.2.2.2.2.2.2.1 j, fun k hk => (N k hk).2.2.2.2.2.2.2.2.2.2.2.2.1, fun k j hk => (N k hk).2.2.2.2.2.2.2.2.2.2.2.2.2 j,
    fun k hk => (H k hk).1, fun k hk => (H k hk).2.1, fun k hk => (H k hk).2.2.1, fun k hk => (H k hk).2.2.2.1, fun k hk => (H k hk).2.2.2.2.1, fun k hk => (H k hk).2.2.2.2.2.1, fun k hk => (H k hk).2.2.2.2.2.2.1, fun k hk => (H k hk).2.2.2.2.2.2.2.1, fun k hk => (H k hk).2.2.2.2.2.2.2.2.1,
    fun k hk => (H k hk).2.2.2.2.2.2.2.2.2.1, fun k hk => (H k hk).2.2.2.2.2.2.2.2.2.2.1, fun k hk => (H k hk).2.2.2.2.2.2.2.2.2.2.2.1, fun k hk => (H k hk).2.2.2.2.2.2.2.2.2.2.2.2.1, fun k hk => (H k hk).2.2.2.2.2.2.2.2.2.2.2.2.2.1, fun k i hk => (H k hk).2.2.2.2.2.2.2.2.2.2.2.2.2.2 i,
    e0, e1, e2, e3, e4, e5, e6, e7, e8⟩
theorem CA.c (A : CA a S h) (m0 : sm h g (a 0 0)) (m1 : sm h g (a 1 0)) (e0 : T 0 0 0 = S 0 0 0) (e7 : T 7 0 0 = S 7 0 0) (e1 : ∀ u, T 1 u 0 = S 1 u 0) : CA a T g := by
  obtain ⟨k0, l0, i0, r0, -⟩ := m0
  obtain ⟨k1, l1, i1, r1, -⟩ := m1
  simp only [CA, k0, l0, i0, r0, k1, l1, i1, r1, e0, e7, e1]
  exact A
theorem CTx.c (A : CTx a S h) (m2 : sm h g (a 2 0)) (m6 : sm h g (a 6 0)) (m7 : sm h g (a 7 0)) (m8 : sm h g (a 8 0)) (m11 : ∀ v, sm h g (a 11 v)) (e2 : T 2 0 0 = S 2 0 0) (e3 : ∀ v, T 3 v 0 = S 3 v 0) (e4 : ∀ v p, T 4 v p = S 4 v p) (e5 : ∀ n, T 5 n 0 = S 5 n 0) (e6 : T 6 0 0 = S 6 0 0) : CTx a T g := by
  obtain ⟨k2, l2, i2, r2, -⟩ := m2
  obtain ⟨k6, l6, i6, r6, -⟩ := m6
  obtain ⟨k7, l7, i7, r7, -⟩ := m7
  obtain ⟨k8, l8, i8, r8, -⟩ := m8
  simp only [CTx, k2, l2, i2, r2, k6, l6, i6, r6, k7, l7, i7, r7, k8, l8, i8, r8, (m11 _).1, (m11 _).2.1, (m11 _).2.2.1, (m11 _).2.2.2.1, e2, e3, e4, e5, e6]
  exact A
theorem CB.c (A : CB a h) (k3 : gK g (a 3 0) = gK h (a 3 0)) (l3 : gL g (a 3 0) = gL h (a 3 0)) (k4 : gK g (a 4 0) = gK h (a 4 0)) (l4 : gL g (a 4 0) = gL h (a 4 0)) : CB a g := by
  simp only [CB, k3, l3, k4, l4]
  exact A
theorem CN.c {k : Int} (A : CN a S h k) (r3 : gR g (a 3 0) k = gR h (a 3 0) k) (m20 : sm h g (a 20 k)) (e7 : T 7 0 0 = S 7 0 0) (e8 : T 8 k 0 = S 8 k 0) (e9 : T 9 k 0 = S 9 k 0) (e10 : ∀ j, T 10 j 0 = S 10 j 0) (e11 : ∀ j, T 11 j 0 = S 11 j 0) (e12 : ∀ j, T 12 j 0 = S 12 j 0) (e23 : T 23 k 0 = S 23 k 0) : CN a T g k := by
  obtain ⟨k2, l2, i2, r2, -⟩ := m20
  simp only [CN, r3, k2, l2, i2, r2, e8, e9, e10, e11, e12, e23, nt, hd, e7, RP_c e7 e10 e12, NX_c e7 e10]
  exact A
theorem CH.c {k : Int} (A : CH a S h k) (m21 : sm h g (a 21 k)) (m22 : sm h g (a 22 k)) (m23 : sm h g (a 23 k)) (e8 : T 8 k 0 = S 8 k 0) (e13 : T 13 k 0 = S 13 k 0) (e14 : T 14 k 0 = S 14 k 0) (e15 : T 15 k 0 = S 15 k 0) (e16 : T 16 k 0 = S 16 k 0) (e17 : T 17 k 0 = S 17 k 0) (e18 : T 18 k 0 = S 18 k 0) (e19 : T 19 k 0 = S 19 k 0) (e20 : ∀ i, T 20 k i = S 20 k i) : CH a T g k := by
  obtain ⟨k2, l2, i2, r2, -⟩ := m21
  obtain ⟨k3, l3, i3, r3, -⟩ := m22
  obtain ⟨k4, l4, i4, r4, -⟩ := m23
  simp only [CH, k2, l2, i2, r2, k3, l3, i3, r3, k4, l4, i4, r4, e8, e13, e14, e15, e16, e17, e18, e19, e20]
  exact A
theorem CE.c (A : CE a S h) (m5 : sm h g (a 5 0)) (m9 : sm h g (a 9 0)) (m10 : ∀ w, sm h g (a 10 w)) (e21 : T 21 0 0 = S 21 0 0) (e22 : ∀ p w, T 22 p w = S 22 p w) : CE a T g := by
  obtain ⟨k2, l2, i2, r2, -⟩ := m5
  obtain ⟨k3, l3, i3, r3, -⟩ := m9
  simp only [CE, k2, l2, i2, r2, k3, l3, i3, r3, (m10 _).1, (m10 _).2.1, (m10 _).2.2.1, (m10 _).2.2.2.1, e21, e22]
  exact A
/-- a write to a name leaves all others -/
theorem smI (hi : Ij a) {f f2 : Nat} {i i2 k x : Int} (n : f2 ≠ f ∨ i2 ≠ i) : sm h (pI h (a f i) k x) (a f2 i2) := sm_pI (fun e => by rw [hi] at e; omega)
theorem smR (hi : Ij a) {f f2 : Nat} {i i2 k : Int} {x : Option Nat} (n : f2 ≠ f ∨ i2 ≠ i) : sm h (pR h (a f i) k x) (a f2 i2) := sm_pR (fun e => by rw [hi] at e; omega)
theorem smC (hi : Ij a) {f f2 : Nat} {i i2 sp dp n : Int} {s : Nat} (nn : f2 ≠ f ∨ i2 ≠ i) : sm h (cpy h s sp (a f i) dp n) (a f2 i2) := sm_cpy (fun e => by rw [hi] at e; omega)
-- ---- the writes
theorem RepC.wUsers (hi : Ij a) (hr : RepC a S h) (x : Int) : RepC a (su S 0 0 0 x) (pI h (a 0 0) 5 x) := by
  refine .mk ?_ (hr.Tx.c (smI hi (by omega)) (smI hi (by omega)) (smI hi (by omega)) (smI hi (by omega)) (fun _ => smI hi (by omega)) rfl (fun _ => rfl) (fun _ _ => rfl) (fun _ => rfl) rfl) hr.B (fun k hk => (hr.N k hk).c ((smI hi (by omega)).2.2.2.1 _) (smI hi (by omega)) rfl rfl rfl (fun _ => rfl) (fun _ => rfl) (fun _ => rfl) rfl) (fun k hk => (hr.H k hk).c (smI hi (by omega)) (smI hi (by omega)) (smI hi (by omega)) rfl rfl rfl rfl rfl rfl rfl rfl (fun _ => rfl)) (hr.E.c (smI hi (by omega)) (smI hi (by omega)) (fun _ => smI hi (by omega)) rfl (fun _ _ => rfl))
  obtain ⟨a0, a1, a2, a3, a4, a5, a6, a7, a8, a9, a10⟩ := hr.A
  simp only [CA, gI_pI, gR_pI, gK_pI, gL_pI, gI_pR, gR_pR, gK_pR, gL_pR, hi, su, reduceCtorEq, Nat.reduceEqDiff, Int.reduceEq, and_true, true_and, and_false, false_and, if_true, if_false, and_self, eq_self, ne_eq, not_true, not_false_eq_true, a0, a2, a3, a4, a5, a6, a7, a8, a9]
  exact a10
theorem RepC.wRight (hi : Ij a) (hr : RepC a S h) (u x : Int) : RepC a (su S 1 u 0 x) (pI h (a 1 0) u x) := by
  refine .mk ?_ (hr.Tx.c (smI hi (by omega)) (smI hi (by omega)) (smI hi (by omega)) (smI hi (by omega)) (fun _ => smI hi (by omega)) rfl (fun _ => rfl) (fun _ _ => rfl) (fun _ => rfl) rfl) hr.B (fun k hk => (hr.N k hk).c ((smI hi (by omega)).2.2.2.1 _) (smI hi (by omega)) rfl rfl rfl (fun _ => rfl) (fun _ => rfl) (fun _ => rfl) rfl) (fun k hk => (hr.H k hk).c (smI hi (by omega)) (smI hi (by omega)) (smI hi (by omega)) rfl rfl rfl rfl rfl rfl rfl rfl (fun _ => rfl)) (hr.E.c (smI hi (by omega)) (smI hi (by omega)) (fun _ => smI hi (by omega)) rfl (fun _ _ => rfl))
  obtain ⟨a0, a1, a2, a3, a4, a5, a6, a7, a8, a9, a10⟩ := hr.A
  simp only [CA, gI_pI, gR_pI, gK_pI, gL_pI, gI_pR, gR_pR, gK_pR, gL_pR, hi, su, reduceCtorEq, Nat.reduceEqDiff, Int.reduceEq, and_true, true_and, and_false, false_and, if_true, if_false, and_self, eq_self, ne_eq, not_true, not_false_eq_true, a0, a1, a2, a3, a4, a5, a6, a7, a8, a9, a10]
  exact fun _ => trivial
theorem RepC.wFrom (hi : Ij a) (hr : RepC a S h) (k x : Int) : RepC a (su S 13 k 0 x) (pI h (a 22 k) 0 x) := by
  refine .mk (hr.A.c (smI hi (by omega)) (smI hi (by omega)) rfl rfl (fun _ => rfl)) (hr.Tx.c (smI hi (by omega)) (smI hi (by omega)) (smI hi (by omega)) (smI hi (by omega)) (fun _ => smI hi (by omega)) rfl (fun _ => rfl) (fun _ _ => rfl) (fun _ => rfl) rfl) hr.B (fun k hk => (hr.N k hk).c ((smI hi (by omega)).2.2.2.1 _) (smI hi (by omega)) rfl rfl rfl (fun _ => rfl) (fun _ => rfl) (fun _ => rfl) rfl) (fun j hj => ?_) (hr.E.c (smI hi (by omega)) (smI hi (by omega)) (fun _ => smI hi (by omega)) rfl (fun _ _ => rfl))
  by_cases c : j = k
  · subst c
    obtain ⟨h0, h1, h2, h3, h4, h5, h6, h7, h8, h9, h10, h11, h12, h13, h14⟩ := hr.H j hj
    simp only [CH, gI_pI, gR_pI, gK_pI, gL_pI, gI_pR, gR_pR, gK_pR, gL_pR, hi, su, reduceCtorEq, Nat.reduceEqDiff, Int.reduceEq, and_true, true_and, and_false, false_and, if_true, if_false, and_self, eq_self, ne_eq, not_true, not_false_eq_true, h0, h1, h2, h3, h4, h5, h6, h7, h8, h9, h11, h12, h13]
    exact h14
  · exact (hr.H j hj).c (smI hi (by omega)) (smI hi (by omega)) (smI hi (by omega)) rfl (if_neg (by omega)) rfl rfl rfl rfl rfl rfl (fun _ => rfl)
theorem RepC.wTo (hi : Ij a) (hr : RepC a S h) (k x : Int) : RepC a (su S 14 k 0 x) (pI h (a 22 k) 1 x) := by
  refine .mk (hr.A.c (smI hi (by omega)) (smI hi (by omega)) rfl rfl (fun _ => rfl)) (hr.Tx.c (smI hi (by omega)) (smI hi (by omega)) (smI hi (by omega)) (smI hi (by omega)) (fun _ => smI hi (by omega)) rfl (fun _ => rfl) (fun _ _ => rfl) (fun _ => rfl) rfl) hr.B (fun k hk => (hr.N k hk).c ((smI hi (by omega)).2.2.2.1 _) (smI hi (by omega)) rfl rfl rfl (fun _ => rfl) (fun _ => rfl) (fun _ => rfl) rfl) (fun j hj => ?_) (hr.E.c (smI hi (by omega)) (smI hi (by omega)) (fun _ => smI hi (by omega)) rfl (fun _ _ => rfl))
  by_cases c : j = k
  · subst c
    obtain ⟨h0, h1, h2, h3, h4, h5, h6, h7, h8, h9, h10, h11, h12, h13, h14⟩ := hr.H j hj
    simp only [CH, gI_pI, gR_pI, gK_pI, gL_pI, gI_pR, gR_pR, gK_pR, gL_pR, hi, su, reduceCtorEq, Nat.reduceEqDiff, Int.reduceEq, and_true, true_and, and_false, false_and, if_true, if_false, and_self, eq_self, ne_eq, not_true, not_false_eq_true, h0, h1, h2, h3, h4, h5, h6, h7, h8, h9, h10, h12, h13]
    exact h14
  · exact (hr.H j hj).c (smI hi (by omega)) (smI hi (by omega)) (smI hi (by omega)) rfl rfl (if_neg (by omega)) rfl rfl rfl rfl rfl (fun _ => rfl)
theorem RepC.wSettled (hi : Ij a) (hr : RepC a S h) (k x : Int) : RepC a (su S 18 k 0 x) (pI h (a 21 k) 5 x) := by
  refine .mk (hr.A.c (smI hi (by omega)) (smI hi (by omega)) rfl rfl (fun _ => rfl)) (hr.Tx.c (smI hi (by omega)) (smI hi (by omega)) (smI hi (by omega)) (smI hi (by omega)) (fun _ => smI hi (by omega)) rfl (fun _ => rfl) (fun _ _ => rfl) (fun _ => rfl) rfl) hr.B (fun k hk => (hr.N k hk).c ((smI hi (by omega)).2.2.2.1 _) (smI hi (by omega)) rfl rfl rfl (fun _ => rfl) (fun _ => rfl) (fun _ => rfl) rfl) (fun j hj => ?_) (hr.E.c (smI hi (by omega)) (smI hi (by omega)) (fun _ => smI hi (by omega)) rfl (fun _ _ => rfl))
  by_cases c : j = k
  · subst c
    obtain ⟨h0, h1, h2, h3, h4, h5, h6, h7, h8, h9, h10, h11, h12, h13, h14⟩ := hr.H j hj
    simp only [CH, gI_pI, gR_pI, gK_pI, gL_pI, gI_pR, gR_pR, gK_pR, gL_pR, hi, su, reduceCtorEq, Nat.reduceEqDiff, Int.reduceEq, and_true, true_and, and_false, false_and, if_true, if_false, and_self, eq_self, ne_eq, not_true, not_false_eq_true, h0, h1, h2, h3, h4, h5, h7, h8, h9, h10, h11, h12, h13]
    exact h14
  · exact (hr.H j hj).c (smI hi (by omega)) (smI hi (by omega)) (smI hi (by omega)) rfl rfl rfl rfl rfl rfl (if_neg (by omega)) rfl (fun _ => rfl)
theorem RepC.wMany (hi : Ij a) (hr : RepC a S h) (k x : Int) : RepC a (su S 16 k 0 x) (pI h (a 21 k) 6 x) := by
  refine .mk (hr.A.c (smI hi (by omega)) (smI hi (by omega)) rfl rfl (fun _ => rfl)) (hr.Tx.c (smI hi (by omega)) (smI hi (by omega)) (smI hi (by omega)) (smI hi (by omega)) (fun _ => smI hi (by omega)) rfl (fun _ => rfl) (fun _ _ => rfl) (fun _ => rfl) rfl) hr.B (fun k hk => (hr.N k hk).c ((smI hi (by omega)).2.2.2.1 _) (smI hi (by omega)) rfl rfl rfl (fun _ => rfl) (fun _ => rfl) (fun _ => rfl) rfl) (fun j hj => ?_) (hr.E.c (smI hi (by omega)) (smI hi (by omega)) (fun _ => smI hi (by omega)) rfl (fun _ _ => rfl))
  by_cases c : j = k
  · subst c
    obtain ⟨h0, h1, h2, h3, h4, h5, h6, h7, h8, h9, h10, h11, h12, h13, h14⟩ := hr.H j hj
    simp only [CH, gI_pI, gR_pI, gK_pI, gL_pI, gI_pR, gR_pR, gK_pR, gL_pR, hi, su, reduceCtorEq, Nat.reduceEqDiff, Int.reduceEq, and_true, true_and, and_false, false_and, if_true, if_false, and_self, eq_self, ne_eq, not_true, not_false_eq_true, h0, h1, h2, h3, h4, h5, h6, h8, h9, h10, h11, h12, h13]
    exact h14
  · exact (hr.H j hj).c (smI hi (by omega)) (smI hi (by omega)) (smI hi (by omega)) rfl rfl rfl rfl (if_neg (by omega)) rfl rfl rfl (fun _ => rfl)
theorem RepC.wFirst (hi : Ij a) (hr : RepC a S h) (k x : Int) : RepC a (su S 17 k 0 x) (pI h (a 21 k) 7 x) := by
  refine .mk (hr.A.c (smI hi (by omega)) (smI hi (by omega)) rfl rfl (fun _ => rfl)) (hr.Tx.c (smI hi (by omega)) (smI hi (by omega)) (smI hi (by omega)) (smI hi (by omega)) (fun _ => smI hi (by omega)) rfl (fun _ => rfl) (fun _ _ => rfl) (fun _ => rfl) rfl) hr.B (fun k hk => (hr.N k hk).c ((smI hi (by omega)).2.2.2.1 _) (smI hi (by omega)) rfl rfl rfl (fun _ => rfl) (fun _ => rfl) (fun _ => rfl) rfl) (fun j hj => ?_) (hr.E.c (smI hi (by omega)) (smI hi (by omega)) (fun _ => smI hi (by omega)) rfl (fun _ _ => rfl))
  by_cases c : j = k
  · subst c
    obtain ⟨h0, h1, h2, h3, h4, h5, h6, h7, h8, h9, h10, h11, h12, h13, h14⟩ := hr.H j hj
    simp only [CH, gI_pI, gR_pI, gK_pI, gL_pI, gI_pR, gR_pR, gK_pR, gL_pR, hi, su, reduceCtorEq, Nat.reduceEqDiff, Int.reduceEq, and_true, true_and, and_false, false_and, if_true, if_false, and_self, eq_self, ne_eq, not_true, not_false_eq_true, h0, h1, h2, h3, h4, h5, h6, h7, h9, h10, h11, h12, h13]
    exact h14
  · exact (hr.H j hj).c (smI hi (by omega)) (smI hi (by omega)) (smI hi (by omega)) rfl rfl rfl rfl rfl (if_neg (by omega)) rfl rfl (fun _ => rfl)
theorem RepC.wSize (hi : Ij a) (hr : RepC a S h) (x : Int) (hx : x ≤ S 21 0 0) : RepC a (su S 21 0 0 x) (pI h (a 5 0) 1 x) := by
  refine .mk (hr.A.c (smI hi (by omega)) (smI hi (by omega)) rfl rfl (fun _ => rfl)) (hr.Tx.c (smI hi (by omega)) (smI hi (by omega)) (smI hi (by omega)) (smI hi (by omega)) (fun _ => smI hi (by omega)) rfl (fun _ => rfl) (fun _ _ => rfl) (fun _ => rfl) rfl) hr.B (fun k hk => (hr.N k hk).c ((smI hi (by omega)).2.2.2.1 _) (smI hi (by omega)) rfl rfl rfl (fun _ => rfl) (fun _ => rfl) (fun _ => rfl) rfl) (fun k hk => (hr.H k hk).c (smI hi (by omega)) (smI hi (by omega)) (smI hi (by omega)) rfl rfl rfl rfl rfl rfl rfl rfl (fun _ => rfl)) ?_
  obtain ⟨e0, e1, e2, e3, e4, e5, e6, e7, e8⟩ := hr.E
  simp only [CE, gI_pI, gR_pI, gK_pI, gL_pI, gI_pR, gR_pR, gK_pR, gL_pR, hi, su, reduceCtorEq, Nat.reduceEqDiff, Int.reduceEq, and_true, true_and, and_false, false_and, if_true, if_false, and_self, eq_self, ne_eq, not_true, not_false_eq_true, e0, e2, e3, e4]
  exact ⟨e5, e6, e7, fun w p h1 h2 h3 h4 => e8 w p h1 h2 h3 (by omega)⟩
end
