/-! THE REFERENCE'S MEMORY IN GROUPS -/
def MA (a : Na) (S : St) (h : Zh) : Prop := gK h (a 100 0) = 7 ∧ gI h (a 100 0) 1 = S 0 0 0 ∧ gI h (a 100 0) 3 = S 6 0 0 ∧ gI h (a 100 0) 6 = S 2 0 0 ∧ gI h (a 100 0) 7 = S 7 0 0 ∧ gR h (a 100 0) 2 = some (a 102 0) ∧ gR h (a 100 0) 4 = some (a 104 0) ∧ gR h (a 100 0) 5 = some (a 105 0) ∧ gR h (a 100 0) 8 = some (a 108 0) ∧ gR h (a 100 0) 9 = some (a 109 0) ∧ gR h (a 100 0) 10 = some (a 110 0) ∧ gR h (a 100 0) 11 = some (a 111 0) ∧ gR h (a 100 0) 12 = some (a 112 0) ∧ gR h (a 100 0) 13 = some (a 113 0) ∧ gR h (a 100 0) 14 = some (a 114 0) ∧ gR h (a 100 0) 15 = some (a 115 0) ∧ gR h (a 100 0) 16 = some (a 116 0) ∧ gR h (a 100 0) 17 = some (a 117 0) ∧ gR h (a 100 0) 18 = some (a 118 0) ∧ gR h (a 100 0) 19 = some (a 119 0) ∧ gR h (a 100 0) 20 = some (a 120 0) ∧ gR h (a 100 0) 22 = some (a 122 0)
def MU (a : Na) (S : St) (h : Zh) : Prop := gK h (a 102 0) = 10 ∧ gL h (a 102 0) = 6 ∧ (∀ u, gI h (a 102 0) u = S 1 u 0)
def MS (a : Na) (S : St) (h : Zh) : Prop := gK h (a 104 0) = 10 ∧ S 6 0 0 ≤ gL h (a 104 0) ∧ (∀ n, 0 ≤ n → n < S 6 0 0 → gI h (a 104 0) n = S 5 n 0)
def MV (a : Na) (S : St) (h : Zh) : Prop := gK h (a 105 0) = 14 ∧ gL h (a 105 0) = 61 ∧ (∀ v, 0 ≤ v → v ≤ S 2 0 0 → gR h (a 105 0) v = some (a 150 v)) ∧ (∀ v, 0 ≤ v → v ≤ S 2 0 0 → gK h (a 150 v) = 10) ∧ (∀ v, 0 ≤ v → v ≤ S 2 0 0 → gL h (a 150 v) = S 3 v 0) ∧ (∀ v p, 0 ≤ v → v ≤ S 2 0 0 → 0 ≤ p → p < S 3 v 0 → gI h (a 150 v) p = S 4 v p)
def AR (a : Na) (S : St) (h : Zh) (f : Nat) : Prop := gK h (a (100 + f) 0) = (if f = 18 then 12 else 10) ∧ gL h (a (100 + f) 0) = 60 ∧ (∀ k, gI h (a (100 + f) 0) k = S f k 0)
def MQu (a : Na) (S : St) (h : Zh) : Prop := gK h (a 119 0) = 14 ∧ gL h (a 119 0) = 60 ∧ (∀ k, hd S k → gR h (a 119 0) k = some (a 151 k)) ∧ (∀ k, hd S k → gK h (a 151 k) = 10) ∧ (∀ k, hd S k → gL h (a 151 k) = S 19 k 0) ∧ (∀ k i, hd S k → 0 ≤ i → i < S 19 k 0 → gI h (a 151 k) i = S 20 k i)
def MX (a : Na) (S : St) (h : Zh) : Prop := gK h (a 120 0) = 10 ∧ gL h (a 120 0) = 4 * S 21 0 0 ∧ (∀ p w, 0 ≤ p → p < S 21 0 0 → 0 ≤ w → w < 4 → gI h (a 120 0) (4 * p + w) = S 22 p w)
def MO (a : Na) (h : Zh) : Prop := gK h (a 122 0) = 10 ∧ gL h (a 122 0) = 60
section
variable {a : Na} {S T : St} {h g : Zh}
theorem RepM.A (hm : RepM a S h) : MA a S h := ⟨hm.c0, hm.c1, hm.c2, hm.c3, hm.c4, hm.c5, hm.c6, hm.c7, hm.c8, hm.c9, hm.c10, hm.c11, hm.c12, hm.c13, hm.c14, hm.c15, hm.c16, hm.c17, hm.c18, hm.c19, hm.c20, hm.c21⟩
theorem RepM.U (hm : RepM a S h) : MU a S h := ⟨hm.c22, hm.c23, hm.c24⟩
theorem RepM.S' (hm : RepM a S h) : MS a S h := ⟨hm.c25, hm.c26, hm.c27⟩
theorem RepM.V (hm : RepM a S h) : MV a S h := ⟨hm.c28, hm.c29, hm.c30, hm.c31, hm.c32, hm.c33⟩
theorem RepM.R (hm : RepM a S h) (f : Nat) (h1 : 8 ≤ f) (h2 : f ≤ 18) : AR a S h f := by
  have : f = 8 ∨ f = 9 ∨ f = 10 ∨ f = 11 ∨ f = 12 ∨ f = 13 ∨ f = 14 ∨ f = 15 ∨ f = 16 ∨ f = 17 ∨ f = 18 := by omega
  rcases this with rfl | rfl | rfl | rfl | rfl | rfl | rfl | rfl | rfl | rfl | rfl
  · exact ⟨hm.c34, hm.c35, hm.c36⟩
  · exact ⟨hm.c37, hm.c38, hm.c39⟩
  · exact ⟨hm.c40, hm.c41, hm.c42⟩
  · exact ⟨hm.c43, hm.c44, hm.c45⟩
  · exact ⟨hm.c46, hm.c47, hm.c48⟩
  · exact ⟨hm.c49, hm.c50, hm.c51⟩
  · exact ⟨hm.c52, hm.c53, hm.c54⟩
  · exact ⟨hm.c55, hm.c56, hm.c57⟩
  · exact ⟨hm.c58, hm.c59, hm.c60⟩
  · exact ⟨hm.c61, hm.c62, hm.c63⟩
  · exact ⟨hm.c64, hm.c65, hm.c66⟩
theorem RepM.Q (hm : RepM a S h) : MQu a S h := ⟨hm.c67, hm.c68, hm.c69, hm.c70, hm.c71, hm.c72⟩
theorem RepM.X (hm : RepM a S h) : MX a S h := ⟨hm.c73, hm.c74, hm.c75⟩
theorem RepM.O (hm : RepM a S h) : MO a h := ⟨hm.c76, hm.c77⟩
theorem RepM.mk (A : MA a S h) (U : MU a S h) (Z : MS a S h) (V : MV a S h) (R : ∀ f, 8 ≤ f → f ≤ 18 → AR a S h f) (Q : MQu a S h) (X : MX a S h) (O : MO a h) : RepM a S h := by
  obtain ⟨a0, a1, a2, a3, a4, a5, a6, a7, a8, a9, a10, a11, a12, a13, a14, a15, a16, a17, a18, a19, a20, a21⟩ := A
  obtain ⟨u0, u1, u2⟩ := U
  obtain ⟨z0, z1, z2⟩ := Z
  obtain ⟨v0, v1, v2, v3, v4, v5⟩ := V
  obtain ⟨q0, q1, q2, q3, q4, q5⟩ := Q
  obtain ⟨x0, x1, x2⟩ := X
  obtain ⟨r8a, r8b, r8c⟩ := R 8 (by omega) (by omega)
  obtain ⟨r9a, r9b, r9c⟩ := R 9 (by omega) (by omega)
  obtain ⟨r10a, r10b, r10c⟩ := R 10 (by omega) (by omega)
  obtain ⟨r11a, r11b, r11c⟩ := R 11 (by omega) (by omega)
  obtain ⟨r12a, r12b, r12c⟩ := R 12 (by omega) (by omega)
  obtain ⟨r13a, r13b, r13c⟩ := R 13 (by omega) (by omega)
  obtain ⟨r14a, r14b, r14c⟩ := R 14 (by omega) (by omega)
  obtain ⟨r15a, r15b, r15c⟩ := R 15 (by omega) (by omega)
  obtain ⟨r16a, r16b, r16c⟩ := R 16 (by omega) (by omega)
  obtain ⟨r17a, r17b, r17c⟩ := R 17 (by omega) (by omega)
  obtain ⟨r18a, r18b, r18c⟩ := R 18 (by omega) (by omega)
  exact ⟨a0, a1, a2, a3, a4, a5, a6, a7, a8, a9, a10, a11, a12, a13, a14, a15, a16, a17, a18, a19, a20, a21, u0, u1, u2, z0, z1, z2, v0, v1, v2, v3, v4, v5, r8a, r8b, r8c, r9a, r9b, r9c, r10a, r10b, r10c, r11a, r11b, r11c, r12a, r12b, r12c, r13a, r13b, r13c, r14a, r14b, r14c, r15a, r15b, r15c, r16a, r16b, r16c, r17a, r17b, r17c, r18a, r18b, r18c, q0, q1, q2, q3, q4, q5, x0, x1, x2, O.1, O.2⟩
theorem MA.c (A : MA a S h) (m0 : sm h g (a 100 0)) (e0 : T 0 0 0 = S 0 0 0) (e6 : T 6 0 0 = S 6 0 0) (e2 : T 2 0 0 = S 2 0 0) (e7 : T 7 0 0 = S 7 0 0) : MA a T g := by
  obtain ⟨k0, l0, i0, r0, -⟩ := m0
  simp only [MA, k0, l0, i0, r0, e0, e6, e2, e7]
  exact A
theorem MU.c (A : MU a S h) (m0 : sm h g (a 102 0)) (e1 : ∀ u, T 1 u 0 = S 1 u 0) : MU a T g := by
  obtain ⟨k0, l0, i0, r0, -⟩ := m0
  simp only [MU, k0, l0, i0, r0, e1]
  exact A
theorem MS.c (A : MS a S h) (m0 : sm h g (a 104 0)) (e6 : T 6 0 0 = S 6 0 0) (e5 : ∀ n, T 5 n 0 = S 5 n 0) : MS a T g := by
  obtain ⟨k0, l0, i0, r0, -⟩ := m0
  simp only [MS, k0, l0, i0, r0, e6, e5]
  exact A
theorem MV.c (A : MV a S h) (m0 : sm h g (a 105 0)) (m1 : ∀ v, sm h g (a 150 v)) (e2 : T 2 0 0 = S 2 0 0) (e3 : ∀ v, T 3 v 0 = S 3 v 0) (e4 : ∀ v p, T 4 v p = S 4 v p) : MV a T g := by
  obtain ⟨k0, l0, i0, r0, -⟩ := m0
  simp only [MV, k0, l0, i0, r0, (m1 _).1, (m1 _).2.1, (m1 _).2.2.1, e2, e3, e4]
  exact A
theorem AR.c {f : Nat} (A : AR a S h f) (m0 : sm h g (a (100 + f) 0)) (e : ∀ k, T f k 0 = S f k 0) : AR a T g f := by
  obtain ⟨k0, l0, i0, r0, -⟩ := m0
  simp only [AR, k0, l0, i0, e]
  exact A
theorem MQu.c (A : MQu a S h) (m0 : sm h g (a 119 0)) (m1 : ∀ k, sm h g (a 151 k)) (e : ∀ k, hd T k ↔ hd S k) (e19 : ∀ k, T 19 k 0 = S 19 k 0) (e20 : ∀ k i, T 20 k i = S 20 k i) : MQu a T g := by
  obtain ⟨k0, l0, i0, r0, -⟩ := m0
  simp only [MQu, k0, l0, i0, r0, (m1 _).1, (m1 _).2.1, (m1 _).2.2.1, e, e19, e20]
  exact A
theorem MX.c (A : MX a S h) (m0 : sm h g (a 120 0)) (e21 : T 21 0 0 = S 21 0 0) (e22 : ∀ p w, T 22 p w = S 22 p w) : MX a T g := by
  obtain ⟨k0, l0, i0, r0, -⟩ := m0
  simp only [MX, k0, l0, i0, e21, e22]
  exact A
theorem MO.c (A : MO a h) (m0 : sm h g (a 122 0)) : MO a g := ⟨m0.1.trans A.1, m0.2.1.trans A.2⟩
-- ---- the writes
theorem su_f {k k2 : Nat} {i j v i2 j2 : Int} (n : k2 ≠ k) : su S k i j v k2 i2 j2 = S k2 i2 j2 := su_k n
theorem RepM.wA (hi : Ij a) (hm : RepM a S h) (f : Nat) (f1 : 8 ≤ f) (f2 : f ≤ 18) (f3 : f ≠ 11) (i v : Int) : RepM a (su S f i 0 v) (pI h (a (100 + f) 0) i v) := by
  refine .mk (hm.A.c (smI hi (by omega)) (su_f (by omega)) (su_f (by omega)) (su_f (by omega)) (su_f (by omega))) (hm.U.c (smI hi (by omega)) (fun _ => su_f (by omega))) (hm.S'.c (smI hi (by omega)) (su_f (by omega)) (fun _ => su_f (by omega)))
    (hm.V.c (smI hi (by omega)) (fun _ => smI hi (by omega)) (su_f (by omega)) (fun _ => su_f (by omega)) (fun _ _ => su_f (by omega))) (fun q q1 q2 => ?_)
    (hm.Q.c (smI hi (by omega)) (fun _ => smI hi (by omega)) (fun k => by unfold hd nt; rw [su_f (by omega), su_f (by omega)]) (fun _ => su_f (by omega)) (fun _ _ => su_f (by omega))) (hm.X.c (smI hi (by omega)) (su_f (by omega)) (fun _ _ => su_f (by omega))) (hm.O.c (smI hi (by omega)))
  by_cases c : q = f
  · subst c
    obtain ⟨h0, h1, h2⟩ := hm.R q q1 q2
    refine ⟨h0, h1, fun k => ?_⟩
    rw [gI_pI, su_i, h2]
    simp only [true_and, and_true]
  · exact (hm.R q q1 q2).c (smI hi (by omega)) (fun _ => su_f c)
/-- a head of a new note: it isn't told yet -/
theorem RepM.wHead (hi : Ij a) (hm : RepM a S h) (i v : Int) (hn : ¬ nt S i) : RepM a (su S 11 i 0 v) (pI h (a 111 0) i v) := by
  refine .mk (hm.A.c (smI hi (by omega)) rfl rfl rfl rfl) (hm.U.c (smI hi (by omega)) (fun _ => rfl)) (hm.S'.c (smI hi (by omega)) rfl (fun _ => rfl))
    (hm.V.c (smI hi (by omega)) (fun _ => smI hi (by omega)) rfl (fun _ => rfl) (fun _ _ => rfl)) (fun q q1 q2 => ?_)
    (hm.Q.c (smI hi (by omega)) (fun _ => smI hi (by omega)) (fun k => ?_) (fun _ => rfl) (fun _ _ => rfl)) (hm.X.c (smI hi (by omega)) rfl (fun _ _ => rfl)) (hm.O.c (smI hi (by omega)))
  · by_cases c : q = 11
    · subst c
      obtain ⟨h0, h1, h2⟩ := hm.R 11 q1 q2
      refine ⟨h0, h1, fun k => ?_⟩
      rw [gI_pI, su_i, h2]
      simp only [true_and, and_true]
    · exact (hm.R q q1 q2).c (smI hi (by omega)) (fun _ => su_f c)
  · unfold hd nt
    rw [su_f (by omega), su_i]
    by_cases c : k = i
    · subst c
      exact ⟨fun z => absurd z.1 hn, fun z => absurd z.1 hn⟩
    · rw [if_neg (fun z => c z.1)]
theorem RepM.wUsers (hi : Ij a) (hm : RepM a S h) (x : Int) : RepM a (su S 0 0 0 x) (pI h (a 100 0) 1 x) := by
  refine .mk ?_ (hm.U.c (smI hi (by omega)) (fun _ => rfl)) (hm.S'.c (smI hi (by omega)) rfl (fun _ => rfl))
    (hm.V.c (smI hi (by omega)) (fun _ => smI hi (by omega)) rfl (fun _ => rfl) (fun _ _ => rfl)) (fun q q1 q2 => (hm.R q q1 q2).c (smI hi (by omega)) (fun _ => su_f (by omega)))
    (hm.Q.c (smI hi (by omega)) (fun _ => smI hi (by omega)) (fun k => Iff.rfl) (fun _ => rfl) (fun _ _ => rfl)) (hm.X.c (smI hi (by omega)) rfl (fun _ _ => rfl)) (hm.O.c (smI hi (by omega)))
  obtain ⟨a0, a1, a2, a3, a4, a5, a6, a7, a8, a9, a10, a11, a12, a13, a14, a15, a16, a17, a18, a19, a20, a21⟩ := hm.A
  simp only [MA, gI_pI, gR_pI, gK_pI, gL_pI, gI_pR, gR_pR, gK_pR, gL_pR, hi, su, reduceCtorEq, Nat.reduceEqDiff, Int.reduceEq, and_true, true_and, and_false, false_and, if_true, if_false, and_self, eq_self, ne_eq, not_true, not_false_eq_true, a0, a2, a3, a4, a5, a6, a7, a8, a9, a10, a11, a12, a13, a14, a15, a16, a17, a18, a19, a20, a21]
theorem RepM.wRight (hi : Ij a) (hm : RepM a S h) (u x : Int) : RepM a (su S 1 u 0 x) (pI h (a 102 0) u x) := by
  refine .mk (hm.A.c (smI hi (by omega)) rfl rfl rfl rfl) ?_ (hm.S'.c (smI hi (by omega)) rfl (fun _ => rfl))
    (hm.V.c (smI hi (by omega)) (fun _ => smI hi (by omega)) rfl (fun _ => rfl) (fun _ _ => rfl)) (fun q q1 q2 => (hm.R q q1 q2).c (smI hi (by omega)) (fun _ => su_f (by omega)))
    (hm.Q.c (smI hi (by omega)) (fun _ => smI hi (by omega)) (fun k => Iff.rfl) (fun _ => rfl) (fun _ _ => rfl)) (hm.X.c (smI hi (by omega)) rfl (fun _ _ => rfl)) (hm.O.c (smI hi (by omega)))
  obtain ⟨u0, u1, u2⟩ := hm.U
  simp only [MU, gI_pI, gR_pI, gK_pI, gL_pI, gI_pR, gR_pR, gK_pR, gL_pR, hi, su, reduceCtorEq, Nat.reduceEqDiff, Int.reduceEq, and_true, true_and, and_false, false_and, if_true, if_false, and_self, eq_self, ne_eq, not_true, not_false_eq_true, u0, u1, u2]
  exact fun _ => trivial
/-- another state that is told the same -/
theorem RepM.cg (hm : RepM a S h) (e0 : T 0 0 0 = S 0 0 0) (e1 : ∀ u, T 1 u 0 = S 1 u 0) (e2 : T 2 0 0 = S 2 0 0) (e3 : ∀ v, 0 ≤ v → v ≤ S 2 0 0 → T 3 v 0 = S 3 v 0) (e4 : ∀ v p, 0 ≤ v → v ≤ S 2 0 0 → T 4 v p = S 4 v p) (e5 : ∀ n, 0 ≤ n → n < S 6 0 0 → T 5 n 0 = S 5 n 0) (e6 : T 6 0 0 = S 6 0 0) (e7 : T 7 0 0 = S 7 0 0) (eA : ∀ (f : Nat) k, 8 ≤ f → f ≤ 18 → T f k 0 = S f k 0)
    (e19 : ∀ k, hd S k → T 19 k 0 = S 19 k 0) (e20 : ∀ k i, hd S k → T 20 k i = S 20 k i) (e21 : T 21 0 0 = S 21 0 0) (e22 : ∀ p w, 0 ≤ p → p < S 21 0 0 → T 22 p w = S 22 p w) : RepM a T h := by
  have eh : ∀ k, hd T k ↔ hd S k := fun k => by unfold hd nt; rw [e7, eA 11 k (by omega) (by omega)]
  refine .mk (hm.A.c (sm_rfl _ _) e0 e6 e2 e7) (hm.U.c (sm_rfl _ _) e1) ?_ ?_ (fun q q1 q2 => (hm.R q q1 q2).c (sm_rfl _ _) (fun k => eA q k q1 q2)) ?_ ?_ hm.O
  · obtain ⟨z0, z1, z2⟩ := hm.S'
    exact ⟨z0, by rw [e6]; exact z1, fun n h1 h2 => by rw [e6] at h2; rw [e5 n h1 h2]; exact z2 n h1 h2⟩
  · obtain ⟨v0, v1, v2, v3, v4, v5⟩ := hm.V
    exact ⟨v0, v1, fun v h1 h2 => v2 v h1 (by omega), fun v h1 h2 => v3 v h1 (by omega), fun v h1 h2 => by rw [e2] at h2; rw [e3 v h1 h2]; exact v4 v h1 h2, fun v p h1 h2 h3 h4 => by rw [e2] at h2; rw [e3 v h1 h2] at h4; rw [e4 v p h1 h2]; exact v5 v p h1 h2 h3 h4⟩
  · obtain ⟨q0, q1, q2, q3, q4, q5⟩ := hm.Q
    exact ⟨q0, q1, fun k hk => q2 k ((eh k).mp hk), fun k hk => q3 k ((eh k).mp hk), fun k hk => by rw [e19 k ((eh k).mp hk)]; exact q4 k ((eh k).mp hk), fun k i hk h1 h2 => by rw [e19 k ((eh k).mp hk)] at h2; rw [e20 k i ((eh k).mp hk)]; exact q5 k i ((eh k).mp hk) h1 h2⟩
  · obtain ⟨x0, x1, x2⟩ := hm.X
    exact ⟨x0, by rw [e21]; exact x1, fun p w h1 h2 h3 h4 => by rw [e21] at h2; rw [e22 p w h1 h2]; exact x2 p w h1 h2 h3 h4⟩
end
