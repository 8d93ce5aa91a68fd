/-! note, reply OF THE REFERENCE -/
section
variable {a : Na} {S T : St} {h : Zh} {Q : Zp}
theorem RepM.wQ (hi : Ij a) (hm : RepM a S h) (k : Int) (x : Option Nat) (n : ¬ hd S k) : RepM a S (pR h (a 119 0) k x) := by
  refine .mk (hm.A.c (smR hi (by omega)) rfl rfl rfl rfl) (hm.U.c (smR hi (by omega)) (fun _ => rfl)) (hm.S'.c (smR hi (by omega)) rfl (fun _ => rfl))
    (hm.V.c (smR hi (by omega)) (fun _ => smR hi (by omega)) rfl (fun _ => rfl) (fun _ _ => rfl)) (fun q q1 q2 => (hm.R q q1 q2).c (smR hi (by omega)) (fun _ => rfl)) ?_ (hm.X.c (smR hi (by omega)) rfl (fun _ _ => rfl)) (hm.O.c (smR hi (by omega)))
  obtain ⟨q0, q1, q2, q3, q4, q5⟩ := hm.Q
  refine ⟨q0, q1, fun j hj => ?_, q3, q4, q5⟩
  have nj : ¬ (a 119 0 = a 119 0 ∧ j = k) := fun z => n (z.2 ▸ hj)
  rw [gR_pR, if_neg nj]
  exact q2 j hj
/-- the new note is told -/
theorem RepM.addN (hi : Ij a) (hm : RepM a S h) (e7 : T 7 0 0 = S 7 0 0 + 1) (e : ∀ (k : Nat) x j, k ≠ 7 → k ≠ 23 → ¬ ((k = 19 ∨ k = 20) ∧ x = S 7 0 0) → T k x j = S k x j)
    (hq : T 11 (S 7 0 0) 0 = S 7 0 0 → gR h (a 119 0) (S 7 0 0) = some (a 151 (S 7 0 0)) ∧ gK h (a 151 (S 7 0 0)) = 10 ∧ gL h (a 151 (S 7 0 0)) = T 19 (S 7 0 0) 0 ∧ ∀ i, 0 ≤ i → i < T 19 (S 7 0 0) 0 → gI h (a 151 (S 7 0 0)) i = T 20 (S 7 0 0) i) : RepM a T (pI h (a 100 0) 7 (S 7 0 0 + 1)) := by
  have e0 := e 0 0 0 (by omega) (by omega) (by omega)
  have e2 := e 2 0 0 (by omega) (by omega) (by omega)
  have e6 := e 6 0 0 (by omega) (by omega) (by omega)
  have e21 := e 21 0 0 (by omega) (by omega) (by omega)
  refine .mk ?_ (hm.U.c (smI hi (by omega)) (fun _ => e _ _ _ (by omega) (by omega) (by omega))) (hm.S'.c (smI hi (by omega)) e6 (fun _ => e _ _ _ (by omega) (by omega) (by omega)))
    (hm.V.c (smI hi (by omega)) (fun _ => smI hi (by omega)) e2 (fun _ => e _ _ _ (by omega) (by omega) (by omega)) (fun _ _ => e _ _ _ (by omega) (by omega) (by omega))) (fun q q1 q2 => (hm.R q q1 q2).c (smI hi (by omega)) (fun _ => e _ _ _ (by omega) (by omega) (by omega))) ?_ (hm.X.c (smI hi (by omega)) e21 (fun _ _ => e _ _ _ (by omega) (by omega) (by omega))) (hm.O.c (smI hi (by omega)))
  · have z := hm.A
    simp only [MA, e0, e6, e2, e7, gI_pI, gR_pI, gK_pI, gL_pI, gI_pR, gR_pR, gK_pR, gL_pR, hi, su, reduceCtorEq, Nat.reduceEqDiff, Int.reduceEq, and_true, true_and, and_false, false_and, if_true, if_false, and_self, eq_self, ne_eq, not_true, not_false_eq_true] at z ⊢
    exact ⟨z.1, z.2.1, z.2.2.1, z.2.2.2.1, z.2.2.2.2.2⟩
  · obtain ⟨q0, q1, q2, q3, q4, q5⟩ := hm.Q
    have key : ∀ k, hd T k → gR h (a 119 0) k = some (a 151 k) ∧ gK h (a 151 k) = 10 ∧ gL h (a 151 k) = T 19 k 0 ∧ ∀ i, 0 ≤ i → i < T 19 k 0 → gI h (a 151 k) i = T 20 k i := fun k hk => by
      by_cases c : k = S 7 0 0
      · subst c
        exact hq hk.2
      · have k2 := hk.1.2
        rw [e7] at k2
        have hk2 : hd S k := ⟨⟨hk.1.1, by omega⟩, by rw [← e 11 k 0 (by omega) (by omega) (by omega)]; exact hk.2⟩
        rw [e 19 k 0 (by omega) (by omega) (by omega)]
        exact ⟨q2 k hk2, q3 k hk2, q4 k hk2, fun i j1 j2 => by rw [e 20 k i (by omega) (by omega) (by omega)]; exact q5 k i hk2 j1 j2⟩
    exact ⟨q0, q1, fun k hk => (key k hk).1, fun k hk => (key k hk).2.1, fun k hk => (key k hk).2.2.1, fun k i hk j1 j2 => (gI_pI ..).trans ((if_neg (fun z => by rw [hi] at z; omega)).trans ((key k hk).2.2.2 i j1 j2))⟩
theorem Snote_e (S : St) (u f t v c : Int) (k : Nat) (x j : Int) (h1 : k ≠ 7) (h2 : k ≠ 23) (h3 : ¬ ((k = 19 ∨ k = 20) ∧ x = S 7 0 0)) :
    Snote S u f t v c k x j = su (su (su (su (su (su (su (su S 13 (S 7 0 0) 0 f) 14 (S 7 0 0) 0 t) 15 (S 7 0 0) 0 v) 16 (S 7 0 0) 0 (-1)) 8 (S 7 0 0) 0 u) 9 (S 7 0 0) 0 c) 10 (S 7 0 0) 0 (-1)) 11 (S 7 0 0) 0 (S 7 0 0) k x j := by
  by_cases hx : x = S 7 0 0 ∧ j = 0
  · obtain ⟨rfl, rfl⟩ := hx
    by_cases hk : 8 ≤ k ∧ k ≤ 23 ∧ k ≠ 20 ∧ k ≠ 21 ∧ k ≠ 22
    · unfold Snote
      rw [NN_n _ _ _ _ hk]
      unfold wH su
      simp only [and_true, h2, if_false]
      have h19 : k ≠ 19 := fun z => h3 ⟨.inl z, rfl⟩
      simp only [h19, if_false]
      by_cases d11 : k = 11
      · subst d11; rfl
      by_cases d10 : k = 10
      · subst d10; rfl
      by_cases d9 : k = 9
      · subst d9; rfl
      by_cases d8 : k = 8
      · subst d8; rfl
      by_cases d16 : k = 16
      · subst d16; rfl
      by_cases d15 : k = 15
      · subst d15; rfl
      by_cases d14 : k = 14
      · subst d14; rfl
      by_cases d13 : k = 13
      · subst d13; rfl
      simp only [d11, d10, d9, d8, d16, d15, d14, d13, if_false]
    · have hk20 : k ≠ 20 := fun z => h3 ⟨.inr z, rfl⟩
      have : Snote S u f t v c k (S 7 0 0) 0 = S k (S 7 0 0) 0 := by
        unfold Snote NN
        rw [if_neg (by omega), if_neg (fun z => hk ⟨z.1, z.2.1, z.2.2.1, z.2.2.2.1, z.2.2.2.2.1⟩), if_neg (by omega)]
      rw [this]
      rw [su_k (by omega), su_k (by omega), su_k (by omega), su_k (by omega), su_k (by omega), su_k (by omega), su_k (by omega), su_k (by omega)]
  · have : Snote S u f t v c k x j = S k x j := by
      unfold Snote NN
      rw [if_neg (by omega), if_neg (fun z => hx z.2.2.2.2.2), if_neg (fun z => h3 ⟨.inr z.1, z.2⟩)]
    rw [this]
    unfold su
    rw [if_neg (fun z => hx z.2), if_neg (fun z => hx z.2), if_neg (fun z => hx z.2), if_neg (fun z => hx z.2), if_neg (fun z => hx z.2), if_neg (fun z => hx z.2), if_neg (fun z => hx z.2), if_neg (fun z => hx z.2)]
theorem Srep_e (S : St) (u q c : Int) (k : Nat) (x j : Int) (h1 : k ≠ 7) (h2 : k ≠ 23) (hq : S 11 q 0 ≠ S 7 0 0) :
    Srep S u q c k x j = su (su (su (su (su S 18 (S 11 q 0) 0 0) 8 (S 7 0 0) 0 u) 9 (S 7 0 0) 0 c) 10 (S 7 0 0) 0 q) 11 (S 7 0 0) 0 (S 11 q 0) k x j := by
  by_cases hx : x = S 7 0 0 ∧ j = 0
  · obtain ⟨rfl, rfl⟩ := hx
    by_cases hk : 8 ≤ k ∧ k ≤ 23 ∧ k ≠ 20 ∧ k ≠ 21 ∧ k ≠ 22
    · unfold Srep
      have e18 : ∀ (Z : St) (v : Int), su Z 18 (S 11 q 0) 0 v k (S 7 0 0) 0 = Z k (S 7 0 0) 0 := fun Z v => if_neg (fun z => hq z.2.1.symm)
      rw [e18, NN_n _ _ _ _ hk]
      unfold wR
      by_cases d11 : k = 11
      · subst d11; exact (su_i.trans (if_pos ⟨rfl, rfl⟩)).symm
      by_cases d10 : k = 10
      · subst d10; exact ((su_k (by omega)).trans (su_i.trans (if_pos ⟨rfl, rfl⟩))).symm
      by_cases d9 : k = 9
      · subst d9; exact ((su_k (by omega)).trans ((su_k (by omega)).trans (su_i.trans (if_pos ⟨rfl, rfl⟩)))).symm
      by_cases d8 : k = 8
      · subst d8; exact ((su_k (by omega)).trans ((su_k (by omega)).trans ((su_k (by omega)).trans (su_i.trans (if_pos ⟨rfl, rfl⟩))))).symm
      rw [if_neg d8, if_neg d9, if_neg d10, if_neg d11, if_neg h2, su_k d11, su_k d10, su_k d9, su_k d8, e18]
    · have : Srep S u q c k (S 7 0 0) 0 = S k (S 7 0 0) 0 := by
        unfold Srep
        rw [su_k (by omega)]
        by_cases d20 : k = 20
        · subst d20; exact NN_20 _ _ _ _
        · unfold NN
          rw [if_neg (by omega), if_neg (fun z => hk ⟨z.1, z.2.1, z.2.2.1, z.2.2.2.1, z.2.2.2.2.1⟩), if_neg (by omega)]
      rw [this]
      rw [su_k (by omega), su_k (by omega), su_k (by omega), su_k (by omega), su_k (by omega)]
  · have e1 : NN S (wR S u q c) (fun j => S 20 (S 7 0 0) j) k x j = S k x j := by
      unfold NN
      rw [if_neg (by omega), if_neg (fun z => hx z.2.2.2.2.2)]
      by_cases d : k = 20 ∧ x = S 7 0 0
      · rw [if_pos d, d.1, d.2]
      · rw [if_neg d]
    unfold Srep
    have e2 : ∀ (Z : St) (k2 : Nat) (v : Int), su Z k2 (S 7 0 0) 0 v k x j = Z k x j := fun Z k2 v => if_neg (fun z => hx z.2)
    rw [e2, e2, e2, e2]
    by_cases d : k = 18 ∧ x = S 11 q 0 ∧ j = 0
    · unfold su; rw [if_pos d, if_pos d]
    · unfold su; rw [if_neg d, if_neg d, e1]
end
