/-! WRITES TO THE PAGE'S ROWS -/
section
variable {a b : Na} {S T : St} {h g : Zh}
theorem RepP.w13 (hi : Ij a) (hp : RepP a S h) (it : ItP S) (k x : Int) : RepP a (su S 13 k 0 x) (pI h (a 206 k) 5 x) := by
  obtain ⟨A, R, X, G, M, N, H⟩ := hp
  refine ⟨A.c rfl rfl rfl rfl rfl rfl (smI hi (by omega)) (smI hi (by omega)) rfl, R.c rfl (smI hi (by omega)) rfl (fun _ => rfl), X.c it.1.1 rfl (smI hi (by omega)) (fun v _ _ => ⟨rfl, smI hi (by omega)⟩) (fun _ _ _ => rfl) (fun p h1 h2 => it.2 p h1 h2) rfl rfl (fun _ => rfl), fun n h1 h2 => (G n h1 h2).c rfl (smI hi (by omega)) rfl, M.c rfl (smI hi (by omega)) rfl, fun j hj => ?_, fun j hj => ?_⟩
  · have z := N j hj
    simp only [PN, gI_pI, gR_pI, gK_pI, gL_pI, gI_pR, gR_pR, gK_pR, gL_pR, hi, su, reduceCtorEq, Nat.reduceEqDiff, Int.reduceEq, and_true, true_and, and_false, false_and, if_true, if_false, and_self, eq_self, ne_eq, not_true, not_false_eq_true] at z ⊢
    exact z
  · have z := H j hj
    simp only [PH, gI_pI, gR_pI, gK_pI, gL_pI, gI_pR, gR_pR, gK_pR, gL_pR, hi, su, reduceCtorEq, Nat.reduceEqDiff, Int.reduceEq, and_true, true_and, and_false, false_and, if_true, if_false, and_self, eq_self, ne_eq, not_true, not_false_eq_true] at z ⊢
    obtain ⟨z5, z6, z7, z8, z9, z10, z11⟩ := z
    refine ⟨?_, ?_, ?_, ?_, ?_, ?_, fun i h1 h2 => ?_⟩
    all_goals first
      | assumption
      | (split; rfl; assumption)
      | (rw [if_neg (by omega)]; exact z11 i h1 h2)
      | exact z11 i h1 h2
theorem RepP.w14 (hi : Ij a) (hp : RepP a S h) (it : ItP S) (k x : Int) : RepP a (su S 14 k 0 x) (pI h (a 206 k) 6 x) := by
  obtain ⟨A, R, X, G, M, N, H⟩ := hp
  refine ⟨A.c rfl rfl rfl rfl rfl rfl (smI hi (by omega)) (smI hi (by omega)) rfl, R.c rfl (smI hi (by omega)) rfl (fun _ => rfl), X.c it.1.1 rfl (smI hi (by omega)) (fun v _ _ => ⟨rfl, smI hi (by omega)⟩) (fun _ _ _ => rfl) (fun p h1 h2 => it.2 p h1 h2) rfl rfl (fun _ => rfl), fun n h1 h2 => (G n h1 h2).c rfl (smI hi (by omega)) rfl, M.c rfl (smI hi (by omega)) rfl, fun j hj => ?_, fun j hj => ?_⟩
  · have z := N j hj
    simp only [PN, gI_pI, gR_pI, gK_pI, gL_pI, gI_pR, gR_pR, gK_pR, gL_pR, hi, su, reduceCtorEq, Nat.reduceEqDiff, Int.reduceEq, and_true, true_and, and_false, false_and, if_true, if_false, and_self, eq_self, ne_eq, not_true, not_false_eq_true] at z ⊢
    exact z
  · have z := H j hj
    simp only [PH, gI_pI, gR_pI, gK_pI, gL_pI, gI_pR, gR_pR, gK_pR, gL_pR, hi, su, reduceCtorEq, Nat.reduceEqDiff, Int.reduceEq, and_true, true_and, and_false, false_and, if_true, if_false, and_self, eq_self, ne_eq, not_true, not_false_eq_true] at z ⊢
    obtain ⟨z5, z6, z7, z8, z9, z10, z11⟩ := z
    refine ⟨?_, ?_, ?_, ?_, ?_, ?_, fun i h1 h2 => ?_⟩
    all_goals first
      | assumption
      | (split; rfl; assumption)
      | (rw [if_neg (by omega)]; exact z11 i h1 h2)
      | exact z11 i h1 h2
theorem RepP.w18 (hi : Ij a) (hp : RepP a S h) (it : ItP S) (k x : Int) : RepP a (su S 18 k 0 x) (pI h (a 206 k) 8 x) := by
  obtain ⟨A, R, X, G, M, N, H⟩ := hp
  refine ⟨A.c rfl rfl rfl rfl rfl rfl (smI hi (by omega)) (smI hi (by omega)) rfl, R.c rfl (smI hi (by omega)) rfl (fun _ => rfl), X.c it.1.1 rfl (smI hi (by omega)) (fun v _ _ => ⟨rfl, smI hi (by omega)⟩) (fun _ _ _ => rfl) (fun p h1 h2 => it.2 p h1 h2) rfl rfl (fun _ => rfl), fun n h1 h2 => (G n h1 h2).c rfl (smI hi (by omega)) rfl, M.c rfl (smI hi (by omega)) rfl, fun j hj => ?_, fun j hj => ?_⟩
  · have z := N j hj
    simp only [PN, gI_pI, gR_pI, gK_pI, gL_pI, gI_pR, gR_pR, gK_pR, gL_pR, hi, su, reduceCtorEq, Nat.reduceEqDiff, Int.reduceEq, and_true, true_and, and_false, false_and, if_true, if_false, and_self, eq_self, ne_eq, not_true, not_false_eq_true] at z ⊢
    exact z
  · have z := H j hj
    simp only [PH, gI_pI, gR_pI, gK_pI, gL_pI, gI_pR, gR_pR, gK_pR, gL_pR, hi, su, reduceCtorEq, Nat.reduceEqDiff, Int.reduceEq, and_true, true_and, and_false, false_and, if_true, if_false, and_self, eq_self, ne_eq, not_true, not_false_eq_true] at z ⊢
    obtain ⟨z5, z6, z7, z8, z9, z10, z11⟩ := z
    refine ⟨?_, ?_, ?_, ?_, ?_, ?_, fun i h1 h2 => ?_⟩
    all_goals first
      | assumption
      | (split; rfl; assumption)
      | (rw [if_neg (by omega)]; exact z11 i h1 h2)
      | exact z11 i h1 h2
theorem RepP.w16 (hi : Ij a) (hp : RepP a S h) (it : ItP S) (k x : Int) : RepP a (su S 16 k 0 x) (pI h (a 206 k) 9 x) := by
  obtain ⟨A, R, X, G, M, N, H⟩ := hp
  refine ⟨A.c rfl rfl rfl rfl rfl rfl (smI hi (by omega)) (smI hi (by omega)) rfl, R.c rfl (smI hi (by omega)) rfl (fun _ => rfl), X.c it.1.1 rfl (smI hi (by omega)) (fun v _ _ => ⟨rfl, smI hi (by omega)⟩) (fun _ _ _ => rfl) (fun p h1 h2 => it.2 p h1 h2) rfl rfl (fun _ => rfl), fun n h1 h2 => (G n h1 h2).c rfl (smI hi (by omega)) rfl, M.c rfl (smI hi (by omega)) rfl, fun j hj => ?_, fun j hj => ?_⟩
  · have z := N j hj
    simp only [PN, gI_pI, gR_pI, gK_pI, gL_pI, gI_pR, gR_pR, gK_pR, gL_pR, hi, su, reduceCtorEq, Nat.reduceEqDiff, Int.reduceEq, and_true, true_and, and_false, false_and, if_true, if_false, and_self, eq_self, ne_eq, not_true, not_false_eq_true] at z ⊢
    exact z
  · have z := H j hj
    simp only [PH, gI_pI, gR_pI, gK_pI, gL_pI, gI_pR, gR_pR, gK_pR, gL_pR, hi, su, reduceCtorEq, Nat.reduceEqDiff, Int.reduceEq, and_true, true_and, and_false, false_and, if_true, if_false, and_self, eq_self, ne_eq, not_true, not_false_eq_true] at z ⊢
    obtain ⟨z5, z6, z7, z8, z9, z10, z11⟩ := z
    refine ⟨?_, ?_, ?_, ?_, ?_, ?_, fun i h1 h2 => ?_⟩
    all_goals first
      | assumption
      | (split; rfl; assumption)
      | (rw [if_neg (by omega)]; exact z11 i h1 h2)
      | exact z11 i h1 h2
theorem RepP.w17 (hi : Ij a) (hp : RepP a S h) (it : ItP S) (k x : Int) : RepP a (su S 17 k 0 x) (pI h (a 206 k) 10 x) := by
  obtain ⟨A, R, X, G, M, N, H⟩ := hp
  refine ⟨A.c rfl rfl rfl rfl rfl rfl (smI hi (by omega)) (smI hi (by omega)) rfl, R.c rfl (smI hi (by omega)) rfl (fun _ => rfl), X.c it.1.1 rfl (smI hi (by omega)) (fun v _ _ => ⟨rfl, smI hi (by omega)⟩) (fun _ _ _ => rfl) (fun p h1 h2 => it.2 p h1 h2) rfl rfl (fun _ => rfl), fun n h1 h2 => (G n h1 h2).c rfl (smI hi (by omega)) rfl, M.c rfl (smI hi (by omega)) rfl, fun j hj => ?_, fun j hj => ?_⟩
  · have z := N j hj
    simp only [PN, gI_pI, gR_pI, gK_pI, gL_pI, gI_pR, gR_pR, gK_pR, gL_pR, hi, su, reduceCtorEq, Nat.reduceEqDiff, Int.reduceEq, and_true, true_and, and_false, false_and, if_true, if_false, and_self, eq_self, ne_eq, not_true, not_false_eq_true] at z ⊢
    exact z
  · have z := H j hj
    simp only [PH, gI_pI, gR_pI, gK_pI, gL_pI, gI_pR, gR_pR, gK_pR, gL_pR, hi, su, reduceCtorEq, Nat.reduceEqDiff, Int.reduceEq, and_true, true_and, and_false, false_and, if_true, if_false, and_self, eq_self, ne_eq, not_true, not_false_eq_true] at z ⊢
    obtain ⟨z5, z6, z7, z8, z9, z10, z11⟩ := z
    refine ⟨?_, ?_, ?_, ?_, ?_, ?_, fun i h1 h2 => ?_⟩
    all_goals first
      | assumption
      | (split; rfl; assumption)
      | (rw [if_neg (by omega)]; exact z11 i h1 h2)
      | exact z11 i h1 h2
theorem RepP.w12 (hi : Ij a) (hp : RepP a S h) (it : ItP S) (k x : Int) : RepP a (su S 12 k 0 x) (pI h (a 206 k) 4 x) := by
  obtain ⟨A, R, X, G, M, N, H⟩ := hp
  refine ⟨A.c rfl rfl rfl rfl rfl rfl (smI hi (by omega)) (smI hi (by omega)) rfl, R.c rfl (smI hi (by omega)) rfl (fun _ => rfl), X.c it.1.1 rfl (smI hi (by omega)) (fun v _ _ => ⟨rfl, smI hi (by omega)⟩) (fun _ _ _ => rfl) (fun p h1 h2 => it.2 p h1 h2) rfl rfl (fun _ => rfl), fun n h1 h2 => (G n h1 h2).c rfl (smI hi (by omega)) rfl, M.c rfl (smI hi (by omega)) rfl, fun j hj => ?_, fun j hj => ?_⟩
  · have z := N j hj
    simp only [PN, gI_pI, gR_pI, gK_pI, gL_pI, gI_pR, gR_pR, gK_pR, gL_pR, hi, su, reduceCtorEq, Nat.reduceEqDiff, Int.reduceEq, and_true, true_and, and_false, false_and, if_true, if_false, and_self, eq_self, ne_eq, not_true, not_false_eq_true] at z ⊢
    obtain ⟨z1, z2, z3, z4, z5, z6, z7⟩ := z
    refine ⟨z1, z2, z3, z4, z5, z6, ?_⟩
    split
    · rfl
    · exact z7
  · have z := H j hj
    simp only [PH, gI_pI, gR_pI, gK_pI, gL_pI, gI_pR, gR_pR, gK_pR, gL_pR, hi, su, reduceCtorEq, Nat.reduceEqDiff, Int.reduceEq, and_true, true_and, and_false, false_and, if_true, if_false, and_self, eq_self, ne_eq, not_true, not_false_eq_true] at z ⊢
    obtain ⟨z5, z6, z7, z8, z9, z10, z11⟩ := z
    refine ⟨z5, z6, z7, z8, z9, z10, fun i h1 h2 => ?_⟩
    rw [if_neg (by omega)]
    exact z11 i h1 h2
theorem RepP.w1 (hi : Ij a) (hp : RepP a S h) (it : ItP S) (u x : Int) : RepP a (su S 1 u 0 x) (pI h (a 201 0) u x) := by
  obtain ⟨A, R, X, G, M, N, H⟩ := hp
  refine ⟨A.c rfl rfl rfl rfl rfl rfl (smI hi (by omega)) (smI hi (by omega)) rfl, ?_, X.c it.1.1 rfl (smI hi (by omega)) (fun v _ _ => ⟨rfl, smI hi (by omega)⟩) (fun _ _ _ => rfl) (fun p h1 h2 => it.2 p h1 h2) rfl rfl (fun _ => rfl), fun n h1 h2 => (G n h1 h2).c rfl (smI hi (by omega)) rfl, M.c rfl (smI hi (by omega)) rfl, fun j hj => ?_, fun j hj => ?_⟩
  · have z := R
    simp only [PR, gI_pI, gR_pI, gK_pI, gL_pI, gI_pR, gR_pR, gK_pR, gL_pR, hi, su, reduceCtorEq, Nat.reduceEqDiff, Int.reduceEq, and_true, true_and, and_false, false_and, if_true, if_false, and_self, eq_self, ne_eq, not_true, not_false_eq_true] at z ⊢
    obtain ⟨z1, z2, z3⟩ := z
    refine ⟨z1, z2, fun w h1 h2 => ?_⟩
    split
    · rfl
    · exact z3 w h1 h2
  · exact (N j hj).c rfl ((smI hi (by omega)).2.2.2.1 j) rfl (smI hi (by omega)) rfl rfl rfl rfl rfl
  · exact (H j hj).c rfl (smI hi (by omega)) rfl rfl rfl rfl rfl rfl rfl (fun _ => rfl)
end
