/-! CHANGES: what a write does to the memory of the other side -/
/-- nothing of the reference is touched by a write to a name of the class, and the other way round -/
theorem MvM_of {P : Nat → Prop} {S : St} {a b : Na} {h g : Zh} (hP : ∀ f, 100 ≤ f → f < 200 → P f) (hm : RepM a S h) (hv : 0 ≤ S 2 0 0 ∧ S 2 0 0 ≤ 60) (x : Fr P a h b g) : MvM S a h b g := by
  have k : ∀ f i, 100 ≤ f → f < 200 → gK h (a f i) ≠ 0 → b f i = a f i ∧ sm h g (a f i) := fun f i h1 h2 h3 => x f i (hP f h1 h2) h3
  unfold MvM
  refine ⟨?_, ?_, ?_, ?_, ?_, ?_, ?_, ?_, ?_, ?_, ?_, ?_, ?_, ?_, ?_, ?_, ?_, ?_, ?_, ?_⟩
  all_goals first
    | exact k _ _ (by omega) (by omega) (by simp only [hm.c0, hm.c1, hm.c2, hm.c3, hm.c4, hm.c5, hm.c6, hm.c7, hm.c8, hm.c9, hm.c10, hm.c11, hm.c12, hm.c13, hm.c14, hm.c15, hm.c16, hm.c17, hm.c18, hm.c19, hm.c20, hm.c21, hm.c22, hm.c23, hm.c24, hm.c25, hm.c26, hm.c27, hm.c28, hm.c29, hm.c30, hm.c31, hm.c32, hm.c33, hm.c34, hm.c35, hm.c36, hm.c37, hm.c38, hm.c39, hm.c40, hm.c41, hm.c42, hm.c43, hm.c44, hm.c45, hm.c46, hm.c47, hm.c48, hm.c49, hm.c50, hm.c51, hm.c52, hm.c53, hm.c54, hm.c55, hm.c56, hm.c57, hm.c58, hm.c59, hm.c60, hm.c61, hm.c62, hm.c63, hm.c64, hm.c65, hm.c66, hm.c67, hm.c68, hm.c69, hm.c70, hm.c71, hm.c72, hm.c73, hm.c74, hm.c75, hm.c76, hm.c77]; omega)
    | exact fun v h1 h2 => k _ _ (by omega) (by omega) (by rw [hm.c31 v h1 h2]; omega)
    | exact fun v h1 => k _ _ (by omega) (by omega) (by rw [hm.c70 v h1]; omega)
theorem RepM.fr {P : Nat → Prop} {S : St} {a b : Na} {h g : Zh} (hm : RepM a S h) (hv : 0 ≤ S 2 0 0 ∧ S 2 0 0 ≤ 60) (x : Fr P a h b g) (hP : ∀ f, 100 ≤ f → f < 200 → P f) : RepM b S g := hm.mv (MvM_of hP hm hv x)
theorem MvC_of {P : Nat → Prop} {S : St} {a b : Na} {h g : Zh} (hP : ∀ f, f < 100 → P f) (hr : RepC a S h) (x : Fr P a h b g) : MvC S a h b g := by
  have k : ∀ f i, f < 100 → gK h (a f i) ≠ 0 → b f i = a f i ∧ sm h g (a f i) := fun f i h1 h3 => x f i (hP f h1) h3
  unfold MvC
  refine ⟨?_, ?_, ?_, ?_, ?_, ?_, ?_, ?_, ?_, ?_, ?_, ?_, ?_, ?_, ?_, ?_⟩
  all_goals first
    | exact k _ _ (by omega) (by simp only [hr.c0, hr.c1, hr.c2, hr.c3, hr.c4, hr.c5, hr.c6, hr.c7, hr.c8, hr.c9, hr.c10, hr.c11, hr.c12, hr.c13, hr.c14, hr.c15, hr.c16, hr.c17, hr.c18, hr.c19, hr.c20, hr.c21, hr.c22, hr.c23, hr.c24, hr.c25, hr.c26, hr.c27, hr.c28, hr.c29, hr.c30, hr.c31, hr.c32, hr.c33, hr.c34, hr.c35, hr.c36, hr.c37, hr.c38, hr.c39, hr.c40, hr.c41, hr.c42, hr.c43, hr.c44, hr.c45, hr.c46, hr.c47, hr.c48, hr.c49, hr.c50, hr.c51, hr.c52, hr.c53, hr.c54, hr.c55, hr.c56, hr.c57, hr.c58, hr.c59, hr.c60, hr.c61, hr.c62, hr.c63, hr.c64, hr.c65, hr.c66, hr.c67, hr.c68, hr.c69, hr.c70]; omega)
    | exact fun v h1 h2 => k _ _ (by omega) (by rw [hr.c68 v h1 h2]; omega)
    | exact fun v h1 h2 => k _ _ (by omega) (by rw [hr.c20 v h1 h2]; omega)
    | exact fun v h1 => k _ _ (by omega) (by rw [hr.c34 v h1]; omega)
    | exact fun v h1 => k _ _ (by omega) (by rw [hr.c47 v h1]; omega)
    | exact fun v h1 => k _ _ (by omega) (by rw [hr.c56 v h1]; omega)
    | exact fun v h1 => k _ _ (by omega) (by rw [hr.c59 v h1]; omega)
theorem RepC.fr {P : Nat → Prop} {S : St} {a b : Na} {h g : Zh} (hr : RepC a S h) (x : Fr P a h b g) (hP : ∀ f, f < 100 → P f) : RepC b S g := hr.mv (MvC_of hP hr x)
/-- what the order and the replies hang on -/
theorem rA_c {S T : St} (h7 : T 7 0 0 = S 7 0 0) (h10 : ∀ j, T 10 j 0 = S 10 j 0) (q k : Int) : rA T q k = rA S q k := by
  unfold rA
  rw [h7]
  congr 1
  funext j
  rw [h10]
theorem up_c {S T : St} (h7 : T 7 0 0 = S 7 0 0) (h10 : ∀ j, T 10 j 0 = S 10 j 0) (m : Nat) : ∀ k, up T m k = up S m k := by
  induction m with
  | zero => exact fun k => rfl
  | succ m ih =>
    intro k
    show (if T 10 k 0 = -1 then -1 else if rA T (T 10 k 0) k = -1 then up T m (T 10 k 0) else rA T (T 10 k 0) k) = (if S 10 k 0 = -1 then -1 else if rA S (S 10 k 0) k = -1 then up S m (S 10 k 0) else rA S (S 10 k 0) k)
    rw [h10, rA_c h7 h10, ih]
theorem NX_c {S T : St} (h7 : T 7 0 0 = S 7 0 0) (h10 : ∀ j, T 10 j 0 = S 10 j 0) (k : Int) : NX T k = NX S k := by
  unfold NX
  rw [rA_c h7 h10, up_c h7 h10]
theorem RP_c {S T : St} (h7 : T 7 0 0 = S 7 0 0) (h10 : ∀ j, T 10 j 0 = S 10 j 0) (h12 : ∀ j, T 12 j 0 = S 12 j 0) (k : Int) : RP T k = RP S k := by
  unfold RP
  rw [h7]
  congr 1
  funext j
  rw [h10, h12]
