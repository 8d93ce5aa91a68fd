/-! THE MEAN -/
theorem nan_0 : ∀ x : Fin 61, ∀ y : Fin 61, y = 0 ∨ FP.ddiv (FP.i2d (Int32.ofInt (x.val : Int))) (FP.i2d (Int32.ofInt (y.val : Int))) &&& 0x7fffffffffffffff ≤ 0x7ff0000000000000 := by decide +kernel
theorem nan_1 {x y : Int} (hx : 0 ≤ x ∧ x ≤ 60) (hy : 0 < y ∧ y ≤ 60) : vf_n64 (FP.ddiv (FP.i2d (Int32.ofInt x)) (FP.i2d (Int32.ofInt y))) := by
  have h := nan_0 ⟨x.toNat, by omega⟩ ⟨y.toNat, by omega⟩
  rcases h with h | h
  · have := congrArg Fin.val h
    have h2 : y.toNat = 0 := this
    omega
  · have e1 : ((x.toNat : Nat) : Int) = x := Int.toNat_of_nonneg hx.1
    have e2 : ((y.toNat : Nat) : Int) = y := Int.toNat_of_nonneg (by omega)
    show FP.ddiv (FP.i2d (Int32.ofInt x)) (FP.i2d (Int32.ofInt y)) &&& 0x7fffffffffffffff ≤ 0x7ff0000000000000
    rw [← e1, ← e2]
    exact h
noncomputable def MT (S : St) : UInt64 := if MN S 2 = 0 then FP.dconst0 else FP.ddiv (FP.i2d (Int32.ofInt (MN S 1))) (FP.i2d (Int32.ofInt (MN S 2)))
theorem mn_b {S : St} (iv : Inv S) (w : Int) (hw : w ≠ 0) : 0 ≤ MN S w ∧ MN S w ≤ 60 := by
  obtain ⟨n0, n1⟩ := iv.2.2.1.1
  unfold MN
  rw [if_neg hw]
  split
  · have := cn_le (fun j => S 12 j 0 ≠ 2) (S 7 0 0).toNat 0; omega
  · have := cn_le (CT S w) (S 7 0 0).toNat 0; omega
section
variable {a : Na} {S : St} {h : Zh} {Q : Zp}
theorem c_mean (hr : RepC a S h) (iv : Inv S) : WP 56 0 [some (zr (some (a 0 0))), none] [] h Q = Q (.inl (some (zd (MT S)))) h := by
  have h1 := mn_b iv 1 (by omega)
  have h2 := mn_b iv 2 (by omega)
  have e1 : cn (fun j => S 12 j 0 ≠ 2) (S 7 0 0).toNat 0 = MN S 1 := by unfold MN; rw [if_neg (by omega), if_pos rfl]
  have e2 : cn (CT S 2) (S 7 0 0).toNat 0 = MN S 2 := by unfold MN; rw [if_neg (by omega), if_neg (by omega)]
  simp only [b_56_0, b_56_5, kont_v, kont_n, kont_x, Nat.reduceAdd, ad_some, kd_some, ixa, and_true, true_and, and_self, eq_self, ne_eq, brT, brF, true_or, or_true, and_imp, hr.c0, c_countStrands hr iv, e2]
  unfold MT
  by_cases c : MN S 2 = 0
  · rw [brt c, if_pos c, b_56_10, b_56_22]
  · rw [brf c, if_neg c]
    simp only [b_56_14, b_56_18, b_56_22, kont_v, kont_n, kont_x, Nat.reduceAdd, ad_some, kd_some, ixa, and_true, true_and, and_self, eq_self, ne_eq, brT, brF, true_or, or_true, and_imp, hr.c0, c_countNotes hr iv, e1]
    exact aT (nan_1 h1 ⟨by omega, h2.2⟩)
end
