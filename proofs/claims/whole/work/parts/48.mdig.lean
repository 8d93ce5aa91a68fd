/-! THE REFERENCE: the checksum -/
theorem loopG {T : Type} {W : T → Int64 → Int → Prop} {R : Int64 → Prop} {f : Int64 → Int → Int64} {N : Int} (n0 : 0 ≤ N)
    (step : ∀ o i d, 0 ≤ i → i < N → ∃ o', W o d i = W o' (f d i) (i + 1))
    (fin : ∀ o d, W o d N = R d) (o : T) (d : Int64) : W o d 0 = R (fo f N.toNat 0 d) := by
  have key : ∀ (m : Nat) (o : T) (i : Int) (d : Int64), m = (N - i).toNat → 0 ≤ i → i ≤ N → W o d i = R (fo f m i d) := by
    intro m
    induction m with
    | zero =>
      intro o i d e1 e2 e3
      have e : i = N := by omega
      rw [e, fin o d]
      rfl
    | succ m ih =>
      intro o i d e1 e2 e3
      obtain ⟨o', es⟩ := step o i d e2 (by omega)
      rw [es, ih o' (i + 1) (f d i) (by omega) (by omega) (by omega)]
      rfl
  exact key N.toNat o 0 d (by omega) (by omega) n0
section
variable {a : Na} {S : St} {h : Zh} {Q : Zp}
theorem m_dExp (hm : RepM a S h) (iv : Inv S) (e : Int64) (x4 x5 : Int) (o6 : Option Zv) (x3 : Int) : WP 146 298 [some (zr (some (a 100 0))), some (zl e), none, some (zi x3), some (zi x4), some (zi x5), o6] [] h Q = Q (.inl (some (zl (DE S e)))) h := by
  obtain ⟨u0, u1⟩ := iv.2.2.2
  simp (disch := first | assumption | omega) only [b_146_298, kont_v, kont_n, kont_x, Nat.reduceAdd, ad_some, kd_some, ixa, and_true, true_and, and_self, eq_self, ne_eq, brT, brF, true_or, or_true, and_imp, hm.c0, hm.c1, hm.c2, hm.c3, hm.c4, hm.c5, hm.c6, hm.c7, hm.c8, hm.c9, hm.c10, hm.c11, hm.c12, hm.c13, hm.c14, hm.c15, hm.c16, hm.c17, hm.c18, hm.c19, hm.c20, hm.c21, hm.c22, hm.c23, hm.c24, hm.c25, hm.c26, hm.c27, hm.c28, hm.c29, hm.c30, hm.c31, hm.c32, hm.c33, hm.c34, hm.c35, hm.c36, hm.c37, hm.c38, hm.c39, hm.c40, hm.c41, hm.c42, hm.c43, hm.c44, hm.c45, hm.c46, hm.c47, hm.c48, hm.c49, hm.c50, hm.c51, hm.c52, hm.c53, hm.c54, hm.c55, hm.c56, hm.c57, hm.c58, hm.c59, hm.c60, hm.c61, hm.c62, hm.c63, hm.c64, hm.c65, hm.c66, hm.c67, hm.c68, hm.c69, hm.c70, hm.c71, hm.c72, hm.c73, hm.c74, hm.c75, hm.c76, hm.c77]
  refine loopG (T := Option Zv) (W := fun o d p => WP 146 310 [some (zr (some (a 100 0))), some (zl d), none, some (zr (some (a 120 0))), some (zi (4 * S 21 0 0)), some (zi (4 * p)), o] [] h Q) (R := fun d => Q (.inl (some (zl d))) h) (N := S 21 0 0) u0 (fun o i d e1 e2 => ⟨some (zi (S 22 i 3)), ?_⟩) (fun o d => ?_) o6 e
  · have q0 := hm.c75 i 0 e1 e2 (by omega) (by omega)
    have q1 := hm.c75 i 1 e1 e2 (by omega) (by omega)
    have q2 := hm.c75 i 2 e1 e2 (by omega) (by omega)
    have q3 := hm.c75 i 3 e1 e2 (by omega) (by omega)
    have r1 : 4 * i + 1 + 1 = 4 * i + 2 := by omega
    have r2 : 4 * i + 2 + 1 = 4 * i + 3 := by omega
    have r3 : 4 * i + 3 + 1 = 4 * (i + 1) := by omega
    rw [Int.add_zero] at q0
    show WP 146 310 _ _ _ _ = _
    rw [b_146_310, brf (by omega), b_146_317, ad_some, q0]
    simp (disch := first | assumption | omega) only [kont_v, kont_n, kont_x, Nat.reduceAdd, ad_some, kd_some, ixa, and_true, true_and, and_self, eq_self, ne_eq, brT, brF, true_or, or_true, and_imp, hm.c0, hm.c1, hm.c2, hm.c3, hm.c4, hm.c5, hm.c6, hm.c7, hm.c8, hm.c9, hm.c10, hm.c11, hm.c12, hm.c13, hm.c14, hm.c15, hm.c16, hm.c17, hm.c18, hm.c19, hm.c20, hm.c21, hm.c22, hm.c23, hm.c24, hm.c25, hm.c26, hm.c27, hm.c28, hm.c29, hm.c30, hm.c31, hm.c32, hm.c33, hm.c34, hm.c35, hm.c36, hm.c37, hm.c38, hm.c39, hm.c40, hm.c41, hm.c42, hm.c43, hm.c44, hm.c45, hm.c46, hm.c47, hm.c48, hm.c49, hm.c50, hm.c51, hm.c52, hm.c53, hm.c54, hm.c55, hm.c56, hm.c57, hm.c58, hm.c59, hm.c60, hm.c61, hm.c62, hm.c63, hm.c64, hm.c65, hm.c66, hm.c67, hm.c68, hm.c69, hm.c70, hm.c71, hm.c72, hm.c73, hm.c74, hm.c75, hm.c76, hm.c77, aT, inR]
    rw [b_146_310, brf (by omega), b_146_317, ad_some, q1, r1]
    simp (disch := first | assumption | omega) only [kont_v, kont_n, kont_x, Nat.reduceAdd, ad_some, kd_some, ixa, and_true, true_and, and_self, eq_self, ne_eq, brT, brF, true_or, or_true, and_imp, hm.c0, hm.c1, hm.c2, hm.c3, hm.c4, hm.c5, hm.c6, hm.c7, hm.c8, hm.c9, hm.c10, hm.c11, hm.c12, hm.c13, hm.c14, hm.c15, hm.c16, hm.c17, hm.c18, hm.c19, hm.c20, hm.c21, hm.c22, hm.c23, hm.c24, hm.c25, hm.c26, hm.c27, hm.c28, hm.c29, hm.c30, hm.c31, hm.c32, hm.c33, hm.c34, hm.c35, hm.c36, hm.c37, hm.c38, hm.c39, hm.c40, hm.c41, hm.c42, hm.c43, hm.c44, hm.c45, hm.c46, hm.c47, hm.c48, hm.c49, hm.c50, hm.c51, hm.c52, hm.c53, hm.c54, hm.c55, hm.c56, hm.c57, hm.c58, hm.c59, hm.c60, hm.c61, hm.c62, hm.c63, hm.c64, hm.c65, hm.c66, hm.c67, hm.c68, hm.c69, hm.c70, hm.c71, hm.c72, hm.c73, hm.c74, hm.c75, hm.c76, hm.c77, aT, inR]
    rw [b_146_310, brf (by omega), b_146_317, ad_some, q2, r2]
    simp (disch := first | assumption | omega) only [kont_v, kont_n, kont_x, Nat.reduceAdd, ad_some, kd_some, ixa, and_true, true_and, and_self, eq_self, ne_eq, brT, brF, true_or, or_true, and_imp, hm.c0, hm.c1, hm.c2, hm.c3, hm.c4, hm.c5, hm.c6, hm.c7, hm.c8, hm.c9, hm.c10, hm.c11, hm.c12, hm.c13, hm.c14, hm.c15, hm.c16, hm.c17, hm.c18, hm.c19, hm.c20, hm.c21, hm.c22, hm.c23, hm.c24, hm.c25, hm.c26, hm.c27, hm.c28, hm.c29, hm.c30, hm.c31, hm.c32, hm.c33, hm.c34, hm.c35, hm.c36, hm.c37, hm.c38, hm.c39, hm.c40, hm.c41, hm.c42, hm.c43, hm.c44, hm.c45, hm.c46, hm.c47, hm.c48, hm.c49, hm.c50, hm.c51, hm.c52, hm.c53, hm.c54, hm.c55, hm.c56, hm.c57, hm.c58, hm.c59, hm.c60, hm.c61, hm.c62, hm.c63, hm.c64, hm.c65, hm.c66, hm.c67, hm.c68, hm.c69, hm.c70, hm.c71, hm.c72, hm.c73, hm.c74, hm.c75, hm.c76, hm.c77, aT, inR]
    rw [b_146_310, brf (by omega), b_146_317, ad_some, q3, r3]
    simp (disch := first | assumption | omega) only [kont_v, kont_n, kont_x, Nat.reduceAdd, ad_some, kd_some, ixa, and_true, true_and, and_self, eq_self, ne_eq, brT, brF, true_or, or_true, and_imp, hm.c0, hm.c1, hm.c2, hm.c3, hm.c4, hm.c5, hm.c6, hm.c7, hm.c8, hm.c9, hm.c10, hm.c11, hm.c12, hm.c13, hm.c14, hm.c15, hm.c16, hm.c17, hm.c18, hm.c19, hm.c20, hm.c21, hm.c22, hm.c23, hm.c24, hm.c25, hm.c26, hm.c27, hm.c28, hm.c29, hm.c30, hm.c31, hm.c32, hm.c33, hm.c34, hm.c35, hm.c36, hm.c37, hm.c38, hm.c39, hm.c40, hm.c41, hm.c42, hm.c43, hm.c44, hm.c45, hm.c46, hm.c47, hm.c48, hm.c49, hm.c50, hm.c51, hm.c52, hm.c53, hm.c54, hm.c55, hm.c56, hm.c57, hm.c58, hm.c59, hm.c60, hm.c61, hm.c62, hm.c63, hm.c64, hm.c65, hm.c66, hm.c67, hm.c68, hm.c69, hm.c70, hm.c71, hm.c72, hm.c73, hm.c74, hm.c75, hm.c76, hm.c77, aT, inR]
    rfl
  · show WP 146 310 _ _ _ _ = _
    rw [b_146_310, brt (by omega), b_146_339]
end
