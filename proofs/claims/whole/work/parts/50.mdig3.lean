/-! THE REFERENCE: the checksum -/
section
variable {a : Na} {S : St} {h : Zh} {Q : Zp}
theorem m_dText (hm : RepM a S h) (iv : Inv S) : WP 146 5 [some (zr (some (a 100 0))), none, none, none, none, none, none] [] h Q = Q (.inl (some (zl (DG S)))) h := by
  obtain ⟨u0, u1⟩ := iv.2.1.1
  obtain ⟨u2, u3⟩ := iv.2.1.2.1 (S 2 0 0) u0 (Int.le_refl _)
  have u4 := Int.le_refl (S 2 0 0)
  obtain ⟨v4, v5⟩ := iv.2.1.2.2.1
  have v6 := hm.c26
  rw [b_146_5]
  refine Eq.trans (loopG (T := Unit) (W := fun _ d i => WP 146 11 [some (zr (some (a 100 0))), some (zl d), none, some (zi i), none, none, none] [] h Q) (R := fun d => WP 146 11 [some (zr (some (a 100 0))), some (zl d), none, some (zi 5), none, none, none] [] h Q) (f := fun d w => d * 31 + Int64.ofInt (MN S w)) (N := 5) (by omega) (fun o i d e1 e2 => ⟨(), ?_⟩) (fun o d => rfl) () 58083) ?_
  · show WP 146 11 _ _ _ _ = _
    rw [b_146_11, brf (by omega)]
    simp (disch := first | assumption | omega) only [b_146_16, b_146_26, kont_v, kont_n, kont_x, Nat.reduceAdd, ad_some, kd_some, ixa, and_true, true_and, and_self, eq_self, ne_eq, brT, brF, true_or, or_true, and_imp, hm.c0, hm.c1, hm.c2, hm.c3, hm.c4, hm.c5, hm.c6, hm.c7, hm.c8, hm.c9, hm.c10, hm.c11, hm.c12, hm.c13, hm.c14, hm.c15, hm.c16, hm.c17, hm.c18, hm.c19, hm.c20, hm.c21, hm.c22, hm.c23, hm.c24, hm.c25, hm.c26, hm.c27, hm.c28, hm.c29, hm.c30, hm.c31, hm.c32, hm.c33, hm.c34, hm.c35, hm.c36, hm.c37, hm.c38, hm.c39, hm.c40, hm.c41, hm.c42, hm.c43, hm.c44, hm.c45, hm.c46, hm.c47, hm.c48, hm.c49, hm.c50, hm.c51, hm.c52, hm.c53, hm.c54, hm.c55, hm.c56, hm.c57, hm.c58, hm.c59, hm.c60, hm.c61, hm.c62, hm.c63, hm.c64, hm.c65, hm.c66, hm.c67, hm.c68, hm.c69, hm.c70, hm.c71, hm.c72, hm.c73, hm.c74, hm.c75, hm.c76, hm.c77, aT, inR, m_manyNow hm iv i ⟨e1, by omega⟩]
  · show WP 146 11 _ _ _ _ = _
    rw [b_146_11, brt (by omega)]
    simp (disch := first | assumption | omega) only [b_146_35, b_146_44, b_146_62, kont_v, kont_n, kont_x, Nat.reduceAdd, ad_some, kd_some, ixa, and_true, true_and, and_self, eq_self, ne_eq, brT, brF, true_or, or_true, and_imp, hm.c0, hm.c1, hm.c2, hm.c3, hm.c4, hm.c5, hm.c6, hm.c7, hm.c8, hm.c9, hm.c10, hm.c11, hm.c12, hm.c13, hm.c14, hm.c15, hm.c16, hm.c17, hm.c18, hm.c19, hm.c20, hm.c21, hm.c22, hm.c23, hm.c24, hm.c25, hm.c26, hm.c27, hm.c28, hm.c29, hm.c30, hm.c31, hm.c32, hm.c33, hm.c34, hm.c35, hm.c36, hm.c37, hm.c38, hm.c39, hm.c40, hm.c41, hm.c42, hm.c43, hm.c44, hm.c45, hm.c46, hm.c47, hm.c48, hm.c49, hm.c50, hm.c51, hm.c52, hm.c53, hm.c54, hm.c55, hm.c56, hm.c57, hm.c58, hm.c59, hm.c60, hm.c61, hm.c62, hm.c63, hm.c64, hm.c65, hm.c66, hm.c67, hm.c68, hm.c69, hm.c70, hm.c71, hm.c72, hm.c73, hm.c74, hm.c75, hm.c76, hm.c77, aT, inR, m_text hm iv]
    refine loopG (T := Option Zv) (W := fun o d i => WP 146 70 [some (zr (some (a 100 0))), some (zl d), none, some (zr (some (a 150 (S 2 0 0)))), some (zi (S 3 (S 2 0 0) 0)), some (zi i), o] [] h Q) (R := fun d => Q (.inl (some (zl (DE S (fo (fun d k => if S 12 k 0 = 2 then d else DN S d k) (S 7 0 0).toNat 0 (fo (DU S) (S 0 0 0).toNat 0 d)))))) h) (N := S 3 (S 2 0 0) 0) u2 (fun o i d e1 e2 => ⟨some (zi (S 4 (S 2 0 0) i)), ?_⟩) (fun o d => ?_) none _
    · obtain ⟨w1, w2⟩ := iv.2.1.2.2.2.1 (S 2 0 0) i u0 u4 e1 e2
      show WP 146 70 _ _ _ _ = _
      rw [b_146_70, brf (by omega)]
      simp (disch := first | assumption | omega) only [b_146_77, kont_v, kont_n, kont_x, Nat.reduceAdd, ad_some, kd_some, ixa, and_true, true_and, and_self, eq_self, ne_eq, brT, brF, true_or, or_true, and_imp, hm.c0, hm.c1, hm.c2, hm.c3, hm.c4, hm.c5, hm.c6, hm.c7, hm.c8, hm.c9, hm.c10, hm.c11, hm.c12, hm.c13, hm.c14, hm.c15, hm.c16, hm.c17, hm.c18, hm.c19, hm.c20, hm.c21, hm.c22, hm.c23, hm.c24, hm.c25, hm.c26, hm.c27, hm.c28, hm.c29, hm.c30, hm.c31, hm.c32, hm.c33, hm.c34, hm.c35, hm.c36, hm.c37, hm.c38, hm.c39, hm.c40, hm.c41, hm.c42, hm.c43, hm.c44, hm.c45, hm.c46, hm.c47, hm.c48, hm.c49, hm.c50, hm.c51, hm.c52, hm.c53, hm.c54, hm.c55, hm.c56, hm.c57, hm.c58, hm.c59, hm.c60, hm.c61, hm.c62, hm.c63, hm.c64, hm.c65, hm.c66, hm.c67, hm.c68, hm.c69, hm.c70, hm.c71, hm.c72, hm.c73, hm.c74, hm.c75, hm.c76, hm.c77, aT, inR]
    · show WP 146 70 _ _ _ _ = _
      rw [b_146_70, brt (by omega), b_146_104, m_dUsers hm iv]
theorem m_digest (hi : Ij a) (hm : RepM a S h) (iv : Inv S) : WP 146 0 [some (zr (some (a 100 0))), none, none, none, none, none, none] [] h Q = Q (.inl (some (zl (DG S)))) (tw a h 0) := by
  rw [b_146_0, ad_some, kd_some, aT (hm.c0), ← tw]
  exact m_dText (hm.tw hi 0) iv
end
