/-! THE REFERENCE: where a quote stands -/
/-- the best of the places below n -/
def isB (S : St) (k n r : Int) : Prop := (r = -1 ∧ ∀ p, AT S p k → n ≤ p) ∨ (AT S r k ∧ r < n ∧ ∀ p, AT S p k → p < n → (r - S 13 k 0).natAbs < (p - S 13 k 0).natAbs ∨ ((r - S 13 k 0).natAbs = (p - S 13 k 0).natAbs ∧ r ≤ p))
theorem fdL_eq (S : St) (k : Int) (m : Nat) (d : Int) : fdL S k (m + 1) d = @ite Int (AT S (S 13 k 0 - d) k) (Classical.propDecidable _) (S 13 k 0 - d) (@ite Int (AT S (S 13 k 0 + d) k) (Classical.propDecidable _) (S 13 k 0 + d) (fdL S k m (d + 1))) := rfl
theorem fdL_sp {S : St} {k : Int} (m : Nat) : ∀ d : Int, m = (201 - d).toNat → 0 ≤ d → (∀ p, AT S p k → d ≤ (p - S 13 k 0).natAbs ∧ (p - S 13 k 0).natAbs ≤ 200) →
    (fdL S k m d = -1 ∧ ∀ p, ¬ AT S p k) ∨ (AT S (fdL S k m d) k ∧ ∀ p, AT S p k → (fdL S k m d - S 13 k 0).natAbs < (p - S 13 k 0).natAbs ∨ ((fdL S k m d - S 13 k 0).natAbs = (p - S 13 k 0).natAbs ∧ fdL S k m d ≤ p)) := by
  induction m with
  | zero =>
    intro d e1 e2 e3
    exact .inl ⟨rfl, fun p hp => by have := e3 p hp; omega⟩
  | succ m ih =>
    intro d e1 e2 e3
    rw [fdL_eq]
    by_cases c1 : AT S (S 13 k 0 - d) k
    · rw [if_pos c1]
      exact .inr ⟨c1, fun p hp => by have := e3 p hp; omega⟩
    · rw [if_neg c1]
      by_cases c2 : AT S (S 13 k 0 + d) k
      · rw [if_pos c2]
        refine .inr ⟨c2, fun p hp => ?_⟩
        have h1 := e3 p hp
        by_cases c3 : p = S 13 k 0 - d
        · exact absurd (c3 ▸ hp) c1
        · omega
      · rw [if_neg c2]
        refine ih (d + 1) (by omega) (by omega) (fun p hp => ?_)
        have h1 := e3 p hp
        by_cases c3 : p = S 13 k 0 - d
        · exact absurd (c3 ▸ hp) c1
        · by_cases c4 : p = S 13 k 0 + d
          · exact absurd (c4 ▸ hp) c2
          · omega
theorem iv_at {S : St} (iv : Inv S) {k p : Int} (hh : hd S k) (h : AT S p k) : 0 ≤ p ∧ p + S 19 k 0 ≤ 200 ∧ (p - S 13 k 0).natAbs ≤ 200 := by
  obtain ⟨u0, u1⟩ := iv.2.1.1
  obtain ⟨u2, u3⟩ := iv.2.1.2.1 (S 2 0 0) u0 (Int.le_refl _)
  obtain ⟨f1, -, -, -, -, g1, -⟩ := iv.2.2.1.2.2.2.1 k hh
  have := h.1
  omega
theorem isB_u {S : St} (iv : Inv S) {k n r : Int} (hh : hd S k) (hn : S 3 (S 2 0 0) 0 < n + S 19 k 0) (hb : isB S k n r) : r = FD S k := by
  have q := fdL_sp (S := S) (k := k) 201 0 rfl (Int.le_refl 0) (fun p hp => ⟨by omega, (iv_at iv hh hp).2.2⟩)
  have hl : ∀ p, AT S p k → p < n := fun p hp => by have := hp.1; omega
  show r = fdL S k 201 0
  rcases hb with ⟨b1, b2⟩ | ⟨b1, b2, b3⟩
  · rcases q with ⟨q1, q2⟩ | ⟨q1, q2⟩
    · rw [b1, q1]
    · have := b2 _ q1; have := hl _ q1; omega
  · rcases q with ⟨q1, q2⟩ | ⟨q1, q2⟩
    · exact absurd b1 (q2 r)
    · have h1 := b3 _ q1 (hl _ q1)
      have h2 := q2 r b1
      omega
section
variable {a : Na} {S : St} {h : Zh} {Q : Zp}
theorem m_fdI (hm : RepM a S h) (iv : Inv S) (k : Int) (hh : hd S k) (b p : Int) (kp : 0 ≤ p ∧ p + S 19 k 0 ≤ S 3 (S 2 0 0) 0) (m : Nat) : ∀ (i s : Int), m = (S 19 k 0 - i).toNat → 0 ≤ i → i ≤ S 19 k 0 → (s = 0 ∨ s = 1) →
    WP 119 27 [some (zr (some (a 100 0))), some (zi k), some (zi b), some (zi p), some (zi s), some (zi i)] [] h Q = WP 119 81 [some (zr (some (a 100 0))), some (zi k), some (zi b), some (zi p), some (zi (b2i (s = 1 ∧ ∀ j, i ≤ j → j < S 19 k 0 → S 5 (S 4 (S 2 0 0) (p + j)) 0 = S 20 k j))), some (zi (S 19 k 0))] [] h Q := by
  obtain ⟨n0, n1⟩ := iv.2.2.1.1
  obtain ⟨u0, u1⟩ := iv.2.1.1
  obtain ⟨u2, u3⟩ := iv.2.1.2.1 (S 2 0 0) u0 (Int.le_refl _)
  have u4 := Int.le_refl (S 2 0 0)
  obtain ⟨v4, v5⟩ := iv.2.1.2.2.1
  have v6 := hm.c26
  obtain ⟨f1, -, -, -, -, g1, -⟩ := iv.2.2.1.2.2.2.1 k hh
  have k1 := hh.1.1
  have k2 := hh.1.2
  have cg : ∀ x y : Int, x = y → WP 119 81 [some (zr (some (a 100 0))), some (zi k), some (zi b), some (zi p), some (zi x), some (zi (S 19 k 0))] [] h Q = WP 119 81 [some (zr (some (a 100 0))), some (zi k), some (zi b), some (zi p), some (zi y), some (zi (S 19 k 0))] [] h Q := fun x y e => by rw [e]
  induction m with
  | zero =>
    intro i s e1 e2 e3 e4
    have e : i = S 19 k 0 := by omega
    rw [b_119_27]
    simp (disch := first | assumption | omega) only [kont_v, kont_n, kont_x, Nat.reduceAdd, ad_some, kd_some, ixa, and_true, true_and, and_self, eq_self, ne_eq, brT, brF, true_or, or_true, and_imp, hm.c0, hm.c1, hm.c2, hm.c3, hm.c4, hm.c5, hm.c6, hm.c7, hm.c8, hm.c9, hm.c10, hm.c11, hm.c12, hm.c13, hm.c14, hm.c15, hm.c16, hm.c17, hm.c18, hm.c19, hm.c20, hm.c21, hm.c22, hm.c23, hm.c24, hm.c25, hm.c26, hm.c27, hm.c28, hm.c29, hm.c30, hm.c31, hm.c32, hm.c33, hm.c34, hm.c35, hm.c36, hm.c37, hm.c38, hm.c39, hm.c40, hm.c41, hm.c42, hm.c43, hm.c44, hm.c45, hm.c46, hm.c47, hm.c48, hm.c49, hm.c50, hm.c51, hm.c52, hm.c53, hm.c54, hm.c55, hm.c56, hm.c57, hm.c58, hm.c59, hm.c60, hm.c61, hm.c62, hm.c63, hm.c64, hm.c65, hm.c66, hm.c67, hm.c68, hm.c69, hm.c70, hm.c71, hm.c72, hm.c73, hm.c74, hm.c75, hm.c76, hm.c77, aT, inR, brt, e]
    refine cg _ _ ?_
    rcases e4 with e4 | e4
    · rw [b2i_f (fun z => by have := z.1; omega), e4]
    · rw [b2i_t ⟨e4, fun j h1 h2 => by omega⟩, e4]
  | succ m ih =>
    intro i s e1 e2 e3 e4
    obtain ⟨w1, w2⟩ := iv.2.1.2.2.2.1 (S 2 0 0) (p + i) u0 u4 (by omega) (by omega)
    rw [b_119_27]
    simp (disch := first | assumption | omega) only [b_119_39, b_119_49, b_119_67, b_119_71, b_119_72, kont_v, kont_n, kont_x, Nat.reduceAdd, ad_some, kd_some, ixa, and_true, true_and, and_self, eq_self, ne_eq, brT, brF, true_or, or_true, and_imp, hm.c0, hm.c1, hm.c2, hm.c3, hm.c4, hm.c5, hm.c6, hm.c7, hm.c8, hm.c9, hm.c10, hm.c11, hm.c12, hm.c13, hm.c14, hm.c15, hm.c16, hm.c17, hm.c18, hm.c19, hm.c20, hm.c21, hm.c22, hm.c23, hm.c24, hm.c25, hm.c26, hm.c27, hm.c28, hm.c29, hm.c30, hm.c31, hm.c32, hm.c33, hm.c34, hm.c35, hm.c36, hm.c37, hm.c38, hm.c39, hm.c40, hm.c41, hm.c42, hm.c43, hm.c44, hm.c45, hm.c46, hm.c47, hm.c48, hm.c49, hm.c50, hm.c51, hm.c52, hm.c53, hm.c54, hm.c55, hm.c56, hm.c57, hm.c58, hm.c59, hm.c60, hm.c61, hm.c62, hm.c63, hm.c64, hm.c65, hm.c66, hm.c67, hm.c68, hm.c69, hm.c70, hm.c71, hm.c72, hm.c73, hm.c74, hm.c75, hm.c76, hm.c77, aT, inR, brf, m_text hm iv]
    have x1 : ¬ ((1 : Int) = 31) := by omega
    have x0 : ¬ ((0 : Int) = 31) := by omega
    by_cases c : S 5 (S 4 (S 2 0 0) (p + i)) 0 = S 20 k i
    · rw [brt c]
      simp only [x1, if_false, Int.mul_one]
      rw [ih (i + 1) s (by omega) (by omega) (by omega) e4]
      refine cg _ _ (b2i_c ⟨fun z => ⟨z.1, fun j h1 h2 => ?_⟩, fun z => ⟨z.1, fun j h1 h2 => z.2 j (by omega) h2⟩⟩)
      by_cases ej : j = i
      · rw [ej]; exact c
      · exact z.2 j (by omega) h2
    · rw [brf c]
      simp only [x0, if_false, Int.mul_zero]
      rw [ih (i + 1) 0 (by omega) (by omega) (by omega) (.inl rfl)]
      exact cg _ _ (b2i_c ⟨fun z => by have := z.1; omega, fun z => absurd (z.2 i (by omega) (by omega)) c⟩)
end
