/-! THE REFERENCE: where a quote stands -/
/-- the best of the places below n -/
def isB (S : St) (k n r : Int) : Prop := (r = -1 ∧ ∀ p, AT S p k → n ≤ p) ∨ (AT S r k ∧ r < n ∧ ∀ p, AT S p k → p < n → (r - S 13 k 0).natAbs < (p - S 13 k 0).natAbs ∨ ((r - S 13 k 0).natAbs = (p - S 13 k 0).natAbs ∧ r ≤ p))
theorem fdL_eq (S : St) (k : Int) (m : Nat) (d : Int) : fdL S k (m + 1) d = @ite Int (AT S (S 13 k 0 - d) k) (Classical.propDecidable _) (S 13 k 0 - d) (@ite Int (AT S (S 13 k 0 + d) k) (Classical.propDecidable _) (S 13 k 0 + d) (fdL S k m (d + 1))) := rfl
theorem fdL_sp {S : St} {k : Int} (m : Nat) : ∀ d : Int, m = (201 - d).toNat → 0 ≤ d → (∀ p, AT S p k → d ≤ (p - S 13 k 0).natAbs ∧ (p - S 13 k 0).natAbs ≤ 200) →
    (fdL S k m d = -1 ∧ ∀ p, ¬ AT S p k) ∨ (AT S (fdL S k m d) k ∧ ∀ p, AT S p k → (fdL S k m d - S 13 k 0).natAbs < (p - S 13 k 0).natAbs ∨ ((fdL S k m d - S 13 k 0).natAbs = (p - S 13 k 0).natAbs ∧ fdL S k m d ≤ p)) := by
  induction m with
  | zero =>
    intro d e1 e2 e3
    exact .inl ⟨rfl, fun p hp => by have := e3 p hp; omega⟩
  | succ m ih =>
    intro d e1 e2 e3
    rw [fdL_eq]
    by_cases c1 : AT S (S 13 k 0 - d) k
    · rw [if_pos c1]
      exact .inr ⟨c1, fun p hp => by have := e3 p hp; omega⟩
    · rw [if_neg c1]
      by_cases c2 : AT S (S 13 k 0 + d) k
      · rw [if_pos c2]
        refine .inr ⟨c2, fun p hp => ?_⟩
        have h1 := e3 p hp
        by_cases c3 : p = S 13 k 0 - d
        · exact absurd (c3 ▸ hp) c1
        · omega
      · rw [if_neg c2]
        refine ih (d + 1) (by omega) (by omega) (fun p hp => ?_)
        have h1 := e3 p hp
        by_cases c3 : p = S 13 k 0 - d
        · exact absurd (c3 ▸ hp) c1
        · by_cases c4 : p = S 13 k 0 + d
          · exact absurd (c4 ▸ hp) c2
          · omega
theorem iv_at {S : St} (iv : Inv S) {k p : Int} (hh : hd S k) (h : AT S p k) : 0 ≤ p ∧ p + S 19 k 0 ≤ 200 ∧ (p - S 13 k 0).natAbs ≤ 200 := by
  obtain ⟨u0, u1⟩ := iv.2.1.1
  obtain ⟨u2, u3⟩ := iv.2.1.2.1 (S 2 0 0) u0 (Int.le_refl _)
  obtain ⟨f1, -, -, -, -, g1, -⟩ := iv.2.2.1.2.2.2.1 k hh
  have := h.1
  omega
theorem isB_u {S : St} (iv : Inv S) {k n r : Int} (hh : hd S k) (hn : S 3 (S 2 0 0) 0 < n + S 19 k 0) (hb : isB S k n r) : r = FD S k := by
  have q := fdL_sp (S := S) (k := k) 201 0 rfl (Int.le_refl 0) (fun p hp => ⟨by omega, (iv_at iv hh hp).2.2⟩)
  have hl : ∀ p, AT S p k → p < n := fun p hp => by have := hp.1; omega
  show r = fdL S k 201 0
  rcases hb with ⟨b1, b2⟩ | ⟨b1, b2, b3⟩
  · rcases q with ⟨q1, q2⟩ | ⟨q1, q2⟩
    · rw [b1, q1]
    · have := b2 _ q1; have := hl _ q1; omega
  · rcases q with ⟨q1, q2⟩ | ⟨q1, q2⟩
    · exact absurd b1 (q2 r)
    · have h1 := b3 _ q1 (hl _ q1)
      have h2 := q2 r b1
      omega
section
variable {a : Na} {S : St} {h : Zh} {Q : Zp}
end
