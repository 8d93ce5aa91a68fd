/-! SMALL CHANGES KEEP THE INVARIANT (pure) -/
section
variable {S T : St}
/-- keys of heads alone -/
theorem inv_hk (iv : Inv S) (h : ∀ (q : Nat) x y, q ≠ 13 ∧ q ≠ 14 ∧ q ≠ 16 ∧ q ≠ 17 ∧ q ≠ 18 → T q x y = S q x y) (h17 : ∀ k, ¬ nt S k → T 17 k 0 = S 17 k 0 ∧ T 18 k 0 = S 18 k 0)
    (hh : ∀ k, hd S k → (0 ≤ T 13 k 0 ∧ T 13 k 0 ≤ T 14 k 0 ∧ T 14 k 0 ≤ S 3 (S 2 0 0) 0) ∧ (-1 ≤ T 16 k 0 ∧ T 16 k 0 ≤ 40) ∧ (0 ≤ T 17 k 0 ∧ T 17 k 0 ≤ 25) ∧ (T 18 k 0 = 0 ∨ T 18 k 0 = 1)) : Inv T := by
  have e0 := h 0 0 0 (by omega)
  have e1 := fun u => h 1 u 0 (by omega)
  have e2 := h 2 0 0 (by omega)
  have e3 := fun u => h 3 u 0 (by omega)
  have e4 := fun u v => h 4 u v (by omega)
  have e5 := fun u => h 5 u 0 (by omega)
  have e6 := h 6 0 0 (by omega)
  have e7 := h 7 0 0 (by omega)
  have e8 := fun k => h 8 k 0 (by omega)
  have e9 := fun k => h 9 k 0 (by omega)
  have e10 := fun k => h 10 k 0 (by omega)
  have e11 := fun k => h 11 k 0 (by omega)
  have e12 := fun k => h 12 k 0 (by omega)
  have e15 := fun k => h 15 k 0 (by omega)
  have e19 := fun k => h 19 k 0 (by omega)
  have e20 := fun k i => h 20 k i (by omega)
  have e21 := h 21 0 0 (by omega)
  have e23 := fun k => h 23 k 0 (by omega)
  have eh : ∀ k, hd T k ↔ hd S k := fun k => by unfold hd nt; rw [e7, e11]
  refine ⟨?_, ?_, ⟨?_, ?_, ?_, ?_, ?_⟩, ?_⟩
  · have := iv.1
    unfold InvU at this ⊢
    simp only [e0, e1]
    exact this
  · have := iv.2.1
    unfold InvT at this ⊢
    simp only [e2, e3, e4, e5, e6]
    exact this
  · rw [e7]; exact iv.2.2.1.1
  · intro k hk
    have hk2 : nt S k := by unfold nt at hk ⊢; rw [e7] at hk; exact hk
    have z := iv.2.2.1.2.1 k hk2
    unfold InvK at z ⊢
    rw [eh]
    simp only [e0, e8, e9, e10, e11, e12, e23]
    exact z
  · intro k h1 h2
    rw [e7] at h1
    have := h17 k (fun z => by have := z.2; omega)
    rw [e12, this.1, this.2]
    exact iv.2.2.1.2.2.1 k h1 h2
  · intro k hk
    rw [eh] at hk
    have z := iv.2.2.1.2.2.2.1 k hk
    obtain ⟨y1, y2, y3, y4⟩ := hh k hk
    unfold InvH at z ⊢
    simp only [e15, e19, e20, e2, e3]
    exact ⟨y1, z.2.1, y2, y3, y4, z.2.2.2.2.2⟩
  · intro k j hk hj
    rw [e10, e12, e12]
    unfold nt at hk hj
    rw [e7] at hk hj
    exact iv.2.2.1.2.2.2.2 k j hk hj
  · unfold InvE
    rw [e21]
    exact iv.2.2.2
theorem inv_lay (iv : Inv S) {k x y : Int} (b : 0 ≤ x ∧ x ≤ y ∧ y ≤ S 3 (S 2 0 0) 0) : Inv (su (su S 13 k 0 x) 14 k 0 y) := by
  refine inv_hk iv (fun q i j h => by rw [su_k (by omega), su_k (by omega)]) (fun k _ => ⟨rfl, rfl⟩) (fun j hj => ?_)
  obtain ⟨z1, z2, z3, z4, z5, -⟩ := iv.2.2.1.2.2.2.1 j hj
  refine ⟨?_, z3, z4, z5⟩
  rw [su_k (by omega), su_i, su_i, su_k (by omega)]
  by_cases c : j = k
  · rw [if_pos ⟨c, rfl⟩, if_pos ⟨c, rfl⟩]; exact b
  · rw [if_neg (fun z => c z.1), if_neg (fun z => c z.1)]; exact z1
theorem inv_settle (iv : Inv S) {k x : Int} (hk : nt S k) (hx : x = 0 ∨ x = 1) : Inv (su S 18 k 0 x) := by
  refine inv_hk iv (fun q i j h => su_k (by omega)) (fun j hj => ⟨rfl, ?_⟩) (fun j hj => ?_)
  · have n : ¬ (j = k ∧ (0 : Int) = 0) := fun z => hj (z.1 ▸ hk)
    rw [su_i, if_neg n]
  · obtain ⟨z1, z2, z3, z4, z5, -⟩ := iv.2.2.1.2.2.2.1 j hj
    refine ⟨z1, z3, z4, ?_⟩
    rw [su_i]
    split
    · exact hx
    · exact z5
theorem inv_many (iv : Inv S) {k x : Int} (hx : -1 ≤ x ∧ x ≤ 40) : Inv (su S 16 k 0 x) := by
  refine inv_hk iv (fun q i j h => su_k (by omega)) (fun j hj => ⟨rfl, rfl⟩) (fun j hj => ?_)
  obtain ⟨z1, z2, z3, z4, z5, -⟩ := iv.2.2.1.2.2.2.1 j hj
  refine ⟨z1, ?_, z4, z5⟩
  rw [su_i]
  split
  · exact hx
  · exact z3
theorem inv_first (iv : Inv S) {k x : Int} (hk : nt S k) (hx : 0 ≤ x ∧ x ≤ 25) : Inv (su S 17 k 0 x) := by
  refine inv_hk iv (fun q i j h => su_k (by omega)) (fun j hj => ⟨?_, rfl⟩) (fun j hj => ?_)
  · have n : ¬ (j = k ∧ (0 : Int) = 0) := fun z => hj (z.1 ▸ hk)
    rw [su_i, if_neg n]
  · obtain ⟨z1, z2, z3, z4, z5, -⟩ := iv.2.2.1.2.2.2.1 j hj
    refine ⟨z1, z3, ?_, z5⟩
    rw [su_i]
    split
    · exact hx
    · exact z4
theorem inv_user (iv : Inv S) {x : Int} (hx : 0 ≤ x ∧ x ≤ 4) (h6 : S 0 0 0 < 6) : Inv (Suser S x) := by
  unfold Suser
  refine ⟨⟨?_, fun u => ?_⟩, iv.2.1, ?_, iv.2.2.2⟩
  · show 0 ≤ su _ 0 0 0 _ 0 0 0 ∧ _
    rw [su_i, if_pos ⟨rfl, rfl⟩]
    have := iv.1.1
    omega
  · rw [su_k (by omega), su_i]
    split
    · exact hx
    · exact iv.1.2 u
  · obtain ⟨a1, a2, a3, a4, a5⟩ := iv.2.2.1
    refine ⟨a1, fun k hk => ?_, a3, a4, a5⟩
    obtain ⟨b1, b2⟩ := a2 k hk
    refine ⟨?_, b2⟩
    show 0 ≤ S 8 k 0 ∧ S 8 k 0 < su _ 0 0 0 _ 0 0 0
    rw [su_i, if_pos ⟨rfl, rfl⟩]
    omega
theorem inv_right (iv : Inv S) {u x : Int} (hx : 0 ≤ x ∧ x ≤ 4) : Inv (su S 1 u 0 x) := by
  refine ⟨⟨iv.1.1, fun v => ?_⟩, iv.2.1, iv.2.2.1, iv.2.2.2⟩
  rw [su_i]
  split
  · exact hx
  · exact iv.1.2 v
/-- one note's state -/
theorem inv_st (iv : Inv S) {t x : Int} (ht : nt S t) (hx : x = 0 ∨ x = 1 ∨ x = 2) (hg : S 12 t 0 ≠ 2) (hc : x = 2 → ∀ j, nt S j → S 10 j 0 = t → S 12 j 0 = 2) : Inv (su S 12 t 0 x) := by
  obtain ⟨a1, a2, a3, a4, a5⟩ := iv.2.2.1
  refine ⟨iv.1, iv.2.1, ⟨a1, fun k hk => ?_, fun k h1 h2 => ?_, a4, fun k j hk hj e h => ?_⟩, iv.2.2.2⟩
  · obtain ⟨b1, b2, b3, b4, b5⟩ := a2 k hk
    refine ⟨b1, b2, b3, ?_, b5⟩
    rw [su_i]
    split
    · exact hx
    · exact b4
  · have h1 : S 7 0 0 ≤ k := h1
    rw [su_i, if_neg (fun z => by have := ht.2; omega)]
    exact a3 k h1 h2
  · have hk : nt S k := hk
    have hj : nt S j := hj
    have e : S 10 j 0 = k := e
    rw [su_i] at h ⊢
    by_cases c : k = t
    · rw [if_pos ⟨c, rfl⟩] at h
      by_cases d : j = t
      · rw [if_pos ⟨d, rfl⟩]; exact h
      · rw [if_neg (fun z => d z.1)]
        exact hc h j hj (e.trans c)
    · rw [if_neg (fun z => c z.1)] at h
      have := a5 k j hk hj e h
      by_cases d : j = t
      · rw [d] at this; exact absurd this hg
      · rw [if_neg (fun z => d z.1)]; exact this
end
