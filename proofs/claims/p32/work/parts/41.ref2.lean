/-! THE REFERENCE, counting -/
theorem brp {c d A B : Prop} : br c (br d A B) B = br (c ∧ d) A B := by
  by_cases k : c
  · rw [brt k]; exact br_cg ⟨fun z => ⟨k, z⟩, fun z => z.2⟩ rfl rfl
  · rw [brf k, brf (fun z => k z.1)]
theorem brq {c d A B : Prop} : br c A (br d A B) = br (c ∨ d) A B := by
  by_cases k : c
  · rw [brt k, brt (.inl k)]
  · rw [brf k]; exact br_cg ⟨.inr, fun z => z.elim (fun z => absurd z k) id⟩ rfl rfl
theorem brn {c d A B : Prop} : br c B (br d A B) = br (¬ c ∧ d) A B := by
  by_cases k : c
  · rw [brt k, brf (fun z => z.1 k)]
  · rw [brf k]; exact br_cg ⟨fun z => ⟨k, z⟩, fun z => z.2⟩ rfl rfl
theorem brm {c d A B : Prop} : br c (br d A B) A = br (¬ c ∨ d) A B := by
  by_cases k : c
  · rw [brt k]; exact br_cg ⟨.inr, fun z => z.elim (fun z => absurd k z) id⟩ rfl rfl
  · rw [brf k, brt (.inl k)]
theorem bre {c d e A B : Prop} : br c (br d A B) (br e A B) = br ((c ∧ d) ∨ (¬ c ∧ e)) A B := by
  by_cases k : c
  · rw [brt k]; exact br_cg ⟨fun z => .inl ⟨k, z⟩, fun z => z.elim (fun z => z.2) (fun z => absurd k z.1)⟩ rfl rfl
  · rw [brf k]; exact br_cg ⟨fun z => .inr ⟨k, z⟩, fun z => z.elim (fun z => absurd z.1 k) (fun z => z.2)⟩ rfl rfl
theorem br_sw {c d A B : Prop} (k : c ↔ ¬ d) : br c B A = br d A B := by
  by_cases q : d
  · rw [brt q, brf (fun z => k.mp z q)]
  · rw [brf q, brt (k.mpr q)]
theorem cn_skip {p : Int → Prop} (m : Nat) (i : Int) (n : Nat) (e : ∀ j, i ≤ j → j < i + m → ¬ p j) : cn p (m + n) i = cn p n (i + m) := by
  induction m generalizing i with
  | zero => rw [Nat.zero_add]; congr 1; omega
  | succ m ih =>
    have e1 : m + 1 + n = (m + n) + 1 := by omega
    rw [e1]
    show b2i (p i) + cn p (m + n) (i + 1) = _
    rw [b2i_f (e i (by omega) (by omega)), ih (i + 1) (fun j h1 h2 => e j (by omega) (by omega)), Int.zero_add]
    congr 1
    omega
section
variable {a : Na} {S : St} {h : Zh} {Q : Zp}
end
