/-! THE REFERENCE: the checksum -/
theorem loopG {T : Type} {W : T → Int64 → Int → Prop} {R : Int64 → Prop} {f : Int64 → Int → Int64} {N : Int} (n0 : 0 ≤ N)
    (step : ∀ o i d, 0 ≤ i → i < N → ∃ o', W o d i = W o' (f d i) (i + 1))
    (fin : ∀ o d, W o d N = R d) (o : T) (d : Int64) : W o d 0 = R (fo f N.toNat 0 d) := by
  have key : ∀ (m : Nat) (o : T) (i : Int) (d : Int64), m = (N - i).toNat → 0 ≤ i → i ≤ N → W o d i = R (fo f m i d) := by
    intro m
    induction m with
    | zero =>
      intro o i d e1 e2 e3
      have e : i = N := by omega
      rw [e, fin o d]
      rfl
    | succ m ih =>
      intro o i d e1 e2 e3
      obtain ⟨o', es⟩ := step o i d e2 (by omega)
      rw [es, ih o' (i + 1) (f d i) (by omega) (by omega) (by omega)]
      rfl
  exact key N.toNat o 0 d (by omega) (by omega) n0
section
variable {a : Na} {S : St} {h : Zh} {Q : Zp}
end
