/-! THE REFERENCE, facts of a note -/
theorem loopD {W : Option Zv → Int → Int → Prop} {R : Int → Prop} {p : Int → Prop} {N : Int} {i0 : Int} (n0 : 0 ≤ i0 ∧ i0 ≤ N)
    (step : ∀ o i acc, i0 ≤ i → i < N → 0 ≤ acc → acc ≤ i → ∃ o', W o acc i = br (p i) (W o' (acc + 1) (i + 1)) (W o' acc (i + 1)))
    (fin : ∀ o acc, 0 ≤ acc → acc ≤ N → W o acc N = R acc) (o : Option Zv) : W o 0 i0 = R (cn p (N - i0).toNat i0) := by
  have key : ∀ (m : Nat) (o : Option Zv) (i acc : Int), m = (N - i).toNat → i0 ≤ i → i ≤ N → 0 ≤ acc → acc ≤ i → W o acc i = R (acc + cn p m i) := by
    intro m
    induction m with
    | zero =>
      intro o i acc e1 e2 e3 e4 e5
      have e : i = N := by omega
      rw [e, fin o acc e4 (by omega)]
      show R acc = R (acc + 0)
      rw [Int.add_zero]
    | succ m ih =>
      intro o i acc e1 e2 e3 e4 e5
      obtain ⟨o', es⟩ := step o i acc e2 (by omega) e4 e5
      rw [es, ih o' (i + 1) (acc + 1) (by omega) (by omega) (by omega) (by omega) (by omega), ih o' (i + 1) acc (by omega) (by omega) (by omega) (by omega) (by omega)]
      show _ = R (acc + (b2i (p i) + cn p m (i + 1)))
      by_cases k : p i
      · rw [brt k, b2i_t k, Int.add_assoc]
      · rw [brf k, b2i_f k, Int.zero_add]
  rw [key (N - i0).toNat o i0 0 rfl (by omega) n0.2 (by omega) (by omega), Int.zero_add]
section
variable {a : Na} {S : St} {h : Zh} {Q : Zp}
theorem iv_rp (iv : Inv S) {k : Int} (hk : nt S k) : RP S k = cn (fun j => S 10 j 0 = k ∧ S 12 j 0 ≠ 2) (S 7 0 0 - (k + 1)).toNat (k + 1) := by
  have k1 := hk.1
  have k2 := hk.2
  unfold RP
  have e : (S 7 0 0).toNat = (k + 1).toNat + (S 7 0 0 - (k + 1)).toNat := by omega
  rw [e, cn_skip]
  · congr 1
    omega
  · intro j h1 h2 h3
    have hj : nt S j := ⟨h1, by omega⟩
    have := iv_par iv hj
    omega
end
