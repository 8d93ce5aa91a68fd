/-! AN EDIT KEEPS THE INVARIANT (pure) -/
section
variable {S T : St}
theorem TX_2 (S : St) (p c n s : Int) : TX S p c n s 2 0 0 = S 2 0 0 + 1 := by unfold TX TV; rw [if_pos ⟨rfl, rfl, rfl⟩]; rfl
theorem TX_3 (S : St) (p c n s v : Int) : TX S p c n s 3 v 0 = if v = S 2 0 0 + 1 then S 3 (S 2 0 0) 0 - c + n else S 3 v 0 := by
  unfold TX TV
  rw [if_neg (by omega)]
  by_cases e : v = S 2 0 0 + 1
  · rw [if_pos ⟨rfl, e, rfl⟩, if_pos e]
  · rw [if_neg (fun z => e z.2.1), if_neg (by omega), if_neg e]; rfl
theorem TX_4 (S : St) (p c n s v j : Int) : TX S p c n s 4 v j = if v = S 2 0 0 + 1 then (if j < p then S 4 (S 2 0 0) j else if j < p + n then S 6 0 0 + (j - p) else S 4 (S 2 0 0) (j - n + c)) else S 4 v j := by
  unfold TX TV
  rw [if_neg (by omega), if_neg (by omega)]
  by_cases e : v = S 2 0 0 + 1
  · rw [if_pos ⟨rfl, e⟩, if_pos e]
  · rw [if_neg (fun z => e z.2), if_neg e]; rfl
theorem TX_5 (S : St) (p c n s x : Int) : TX S p c n s 5 x 0 = if S 6 0 0 ≤ x ∧ x < S 6 0 0 + n then (s + (x - S 6 0 0)) % 26 else S 5 x 0 := by
  unfold TX TV
  rw [if_neg (by omega), if_neg (by omega), if_neg (by omega)]
  unfold SN
  by_cases e : S 6 0 0 ≤ x ∧ x < S 6 0 0 + n
  · rw [if_pos ⟨rfl, e.1, e.2, rfl⟩, if_pos e]
  · rw [if_neg (fun z => e ⟨z.2.1, z.2.2.1⟩), if_neg (by omega), if_neg e]
theorem TX_6 (S : St) (p c n s : Int) : TX S p c n s 6 0 0 = S 6 0 0 + n := by
  unfold TX TV
  rw [if_neg (by omega), if_neg (by omega), if_neg (by omega)]
  unfold SN
  rw [if_neg (by omega), if_pos ⟨rfl, rfl, rfl⟩]
theorem TX_o (S : St) (p c n s : Int) (k : Nat) (i j : Int) (h : k ≠ 2 ∧ k ≠ 3 ∧ k ≠ 4 ∧ k ≠ 5 ∧ k ≠ 6) : TX S p c n s k i j = S k i j := by
  unfold TX TV
  rw [if_neg (by omega), if_neg (by omega), if_neg (by omega)]
  unfold SN
  rw [if_neg (by omega), if_neg (by omega)]
theorem MP_o (S : St) (i p n : Int) (k : Nat) (x j : Int) (h : k ≠ 13 ∧ k ≠ 14) : MP S i p n k x j = S k x j := by
  unfold MP
  rw [if_neg (by omega), if_neg (by omega)]
theorem MC_o (S : St) (i p n : Int) (k : Nat) (x j : Int) (h : k ≠ 13 ∧ k ≠ 14) : MC S i p n k x j = S k x j := by
  unfold MC
  rw [if_neg (by omega), if_neg (by omega)]
theorem inv_tx (iv : Inv S) (p c n s : Int) (hp : 0 ≤ p) (hc : 0 ≤ c) (hn : 0 ≤ n ∧ n ≤ 40) (hpc : p + c ≤ S 3 (S 2 0 0) 0) (hs : 0 ≤ s ∧ s ≤ 25) (hz : S 3 (S 2 0 0) 0 - c + n ≤ 200) (hv : S 2 0 0 < 60)
    (hT : ∀ (k : Nat) i j, k ≠ 13 ∧ k ≠ 14 → T k i j = TX S p c n s k i j) (ha : ∀ k, hd S k → 0 ≤ T 13 k 0 ∧ T 13 k 0 ≤ T 14 k 0 ∧ T 14 k 0 ≤ S 3 (S 2 0 0) 0 - c + n) : Inv T := by
  obtain ⟨u0, u1⟩ := iv.2.1.1
  obtain ⟨u2, u3⟩ := iv.2.1.2.1 (S 2 0 0) u0 (Int.le_refl _)
  obtain ⟨v0, v1⟩ := iv.2.1.2.2.1
  have e : ∀ (k : Nat) i j, k ≠ 2 ∧ k ≠ 3 ∧ k ≠ 4 ∧ k ≠ 5 ∧ k ≠ 6 ∧ k ≠ 13 ∧ k ≠ 14 → T k i j = S k i j := fun k i j h => by rw [hT k i j (by omega), TX_o _ _ _ _ _ _ _ _ (by omega)]
  have e0 := e 0 0 0 (by omega)
  have e1 := fun u => e 1 u 0 (by omega)
  have e7 := e 7 0 0 (by omega)
  have e8 := fun k => e 8 k 0 (by omega)
  have e9 := fun k => e 9 k 0 (by omega)
  have e10 := fun k => e 10 k 0 (by omega)
  have e11 := fun k => e 11 k 0 (by omega)
  have e12 := fun k => e 12 k 0 (by omega)
  have e15 := fun k => e 15 k 0 (by omega)
  have e16 := fun k => e 16 k 0 (by omega)
  have e17 := fun k => e 17 k 0 (by omega)
  have e18 := fun k => e 18 k 0 (by omega)
  have e19 := fun k => e 19 k 0 (by omega)
  have e20 := fun k i => e 20 k i (by omega)
  have e21 := e 21 0 0 (by omega)
  have e23 := fun k => e 23 k 0 (by omega)
  have t2 : T 2 0 0 = S 2 0 0 + 1 := (hT 2 0 0 (by omega)).trans (TX_2 S p c n s)
  have t3 := fun v => (hT 3 v 0 (by omega)).trans (TX_3 S p c n s v)
  have t4 := fun v j => (hT 4 v j (by omega)).trans (TX_4 S p c n s v j)
  have t5 := fun x => (hT 5 x 0 (by omega)).trans (TX_5 S p c n s x)
  have t6 : T 6 0 0 = S 6 0 0 + n := (hT 6 0 0 (by omega)).trans (TX_6 S p c n s)
  have eh : ∀ k, hd T k ↔ hd S k := fun k => by unfold hd nt; rw [e7, e11]
  refine ⟨?_, ⟨⟨by omega, by omega⟩, fun v h1 h2 => ?_, ⟨by omega, by omega⟩, fun v q h1 h2 h3 h4 => ?_, fun x h1 h2 => ?_⟩, ⟨?_, ?_, ?_, ?_, ?_⟩, ?_⟩
  · unfold InvU
    rw [e0]
    simp only [e1]
    exact iv.1
  · rw [t3]
    split
    · omega
    · exact iv.2.1.2.1 v h1 (by omega)
  · rw [t4, t6]
    rw [t3] at h4
    by_cases d : v = S 2 0 0 + 1
    · rw [if_pos d] at h4 ⊢
      by_cases f : q < p
      · rw [if_pos f]
        have := iv.2.1.2.2.2.1 (S 2 0 0) q u0 (Int.le_refl _) h3 (by omega)
        omega
      · rw [if_neg f]
        by_cases f2 : q < p + n
        · rw [if_pos f2]; omega
        · rw [if_neg f2]
          have := iv.2.1.2.2.2.1 (S 2 0 0) (q - n + c) u0 (Int.le_refl _) (by omega) (by omega)
          omega
    · rw [if_neg d] at h4 ⊢
      have := iv.2.1.2.2.2.1 v q h1 (by omega) h3 h4
      omega
  · rw [t5]
    by_cases d : S 6 0 0 ≤ x ∧ x < S 6 0 0 + n
    · rw [if_pos d]; omega
    · rw [if_neg d]
      exact iv.2.1.2.2.2.2 x h1 (by omega)
  · rw [e7]; exact iv.2.2.1.1
  · intro k hk
    have hk2 : nt S k := by unfold nt at hk ⊢; rw [e7] at hk; exact hk
    have z := iv.2.2.1.2.1 k hk2
    unfold InvK at z ⊢
    rw [eh]
    simp only [e0, e8, e9, e10, e11, e12, e23]
    exact z
  · intro k h1 h2
    rw [e12, e17, e18]
    rw [e7] at h1
    exact iv.2.2.1.2.2.1 k h1 h2
  · intro k hk
    rw [eh] at hk
    have z := iv.2.2.1.2.2.2.1 k hk
    have y := ha k hk
    unfold InvH at z ⊢
    simp only [e15, e16, e17, e18, e19, e20]
    refine ⟨⟨y.1, y.2.1, ?_⟩, z.2⟩
    rw [t3, t2, if_pos rfl]
    exact y.2.2
  · intro k j hk hj
    rw [e10, e12, e12]
    unfold nt at hk hj
    rw [e7] at hk hj
    exact iv.2.2.1.2.2.2.2 k j hk hj
  · unfold InvE
    rw [e21]
    exact iv.2.2.2
theorem inv_put (iv : Inv S) (p n s : Int) (hp : 0 ≤ p) (hn : 0 ≤ n ∧ n ≤ 40) (hpc : p ≤ S 3 (S 2 0 0) 0) (hs : 0 ≤ s ∧ s ≤ 25) (hz : S 3 (S 2 0 0) 0 + n ≤ 200) (hv : S 2 0 0 < 60) : Inv (Sput S p n s) := by
  refine inv_tx iv p 0 n s hp (Int.le_refl _) hn (by omega) hs (by omega) hv (fun k i j h => MP_o _ _ _ _ _ _ _ h) (fun k hk => ?_)
  have z := (iv.2.2.1.2.2.2.1 k hk).1
  have k1 := hk.1.1
  have k2 := hk.1.2
  have a1 : Sput S p n s 13 k 0 = mF (S 13 k 0) p n := by
    unfold Sput MP
    rw [if_pos ⟨rfl, rfl, k1, k2, (TX_o _ _ _ _ _ _ _ _ (by omega)).trans hk.2⟩, TX_o _ _ _ _ _ _ _ _ (by omega)]
  have a2 : Sput S p n s 14 k 0 = mT (S 13 k 0) (S 14 k 0) p n := by
    unfold Sput MP
    rw [if_neg (by omega), if_pos ⟨rfl, rfl, k1, k2, (TX_o _ _ _ _ _ _ _ _ (by omega)).trans hk.2⟩, TX_o _ _ _ _ _ _ _ _ (by omega), TX_o _ _ _ _ _ _ _ _ (by omega)]
  rw [a1, a2]
  unfold mF mT
  split <;> split <;> omega
theorem inv_cut (iv : Inv S) (p n : Int) (hp : 0 ≤ p) (hn : 0 ≤ n) (hpc : p + n ≤ S 3 (S 2 0 0) 0) (hv : S 2 0 0 < 60) : Inv (Scut S p n) := by
  obtain ⟨u0, u1⟩ := iv.2.1.1
  obtain ⟨u2, u3⟩ := iv.2.1.2.1 (S 2 0 0) u0 (Int.le_refl _)
  refine inv_tx iv p n 0 0 hp hn ⟨by omega, by omega⟩ (by omega) ⟨by omega, by omega⟩ (by omega) hv (fun k i j h => MC_o _ _ _ _ _ _ _ h) (fun k hk => ?_)
  have z := (iv.2.2.1.2.2.2.1 k hk).1
  have k1 := hk.1.1
  have k2 := hk.1.2
  have a1 : Scut S p n 13 k 0 = ct (S 13 k 0) p n := by
    unfold Scut MC
    rw [if_pos ⟨rfl, rfl, k1, k2, (TX_o _ _ _ _ _ _ _ _ (by omega)).trans hk.2⟩, TX_o _ _ _ _ _ _ _ _ (by omega)]
  have a2 : Scut S p n 14 k 0 = ct (S 14 k 0) p n := by
    unfold Scut MC
    rw [if_neg (by omega), if_pos ⟨rfl, rfl, k1, k2, (TX_o _ _ _ _ _ _ _ _ (by omega)).trans hk.2⟩, TX_o _ _ _ _ _ _ _ _ (by omega)]
  rw [a1, a2]
  unfold ct
  split <;> split <;> (try split) <;> (try split) <;> omega
theorem Sput_sz (S : St) (p n s : Int) : Sput S p n s 3 (Sput S p n s 2 0 0) 0 = S 3 (S 2 0 0) 0 + n := by
  have e : Sput S p n s 2 0 0 = S 2 0 0 + 1 := (MP_o _ _ _ _ _ _ _ (by omega)).trans (TX_2 ..)
  rw [e]
  show MP _ _ _ _ _ _ _ = _
  rw [MP_o _ _ _ _ _ _ _ (by omega), TX_3, if_pos rfl]
  omega
theorem Scut_sz (S : St) (p n : Int) : Scut S p n 3 (Scut S p n 2 0 0) 0 = S 3 (S 2 0 0) 0 - n := by
  have e : Scut S p n 2 0 0 = S 2 0 0 + 1 := (MC_o _ _ _ _ _ _ _ (by omega)).trans (TX_2 ..)
  rw [e]
  show MC _ _ _ _ _ _ _ = _
  rw [MC_o _ _ _ _ _ _ _ (by omega), TX_3, if_pos rfl]
  omega
end
