/-! WHAT THE PAGE HOLDS, one by one -/
section
variable {a : Na} {S : St} {h : Zh}
theorem RepP.q0 (hp : RepP a S h)  : gK h (a 200 0) = 7 := hp.1.1
theorem RepP.q1 (hp : RepP a S h)  : gR h (a 200 0) 0 = some (a 0 0) := hp.1.2.1
theorem RepP.q2 (hp : RepP a S h)  : gR h (a 200 0) 1 = some (a 208 0) := hp.1.2.2.1
theorem RepP.q3 (hp : RepP a S h)  : gR h (a 200 0) 3 = some (a 201 0) := hp.1.2.2.2.2.1
theorem RepP.q4 (hp : RepP a S h)  : gI h (a 200 0) 4 = S 6 0 0 := hp.1.2.2.2.2.2.1
theorem RepP.q5 (hp : RepP a S h)  : gR h (a 200 0) 5 = some (a 202 0) := hp.1.2.2.2.2.2.2.1
theorem RepP.q6 (hp : RepP a S h)  : gR h (a 200 0) 6 = some (a 204 0) := hp.1.2.2.2.2.2.2.2.1
theorem RepP.q7 (hp : RepP a S h)  : gK h (a 208 0) = 15 := hp.1.2.2.2.2.2.2.2.2
theorem RepP.q8 (hp : RepP a S h)  : gK h (a 201 0) = 10 := hp.2.1.1
theorem RepP.q9 (hp : RepP a S h)  : gL h (a 201 0) = S 0 0 0 := hp.2.1.2.1
theorem RepP.q10 (hp : RepP a S h) (u : Int) (h1 : 0 ≤ u) (h2 : u < S 0 0 0) : gI h (a 201 0) u = S 1 u 0 := hp.2.1.2.2 u h1 h2
theorem RepP.q11 (hp : RepP a S h)  : gK h (a 202 0) = 16 := hp.2.2.1.1
theorem RepP.q12 (hp : RepP a S h)  : gL h (a 202 0) = S 2 0 0 + 1 := hp.2.2.1.2.1
theorem RepP.q13 (hp : RepP a S h) (v : Int) (h1 : 0 ≤ v) (h2 : v ≤ S 2 0 0) : gR h (a 202 0) v = some (a 203 v) := hp.2.2.1.2.2.1 v h1 h2
theorem RepP.q14 (hp : RepP a S h) (v : Int) (h1 : 0 ≤ v) (h2 : v ≤ S 2 0 0) : gK h (a 203 v) = 14 := hp.2.2.1.2.2.2.1 v h1 h2
theorem RepP.q15 (hp : RepP a S h)  : gL h (a 203 (S 2 0 0)) = S 3 (S 2 0 0) 0 := hp.2.2.1.2.2.2.2.1
theorem RepP.q16 (hp : RepP a S h) (p : Int) (h1 : 0 ≤ p) (h2 : p < S 3 (S 2 0 0) 0) : gR h (a 203 (S 2 0 0)) p = some (a 205 (S 4 (S 2 0 0) p)) := hp.2.2.1.2.2.2.2.2 p h1 h2
theorem RepP.q17 (hp : RepP a S h) (n : Int) (h1 : 0 ≤ n) (h2 : n < S 6 0 0) : gK h (a 205 n) = 10 := (hp.2.2.2.1 n h1 h2).1
theorem RepP.q18 (hp : RepP a S h) (n : Int) (h1 : 0 ≤ n) (h2 : n < S 6 0 0) : gL h (a 205 n) = 2 := (hp.2.2.2.1 n h1 h2).2.1
theorem RepP.q19 (hp : RepP a S h) (n : Int) (h1 : 0 ≤ n) (h2 : n < S 6 0 0) : gI h (a 205 n) 1 = S 5 n 0 := (hp.2.2.2.1 n h1 h2).2.2
theorem RepP.q20 (hp : RepP a S h)  : gK h (a 204 0) = 14 := hp.2.2.2.2.1.1
theorem RepP.q21 (hp : RepP a S h)  : gL h (a 204 0) = S 7 0 0 := hp.2.2.2.2.1.2
theorem RepP.q22 (hp : RepP a S h) (k : Int) (hk : nt S k) : gR h (a 204 0) k = some (a 206 k) := (hp.2.2.2.2.2.1 k hk).1
theorem RepP.q23 (hp : RepP a S h) (k : Int) (hk : nt S k) : gK h (a 206 k) = 10 := (hp.2.2.2.2.2.1 k hk).2.1
theorem RepP.q24 (hp : RepP a S h) (k : Int) (hk : nt S k) : gL h (a 206 k) = (if S 10 k 0 = -1 then 11 + S 19 k 0 else 5) := (hp.2.2.2.2.2.1 k hk).2.2.1
theorem RepP.q25 (hp : RepP a S h) (k : Int) (hk : nt S k) : gI h (a 206 k) 0 = S 8 k 0 := (hp.2.2.2.2.2.1 k hk).2.2.2.1
theorem RepP.q26 (hp : RepP a S h) (k : Int) (hk : nt S k) : gI h (a 206 k) 2 = S 10 k 0 := (hp.2.2.2.2.2.1 k hk).2.2.2.2.1
theorem RepP.q27 (hp : RepP a S h) (k : Int) (hk : nt S k) : gI h (a 206 k) 3 = S 11 k 0 := (hp.2.2.2.2.2.1 k hk).2.2.2.2.2.1
theorem RepP.q28 (hp : RepP a S h) (k : Int) (hk : nt S k) : gI h (a 206 k) 4 = S 12 k 0 := (hp.2.2.2.2.2.1 k hk).2.2.2.2.2.2
theorem RepP.q29 (hp : RepP a S h) (k : Int) (hk : hd S k) : gI h (a 206 k) 5 = S 13 k 0 := (hp.2.2.2.2.2.2 k hk).1
theorem RepP.q30 (hp : RepP a S h) (k : Int) (hk : hd S k) : gI h (a 206 k) 6 = S 14 k 0 := (hp.2.2.2.2.2.2 k hk).2.1
theorem RepP.q31 (hp : RepP a S h) (k : Int) (hk : hd S k) : gI h (a 206 k) 7 = S 15 k 0 := (hp.2.2.2.2.2.2 k hk).2.2.1
theorem RepP.q32 (hp : RepP a S h) (k : Int) (hk : hd S k) : gI h (a 206 k) 8 = S 18 k 0 := (hp.2.2.2.2.2.2 k hk).2.2.2.1
theorem RepP.q33 (hp : RepP a S h) (k : Int) (hk : hd S k) : gI h (a 206 k) 9 = S 16 k 0 := (hp.2.2.2.2.2.2 k hk).2.2.2.2.1
theorem RepP.q34 (hp : RepP a S h) (k : Int) (hk : hd S k) : gI h (a 206 k) 10 = S 17 k 0 := (hp.2.2.2.2.2.2 k hk).2.2.2.2.2.1
theorem RepP.q35 (hp : RepP a S h) (k : Int) (hk : hd S k) (i : Int) (h1 : 0 ≤ i) (h2 : i < S 19 k 0) : gI h (a 206 k) (11 + i) = S 20 k i := (hp.2.2.2.2.2.2 k hk).2.2.2.2.2.2 i h1 h2
theorem hd_10 (iv : Inv S) {k : Int} (hk : hd S k) : S 10 k 0 = -1 := by
  rcases iv_par iv hk.1 with e | e
  · exact e.1
  · have := e.2.2.1; have := hk.2; omega
theorem RepP.qL (hp : RepP a S h) (iv : Inv S) (k : Int) (hk : hd S k) : gL h (a 206 k) = 11 + S 19 k 0 := by rw [hp.q24 k hk.1, if_pos (hd_10 iv hk)]
theorem RepP.qM (hp : RepP a S h) (iv : Inv S) (k : Int) (hk : nt S k) : 5 ≤ gL h (a 206 k) := by
  rw [hp.q24 k hk]
  split
  · next e =>
    have hh : hd S k := ⟨hk, by
      rcases iv_par iv hk with e2 | e2
      · exact e2.2
      · exact absurd e e2.2.2.2⟩
    have := (iv.2.2.1.2.2.2.1 k hh).2.2.2.2.2.1.1
    omega
  · omega
end
