/-! THE PAGE: note -/
section
variable {a b : Na} {S T : St} {h g : Zh} {Q : Zp}
/-- a note's row more -/
theorem RepP.wRow (hi : Ij a) (hp : RepP a S h) (it : ItP S) (n0 : 0 ≤ S 7 0 0) (c0 : gK h (a 0 0) ≠ 0) (T : St) (e7 : T 7 0 0 = S 7 0 0 + 1) (eL : ∀ k i j, k < 7 → T k i j = S k i j) (eO : ∀ k x j, 7 < k → k < 21 → k ≠ 9 → x ≠ S 7 0 0 → T k x j = S k x j)
    (K : gK h (a 211 0) = 10) (L : gL h (a 211 0) = if T 10 (S 7 0 0) 0 = -1 then 11 + T 19 (S 7 0 0) 0 else 5) (I0 : gI h (a 211 0) 0 = T 8 (S 7 0 0) 0) (I2 : gI h (a 211 0) 2 = T 10 (S 7 0 0) 0) (I3 : gI h (a 211 0) 3 = T 11 (S 7 0 0) 0) (I4 : gI h (a 211 0) 4 = T 12 (S 7 0 0) 0)
    (IH : T 11 (S 7 0 0) 0 = S 7 0 0 → gI h (a 211 0) 5 = T 13 (S 7 0 0) 0 ∧ gI h (a 211 0) 6 = T 14 (S 7 0 0) 0 ∧ gI h (a 211 0) 7 = T 15 (S 7 0 0) 0 ∧ gI h (a 211 0) 8 = T 18 (S 7 0 0) 0 ∧ gI h (a 211 0) 9 = T 16 (S 7 0 0) 0 ∧ gI h (a 211 0) 10 = T 17 (S 7 0 0) 0 ∧ ∀ i, 0 ≤ i → i < T 19 (S 7 0 0) 0 → gI h (a 211 0) (11 + i) = T 20 (S 7 0 0) i)
    {q : Nat} (hq : gK h q = 0) (m1 : ∀ y, y ≠ q → y ≠ a 200 0 → sm h g y) (qK : gK g q = 14) (qL : gL g q = S 7 0 0 + 1) (qR : ∀ j, 0 ≤ j → j ≤ S 7 0 0 → gR g q j = if j < S 7 0 0 then gR h (a 204 0) j else some (a 211 0)) (mK : gK g (a 200 0) = 7) (mI : ∀ j, gI g (a 200 0) j = gI h (a 200 0) j) (mR : ∀ j, gR g (a 200 0) j = if j = 6 then some q else gR h (a 200 0) j)
    {G : Prop} (k : ∀ b, Ij b → RepP b T g → b 0 0 = a 0 0 → b 200 0 = a 200 0 → b 208 0 = a 208 0 → Fr (fun f => f < 100) a h b g → G) : G := by
  have nq : ∀ y, gK h y ≠ 0 → y ≠ q := fun y n z => n (by rw [z]; exact hq)
  have i1 := Ij_nm hi 204 0 q
  have live : ∀ f i, gK h (a f i) ≠ 0 → ¬ (f = 204 ∧ i = 0) → nm a 204 0 q f i = a f i := fun f i n1 n2 => nm_live hq n1 n2
  have ex : nm a 204 0 q 211 0 = a 211 0 := live 211 0 (by rw [K]; omega) (by omega)
  have i2 := Ij_nm i1 206 (S 7 0 0) (nm a 204 0 q 211 0)
  have sw : ∀ f i, gK h (a f i) ≠ 0 → ¬ (f = 204 ∧ i = 0) → ¬ (f = 206 ∧ i = S 7 0 0) → ¬ (f = 211 ∧ i = 0) → nm (nm a 204 0 q) 206 (S 7 0 0) (nm a 204 0 q 211 0) f i = a f i := fun f i n1 n2 n3 n4 => (nm_sw i1 n3 n4).trans (live f i n1 n2)
  have nq2 : nm (nm a 204 0 q) 206 (S 7 0 0) (nm a 204 0 q 211 0) 204 0 = q := (nm_sw i1 (by omega) (by omega)).trans (nm_self a 204 0 q)
  have nx : nm (nm a 204 0 q) 206 (S 7 0 0) (nm a 204 0 q 211 0) 206 (S 7 0 0) = a 211 0 := (nm_self _ _ _ _).trans ex
  revert i2 sw nq2 nx
  generalize nm (nm a 204 0 q) 206 (S 7 0 0) (nm a 204 0 q 211 0) = b
  intro i2 sw nq2 nx
  have keep : ∀ f i, gK h (a f i) ≠ 0 → ¬ (f = 204 ∧ i = 0) → ¬ (f = 206 ∧ i = S 7 0 0) → ¬ (f = 211 ∧ i = 0) → ¬ (f = 200 ∧ i = 0) → b f i = a f i ∧ sm h g (a f i) := fun f i n1 n2 n3 n4 n5 => ⟨sw f i n1 n2 n3 n4, m1 _ (nq _ n1) (fun z => by rw [hi] at z; exact n5 z)⟩
  have b0 : b 200 0 = a 200 0 := sw 200 0 (by rw [hp.q0]; omega) (by omega) (by omega) (by omega)
  have k8 := keep 208 0 (by rw [hp.q7]; omega) (by omega) (by omega) (by omega) (by omega)
  have k1 := keep 201 0 (by rw [hp.q8]; omega) (by omega) (by omega) (by omega) (by omega)
  have k2 := keep 202 0 (by rw [hp.q11]; omega) (by omega) (by omega) (by omega) (by omega)
  have k00 := keep 0 0 c0 (by omega) (by omega) (by omega) (by omega)
  have k3 : ∀ v, 0 ≤ v → v ≤ S 2 0 0 → b 203 v = a 203 v ∧ sm h g (a 203 v) := fun v h1 h2 => keep 203 v (by rw [hp.q14 v h1 h2]; omega) (by omega) (by omega) (by omega) (by omega)
  have k5 : ∀ n, 0 ≤ n → n < S 6 0 0 → b 205 n = a 205 n ∧ sm h g (a 205 n) := fun n h1 h2 => keep 205 n (by rw [hp.q17 n h1 h2]; omega) (by omega) (by omega) (by omega) (by omega)
  have k6 : ∀ k, nt S k → b 206 k = a 206 k ∧ sm h g (a 206 k) := fun k hk => keep 206 k (by rw [hp.q23 k hk]; omega) (by omega) (fun z => by have := hk.2; omega) (by omega) (by omega)
  have kx : sm h g (a 211 0) := m1 _ (nq _ (by rw [K]; omega)) (fun z => by rw [hi] at z; omega)
  have dec : ∀ k, nt T k → k = S 7 0 0 ∨ nt S k := fun k hk => by
    have h1 := hk.1
    have h2 := hk.2
    rw [e7] at h2
    by_cases c : k = S 7 0 0
    · exact .inl c
    · exact .inr ⟨h1, by omega⟩
  refine k b i2 ⟨?_, hp.2.1.c k1.1 k1.2 (eL _ _ _ (by omega)) (fun u => eL _ _ _ (by omega)), hp.2.2.1.c it.1.1 k2.1 k2.2 k3 (fun n h1 h2 => (k5 n h1 h2).1) it.2 (eL _ _ _ (by omega)) (eL _ _ _ (by omega)) (fun _ => eL _ _ _ (by omega)), fun n h1 h2 => ?_, ?_, fun k hk => ?_, fun k hk => ?_⟩ k00.1 b0 k8.1 (fun f i p n => keep f i n (by omega) (by omega) (by omega) (by omega))
  · exact ⟨by rw [b0]; exact mK, by rw [b0, mR, if_neg (by omega), k00.1]; exact hp.q1, by rw [b0, mR, if_neg (by omega), k8.1]; exact hp.q2, by rw [b0, mI]; exact hp.1.2.2.2.1, by rw [b0, mR, if_neg (by omega), k1.1]; exact hp.q3, by rw [b0, mI, eL _ _ _ (by omega)]; exact hp.q4, by rw [b0, mR, if_neg (by omega), k2.1]; exact hp.q5, by rw [b0, mR, if_pos rfl, nq2], by rw [k8.1, k8.2.1]; exact hp.q7⟩
  · rw [eL _ _ _ (by omega)] at h2
    exact (hp.2.2.2.1 n h1 h2).c (k5 n h1 h2).1 (k5 n h1 h2).2 (eL _ _ _ (by omega))
  · exact ⟨by rw [nq2]; exact qK, by rw [nq2, e7]; exact qL⟩
  · obtain ⟨z0, z1, z2, -⟩ := kx
    rcases dec k hk with rfl | hn
    · refine ⟨by rw [nq2, nx, qR _ n0 (Int.le_refl _), if_neg (by omega)], by rw [nx, z0]; exact K, by rw [nx, z1]; exact L, by rw [nx, z2]; exact I0, by rw [nx, z2]; exact I2, by rw [nx, z2]; exact I3, by rw [nx, z2]; exact I4⟩
    · have h1 := hn.1
      have h2 := hn.2
      have ne : k ≠ S 7 0 0 := by omega
      obtain ⟨y0, y1, y2, y3, -⟩ := (k6 k hn).2
      have p := hp.2.2.2.2.2.1 k hn
      unfold PN
      rw [nq2, (k6 k hn).1, y0, y1, qR k h1 (by omega), if_pos h2, y2, y2, y2, y2, eO _ _ _ (by omega) (by omega) (by omega) ne, eO _ _ _ (by omega) (by omega) (by omega) ne, eO _ _ _ (by omega) (by omega) (by omega) ne, eO _ _ _ (by omega) (by omega) (by omega) ne, eO _ _ _ (by omega) (by omega) (by omega) ne]
      exact p
  · obtain ⟨z0, z1, z2, -⟩ := kx
    rcases dec k hk.1 with rfl | hn
    · obtain ⟨w5, w6, w7, w8, w9, w10, w11⟩ := IH hk.2
      unfold PH
      rw [nx, z2, z2, z2, z2, z2, z2]
      exact ⟨w5, w6, w7, w8, w9, w10, fun i h1 h2 => by rw [z2]; exact w11 i h1 h2⟩
    · have h1 := hn.1
      have h2 := hn.2
      have ne : k ≠ S 7 0 0 := by omega
      have hh : hd S k := ⟨hn, by have := hk.2; rw [eO _ _ _ (by omega) (by omega) (by omega) ne] at this; exact this⟩
      exact (hp.2.2.2.2.2.2 k hh).c (k6 k hn).1 (k6 k hn).2 (eO _ _ _ (by omega) (by omega) (by omega) ne) (eO _ _ _ (by omega) (by omega) (by omega) ne) (eO _ _ _ (by omega) (by omega) (by omega) ne) (eO _ _ _ (by omega) (by omega) (by omega) ne) (eO _ _ _ (by omega) (by omega) (by omega) ne) (eO _ _ _ (by omega) (by omega) (by omega) ne) (eO _ _ _ (by omega) (by omega) (by omega) ne) (fun i => eO _ _ _ (by omega) (by omega) (by omega) ne)
theorem p_ntL (hi : Ij a) (iv : Inv S) (u f t v c m6 n : Int) (r9 : Option Nat) (hf : 0 ≤ f ∧ f + n ≤ S 3 (S 2 0 0) 0) (hn : 0 ≤ n ∧ n ≤ 12) (V : Int → Int)
    (hQ : ∀ g, RepP a S g → gK g (a 211 0) = 10 → gL g (a 211 0) = 11 + n → (∀ j, 0 ≤ j → j < 11 → gI g (a 211 0) j = V j) → (∀ i, 0 ≤ i → i < n → gI g (a 211 0) (11 + i) = S 5 (S 4 (S 2 0 0) (f + i)) 0) → EP a h a g 0 0 0 →
      WP 102 220 [some (zr (some (a 200 0))), some (zi u), some (zi f), some (zi t), some (zi v), some (zi c), some (zi m6), some (zi n), some (zr (some (a 211 0))), some (zr r9), some (zi n)] [] g Q) (m : Nat) :
    ∀ (k : Int) (g : Zh), m = (n - k).toNat → 0 ≤ k → k ≤ n → RepP a S g → gK g (a 211 0) = 10 → gL g (a 211 0) = 11 + n → (∀ j, 0 ≤ j → j < 11 → gI g (a 211 0) j = V j) → (∀ i, 0 ≤ i → i < k → gI g (a 211 0) (11 + i) = S 5 (S 4 (S 2 0 0) (f + i)) 0) → EP a h a g 0 0 0 →
      WP 102 188 [some (zr (some (a 200 0))), some (zi u), some (zi f), some (zi t), some (zi v), some (zi c), some (zi m6), some (zi n), some (zr (some (a 211 0))), some (zr r9), some (zi k)] [] g Q := by
  obtain ⟨w0, w1⟩ := iv.2.1.1
  obtain ⟨z0, z1⟩ := iv.2.1.2.1 (S 2 0 0) w0 (Int.le_refl _)
  induction m with
  | zero =>
    intro k g e1 e2 e3 hp kx lx vx ix ep
    have e : k = n := by omega
    subst e
    rw [b_102_188, brt (by omega)]
    exact hQ g hp kx lx vx ix ep
  | succ m ih =>
    intro k g e1 e2 e3 hp kx lx vx ix ep
    have w := (ItP_of iv).2 (f + k) (by omega) (by omega)
    rw [b_102_188, brf (by omega)]
    simp (disch := first | assumption | omega) only [b_102_195, b_102_206, b_102_214, kont_v, kont_n, kont_x, Nat.reduceAdd, ad_some, kd_some, ixa, and_true, true_and, and_self, eq_self, ne_eq, brT, brF, true_or, or_true, and_imp, hp.q0, hp.q1, hp.q2, hp.q3, hp.q4, hp.q5, hp.q6, hp.q7, hp.q8, hp.q9, hp.q10, hp.q11, hp.q12, hp.q13, hp.q14, hp.q15, hp.q16, hp.q17, hp.q18, hp.q19, hp.q20, hp.q21, hp.q22, hp.q23, hp.q25, hp.q26, hp.q27, hp.q28, hp.q29, hp.q30, hp.q31, hp.q32, hp.q33, hp.q34, hp.q35, p_text hp iv, kx, lx, aT, inR]
    have hp2 : RepP a S (pI g (a 211 0) (11 + k) (S 5 (S 4 (S 2 0 0) (f + k)) 0)) := hp.wI hi (ItP_of iv) (by unfold LvP; omega)
    refine ih (k + 1) _ (by omega) (by omega) (by omega) hp2 kx lx (fun j h1 h2 => ?_) (fun i h1 h2 => ?_) ((ep.trans (EP.row hi (by omega))).le (by omega) (by omega) (by omega))
    · rw [gI_pI, if_neg (by omega)]
      exact vx j h1 h2
    · rw [gI_pI]
      by_cases q : i = k
      · rw [if_pos ⟨rfl, by omega⟩, q]
      · rw [if_neg (fun z => q (by omega))]
        exact ix i h1 (by omega)
end
