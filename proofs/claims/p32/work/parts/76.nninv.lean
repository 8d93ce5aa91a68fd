/-! ONE MORE NOTE: the invariant, the class's memory -/
section
variable {a : Na} {S T : St} {h g : Zh} {Q : Zp} {w : Nat → Int} {r : Int → Int}
theorem inv_nn (iv : Inv S) (h60 : S 7 0 0 < 60) (hK : InvK (NN S w r) (S 7 0 0)) (hH : w 11 = S 7 0 0 → InvH (NN S w r) (S 7 0 0)) (hc : ∀ k, nt S k → w 10 = k → S 12 k 0 ≠ 2) : Inv (NN S w r) := by
  obtain ⟨a1, a2, a3, a4, a5⟩ := iv.2.2.1
  have x := Xt_NN S w r
  have n7 := x.1
  have o : ∀ (k : Nat) (x j : Int), k ≠ 7 → x ≠ S 7 0 0 → NN S w r k x j = S k x j := fun k x j h1 h2 => NN_o S w r k x j ⟨h1, .inl h2⟩
  have hn : ∀ k, nt (NN S w r) k ↔ (nt S k ∨ k = S 7 0 0) := fun k => by
    rw [xt_nt x]
    exact ⟨fun z => z.elim .inl (fun z => .inr z.1), fun z => z.elim .inl (fun z => .inr ⟨z, a1.1⟩)⟩
  have hh : ∀ k, hd S k → hd (NN S w r) k := fun k hk => ⟨(hn k).mpr (.inl hk.1), by rw [o 11 k 0 (by omega) (xt_lt hk.1)]; exact hk.2⟩
  refine ⟨iv.1, iv.2.1, ⟨by rw [n7]; omega, fun k hk => ?_, fun k h1 h2 => ?_, fun k hk => ?_, fun k j hk hj e z => ?_⟩, iv.2.2.2⟩
  · rcases (hn k).mp hk with q | q
    · obtain ⟨b1, b2, b3, b4, b5, b6, b7⟩ := a2 k q
      have ne := xt_lt q
      have q2 := q.2
      unfold InvK
      rw [o 8 k 0 (by omega) ne, o 9 k 0 (by omega) ne, o 10 k 0 (by omega) ne, o 11 k 0 (by omega) ne, o 12 k 0 (by omega) ne, o 23 k 0 (by omega) ne]
      refine ⟨b1, b2, ?_, b4, hh _ b5, b6, b7⟩
      rcases b3 with c | c
      · exact .inl c
      · rw [o 11 (S 10 k 0) 0 (by omega) (by omega), o 23 (S 10 k 0) 0 (by omega) (by omega)]
        exact .inr c
    · rw [q]; exact hK
  · rw [n7] at h1
    rw [o 12 k 0 (by omega) (by omega), o 17 k 0 (by omega) (by omega), o 18 k 0 (by omega) (by omega)]
    exact a3 k (by omega) h2
  · rcases (hn k).mp hk.1 with q | q
    · have ne := xt_lt q
      have h11 := hk.2
      rw [o 11 k 0 (by omega) ne] at h11
      have z := a4 k ⟨q, h11⟩
      unfold InvH at z ⊢
      rw [o 13 k 0 (by omega) ne, o 14 k 0 (by omega) ne, o 15 k 0 (by omega) ne, o 16 k 0 (by omega) ne, o 17 k 0 (by omega) ne, o 18 k 0 (by omega) ne, o 19 k 0 (by omega) ne]
      exact ⟨z.1, z.2.1, z.2.2.1, z.2.2.2.1, z.2.2.2.2.1, z.2.2.2.2.2.1, fun i i1 i2 => by rw [o 20 k i (by omega) ne]; exact z.2.2.2.2.2.2 i i1 i2⟩
    · have h11 := hk.2
      rw [q, NN_n _ _ _ _ (by omega)] at h11
      rw [q]
      exact hH h11
  · rcases (hn j).mp hj with q | q
    · have ne := xt_lt q
      rw [o 10 j 0 (by omega) ne] at e
      have kl : nt S k := by
        have hk0 := hk.1
        rcases iv_par iv q with z | z
        · omega
        · rw [← e]; exact z.1
      rw [o 12 k 0 (by omega) (xt_lt kl)] at z
      rw [o 12 j 0 (by omega) ne]
      exact a5 k j kl q e z
    · rw [q, NN_n _ _ _ _ (by omega)] at e
      rcases (hn k).mp hk with p | p
      · rw [o 12 k 0 (by omega) (xt_lt p)] at z
        exact absurd z (hc k p e)
      · rw [q, ← p]; exact z
theorem inv_note (iv : Inv S) (h60 : S 7 0 0 < 60) {u f t v c : Int} (hu : 0 ≤ u ∧ u < S 0 0 0) (hf : 0 ≤ f ∧ f < t ∧ t ≤ S 3 (S 2 0 0) 0) (hv : 0 ≤ v ∧ v ≤ 2) (hc : 0 ≤ c ∧ c ≤ 999) : Inv (Snote S u f t v c) := by
  have b := iv.2.2.1.1
  have z := iv.2.2.1.2.2.1 (S 7 0 0) (Int.le_refl _) h60
  have e12 : wH S u f t v c 12 = S 12 (S 7 0 0) 0 := rfl
  have e17 : wH S u f t v c 17 = S 17 (S 7 0 0) 0 := rfl
  have e18 : wH S u f t v c 18 = S 18 (S 7 0 0) 0 := rfl
  obtain ⟨u0, u1⟩ := iv.2.1.1
  refine inv_nn iv h60 ?_ (fun _ => ?_) (fun k hk e => ?_)
  · unfold InvK hd
    rw [xt_nt (Xt_NN _ _ _)]
    have e11 : wH S u f t v c 11 = S 7 0 0 := rfl
    rw [NN_n _ _ _ 8 (by omega), NN_n _ _ _ 9 (by omega), NN_n _ _ _ 10 (by omega), NN_n _ _ _ 11 (by omega), NN_n _ _ _ 12 (by omega), NN_n _ _ _ 23 (by omega), e11, NN_n _ _ _ 11 (by omega), e12]
    exact ⟨hu, hc, .inl ⟨rfl, rfl, rfl⟩, .inl z.1, ⟨.inr ⟨rfl, b.1⟩, rfl⟩, Int.le_refl _, ⟨Int.le_refl _, b.1⟩⟩
  · unfold InvH
    rw [NN_n _ _ _ 13 (by omega), NN_n _ _ _ 14 (by omega), NN_n _ _ _ 15 (by omega), NN_n _ _ _ 16 (by omega), NN_n _ _ _ 17 (by omega), NN_n _ _ _ 18 (by omega), NN_n _ _ _ 19 (by omega), e17, e18]
    have e19 : wH S u f t v c 19 = if t - f < 12 then t - f else 12 := rfl
    have e13 : wH S u f t v c 13 = f := rfl
    have e14 : wH S u f t v c 14 = t := rfl
    have e15 : wH S u f t v c 15 = v := rfl
    have e16 : wH S u f t v c 16 = -1 := rfl
    rw [e19, e13, e14, e15, e16]
    refine ⟨⟨hf.1, by omega, hf.2.2⟩, hv, ⟨by omega, by omega⟩, ⟨by omega, by omega⟩, .inl z.2.2, ⟨by split <;> omega, by split <;> omega⟩, fun i i1 i2 => ?_⟩
    rw [NN_20]
    have i3 : f + i < S 3 (S 2 0 0) 0 := by split at i2 <;> omega
    exact iv.2.1.2.2.2.2 _ (iv.2.1.2.2.2.1 _ _ u0 (Int.le_refl _) (by omega) i3).1 (iv.2.1.2.2.2.1 _ _ u0 (Int.le_refl _) (by omega) i3).2
  · have e : (-1 : Int) = k := e
    have := hk.1
    omega
theorem inv_rep (iv : Inv S) (h60 : S 7 0 0 < 60) {u q c : Int} (hu : 0 ≤ u ∧ u < S 0 0 0) (hq : nt S q) (hg : S 12 q 0 ≠ 2) (hc : 0 ≤ c ∧ c ≤ 999) : Inv (NN S (wR S u q c) (fun j => S 20 (S 7 0 0) j)) := by
  have b := iv.2.2.1.1
  have z := iv.2.2.1.2.2.1 (S 7 0 0) (Int.le_refl _) h60
  have e12 : wR S u q c 12 = S 12 (S 7 0 0) 0 := rfl
  have hh := iv_hd iv hq
  obtain ⟨-, -, -, -, -, b6, b7⟩ := iv.2.2.1.2.1 q hq
  have q1 := hq.1
  have q2 := hq.2
  refine inv_nn iv h60 ?_ (fun e => ?_) (fun k hk e => ?_)
  · have e10 : wR S u q c 10 = q := rfl
    have e11 : wR S u q c 11 = S 11 q 0 := rfl
    have e23 : wR S u q c 23 = S 23 q 0 + 1 := rfl
    unfold InvK hd
    rw [xt_nt (Xt_NN _ _ _)]
    rw [NN_n _ _ _ 8 (by omega), NN_n _ _ _ 9 (by omega), NN_n _ _ _ 10 (by omega), NN_n _ _ _ 11 (by omega), NN_n _ _ _ 12 (by omega), NN_n _ _ _ 23 (by omega), e10, e11, e12, e23, NN_o _ _ _ 11 _ _ (by omega), NN_o _ _ _ 23 _ _ (by omega), NN_o _ _ _ 11 (S 11 q 0) _ (by omega)]
    exact ⟨hu, hc, .inr ⟨q1, q2, rfl, rfl⟩, .inl z.1, ⟨.inl hh.1, hh.2⟩, by omega, by omega⟩
  · have e : S 11 q 0 = S 7 0 0 := e
    omega
  · have e : q = k := e
    rw [← e]; exact hg
/-- the groups of the class's memory with a new head -/
theorem RepC.addHead (hi : Ij a) (hr : RepC a S h) (iv : Inv S) (iT : Inv (NN S w r)) (w10 : w 10 = -1) (w11 : w 11 = S 7 0 0) (w12 : w 12 = 0) (w23 : w 23 = 0)
    (k3 : gK h (a 20 (S 7 0 0)) = 3) (i0 : gI h (a 20 (S 7 0 0)) 0 = S 7 0 0) (i1 : gI h (a 20 (S 7 0 0)) 1 = w 8) (i2 : gI h (a 20 (S 7 0 0)) 2 = w 9) (i3 : gI h (a 20 (S 7 0 0)) 3 = 0) (i7 : gI h (a 20 (S 7 0 0)) 7 = 0) (i8 : gI h (a 20 (S 7 0 0)) 8 = 0) (i9 : gI h (a 20 (S 7 0 0)) 9 = 0)
    (r4 : gR h (a 20 (S 7 0 0)) 4 = none) (r5 : gR h (a 20 (S 7 0 0)) 5 = some (a 21 (S 7 0 0))) (r6 : gR h (a 20 (S 7 0 0)) 6 = none) (H : CH a (NN S w r) h (S 7 0 0)) : RepC a (NN S w r) (pI (pR h (a 3 0) (S 7 0 0) (some (a 20 (S 7 0 0)))) (a 0 0) 6 (S 7 0 0 + 1)) := by
  have x := Xt_NN S w r
  have n7 := x.1
  have b := iv.2.2.1.1
  have o : ∀ (k : Nat) (x j : Int), k ≠ 7 → x ≠ S 7 0 0 → NN S w r k x j = S k x j := fun k x j h1 h2 => NN_o S w r k x j ⟨h1, .inl h2⟩
  have e11 : NN S w r 11 (S 7 0 0) 0 = S 7 0 0 := (NN_n _ _ _ _ (by omega)).trans w11
  have e10 : NN S w r 10 (S 7 0 0) 0 = -1 := (NN_n _ _ _ _ (by omega)).trans w10
  have hnT : nt (NN S w r) (S 7 0 0) := (xt_nt x).mpr (.inr ⟨rfl, b.1⟩)
  have sm1 : ∀ f i, f ≠ 0 → f ≠ 3 → sm h (pI (pR h (a 3 0) (S 7 0 0) (some (a 20 (S 7 0 0)))) (a 0 0) 6 (S 7 0 0 + 1)) (a f i) := fun f i n1 n2 => (smR hi (.inl n2)).trans (smI hi (.inl n1))
  refine .mk ?_ (hr.Tx.c (sm1 _ _ (by omega) (by omega)) (sm1 _ _ (by omega) (by omega)) (sm1 _ _ (by omega) (by omega)) (sm1 _ _ (by omega) (by omega)) (fun _ => sm1 _ _ (by omega) (by omega)) rfl (fun _ => rfl) (fun _ _ => rfl) (fun _ => rfl) rfl) hr.B (fun k hk => ?_) (fun k hk => ?_) (hr.E.c (sm1 _ _ (by omega) (by omega)) (sm1 _ _ (by omega) (by omega)) (fun _ => sm1 _ _ (by omega) (by omega)) rfl (fun _ _ => rfl))
  · obtain ⟨a0, a1, a2, a3, a4, a5, a6, a7, a8, a9, a10⟩ := hr.A
    refine ⟨a0, ?_, ?_, ?_, ?_, ?_, ?_, ?_, a8, a9, fun u => ?_⟩
    · rw [gI_pI, if_neg (by omega), gI_pR]; exact a1
    · rw [gI_pI, if_pos ⟨rfl, rfl⟩, n7]
    · rw [gR_pI, gR_pR, if_neg (fun z => by rw [hi] at z; omega)]; exact a3
    · rw [gR_pI, gR_pR, if_neg (fun z => by rw [hi] at z; omega)]; exact a4
    · rw [gR_pI, gR_pR, if_neg (fun z => by rw [hi] at z; omega)]; exact a5
    · rw [gR_pI, gR_pR, if_neg (fun z => by rw [hi] at z; omega)]; exact a6
    · rw [gR_pI, gR_pR, if_neg (fun z => by rw [hi] at z; omega)]; exact a7
    · rw [gI_pI, if_neg (fun z => by rw [hi] at z; omega), gI_pR]; exact a10 u
  · rcases (xt_nt x).mp hk with q | q
    · have ne := xt_lt q
      have q1 := q.1
      have q2 := q.2
      obtain ⟨n0, n1, n2, n3, n4, n5, n6, n7', n8, n9, n10, n11, n12, n13⟩ := hr.N k q
      obtain ⟨s0, s1, s2, s3, -⟩ := sm1 20 k (by omega) (by omega)
      have rp : RP (NN S w r) k = RP S k := by rw [xt_RP x iv, e10, b2i_f (fun z => by omega)]; omega
      have hh := iv_hd iv q
      have hle := (iv.2.2.1.2.1 k q).2.2.2.2.2.1
      have nx : NX (NN S w r) k = NX S k := xt_NXo x iv iT q (by rw [e11]; omega)
      refine ⟨?_, s0.trans n1, (s2 _).trans n2, (s2 _).trans (n3.trans (o _ _ _ (by omega) ne).symm), (s2 _).trans (n4.trans (o _ _ _ (by omega) ne).symm), (s2 _).trans (n5.trans (o _ _ _ (by omega) ne).symm), (s2 _).trans (n6.trans rp.symm), ?_, ?_, fun z => ?_, fun j hj z => ?_, fun j hj z => ?_, fun z => ?_, fun j hj z => ?_⟩
      · rw [gR_pI, gR_pR, if_neg (fun z => ne z.2)]; exact n0
      · rw [s2, o _ _ _ (by omega) ne]; exact n7'
      · rw [s2, o _ _ _ (by omega) ne]; exact n8
      · rw [o _ _ _ (by omega) ne] at z; rw [s3]; exact n9 z
      · rw [o _ _ _ (by omega) ne] at z
        rw [s3]
        have hj1 := hj.1
        rcases iv_par iv q with c | c
        · omega
        · exact n10 j (z ▸ c.1) z
      · rw [o _ _ _ (by omega) ne] at z; rw [s3]; exact n11 j (z ▸ hh) z
      · rw [nx] at z; rw [s3]; exact n12 z
      · rw [nx] at z
        rw [s3]
        have hj1 := hj.1
        rcases NX_nt iv q with c | c
        · omega
        · exact n13 j (z ▸ c) z
    · obtain ⟨q, -⟩ := q
      subst q
      obtain ⟨s0, s1, s2, s3, -⟩ := sm1 20 (S 7 0 0) (by omega) (by omega)
      have nx : NX (NN S w r) (S 7 0 0) = -1 := xt_NXh x iT hnT (fun i hi => by
        rw [e11, o _ _ _ (by omega) (xt_lt hi)]
        have := (iv.2.2.1.2.1 i hi).2.2.2.2.2.1
        have := hi.2
        omega)
      refine ⟨?_, s0.trans k3, (s2 _).trans i0, (s2 _).trans (i1.trans (NN_n _ _ _ _ (by omega)).symm), (s2 _).trans (i2.trans (NN_n _ _ _ _ (by omega)).symm), (s2 _).trans (i3.trans ((NN_n _ _ _ _ (by omega)).trans w23).symm), (s2 _).trans (i7.trans (xt_RPn x iv iT).symm), ?_, ?_, fun z => (s3 _).trans r4, fun j hj z => ?_, fun j hj z => ?_, fun z => (s3 _).trans r6, fun j hj z => ?_⟩
      · rw [gR_pI, gR_pR, if_pos ⟨rfl, rfl⟩]
      · rw [s2, NN_n _ _ _ _ (by omega), w12, i8, b2i_f (fun z => z rfl)]
      · rw [s2, NN_n _ _ _ _ (by omega), w12, i9, b2i_f (by omega)]
      · rw [e10] at z; have := hj.1; omega
      · rw [e11] at z; rw [s3, r5, z]
      · rw [nx] at z; have := hj.1; omega
  · rcases (xt_nt x).mp hk.1 with q | q
    · have ne := xt_lt q
      have h11 := hk.2
      rw [o 11 k 0 (by omega) ne] at h11
      exact (hr.H k ⟨q, h11⟩).c (sm1 _ _ (by omega) (by omega)) (sm1 _ _ (by omega) (by omega)) (sm1 _ _ (by omega) (by omega)) (o _ _ _ (by omega) ne) (o _ _ _ (by omega) ne) (o _ _ _ (by omega) ne) (o _ _ _ (by omega) ne) (o _ _ _ (by omega) ne) (o _ _ _ (by omega) ne) (o _ _ _ (by omega) ne) (o _ _ _ (by omega) ne) (fun _ => o _ _ _ (by omega) ne)
    · rw [q.1]
      exact H.c (sm1 _ _ (by omega) (by omega)) (sm1 _ _ (by omega) (by omega)) (sm1 _ _ (by omega) (by omega)) rfl rfl rfl rfl rfl rfl rfl rfl (fun _ => rfl)
end
