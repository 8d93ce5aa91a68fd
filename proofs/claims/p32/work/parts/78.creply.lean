/-! reply OF THE CLASS -/
section
variable {a : Na} {S : St} {h : Zh} {Q : Zp}
theorem Xt_rep (S : St) (u q c : Int) : Xt S (Srep S u q c) := by
  have x := Xt_NN S (wR S u q c) (fun j => S 20 (S 7 0 0) j)
  exact ⟨x.1, x.2⟩
theorem Srep_n (S : St) (u q c : Int) (k : Nat) (h : 8 ≤ k ∧ k ≤ 23 ∧ k ≠ 20 ∧ k ≠ 21 ∧ k ≠ 22 ∧ k ≠ 18) : Srep S u q c k (S 7 0 0) 0 = wR S u q c k := by
  unfold Srep
  rw [su_k (by omega), NN_n _ _ _ _ (by omega)]
theorem Srep_o (S : St) (u q c : Int) (k : Nat) (x j : Int) (h : k ≠ 7 ∧ k ≠ 18 ∧ (x ≠ S 7 0 0 ∨ k < 8 ∨ k = 21 ∨ k = 22)) : Srep S u q c k x j = S k x j := by
  unfold Srep
  rw [su_k (by omega), NN_o _ _ _ _ _ _ (by omega)]
theorem inv_reply (iv : Inv S) (h60 : S 7 0 0 < 60) {u q c : Int} (hu : 0 ≤ u ∧ u < S 0 0 0) (hq : nt S q) (hg : S 12 q 0 ≠ 2) (hc : 0 ≤ c ∧ c ≤ 999) : Inv (Srep S u q c) :=
  inv_settle (inv_rep iv h60 hu hq hg hc) ((xt_nt (Xt_NN _ _ _)).mpr (.inl (iv_hd iv hq).1)) (.inl rfl)
theorem RepC.addRep (hi : Ij a) (hr : RepC a S h) (iv : Inv S) {u q c e : Int} (iT : Inv (Srep S u q c)) (h60 : S 7 0 0 < 60) (hq : nt S q) (he : lastE S q e)
    (k3 : gK h (a 20 (S 7 0 0)) = 3) (i0 : gI h (a 20 (S 7 0 0)) 0 = S 7 0 0) (i1 : gI h (a 20 (S 7 0 0)) 1 = u) (i2 : gI h (a 20 (S 7 0 0)) 2 = c) (i3 : gI h (a 20 (S 7 0 0)) 3 = S 23 q 0 + 1) (i7 : gI h (a 20 (S 7 0 0)) 7 = 0) (i8 : gI h (a 20 (S 7 0 0)) 8 = 0) (i9 : gI h (a 20 (S 7 0 0)) 9 = 0)
    (r4 : gR h (a 20 (S 7 0 0)) 4 = some (a 20 q)) (r5 : gR h (a 20 (S 7 0 0)) 5 = some (a 21 (S 11 q 0))) :
    RepC a (Srep S u q c) (pI (pR (pI (pI (pR (pR h (a 20 (S 7 0 0)) 6 (rf a 20 (NX S e))) (a 20 e) 6 (some (a 20 (S 7 0 0)))) (a 20 q) 7 (RP S q + 1)) (a 21 (S 11 q 0)) 5 0) (a 3 0) (S 7 0 0) (some (a 20 (S 7 0 0)))) (a 0 0) 6 (S 7 0 0 + 1)) := by
  have x := Xt_rep S u q c
  have n7 := x.1
  have b := iv.2.2.1.1
  have z0 := iv.2.2.1.2.2.1 (S 7 0 0) (Int.le_refl _) h60
  have o : ∀ (k : Nat) (x j : Int), k ≠ 7 → k ≠ 18 → x ≠ S 7 0 0 → Srep S u q c k x j = S k x j := fun k x j h1 h2 h3 => Srep_o S u q c k x j ⟨h1, h2, .inl h3⟩
  have e11 : Srep S u q c 11 (S 7 0 0) 0 = S 11 q 0 := (Srep_n _ _ _ _ _ (by omega)).trans rfl
  have e10 : Srep S u q c 10 (S 7 0 0) 0 = q := (Srep_n _ _ _ _ _ (by omega)).trans rfl
  have e12 : Srep S u q c 12 (S 7 0 0) 0 = 0 := (Srep_n _ _ _ _ _ (by omega)).trans z0.1
  have e23 : Srep S u q c 23 (S 7 0 0) 0 = S 23 q 0 + 1 := (Srep_n _ _ _ _ _ (by omega)).trans rfl
  have hnT : nt (Srep S u q c) (S 7 0 0) := (xt_nt x).mpr (.inr ⟨rfl, b.1⟩)
  have qn := xt_lt hq
  have en := xt_lt he.1
  have hh := iv_hd iv hq
  have sm1 : ∀ f i, f ≠ 0 → f ≠ 3 → f ≠ 20 → f ≠ 21 → sm h (pI (pR (pI (pI (pR (pR h (a 20 (S 7 0 0)) 6 (rf a 20 (NX S e))) (a 20 e) 6 (some (a 20 (S 7 0 0)))) (a 20 q) 7 (RP S q + 1)) (a 21 (S 11 q 0)) 5 0) (a 3 0) (S 7 0 0) (some (a 20 (S 7 0 0)))) (a 0 0) 6 (S 7 0 0 + 1)) (a f i) := fun f i n0 n3 n20 n21 => (smR hi (.inl n20)).trans ((smR hi (.inl n20)).trans ((smI hi (.inl n20)).trans ((smI hi (.inl n21)).trans ((smR hi (.inl n3)).trans (smI hi (.inl n0))))))
  have gi : ∀ k j, gI (pI (pR (pI (pI (pR (pR h (a 20 (S 7 0 0)) 6 (rf a 20 (NX S e))) (a 20 e) 6 (some (a 20 (S 7 0 0)))) (a 20 q) 7 (RP S q + 1)) (a 21 (S 11 q 0)) 5 0) (a 3 0) (S 7 0 0) (some (a 20 (S 7 0 0)))) (a 0 0) 6 (S 7 0 0 + 1)) (a 20 k) j = if k = q ∧ j = 7 then RP S q + 1 else gI h (a 20 k) j := fun k j => by
    simp only [gI_pI, gI_pR, hi, Nat.reduceEqDiff, reduceCtorEq, false_and, if_false, true_and, and_true]
  have gr : ∀ k j, gR (pI (pR (pI (pI (pR (pR h (a 20 (S 7 0 0)) 6 (rf a 20 (NX S e))) (a 20 e) 6 (some (a 20 (S 7 0 0)))) (a 20 q) 7 (RP S q + 1)) (a 21 (S 11 q 0)) 5 0) (a 3 0) (S 7 0 0) (some (a 20 (S 7 0 0)))) (a 0 0) 6 (S 7 0 0 + 1)) (a 20 k) j = if k = e ∧ j = 6 then some (a 20 (S 7 0 0)) else if k = S 7 0 0 ∧ j = 6 then rf a 20 (NX S e) else gR h (a 20 k) j := fun k j => by
    simp only [gR_pI, gR_pR, hi, Nat.reduceEqDiff, reduceCtorEq, false_and, if_false, true_and, and_true]
  refine .mk ?_ (hr.Tx.c (sm1 _ _ (by omega) (by omega) (by omega) (by omega)) (sm1 _ _ (by omega) (by omega) (by omega) (by omega)) (sm1 _ _ (by omega) (by omega) (by omega) (by omega)) (sm1 _ _ (by omega) (by omega) (by omega) (by omega)) (fun _ => sm1 _ _ (by omega) (by omega) (by omega) (by omega)) rfl (fun _ => rfl) (fun _ _ => rfl) (fun _ => rfl) rfl) hr.B (fun k hk => ?_) (fun k hk => ?_) (hr.E.c (sm1 _ _ (by omega) (by omega) (by omega) (by omega)) (sm1 _ _ (by omega) (by omega) (by omega) (by omega)) (fun _ => sm1 _ _ (by omega) (by omega) (by omega) (by omega)) rfl (fun _ _ => rfl))
  · obtain ⟨a0, a1, a2, a3, a4, a5, a6, a7, a8, a9, a10⟩ := hr.A
    refine ⟨a0, ?_, ?_, ?_, ?_, ?_, ?_, ?_, a8, a9, fun u => ?_⟩
    · simp only [gI_pI, gI_pR, hi, Nat.reduceEqDiff, reduceCtorEq, Int.reduceEq, and_false, false_and, if_false]; exact a1
    · rw [gI_pI, if_pos ⟨rfl, rfl⟩, n7]
    · simp only [gR_pI, gR_pR, hi, Nat.reduceEqDiff, reduceCtorEq, Int.reduceEq, and_false, false_and, if_false]; exact a3
    · simp only [gR_pI, gR_pR, hi, Nat.reduceEqDiff, reduceCtorEq, Int.reduceEq, and_false, false_and, if_false]; exact a4
    · simp only [gR_pI, gR_pR, hi, Nat.reduceEqDiff, reduceCtorEq, Int.reduceEq, and_false, false_and, if_false]; exact a5
    · simp only [gR_pI, gR_pR, hi, Nat.reduceEqDiff, reduceCtorEq, Int.reduceEq, and_false, false_and, if_false]; exact a6
    · simp only [gR_pI, gR_pR, hi, Nat.reduceEqDiff, reduceCtorEq, Int.reduceEq, and_false, false_and, if_false]; exact a7
    · simp only [gI_pI, gI_pR, hi, Nat.reduceEqDiff, reduceCtorEq, Int.reduceEq, and_false, false_and, if_false]; exact a10 u
  · have g3 : gR (pI (pR (pI (pI (pR (pR h (a 20 (S 7 0 0)) 6 (rf a 20 (NX S e))) (a 20 e) 6 (some (a 20 (S 7 0 0)))) (a 20 q) 7 (RP S q + 1)) (a 21 (S 11 q 0)) 5 0) (a 3 0) (S 7 0 0) (some (a 20 (S 7 0 0)))) (a 0 0) 6 (S 7 0 0 + 1)) (a 3 0) k = if k = S 7 0 0 then some (a 20 (S 7 0 0)) else gR h (a 3 0) k := by
      simp only [gR_pI, gR_pR, hi, Nat.reduceEqDiff, reduceCtorEq, false_and, if_false, true_and, and_true]
    unfold CN
    simp only [gi, gr, g3, gK_pI, gK_pR, Int.reduceEq, and_false, and_true, if_false]
    rcases (xt_nt x).mp hk with p | p
    · have ne := xt_lt p
      have p1 := p.1
      have p2 := p.2
      obtain ⟨n0, n1, n2, n3, n4, n5, n6, n7', n8, n9, n10, n11, n12, n13⟩ := hr.N k p
      have hhk := iv_hd iv p
      have hle := (iv.2.2.1.2.1 k p).2.2.2.2.2.1
      rw [if_neg ne, o 8 k 0 (by omega) (by omega) ne, o 9 k 0 (by omega) (by omega) ne, o 23 k 0 (by omega) (by omega) ne, o 12 k 0 (by omega) (by omega) ne, o 10 k 0 (by omega) (by omega) ne, o 11 k 0 (by omega) (by omega) ne]
      refine ⟨n0, n1, n2, n3, n4, n5, ?_, n7', n8, n9, fun j hj z => ?_, fun j hj z => ?_, fun z => ?_, fun j hj z => ?_⟩
      · rw [xt_RP x iv, e10, e12]
        by_cases d : k = q
        · rw [if_pos d, b2i_t ⟨d.symm, by omega⟩, d]
        · rw [if_neg d, b2i_f (fun z => d z.1.symm), n6]; omega
      · have hj1 := hj.1
        rcases iv_par iv p with f | f
        · omega
        · exact n10 j (z ▸ f.1) z
      · exact n11 j (z ▸ hhk) z
      · by_cases d : k = e
        · rw [d, xt_NXe x iv iT hq e10 e23 e11 he] at z; omega
        · rw [if_neg d, if_neg ne]
          rw [xt_NXk x iv iT hq e10 e23 e11 he p d] at z
          exact n12 z
      · by_cases d : k = e
        · rw [if_pos d]
          rw [d, xt_NXe x iv iT hq e10 e23 e11 he] at z
          rw [z]
        · rw [if_neg d, if_neg ne]
          rw [xt_NXk x iv iT hq e10 e23 e11 he p d] at z
          have hj1 := hj.1
          rcases NX_nt iv p with f | f
          · omega
          · exact n13 j (z ▸ f) z
    · obtain ⟨p, -⟩ := p
      subst p
      have nx := xt_NXn x iv iT hq e10 e23 e11 he
      rw [if_pos rfl, if_neg (fun z => qn z.symm), if_neg (fun z => en z.symm), if_pos rfl, nx, e10, e11, e12, e23, xt_RPn x iv iT, Srep_n _ _ _ _ 8 (by omega), Srep_n _ _ _ _ 9 (by omega)]
      have q1 := hq.1
      refine ⟨rfl, k3, i0, i1, i2, i3, i7, by rw [i8, b2i_f (fun z => z rfl)], by rw [i9, b2i_f (by omega)], fun z => by omega, fun j hj z => by rw [r4, z], fun j hj z => by rw [r5, z], fun z => ?_, fun j hj z => ?_⟩
      · unfold rf; rw [if_pos z]
      · unfold rf
        rw [if_neg (by have := hj.1; omega), z]
  · have hkS : hd S k ∧ k ≠ S 7 0 0 := by
      rcases (xt_nt x).mp hk.1 with p | p
      · have ne := xt_lt p
        have h11 := hk.2
        rw [o 11 k 0 (by omega) (by omega) ne] at h11
        exact ⟨⟨p, h11⟩, ne⟩
      · have h11 := hk.2
        rw [p.1, e11] at h11
        have := hh.1.2
        omega
    obtain ⟨hkS, ne⟩ := hkS
    obtain ⟨m0, m1, m2, m3, m4, m5, m6, m7, m8, m9, m10, m11, m12, m13, m14⟩ := hr.H k hkS
    have s22 := sm1 22 k (by omega) (by omega) (by omega) (by omega)
    have s23 := sm1 23 k (by omega) (by omega) (by omega) (by omega)
    have gi2 : ∀ j, gI (pI (pR (pI (pI (pR (pR h (a 20 (S 7 0 0)) 6 (rf a 20 (NX S e))) (a 20 e) 6 (some (a 20 (S 7 0 0)))) (a 20 q) 7 (RP S q + 1)) (a 21 (S 11 q 0)) 5 0) (a 3 0) (S 7 0 0) (some (a 20 (S 7 0 0)))) (a 0 0) 6 (S 7 0 0 + 1)) (a 21 k) j = if k = S 11 q 0 ∧ j = 5 then 0 else gI h (a 21 k) j := fun j => by
      simp only [gI_pI, gI_pR, hi, Nat.reduceEqDiff, reduceCtorEq, false_and, if_false, true_and, and_true]
    have gr2 : ∀ j, gR (pI (pR (pI (pI (pR (pR h (a 20 (S 7 0 0)) 6 (rf a 20 (NX S e))) (a 20 e) 6 (some (a 20 (S 7 0 0)))) (a 20 q) 7 (RP S q + 1)) (a 21 (S 11 q 0)) 5 0) (a 3 0) (S 7 0 0) (some (a 20 (S 7 0 0)))) (a 0 0) 6 (S 7 0 0 + 1)) (a 21 k) j = gR h (a 21 k) j := fun j => by
      simp only [gR_pI, gR_pR, hi, Nat.reduceEqDiff, reduceCtorEq, false_and, if_false, true_and, and_true]
    have e18 : Srep S u q c 18 k 0 = if k = S 11 q 0 then 0 else S 18 k 0 := by
      unfold Srep
      rw [su_i]
      by_cases d : k = S 11 q 0
      · rw [if_pos ⟨d, rfl⟩, if_pos d]
      · rw [if_neg (fun z => d z.1), if_neg d, NN_o _ _ _ _ _ _ (by omega)]
    unfold CH
    simp only [gi2, gr2, s22.1, s23.1, s23.2.1, s22.2.2.1, s23.2.2.1, gK_pI, gK_pR, Int.reduceEq, and_false, and_true, if_false]
    rw [o 8 k 0 (by omega) (by omega) ne, o 13 k 0 (by omega) (by omega) ne, o 14 k 0 (by omega) (by omega) ne, o 15 k 0 (by omega) (by omega) ne, o 16 k 0 (by omega) (by omega) ne, o 17 k 0 (by omega) (by omega) ne, o 19 k 0 (by omega) (by omega) ne, e18]
    refine ⟨m0, m1, m2, m3, m4, m5, ?_, m7, m8, m9, m10, m11, m12, m13, fun i j1 j2 => ?_⟩
    · by_cases d : k = S 11 q 0
      · rw [if_pos d, if_pos d]
      · rw [if_neg d, if_neg d]; exact m6
    · rw [o 20 k i (by omega) (by omega) ne]; exact m14 i j1 j2
/-- the walk to the last note behind q's replies -/
theorem c_walk (hr : RepC a S h) (iv : Inv S) (q : Int) (z : Nat) (hq : nt S q) (h60 : S 7 0 0 < 60) (hd58 : S 23 q 0 ≤ 58) (hQ : ∀ e, lastE S q e → WP 16 31 [some (zr (some (a 20 q))), some (zr (some z)), some (zr (some (a 20 e)))] [] h Q) (m : Nat) :
    ∀ x, nt S x → S 11 x 0 = S 11 q 0 → KY S q ≤ KY S x → KY S x < kyN S q → ms S (fun _ => True) x ≤ m → WP 16 2 [some (zr (some (a 20 q))), some (zr (some z)), some (zr (some (a 20 x)))] [] h Q := by
  induction m with
  | zero => intro x hx e l1 l2 lm; have := ms_1 (G := fun _ => True) iv hx trivial; omega
  | succ m ih =>
    intro x hx e l1 l2 lm
    rw [b_16_2]
    by_cases c : NX S x = -1
    · have rn : rf a 20 (NX S x) = none := if_pos c
      simp (disch := first | assumption | omega) only [kont_v, kont_n, kont_x, Nat.reduceAdd, ad_some, kd_some, ixa, and_true, true_and, and_self, eq_self, ne_eq, brT, brF, true_or, or_true, and_imp, hr.c0, hr.c1, hr.c2, hr.c3, hr.c4, hr.c5, hr.c6, hr.c7, hr.c8, hr.c9, hr.c10, hr.c11, hr.c12, hr.c13, hr.c14, hr.c15, hr.c16, hr.c17, hr.c18, hr.c19, hr.c20, hr.c21, hr.c22, hr.c23, hr.c24, hr.c25, hr.c26, hr.c27, hr.c28, hr.c29, hr.c30, hr.c31, hr.c32, hr.c33, hr.c34, hr.c35, hr.c36, hr.c37, hr.c38, hr.c39, hr.c40, hr.c41, hr.c42, hr.c43, hr.c44, hr.c45, hr.c46, hr.c47, hr.c48, hr.c49, hr.c50, hr.c51, hr.c52, hr.c53, hr.c54, hr.c55, hr.c56, hr.c57, hr.c58, hr.c59, hr.c60, hr.c61, hr.c62, hr.c63, hr.c64, hr.c65, hr.c66, hr.c67, hr.c68, hr.c69, hr.c70, c_next hr iv hx, rn, brt]
      exact hQ x ⟨hx, e, l2, .inl c⟩
    · have rn : rf a 20 (NX S x) = some (a 20 (NX S x)) := if_neg c
      have hn := (NX_nt iv hx).resolve_left c
      have n3 := isN_nt (NX_sp iv x hx) c
      by_cases d : S 23 (NX S x) 0 ≤ S 23 q 0
      · simp (disch := first | assumption | omega) only [b_16_9, kont_v, kont_n, kont_x, Nat.reduceAdd, ad_some, kd_some, ixa, and_true, true_and, and_self, eq_self, ne_eq, brT, brF, true_or, or_true, and_imp, hr.c0, hr.c1, hr.c2, hr.c3, hr.c4, hr.c5, hr.c6, hr.c7, hr.c8, hr.c9, hr.c10, hr.c11, hr.c12, hr.c13, hr.c14, hr.c15, hr.c16, hr.c17, hr.c18, hr.c19, hr.c20, hr.c21, hr.c22, hr.c23, hr.c24, hr.c25, hr.c26, hr.c27, hr.c28, hr.c29, hr.c30, hr.c31, hr.c32, hr.c33, hr.c34, hr.c35, hr.c36, hr.c37, hr.c38, hr.c39, hr.c40, hr.c41, hr.c42, hr.c43, hr.c44, hr.c45, hr.c46, hr.c47, hr.c48, hr.c49, hr.c50, hr.c51, hr.c52, hr.c53, hr.c54, hr.c55, hr.c56, hr.c57, hr.c58, hr.c59, hr.c60, hr.c61, hr.c62, hr.c63, hr.c64, hr.c65, hr.c66, hr.c67, hr.c68, hr.c69, hr.c70, c_next hr iv hx, rn, reduceCtorEq, brt, brF]
        exact hQ x ⟨hx, e, l2, .inr (walk_e iv hq hx e l1 c h60 hd58 d)⟩
      · simp (disch := first | assumption | omega) only [b_16_9, b_16_23, kont_v, kont_n, kont_x, Nat.reduceAdd, ad_some, kd_some, ixa, and_true, true_and, and_self, eq_self, ne_eq, brT, brF, true_or, or_true, and_imp, hr.c0, hr.c1, hr.c2, hr.c3, hr.c4, hr.c5, hr.c6, hr.c7, hr.c8, hr.c9, hr.c10, hr.c11, hr.c12, hr.c13, hr.c14, hr.c15, hr.c16, hr.c17, hr.c18, hr.c19, hr.c20, hr.c21, hr.c22, hr.c23, hr.c24, hr.c25, hr.c26, hr.c27, hr.c28, hr.c29, hr.c30, hr.c31, hr.c32, hr.c33, hr.c34, hr.c35, hr.c36, hr.c37, hr.c38, hr.c39, hr.c40, hr.c41, hr.c42, hr.c43, hr.c44, hr.c45, hr.c46, hr.c47, hr.c48, hr.c49, hr.c50, hr.c51, hr.c52, hr.c53, hr.c54, hr.c55, hr.c56, hr.c57, hr.c58, hr.c59, hr.c60, hr.c61, hr.c62, hr.c63, hr.c64, hr.c65, hr.c66, hr.c67, hr.c68, hr.c69, hr.c70, c_next hr iv hx, rn, reduceCtorEq, brf, brF]
        have := ms_lt (G := fun _ => True) iv hx trivial (NX_sp iv x hx) c
        exact ih _ hn (n3.2.2.1.trans e) (by omega) (walk_s iv hq hx e l1 l2 c h60 (by omega)) (by omega)
theorem c_repB (hi : Ij a) (hr : RepC a S h) (iv : Inv S) (u q c : Int) (c7 : S 7 0 0 < 60) (hq : nt S q) (iT : Inv (Srep S u q c)) (K20 : gK h (a 20 (S 7 0 0)) = 3) (I20 : ∀ j, gI h (a 20 (S 7 0 0)) j = if j = 3 then S 23 q 0 + 1 else if j = 2 then c else if j = 1 then u else if j = 0 then S 7 0 0 else 0) (R20 : gR h (a 20 (S 7 0 0)) 4 = some (a 20 q) ∧ gR h (a 20 (S 7 0 0)) 5 = some (a 21 (S 11 q 0)))
    (k : ∀ g, RepC a (Srep S u q c) g → Fr (fun f => 100 ≤ f) a h a g → gC g = gC h → gS g = gS h → Q (.inl (some (zi (S 7 0 0)))) g) :
    WP 41 92 [some (zr (some (a 0 0))), some (zi u), some (zi q), some (zi c), some (zr (some (a 20 q))), none] [zr (some (a 20 (S 7 0 0)))] h Q := by
  have bn := iv.2.2.1.1
  have hqn := xt_lt hq
  have hqd := nt_d iv hq
  have hqd2 : S 23 q 0 ≤ 58 := by
    have := (iv.2.2.1.2.1 q hq).2.2.2.2.2.2
    have := hq.2
    omega
  have wp := WD_pos (S 23 q 0 + 1)
  have lk := ky_lt bn.1 (by omega) wp
  have k20q := hr.c34 q hq
  have K21q : gK h (a 21 (S 11 q 0)) = 4 := hr.c47 _ (iv_hd iv hq)
  have I200 : gI h (a 20 (S 7 0 0)) 0 = S 7 0 0 := by rw [I20]; simp only [Int.reduceEq, if_true, if_false]
  rw [b_41_92, b_16_0]
  refine ⟨(kd_some _ _ _).mpr k20q, ?_⟩
  refine c_walk hr iv q (a 20 (S 7 0 0)) hq c7 hqd2 (fun e he => ?_) 60 q hq rfl (Int.le_refl _) (by unfold kyN; omega) (by have := ms_b (G := fun _ => True) iv q; omega)
  have hne := he.1
  have hen := xt_lt hne
  have rpb := RP_b iv q
  have k20e := hr.c34 e hne
  have w := RepC.addRep hi hr iv iT c7 hq he K20 I200 (by rw [I20]; simp only [Int.reduceEq, if_true, if_false]) (by rw [I20]; simp only [Int.reduceEq, if_true, if_false]) (by rw [I20]; simp only [Int.reduceEq, if_true, if_false]) (by rw [I20]; simp only [Int.reduceEq, if_true, if_false]) (by rw [I20]; simp only [Int.reduceEq, if_true, if_false]) (by rw [I20]; simp only [Int.reduceEq, if_true, if_false]) R20.1 R20.2
  have fin := k _ w ((Fr_pR hi (by omega)).trans ((Fr_pR hi (by omega)).trans ((Fr_pI hi (by omega)).trans ((Fr_pI hi (by omega)).trans ((Fr_pR hi (by omega)).trans (Fr_pI hi (by omega))))))) rfl rfl
  have cn := c_next hr iv hne
  have cs := c_str hr iv hq
  have g7 := hr.c39 q hq
  simp (disch := first | assumption | omega) only [b_16_31, b_16_39, b_16_44, b_16_54, b_41_101, b_41_110, b_77_0, b_77_10, b_77_20, b_41_116, kont_v, kont_n, kont_x, Nat.reduceAdd, ad_some, kd_some, ixa, and_true, true_and, and_self, eq_self, ne_eq, brT, brF, true_or, or_true, and_imp, aT, inR, hr.c0, hr.c2, hr.c5, hr.c29, hr.c30, k20q, k20e, g7, cn, cs, K20, K21q, I200, reduceCtorEq, not_false_eq_true, gK_pI, gL_pI, gR_pI, gI_pI, gK_pR, gL_pR, gI_pR, gR_pR, hi, Nat.reduceEqDiff, Int.reduceEq, and_false, false_and, if_false, if_true]
  exact fin
theorem c_reply (hi : Ij a) (hr : RepC a S h) (iv : Inv S) (rc : gC h + 10 ≤ MXC) (rs : gS h + 100 ≤ MXS) (u q c : Int) (k : br (0 ≤ u ∧ u < S 0 0 0) (br (nt S q ∧ S 12 q 0 ≠ 2) (br (0 ≤ c ∧ c ≤ 999) (br ((2 ≤ S 1 u 0 ∧ SE S u (S 1 u 0) (S 11 q 0)) ∧ S 12 q 0 = 0 ∧ S 7 0 0 < 60) (CK a (Srep S u q c) h Q (zi (S 7 0 0))) (thr h 2 Q)) (thr h 1 Q)) (thr h 3 Q)) (thr h 3 Q)) :
    WP 41 0 [some (zr (some (a 0 0))), some (zi u), some (zi q), some (zi c), none, none] [] h Q := by
  obtain ⟨w0, w1⟩ := iv.1.1
  have bn := iv.2.2.1.1
  by_cases c1 : 0 ≤ u ∧ u < S 0 0 0
  · rw [brt c1] at k
    by_cases c2 : nt S q ∧ S 12 q 0 ≠ 2
    · rw [brt c2] at k
      have hq := c2.1
      by_cases c3 : 0 ≤ c ∧ c ≤ 999
      · rw [brt c3] at k
        by_cases c4 : 2 ≤ S 1 u 0
        · by_cases c5 : SE S u (S 1 u 0) (S 11 q 0)
          · by_cases c6 : S 12 q 0 = 0
            · by_cases c7 : S 7 0 0 < 60
              · rw [brt ⟨⟨c4, c5⟩, c6, c7⟩] at k
                simp (disch := first | assumption | omega) only [b_41_0, b_41_5, b_41_10, b_41_16, b_41_19, b_41_29, b_41_36, b_41_39, b_41_43, b_41_44, b_41_47, b_41_55, b_41_64, b_41_68, b_41_69, kont_v, kont_n, kont_x, Nat.reduceAdd, ad_some, kd_some, ixa, and_true, true_and, and_self, eq_self, ne_eq, brT, brF, true_or, or_true, and_imp, hr.c0, hr.c1, hr.c2, hr.c3, hr.c4, hr.c5, hr.c6, hr.c7, hr.c8, hr.c9, hr.c10, hr.c11, hr.c12, hr.c13, hr.c14, hr.c15, hr.c16, hr.c17, hr.c18, hr.c19, hr.c20, hr.c21, hr.c22, hr.c23, hr.c24, hr.c25, hr.c26, hr.c27, hr.c28, hr.c29, hr.c30, hr.c31, hr.c32, hr.c33, hr.c34, hr.c35, hr.c36, hr.c37, hr.c38, hr.c39, hr.c40, hr.c41, hr.c42, hr.c43, hr.c44, hr.c45, hr.c46, hr.c47, hr.c48, hr.c49, hr.c50, hr.c51, hr.c52, hr.c53, hr.c54, hr.c55, hr.c56, hr.c57, hr.c58, hr.c59, hr.c60, hr.c61, hr.c62, hr.c63, hr.c64, hr.c65, hr.c66, hr.c67, hr.c68, hr.c69, hr.c70, aT, inR, c_str hr iv, c_reqUser hr iv, c_reqNote hr iv, c_reqSign hr iv, c_isHeadR hr iv, c_isSeen hr iv, c_tsize hr iv, c_room hr iv, s_isWithin, s_isRight, s_isContent, s_reqAr, s_reqSt, s_reqIx, s_reqAr1, s_reqAr0, s_reqSt1, s_reqSt0, s_reqIx1, s_reqIx0, brt, brf, b2iT, b2iF, b2i_0, brN, brT, brF, brS, Classical.not_not, not_true_eq_false, not_false_eq_true, b2i_t, b2i_f, one_ne0, zz01, oz01, thr, and_false, false_and, or_self, gK_pI, gL_pI, gR_pI, gI_pI, hi, reduceCtorEq, Nat.reduceEqDiff, Int.reduceEq, if_true, if_false, c6]
                rw [b_41_72]
                refine ⟨⟨by omega, by omega⟩, ?_⟩
                refine newC hi hr 20 (S 7 0 0) 10 3 (by omega) (LvC_new S 20 (by omega)) (G := fun z g => WP 41 75 [some (zr (some (a 0 0))), some (zi u), some (zi q), some (zi c), some (zr (some (a 20 q))), none] [zr (some z)] g Q) (fun b1 g1 ib1 hr1 fr1 gc1 gs1 kq1 lq1 zI1 zR1 liv1 => ?_)
                have e01 := (liv1 0 0 (by rw [hr.c0]; omega) (by omega)).1
                have e21 := (liv1 20 q (by rw [hr.c34 q hq]; omega) (fun z => xt_lt hq z.2)).1
                rw [← e01, ← e21]
                have n20 := LvC_new S 20 (by omega)
                have hr7 := (((((hr1.wI ib1 n20 (k := 0) (x := S 7 0 0)).wI ib1 n20 (k := 1) (x := u)).wI ib1 n20 (k := 2) (x := c)).wR ib1 n20 (k := 4) (x := some (b1 20 q))).wR ib1 n20 (k := 5) (x := some (b1 21 (S 11 q 0)))).wI ib1 n20 (k := 3) (x := S 23 q 0 + 1)
                have hqd := nt_d iv hq
                have hi0 := hi
                clear hi hr
                have hi := ib1
                have hr := hr1
                simp (disch := first | assumption | omega) only [b_41_75, b_12_0, b_12_9, b_12_14, b_12_19, b_12_25, b_12_31, b_12_41, b_12_48, b_12_51, kont_v, kont_n, kont_x, Nat.reduceAdd, ad_some, kd_some, ixa, and_true, true_and, and_self, eq_self, ne_eq, brT, brF, true_or, or_true, and_imp, hr.c0, hr.c1, hr.c2, hr.c3, hr.c4, hr.c5, hr.c6, hr.c7, hr.c8, hr.c9, hr.c10, hr.c11, hr.c12, hr.c13, hr.c14, hr.c15, hr.c16, hr.c17, hr.c18, hr.c19, hr.c20, hr.c21, hr.c22, hr.c23, hr.c24, hr.c25, hr.c26, hr.c27, hr.c28, hr.c29, hr.c30, hr.c31, hr.c32, hr.c33, hr.c34, hr.c35, hr.c36, hr.c37, hr.c38, hr.c39, hr.c40, hr.c41, hr.c42, hr.c43, hr.c44, hr.c45, hr.c46, hr.c47, hr.c48, hr.c49, hr.c50, hr.c51, hr.c52, hr.c53, hr.c54, hr.c55, hr.c56, hr.c57, hr.c58, hr.c59, hr.c60, hr.c61, hr.c62, hr.c63, hr.c64, hr.c65, hr.c66, hr.c67, hr.c68, hr.c69, hr.c70, aT, inR, c_str hr iv, kq1, reduceCtorEq, not_false_eq_true, gK_pI, gL_pI, gR_pI, gI_pI, gK_pR, gL_pR, gI_pR, gR_pR, hi, Nat.reduceEqDiff, Int.reduceEq, and_false, false_and, if_false, if_true, brF, brT, brf]
                revert hr7
                have fr7 : Fr (fun f => 100 ≤ f) b1 g1 b1 (pI (pR (pR (pI (pI (pI g1 (b1 20 (S 7 0 0)) 0 (S 7 0 0)) (b1 20 (S 7 0 0)) 1 u) (b1 20 (S 7 0 0)) 2 c) (b1 20 (S 7 0 0)) 4 (some (b1 20 q))) (b1 20 (S 7 0 0)) 5 (some (b1 21 (S 11 q 0)))) (b1 20 (S 7 0 0)) 3 (S 23 q 0 + 1)) :=
                  (Fr_pI hi (by omega)).trans ((Fr_pI hi (by omega)).trans ((Fr_pI hi (by omega)).trans ((Fr_pR hi (by omega)).trans ((Fr_pR hi (by omega)).trans (Fr_pI hi (by omega))))))
                revert fr7
                generalize hg7 : pI (pR (pR (pI (pI (pI g1 (b1 20 (S 7 0 0)) 0 (S 7 0 0)) (b1 20 (S 7 0 0)) 1 u) (b1 20 (S 7 0 0)) 2 c) (b1 20 (S 7 0 0)) 4 (some (b1 20 q))) (b1 20 (S 7 0 0)) 5 (some (b1 21 (S 11 q 0)))) (b1 20 (S 7 0 0)) 3 (S 23 q 0 + 1) = g7
                intro fr7 hr7
                have K20 : gK g7 (b1 20 (S 7 0 0)) = 3 := by rw [← hg7]; exact kq1
                have I20 : ∀ j, gI g7 (b1 20 (S 7 0 0)) j = if j = 3 then S 23 q 0 + 1 else if j = 2 then c else if j = 1 then u else if j = 0 then S 7 0 0 else 0 := fun j => by
                  rw [← hg7]
                  simp only [gI_pI, gI_pR, true_and, zI1]
                have R20 : gR g7 (b1 20 (S 7 0 0)) 4 = some (b1 20 q) ∧ gR g7 (b1 20 (S 7 0 0)) 5 = some (b1 21 (S 11 q 0)) := by
                  rw [← hg7]
                  simp only [gR_pI, gR_pR, true_and, Int.reduceEq, if_true, if_false, and_self]
                have c7' : gC g7 = gC g1 := by rw [← hg7]; rfl
                have s7' : gS g7 = gS g1 := by rw [← hg7]; rfl
                clear hg7 hr
                have hr := hr7
                have iT := inv_reply iv c7 c1 hq c2.2 c3
                exact c_repB hi hr7 iv u q c c7 hq iT K20 I20 R20 (fun g hr9 fr9 gc9 gs9 => k b1 g hr9 ⟨hi, fr1.trans (fr7.trans fr9), by omega, by omega, e01⟩)
              · rw [brf (fun z => c7 z.2.2)] at k
                simp (disch := first | assumption | omega) only [b_41_0, b_41_5, b_41_10, b_41_16, b_41_19, b_41_29, b_41_36, b_41_39, b_41_43, b_41_44, b_41_47, b_41_55, b_41_64, b_41_68, b_41_69, b_41_75, b_41_92, b_41_101, b_41_110, b_41_116, kont_v, kont_n, kont_x, Nat.reduceAdd, ad_some, kd_some, ixa, and_true, true_and, and_self, eq_self, ne_eq, brT, brF, true_or, or_true, and_imp, hr.c0, hr.c1, hr.c2, hr.c3, hr.c4, hr.c5, hr.c6, hr.c7, hr.c8, hr.c9, hr.c10, hr.c11, hr.c12, hr.c13, hr.c14, hr.c15, hr.c16, hr.c17, hr.c18, hr.c19, hr.c20, hr.c21, hr.c22, hr.c23, hr.c24, hr.c25, hr.c26, hr.c27, hr.c28, hr.c29, hr.c30, hr.c31, hr.c32, hr.c33, hr.c34, hr.c35, hr.c36, hr.c37, hr.c38, hr.c39, hr.c40, hr.c41, hr.c42, hr.c43, hr.c44, hr.c45, hr.c46, hr.c47, hr.c48, hr.c49, hr.c50, hr.c51, hr.c52, hr.c53, hr.c54, hr.c55, hr.c56, hr.c57, hr.c58, hr.c59, hr.c60, hr.c61, hr.c62, hr.c63, hr.c64, hr.c65, hr.c66, hr.c67, hr.c68, hr.c69, hr.c70, aT, inR, c_str hr iv, c_reqUser hr iv, c_reqNote hr iv, c_reqSign hr iv, c_isHeadR hr iv, c_isSeen hr iv, c_tsize hr iv, c_room hr iv, s_isWithin, s_isRight, s_isContent, s_reqAr, s_reqSt, s_reqIx, s_reqAr1, s_reqAr0, s_reqSt1, s_reqSt0, s_reqIx1, s_reqIx0, brt, brf, b2iT, b2iF, b2i_0, brN, brT, brF, brS, Classical.not_not, not_true_eq_false, not_false_eq_true, b2i_t, b2i_f, one_ne0, zz01, oz01, thr, and_false, false_and, or_self, gK_pI, gL_pI, gR_pI, gI_pI, hi, reduceCtorEq, Nat.reduceEqDiff, Int.reduceEq, if_true, if_false, c6]
                exact k.2
            · rw [brf (fun z => c6 z.2.1)] at k
              simp (disch := first | assumption | omega) only [b_41_0, b_41_5, b_41_10, b_41_16, b_41_19, b_41_29, b_41_36, b_41_39, b_41_43, b_41_44, b_41_47, b_41_55, b_41_64, b_41_68, b_41_69, b_41_75, b_41_92, b_41_101, b_41_110, b_41_116, kont_v, kont_n, kont_x, Nat.reduceAdd, ad_some, kd_some, ixa, and_true, true_and, and_self, eq_self, ne_eq, brT, brF, true_or, or_true, and_imp, hr.c0, hr.c1, hr.c2, hr.c3, hr.c4, hr.c5, hr.c6, hr.c7, hr.c8, hr.c9, hr.c10, hr.c11, hr.c12, hr.c13, hr.c14, hr.c15, hr.c16, hr.c17, hr.c18, hr.c19, hr.c20, hr.c21, hr.c22, hr.c23, hr.c24, hr.c25, hr.c26, hr.c27, hr.c28, hr.c29, hr.c30, hr.c31, hr.c32, hr.c33, hr.c34, hr.c35, hr.c36, hr.c37, hr.c38, hr.c39, hr.c40, hr.c41, hr.c42, hr.c43, hr.c44, hr.c45, hr.c46, hr.c47, hr.c48, hr.c49, hr.c50, hr.c51, hr.c52, hr.c53, hr.c54, hr.c55, hr.c56, hr.c57, hr.c58, hr.c59, hr.c60, hr.c61, hr.c62, hr.c63, hr.c64, hr.c65, hr.c66, hr.c67, hr.c68, hr.c69, hr.c70, aT, inR, c_str hr iv, c_reqUser hr iv, c_reqNote hr iv, c_reqSign hr iv, c_isHeadR hr iv, c_isSeen hr iv, c_tsize hr iv, c_room hr iv, s_isWithin, s_isRight, s_isContent, s_reqAr, s_reqSt, s_reqIx, s_reqAr1, s_reqAr0, s_reqSt1, s_reqSt0, s_reqIx1, s_reqIx0, brt, brf, b2iT, b2iF, b2i_0, brN, brT, brF, brS, Classical.not_not, not_true_eq_false, not_false_eq_true, b2i_t, b2i_f, one_ne0, zz01, oz01, thr, and_false, false_and, or_self, gK_pI, gL_pI, gR_pI, gI_pI, hi, reduceCtorEq, Nat.reduceEqDiff, Int.reduceEq, if_true, if_false]
              exact k.2
          · rw [brf (fun z => c5 z.1.2)] at k
            simp (disch := first | assumption | omega) only [b_41_0, b_41_5, b_41_10, b_41_16, b_41_19, b_41_29, b_41_36, b_41_39, b_41_43, b_41_44, b_41_47, b_41_55, b_41_64, b_41_68, b_41_69, b_41_75, b_41_92, b_41_101, b_41_110, b_41_116, kont_v, kont_n, kont_x, Nat.reduceAdd, ad_some, kd_some, ixa, and_true, true_and, and_self, eq_self, ne_eq, brT, brF, true_or, or_true, and_imp, hr.c0, hr.c1, hr.c2, hr.c3, hr.c4, hr.c5, hr.c6, hr.c7, hr.c8, hr.c9, hr.c10, hr.c11, hr.c12, hr.c13, hr.c14, hr.c15, hr.c16, hr.c17, hr.c18, hr.c19, hr.c20, hr.c21, hr.c22, hr.c23, hr.c24, hr.c25, hr.c26, hr.c27, hr.c28, hr.c29, hr.c30, hr.c31, hr.c32, hr.c33, hr.c34, hr.c35, hr.c36, hr.c37, hr.c38, hr.c39, hr.c40, hr.c41, hr.c42, hr.c43, hr.c44, hr.c45, hr.c46, hr.c47, hr.c48, hr.c49, hr.c50, hr.c51, hr.c52, hr.c53, hr.c54, hr.c55, hr.c56, hr.c57, hr.c58, hr.c59, hr.c60, hr.c61, hr.c62, hr.c63, hr.c64, hr.c65, hr.c66, hr.c67, hr.c68, hr.c69, hr.c70, aT, inR, c_str hr iv, c_reqUser hr iv, c_reqNote hr iv, c_reqSign hr iv, c_isHeadR hr iv, c_isSeen hr iv, c_tsize hr iv, c_room hr iv, s_isWithin, s_isRight, s_isContent, s_reqAr, s_reqSt, s_reqIx, s_reqAr1, s_reqAr0, s_reqSt1, s_reqSt0, s_reqIx1, s_reqIx0, brt, brf, b2iT, b2iF, b2i_0, brN, brT, brF, brS, Classical.not_not, not_true_eq_false, not_false_eq_true, b2i_t, b2i_f, one_ne0, zz01, oz01, thr, and_false, false_and, or_self, gK_pI, gL_pI, gR_pI, gI_pI, hi, reduceCtorEq, Nat.reduceEqDiff, Int.reduceEq, if_true, if_false]
            exact k.2
        · rw [brf (fun z => c4 z.1.1)] at k
          simp (disch := first | assumption | omega) only [b_41_0, b_41_5, b_41_10, b_41_16, b_41_19, b_41_29, b_41_36, b_41_39, b_41_43, b_41_44, b_41_47, b_41_55, b_41_64, b_41_68, b_41_69, b_41_75, b_41_92, b_41_101, b_41_110, b_41_116, kont_v, kont_n, kont_x, Nat.reduceAdd, ad_some, kd_some, ixa, and_true, true_and, and_self, eq_self, ne_eq, brT, brF, true_or, or_true, and_imp, hr.c0, hr.c1, hr.c2, hr.c3, hr.c4, hr.c5, hr.c6, hr.c7, hr.c8, hr.c9, hr.c10, hr.c11, hr.c12, hr.c13, hr.c14, hr.c15, hr.c16, hr.c17, hr.c18, hr.c19, hr.c20, hr.c21, hr.c22, hr.c23, hr.c24, hr.c25, hr.c26, hr.c27, hr.c28, hr.c29, hr.c30, hr.c31, hr.c32, hr.c33, hr.c34, hr.c35, hr.c36, hr.c37, hr.c38, hr.c39, hr.c40, hr.c41, hr.c42, hr.c43, hr.c44, hr.c45, hr.c46, hr.c47, hr.c48, hr.c49, hr.c50, hr.c51, hr.c52, hr.c53, hr.c54, hr.c55, hr.c56, hr.c57, hr.c58, hr.c59, hr.c60, hr.c61, hr.c62, hr.c63, hr.c64, hr.c65, hr.c66, hr.c67, hr.c68, hr.c69, hr.c70, aT, inR, c_str hr iv, c_reqUser hr iv, c_reqNote hr iv, c_reqSign hr iv, c_isHeadR hr iv, c_isSeen hr iv, c_tsize hr iv, c_room hr iv, s_isWithin, s_isRight, s_isContent, s_reqAr, s_reqSt, s_reqIx, s_reqAr1, s_reqAr0, s_reqSt1, s_reqSt0, s_reqIx1, s_reqIx0, brt, brf, b2iT, b2iF, b2i_0, brN, brT, brF, brS, Classical.not_not, not_true_eq_false, not_false_eq_true, b2i_t, b2i_f, one_ne0, zz01, oz01, thr, and_false, false_and, or_self, gK_pI, gL_pI, gR_pI, gI_pI, hi, reduceCtorEq, Nat.reduceEqDiff, Int.reduceEq, if_true, if_false]
          exact k.2
      · rw [brf c3] at k
        simp (disch := first | assumption | omega) only [b_41_0, b_41_5, b_41_10, b_41_16, b_41_19, b_41_29, b_41_36, b_41_39, b_41_43, b_41_44, b_41_47, b_41_55, b_41_64, b_41_68, b_41_69, b_41_75, b_41_92, b_41_101, b_41_110, b_41_116, kont_v, kont_n, kont_x, Nat.reduceAdd, ad_some, kd_some, ixa, and_true, true_and, and_self, eq_self, ne_eq, brT, brF, true_or, or_true, and_imp, hr.c0, hr.c1, hr.c2, hr.c3, hr.c4, hr.c5, hr.c6, hr.c7, hr.c8, hr.c9, hr.c10, hr.c11, hr.c12, hr.c13, hr.c14, hr.c15, hr.c16, hr.c17, hr.c18, hr.c19, hr.c20, hr.c21, hr.c22, hr.c23, hr.c24, hr.c25, hr.c26, hr.c27, hr.c28, hr.c29, hr.c30, hr.c31, hr.c32, hr.c33, hr.c34, hr.c35, hr.c36, hr.c37, hr.c38, hr.c39, hr.c40, hr.c41, hr.c42, hr.c43, hr.c44, hr.c45, hr.c46, hr.c47, hr.c48, hr.c49, hr.c50, hr.c51, hr.c52, hr.c53, hr.c54, hr.c55, hr.c56, hr.c57, hr.c58, hr.c59, hr.c60, hr.c61, hr.c62, hr.c63, hr.c64, hr.c65, hr.c66, hr.c67, hr.c68, hr.c69, hr.c70, aT, inR, c_str hr iv, c_reqUser hr iv, c_reqNote hr iv, c_reqSign hr iv, c_isHeadR hr iv, c_isSeen hr iv, c_tsize hr iv, c_room hr iv, s_isWithin, s_isRight, s_isContent, s_reqAr, s_reqSt, s_reqIx, s_reqAr1, s_reqAr0, s_reqSt1, s_reqSt0, s_reqIx1, s_reqIx0, brt, brf, b2iT, b2iF, b2i_0, brN, brT, brF, brS, Classical.not_not, not_true_eq_false, not_false_eq_true, b2i_t, b2i_f, one_ne0, zz01, oz01, thr, and_false, false_and, or_self, gK_pI, gL_pI, gR_pI, gI_pI, hi, reduceCtorEq, Nat.reduceEqDiff, Int.reduceEq, if_true, if_false]
        exact k.2
    · rw [brf c2] at k
      simp (disch := first | assumption | omega) only [b_41_0, b_41_5, b_41_10, b_41_16, b_41_19, b_41_29, b_41_36, b_41_39, b_41_43, b_41_44, b_41_47, b_41_55, b_41_64, b_41_68, b_41_69, b_41_75, b_41_92, b_41_101, b_41_110, b_41_116, kont_v, kont_n, kont_x, Nat.reduceAdd, ad_some, kd_some, ixa, and_true, true_and, and_self, eq_self, ne_eq, brT, brF, true_or, or_true, and_imp, hr.c0, hr.c1, hr.c2, hr.c3, hr.c4, hr.c5, hr.c6, hr.c7, hr.c8, hr.c9, hr.c10, hr.c11, hr.c12, hr.c13, hr.c14, hr.c15, hr.c16, hr.c17, hr.c18, hr.c19, hr.c20, hr.c21, hr.c22, hr.c23, hr.c24, hr.c25, hr.c26, hr.c27, hr.c28, hr.c29, hr.c30, hr.c31, hr.c32, hr.c33, hr.c34, hr.c35, hr.c36, hr.c37, hr.c38, hr.c39, hr.c40, hr.c41, hr.c42, hr.c43, hr.c44, hr.c45, hr.c46, hr.c47, hr.c48, hr.c49, hr.c50, hr.c51, hr.c52, hr.c53, hr.c54, hr.c55, hr.c56, hr.c57, hr.c58, hr.c59, hr.c60, hr.c61, hr.c62, hr.c63, hr.c64, hr.c65, hr.c66, hr.c67, hr.c68, hr.c69, hr.c70, aT, inR, c_str hr iv, c_reqUser hr iv, c_reqNote hr iv, c_reqSign hr iv, c_isHeadR hr iv, c_isSeen hr iv, c_tsize hr iv, c_room hr iv, s_isWithin, s_isRight, s_isContent, s_reqAr, s_reqSt, s_reqIx, s_reqAr1, s_reqAr0, s_reqSt1, s_reqSt0, s_reqIx1, s_reqIx0, brt, brf, b2iT, b2iF, b2i_0, brN, brT, brF, brS, Classical.not_not, not_true_eq_false, not_false_eq_true, b2i_t, b2i_f, one_ne0, zz01, oz01, thr, and_false, false_and, or_self, gK_pI, gL_pI, gR_pI, gI_pI, hi, reduceCtorEq, Nat.reduceEqDiff, Int.reduceEq, if_true, if_false]
      exact k.2
  · rw [brf c1] at k
    simp (disch := first | assumption | omega) only [b_41_0, b_41_5, b_41_10, b_41_16, b_41_19, b_41_29, b_41_36, b_41_39, b_41_43, b_41_44, b_41_47, b_41_55, b_41_64, b_41_68, b_41_69, b_41_75, b_41_92, b_41_101, b_41_110, b_41_116, kont_v, kont_n, kont_x, Nat.reduceAdd, ad_some, kd_some, ixa, and_true, true_and, and_self, eq_self, ne_eq, brT, brF, true_or, or_true, and_imp, hr.c0, hr.c1, hr.c2, hr.c3, hr.c4, hr.c5, hr.c6, hr.c7, hr.c8, hr.c9, hr.c10, hr.c11, hr.c12, hr.c13, hr.c14, hr.c15, hr.c16, hr.c17, hr.c18, hr.c19, hr.c20, hr.c21, hr.c22, hr.c23, hr.c24, hr.c25, hr.c26, hr.c27, hr.c28, hr.c29, hr.c30, hr.c31, hr.c32, hr.c33, hr.c34, hr.c35, hr.c36, hr.c37, hr.c38, hr.c39, hr.c40, hr.c41, hr.c42, hr.c43, hr.c44, hr.c45, hr.c46, hr.c47, hr.c48, hr.c49, hr.c50, hr.c51, hr.c52, hr.c53, hr.c54, hr.c55, hr.c56, hr.c57, hr.c58, hr.c59, hr.c60, hr.c61, hr.c62, hr.c63, hr.c64, hr.c65, hr.c66, hr.c67, hr.c68, hr.c69, hr.c70, aT, inR, c_str hr iv, c_reqUser hr iv, c_reqNote hr iv, c_reqSign hr iv, c_isHeadR hr iv, c_isSeen hr iv, c_tsize hr iv, c_room hr iv, s_isWithin, s_isRight, s_isContent, s_reqAr, s_reqSt, s_reqIx, s_reqAr1, s_reqAr0, s_reqSt1, s_reqSt0, s_reqIx1, s_reqIx0, brt, brf, b2iT, b2iF, b2i_0, brN, brT, brF, brS, Classical.not_not, not_true_eq_false, not_false_eq_true, b2i_t, b2i_f, one_ne0, zz01, oz01, thr, and_false, false_and, or_self, gK_pI, gL_pI, gR_pI, gI_pI, hi, reduceCtorEq, Nat.reduceEqDiff, Int.reduceEq, if_true, if_false]
    exact k.2
end
