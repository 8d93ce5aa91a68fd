/-! THE CLASS, counting and asking -/
/-- a counting loop -/
theorem loopC {W : Option Zv → Int → Int → Prop} {R : Int → Prop} {p : Int → Prop} {N : Int} (n0 : 0 ≤ N)
    (step : ∀ o i acc, 0 ≤ i → i < N → 0 ≤ acc → acc ≤ i → ∃ o', W o acc i = br (p i) (W o' (acc + 1) (i + 1)) (W o' acc (i + 1)))
    (fin : ∀ o acc, 0 ≤ acc → acc ≤ N → W o acc N = R acc) (o : Option Zv) : W o 0 0 = R (cn p N.toNat 0) := by
  have key : ∀ (m : Nat) (o : Option Zv) (i acc : Int), m = (N - i).toNat → 0 ≤ i → i ≤ N → 0 ≤ acc → acc ≤ i → W o acc i = R (acc + cn p m i) := by
    intro m
    induction m with
    | zero =>
      intro o i acc e1 e2 e3 e4 e5
      have e : i = N := by omega
      rw [e, fin o acc e4 (by omega)]
      show R acc = R (acc + 0)
      rw [Int.add_zero]
    | succ m ih =>
      intro o i acc e1 e2 e3 e4 e5
      obtain ⟨o', es⟩ := step o i acc e2 (by omega) e4 e5
      rw [es, ih o' (i + 1) (acc + 1) (by omega) (by omega) (by omega) (by omega) (by omega), ih o' (i + 1) acc (by omega) (by omega) (by omega) (by omega) (by omega)]
      show _ = R (acc + (b2i (p i) + cn p m (i + 1)))
      by_cases k : p i
      · rw [brt k, b2i_t k, Int.add_assoc]
      · rw [brf k, b2i_f k, Int.zero_add]
  rw [key N.toNat o 0 0 (by omega) (by omega) n0 (by omega) (by omega), Int.zero_add]
theorem cn_le (p : Int → Prop) (m : Nat) (i : Int) : 0 ≤ cn p m i ∧ cn p m i ≤ m := by
  induction m generalizing i with
  | zero => exact ⟨Int.le_refl _, Int.le_refl _⟩
  | succ m ih =>
    have := ih (i + 1)
    have e : cn p (m + 1) i = b2i (p i) + cn p m (i + 1) := rfl
    by_cases k : p i
    · rw [e, b2i_t k]; omega
    · rw [e, b2i_f k]; omega
theorem cn_c {p q : Int → Prop} {m : Nat} {i : Int} (e : ∀ j, i ≤ j → j < i + m → (p j ↔ q j)) : cn p m i = cn q m i := by
  induction m generalizing i with
  | zero => rfl
  | succ m ih =>
    show b2i (p i) + cn p m (i + 1) = b2i (q i) + cn q m (i + 1)
    rw [b2i_c (e i (by omega) (by omega)), ih (fun j h1 h2 => e j (by omega) (by omega))]
section
variable {a : Na} {S : St} {h : Zh} {Q : Zp}
theorem iv_par (iv : Inv S) {k : Int} (hk : nt S k) : (S 10 k 0 = -1 ∧ S 11 k 0 = k) ∨ (nt S (S 10 k 0) ∧ S 10 k 0 < k ∧ S 11 k 0 < k ∧ S 10 k 0 ≠ -1) := by
  obtain ⟨-, -, t, -, -, -, -⟩ := iv.2.2.1.2.1 k hk
  rcases t with t | t
  · exact .inl ⟨t.1, t.2.1⟩
  · have hp : nt S (S 10 k 0) := ⟨t.1, by have := hk.2; omega⟩
    obtain ⟨-, -, -, -, -, t2, -⟩ := iv.2.2.1.2.1 _ hp
    exact .inr ⟨hp, by omega, by omega, by omega⟩
theorem c_par (hr : RepC a S h) (iv : Inv S) {k : Int} (hk : nt S k) : (gR h (a 20 k) 4 = none) = (S 11 k 0 = k) := by
  rcases iv_par iv hk with t | t
  · rw [hr.c42 k hk t.1]
    exact propext ⟨fun _ => t.2, fun _ => rfl⟩
  · rw [hr.c43 k _ hk t.1 rfl]
    exact propext ⟨fun z => (by cases z), fun z => (by omega)⟩
theorem c_hngR (hr : RepC a S h) (iv : Inv S) (k : Int) (hk : nt S k) : WP 14 0 [some (zr (some (a 20 k)))] [] h Q = Q (.inl (some (zi (b2i (S 11 k 0 = k ∧ S 12 k 0 ≠ 2))))) h := by
  rw [c_hng _ (hr.c34 k hk), c_par hr iv hk, hr.c41 k hk, b2i_0]
theorem c_isHeadR (hr : RepC a S h) (iv : Inv S) (k : Int) (hk : nt S k) : WP 13 0 [some (zr (some (a 20 k)))] [] h Q = Q (.inl (some (zi (b2i (S 11 k 0 = k))))) h := by
  rw [c_isHead _ (hr.c34 k hk), c_par hr iv hk]
/-- what a strand is counted as -/
def CT (S : St) (w k : Int) : Prop := (S 11 k 0 = k ∧ S 12 k 0 ≠ 2) ∧ (w = 2 ∨ (w = 3 ∧ S 18 k 0 = 0) ∨ (w = 4 ∧ S 13 k 0 = S 14 k 0))
theorem c_countedR (hr : RepC a S h) (iv : Inv S) (w k : Int) (hh : hd S k) : WP 21 0 [some (zr (some (a 21 k))), some (zi w)] [] h Q = Q (.inl (some (zi (b2i (w = 2 ∨ (w = 3 ∧ S 18 k 0 = 0) ∨ (w = 4 ∧ S 13 k 0 = S 14 k 0)))))) h := by
  rw [c_counted _ (a 22 k) w (hr.c47 k hh) (hr.c51 k hh) (hr.c56 k hh), hr.c53 k hh, hr.c57 k hh, hr.c58 k hh]
theorem c_countStrands (hr : RepC a S h) (iv : Inv S) (w : Int) : WP 81 0 [some (zr (some (a 0 0))), some (zi w), none, none] [] h Q = Q (.inl (some (zi (cn (CT S w) (S 7 0 0).toNat 0)))) h := by
  obtain ⟨n0, n1⟩ := iv.2.2.1.1
  rw [b_81_0]
  refine loopC (W := fun _ acc i => WP 81 4 [some (zr (some (a 0 0))), some (zi w), some (zi acc), some (zi i)] [] h Q) (R := fun x => Q (.inl (some (zi x))) h) n0 (fun o i acc e1 e2 e3 e4 => ⟨none, ?_⟩) (fun o acc e1 e2 => ?_) none
  · have hk : nt S i := ⟨e1, e2⟩
    show WP 81 4 _ _ _ _ = _
    rw [b_81_4]
    by_cases c1 : S 11 i 0 = i ∧ S 12 i 0 ≠ 2
    · have hh : hd S i := ⟨hk, c1.1⟩
      have e := hr.c44 i i hk hh c1.1
      simp (disch := first | assumption | omega) only [b_81_12, b_81_21, b_81_24, b_81_37, b_81_40, b_81_43, b_81_49, kont_v, kont_n, kont_x, Nat.reduceAdd, ad_some, kd_some, ixa, and_true, true_and, and_self, eq_self, ne_eq, brT, brF, true_or, or_true, and_imp, hr.c0, hr.c1, hr.c2, hr.c3, hr.c4, hr.c5, hr.c6, hr.c7, hr.c8, hr.c9, hr.c10, hr.c11, hr.c12, hr.c13, hr.c14, hr.c15, hr.c16, hr.c17, hr.c18, hr.c19, hr.c20, hr.c21, hr.c22, hr.c23, hr.c24, hr.c25, hr.c26, hr.c27, hr.c28, hr.c29, hr.c30, hr.c31, hr.c32, hr.c33, hr.c34, hr.c35, hr.c36, hr.c37, hr.c38, hr.c39, hr.c40, hr.c41, hr.c42, hr.c43, hr.c44, hr.c45, hr.c46, hr.c47, hr.c48, hr.c49, hr.c50, hr.c51, hr.c52, hr.c53, hr.c54, hr.c55, hr.c56, hr.c57, hr.c58, hr.c59, hr.c60, hr.c61, hr.c62, hr.c63, hr.c64, hr.c65, hr.c66, hr.c67, hr.c68, hr.c69, hr.c70, brf, aT, inR, brb10, brb01, brbpq, brb1p, brb0p, brbp1, brbp0, brb11, brb00, b2i_0, b2i_1, b2i_01, brN, one_ne0, zz01, oz01, nem, Classical.not_not, c_hngR hr iv i hk, e, c_countedR hr iv w i hh, brt, c1]
      exact br_cg ⟨fun z => ⟨c1, z⟩, fun z => z.2⟩ rfl rfl
    · simp (disch := first | assumption | omega) only [b_81_12, b_81_21, b_81_24, b_81_37, b_81_40, b_81_43, b_81_49, kont_v, kont_n, kont_x, Nat.reduceAdd, ad_some, kd_some, ixa, and_true, true_and, and_self, eq_self, ne_eq, brT, brF, true_or, or_true, and_imp, hr.c0, hr.c1, hr.c2, hr.c3, hr.c4, hr.c5, hr.c6, hr.c7, hr.c8, hr.c9, hr.c10, hr.c11, hr.c12, hr.c13, hr.c14, hr.c15, hr.c16, hr.c17, hr.c18, hr.c19, hr.c20, hr.c21, hr.c22, hr.c23, hr.c24, hr.c25, hr.c26, hr.c27, hr.c28, hr.c29, hr.c30, hr.c31, hr.c32, hr.c33, hr.c34, hr.c35, hr.c36, hr.c37, hr.c38, hr.c39, hr.c40, hr.c41, hr.c42, hr.c43, hr.c44, hr.c45, hr.c46, hr.c47, hr.c48, hr.c49, hr.c50, hr.c51, hr.c52, hr.c53, hr.c54, hr.c55, hr.c56, hr.c57, hr.c58, hr.c59, hr.c60, hr.c61, hr.c62, hr.c63, hr.c64, hr.c65, hr.c66, hr.c67, hr.c68, hr.c69, hr.c70, brf c1, brf, aT, inR, brb10, brb01, brbpq, brb1p, brb0p, brbp1, brbp0, brb11, brb00, b2i_0, b2i_1, b2i_01, brN, one_ne0, zz01, oz01, nem, Classical.not_not, c_hngR hr iv i hk]
      rw [brf (fun z => c1 z.1)]
  · show WP 81 4 _ _ _ _ = _
    rw [b_81_4]
    simp (disch := first | assumption | omega) only [kont_v, kont_n, kont_x, Nat.reduceAdd, ad_some, kd_some, ixa, and_true, true_and, and_self, eq_self, ne_eq, brT, brF, true_or, or_true, and_imp, hr.c0, hr.c1, hr.c2, hr.c3, hr.c4, hr.c5, hr.c6, hr.c7, hr.c8, hr.c9, hr.c10, hr.c11, hr.c12, hr.c13, hr.c14, hr.c15, hr.c16, hr.c17, hr.c18, hr.c19, hr.c20, hr.c21, hr.c22, hr.c23, hr.c24, hr.c25, hr.c26, hr.c27, hr.c28, hr.c29, hr.c30, hr.c31, hr.c32, hr.c33, hr.c34, hr.c35, hr.c36, hr.c37, hr.c38, hr.c39, hr.c40, hr.c41, hr.c42, hr.c43, hr.c44, hr.c45, hr.c46, hr.c47, hr.c48, hr.c49, hr.c50, hr.c51, hr.c52, hr.c53, hr.c54, hr.c55, hr.c56, hr.c57, hr.c58, hr.c59, hr.c60, hr.c61, hr.c62, hr.c63, hr.c64, hr.c65, hr.c66, hr.c67, hr.c68, hr.c69, hr.c70, brt, aT, inR, b_81_49]
end
