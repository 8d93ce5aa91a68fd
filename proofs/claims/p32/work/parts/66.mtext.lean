/-! NEW NAMES; THE REFERENCE'S TEXT -/
def LvM (S : St) (f : Nat) (i : Int) : Prop := (100 ≤ f ∧ f ≤ 122 ∧ i = 0) ∨ (f = 150 ∧ 0 ≤ i ∧ i ≤ S 2 0 0) ∨ (f = 151 ∧ hd S i)
def LvC (S : St) (f : Nat) (i : Int) : Prop := (f ≤ 9 ∧ i = 0) ∨ (f = 10 ∧ 0 ≤ i ∧ i < 4) ∨ (f = 11 ∧ 0 ≤ i ∧ i ≤ 60) ∨ (f = 20 ∧ nt S i) ∨ ((f = 21 ∨ f = 22 ∨ f = 23) ∧ hd S i)
section
variable {a b : Na} {S T : St} {h g : Zh} {Q : Zp}
theorem RepM.keep (hm : RepM a S h) (hv : 0 ≤ S 2 0 0 ∧ S 2 0 0 ≤ 60) (x : ∀ f i, LvM S f i → gK h (a f i) ≠ 0 → b f i = a f i ∧ sm h g (a f i)) : RepM b S g := by
  refine hm.mv ?_
  unfold MvM
  refine ⟨?_, ?_, ?_, ?_, ?_, ?_, ?_, ?_, ?_, ?_, ?_, ?_, ?_, ?_, ?_, ?_, ?_, ?_, ?_, ?_⟩
  all_goals first
    | exact x _ _ (.inl ⟨by omega, by omega, rfl⟩) (by simp only [hm.c0, hm.c1, hm.c2, hm.c3, hm.c4, hm.c5, hm.c6, hm.c7, hm.c8, hm.c9, hm.c10, hm.c11, hm.c12, hm.c13, hm.c14, hm.c15, hm.c16, hm.c17, hm.c18, hm.c19, hm.c20, hm.c21, hm.c22, hm.c23, hm.c24, hm.c25, hm.c26, hm.c27, hm.c28, hm.c29, hm.c30, hm.c31, hm.c32, hm.c33, hm.c34, hm.c35, hm.c36, hm.c37, hm.c38, hm.c39, hm.c40, hm.c41, hm.c42, hm.c43, hm.c44, hm.c45, hm.c46, hm.c47, hm.c48, hm.c49, hm.c50, hm.c51, hm.c52, hm.c53, hm.c54, hm.c55, hm.c56, hm.c57, hm.c58, hm.c59, hm.c60, hm.c61, hm.c62, hm.c63, hm.c64, hm.c65, hm.c66, hm.c67, hm.c68, hm.c69, hm.c70, hm.c71, hm.c72, hm.c73, hm.c74, hm.c75, hm.c76, hm.c77]; omega)
    | exact fun v h1 h2 => x _ _ (.inr (.inl ⟨rfl, h1, h2⟩)) (by rw [hm.c31 v h1 h2]; omega)
    | exact fun v h1 => x _ _ (.inr (.inr ⟨rfl, h1⟩)) (by rw [hm.c70 v h1]; omega)
theorem RepC.keep (hr : RepC a S h) (x : ∀ f i, LvC S f i → gK h (a f i) ≠ 0 → b f i = a f i ∧ sm h g (a f i)) : RepC b S g := by
  refine hr.mv ?_
  unfold MvC
  refine ⟨?_, ?_, ?_, ?_, ?_, ?_, ?_, ?_, ?_, ?_, ?_, ?_, ?_, ?_, ?_, ?_⟩
  all_goals first
    | exact x _ _ (.inl ⟨by omega, rfl⟩) (by simp only [hr.c0, hr.c1, hr.c2, hr.c3, hr.c4, hr.c5, hr.c6, hr.c7, hr.c8, hr.c9, hr.c10, hr.c11, hr.c12, hr.c13, hr.c14, hr.c15, hr.c16, hr.c17, hr.c18, hr.c19, hr.c20, hr.c21, hr.c22, hr.c23, hr.c24, hr.c25, hr.c26, hr.c27, hr.c28, hr.c29, hr.c30, hr.c31, hr.c32, hr.c33, hr.c34, hr.c35, hr.c36, hr.c37, hr.c38, hr.c39, hr.c40, hr.c41, hr.c42, hr.c43, hr.c44, hr.c45, hr.c46, hr.c47, hr.c48, hr.c49, hr.c50, hr.c51, hr.c52, hr.c53, hr.c54, hr.c55, hr.c56, hr.c57, hr.c58, hr.c59, hr.c60, hr.c61, hr.c62, hr.c63, hr.c64, hr.c65, hr.c66, hr.c67, hr.c68, hr.c69, hr.c70]; omega)
    | exact fun v h1 h2 => x _ _ (.inr (.inl ⟨rfl, h1, h2⟩)) (by rw [hr.c68 v h1 h2]; omega)
    | exact fun v h1 h2 => x _ _ (.inr (.inr (.inl ⟨rfl, h1, h2⟩))) (by rw [hr.c20 v h1 h2]; omega)
    | exact fun v h1 => x _ _ (.inr (.inr (.inr (.inl ⟨rfl, h1⟩)))) (by rw [hr.c34 v h1]; omega)
    | exact fun v h1 => x _ _ (.inr (.inr (.inr (.inr ⟨by omega, h1⟩)))) (by rw [hr.c47 v h1]; omega)
    | exact fun v h1 => x _ _ (.inr (.inr (.inr (.inr ⟨by omega, h1⟩)))) (by rw [hr.c56 v h1]; omega)
    | exact fun v h1 => x _ _ (.inr (.inr (.inr (.inr ⟨by omega, h1⟩)))) (by rw [hr.c59 v h1]; omega)
/-- a new thing by a name that isn't used -/
theorem RepM.new (hm : RepM a S h) (hv : 0 ≤ S 2 0 0 ∧ S 2 0 0 ≤ 60) {f : Nat} {i n : Int} {q kd : Nat} (hq : gK h q = 0) (nl : ¬ LvM S f i) : RepM (nm a f i q) S (nw h q kd n) :=
  hm.keep hv (fun _ _ l k => ⟨nm_live hq k (fun e => nl (e.1 ▸ e.2 ▸ l)), sm_nw (fun e => k (by rw [e]; exact hq))⟩)
theorem RepC.new (hr : RepC a S h) {f : Nat} {i n : Int} {q kd : Nat} (hq : gK h q = 0) (nl : ¬ LvC S f i) : RepC (nm a f i q) S (nw h q kd n) :=
  hr.keep (fun _ _ l k => ⟨nm_live hq k (fun e => nl (e.1 ▸ e.2 ▸ l)), sm_nw (fun e => k (by rw [e]; exact hq))⟩)
/-- writes to a name that isn't used -/
theorem RepM.wI (hi : Ij a) (hm : RepM a S h) (hv : 0 ≤ S 2 0 0 ∧ S 2 0 0 ≤ 60) {f : Nat} {i k x : Int} (nl : ¬ LvM S f i) : RepM a S (pI h (a f i) k x) :=
  hm.keep hv (fun f2 i2 l _ => ⟨rfl, smI hi (by
    by_cases c : f2 = f
    · by_cases d : i2 = i
      · exact absurd (c ▸ d ▸ l) nl
      · exact .inr d
    · exact .inl c)⟩)
theorem RepM.wC (hi : Ij a) (hm : RepM a S h) (hv : 0 ≤ S 2 0 0 ∧ S 2 0 0 ≤ 60) {f s : Nat} {i sp dp n : Int} (nl : ¬ LvM S f i) : RepM a S (cpy h s sp (a f i) dp n) :=
  hm.keep hv (fun f2 i2 l _ => ⟨rfl, smC hi (by
    by_cases c : f2 = f
    · by_cases d : i2 = i
      · exact absurd (c ▸ d ▸ l) nl
      · exact .inr d
    · exact .inl c)⟩)
theorem RepC.wI (hi : Ij a) (hr : RepC a S h) {f : Nat} {i k x : Int} (nl : ¬ LvC S f i) : RepC a S (pI h (a f i) k x) :=
  hr.keep (fun f2 i2 l _ => ⟨rfl, smI hi (by
    by_cases c : f2 = f
    · by_cases d : i2 = i
      · exact absurd (c ▸ d ▸ l) nl
      · exact .inr d
    · exact .inl c)⟩)
theorem RepC.wR (hi : Ij a) (hr : RepC a S h) {f : Nat} {i k : Int} {x : Option Nat} (nl : ¬ LvC S f i) : RepC a S (pR h (a f i) k x) :=
  hr.keep (fun f2 i2 l _ => ⟨rfl, smR hi (by
    by_cases c : f2 = f
    · by_cases d : i2 = i
      · exact absurd (c ▸ d ▸ l) nl
      · exact .inr d
    · exact .inl c)⟩)
-- ---- the text's writes
theorem RepM.wSig (hi : Ij a) (hm : RepM a S h) (k x : Int) (hk : S 6 0 0 ≤ k) : RepM a S (pI h (a 104 0) k x) := by
  refine .mk (hm.A.c (smI hi (by omega)) rfl rfl rfl rfl) (hm.U.c (smI hi (by omega)) (fun _ => rfl)) ?_
    (hm.V.c (smI hi (by omega)) (fun _ => smI hi (by omega)) rfl (fun _ => rfl) (fun _ _ => rfl)) (fun q q1 q2 => (hm.R q q1 q2).c (smI hi (by omega)) (fun _ => rfl))
    (hm.Q.c (smI hi (by omega)) (fun _ => smI hi (by omega)) (fun k => Iff.rfl) (fun _ => rfl) (fun _ _ => rfl)) (hm.X.c (smI hi (by omega)) rfl (fun _ _ => rfl)) (hm.O.c (smI hi (by omega)))
  obtain ⟨z0, z1, z2⟩ := hm.S'
  exact ⟨z0, z1, fun n h1 h2 => (gI_pI ..).trans ((if_neg (fun z => by omega)).trans (z2 n h1 h2))⟩
theorem RepM.wName (hi : Ij a) (hm : RepM a S h) (v : Int) (hv : gI h (a 104 0) (S 6 0 0) = v) (hl : S 6 0 0 < gL h (a 104 0)) : RepM a (su (su S 5 (S 6 0 0) 0 v) 6 0 0 (S 6 0 0 + 1)) (pI h (a 100 0) 3 (S 6 0 0 + 1)) := by
  refine .mk ?_ (hm.U.c (smI hi (by omega)) (fun _ => rfl)) ?_
    (hm.V.c (smI hi (by omega)) (fun _ => smI hi (by omega)) rfl (fun _ => rfl) (fun _ _ => rfl)) (fun q q1 q2 => (hm.R q q1 q2).c (smI hi (by omega)) (fun _ => by rw [su_k (by omega), su_k (by omega)]))
    (hm.Q.c (smI hi (by omega)) (fun _ => smI hi (by omega)) (fun k => Iff.rfl) (fun _ => rfl) (fun _ _ => rfl)) (hm.X.c (smI hi (by omega)) rfl (fun _ _ => rfl)) (hm.O.c (smI hi (by omega)))
  · have z := hm.A
    simp only [MA, gI_pI, gR_pI, gK_pI, gL_pI, gI_pR, gR_pR, gK_pR, gL_pR, hi, su, reduceCtorEq, Nat.reduceEqDiff, Int.reduceEq, and_true, true_and, and_false, false_and, if_true, if_false, and_self, eq_self, ne_eq, not_true, not_false_eq_true] at z ⊢
    exact ⟨z.1, z.2.1, z.2.2.2⟩
  · obtain ⟨z0, z1, z2⟩ := hm.S'
    refine ⟨z0, by show S 6 0 0 + 1 ≤ gL h (a 104 0); omega, fun n h1 h2 => (gI_pI ..).trans ((if_neg (fun z => by rw [hi] at z; omega)).trans ?_)⟩
    have h2 : n < S 6 0 0 + 1 := h2
    rw [su_k (by omega), su_i]
    by_cases c : n = S 6 0 0
    · rw [if_pos ⟨c, rfl⟩, c, hv]
    · rw [if_neg (fun z => c z.1)]
      exact z2 n h1 (by omega)
theorem RepM.wVer (hi : Ij a) (hm : RepM a S h) (z : Int) (r : Int → Int) (hK : gK h (a 150 (S 2 0 0 + 1)) = 10) (hL : gL h (a 150 (S 2 0 0 + 1)) = z) (hI : ∀ j, 0 ≤ j → j < z → gI h (a 150 (S 2 0 0 + 1)) j = r j) : RepM a (TV S z r) (pR (pI h (a 100 0) 6 (S 2 0 0 + 1)) (a 105 0) (S 2 0 0 + 1) (some (a 150 (S 2 0 0 + 1)))) := by
  have s1 : ∀ f i, f ≠ 100 → f ≠ 105 → sm h (pR (pI h (a 100 0) 6 (S 2 0 0 + 1)) (a 105 0) (S 2 0 0 + 1) (some (a 150 (S 2 0 0 + 1)))) (a f i) := fun f i n1 n2 => (smI hi (.inl n1)).trans (smR hi (.inl n2))
  have e : ∀ (k : Nat) i j, k ≠ 2 → k ≠ 3 → k ≠ 4 → TV S z r k i j = S k i j := fun k i j h2 h3 h4 => by unfold TV; rw [if_neg (fun z => h2 z.1), if_neg (fun z => h3 z.1), if_neg (fun z => h4 z.1)]
  refine .mk ?_ (hm.U.c (s1 _ _ (by omega) (by omega)) (fun _ => rfl)) (hm.S'.c (s1 _ _ (by omega) (by omega)) rfl (fun _ => rfl)) ?_ (fun q q1 q2 => (hm.R q q1 q2).c (s1 _ _ (by omega) (by omega)) (fun _ => e _ _ _ (by omega) (by omega) (by omega)))
    (hm.Q.c (s1 _ _ (by omega) (by omega)) (fun _ => s1 _ _ (by omega) (by omega)) (fun k => Iff.rfl) (fun _ => rfl) (fun _ _ => rfl)) (hm.X.c (s1 _ _ (by omega) (by omega)) rfl (fun _ _ => rfl)) (hm.O.c (s1 _ _ (by omega) (by omega)))
  · have w := hm.A
    have t2 : TV S z r 2 0 0 = S 2 0 0 + 1 := by unfold TV; rw [if_pos ⟨rfl, rfl, rfl⟩]
    have t0 : TV S z r 0 0 0 = S 0 0 0 := rfl
    have t6 : TV S z r 6 0 0 = S 6 0 0 := rfl
    have t7 : TV S z r 7 0 0 = S 7 0 0 := rfl
    simp only [MA, t2, t0, t6, t7, gI_pI, gR_pI, gK_pI, gL_pI, gI_pR, gR_pR, gK_pR, gL_pR, hi, su, reduceCtorEq, Nat.reduceEqDiff, Int.reduceEq, and_true, true_and, and_false, false_and, if_true, if_false, and_self, eq_self, ne_eq, not_true, not_false_eq_true] at w ⊢
    exact ⟨w.1, w.2.1, w.2.2.1, w.2.2.2.2⟩
  · obtain ⟨v0, v1, v2, v3, v4, v5⟩ := hm.V
    have t2 : TV S z r 2 0 0 = S 2 0 0 + 1 := by unfold TV; rw [if_pos ⟨rfl, rfl, rfl⟩]
    refine ⟨v0, v1, fun v h1 h2 => ?_, fun v h1 h2 => ?_, fun v h1 h2 => ?_, fun v p h1 h2 h3 h4 => ?_⟩
    · rw [t2] at h2
      rw [gR_pR]
      by_cases c : v = S 2 0 0 + 1
      · rw [if_pos ⟨rfl, c⟩, c]
      · rw [if_neg (fun z => c z.2)]
        exact v2 v h1 (by omega)
    · rw [t2] at h2
      by_cases c : v = S 2 0 0 + 1
      · rw [c]; exact hK
      · exact v3 v h1 (by omega)
    · rw [t2] at h2
      unfold TV
      rw [if_neg (by omega)]
      by_cases c : v = S 2 0 0 + 1
      · rw [if_pos ⟨rfl, c, rfl⟩, c]; exact hL
      · rw [if_neg (fun z => c z.2.1), if_neg (by omega)]
        exact v4 v h1 (by omega)
    · rw [t2] at h2
      rw [gI_pR, gI_pI, if_neg (fun z => by rw [hi] at z; omega)]
      unfold TV at h4 ⊢
      rw [if_neg (by omega)] at h4
      rw [if_neg (by omega), if_neg (by omega)]
      by_cases c : v = S 2 0 0 + 1
      · rw [if_pos ⟨rfl, c, rfl⟩] at h4
        rw [if_pos ⟨rfl, c⟩, c]
        exact hI p h3 h4
      · rw [if_neg (fun z => c z.2.1), if_neg (by omega)] at h4
        rw [if_neg (fun z => c z.2)]
        exact v5 v p h1 (by omega) h3 h4
/-- a longer row of signs -/
theorem RepM.grow (hi : Ij a) (hm : RepM a S h) (hv : 0 ≤ S 2 0 0 ∧ S 2 0 0 ≤ 60) {q : Nat} {n : Int} (hq : gK h q = 0) (hn : S 6 0 0 ≤ n) : RepM (nm a 104 0 q) S (pR (cpy (nw h q 10 n) (a 104 0) 0 q 0 (S 6 0 0)) (a 100 0) 4 (some q)) := by
  have k100 : gK h (a 100 0) = 7 := hm.A.1
  have k104 := hm.S'.1
  have k105 := hm.V.1
  have n100 : q ≠ a 100 0 := fun e => by rw [e] at hq; omega
  have n104 : a 104 0 ≠ q := fun e => by rw [← e] at hq; omega
  have b100 : nm a 104 0 q 100 0 = a 100 0 := nm_live hq (by omega) (by omega)
  have bq : nm a 104 0 q 104 0 = q := nm_self _ _ _ _
  have L : ∀ f i, ¬ (f = 104 ∧ i = 0) → f ≠ 100 → gK h (a f i) ≠ 0 → nm a 104 0 q f i = a f i ∧ sm h (pR (cpy (nw h q 10 n) (a 104 0) 0 q 0 (S 6 0 0)) (a 100 0) 4 (some q)) (a f i) := fun f i h1 h2 h3 =>
    ⟨nm_live hq h3 h1, ((sm_nw (fun e => h3 (by rw [e]; exact hq))).trans (sm_cpy (fun e => h3 (by rw [e]; exact hq)))).trans (smR hi (.inl h2))⟩
  refine .mk ?_ ?_ ?_ ?_ (fun f f1 f2 => ?_) ?_ ?_ ?_
  · have w := hm.A
    obtain ⟨w0, w1, w2, w3, w4, w5, w6, w7, w8, w9, w10, w11, w12, w13, w14, w15, w16, w17, w18, w19, w20, w21⟩ := w
    obtain ⟨s0, s1, s2, s3, -⟩ : sm h (cpy (nw h q 10 n) (a 104 0) 0 q 0 (S 6 0 0)) (a 100 0) := (sm_nw n100.symm).trans (sm_cpy n100.symm)
    have nb : ∀ f : Nat, f ≠ 104 → gK h (a f 0) ≠ 0 → nm a 104 0 q f 0 = a f 0 := fun f h1 h2 => nm_live hq h2 (fun e => h1 e.1)
    have kR : ∀ f, 8 ≤ f → f ≤ 18 → gK h (a (100 + f) 0) ≠ 0 := fun f f1 f2 => by have := (hm.R f f1 f2).1; split at this <;> omega
    unfold MA
    rw [b100, bq, nb 102 (by omega) (by have := hm.U.1; omega), nb 105 (by omega) (by omega), nb 108 (by omega) (kR 8 (by omega) (by omega)), nb 109 (by omega) (kR 9 (by omega) (by omega)), nb 110 (by omega) (kR 10 (by omega) (by omega)), nb 111 (by omega) (kR 11 (by omega) (by omega)), nb 112 (by omega) (kR 12 (by omega) (by omega)), nb 113 (by omega) (kR 13 (by omega) (by omega)), nb 114 (by omega) (kR 14 (by omega) (by omega)), nb 115 (by omega) (kR 15 (by omega) (by omega)), nb 116 (by omega) (kR 16 (by omega) (by omega)), nb 117 (by omega) (kR 17 (by omega) (by omega)), nb 118 (by omega) (kR 18 (by omega) (by omega)), nb 119 (by omega) (by have := hm.Q.1; omega), nb 120 (by omega) (by have := hm.X.1; omega), nb 122 (by omega) (by have := hm.O.1; omega)]
    simp only [gK_pR, gI_pR, gR_pR, s0, s2, s3, w0, w1, w2, w3, w4, w5, w7, w8, w9, w10, w11, w12, w13, w14, w15, w16, w17, w18, w19, w20, w21, true_and, and_true, Int.reduceEq, if_false, if_true]
  · have l := L 102 0 (by omega) (by omega) (by have := hm.U.1; omega)
    have z := hm.U.c (T := S) l.2 (fun _ => rfl)
    unfold MU at z ⊢
    rw [l.1]
    exact z
  · unfold MS
    rw [bq]
    obtain ⟨z0, z1, z2⟩ := hm.S'
    refine ⟨?_, ?_, fun x h1 h2 => ?_⟩
    · rw [gK_pR, gK_cpy, gK_nw, if_pos rfl]
    · rw [gL_pR, gL_cpy, gL_nw, if_pos rfl]; exact hn
    · rw [gI_pR, gI_cpy, if_pos ⟨rfl, h1, by omega⟩, gI_nw, if_neg n104, show 0 + (x - 0) = x by omega]
      exact z2 x h1 h2
  · have l := L 105 0 (by omega) (by omega) (by omega)
    have lv : ∀ v, 0 ≤ v → v ≤ S 2 0 0 → _ := fun v h1 h2 => L 150 v (by omega) (by omega) (by have := hm.V.2.2.2.1 v h1 h2; omega)
    obtain ⟨v0, v1, v2, v3, v4, v5⟩ := hm.V
    obtain ⟨s0, s1, s2, s3, -⟩ := l.2
    unfold MV
    rw [l.1, s0, s1]
    refine ⟨v0, v1, fun v h1 h2 => ?_, fun v h1 h2 => ?_, fun v h1 h2 => ?_, fun v p h1 h2 h3 h4 => ?_⟩
    · rw [s3, (lv v h1 h2).1]; exact v2 v h1 h2
    · rw [(lv v h1 h2).1, (lv v h1 h2).2.1]; exact v3 v h1 h2
    · rw [(lv v h1 h2).1, (lv v h1 h2).2.2.1]; exact v4 v h1 h2
    · rw [(lv v h1 h2).1, (lv v h1 h2).2.2.2.1]; exact v5 v p h1 h2 h3 h4
  · have l := L (100 + f) 0 (by omega) (by omega) (by have := (hm.R f f1 f2).1; split at this <;> omega)
    have z := (hm.R f f1 f2).c (T := S) l.2 (fun _ => rfl)
    unfold AR at z ⊢
    rw [l.1]
    exact z
  · have l := L 119 0 (by omega) (by omega) (by have := hm.Q.1; omega)
    obtain ⟨q0, q1, q2, q3, q4, q5⟩ := hm.Q
    have lk : ∀ k, hd S k → _ := fun k h1 => L 151 k (by omega) (by omega) (by have := q3 k h1; omega)
    obtain ⟨s0, s1, s2, s3, -⟩ := l.2
    unfold MQu
    rw [l.1, s0, s1]
    refine ⟨q0, q1, fun k h1 => ?_, fun k h1 => ?_, fun k h1 => ?_, fun k i h1 h2 h3 => ?_⟩
    · rw [s3, (lk k h1).1]; exact q2 k h1
    · rw [(lk k h1).1, (lk k h1).2.1]; exact q3 k h1
    · rw [(lk k h1).1, (lk k h1).2.2.1]; exact q4 k h1
    · rw [(lk k h1).1, (lk k h1).2.2.2.1]; exact q5 k i h1 h2 h3
  · have l := L 120 0 (by omega) (by omega) (by have := hm.X.1; omega)
    have z := hm.X.c (T := S) l.2 rfl (fun _ _ => rfl)
    unfold MX at z ⊢
    rw [l.1]
    exact z
  · have l := L 122 0 (by omega) (by omega) (by have := hm.O.1; omega)
    have z := hm.O.c l.2
    unfold MO at z ⊢
    rw [l.1]
    exact z
end
