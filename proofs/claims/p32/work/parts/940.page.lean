/-! THE PAGE'S MEMORY: what the law was told of one object -/
def PA (a : Na) (S : St) (h : Zh) : Prop := gK h (a 200 0) = 7 ∧ gR h (a 200 0) 0 = some (a 0 0) ∧ gR h (a 200 0) 1 = some (a 208 0) ∧ 0 ≤ gI h (a 200 0) 2 ∧ gR h (a 200 0) 3 = some (a 201 0) ∧ gI h (a 200 0) 4 = S 6 0 0 ∧ gR h (a 200 0) 5 = some (a 202 0) ∧ gR h (a 200 0) 6 = some (a 204 0) ∧ gK h (a 208 0) = 15
def PR (a : Na) (S : St) (h : Zh) : Prop := gK h (a 201 0) = 10 ∧ gL h (a 201 0) = S 0 0 0 ∧ ∀ u, 0 ≤ u → u < S 0 0 0 → gI h (a 201 0) u = S 1 u 0
def PT (a : Na) (S : St) (h : Zh) : Prop := gK h (a 202 0) = 16 ∧ gL h (a 202 0) = S 2 0 0 + 1 ∧ (∀ v, 0 ≤ v → v ≤ S 2 0 0 → gR h (a 202 0) v = some (a 203 v)) ∧ (∀ v, 0 ≤ v → v ≤ S 2 0 0 → gK h (a 203 v) = 14) ∧ gL h (a 203 (S 2 0 0)) = S 3 (S 2 0 0) 0 ∧ ∀ p, 0 ≤ p → p < S 3 (S 2 0 0) 0 → gR h (a 203 (S 2 0 0)) p = some (a 205 (S 4 (S 2 0 0) p))
def PS (a : Na) (S : St) (h : Zh) (n : Int) : Prop := gK h (a 205 n) = 10 ∧ gL h (a 205 n) = 2 ∧ gI h (a 205 n) 1 = S 5 n 0
def PM (a : Na) (S : St) (h : Zh) : Prop := gK h (a 204 0) = 14 ∧ gL h (a 204 0) = S 7 0 0
def PN (a : Na) (S : St) (h : Zh) (k : Int) : Prop := gR h (a 204 0) k = some (a 206 k) ∧ gK h (a 206 k) = 10 ∧ gL h (a 206 k) = (if S 10 k 0 = -1 then 11 + S 19 k 0 else 5) ∧ gI h (a 206 k) 0 = S 8 k 0 ∧ gI h (a 206 k) 2 = S 10 k 0 ∧ gI h (a 206 k) 3 = S 11 k 0 ∧ gI h (a 206 k) 4 = S 12 k 0
def PH (a : Na) (S : St) (h : Zh) (k : Int) : Prop := gI h (a 206 k) 5 = S 13 k 0 ∧ gI h (a 206 k) 6 = S 14 k 0 ∧ gI h (a 206 k) 7 = S 15 k 0 ∧ gI h (a 206 k) 8 = S 18 k 0 ∧ gI h (a 206 k) 9 = S 16 k 0 ∧ gI h (a 206 k) 10 = S 17 k 0 ∧ ∀ i, 0 ≤ i → i < S 19 k 0 → gI h (a 206 k) (11 + i) = S 20 k i
def RepP (a : Na) (S : St) (h : Zh) : Prop := PA a S h ∧ PR a S h ∧ PT a S h ∧ (∀ n, 0 ≤ n → n < S 6 0 0 → PS a S h n) ∧ PM a S h ∧ (∀ k, nt S k → PN a S h k) ∧ ∀ k, hd S k → PH a S h k
/-- of the text: what the page's memory hangs on -/
def ItP (S : St) : Prop := (0 ≤ S 2 0 0 ∧ S 2 0 0 ≤ 60) ∧ ∀ p, 0 ≤ p → p < S 3 (S 2 0 0) 0 → 0 ≤ S 4 (S 2 0 0) p ∧ S 4 (S 2 0 0) p < S 6 0 0
theorem ItP_of {S : St} (iv : Inv S) : ItP S := ⟨iv.2.1.1, fun p h1 h2 => iv.2.1.2.2.2.1 _ p iv.2.1.1.1 (Int.le_refl _) h1 h2⟩
/-- the page's names that are made -/
def LvP (S : St) (f : Nat) (i : Int) : Prop := ((f = 200 ∨ f = 201 ∨ f = 202 ∨ f = 204 ∨ f = 208) ∧ i = 0) ∨ (f = 203 ∧ 0 ≤ i ∧ i ≤ S 2 0 0) ∨ (f = 205 ∧ 0 ≤ i ∧ i < S 6 0 0) ∨ (f = 206 ∧ nt S i)
section
variable {a b : Na} {S T : St} {h g : Zh}
theorem PA.c (A : PA a S h) (e0 : b 0 0 = a 0 0) (e1 : b 200 0 = a 200 0) (e2 : b 208 0 = a 208 0) (e3 : b 201 0 = a 201 0) (e4 : b 202 0 = a 202 0) (e5 : b 204 0 = a 204 0) (m : sm h g (a 200 0)) (m2 : sm h g (a 208 0)) (e6 : T 6 0 0 = S 6 0 0) : PA b T g := by
  obtain ⟨k, l, i, r, -⟩ := m
  obtain ⟨k2, -⟩ := m2
  unfold PA
  rw [e0, e1, e2, e3, e4, e5, k, r, r, i, r, i, r, r, k2, e6]
  exact A
theorem PR.c (A : PR a S h) (e1 : b 201 0 = a 201 0) (m : sm h g (a 201 0)) (e6 : T 0 0 0 = S 0 0 0) (e7 : ∀ u, T 1 u 0 = S 1 u 0) : PR b T g := by
  obtain ⟨k, l, i, -⟩ := m
  simp only [PR, e1, k, l, i, e6, e7]
  exact A
theorem PT.c (A : PT a S h) (v0 : 0 ≤ S 2 0 0) (e1 : b 202 0 = a 202 0) (m : sm h g (a 202 0)) (x3 : ∀ v, 0 ≤ v → v ≤ S 2 0 0 → b 203 v = a 203 v ∧ sm h g (a 203 v)) (x5 : ∀ n, 0 ≤ n → n < S 6 0 0 → b 205 n = a 205 n) (nm : ∀ p, 0 ≤ p → p < S 3 (S 2 0 0) 0 → 0 ≤ S 4 (S 2 0 0) p ∧ S 4 (S 2 0 0) p < S 6 0 0) (e2 : T 2 0 0 = S 2 0 0) (e3 : T 3 (S 2 0 0) 0 = S 3 (S 2 0 0) 0) (e4 : ∀ p, T 4 (S 2 0 0) p = S 4 (S 2 0 0) p) : PT b T g := by
  obtain ⟨k, l, i, r, -⟩ := m
  obtain ⟨A1, A2, A3, A4, A5, A6⟩ := A
  obtain ⟨y1, y2, y3, y4, y5, -⟩ := x3 _ v0 (Int.le_refl _)
  refine ⟨by rw [e1, k]; exact A1, by rw [e1, l, e2]; exact A2, fun v h1 h2 => ?_, fun v h1 h2 => ?_, ?_, fun p h1 h2 => ?_⟩
  · rw [e2] at h2
    rw [e1, r, (x3 v h1 h2).1]; exact A3 v h1 h2
  · rw [e2] at h2
    rw [(x3 v h1 h2).1, (x3 v h1 h2).2.1]; exact A4 v h1 h2
  · rw [e2, y1, y3, e3]; exact A5
  · rw [e2, e3] at h2
    rw [e2, y1, y5, e4, x5 _ (nm p h1 h2).1 (nm p h1 h2).2]; exact A6 p h1 h2
theorem PS.c {n : Int} (A : PS a S h n) (e1 : b 205 n = a 205 n) (m : sm h g (a 205 n)) (e5 : T 5 n 0 = S 5 n 0) : PS b T g n := by
  obtain ⟨k, l, i, -⟩ := m
  simp only [PS, e1, k, l, i, e5]
  exact A
theorem PM.c (A : PM a S h) (e1 : b 204 0 = a 204 0) (m : sm h g (a 204 0)) (e7 : T 7 0 0 = S 7 0 0) : PM b T g := by
  obtain ⟨k, l, -⟩ := m
  simp only [PM, e1, k, l, e7]
  exact A
theorem PN.c {k : Int} (A : PN a S h k) (e1 : b 204 0 = a 204 0) (r4 : gR g (a 204 0) k = gR h (a 204 0) k) (e2 : b 206 k = a 206 k) (m2 : sm h g (a 206 k)) (e10 : T 10 k 0 = S 10 k 0) (e19 : T 19 k 0 = S 19 k 0) (e8 : T 8 k 0 = S 8 k 0) (e11 : T 11 k 0 = S 11 k 0) (e12 : T 12 k 0 = S 12 k 0) : PN b T g k := by
  obtain ⟨k2, l2, i2, -⟩ := m2
  simp only [PN, e1, r4, e2, k2, l2, i2, e10, e19, e8, e11, e12]
  exact A
theorem PH.c {k : Int} (A : PH a S h k) (e2 : b 206 k = a 206 k) (m2 : sm h g (a 206 k)) (e13 : T 13 k 0 = S 13 k 0) (e14 : T 14 k 0 = S 14 k 0) (e15 : T 15 k 0 = S 15 k 0) (e16 : T 16 k 0 = S 16 k 0) (e17 : T 17 k 0 = S 17 k 0) (e18 : T 18 k 0 = S 18 k 0) (e19 : T 19 k 0 = S 19 k 0) (e20 : ∀ i, T 20 k i = S 20 k i) : PH b T g k := by
  obtain ⟨k2, l2, i2, -⟩ := m2
  simp only [PH, e2, i2, e13, e14, e15, e16, e17, e18, e19, e20]
  exact A
theorem RepP.keep (hp : RepP a S h) (it : ItP S) (e0 : b 0 0 = a 0 0) (x : ∀ f i, LvP S f i → gK h (a f i) ≠ 0 → b f i = a f i ∧ sm h g (a f i)) (e : ∀ k i j, k ≠ 9 → k < 21 → T k i j = S k i j) : RepP b T g := by
  obtain ⟨A, R, X, G, M, N, H⟩ := hp
  have v0 := it.1.1
  have x0 := x 200 0 (.inl ⟨by omega, rfl⟩) (by rw [A.1]; omega)
  have x8 := x 208 0 (.inl ⟨by omega, rfl⟩) (by rw [A.2.2.2.2.2.2.2.2]; omega)
  have x1 := x 201 0 (.inl ⟨by omega, rfl⟩) (by rw [R.1]; omega)
  have x2 := x 202 0 (.inl ⟨by omega, rfl⟩) (by rw [X.1]; omega)
  have x4 := x 204 0 (.inl ⟨by omega, rfl⟩) (by rw [M.1]; omega)
  have x3 : ∀ v, 0 ≤ v → v ≤ S 2 0 0 → b 203 v = a 203 v ∧ sm h g (a 203 v) := fun v h1 h2 => x 203 v (.inr (.inl ⟨rfl, h1, h2⟩)) (by rw [X.2.2.2.1 v h1 h2]; omega)
  have x5 : ∀ n, 0 ≤ n → n < S 6 0 0 → b 205 n = a 205 n ∧ sm h g (a 205 n) := fun n h1 h2 => x 205 n (.inr (.inr (.inl ⟨rfl, h1, h2⟩))) (by rw [(G n h1 h2).1]; omega)
  have x6 : ∀ k, nt S k → b 206 k = a 206 k ∧ sm h g (a 206 k) := fun k hk => x 206 k (.inr (.inr (.inr ⟨rfl, hk⟩))) (by rw [(N k hk).2.1]; omega)
  have q : ∀ k i j, k ≠ 9 ∧ k < 21 → T k i j = S k i j := fun k i j z => e k i j z.1 z.2
  refine ⟨A.c e0 x0.1 x8.1 x1.1 x2.1 x4.1 x0.2 x8.2 (q _ _ _ (by omega)), R.c x1.1 x1.2 (q _ _ _ (by omega)) (fun u => q _ _ _ (by omega)), X.c v0 x2.1 x2.2 x3 (fun n h1 h2 => (x5 n h1 h2).1) (fun p h1 h2 => it.2 p h1 h2) (q _ _ _ (by omega)) (q _ _ _ (by omega)) (fun p => q _ _ _ (by omega)), fun n h1 h2 => ?_, M.c x4.1 x4.2 (q _ _ _ (by omega)), fun k hk => ?_, fun k hk => ?_⟩
  · rw [q 6 0 0 (by omega)] at h2
    exact (G n h1 h2).c (x5 n h1 h2).1 (x5 n h1 h2).2 (q _ _ _ (by omega))
  · have hk2 : nt S k := ⟨hk.1, by have := hk.2; rw [q 7 0 0 (by omega)] at this; exact this⟩
    exact (N k hk2).c x4.1 (x4.2.2.2.2.1 k) (x6 k hk2).1 (x6 k hk2).2 (q _ _ _ (by omega)) (q _ _ _ (by omega)) (q _ _ _ (by omega)) (q _ _ _ (by omega)) (q _ _ _ (by omega))
  · have hk2 : nt S k := ⟨hk.1.1, by have := hk.1.2; rw [q 7 0 0 (by omega)] at this; exact this⟩
    have hk3 : hd S k := ⟨hk2, by have := hk.2; rw [q 11 k 0 (by omega)] at this; exact this⟩
    exact (H k hk3).c (x6 k hk2).1 (x6 k hk2).2 (q _ _ _ (by omega)) (q _ _ _ (by omega)) (q _ _ _ (by omega)) (q _ _ _ (by omega)) (q _ _ _ (by omega)) (q _ _ _ (by omega)) (q _ _ _ (by omega)) (fun i => q _ _ _ (by omega))
theorem RepP.fr {P : Nat → Prop} (hp : RepP a S h) (it : ItP S) (e0 : b 0 0 = a 0 0) (x : Fr P a h b g) (hP : ∀ f, 200 ≤ f → f ≤ 208 → P f) : RepP b S g := hp.keep it e0 (fun f i l k => x f i (hP f (by unfold LvP at l; omega) (by unfold LvP at l; omega)) k) (fun _ _ _ _ _ => rfl)
theorem RepP.eqs (hp : RepP a S h) (it : ItP S) (e : ∀ k i j, k ≠ 9 → k < 21 → T k i j = S k i j) : RepP a T h := hp.keep it rfl (fun f i _ _ => ⟨rfl, sm_rfl h _⟩) e
/-- a write to a name that isn't the page's -/
theorem RepP.wI (hi : Ij a) (hp : RepP a S h) (it : ItP S) {f : Nat} {i k x : Int} (nl : ¬ LvP S f i) : RepP a S (pI h (a f i) k x) :=
  hp.keep it rfl (fun f2 i2 l _ => ⟨rfl, smI hi (by
    by_cases c : f2 = f
    · by_cases d : i2 = i
      · exact absurd (c ▸ d ▸ l) nl
      · exact .inr d
    · exact .inl c)⟩) (fun _ _ _ _ _ => rfl)
theorem RepP.wR (hi : Ij a) (hp : RepP a S h) (it : ItP S) {f : Nat} {i k : Int} {x : Option Nat} (nl : ¬ LvP S f i) : RepP a S (pR h (a f i) k x) :=
  hp.keep it rfl (fun f2 i2 l _ => ⟨rfl, smR hi (by
    by_cases c : f2 = f
    · by_cases d : i2 = i
      · exact absurd (c ▸ d ▸ l) nl
      · exact .inr d
    · exact .inl c)⟩) (fun _ _ _ _ _ => rfl)
theorem RepP.new (hp : RepP a S h) (it : ItP S) (c0 : gK h (a 0 0) ≠ 0) {f : Nat} {i n : Int} {q kd : Nat} (hq : gK h q = 0) (nl : ¬ LvP S f i) (n0 : f ≠ 0) : RepP (nm a f i q) S (nw h q kd n) :=
  hp.keep it (nm_live hq c0 (fun e => n0 e.1.symm)) (fun _ _ l k => ⟨nm_live hq k (fun e => nl (e.1 ▸ e.2 ▸ l)), sm_nw (fun e => k (by rw [e]; exact hq))⟩) (fun _ _ _ _ _ => rfl)
theorem RepP.tk (hp : RepP a S h) (it : ItP S) : RepP a S (tk h) := hp.keep it rfl (fun f i _ _ => ⟨rfl, sm_tk h _⟩) (fun _ _ _ _ _ => rfl)
/-- the number of draws -/
theorem RepP.wDraw (hi : Ij a) (hp : RepP a S h) (it : ItP S) {x : Int} (hx : 0 ≤ x) : RepP a S (pI h (a 200 0) 2 x) := by
  obtain ⟨A, R, X, G, M, N, H⟩ := hp
  refine ⟨?_, R.c rfl (smI hi (by omega)) rfl (fun _ => rfl), X.c it.1.1 rfl (smI hi (by omega)) (fun v _ _ => ⟨rfl, smI hi (by omega)⟩) (fun _ _ _ => rfl) (fun p h1 h2 => it.2 p h1 h2) rfl rfl (fun _ => rfl), fun n h1 h2 => (G n h1 h2).c rfl (smI hi (by omega)) rfl, M.c rfl (smI hi (by omega)) rfl, fun k hk => (N k hk).c rfl ((smI hi (by omega)).2.2.2.1 k) rfl (smI hi (by omega)) rfl rfl rfl rfl rfl, fun k hk => (H k hk).c rfl (smI hi (by omega)) rfl rfl rfl rfl rfl rfl rfl (fun _ => rfl)⟩
  have z := A
  simp only [PA, gI_pI, gR_pI, gK_pI, gL_pI, gI_pR, gR_pR, gK_pR, gL_pR, hi, su, reduceCtorEq, Nat.reduceEqDiff, Int.reduceEq, and_true, true_and, and_false, false_and, if_true, if_false, and_self, eq_self, ne_eq, not_true, not_false_eq_true] at z ⊢
  exact ⟨z.1, z.2.1, z.2.2.1, hx, z.2.2.2.2⟩
end
