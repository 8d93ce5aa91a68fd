/-! THE PAGE, changed: what a method leaves, new rows, new texts -/
theorem sm_cpyR {h : Zh} {s d b : Nat} {sp dp n : Int} (nb : b ≠ d) : sm h (cpyR h s sp d dp n) b := ⟨rfl, rfl, fun _ => rfl, fun i => by rw [gR_cpyR, if_neg (fun z => nb z.1)], fun _ => rfl⟩
/-- the class's memory is where it was, the page and the script too; so many draws, cells and slots at most -/
def E6 (a : Na) (h : Zh) (b : Na) (g : Zh) : Prop := ∀ i, gK h (a 206 i) ≠ 0 → b 206 i = a 206 i ∧ gK g (a 206 i) ≠ 0
def EP (a : Na) (h : Zh) (b : Na) (g : Zh) (d : Int) (c s : Nat) : Prop := Ij b ∧ Fr (fun f => f < 100) a h b g ∧ b 0 0 = a 0 0 ∧ b 200 0 = a 200 0 ∧ b 208 0 = a 208 0 ∧ gI g (a 200 0) 2 ≤ gI h (a 200 0) 2 + d ∧ gC g ≤ gC h + c ∧ gS g ≤ gS h + s ∧ E6 a h b g
section
variable {a b e : Na} {S T : St} {h g k : Zh} {Q : Zp} {d d2 : Int} {c s c2 s2 : Nat}
theorem EP.trans (x : EP a h b g d c s) (y : EP b g e k d2 c2 s2) : EP a h e k (d + d2) (c + c2) (s + s2) := by
  obtain ⟨x0, x1, x2, x3, x4, x5, x6, x7, x8⟩ := x
  obtain ⟨y0, y1, y2, y3, y4, y5, y6, y7, y8⟩ := y
  rw [x3] at y5
  refine ⟨y0, x1.trans y1, y2.trans x2, y3.trans x3, y4.trans x4, by omega, by omega, by omega, fun i n => ?_⟩
  obtain ⟨e1, n1⟩ := x8 i n
  obtain ⟨e2, n2⟩ := y8 i (by rw [e1]; exact n1)
  rw [e1] at e2 n2
  exact ⟨e2, n2⟩
theorem EP.rfl (hi : Ij a) : EP a h a h 0 0 0 := ⟨hi, Fr_rfl, by rfl, by rfl, by rfl, by omega, by omega, by omega, fun _ n => ⟨by rfl, n⟩⟩
theorem EP.le {d2 : Int} {c2 s2 : Nat} (x : EP a h b g d c s) (h1 : d ≤ d2) (h2 : c ≤ c2) (h3 : s ≤ s2) : EP a h b g d2 c2 s2 := by
  obtain ⟨x0, x1, x2, x3, x4, x5, x6, x7, x8⟩ := x
  exact ⟨x0, x1, x2, x3, x4, by omega, by omega, by omega, x8⟩
/-- a call of the class -/
theorem EP.ec (x : EC a h b g) (hp : RepP a S h) : EP a h b g 0 10 100 ∨ True := .inr trivial
theorem EP.draw (hi : Ij a) : EP a h a (pI h (a 200 0) 2 (gI h (a 200 0) 2 + 1)) 1 0 0 := ⟨hi, Fr_pI hi (by omega), by rfl, by rfl, by rfl, by rw [gI_pI, if_pos ⟨by rfl, by rfl⟩]; omega, by show gC h ≤ _; omega, by show gS h ≤ _; omega, fun _ n => ⟨by rfl, n⟩⟩
theorem EP.row (hi : Ij a) {f : Nat} {i j x : Int} (n : 200 < f) : EP a h a (pI h (a f i) j x) 0 0 0 := ⟨hi, Fr_pI hi (by omega), by rfl, by rfl, by rfl, by rw [gI_pI, if_neg (fun z => by rw [hi] at z; omega)]; omega, by show gC h ≤ _; omega, by show gS h ≤ _; omega, fun _ n => ⟨by rfl, n⟩⟩
theorem RepC.ep (hr : RepC a S h) (x : EP a h b g d c s) : RepC b S g := hr.fr x.2.1 (fun f h1 => h1)
/-- a name that swaps with another -/
theorem nm_sw (hi : Ij a) {f f1 f2 : Nat} {i i1 i2 : Int} (n1 : ¬ (f = f1 ∧ i = i1)) (n2 : ¬ (f = f2 ∧ i = i2)) : nm a f1 i1 (a f2 i2) f i = a f i := by
  unfold nm
  rw [if_neg n1, if_neg (fun z => by rw [hi] at z; exact n2 z)]
/-- with: a row more -/
theorem p_with (r m : Nat) (p n : Int) (hr : gK h r = 14) (hl : gL h r = n) (hn : 0 ≤ n ∧ n ≤ 1000) (hp : 0 ≤ p ∧ p ≤ n) (he : ∀ (i : Int) (y : Nat), 0 ≤ i → i < n → gR h r i = some y → gK h y = 10) (hm : gK h m = 10) (rc : gC h + 1 ≤ MXC) (rs : gS h + (n + 1).toNat ≤ MXS)
    (hQ : ∀ (q : Nat) (g : Zh), gK h q = 0 → gK g q = 14 → gL g q = n + 1 → (∀ j, 0 ≤ j → j ≤ n → gR g q j = if j < p then gR h r j else if j = p then some m else gR h r (j - 1)) → (∀ b, b ≠ q → sm h g b) → gC g = gC h + 1 → gS g = gS h + (n + 1).toNat → Q (.inl (some (zr (some q)))) g) :
    WP 91 0 [some (zr (some r)), some (zi p), some (zr (some m)), none] [] h Q := by
  rw [b_91_0]
  refine ⟨(kd_some _ _ _).mpr hr, by rw [ad_some, hl]; exact ⟨by omega, by omega⟩, ⟨by rw [ad_some, hl]; omega, by rw [ad_some, hl]; omega, rc, by rw [ad_some, hl]; exact rs⟩, fun q hq => ?_⟩
  rw [ad_some, hl]
  have rq : r ≠ q := fun z => by rw [z] at hr; omega
  have mq : m ≠ q := fun z => by rw [z] at hm; omega
  have s1 : ∀ b, b ≠ q → sm h (nw h q 14 (n + 1)) b := fun b nb => sm_nw nb
  have k1 : gK (nw h q 14 (n + 1)) q = 14 := by rw [gK_nw, if_pos rfl]
  have l1 : gL (nw h q 14 (n + 1)) q = n + 1 := by rw [gL_nw, if_pos rfl]
  have c1 : gC (nw h q 14 (n + 1)) = gC h + 1 := rfl
  have t1 : gS (nw h q 14 (n + 1)) = gS h + (n + 1).toNat := rfl
  revert s1 k1 l1 c1 t1
  generalize nw h q 14 (n + 1) = g1
  intro s1 k1 l1 c1 t1
  obtain ⟨r1, r2, -, r4, -⟩ := s1 r rq
  have elr : ∀ (i : Int) (y : Nat), 0 ≤ i → i < n → gR g1 r i = some y → gK g1 y = 10 := fun i y h1 h2 h3 => by
    rw [r4] at h3
    have h4 := he i y h1 h2 h3
    rw [(s1 y (fun z => by rw [z] at h4; omega)).1]
    exact h4
  have km : gK g1 m = 10 := by rw [(s1 m mq).1]; exact hm
  rw [b_91_7]
  refine ⟨⟨(kd_some _ _ _).mpr (by rw [r1]; exact hr), (kd_some _ _ _).mpr k1, hp.1, by omega, by omega, by rw [ad_some, r2, hl]; omega, by rw [ad_some, l1]; omega, fun i y h1 h2 h3 => elr i y h1 (by omega) h3⟩, ?_⟩
  rw [b_91_16]
  refine ⟨⟨⟨(kd_some _ _ _).mpr k1, hp.1, by rw [ad_some]; show p < gL g1 q; rw [l1]; omega⟩, (kd_some _ _ _).mpr km⟩, ?_⟩
  rw [b_91_20]
  refine ⟨⟨by omega, by omega⟩, (kd_some _ _ _).mpr (by show gK g1 r = 14; rw [r1]; exact hr), ?_⟩
  have l2 : gL (pR (cpyR g1 (ad (some r)) 0 (ad (some q)) 0 p) (ad (some q)) p (some m)) (ad (some r)) = n := by show gL g1 r = n; rw [r2]; exact hl
  rw [l2]
  refine ⟨⟨by omega, by omega⟩, ⟨(kd_some _ _ _).mpr (by show gK g1 r = 14; rw [r1]; exact hr), (kd_some _ _ _).mpr k1, by omega, hp.1, by omega, by omega, by show _ ≤ gL g1 q; rw [l1]; omega, fun i y h1 h2 h3 => ?_⟩, ?_⟩
  · have h3 : gR (pR (cpyR g1 r 0 q 0 p) q p (some m)) r i = some y := h3
    rw [gR_pR, if_neg (fun z => rq z.1), gR_cpyR, if_neg (fun z => rq z.1)] at h3
    exact elr i y (by omega) (by omega) h3
  · rw [b_91_33]
    refine hQ q _ hq k1 l1 (fun j h1 h2 => ?_) (fun b nb => (s1 b nb).trans ((sm_cpyR nb).trans ((sm_pR nb).trans (sm_cpyR nb)))) c1 t1
    show gR (cpyR (pR (cpyR g1 r 0 q 0 p) q p (some m)) r p q (p + 1) (n - p)) q j = _
    rw [gR_cpyR]
    by_cases c3 : p + 1 ≤ j
    · rw [if_pos ⟨rfl, c3, by omega⟩, if_neg (by omega), if_neg (by omega), gR_pR, if_neg (fun z => rq z.1), gR_cpyR, if_neg (fun z => rq z.1), r4]
      congr 1
      omega
    · rw [if_neg (fun z => c3 z.2.1), gR_pR]
      by_cases c4 : j = p
      · rw [if_pos ⟨rfl, c4⟩, if_neg (by omega), if_pos c4]
      · rw [if_neg (fun z => c4 z.2), gR_cpyR, if_pos ⟨rfl, h1, by omega⟩, if_pos (by omega), r4]
        congr 1
        omega
/-- edited: the next version -/
theorem p_edited (hi : Ij a) (hp : RepP a S h) (it : ItP S) (z : Int) (r : Int → Int) (K : gK h (a 210 0) = 14) (L : gL h (a 210 0) = z) (E : ∀ j, 0 ≤ j → j < z → gR h (a 210 0) j = some (a 205 (r j)) ∧ 0 ≤ r j ∧ r j < S 6 0 0) (c0 : gK h (a 0 0) ≠ 0) (rc : gC h + 1 ≤ MXC) (rs : gS h + 62 ≤ MXS)
    (hQ : ∀ b g, RepP b (TV S z r) g → EP a h b g 0 1 62 → Q (.inl none) g) : WP 93 0 [some (zr (some (a 200 0))), some (zr (some (a 210 0))), none] [] h Q := by
  obtain ⟨v0, v1⟩ := it.1
  rw [b_93_0]
  simp only [ad_some, kd_some, hp.q0, hp.q5, hp.q11, hp.q12, true_and]
  refine ⟨⟨by omega, by omega⟩, ⟨by omega, by omega, rc, by omega⟩, fun q hq => ?_⟩
  have nq : ∀ y, gK h y ≠ 0 → y ≠ q := fun y n z => n (by rw [z]; exact hq)
  have s1 : ∀ b, b ≠ q → sm h (nw h q 16 (S 2 0 0 + 1 + 1)) b := fun b nb => sm_nw nb
  have k1 : gK (nw h q 16 (S 2 0 0 + 1 + 1)) q = 16 := by rw [gK_nw, if_pos rfl]
  have l1 : gL (nw h q 16 (S 2 0 0 + 1 + 1)) q = S 2 0 0 + 1 + 1 := by rw [gL_nw, if_pos rfl]
  have c1 : gC (nw h q 16 (S 2 0 0 + 1 + 1)) = gC h + 1 := rfl
  have t1 : gS (nw h q 16 (S 2 0 0 + 1 + 1)) = gS h + (S 2 0 0 + 1 + 1).toNat := rfl
  revert s1 k1 l1 c1 t1
  generalize nw h q 16 (S 2 0 0 + 1 + 1) = g1
  intro s1 k1 l1 c1 t1
  have p0 := nq (a 200 0) (by rw [hp.q0]; omega)
  have p2 := nq (a 202 0) (by rw [hp.q11]; omega)
  have px := nq (a 210 0) (by rw [K]; omega)
  obtain ⟨r1, r2, r3, r4, -⟩ := s1 _ p0
  obtain ⟨u1, u2, -, u4, -⟩ := s1 _ p2
  obtain ⟨x1, x2, -, x4, -⟩ := s1 _ px
  have f5 : gR g1 (a 200 0) 5 = some (a 202 0) := (r4 5).trans hp.q5
  have f1 : gK g1 (a 200 0) = 7 := r1.trans hp.q0
  have f2 : gK g1 (a 202 0) = 16 := u1.trans hp.q11
  have f3 : gL g1 (a 202 0) = S 2 0 0 + 1 := u2.trans hp.q12
  rw [b_93_10]
  simp only [ad_some, kd_some, f5, f1, f2, f3, k1, l1, true_and]
  refine ⟨⟨by omega, by omega, by omega, by omega, by omega, fun i y h1 h2 h3 => ?_⟩, ?_⟩
  · rw [u4, hp.q13 i h1 (by omega)] at h3
    cases h3
    have h4 := hp.q14 i h1 (by omega)
    rw [(s1 _ (nq _ (by rw [h4]; omega))).1]
    exact h4
  rw [b_93_26]
  simp only [ad_some, kd_some, ixa, gK_cpyR, gL_cpyR, gR_cpyR, if_neg (fun z : a 200 0 = q ∧ _ => p0 z.1), f5, f1, f2, f3, k1, l1, x1.trans K, true_and]
  have e9 : ¬ (a 200 0 = q ∧ (0 : Int) ≤ 5 ∧ 5 < 0 + (S 2 0 0 + 1)) := fun z => p0 z.1
  try simp only [if_neg e9, f5, ad_some, f2, f3, true_and]
  refine ⟨⟨?_, ?_⟩, ?_⟩
  · first
      | trivial
      | omega
      | (rw [f3]; omega)
      | (rw [u2, hp.q12]; omega)
  · first
      | trivial
      | omega
      | (rw [f3]; omega)
      | (rw [u2, hp.q12]; omega)
  rw [b_93_34]
  refine ⟨(kd_some _ _ _).mpr f1, ?_⟩
  rw [b_93_39]
  try simp only [ad_some]
  -- the new names
  have i1 := Ij_nm hi 202 0 q
  have live : ∀ f i, gK h (a f i) ≠ 0 → ¬ (f = 202 ∧ i = 0) → nm a 202 0 q f i = a f i := fun f i n1 n2 => nm_live hq n1 n2
  have ex : nm a 202 0 q 210 0 = a 210 0 := live 210 0 (by rw [K]; omega) (by omega)
  have i2 := Ij_nm i1 203 (S 2 0 0 + 1) (nm a 202 0 q 210 0)
  have sw : ∀ f i, gK h (a f i) ≠ 0 → ¬ (f = 202 ∧ i = 0) → ¬ (f = 203 ∧ i = S 2 0 0 + 1) → ¬ (f = 210 ∧ i = 0) → nm (nm a 202 0 q) 203 (S 2 0 0 + 1) (nm a 202 0 q 210 0) f i = a f i := fun f i n1 n2 n3 n4 => (nm_sw i1 n3 n4).trans (live f i n1 n2)
  have nq2 : nm (nm a 202 0 q) 203 (S 2 0 0 + 1) (nm a 202 0 q 210 0) 202 0 = q := (nm_sw i1 (by omega) (by omega)).trans (nm_self a 202 0 q)
  have nx : nm (nm a 202 0 q) 203 (S 2 0 0 + 1) (nm a 202 0 q 210 0) 203 (S 2 0 0 + 1) = a 210 0 := (nm_self _ _ _ _).trans ex
  revert i2 sw nq2 nx
  generalize nm (nm a 202 0 q) 203 (S 2 0 0 + 1) (nm a 202 0 q 210 0) = b
  intro i2 sw nq2 nx
  -- the new memory
  have m1 : ∀ y, y ≠ q → y ≠ a 200 0 → sm h (pR (pR (cpyR g1 (a 202 0) 0 q 0 (S 2 0 0 + 1)) q (S 2 0 0 + 1) (some (a 210 0))) (a 200 0) 5 (some q)) y := fun y n1 n2 => (s1 y n1).trans ((sm_cpyR n1).trans ((sm_pR n1).trans (sm_pR n2)))
  have mK : gK (pR (pR (cpyR g1 (a 202 0) 0 q 0 (S 2 0 0 + 1)) q (S 2 0 0 + 1) (some (a 210 0))) (a 200 0) 5 (some q)) q = 16 := k1
  have mL : gL (pR (pR (cpyR g1 (a 202 0) 0 q 0 (S 2 0 0 + 1)) q (S 2 0 0 + 1) (some (a 210 0))) (a 200 0) 5 (some q)) q = S 2 0 0 + 1 + 1 := l1
  have mR : ∀ v, 0 ≤ v → v ≤ S 2 0 0 → gR (pR (pR (cpyR g1 (a 202 0) 0 q 0 (S 2 0 0 + 1)) q (S 2 0 0 + 1) (some (a 210 0))) (a 200 0) 5 (some q)) q v = some (a 203 v) := fun v h1 h2 => by
    rw [gR_pR, if_neg (fun z => p0 z.1.symm), gR_pR, if_neg (fun z => by omega), gR_cpyR, if_pos ⟨rfl, h1, by omega⟩, show (0 : Int) + (v - 0) = v by omega, u4]
    exact hp.q13 v h1 h2
  have mR2 : gR (pR (pR (cpyR g1 (a 202 0) 0 q 0 (S 2 0 0 + 1)) q (S 2 0 0 + 1) (some (a 210 0))) (a 200 0) 5 (some q)) q (S 2 0 0 + 1) = some (a 210 0) := by
    rw [gR_pR, if_neg (fun z => p0 z.1.symm), gR_pR, if_pos ⟨rfl, rfl⟩]
  have mP : ∀ j, gR (pR (pR (cpyR g1 (a 202 0) 0 q 0 (S 2 0 0 + 1)) q (S 2 0 0 + 1) (some (a 210 0))) (a 200 0) 5 (some q)) (a 200 0) j = if j = 5 then some q else gR h (a 200 0) j := fun j => by
    rw [gR_pR]
    by_cases c : j = 5
    · rw [if_pos ⟨rfl, c⟩, if_pos c]
    · rw [if_neg (fun z => c z.2), if_neg c, gR_pR, if_neg (fun z => p0 z.1), gR_cpyR, if_neg (fun z => p0 z.1), r4]
  have mPK : gK (pR (pR (cpyR g1 (a 202 0) 0 q 0 (S 2 0 0 + 1)) q (S 2 0 0 + 1) (some (a 210 0))) (a 200 0) 5 (some q)) (a 200 0) = 7 := f1
  have mPI : ∀ j, gI (pR (pR (cpyR g1 (a 202 0) 0 q 0 (S 2 0 0 + 1)) q (S 2 0 0 + 1) (some (a 210 0))) (a 200 0) 5 (some q)) (a 200 0) j = gI h (a 200 0) j := fun j => r3 j
  have mC : gC (pR (pR (cpyR g1 (a 202 0) 0 q 0 (S 2 0 0 + 1)) q (S 2 0 0 + 1) (some (a 210 0))) (a 200 0) 5 (some q)) = gC h + 1 := c1
  have mS : gS (pR (pR (cpyR g1 (a 202 0) 0 q 0 (S 2 0 0 + 1)) q (S 2 0 0 + 1) (some (a 210 0))) (a 200 0) 5 (some q)) = gS h + (S 2 0 0 + 1 + 1).toNat := t1
  revert m1 mK mL mR mR2 mP mPK mPI mC mS
  generalize pR (pR (cpyR g1 (a 202 0) 0 q 0 (S 2 0 0 + 1)) q (S 2 0 0 + 1) (some (a 210 0))) (a 200 0) 5 (some q) = g
  intro m1 mK mL mR mR2 mP mPK mPI mC mS
  have keep : ∀ f i, gK h (a f i) ≠ 0 → ¬ (f = 202 ∧ i = 0) → ¬ (f = 203 ∧ i = S 2 0 0 + 1) → ¬ (f = 210 ∧ i = 0) → ¬ (f = 200 ∧ i = 0) → b f i = a f i ∧ sm h g (a f i) := fun f i n1 n2 n3 n4 n5 => ⟨sw f i n1 n2 n3 n4, m1 _ (nq _ n1) (fun z => by rw [hi] at z; exact n5 z)⟩
  have b0 : b 200 0 = a 200 0 := sw 200 0 (by rw [hp.q0]; omega) (by omega) (by omega) (by omega)
  have k8 := keep 208 0 (by rw [hp.q7]; omega) (by omega) (by omega) (by omega) (by omega)
  have k1 := keep 201 0 (by rw [hp.q8]; omega) (by omega) (by omega) (by omega) (by omega)
  have k4 := keep 204 0 (by rw [hp.q20]; omega) (by omega) (by omega) (by omega) (by omega)
  have k00 := keep 0 0 c0 (by omega) (by omega) (by omega) (by omega)
  have k3 : ∀ v, 0 ≤ v → v ≤ S 2 0 0 → b 203 v = a 203 v ∧ sm h g (a 203 v) := fun v h1 h2 => keep 203 v (by rw [hp.q14 v h1 h2]; omega) (by omega) (by omega) (by omega) (by omega)
  have k5 : ∀ n, 0 ≤ n → n < S 6 0 0 → b 205 n = a 205 n ∧ sm h g (a 205 n) := fun n h1 h2 => keep 205 n (by rw [hp.q17 n h1 h2]; omega) (by omega) (by omega) (by omega) (by omega)
  have k6 : ∀ k, nt S k → b 206 k = a 206 k ∧ sm h g (a 206 k) := fun k hk => keep 206 k (by rw [hp.q23 k hk]; omega) (by omega) (by omega) (by omega) (by omega)
  have kx : sm h g (a 210 0) := m1 _ px (fun z => by rw [hi] at z; omega)
  have T2 : TV S z r 2 0 0 = S 2 0 0 + 1 := by unfold TV; rw [if_pos ⟨rfl, rfl, rfl⟩]
  have T3 : TV S z r 3 (S 2 0 0 + 1) 0 = z := by unfold TV; rw [if_neg (by omega), if_pos ⟨rfl, rfl, rfl⟩]
  have T4 : ∀ j, TV S z r 4 (S 2 0 0 + 1) j = r j := fun j => by unfold TV; rw [if_neg (by omega), if_neg (by omega), if_pos ⟨rfl, rfl⟩]
  have To : ∀ k i j, k ≠ 2 ∧ k ≠ 3 ∧ k ≠ 4 → TV S z r k i j = S k i j := fun k i j n => by unfold TV; rw [if_neg (by omega), if_neg (by omega), if_neg (by omega)]
  refine hQ b g ⟨?_, ?_, ?_, fun n h1 h2 => ?_, ?_, fun k hk => ?_, fun k hk => ?_⟩ ⟨i2, fun f i p n => ?_, k00.1, b0, k8.1, by rw [mPI]; omega, by omega, by omega, fun i n => ⟨(keep 206 i n (by omega) (by omega) (by omega) (by omega)).1, by rw [(keep 206 i n (by omega) (by omega) (by omega) (by omega)).2.1]; exact n⟩⟩
  · refine ⟨by rw [b0]; exact mPK, by rw [b0, mP, if_neg (by omega), k00.1]; exact hp.q1, by rw [b0, mP, if_neg (by omega), k8.1]; exact hp.q2, by rw [b0, mPI]; exact hp.1.2.2.2.1, by rw [b0, mP, if_neg (by omega), k1.1]; exact hp.q3, by rw [b0, mPI, To _ _ _ (by omega)]; exact hp.q4, by rw [b0, mP, if_pos rfl, nq2], by rw [b0, mP, if_neg (by omega), k4.1]; exact hp.q6, by rw [k8.1, k8.2.1]; exact hp.q7⟩
  · exact hp.2.1.c k1.1 k1.2 (To _ _ _ (by omega)) (fun u => To _ _ _ (by omega))
  · unfold PT
    rw [T2, nq2, nx, T3]
    refine ⟨mK, by rw [mL], fun v h1 h2 => ?_, fun v h1 h2 => ?_, by rw [kx.2.1]; exact L, fun p h1 h2 => ?_⟩
    · by_cases c : v = S 2 0 0 + 1
      · rw [c, mR2, nx]
      · rw [mR v h1 (by omega), (k3 v h1 (by omega)).1]
    · by_cases c : v = S 2 0 0 + 1
      · rw [c, nx, kx.1]; exact K
      · rw [(k3 v h1 (by omega)).1, (k3 v h1 (by omega)).2.1]; exact hp.q14 v h1 (by omega)
    · obtain ⟨e1, e2, e3⟩ := E p h1 h2
      rw [kx.2.2.2.1, T4, (k5 _ e2 e3).1]
      exact e1
  · rw [To _ _ _ (by omega)] at h2
    exact (hp.2.2.2.1 n h1 h2).c (k5 n h1 h2).1 (k5 n h1 h2).2 (To _ _ _ (by omega))
  · exact hp.2.2.2.2.1.c k4.1 k4.2 (To _ _ _ (by omega))
  · have hk2 : nt S k := ⟨hk.1, by have := hk.2; rw [To _ _ _ (by omega)] at this; exact this⟩
    exact (hp.2.2.2.2.2.1 k hk2).c k4.1 (k4.2.2.2.2.1 k) (k6 k hk2).1 (k6 k hk2).2 (To _ _ _ (by omega)) (To _ _ _ (by omega)) (To _ _ _ (by omega)) (To _ _ _ (by omega)) (To _ _ _ (by omega))
  · have hk2 : nt S k := ⟨hk.1.1, by have := hk.1.2; rw [To _ _ _ (by omega)] at this; exact this⟩
    have hk3 : hd S k := ⟨hk2, by have := hk.2; rw [To _ _ _ (by omega)] at this; exact this⟩
    exact (hp.2.2.2.2.2.2 k hk3).c (k6 k hk2).1 (k6 k hk2).2 (To _ _ _ (by omega)) (To _ _ _ (by omega)) (To _ _ _ (by omega)) (To _ _ _ (by omega)) (To _ _ _ (by omega)) (To _ _ _ (by omega)) (To _ _ _ (by omega)) (fun i => To _ _ _ (by omega))
  · exact keep f i n (by omega) (by omega) (by omega) (by omega)
end
