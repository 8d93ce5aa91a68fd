/-! THE PAGE: put and cut, whole -/
section
variable {a b : Na} {S T : St} {h g : Zh} {Q : Zp} {d : Int} {c s : Nat}
theorem EP.c0 (x : EP a h b g d c s) (n : gK h (a 0 0) ≠ 0) : gK g (b 0 0) ≠ 0 := by
  rw [x.2.2.1, (x.2.1 0 0 (by omega) n).2.1]; exact n
/-- a sign more -/
theorem RepP.wSign (hi : Ij a) (hp : RepP a S h) (it : ItP S) (s0 : 0 ≤ S 6 0 0) (c0 : gK h (a 0 0) ≠ 0) {q : Nat} {v : Int} (hq : gK h q = 0) (m1 : ∀ y, y ≠ q → y ≠ a 200 0 → sm h g y) (mK : gK g (a 200 0) = 7) (mR : ∀ j, gR g (a 200 0) j = gR h (a 200 0) j) (mI : ∀ j, gI g (a 200 0) j = if j = 4 then S 6 0 0 + 1 else gI h (a 200 0) j) (qK : gK g q = 10) (qL : gL g q = 2) (qI : gI g q 1 = v) :
    RepP (nm a 205 (S 6 0 0) q) (su (su S 5 (S 6 0 0) 0 v) 6 0 0 (S 6 0 0 + 1)) g := by
  have nq : ∀ y, gK h y ≠ 0 → y ≠ q := fun y n z => n (by rw [z]; exact hq)
  have keep : ∀ f i, gK h (a f i) ≠ 0 → ¬ (f = 205 ∧ i = S 6 0 0) → ¬ (f = 200 ∧ i = 0) → nm a 205 (S 6 0 0) q f i = a f i ∧ sm h g (a f i) := fun f i n1 n2 n3 => ⟨nm_live hq n1 n2, m1 _ (nq _ n1) (fun z => by rw [hi] at z; exact n3 z)⟩
  have b0 : nm a 205 (S 6 0 0) q 200 0 = a 200 0 := nm_live hq (by rw [hp.q0]; omega) (by omega)
  have bq : nm a 205 (S 6 0 0) q 205 (S 6 0 0) = q := nm_self _ _ _ _
  revert keep b0 bq
  generalize nm a 205 (S 6 0 0) q = b
  intro keep b0 bq
  have k8 := keep 208 0 (by rw [hp.q7]; omega) (by omega) (by omega)
  have k1 := keep 201 0 (by rw [hp.q8]; omega) (by omega) (by omega)
  have k2 := keep 202 0 (by rw [hp.q11]; omega) (by omega) (by omega)
  have k4 := keep 204 0 (by rw [hp.q20]; omega) (by omega) (by omega)
  have k00 := keep 0 0 c0 (by omega) (by omega)
  have k3 : ∀ v, 0 ≤ v → v ≤ S 2 0 0 → b 203 v = a 203 v ∧ sm h g (a 203 v) := fun v h1 h2 => keep 203 v (by rw [hp.q14 v h1 h2]; omega) (by omega) (by omega)
  have k5 : ∀ n, 0 ≤ n → n < S 6 0 0 → b 205 n = a 205 n ∧ sm h g (a 205 n) := fun n h1 h2 => keep 205 n (by rw [hp.q17 n h1 h2]; omega) (by omega) (by omega)
  have k6 : ∀ k, nt S k → b 206 k = a 206 k ∧ sm h g (a 206 k) := fun k hk => keep 206 k (by rw [hp.q23 k hk]; omega) (by omega) (by omega)
  refine ⟨?_, hp.2.1.c k1.1 k1.2 rfl (fun _ => rfl), hp.2.2.1.c it.1.1 k2.1 k2.2 k3 (fun n h1 h2 => (k5 n h1 h2).1) it.2 rfl rfl (fun _ => rfl), fun n h1 h2 => ?_, hp.2.2.2.2.1.c k4.1 k4.2 rfl, fun k hk => (hp.2.2.2.2.2.1 k hk).c k4.1 (k4.2.2.2.2.1 k) (k6 k hk).1 (k6 k hk).2 rfl rfl rfl rfl rfl, fun k hk => (hp.2.2.2.2.2.2 k hk).c (k6 k hk.1).1 (k6 k hk.1).2 rfl rfl rfl rfl rfl rfl rfl (fun _ => rfl)⟩
  · have e6 : su (su S 5 (S 6 0 0) 0 v) 6 0 0 (S 6 0 0 + 1) 6 0 0 = S 6 0 0 + 1 := if_pos ⟨rfl, rfl, rfl⟩
    refine ⟨by rw [b0]; exact mK, by rw [b0, mR, k00.1]; exact hp.q1, by rw [b0, mR, k8.1]; exact hp.q2, by rw [b0, mI, if_neg (by omega)]; exact hp.1.2.2.2.1, by rw [b0, mR, k1.1]; exact hp.q3, by rw [b0, mI, if_pos rfl, e6], by rw [b0, mR, k2.1]; exact hp.q5, by rw [b0, mR, k4.1]; exact hp.q6, by rw [k8.1, k8.2.1]; exact hp.q7⟩
  · have h2 : n < S 6 0 0 + 1 := h2
    by_cases e : n = S 6 0 0
    · subst e
      refine ⟨by rw [bq]; exact qK, by rw [bq]; exact qL, ?_⟩
      rw [bq, qI]
      exact (if_pos ⟨rfl, rfl, rfl⟩ : (if (5 : Nat) = 5 ∧ S 6 0 0 = S 6 0 0 ∧ (0 : Int) = 0 then v else S 5 (S 6 0 0) 0) = v).symm
    · refine (hp.2.2.2.1 n h1 (by omega)).c (k5 n h1 (by omega)).1 (k5 n h1 (by omega)).2 ?_
      exact (if_neg (fun z => e z.2.1) : (if (5 : Nat) = 5 ∧ n = S 6 0 0 ∧ (0 : Int) = 0 then v else S 5 n 0) = S 5 n 0)
theorem ItP_SN (it : ItP S) (i s : Int) (h : 0 ≤ i) : ItP (SN S i s) := by
  refine ⟨it.1, fun p h1 h2 => ?_⟩
  have h3 := it.2 p h1 h2
  show 0 ≤ S 4 (S 2 0 0) p ∧ S 4 (S 2 0 0) p < S 6 0 0 + i
  omega
/-- the place's sign, where i new ones stand already -/
def ptR (S : St) (p i j : Int) : Int := if j < p then S 4 (S 2 0 0) j else if j < p + i then S 6 0 0 + (j - p) else S 4 (S 2 0 0) (j - i)
theorem ptR_b (iv : Inv S) (p i j : Int) (h0 : 0 ≤ p ∧ p ≤ S 3 (S 2 0 0) 0) (hi0 : 0 ≤ i) (h1 : 0 ≤ j) (h2 : j < S 3 (S 2 0 0) 0 + i) : 0 ≤ ptR S p i j ∧ ptR S p i j < S 6 0 0 + i := by
  have nb := (ItP_of iv).2
  have s6 := iv.2.1.2.2.1.1
  unfold ptR
  split
  · have := nb j h1 (by omega); omega
  · split
    · omega
    · have := nb (j - i) (by omega) (by omega); omega
theorem p_ptL (iv : Inv S) (c0 : gK h (a 0 0) ≠ 0) (p n s : Int) (h0 : 0 ≤ p ∧ p ≤ S 3 (S 2 0 0) 0) (hn : 1 ≤ n ∧ n ≤ 40) (hs : 0 ≤ s ∧ s ≤ 25) (hz : S 3 (S 2 0 0) 0 + n ≤ 200) (rc : gC h + 100 ≤ MXC) (rs : gS h + 9000 ≤ MXS)
    (hQ : ∀ b g (o6 : Option Zv), RepP b (SN S n s) g → gK g (b 210 0) = 14 → gL g (b 210 0) = S 3 (S 2 0 0) 0 + n → (∀ j, 0 ≤ j → j < S 3 (S 2 0 0) 0 + n → gR g (b 210 0) j = some (b 205 (ptR S p n j))) → EP a h b g 0 (2 * n.toNat) (203 * n.toNat) →
      WP 96 63 [some (zr (some (b 200 0))), some (zi p), some (zi n), some (zi s), some (zr (some (b 210 0))), some (zi n), o6, none, none] [] g Q) (m : Nat) :
    ∀ (i : Int) (b : Na) (g : Zh) (x : Nat) (o6 : Option Zv), m = (n - i).toNat → 0 ≤ i → i ≤ n → RepP b (SN S i s) g → (i = 0 ∨ x = b 210 0) → gK g x = 14 → gL g x = S 3 (S 2 0 0) 0 + i → (∀ j, 0 ≤ j → j < S 3 (S 2 0 0) 0 + i → gR g x j = some (b 205 (ptR S p i j))) → EP a h b g 0 (2 * i.toNat) (203 * i.toNat) →
      WP 96 9 [some (zr (some (b 200 0))), some (zi p), some (zi n), some (zi s), some (zr (some x)), some (zi i), o6, none, none] [] g Q := by
  have it := ItP_of iv
  obtain ⟨s6, s6b⟩ := iv.2.1.2.2.1
  obtain ⟨v0, v1⟩ := it.1
  obtain ⟨z0, z1⟩ := iv.2.1.2.1 (S 2 0 0) v0 (Int.le_refl _)
  induction m with
  | zero =>
    intro i b g x o6 e1 e2 e3 hp xr kx lx ex ep
    have e : i = n := by omega
    subst e
    have xe : x = b 210 0 := by
      rcases xr with q | q
      · omega
      · exact q
    subst xe
    rw [b_96_9, brt (by omega)]
    exact hQ b g o6 hp kx lx ex ep
  | succ m ih =>
    intro i b g x o6 e1 e2 e3 hp xr kx lx ex ep
    have hi := ep.1
    have itn : ItP (SN S i s) := ItP_SN it i s e2
    have cb := ep.c0 c0
    have ec := ep.2.2.2.2.2.2.1
    have es := ep.2.2.2.2.2.2.2.1
    rw [b_96_9, brf (by omega), b_96_15]
    refine ⟨⟨by omega, by omega, by omega, by show gS g + 2 ≤ MXS; omega⟩, fun q hq => ?_⟩
    have nq : ∀ y, gK g y ≠ 0 → y ≠ q := fun y n z => n (by rw [z]; exact hq)
    have p0 := nq (b 200 0) (by rw [hp.q0]; omega)
    have px := nq x (by rw [kx]; omega)
    have pxp : x ≠ b 200 0 := fun z => by rw [z, hp.q0] at kx; omega
    have q4 : gI g (b 200 0) 4 = S 6 0 0 + i := hp.q4
    rw [b_96_18]
    simp only [ad_some, kd_some, gK_nw, gI_nw, if_neg p0, hp.q0, q4, true_and]
    refine ⟨⟨by omega, by omega⟩, ?_⟩
    rw [b_96_31]
    simp only [ad_some, kd_some, ixa, gK_pI, gL_pI, gK_nw, gL_nw, if_true, true_and]
    refine ⟨⟨by omega, by omega⟩, ?_⟩
    rw [b_96_32]
    simp only [ad_some, kd_some, ixa, gK_pI, gL_pI, gK_nw, gL_nw, if_true, true_and]
    refine ⟨⟨by omega, by omega⟩, ⟨by omega, by omega⟩, ⟨by omega, by omega⟩, ?_⟩
    -- the new memory
    have m1 : ∀ y, y ≠ q → y ≠ b 200 0 → sm g (pI (pI (pI (nw g q 10 2) (b 200 0) 4 (S 6 0 0 + i + 1)) q 0 (S 6 0 0 + i)) q 1 ((s + i) % 26)) y := fun y n1 n2 => (sm_nw n1).trans ((sm_pI n2).trans ((sm_pI n1).trans (sm_pI n1)))
    have mK : gK (pI (pI (pI (nw g q 10 2) (b 200 0) 4 (S 6 0 0 + i + 1)) q 0 (S 6 0 0 + i)) q 1 ((s + i) % 26)) (b 200 0) = 7 := by simp only [gK_pI, gK_nw, if_neg p0]; exact hp.q0
    have mR : ∀ j, gR (pI (pI (pI (nw g q 10 2) (b 200 0) 4 (S 6 0 0 + i + 1)) q 0 (S 6 0 0 + i)) q 1 ((s + i) % 26)) (b 200 0) j = gR g (b 200 0) j := fun j => by simp only [gR_pI, gR_nw, if_neg p0]
    have mI : ∀ j, gI (pI (pI (pI (nw g q 10 2) (b 200 0) 4 (S 6 0 0 + i + 1)) q 0 (S 6 0 0 + i)) q 1 ((s + i) % 26)) (b 200 0) j = if j = 4 then S 6 0 0 + i + 1 else gI g (b 200 0) j := fun j => by
      rw [gI_pI, if_neg (fun z => p0 z.1), gI_pI, if_neg (fun z => p0 z.1), gI_pI]
      by_cases e : j = 4
      · rw [if_pos ⟨rfl, e⟩, if_pos e]
      · rw [if_neg (fun z => e z.2), if_neg e, gI_nw, if_neg p0]
    have qK : gK (pI (pI (pI (nw g q 10 2) (b 200 0) 4 (S 6 0 0 + i + 1)) q 0 (S 6 0 0 + i)) q 1 ((s + i) % 26)) q = 10 := by simp only [gK_pI, gK_nw, if_true]
    have qL : gL (pI (pI (pI (nw g q 10 2) (b 200 0) 4 (S 6 0 0 + i + 1)) q 0 (S 6 0 0 + i)) q 1 ((s + i) % 26)) q = 2 := by simp only [gL_pI, gL_nw, if_true]
    have qI : gI (pI (pI (pI (nw g q 10 2) (b 200 0) 4 (S 6 0 0 + i + 1)) q 0 (S 6 0 0 + i)) q 1 ((s + i) % 26)) q 1 = (s + i) % 26 := by rw [gI_pI, if_pos ⟨rfl, rfl⟩]
    have mC : gC (pI (pI (pI (nw g q 10 2) (b 200 0) 4 (S 6 0 0 + i + 1)) q 0 (S 6 0 0 + i)) q 1 ((s + i) % 26)) = gC g + 1 := rfl
    have mS : gS (pI (pI (pI (nw g q 10 2) (b 200 0) 4 (S 6 0 0 + i + 1)) q 0 (S 6 0 0 + i)) q 1 ((s + i) % 26)) = gS g + 2 := rfl
    revert m1 mK mR mI qK qL qI mC mS
    generalize pI (pI (pI (nw g q 10 2) (b 200 0) 4 (S 6 0 0 + i + 1)) q 0 (S 6 0 0 + i)) q 1 ((s + i) % 26) = g2
    intro m1 mK mR mI qK qL qI mC mS
    have hp1 := RepP.wSign (g := g2) hi hp itn (by show 0 ≤ S 6 0 0 + i; omega) cb hq m1 mK mR mI qK qL qI
    have en : SN S i s 6 0 0 = S 6 0 0 + i := rfl
    have e5 := SN_s S i s e2
    rw [en] at hp1
    rw [e5] at hp1
    have i1 := Ij_nm hi 205 (S 6 0 0 + i) q
    have live : ∀ f j, gK g (b f j) ≠ 0 → ¬ (f = 205 ∧ j = S 6 0 0 + i) → nm b 205 (S 6 0 0 + i) q f j = b f j := fun f j n1 n2 => nm_live hq n1 n2
    have bq : nm b 205 (S 6 0 0 + i) q 205 (S 6 0 0 + i) = q := nm_self _ _ _ _
    revert hp1 i1 live bq
    generalize nm b 205 (S 6 0 0 + i) q = b1
    intro hp1 i1 live bq
    have b0 : b1 200 0 = b 200 0 := live 200 0 (by rw [hp.q0]; omega) (by omega)
    have b8 : b1 208 0 = b 208 0 := live 208 0 (by rw [hp.q7]; omega) (by omega)
    have b00 : b1 0 0 = b 0 0 := live 0 0 cb (by omega)
    have rb : ∀ j, 0 ≤ j → j < S 3 (S 2 0 0) 0 + i → b1 205 (ptR S p i j) = b 205 (ptR S p i j) ∧ gK g2 (b 205 (ptR S p i j)) = 10 := fun j h1 h2 => by
      obtain ⟨w1, w2⟩ := ptR_b iv p i j h0 e2 h1 h2
      have w3 := hp.q17 _ w1 (show _ < S 6 0 0 + i from w2)
      refine ⟨live _ _ (by rw [w3]; omega) (by omega), ?_⟩
      rw [(m1 _ (nq _ (by rw [w3]; omega)) (fun z => by rw [hi] at z; omega)).1]
      exact w3
    obtain ⟨y1, y2, -, y4, -⟩ := m1 x px pxp
    rw [b_96_42]
    refine ⟨⟨by omega, by omega⟩, ?_⟩
    refine p_with x q (p + i) (S 3 (S 2 0 0) 0 + i) (y1.trans kx) (y2.trans lx) ⟨by omega, by omega⟩ ⟨by omega, by omega⟩ (fun j y h1 h2 h3 => ?_) qK (by omega) (by omega) (fun q2 g3 hq2 k3 l3 r3 m3 c3 s3 => ?_)
    · rw [y4, ex j h1 h2] at h3
      cases h3
      exact (rb j h1 h2).2
    rw [kont_v]
    show WP 96 55 _ _ _ _
    rw [b_96_55]
    refine ⟨⟨by omega, by omega⟩, ?_⟩
    have nq2 : ∀ y, gK g2 y ≠ 0 → y ≠ q2 := fun y n z => n (by rw [z]; exact hq2)
    have c1 : gK g2 (b1 0 0) ≠ 0 := by
      rw [b00, (m1 _ (nq _ cb) (fun z => by rw [hi] at z; omega)).1]; exact cb
    have itn1 : ItP (SN S (i + 1) s) := ItP_SN it (i + 1) s (by omega)
    have live2 : ∀ f j, gK g2 (b1 f j) ≠ 0 → ¬ (f = 210 ∧ j = 0) → nm b1 210 0 q2 f j = b1 f j := fun f j n1 n2 => nm_live hq2 n1 n2
    have hp2 := hp1.keep (b := nm b1 210 0 q2) (g := g3) (T := SN S (i + 1) s) itn1 (live2 0 0 c1 (by omega)) (fun f j l n => ⟨live2 f j n (by unfold LvP at l; omega), m3 _ (nq2 _ n)⟩) (fun _ _ _ _ _ => rfl)
    have i2 := Ij_nm i1 210 0 q2
    have nx : nm b1 210 0 q2 210 0 = q2 := nm_self _ _ _ _
    revert live2 hp2 i2 nx
    generalize nm b1 210 0 q2 = b2
    intro live2 hp2 i2 nx
    have d0 : b2 200 0 = b 200 0 := (live2 200 0 (by rw [hp1.q0]; omega) (by omega)).trans b0
    have d8 : b2 208 0 = b 208 0 := (live2 208 0 (by rw [hp1.q7]; omega) (by omega)).trans b8
    have d00 : b2 0 0 = b 0 0 := (live2 0 0 c1 (by omega)).trans b00
    have dq : b2 205 (S 6 0 0 + i) = q := (live2 _ _ (by rw [bq, qK]; omega) (by omega)).trans bq
    rw [← d0, ← nx]
    refine ih (i + 1) b2 g3 (b2 210 0) _ (by omega) (by omega) (by omega) hp2 (.inr rfl) (by rw [nx]; exact k3) (by rw [nx, l3]; omega) (fun j h1 h2 => ?_) ?_
    · rw [nx, r3 j h1 (by omega)]
      have key : ∀ j, 0 ≤ j → j < S 3 (S 2 0 0) 0 + i → gR g2 x j = some (b2 205 (ptR S p i j)) := fun j h1 h2 => by
        obtain ⟨w1, w2⟩ := rb j h1 h2
        rw [y4, ex j h1 h2, ← w1, live2 _ _ (by rw [w1, w2]; omega) (by omega)]
      by_cases c1 : j < p + i
      · rw [if_pos c1, key j h1 (by omega)]
        congr 2
        unfold ptR
        by_cases c2 : j < p
        · rw [if_pos c2, if_pos c2]
        · rw [if_neg c2, if_neg c2, if_pos c1, if_pos (by omega)]
      · rw [if_neg c1]
        by_cases c2 : j = p + i
        · rw [if_pos c2, ← dq]
          congr 2
          unfold ptR
          rw [if_neg (by omega), if_pos (by omega)]
          omega
        · rw [if_neg c2, key (j - 1) (by omega) (by omega)]
          congr 2
          unfold ptR
          rw [if_neg (by omega), if_neg (by omega), if_neg (by omega), if_neg (by omega)]
          congr 1
          omega
    · have fr : Fr (fun f => f < 100) b g b2 g3 := fun f j pf n => by
        have w1 := live f j n (by omega)
        have w2 := m1 (b f j) (nq _ n) (fun z => by rw [hi] at z; omega)
        have w3 : gK g2 (b1 f j) ≠ 0 := by rw [w1, w2.1]; exact n
        refine ⟨(live2 f j w3 (by omega)).trans w1, w2.trans ?_⟩
        rw [← w1]
        exact m3 _ (nq2 _ w3)
      have dr : gI g3 (b 200 0) 2 = gI g (b 200 0) 2 := by
        rw [← b0, (m3 (b1 200 0) (nq2 _ (by rw [hp1.q0]; omega))).2.2.1, b0, mI, if_neg (by omega)]
      have fr6 : ∀ j, gK g (b 206 j) ≠ 0 → b2 206 j = b 206 j ∧ gK g3 (b 206 j) ≠ 0 := fun j n => by
        have w1 := live 206 j n (by omega)
        have w2 := m1 (b 206 j) (nq _ n) (fun z => by rw [hi] at z; omega)
        have w3 : gK g2 (b1 206 j) ≠ 0 := by rw [w1, w2.1]; exact n
        refine ⟨(live2 206 j w3 (by omega)).trans w1, ?_⟩
        have w4 := (m3 _ (nq2 _ w3)).1
        rw [w1] at w4 w3
        rw [w4]
        exact w3
      refine (ep.trans (c2 := 2) (s2 := 203) (d2 := 0) ⟨i2, fr, d00, d0, d8, by omega, by omega, by omega, fr6⟩).le (by omega) (by omega) (by omega)
theorem p_put (hi : Ij a) (hp : RepP a S h) (iv : Inv S) (c0 : gK h (a 0 0) ≠ 0) (p n s : Int) (h0 : 0 ≤ p ∧ p ≤ S 3 (S 2 0 0) 0) (hn : 1 ≤ n ∧ n ≤ 40) (hs : 0 ≤ s ∧ s ≤ 25) (hz : S 3 (S 2 0 0) 0 + n ≤ 200) (hv : S 2 0 0 < 60) (rc : gC h + 100 ≤ MXC) (rs : gS h + 9000 ≤ MXS)
    (hQ : ∀ b g, RepP b (Sput S p n s) g → EP a h b g 0 81 8182 → Q (.inl none) g) :
    WP 96 0 [some (zr (some (a 200 0))), some (zi p), some (zi n), some (zi s), none, none, none, none, none] [] h Q := by
  have it := ItP_of iv
  obtain ⟨v0, v1⟩ := it.1
  obtain ⟨z0, z1⟩ := iv.2.1.2.1 (S 2 0 0) v0 (Int.le_refl _)
  have k14 := hp.q14 (S 2 0 0) v0 (Int.le_refl _)
  rw [b_96_0]
  refine ⟨(kd_some _ _ _).mpr hp.q0, ?_⟩
  rw [p_text hp iv, kont_v]
  show WP 96 4 _ _ _ _
  rw [b_96_4]
  refine p_ptL iv c0 p n s h0 hn hs hz rc rs (fun b g o6 hp2 k2 l2 r2 ep => ?_) (n - 0).toNat 0 a h (a 203 (S 2 0 0)) none rfl (Int.le_refl _) (by omega) (by rw [SN_0]; exact hp) (.inl rfl) k14 (by rw [hp.q15]; omega) (fun j h1 h2 => ?_) ((EP.rfl hi).le (by omega) (by omega) (by omega))
  · have ec := ep.2.2.2.2.2.2.1
    have es := ep.2.2.2.2.2.2.2.1
    rw [b_96_63]
    refine ⟨(kd_some _ _ _).mpr hp2.q0, ?_⟩
    refine p_edited ep.1 hp2 (ItP_SN it n s (by omega)) (S 3 (S 2 0 0) 0 - 0 + n) (fun j => if j < p then S 4 (S 2 0 0) j else if j < p + n then S 6 0 0 + (j - p) else S 4 (S 2 0 0) (j - n + 0)) k2 (by rw [l2]; omega) (fun j h1 h2 => ?_) (ep.c0 c0) (by omega) (by omega) (fun b3 g3 hp3 ep3 => ?_)
    · have e : (if j < p then S 4 (S 2 0 0) j else if j < p + n then S 6 0 0 + (j - p) else S 4 (S 2 0 0) (j - n + 0)) = ptR S p n j := by
        unfold ptR
        rw [Int.add_zero]
      rw [e]
      exact ⟨r2 j h1 (by omega), ptR_b iv p n j h0 (by omega) h1 (by omega)⟩
    · rw [kont_n]
      show WP 96 69 _ _ _ _
      have hp4 : RepP b3 (TX S p 0 n s) g3 := hp3
      have f6 := hp4.q6
      have f20 := hp4.q20
      have f21 : gL g3 (b3 204 0) = S 7 0 0 := hp4.q21
      have e200 : b 200 0 = b3 200 0 := ep3.2.2.2.1.symm
      rw [b_96_69, e200]
      refine ⟨(kd_some _ _ _).mpr hp4.q0, ?_⟩
      simp only [ad_some, f6, kd_some, f20, f21, true_and]
      have itx : ItP (TX S p 0 n s) := by
        have := ItP_of (inv_put iv p n s h0.1 ⟨by omega, hn.2⟩ h0.2 hs hz hv)
        exact this
      have ept := ep.trans ep3
      refine p_putL (T := TX S p 0 n s) ep3.1 itx (TrL_of iv (fun k i j hk => TX_o S p 0 n s k i j (by omega))) p n s ⟨by omega, hn.2⟩ _ (fun g4 hp5 ep4 => hQ b3 g4 hp5 ((ept.trans ep4).le (by omega) (by omega) (by omega))) (S 7 0 0).toNat 0 g3 none (by show _ = (S 7 0 0 - 0).toNat; omega) (Int.le_refl _) iv.2.2.1.1.1 (by rw [MP_0]; exact hp4) (EP.rfl ep3.1)
  · rw [hp.q16 j h1 (by omega)]
    congr 2
    unfold ptR
    by_cases c1 : j < p
    · rw [if_pos c1]
    · rw [if_neg c1, if_neg (by omega), Int.sub_zero]
theorem p_ctL (hi : Ij a) (p n : Int) (W : Int) (r3 : Nat) (r0 : Nat) (hn : 0 ≤ n ∧ n ≤ 200) (h0 : 0 ≤ p ∧ p ≤ 200) (hW : 0 ≤ W ∧ W + n ≤ 200) (h : Zh) (K0 : gK h (a 210 0) = 14) (k3 : gK h r3 = 14) (l3 : gL h r3 = W + n) (x3 : ∀ j, 0 ≤ j → j < W + n → ∃ y, gR h r3 j = some y ∧ gK h y = 10) (n3 : a 210 0 ≠ r3)
    (hQ : ∀ g, gK g (a 210 0) = 14 → gL g (a 210 0) = W → (∀ j, 0 ≤ j → j < W → gR g (a 210 0) j = gR h r3 (if j < p then j else j + n)) → (∀ y, y ≠ a 210 0 → sm h g y) → gC g = gC h → gS g = gS h → WP 97 53 [some (zr (some r0)), some (zi p), some (zi n), some (zr (some r3)), some (zr (some (a 210 0))), some (zi W), none, none, none, none] [] g Q) (m : Nat) :
    ∀ (i : Int) (g : Zh), m = (W - i).toNat → 0 ≤ i → i ≤ W → gK g (a 210 0) = 14 → gL g (a 210 0) = W → (∀ j, 0 ≤ j → j < i → gR g (a 210 0) j = gR h r3 (if j < p then j else j + n)) → (∀ y, y ≠ a 210 0 → sm h g y) → gC g = gC h → gS g = gS h →
      WP 97 17 [some (zr (some r0)), some (zi p), some (zi n), some (zr (some r3)), some (zr (some (a 210 0))), some (zi i), none, none, none, none] [] g Q := by
  induction m with
  | zero =>
    intro i g e1 e2 e3 kx lx ex sx cx tx
    have e : i = W := by omega
    subst e
    rw [b_97_17]
    refine ⟨(kd_some _ _ _).mpr kx, ?_⟩
    rw [ad_some, brt (by omega)]
    exact hQ g kx lx ex sx cx tx
  | succ m ih =>
    intro i g e1 e2 e3 kx lx ex sx cx tx
    obtain ⟨y1, y2, -, y4, -⟩ := sx r3 (fun z => n3 z.symm)
    have fin : ∀ j, 0 ≤ j → j < W + n → j = (if i < p then i else i + n) → WP 97 45 [some (zr (some r0)), some (zi p), some (zi n), some (zr (some r3)), some (zr (some (a 210 0))), some (zi i), none, none, none, none] [zi j, zr (some r3), zi i, zr (some (a 210 0))] g Q := fun j h1 h2 ej => by
      obtain ⟨y, z1, z2⟩ := x3 j h1 h2
      have z3 : gR g r3 j = some y := (y4 j).trans z1
      have ny : y ≠ a 210 0 := fun c => by rw [c, K0] at z2; omega
      have z4 : gK g y = 10 := by rw [(sx y ny).1]; exact z2
      rw [b_97_45]
      refine ⟨⟨(kd_some _ _ _).mpr (y1.trans k3), h1, by rw [ad_some, y2, l3]; exact h2⟩, ⟨⟨(kd_some _ _ _).mpr kx, e2, by rw [ad_some, lx]; omega⟩, ?_⟩, ?_⟩
      · rw [ad_some, z3]; exact (kd_some _ _ _).mpr z4
      rw [ad_some, ad_some, z3, b_97_47]
      refine ⟨⟨by omega, by omega⟩, ?_⟩
      refine ih (i + 1) _ (by omega) (by omega) (by omega) kx lx (fun j2 g1 g2 => ?_) (fun y2 n2 => (sx y2 n2).trans (sm_pR n2)) cx tx
      rw [gR_pR]
      by_cases c : j2 = i
      · rw [if_pos ⟨rfl, c⟩, ← z1, ej, c]
      · rw [if_neg (fun z => c z.2)]
        exact ex j2 g1 (by omega)
    rw [b_97_17]
    refine ⟨(kd_some _ _ _).mpr kx, ?_⟩
    rw [ad_some, brf (by omega), b_97_25]
    by_cases c : p ≤ i
    · rw [brt c, b_97_41]
      exact ⟨⟨by omega, by omega⟩, fin (i + n) (by omega) (by omega) (by rw [if_neg (by omega)])⟩
    · rw [brf c, b_97_36]
      exact fin i e2 (by omega) (by rw [if_pos (by omega)])
theorem p_cut (hi : Ij a) (hp : RepP a S h) (iv : Inv S) (c0 : gK h (a 0 0) ≠ 0) (p n : Int) (h0 : 0 ≤ p) (hn : 0 ≤ n) (hz : p + n ≤ S 3 (S 2 0 0) 0) (hv : S 2 0 0 < 60) (rc : gC h + 100 ≤ MXC) (rs : gS h + 9000 ≤ MXS)
    (hQ : ∀ b g, RepP b (Scut S p n) g → EP a h b g 0 2 262 → Q (.inl none) g) :
    WP 97 0 [some (zr (some (a 200 0))), some (zi p), some (zi n), none, none, none, none, none, none, none] [] h Q := by
  have it := ItP_of iv
  obtain ⟨v0, v1⟩ := it.1
  obtain ⟨z0, z1⟩ := iv.2.1.2.1 (S 2 0 0) v0 (Int.le_refl _)
  have k14 := hp.q14 (S 2 0 0) v0 (Int.le_refl _)
  have l15 := hp.q15
  rw [b_97_0]
  refine ⟨(kd_some _ _ _).mpr hp.q0, ?_⟩
  rw [p_text hp iv, kont_v]
  show WP 97 4 _ _ _ _
  rw [b_97_4]
  simp only [ad_some, kd_some, k14, l15, true_and]
  refine ⟨⟨by omega, by omega⟩, ⟨by omega, by omega, by omega, by omega⟩, fun q hq => ?_⟩
  have nq : ∀ y, gK h y ≠ 0 → y ≠ q := fun y n z => n (by rw [z]; exact hq)
  have s1 : ∀ b, b ≠ q → sm h (nw h q 14 (S 3 (S 2 0 0) 0 - n)) b := fun b nb => sm_nw nb
  have k1 : gK (nw h q 14 (S 3 (S 2 0 0) 0 - n)) q = 14 := by rw [gK_nw, if_pos rfl]
  have l1 : gL (nw h q 14 (S 3 (S 2 0 0) 0 - n)) q = S 3 (S 2 0 0) 0 - n := by rw [gL_nw, if_pos rfl]
  have c1 : gC (nw h q 14 (S 3 (S 2 0 0) 0 - n)) = gC h + 1 := rfl
  have t1 : gS (nw h q 14 (S 3 (S 2 0 0) 0 - n)) = gS h + (S 3 (S 2 0 0) 0 - n).toNat := rfl
  revert s1 k1 l1 c1 t1
  generalize nw h q 14 (S 3 (S 2 0 0) 0 - n) = g1
  intro s1 k1 l1 c1 t1
  have i1 := Ij_nm hi 210 0 q
  have live : ∀ f j, gK h (a f j) ≠ 0 → ¬ (f = 210 ∧ j = 0) → nm a 210 0 q f j = a f j := fun f j n1 n2 => nm_live hq n1 n2
  have hp1 := hp.keep (b := nm a 210 0 q) (g := g1) (T := S) it (live 0 0 c0 (by omega)) (fun f j l n => ⟨live f j n (by unfold LvP at l; omega), s1 _ (nq _ n)⟩) (fun _ _ _ _ _ => rfl)
  have bx : nm a 210 0 q 210 0 = q := nm_self _ _ _ _
  revert i1 live hp1 bx
  generalize nm a 210 0 q = b
  intro i1 live hp1 bx
  have d0 : b 200 0 = a 200 0 := live 200 0 (by rw [hp.q0]; omega) (by omega)
  have d8 : b 208 0 = a 208 0 := live 208 0 (by rw [hp.q7]; omega) (by omega)
  have d00 : b 0 0 = a 0 0 := live 0 0 c0 (by omega)
  have d3 : b 203 (S 2 0 0) = a 203 (S 2 0 0) := live _ _ (by rw [k14]; omega) (by omega)
  have cb : gK g1 (b 0 0) ≠ 0 := by rw [d00, (s1 _ (nq _ c0)).1]; exact c0
  have ep1 : EP a h b g1 0 1 200 := ⟨i1, fun f j pf n => ⟨live f j n (by omega), s1 _ (nq _ n)⟩, d00, d0, d8, by rw [(s1 _ (nq _ (by rw [hp.q0]; omega))).2.2.1]; omega, by omega, by omega, fun j n => ⟨live 206 j n (by omega), by rw [(s1 _ (nq _ n)).1]; exact n⟩⟩
  rw [b_97_12, ← bx, ← d0, ← d3]
  rw [← bx] at k1 l1
  have k3 := hp1.q14 (S 2 0 0) v0 (Int.le_refl _)
  refine p_ctL i1 p n (S 3 (S 2 0 0) 0 - n) (b 203 (S 2 0 0)) (b 200 0) ⟨hn, by omega⟩ ⟨h0, by omega⟩ ⟨by omega, by omega⟩ g1 k1 k3 (by rw [hp1.q15]; omega) (fun j h1 h2 => ⟨_, hp1.q16 j h1 (by omega), hp1.q17 _ (it.2 j h1 (by omega)).1 (it.2 j h1 (by omega)).2⟩) (fun z => by rw [i1] at z; omega) (fun g2 k2 l2 r2 s2 c2 t2 => ?_) (S 3 (S 2 0 0) 0 - n - 0).toNat 0 g1 rfl (Int.le_refl _) (by omega) k1 l1 (fun j h1 h2 => by omega) (fun y _ => sm_rfl g1 y) rfl rfl
  have hp2 : RepP b S g2 := hp1.keep it rfl (fun f j l n => ⟨rfl, s2 _ (fun z => by rw [i1] at z; unfold LvP at l; omega)⟩) (fun _ _ _ _ _ => rfl)
  have cb2 : gK g2 (b 0 0) ≠ 0 := by rw [(s2 _ (fun z => by rw [i1] at z; omega)).1]; exact cb
  have ep2 : EP b g1 b g2 0 0 0 := ⟨i1, fun f j pf n => ⟨rfl, s2 _ (fun z => by rw [i1] at z; omega)⟩, rfl, rfl, rfl, by rw [(s2 _ (fun z => by rw [i1] at z; omega)).2.2.1]; omega, by omega, by omega, fun j n => ⟨rfl, by rw [(s2 _ (fun z => by rw [i1] at z; omega)).1]; exact n⟩⟩
  rw [b_97_53]
  refine ⟨(kd_some _ _ _).mpr hp2.q0, ?_⟩
  have hp2s : RepP b (SN S 0 0) g2 := by rw [SN_0]; exact hp2
  refine p_edited i1 hp2s (ItP_SN it 0 0 (Int.le_refl _)) (S 3 (S 2 0 0) 0 - n + 0) (fun j => if j < p then S 4 (S 2 0 0) j else if j < p + 0 then S 6 0 0 + (j - p) else S 4 (S 2 0 0) (j - 0 + n)) k2 (by rw [l2]; omega) (fun j h1 h2 => ?_) cb2 (by omega) (by omega) (fun b3 g3 hp3 ep3 => ?_)
  · rw [r2 j h1 (by omega)]
    have e6 : SN S 0 0 6 0 0 = S 6 0 0 := by rw [SN_0]
    rw [e6]
    by_cases c : j < p
    · rw [if_pos c, if_pos c]
      exact ⟨hp1.q16 j h1 (by omega), it.2 j h1 (by omega)⟩
    · rw [if_neg c, if_neg c, if_neg (by omega), Int.sub_zero]
      exact ⟨hp1.q16 (j + n) (by omega) (by omega), it.2 (j + n) (by omega) (by omega)⟩
  · rw [kont_n]
    show WP 97 59 _ _ _ _
    have hp4 : RepP b3 (TX S p n 0 0) g3 := hp3
    have f6 := hp4.q6
    have f20 := hp4.q20
    have f21 : gL g3 (b3 204 0) = S 7 0 0 := hp4.q21
    have e200 : b 200 0 = b3 200 0 := ep3.2.2.2.1.symm
    rw [b_97_59, e200]
    refine ⟨(kd_some _ _ _).mpr hp4.q0, ?_⟩
    simp only [ad_some, f6, kd_some, f20, f21, true_and]
    have itx : ItP (TX S p n 0 0) := by
      have := ItP_of (inv_cut iv p n h0 hn hz hv)
      exact this
    have ept := (ep1.trans ep2).trans ep3
    refine p_cutL (T := TX S p n 0 0) ep3.1 itx (TrL_of iv (fun k i j hk => TX_o S p n 0 0 k i j (by omega))) p n ⟨hn, by omega⟩ ⟨h0, by omega⟩ _ _ (fun g4 hp5 ep4 => hQ b3 g4 hp5 ((ept.trans ep4).le (by omega) (by omega) (by omega))) (S 7 0 0).toNat 0 g3 none none (by show _ = (S 7 0 0 - 0).toNat; omega) (Int.le_refl _) iv.2.2.1.1.1 (by rw [MC_0]; exact hp4) (EP.rfl ep3.1)
end
