/-! THE ORDER OF A THREAD, BY KEYS (pure) -/
def WD (d : Int) : Int := 64 ^ (60 - d).toNat
theorem WD_pos (d : Int) : 0 < WD d := Int.pow_pos (by omega)
theorem WD_s {d : Int} (h : 0 ≤ d) (h2 : d ≤ 59) : WD d = 64 * WD (d + 1) := by
  unfold WD
  rw [show (60 - d).toNat = (60 - (d + 1)).toNat + 1 by omega, Int.pow_succ, Int.mul_comm]
theorem fs_sp (p : Int → Prop) (m : Nat) : ∀ i : Int, 0 ≤ i → (fs p m i = -1 ∧ ∀ j, i ≤ j → j < i + m → ¬ p j) ∨ (i ≤ fs p m i ∧ fs p m i < i + m ∧ p (fs p m i) ∧ ∀ j, i ≤ j → j < fs p m i → ¬ p j) := by
  induction m with
  | zero => exact fun i hi => .inl ⟨rfl, fun j h1 h2 => by omega⟩
  | succ m ih =>
    intro i hi
    rw [fs_s]
    by_cases c : p i
    · rw [if_pos c]
      exact .inr ⟨by omega, by omega, c, fun j h1 h2 => by omega⟩
    · rw [if_neg c]
      rcases ih (i + 1) (by omega) with ⟨e, f⟩ | ⟨e1, e2, e3, e4⟩
      · refine .inl ⟨e, fun j h1 h2 => ?_⟩
        by_cases q : j = i
        · rw [q]; exact c
        · exact f j (by omega) (by omega)
      · refine .inr ⟨by omega, by omega, e3, fun j h1 h2 => ?_⟩
        by_cases q : j = i
        · rw [q]; exact c
        · exact e4 j (by omega) h2
noncomputable def kyf (S : St) (m : Nat) (k : Int) : Int := match m with
  | 0 => 0
  | m + 1 => if S 10 k 0 = -1 then 0 else kyf S m (S 10 k 0) + (k + 1) * WD (S 23 k 0)
noncomputable def KY (S : St) (k : Int) : Int := kyf S 61 k
theorem kyf_s (S : St) (m : Nat) (k : Int) : kyf S (m + 1) k = if S 10 k 0 = -1 then 0 else kyf S m (S 10 k 0) + (k + 1) * WD (S 23 k 0) := rfl
section
variable {S : St} {G : Int → Prop}
theorem kyf_m (iv : Inv S) (m : Nat) : ∀ (n : Nat) (k : Int), nt S k → k < m → k < n → kyf S m k = kyf S n k := by
  induction m with
  | zero => intro n k hk h1; have := hk.1; omega
  | succ m ih =>
    intro n k hk h1 h2
    match n with
    | 0 => have := hk.1; omega
    | n + 1 =>
      rw [kyf_s, kyf_s]
      rcases iv_par iv hk with ⟨q, -⟩ | ⟨q1, q2, q3, q4⟩
      · rw [if_pos q, if_pos q]
      · rw [if_neg q4, if_neg q4, ih n _ q1 (by omega) (by omega)]
theorem ky_par (iv : Inv S) {k : Int} (hk : nt S k) : (S 10 k 0 = -1 ∧ S 11 k 0 = k ∧ S 23 k 0 = 0 ∧ KY S k = 0) ∨ (S 10 k 0 ≠ -1 ∧ nt S (S 10 k 0) ∧ S 10 k 0 < k ∧ S 11 k 0 = S 11 (S 10 k 0) 0 ∧ S 23 k 0 = S 23 (S 10 k 0) 0 + 1 ∧ KY S k = KY S (S 10 k 0) + (k + 1) * WD (S 23 k 0) ∧ WD (S 23 (S 10 k 0) 0) = 64 * WD (S 23 k 0)) := by
  have z := (iv.2.2.1.2.1 k hk).2.2
  have b := iv.2.2.1.1
  have e : KY S k = kyf S (60 + 1) k := rfl
  rw [kyf_s] at e
  rcases z.1 with ⟨q1, q2, q3⟩ | ⟨q1, q2, q3, q4⟩
  · rw [if_pos q1] at e
    exact .inl ⟨q1, q2, q3, e⟩
  · have q5 : S 10 k 0 ≠ -1 := by omega
    have hp : nt S (S 10 k 0) := ⟨q1, by have := hk.2; omega⟩
    have zp := (iv.2.2.1.2.1 _ hp).2.2.2.2.2.2
    have zk := z.2.2.2.2
    have hk2 := hk.2
    rw [if_neg q5, kyf_m iv 60 61 _ hp (by omega) (by omega)] at e
    refine .inr ⟨q5, hp, q2, q3, q4, e, ?_⟩
    rw [WD_s (by omega) (by omega), q4]
theorem ky_lt {k w : Int} (h : 0 ≤ k) (h2 : k ≤ 59) (hw : 0 < w) : 0 < (k + 1) * w ∧ (k + 1) * w + w ≤ 64 * w := by
  refine ⟨Int.mul_pos (by omega) hw, ?_⟩
  have : (k + 1 + 1) * w ≤ 64 * w := Int.mul_le_mul_of_nonneg_right (by omega) (by omega)
  rw [Int.add_mul (k + 1) 1 w, Int.one_mul] at this
  exact this
theorem nt_b (iv : Inv S) {k : Int} (hk : nt S k) : 0 ≤ k ∧ k ≤ 59 := by
  have b := iv.2.2.1.1
  have h1 := hk.1
  have h2 := hk.2
  omega
theorem nt_d (iv : Inv S) {k : Int} (hk : nt S k) : 0 ≤ S 23 k 0 ∧ S 23 k 0 ≤ 59 := by
  have z := (iv.2.2.1.2.1 k hk).2.2.2.2.2.2
  have b := nt_b iv hk
  omega
/-- an ancestor at the depth d -/
theorem ky_anc (iv : Inv S) (hG : ∀ z, nt S z → G z → S 10 z 0 ≠ -1 → G (S 10 z 0)) (d : Int) (hd0 : 0 ≤ d) (m : Nat) : ∀ z, nt S z → z < m → d ≤ S 23 z 0 → ∃ y, nt S y ∧ S 11 y 0 = S 11 z 0 ∧ S 23 y 0 = d ∧ KY S y ≤ KY S z ∧ KY S z + WD (S 23 z 0) ≤ KY S y + WD d ∧ (G z → G y) ∧ (y = z ∨ KY S y < KY S z) := by
  induction m with
  | zero => intro z hz h; have := hz.1; omega
  | succ m ih =>
    intro z hz h hd
    by_cases c : S 23 z 0 = d
    · exact ⟨z, hz, rfl, c, by omega, by rw [c]; omega, id, .inl rfl⟩
    · rcases ky_par iv hz with ⟨-, -, q, -⟩ | ⟨q0, q1, q2, q3, q4, q5, q6⟩
      · omega
      · obtain ⟨y, y1, y2, y3, y4, y5, y6, y7⟩ := ih _ q1 (by omega) (by omega)
        have bz := nt_b iv hz
        have l := ky_lt bz.1 bz.2 (WD_pos (S 23 z 0))
        exact ⟨y, y1, y2.trans q3.symm, y3, by omega, by omega, fun g => y6 (hG z hz g q0), .inr (by omega)⟩
/-- two of one depth -/
theorem ky_dis (iv : Inv S) (d : Nat) : ∀ u v, nt S u → nt S v → S 23 u 0 = d → S 23 v 0 = d → S 11 u 0 = S 11 v 0 → u ≠ v → KY S u + WD d ≤ KY S v ∨ KY S v + WD d ≤ KY S u := by
  induction d with
  | zero =>
    intro u v hu hv du dv e n
    exfalso
    rcases ky_par iv hu with ⟨-, u2, -, -⟩ | ⟨u0, u1, u2, u3, u4, u5, u6⟩
    · rcases ky_par iv hv with ⟨-, v2, -, -⟩ | ⟨v0, v1, v2, v3, v4, v5, v6⟩
      · omega
      · have := nt_d iv v1; omega
    · have := nt_d iv u1; omega
  | succ d ih =>
    intro u v hu hv du dv e n
    rcases ky_par iv hu with ⟨-, -, u2, -⟩ | ⟨u0, u1, u2, u3, u4, u5, u6⟩
    · omega
    rcases ky_par iv hv with ⟨-, -, v2, -⟩ | ⟨v0, v1, v2, v3, v4, v5, v6⟩
    · omega
    have bu := nt_b iv hu
    have bv := nt_b iv hv
    rw [du] at u5 u6
    rw [dv] at v5 v6
    have wp := WD_pos ((d + 1 : Nat) : Int)
    have lu := ky_lt bu.1 bu.2 wp
    have lv := ky_lt bv.1 bv.2 wp
    by_cases c : S 10 u 0 = S 10 v 0
    · rw [c] at u5
      by_cases g : u < v
      · have : (u + 1 + 1) * WD ((d + 1 : Nat) : Int) ≤ (v + 1) * WD ((d + 1 : Nat) : Int) := Int.mul_le_mul_of_nonneg_right (by omega) (by omega)
        rw [Int.add_mul (u + 1) 1, Int.one_mul] at this
        exact .inl (by omega)
      · have : (v + 1 + 1) * WD ((d + 1 : Nat) : Int) ≤ (u + 1) * WD ((d + 1 : Nat) : Int) := Int.mul_le_mul_of_nonneg_right (by omega) (by omega)
        rw [Int.add_mul (v + 1) 1, Int.one_mul] at this
        exact .inr (by omega)
    · have i := ih _ _ u1 v1 (by omega) (by omega) (by omega) c
      rw [show S 23 (S 10 u 0) 0 = d by omega] at u6
      rw [show S 23 (S 10 v 0) 0 = d by omega] at v6
      rcases i with i | i
      · exact .inl (by omega)
      · exact .inr (by omega)
/-- what stands in the stretch of u hangs on a child of it -/
theorem ky_sub (iv : Inv S) (hG : ∀ z, nt S z → G z → S 10 z 0 ≠ -1 → G (S 10 z 0)) {u z : Int} (hu : nt S u) (hz : nt S z) (e : S 11 u 0 = S 11 z 0) (h1 : KY S u ≤ KY S z) (h2 : KY S z < KY S u + WD (S 23 u 0)) (n : z ≠ u) :
    S 23 u 0 < S 23 z 0 ∧ ∃ y, nt S y ∧ S 10 y 0 = u ∧ u < y ∧ KY S y = KY S u + (y + 1) * WD (S 23 u 0 + 1) ∧ KY S y ≤ KY S z ∧ KY S z < KY S y + WD (S 23 u 0 + 1) ∧ (G z → G y) := by
  have du := nt_d iv hu
  have dz := nt_d iv hz
  have bu := nt_b iv hu
  have bz := nt_b iv hz
  by_cases c : S 23 z 0 ≤ S 23 u 0
  · exfalso
    obtain ⟨y, y1, y2, y3, y4, y5, y6, y7⟩ := ky_anc (G := G) iv hG (S 23 z 0) dz.1 60 u hu (by omega) c
    by_cases q : y = z
    · subst q
      rcases y7 with y7 | y7
      · exact n y7
      · omega
    · have i := ky_dis iv (S 23 z 0).toNat y z y1 hz (by omega) (by omega) (by omega) q
      rw [show (((S 23 z 0).toNat : Nat) : Int) = S 23 z 0 by omega] at i
      have := WD_pos (S 23 z 0)
      have := WD_pos (S 23 u 0)
      omega
  · refine ⟨by omega, ?_⟩
    obtain ⟨y, y1, y2, y3, y4, y5, y6, y7⟩ := ky_anc (G := G) iv hG (S 23 u 0 + 1) (by omega) 60 z hz (by omega) (by omega)
    rcases ky_par iv y1 with ⟨-, -, q, -⟩ | ⟨q0, q1, q2, q3, q4, q5, q6⟩
    · omega
    · have by2 := nt_b iv y1
      have l := ky_lt by2.1 by2.2 (WD_pos (S 23 y 0))
      have w := WD_pos (S 23 z 0)
      have qe : S 10 y 0 = u := by
        apply Classical.byContradiction
        intro q
        have i := ky_dis iv (S 23 u 0).toNat (S 10 y 0) u q1 hu (by omega) (by omega) (by omega) q
        rw [show (((S 23 u 0).toNat : Nat) : Int) = S 23 u 0 by omega] at i
        rw [show S 23 (S 10 y 0) 0 = S 23 u 0 by omega] at q6
        rw [y3] at q5 q6 l
        omega
      rw [y3, qe] at q5
      exact ⟨y, y1, qe, by omega, q5, y4, by omega, y6⟩
theorem ky_inj (iv : Inv S) {u z : Int} (hu : nt S u) (hz : nt S z) (e : S 11 u 0 = S 11 z 0) (h : KY S u = KY S z) : u = z := by
  apply Classical.byContradiction
  intro n
  obtain ⟨-, y, y1, y2, y3, y4, y5, -⟩ := ky_sub (G := fun _ => True) iv (fun _ _ _ _ => trivial) hu hz e (by omega) (by have := WD_pos (S 23 u 0); omega) (fun q => n q.symm)
  have l := ky_lt (nt_b iv y1).1 (nt_b iv y1).2 (WD_pos (S 23 u 0 + 1))
  omega
/-- the next one of G behind k -/
def isN (S : St) (G : Int → Prop) (k j : Int) : Prop := (j = -1 ∧ ∀ i, nt S i → G i → S 11 i 0 = S 11 k 0 → KY S i ≤ KY S k) ∨ (nt S j ∧ G j ∧ S 11 j 0 = S 11 k 0 ∧ KY S k < KY S j ∧ ∀ i, nt S i → G i → S 11 i 0 = S 11 k 0 → KY S k < KY S i → KY S j ≤ KY S i)
theorem isN_u (iv : Inv S) {k i j : Int} (h1 : isN S G k i) (h2 : isN S G k j) : i = j := by
  rcases h1 with ⟨e1, f1⟩ | ⟨e1, e2, e3, e4, e5⟩
  · rcases h2 with ⟨g1, -⟩ | ⟨g1, g2, g3, g4, g5⟩
    · omega
    · have := f1 j g1 g2 g3; omega
  · rcases h2 with ⟨g1, g2⟩ | ⟨g1, g2, g3, g4, g5⟩
    · have := g2 i e1 e2 e3; omega
    · have x := e5 j g1 g2 g3 g4
      have y := g5 i e1 e2 e3 e4
      exact ky_inj iv e1 g1 (e3.trans g3.symm) (by omega)
noncomputable def rG (S : St) (G : Int → Prop) (q k : Int) : Int := fs (fun j => S 10 j 0 = q ∧ G j) (S 7 0 0 - k - 1).toNat (k + 1)
noncomputable def upG (S : St) (G : Int → Prop) (m : Nat) (k : Int) : Int := match m with
  | 0 => -1
  | m + 1 => if S 10 k 0 = -1 then -1 else if rG S G (S 10 k 0) k = -1 then upG S G m (S 10 k 0) else rG S G (S 10 k 0) k
noncomputable def NG (S : St) (G : Int → Prop) (k : Int) : Int := if rG S G k k = -1 then upG S G 61 k else rG S G k k
theorem rG_sp (S : St) (G : Int → Prop) (q k : Int) (hk : nt S k) : (rG S G q k = -1 ∧ ∀ j, nt S j → k < j → S 10 j 0 = q → ¬ G j) ∨ (nt S (rG S G q k) ∧ k < rG S G q k ∧ S 10 (rG S G q k) 0 = q ∧ G (rG S G q k) ∧ ∀ j, nt S j → k < j → S 10 j 0 = q → G j → rG S G q k ≤ j) := by
  have k1 := hk.1
  have k2 := hk.2
  rcases fs_sp (fun j => S 10 j 0 = q ∧ G j) (S 7 0 0 - k - 1).toNat (k + 1) (by omega) with ⟨e, f⟩ | ⟨e1, e2, e3, e4⟩
  · exact .inl ⟨e, fun j hj h1 h2 h3 => f j (by omega) (by have := hj.2; omega) ⟨h2, h3⟩⟩
  · refine .inr ⟨⟨?_, ?_⟩, ?_, e3.1, e3.2, fun j hj h1 h2 h3 => ?_⟩
    · show 0 ≤ fs _ _ _; omega
    · show fs _ _ _ < _; omega
    · show k < fs _ _ _; omega
    · apply Classical.byContradiction
      intro n
      exact e4 j (by omega) (by show j < rG S G q k; omega) ⟨h2, h3⟩
theorem up_sp (iv : Inv S) (hG : ∀ z, nt S z → G z → S 10 z 0 ≠ -1 → G (S 10 z 0)) (k : Int) (hk : nt S k) (m : Nat) : ∀ a : Int, nt S a → a < m → S 11 a 0 = S 11 k 0 → KY S a ≤ KY S k → KY S k < KY S a + WD (S 23 a 0) → (∀ i, nt S i → G i → S 11 i 0 = S 11 k 0 → KY S k < KY S i → KY S a + WD (S 23 a 0) ≤ KY S i) → isN S G k (upG S G m a) := by
  induction m with
  | zero => intro a ha h; have := ha.1; omega
  | succ m ih =>
    intro a ha h e l1 l2 al
    show isN S G k (if S 10 a 0 = -1 then -1 else if rG S G (S 10 a 0) a = -1 then upG S G m (S 10 a 0) else rG S G (S 10 a 0) a)
    have ba := nt_b iv ha
    rcases ky_par iv ha with ⟨q1, q2, q3, q4⟩ | ⟨q0, q1, q2, q3, q4, q5, q6⟩
    · rw [if_pos q1]
      refine .inl ⟨rfl, fun i hi gi ei => ?_⟩
      apply Classical.byContradiction
      intro n
      have x := al i hi gi ei (by omega)
      obtain ⟨y, y1, y2, y3, y4, y5, -, -⟩ := ky_anc (G := G) iv hG 0 (by omega) 60 i hi (by have := nt_b iv hi; omega) (nt_d iv hi).1
      rcases ky_par iv y1 with ⟨r1, r2, r3, r4⟩ | ⟨r0, r1, r2, r3, r4, r5, r6⟩
      · have : y = a := by omega
        subst this
        rw [q3] at x
        have := WD_pos (S 23 i 0)
        omega
      · have := nt_d iv r1; omega
    · rw [if_neg q0]
      have wp := WD_pos (S 23 a 0)
      have la := ky_lt ba.1 ba.2 wp
      -- a candidate in the stretch of the parent hangs on a later child
      have later : ∀ i, nt S i → G i → S 11 i 0 = S 11 k 0 → KY S k < KY S i → KY S i < KY S (S 10 a 0) + WD (S 23 (S 10 a 0) 0) → ∃ y, nt S y ∧ S 10 y 0 = S 10 a 0 ∧ a < y ∧ KY S y ≤ KY S i ∧ G y := by
        intro i hi gi ei li lq
        have x := al i hi gi ei li
        obtain ⟨-, y, y1, y2, y3, y4, y5, y6, y7⟩ := ky_sub (G := G) iv hG q1 hi (by omega) (by omega) lq (fun z => by rw [z] at x; omega)
        refine ⟨y, y1, y2, ?_, y5, y7 gi⟩
        rw [← q4] at y4 y6
        apply Classical.byContradiction
        intro n
        have : (y + 1) * WD (S 23 a 0) ≤ (a + 1) * WD (S 23 a 0) := Int.mul_le_mul_of_nonneg_right (by omega) (by omega)
        omega
      rcases rG_sp S G (S 10 a 0) a ha with ⟨f1, f2⟩ | ⟨f1, f2, f3, f4, f5⟩
      · rw [if_pos f1]
        refine ih _ q1 (by omega) (by omega) (by omega) (by omega) (fun i hi gi ei li => ?_)
        apply Classical.byContradiction
        intro n
        obtain ⟨y, y1, y2, y3, y4, y5⟩ := later i hi gi ei li (by omega)
        exact f2 y y1 y3 y2 y5
      · rw [if_neg (by have := f1.1; omega)]
        have br := nt_b iv f1
        have rk : KY S (rG S G (S 10 a 0) a) = KY S (S 10 a 0) + (rG S G (S 10 a 0) a + 1) * WD (S 23 a 0) ∧ S 11 (rG S G (S 10 a 0) a) 0 = S 11 (S 10 a 0) 0 := by
          rcases ky_par iv f1 with ⟨r1, -, -, -⟩ | ⟨r0, r1, r2, r3, r4, r5, r6⟩
          · omega
          · rw [f3] at r3 r4 r5
            rw [r4, ← q4] at r5
            exact ⟨r5, r3⟩
        have lr := ky_lt br.1 br.2 wp
        have mono : (a + 1 + 1) * WD (S 23 a 0) ≤ (rG S G (S 10 a 0) a + 1) * WD (S 23 a 0) := Int.mul_le_mul_of_nonneg_right (by omega) (by omega)
        rw [Int.add_mul (a + 1) 1, Int.one_mul] at mono
        refine .inr ⟨f1, f4, by omega, by omega, fun i hi gi ei li => ?_⟩
        by_cases c : KY S i < KY S (S 10 a 0) + WD (S 23 (S 10 a 0) 0)
        · obtain ⟨y, y1, y2, y3, y4, y5⟩ := later i hi gi ei li c
          have := f5 y y1 y3 y2 y5
          rcases ky_par iv y1 with ⟨r1, -, -, -⟩ | ⟨r0, r1, r2, r3, r4, r5, r6⟩
          · omega
          · rw [y2] at r4 r5
            rw [r4, ← q4] at r5
            have mo2 : (rG S G (S 10 a 0) a + 1) * WD (S 23 a 0) ≤ (y + 1) * WD (S 23 a 0) := Int.mul_le_mul_of_nonneg_right (by omega) (by omega)
            omega
        · omega
theorem NG_sp (iv : Inv S) (hG : ∀ z, nt S z → G z → S 10 z 0 ≠ -1 → G (S 10 z 0)) (k : Int) (hk : nt S k) : isN S G k (NG S G k) := by
  unfold NG
  have bk := nt_b iv hk
  have wk := WD_pos (S 23 k 0)
  have child : ∀ i, nt S i → G i → S 11 i 0 = S 11 k 0 → KY S k < KY S i → KY S i < KY S k + WD (S 23 k 0) → ∃ y, nt S y ∧ S 10 y 0 = k ∧ k < y ∧ KY S y = KY S k + (y + 1) * WD (S 23 k 0 + 1) ∧ KY S y ≤ KY S i ∧ G y := by
    intro i hi gi ei li lk
    obtain ⟨-, y, y1, y2, y3, y4, y5, y6, y7⟩ := ky_sub (G := G) iv hG hk hi ei.symm (by omega) lk (fun z => by rw [z] at li; omega)
    exact ⟨y, y1, y2, y3, y4, y5, y7 gi⟩
  rcases rG_sp S G k k hk with ⟨f1, f2⟩ | ⟨f1, f2, f3, f4, f5⟩
  · rw [if_pos f1]
    refine up_sp iv hG k hk 61 k hk (by omega) rfl (by omega) (by omega) (fun i hi gi ei li => ?_)
    apply Classical.byContradiction
    intro n
    obtain ⟨y, y1, y2, y3, y4, y5, y6⟩ := child i hi gi ei li (by omega)
    exact f2 y y1 y3 y2 y6
  · rw [if_neg (by have := f1.1; omega)]
    have br := nt_b iv f1
    have dk := nt_d iv f1
    rcases ky_par iv f1 with ⟨r1, -, -, -⟩ | ⟨r0, r1, r2, r3, r4, r5, r6⟩
    · omega
    rw [f3] at r3 r4 r5 r6
    rw [r4] at r5 r6
    have wp := WD_pos (S 23 k 0 + 1)
    have lr := ky_lt br.1 br.2 wp
    refine .inr ⟨f1, f4, r3, by omega, fun i hi gi ei li => ?_⟩
    by_cases c : KY S i < KY S k + WD (S 23 k 0)
    · obtain ⟨y, y1, y2, y3, y4, y5, y6⟩ := child i hi gi ei li c
      have := f5 y y1 y3 y2 y6
      have mo2 : (rG S G k k + 1) * WD (S 23 k 0 + 1) ≤ (y + 1) * WD (S 23 k 0 + 1) := Int.mul_le_mul_of_nonneg_right (by omega) (by omega)
      omega
    · omega
theorem NX_NG (S : St) (k : Int) : NX S k = NG S (fun _ => True) k := by
  have e : ∀ q k, rA S q k = rG S (fun _ => True) q k := fun q k => by
    unfold rA rG
    congr 1
    funext j
    rw [and_true]
  have u : ∀ m k, up S m k = upG S (fun _ => True) m k := by
    intro m
    induction m with
    | zero => exact fun k => rfl
    | succ m ih =>
      intro k
      show (if S 10 k 0 = -1 then -1 else if rA S (S 10 k 0) k = -1 then up S m (S 10 k 0) else rA S (S 10 k 0) k) = (if S 10 k 0 = -1 then -1 else if rG S (fun _ => True) (S 10 k 0) k = -1 then upG S (fun _ => True) m (S 10 k 0) else rG S (fun _ => True) (S 10 k 0) k)
      rw [e, ih]
  unfold NX NG
  rw [e, u]
theorem NX_sp (iv : Inv S) (k : Int) (hk : nt S k) : isN S (fun _ => True) k (NX S k) := by
  rw [NX_NG]
  exact NG_sp iv (fun _ _ _ _ => trivial) k hk
end
