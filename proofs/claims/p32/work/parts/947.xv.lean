/-! WHAT MORE HOLDS OF A STATE: the first user owns, no sign stands twice, what is empty has a reply -/
def XN (S : St) : Prop := ∀ p q, 0 ≤ p → p < S 3 (S 2 0 0) 0 → 0 ≤ q → q < S 3 (S 2 0 0) 0 → S 4 (S 2 0 0) p = S 4 (S 2 0 0) q → p = q
def XE (S : St) : Prop := ∀ k, nt S k → S 12 k 0 = 1 → RP S k ≠ 0
def XU (S : St) : Prop := S 1 0 0 = 4 ∧ 2 ≤ S 0 0 0
def XV (S : St) : Prop := XU S ∧ XN S ∧ XE S
section
variable {S T : St}
theorem XE_c (x : XE S) (e7 : T 7 0 0 = S 7 0 0) (e10 : ∀ j, T 10 j 0 = S 10 j 0) (e12 : ∀ j, T 12 j 0 = S 12 j 0) : XE T := fun k hk h12 => by
  rw [RP_c e7 e10 e12]
  exact x k ⟨hk.1, by have := hk.2; rw [e7] at this; exact this⟩ (by rw [← e12]; exact h12)
theorem XN_c (x : XN S) (e2 : T 2 0 0 = S 2 0 0) (e3 : T 3 (S 2 0 0) 0 = S 3 (S 2 0 0) 0) (e4 : ∀ j, T 4 (S 2 0 0) j = S 4 (S 2 0 0) j) : XN T := by
  unfold XN
  rw [e2, e3]
  simp only [e4]
  exact x
theorem xv_hk (x : XV S) (e : ∀ k i j, k ≠ 13 ∧ k ≠ 14 ∧ k ≠ 16 ∧ k ≠ 17 ∧ k ≠ 18 ∧ k < 21 → T k i j = S k i j) : XV T :=
  ⟨⟨(e _ _ _ (by omega)).trans x.1.1, by rw [e _ _ _ (by omega)]; exact x.1.2⟩, XN_c x.2.1 (e _ _ _ (by omega)) (e _ _ _ (by omega)) (fun _ => e _ _ _ (by omega)), XE_c x.2.2 (e _ _ _ (by omega)) (fun _ => e _ _ _ (by omega)) (fun _ => e _ _ _ (by omega))⟩
theorem xv_right (x : XV S) {u v : Int} (hu : 1 ≤ u) : XV (su S 1 u 0 v) := by
  refine ⟨⟨?_, x.1.2⟩, XN_c x.2.1 rfl rfl (fun _ => rfl), XE_c x.2.2 rfl (fun _ => rfl) (fun _ => rfl)⟩
  rw [su_i, if_neg (by omega)]
  exact x.1.1
theorem xv_user (x : XV S) (v : Int) : XV (Suser S v) := by
  obtain ⟨u1, u2⟩ := x.1
  refine ⟨⟨?_, ?_⟩, XN_c x.2.1 rfl rfl (fun _ => rfl), XE_c x.2.2 rfl (fun _ => rfl) (fun _ => rfl)⟩
  · show su (su S 1 (S 0 0 0) 0 v) 0 0 0 (S 0 0 0 + 1) 1 0 0 = 4
    rw [su_k (by omega), su_i, if_neg (by omega)]
    exact u1
  · show 2 ≤ su (su S 1 (S 0 0 0) 0 v) 0 0 0 (S 0 0 0 + 1) 0 0 0
    rw [su_i, if_pos ⟨rfl, rfl⟩]
    omega
theorem xn_tx (iv : Inv S) (x : XN S) (p c n s : Int) (hp : 0 ≤ p) (hc : 0 ≤ c) (hn : 0 ≤ n) (hpc : p + c ≤ S 3 (S 2 0 0) 0) : XN (TX S p c n s) := by
  have it := (ItP_of iv).2
  unfold XN
  rw [TX_2]
  simp only [TX_3, TX_4, if_true]
  intro i j h1 h2 h3 h4 e
  have key : ∀ i, 0 ≤ i → i < S 3 (S 2 0 0) 0 - c + n → (i < p ∧ 0 ≤ i) ∨ (p ≤ i ∧ i < p + n) ∨ (p + n ≤ i ∧ p + c ≤ i - n + c ∧ i - n + c < S 3 (S 2 0 0) 0) := fun i g1 g2 => by omega
  by_cases a1 : i < p
  · rw [if_pos a1] at e
    by_cases b1 : j < p
    · rw [if_pos b1] at e
      exact x i j h1 (by omega) h3 (by omega) e
    · rw [if_neg b1] at e
      have w := it i h1 (by omega)
      by_cases b2 : j < p + n
      · rw [if_pos b2] at e; omega
      · rw [if_neg b2] at e
        have := x i (j - n + c) h1 (by omega) (by omega) (by omega) e
        omega
  · rw [if_neg a1] at e
    by_cases a2 : i < p + n
    · rw [if_pos a2] at e
      by_cases b1 : j < p
      · rw [if_pos b1] at e
        have w := it j h3 (by omega)
        omega
      · rw [if_neg b1] at e
        by_cases b2 : j < p + n
        · rw [if_pos b2] at e; omega
        · rw [if_neg b2] at e
          have w := it (j - n + c) (by omega) (by omega)
          omega
    · rw [if_neg a2] at e
      by_cases b1 : j < p
      · rw [if_pos b1] at e
        have := x (i - n + c) j (by omega) (by omega) h3 (by omega) e
        omega
      · rw [if_neg b1] at e
        by_cases b2 : j < p + n
        · rw [if_pos b2] at e
          have w := it (i - n + c) (by omega) (by omega)
          omega
        · rw [if_neg b2] at e
          have := x (i - n + c) (j - n + c) (by omega) (by omega) (by omega) (by omega) e
          omega
theorem xv_tx (iv : Inv S) (x : XV S) (p c n s : Int) (hp : 0 ≤ p) (hc : 0 ≤ c) (hn : 0 ≤ n) (hpc : p + c ≤ S 3 (S 2 0 0) 0) : XV (TX S p c n s) :=
  ⟨⟨(TX_o _ _ _ _ _ _ _ _ (by omega)).trans x.1.1, by rw [TX_o _ _ _ _ _ _ _ _ (by omega)]; exact x.1.2⟩, xn_tx iv x.2.1 p c n s hp hc hn hpc, XE_c x.2.2 (TX_o _ _ _ _ _ _ _ _ (by omega)) (fun _ => TX_o _ _ _ _ _ _ _ _ (by omega)) (fun _ => TX_o _ _ _ _ _ _ _ _ (by omega))⟩
theorem xv_put (iv : Inv S) (x : XV S) (p n s : Int) (hp : 0 ≤ p) (hn : 0 ≤ n) (hpc : p ≤ S 3 (S 2 0 0) 0) : XV (Sput S p n s) := xv_hk (xv_tx iv x p 0 n s hp (Int.le_refl _) hn (by omega)) (fun k i j h => MP_o _ _ _ _ _ _ _ (by omega))
theorem xv_cut (iv : Inv S) (x : XV S) (p n : Int) (hp : 0 ≤ p) (hn : 0 ≤ n) (hpc : p + n ≤ S 3 (S 2 0 0) 0) : XV (Scut S p n) := xv_hk (xv_tx iv x p n 0 0 hp hn (Int.le_refl _) hpc) (fun k i j h => MC_o _ _ _ _ _ _ _ (by omega))
theorem xv_take (iv : Inv S) (x : XV S) {k : Int} (hh : hd S k) (c : cnT S k) : XV (Stake S k) := by
  obtain ⟨⟨f1, f2, f3⟩, -, ⟨f4, f5⟩, ⟨f6, f7⟩, -⟩ := iv.2.2.1.2.2.2.1 k hh
  obtain ⟨c1, c2, c3, c4⟩ := c
  have i1 : Inv (Scut S (S 13 k 0) (S 14 k 0 - S 13 k 0)) := inv_cut iv _ _ f1 (by omega) (by omega) (by split at c4 <;> omega)
  have x1 := xv_cut iv x (S 13 k 0) (S 14 k 0 - S 13 k 0) f1 (by omega) (by omega)
  have x2 : XV (Stx S k) := by
    unfold Stx
    split
    · exact xv_put i1 x1 _ _ _ f1 (by omega) (by rw [Scut_sz]; omega)
    · exact x1
  refine xv_hk x2 (fun k2 i j h => ?_)
  unfold Stake
  rw [su_k (by omega), su_k (by omega), su_k (by omega), su_k (by omega)]
theorem xv_heal (x : XV S) (m : Nat) (k : Int) : XV (hlS S m k) := xv_hk x (fun k2 i j h => hlS_o m S k k2 i j (by omega))
theorem xv_exp (x : XV S) (u al : Int) : XV (Sexp S u al) := xv_hk x (fun k i j h => by
  show (if k = 21 ∧ i = 0 ∧ j = 0 then _ else if k = 22 then _ else S k i j) = S k i j
  rw [if_neg (by omega), if_neg (by omega)])
theorem xt_XE (x : Xt S T) (iv : Inv S) (iT : Inv T) (xe : XE S) (h0 : T 12 (S 7 0 0) 0 = 0) : XE T := fun k hk h12 => by
  have b := iv.2.2.1.1.1
  have hk1 := hk.1
  have hk2 := hk.2
  rw [x.1] at hk2
  by_cases c : k = S 7 0 0
  · rw [c, h0] at h12; omega
  · have hn : nt S k := ⟨hk1, by omega⟩
    have := xe k hn (by rw [← (x.2 k c).2.2.1]; exact h12)
    rw [xt_RP x iv]
    have r0 := (RP_b iv k).1
    have : 0 ≤ b2i (T 10 (S 7 0 0) 0 = k ∧ T 12 (S 7 0 0) 0 ≠ 2) := by
      by_cases z : T 10 (S 7 0 0) 0 = k ∧ T 12 (S 7 0 0) 0 ≠ 2
      · rw [b2i_t z]; omega
      · rw [b2i_f z]; omega
    omega
theorem xv_note (iv : Inv S) (x : XV S) (u f t v c : Int) (iT : Inv (Snote S u f t v c)) (h60 : S 7 0 0 < 60) : XV (Snote S u f t v c) := by
  have e : ∀ k i j, k < 7 → Snote S u f t v c k i j = S k i j := fun k i j h => NN_o _ _ _ _ _ _ ⟨by omega, .inr (.inl (by omega))⟩
  refine ⟨⟨(e _ _ _ (by omega)).trans x.1.1, by rw [e _ _ _ (by omega)]; exact x.1.2⟩, XN_c x.2.1 (e _ _ _ (by omega)) (e _ _ _ (by omega)) (fun _ => e _ _ _ (by omega)), ?_⟩
  refine xt_XE ⟨NN_7 .., fun j hj => ⟨NN_o _ _ _ _ _ _ ⟨by omega, .inl hj⟩, NN_o _ _ _ _ _ _ ⟨by omega, .inl hj⟩, NN_o _ _ _ _ _ _ ⟨by omega, .inl hj⟩, NN_o _ _ _ _ _ _ ⟨by omega, .inl hj⟩⟩⟩ iv iT x.2.2 ?_
  have := (iv.2.2.1.2.2.1 (S 7 0 0) (Int.le_refl _) h60).1
  exact (NN_n _ _ _ _ (by omega)).trans this
theorem xv_reply (iv : Inv S) (x : XV S) (u q c : Int) (iT : Inv (Srep S u q c)) (h60 : S 7 0 0 < 60) : XV (Srep S u q c) := by
  have e : ∀ k i j, k < 7 → Srep S u q c k i j = S k i j := fun k i j h => Srep_o _ _ _ _ _ _ _ ⟨by omega, by omega, .inr (.inl (by omega))⟩
  refine ⟨⟨(e _ _ _ (by omega)).trans x.1.1, by rw [e _ _ _ (by omega)]; exact x.1.2⟩, XN_c x.2.1 (e _ _ _ (by omega)) (e _ _ _ (by omega)) (fun _ => e _ _ _ (by omega)), ?_⟩
  refine xt_XE ⟨(su_k (by omega)).trans (NN_7 ..), fun j hj => ⟨Srep_o _ _ _ _ _ _ _ ⟨by omega, by omega, .inl hj⟩, Srep_o _ _ _ _ _ _ _ ⟨by omega, by omega, .inl hj⟩, Srep_o _ _ _ _ _ _ _ ⟨by omega, by omega, .inl hj⟩, Srep_o _ _ _ _ _ _ _ ⟨by omega, by omega, .inl hj⟩⟩⟩ iv iT x.2.2 ?_
  have := (iv.2.2.1.2.2.1 (S 7 0 0) (Int.le_refl _) h60).1
  exact (Srep_n _ _ _ _ _ (by omega)).trans this
/-- what is empty has a reply, but for t -/
def XEt (S : St) (t : Int) : Prop := ∀ k, nt S k → k ≠ t → S 12 k 0 = 1 → RP S k ≠ 0
theorem rm_XE (m : Nat) : ∀ (S : St) (t : Int), Inv S → (t = -1 ∨ nt S t) → t < m → XEt S t → XE (rmS S m t) := by
  induction m with
  | zero =>
    intro S t iv ht hm xe k hk h12
    exact xe k hk (by have := hk.1; omega) h12
  | succ m ih =>
    intro S t iv ht hm xe
    rw [rmS_s]
    by_cases c : rmG S t
    · rw [if_pos c]
      have hn : nt S t := by
        rcases ht with e | e
        · exact absurd e c.1
        · exact e
      have iv2 := inv_rmG iv hn c
      have hpar : S 10 t 0 = -1 ∨ nt S (S 10 t 0) := by
        rcases iv_par iv hn with q | q
        · exact .inl q.1
        · exact .inr q.1
      refine ih (su S 12 t 0 2) (S 10 t 0) iv2 hpar ?_ (fun k hk n1 h12 => ?_)
      · rcases iv_par iv hn with q | q
        · have := q.1; have := hn.1; omega
        · have := q.2.1; omega
      · have hk : nt S k := hk
        rw [su_i] at h12
        by_cases e : k = t
        · rw [if_pos ⟨e, rfl⟩] at h12; omega
        · rw [if_neg (fun z => e z.1)] at h12
          rw [RP_gone iv hn (by have := c.2.1; omega), if_neg (fun z => n1 z.symm)]
          exact xe k hk e h12
    · rw [if_neg c]
      intro k hk h12 hr
      by_cases e : k = t
      · subst e
        exact c ⟨by have := hk.1; omega, h12, hr⟩
      · exact xe k hk e h12 hr
theorem rmS_o (m : Nat) : ∀ (S : St) (t : Int) (q : Nat) (x y : Int), q ≠ 12 → rmS S m t q x y = S q x y := by
  induction m with
  | zero => exact fun _ _ _ _ _ _ => rfl
  | succ m ih =>
    intro S t q x y h
    rw [rmS_s]
    by_cases c : rmG S t
    · rw [if_pos c, ih _ _ _ _ _ h, su_k h]
    · rw [if_neg c]
theorem xv_remove (iv : Inv S) (x : XV S) {k : Int} (hk : nt S k) (hg : S 12 k 0 = 0) : XV (Srem S k) := by
  have iv1 : Inv (su S 12 k 0 1) := inv_st iv hk (.inr (.inl rfl)) (by omega) (fun z => absurd z (by decide))
  refine ⟨⟨(rmS_o _ _ _ _ _ _ (by omega)).trans x.1.1, by unfold Srem; rw [rmS_o _ _ _ _ _ _ (by omega)]; exact x.1.2⟩, XN_c x.2.1 (rmS_o _ _ _ _ _ _ (by omega)) (rmS_o _ _ _ _ _ _ (by omega)) (fun _ => rmS_o _ _ _ _ _ _ (by omega)), ?_⟩
  refine rm_XE 61 _ k iv1 (.inr hk) (by have := nt_b iv hk; omega) (fun j hj n1 h12 => ?_)
  rw [su_i, if_neg (fun z => n1 z.1)] at h12
  rw [RP_emp S (by omega)]
  exact x.2.2 j hj h12
end
