/-! ONE MORE NOTE (pure) -/
def NN (S : St) (w : Nat → Int) (r : Int → Int) : St := fun k x j => if k = 7 ∧ x = 0 ∧ j = 0 then S 7 0 0 + 1 else if 8 ≤ k ∧ k ≤ 23 ∧ k ≠ 20 ∧ k ≠ 21 ∧ k ≠ 22 ∧ x = S 7 0 0 ∧ j = 0 then w k else if k = 20 ∧ x = S 7 0 0 then r j else S k x j
def wH (S : St) (u f t v c : Int) : Nat → Int := fun k => if k = 8 then u else if k = 9 then c else if k = 10 then -1 else if k = 11 then S 7 0 0 else if k = 13 then f else if k = 14 then t else if k = 15 then v else if k = 16 then -1 else if k = 19 then (if t - f < 12 then t - f else 12) else if k = 23 then 0 else S k (S 7 0 0) 0
def wR (S : St) (u q c : Int) : Nat → Int := fun k => if k = 8 then u else if k = 9 then c else if k = 10 then q else if k = 11 then S 11 q 0 else if k = 23 then S 23 q 0 + 1 else S k (S 7 0 0) 0
def Snote (S : St) (u f t v c : Int) : St := NN S (wH S u f t v c) (fun j => S 5 (S 4 (S 2 0 0) (f + j)) 0)
def Srep (S : St) (u q c : Int) : St := su (NN S (wR S u q c) (fun j => S 20 (S 7 0 0) j)) 18 (S 11 q 0) 0 0
section
variable {S T : St} {w : Nat → Int} {r : Int → Int}
theorem NN_7 (S : St) (w : Nat → Int) (r : Int → Int) : NN S w r 7 0 0 = S 7 0 0 + 1 := if_pos ⟨rfl, rfl, rfl⟩
theorem NN_o (S : St) (w : Nat → Int) (r : Int → Int) (k : Nat) (x j : Int) (h : k ≠ 7 ∧ (x ≠ S 7 0 0 ∨ k < 8 ∨ k = 21 ∨ k = 22)) : NN S w r k x j = S k x j := by
  unfold NN
  rw [if_neg (by omega), if_neg (by omega), if_neg (by omega)]
theorem NN_n (S : St) (w : Nat → Int) (r : Int → Int) (k : Nat) (h : 8 ≤ k ∧ k ≤ 23 ∧ k ≠ 20 ∧ k ≠ 21 ∧ k ≠ 22) : NN S w r k (S 7 0 0) 0 = w k := by
  unfold NN
  rw [if_neg (by omega), if_pos ⟨h.1, h.2.1, h.2.2.1, h.2.2.2.1, h.2.2.2.2, rfl, rfl⟩]
theorem NN_20 (S : St) (w : Nat → Int) (r : Int → Int) (j : Int) : NN S w r 20 (S 7 0 0) j = r j := by
  unfold NN
  rw [if_neg (by omega), if_neg (by omega), if_pos ⟨rfl, rfl⟩]
/-- what the order hangs on: T has one note more than S -/
def Xt (S T : St) : Prop := T 7 0 0 = S 7 0 0 + 1 ∧ ∀ j, j ≠ S 7 0 0 → T 10 j 0 = S 10 j 0 ∧ T 11 j 0 = S 11 j 0 ∧ T 12 j 0 = S 12 j 0 ∧ T 23 j 0 = S 23 j 0
theorem Xt_NN (S : St) (w : Nat → Int) (r : Int → Int) : Xt S (NN S w r) := ⟨NN_7 S w r, fun j h => ⟨NN_o _ _ _ _ _ _ (by omega), NN_o _ _ _ _ _ _ (by omega), NN_o _ _ _ _ _ _ (by omega), NN_o _ _ _ _ _ _ (by omega)⟩⟩
theorem xt_nt (x : Xt S T) {k : Int} : nt T k ↔ (nt S k ∨ (k = S 7 0 0 ∧ 0 ≤ S 7 0 0)) := by
  unfold nt
  rw [x.1]
  omega
theorem xt_lt {k : Int} (hk : nt S k) : k ≠ S 7 0 0 := by have := hk.2; omega
theorem xt_ky (x : Xt S T) (iv : Inv S) (m : Nat) : ∀ k, nt S k → kyf T m k = kyf S m k := by
  induction m with
  | zero => exact fun k _ => rfl
  | succ m ih =>
    intro k hk
    obtain ⟨e10, e11, e12, e23⟩ := x.2 k (xt_lt hk)
    rw [kyf_s, kyf_s, e10, e23]
    rcases iv_par iv hk with ⟨q, -⟩ | ⟨q1, q2, q3, q4⟩
    · rw [if_pos q, if_pos q]
    · rw [if_neg q4, if_neg q4, ih _ q1]
theorem xt_KY (x : Xt S T) (iv : Inv S) {k : Int} (hk : nt S k) : KY T k = KY S k := xt_ky x iv 61 k hk
theorem cn_sn (p : Int → Prop) (m : Nat) : ∀ i, cn p (m + 1) i = cn p m i + b2i (p (i + m)) := by
  induction m with
  | zero =>
    intro i
    show b2i (p i) + 0 = 0 + b2i (p (i + (0 : Nat)))
    rw [show i + ((0 : Nat) : Int) = i by omega]
    omega
  | succ m ih =>
    intro i
    show b2i (p i) + cn p (m + 1) (i + 1) = b2i (p i) + cn p m (i + 1) + _
    rw [ih (i + 1), show i + 1 + (m : Int) = i + ((m + 1 : Nat) : Int) by omega]
    omega
theorem xt_RP (x : Xt S T) (iv : Inv S) {k : Int} : RP T k = RP S k + b2i (T 10 (S 7 0 0) 0 = k ∧ T 12 (S 7 0 0) 0 ≠ 2) := by
  have b := iv.2.2.1.1
  unfold RP
  rw [x.1, show (S 7 0 0 + 1).toNat = (S 7 0 0).toNat + 1 by omega, cn_sn, show (0 : Int) + ((S 7 0 0).toNat : Int) = S 7 0 0 by omega]
  congr 1
  refine cn_c (fun j h1 h2 => ?_)
  obtain ⟨e10, e11, e12, e23⟩ := x.2 j (by omega)
  rw [e10, e12]
theorem cn_F (m : Nat) : ∀ i, cn (fun _ => False) m i = 0 := by
  induction m with
  | zero => exact fun i => rfl
  | succ m ih =>
    intro i
    show b2i False + cn _ m (i + 1) = _
    rw [ih, b2i_f id]
    rfl
theorem xt_RPn (x : Xt S T) (iv : Inv S) (iT : Inv T) : RP T (S 7 0 0) = 0 := by
  have b := iT.2.2.1.1
  have e : RP T (S 7 0 0) = cn (fun _ => False) (T 7 0 0).toNat 0 := cn_c (fun j h1 h2 => ⟨fun z => by
    have hj : nt T j := ⟨h1, by omega⟩
    have hj2 := hj.2
    rw [x.1] at hj2
    rcases iv_par iT hj with ⟨q, -⟩ | ⟨q1, q2, q3, q4⟩
    · have := iv.2.2.1.1; omega
    · omega, fun z => z.elim⟩)
  rw [e, cn_F]
/-- a thread that the new note isn't of -/
theorem xt_NXo (x : Xt S T) (iv : Inv S) (iT : Inv T) {k : Int} (hk : nt S k) (n : T 11 (S 7 0 0) 0 ≠ S 11 k 0) : NX T k = NX S k := by
  have e11 := (x.2 k (xt_lt hk)).2.1
  have hkT : nt T k := (xt_nt x).mpr (.inl hk)
  refine isN_u iT (NX_sp iT k hkT) ?_
  have old : ∀ i, nt T i → T 11 i 0 = T 11 k 0 → nt S i := fun i hi e => by
    rcases (xt_nt x).mp hi with q | q
    · exact q
    · rw [q.1, e11] at e; exact absurd e n
  rcases NX_sp iv k hk with ⟨e1, e2⟩ | ⟨e1, e2, e3, e4, e5⟩
  · refine .inl ⟨e1, fun i hi g e => ?_⟩
    have ho := old i hi e
    rw [xt_KY x iv ho, xt_KY x iv hk]
    rw [e11, (x.2 i (xt_lt ho)).2.1] at e
    exact e2 i ho g e
  · refine .inr ⟨(xt_nt x).mpr (.inl e1), trivial, ?_, ?_, fun i hi g e l => ?_⟩
    · rw [e11, (x.2 _ (xt_lt e1)).2.1]; exact e3
    · rw [xt_KY x iv e1, xt_KY x iv hk]; exact e4
    · have ho := old i hi e
      rw [xt_KY x iv ho, xt_KY x iv hk] at l
      rw [xt_KY x iv ho, xt_KY x iv e1]
      rw [e11, (x.2 i (xt_lt ho)).2.1] at e
      exact e5 i ho g e l
/-- a new head: nothing behind it -/
theorem xt_NXh (x : Xt S T) (iT : Inv T) (hn : nt T (S 7 0 0)) (h : ∀ i, nt S i → T 11 i 0 ≠ T 11 (S 7 0 0) 0) : NX T (S 7 0 0) = -1 := by
  refine isN_u iT (NX_sp iT _ hn) (.inl ⟨rfl, fun i hi _ e => ?_⟩)
  rcases (xt_nt x).mp hi with q | q
  · exact absurd e (h i q)
  · rw [q.1]; omega
/-- where the new reply's key is -/
noncomputable def kyN (S : St) (q : Int) : Int := KY S q + (S 7 0 0 + 1) * WD (S 23 q 0 + 1)
/-- the last note behind which the new reply to q comes -/
def lastE (S : St) (q e : Int) : Prop := nt S e ∧ S 11 e 0 = S 11 q 0 ∧ KY S e < kyN S q ∧ (NX S e = -1 ∨ kyN S q < KY S (NX S e))
theorem xt_kyn (x : Xt S T) (iv : Inv S) (iT : Inv T) {q : Int} (hq : nt S q) (h10 : T 10 (S 7 0 0) 0 = q) (h23 : T 23 (S 7 0 0) 0 = S 23 q 0 + 1) : KY T (S 7 0 0) = kyN S q := by
  have hn : nt T (S 7 0 0) := (xt_nt x).mpr (.inr ⟨rfl, iv.2.2.1.1.1⟩)
  have q1 := hq.1
  rcases ky_par iT hn with ⟨z, -⟩ | ⟨-, -, -, -, -, z, -⟩
  · omega
  · rw [h10, h23, xt_KY x iv hq] at z
    exact z
theorem xt_NXe (x : Xt S T) (iv : Inv S) (iT : Inv T) {q e : Int} (hq : nt S q) (h10 : T 10 (S 7 0 0) 0 = q) (h23 : T 23 (S 7 0 0) 0 = S 23 q 0 + 1) (h11 : T 11 (S 7 0 0) 0 = S 11 q 0) (he : lastE S q e) : NX T e = S 7 0 0 := by
  obtain ⟨e1, e2, e3, e4⟩ := he
  have hn : nt T (S 7 0 0) := (xt_nt x).mpr (.inr ⟨rfl, iv.2.2.1.1.1⟩)
  have kn := xt_kyn x iv iT hq h10 h23
  have e11 := (x.2 e (xt_lt e1)).2.1
  refine isN_u iT (NX_sp iT e ((xt_nt x).mpr (.inl e1))) (.inr ⟨hn, trivial, by rw [h11, e11, e2], by rw [kn, xt_KY x iv e1]; exact e3, fun i hi g e l => ?_⟩)
  rw [kn]
  rcases (xt_nt x).mp hi with ho | ho
  · rw [xt_KY x iv ho, xt_KY x iv e1] at *
    rw [e11, (x.2 i (xt_lt ho)).2.1] at e
    rcases NX_sp iv _ e1 with ⟨f1, f2⟩ | ⟨f1, f2, f3, f4, f5⟩
    · have := f2 i ho trivial e; omega
    · have := f5 i ho trivial e l
      have := f1.1
      omega
  · rw [ho.1, kn]; omega
theorem xt_NXn (x : Xt S T) (iv : Inv S) (iT : Inv T) {q e : Int} (hq : nt S q) (h10 : T 10 (S 7 0 0) 0 = q) (h23 : T 23 (S 7 0 0) 0 = S 23 q 0 + 1) (h11 : T 11 (S 7 0 0) 0 = S 11 q 0) (he : lastE S q e) : NX T (S 7 0 0) = NX S e := by
  obtain ⟨e1, e2, e3, e4⟩ := he
  have hn : nt T (S 7 0 0) := (xt_nt x).mpr (.inr ⟨rfl, iv.2.2.1.1.1⟩)
  have kn := xt_kyn x iv iT hq h10 h23
  refine isN_u iT (NX_sp iT _ hn) ?_
  rcases NX_sp iv _ e1 with ⟨f1, f2⟩ | ⟨f1, f2, f3, f4, f5⟩
  · refine .inl ⟨f1, fun i hi g e => ?_⟩
    rw [kn]
    rcases (xt_nt x).mp hi with ho | ho
    · rw [xt_KY x iv ho]
      rw [h11, (x.2 i (xt_lt ho)).2.1] at e
      have := f2 i ho trivial (e.trans e2.symm)
      omega
    · rw [ho.1, kn]; omega
  · have f11 := f1.1
    refine .inr ⟨(xt_nt x).mpr (.inl f1), trivial, by rw [h11, (x.2 (NX S e) (xt_lt f1)).2.1, f3, e2], by rw [kn, xt_KY x iv f1]; omega, fun i hi g e l => ?_⟩
    rw [kn] at l
    rcases (xt_nt x).mp hi with ho | ho
    · rw [xt_KY x iv ho] at l ⊢
      rw [xt_KY x iv f1]
      rw [h11, (x.2 i (xt_lt ho)).2.1] at e
      exact f5 i ho trivial (e.trans e2.symm) (by omega)
    · rw [ho.1, kn] at l; omega
theorem xt_NXk (x : Xt S T) (iv : Inv S) (iT : Inv T) {q e k : Int} (hq : nt S q) (h10 : T 10 (S 7 0 0) 0 = q) (h23 : T 23 (S 7 0 0) 0 = S 23 q 0 + 1) (h11 : T 11 (S 7 0 0) 0 = S 11 q 0) (he : lastE S q e) (hk : nt S k) (n : k ≠ e) : NX T k = NX S k := by
  by_cases c : S 11 k 0 = S 11 q 0
  · obtain ⟨e1, e2, e3, e4⟩ := he
    have kn := xt_kyn x iv iT hq h10 h23
    have e11 := (x.2 k (xt_lt hk)).2.1
    have ne : KY S k ≠ KY S e := fun z => n (ky_inj iv hk e1 (c.trans e2.symm) z)
    have b := NX_sp iv _ e1
    refine isN_u iT (NX_sp iT k ((xt_nt x).mpr (.inl hk))) ?_
    rcases NX_sp iv k hk with ⟨f1, f2⟩ | ⟨f1, f2, f3, f4, f5⟩
    · refine .inl ⟨f1, fun i hi g e => ?_⟩
      rw [xt_KY x iv hk]
      rcases (xt_nt x).mp hi with ho | ho
      · rw [xt_KY x iv ho]
        rw [e11, (x.2 i (xt_lt ho)).2.1] at e
        exact f2 i ho trivial e
      · rw [ho.1, kn]
        have g1 := f2 _ e1 trivial (e2.trans c.symm)
        rcases b with ⟨b1, b2⟩ | ⟨b1, b2, b3, b4, b5⟩
        · have := b2 k hk trivial (c.trans e2.symm); omega
        · have := b5 k hk trivial (c.trans e2.symm) (by omega)
          have := b1.1
          omega
    · refine .inr ⟨(xt_nt x).mpr (.inl f1), trivial, by rw [e11, (x.2 _ (xt_lt f1)).2.1]; exact f3, by rw [xt_KY x iv f1, xt_KY x iv hk]; exact f4, fun i hi g ee l => ?_⟩
      rw [xt_KY x iv hk] at l
      rw [xt_KY x iv f1]
      rcases (xt_nt x).mp hi with ho | ho
      · rw [xt_KY x iv ho] at l ⊢
        rw [e11, (x.2 i (xt_lt ho)).2.1] at ee
        exact f5 i ho trivial ee l
      · rw [ho.1, kn] at l ⊢
        by_cases d : KY S k < KY S e
        · have := f5 _ e1 trivial (e2.trans c.symm) d
          omega
        · rcases b with ⟨b1, b2⟩ | ⟨b1, b2, b3, b4, b5⟩
          · have := b2 k hk trivial (c.trans e2.symm); omega
          · have := b5 k hk trivial (c.trans e2.symm) (by omega)
            have := b1.1
            omega
  · exact xt_NXo x iv iT hk (fun z => c (z.symm.trans h11))
/-- the walk behind q's replies: a step, the end -/
theorem walk_s (iv : Inv S) {q x : Int} (hq : nt S q) (hx : nt S x) (e : S 11 x 0 = S 11 q 0) (l1 : KY S q ≤ KY S x) (l2 : KY S x < kyN S q) (n : NX S x ≠ -1) (hN : S 7 0 0 < 60) (d : S 23 q 0 < S 23 (NX S x) 0) : KY S (NX S x) < kyN S q := by
  have hq2 := nt_d iv hq
  have hb := iv.2.2.1.1
  have wp := WD_pos (S 23 q 0 + 1)
  have ln := ky_lt hb.1 (by omega) wp
  rcases NX_sp iv x hx with ⟨f1, -⟩ | ⟨f1, f2, f3, f4, f5⟩
  · exact absurd f1 n
  · have wq : WD (S 23 q 0) = 64 * WD (S 23 q 0 + 1) := by
      have := nt_d iv f1
      exact WD_s hq2.1 (by omega)
    have inq : KY S (NX S x) < KY S q + WD (S 23 q 0) := by
      apply Classical.byContradiction
      intro c
      obtain ⟨y, y1, y2, y3, y4, y5, y6, y7⟩ := ky_anc (G := fun _ => True) iv (fun _ _ _ _ => trivial) (S 23 q 0) hq2.1 60 (NX S x) f1 (by have := nt_b iv f1; omega) (by omega)
      have w1 := WD_pos (S 23 (NX S x) 0)
      rcases y7 with y7 | y7
      · rw [y7] at y3; omega
      · have hyx : KY S y ≤ KY S x := by
          apply Classical.byContradiction
          intro c2
          have := f5 y y1 trivial (y2.trans f3) (by omega)
          omega
        have nq : y ≠ q := fun z => by rw [z] at y5; omega
        have i := ky_dis iv (S 23 q 0).toNat y q y1 hq (by omega) (by omega) (by rw [y2, f3, e]) nq
        rw [show (((S 23 q 0).toNat : Nat) : Int) = S 23 q 0 by omega] at i
        unfold kyN at l2
        omega
    obtain ⟨-, y, y1, y2, y3, y4, y5, y6, -⟩ := ky_sub (G := fun _ => True) iv (fun _ _ _ _ => trivial) hq f1 (by rw [f3, e]) (by omega) inq (fun z => by rw [z] at d; omega)
    have yb := y1.2
    have mo : (y + 1 + 1) * WD (S 23 q 0 + 1) ≤ (S 7 0 0 + 1) * WD (S 23 q 0 + 1) := Int.mul_le_mul_of_nonneg_right (by omega) (by omega)
    rw [Int.add_mul (y + 1) 1, Int.one_mul] at mo
    unfold kyN
    omega
theorem walk_e (iv : Inv S) {q x : Int} (hq : nt S q) (hx : nt S x) (e : S 11 x 0 = S 11 q 0) (l1 : KY S q ≤ KY S x) (n : NX S x ≠ -1) (hN : S 7 0 0 < 60) (hd : S 23 q 0 ≤ 58) (d : S 23 (NX S x) 0 ≤ S 23 q 0) : kyN S q < KY S (NX S x) := by
  have hq2 := nt_d iv hq
  have hb := iv.2.2.1.1
  have wp := WD_pos (S 23 q 0 + 1)
  have ln := ky_lt hb.1 (by omega) wp
  rcases NX_sp iv x hx with ⟨f1, -⟩ | ⟨f1, f2, f3, f4, f5⟩
  · exact absurd f1 n
  · have wq : WD (S 23 q 0) = 64 * WD (S 23 q 0 + 1) := WD_s hq2.1 (by omega)
    apply Classical.byContradiction
    intro c
    unfold kyN at c
    obtain ⟨z, -⟩ := ky_sub (G := fun _ => True) iv (fun _ _ _ _ => trivial) hq f1 (by rw [f3, e]) (by omega) (by omega) (fun z => by rw [z] at f4; omega)
    omega
end
