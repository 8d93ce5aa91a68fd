/-! WHAT THE LAW ASKS, pure: threads -/
section
variable {S : St}
theorem al_hd (iv : Inv S) (m : Nat) : ∀ k, nt S k → k < m → S 12 k 0 ≠ 2 → S 12 (S 11 k 0) 0 ≠ 2 := by
  induction m with
  | zero => intro k hk h; have := hk.1; omega
  | succ m ih =>
    intro k hk h g
    rcases ky_par iv hk with ⟨-, q, -⟩ | ⟨q0, q1, q2, q3, -⟩
    · rw [q]; exact g
    · rw [q3]
      exact ih _ q1 (by omega) (al_par iv k hk g q0)
theorem al_hd' (iv : Inv S) {k : Int} (hk : nt S k) (g : S 12 k 0 ≠ 2) : S 12 (S 11 k 0) 0 ≠ 2 := al_hd iv 61 k hk (by have := nt_b iv hk; omega) g
/-- the head comes first -/
theorem ky_hd (iv : Inv S) {k : Int} (hk : hd S k) (i : Int) (hi : nt S i) (e : S 11 i 0 = k) : KY S k ≤ KY S i := by
  have d := nt_d iv hi
  obtain ⟨y, y1, y2, y3, y4, -⟩ := ky_anc (G := fun _ => True) iv (fun _ _ _ _ => trivial) 0 (by omega) 61 i hi (by have := nt_b iv hi; omega) d.1
  have : S 11 y 0 = y := by
    rcases ky_par iv y1 with ⟨-, q, -⟩ | ⟨q0, q1, q2, q3, q4, -⟩
    · exact q
    · have := nt_d iv q1; omega
  have e2 : y = k := by rw [← this, y2, e]
  rw [← e2]
  exact y4
/-- the notes of a thread ahead of x -/
def TP (S : St) (k x i : Int) : Prop := S 12 i 0 ≠ 2 ∧ S 11 i 0 = k ∧ (x = -1 ∨ KY S i < KY S x)
theorem tp_0 (iv : Inv S) {k : Int} (hk : hd S k) (i : Int) (hi : nt S i) : ¬ TP S k k i := fun z => by
  have := ky_hd iv hk i hi z.2.1
  have k1 := hk.1.1
  rcases z.2.2 with q | q <;> omega
theorem tp_x {k x : Int} (hx : x ≠ -1) : ¬ TP S k x x := fun z => by
  rcases z.2.2 with q | q <;> omega
theorem tp_s (iv : Inv S) {k x : Int} (hx : nt S x) (gx : S 12 x 0 ≠ 2) (e : S 11 x 0 = k) (i : Int) (hi : nt S i) : TP S k (BH S x) i ↔ TP S k x i ∨ i = x := by
  have b := BH_sp iv x hx
  have x1 := hx.1
  constructor
  · rintro ⟨z1, z2, z3⟩
    by_cases c : i = x
    · exact .inr c
    · refine .inl ⟨z1, z2, .inr ?_⟩
      have ne : KY S i ≠ KY S x := fun q => c (ky_inj iv hi hx (z2.trans e.symm) q)
      rcases b with ⟨b1, b2⟩ | ⟨b1, b2, b3, b4, b5⟩
      · have := b2 i hi z1 (z2.trans e.symm); omega
      · rcases z3 with q | q
        · have := b1.1; omega
        · by_cases l : KY S x < KY S i
          · have := b5 i hi z1 (z2.trans e.symm) l; omega
          · omega
  · intro z
    rcases z with ⟨z1, z2, z3⟩ | z
    · refine ⟨z1, z2, ?_⟩
      rcases b with ⟨b1, b2⟩ | ⟨b1, b2, b3, b4, b5⟩
      · exact .inl b1
      · rcases z3 with q | q
        · omega
        · exact .inr (by omega)
    · subst z
      refine ⟨gx, e, ?_⟩
      rcases b with ⟨b1, b2⟩ | ⟨b1, b2, b3, b4, b5⟩
      · exact .inl b1
      · exact .inr b4
theorem tp_par (iv : Inv S) {k x : Int} (hx : nt S x) (gx : S 12 x 0 ≠ 2) (e : S 11 x 0 = k) (n : x ≠ k) : nt S (S 10 x 0) ∧ TP S k x (S 10 x 0) := by
  rcases ky_par iv hx with ⟨-, q, -⟩ | ⟨q0, q1, q2, q3, q4, q5, -⟩
  · exact absurd (q.symm.trans e) n
  · refine ⟨q1, al_par iv x hx gx q0, q3.symm.trans e, .inr ?_⟩
    have bx := nt_b iv hx
    have := ky_lt bx.1 bx.2 (WD_pos (S 23 x 0))
    omega
theorem cn_1 (x : Int) (m : Nat) : ∀ i, i ≤ x → x < i + m → cn (fun j => j = x) m i = 1 := by
  intro i h1 h2
  have := cn_rm (p := fun j => j = x) rfl m i h1 h2
  have e : cn (fun j => j = x ∧ j ≠ x) m i = cn (fun _ => False) m i := cn_c (fun j _ _ => ⟨fun z => z.2 z.1, False.elim⟩)
  have z := cn_F m i
  omega
theorem cn_z {p : Int → Prop} {m : Nat} {i : Int} (h : ∀ j, i ≤ j → j < i + m → ¬ p j) : cn p m i = 0 := by
  rw [← cn_F m i]
  exact cn_c (fun j h1 h2 => ⟨fun z => h j h1 h2 z, False.elim⟩)
theorem nt_in (iv : Inv S) {j : Int} (h1 : 0 ≤ j) (h2 : j < 0 + ((S 7 0 0).toNat : Nat)) : nt S j := by
  have b := iv.2.2.1.1
  exact ⟨h1, by omega⟩
theorem nt_at (iv : Inv S) {j : Int} (h : nt S j) : 0 ≤ j ∧ j < 0 + ((S 7 0 0).toNat : Nat) := by
  have b := iv.2.2.1.1
  have h1 := h.1
  have h2 := h.2
  exact ⟨h1, by omega⟩
theorem tpn_0 (iv : Inv S) {k : Int} (hk : hd S k) : cn (TP S k k) (S 7 0 0).toNat 0 = 0 := cn_z (fun j h1 h2 => tp_0 iv hk j (nt_in iv h1 h2))
theorem tpn_s (iv : Inv S) {k x : Int} (hx : nt S x) (gx : S 12 x 0 ≠ 2) (e : S 11 x 0 = k) : cn (TP S k (BH S x)) (S 7 0 0).toNat 0 = cn (TP S k x) (S 7 0 0).toNat 0 + 1 := by
  have a := nt_at iv hx
  have x1 := hx.1
  rw [cn_c (q := fun i => TP S k x i ∨ i = x) (fun j h1 h2 => tp_s iv hx gx e j (nt_in iv h1 h2)), cn_or (fun j z y => by subst y; exact tp_x (by omega) z), cn_1 x _ 0 a.1 a.2]
theorem tpn_b (iv : Inv S) (k x : Int) : 0 ≤ cn (TP S k x) (S 7 0 0).toNat 0 ∧ cn (TP S k x) (S 7 0 0).toNat 0 ≤ 60 := by
  have b := iv.2.2.1.1
  have := cn_le (TP S k x) (S 7 0 0).toNat 0
  omega
/-- the told notes of threads whose heads are below K -/
def AL (S : St) (K i : Int) : Prop := S 12 i 0 ≠ 2 ∧ S 11 i 0 < K
theorem al_0 (iv : Inv S) : cn (AL S 0) (S 7 0 0).toNat 0 = 0 := cn_z (fun j h1 h2 z => by
  have := (iv_hd iv (nt_in iv h1 h2)).1.1
  have := z.2
  omega)
theorem al_N (iv : Inv S) : cn (AL S (S 7 0 0)) (S 7 0 0).toNat 0 = MN S 1 := by
  unfold MN
  rw [if_neg (by omega), if_pos rfl]
  exact cn_c (fun j h1 h2 => ⟨fun z => z.1, fun z => ⟨z, (iv_hd iv (nt_in iv h1 h2)).1.2⟩⟩)
theorem al_s (iv : Inv S) {k : Int} : cn (AL S (k + 1)) (S 7 0 0).toNat 0 = cn (AL S k) (S 7 0 0).toNat 0 + cn (TP S k (-1)) (S 7 0 0).toNat 0 := by
  rw [← cn_or (fun j z y => by have := z.2; have := y.2.1; omega)]
  refine cn_c (fun j h1 h2 => ⟨fun z => ?_, fun z => ?_⟩)
  · by_cases c : S 11 j 0 = k
    · exact .inr ⟨z.1, c, .inl rfl⟩
    · exact .inl ⟨z.1, by have := z.2; omega⟩
  · rcases z with z | z
    · exact ⟨z.1, by have := z.2; omega⟩
    · exact ⟨z.1, by have := z.2.1; omega⟩
theorem al_n (iv : Inv S) {k : Int} (hk : ¬ (hd S k ∧ S 12 k 0 ≠ 2)) : cn (AL S (k + 1)) (S 7 0 0).toNat 0 = cn (AL S k) (S 7 0 0).toNat 0 := by
  rw [al_s iv, cn_z (p := TP S k (-1)), Int.add_zero]
  intro j h1 h2 z
  have hj := nt_in iv h1 h2
  have hh := iv_hd iv hj
  have ha := al_hd' iv hj z.1
  rw [z.2.1] at hh ha
  exact hk ⟨hh, ha⟩
theorem al_b (iv : Inv S) (k : Int) : 0 ≤ cn (AL S k) (S 7 0 0).toNat 0 ∧ cn (AL S k) (S 7 0 0).toNat 0 ≤ 60 := by
  have b := iv.2.2.1.1
  have := cn_le (AL S k) (S 7 0 0).toNat 0
  omega
end
