/-! THE NEXT NOTE THAT IS NOT GONE (pure) -/
theorem cn_lt {p q : Int → Prop} (m : Nat) : ∀ (i t : Int), (∀ j, p j → q j) → i ≤ t → t < i + m → q t → ¬ p t → cn p m i + 1 ≤ cn q m i := by
  induction m with
  | zero => intro i t _ h1 h2; omega
  | succ m ih =>
    intro i t hpq h1 h2 hq hp
    show b2i (p i) + cn p m (i + 1) + 1 ≤ b2i (q i) + cn q m (i + 1)
    by_cases c : t = i
    · subst c
      rw [b2i_f hp, b2i_t hq]
      have : cn p m (t + 1) ≤ cn q m (t + 1) := by
        clear ih h1 h2
        generalize t + 1 = s
        induction m generalizing s with
        | zero => exact Int.le_refl _
        | succ m ih =>
          show b2i (p s) + cn p m (s + 1) ≤ b2i (q s) + cn q m (s + 1)
          have := ih (s + 1)
          by_cases e : p s
          · rw [b2i_t e, b2i_t (hpq s e)]; omega
          · rw [b2i_f e]
            by_cases f : q s
            · rw [b2i_t f]; omega
            · rw [b2i_f f]; omega
      omega
    · have := ih (i + 1) t hpq (by omega) (by omega) hq hp
      by_cases e : p i
      · rw [b2i_t e, b2i_t (hpq i e)]; omega
      · rw [b2i_f e]
        by_cases f : q i
        · rw [b2i_t f]; omega
        · rw [b2i_f f]; omega
noncomputable def BH (S : St) (k : Int) : Int := NG S (fun j => S 12 j 0 ≠ 2) k
noncomputable def sq (S : St) (h : Int) (n : Nat) : Int := match n with
  | 0 => h
  | n + 1 => if sq S h n = -1 then -1 else BH S (sq S h n)
noncomputable def ms (S : St) (G : Int → Prop) (k : Int) : Int := cn (fun j => S 11 j 0 = S 11 k 0 ∧ G j ∧ KY S k ≤ KY S j) (S 7 0 0).toNat 0
noncomputable def TH (S : St) (h p : Int) : Int := if 0 ≤ p then sq S h p.toNat else -1
section
variable {S : St} {G : Int → Prop}
theorem al_par (iv : Inv S) : ∀ z, nt S z → S 12 z 0 ≠ 2 → S 10 z 0 ≠ -1 → S 12 (S 10 z 0) 0 ≠ 2 := by
  intro z hz g n
  rcases iv_par iv hz with ⟨q, -⟩ | ⟨q1, q2, q3, q4⟩
  · exact absurd q n
  · exact fun e => g (iv.2.2.1.2.2.2.2 _ z q1 hz rfl e)
theorem BH_sp (iv : Inv S) (k : Int) (hk : nt S k) : isN S (fun j => S 12 j 0 ≠ 2) k (BH S k) := NG_sp iv (al_par iv) k hk
theorem isN_nt {k j : Int} (h : isN S G k j) (n : j ≠ -1) : nt S j ∧ G j ∧ S 11 j 0 = S 11 k 0 ∧ KY S k < KY S j := by
  rcases h with ⟨e, -⟩ | ⟨e1, e2, e3, e4, -⟩
  · exact absurd e n
  · exact ⟨e1, e2, e3, e4⟩
theorem BH_NX (iv : Inv S) (k : Int) (hk : nt S k) : BH S k = if NX S k = -1 then -1 else if S 12 (NX S k) 0 = 2 then BH S (NX S k) else NX S k := by
  have b := BH_sp iv k hk
  have n := NX_sp iv k hk
  by_cases c : NX S k = -1
  · rw [if_pos c]
    refine isN_u iv b (.inl ⟨rfl, fun i hi _ e => ?_⟩)
    rcases n with ⟨-, f⟩ | ⟨e1, -⟩
    · exact f i hi trivial e
    · have := e1.1; omega
  · rw [if_neg c]
    obtain ⟨n1, -, n3, n4⟩ := isN_nt n c
    have nm : ∀ i, nt S i → S 11 i 0 = S 11 k 0 → KY S k < KY S i → KY S (NX S k) ≤ KY S i := by
      rcases n with ⟨e, -⟩ | ⟨-, -, -, -, f⟩
      · exact absurd e c
      · exact fun i hi e l => f i hi trivial e l
    by_cases d : S 12 (NX S k) 0 = 2
    · rw [if_pos d]
      have nn : ∀ i, nt S i → S 12 i 0 ≠ 2 → S 11 i 0 = S 11 k 0 → KY S k < KY S i → KY S (NX S k) < KY S i := fun i hi gi e l => by
        have := nm i hi e l
        have : KY S (NX S k) ≠ KY S i := fun z => by
          have := ky_inj iv n1 hi (n3.trans e.symm) z
          rw [← this] at gi
          exact gi d
        omega
      rcases BH_sp iv (NX S k) n1 with ⟨e, f⟩ | ⟨e1, e2, e3, e4, e5⟩
      · rw [e]
        refine isN_u iv b (.inl ⟨rfl, fun i hi gi e2 => ?_⟩)
        have := f i hi gi (e2.trans n3.symm)
        apply Classical.byContradiction
        intro z
        have := nn i hi gi e2 (by omega)
        omega
      · exact isN_u iv b (.inr ⟨e1, e2, e3.trans n3, by omega, fun i hi gi e l => e5 i hi gi (e.trans n3.symm) (nn i hi gi e l)⟩)
    · rw [if_neg d]
      exact isN_u iv b (.inr ⟨n1, d, n3, n4, fun i hi gi e l => nm i hi e l⟩)
theorem ms_lt (iv : Inv S) {k j : Int} (hk : nt S k) (gk : G k) (h : isN S G k j) (n : j ≠ -1) : ms S G j + 1 ≤ ms S G k := by
  obtain ⟨n1, n2, n3, n4⟩ := isN_nt h n
  have b := iv.2.2.1.1
  have k2 := hk.2
  unfold ms
  refine cn_lt _ 0 k (fun i z => ⟨z.1.trans n3, z.2.1, by omega⟩) hk.1 (by omega) ⟨rfl, gk, Int.le_refl _⟩ (fun z => by omega)
theorem ms_b (iv : Inv S) (k : Int) : 0 ≤ ms S G k ∧ ms S G k ≤ S 7 0 0 := by
  have b := iv.2.2.1.1
  have := cn_le (fun j => S 11 j 0 = S 11 k 0 ∧ G j ∧ KY S k ≤ KY S j) (S 7 0 0).toNat 0
  unfold ms
  omega
theorem ms_1 (iv : Inv S) {k : Int} (hk : nt S k) (gk : G k) : 1 ≤ ms S G k := by
  have b := iv.2.2.1.1
  have k2 := hk.2
  have := cn_lt (p := fun _ => False) (q := fun j => S 11 j 0 = S 11 k 0 ∧ G j ∧ KY S k ≤ KY S j) (S 7 0 0).toNat 0 k (fun _ z => z.elim) hk.1 (by omega) ⟨rfl, gk, Int.le_refl _⟩ id
  have := cn_le (fun _ => False) (S 7 0 0).toNat 0
  unfold ms
  omega
theorem sq_s (S : St) (h : Int) (n : Nat) : sq S h (n + 1) = if sq S h n = -1 then -1 else BH S (sq S h n) := rfl
theorem sq_m (S : St) (h : Int) (n m : Nat) (e : sq S h n = -1) : sq S h (n + m) = -1 := by
  induction m with
  | zero => exact e
  | succ m ih => rw [← Nat.add_assoc, sq_s, if_pos ih]
theorem sq_nt (iv : Inv S) {h : Int} (hh : nt S h) (hg : S 12 h 0 ≠ 2) (n : Nat) : sq S h n ≠ -1 → nt S (sq S h n) ∧ S 12 (sq S h n) 0 ≠ 2 ∧ S 11 (sq S h n) 0 = S 11 h 0 := by
  induction n with
  | zero => exact fun _ => ⟨hh, hg, rfl⟩
  | succ n ih =>
    intro e
    rw [sq_s] at e ⊢
    by_cases c : sq S h n = -1
    · rw [if_pos c] at e; exact absurd rfl e
    · rw [if_neg c] at e ⊢
      obtain ⟨i1, i2, i3⟩ := ih c
      obtain ⟨n1, n2, n3, n4⟩ := isN_nt (BH_sp iv _ i1) e
      exact ⟨n1, n2, n3.trans i3⟩
end
