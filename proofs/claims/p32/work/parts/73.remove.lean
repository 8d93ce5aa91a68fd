/-! remove -/
def rmG (S : St) (t : Int) : Prop := t ≠ -1 ∧ S 12 t 0 = 1 ∧ RP S t = 0
noncomputable def rmS (S : St) (m : Nat) (t : Int) : St := match m with
  | 0 => S
  | m + 1 => @ite St (rmG S t) (Classical.propDecidable _) (rmS (su S 12 t 0 2) m (S 10 t 0)) S
noncomputable def rmN (S : St) (m : Nat) (t : Int) : Int := match m with
  | 0 => 0
  | m + 1 => @ite Int (rmG S t) (Classical.propDecidable _) (1 + rmN (su S 12 t 0 2) m (S 10 t 0)) 0
noncomputable def Srem (S : St) (k : Int) : St := rmS (su S 12 k 0 1) 61 k
noncomputable def Nrem (S : St) (k : Int) : Int := rmN (su S 12 k 0 1) 61 k
theorem cn_rm {p : Int → Prop} {t : Int} (ht : p t) (m : Nat) : ∀ i, i ≤ t → t < i + m → cn (fun j => p j ∧ j ≠ t) m i + 1 = cn p m i := by
  induction m with
  | zero => intro i h1 h2; omega
  | succ m ih =>
    intro i h1 h2
    show b2i (p i ∧ i ≠ t) + cn _ m (i + 1) + 1 = b2i (p i) + cn p m (i + 1)
    by_cases c : i = t
    · subst c
      rw [b2i_f (fun z => z.2 rfl), b2i_t ht, cn_c (p := fun j => p j ∧ j ≠ i) (q := p) (fun j h3 h4 => ⟨fun z => z.1, fun z => ⟨z, by omega⟩⟩)]
      omega
    · have := ih (i + 1) (by omega) (by omega)
      rw [b2i_c (p := p i ∧ i ≠ t) (q := p i) ⟨fun z => z.1, fun z => ⟨z, c⟩⟩]
      omega
section
variable {a : Na} {S : St} {h : Zh} {Q : Zp}
theorem RP_gone (iv : Inv S) {t : Int} (ht : nt S t) (hg : S 12 t 0 ≠ 2) (k : Int) : RP (su S 12 t 0 2) k = if S 10 t 0 = k then RP S k - 1 else RP S k := by
  have e : RP (su S 12 t 0 2) k = cn (fun j => (S 10 j 0 = k ∧ S 12 j 0 ≠ 2) ∧ j ≠ t) (S 7 0 0).toNat 0 := by
    refine cn_c (fun j h1 h2 => ?_)
    show S 10 j 0 = k ∧ su S 12 t 0 2 12 j 0 ≠ 2 ↔ _
    rw [su_i]
    by_cases c : j = t
    · rw [if_pos ⟨c, rfl⟩]; exact ⟨fun z => absurd rfl z.2, fun z => absurd c z.2⟩
    · rw [if_neg (fun z => c z.1)]; exact ⟨fun z => ⟨z, c⟩, fun z => z.1⟩
  rw [e]
  have t1 := ht.1
  have t2 := ht.2
  by_cases c : S 10 t 0 = k
  · rw [if_pos c]
    have := cn_rm (p := fun j => S 10 j 0 = k ∧ S 12 j 0 ≠ 2) (t := t) ⟨c, hg⟩ (S 7 0 0).toNat 0 t1 (by omega)
    unfold RP
    omega
  · rw [if_neg c]
    refine cn_c (fun j h1 h2 => ⟨fun z => z.1, fun z => ⟨z, fun q => c (q ▸ z.1)⟩⟩)
theorem RP_emp (S : St) {t : Int} (hg : S 12 t 0 ≠ 2) (k : Int) : RP (su S 12 t 0 1) k = RP S k := by
  refine cn_c (fun j h1 h2 => ?_)
  show S 10 j 0 = k ∧ su S 12 t 0 1 12 j 0 ≠ 2 ↔ _
  rw [su_i]
  by_cases c : j = t
  · rw [if_pos ⟨c, rfl⟩, c]; exact ⟨fun z => ⟨z.1, hg⟩, fun z => ⟨z.1, by omega⟩⟩
  · rw [if_neg (fun z => c z.1)]
/-- a note's state alone: what hangs on it -/
theorem RepC.wN (hr : RepC a S h) {g : Zh} {t x : Int} (m : ∀ f i, f ≠ 20 → sm h g (a f i)) (m2 : ∀ k, nt S k → gR g (a 20 k) = gR h (a 20 k) ∧ gK g (a 20 k) = gK h (a 20 k) ∧ (∀ i, i ≠ 7 → i ≠ 8 → i ≠ 9 → gI g (a 20 k) i = gI h (a 20 k) i)) (m7 : ∀ k, nt S k → gI g (a 20 k) 7 = RP (su S 12 t 0 x) k) (m8 : ∀ k, nt S k → gI g (a 20 k) 8 = b2i (su S 12 t 0 x 12 k 0 ≠ 0)) (m9 : ∀ k, nt S k → gI g (a 20 k) 9 = b2i (su S 12 t 0 x 12 k 0 = 2)) : RepC a (su S 12 t 0 x) g := by
  refine .mk (hr.A.c (m _ _ (by omega)) (m _ _ (by omega)) rfl rfl (fun _ => rfl)) (hr.Tx.c (m _ _ (by omega)) (m _ _ (by omega)) (m _ _ (by omega)) (m _ _ (by omega)) (fun _ => m _ _ (by omega)) rfl (fun _ => rfl) (fun _ _ => rfl) (fun _ => rfl) rfl) (hr.B.c (m _ _ (by omega)).1 (m _ _ (by omega)).2.1 (m _ _ (by omega)).1 (m _ _ (by omega)).2.1) (fun k hk => ?_) (fun k hk => (hr.H k hk).c (m _ _ (by omega)) (m _ _ (by omega)) (m _ _ (by omega)) rfl rfl rfl rfl rfl rfl rfl rfl (fun _ => rfl)) (hr.E.c (m _ _ (by omega)) (m _ _ (by omega)) (fun _ => m _ _ (by omega)) rfl (fun _ _ => rfl))
  have hk : nt S k := hk
  obtain ⟨e1, e2, e3⟩ := m2 k hk
  obtain ⟨n0, n1, n2, n3, n4, n5, n6, n7, n8, n9, n10, n11, n12, n13⟩ := hr.N k hk
  have nx : NX (su S 12 t 0 x) k = NX S k := NX_c rfl (fun _ => rfl) k
  refine ⟨((m 3 0 (by omega)).2.2.2.1 k).trans n0, e2.trans n1, (e3 _ (by omega) (by omega) (by omega)).trans n2, (e3 _ (by omega) (by omega) (by omega)).trans n3, (e3 _ (by omega) (by omega) (by omega)).trans n4, (e3 _ (by omega) (by omega) (by omega)).trans n5, m7 k hk, m8 k hk, m9 k hk, fun z => by rw [e1]; exact n9 z, fun j hj z => by rw [e1]; exact n10 j hj z, fun j hj z => by rw [e1]; exact n11 j hj z, fun z => by rw [e1]; exact n12 (nx ▸ z), fun j hj z => by rw [e1]; exact n13 j hj (nx ▸ z)⟩
theorem RepC.wEmpty (hi : Ij a) (hr : RepC a S h) {t : Int} (hg : S 12 t 0 ≠ 2) : RepC a (su S 12 t 0 1) (pI h (a 20 t) 8 1) := by
  refine hr.wN (fun f i n => smI hi (by omega)) (fun k hk => ⟨rfl, rfl, fun i h7 h8 h9 => by rw [gI_pI, if_neg (fun z => h8 z.2)]⟩) (fun k hk => ?_) (fun k hk => ?_) (fun k hk => ?_)
  · rw [gI_pI, if_neg (fun z => by omega), RP_emp S hg, (hr.N k hk).2.2.2.2.2.2.1]
  · rw [gI_pI, su_i]
    by_cases c : k = t
    · rw [if_pos ⟨by rw [c], rfl⟩, if_pos ⟨c, rfl⟩, b2i_t (by omega)]
    · rw [if_neg (fun z => by rw [hi] at z; omega), if_neg (fun z => c z.1), (hr.N k hk).2.2.2.2.2.2.2.1]
  · rw [gI_pI, if_neg (fun z => by omega), su_i, (hr.N k hk).2.2.2.2.2.2.2.2.1]
    by_cases c : k = t
    · rw [if_pos ⟨c, rfl⟩, c, b2i_f hg, b2i_f (by omega)]
    · rw [if_neg (fun z => c z.1)]
theorem RepC.wGone (hi : Ij a) (hr : RepC a S h) (iv : Inv S) {t : Int} (ht : nt S t) (hg : S 12 t 0 = 1) (hp : S 10 t 0 = -1) : RepC a (su S 12 t 0 2) (pI h (a 20 t) 9 1) := by
  refine hr.wN (fun f i n => smI hi (by omega)) (fun k hk => ⟨rfl, rfl, fun i h7 h8 h9 => by rw [gI_pI, if_neg (fun z => h9 z.2)]⟩) (fun k hk => ?_) (fun k hk => ?_) (fun k hk => ?_)
  · rw [gI_pI, if_neg (fun z => by omega), RP_gone iv ht (by omega), if_neg (by have := hk.1; omega), (hr.N k hk).2.2.2.2.2.2.1]
  · rw [gI_pI, if_neg (fun z => by omega), su_i, (hr.N k hk).2.2.2.2.2.2.2.1]
    by_cases c : k = t
    · rw [if_pos ⟨c, rfl⟩, c, b2i_t (by omega), b2i_t (by omega)]
    · rw [if_neg (fun z => c z.1)]
  · rw [gI_pI, su_i]
    by_cases c : k = t
    · rw [if_pos ⟨by rw [c], rfl⟩, if_pos ⟨c, rfl⟩, b2i_t rfl]
    · rw [if_neg (fun z => by rw [hi] at z; omega), if_neg (fun z => c z.1), (hr.N k hk).2.2.2.2.2.2.2.2.1]
theorem RepC.wGoneP (hi : Ij a) (hr : RepC a S h) (iv : Inv S) {t : Int} (ht : nt S t) (hg : S 12 t 0 = 1) (hp : nt S (S 10 t 0)) : RepC a (su S 12 t 0 2) (pI (pI h (a 20 t) 9 1) (a 20 (S 10 t 0)) 7 (RP S (S 10 t 0) - 1)) := by
  refine hr.wN (fun f i n => (smI hi (by omega)).trans (smI hi (by omega))) (fun k hk => ⟨rfl, rfl, fun i h7 h8 h9 => by rw [gI_pI, if_neg (fun z => h7 z.2), gI_pI, if_neg (fun z => h9 z.2)]⟩) (fun k hk => ?_) (fun k hk => ?_) (fun k hk => ?_)
  · rw [gI_pI, RP_gone iv ht (by omega)]
    by_cases c : S 10 t 0 = k
    · rw [if_pos ⟨by rw [c], rfl⟩, if_pos c, c]
    · rw [if_neg (fun z => by rw [hi] at z; omega), if_neg c, gI_pI, if_neg (fun z => by omega), (hr.N k hk).2.2.2.2.2.2.1]
  · rw [gI_pI, if_neg (fun z => by omega), gI_pI, if_neg (fun z => by omega), su_i, (hr.N k hk).2.2.2.2.2.2.2.1]
    by_cases c : k = t
    · rw [if_pos ⟨c, rfl⟩, c, b2i_t (by omega), b2i_t (by omega)]
    · rw [if_neg (fun z => c z.1)]
  · rw [gI_pI, if_neg (fun z => by omega), gI_pI, su_i]
    by_cases c : k = t
    · rw [if_pos ⟨by rw [c], rfl⟩, if_pos ⟨c, rfl⟩, b2i_t rfl]
    · rw [if_neg (fun z => by rw [hi] at z; omega), if_neg (fun z => c z.1), (hr.N k hk).2.2.2.2.2.2.2.2.1]
theorem RP_0 (S : St) {t : Int} (e : RP S t = 0) : ∀ j, nt S j → S 10 j 0 = t → S 12 j 0 = 2 := by
  intro j hj ej
  apply Classical.byContradiction
  intro n
  have j1 := hj.1
  have j2 := hj.2
  have := cn_lt (p := fun _ => False) (q := fun j => S 10 j 0 = t ∧ S 12 j 0 ≠ 2) (S 7 0 0).toNat 0 j (fun _ z => z.elim) j1 (by omega) ⟨ej, n⟩ id
  have := cn_le (fun _ => False) (S 7 0 0).toNat 0
  unfold RP at e
  omega
theorem RP_b (iv : Inv S) (t : Int) : 0 ≤ RP S t ∧ RP S t ≤ 60 := by
  have b := iv.2.2.1.1
  have := cn_le (fun j => S 10 j 0 = t ∧ S 12 j 0 ≠ 2) (S 7 0 0).toNat 0
  unfold RP
  omega
theorem inv_rmG (iv : Inv S) {t : Int} (ht : nt S t) (c : rmG S t) : Inv (su S 12 t 0 2) := inv_st iv ht (.inr (.inr rfl)) (by have := c.2.1; omega) (fun _ => RP_0 S c.2.2)
theorem rmS_s (S : St) (m : Nat) (t : Int) : rmS S (m + 1) t = @ite St (rmG S t) (Classical.propDecidable _) (rmS (su S 12 t 0 2) m (S 10 t 0)) S := rfl
theorem rmN_s (S : St) (m : Nat) (t : Int) : rmN S (m + 1) t = @ite Int (rmG S t) (Classical.propDecidable _) (1 + rmN (su S 12 t 0 2) m (S 10 t 0)) 0 := rfl
theorem rmS_inv (m : Nat) : ∀ (S : St) (t : Int), Inv S → (t = -1 ∨ nt S t) → Inv (rmS S m t) := by
  induction m with
  | zero => exact fun S t iv _ => iv
  | succ m ih =>
    intro S t iv ht
    rw [rmS_s]
    by_cases c : rmG S t
    · rw [if_pos c]
      have ht : nt S t := ht.resolve_left c.1
      refine ih _ _ (inv_rmG iv ht c) ?_
      rcases iv_par iv ht with ⟨q, -⟩ | ⟨q, -⟩
      · exact .inl q
      · exact .inr q
    · rw [if_neg c]; exact iv
theorem c_par4 (hr : RepC a S h) (iv : Inv S) {t : Int} (ht : nt S t) : gR h (a 20 t) 4 = rf a 20 (S 10 t 0) := by
  unfold rf
  rcases iv_par iv ht with ⟨q, -⟩ | ⟨q1, q2, q3, q4⟩
  · rw [if_pos q]; exact hr.c42 t ht q
  · rw [if_neg q4]; exact hr.c43 t _ ht q1 rfl
theorem c_rmL (hi : Ij a) (h0 : Zh) (k : Int) (R : St) (N : Int) (hQ : ∀ g, RepC a R g → Fr (fun f => 100 ≤ f) a h0 a g → gC g = gC h0 → gS g = gS h0 → Q (.inl (some (zi N))) g) (m : Nat) :
    ∀ (S : St) (t n : Int) (h : Zh), t < m → (t = -1 ∨ (nt S t ∧ S 12 t 0 ≠ 2)) → 0 ≤ n → n + t ≤ 61 → RepC a S h → Inv S → Fr (fun f => 100 ≤ f) a h0 a h → gC h = gC h0 → gS h = gS h0 → rmS S m t = R → n + rmN S m t = N →
      WP 17 9 [some (zr (some (a 20 k))), some (zi n), some (zr (rf a 20 t))] [] h Q := by
  induction m with
  | zero =>
    intro S t n h e1 e2 e3 e4 hr iv fr gc gs es en
    have e : t = -1 := by rcases e2 with e | e; exact e; have := e.1.1; omega
    have en : n + 0 = N := en
    rw [b_17_9, brt (by rw [e]; rfl), b_17_63, show n = N by omega]
    exact hQ h (es ▸ hr) fr gc gs
  | succ m ih =>
    intro S t n h e1 e2 e3 e4 hr iv fr gc gs es en
    rw [rmS_s] at es
    rw [rmN_s] at en
    by_cases e : t = -1
    · have c : ¬ rmG S t := fun z => z.1 e
      rw [if_neg c] at es en
      rw [b_17_9, brt (by rw [e]; rfl), b_17_63, show n = N by omega]
      exact hQ h (es ▸ hr) fr gc gs
    · obtain ⟨ht, hg⟩ := e2.resolve_left e
      have t1 := ht.1
      have er : rf a 20 t = some (a 20 t) := if_neg e
      have hs := (iv.2.2.1.2.1 t ht).2.2.2.1
      have p4 := c_par4 hr iv ht
      have rb := RP_b iv
      rw [b_17_9, brf (by rw [er]; exact fun z => by cases z), er]
      by_cases c1 : S 12 t 0 = 1
      · by_cases c2 : RP S t = 0
        · have c : rmG S t := ⟨e, c1, c2⟩
          rw [if_pos c] at es en
          have i2 := inv_rmG iv ht c
          rcases iv_par iv ht with ⟨q, -⟩ | ⟨q1, q2, q3, q4⟩
          · have pn : gR h (a 20 t) 4 = none := by rw [p4, q]; rfl
            simp (disch := first | assumption | omega) only [b_17_13, b_17_20, b_17_27, b_17_32, b_17_55, kont_v, kont_n, kont_x, Nat.reduceAdd, ad_some, kd_some, ixa, and_true, true_and, and_self, eq_self, ne_eq, brT, brF, true_or, or_true, and_imp, hr.c0, hr.c1, hr.c2, hr.c3, hr.c4, hr.c5, hr.c6, hr.c7, hr.c8, hr.c9, hr.c10, hr.c11, hr.c12, hr.c13, hr.c14, hr.c15, hr.c16, hr.c17, hr.c18, hr.c19, hr.c20, hr.c21, hr.c22, hr.c23, hr.c24, hr.c25, hr.c26, hr.c27, hr.c28, hr.c29, hr.c30, hr.c31, hr.c32, hr.c33, hr.c34, hr.c35, hr.c36, hr.c37, hr.c38, hr.c39, hr.c40, hr.c41, hr.c42, hr.c43, hr.c44, hr.c45, hr.c46, hr.c47, hr.c48, hr.c49, hr.c50, hr.c51, hr.c52, hr.c53, hr.c54, hr.c55, hr.c56, hr.c57, hr.c58, hr.c59, hr.c60, hr.c61, hr.c62, hr.c63, hr.c64, hr.c65, hr.c66, hr.c67, hr.c68, hr.c69, hr.c70, aT, inR, c1, c2, b2iT, b2i_0, brN, brT, brF, brS, not_false_eq_true, Classical.not_not, one_ne0, brf, brt, pn, oz01, gK_pI, gR_pI]
            have pz : (none : Option Nat) = rf a 20 (S 10 t 0) := by rw [q]; rfl
            rw [pz]
            exact ih (su S 12 t 0 2) (S 10 t 0) (n + 1) _ (by omega) (.inl q) (by omega) (by omega) (hr.wGone hi iv ht c1 q) i2 (fr.trans (Fr_pI hi (by omega))) gc gs es (by omega)
          · have pn : gR h (a 20 t) 4 = some (a 20 (S 10 t 0)) := by rw [p4]; exact if_neg q4
            have ag := al_par iv t ht hg q4
            have b1 := rb (S 10 t 0)
            simp (disch := first | assumption | omega) only [b_17_13, b_17_20, b_17_27, b_17_32, b_17_42, b_17_55, kont_v, kont_n, kont_x, Nat.reduceAdd, ad_some, kd_some, ixa, and_true, true_and, and_self, eq_self, ne_eq, brT, brF, true_or, or_true, and_imp, hr.c0, hr.c1, hr.c2, hr.c3, hr.c4, hr.c5, hr.c6, hr.c7, hr.c8, hr.c9, hr.c10, hr.c11, hr.c12, hr.c13, hr.c14, hr.c15, hr.c16, hr.c17, hr.c18, hr.c19, hr.c20, hr.c21, hr.c22, hr.c23, hr.c24, hr.c25, hr.c26, hr.c27, hr.c28, hr.c29, hr.c30, hr.c31, hr.c32, hr.c33, hr.c34, hr.c35, hr.c36, hr.c37, hr.c38, hr.c39, hr.c40, hr.c41, hr.c42, hr.c43, hr.c44, hr.c45, hr.c46, hr.c47, hr.c48, hr.c49, hr.c50, hr.c51, hr.c52, hr.c53, hr.c54, hr.c55, hr.c56, hr.c57, hr.c58, hr.c59, hr.c60, hr.c61, hr.c62, hr.c63, hr.c64, hr.c65, hr.c66, hr.c67, hr.c68, hr.c69, hr.c70, aT, inR, c1, c2, b2iT, b2i_0, brN, brT, brF, brS, not_false_eq_true, Classical.not_not, one_ne0, brf, brt, pn, oz01, gK_pI, gR_pI, gI_pI, reduceCtorEq, Int.reduceEq, and_false, if_false]
            have pz : some (a 20 (S 10 t 0)) = rf a 20 (S 10 t 0) := (if_neg q4).symm
            rw [pz]
            refine ih (su S 12 t 0 2) (S 10 t 0) (n + 1) _ (by omega) (.inr ⟨q1, ?_⟩) (by omega) (by omega) (hr.wGoneP hi iv ht c1 q1) i2 (fr.trans ((Fr_pI hi (by omega)).trans (Fr_pI hi (by omega)))) gc gs es (by omega)
            rw [su_i, if_neg (fun z => by omega)]
            exact ag
        · have c : ¬ rmG S t := fun z => c2 z.2.2
          rw [if_neg c] at es en
          simp (disch := first | assumption | omega) only [b_17_13, b_17_20, b_17_63, kont_v, kont_n, kont_x, Nat.reduceAdd, ad_some, kd_some, ixa, and_true, true_and, and_self, eq_self, ne_eq, brT, brF, true_or, or_true, and_imp, hr.c0, hr.c1, hr.c2, hr.c3, hr.c4, hr.c5, hr.c6, hr.c7, hr.c8, hr.c9, hr.c10, hr.c11, hr.c12, hr.c13, hr.c14, hr.c15, hr.c16, hr.c17, hr.c18, hr.c19, hr.c20, hr.c21, hr.c22, hr.c23, hr.c24, hr.c25, hr.c26, hr.c27, hr.c28, hr.c29, hr.c30, hr.c31, hr.c32, hr.c33, hr.c34, hr.c35, hr.c36, hr.c37, hr.c38, hr.c39, hr.c40, hr.c41, hr.c42, hr.c43, hr.c44, hr.c45, hr.c46, hr.c47, hr.c48, hr.c49, hr.c50, hr.c51, hr.c52, hr.c53, hr.c54, hr.c55, hr.c56, hr.c57, hr.c58, hr.c59, hr.c60, hr.c61, hr.c62, hr.c63, hr.c64, hr.c65, hr.c66, hr.c67, hr.c68, hr.c69, hr.c70, aT, inR, c1, b2iT, b2i_0, brN, brT, brF, brS, not_false_eq_true, Classical.not_not, one_ne0, brf, brt]
          rw [show n = N by omega]
          exact hQ h (es ▸ hr) fr gc gs
      · have c : ¬ rmG S t := fun z => c1 z.2.1
        rw [if_neg c] at es en
        have c0 : ¬ (S 12 t 0 ≠ 0) := by omega
        simp (disch := first | assumption | omega) only [b_17_13, b_17_63, kont_v, kont_n, kont_x, Nat.reduceAdd, ad_some, kd_some, ixa, and_true, true_and, and_self, eq_self, ne_eq, brT, brF, true_or, or_true, and_imp, hr.c0, hr.c1, hr.c2, hr.c3, hr.c4, hr.c5, hr.c6, hr.c7, hr.c8, hr.c9, hr.c10, hr.c11, hr.c12, hr.c13, hr.c14, hr.c15, hr.c16, hr.c17, hr.c18, hr.c19, hr.c20, hr.c21, hr.c22, hr.c23, hr.c24, hr.c25, hr.c26, hr.c27, hr.c28, hr.c29, hr.c30, hr.c31, hr.c32, hr.c33, hr.c34, hr.c35, hr.c36, hr.c37, hr.c38, hr.c39, hr.c40, hr.c41, hr.c42, hr.c43, hr.c44, hr.c45, hr.c46, hr.c47, hr.c48, hr.c49, hr.c50, hr.c51, hr.c52, hr.c53, hr.c54, hr.c55, hr.c56, hr.c57, hr.c58, hr.c59, hr.c60, hr.c61, hr.c62, hr.c63, hr.c64, hr.c65, hr.c66, hr.c67, hr.c68, hr.c69, hr.c70, aT, inR, b2i_f, b2i_0, brN, brT, brF, brS, not_false_eq_true, Classical.not_not, brf, brt]
        rw [show n = N by omega]
        exact hQ h (es ▸ hr) fr gc gs
theorem c_remove (hi : Ij a) (hr : RepC a S h) (iv : Inv S) (u k : Int) (q : br (0 ≤ u ∧ u < S 0 0 0) (br (nt S k ∧ S 12 k 0 ≠ 2) (br (((S 8 k 0 = u ∨ S 1 u 0 = 4) ∧ SE S u (S 1 u 0) (S 11 k 0)) ∧ S 12 k 0 = 0) (CK a (Srem S k) h Q (zi (Nrem S k))) (thr h 2 Q)) (thr h 3 Q)) (thr h 3 Q)) :
    WP 43 0 [some (zr (some (a 0 0))), some (zi u), some (zi k), none] [] h Q := by
  obtain ⟨w0, w1⟩ := iv.1.1
  by_cases c1 : 0 ≤ u ∧ u < S 0 0 0
  · rw [brt c1] at q
    by_cases c2 : nt S k ∧ S 12 k 0 ≠ 2
    · rw [brt c2] at q
      obtain ⟨hk, hg⟩ := c2
      have hkb := nt_b iv hk
      by_cases c3 : S 8 k 0 = u ∨ S 1 u 0 = 4
      · by_cases c4 : SE S u (S 1 u 0) (S 11 k 0)
        · by_cases c5 : S 12 k 0 = 0
          · rw [brt ⟨⟨c3, c4⟩, c5⟩] at q
            have w := hr.wEmpty hi hg
            have i2 := inv_st iv hk (x := 1) (.inr (.inl rfl)) hg (fun z => by omega)
            have goal2 : WP 17 9 [some (zr (some (a 20 k))), some (zi 0), some (zr (some (a 20 k)))] [] (pI h (a 20 k) 8 1) (kont WP 43 62 [some (zr (some (a 0 0))), some (zi u), some (zi k), some (zr (some (a 20 k)))] [] [] Q) := by
              have er : some (a 20 k) = rf a 20 k := (if_neg (by omega)).symm
              have gl := c_rmL (a := a) (Q := kont WP 43 62 [some (zr (some (a 0 0))), some (zi u), some (zi k), some (zr (some (a 20 k)))] [] [] Q) hi h k (Srem S k) (Nrem S k) (fun g hr2 fr gc gs => by
                simp only [b_43_65, kont_v, kont_n, kont_x, Nat.reduceAdd, ad_some, kd_some, ixa, and_true, true_and, and_self, eq_self, ne_eq, brT, brF, true_or, or_true, and_imp]
                exact q a g hr2 ⟨hi, fr, by omega, by omega, rfl⟩) 61 (su S 12 k 0 1) k 0 (pI h (a 20 k) 8 1) (by omega) (.inr ⟨hk, by rw [su_i, if_pos ⟨rfl, rfl⟩]; omega⟩) (Int.le_refl _) (by omega) w i2 (Fr_pI hi (by omega)) rfl rfl rfl (Int.zero_add _)
              rw [← er] at gl
              exact gl
            rcases c3 with c3 | c3
            · simp (disch := first | assumption | omega) only [b_43_0, b_43_5, b_43_10, b_43_19, b_43_29, b_43_33, b_43_34, b_43_37, b_43_43, b_43_46, b_43_53, b_43_57, b_43_58, b_43_61, b_17_0, b_17_5, kont_v, kont_n, kont_x, Nat.reduceAdd, ad_some, kd_some, ixa, and_true, true_and, and_self, eq_self, ne_eq, brT, brF, true_or, or_true, and_imp, hr.c0, hr.c1, hr.c2, hr.c3, hr.c4, hr.c5, hr.c6, hr.c7, hr.c8, hr.c9, hr.c10, hr.c11, hr.c12, hr.c13, hr.c14, hr.c15, hr.c16, hr.c17, hr.c18, hr.c19, hr.c20, hr.c21, hr.c22, hr.c23, hr.c24, hr.c25, hr.c26, hr.c27, hr.c28, hr.c29, hr.c30, hr.c31, hr.c32, hr.c33, hr.c34, hr.c35, hr.c36, hr.c37, hr.c38, hr.c39, hr.c40, hr.c41, hr.c42, hr.c43, hr.c44, hr.c45, hr.c46, hr.c47, hr.c48, hr.c49, hr.c50, hr.c51, hr.c52, hr.c53, hr.c54, hr.c55, hr.c56, hr.c57, hr.c58, hr.c59, hr.c60, hr.c61, hr.c62, hr.c63, hr.c64, hr.c65, hr.c66, hr.c67, hr.c68, hr.c69, hr.c70, aT, inR, c_str hr iv, c_reqUser hr iv, c_reqNote hr iv, c_reqSign hr iv, c_isHeadR hr iv, c_isSeen hr iv, c_tsize hr iv, c_room hr iv, s_isWithin, s_isRight, s_isContent, s_reqAr, s_reqSt, s_reqIx, s_reqAr1, s_reqAr0, s_reqSt1, s_reqSt0, s_reqIx1, s_reqIx0, brt, brf, b2iT, b2iF, b2i_0, brN, brT, brF, brS, Classical.not_not, not_true_eq_false, not_false_eq_true, b2i_t, b2i_f, one_ne0, zz01, oz01, thr, and_false, false_and, or_self, gK_pI, gL_pI, gR_pI, gI_pI, hi, reduceCtorEq, Nat.reduceEqDiff, Int.reduceEq, if_true, if_false, c3, c5]
              exact goal2
            · by_cases c6 : S 8 k 0 = u
              · simp (disch := first | assumption | omega) only [b_43_0, b_43_5, b_43_10, b_43_19, b_43_29, b_43_33, b_43_34, b_43_37, b_43_43, b_43_46, b_43_53, b_43_57, b_43_58, b_43_61, b_17_0, b_17_5, kont_v, kont_n, kont_x, Nat.reduceAdd, ad_some, kd_some, ixa, and_true, true_and, and_self, eq_self, ne_eq, brT, brF, true_or, or_true, and_imp, hr.c0, hr.c1, hr.c2, hr.c3, hr.c4, hr.c5, hr.c6, hr.c7, hr.c8, hr.c9, hr.c10, hr.c11, hr.c12, hr.c13, hr.c14, hr.c15, hr.c16, hr.c17, hr.c18, hr.c19, hr.c20, hr.c21, hr.c22, hr.c23, hr.c24, hr.c25, hr.c26, hr.c27, hr.c28, hr.c29, hr.c30, hr.c31, hr.c32, hr.c33, hr.c34, hr.c35, hr.c36, hr.c37, hr.c38, hr.c39, hr.c40, hr.c41, hr.c42, hr.c43, hr.c44, hr.c45, hr.c46, hr.c47, hr.c48, hr.c49, hr.c50, hr.c51, hr.c52, hr.c53, hr.c54, hr.c55, hr.c56, hr.c57, hr.c58, hr.c59, hr.c60, hr.c61, hr.c62, hr.c63, hr.c64, hr.c65, hr.c66, hr.c67, hr.c68, hr.c69, hr.c70, aT, inR, c_str hr iv, c_reqUser hr iv, c_reqNote hr iv, c_reqSign hr iv, c_isHeadR hr iv, c_isSeen hr iv, c_tsize hr iv, c_room hr iv, s_isWithin, s_isRight, s_isContent, s_reqAr, s_reqSt, s_reqIx, s_reqAr1, s_reqAr0, s_reqSt1, s_reqSt0, s_reqIx1, s_reqIx0, brt, brf, b2iT, b2iF, b2i_0, brN, brT, brF, brS, Classical.not_not, not_true_eq_false, not_false_eq_true, b2i_t, b2i_f, one_ne0, zz01, oz01, thr, and_false, false_and, or_self, gK_pI, gL_pI, gR_pI, gI_pI, hi, reduceCtorEq, Nat.reduceEqDiff, Int.reduceEq, if_true, if_false, c6, c5]
                exact goal2
              · rw [c3] at c4
                simp (disch := first | assumption | omega) only [b_43_0, b_43_5, b_43_10, b_43_19, b_43_29, b_43_33, b_43_34, b_43_37, b_43_43, b_43_46, b_43_53, b_43_57, b_43_58, b_43_61, b_17_0, b_17_5, kont_v, kont_n, kont_x, Nat.reduceAdd, ad_some, kd_some, ixa, and_true, true_and, and_self, eq_self, ne_eq, brT, brF, true_or, or_true, and_imp, hr.c0, hr.c1, hr.c2, hr.c3, hr.c4, hr.c5, hr.c6, hr.c7, hr.c8, hr.c9, hr.c10, hr.c11, hr.c12, hr.c13, hr.c14, hr.c15, hr.c16, hr.c17, hr.c18, hr.c19, hr.c20, hr.c21, hr.c22, hr.c23, hr.c24, hr.c25, hr.c26, hr.c27, hr.c28, hr.c29, hr.c30, hr.c31, hr.c32, hr.c33, hr.c34, hr.c35, hr.c36, hr.c37, hr.c38, hr.c39, hr.c40, hr.c41, hr.c42, hr.c43, hr.c44, hr.c45, hr.c46, hr.c47, hr.c48, hr.c49, hr.c50, hr.c51, hr.c52, hr.c53, hr.c54, hr.c55, hr.c56, hr.c57, hr.c58, hr.c59, hr.c60, hr.c61, hr.c62, hr.c63, hr.c64, hr.c65, hr.c66, hr.c67, hr.c68, hr.c69, hr.c70, aT, inR, c_str hr iv, c_reqUser hr iv, c_reqNote hr iv, c_reqSign hr iv, c_isHeadR hr iv, c_isSeen hr iv, c_tsize hr iv, c_room hr iv, s_isWithin, s_isRight, s_isContent, s_reqAr, s_reqSt, s_reqIx, s_reqAr1, s_reqAr0, s_reqSt1, s_reqSt0, s_reqIx1, s_reqIx0, brt, brf, b2iT, b2iF, b2i_0, brN, brT, brF, brS, Classical.not_not, not_true_eq_false, not_false_eq_true, b2i_t, b2i_f, one_ne0, zz01, oz01, thr, and_false, false_and, or_self, gK_pI, gL_pI, gR_pI, gI_pI, hi, reduceCtorEq, Nat.reduceEqDiff, Int.reduceEq, if_true, if_false, c3, c5]
                exact goal2
          · rw [brf (fun z => c5 z.2)] at q
            rcases c3 with c3 | c3
            · simp (disch := first | assumption | omega) only [b_43_0, b_43_5, b_43_10, b_43_19, b_43_29, b_43_33, b_43_34, b_43_37, b_43_43, b_43_46, b_43_53, b_43_57, b_43_58, b_43_61, b_43_65, kont_v, kont_n, kont_x, Nat.reduceAdd, ad_some, kd_some, ixa, and_true, true_and, and_self, eq_self, ne_eq, brT, brF, true_or, or_true, and_imp, hr.c0, hr.c1, hr.c2, hr.c3, hr.c4, hr.c5, hr.c6, hr.c7, hr.c8, hr.c9, hr.c10, hr.c11, hr.c12, hr.c13, hr.c14, hr.c15, hr.c16, hr.c17, hr.c18, hr.c19, hr.c20, hr.c21, hr.c22, hr.c23, hr.c24, hr.c25, hr.c26, hr.c27, hr.c28, hr.c29, hr.c30, hr.c31, hr.c32, hr.c33, hr.c34, hr.c35, hr.c36, hr.c37, hr.c38, hr.c39, hr.c40, hr.c41, hr.c42, hr.c43, hr.c44, hr.c45, hr.c46, hr.c47, hr.c48, hr.c49, hr.c50, hr.c51, hr.c52, hr.c53, hr.c54, hr.c55, hr.c56, hr.c57, hr.c58, hr.c59, hr.c60, hr.c61, hr.c62, hr.c63, hr.c64, hr.c65, hr.c66, hr.c67, hr.c68, hr.c69, hr.c70, aT, inR, c_str hr iv, c_reqUser hr iv, c_reqNote hr iv, c_reqSign hr iv, c_isHeadR hr iv, c_isSeen hr iv, c_tsize hr iv, c_room hr iv, s_isWithin, s_isRight, s_isContent, s_reqAr, s_reqSt, s_reqIx, s_reqAr1, s_reqAr0, s_reqSt1, s_reqSt0, s_reqIx1, s_reqIx0, brt, brf, b2iT, b2iF, b2i_0, brN, brT, brF, brS, Classical.not_not, not_true_eq_false, not_false_eq_true, b2i_t, b2i_f, one_ne0, zz01, oz01, thr, and_false, false_and, or_self, gK_pI, gL_pI, gR_pI, gI_pI, hi, reduceCtorEq, Nat.reduceEqDiff, Int.reduceEq, if_true, if_false, c3]
              exact q
            · by_cases c6 : S 8 k 0 = u
              · simp (disch := first | assumption | omega) only [b_43_0, b_43_5, b_43_10, b_43_19, b_43_29, b_43_33, b_43_34, b_43_37, b_43_43, b_43_46, b_43_53, b_43_57, b_43_58, b_43_61, b_43_65, kont_v, kont_n, kont_x, Nat.reduceAdd, ad_some, kd_some, ixa, and_true, true_and, and_self, eq_self, ne_eq, brT, brF, true_or, or_true, and_imp, hr.c0, hr.c1, hr.c2, hr.c3, hr.c4, hr.c5, hr.c6, hr.c7, hr.c8, hr.c9, hr.c10, hr.c11, hr.c12, hr.c13, hr.c14, hr.c15, hr.c16, hr.c17, hr.c18, hr.c19, hr.c20, hr.c21, hr.c22, hr.c23, hr.c24, hr.c25, hr.c26, hr.c27, hr.c28, hr.c29, hr.c30, hr.c31, hr.c32, hr.c33, hr.c34, hr.c35, hr.c36, hr.c37, hr.c38, hr.c39, hr.c40, hr.c41, hr.c42, hr.c43, hr.c44, hr.c45, hr.c46, hr.c47, hr.c48, hr.c49, hr.c50, hr.c51, hr.c52, hr.c53, hr.c54, hr.c55, hr.c56, hr.c57, hr.c58, hr.c59, hr.c60, hr.c61, hr.c62, hr.c63, hr.c64, hr.c65, hr.c66, hr.c67, hr.c68, hr.c69, hr.c70, aT, inR, c_str hr iv, c_reqUser hr iv, c_reqNote hr iv, c_reqSign hr iv, c_isHeadR hr iv, c_isSeen hr iv, c_tsize hr iv, c_room hr iv, s_isWithin, s_isRight, s_isContent, s_reqAr, s_reqSt, s_reqIx, s_reqAr1, s_reqAr0, s_reqSt1, s_reqSt0, s_reqIx1, s_reqIx0, brt, brf, b2iT, b2iF, b2i_0, brN, brT, brF, brS, Classical.not_not, not_true_eq_false, not_false_eq_true, b2i_t, b2i_f, one_ne0, zz01, oz01, thr, and_false, false_and, or_self, gK_pI, gL_pI, gR_pI, gI_pI, hi, reduceCtorEq, Nat.reduceEqDiff, Int.reduceEq, if_true, if_false, c6]
                exact q
              · rw [c3] at c4
                simp (disch := first | assumption | omega) only [b_43_0, b_43_5, b_43_10, b_43_19, b_43_29, b_43_33, b_43_34, b_43_37, b_43_43, b_43_46, b_43_53, b_43_57, b_43_58, b_43_61, b_43_65, kont_v, kont_n, kont_x, Nat.reduceAdd, ad_some, kd_some, ixa, and_true, true_and, and_self, eq_self, ne_eq, brT, brF, true_or, or_true, and_imp, hr.c0, hr.c1, hr.c2, hr.c3, hr.c4, hr.c5, hr.c6, hr.c7, hr.c8, hr.c9, hr.c10, hr.c11, hr.c12, hr.c13, hr.c14, hr.c15, hr.c16, hr.c17, hr.c18, hr.c19, hr.c20, hr.c21, hr.c22, hr.c23, hr.c24, hr.c25, hr.c26, hr.c27, hr.c28, hr.c29, hr.c30, hr.c31, hr.c32, hr.c33, hr.c34, hr.c35, hr.c36, hr.c37, hr.c38, hr.c39, hr.c40, hr.c41, hr.c42, hr.c43, hr.c44, hr.c45, hr.c46, hr.c47, hr.c48, hr.c49, hr.c50, hr.c51, hr.c52, hr.c53, hr.c54, hr.c55, hr.c56, hr.c57, hr.c58, hr.c59, hr.c60, hr.c61, hr.c62, hr.c63, hr.c64, hr.c65, hr.c66, hr.c67, hr.c68, hr.c69, hr.c70, aT, inR, c_str hr iv, c_reqUser hr iv, c_reqNote hr iv, c_reqSign hr iv, c_isHeadR hr iv, c_isSeen hr iv, c_tsize hr iv, c_room hr iv, s_isWithin, s_isRight, s_isContent, s_reqAr, s_reqSt, s_reqIx, s_reqAr1, s_reqAr0, s_reqSt1, s_reqSt0, s_reqIx1, s_reqIx0, brt, brf, b2iT, b2iF, b2i_0, brN, brT, brF, brS, Classical.not_not, not_true_eq_false, not_false_eq_true, b2i_t, b2i_f, one_ne0, zz01, oz01, thr, and_false, false_and, or_self, gK_pI, gL_pI, gR_pI, gI_pI, hi, reduceCtorEq, Nat.reduceEqDiff, Int.reduceEq, if_true, if_false, c3]
                exact q
        · rw [brf (fun z => c4 z.1.2)] at q
          rcases c3 with c3 | c3
          · simp (disch := first | assumption | omega) only [b_43_0, b_43_5, b_43_10, b_43_19, b_43_29, b_43_33, b_43_34, b_43_37, b_43_43, b_43_46, b_43_53, b_43_57, b_43_58, b_43_61, b_43_65, kont_v, kont_n, kont_x, Nat.reduceAdd, ad_some, kd_some, ixa, and_true, true_and, and_self, eq_self, ne_eq, brT, brF, true_or, or_true, and_imp, hr.c0, hr.c1, hr.c2, hr.c3, hr.c4, hr.c5, hr.c6, hr.c7, hr.c8, hr.c9, hr.c10, hr.c11, hr.c12, hr.c13, hr.c14, hr.c15, hr.c16, hr.c17, hr.c18, hr.c19, hr.c20, hr.c21, hr.c22, hr.c23, hr.c24, hr.c25, hr.c26, hr.c27, hr.c28, hr.c29, hr.c30, hr.c31, hr.c32, hr.c33, hr.c34, hr.c35, hr.c36, hr.c37, hr.c38, hr.c39, hr.c40, hr.c41, hr.c42, hr.c43, hr.c44, hr.c45, hr.c46, hr.c47, hr.c48, hr.c49, hr.c50, hr.c51, hr.c52, hr.c53, hr.c54, hr.c55, hr.c56, hr.c57, hr.c58, hr.c59, hr.c60, hr.c61, hr.c62, hr.c63, hr.c64, hr.c65, hr.c66, hr.c67, hr.c68, hr.c69, hr.c70, aT, inR, c_str hr iv, c_reqUser hr iv, c_reqNote hr iv, c_reqSign hr iv, c_isHeadR hr iv, c_isSeen hr iv, c_tsize hr iv, c_room hr iv, s_isWithin, s_isRight, s_isContent, s_reqAr, s_reqSt, s_reqIx, s_reqAr1, s_reqAr0, s_reqSt1, s_reqSt0, s_reqIx1, s_reqIx0, brt, brf, b2iT, b2iF, b2i_0, brN, brT, brF, brS, Classical.not_not, not_true_eq_false, not_false_eq_true, b2i_t, b2i_f, one_ne0, zz01, oz01, thr, and_false, false_and, or_self, gK_pI, gL_pI, gR_pI, gI_pI, hi, reduceCtorEq, Nat.reduceEqDiff, Int.reduceEq, if_true, if_false, c3]
            exact q
          · by_cases c6 : S 8 k 0 = u
            · simp (disch := first | assumption | omega) only [b_43_0, b_43_5, b_43_10, b_43_19, b_43_29, b_43_33, b_43_34, b_43_37, b_43_43, b_43_46, b_43_53, b_43_57, b_43_58, b_43_61, b_43_65, kont_v, kont_n, kont_x, Nat.reduceAdd, ad_some, kd_some, ixa, and_true, true_and, and_self, eq_self, ne_eq, brT, brF, true_or, or_true, and_imp, hr.c0, hr.c1, hr.c2, hr.c3, hr.c4, hr.c5, hr.c6, hr.c7, hr.c8, hr.c9, hr.c10, hr.c11, hr.c12, hr.c13, hr.c14, hr.c15, hr.c16, hr.c17, hr.c18, hr.c19, hr.c20, hr.c21, hr.c22, hr.c23, hr.c24, hr.c25, hr.c26, hr.c27, hr.c28, hr.c29, hr.c30, hr.c31, hr.c32, hr.c33, hr.c34, hr.c35, hr.c36, hr.c37, hr.c38, hr.c39, hr.c40, hr.c41, hr.c42, hr.c43, hr.c44, hr.c45, hr.c46, hr.c47, hr.c48, hr.c49, hr.c50, hr.c51, hr.c52, hr.c53, hr.c54, hr.c55, hr.c56, hr.c57, hr.c58, hr.c59, hr.c60, hr.c61, hr.c62, hr.c63, hr.c64, hr.c65, hr.c66, hr.c67, hr.c68, hr.c69, hr.c70, aT, inR, c_str hr iv, c_reqUser hr iv, c_reqNote hr iv, c_reqSign hr iv, c_isHeadR hr iv, c_isSeen hr iv, c_tsize hr iv, c_room hr iv, s_isWithin, s_isRight, s_isContent, s_reqAr, s_reqSt, s_reqIx, s_reqAr1, s_reqAr0, s_reqSt1, s_reqSt0, s_reqIx1, s_reqIx0, brt, brf, b2iT, b2iF, b2i_0, brN, brT, brF, brS, Classical.not_not, not_true_eq_false, not_false_eq_true, b2i_t, b2i_f, one_ne0, zz01, oz01, thr, and_false, false_and, or_self, gK_pI, gL_pI, gR_pI, gI_pI, hi, reduceCtorEq, Nat.reduceEqDiff, Int.reduceEq, if_true, if_false, c6]
              exact q
            · rw [c3] at c4
              simp (disch := first | assumption | omega) only [b_43_0, b_43_5, b_43_10, b_43_19, b_43_29, b_43_33, b_43_34, b_43_37, b_43_43, b_43_46, b_43_53, b_43_57, b_43_58, b_43_61, b_43_65, kont_v, kont_n, kont_x, Nat.reduceAdd, ad_some, kd_some, ixa, and_true, true_and, and_self, eq_self, ne_eq, brT, brF, true_or, or_true, and_imp, hr.c0, hr.c1, hr.c2, hr.c3, hr.c4, hr.c5, hr.c6, hr.c7, hr.c8, hr.c9, hr.c10, hr.c11, hr.c12, hr.c13, hr.c14, hr.c15, hr.c16, hr.c17, hr.c18, hr.c19, hr.c20, hr.c21, hr.c22, hr.c23, hr.c24, hr.c25, hr.c26, hr.c27, hr.c28, hr.c29, hr.c30, hr.c31, hr.c32, hr.c33, hr.c34, hr.c35, hr.c36, hr.c37, hr.c38, hr.c39, hr.c40, hr.c41, hr.c42, hr.c43, hr.c44, hr.c45, hr.c46, hr.c47, hr.c48, hr.c49, hr.c50, hr.c51, hr.c52, hr.c53, hr.c54, hr.c55, hr.c56, hr.c57, hr.c58, hr.c59, hr.c60, hr.c61, hr.c62, hr.c63, hr.c64, hr.c65, hr.c66, hr.c67, hr.c68, hr.c69, hr.c70, aT, inR, c_str hr iv, c_reqUser hr iv, c_reqNote hr iv, c_reqSign hr iv, c_isHeadR hr iv, c_isSeen hr iv, c_tsize hr iv, c_room hr iv, s_isWithin, s_isRight, s_isContent, s_reqAr, s_reqSt, s_reqIx, s_reqAr1, s_reqAr0, s_reqSt1, s_reqSt0, s_reqIx1, s_reqIx0, brt, brf, b2iT, b2iF, b2i_0, brN, brT, brF, brS, Classical.not_not, not_true_eq_false, not_false_eq_true, b2i_t, b2i_f, one_ne0, zz01, oz01, thr, and_false, false_and, or_self, gK_pI, gL_pI, gR_pI, gI_pI, hi, reduceCtorEq, Nat.reduceEqDiff, Int.reduceEq, if_true, if_false, c3]
              exact q
      · rw [brf (fun z => c3 z.1.1)] at q
        have c6 : ¬ S 8 k 0 = u := fun z => c3 (.inl z)
        have c7 : ¬ S 1 u 0 = 4 := fun z => c3 (.inr z)
        simp (disch := first | assumption | omega) only [b_43_0, b_43_5, b_43_10, b_43_19, b_43_29, b_43_33, b_43_34, b_43_37, b_43_43, b_43_46, b_43_53, b_43_57, b_43_58, b_43_61, b_43_65, kont_v, kont_n, kont_x, Nat.reduceAdd, ad_some, kd_some, ixa, and_true, true_and, and_self, eq_self, ne_eq, brT, brF, true_or, or_true, and_imp, hr.c0, hr.c1, hr.c2, hr.c3, hr.c4, hr.c5, hr.c6, hr.c7, hr.c8, hr.c9, hr.c10, hr.c11, hr.c12, hr.c13, hr.c14, hr.c15, hr.c16, hr.c17, hr.c18, hr.c19, hr.c20, hr.c21, hr.c22, hr.c23, hr.c24, hr.c25, hr.c26, hr.c27, hr.c28, hr.c29, hr.c30, hr.c31, hr.c32, hr.c33, hr.c34, hr.c35, hr.c36, hr.c37, hr.c38, hr.c39, hr.c40, hr.c41, hr.c42, hr.c43, hr.c44, hr.c45, hr.c46, hr.c47, hr.c48, hr.c49, hr.c50, hr.c51, hr.c52, hr.c53, hr.c54, hr.c55, hr.c56, hr.c57, hr.c58, hr.c59, hr.c60, hr.c61, hr.c62, hr.c63, hr.c64, hr.c65, hr.c66, hr.c67, hr.c68, hr.c69, hr.c70, aT, inR, c_str hr iv, c_reqUser hr iv, c_reqNote hr iv, c_reqSign hr iv, c_isHeadR hr iv, c_isSeen hr iv, c_tsize hr iv, c_room hr iv, s_isWithin, s_isRight, s_isContent, s_reqAr, s_reqSt, s_reqIx, s_reqAr1, s_reqAr0, s_reqSt1, s_reqSt0, s_reqIx1, s_reqIx0, brt, brf, b2iT, b2iF, b2i_0, brN, brT, brF, brS, Classical.not_not, not_true_eq_false, not_false_eq_true, b2i_t, b2i_f, one_ne0, zz01, oz01, thr, and_false, false_and, or_self, gK_pI, gL_pI, gR_pI, gI_pI, hi, reduceCtorEq, Nat.reduceEqDiff, Int.reduceEq, if_true, if_false]
        exact q
    · rw [brf c2] at q
      simp (disch := first | assumption | omega) only [b_43_0, b_43_5, b_43_10, b_43_19, b_43_29, b_43_33, b_43_34, b_43_37, b_43_43, b_43_46, b_43_53, b_43_57, b_43_58, b_43_61, b_43_65, kont_v, kont_n, kont_x, Nat.reduceAdd, ad_some, kd_some, ixa, and_true, true_and, and_self, eq_self, ne_eq, brT, brF, true_or, or_true, and_imp, hr.c0, hr.c1, hr.c2, hr.c3, hr.c4, hr.c5, hr.c6, hr.c7, hr.c8, hr.c9, hr.c10, hr.c11, hr.c12, hr.c13, hr.c14, hr.c15, hr.c16, hr.c17, hr.c18, hr.c19, hr.c20, hr.c21, hr.c22, hr.c23, hr.c24, hr.c25, hr.c26, hr.c27, hr.c28, hr.c29, hr.c30, hr.c31, hr.c32, hr.c33, hr.c34, hr.c35, hr.c36, hr.c37, hr.c38, hr.c39, hr.c40, hr.c41, hr.c42, hr.c43, hr.c44, hr.c45, hr.c46, hr.c47, hr.c48, hr.c49, hr.c50, hr.c51, hr.c52, hr.c53, hr.c54, hr.c55, hr.c56, hr.c57, hr.c58, hr.c59, hr.c60, hr.c61, hr.c62, hr.c63, hr.c64, hr.c65, hr.c66, hr.c67, hr.c68, hr.c69, hr.c70, aT, inR, c_str hr iv, c_reqUser hr iv, c_reqNote hr iv, c_reqSign hr iv, c_isHeadR hr iv, c_isSeen hr iv, c_tsize hr iv, c_room hr iv, s_isWithin, s_isRight, s_isContent, s_reqAr, s_reqSt, s_reqIx, s_reqAr1, s_reqAr0, s_reqSt1, s_reqSt0, s_reqIx1, s_reqIx0, brt, brf, b2iT, b2iF, b2i_0, brN, brT, brF, brS, Classical.not_not, not_true_eq_false, not_false_eq_true, b2i_t, b2i_f, one_ne0, zz01, oz01, thr, and_false, false_and, or_self, gK_pI, gL_pI, gR_pI, gI_pI, hi, reduceCtorEq, Nat.reduceEqDiff, Int.reduceEq, if_true, if_false]
      exact q
  · rw [brf c1] at q
    simp (disch := first | assumption | omega) only [b_43_0, b_43_5, b_43_10, b_43_19, b_43_29, b_43_33, b_43_34, b_43_37, b_43_43, b_43_46, b_43_53, b_43_57, b_43_58, b_43_61, b_43_65, kont_v, kont_n, kont_x, Nat.reduceAdd, ad_some, kd_some, ixa, and_true, true_and, and_self, eq_self, ne_eq, brT, brF, true_or, or_true, and_imp, hr.c0, hr.c1, hr.c2, hr.c3, hr.c4, hr.c5, hr.c6, hr.c7, hr.c8, hr.c9, hr.c10, hr.c11, hr.c12, hr.c13, hr.c14, hr.c15, hr.c16, hr.c17, hr.c18, hr.c19, hr.c20, hr.c21, hr.c22, hr.c23, hr.c24, hr.c25, hr.c26, hr.c27, hr.c28, hr.c29, hr.c30, hr.c31, hr.c32, hr.c33, hr.c34, hr.c35, hr.c36, hr.c37, hr.c38, hr.c39, hr.c40, hr.c41, hr.c42, hr.c43, hr.c44, hr.c45, hr.c46, hr.c47, hr.c48, hr.c49, hr.c50, hr.c51, hr.c52, hr.c53, hr.c54, hr.c55, hr.c56, hr.c57, hr.c58, hr.c59, hr.c60, hr.c61, hr.c62, hr.c63, hr.c64, hr.c65, hr.c66, hr.c67, hr.c68, hr.c69, hr.c70, aT, inR, c_str hr iv, c_reqUser hr iv, c_reqNote hr iv, c_reqSign hr iv, c_isHeadR hr iv, c_isSeen hr iv, c_tsize hr iv, c_room hr iv, s_isWithin, s_isRight, s_isContent, s_reqAr, s_reqSt, s_reqIx, s_reqAr1, s_reqAr0, s_reqSt1, s_reqSt0, s_reqIx1, s_reqIx0, brt, brf, b2iT, b2iF, b2i_0, brN, brT, brF, brS, Classical.not_not, not_true_eq_false, not_false_eq_true, b2i_t, b2i_f, one_ne0, zz01, oz01, thr, and_false, false_and, or_self, gK_pI, gL_pI, gR_pI, gI_pI, hi, reduceCtorEq, Nat.reduceEqDiff, Int.reduceEq, if_true, if_false]
    exact q
end
