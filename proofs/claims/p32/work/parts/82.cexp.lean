/-! export OF THE CLASS -/
section
variable {a : Na} {S : St} {h : Zh} {Q : Zp}
theorem RepC.wCh (hi : Ij a) (hr : RepC a S h) (k : Int) (x : Option Nat) : RepC a S (pR h (a 4 0) k x) :=
  .mk (hr.A.c (smR hi (by omega)) (smR hi (by omega)) rfl rfl (fun _ => rfl)) (hr.Tx.c (smR hi (by omega)) (smR hi (by omega)) (smR hi (by omega)) (smR hi (by omega)) (fun _ => smR hi (by omega)) rfl (fun _ => rfl) (fun _ _ => rfl) (fun _ => rfl) rfl) hr.B
    (fun k hk => (hr.N k hk).c ((smR hi (by omega)).2.2.2.1 _) (smR hi (by omega)) rfl rfl rfl (fun _ => rfl) (fun _ => rfl) (fun _ => rfl) rfl)
    (fun k hk => (hr.H k hk).c (smR hi (by omega)) (smR hi (by omega)) (smR hi (by omega)) rfl rfl rfl rfl rfl rfl rfl rfl (fun _ => rfl))
    (hr.E.c (smR hi (by omega)) (smR hi (by omega)) (fun _ => smR hi (by omega)) rfl (fun _ _ => rfl))
/-- another export: all else stays -/
theorem RepC.wE {q : Int} {E : Int → Int → Int} {q2 : Int} {E2 : Int → Int → Int} {g : Zh} (hr : RepC a (SX S q E) h) (m : ∀ f i, f ≠ 5 → f ≠ 10 → sm h g (a f i)) (e : CE a (SX S q2 E2) g) : RepC a (SX S q2 E2) g :=
  .mk (hr.A.c (m _ _ (by omega) (by omega)) (m _ _ (by omega) (by omega)) rfl rfl (fun _ => rfl)) (hr.Tx.c (m _ _ (by omega) (by omega)) (m _ _ (by omega) (by omega)) (m _ _ (by omega) (by omega)) (m _ _ (by omega) (by omega)) (fun _ => m _ _ (by omega) (by omega)) rfl (fun _ => rfl) (fun _ _ => rfl) (fun _ => rfl) rfl) (hr.B.c (m _ _ (by omega) (by omega)).1 (m _ _ (by omega) (by omega)).2.1 (m _ _ (by omega) (by omega)).1 (m _ _ (by omega) (by omega)).2.1)
    (fun k hk => (hr.N k hk).c ((m _ _ (by omega) (by omega)).2.2.2.1 _) (m _ _ (by omega) (by omega)) rfl rfl rfl (fun _ => rfl) (fun _ => rfl) (fun _ => rfl) rfl)
    (fun k hk => (hr.H k hk).c (m _ _ (by omega) (by omega)) (m _ _ (by omega) (by omega)) (m _ _ (by omega) (by omega)) rfl rfl rfl rfl rfl rfl rfl rfl (fun _ => rfl)) e
theorem RepC.wRowE (hi : Ij a) {q : Int} {E : Int → Int → Int} (hr : RepC a (SX S q E) h) (w v : Int) : RepC a (SX S q E) (pI h (a 10 w) q v) := by
  refine hr.wE (fun f i n5 n10 => smI hi (.inl n10)) ?_
  obtain ⟨e0, e1, e2, e3, e4, e5, e6, e7, e8⟩ := hr.E
  refine ⟨e0, (gI_pI ..).trans ((if_neg (fun z => by rw [hi] at z; omega)).trans e1), e2, e3, e4, e5, e6, e7, fun w2 p h1 h2 h3 h4 => (gI_pI ..).trans ((if_neg (fun z => ?_)).trans (e8 w2 p h1 h2 h3 h4))⟩
  rw [SX_21] at h4
  omega
theorem RepC.wCnt (hi : Ij a) {x : Int} {s : Int × (Int → Int → Int)} (hr : RepC a (SX S s.1 s.2) h) (hv : ∀ w, 0 ≤ w → w < 4 → gI h (a 10 w) s.1 = row S x w) : RepC a (SX S (ap1 S x s).1 (ap1 S x s).2) (pI h (a 5 0) 1 (s.1 + 1)) := by
  refine hr.wE (fun f i n5 n10 => smI hi (.inl n5)) ?_
  obtain ⟨e0, e1, e2, e3, e4, e5, e6, e7, e8⟩ := hr.E
  refine ⟨e0, (gI_pI ..).trans ((if_pos ⟨rfl, rfl⟩).trans (SX_21 ..).symm), e2, e3, e4, e5, e6, e7, fun w p h1 h2 h3 h4 => (gI_pI ..).trans ((if_neg (fun z => by rw [hi] at z; omega)).trans ?_)⟩
  rw [SX_21] at h4
  have h4 : p < s.1 + 1 := h4
  rw [SX_22]
  show _ = if p = s.1 then row S x w else s.2 p w
  by_cases c : p = s.1
  · rw [if_pos c, c]; exact hv w h1 h2
  · rw [if_neg c]
    have := e8 w p h1 h2 h3 (by rw [SX_21]; omega)
    rw [SX_22] at this
    exact this
theorem c_insL (hi : Ij a) (iv : Inv S) (x : Int) (hx : nt S x) (hx1 : S 11 x 0 = x) (c : Int → Int) (n : Nat) (hn : n < 60) (hc : okC S n c x) (hQ : ∀ g, RepC a S g → Fr (fun f => 100 ≤ f) a h a g → gC g = gC h → gS g = gS h → (∀ i : Int, 0 ≤ i → i ≤ n → gR g (a 4 0) i = some (a 20 (iC S x c n i))) → Q (.inl none) g) (m : Nat) :
    ∀ g, m ≤ n → iP S x c m = iP S x c n → RepC a S g → Fr (fun f => 100 ≤ f) a h a g → gC g = gC h → gS g = gS h → (∀ i : Int, 0 ≤ i → i < m → gR g (a 4 0) i = some (a 20 (c i))) → (∀ i : Int, (m : Int) < i → i ≤ n → gR g (a 4 0) i = some (a 20 (c (i - 1)))) →
      WP 83 2 [some (zr (some (a 0 0))), some (zr (some (a 20 x))), some (zi n), some (zi m)] [] g Q := by
  have fin : ∀ (m : Nat) g, m ≤ n → iP S x c n = m → RepC a S g → Fr (fun f => 100 ≤ f) a h a g → gC g = gC h → gS g = gS h → (∀ i : Int, 0 ≤ i → i < m → gR g (a 4 0) i = some (a 20 (c i))) → (∀ i : Int, (m : Int) < i → i ≤ n → gR g (a 4 0) i = some (a 20 (c (i - 1)))) → WP 83 53 [some (zr (some (a 0 0))), some (zr (some (a 20 x))), some (zi n), some (zi m)] [] g Q := by
    intro m g e1 e2 hr fr gc gs lo hi2
    have k20 := hr.c34 x hx
    simp (disch := first | assumption | omega) only [b_83_53, b_83_60, kont_v, kont_n, kont_x, Nat.reduceAdd, ad_some, kd_some, ixa, and_true, true_and, and_self, eq_self, ne_eq, brT, brF, true_or, or_true, and_imp, hr.c0, hr.c1, hr.c2, hr.c3, hr.c4, hr.c5, hr.c6, hr.c7, hr.c8, hr.c9, hr.c10, hr.c11, hr.c12, hr.c13, hr.c14, hr.c15, hr.c16, hr.c17, hr.c18, hr.c19, hr.c20, hr.c21, hr.c22, hr.c23, hr.c24, hr.c25, hr.c26, hr.c27, hr.c28, hr.c29, hr.c30, hr.c31, hr.c32, hr.c33, hr.c34, hr.c35, hr.c36, hr.c37, hr.c38, hr.c39, hr.c40, hr.c41, hr.c42, hr.c43, hr.c44, hr.c45, hr.c46, hr.c47, hr.c48, hr.c49, hr.c50, hr.c51, hr.c52, hr.c53, hr.c54, hr.c55, hr.c56, hr.c57, hr.c58, hr.c59, hr.c60, hr.c61, hr.c62, hr.c63, hr.c64, hr.c65, hr.c66, hr.c67, hr.c68, hr.c69, hr.c70, aT, inR, k20]
    refine hQ _ (hr.wCh hi _ _) (fr.trans (Fr_pR hi (by omega))) gc gs (fun i i1 i2 => ?_)
    rw [gR_pR]
    unfold iC
    rw [e2]
    by_cases d : i = m
    · rw [if_pos ⟨rfl, d⟩, if_neg (by omega), if_pos d]
    · rw [if_neg (fun z => d z.2)]
      by_cases d2 : i < m
      · rw [if_pos d2]; exact lo i i1 d2
      · rw [if_neg d2, if_neg d]; exact hi2 i (by omega) i2
  induction m with
  | zero =>
    intro g e1 e2 hr fr gc gs lo hi2
    rw [b_83_2, brt (by omega)]
    exact fin 0 g e1 e2.symm hr fr gc gs lo hi2
  | succ m ih =>
    intro g e1 e2 hr fr gc gs lo hi2
    have cm := hc.1 m (by omega) (by omega)
    have k20 := hr.c34 x hx
    have k20m := hr.c34 (c m) cm.1
    have hhx : hd S x := ⟨hx, hx1⟩
    have hhm : hd S (c m) := ⟨cm.1, cm.2.2.1⟩
    have sx := c_str hr iv hx
    have sm' := c_str hr iv cm.1
    rw [hx1] at sx
    rw [cm.2.2.1] at sm'
    have lm := lo m (by omega) (by omega)
    have k21x := hr.c47 x hhx
    have k21m := hr.c47 (c m) hhm
    have r21x := hr.c51 x hhx
    have r21m := hr.c51 (c m) hhm
    have k22x := hr.c56 x hhx
    have k22m := hr.c56 (c m) hhm
    have i0x := hr.c57 x hhx
    have i1x := hr.c58 x hhx
    have i0m := hr.c57 (c m) hhm
    have i1m := hr.c58 (c m) hhm
    have ee : ((m + 1 : Nat) : Int) - 1 = m := by omega
    have ef : ((m + 1 : Nat) : Int) + -1 = m := by omega
    have ei : iP S x c (m + 1) = @ite Nat (AH S x (c m)) (Classical.propDecidable _) (iP S x c m) (m + 1) := rfl
    have ah : (S 13 x 0 < S 13 (c m) 0 ∨ (S 13 x 0 = S 13 (c m) 0 ∧ S 14 x 0 < S 14 (c m) 0)) = AH S x (c m) := rfl
    rw [b_83_2, brf (by omega)]
    simp (disch := first | assumption | omega) only [b_83_6, b_83_30, kont_v, kont_n, kont_x, Nat.reduceAdd, ad_some, kd_some, ixa, and_true, true_and, and_self, eq_self, ne_eq, brT, brF, true_or, or_true, and_imp, hr.c0, hr.c6, hr.c32, hr.c33, hr.c5, aT, inR, ee, k20, k20m, sx, sm', lm, k21x, k21m, r21x, r21m, k22x, k22m, c_ahead, i0x, i1x, i0m, i1m, ah, b2i_0, brN]
    by_cases d : AH S x (c m)
    · rw [ei, if_pos d] at e2
      rw [brt d]
      simp (disch := first | assumption | omega) only [b_83_33, b_83_47, kont_v, kont_n, kont_x, Nat.reduceAdd, ad_some, kd_some, ixa, and_true, true_and, and_self, eq_self, ne_eq, brT, brF, true_or, or_true, and_imp, hr.c0, hr.c6, hr.c32, hr.c33, hr.c5, aT, inR, ee, ef, lm, k20m]
      refine ih _ (by omega) e2 (hr.wCh hi _ _) (fr.trans (Fr_pR hi (by omega))) gc gs (fun i i1 i2 => ?_) (fun i i1 i2 => ?_)
      · rw [gR_pR, if_neg (by omega)]; exact lo i i1 (by omega)
      · rw [gR_pR]
        by_cases q : i = ((m + 1 : Nat) : Int)
        · rw [if_pos ⟨rfl, q⟩, q, ee]
        · rw [if_neg (fun z => q z.2)]; exact hi2 i (by omega) i2
    · rw [ei, if_neg d] at e2
      rw [brf d]
      exact fin (m + 1) g e1 e2.symm hr fr gc gs lo hi2
theorem c_chL (hi : Ij a) (iv : Inv S) (u al : Int) (hu : 0 ≤ u ∧ u < S 0 0 0) (N : Nat) (C : Int → Int) (hQ : ∀ g, RepC a S g → Fr (fun f => 100 ≤ f) a h a g → gC g = gC h → gS g = gS h → (∀ i : Int, 0 ≤ i → i < N → gR g (a 4 0) i = some (a 20 (C i))) → Q (.inl (some (zi N))) g) (m : Nat) :
    ∀ (k : Int) (n : Nat) (c : Int → Int) (o5 : Option Zv) (g : Zh), m = (S 7 0 0 - k).toNat → 0 ≤ k → (n : Int) ≤ k → okC S n c k → chN S u al m k n c = N → chC S u al m k n c = C → RepC a S g → Fr (fun f => 100 ≤ f) a h a g → gC g = gC h → gS g = gS h → (∀ i : Int, 0 ≤ i → i < n → gR g (a 4 0) i = some (a 20 (c i))) →
      WP 82 5 [some (zr (some (a 0 0))), some (zi u), some (zi al), some (zi n), some (zi k), o5] [] g Q := by
  have bn := iv.2.2.1.1
  induction m with
  | zero =>
    intro k n c o5 g e1 e2 e3 hc en ec hr fr gc gs lo
    have en : n = N := en
    have ec : c = C := ec
    rw [b_82_5]
    simp (disch := first | assumption | omega) only [kont_v, kont_n, kont_x, Nat.reduceAdd, ad_some, kd_some, ixa, and_true, true_and, and_self, eq_self, ne_eq, brT, brF, true_or, or_true, and_imp, hr.c0, hr.c1, hr.c2, hr.c3, hr.c4, hr.c5, hr.c6, hr.c7, hr.c8, hr.c9, hr.c10, hr.c11, hr.c12, hr.c13, hr.c14, hr.c15, hr.c16, hr.c17, hr.c18, hr.c19, hr.c20, hr.c21, hr.c22, hr.c23, hr.c24, hr.c25, hr.c26, hr.c27, hr.c28, hr.c29, hr.c30, hr.c31, hr.c32, hr.c33, hr.c34, hr.c35, hr.c36, hr.c37, hr.c38, hr.c39, hr.c40, hr.c41, hr.c42, hr.c43, hr.c44, hr.c45, hr.c46, hr.c47, hr.c48, hr.c49, hr.c50, hr.c51, hr.c52, hr.c53, hr.c54, hr.c55, hr.c56, hr.c57, hr.c58, hr.c59, hr.c60, hr.c61, hr.c62, hr.c63, hr.c64, hr.c65, hr.c66, hr.c67, hr.c68, hr.c69, hr.c70, brt, b_82_72]
    rw [en]
    exact hQ g hr fr gc gs (by rw [← en, ← ec]; exact lo)
  | succ m ih =>
    intro k n c o5 g e1 e2 e3 hc en ec hr fr gc gs lo
    have hk : nt S k := ⟨e2, by omega⟩
    have k2 := hk.2
    have en : @ite Nat (XC S u al k) (Classical.propDecidable _) (chN S u al m (k + 1) (n + 1) (iC S k c n)) (chN S u al m (k + 1) n c) = N := en
    have ec : @ite (Int → Int) (XC S u al k) (Classical.propDecidable _) (chC S u al m (k + 1) (n + 1) (iC S k c n)) (chC S u al m (k + 1) n c) = C := ec
    rw [b_82_5]
    by_cases d1 : S 11 k 0 = k ∧ S 12 k 0 ≠ 2
    · have st := c_str hr iv hk
      rw [d1.1] at st
      have hh : hd S k := ⟨hk, d1.1⟩
      by_cases d2 : SE S u (S 1 u 0) k
      · have d2' : SE S u (S 1 u 0) (S 11 k 0) := by rw [d1.1]; exact d2
        have go : WP 82 56 [some (zr (some (a 0 0))), some (zi u), some (zi al), some (zi n), some (zi k), some (zr (some (a 20 k)))] [] g Q ∨ ¬ (al ≠ 0 ∨ S 18 k 0 = 0) := by
          by_cases d3 : al ≠ 0 ∨ S 18 k 0 = 0
          · left
            have d : XC S u al k := ⟨d1, d2, d3⟩
            rw [if_pos d] at en ec
            simp (disch := first | assumption | omega) only [b_82_56, kont_v, kont_n, kont_x, Nat.reduceAdd, ad_some, kd_some, ixa, and_true, true_and, and_self, eq_self, ne_eq, brT, brF, true_or, or_true, and_imp, hr.c0, hr.c1, hr.c2, hr.c3, hr.c4, hr.c5, hr.c6, hr.c7, hr.c8, hr.c9, hr.c10, hr.c11, hr.c12, hr.c13, hr.c14, hr.c15, hr.c16, hr.c17, hr.c18, hr.c19, hr.c20, hr.c21, hr.c22, hr.c23, hr.c24, hr.c25, hr.c26, hr.c27, hr.c28, hr.c29, hr.c30, hr.c31, hr.c32, hr.c33, hr.c34, hr.c35, hr.c36, hr.c37, hr.c38, hr.c39, hr.c40, hr.c41, hr.c42, hr.c43, hr.c44, hr.c45, hr.c46, hr.c47, hr.c48, hr.c49, hr.c50, hr.c51, hr.c52, hr.c53, hr.c54, hr.c55, hr.c56, hr.c57, hr.c58, hr.c59, hr.c60, hr.c61, hr.c62, hr.c63, hr.c64, hr.c65, hr.c66, hr.c67, hr.c68, hr.c69, hr.c70, b_83_0]
            refine c_insL (h := g) hi iv k hk d1.1 c n (by omega) hc (fun g2 hr2 fr2 gc2 gs2 row2 => ?_) n g (Nat.le_refl _) rfl hr Fr_rfl rfl rfl lo (fun i i1 i2 => by omega)
            simp (disch := first | assumption | omega) only [b_82_63, b_82_66, kont_v, kont_n, kont_x, Nat.reduceAdd, ad_some, kd_some, ixa, and_true, true_and, and_self, eq_self, ne_eq, brT, brF, true_or, or_true, and_imp, aT, inR]
            exact ih (k + 1) (n + 1) _ _ g2 (by omega) (by omega) (by omega) (okC_in hk d1 hc) en ec hr2 (fr.trans fr2) (gc2.trans gc) (gs2.trans gs) (fun i i1 i2 => row2 i i1 (by omega))
          · exact .inr d3
        by_cases d3 : al ≠ 0 ∨ S 18 k 0 = 0
        · have go := go.resolve_right (fun z => z d3)
          by_cases d4 : al = 0
          · have d5 : S 18 k 0 = 0 := d3.resolve_left (fun z => z d4)
            simp (disch := first | assumption | omega) only [b_82_14, b_82_28, b_82_31, b_82_38, b_82_41, b_82_45, kont_v, kont_n, kont_x, Nat.reduceAdd, ad_some, kd_some, ixa, and_true, true_and, and_self, eq_self, ne_eq, brT, brF, true_or, or_true, and_imp, hr.c0, hr.c1, hr.c2, hr.c3, hr.c4, hr.c5, hr.c6, hr.c7, hr.c8, hr.c9, hr.c10, hr.c11, hr.c12, hr.c13, hr.c14, hr.c15, hr.c16, hr.c17, hr.c18, hr.c19, hr.c20, hr.c21, hr.c22, hr.c23, hr.c24, hr.c25, hr.c26, hr.c27, hr.c28, hr.c29, hr.c30, hr.c31, hr.c32, hr.c33, hr.c34, hr.c35, hr.c36, hr.c37, hr.c38, hr.c39, hr.c40, hr.c41, hr.c42, hr.c43, hr.c44, hr.c45, hr.c46, hr.c47, hr.c48, hr.c49, hr.c50, hr.c51, hr.c52, hr.c53, hr.c54, hr.c55, hr.c56, hr.c57, hr.c58, hr.c59, hr.c60, hr.c61, hr.c62, hr.c63, hr.c64, hr.c65, hr.c66, hr.c67, hr.c68, hr.c69, hr.c70, aT, inR, brf, brt, c_hngR hr iv k hk, c_isSeen hr iv u k hk hu, b2i_0, brN, st, d4]
            rw [d4] at go
            exact go
          · simp (disch := first | assumption | omega) only [b_82_14, b_82_28, b_82_31, b_82_38, b_82_41, kont_v, kont_n, kont_x, Nat.reduceAdd, ad_some, kd_some, ixa, and_true, true_and, and_self, eq_self, ne_eq, brT, brF, true_or, or_true, and_imp, hr.c0, hr.c1, hr.c2, hr.c3, hr.c4, hr.c5, hr.c6, hr.c7, hr.c8, hr.c9, hr.c10, hr.c11, hr.c12, hr.c13, hr.c14, hr.c15, hr.c16, hr.c17, hr.c18, hr.c19, hr.c20, hr.c21, hr.c22, hr.c23, hr.c24, hr.c25, hr.c26, hr.c27, hr.c28, hr.c29, hr.c30, hr.c31, hr.c32, hr.c33, hr.c34, hr.c35, hr.c36, hr.c37, hr.c38, hr.c39, hr.c40, hr.c41, hr.c42, hr.c43, hr.c44, hr.c45, hr.c46, hr.c47, hr.c48, hr.c49, hr.c50, hr.c51, hr.c52, hr.c53, hr.c54, hr.c55, hr.c56, hr.c57, hr.c58, hr.c59, hr.c60, hr.c61, hr.c62, hr.c63, hr.c64, hr.c65, hr.c66, hr.c67, hr.c68, hr.c69, hr.c70, aT, inR, brf, brt, c_hngR hr iv k hk, c_isSeen hr iv u k hk hu, b2i_0, brN]
            exact go
        · have d : ¬ XC S u al k := fun z => d3 z.2.2
          rw [if_neg d] at en ec
          have d4 : al = 0 := Classical.byContradiction fun z => d3 (.inl z)
          have d5 : ¬ S 18 k 0 = 0 := fun z => d3 (.inr z)
          simp (disch := first | assumption | omega) only [b_82_14, b_82_28, b_82_31, b_82_38, b_82_41, b_82_45, b_82_66, kont_v, kont_n, kont_x, Nat.reduceAdd, ad_some, kd_some, ixa, and_true, true_and, and_self, eq_self, ne_eq, brT, brF, true_or, or_true, and_imp, hr.c0, hr.c1, hr.c2, hr.c3, hr.c4, hr.c5, hr.c6, hr.c7, hr.c8, hr.c9, hr.c10, hr.c11, hr.c12, hr.c13, hr.c14, hr.c15, hr.c16, hr.c17, hr.c18, hr.c19, hr.c20, hr.c21, hr.c22, hr.c23, hr.c24, hr.c25, hr.c26, hr.c27, hr.c28, hr.c29, hr.c30, hr.c31, hr.c32, hr.c33, hr.c34, hr.c35, hr.c36, hr.c37, hr.c38, hr.c39, hr.c40, hr.c41, hr.c42, hr.c43, hr.c44, hr.c45, hr.c46, hr.c47, hr.c48, hr.c49, hr.c50, hr.c51, hr.c52, hr.c53, hr.c54, hr.c55, hr.c56, hr.c57, hr.c58, hr.c59, hr.c60, hr.c61, hr.c62, hr.c63, hr.c64, hr.c65, hr.c66, hr.c67, hr.c68, hr.c69, hr.c70, aT, inR, brf, brt, c_hngR hr iv k hk, c_isSeen hr iv u k hk hu, b2i_0, brN, st, d4]
          have := ih (k + 1) n c (some (zr (some (a 20 k)))) g (by omega) (by omega) (by omega) (okC_up hc) en ec hr fr gc gs lo
          rw [d4] at this
          exact this
      · have d : ¬ XC S u al k := fun z => d2 z.2.1
        rw [if_neg d] at en ec
        have d2' : ¬ SE S u (S 1 u 0) (S 11 k 0) := by rw [d1.1]; exact d2
        simp (disch := first | assumption | omega) only [b_82_14, b_82_28, b_82_31, b_82_38, b_82_66, kont_v, kont_n, kont_x, Nat.reduceAdd, ad_some, kd_some, ixa, and_true, true_and, and_self, eq_self, ne_eq, brT, brF, true_or, or_true, and_imp, hr.c0, hr.c1, hr.c2, hr.c3, hr.c4, hr.c5, hr.c6, hr.c7, hr.c8, hr.c9, hr.c10, hr.c11, hr.c12, hr.c13, hr.c14, hr.c15, hr.c16, hr.c17, hr.c18, hr.c19, hr.c20, hr.c21, hr.c22, hr.c23, hr.c24, hr.c25, hr.c26, hr.c27, hr.c28, hr.c29, hr.c30, hr.c31, hr.c32, hr.c33, hr.c34, hr.c35, hr.c36, hr.c37, hr.c38, hr.c39, hr.c40, hr.c41, hr.c42, hr.c43, hr.c44, hr.c45, hr.c46, hr.c47, hr.c48, hr.c49, hr.c50, hr.c51, hr.c52, hr.c53, hr.c54, hr.c55, hr.c56, hr.c57, hr.c58, hr.c59, hr.c60, hr.c61, hr.c62, hr.c63, hr.c64, hr.c65, hr.c66, hr.c67, hr.c68, hr.c69, hr.c70, aT, inR, brf, brt, c_hngR hr iv k hk, c_isSeen hr iv u k hk hu, b2i_0, brN]
        exact ih (k + 1) n c _ g (by omega) (by omega) (by omega) (okC_up hc) en ec hr fr gc gs lo
    · have d : ¬ XC S u al k := fun z => d1 z.1
      rw [if_neg d] at en ec
      simp (disch := first | assumption | omega) only [b_82_14, b_82_28, b_82_66, kont_v, kont_n, kont_x, Nat.reduceAdd, ad_some, kd_some, ixa, and_true, true_and, and_self, eq_self, ne_eq, brT, brF, true_or, or_true, and_imp, hr.c0, hr.c1, hr.c2, hr.c3, hr.c4, hr.c5, hr.c6, hr.c7, hr.c8, hr.c9, hr.c10, hr.c11, hr.c12, hr.c13, hr.c14, hr.c15, hr.c16, hr.c17, hr.c18, hr.c19, hr.c20, hr.c21, hr.c22, hr.c23, hr.c24, hr.c25, hr.c26, hr.c27, hr.c28, hr.c29, hr.c30, hr.c31, hr.c32, hr.c33, hr.c34, hr.c35, hr.c36, hr.c37, hr.c38, hr.c39, hr.c40, hr.c41, hr.c42, hr.c43, hr.c44, hr.c45, hr.c46, hr.c47, hr.c48, hr.c49, hr.c50, hr.c51, hr.c52, hr.c53, hr.c54, hr.c55, hr.c56, hr.c57, hr.c58, hr.c59, hr.c60, hr.c61, hr.c62, hr.c63, hr.c64, hr.c65, hr.c66, hr.c67, hr.c68, hr.c69, hr.c70, aT, inR, brf, c_hngR hr iv k hk, b2i_0, brN]
      exact ih (k + 1) n c _ g (by omega) (by omega) (by omega) (okC_up hc) en ec hr fr gc gs lo
end
