/-! export OF THE REFERENCE -/
section
variable {a : Na} {S : St} {h : Zh} {Q : Zp}
theorem m_ahead (hm : RepM a S h) (iv : Inv S) (x y : Int) (hx : nt S x) (hy : nt S y) (l : y < x) : WP 138 0 [some (zr (some (a 100 0))), some (zi x), some (zi y)] [] h Q = Q (.inl (some (zi (b2i (AH S x y))))) h := by
  have bn := iv.2.2.1.1
  have x1 := hx.1
  have x2 := hx.2
  have y1 := hy.1
  have y2 := hy.2
  by_cases c : S 13 x 0 = S 13 y 0
  · by_cases d : S 14 x 0 = S 14 y 0
    · simp (disch := first | assumption | omega) only [b_138_0, b_138_15, b_138_30, b_138_34, b_138_35, b_138_36, b_138_51, b_138_56, b_138_60, b_138_64, b_138_79, b_138_83, b_138_84, kont_v, kont_n, kont_x, Nat.reduceAdd, ad_some, kd_some, ixa, and_true, true_and, and_self, eq_self, ne_eq, brT, brF, true_or, or_true, and_imp, hm.c0, hm.c1, hm.c2, hm.c3, hm.c4, hm.c5, hm.c6, hm.c7, hm.c8, hm.c9, hm.c10, hm.c11, hm.c12, hm.c13, hm.c14, hm.c15, hm.c16, hm.c17, hm.c18, hm.c19, hm.c20, hm.c21, hm.c22, hm.c23, hm.c24, hm.c25, hm.c26, hm.c27, hm.c28, hm.c29, hm.c30, hm.c31, hm.c32, hm.c33, hm.c34, hm.c35, hm.c36, hm.c37, hm.c38, hm.c39, hm.c40, hm.c41, hm.c42, hm.c43, hm.c44, hm.c45, hm.c46, hm.c47, hm.c48, hm.c49, hm.c50, hm.c51, hm.c52, hm.c53, hm.c54, hm.c55, hm.c56, hm.c57, hm.c58, hm.c59, hm.c60, hm.c61, hm.c62, hm.c63, hm.c64, hm.c65, hm.c66, hm.c67, hm.c68, hm.c69, hm.c70, hm.c71, hm.c72, hm.c73, hm.c74, hm.c75, hm.c76, hm.c77, aT, inR, brt, brf, oz01, zz01]
      exact Qi (b2i_f (fun z => by unfold AH at z; omega)).symm
    · simp (disch := first | assumption | omega) only [b_138_0, b_138_15, b_138_30, b_138_34, b_138_35, b_138_36, b_138_51, b_138_56, b_138_60, b_138_64, b_138_79, b_138_83, b_138_84, kont_v, kont_n, kont_x, Nat.reduceAdd, ad_some, kd_some, ixa, and_true, true_and, and_self, eq_self, ne_eq, brT, brF, true_or, or_true, and_imp, hm.c0, hm.c1, hm.c2, hm.c3, hm.c4, hm.c5, hm.c6, hm.c7, hm.c8, hm.c9, hm.c10, hm.c11, hm.c12, hm.c13, hm.c14, hm.c15, hm.c16, hm.c17, hm.c18, hm.c19, hm.c20, hm.c21, hm.c22, hm.c23, hm.c24, hm.c25, hm.c26, hm.c27, hm.c28, hm.c29, hm.c30, hm.c31, hm.c32, hm.c33, hm.c34, hm.c35, hm.c36, hm.c37, hm.c38, hm.c39, hm.c40, hm.c41, hm.c42, hm.c43, hm.c44, hm.c45, hm.c46, hm.c47, hm.c48, hm.c49, hm.c50, hm.c51, hm.c52, hm.c53, hm.c54, hm.c55, hm.c56, hm.c57, hm.c58, hm.c59, hm.c60, hm.c61, hm.c62, hm.c63, hm.c64, hm.c65, hm.c66, hm.c67, hm.c68, hm.c69, hm.c70, hm.c71, hm.c72, hm.c73, hm.c74, hm.c75, hm.c76, hm.c77, aT, inR, brt, brf, brb10, brb01, brbpq, brb1p, brb0p, brbp1, brbp0, brb11, brb00, b2i_0, b2i_1, b2i_01, brN, one_ne0, zz01, oz01, nem, Classical.not_not]
      refine Qi (b2i_c ?_)
      unfold AH
      omega
  · simp (disch := first | assumption | omega) only [b_138_0, b_138_15, b_138_30, b_138_34, b_138_35, b_138_36, b_138_51, b_138_56, b_138_60, b_138_64, b_138_79, b_138_83, b_138_84, kont_v, kont_n, kont_x, Nat.reduceAdd, ad_some, kd_some, ixa, and_true, true_and, and_self, eq_self, ne_eq, brT, brF, true_or, or_true, and_imp, hm.c0, hm.c1, hm.c2, hm.c3, hm.c4, hm.c5, hm.c6, hm.c7, hm.c8, hm.c9, hm.c10, hm.c11, hm.c12, hm.c13, hm.c14, hm.c15, hm.c16, hm.c17, hm.c18, hm.c19, hm.c20, hm.c21, hm.c22, hm.c23, hm.c24, hm.c25, hm.c26, hm.c27, hm.c28, hm.c29, hm.c30, hm.c31, hm.c32, hm.c33, hm.c34, hm.c35, hm.c36, hm.c37, hm.c38, hm.c39, hm.c40, hm.c41, hm.c42, hm.c43, hm.c44, hm.c45, hm.c46, hm.c47, hm.c48, hm.c49, hm.c50, hm.c51, hm.c52, hm.c53, hm.c54, hm.c55, hm.c56, hm.c57, hm.c58, hm.c59, hm.c60, hm.c61, hm.c62, hm.c63, hm.c64, hm.c65, hm.c66, hm.c67, hm.c68, hm.c69, hm.c70, hm.c71, hm.c72, hm.c73, hm.c74, hm.c75, hm.c76, hm.c77, aT, inR, brf, brb10, brb01, brbpq, brb1p, brb0p, brbp1, brbp0, brb11, brb00, b2i_0, b2i_1, b2i_01, brN, one_ne0, zz01, oz01, nem, Classical.not_not]
    refine Qi (b2i_c ?_)
    unfold AH
    omega
theorem nl16 (S : St) {f : Nat} (h : 160 ≤ f) : ¬ LvM S f 0 := fun z => by
  unfold LvM at z
  omega
/-- the insertion of a head -/
theorem m_insL (hi : Ij a) (iv : Inv S) (u al x : Int) (hx : nt S x) (c : Int → Int) (n : Nat) (hn : n < 60) (hc : okC S n c x)
    (hQ : ∀ g (y : Int), RepM a S g → FM a h a g → gC g = gC h → gS g = gS h → gK g (a 160 0) = 10 → gL g (a 160 0) = 60 → (∀ i : Int, 0 ≤ i → i ≤ n → gI g (a 160 0) i = iC S x c n i) → WP 139 124 [some (zr (some (a 100 0))), some (zi u), some (zi al), some (zr (some (a 160 0))), some (zi ((n : Int) + 1)), some (zi x), some (zi y), none, none, none] [] g Q) (m : Nat) :
    ∀ g, m ≤ n → iP S x c m = iP S x c n → RepM a S g → FM a h a g → gC g = gC h → gS g = gS h → gK g (a 160 0) = 10 → gL g (a 160 0) = 60 → (∀ i : Int, 0 ≤ i → i < m → gI g (a 160 0) i = c i) → (∀ i : Int, (m : Int) < i → i ≤ n → gI g (a 160 0) i = c (i - 1)) →
      WP 139 82 [some (zr (some (a 100 0))), some (zi u), some (zi al), some (zr (some (a 160 0))), some (zi ((n : Int) + 1)), some (zi x), some (zi m), none, none, none] [] g Q := by
  have b2 := iv.2.1.1
  have fin : ∀ (m : Nat) g, m ≤ n → iP S x c n = m → RepM a S g → FM a h a g → gC g = gC h → gS g = gS h → gK g (a 160 0) = 10 → gL g (a 160 0) = 60 → (∀ i : Int, 0 ≤ i → i < m → gI g (a 160 0) i = c i) → (∀ i : Int, (m : Int) < i → i ≤ n → gI g (a 160 0) i = c (i - 1)) → WP 139 118 [some (zr (some (a 100 0))), some (zi u), some (zi al), some (zr (some (a 160 0))), some (zi ((n : Int) + 1)), some (zi x), some (zi m), none, none, none] [] g Q := by
    intro m g e1 e2 hm fr gc gs kq lq lo hi2
    rw [b_139_118]
    simp (disch := first | assumption | omega) only [kont_v, kont_n, kont_x, Nat.reduceAdd, ad_some, kd_some, ixa, and_true, true_and, and_self, eq_self, ne_eq, brT, brF, true_or, or_true, and_imp, aT, inR, kq, lq]
    refine hQ _ _ (hm.wI hi b2 (nl16 S (by omega))) (fr.trans (FM.I hi (by omega) (by omega) (by omega))) gc gs kq lq (fun i i1 i2 => ?_)
    rw [gI_pI]
    unfold iC
    rw [e2]
    by_cases d : i = m
    · rw [if_pos ⟨rfl, d⟩, if_neg (by omega), if_pos d]
    · rw [if_neg (fun z => d z.2)]
      by_cases d2 : i < m
      · rw [if_pos d2]; exact lo i i1 d2
      · rw [if_neg d2, if_neg d]; exact hi2 i (by omega) i2
  induction m with
  | zero =>
    intro g e1 e2 hm fr gc gs kq lq lo hi2
    rw [b_139_82, brt (by omega)]
    exact fin 0 g e1 e2.symm hm fr gc gs kq lq lo hi2
  | succ m ih =>
    intro g e1 e2 hm fr gc gs kq lq lo hi2
    have cm := hc.1 m (by omega) (by omega)
    have lm := lo m (by omega) (by omega)
    have ee : ((m + 1 : Nat) : Int) - 1 = m := by omega
    have ef : ((m + 1 : Nat) : Int) + -1 = m := by omega
    have ei : iP S x c (m + 1) = @ite Nat (AH S x (c m)) (Classical.propDecidable _) (iP S x c m) (m + 1) := rfl
    rw [b_139_82, brf (by omega)]
    simp (disch := first | assumption | omega) only [b_139_87, b_139_99, kont_v, kont_n, kont_x, Nat.reduceAdd, ad_some, kd_some, ixa, and_true, true_and, and_self, eq_self, ne_eq, brT, brF, true_or, or_true, and_imp, hm.c0, hm.c1, hm.c2, hm.c3, hm.c4, hm.c5, hm.c6, hm.c7, hm.c8, hm.c9, hm.c10, hm.c11, hm.c12, hm.c13, hm.c14, hm.c15, hm.c16, hm.c17, hm.c18, hm.c19, hm.c20, hm.c21, hm.c22, hm.c23, hm.c24, hm.c25, hm.c26, hm.c27, hm.c28, hm.c29, hm.c30, hm.c31, hm.c32, hm.c33, hm.c34, hm.c35, hm.c36, hm.c37, hm.c38, hm.c39, hm.c40, hm.c41, hm.c42, hm.c43, hm.c44, hm.c45, hm.c46, hm.c47, hm.c48, hm.c49, hm.c50, hm.c51, hm.c52, hm.c53, hm.c54, hm.c55, hm.c56, hm.c57, hm.c58, hm.c59, hm.c60, hm.c61, hm.c62, hm.c63, hm.c64, hm.c65, hm.c66, hm.c67, hm.c68, hm.c69, hm.c70, hm.c71, hm.c72, hm.c73, hm.c74, hm.c75, hm.c76, hm.c77, aT, inR, ee, kq, lq, lm, m_ahead hm iv x (c m) hx cm.1 cm.2.1, b2i_0, brN]
    by_cases d : AH S x (c m)
    · rw [ei, if_pos d] at e2
      rw [brt d]
      simp (disch := first | assumption | omega) only [b_139_102, b_139_112, kont_v, kont_n, kont_x, Nat.reduceAdd, ad_some, kd_some, ixa, and_true, true_and, and_self, eq_self, ne_eq, brT, brF, true_or, or_true, and_imp, aT, inR, ee, ef, kq, lq, lm]
      refine ih _ (by omega) e2 (hm.wI hi b2 (nl16 S (by omega))) (fr.trans (FM.I hi (by omega) (by omega) (by omega))) gc gs kq lq (fun i i1 i2 => ?_) (fun i i1 i2 => ?_)
      · rw [gI_pI, if_neg (by omega)]; exact lo i i1 (by omega)
      · rw [gI_pI]
        by_cases q : i = ((m + 1 : Nat) : Int)
        · rw [if_pos ⟨rfl, q⟩, q, ee]
        · rw [if_neg (fun z => q z.2)]; exact hi2 i (by omega) i2
    · rw [ei, if_neg d] at e2
      rw [brf d]
      exact fin (m + 1) g e1 e2.symm hm fr gc gs kq lq lo hi2
theorem m_chL (hi : Ij a) (iv : Inv S) (u al : Int) (hu : 0 ≤ u ∧ u < S 0 0 0) (N : Nat) (C : Int → Int) (hQ : ∀ g (y : Int) (o6 : Option Zv), RepM a S g → FM a h a g → gC g = gC h → gS g = gS h → gK g (a 160 0) = 10 → gL g (a 160 0) = 60 → (∀ i : Int, 0 ≤ i → i < N → gI g (a 160 0) i = C i) → WP 139 130 [some (zr (some (a 100 0))), some (zi u), some (zi al), some (zr (some (a 160 0))), some (zi N), some (zi y), o6, none, none, none] [] g Q) (m : Nat) :
    ∀ (k : Int) (n : Nat) (c : Int → Int) (o6 : Option Zv) (g : Zh), m = (S 7 0 0 - k).toNat → 0 ≤ k → (n : Int) ≤ k → okC S n c k → chN S u al m k n c = N → chC S u al m k n c = C → RepM a S g → FM a h a g → gC g = gC h → gS g = gS h → gK g (a 160 0) = 10 → gL g (a 160 0) = 60 → (∀ i : Int, 0 ≤ i → i < n → gI g (a 160 0) i = c i) →
      WP 139 30 [some (zr (some (a 100 0))), some (zi u), some (zi al), some (zr (some (a 160 0))), some (zi n), some (zi k), o6, none, none, none] [] g Q := by
  have bn := iv.2.2.1.1
  induction m with
  | zero =>
    intro k n c o6 g e1 e2 e3 hc en ec hm fr gc gs kq lq lo
    have en : n = N := en
    have ec : c = C := ec
    rw [b_139_30]
    simp (disch := first | assumption | omega) only [kont_v, kont_n, kont_x, Nat.reduceAdd, ad_some, kd_some, ixa, and_true, true_and, and_self, eq_self, ne_eq, brT, brF, true_or, or_true, and_imp, hm.c0, hm.c1, hm.c2, hm.c3, hm.c4, hm.c5, hm.c6, hm.c7, hm.c8, hm.c9, hm.c10, hm.c11, hm.c12, hm.c13, hm.c14, hm.c15, hm.c16, hm.c17, hm.c18, hm.c19, hm.c20, hm.c21, hm.c22, hm.c23, hm.c24, hm.c25, hm.c26, hm.c27, hm.c28, hm.c29, hm.c30, hm.c31, hm.c32, hm.c33, hm.c34, hm.c35, hm.c36, hm.c37, hm.c38, hm.c39, hm.c40, hm.c41, hm.c42, hm.c43, hm.c44, hm.c45, hm.c46, hm.c47, hm.c48, hm.c49, hm.c50, hm.c51, hm.c52, hm.c53, hm.c54, hm.c55, hm.c56, hm.c57, hm.c58, hm.c59, hm.c60, hm.c61, hm.c62, hm.c63, hm.c64, hm.c65, hm.c66, hm.c67, hm.c68, hm.c69, hm.c70, hm.c71, hm.c72, hm.c73, hm.c74, hm.c75, hm.c76, hm.c77, brt]
    rw [en]
    exact hQ g k o6 hm fr gc gs kq lq (by rw [← en, ← ec]; exact lo)
  | succ m ih =>
    intro k n c o6 g e1 e2 e3 hc en ec hm fr gc gs kq lq lo
    have hk : nt S k := ⟨e2, by omega⟩
    have k2 := hk.2
    have en : @ite Nat (XC S u al k) (Classical.propDecidable _) (chN S u al m (k + 1) (n + 1) (iC S k c n)) (chN S u al m (k + 1) n c) = N := en
    have ec : @ite (Int → Int) (XC S u al k) (Classical.propDecidable _) (chC S u al m (k + 1) (n + 1) (iC S k c n)) (chC S u al m (k + 1) n c) = C := ec
    have skip : ∀ o : Option Zv, ¬ XC S u al k → WP 139 124 [some (zr (some (a 100 0))), some (zi u), some (zi al), some (zr (some (a 160 0))), some (zi n), some (zi k), o, none, none, none] [] g Q := fun o d => by
      rw [if_neg d] at en ec
      rw [b_139_124]
      simp (disch := first | assumption | omega) only [aT, inR]
      exact ih (k + 1) n c o g (by omega) (by omega) (by omega) (okC_up hc) en ec hm fr gc gs kq lq lo
    rw [b_139_30]
    by_cases d1 : S 11 k 0 = k ∧ S 12 k 0 ≠ 2
    · by_cases d2 : SE S u (S 1 u 0) k
      · have d2' : SE S u (S 1 u 0) (S 11 k 0) := by rw [d1.1]; exact d2
        by_cases d3 : al ≠ 0 ∨ S 18 k 0 = 0
        · have d : XC S u al k := ⟨d1, d2, d3⟩
          rw [if_pos d] at en ec
          have go : WP 139 75 [some (zr (some (a 100 0))), some (zi u), some (zi al), some (zr (some (a 160 0))), some (zi n), some (zi k), o6, none, none, none] [] g Q := by
            rw [b_139_75]
            simp (disch := first | assumption | omega) only [aT, inR]
            refine m_insL (h := g) hi iv u al k hk c n (by omega) hc (fun g2 y hm2 fm2 gc2 gs2 kq2 lq2 row2 => ?_) n g (Nat.le_refl _) rfl hm (FM.rfl' hi) rfl rfl kq lq lo (fun i i1 i2 => by omega)
            rw [b_139_124]
            simp (disch := first | assumption | omega) only [aT, inR]
            exact ih (k + 1) (n + 1) _ _ g2 (by omega) (by omega) (by omega) (okC_in hk d1 hc) en ec hm2 (fr.trans fm2) (gc2.trans gc) (gs2.trans gs) kq2 lq2 (fun i i1 i2 => row2 i i1 (by omega))
          by_cases d4 : al = 0
          · have d5 : S 18 k 0 = 0 := d3.resolve_left (fun z => z d4)
            rw [d4] at go
            simp (disch := first | assumption | omega) only [b_139_39, b_139_45, b_139_48, b_139_55, b_139_58, b_139_62, kont_v, kont_n, kont_x, Nat.reduceAdd, ad_some, kd_some, ixa, and_true, true_and, and_self, eq_self, ne_eq, brT, brF, true_or, or_true, and_imp, hm.c0, hm.c1, hm.c2, hm.c3, hm.c4, hm.c5, hm.c6, hm.c7, hm.c8, hm.c9, hm.c10, hm.c11, hm.c12, hm.c13, hm.c14, hm.c15, hm.c16, hm.c17, hm.c18, hm.c19, hm.c20, hm.c21, hm.c22, hm.c23, hm.c24, hm.c25, hm.c26, hm.c27, hm.c28, hm.c29, hm.c30, hm.c31, hm.c32, hm.c33, hm.c34, hm.c35, hm.c36, hm.c37, hm.c38, hm.c39, hm.c40, hm.c41, hm.c42, hm.c43, hm.c44, hm.c45, hm.c46, hm.c47, hm.c48, hm.c49, hm.c50, hm.c51, hm.c52, hm.c53, hm.c54, hm.c55, hm.c56, hm.c57, hm.c58, hm.c59, hm.c60, hm.c61, hm.c62, hm.c63, hm.c64, hm.c65, hm.c66, hm.c67, hm.c68, hm.c69, hm.c70, hm.c71, hm.c72, hm.c73, hm.c74, hm.c75, hm.c76, hm.c77, aT, inR, brf, brt, m_isHead hm iv k hk, m_seesNow hm iv u k hk hu, b2i_0, brN, d4]
            exact go
          · simp (disch := first | assumption | omega) only [b_139_39, b_139_45, b_139_48, b_139_55, b_139_58, kont_v, kont_n, kont_x, Nat.reduceAdd, ad_some, kd_some, ixa, and_true, true_and, and_self, eq_self, ne_eq, brT, brF, true_or, or_true, and_imp, hm.c0, hm.c1, hm.c2, hm.c3, hm.c4, hm.c5, hm.c6, hm.c7, hm.c8, hm.c9, hm.c10, hm.c11, hm.c12, hm.c13, hm.c14, hm.c15, hm.c16, hm.c17, hm.c18, hm.c19, hm.c20, hm.c21, hm.c22, hm.c23, hm.c24, hm.c25, hm.c26, hm.c27, hm.c28, hm.c29, hm.c30, hm.c31, hm.c32, hm.c33, hm.c34, hm.c35, hm.c36, hm.c37, hm.c38, hm.c39, hm.c40, hm.c41, hm.c42, hm.c43, hm.c44, hm.c45, hm.c46, hm.c47, hm.c48, hm.c49, hm.c50, hm.c51, hm.c52, hm.c53, hm.c54, hm.c55, hm.c56, hm.c57, hm.c58, hm.c59, hm.c60, hm.c61, hm.c62, hm.c63, hm.c64, hm.c65, hm.c66, hm.c67, hm.c68, hm.c69, hm.c70, hm.c71, hm.c72, hm.c73, hm.c74, hm.c75, hm.c76, hm.c77, aT, inR, brf, brt, m_isHead hm iv k hk, m_seesNow hm iv u k hk hu, b2i_0, brN]
            exact go
        · have d : ¬ XC S u al k := fun z => d3 z.2.2
          have d4 : al = 0 := Classical.byContradiction fun z => d3 (.inl z)
          have d5 : ¬ S 18 k 0 = 0 := fun z => d3 (.inr z)
          have sk := skip o6 d
          rw [d4] at sk
          simp (disch := first | assumption | omega) only [b_139_39, b_139_45, b_139_48, b_139_55, b_139_58, b_139_62, b_139_72, kont_v, kont_n, kont_x, Nat.reduceAdd, ad_some, kd_some, ixa, and_true, true_and, and_self, eq_self, ne_eq, brT, brF, true_or, or_true, and_imp, hm.c0, hm.c1, hm.c2, hm.c3, hm.c4, hm.c5, hm.c6, hm.c7, hm.c8, hm.c9, hm.c10, hm.c11, hm.c12, hm.c13, hm.c14, hm.c15, hm.c16, hm.c17, hm.c18, hm.c19, hm.c20, hm.c21, hm.c22, hm.c23, hm.c24, hm.c25, hm.c26, hm.c27, hm.c28, hm.c29, hm.c30, hm.c31, hm.c32, hm.c33, hm.c34, hm.c35, hm.c36, hm.c37, hm.c38, hm.c39, hm.c40, hm.c41, hm.c42, hm.c43, hm.c44, hm.c45, hm.c46, hm.c47, hm.c48, hm.c49, hm.c50, hm.c51, hm.c52, hm.c53, hm.c54, hm.c55, hm.c56, hm.c57, hm.c58, hm.c59, hm.c60, hm.c61, hm.c62, hm.c63, hm.c64, hm.c65, hm.c66, hm.c67, hm.c68, hm.c69, hm.c70, hm.c71, hm.c72, hm.c73, hm.c74, hm.c75, hm.c76, hm.c77, aT, inR, brf, brt, m_isHead hm iv k hk, m_seesNow hm iv u k hk hu, b2i_0, brN, d4]
          exact sk
      · have d : ¬ XC S u al k := fun z => d2 z.2.1
        have d2' : ¬ SE S u (S 1 u 0) (S 11 k 0) := by rw [d1.1]; exact d2
        have sk := skip o6 d
        simp (disch := first | assumption | omega) only [b_139_39, b_139_45, b_139_48, b_139_55, kont_v, kont_n, kont_x, Nat.reduceAdd, ad_some, kd_some, ixa, and_true, true_and, and_self, eq_self, ne_eq, brT, brF, true_or, or_true, and_imp, hm.c0, hm.c1, hm.c2, hm.c3, hm.c4, hm.c5, hm.c6, hm.c7, hm.c8, hm.c9, hm.c10, hm.c11, hm.c12, hm.c13, hm.c14, hm.c15, hm.c16, hm.c17, hm.c18, hm.c19, hm.c20, hm.c21, hm.c22, hm.c23, hm.c24, hm.c25, hm.c26, hm.c27, hm.c28, hm.c29, hm.c30, hm.c31, hm.c32, hm.c33, hm.c34, hm.c35, hm.c36, hm.c37, hm.c38, hm.c39, hm.c40, hm.c41, hm.c42, hm.c43, hm.c44, hm.c45, hm.c46, hm.c47, hm.c48, hm.c49, hm.c50, hm.c51, hm.c52, hm.c53, hm.c54, hm.c55, hm.c56, hm.c57, hm.c58, hm.c59, hm.c60, hm.c61, hm.c62, hm.c63, hm.c64, hm.c65, hm.c66, hm.c67, hm.c68, hm.c69, hm.c70, hm.c71, hm.c72, hm.c73, hm.c74, hm.c75, hm.c76, hm.c77, aT, inR, brf, brt, m_isHead hm iv k hk, m_seesNow hm iv u k hk hu, b2i_0, brN]
        exact sk
    · have d : ¬ XC S u al k := fun z => d1 z.1
      have sk := skip o6 d
      simp (disch := first | assumption | omega) only [b_139_39, b_139_45, kont_v, kont_n, kont_x, Nat.reduceAdd, ad_some, kd_some, ixa, and_true, true_and, and_self, eq_self, ne_eq, brT, brF, true_or, or_true, and_imp, hm.c0, hm.c1, hm.c2, hm.c3, hm.c4, hm.c5, hm.c6, hm.c7, hm.c8, hm.c9, hm.c10, hm.c11, hm.c12, hm.c13, hm.c14, hm.c15, hm.c16, hm.c17, hm.c18, hm.c19, hm.c20, hm.c21, hm.c22, hm.c23, hm.c24, hm.c25, hm.c26, hm.c27, hm.c28, hm.c29, hm.c30, hm.c31, hm.c32, hm.c33, hm.c34, hm.c35, hm.c36, hm.c37, hm.c38, hm.c39, hm.c40, hm.c41, hm.c42, hm.c43, hm.c44, hm.c45, hm.c46, hm.c47, hm.c48, hm.c49, hm.c50, hm.c51, hm.c52, hm.c53, hm.c54, hm.c55, hm.c56, hm.c57, hm.c58, hm.c59, hm.c60, hm.c61, hm.c62, hm.c63, hm.c64, hm.c65, hm.c66, hm.c67, hm.c68, hm.c69, hm.c70, hm.c71, hm.c72, hm.c73, hm.c74, hm.c75, hm.c76, hm.c77, aT, inR, brf, m_isHead hm iv k hk, b2i_0, brN]
      exact sk
end
