/-! THREADS: the class and the reference tell the same order -/
section
variable {a : Na} {S : St} {h : Zh} {Q : Zp}
theorem RepM.wOrd (hi : Ij a) (hm : RepM a S h) (i x : Int) : RepM a S (pI h (a 122 0) i x) :=
  .mk (hm.A.c (smI hi (by omega)) rfl rfl rfl rfl) (hm.U.c (smI hi (by omega)) (fun _ => rfl)) (hm.S'.c (smI hi (by omega)) rfl (fun _ => rfl))
    (hm.V.c (smI hi (by omega)) (fun _ => smI hi (by omega)) rfl (fun _ => rfl) (fun _ _ => rfl)) (fun q q1 q2 => (hm.R q q1 q2).c (smI hi (by omega)) (fun _ => rfl))
    (hm.Q.c (smI hi (by omega)) (fun _ => smI hi (by omega)) (fun k => Iff.rfl) (fun _ => rfl) (fun _ _ => rfl)) (hm.X.c (smI hi (by omega)) rfl (fun _ _ => rfl)) hm.O
theorem RepM.wOrdered (hi : Ij a) (hm : RepM a S h) (x : Int) : RepM a S (pI h (a 100 0) 21 x) := by
  refine .mk ?_ (hm.U.c (smI hi (by omega)) (fun _ => rfl)) (hm.S'.c (smI hi (by omega)) rfl (fun _ => rfl))
    (hm.V.c (smI hi (by omega)) (fun _ => smI hi (by omega)) rfl (fun _ => rfl) (fun _ _ => rfl)) (fun q q1 q2 => (hm.R q q1 q2).c (smI hi (by omega)) (fun _ => rfl))
    (hm.Q.c (smI hi (by omega)) (fun _ => smI hi (by omega)) (fun k => Iff.rfl) (fun _ => rfl) (fun _ _ => rfl)) (hm.X.c (smI hi (by omega)) rfl (fun _ _ => rfl)) (hm.O.c (smI hi (by omega)))
  have z := hm.A
  simp only [MA, gI_pI, gR_pI, gK_pI, gL_pI, gI_pR, gR_pR, gK_pR, gL_pR, hi, su, reduceCtorEq, Nat.reduceEqDiff, Int.reduceEq, and_true, true_and, and_false, false_and, if_true, if_false, and_self, eq_self, ne_eq, not_true, not_false_eq_true] at z ⊢
  exact z
theorem m_replyL (hm : RepM a S h) (iv : Inv S) (q k : Int) (m : Nat) : ∀ i : Int, m = (S 7 0 0 - i).toNat → 0 ≤ i → WP 134 4 [some (zr (some (a 100 0))), some (zi q), some (zi k), some (zi i)] [] h Q = Q (.inl (some (zi (fs (fun j => S 10 j 0 = q ∧ S 12 j 0 ≠ 2) m i)))) h := by
  obtain ⟨n0, n1⟩ := iv.2.2.1.1
  induction m with
  | zero =>
    intro i e1 e2
    rw [b_134_4]
    simp (disch := first | assumption | omega) only [kont_v, kont_n, kont_x, Nat.reduceAdd, ad_some, kd_some, ixa, and_true, true_and, and_self, eq_self, ne_eq, brT, brF, true_or, or_true, and_imp, hm.c0, hm.c1, hm.c2, hm.c3, hm.c4, hm.c5, hm.c6, hm.c7, hm.c8, hm.c9, hm.c10, hm.c11, hm.c12, hm.c13, hm.c14, hm.c15, hm.c16, hm.c17, hm.c18, hm.c19, hm.c20, hm.c21, hm.c22, hm.c23, hm.c24, hm.c25, hm.c26, hm.c27, hm.c28, hm.c29, hm.c30, hm.c31, hm.c32, hm.c33, hm.c34, hm.c35, hm.c36, hm.c37, hm.c38, hm.c39, hm.c40, hm.c41, hm.c42, hm.c43, hm.c44, hm.c45, hm.c46, hm.c47, hm.c48, hm.c49, hm.c50, hm.c51, hm.c52, hm.c53, hm.c54, hm.c55, hm.c56, hm.c57, hm.c58, hm.c59, hm.c60, hm.c61, hm.c62, hm.c63, hm.c64, hm.c65, hm.c66, hm.c67, hm.c68, hm.c69, hm.c70, hm.c71, hm.c72, hm.c73, hm.c74, hm.c75, hm.c76, hm.c77, brt, aT, inR, b_134_40]
    rfl
  | succ m ih =>
    intro i e1 e2
    rw [b_134_4, fs_s]
    simp (disch := first | assumption | omega) only [b_134_12, b_134_22, b_134_32, b_134_34, kont_v, kont_n, kont_x, Nat.reduceAdd, ad_some, kd_some, ixa, and_true, true_and, and_self, eq_self, ne_eq, brT, brF, true_or, or_true, and_imp, hm.c0, hm.c1, hm.c2, hm.c3, hm.c4, hm.c5, hm.c6, hm.c7, hm.c8, hm.c9, hm.c10, hm.c11, hm.c12, hm.c13, hm.c14, hm.c15, hm.c16, hm.c17, hm.c18, hm.c19, hm.c20, hm.c21, hm.c22, hm.c23, hm.c24, hm.c25, hm.c26, hm.c27, hm.c28, hm.c29, hm.c30, hm.c31, hm.c32, hm.c33, hm.c34, hm.c35, hm.c36, hm.c37, hm.c38, hm.c39, hm.c40, hm.c41, hm.c42, hm.c43, hm.c44, hm.c45, hm.c46, hm.c47, hm.c48, hm.c49, hm.c50, hm.c51, hm.c52, hm.c53, hm.c54, hm.c55, hm.c56, hm.c57, hm.c58, hm.c59, hm.c60, hm.c61, hm.c62, hm.c63, hm.c64, hm.c65, hm.c66, hm.c67, hm.c68, hm.c69, hm.c70, hm.c71, hm.c72, hm.c73, hm.c74, hm.c75, hm.c76, hm.c77, brf, aT, inR, ih]
    by_cases c : S 10 i 0 = q
    · rw [brt c]
      by_cases d : S 12 i 0 = 2
      · rw [brt d, if_neg (fun z => z.2 d)]
      · rw [brf d, if_pos ⟨c, d⟩]
    · rw [brf c, if_neg (fun z => c z.1)]
theorem m_reply0 (hm : RepM a S h) (iv : Inv S) (q k : Int) (hk : nt S k) : WP 134 0 [some (zr (some (a 100 0))), some (zi q), some (zi k), none] [] h Q = Q (.inl (some (zi (rG S (fun j => S 12 j 0 ≠ 2) q k)))) h := by
  have k1 := nt_b iv hk
  rw [b_134_0]
  simp (disch := first | assumption | omega) only [aT, inR]
  rw [m_replyL hm iv q k (S 7 0 0 - k - 1).toNat (k + 1) (by omega) (by omega)]
  rfl
theorem m_behindL (hm : RepM a S h) (iv : Inv S) (k : Int) (m : Nat) : ∀ r x : Int, nt S x → x < m → WP 133 9 [some (zr (some (a 100 0))), some (zi k), some (zi r), some (zi x)] [] h Q = Q (.inl (some (zi (if r = -1 then upG S (fun j => S 12 j 0 ≠ 2) m x else r)))) h := by
  obtain ⟨n0, n1⟩ := iv.2.2.1.1
  induction m with
  | zero => intro r x hx h1; have := hx.1; omega
  | succ m ih =>
    intro r x hx h1
    have x1 := hx.1
    have x2 := hx.2
    rw [b_133_9]
    by_cases c : r = -1
    · rw [brt c, if_pos c]
      show _ = Q (.inl (some (zi (if S 10 x 0 = -1 then -1 else if rG S (fun j => S 12 j 0 ≠ 2) (S 10 x 0) x = -1 then upG S (fun j => S 12 j 0 ≠ 2) m (S 10 x 0) else rG S (fun j => S 12 j 0 ≠ 2) (S 10 x 0) x)))) h
      rcases iv_par iv hx with ⟨q, -⟩ | ⟨q1, q2, q3, q4⟩
      · simp (disch := first | assumption | omega) only [b_133_14, b_133_46, kont_v, kont_n, kont_x, Nat.reduceAdd, ad_some, kd_some, ixa, and_true, true_and, and_self, eq_self, ne_eq, brT, brF, true_or, or_true, and_imp, hm.c0, hm.c1, hm.c2, hm.c3, hm.c4, hm.c5, hm.c6, hm.c7, hm.c8, hm.c9, hm.c10, hm.c11, hm.c12, hm.c13, hm.c14, hm.c15, hm.c16, hm.c17, hm.c18, hm.c19, hm.c20, hm.c21, hm.c22, hm.c23, hm.c24, hm.c25, hm.c26, hm.c27, hm.c28, hm.c29, hm.c30, hm.c31, hm.c32, hm.c33, hm.c34, hm.c35, hm.c36, hm.c37, hm.c38, hm.c39, hm.c40, hm.c41, hm.c42, hm.c43, hm.c44, hm.c45, hm.c46, hm.c47, hm.c48, hm.c49, hm.c50, hm.c51, hm.c52, hm.c53, hm.c54, hm.c55, hm.c56, hm.c57, hm.c58, hm.c59, hm.c60, hm.c61, hm.c62, hm.c63, hm.c64, hm.c65, hm.c66, hm.c67, hm.c68, hm.c69, hm.c70, hm.c71, hm.c72, hm.c73, hm.c74, hm.c75, hm.c76, hm.c77, aT, inR, brt, if_pos]
        exact Qi c
      · simp (disch := first | assumption | omega) only [b_133_14, b_133_24, b_133_35, kont_v, kont_n, kont_x, Nat.reduceAdd, ad_some, kd_some, ixa, and_true, true_and, and_self, eq_self, ne_eq, brT, brF, true_or, or_true, and_imp, hm.c0, hm.c1, hm.c2, hm.c3, hm.c4, hm.c5, hm.c6, hm.c7, hm.c8, hm.c9, hm.c10, hm.c11, hm.c12, hm.c13, hm.c14, hm.c15, hm.c16, hm.c17, hm.c18, hm.c19, hm.c20, hm.c21, hm.c22, hm.c23, hm.c24, hm.c25, hm.c26, hm.c27, hm.c28, hm.c29, hm.c30, hm.c31, hm.c32, hm.c33, hm.c34, hm.c35, hm.c36, hm.c37, hm.c38, hm.c39, hm.c40, hm.c41, hm.c42, hm.c43, hm.c44, hm.c45, hm.c46, hm.c47, hm.c48, hm.c49, hm.c50, hm.c51, hm.c52, hm.c53, hm.c54, hm.c55, hm.c56, hm.c57, hm.c58, hm.c59, hm.c60, hm.c61, hm.c62, hm.c63, hm.c64, hm.c65, hm.c66, hm.c67, hm.c68, hm.c69, hm.c70, hm.c71, hm.c72, hm.c73, hm.c74, hm.c75, hm.c76, hm.c77, aT, inR, brf, m_reply0 hm iv _ _ hx, ih]
        rw [if_neg q4]
    · rw [brf c, if_neg c, b_133_46]
theorem m_behind (hm : RepM a S h) (iv : Inv S) (k : Int) (hk : nt S k) : WP 133 0 [some (zr (some (a 100 0))), some (zi k), none, none] [] h Q = Q (.inl (some (zi (BH S k)))) h := by
  have k1 := nt_b iv hk
  simp (disch := first | assumption | omega) only [b_133_0, b_133_6, kont_v, kont_n, kont_x, Nat.reduceAdd, ad_some, kd_some, ixa, and_true, true_and, and_self, eq_self, ne_eq, brT, brF, true_or, or_true, and_imp, hm.c0, hm.c1, hm.c2, hm.c3, hm.c4, hm.c5, hm.c6, hm.c7, hm.c8, hm.c9, hm.c10, hm.c11, hm.c12, hm.c13, hm.c14, hm.c15, hm.c16, hm.c17, hm.c18, hm.c19, hm.c20, hm.c21, hm.c22, hm.c23, hm.c24, hm.c25, hm.c26, hm.c27, hm.c28, hm.c29, hm.c30, hm.c31, hm.c32, hm.c33, hm.c34, hm.c35, hm.c36, hm.c37, hm.c38, hm.c39, hm.c40, hm.c41, hm.c42, hm.c43, hm.c44, hm.c45, hm.c46, hm.c47, hm.c48, hm.c49, hm.c50, hm.c51, hm.c52, hm.c53, hm.c54, hm.c55, hm.c56, hm.c57, hm.c58, hm.c59, hm.c60, hm.c61, hm.c62, hm.c63, hm.c64, hm.c65, hm.c66, hm.c67, hm.c68, hm.c69, hm.c70, hm.c71, hm.c72, hm.c73, hm.c74, hm.c75, hm.c76, hm.c77, aT, inR, m_reply0 hm iv _ _ hk, m_behindL hm iv k 61 _ k hk]
  refine Qi ?_
  rfl
theorem m_tellL (k : Int) (hi : Ij a) (iv : Inv S) (hk : nt S k) (hg : S 12 k 0 ≠ 2) (hQ : ∀ g (n : Nat), RepM a S g → Fr (fun f => f ≠ 100 ∧ f ≠ 122) a h a g → gI g (a 100 0) 0 = gI h (a 100 0) 0 → gC g = gC h → gS g = gS h → gI g (a 100 0) 21 = n → n ≤ ms S (fun j => S 12 j 0 ≠ 2) k → sq S k n = -1 → (∀ i : Nat, i < n → sq S k i ≠ -1 ∧ gI g (a 122 0) i = sq S k i) → Q (.inl none) g) (m : Nat) :
    ∀ (g : Zh) (n : Nat), RepM a S g → Fr (fun f => f ≠ 100 ∧ f ≠ 122) a h a g → gI g (a 100 0) 0 = gI h (a 100 0) 0 → gC g = gC h → gS g = gS h → gI g (a 100 0) 21 = n → n + (if sq S k n = -1 then 0 else ms S (fun j => S 12 j 0 ≠ 2) (sq S k n)) ≤ ms S (fun j => S 12 j 0 ≠ 2) k → (∀ i : Nat, i < n → sq S k i ≠ -1 ∧ gI g (a 122 0) i = sq S k i) → ms S (fun j => S 12 j 0 ≠ 2) k - n ≤ m →
      WP 132 7 [some (zr (some (a 100 0))), some (zi k), some (zi (sq S k n))] [] g Q := by
  have bn := iv.2.2.1.1
  have bm := ms_b (G := fun j => S 12 j 0 ≠ 2) iv k
  induction m with
  | zero =>
    intro g n hm fr t0 tc ts o le al lm
    have e : sq S k n = -1 := by
      apply Classical.byContradiction
      intro c
      rw [if_neg c] at le
      obtain ⟨s1, s2, -⟩ := sq_nt iv hk hg n c
      have := ms_1 (G := fun j => S 12 j 0 ≠ 2) iv s1 s2
      omega
    rw [b_132_7, brt e, b_132_38]
    rw [if_pos e] at le
    exact hQ g n hm fr t0 tc ts o (by omega) e al
  | succ m ih =>
    intro g n hm fr t0 tc ts o le al lm
    by_cases e : sq S k n = -1
    · rw [b_132_7, brt e, b_132_38]
      rw [if_pos e] at le
      exact hQ g n hm fr t0 tc ts o (by omega) e al
    · rw [if_neg e] at le
      obtain ⟨s1, s2, -⟩ := sq_nt iv hk hg n e
      have l1 := ms_1 (G := fun j => S 12 j 0 ≠ 2) iv s1 s2
      have h2 := (hm.wOrdered hi (n + 1)).wOrd hi n (sq S k n)
      rw [b_132_7, brf e]
      simp (disch := first | assumption | omega) only [b_132_12, b_132_27, b_132_29, b_132_34, kont_v, kont_n, kont_x, Nat.reduceAdd, ad_some, kd_some, ixa, and_true, true_and, and_self, eq_self, ne_eq, brT, brF, true_or, or_true, and_imp, hm.c0, hm.c1, hm.c2, hm.c3, hm.c4, hm.c5, hm.c6, hm.c7, hm.c8, hm.c9, hm.c10, hm.c11, hm.c12, hm.c13, hm.c14, hm.c15, hm.c16, hm.c17, hm.c18, hm.c19, hm.c20, hm.c21, hm.c22, hm.c23, hm.c24, hm.c25, hm.c26, hm.c27, hm.c28, hm.c29, hm.c30, hm.c31, hm.c32, hm.c33, hm.c34, hm.c35, hm.c36, hm.c37, hm.c38, hm.c39, hm.c40, hm.c41, hm.c42, hm.c43, hm.c44, hm.c45, hm.c46, hm.c47, hm.c48, hm.c49, hm.c50, hm.c51, hm.c52, hm.c53, hm.c54, hm.c55, hm.c56, hm.c57, hm.c58, hm.c59, hm.c60, hm.c61, hm.c62, hm.c63, hm.c64, hm.c65, hm.c66, hm.c67, hm.c68, hm.c69, hm.c70, hm.c71, hm.c72, hm.c73, hm.c74, hm.c75, hm.c76, hm.c77, aT, inR, o, gK_pI, gL_pI, gR_pI, m_behind h2 iv _ s1]
      have es : sq S k (n + 1) = BH S (sq S k n) := by rw [sq_s, if_neg e]
      rw [← es]
      refine ih _ (n + 1) h2 ?_ ?_ tc ts ?_ ?_ ?_ (by omega)
      · exact fr.trans ((Fr_pI hi (fun z => z.1 rfl)).trans (Fr_pI hi (fun z => z.2 rfl)))
      · rw [gI_pI, if_neg (fun z => by rw [hi] at z; omega), gI_pI, if_neg (fun z => by omega)]
        exact t0
      · rw [gI_pI, if_neg (fun z => by rw [hi] at z; omega), gI_pI, if_pos ⟨rfl, rfl⟩]
        rfl
      · by_cases c : sq S k (n + 1) = -1
        · rw [if_pos c]; omega
        · rw [if_neg c]
          rw [es] at c ⊢
          have := ms_lt (G := fun j => S 12 j 0 ≠ 2) iv s1 s2 (BH_sp iv _ s1) c
          omega
      · intro i hin
        rw [gI_pI]
        by_cases c : i = n
        · subst c
          exact ⟨e, if_pos ⟨rfl, rfl⟩⟩
        · have := al i (by omega)
          rw [if_neg (fun z => by omega), gI_pI, if_neg (fun z => by rw [hi] at z; omega)]
          exact this
theorem m_tell (k : Int) (hi : Ij a) (hm : RepM a S h) (iv : Inv S) (hk : nt S k) (hg : S 12 k 0 ≠ 2) (hQ : ∀ g (n : Nat), RepM a S g → Fr (fun f => f ≠ 100 ∧ f ≠ 122) a h a g → gI g (a 100 0) 0 = gI h (a 100 0) 0 → gC g = gC h → gS g = gS h → gI g (a 100 0) 21 = n → n ≤ ms S (fun j => S 12 j 0 ≠ 2) k → sq S k n = -1 → (∀ i : Nat, i < n → sq S k i ≠ -1 ∧ gI g (a 122 0) i = sq S k i) → Q (.inl none) g) :
    WP 132 0 [some (zr (some (a 100 0))), some (zi k), none] [] h Q := by
  have bm := ms_b (G := fun j => S 12 j 0 ≠ 2) iv k
  have bn := iv.2.2.1.1
  have n1 : sq S k 0 ≠ -1 := fun z => by have := hk.1; have : sq S k 0 = k := rfl; omega
  simp (disch := first | assumption | omega) only [b_132_0, b_132_5, kont_v, kont_n, kont_x, Nat.reduceAdd, ad_some, kd_some, ixa, and_true, true_and, and_self, eq_self, ne_eq, brT, brF, true_or, or_true, and_imp, hm.c0, hm.c1, hm.c2, hm.c3, hm.c4, hm.c5, hm.c6, hm.c7, hm.c8, hm.c9, hm.c10, hm.c11, hm.c12, hm.c13, hm.c14, hm.c15, hm.c16, hm.c17, hm.c18, hm.c19, hm.c20, hm.c21, hm.c22, hm.c23, hm.c24, hm.c25, hm.c26, hm.c27, hm.c28, hm.c29, hm.c30, hm.c31, hm.c32, hm.c33, hm.c34, hm.c35, hm.c36, hm.c37, hm.c38, hm.c39, hm.c40, hm.c41, hm.c42, hm.c43, hm.c44, hm.c45, hm.c46, hm.c47, hm.c48, hm.c49, hm.c50, hm.c51, hm.c52, hm.c53, hm.c54, hm.c55, hm.c56, hm.c57, hm.c58, hm.c59, hm.c60, hm.c61, hm.c62, hm.c63, hm.c64, hm.c65, hm.c66, hm.c67, hm.c68, hm.c69, hm.c70, hm.c71, hm.c72, hm.c73, hm.c74, hm.c75, hm.c76, hm.c77, aT, inR]
  refine m_tellL k hi iv hk hg hQ 61 _ 0 (hm.wOrdered hi 0) (Fr_pI hi (fun z => z.1 rfl)) ?_ rfl rfl ?_ ?_ (fun i hi => by omega) (by omega)
  · rw [gI_pI, if_neg (by omega)]
  · rw [gI_pI, if_pos ⟨rfl, rfl⟩]; rfl
  · rw [if_neg n1]
    show ((0 : Nat) : Int) + ms S _ k ≤ _
    omega
end
/-! HOW A CALL ENDS -/
/-- a call of the class: the reference, the law's array and the script are where they were -/
def EC (a : Na) (h : Zh) (b : Na) (g : Zh) : Prop := Ij b ∧ Fr (fun f => 100 ≤ f) a h b g ∧ gC g ≤ gC h + 10 ∧ gS g ≤ gS h + 100 ∧ b 0 0 = a 0 0
/-- a call of the reference -/
def EM (a : Na) (h : Zh) (b : Na) (g : Zh) : Prop := Ij b ∧ Fr (fun f => f < 100 ∨ 200 ≤ f) a h b g ∧ gC g ≤ gC h + 80 ∧ gS g ≤ gS h + 5600 ∧ b 100 0 = a 100 0
def CK (a : Na) (T : St) (h : Zh) (Q : Zp) (v : Zv) : Prop := ∀ b g, RepC b T g → EC a h b g → Q (.inl (some v)) g
def MK (a : Na) (T : St) (h : Zh) (Q : Zp) (v : Zv) (c : Int) : Prop := ∀ b g, RepM b T g → gI g (b 100 0) 0 = c → EM a h b g → Q (.inl (some v)) g
section
variable {a : Na} {S T : St} {h : Zh} {Q : Zp} {v : Zv}
theorem CK.here (k : CK a S h Q v) (hi : Ij a) (hr : RepC a S h) : Q (.inl (some v)) h := k a h hr ⟨hi, Fr_rfl, by omega, by omega, rfl⟩
theorem Fr_tw {P : Nat → Prop} (hi : Ij a) {x : Int} (n : ¬ P 100) : Fr P a h a (tw a h x) := Fr_pI hi n
theorem tw_0 (a : Na) (h : Zh) (x : Int) : gI (tw a h x) (a 100 0) 0 = x := by
  show gI (pI _ _ _ _) _ _ = _
  rw [gI_pI, if_pos ⟨rfl, rfl⟩]
theorem MK.tw1 {c : Int} (k : MK a S h Q v c) (hi : Ij a) (hm : RepM a S h) : Q (.inl (some v)) (tw a h c) := k a _ (hm.tw hi c) (tw_0 a h c) ⟨hi, Fr_tw hi (by omega), by show gC h ≤ _; omega, by show gS h ≤ _; omega, rfl⟩
theorem MK.tw2 {c x : Int} (k : MK a S h Q v c) (hi : Ij a) (hm : RepM a S h) : Q (.inl (some v)) (tw a (tw a h x) c) := k a _ ((hm.tw hi x).tw hi c) (tw_0 a _ c) ⟨hi, (Fr_tw hi (by omega)).trans (Fr_tw hi (by omega)), by show gC h ≤ _; omega, by show gS h ≤ _; omega, rfl⟩
theorem m_thread (hi : Ij a) (hm : RepM a S h) (iv : Inv S) (k p : Int) (c1 : nt S k ∧ S 12 k 0 ≠ 2 → MK a S h Q (zi (TH S (S 11 k 0) p)) 0) (c2 : ¬ (nt S k ∧ S 12 k 0 ≠ 2) → MK a S h Q (zi 0) 1) : WP 135 0 [some (zr (some (a 100 0))), some (zi k), some (zi p)] [] h Q := by
  have bn := iv.2.2.1.1
  have hw : RepM a S (tw a h 0) := hm.tw hi 0
  by_cases c : nt S k ∧ S 12 k 0 ≠ 2
  · have hk := c.1
    have k1 := hk.1
    have k2 := hk.2
    have hh := iv_hd iv hk
    have ho : S 12 (S 11 k 0) 0 ≠ 2 := by
      obtain ⟨y, y1, y2, y3, y4, y5, y6, y7⟩ := ky_anc (G := fun j => S 12 j 0 ≠ 2) iv (al_par iv) 0 (by omega) 60 k hk (by have := nt_b iv hk; omega) (nt_d iv hk).1
      rcases ky_par iv y1 with ⟨r1, r2, r3, r4⟩ | ⟨r0, r1, r2, r3, r4, r5, r6⟩
      · rw [← y2, r2]; exact y6 c.2
      · have := nt_d iv r1; omega
    have e0 : pI h (a 100 0) 0 0 = tw a h 0 := rfl
    have bm := ms_b (G := fun j => S 12 j 0 ≠ 2) iv (S 11 k 0)
    simp (disch := first | assumption | omega) only [b_135_0, b_135_5, b_135_10, b_135_13, b_135_18, b_135_19, kont_v, kont_n, kont_x, Nat.reduceAdd, ad_some, kd_some, ixa, and_true, true_and, and_self, eq_self, ne_eq, brT, brF, true_or, or_true, and_imp, hm.c0, hm.c1, hm.c2, hm.c3, hm.c4, hm.c5, hm.c6, hm.c7, hm.c8, hm.c9, hm.c10, hm.c11, hm.c12, hm.c13, hm.c14, hm.c15, hm.c16, hm.c17, hm.c18, hm.c19, hm.c20, hm.c21, hm.c22, hm.c23, hm.c24, hm.c25, hm.c26, hm.c27, hm.c28, hm.c29, hm.c30, hm.c31, hm.c32, hm.c33, hm.c34, hm.c35, hm.c36, hm.c37, hm.c38, hm.c39, hm.c40, hm.c41, hm.c42, hm.c43, hm.c44, hm.c45, hm.c46, hm.c47, hm.c48, hm.c49, hm.c50, hm.c51, hm.c52, hm.c53, hm.c54, hm.c55, hm.c56, hm.c57, hm.c58, hm.c59, hm.c60, hm.c61, hm.c62, hm.c63, hm.c64, hm.c65, hm.c66, hm.c67, hm.c68, hm.c69, hm.c70, hm.c71, hm.c72, hm.c73, hm.c74, hm.c75, hm.c76, hm.c77, aT, inR, e0, m_isNote hw iv, brb10, brb01, brbpq, brb1p, brb0p, brbp1, brbp0, brb11, brb00, b2i_0, b2i_1, b2i_01, brN, one_ne0, zz01, oz01, nem, Classical.not_not, brt, brf, m_no hw iv]
    have hm := hw
    simp (disch := first | assumption | omega) only [kont_v, kont_n, kont_x, Nat.reduceAdd, ad_some, kd_some, ixa, and_true, true_and, and_self, eq_self, ne_eq, brT, brF, true_or, or_true, and_imp, hm.c0, hm.c1, hm.c2, hm.c3, hm.c4, hm.c5, hm.c6, hm.c7, hm.c8, hm.c9, hm.c10, hm.c11, hm.c12, hm.c13, hm.c14, hm.c15, hm.c16, hm.c17, hm.c18, hm.c19, hm.c20, hm.c21, hm.c22, hm.c23, hm.c24, hm.c25, hm.c26, hm.c27, hm.c28, hm.c29, hm.c30, hm.c31, hm.c32, hm.c33, hm.c34, hm.c35, hm.c36, hm.c37, hm.c38, hm.c39, hm.c40, hm.c41, hm.c42, hm.c43, hm.c44, hm.c45, hm.c46, hm.c47, hm.c48, hm.c49, hm.c50, hm.c51, hm.c52, hm.c53, hm.c54, hm.c55, hm.c56, hm.c57, hm.c58, hm.c59, hm.c60, hm.c61, hm.c62, hm.c63, hm.c64, hm.c65, hm.c66, hm.c67, hm.c68, hm.c69, hm.c70, hm.c71, hm.c72, hm.c73, hm.c74, hm.c75, hm.c76, hm.c77, aT, inR]
    refine m_tell _ hi hw iv hh.1 ho (fun g n hm fr t0 tc ts o le sn al => ?_)
    simp (disch := first | assumption | omega) only [b_135_29, b_135_40, b_135_43, b_135_52, b_135_53, kont_v, kont_n, kont_x, Nat.reduceAdd, ad_some, kd_some, ixa, and_true, true_and, and_self, eq_self, ne_eq, brT, brF, true_or, or_true, and_imp, hm.c0, hm.c1, hm.c2, hm.c3, hm.c4, hm.c5, hm.c6, hm.c7, hm.c8, hm.c9, hm.c10, hm.c11, hm.c12, hm.c13, hm.c14, hm.c15, hm.c16, hm.c17, hm.c18, hm.c19, hm.c20, hm.c21, hm.c22, hm.c23, hm.c24, hm.c25, hm.c26, hm.c27, hm.c28, hm.c29, hm.c30, hm.c31, hm.c32, hm.c33, hm.c34, hm.c35, hm.c36, hm.c37, hm.c38, hm.c39, hm.c40, hm.c41, hm.c42, hm.c43, hm.c44, hm.c45, hm.c46, hm.c47, hm.c48, hm.c49, hm.c50, hm.c51, hm.c52, hm.c53, hm.c54, hm.c55, hm.c56, hm.c57, hm.c58, hm.c59, hm.c60, hm.c61, hm.c62, hm.c63, hm.c64, hm.c65, hm.c66, hm.c67, hm.c68, hm.c69, hm.c70, hm.c71, hm.c72, hm.c73, hm.c74, hm.c75, hm.c76, hm.c77, aT, inR, o, m_isIn, brb10, brb01, brbpq, brb1p, brb0p, brbp1, brbp0, brb11, brb00, b2i_0, b2i_1, b2i_01, brN, one_ne0, zz01, oz01, nem, Classical.not_not]
    have fr2 : EM a h a g := ⟨hi, (Fr_tw hi (by omega)).trans (fun f i p n => fr f i (by omega) n), by rw [tc]; show gC h ≤ _; omega, by rw [ts]; show gS h ≤ _; omega, rfl⟩
    have fin := c1 c a g hm (t0.trans (tw_0 a h 0)) fr2
    by_cases d : 0 ≤ p ∧ p ≤ (n : Int) - 1
    · rw [brt d]
      simp (disch := first | assumption | omega) only [kont_v, kont_n, kont_x, Nat.reduceAdd, ad_some, kd_some, ixa, and_true, true_and, and_self, eq_self, ne_eq, brT, brF, true_or, or_true, and_imp, hm.c0, hm.c1, hm.c2, hm.c3, hm.c4, hm.c5, hm.c6, hm.c7, hm.c8, hm.c9, hm.c10, hm.c11, hm.c12, hm.c13, hm.c14, hm.c15, hm.c16, hm.c17, hm.c18, hm.c19, hm.c20, hm.c21, hm.c22, hm.c23, hm.c24, hm.c25, hm.c26, hm.c27, hm.c28, hm.c29, hm.c30, hm.c31, hm.c32, hm.c33, hm.c34, hm.c35, hm.c36, hm.c37, hm.c38, hm.c39, hm.c40, hm.c41, hm.c42, hm.c43, hm.c44, hm.c45, hm.c46, hm.c47, hm.c48, hm.c49, hm.c50, hm.c51, hm.c52, hm.c53, hm.c54, hm.c55, hm.c56, hm.c57, hm.c58, hm.c59, hm.c60, hm.c61, hm.c62, hm.c63, hm.c64, hm.c65, hm.c66, hm.c67, hm.c68, hm.c69, hm.c70, hm.c71, hm.c72, hm.c73, hm.c74, hm.c75, hm.c76, hm.c77, aT, inR]
      have := (al p.toNat (by omega)).2
      rw [show ((p.toNat : Nat) : Int) = p by omega] at this
      rw [this]
      rw [TH, if_pos d.1] at fin
      exact fin
    · rw [brf d]
      have e : TH S (S 11 k 0) p = -1 := by
        unfold TH
        by_cases q : 0 ≤ p
        · rw [if_pos q, show p.toNat = n + (p.toNat - n) by omega, sq_m _ _ _ _ sn]
        · rw [if_neg q]
      rw [e] at fin
      exact fin
  · have e0 : pI h (a 100 0) 0 0 = tw a h 0 := rfl
    simp (disch := first | assumption | omega) only [b_135_0, b_135_5, b_135_10, b_135_13, b_135_18, kont_v, kont_n, kont_x, Nat.reduceAdd, ad_some, kd_some, ixa, and_true, true_and, and_self, eq_self, ne_eq, brT, brF, true_or, or_true, and_imp, hm.c0, hm.c1, hm.c2, hm.c3, hm.c4, hm.c5, hm.c6, hm.c7, hm.c8, hm.c9, hm.c10, hm.c11, hm.c12, hm.c13, hm.c14, hm.c15, hm.c16, hm.c17, hm.c18, hm.c19, hm.c20, hm.c21, hm.c22, hm.c23, hm.c24, hm.c25, hm.c26, hm.c27, hm.c28, hm.c29, hm.c30, hm.c31, hm.c32, hm.c33, hm.c34, hm.c35, hm.c36, hm.c37, hm.c38, hm.c39, hm.c40, hm.c41, hm.c42, hm.c43, hm.c44, hm.c45, hm.c46, hm.c47, hm.c48, hm.c49, hm.c50, hm.c51, hm.c52, hm.c53, hm.c54, hm.c55, hm.c56, hm.c57, hm.c58, hm.c59, hm.c60, hm.c61, hm.c62, hm.c63, hm.c64, hm.c65, hm.c66, hm.c67, hm.c68, hm.c69, hm.c70, hm.c71, hm.c72, hm.c73, hm.c74, hm.c75, hm.c76, hm.c77, aT, inR, e0, m_isNote hw iv, brb10, brb01, brbpq, brb1p, brb0p, brbp1, brbp0, brb11, brb00, b2i_0, b2i_1, b2i_01, brN, one_ne0, zz01, oz01, nem, Classical.not_not, brt, brf, m_no hw iv]
    have hm2 := hm
    have hm := hw
    simp (disch := first | assumption | omega) only [kont_v, kont_n, kont_x, Nat.reduceAdd, ad_some, kd_some, ixa, and_true, true_and, and_self, eq_self, ne_eq, brT, brF, true_or, or_true, and_imp, hm.c0, hm.c1, hm.c2, hm.c3, hm.c4, hm.c5, hm.c6, hm.c7, hm.c8, hm.c9, hm.c10, hm.c11, hm.c12, hm.c13, hm.c14, hm.c15, hm.c16, hm.c17, hm.c18, hm.c19, hm.c20, hm.c21, hm.c22, hm.c23, hm.c24, hm.c25, hm.c26, hm.c27, hm.c28, hm.c29, hm.c30, hm.c31, hm.c32, hm.c33, hm.c34, hm.c35, hm.c36, hm.c37, hm.c38, hm.c39, hm.c40, hm.c41, hm.c42, hm.c43, hm.c44, hm.c45, hm.c46, hm.c47, hm.c48, hm.c49, hm.c50, hm.c51, hm.c52, hm.c53, hm.c54, hm.c55, hm.c56, hm.c57, hm.c58, hm.c59, hm.c60, hm.c61, hm.c62, hm.c63, hm.c64, hm.c65, hm.c66, hm.c67, hm.c68, hm.c69, hm.c70, hm.c71, hm.c72, hm.c73, hm.c74, hm.c75, hm.c76, hm.c77, aT, inR, e0, m_isNote hw iv, brb10, brb01, brbpq, brb1p, brb0p, brbp1, brbp0, brb11, brb00, b2i_0, b2i_1, b2i_01, brN, one_ne0, zz01, oz01, nem, Classical.not_not, brt, brf, m_no hw iv]
    exact (c2 c).tw2 hi hm2
/-- the note that is told at or behind x -/
noncomputable def ff (S : St) (x : Int) : Int := if x = -1 then -1 else if S 12 x 0 = 2 then BH S x else x
noncomputable def rf (a : Na) (f : Nat) (x : Int) : Option Nat := if x = -1 then none else some (a f x)
theorem ff_NX (iv : Inv S) {k : Int} (hk : nt S k) : BH S k = ff S (NX S k) := BH_NX iv k hk
theorem NX_nt (iv : Inv S) {k : Int} (hk : nt S k) : NX S k = -1 ∨ nt S (NX S k) := by
  rcases NX_sp iv k hk with ⟨e, -⟩ | ⟨e, -⟩
  · exact .inl e
  · exact .inr e
theorem c_next (hr : RepC a S h) (iv : Inv S) {k : Int} (hk : nt S k) : gR h (a 20 k) 6 = rf a 20 (NX S k) := by
  unfold rf
  rcases NX_nt iv hk with e | e
  · rw [if_pos e]; exact hr.c45 k hk e
  · rw [if_neg (by have := e.1; omega)]; exact hr.c46 k _ hk e rfl
theorem c_thL (hr : RepC a S h) (iv : Inv S) (y p o : Int) (m : Nat) : ∀ (n : Nat) (x : Int), (x = -1 ∨ nt S x) → (x ≠ -1 → ms S (fun _ => True) x ≤ m) → n + m ≤ 61 → sq S o n = ff S x → ¬ (0 ≤ p ∧ p < n) → WP 52 13 [some (zr (some (a 0 0))), some (zi y), some (zi p), some (zi n), some (zr (rf a 20 x))] [] h Q = Q (.inl (some (zi (TH S o p)))) h := by
  have bn := iv.2.2.1.1
  induction m with
  | zero =>
    intro n x hx e1 e2 e3 e4
    have c : x = -1 := by
      rcases hx with c | hx
      · exact c
      · have := ms_1 (G := fun _ => True) iv hx trivial
        have := e1 (by have := hx.1; omega)
        omega
    rw [b_52_13, brt (by rw [c]; rfl), b_52_50]
    refine Qi ?_
    rw [c] at e3
    have e5 : sq S o n = -1 := e3
    unfold TH
    by_cases q : 0 ≤ p
    · rw [if_pos q, show p.toNat = n + (p.toNat - n) by omega, sq_m _ _ _ _ e5]
    · rw [if_neg q]
  | succ m ih =>
    intro n x hx e1 e2 e3 e4
    by_cases c : x = -1
    · rw [b_52_13, brt (by rw [c]; rfl), b_52_50]
      refine Qi ?_
      rw [c] at e3
      have e5 : sq S o n = -1 := e3
      unfold TH
      by_cases q : 0 ≤ p
      · rw [if_pos q, show p.toNat = n + (p.toNat - n) by omega, sq_m _ _ _ _ e5]
      · rw [if_neg q]
    · have hx : nt S x := by
        rcases hx with q | q
        · exact absurd q c
        · exact q
      have x1 := hx.1
      have x2 := hx.2
      have er : rf a 20 x = some (a 20 x) := if_neg c
      have f3 : ff S x = if S 12 x 0 = 2 then BH S x else x := if_neg c
      have el : NX S x ≠ -1 → ms S (fun _ => True) (NX S x) ≤ m := fun z => by
        have := ms_lt (G := fun _ => True) iv hx trivial (NX_sp iv x hx) z
        have := e1 c
        omega
      rw [b_52_13, brf (by rw [er]; exact fun z => by cases z)]
      simp (disch := first | assumption | omega) only [er, b_52_18, b_52_26, b_52_31, b_52_37, b_52_40, kont_v, kont_n, kont_x, Nat.reduceAdd, ad_some, kd_some, ixa, and_true, true_and, and_self, eq_self, ne_eq, brT, brF, true_or, or_true, and_imp, hr.c0, hr.c1, hr.c2, hr.c3, hr.c4, hr.c5, hr.c6, hr.c7, hr.c8, hr.c9, hr.c10, hr.c11, hr.c12, hr.c13, hr.c14, hr.c15, hr.c16, hr.c17, hr.c18, hr.c19, hr.c20, hr.c21, hr.c22, hr.c23, hr.c24, hr.c25, hr.c26, hr.c27, hr.c28, hr.c29, hr.c30, hr.c31, hr.c32, hr.c33, hr.c34, hr.c35, hr.c36, hr.c37, hr.c38, hr.c39, hr.c40, hr.c41, hr.c42, hr.c43, hr.c44, hr.c45, hr.c46, hr.c47, hr.c48, hr.c49, hr.c50, hr.c51, hr.c52, hr.c53, hr.c54, hr.c55, hr.c56, hr.c57, hr.c58, hr.c59, hr.c60, hr.c61, hr.c62, hr.c63, hr.c64, hr.c65, hr.c66, hr.c67, hr.c68, hr.c69, hr.c70, aT, inR, brb10, brb01, brbpq, brb1p, brb0p, brbp1, brbp0, brb11, brb00, b2i_0, b2i_1, b2i_01, brN, one_ne0, zz01, oz01, nem, Classical.not_not, c_next hr iv hx]
      by_cases g : S 12 x 0 = 2
      · rw [f3, if_pos g, ff_NX iv hx] at e3
        rw [brt g]
        exact ih n (NX S x) (NX_nt iv hx) el (by omega) e3 e4
      · rw [f3, if_neg g] at e3
        rw [brf g]
        by_cases d : (n : Int) = p
        · rw [brt d]
          refine Qi ?_
          unfold TH
          rw [if_pos (by omega), show p.toNat = n by omega, e3]
        · rw [brf d]
          have := ih (n + 1) (NX S x) (NX_nt iv hx) el (by omega) (by rw [sq_s, e3, if_neg c, ff_NX iv hx]) (by omega)
          exact this
theorem c_thread (hr : RepC a S h) (iv : Inv S) (k p : Int) : WP 52 0 [some (zr (some (a 0 0))), some (zi k), some (zi p), none, none] [] h Q = br (nt S k ∧ S 12 k 0 ≠ 2) (Q (.inl (some (zi (TH S (S 11 k 0) p)))) h) (thr h 3 Q) := by
  have bn := iv.2.2.1.1
  by_cases c : nt S k ∧ S 12 k 0 ≠ 2
  · have hk := c.1
    have k1 := hk.1
    have k2 := hk.2
    have hh := iv_hd iv hk
    have j1 := hh.1.1
    simp (disch := first | assumption | omega) only [b_52_0, b_52_8, b_52_11, kont_v, kont_n, kont_x, Nat.reduceAdd, ad_some, kd_some, ixa, and_true, true_and, and_self, eq_self, ne_eq, brT, brF, true_or, or_true, and_imp, hr.c0, hr.c1, hr.c2, hr.c3, hr.c4, hr.c5, hr.c6, hr.c7, hr.c8, hr.c9, hr.c10, hr.c11, hr.c12, hr.c13, hr.c14, hr.c15, hr.c16, hr.c17, hr.c18, hr.c19, hr.c20, hr.c21, hr.c22, hr.c23, hr.c24, hr.c25, hr.c26, hr.c27, hr.c28, hr.c29, hr.c30, hr.c31, hr.c32, hr.c33, hr.c34, hr.c35, hr.c36, hr.c37, hr.c38, hr.c39, hr.c40, hr.c41, hr.c42, hr.c43, hr.c44, hr.c45, hr.c46, hr.c47, hr.c48, hr.c49, hr.c50, hr.c51, hr.c52, hr.c53, hr.c54, hr.c55, hr.c56, hr.c57, hr.c58, hr.c59, hr.c60, hr.c61, hr.c62, hr.c63, hr.c64, hr.c65, hr.c66, hr.c67, hr.c68, hr.c69, hr.c70, aT, inR, c_reqNote hr iv, brt, c_headOf hr iv]
    have er : rf a 20 (S 11 k 0) = some (a 20 (S 11 k 0)) := if_neg (by omega)
    have ho : S 12 (S 11 k 0) 0 ≠ 2 := by
      obtain ⟨y, y1, y2, y3, y4, y5, y6, y7⟩ := ky_anc (G := fun j => S 12 j 0 ≠ 2) iv (al_par iv) 0 (by omega) 60 k hk (by have := nt_b iv hk; omega) (nt_d iv hk).1
      rcases ky_par iv y1 with ⟨r1, r2, r3, r4⟩ | ⟨r0, r1, r2, r3, r4, r5, r6⟩
      · rw [← y2, r2]; exact y6 c.2
      · have := nt_d iv r1; omega
    have := c_thL (Q := Q) hr iv k p (S 11 k 0) 60 0 (S 11 k 0) (.inr hh.1) (fun _ => by have := ms_b (G := fun _ => True) iv (S 11 k 0); omega) (by omega) (by show S 11 k 0 = ff S _; unfold ff; rw [if_neg (by omega), if_neg ho]) (by omega)
    rw [er] at this
    exact this
  · simp (disch := first | assumption | omega) only [b_52_0, kont_v, kont_n, kont_x, Nat.reduceAdd, ad_some, kd_some, ixa, and_true, true_and, and_self, eq_self, ne_eq, brT, brF, true_or, or_true, and_imp, hr.c0, hr.c1, hr.c2, hr.c3, hr.c4, hr.c5, hr.c6, hr.c7, hr.c8, hr.c9, hr.c10, hr.c11, hr.c12, hr.c13, hr.c14, hr.c15, hr.c16, hr.c17, hr.c18, hr.c19, hr.c20, hr.c21, hr.c22, hr.c23, hr.c24, hr.c25, hr.c26, hr.c27, hr.c28, hr.c29, hr.c30, hr.c31, hr.c32, hr.c33, hr.c34, hr.c35, hr.c36, hr.c37, hr.c38, hr.c39, hr.c40, hr.c41, hr.c42, hr.c43, hr.c44, hr.c45, hr.c46, hr.c47, hr.c48, hr.c49, hr.c50, hr.c51, hr.c52, hr.c53, hr.c54, hr.c55, hr.c56, hr.c57, hr.c58, hr.c59, hr.c60, hr.c61, hr.c62, hr.c63, hr.c64, hr.c65, hr.c66, hr.c67, hr.c68, hr.c69, hr.c70, aT, inR, c_reqNote hr iv, brf, thr]
end
