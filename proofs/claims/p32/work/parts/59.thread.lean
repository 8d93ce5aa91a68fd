/-! THREADS: the class and the reference tell the same order -/
section
variable {a : Na} {S : St} {h : Zh} {Q : Zp}
theorem RepM.wOrd (hi : Ij a) (hm : RepM a S h) (i x : Int) : RepM a S (pI h (a 122 0) i x) :=
  .mk (hm.A.c (smI hi (by omega)) rfl rfl rfl rfl) (hm.U.c (smI hi (by omega)) (fun _ => rfl)) (hm.S'.c (smI hi (by omega)) rfl (fun _ => rfl))
    (hm.V.c (smI hi (by omega)) (fun _ => smI hi (by omega)) rfl (fun _ => rfl) (fun _ _ => rfl)) (fun q q1 q2 => (hm.R q q1 q2).c (smI hi (by omega)) (fun _ => rfl))
    (hm.Q.c (smI hi (by omega)) (fun _ => smI hi (by omega)) (fun k => Iff.rfl) (fun _ => rfl) (fun _ _ => rfl)) (hm.X.c (smI hi (by omega)) rfl (fun _ _ => rfl)) hm.O
theorem RepM.wOrdered (hi : Ij a) (hm : RepM a S h) (x : Int) : RepM a S (pI h (a 100 0) 21 x) := by
  refine .mk ?_ (hm.U.c (smI hi (by omega)) (fun _ => rfl)) (hm.S'.c (smI hi (by omega)) rfl (fun _ => rfl))
    (hm.V.c (smI hi (by omega)) (fun _ => smI hi (by omega)) rfl (fun _ => rfl) (fun _ _ => rfl)) (fun q q1 q2 => (hm.R q q1 q2).c (smI hi (by omega)) (fun _ => rfl))
    (hm.Q.c (smI hi (by omega)) (fun _ => smI hi (by omega)) (fun k => Iff.rfl) (fun _ => rfl) (fun _ _ => rfl)) (hm.X.c (smI hi (by omega)) rfl (fun _ _ => rfl)) (hm.O.c (smI hi (by omega)))
  have z := hm.A
  simp only [MA, gI_pI, gR_pI, gK_pI, gL_pI, gI_pR, gR_pR, gK_pR, gL_pR, hi, su, reduceCtorEq, Nat.reduceEqDiff, Int.reduceEq, and_true, true_and, and_false, false_and, if_true, if_false, and_self, eq_self, ne_eq, not_true, not_false_eq_true] at z ⊢
  exact z
end
/-! HOW A CALL ENDS -/
/-- a call of the class: the reference, the law's array and the script are where they were -/
def EC (a : Na) (h : Zh) (b : Na) (g : Zh) : Prop := Ij b ∧ Fr (fun f => 100 ≤ f) a h b g ∧ gC g ≤ gC h + 10 ∧ gS g ≤ gS h + 100 ∧ b 0 0 = a 0 0
/-- a call of the reference -/
def EM (a : Na) (h : Zh) (b : Na) (g : Zh) : Prop := Ij b ∧ Fr (fun f => f < 100 ∨ 200 ≤ f) a h b g ∧ gC g ≤ gC h + 80 ∧ gS g ≤ gS h + 5600 ∧ b 100 0 = a 100 0
def CK (a : Na) (T : St) (h : Zh) (Q : Zp) (v : Zv) : Prop := ∀ b g, RepC b T g → EC a h b g → Q (.inl (some v)) g
def MK (a : Na) (T : St) (h : Zh) (Q : Zp) (v : Zv) (c : Int) : Prop := ∀ b g, RepM b T g → gI g (b 100 0) 0 = c → EM a h b g → Q (.inl (some v)) g
section
variable {a : Na} {S T : St} {h : Zh} {Q : Zp} {v : Zv}
theorem CK.here (k : CK a S h Q v) (hi : Ij a) (hr : RepC a S h) : Q (.inl (some v)) h := k a h hr ⟨hi, Fr_rfl, by omega, by omega, rfl⟩
theorem Fr_tw {P : Nat → Prop} (hi : Ij a) {x : Int} (n : ¬ P 100) : Fr P a h a (tw a h x) := Fr_pI hi n
theorem tw_0 (a : Na) (h : Zh) (x : Int) : gI (tw a h x) (a 100 0) 0 = x := by
  show gI (pI _ _ _ _) _ _ = _
  rw [gI_pI, if_pos ⟨rfl, rfl⟩]
theorem MK.tw1 {c : Int} (k : MK a S h Q v c) (hi : Ij a) (hm : RepM a S h) : Q (.inl (some v)) (tw a h c) := k a _ (hm.tw hi c) (tw_0 a h c) ⟨hi, Fr_tw hi (by omega), by show gC h ≤ _; omega, by show gS h ≤ _; omega, rfl⟩
theorem MK.tw2 {c x : Int} (k : MK a S h Q v c) (hi : Ij a) (hm : RepM a S h) : Q (.inl (some v)) (tw a (tw a h x) c) := k a _ ((hm.tw hi x).tw hi c) (tw_0 a _ c) ⟨hi, (Fr_tw hi (by omega)).trans (Fr_tw hi (by omega)), by show gC h ≤ _; omega, by show gS h ≤ _; omega, rfl⟩
/-- the note that is told at or behind x -/
noncomputable def ff (S : St) (x : Int) : Int := if x = -1 then -1 else if S 12 x 0 = 2 then BH S x else x
noncomputable def rf (a : Na) (f : Nat) (x : Int) : Option Nat := if x = -1 then none else some (a f x)
theorem ff_NX (iv : Inv S) {k : Int} (hk : nt S k) : BH S k = ff S (NX S k) := BH_NX iv k hk
theorem NX_nt (iv : Inv S) {k : Int} (hk : nt S k) : NX S k = -1 ∨ nt S (NX S k) := by
  rcases NX_sp iv k hk with ⟨e, -⟩ | ⟨e, -⟩
  · exact .inl e
  · exact .inr e
theorem c_next (hr : RepC a S h) (iv : Inv S) {k : Int} (hk : nt S k) : gR h (a 20 k) 6 = rf a 20 (NX S k) := by
  unfold rf
  rcases NX_nt iv hk with e | e
  · rw [if_pos e]; exact hr.c45 k hk e
  · rw [if_neg (by have := e.1; omega)]; exact hr.c46 k _ hk e rfl
theorem c_thL (hr : RepC a S h) (iv : Inv S) (y p o : Int) (m : Nat) : ∀ (n : Nat) (x : Int), (x = -1 ∨ nt S x) → (x ≠ -1 → ms S (fun _ => True) x ≤ m) → n + m ≤ 61 → sq S o n = ff S x → ¬ (0 ≤ p ∧ p < n) → WP 52 13 [some (zr (some (a 0 0))), some (zi y), some (zi p), some (zi n), some (zr (rf a 20 x))] [] h Q = Q (.inl (some (zi (TH S o p)))) h := by
  have bn := iv.2.2.1.1
  induction m with
  | zero =>
    intro n x hx e1 e2 e3 e4
    have c : x = -1 := by
      rcases hx with c | hx
      · exact c
      · have := ms_1 (G := fun _ => True) iv hx trivial
        have := e1 (by have := hx.1; omega)
        omega
    rw [b_52_13, brt (by rw [c]; rfl), b_52_50]
    refine Qi ?_
    rw [c] at e3
    have e5 : sq S o n = -1 := e3
    unfold TH
    by_cases q : 0 ≤ p
    · rw [if_pos q, show p.toNat = n + (p.toNat - n) by omega, sq_m _ _ _ _ e5]
    · rw [if_neg q]
  | succ m ih =>
    intro n x hx e1 e2 e3 e4
    by_cases c : x = -1
    · rw [b_52_13, brt (by rw [c]; rfl), b_52_50]
      refine Qi ?_
      rw [c] at e3
      have e5 : sq S o n = -1 := e3
      unfold TH
      by_cases q : 0 ≤ p
      · rw [if_pos q, show p.toNat = n + (p.toNat - n) by omega, sq_m _ _ _ _ e5]
      · rw [if_neg q]
    · have hx : nt S x := by
        rcases hx with q | q
        · exact absurd q c
        · exact q
      have x1 := hx.1
      have x2 := hx.2
      have er : rf a 20 x = some (a 20 x) := if_neg c
      have f3 : ff S x = if S 12 x 0 = 2 then BH S x else x := if_neg c
      have el : NX S x ≠ -1 → ms S (fun _ => True) (NX S x) ≤ m := fun z => by
        have := ms_lt (G := fun _ => True) iv hx trivial (NX_sp iv x hx) z
        have := e1 c
        omega
      rw [b_52_13, brf (by rw [er]; exact fun z => by cases z)]
      simp (disch := first | assumption | omega) only [er, b_52_18, b_52_26, b_52_31, b_52_37, b_52_40, kont_v, kont_n, kont_x, Nat.reduceAdd, ad_some, kd_some, ixa, and_true, true_and, and_self, eq_self, ne_eq, brT, brF, true_or, or_true, and_imp, hr.c0, hr.c1, hr.c2, hr.c3, hr.c4, hr.c5, hr.c6, hr.c7, hr.c8, hr.c9, hr.c10, hr.c11, hr.c12, hr.c13, hr.c14, hr.c15, hr.c16, hr.c17, hr.c18, hr.c19, hr.c20, hr.c21, hr.c22, hr.c23, hr.c24, hr.c25, hr.c26, hr.c27, hr.c28, hr.c29, hr.c30, hr.c31, hr.c32, hr.c33, hr.c34, hr.c35, hr.c36, hr.c37, hr.c38, hr.c39, hr.c40, hr.c41, hr.c42, hr.c43, hr.c44, hr.c45, hr.c46, hr.c47, hr.c48, hr.c49, hr.c50, hr.c51, hr.c52, hr.c53, hr.c54, hr.c55, hr.c56, hr.c57, hr.c58, hr.c59, hr.c60, hr.c61, hr.c62, hr.c63, hr.c64, hr.c65, hr.c66, hr.c67, hr.c68, hr.c69, hr.c70, aT, inR, brb10, brb01, brbpq, brb1p, brb0p, brbp1, brbp0, brb11, brb00, b2i_0, b2i_1, b2i_01, brN, one_ne0, zz01, oz01, nem, Classical.not_not, c_next hr iv hx]
      by_cases g : S 12 x 0 = 2
      · rw [f3, if_pos g, ff_NX iv hx] at e3
        rw [brt g]
        exact ih n (NX S x) (NX_nt iv hx) el (by omega) e3 e4
      · rw [f3, if_neg g] at e3
        rw [brf g]
        by_cases d : (n : Int) = p
        · rw [brt d]
          refine Qi ?_
          unfold TH
          rw [if_pos (by omega), show p.toNat = n by omega, e3]
        · rw [brf d]
          have := ih (n + 1) (NX S x) (NX_nt iv hx) el (by omega) (by rw [sq_s, e3, if_neg c, ff_NX iv hx]) (by omega)
          exact this
theorem c_thread (hr : RepC a S h) (iv : Inv S) (k p : Int) : WP 52 0 [some (zr (some (a 0 0))), some (zi k), some (zi p), none, none] [] h Q = br (nt S k ∧ S 12 k 0 ≠ 2) (Q (.inl (some (zi (TH S (S 11 k 0) p)))) h) (thr h 3 Q) := by
  have bn := iv.2.2.1.1
  by_cases c : nt S k ∧ S 12 k 0 ≠ 2
  · have hk := c.1
    have k1 := hk.1
    have k2 := hk.2
    have hh := iv_hd iv hk
    have j1 := hh.1.1
    simp (disch := first | assumption | omega) only [b_52_0, b_52_8, b_52_11, kont_v, kont_n, kont_x, Nat.reduceAdd, ad_some, kd_some, ixa, and_true, true_and, and_self, eq_self, ne_eq, brT, brF, true_or, or_true, and_imp, hr.c0, hr.c1, hr.c2, hr.c3, hr.c4, hr.c5, hr.c6, hr.c7, hr.c8, hr.c9, hr.c10, hr.c11, hr.c12, hr.c13, hr.c14, hr.c15, hr.c16, hr.c17, hr.c18, hr.c19, hr.c20, hr.c21, hr.c22, hr.c23, hr.c24, hr.c25, hr.c26, hr.c27, hr.c28, hr.c29, hr.c30, hr.c31, hr.c32, hr.c33, hr.c34, hr.c35, hr.c36, hr.c37, hr.c38, hr.c39, hr.c40, hr.c41, hr.c42, hr.c43, hr.c44, hr.c45, hr.c46, hr.c47, hr.c48, hr.c49, hr.c50, hr.c51, hr.c52, hr.c53, hr.c54, hr.c55, hr.c56, hr.c57, hr.c58, hr.c59, hr.c60, hr.c61, hr.c62, hr.c63, hr.c64, hr.c65, hr.c66, hr.c67, hr.c68, hr.c69, hr.c70, aT, inR, c_reqNote hr iv, brt, c_headOf hr iv]
    have er : rf a 20 (S 11 k 0) = some (a 20 (S 11 k 0)) := if_neg (by omega)
    have ho : S 12 (S 11 k 0) 0 ≠ 2 := by
      obtain ⟨y, y1, y2, y3, y4, y5, y6, y7⟩ := ky_anc (G := fun j => S 12 j 0 ≠ 2) iv (al_par iv) 0 (by omega) 60 k hk (by have := nt_b iv hk; omega) (nt_d iv hk).1
      rcases ky_par iv y1 with ⟨r1, r2, r3, r4⟩ | ⟨r0, r1, r2, r3, r4, r5, r6⟩
      · rw [← y2, r2]; exact y6 c.2
      · have := nt_d iv r1; omega
    have := c_thL (Q := Q) hr iv k p (S 11 k 0) 60 0 (S 11 k 0) (.inr hh.1) (fun _ => by have := ms_b (G := fun _ => True) iv (S 11 k 0); omega) (by omega) (by show S 11 k 0 = ff S _; unfold ff; rw [if_neg (by omega), if_neg ho]) (by omega)
    rw [er] at this
    exact this
  · simp (disch := first | assumption | omega) only [b_52_0, kont_v, kont_n, kont_x, Nat.reduceAdd, ad_some, kd_some, ixa, and_true, true_and, and_self, eq_self, ne_eq, brT, brF, true_or, or_true, and_imp, hr.c0, hr.c1, hr.c2, hr.c3, hr.c4, hr.c5, hr.c6, hr.c7, hr.c8, hr.c9, hr.c10, hr.c11, hr.c12, hr.c13, hr.c14, hr.c15, hr.c16, hr.c17, hr.c18, hr.c19, hr.c20, hr.c21, hr.c22, hr.c23, hr.c24, hr.c25, hr.c26, hr.c27, hr.c28, hr.c29, hr.c30, hr.c31, hr.c32, hr.c33, hr.c34, hr.c35, hr.c36, hr.c37, hr.c38, hr.c39, hr.c40, hr.c41, hr.c42, hr.c43, hr.c44, hr.c45, hr.c46, hr.c47, hr.c48, hr.c49, hr.c50, hr.c51, hr.c52, hr.c53, hr.c54, hr.c55, hr.c56, hr.c57, hr.c58, hr.c59, hr.c60, hr.c61, hr.c62, hr.c63, hr.c64, hr.c65, hr.c66, hr.c67, hr.c68, hr.c69, hr.c70, aT, inR, c_reqNote hr iv, brf, thr]
end
