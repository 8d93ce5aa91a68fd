/-! export OF THE CLASS: the orders -/
section
variable {a : Na} {S : St} {h : Zh} {Q : Zp}
theorem c_aoL (hi : Ij a) (iv : Inv S) (z : Nat) (R : Int × (Int → Int → Int)) (hQ : ∀ g, RepC a (SX S R.1 R.2) g → Fr (fun f => 100 ≤ f) a h a g → gC g = gC h → gS g = gS h → (∀ j, gR g (a 4 0) j = gR h (a 4 0) j) → Q (.inl none) g) (m : Nat) :
    ∀ (f : Nat) (x : Int) (s : Int × (Int → Int → Int)) (g : Zh), (x = -1 ∨ nt S x) → (x ≠ -1 → ms S (fun _ => True) x ≤ m) → (ff S x ≠ -1 → ms S (fun j => S 12 j 0 ≠ 2) (ff S x) ≤ f) → apO S f (ff S x) s = R → 0 ≤ s.1 → s.1 + (if ff S x = -1 then 0 else ms S (fun j => S 12 j 0 ≠ 2) (ff S x)) ≤ 60 → RepC a (SX S s.1 s.2) g → Fr (fun f => 100 ≤ f) a h a g → gC g = gC h → gS g = gS h → (∀ j, gR g (a 4 0) j = gR h (a 4 0) j) →
      WP 11 2 [some (zr (some (a 5 0))), some (zr (some z)), some (zr (rf a 20 x))] [] g Q := by
  have stop : ∀ (f : Nat) (s : Int × (Int → Int → Int)), apO S f (-1) s = s := fun f s => by
    match f with
    | 0 => rfl
    | f + 1 => exact if_pos rfl
  induction m with
  | zero =>
    intro f x s g hx e1 e2 e3 h0 hb hr fr gc gs r4
    have c : x = -1 := by
      rcases hx with c | hx
      · exact c
      · have := ms_1 (G := fun _ => True) iv hx trivial
        have := e1 (by have := hx.1; omega)
        omega
    have fx : ff S x = -1 := by unfold ff; rw [if_pos c]
    rw [fx, stop] at e3
    rw [b_11_2, brt (by rw [c]; rfl), b_11_97]
    exact hQ g (e3 ▸ hr) fr gc gs r4
  | succ m ih =>
    intro f x s g hx e1 e2 e3 h0 hb hr fr gc gs r4
    by_cases c : x = -1
    · have fx : ff S x = -1 := by unfold ff; rw [if_pos c]
      rw [fx, stop] at e3
      rw [b_11_2, brt (by rw [c]; rfl), b_11_97]
      exact hQ g (e3 ▸ hr) fr gc gs r4
    · have hx := hx.resolve_left c
      have er : rf a 20 x = some (a 20 x) := if_neg c
      have f3 : ff S x = if S 12 x 0 = 2 then BH S x else x := if_neg c
      have el : NX S x ≠ -1 → ms S (fun _ => True) (NX S x) ≤ m := fun z => by
        have := ms_lt (G := fun _ => True) iv hx trivial (NX_sp iv x hx) z
        have := e1 c
        omega
      have hxx : nt (SX S s.1 s.2) x := hx
      obtain ⟨n0, n1, n2, n3, n4, n5, n6, n7, n8, n9, n10, n11, n12, n13⟩ := hr.N x hxx
      have n5 : gI g (a 20 x) 3 = S 23 x 0 := n5
      have n4 : gI g (a 20 x) 2 = S 9 x 0 := n4
      have n7 : gI g (a 20 x) 8 = b2i (S 12 x 0 ≠ 0) := n7
      have n8 : gI g (a 20 x) 9 = b2i (S 12 x 0 = 2) := n8
      have nx : gR g (a 20 x) 6 = rf a 20 (NX S x) := by
        have e : NX (SX S s.1 s.2) x = NX S x := NX_c (S := S) (T := SX S s.1 s.2) rfl (fun _ => rfl) x
        unfold rf
        rcases NX_nt iv hx with q | q
        · rw [if_pos q]; exact n12 (e.trans q)
        · rw [if_neg (by have := q.1; omega)]; exact n13 _ q e
      rw [b_11_2, brf (by rw [er]; exact fun z => by cases z), er]
      by_cases d : S 12 x 0 = 2
      · rw [f3, if_pos d, ff_NX iv hx] at e2 e3 hb
        simp (disch := first | assumption | omega) only [b_11_6, b_11_89, kont_v, kont_n, kont_x, Nat.reduceAdd, ad_some, kd_some, ixa, and_true, true_and, and_self, eq_self, ne_eq, brT, brF, true_or, or_true, and_imp, n1, n8, nx, b2i_0, brN, brt]
        exact ih f (NX S x) s g (NX_nt iv hx) el e2 e3 h0 hb hr fr gc gs r4
      · rw [f3, if_neg d] at e2 e3 hb
        rw [if_neg c] at hb
        have l1 := ms_1 (G := fun j => S 12 j 0 ≠ 2) iv hx d
        have e2 := e2 c
        match f, e2, e3 with
        | 0, e2, e3 => omega
        | f + 1, e2, e3 =>
          have e3 : (if x = -1 then s else apO S f (BH S x) (ap1 S x s)) = R := e3
          rw [if_neg c, ff_NX iv hx] at e3
          have hh := iv_hd iv hx
          have hhx : hd (SX S s.1 s.2) (S 11 x 0) := hh
          have st : gR g (a 20 x) 5 = some (a 21 (S 11 x 0)) := n11 (S 11 x 0) hhx rfl
          obtain ⟨m0, -, -, -, m4, -, -, -, -, m9, m10, -⟩ := hr.H _ hhx
          have m10 : gI g (a 22 (S 11 x 0)) 0 = S 13 (S 11 x 0) 0 := m10
          obtain ⟨e0, ee1, ee2, ee3, ee4, e5, e6, e7, -⟩ := hr.E
          rw [SX_21] at ee1
          have r0 := e5 0 (by omega) (by omega)
          have r1 := e5 1 (by omega) (by omega)
          have r2 := e5 2 (by omega) (by omega)
          have r3 := e5 3 (by omega) (by omega)
          have k0 := e6 0 (by omega) (by omega)
          have k1 := e6 1 (by omega) (by omega)
          have k2 := e6 2 (by omega) (by omega)
          have k3 := e6 3 (by omega) (by omega)
          have l0 := e7 0 (by omega) (by omega)
          have l1' := e7 1 (by omega) (by omega)
          have l2 := e7 2 (by omega) (by omega)
          have l3 := e7 3 (by omega) (by omega)
          have sh : (if b2i (S 12 x 0 ≠ 0) = 0 then S 9 x 0 else -1) = CO S x := by
            unfold CO
            by_cases q : S 12 x 0 = 0
            · rw [b2i_f (fun z => z q), if_pos rfl, if_pos q]
            · rw [b2i_t q, if_neg (by omega), if_neg q]
          have csh := fun (Q : Zp) => c_shown (h := pI (pI (pI g (a 10 0) s.1 x) (a 10 1) s.1 (S 23 x 0)) (a 10 2) s.1 (S 13 (S 11 x 0) 0)) (Q := Q) (a 20 x) n1
          have w4 := (((hr.wRowE hi 0 x).wRowE hi 1 (S 23 x 0)).wRowE hi 2 (S 13 (S 11 x 0) 0)).wRowE hi 3 (CO S x)
          have w := w4.wCnt hi (x := x) (fun w h1 h2 => by
            have : w = 0 ∨ w = 1 ∨ w = 2 ∨ w = 3 := by omega
            unfold row
            rcases this with rfl | rfl | rfl | rfl <;> simp (disch := first | assumption | omega) only [gI_pI, hi, Int.reduceEq, and_false, false_and, and_true, true_and, if_true, if_false, eq_self])
          simp (disch := first | assumption | omega) only [b_11_6, b_11_13, b_11_28, b_11_43, b_11_64, b_11_78, b_11_79, b_11_89, kont_v, kont_n, kont_x, Nat.reduceAdd, ad_some, kd_some, ixa, and_true, true_and, and_self, eq_self, ne_eq, brT, brF, true_or, or_true, and_imp, aT, inR, csh, n1, n2, n4, n5, n7, n8, nx, st, m0, m4, m9, m10, e0, ee1, ee2, ee3, ee4, r0, r1, r2, r3, k0, k1, k2, k3, l0, l1', l2, l3, b2i_f, brt, gK_pI, gL_pI, gR_pI, gI_pI, hi, reduceCtorEq, Nat.reduceEqDiff, Int.reduceEq, and_false, false_and, if_false, sh]
          refine ih f (NX S x) (ap1 S x s) _ (NX_nt iv hx) el (fun z => ?_) e3 (by show 0 ≤ s.1 + 1; omega) ?_ w (fr.trans ((Fr_pI hi (by omega)).trans ((Fr_pI hi (by omega)).trans ((Fr_pI hi (by omega)).trans ((Fr_pI hi (by omega)).trans (Fr_pI hi (by omega))))))) gc gs r4
          · rw [← ff_NX iv hx] at z ⊢
            have := ms_lt (G := fun j => S 12 j 0 ≠ 2) iv hx d (BH_sp iv x hx) z
            omega
          · rw [← ff_NX iv hx]
            show s.1 + 1 + _ ≤ 60
            by_cases z : BH S x = -1
            · rw [if_pos z]; omega
            · rw [if_neg z]
              have := ms_lt (G := fun j => S 12 j 0 ≠ 2) iv hx d (BH_sp iv x hx) z
              omega
theorem c_exL (hi : Ij a) (iv : Inv S) (u al : Int) (N : Nat) (C : Int → Int) (hc : okC S N C (S 7 0 0)) (R : Int × (Int → Int → Int)) (hrow : ∀ i : Int, 0 ≤ i → i < N → gR h (a 4 0) i = some (a 20 (C i))) (hN : (N : Int) ≤ 60) (hQ : ∀ g, RepC a (SX S R.1 R.2) g → Fr (fun f => 100 ≤ f) a h a g → gC g = gC h → gS g = gS h → Q (.inl (some (zi R.1))) g) (m : Nat) :
    ∀ (i : Int) (s : Int × (Int → Int → Int)) (g : Zh), m = (N - i).toNat → 0 ≤ i → i ≤ N → 0 ≤ s.1 → s.1 ≤ BC S C i → apH S C m i s = R → RepC a (SX S s.1 s.2) g → Fr (fun f => 100 ≤ f) a h a g → gC g = gC h → gS g = gS h → (∀ j, gR g (a 4 0) j = gR h (a 4 0) j) →
      WP 54 23 [some (zr (some (a 0 0))), some (zi u), some (zi al), some (zi N), some (zi i)] [] g Q := by
  induction m with
  | zero =>
    intro i s g e1 e2 e3 h0 hb er hr fr gc gs r4
    have er : s = R := er
    have c21 : gI g (a 5 0) 1 = s.1 := (hr.c63).trans (SX_21 ..)
    rw [b_54_23, brt (by omega)]
    simp only [b_54_49, kont_v, kont_n, kont_x, Nat.reduceAdd, ad_some, kd_some, ixa, and_true, true_and, and_self, eq_self, ne_eq, brT, brF, true_or, or_true, and_imp, hr.c0, hr.c1, hr.c2, hr.c3, hr.c4, hr.c5, hr.c6, hr.c7, hr.c8, hr.c9, hr.c10, hr.c11, hr.c12, hr.c13, hr.c14, hr.c15, hr.c16, hr.c17, hr.c18, hr.c19, hr.c20, hr.c21, hr.c22, hr.c23, hr.c24, hr.c25, hr.c26, hr.c27, hr.c28, hr.c29, hr.c30, hr.c31, hr.c32, hr.c33, hr.c34, hr.c35, hr.c36, hr.c37, hr.c38, hr.c39, hr.c40, hr.c41, hr.c42, hr.c43, hr.c44, hr.c45, hr.c46, hr.c47, hr.c48, hr.c49, hr.c50, hr.c51, hr.c52, hr.c53, hr.c54, hr.c55, hr.c56, hr.c57, hr.c58, hr.c59, hr.c60, hr.c61, hr.c62, hr.c63, hr.c64, hr.c65, hr.c66, hr.c67, hr.c68, hr.c69, hr.c70, SX_21]
    rw [← er] at hQ
    exact hQ g hr fr gc gs
  | succ m ih =>
    intro i s g e1 e2 e3 h0 hb er hr fr gc gs r4
    have hci := hc.1 i e2 (by omega)
    have c1 := hci.1.1
    have bs := BC_s hc e2 (show i < N by omega)
    have bb := BC_b iv C (i + 1)
    have er : apH S C m (i + 1) (apO S 61 (C i) s) = R := er
    have rr : gR g (a 4 0) i = some (a 20 (C i)) := (r4 i).trans (hrow i e2 (by omega))
    have fx : ff S (C i) = C i := by unfold ff; rw [if_neg (by omega), if_neg hci.2.2.2]
    have er20 : some (a 20 (C i)) = rf a 20 (C i) := (if_neg (by omega)).symm
    have ab := apO_b iv 61 (C i) s (BC S C (i + 1)) (.inr ⟨hci.1, hci.2.2.2⟩) (by rw [if_neg (by omega)]; omega)
    rw [b_54_23, brf (by omega)]
    simp (disch := first | assumption | omega) only [b_54_29, kont_v, kont_n, kont_x, Nat.reduceAdd, ad_some, kd_some, ixa, and_true, true_and, and_self, eq_self, ne_eq, brT, brF, true_or, or_true, and_imp, hr.c0, hr.c1, hr.c2, hr.c3, hr.c4, hr.c5, hr.c6, hr.c7, hr.c8, hr.c9, hr.c10, hr.c11, hr.c12, hr.c13, hr.c14, hr.c15, hr.c16, hr.c17, hr.c18, hr.c19, hr.c20, hr.c21, hr.c22, hr.c23, hr.c24, hr.c25, hr.c26, hr.c27, hr.c28, hr.c29, hr.c30, hr.c31, hr.c32, hr.c33, hr.c34, hr.c35, hr.c36, hr.c37, hr.c38, hr.c39, hr.c40, hr.c41, hr.c42, hr.c43, hr.c44, hr.c45, hr.c46, hr.c47, hr.c48, hr.c49, hr.c50, hr.c51, hr.c52, hr.c53, hr.c54, hr.c55, hr.c56, hr.c57, hr.c58, hr.c59, hr.c60, hr.c61, hr.c62, hr.c63, hr.c64, hr.c65, hr.c66, hr.c67, hr.c68, hr.c69, hr.c70, aT, inR, rr, b_11_0]
    have go := c_aoL (a := a) (Q := kont WP 54 40 [some (zr (some (a 0 0))), some (zi u), some (zi al), some (zi N), some (zi i)] [] [] Q) (h := g) hi iv (a 20 (C i)) (apO S 61 (C i) s) (fun g2 hr2 fr2 gc2 gs2 r42 => by
      simp (disch := first | assumption | omega) only [b_54_43, kont_v, kont_n, kont_x, Nat.reduceAdd, ad_some, kd_some, ixa, and_true, true_and, and_self, eq_self, ne_eq, brT, brF, true_or, or_true, and_imp, aT, inR]
      exact ih (i + 1) _ g2 (by omega) (by omega) (by omega) (by omega) ab.2 er hr2 (fr.trans fr2) (gc2.trans gc) (gs2.trans gs) (fun j => (r42 j).trans (r4 j))) 60 61 (C i) s g (.inr hci.1) (fun _ => by have := ms_b (G := fun _ => True) iv (C i); have := iv.2.2.1.1; omega) (fun _ => by rw [fx]; have := ms_b (G := fun j => S 12 j 0 ≠ 2) iv (C i); have := iv.2.2.1.1; omega) (by rw [fx]) h0 (by rw [fx, if_neg (by omega)]; omega) hr Fr_rfl rfl rfl (fun _ => rfl)
    rw [← er20] at go
    exact go
theorem c_export (hi : Ij a) (hr : RepC a S h) (iv : Inv S) (u al : Int) (k : br (0 ≤ u ∧ u < S 0 0 0) (CK a (Sexp S u al) h Q (zi (xpR S u al).1)) (thr h 3 Q)) :
    WP 54 0 [some (zr (some (a 0 0))), some (zi u), some (zi al), none, none] [] h Q := by
  have bn := iv.2.2.1.1
  by_cases c1 : 0 ≤ u ∧ u < S 0 0 0
  · rw [brt c1] at k
    obtain ⟨ok, on⟩ := xp_ok iv u al
    simp (disch := first | assumption | omega) only [b_54_0, b_54_5, b_82_0, kont_v, kont_n, kont_x, Nat.reduceAdd, ad_some, kd_some, ixa, and_true, true_and, and_self, eq_self, ne_eq, brT, brF, true_or, or_true, and_imp, hr.c0, hr.c1, hr.c2, hr.c3, hr.c4, hr.c5, hr.c6, hr.c7, hr.c8, hr.c9, hr.c10, hr.c11, hr.c12, hr.c13, hr.c14, hr.c15, hr.c16, hr.c17, hr.c18, hr.c19, hr.c20, hr.c21, hr.c22, hr.c23, hr.c24, hr.c25, hr.c26, hr.c27, hr.c28, hr.c29, hr.c30, hr.c31, hr.c32, hr.c33, hr.c34, hr.c35, hr.c36, hr.c37, hr.c38, hr.c39, hr.c40, hr.c41, hr.c42, hr.c43, hr.c44, hr.c45, hr.c46, hr.c47, hr.c48, hr.c49, hr.c50, hr.c51, hr.c52, hr.c53, hr.c54, hr.c55, hr.c56, hr.c57, hr.c58, hr.c59, hr.c60, hr.c61, hr.c62, hr.c63, hr.c64, hr.c65, hr.c66, hr.c67, hr.c68, hr.c69, hr.c70, aT, inR, c_str hr iv, c_reqUser hr iv, c_reqNote hr iv, c_reqSign hr iv, c_isHeadR hr iv, c_isSeen hr iv, c_tsize hr iv, c_room hr iv, s_isWithin, s_isRight, s_isContent, s_reqAr, s_reqSt, s_reqIx, s_reqAr1, s_reqAr0, s_reqSt1, s_reqSt0, s_reqIx1, s_reqIx0, brt, brf, b2iT, b2iF, b2i_0, brN, brT, brF, brS, Classical.not_not, not_true_eq_false, not_false_eq_true, b2i_t, b2i_f, one_ne0, zz01, oz01, thr, and_false, false_and, or_self, gK_pI, gL_pI, gR_pI, gI_pI, hi, reduceCtorEq, Nat.reduceEqDiff, Int.reduceEq, if_true, if_false]
    have go := c_chL (a := a) (Q := kont WP 54 8 [some (zr (some (a 0 0))), some (zi u), some (zi al), none, none] [] [] Q) (h := h) hi iv u al c1 (xpN S u al) (xpC S u al) (fun g hr2 fr gc gs row => by
      have w := hr2.wSize hi 0 iv.2.2.2.1
      rw [SX_0] at w
      have hr := hr2
      simp (disch := first | assumption | omega) only [b_54_11, b_54_20, kont_v, kont_n, kont_x, Nat.reduceAdd, ad_some, kd_some, ixa, and_true, true_and, and_self, eq_self, ne_eq, brT, brF, true_or, or_true, and_imp, hr.c0, hr.c1, hr.c2, hr.c3, hr.c4, hr.c5, hr.c6, hr.c7, hr.c8, hr.c9, hr.c10, hr.c11, hr.c12, hr.c13, hr.c14, hr.c15, hr.c16, hr.c17, hr.c18, hr.c19, hr.c20, hr.c21, hr.c22, hr.c23, hr.c24, hr.c25, hr.c26, hr.c27, hr.c28, hr.c29, hr.c30, hr.c31, hr.c32, hr.c33, hr.c34, hr.c35, hr.c36, hr.c37, hr.c38, hr.c39, hr.c40, hr.c41, hr.c42, hr.c43, hr.c44, hr.c45, hr.c46, hr.c47, hr.c48, hr.c49, hr.c50, hr.c51, hr.c52, hr.c53, hr.c54, hr.c55, hr.c56, hr.c57, hr.c58, hr.c59, hr.c60, hr.c61, hr.c62, hr.c63, hr.c64, hr.c65, hr.c66, hr.c67, hr.c68, hr.c69, hr.c70]
      exact c_exL (h := pI g (a 5 0) 1 0) hi iv u al (xpN S u al) (xpC S u al) ok (xpR S u al) row (by omega) (fun g3 hr3 fr3 gc3 gs3 => k a g3 hr3 ⟨hi, fr.trans ((Fr_pI hi (by omega)).trans fr3), by rw [gc3]; show gC g ≤ _; omega, by rw [gs3]; show gS g ≤ _; omega, rfl⟩) (xpN S u al) 0 (0, S 22) _ (by omega) (Int.le_refl _) (by omega) (Int.le_refl _) (BC_0 S _) rfl w Fr_rfl rfl rfl (fun _ => rfl)) (S 7 0 0).toNat 0 0 (fun _ => 0) none h (by omega) (Int.le_refl _) (Int.le_refl _) (okC_0 S _ 0) rfl rfl hr Fr_rfl rfl rfl (fun i i1 i2 => by omega)
    exact go
  · rw [brf c1] at k
    simp (disch := first | assumption | omega) only [b_54_0, b_54_5, b_54_11, b_54_20, b_54_23, b_54_29, b_54_43, b_54_49, kont_v, kont_n, kont_x, Nat.reduceAdd, ad_some, kd_some, ixa, and_true, true_and, and_self, eq_self, ne_eq, brT, brF, true_or, or_true, and_imp, hr.c0, hr.c1, hr.c2, hr.c3, hr.c4, hr.c5, hr.c6, hr.c7, hr.c8, hr.c9, hr.c10, hr.c11, hr.c12, hr.c13, hr.c14, hr.c15, hr.c16, hr.c17, hr.c18, hr.c19, hr.c20, hr.c21, hr.c22, hr.c23, hr.c24, hr.c25, hr.c26, hr.c27, hr.c28, hr.c29, hr.c30, hr.c31, hr.c32, hr.c33, hr.c34, hr.c35, hr.c36, hr.c37, hr.c38, hr.c39, hr.c40, hr.c41, hr.c42, hr.c43, hr.c44, hr.c45, hr.c46, hr.c47, hr.c48, hr.c49, hr.c50, hr.c51, hr.c52, hr.c53, hr.c54, hr.c55, hr.c56, hr.c57, hr.c58, hr.c59, hr.c60, hr.c61, hr.c62, hr.c63, hr.c64, hr.c65, hr.c66, hr.c67, hr.c68, hr.c69, hr.c70, aT, inR, c_str hr iv, c_reqUser hr iv, c_reqNote hr iv, c_reqSign hr iv, c_isHeadR hr iv, c_isSeen hr iv, c_tsize hr iv, c_room hr iv, s_isWithin, s_isRight, s_isContent, s_reqAr, s_reqSt, s_reqIx, s_reqAr1, s_reqAr0, s_reqSt1, s_reqSt0, s_reqIx1, s_reqIx0, brt, brf, b2iT, b2iF, b2i_0, brN, brT, brF, brS, Classical.not_not, not_true_eq_false, not_false_eq_true, b2i_t, b2i_f, one_ne0, zz01, oz01, thr, and_false, false_and, or_self, gK_pI, gL_pI, gR_pI, gI_pI, hi, reduceCtorEq, Nat.reduceEqDiff, Int.reduceEq, if_true, if_false]
    exact k
end
