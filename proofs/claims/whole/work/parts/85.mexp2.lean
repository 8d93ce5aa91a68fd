/-! export OF THE REFERENCE: the orders -/
/-- what holds while rows are made: the heads at 160, the rows at 161 -/
def XI (S : St) (a : Na) (h : Zh) (N : Nat) (C : Int → Int) (b : Na) (g : Zh) (s : Int × (Int → Int → Int)) : Prop :=
  (Ij b ∧ RepM b S g ∧ FM a h b g) ∧ ((gC g : Int) ≤ gC h + 2 + s.1 ∧ (gS g : Int) ≤ gS h + 300 + 4 * s.1) ∧ (gK g (b 160 0) = 10 ∧ gL g (b 160 0) = 60 ∧ ∀ i : Int, 0 ≤ i → i < N → gI g (b 160 0) i = C i) ∧ gK g (b 161 0) = 10 ∧ gL g (b 161 0) = 240 ∧ ∀ p w, 0 ≤ p → p < s.1 → 0 ≤ w → w < 4 → gI g (b 161 0) (4 * p + w) = s.2 p w
section
variable {a : Na} {S : St} {h : Zh} {Q : Zp}
theorem m_rowL (hi : Ij a) (iv : Inv S) (rc : gC h + 80 ≤ MXC) (rs : gS h + 5600 ≤ MXS) (u al : Int) (N : Nat) (hN : (N : Int) ≤ 60) (C : Int → Int) (hc : okC S N C (S 7 0 0)) (k : Int) (hk : 0 ≤ k ∧ k < N) (n : Nat) (hn : n ≤ 60) (sn : sq S (C k) n = -1) (al' : ∀ i : Nat, i < n → sq S (C k) i ≠ -1) (R : Int × (Int → Int → Int)) (hR : R.1 ≤ 60)
    (hQ : ∀ b g (y : Int) (o9 : Option Zv), XI S a h N C b g R → WP 139 245 [some (zr (some (b 100 0))), some (zi u), some (zi al), some (zr (some (b 160 0))), some (zi N), some (zr (some (b 161 0))), some (zi (4 * R.1)), some (zi k), some (zi y), o9] [] g Q) (m : Nat) :
    ∀ (i : Nat) (f : Nat) (s : Int × (Int → Int → Int)) (b : Na) (g : Zh) (o9 : Option Zv), m = n - i → i ≤ n → n ≤ i + f → 0 ≤ s.1 → s.1 + ((n : Int) - i) ≤ 60 → apO S f (sq S (C k) i) s = R → XI S a h N C b g s → gI g (b 100 0) 21 = n → (∀ i : Nat, i < n → gI g (b 122 0) i = sq S (C k) i) →
      WP 139 161 [some (zr (some (b 100 0))), some (zi u), some (zi al), some (zr (some (b 160 0))), some (zi N), some (zr (some (b 161 0))), some (zi (4 * s.1)), some (zi k), some (zi i), o9] [] g Q := by
  have stop : ∀ (f : Nat) (s : Int × (Int → Int → Int)), apO S f (-1) s = s := fun f s => by
    match f with
    | 0 => rfl
    | f + 1 => exact if_pos rfl
  induction m with
  | zero =>
    intro i f s b g o9 e1 e2 ef h0 hb er xi og oa
    have e : i = n := by omega
    rw [e, sn, stop] at er
    obtain ⟨⟨ib, hm, fm⟩, -⟩ := id xi
    rw [b_139_161]
    simp (disch := first | assumption | omega) only [kont_v, kont_n, kont_x, Nat.reduceAdd, ad_some, kd_some, ixa, and_true, true_and, and_self, eq_self, ne_eq, brT, brF, true_or, or_true, and_imp, hm.c0, hm.c1, hm.c2, hm.c3, hm.c4, hm.c5, hm.c6, hm.c7, hm.c8, hm.c9, hm.c10, hm.c11, hm.c12, hm.c13, hm.c14, hm.c15, hm.c16, hm.c17, hm.c18, hm.c19, hm.c20, hm.c21, hm.c22, hm.c23, hm.c24, hm.c25, hm.c26, hm.c27, hm.c28, hm.c29, hm.c30, hm.c31, hm.c32, hm.c33, hm.c34, hm.c35, hm.c36, hm.c37, hm.c38, hm.c39, hm.c40, hm.c41, hm.c42, hm.c43, hm.c44, hm.c45, hm.c46, hm.c47, hm.c48, hm.c49, hm.c50, hm.c51, hm.c52, hm.c53, hm.c54, hm.c55, hm.c56, hm.c57, hm.c58, hm.c59, hm.c60, hm.c61, hm.c62, hm.c63, hm.c64, hm.c65, hm.c66, hm.c67, hm.c68, hm.c69, hm.c70, hm.c71, hm.c72, hm.c73, hm.c74, hm.c75, hm.c76, hm.c77, og, brt]
    rw [er] at xi ⊢
    exact hQ b g i o9 xi
  | succ m ih =>
    intro i f s b g o9 e1 e2 ef h0 hb er xi og oa
    obtain ⟨⟨ib, hm, fm⟩, ⟨gc, gs⟩, ⟨kh, lh, ih'⟩, km, lm, im⟩ := id xi
    have bn := iv.2.2.1.1
    have hck := hc.1 k hk.1 hk.2
    have x0 := al' i (by omega)
    obtain ⟨hx, hg, h11⟩ := sq_nt iv hck.1 hck.2.2.2 i x0
    have hx11 : S 11 (sq S (C k) i) 0 = C k := h11.trans hck.2.2.1
    have oi := oa i (by omega)
    have c1 := hck.1.1
    have c2 := hck.1.2
    match f, ef, er with
    | 0, ef, er => omega
    | f + 1, ef, er =>
      have er : (if sq S (C k) i = -1 then s else apO S f (BH S (sq S (C k) i)) (ap1 S (sq S (C k) i) s)) = R := er
      rw [if_neg x0] at er
      have es : BH S (sq S (C k) i) = sq S (C k) (i + 1) := by rw [sq_s, if_neg x0]
      rw [es] at er
      revert er
      generalize hxx : sq S (C k) i = x at *
      intro er
      have x1 := hx.1
      have x2 := hx.2
      have hi160 := ih' k hk.1 hk.2
      rw [b_139_161]
      simp (disch := first | assumption | omega) only [kont_v, kont_n, kont_x, Nat.reduceAdd, ad_some, kd_some, ixa, and_true, true_and, and_self, eq_self, ne_eq, brT, brF, true_or, or_true, and_imp, hm.c0, hm.c1, hm.c2, hm.c3, hm.c4, hm.c5, hm.c6, hm.c7, hm.c8, hm.c9, hm.c10, hm.c11, hm.c12, hm.c13, hm.c14, hm.c15, hm.c16, hm.c17, hm.c18, hm.c19, hm.c20, hm.c21, hm.c22, hm.c23, hm.c24, hm.c25, hm.c26, hm.c27, hm.c28, hm.c29, hm.c30, hm.c31, hm.c32, hm.c33, hm.c34, hm.c35, hm.c36, hm.c37, hm.c38, hm.c39, hm.c40, hm.c41, hm.c42, hm.c43, hm.c44, hm.c45, hm.c46, hm.c47, hm.c48, hm.c49, hm.c50, hm.c51, hm.c52, hm.c53, hm.c54, hm.c55, hm.c56, hm.c57, hm.c58, hm.c59, hm.c60, hm.c61, hm.c62, hm.c63, hm.c64, hm.c65, hm.c66, hm.c67, hm.c68, hm.c69, hm.c70, hm.c71, hm.c72, hm.c73, hm.c74, hm.c75, hm.c76, hm.c77, og, brf]
      rw [b_139_170]
      refine ⟨⟨by omega, by omega, by omega, ?_⟩, ?_⟩
      · show gS g + 4 ≤ MXS
        omega
      refine newM ib hm iv.2.1.1 162 0 4 10 (by omega) (by omega) (nl16 S (by omega)) (G := fun q g => WP 139 173 [some (zr (some (b 100 0))), some (zi u), some (zi al), some (zr (some (b 160 0))), some (zi N), some (zr (some (b 161 0))), some (zi (4 * s.1)), some (zi k), some (zi i), o9] [zr (some q)] g Q) (fun b2 g2 ib2 hm2 fm2 gc2 gs2 kq lq liv => ?_)
      obtain ⟨e160, s160⟩ := liv 160 0 (by omega) (by omega)
      obtain ⟨e161, s161⟩ := liv 161 0 (by omega) (by omega)
      obtain ⟨e122, s122⟩ := liv 122 0 (by rw [hm.O.1]; omega) (by omega)
      obtain ⟨e100, s100⟩ := liv 100 0 (by rw [hm.A.1]; omega) (by omega)
      rw [← e100, ← e160, ← e161]
      rw [← e160] at s160 kh lh ih'
      rw [← e161] at s161 km lm im
      rw [← e122] at s122 oa
      rw [← e100] at s100 og
      have kh2 : gK g2 (b2 160 0) = 10 := s160.1.trans kh
      have lh2 : gL g2 (b2 160 0) = 60 := s160.2.1.trans lh
      have ih2 : ∀ i : Int, 0 ≤ i → i < N → gI g2 (b2 160 0) i = C i := fun i i1 i2 => (s160.2.2.1 i).trans (ih' i i1 i2)
      have km2 : gK g2 (b2 161 0) = 10 := s161.1.trans km
      have lm2 : gL g2 (b2 161 0) = 240 := s161.2.1.trans lm
      have oi2 : gI g2 (b2 122 0) i = x := (s122.2.2.1 _).trans (e122 ▸ oi)
      have og2 : gI g2 (b2 100 0) 21 = n := (s100.2.2.1 _).trans og
      have ck2 := ih2 k hk.1 hk.2
      have hm0 := hm
      clear hm
      have hm := hm2
      have bb := iv.2.1.1
      have n162 := nl16 S (f := 162) (by omega)
      have n161 := nl16 S (f := 161) (by omega)
      have w1 := hm2.wI ib2 bb n162 (k := 0) (x := x)
      have w2 := w1.wI ib2 bb n162 (k := 1) (x := S 23 x 0)
      have w3 := w2.wI ib2 bb n162 (k := 2) (x := S 13 (C k) 0)
      have w4 := w3.wI ib2 bb n162 (k := 3) (x := CO S x)
      have w5 := w4.wC ib2 bb n161 (s := b2 162 0) (sp := 0) (dp := 4 * s.1) (n := 4)
      have md := fun (Q : Zp) => m_depth (Q := Q) w1 iv x hx
      have mc := fun (Q : Zp) => m_content (Q := Q) w3 iv x hx hg
      simp (disch := first | assumption | omega) only [b_139_173, b_139_183, b_139_196, b_139_197, b_139_209, b_139_222, b_139_223, b_139_236, kont_v, kont_n, kont_x, Nat.reduceAdd, ad_some, kd_some, ixa, and_true, true_and, and_self, eq_self, ne_eq, brT, brF, true_or, or_true, and_imp, hm.c0, hm.c1, hm.c2, hm.c3, hm.c4, hm.c5, hm.c6, hm.c7, hm.c8, hm.c9, hm.c10, hm.c11, hm.c12, hm.c13, hm.c14, hm.c15, hm.c16, hm.c17, hm.c18, hm.c19, hm.c20, hm.c21, hm.c22, hm.c23, hm.c24, hm.c25, hm.c26, hm.c27, hm.c28, hm.c29, hm.c30, hm.c31, hm.c32, hm.c33, hm.c34, hm.c35, hm.c36, hm.c37, hm.c38, hm.c39, hm.c40, hm.c41, hm.c42, hm.c43, hm.c44, hm.c45, hm.c46, hm.c47, hm.c48, hm.c49, hm.c50, hm.c51, hm.c52, hm.c53, hm.c54, hm.c55, hm.c56, hm.c57, hm.c58, hm.c59, hm.c60, hm.c61, hm.c62, hm.c63, hm.c64, hm.c65, hm.c66, hm.c67, hm.c68, hm.c69, hm.c70, hm.c71, hm.c72, hm.c73, hm.c74, hm.c75, hm.c76, hm.c77, aT, inR, kq, lq, kh2, lh2, km2, lm2, oi2, ck2, md, mc, gK_pI, gL_pI, gR_pI, gI_pI, ib2, reduceCtorEq, Nat.reduceEqDiff, Int.reduceEq, and_false, false_and, if_false]
      have e4 : 4 * s.1 + 4 = 4 * (ap1 S x s).1 := by show 4 * s.1 + 4 = 4 * (s.1 + 1); omega
      have ei : ((i : Int) + 1) = ((i + 1 : Nat) : Int) := by omega
      rw [e4, ei]
      have sX : ∀ f2, f2 ≠ 162 → f2 ≠ 161 → sm g2 (cpy (pI (pI (pI (pI g2 (b2 162 0) 0 x) (b2 162 0) 1 (S 23 x 0)) (b2 162 0) 2 (S 13 (C k) 0)) (b2 162 0) 3 (CO S x)) (b2 162 0) 0 (b2 161 0) (4 * s.1) 4) (b2 f2 0) := fun f2 h1 h2 => (smI ib2 (.inl h1)).trans ((smI ib2 (.inl h1)).trans ((smI ib2 (.inl h1)).trans ((smI ib2 (.inl h1)).trans (smC ib2 (.inl h2)))))
      refine ih (i + 1) f (ap1 S x s) b2 _ _ (by omega) (by omega) (by omega) (by show 0 ≤ s.1 + 1; omega) (by show s.1 + 1 + _ ≤ 60; omega) er ⟨⟨ib2, w5, fm.trans (fm2.trans ?_)⟩, ⟨?_, ?_⟩, ⟨kh2, lh2, fun i i1 i2 => ((sX 160 (by omega) (by omega)).2.2.1 i).trans (ih2 i i1 i2)⟩, km2, lm2, fun p w p1 p2 w1 w2 => ?_⟩ (((sX 100 (by omega) (by omega)).2.2.1 _).trans og2) (fun j j1 => ((sX 122 (by omega) (by omega)).2.2.1 _).trans ((s122.2.2.1 _).trans (oa j j1)))
      · exact (FM.I ib2 (by omega) (by omega) (by omega)).trans ((FM.I ib2 (by omega) (by omega) (by omega)).trans ((FM.I ib2 (by omega) (by omega) (by omega)).trans ((FM.I ib2 (by omega) (by omega) (by omega)).trans (FM.C ib2 (by omega) (by omega)))))
      · show (gC g2 : Int) ≤ gC h + 2 + (s.1 + 1); omega
      · show (gS g2 : Int) ≤ gS h + 300 + 4 * (s.1 + 1); omega
      · have p2 : p < s.1 + 1 := p2
        show _ = if p = s.1 then row S x w else s.2 p w
        rw [gI_cpy]
        by_cases q : p = s.1
        · rw [if_pos q, if_pos ⟨rfl, by omega, by omega⟩, show 0 + (4 * p + w - 4 * s.1) = w by omega]
          have : w = 0 ∨ w = 1 ∨ w = 2 ∨ w = 3 := by omega
          unfold row
          rw [hx11]
          rcases this with rfl | rfl | rfl | rfl <;> simp (disch := first | assumption | omega) only [gI_pI, ib2, Int.reduceEq, and_false, false_and, and_true, true_and, if_true, if_false, eq_self]
        · rw [if_neg q, if_neg (fun z => by omega)]
          simp (disch := first | assumption | omega) only [gI_pI, ib2, reduceCtorEq, Nat.reduceEqDiff, false_and, if_false]
          exact (s161.2.2.1 _).trans (im p w p1 (by omega) w1 w2)
end
