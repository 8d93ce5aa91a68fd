/-! THE PAGE: put and cut -/
theorem su_same (S : St) (k : Nat) (i j : Int) : su S k i j (S k i j) = S := by
  funext k2 i2 j2
  unfold su
  split
  · next c => rw [c.1, c.2.1, c.2.2]
  · rfl
/-- what the loops over the notes ask of a state: the tree, the anchors -/
def TrL (T : St) : Prop := (0 ≤ T 7 0 0 ∧ T 7 0 0 ≤ 60) ∧ (∀ k, nt T k → (T 10 k 0 = -1 ∧ T 11 k 0 = k) ∨ (0 ≤ T 10 k 0 ∧ T 11 k 0 ≠ k)) ∧ (∀ k, hd T k → 0 ≤ T 13 k 0 ∧ T 13 k 0 ≤ 200 ∧ 0 ≤ T 14 k 0 ∧ T 14 k 0 ≤ 200 ∧ 1 ≤ T 19 k 0)
theorem TrL_of {S T : St} (iv : Inv S) (e : ∀ k i j, 7 ≤ k → T k i j = S k i j) : TrL T := by
  obtain ⟨u0, u1⟩ := iv.2.1.1
  obtain ⟨u2, u3⟩ := iv.2.1.2.1 (S 2 0 0) u0 (Int.le_refl _)
  refine ⟨?_, fun k hk => ?_, fun k hk => ?_⟩
  · rw [e 7 0 0 (by omega)]; exact iv.2.2.1.1
  · have hk2 : nt S k := ⟨hk.1, by have := hk.2; rw [e 7 0 0 (by omega)] at this; exact this⟩
    rw [e 10 k 0 (by omega), e 11 k 0 (by omega)]
    rcases iv_par iv hk2 with q | q
    · exact .inl q
    · exact .inr ⟨q.1.1, by have := q.2.2.1; omega⟩
  · have hk2 : nt S k := ⟨hk.1.1, by have := hk.1.2; rw [e 7 0 0 (by omega)] at this; exact this⟩
    have hk3 : hd S k := ⟨hk2, by have := hk.2; rw [e 11 k 0 (by omega)] at this; exact this⟩
    rw [e 13 k 0 (by omega), e 14 k 0 (by omega), e 19 k 0 (by omega)]
    have := (iv.2.2.1.2.2.2.1 k hk3)
    have h1 := this.1
    have h2 := this.2.2.2.2.2.1.1
    omega
section
variable {a : Na} {S T : St} {h : Zh} {Q : Zp}
theorem p_putL (hi : Ij a) (it : ItP T) (tr : TrL T) (p n s : Int) (hn : 0 ≤ n ∧ n ≤ 40) (r4 : Option Nat) (hQ : ∀ g, RepP a (MP T (T 7 0 0) p n) g → EP a h a g 0 0 0 → Q (.inl none) g) (m : Nat) :
    ∀ (i : Int) (g : Zh) (o8 : Option Zv), m = (T 7 0 0 - i).toNat → 0 ≤ i → i ≤ T 7 0 0 → RepP a (MP T i p n) g → EP a h a g 0 0 0 →
      WP 96 83 [some (zr (some (a 200 0))), some (zi p), some (zi n), some (zi s), some (zr r4), some (zr (some (a 204 0))), some (zi (T 7 0 0)), some (zi i), o8] [] g Q := by
  obtain ⟨⟨hN, hN2⟩, ht, hb⟩ := tr
  induction m with
  | zero =>
    intro i g o8 e1 e2 e3 hp ep
    have e : i = T 7 0 0 := by omega
    rw [b_96_83, brt (by omega), b_96_153]
    rw [e] at hp
    exact hQ g hp ep
  | succ m ih =>
    intro i g o8 e1 e2 e3 hp ep
    have hk : nt T i := ⟨e2, by omega⟩
    have hk2 : nt (MP T i p n) i := hk
    have f0 := hp.q20
    have f1 : gL g (a 204 0) = T 7 0 0 := hp.q21
    have f2 := hp.q22 i hk2
    have f3 := hp.q23 i hk2
    have f4 : gL g (a 206 i) = if T 10 i 0 = -1 then 11 + T 19 i 0 else 5 := hp.q24 i hk2
    have f5 : gI g (a 206 i) 2 = T 10 i 0 := hp.q26 i hk2
    have ep2 : ∀ {j x : Int}, EP a g a (pI g (a 206 i) j x) 0 0 0 := EP.row hi (by omega)
    rw [b_96_83, brf (by omega), b_96_90]
    by_cases c : T 11 i 0 = i
    · have hh : hd T i := ⟨hk, c⟩
      have hh2 : hd (MP T i p n) i := hh
      have b := hb i hh
      have t10 : T 10 i 0 = -1 := by
        rcases ht i hk with q | q
        · exact q.1
        · exact absurd c q.2
      rw [if_pos t10] at f4
      have e13 : MP T i p n 13 i 0 = T 13 i 0 := by unfold MP; rw [if_neg (by omega), if_neg (by omega)]
      have e14 : MP T i p n 14 i 0 = T 14 i 0 := by unfold MP; rw [if_neg (by omega), if_neg (by omega)]
      have g5 : gI g (a 206 i) 5 = T 13 i 0 := (hp.q29 i hh2).trans e13
      have g6 : gI g (a 206 i) 6 = T 14 i 0 := (hp.q30 i hh2).trans e14
      have w := MP_s T i p n e2 c
      simp (disch := first | assumption | omega) only [kont_v, kont_n, kont_x, Nat.reduceAdd, ad_some, kd_some, ixa, and_true, true_and, and_self, eq_self, ne_eq, brT, brF, true_or, or_true, and_imp, f0, f1, f2, f3, f4, f5, t10, brt, aT, inR, b_96_107, g5]
      by_cases c1 : p ≤ T 13 i 0
      · rw [mF, mT, if_pos c1, if_pos (.inl c1)] at w
        have hp2 := (hp.w13 hi it i (T 13 i 0 + n)).w14 hi it i (T 14 i 0 + n)
        rw [w] at hp2
        simp (disch := first | assumption | omega) only [kont_v, kont_n, kont_x, Nat.reduceAdd, ad_some, kd_some, ixa, and_true, true_and, and_self, eq_self, ne_eq, brT, brF, true_or, or_true, and_imp, f0, f1, f2, f3, f4, f5, brf, aT, inR, b_96_115, b_96_123, b_96_138, b_96_147, g5, g6, gK_pI, gL_pI, gI_pI, and_false, if_false, Int.reduceEq]
        exact ih (i + 1) _ _ (by omega) (by omega) (by omega) hp2 (((ep.trans ep2).trans (EP.row hi (by omega))).le (by omega) (by omega) (by omega))
      · by_cases c2 : p < T 14 i 0
        · rw [mF, mT, if_neg c1, if_pos (.inr c2), ← e13, su_same] at w
          have hp2 := hp.w14 hi it i (T 14 i 0 + n)
          rw [w] at hp2
          simp (disch := first | assumption | omega) only [kont_v, kont_n, kont_x, Nat.reduceAdd, ad_some, kd_some, ixa, and_true, true_and, and_self, eq_self, ne_eq, brT, brF, true_or, or_true, and_imp, f0, f1, f2, f3, f4, f5, brt, aT, inR, b_96_126, b_96_138, b_96_147, g5, g6]
          exact ih (i + 1) _ _ (by omega) (by omega) (by omega) hp2 ((ep.trans ep2).le (by omega) (by omega) (by omega))
        · rw [mF, mT, if_neg c1, if_neg (by omega), ← e13, su_same, ← e14, su_same] at w
          rw [w] at hp
          simp (disch := first | assumption | omega) only [kont_v, kont_n, kont_x, Nat.reduceAdd, ad_some, kd_some, ixa, and_true, true_and, and_self, eq_self, ne_eq, brT, brF, true_or, or_true, and_imp, f0, f1, f2, f3, f4, f5, brt, brf, aT, inR, b_96_126, b_96_135, b_96_147, g5, g6]
          exact ih (i + 1) _ _ (by omega) (by omega) (by omega) hp ep
    · have t10 : 0 ≤ T 10 i 0 := by
        rcases ht i hk with q | q
        · exact absurd q.2 c
        · exact q.1
      rw [if_neg (by omega)] at f4
      rw [MP_n T i p n c] at hp
      simp (disch := first | assumption | omega) only [kont_v, kont_n, kont_x, Nat.reduceAdd, ad_some, kd_some, ixa, and_true, true_and, and_self, eq_self, ne_eq, brT, brF, true_or, or_true, and_imp, f0, f1, f2, f3, f4, f5, brf, aT, inR, b_96_104, b_96_147]
      exact ih (i + 1) _ _ (by omega) (by omega) (by omega) hp ep
theorem p_cutL (hi : Ij a) (it : ItP T) (tr : TrL T) (p n : Int) (hn : 0 ≤ n ∧ n ≤ 200) (hp0 : 0 ≤ p ∧ p ≤ 200) (r3 r4 : Option Nat) (hQ : ∀ g, RepP a (MC T (T 7 0 0) p n) g → EP a h a g 0 0 0 → Q (.inl none) g) (m : Nat) :
    ∀ (i : Int) (g : Zh) (o8 o9 : Option Zv), m = (T 7 0 0 - i).toNat → 0 ≤ i → i ≤ T 7 0 0 → RepP a (MC T i p n) g → EP a h a g 0 0 0 →
      WP 97 73 [some (zr (some (a 200 0))), some (zi p), some (zi n), some (zr r3), some (zr r4), some (zr (some (a 204 0))), some (zi (T 7 0 0)), some (zi i), o8, o9] [] g Q := by
  obtain ⟨⟨hN, hN2⟩, ht, hb⟩ := tr
  induction m with
  | zero =>
    intro i g o8 o9 e1 e2 e3 hp ep
    have e : i = T 7 0 0 := by omega
    rw [b_97_73, brt (by omega), b_97_163]
    rw [e] at hp
    exact hQ g hp ep
  | succ m ih =>
    intro i g o8 o9 e1 e2 e3 hp ep
    have hk : nt T i := ⟨e2, by omega⟩
    have hk2 : nt (MC T i p n) i := hk
    have f0 := hp.q20
    have f1 : gL g (a 204 0) = T 7 0 0 := hp.q21
    have f2 := hp.q22 i hk2
    have f3 := hp.q23 i hk2
    have f4 : gL g (a 206 i) = if T 10 i 0 = -1 then 11 + T 19 i 0 else 5 := hp.q24 i hk2
    have f5 : gI g (a 206 i) 2 = T 10 i 0 := hp.q26 i hk2
    rw [b_97_73, brf (by omega), b_97_80]
    by_cases c : T 11 i 0 = i
    · have hh : hd T i := ⟨hk, c⟩
      have hh2 : hd (MC T i p n) i := hh
      have b := hb i hh
      have t10 : T 10 i 0 = -1 := by
        rcases ht i hk with q | q
        · exact q.1
        · exact absurd c q.2
      rw [if_pos t10] at f4
      have e13 : MC T i p n 13 i 0 = T 13 i 0 := by unfold MC; rw [if_neg (by omega), if_neg (by omega)]
      have e14 : MC T i p n 14 i 0 = T 14 i 0 := by unfold MC; rw [if_neg (by omega), if_neg (by omega)]
      have g5 : gI g (a 206 i) 5 = T 13 i 0 := (hp.q29 i hh2).trans e13
      have g6 : gI g (a 206 i) 6 = T 14 i 0 := (hp.q30 i hh2).trans e14
      have w := MC_s T i p n e2 c
      simp (disch := first | assumption | omega) only [kont_v, kont_n, kont_x, Nat.reduceAdd, ad_some, kd_some, ixa, and_true, true_and, and_self, eq_self, ne_eq, brT, brF, true_or, or_true, and_imp, f0, f1, f2, f3, f4, f5, t10, brt, aT, inR, b_97_97]
      -- one border
      have one : ∀ (j f : Int) (g9 : Zh), (j = 5 ∨ j = 6) → gK g9 (a 206 i) = 10 → gL g9 (a 206 i) = 11 + T 19 i 0 → gI g9 (a 206 i) j = f → 0 ≤ f ∧ f ≤ 200 →
          WP 97 100 [some (zr (some (a 200 0))), some (zi p), some (zi n), some (zr r3), some (zr r4), some (zr (some (a 204 0))), some (zi (T 7 0 0)), some (zi i), some (zr (some (a 206 i))), some (zi (j + 1))] [] (pI g9 (a 206 i) j (ct f p n)) Q →
          WP 97 100 [some (zr (some (a 200 0))), some (zi p), some (zi n), some (zr r3), some (zr r4), some (zr (some (a 204 0))), some (zi (T 7 0 0)), some (zi i), some (zr (some (a 206 i))), some (zi j)] [] g9 Q := fun j f g9 hj k9 l9 i9 hf kk => by
        rw [b_97_100, brf (by omega), b_97_107]
        by_cases d1 : f ≤ p
        · rw [show ct f p n = f by unfold ct; rw [if_pos d1]] at kk
          simp (disch := first | assumption | omega) only [kont_v, kont_n, kont_x, Nat.reduceAdd, ad_some, kd_some, ixa, and_true, true_and, and_self, eq_self, ne_eq, brT, brF, true_or, or_true, and_imp, k9, l9, i9, brf, aT, inR, b_97_120, b_97_150, b_97_151]
          exact kk
        · by_cases d2 : f < p + n
          · rw [show ct f p n = p by unfold ct; rw [if_neg d1, if_pos (by omega)]] at kk
            simp (disch := first | assumption | omega) only [kont_v, kont_n, kont_x, Nat.reduceAdd, ad_some, kd_some, ixa, and_true, true_and, and_self, eq_self, ne_eq, brT, brF, true_or, or_true, and_imp, k9, l9, i9, brt, aT, inR, b_97_128, b_97_149, b_97_150, b_97_151]
            exact kk
          · have e9 : ct f p n = f - n := by
              unfold ct
              rw [if_neg d1]
              split <;> omega
            rw [e9] at kk
            simp (disch := first | assumption | omega) only [kont_v, kont_n, kont_x, Nat.reduceAdd, ad_some, kd_some, ixa, and_true, true_and, and_self, eq_self, ne_eq, brT, brF, true_or, or_true, and_imp, k9, l9, i9, brt, brf, aT, inR, b_97_128, b_97_139, b_97_150, b_97_151]
            exact kk
      refine one 5 (T 13 i 0) g (.inl rfl) f3 f4 g5 ⟨b.1, b.2.1⟩ ?_
      refine one 6 (T 14 i 0) _ (.inr rfl) f3 f4 (by rw [gI_pI, if_neg (by omega)]; exact g6) ⟨b.2.2.1, b.2.2.2.1⟩ ?_
      have hp2 := (hp.w13 hi it i (ct (T 13 i 0) p n)).w14 hi it i (ct (T 14 i 0) p n)
      rw [w] at hp2
      simp (disch := first | assumption | omega) only [kont_v, kont_n, kont_x, Nat.reduceAdd, ad_some, kd_some, ixa, and_true, true_and, and_self, eq_self, ne_eq, brT, brF, true_or, or_true, and_imp, brt, aT, inR, b_97_100, b_97_157]
      exact ih (i + 1) _ _ _ (by omega) (by omega) (by omega) hp2 (((ep.trans (EP.row hi (by omega))).trans (EP.row hi (by omega))).le (by omega) (by omega) (by omega))
    · have t10 : 0 ≤ T 10 i 0 := by
        rcases ht i hk with q | q
        · exact absurd q.2 c
        · exact q.1
      rw [if_neg (by omega)] at f4
      rw [MC_n T i p n c] at hp
      simp (disch := first | assumption | omega) only [kont_v, kont_n, kont_x, Nat.reduceAdd, ad_some, kd_some, ixa, and_true, true_and, and_self, eq_self, ne_eq, brT, brF, true_or, or_true, and_imp, f0, f1, f2, f3, f4, f5, brf, aT, inR, b_97_94, b_97_157]
      exact ih (i + 1) _ _ _ (by omega) (by omega) (by omega) hp ep
end
