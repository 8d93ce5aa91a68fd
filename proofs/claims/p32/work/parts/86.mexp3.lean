/-! export OF THE REFERENCE: the call -/
section
variable {a : Na} {S : St} {h : Zh} {Q : Zp}
/-- the rows are kept in a new array -/
theorem RepM.newX (hi : Ij a) (hm : RepM a S h) (hv : 0 ≤ S 2 0 0 ∧ S 2 0 0 ≤ 60) {q : Nat} {n : Int} {E : Int → Int → Int} (h0 : 0 ≤ n) (hq : gK h q = 0) (k161 : gK h (a 161 0) = 10) (rows : ∀ p w, 0 ≤ p → p < n → 0 ≤ w → w < 4 → gI h (a 161 0) (4 * p + w) = E p w) :
    RepM (nm a 120 0 q) (SX S n E) (cpy (pR (nw h q 10 (4 * n)) (a 100 0) 20 (some q)) (a 161 0) 0 q 0 (4 * n)) := by
  have k100 : gK h (a 100 0) = 7 := hm.A.1
  have k120 := hm.X.1
  have n100 : q ≠ a 100 0 := fun e => by rw [e] at hq; omega
  have n161 : a 161 0 ≠ q := fun e => by rw [← e] at hq; omega
  have b100 : nm a 120 0 q 100 0 = a 100 0 := nm_live hq (by omega) (by omega)
  have bq : nm a 120 0 q 120 0 = q := nm_self _ _ _ _
  have L : ∀ f i, ¬ (f = 120 ∧ i = 0) → f ≠ 100 → gK h (a f i) ≠ 0 → nm a 120 0 q f i = a f i ∧ sm h (cpy (pR (nw h q 10 (4 * n)) (a 100 0) 20 (some q)) (a 161 0) 0 q 0 (4 * n)) (a f i) := fun f i h1 h2 h3 =>
    ⟨nm_live hq h3 h1, ((sm_nw (fun e => h3 (by rw [e]; exact hq))).trans (smR hi (.inl h2))).trans (sm_cpy (fun e => h3 (by rw [e]; exact hq)))⟩
  refine .mk ?_ ?_ ?_ ?_ (fun f f1 f2 => ?_) ?_ ?_ ?_
  · have w := hm.A
    obtain ⟨w0, w1, w2, w3, w4, w5, w6, w7, w8, w9, w10, w11, w12, w13, w14, w15, w16, w17, w18, w19, w20, w21⟩ := w
    have nb : ∀ f : Nat, f ≠ 120 → gK h (a f 0) ≠ 0 → nm a 120 0 q f 0 = a f 0 := fun f h1 h2 => nm_live hq h2 (fun e => h1 e.1)
    have kR : ∀ f, 8 ≤ f → f ≤ 18 → gK h (a (100 + f) 0) ≠ 0 := fun f f1 f2 => by have := (hm.R f f1 f2).1; split at this <;> omega
    have e0 : SX S n E 0 0 0 = S 0 0 0 := rfl
    have e6 : SX S n E 6 0 0 = S 6 0 0 := rfl
    have e2 : SX S n E 2 0 0 = S 2 0 0 := rfl
    have e7 : SX S n E 7 0 0 = S 7 0 0 := rfl
    unfold MA
    rw [b100, bq, nb 102 (by omega) (by have := hm.U.1; omega), nb 104 (by omega) (by have := hm.S'.1; omega), nb 105 (by omega) (by have := hm.V.1; omega), nb 108 (by omega) (kR 8 (by omega) (by omega)), nb 109 (by omega) (kR 9 (by omega) (by omega)), nb 110 (by omega) (kR 10 (by omega) (by omega)), nb 111 (by omega) (kR 11 (by omega) (by omega)), nb 112 (by omega) (kR 12 (by omega) (by omega)), nb 113 (by omega) (kR 13 (by omega) (by omega)), nb 114 (by omega) (kR 14 (by omega) (by omega)), nb 115 (by omega) (kR 15 (by omega) (by omega)), nb 116 (by omega) (kR 16 (by omega) (by omega)), nb 117 (by omega) (kR 17 (by omega) (by omega)), nb 118 (by omega) (kR 18 (by omega) (by omega)), nb 119 (by omega) (by have := hm.Q.1; omega), nb 122 (by omega) (by have := hm.O.1; omega), e0, e6, e2, e7]
    have nn : ¬ (a 100 0 = q) := fun e => n100 e.symm
    simp only [gK_cpy, gI_cpy, gR_cpy, gK_pR, gI_pR, gR_pR, gK_nw, gI_nw, gR_nw, nn, w0, w1, w2, w3, w4, w5, w6, w7, w8, w9, w10, w11, w12, w13, w14, w15, w16, w17, w18, w19, w21, true_and, and_true, false_and, Int.reduceEq, if_false, if_true]
  · have l := L 102 0 (by omega) (by omega) (by have := hm.U.1; omega)
    have z := hm.U.c (T := SX S n E) l.2 (fun _ => rfl)
    unfold MU at z ⊢
    rw [l.1]
    exact z
  · have l := L 104 0 (by omega) (by omega) (by have := hm.S'.1; omega)
    have z := hm.S'.c (T := SX S n E) l.2 rfl (fun _ => rfl)
    unfold MS at z ⊢
    rw [l.1]
    exact z
  · have l := L 105 0 (by omega) (by omega) (by have := hm.V.1; omega)
    have lv : ∀ v, 0 ≤ v → v ≤ S 2 0 0 → _ := fun v h1 h2 => L 150 v (by omega) (by omega) (by have := hm.V.2.2.2.1 v h1 h2; omega)
    obtain ⟨v0, v1, v2, v3, v4, v5⟩ := hm.V
    obtain ⟨s0, s1, s2, s3, -⟩ := l.2
    unfold MV
    rw [l.1, s0, s1]
    refine ⟨v0, v1, fun v h1 h2 => ?_, fun v h1 h2 => ?_, fun v h1 h2 => ?_, fun v p h1 h2 h3 h4 => ?_⟩
    · rw [s3, (lv v h1 h2).1]; exact v2 v h1 h2
    · rw [(lv v h1 h2).1, (lv v h1 h2).2.1]; exact v3 v h1 h2
    · rw [(lv v h1 h2).1, (lv v h1 h2).2.2.1]; exact v4 v h1 h2
    · rw [(lv v h1 h2).1, (lv v h1 h2).2.2.2.1]; exact v5 v p h1 h2 h3 h4
  · have l := L (100 + f) 0 (by omega) (by omega) (by have := (hm.R f f1 f2).1; split at this <;> omega)
    have z := (hm.R f f1 f2).c (T := SX S n E) l.2 (fun _ => by unfold SX; rw [if_neg (by omega), if_neg (by omega)])
    unfold AR at z ⊢
    rw [l.1]
    exact z
  · have l := L 119 0 (by omega) (by omega) (by have := hm.Q.1; omega)
    obtain ⟨q0, q1, q2, q3, q4, q5⟩ := hm.Q
    have lk : ∀ k, hd S k → _ := fun k h1 => L 151 k (by omega) (by omega) (by have := q3 k h1; omega)
    obtain ⟨s0, s1, s2, s3, -⟩ := l.2
    unfold MQu
    rw [l.1, s0, s1]
    refine ⟨q0, q1, fun k h1 => ?_, fun k h1 => ?_, fun k h1 => ?_, fun k i h1 h2 h3 => ?_⟩
    · rw [s3, (lk k h1).1]; exact q2 k h1
    · rw [(lk k h1).1, (lk k h1).2.1]; exact q3 k h1
    · rw [(lk k h1).1, (lk k h1).2.2.1]; exact q4 k h1
    · rw [(lk k h1).1, (lk k h1).2.2.2.1]; exact q5 k i h1 h2 h3
  · unfold MX
    rw [bq, SX_21]
    refine ⟨?_, ?_, fun p w p1 p2 w1 w2 => ?_⟩
    · rw [gK_cpy, gK_pR, gK_nw, if_pos rfl]
    · rw [gL_cpy, gL_pR, gL_nw, if_pos rfl]
    · rw [gI_cpy, if_pos ⟨rfl, by omega, by omega⟩, gI_pR, gI_nw, if_neg n161, show 0 + (4 * p + w - 0) = 4 * p + w by omega, SX_22]
      exact rows p w p1 p2 w1 w2
  · have l := L 122 0 (by omega) (by omega) (by have := hm.O.1; omega)
    have z := hm.O.c l.2
    unfold MO at z ⊢
    rw [l.1]
    exact z
end
