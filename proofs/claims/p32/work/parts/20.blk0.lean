/-! BLOCKS: what stands behind each straight stretch of code -/
def blk : Nat → Zx
  | 0 => WP
  | n + 1 => fun m pc ls st h Q => opP m pc (blk n) m pc ls st h Q
theorem WP_blk (n m pc : Nat) (ls : Zl) (st : List Zv) (h : Zh) (Q : Zp) : WP m pc ls st h Q = blk n m pc ls st h Q := by
  have e : ∀ n, blk n = WP := by
    intro n
    induction n with
    | zero => rfl
    | succ n ih =>
      funext m pc ls st h Q
      show opP m pc (blk n) m pc ls st h Q = _
      rw [ih, ← WP_eq]
  rw [e]
theorem kont_v (m pc : Nat) (ls : Zl) (r : List Zv) (hs : List (Nat × Nat)) (Q : Zp) (v : Zv) (h : Zh) : kont WP m pc ls r hs Q (.inl (some v)) h = WP m (pc + 3) ls (v :: r) h Q := rfl
theorem kont_n (m pc : Nat) (ls : Zl) (r : List Zv) (hs : List (Nat × Nat)) (Q : Zp) (h : Zh) : kont WP m pc ls r hs Q (.inl none) h = WP m (pc + 3) ls r h Q := rfl
theorem kont_x (m pc : Nat) (ls : Zl) (r : List Zv) (Q : Zp) (e : Nat) (h : Zh) : kont WP m pc ls r [] Q (.inr e) h = Q (.inr e) h := rfl
theorem kont_h (m pc : Nat) (ls : Zl) (r : List Zv) (z : Nat × Nat) (t : List (Nat × Nat)) (Q : Zp) (e : Nat) (h : Zh) : kont WP m pc ls r (z :: t) Q (.inr e) h = (match (z :: t).lookup e with | some t => ∀ q, WP m t ls [zr (some q)] h Q | none => False) := rfl

-- 0: Marginalia$Anchor.<init>(II)V
theorem b_0_0 (r0 : Option Nat) (x1 : Int) (x2 : Int) (h : Zh) (Q : Zp) : WP 0 0 [some (zr r0), some (zi x1), some (zi x2)] [] h Q = (r0 ≠ none ∧ (kd h r0 1 ∧ (WP 0 9 [some (zr r0), some (zi x1), some (zi x2)] [] (pI h (ad r0) 0 x1) Q))) :=
  (WP_blk 5 0 0 _ _ h Q).trans rfl
theorem b_0_9 (r0 : Option Nat) (x1 : Int) (x2 : Int) (h : Zh) (Q : Zp) : WP 0 9 [some (zr r0), some (zi x1), some (zi x2)] [] h Q = (kd h r0 1 ∧ (WP 0 14 [some (zr r0), some (zi x1), some (zi x2)] [] (pI h (ad r0) 1 x2) Q)) :=
  (WP_blk 3 0 9 _ _ h Q).trans rfl
theorem b_0_14 (r0 : Option Nat) (x1 : Int) (x2 : Int) (h : Zh) (Q : Zp) : WP 0 14 [some (zr r0), some (zi x1), some (zi x2)] [] h Q = (Q (.inl none) h) :=
  (WP_blk 1 0 14 _ _ h Q).trans rfl
-- 1: Marginalia$Anchor.lay(II)V
theorem b_1_0 (r0 : Option Nat) (x1 : Int) (x2 : Int) (h : Zh) (Q : Zp) : WP 1 0 [some (zr r0), some (zi x1), some (zi x2)] [] h Q = (kd h r0 1 ∧ (WP 1 5 [some (zr r0), some (zi x1), some (zi x2)] [] (pI h (ad r0) 0 x1) Q)) :=
  (WP_blk 3 1 0 _ _ h Q).trans rfl
theorem b_1_5 (r0 : Option Nat) (x1 : Int) (x2 : Int) (h : Zh) (Q : Zp) : WP 1 5 [some (zr r0), some (zi x1), some (zi x2)] [] h Q = (kd h r0 1 ∧ (WP 1 10 [some (zr r0), some (zi x1), some (zi x2)] [] (pI h (ad r0) 1 x2) Q)) :=
  (WP_blk 3 1 5 _ _ h Q).trans rfl
theorem b_1_10 (r0 : Option Nat) (x1 : Int) (x2 : Int) (h : Zh) (Q : Zp) : WP 1 10 [some (zr r0), some (zi x1), some (zi x2)] [] h Q = (Q (.inl none) h) :=
  (WP_blk 1 1 10 _ _ h Q).trans rfl
-- 2: Marginalia$Anchor.size()I
theorem b_2_0 (r0 : Option Nat) (h : Zh) (Q : Zp) : WP 2 0 [some (zr r0)] [] h Q = (kd h r0 1 ∧ (kd h r0 1 ∧ (inR ((gI h (ad r0) 1) - (gI h (ad r0) 0)) ∧ (Q (.inl (some (zi ((gI h (ad r0) 1) - (gI h (ad r0) 0))))) h)))) :=
  (WP_blk 6 2 0 _ _ h Q).trans rfl
-- 3: Marginalia$Anchor.isLost()Z
theorem b_3_0 (r0 : Option Nat) (h : Zh) (Q : Zp) : WP 3 0 [some (zr r0)] [] h Q = (kd h r0 1 ∧ (kd h r0 1 ∧ (br ((gI h (ad r0) 0) = (gI h (ad r0) 1)) (WP 3 11 [some (zr r0)] [] h Q) (WP 3 15 [some (zr r0)] [] h Q)))) :=
  (WP_blk 5 3 0 _ _ h Q).trans rfl
theorem b_3_11 (r0 : Option Nat) (h : Zh) (Q : Zp) : WP 3 11 [some (zr r0)] [] h Q = (WP 3 16 [some (zr r0)] [zi (1 : Int)] h Q) :=
  (WP_blk 2 3 11 _ _ h Q).trans rfl
theorem b_3_15 (r0 : Option Nat) (h : Zh) (Q : Zp) : WP 3 15 [some (zr r0)] [] h Q = (WP 3 16 [some (zr r0)] [zi (0 : Int)] h Q) :=
  (WP_blk 1 3 15 _ _ h Q).trans rfl
theorem b_3_16 (r0 : Option Nat) (s0 : Int) (h : Zh) (Q : Zp) : WP 3 16 [some (zr r0)] [zi s0] h Q = ((s0 = 0 ∨ s0 = 1) ∧ (Q (.inl (some (zi s0))) h)) :=
  (WP_blk 1 3 16 _ _ h Q).trans rfl
-- 4: Marginalia$Anchor.covers(I)Z
theorem b_4_0 (r0 : Option Nat) (x1 : Int) (h : Zh) (Q : Zp) : WP 4 0 [some (zr r0), some (zi x1)] [] h Q = (kd h r0 1 ∧ (br (x1 < (gI h (ad r0) 0)) (WP 4 20 [some (zr r0), some (zi x1)] [] h Q) (WP 4 8 [some (zr r0), some (zi x1)] [] h Q))) :=
  (WP_blk 4 4 0 _ _ h Q).trans rfl
theorem b_4_8 (r0 : Option Nat) (x1 : Int) (h : Zh) (Q : Zp) : WP 4 8 [some (zr r0), some (zi x1)] [] h Q = (kd h r0 1 ∧ (br ((gI h (ad r0) 1) ≤ x1) (WP 4 20 [some (zr r0), some (zi x1)] [] h Q) (WP 4 16 [some (zr r0), some (zi x1)] [] h Q))) :=
  (WP_blk 4 4 8 _ _ h Q).trans rfl
theorem b_4_16 (r0 : Option Nat) (x1 : Int) (h : Zh) (Q : Zp) : WP 4 16 [some (zr r0), some (zi x1)] [] h Q = (WP 4 21 [some (zr r0), some (zi x1)] [zi (1 : Int)] h Q) :=
  (WP_blk 2 4 16 _ _ h Q).trans rfl
theorem b_4_20 (r0 : Option Nat) (x1 : Int) (h : Zh) (Q : Zp) : WP 4 20 [some (zr r0), some (zi x1)] [] h Q = (WP 4 21 [some (zr r0), some (zi x1)] [zi (0 : Int)] h Q) :=
  (WP_blk 1 4 20 _ _ h Q).trans rfl
theorem b_4_21 (r0 : Option Nat) (x1 : Int) (s0 : Int) (h : Zh) (Q : Zp) : WP 4 21 [some (zr r0), some (zi x1)] [zi s0] h Q = ((s0 = 0 ∨ s0 = 1) ∧ (Q (.inl (some (zi s0))) h)) :=
  (WP_blk 1 4 21 _ _ h Q).trans rfl
-- 5: Marginalia$Anchor.isAheadOf(LMarginalia$Anchor;)Z
theorem b_5_0 (r0 : Option Nat) (r1 : Option Nat) (h : Zh) (Q : Zp) : WP 5 0 [some (zr r0), some (zr r1)] [] h Q = (kd h r0 1 ∧ (kd h r1 1 ∧ (br ((gI h (ad r0) 0) = (gI h (ad r1) 0)) (WP 5 11 [some (zr r0), some (zr r1)] [] h Q) (WP 5 30 [some (zr r0), some (zr r1)] [] h Q)))) :=
  (WP_blk 5 5 0 _ _ h Q).trans rfl
theorem b_5_11 (r0 : Option Nat) (r1 : Option Nat) (h : Zh) (Q : Zp) : WP 5 11 [some (zr r0), some (zr r1)] [] h Q = (kd h r0 1 ∧ (kd h r1 1 ∧ (br ((gI h (ad r1) 1) ≤ (gI h (ad r0) 1)) (WP 5 26 [some (zr r0), some (zr r1)] [] h Q) (WP 5 22 [some (zr r0), some (zr r1)] [] h Q)))) :=
  (WP_blk 5 5 11 _ _ h Q).trans rfl
theorem b_5_22 (r0 : Option Nat) (r1 : Option Nat) (h : Zh) (Q : Zp) : WP 5 22 [some (zr r0), some (zr r1)] [] h Q = (WP 5 46 [some (zr r0), some (zr r1)] [zi (1 : Int)] h Q) :=
  (WP_blk 2 5 22 _ _ h Q).trans rfl
theorem b_5_26 (r0 : Option Nat) (r1 : Option Nat) (h : Zh) (Q : Zp) : WP 5 26 [some (zr r0), some (zr r1)] [] h Q = (WP 5 46 [some (zr r0), some (zr r1)] [zi (0 : Int)] h Q) :=
  (WP_blk 2 5 26 _ _ h Q).trans rfl
theorem b_5_30 (r0 : Option Nat) (r1 : Option Nat) (h : Zh) (Q : Zp) : WP 5 30 [some (zr r0), some (zr r1)] [] h Q = (kd h r0 1 ∧ (kd h r1 1 ∧ (br ((gI h (ad r1) 0) ≤ (gI h (ad r0) 0)) (WP 5 45 [some (zr r0), some (zr r1)] [] h Q) (WP 5 41 [some (zr r0), some (zr r1)] [] h Q)))) :=
  (WP_blk 5 5 30 _ _ h Q).trans rfl
theorem b_5_41 (r0 : Option Nat) (r1 : Option Nat) (h : Zh) (Q : Zp) : WP 5 41 [some (zr r0), some (zr r1)] [] h Q = (WP 5 46 [some (zr r0), some (zr r1)] [zi (1 : Int)] h Q) :=
  (WP_blk 2 5 41 _ _ h Q).trans rfl
theorem b_5_45 (r0 : Option Nat) (r1 : Option Nat) (h : Zh) (Q : Zp) : WP 5 45 [some (zr r0), some (zr r1)] [] h Q = (WP 5 46 [some (zr r0), some (zr r1)] [zi (0 : Int)] h Q) :=
  (WP_blk 1 5 45 _ _ h Q).trans rfl
theorem b_5_46 (r0 : Option Nat) (r1 : Option Nat) (s0 : Int) (h : Zh) (Q : Zp) : WP 5 46 [some (zr r0), some (zr r1)] [zi s0] h Q = ((s0 = 0 ∨ s0 = 1) ∧ (Q (.inl (some (zi s0))) h)) :=
  (WP_blk 1 5 46 _ _ h Q).trans rfl
-- 6: Marginalia$Anchor.wouldBeLost(II)Z
theorem b_6_0 (r0 : Option Nat) (x1 : Int) (x2 : Int) (h : Zh) (Q : Zp) : WP 6 0 [some (zr r0), some (zi x1), some (zi x2)] [] h Q = (kd h r0 1 ∧ (WP 3 0 [some (zr r0)] [] h (kont WP 6 1 [some (zr r0), some (zi x1), some (zi x2)] [] [] Q))) :=
  (WP_blk 2 6 0 _ _ h Q).trans rfl
theorem b_6_4 (r0 : Option Nat) (x1 : Int) (x2 : Int) (s0 : Int) (h : Zh) (Q : Zp) : WP 6 4 [some (zr r0), some (zi x1), some (zi x2)] [zi s0] h Q = (br (s0 = 0) (WP 6 7 [some (zr r0), some (zi x1), some (zi x2)] [] h Q) (WP 6 27 [some (zr r0), some (zi x1), some (zi x2)] [] h Q)) :=
  (WP_blk 1 6 4 _ _ h Q).trans rfl
theorem b_6_7 (r0 : Option Nat) (x1 : Int) (x2 : Int) (h : Zh) (Q : Zp) : WP 6 7 [some (zr r0), some (zi x1), some (zi x2)] [] h Q = (kd h r0 1 ∧ (br ((gI h (ad r0) 0) < x1) (WP 6 27 [some (zr r0), some (zi x1), some (zi x2)] [] h Q) (WP 6 15 [some (zr r0), some (zi x1), some (zi x2)] [] h Q))) :=
  (WP_blk 4 6 7 _ _ h Q).trans rfl
theorem b_6_15 (r0 : Option Nat) (x1 : Int) (x2 : Int) (h : Zh) (Q : Zp) : WP 6 15 [some (zr r0), some (zi x1), some (zi x2)] [] h Q = (kd h r0 1 ∧ (br (x2 < (gI h (ad r0) 1)) (WP 6 27 [some (zr r0), some (zi x1), some (zi x2)] [] h Q) (WP 6 23 [some (zr r0), some (zi x1), some (zi x2)] [] h Q))) :=
  (WP_blk 4 6 15 _ _ h Q).trans rfl
theorem b_6_23 (r0 : Option Nat) (x1 : Int) (x2 : Int) (h : Zh) (Q : Zp) : WP 6 23 [some (zr r0), some (zi x1), some (zi x2)] [] h Q = (WP 6 28 [some (zr r0), some (zi x1), some (zi x2)] [zi (1 : Int)] h Q) :=
  (WP_blk 2 6 23 _ _ h Q).trans rfl
theorem b_6_27 (r0 : Option Nat) (x1 : Int) (x2 : Int) (h : Zh) (Q : Zp) : WP 6 27 [some (zr r0), some (zi x1), some (zi x2)] [] h Q = (WP 6 28 [some (zr r0), some (zi x1), some (zi x2)] [zi (0 : Int)] h Q) :=
  (WP_blk 1 6 27 _ _ h Q).trans rfl
theorem b_6_28 (r0 : Option Nat) (x1 : Int) (x2 : Int) (s0 : Int) (h : Zh) (Q : Zp) : WP 6 28 [some (zr r0), some (zi x1), some (zi x2)] [zi s0] h Q = ((s0 = 0 ∨ s0 = 1) ∧ (Q (.inl (some (zi s0))) h)) :=
  (WP_blk 1 6 28 _ _ h Q).trans rfl
-- 7: Marginalia$Anchor.moveAsPut(II)V
theorem b_7_0 (r0 : Option Nat) (x1 : Int) (x2 : Int) (h : Zh) (Q : Zp) : WP 7 0 [some (zr r0), some (zi x1), some (zi x2)] [] h Q = (kd h r0 1 ∧ (br ((gI h (ad r0) 0) < x1) (WP 7 31 [some (zr r0), some (zi x1), some (zi x2)] [] h Q) (WP 7 8 [some (zr r0), some (zi x1), some (zi x2)] [] h Q))) :=
  (WP_blk 4 7 0 _ _ h Q).trans rfl
theorem b_7_8 (r0 : Option Nat) (x1 : Int) (x2 : Int) (h : Zh) (Q : Zp) : WP 7 8 [some (zr r0), some (zi x1), some (zi x2)] [] h Q = (kd h r0 1 ∧ (inR ((gI h (ad r0) 0) + x2) ∧ (kd h r0 1 ∧ (WP 7 18 [some (zr r0), some (zi x1), some (zi x2)] [] (pI h (ad r0) 0 ((gI h (ad r0) 0) + x2)) Q)))) :=
  (WP_blk 6 7 8 _ _ h Q).trans rfl
theorem b_7_18 (r0 : Option Nat) (x1 : Int) (x2 : Int) (h : Zh) (Q : Zp) : WP 7 18 [some (zr r0), some (zi x1), some (zi x2)] [] h Q = (kd h r0 1 ∧ (inR ((gI h (ad r0) 1) + x2) ∧ (kd h r0 1 ∧ (WP 7 28 [some (zr r0), some (zi x1), some (zi x2)] [] (pI h (ad r0) 1 ((gI h (ad r0) 1) + x2)) Q)))) :=
  (WP_blk 6 7 18 _ _ h Q).trans rfl
theorem b_7_28 (r0 : Option Nat) (x1 : Int) (x2 : Int) (h : Zh) (Q : Zp) : WP 7 28 [some (zr r0), some (zi x1), some (zi x2)] [] h Q = (WP 7 49 [some (zr r0), some (zi x1), some (zi x2)] [] h Q) :=
  (WP_blk 1 7 28 _ _ h Q).trans rfl
theorem b_7_31 (r0 : Option Nat) (x1 : Int) (x2 : Int) (h : Zh) (Q : Zp) : WP 7 31 [some (zr r0), some (zi x1), some (zi x2)] [] h Q = (kd h r0 1 ∧ (br ((gI h (ad r0) 1) ≤ x1) (WP 7 49 [some (zr r0), some (zi x1), some (zi x2)] [] h Q) (WP 7 39 [some (zr r0), some (zi x1), some (zi x2)] [] h Q))) :=
  (WP_blk 4 7 31 _ _ h Q).trans rfl
theorem b_7_39 (r0 : Option Nat) (x1 : Int) (x2 : Int) (h : Zh) (Q : Zp) : WP 7 39 [some (zr r0), some (zi x1), some (zi x2)] [] h Q = (kd h r0 1 ∧ (inR ((gI h (ad r0) 1) + x2) ∧ (kd h r0 1 ∧ (WP 7 49 [some (zr r0), some (zi x1), some (zi x2)] [] (pI h (ad r0) 1 ((gI h (ad r0) 1) + x2)) Q)))) :=
  (WP_blk 6 7 39 _ _ h Q).trans rfl
theorem b_7_49 (r0 : Option Nat) (x1 : Int) (x2 : Int) (h : Zh) (Q : Zp) : WP 7 49 [some (zr r0), some (zi x1), some (zi x2)] [] h Q = (Q (.inl none) h) :=
  (WP_blk 1 7 49 _ _ h Q).trans rfl
-- 8: Marginalia$Anchor.moveAsCut(II)V
theorem b_8_0 (r0 : Option Nat) (x1 : Int) (x2 : Int) (h : Zh) (Q : Zp) : WP 8 0 [some (zr r0), some (zi x1), some (zi x2)] [] h Q = (kd h r0 1 ∧ (kd h r0 1 ∧ (WP 9 0 [some (zi (gI h (ad r0) 0)), some (zi x1), some (zi x2)] [] h (kont WP 8 11 [some (zr r0), some (zi x1), some (zi x2)] [zi (gI h (ad r0) 0), zr r0] [] Q)))) :=
  (WP_blk 8 8 0 _ _ h Q).trans rfl
theorem b_8_14 (r0 : Option Nat) (x1 : Int) (x2 : Int) (s0 : Int) (s1 : Int) (sr2 : Option Nat) (h : Zh) (Q : Zp) : WP 8 14 [some (zr r0), some (zi x1), some (zi x2)] [zi s0, zi s1, zr sr2] h Q = (inR (s1 - s0) ∧ (kd h sr2 1 ∧ (WP 8 18 [some (zr r0), some (zi x1), some (zi x2)] [] (pI h (ad sr2) 0 (s1 - s0)) Q))) :=
  (WP_blk 2 8 14 _ _ h Q).trans rfl
theorem b_8_18 (r0 : Option Nat) (x1 : Int) (x2 : Int) (h : Zh) (Q : Zp) : WP 8 18 [some (zr r0), some (zi x1), some (zi x2)] [] h Q = (kd h r0 1 ∧ (kd h r0 1 ∧ (WP 9 0 [some (zi (gI h (ad r0) 1)), some (zi x1), some (zi x2)] [] h (kont WP 8 29 [some (zr r0), some (zi x1), some (zi x2)] [zi (gI h (ad r0) 1), zr r0] [] Q)))) :=
  (WP_blk 8 8 18 _ _ h Q).trans rfl
theorem b_8_32 (r0 : Option Nat) (x1 : Int) (x2 : Int) (s0 : Int) (s1 : Int) (sr2 : Option Nat) (h : Zh) (Q : Zp) : WP 8 32 [some (zr r0), some (zi x1), some (zi x2)] [zi s0, zi s1, zr sr2] h Q = (inR (s1 - s0) ∧ (kd h sr2 1 ∧ (WP 8 36 [some (zr r0), some (zi x1), some (zi x2)] [] (pI h (ad sr2) 1 (s1 - s0)) Q))) :=
  (WP_blk 2 8 32 _ _ h Q).trans rfl
theorem b_8_36 (r0 : Option Nat) (x1 : Int) (x2 : Int) (h : Zh) (Q : Zp) : WP 8 36 [some (zr r0), some (zi x1), some (zi x2)] [] h Q = (Q (.inl none) h) :=
  (WP_blk 1 8 36 _ _ h Q).trans rfl
-- 9: Marginalia$Anchor.cutAheadOf(III)I
theorem b_9_0 (x0 : Int) (x1 : Int) (x2 : Int) (h : Zh) (Q : Zp) : WP 9 0 [some (zi x0), some (zi x1), some (zi x2)] [] h Q = (inR ((if x2 < x0 then x2 else x0) - x1) ∧ (Q (.inl (some (zi (if (0 : Int) < ((if x2 < x0 then x2 else x0) - x1) then ((if x2 < x0 then x2 else x0) - x1) else (0 : Int))))) h)) :=
  (WP_blk 8 9 0 _ _ h Q).trans rfl
-- 10: Marginalia$Export.<init>()V
theorem b_10_0 (r0 : Option Nat) (h : Zh) (Q : Zp) : WP 10 0 [some (zr r0)] [] h Q = (r0 ≠ none ∧ (((0 ≤ (4 : Int) ∧ (4 : Int) ≤ 1000 ∧ 0 ≤ (60 : Int) ∧ (60 : Int) ≤ 1000 ∧ gC h + 1 + Int.toNat (4 : Int) ≤ MXC ∧ gS h + Int.toNat (4 : Int) + Int.toNat (4 : Int) * Int.toNat (60 : Int) ≤ MXS) ∧ ∀ (q : Nat) (r : Nat → Nat), gK h q = 0 → (∀ i, i < Int.toNat (4 : Int) → gK h (r i) = 0 ∧ r i ≠ q) → (∀ i j, i < Int.toNat (4 : Int) → j < Int.toNat (4 : Int) → r i = r j → i = j) → WP 10 12 [some (zr r0)] [zr (some q), zr r0] (nw2 h q r (Int.toNat (4 : Int)) (60 : Int)) Q))) :=
  (WP_blk 6 10 0 _ _ h Q).trans rfl
theorem b_10_12 (r0 : Option Nat) (sr0 : Option Nat) (sr1 : Option Nat) (h : Zh) (Q : Zp) : WP 10 12 [some (zr r0)] [zr sr0, zr sr1] h Q = (kd h sr1 2 ∧ (WP 10 15 [some (zr r0)] [] (pR h (ad sr1) 0 sr0) Q)) :=
  (WP_blk 1 10 12 _ _ h Q).trans rfl
theorem b_10_15 (r0 : Option Nat) (h : Zh) (Q : Zp) : WP 10 15 [some (zr r0)] [] h Q = (Q (.inl none) h) :=
  (WP_blk 1 10 15 _ _ h Q).trans rfl
-- 11: Marginalia$Export.addOrder(LMarginalia$Note;)V
theorem b_11_0 (r0 : Option Nat) (r1 : Option Nat) (h : Zh) (Q : Zp) : WP 11 0 [some (zr r0), some (zr r1), none] [] h Q = (WP 11 2 [some (zr r0), some (zr r1), some (zr r1)] [] h Q) :=
  (WP_blk 2 11 0 _ _ h Q).trans rfl
theorem b_11_2 (r0 : Option Nat) (r1 : Option Nat) (r2 : Option Nat) (h : Zh) (Q : Zp) : WP 11 2 [some (zr r0), some (zr r1), some (zr r2)] [] h Q = (br (r2 = none) (WP 11 97 [some (zr r0), some (zr r1), some (zr r2)] [] h Q) (WP 11 6 [some (zr r0), some (zr r1), some (zr r2)] [] h Q)) :=
  (WP_blk 2 11 2 _ _ h Q).trans rfl
theorem b_11_6 (r0 : Option Nat) (r1 : Option Nat) (r2 : Option Nat) (h : Zh) (Q : Zp) : WP 11 6 [some (zr r0), some (zr r1), some (zr r2)] [] h Q = (kd h r2 3 ∧ (br ((gI h (ad r2) 9) = 0) (WP 11 13 [some (zr r0), some (zr r1), some (zr r2)] [] h Q) (WP 11 89 [some (zr r0), some (zr r1), some (zr r2)] [] h Q))) :=
  (WP_blk 3 11 6 _ _ h Q).trans rfl
theorem b_11_13 (r0 : Option Nat) (r1 : Option Nat) (r2 : Option Nat) (h : Zh) (Q : Zp) : WP 11 13 [some (zr r0), some (zr r1), some (zr r2)] [] h Q = (kd h r0 2 ∧ (ixa h (gR h (ad r0) 0) 14 (0 : Int) ∧ (kd h r0 2 ∧ (kd h r2 3 ∧ (ixa h (gR h (ad (gR h (ad r0) 0)) (0 : Int)) 10 (gI h (ad r0) 1) ∧ (WP 11 28 [some (zr r0), some (zr r1), some (zr r2)] [] (pI h (ad (gR h (ad (gR h (ad r0) 0)) (0 : Int))) (gI h (ad r0) 1) (gI h (ad r2) 0)) Q)))))) :=
  (WP_blk 9 11 13 _ _ h Q).trans rfl
theorem b_11_28 (r0 : Option Nat) (r1 : Option Nat) (r2 : Option Nat) (h : Zh) (Q : Zp) : WP 11 28 [some (zr r0), some (zr r1), some (zr r2)] [] h Q = (kd h r0 2 ∧ (ixa h (gR h (ad r0) 0) 14 (1 : Int) ∧ (kd h r0 2 ∧ (kd h r2 3 ∧ (ixa h (gR h (ad (gR h (ad r0) 0)) (1 : Int)) 10 (gI h (ad r0) 1) ∧ (WP 11 43 [some (zr r0), some (zr r1), some (zr r2)] [] (pI h (ad (gR h (ad (gR h (ad r0) 0)) (1 : Int))) (gI h (ad r0) 1) (gI h (ad r2) 3)) Q)))))) :=
  (WP_blk 9 11 28 _ _ h Q).trans rfl
theorem b_11_43 (r0 : Option Nat) (r1 : Option Nat) (r2 : Option Nat) (h : Zh) (Q : Zp) : WP 11 43 [some (zr r0), some (zr r1), some (zr r2)] [] h Q = (kd h r0 2 ∧ (ixa h (gR h (ad r0) 0) 14 (2 : Int) ∧ (kd h r0 2 ∧ (kd h r2 3 ∧ (kd h (gR h (ad r2) 5) 4 ∧ (kd h (gR h (ad (gR h (ad r2) 5)) 3) 1 ∧ (ixa h (gR h (ad (gR h (ad r0) 0)) (2 : Int)) 10 (gI h (ad r0) 1) ∧ (WP 11 64 [some (zr r0), some (zr r1), some (zr r2)] [] (pI h (ad (gR h (ad (gR h (ad r0) 0)) (2 : Int))) (gI h (ad r0) 1) (gI h (ad (gR h (ad (gR h (ad r2) 5)) 3)) 0)) Q)))))))) :=
  (WP_blk 11 11 43 _ _ h Q).trans rfl
theorem b_11_64 (r0 : Option Nat) (r1 : Option Nat) (r2 : Option Nat) (h : Zh) (Q : Zp) : WP 11 64 [some (zr r0), some (zr r1), some (zr r2)] [] h Q = (kd h r0 2 ∧ (ixa h (gR h (ad r0) 0) 14 (3 : Int) ∧ (kd h r0 2 ∧ (kd h r2 3 ∧ (WP 15 0 [some (zr r2)] [] h (kont WP 11 75 [some (zr r0), some (zr r1), some (zr r2)] [zi (gI h (ad r0) 1), zr (gR h (ad (gR h (ad r0) 0)) (3 : Int))] [] Q)))))) :=
  (WP_blk 8 11 64 _ _ h Q).trans rfl
theorem b_11_78 (r0 : Option Nat) (r1 : Option Nat) (r2 : Option Nat) (s0 : Int) (s1 : Int) (sr2 : Option Nat) (h : Zh) (Q : Zp) : WP 11 78 [some (zr r0), some (zr r1), some (zr r2)] [zi s0, zi s1, zr sr2] h Q = (ixa h sr2 10 s1 ∧ (WP 11 79 [some (zr r0), some (zr r1), some (zr r2)] [] (pI h (ad sr2) s1 s0) Q)) :=
  (WP_blk 1 11 78 _ _ h Q).trans rfl
theorem b_11_79 (r0 : Option Nat) (r1 : Option Nat) (r2 : Option Nat) (h : Zh) (Q : Zp) : WP 11 79 [some (zr r0), some (zr r1), some (zr r2)] [] h Q = (kd h r0 2 ∧ (inR ((gI h (ad r0) 1) + (1 : Int)) ∧ (kd h r0 2 ∧ (WP 11 89 [some (zr r0), some (zr r1), some (zr r2)] [] (pI h (ad r0) 1 ((gI h (ad r0) 1) + (1 : Int))) Q)))) :=
  (WP_blk 6 11 79 _ _ h Q).trans rfl
theorem b_11_89 (r0 : Option Nat) (r1 : Option Nat) (r2 : Option Nat) (h : Zh) (Q : Zp) : WP 11 89 [some (zr r0), some (zr r1), some (zr r2)] [] h Q = (kd h r2 3 ∧ (WP 11 2 [some (zr r0), some (zr r1), some (zr (gR h (ad r2) 6))] [] h Q)) :=
  (WP_blk 4 11 89 _ _ h Q).trans rfl
theorem b_11_97 (r0 : Option Nat) (r1 : Option Nat) (r2 : Option Nat) (h : Zh) (Q : Zp) : WP 11 97 [some (zr r0), some (zr r1), some (zr r2)] [] h Q = (Q (.inl none) h) :=
  (WP_blk 1 11 97 _ _ h Q).trans rfl
-- 12: Marginalia$Note.<init>(IIILMarginalia$Note;LMarginalia$Strand;)V
theorem b_12_0 (r0 : Option Nat) (x1 : Int) (x2 : Int) (x3 : Int) (r4 : Option Nat) (r5 : Option Nat) (h : Zh) (Q : Zp) : WP 12 0 [some (zr r0), some (zi x1), some (zi x2), some (zi x3), some (zr r4), some (zr r5)] [] h Q = (r0 ≠ none ∧ (kd h r0 3 ∧ (WP 12 9 [some (zr r0), some (zi x1), some (zi x2), some (zi x3), some (zr r4), some (zr r5)] [] (pI h (ad r0) 0 x1) Q))) :=
  (WP_blk 5 12 0 _ _ h Q).trans rfl
theorem b_12_9 (r0 : Option Nat) (x1 : Int) (x2 : Int) (x3 : Int) (r4 : Option Nat) (r5 : Option Nat) (h : Zh) (Q : Zp) : WP 12 9 [some (zr r0), some (zi x1), some (zi x2), some (zi x3), some (zr r4), some (zr r5)] [] h Q = (kd h r0 3 ∧ (WP 12 14 [some (zr r0), some (zi x1), some (zi x2), some (zi x3), some (zr r4), some (zr r5)] [] (pI h (ad r0) 1 x2) Q)) :=
  (WP_blk 3 12 9 _ _ h Q).trans rfl
theorem b_12_14 (r0 : Option Nat) (x1 : Int) (x2 : Int) (x3 : Int) (r4 : Option Nat) (r5 : Option Nat) (h : Zh) (Q : Zp) : WP 12 14 [some (zr r0), some (zi x1), some (zi x2), some (zi x3), some (zr r4), some (zr r5)] [] h Q = (kd h r0 3 ∧ (WP 12 19 [some (zr r0), some (zi x1), some (zi x2), some (zi x3), some (zr r4), some (zr r5)] [] (pI h (ad r0) 2 x3) Q)) :=
  (WP_blk 3 12 14 _ _ h Q).trans rfl
theorem b_12_19 (r0 : Option Nat) (x1 : Int) (x2 : Int) (x3 : Int) (r4 : Option Nat) (r5 : Option Nat) (h : Zh) (Q : Zp) : WP 12 19 [some (zr r0), some (zi x1), some (zi x2), some (zi x3), some (zr r4), some (zr r5)] [] h Q = (kd h r0 3 ∧ (WP 12 25 [some (zr r0), some (zi x1), some (zi x2), some (zi x3), some (zr r4), some (zr r5)] [] (pR h (ad r0) 4 r4) Q)) :=
  (WP_blk 3 12 19 _ _ h Q).trans rfl
theorem b_12_25 (r0 : Option Nat) (x1 : Int) (x2 : Int) (x3 : Int) (r4 : Option Nat) (r5 : Option Nat) (h : Zh) (Q : Zp) : WP 12 25 [some (zr r0), some (zi x1), some (zi x2), some (zi x3), some (zr r4), some (zr r5)] [] h Q = (kd h r0 3 ∧ (WP 12 31 [some (zr r0), some (zi x1), some (zi x2), some (zi x3), some (zr r4), some (zr r5)] [] (pR h (ad r0) 5 r5) Q)) :=
  (WP_blk 3 12 25 _ _ h Q).trans rfl
theorem b_12_31 (r0 : Option Nat) (x1 : Int) (x2 : Int) (x3 : Int) (r4 : Option Nat) (r5 : Option Nat) (h : Zh) (Q : Zp) : WP 12 31 [some (zr r0), some (zi x1), some (zi x2), some (zi x3), some (zr r4), some (zr r5)] [] h Q = (br (r4 = none) (WP 12 37 [some (zr r0), some (zi x1), some (zi x2), some (zi x3), some (zr r4), some (zr r5)] [zr r0] h Q) (WP 12 41 [some (zr r0), some (zi x1), some (zi x2), some (zi x3), some (zr r4), some (zr r5)] [zr r0] h Q)) :=
  (WP_blk 3 12 31 _ _ h Q).trans rfl
theorem b_12_37 (r0 : Option Nat) (x1 : Int) (x2 : Int) (x3 : Int) (r4 : Option Nat) (r5 : Option Nat) (sr0 : Option Nat) (h : Zh) (Q : Zp) : WP 12 37 [some (zr r0), some (zi x1), some (zi x2), some (zi x3), some (zr r4), some (zr r5)] [zr sr0] h Q = (WP 12 48 [some (zr r0), some (zi x1), some (zi x2), some (zi x3), some (zr r4), some (zr r5)] [zi (0 : Int), zr sr0] h Q) :=
  (WP_blk 2 12 37 _ _ h Q).trans rfl
theorem b_12_41 (r0 : Option Nat) (x1 : Int) (x2 : Int) (x3 : Int) (r4 : Option Nat) (r5 : Option Nat) (sr0 : Option Nat) (h : Zh) (Q : Zp) : WP 12 41 [some (zr r0), some (zi x1), some (zi x2), some (zi x3), some (zr r4), some (zr r5)] [zr sr0] h Q = (kd h r4 3 ∧ (inR ((gI h (ad r4) 3) + (1 : Int)) ∧ (WP 12 48 [some (zr r0), some (zi x1), some (zi x2), some (zi x3), some (zr r4), some (zr r5)] [zi ((gI h (ad r4) 3) + (1 : Int)), zr sr0] h Q))) :=
  (WP_blk 4 12 41 _ _ h Q).trans rfl
theorem b_12_48 (r0 : Option Nat) (x1 : Int) (x2 : Int) (x3 : Int) (r4 : Option Nat) (r5 : Option Nat) (s0 : Int) (sr1 : Option Nat) (h : Zh) (Q : Zp) : WP 12 48 [some (zr r0), some (zi x1), some (zi x2), some (zi x3), some (zr r4), some (zr r5)] [zi s0, zr sr1] h Q = (kd h sr1 3 ∧ (WP 12 51 [some (zr r0), some (zi x1), some (zi x2), some (zi x3), some (zr r4), some (zr r5)] [] (pI h (ad sr1) 3 s0) Q)) :=
  (WP_blk 1 12 48 _ _ h Q).trans rfl
theorem b_12_51 (r0 : Option Nat) (x1 : Int) (x2 : Int) (x3 : Int) (r4 : Option Nat) (r5 : Option Nat) (h : Zh) (Q : Zp) : WP 12 51 [some (zr r0), some (zi x1), some (zi x2), some (zi x3), some (zr r4), some (zr r5)] [] h Q = (Q (.inl none) h) :=
  (WP_blk 1 12 51 _ _ h Q).trans rfl
-- 13: Marginalia$Note.isHead()Z
theorem b_13_0 (r0 : Option Nat) (h : Zh) (Q : Zp) : WP 13 0 [some (zr r0)] [] h Q = (kd h r0 3 ∧ (br ((gR h (ad r0) 4) = none) (WP 13 7 [some (zr r0)] [] h Q) (WP 13 11 [some (zr r0)] [] h Q))) :=
  (WP_blk 3 13 0 _ _ h Q).trans rfl
theorem b_13_7 (r0 : Option Nat) (h : Zh) (Q : Zp) : WP 13 7 [some (zr r0)] [] h Q = (WP 13 12 [some (zr r0)] [zi (1 : Int)] h Q) :=
  (WP_blk 2 13 7 _ _ h Q).trans rfl
theorem b_13_11 (r0 : Option Nat) (h : Zh) (Q : Zp) : WP 13 11 [some (zr r0)] [] h Q = (WP 13 12 [some (zr r0)] [zi (0 : Int)] h Q) :=
  (WP_blk 1 13 11 _ _ h Q).trans rfl
theorem b_13_12 (r0 : Option Nat) (s0 : Int) (h : Zh) (Q : Zp) : WP 13 12 [some (zr r0)] [zi s0] h Q = ((s0 = 0 ∨ s0 = 1) ∧ (Q (.inl (some (zi s0))) h)) :=
  (WP_blk 1 13 12 _ _ h Q).trans rfl
-- 14: Marginalia$Note.isHeadNotGone()Z
theorem b_14_0 (r0 : Option Nat) (h : Zh) (Q : Zp) : WP 14 0 [some (zr r0)] [] h Q = (kd h r0 3 ∧ (br ((gR h (ad r0) 4) = none) (WP 14 7 [some (zr r0)] [] h Q) (WP 14 18 [some (zr r0)] [] h Q))) :=
  (WP_blk 3 14 0 _ _ h Q).trans rfl
theorem b_14_7 (r0 : Option Nat) (h : Zh) (Q : Zp) : WP 14 7 [some (zr r0)] [] h Q = (kd h r0 3 ∧ (br ((gI h (ad r0) 9) = 0) (WP 14 14 [some (zr r0)] [] h Q) (WP 14 18 [some (zr r0)] [] h Q))) :=
  (WP_blk 3 14 7 _ _ h Q).trans rfl
theorem b_14_14 (r0 : Option Nat) (h : Zh) (Q : Zp) : WP 14 14 [some (zr r0)] [] h Q = (WP 14 19 [some (zr r0)] [zi (1 : Int)] h Q) :=
  (WP_blk 2 14 14 _ _ h Q).trans rfl
theorem b_14_18 (r0 : Option Nat) (h : Zh) (Q : Zp) : WP 14 18 [some (zr r0)] [] h Q = (WP 14 19 [some (zr r0)] [zi (0 : Int)] h Q) :=
  (WP_blk 1 14 18 _ _ h Q).trans rfl
theorem b_14_19 (r0 : Option Nat) (s0 : Int) (h : Zh) (Q : Zp) : WP 14 19 [some (zr r0)] [zi s0] h Q = ((s0 = 0 ∨ s0 = 1) ∧ (Q (.inl (some (zi s0))) h)) :=
  (WP_blk 1 14 19 _ _ h Q).trans rfl
-- 15: Marginalia$Note.contentShown()I
theorem b_15_0 (r0 : Option Nat) (h : Zh) (Q : Zp) : WP 15 0 [some (zr r0)] [] h Q = (kd h r0 3 ∧ (br ((gI h (ad r0) 8) = 0) (WP 15 11 [some (zr r0)] [] h Q) (WP 15 7 [some (zr r0)] [] h Q))) :=
  (WP_blk 3 15 0 _ _ h Q).trans rfl
theorem b_15_7 (r0 : Option Nat) (h : Zh) (Q : Zp) : WP 15 7 [some (zr r0)] [] h Q = (WP 15 15 [some (zr r0)] [zi (-1 : Int)] h Q) :=
  (WP_blk 2 15 7 _ _ h Q).trans rfl
theorem b_15_11 (r0 : Option Nat) (h : Zh) (Q : Zp) : WP 15 11 [some (zr r0)] [] h Q = (kd h r0 3 ∧ (WP 15 15 [some (zr r0)] [zi (gI h (ad r0) 2)] h Q)) :=
  (WP_blk 2 15 11 _ _ h Q).trans rfl
theorem b_15_15 (r0 : Option Nat) (s0 : Int) (h : Zh) (Q : Zp) : WP 15 15 [some (zr r0)] [zi s0] h Q = (Q (.inl (some (zi s0))) h) :=
  (WP_blk 1 15 15 _ _ h Q).trans rfl
-- 16: Marginalia$Note.addReply(LMarginalia$Note;)V
theorem b_16_0 (r0 : Option Nat) (r1 : Option Nat) (h : Zh) (Q : Zp) : WP 16 0 [some (zr r0), some (zr r1), none] [] h Q = (WP 16 2 [some (zr r0), some (zr r1), some (zr r0)] [] h Q) :=
  (WP_blk 2 16 0 _ _ h Q).trans rfl
theorem b_16_2 (r0 : Option Nat) (r1 : Option Nat) (r2 : Option Nat) (h : Zh) (Q : Zp) : WP 16 2 [some (zr r0), some (zr r1), some (zr r2)] [] h Q = (kd h r2 3 ∧ (br ((gR h (ad r2) 6) = none) (WP 16 31 [some (zr r0), some (zr r1), some (zr r2)] [] h Q) (WP 16 9 [some (zr r0), some (zr r1), some (zr r2)] [] h Q))) :=
  (WP_blk 3 16 2 _ _ h Q).trans rfl
theorem b_16_9 (r0 : Option Nat) (r1 : Option Nat) (r2 : Option Nat) (h : Zh) (Q : Zp) : WP 16 9 [some (zr r0), some (zr r1), some (zr r2)] [] h Q = (kd h r2 3 ∧ (kd h (gR h (ad r2) 6) 3 ∧ (kd h r0 3 ∧ (br ((gI h (ad (gR h (ad r2) 6)) 3) ≤ (gI h (ad r0) 3)) (WP 16 31 [some (zr r0), some (zr r1), some (zr r2)] [] h Q) (WP 16 23 [some (zr r0), some (zr r1), some (zr r2)] [] h Q))))) :=
  (WP_blk 6 16 9 _ _ h Q).trans rfl
theorem b_16_23 (r0 : Option Nat) (r1 : Option Nat) (r2 : Option Nat) (h : Zh) (Q : Zp) : WP 16 23 [some (zr r0), some (zr r1), some (zr r2)] [] h Q = (kd h r2 3 ∧ (WP 16 2 [some (zr r0), some (zr r1), some (zr (gR h (ad r2) 6))] [] h Q)) :=
  (WP_blk 4 16 23 _ _ h Q).trans rfl
theorem b_16_31 (r0 : Option Nat) (r1 : Option Nat) (r2 : Option Nat) (h : Zh) (Q : Zp) : WP 16 31 [some (zr r0), some (zr r1), some (zr r2)] [] h Q = (kd h r2 3 ∧ (kd h r1 3 ∧ (WP 16 39 [some (zr r0), some (zr r1), some (zr r2)] [] (pR h (ad r1) 6 (gR h (ad r2) 6)) Q))) :=
  (WP_blk 4 16 31 _ _ h Q).trans rfl
theorem b_16_39 (r0 : Option Nat) (r1 : Option Nat) (r2 : Option Nat) (h : Zh) (Q : Zp) : WP 16 39 [some (zr r0), some (zr r1), some (zr r2)] [] h Q = (kd h r2 3 ∧ (WP 16 44 [some (zr r0), some (zr r1), some (zr r2)] [] (pR h (ad r2) 6 r1) Q)) :=
  (WP_blk 3 16 39 _ _ h Q).trans rfl
theorem b_16_44 (r0 : Option Nat) (r1 : Option Nat) (r2 : Option Nat) (h : Zh) (Q : Zp) : WP 16 44 [some (zr r0), some (zr r1), some (zr r2)] [] h Q = (kd h r0 3 ∧ (inR ((gI h (ad r0) 7) + (1 : Int)) ∧ (kd h r0 3 ∧ (WP 16 54 [some (zr r0), some (zr r1), some (zr r2)] [] (pI h (ad r0) 7 ((gI h (ad r0) 7) + (1 : Int))) Q)))) :=
  (WP_blk 6 16 44 _ _ h Q).trans rfl
theorem b_16_54 (r0 : Option Nat) (r1 : Option Nat) (r2 : Option Nat) (h : Zh) (Q : Zp) : WP 16 54 [some (zr r0), some (zr r1), some (zr r2)] [] h Q = (Q (.inl none) h) :=
  (WP_blk 1 16 54 _ _ h Q).trans rfl
-- 17: Marginalia$Note.emptyAndDrop()I
theorem b_17_0 (r0 : Option Nat) (h : Zh) (Q : Zp) : WP 17 0 [some (zr r0), none, none] [] h Q = ((kd h r0 3 ∧ ((1 : Int) = 0 ∨ (1 : Int) = 1)) ∧ (WP 17 5 [some (zr r0), none, none] [] (pI h (ad r0) 8 (1 : Int)) Q)) :=
  (WP_blk 3 17 0 _ _ h Q).trans rfl
theorem b_17_5 (r0 : Option Nat) (h : Zh) (Q : Zp) : WP 17 5 [some (zr r0), none, none] [] h Q = (WP 17 9 [some (zr r0), some (zi (0 : Int)), some (zr r0)] [] h Q) :=
  (WP_blk 4 17 5 _ _ h Q).trans rfl
theorem b_17_9 (r0 : Option Nat) (x1 : Int) (r2 : Option Nat) (h : Zh) (Q : Zp) : WP 17 9 [some (zr r0), some (zi x1), some (zr r2)] [] h Q = (br (r2 = none) (WP 17 63 [some (zr r0), some (zi x1), some (zr r2)] [] h Q) (WP 17 13 [some (zr r0), some (zi x1), some (zr r2)] [] h Q)) :=
  (WP_blk 2 17 9 _ _ h Q).trans rfl
theorem b_17_13 (r0 : Option Nat) (x1 : Int) (r2 : Option Nat) (h : Zh) (Q : Zp) : WP 17 13 [some (zr r0), some (zi x1), some (zr r2)] [] h Q = (kd h r2 3 ∧ (br ((gI h (ad r2) 8) = 0) (WP 17 63 [some (zr r0), some (zi x1), some (zr r2)] [] h Q) (WP 17 20 [some (zr r0), some (zi x1), some (zr r2)] [] h Q))) :=
  (WP_blk 3 17 13 _ _ h Q).trans rfl
theorem b_17_20 (r0 : Option Nat) (x1 : Int) (r2 : Option Nat) (h : Zh) (Q : Zp) : WP 17 20 [some (zr r0), some (zi x1), some (zr r2)] [] h Q = (kd h r2 3 ∧ (br ((gI h (ad r2) 7) = 0) (WP 17 27 [some (zr r0), some (zi x1), some (zr r2)] [] h Q) (WP 17 63 [some (zr r0), some (zi x1), some (zr r2)] [] h Q))) :=
  (WP_blk 3 17 20 _ _ h Q).trans rfl
theorem b_17_27 (r0 : Option Nat) (x1 : Int) (r2 : Option Nat) (h : Zh) (Q : Zp) : WP 17 27 [some (zr r0), some (zi x1), some (zr r2)] [] h Q = ((kd h r2 3 ∧ ((1 : Int) = 0 ∨ (1 : Int) = 1)) ∧ (WP 17 32 [some (zr r0), some (zi x1), some (zr r2)] [] (pI h (ad r2) 9 (1 : Int)) Q)) :=
  (WP_blk 3 17 27 _ _ h Q).trans rfl
theorem b_17_32 (r0 : Option Nat) (x1 : Int) (r2 : Option Nat) (h : Zh) (Q : Zp) : WP 17 32 [some (zr r0), some (zi x1), some (zr r2)] [] h Q = (inR (x1 + 1) ∧ (kd h r2 3 ∧ (br ((gR h (ad r2) 4) = none) (WP 17 55 [some (zr r0), some (zi (x1 + 1)), some (zr r2)] [] h Q) (WP 17 42 [some (zr r0), some (zi (x1 + 1)), some (zr r2)] [] h Q)))) :=
  (WP_blk 4 17 32 _ _ h Q).trans rfl
theorem b_17_42 (r0 : Option Nat) (x1 : Int) (r2 : Option Nat) (h : Zh) (Q : Zp) : WP 17 42 [some (zr r0), some (zi x1), some (zr r2)] [] h Q = (kd h r2 3 ∧ (kd h (gR h (ad r2) 4) 3 ∧ (inR ((gI h (ad (gR h (ad r2) 4)) 7) - (1 : Int)) ∧ (kd h (gR h (ad r2) 4) 3 ∧ (WP 17 55 [some (zr r0), some (zi x1), some (zr r2)] [] (pI h (ad (gR h (ad r2) 4)) 7 ((gI h (ad (gR h (ad r2) 4)) 7) - (1 : Int))) Q))))) :=
  (WP_blk 7 17 42 _ _ h Q).trans rfl
theorem b_17_55 (r0 : Option Nat) (x1 : Int) (r2 : Option Nat) (h : Zh) (Q : Zp) : WP 17 55 [some (zr r0), some (zi x1), some (zr r2)] [] h Q = (kd h r2 3 ∧ (WP 17 9 [some (zr r0), some (zi x1), some (zr (gR h (ad r2) 4))] [] h Q)) :=
  (WP_blk 4 17 55 _ _ h Q).trans rfl
theorem b_17_63 (r0 : Option Nat) (x1 : Int) (r2 : Option Nat) (h : Zh) (Q : Zp) : WP 17 63 [some (zr r0), some (zi x1), some (zr r2)] [] h Q = (Q (.inl (some (zi x1))) h) :=
  (WP_blk 2 17 63 _ _ h Q).trans rfl
-- 18: Marginalia$Note.fact(I)I
theorem b_18_0 (r0 : Option Nat) (x1 : Int) (h : Zh) (Q : Zp) : WP 18 0 [some (zr r0), some (zi x1)] [] h Q = ((((x1 < 0 ∨ 0 + (10 : Int) ≤ x1) → WP 18 149 [some (zr r0), some (zi x1)] [] h Q) ∧ swA (fun t => WP 18 t [some (zr r0), some (zi x1)] [] h Q) x1 0 [56, 61, 80, 88, 93, 104, 115, 120, 125, 141])) :=
  (WP_blk 2 18 0 _ _ h Q).trans rfl
theorem b_18_56 (r0 : Option Nat) (x1 : Int) (h : Zh) (Q : Zp) : WP 18 56 [some (zr r0), some (zi x1)] [] h Q = (kd h r0 3 ∧ (Q (.inl (some (zi (gI h (ad r0) 1)))) h)) :=
  (WP_blk 3 18 56 _ _ h Q).trans rfl
theorem b_18_61 (r0 : Option Nat) (x1 : Int) (h : Zh) (Q : Zp) : WP 18 61 [some (zr r0), some (zi x1)] [] h Q = (kd h r0 3 ∧ (br ((gR h (ad r0) 4) = none) (WP 18 68 [some (zr r0), some (zi x1)] [] h Q) (WP 18 72 [some (zr r0), some (zi x1)] [] h Q))) :=
  (WP_blk 3 18 61 _ _ h Q).trans rfl
theorem b_18_68 (r0 : Option Nat) (x1 : Int) (h : Zh) (Q : Zp) : WP 18 68 [some (zr r0), some (zi x1)] [] h Q = (WP 18 79 [some (zr r0), some (zi x1)] [zi (-1 : Int)] h Q) :=
  (WP_blk 2 18 68 _ _ h Q).trans rfl
theorem b_18_72 (r0 : Option Nat) (x1 : Int) (h : Zh) (Q : Zp) : WP 18 72 [some (zr r0), some (zi x1)] [] h Q = (kd h r0 3 ∧ (kd h (gR h (ad r0) 4) 3 ∧ (WP 18 79 [some (zr r0), some (zi x1)] [zi (gI h (ad (gR h (ad r0) 4)) 0)] h Q))) :=
  (WP_blk 3 18 72 _ _ h Q).trans rfl
theorem b_18_79 (r0 : Option Nat) (x1 : Int) (s0 : Int) (h : Zh) (Q : Zp) : WP 18 79 [some (zr r0), some (zi x1)] [zi s0] h Q = (Q (.inl (some (zi s0))) h) :=
  (WP_blk 1 18 79 _ _ h Q).trans rfl
theorem b_18_80 (r0 : Option Nat) (x1 : Int) (h : Zh) (Q : Zp) : WP 18 80 [some (zr r0), some (zi x1)] [] h Q = (kd h r0 3 ∧ (kd h (gR h (ad r0) 5) 4 ∧ (Q (.inl (some (zi (gI h (ad (gR h (ad r0) 5)) 0)))) h))) :=
  (WP_blk 4 18 80 _ _ h Q).trans rfl
theorem b_18_88 (r0 : Option Nat) (x1 : Int) (h : Zh) (Q : Zp) : WP 18 88 [some (zr r0), some (zi x1)] [] h Q = (kd h r0 3 ∧ (WP 15 0 [some (zr r0)] [] h (kont WP 18 89 [some (zr r0), some (zi x1)] [] [] Q))) :=
  (WP_blk 2 18 88 _ _ h Q).trans rfl
theorem b_18_92 (r0 : Option Nat) (x1 : Int) (s0 : Int) (h : Zh) (Q : Zp) : WP 18 92 [some (zr r0), some (zi x1)] [zi s0] h Q = (Q (.inl (some (zi s0))) h) :=
  (WP_blk 1 18 92 _ _ h Q).trans rfl
theorem b_18_93 (r0 : Option Nat) (x1 : Int) (h : Zh) (Q : Zp) : WP 18 93 [some (zr r0), some (zi x1)] [] h Q = (kd h r0 3 ∧ (kd h (gR h (ad r0) 5) 4 ∧ (kd h (gR h (ad (gR h (ad r0) 5)) 3) 1 ∧ (Q (.inl (some (zi (gI h (ad (gR h (ad (gR h (ad r0) 5)) 3)) 0)))) h)))) :=
  (WP_blk 5 18 93 _ _ h Q).trans rfl
theorem b_18_104 (r0 : Option Nat) (x1 : Int) (h : Zh) (Q : Zp) : WP 18 104 [some (zr r0), some (zi x1)] [] h Q = (kd h r0 3 ∧ (kd h (gR h (ad r0) 5) 4 ∧ (kd h (gR h (ad (gR h (ad r0) 5)) 3) 1 ∧ (Q (.inl (some (zi (gI h (ad (gR h (ad (gR h (ad r0) 5)) 3)) 1)))) h)))) :=
  (WP_blk 5 18 104 _ _ h Q).trans rfl
theorem b_18_115 (r0 : Option Nat) (x1 : Int) (h : Zh) (Q : Zp) : WP 18 115 [some (zr r0), some (zi x1)] [] h Q = (kd h r0 3 ∧ (Q (.inl (some (zi (gI h (ad r0) 3)))) h)) :=
  (WP_blk 3 18 115 _ _ h Q).trans rfl
theorem b_18_120 (r0 : Option Nat) (x1 : Int) (h : Zh) (Q : Zp) : WP 18 120 [some (zr r0), some (zi x1)] [] h Q = (kd h r0 3 ∧ (Q (.inl (some (zi (gI h (ad r0) 7)))) h)) :=
  (WP_blk 3 18 120 _ _ h Q).trans rfl
theorem b_18_125 (r0 : Option Nat) (x1 : Int) (h : Zh) (Q : Zp) : WP 18 125 [some (zr r0), some (zi x1)] [] h Q = (kd h r0 3 ∧ (kd h (gR h (ad r0) 5) 4 ∧ (br ((gI h (ad (gR h (ad r0) 5)) 5) = 0) (WP 18 139 [some (zr r0), some (zi x1)] [] h Q) (WP 18 135 [some (zr r0), some (zi x1)] [] h Q)))) :=
  (WP_blk 4 18 125 _ _ h Q).trans rfl
theorem b_18_135 (r0 : Option Nat) (x1 : Int) (h : Zh) (Q : Zp) : WP 18 135 [some (zr r0), some (zi x1)] [] h Q = (WP 18 140 [some (zr r0), some (zi x1)] [zi (1 : Int)] h Q) :=
  (WP_blk 2 18 135 _ _ h Q).trans rfl
theorem b_18_139 (r0 : Option Nat) (x1 : Int) (h : Zh) (Q : Zp) : WP 18 139 [some (zr r0), some (zi x1)] [] h Q = (WP 18 140 [some (zr r0), some (zi x1)] [zi (0 : Int)] h Q) :=
  (WP_blk 1 18 139 _ _ h Q).trans rfl
theorem b_18_140 (r0 : Option Nat) (x1 : Int) (s0 : Int) (h : Zh) (Q : Zp) : WP 18 140 [some (zr r0), some (zi x1)] [zi s0] h Q = (Q (.inl (some (zi s0))) h) :=
  (WP_blk 1 18 140 _ _ h Q).trans rfl
theorem b_18_141 (r0 : Option Nat) (x1 : Int) (h : Zh) (Q : Zp) : WP 18 141 [some (zr r0), some (zi x1)] [] h Q = (kd h r0 3 ∧ (kd h (gR h (ad r0) 5) 4 ∧ (Q (.inl (some (zi (gI h (ad (gR h (ad r0) 5)) 2)))) h))) :=
  (WP_blk 4 18 141 _ _ h Q).trans rfl
theorem b_18_149 (r0 : Option Nat) (x1 : Int) (h : Zh) (Q : Zp) : WP 18 149 [some (zr r0), some (zi x1)] [] h Q = (kd h r0 3 ∧ (kd h (gR h (ad r0) 5) 4 ∧ (Q (.inl (some (zi (gI h (ad (gR h (ad r0) 5)) 6)))) h))) :=
  (WP_blk 4 18 149 _ _ h Q).trans rfl
-- 19: Marginalia$Strand.<init>(IIILMarginalia$Anchor;[I)V
theorem b_19_0 (r0 : Option Nat) (x1 : Int) (x2 : Int) (x3 : Int) (r4 : Option Nat) (r5 : Option Nat) (h : Zh) (Q : Zp) : WP 19 0 [some (zr r0), some (zi x1), some (zi x2), some (zi x3), some (zr r4), some (zr r5)] [] h Q = (r0 ≠ none ∧ (kd h r0 4 ∧ (WP 19 9 [some (zr r0), some (zi x1), some (zi x2), some (zi x3), some (zr r4), some (zr r5)] [] (pI h (ad r0) 0 x1) Q))) :=
  (WP_blk 5 19 0 _ _ h Q).trans rfl
theorem b_19_9 (r0 : Option Nat) (x1 : Int) (x2 : Int) (x3 : Int) (r4 : Option Nat) (r5 : Option Nat) (h : Zh) (Q : Zp) : WP 19 9 [some (zr r0), some (zi x1), some (zi x2), some (zi x3), some (zr r4), some (zr r5)] [] h Q = (kd h r0 4 ∧ (WP 19 14 [some (zr r0), some (zi x1), some (zi x2), some (zi x3), some (zr r4), some (zr r5)] [] (pI h (ad r0) 1 x2) Q)) :=
  (WP_blk 3 19 9 _ _ h Q).trans rfl
theorem b_19_14 (r0 : Option Nat) (x1 : Int) (x2 : Int) (x3 : Int) (r4 : Option Nat) (r5 : Option Nat) (h : Zh) (Q : Zp) : WP 19 14 [some (zr r0), some (zi x1), some (zi x2), some (zi x3), some (zr r4), some (zr r5)] [] h Q = (kd h r0 4 ∧ (WP 19 19 [some (zr r0), some (zi x1), some (zi x2), some (zi x3), some (zr r4), some (zr r5)] [] (pI h (ad r0) 2 x3) Q)) :=
  (WP_blk 3 19 14 _ _ h Q).trans rfl
theorem b_19_19 (r0 : Option Nat) (x1 : Int) (x2 : Int) (x3 : Int) (r4 : Option Nat) (r5 : Option Nat) (h : Zh) (Q : Zp) : WP 19 19 [some (zr r0), some (zi x1), some (zi x2), some (zi x3), some (zr r4), some (zr r5)] [] h Q = (kd h r0 4 ∧ (WP 19 25 [some (zr r0), some (zi x1), some (zi x2), some (zi x3), some (zr r4), some (zr r5)] [] (pR h (ad r0) 3 r4) Q)) :=
  (WP_blk 3 19 19 _ _ h Q).trans rfl
theorem b_19_25 (r0 : Option Nat) (x1 : Int) (x2 : Int) (x3 : Int) (r4 : Option Nat) (r5 : Option Nat) (h : Zh) (Q : Zp) : WP 19 25 [some (zr r0), some (zi x1), some (zi x2), some (zi x3), some (zr r4), some (zr r5)] [] h Q = (kd h r0 4 ∧ (WP 19 31 [some (zr r0), some (zi x1), some (zi x2), some (zi x3), some (zr r4), some (zr r5)] [] (pR h (ad r0) 4 r5) Q)) :=
  (WP_blk 3 19 25 _ _ h Q).trans rfl
theorem b_19_31 (r0 : Option Nat) (x1 : Int) (x2 : Int) (x3 : Int) (r4 : Option Nat) (r5 : Option Nat) (h : Zh) (Q : Zp) : WP 19 31 [some (zr r0), some (zi x1), some (zi x2), some (zi x3), some (zr r4), some (zr r5)] [] h Q = (kd h r0 4 ∧ (WP 19 36 [some (zr r0), some (zi x1), some (zi x2), some (zi x3), some (zr r4), some (zr r5)] [] (pI h (ad r0) 6 (-1 : Int)) Q)) :=
  (WP_blk 3 19 31 _ _ h Q).trans rfl
theorem b_19_36 (r0 : Option Nat) (x1 : Int) (x2 : Int) (x3 : Int) (r4 : Option Nat) (r5 : Option Nat) (h : Zh) (Q : Zp) : WP 19 36 [some (zr r0), some (zi x1), some (zi x2), some (zi x3), some (zr r4), some (zr r5)] [] h Q = (Q (.inl none) h) :=
  (WP_blk 1 19 36 _ _ h Q).trans rfl
-- 20: Marginalia$Strand.isSeenBy(II)Z
theorem b_20_0 (r0 : Option Nat) (x1 : Int) (x2 : Int) (h : Zh) (Q : Zp) : WP 20 0 [some (zr r0), some (zi x1), some (zi x2)] [] h Q = (br (x2 = 0) (WP 20 4 [some (zr r0), some (zi x1), some (zi x2)] [] h Q) (WP 20 6 [some (zr r0), some (zi x1), some (zi x2)] [] h Q)) :=
  (WP_blk 2 20 0 _ _ h Q).trans rfl
theorem b_20_4 (r0 : Option Nat) (x1 : Int) (x2 : Int) (h : Zh) (Q : Zp) : WP 20 4 [some (zr r0), some (zi x1), some (zi x2)] [] h Q = (((0 : Int) = 0 ∨ (0 : Int) = 1) ∧ (Q (.inl (some (zi (0 : Int)))) h)) :=
  (WP_blk 2 20 4 _ _ h Q).trans rfl
theorem b_20_6 (r0 : Option Nat) (x1 : Int) (x2 : Int) (h : Zh) (Q : Zp) : WP 20 6 [some (zr r0), some (zi x1), some (zi x2)] [] h Q = (kd h r0 4 ∧ (br ((gI h (ad r0) 2) = (2 : Int)) (WP 20 40 [some (zr r0), some (zi x1), some (zi x2)] [] h Q) (WP 20 14 [some (zr r0), some (zi x1), some (zi x2)] [] h Q))) :=
  (WP_blk 4 20 6 _ _ h Q).trans rfl
theorem b_20_14 (r0 : Option Nat) (x1 : Int) (x2 : Int) (h : Zh) (Q : Zp) : WP 20 14 [some (zr r0), some (zi x1), some (zi x2)] [] h Q = (kd h r0 4 ∧ (br ((gI h (ad r0) 2) = (1 : Int)) (WP 20 22 [some (zr r0), some (zi x1), some (zi x2)] [] h Q) (WP 20 27 [some (zr r0), some (zi x1), some (zi x2)] [] h Q))) :=
  (WP_blk 4 20 14 _ _ h Q).trans rfl
theorem b_20_22 (r0 : Option Nat) (x1 : Int) (x2 : Int) (h : Zh) (Q : Zp) : WP 20 22 [some (zr r0), some (zi x1), some (zi x2)] [] h Q = (br ((2 : Int) ≤ x2) (WP 20 40 [some (zr r0), some (zi x1), some (zi x2)] [] h Q) (WP 20 27 [some (zr r0), some (zi x1), some (zi x2)] [] h Q)) :=
  (WP_blk 3 20 22 _ _ h Q).trans rfl
theorem b_20_27 (r0 : Option Nat) (x1 : Int) (x2 : Int) (h : Zh) (Q : Zp) : WP 20 27 [some (zr r0), some (zi x1), some (zi x2)] [] h Q = (kd h r0 4 ∧ (br ((gI h (ad r0) 1) = x1) (WP 20 40 [some (zr r0), some (zi x1), some (zi x2)] [] h Q) (WP 20 35 [some (zr r0), some (zi x1), some (zi x2)] [] h Q))) :=
  (WP_blk 4 20 27 _ _ h Q).trans rfl
theorem b_20_35 (r0 : Option Nat) (x1 : Int) (x2 : Int) (h : Zh) (Q : Zp) : WP 20 35 [some (zr r0), some (zi x1), some (zi x2)] [] h Q = (br (x2 = (4 : Int)) (WP 20 40 [some (zr r0), some (zi x1), some (zi x2)] [] h Q) (WP 20 44 [some (zr r0), some (zi x1), some (zi x2)] [] h Q)) :=
  (WP_blk 3 20 35 _ _ h Q).trans rfl
theorem b_20_40 (r0 : Option Nat) (x1 : Int) (x2 : Int) (h : Zh) (Q : Zp) : WP 20 40 [some (zr r0), some (zi x1), some (zi x2)] [] h Q = (WP 20 45 [some (zr r0), some (zi x1), some (zi x2)] [zi (1 : Int)] h Q) :=
  (WP_blk 2 20 40 _ _ h Q).trans rfl
theorem b_20_44 (r0 : Option Nat) (x1 : Int) (x2 : Int) (h : Zh) (Q : Zp) : WP 20 44 [some (zr r0), some (zi x1), some (zi x2)] [] h Q = (WP 20 45 [some (zr r0), some (zi x1), some (zi x2)] [zi (0 : Int)] h Q) :=
  (WP_blk 1 20 44 _ _ h Q).trans rfl
theorem b_20_45 (r0 : Option Nat) (x1 : Int) (x2 : Int) (s0 : Int) (h : Zh) (Q : Zp) : WP 20 45 [some (zr r0), some (zi x1), some (zi x2)] [zi s0] h Q = ((s0 = 0 ∨ s0 = 1) ∧ (Q (.inl (some (zi s0))) h)) :=
  (WP_blk 1 20 45 _ _ h Q).trans rfl
-- 21: Marginalia$Strand.isCountedAs(I)Z
theorem b_21_0 (r0 : Option Nat) (x1 : Int) (h : Zh) (Q : Zp) : WP 21 0 [some (zr r0), some (zi x1)] [] h Q = (br (x1 = (2 : Int)) (WP 21 32 [some (zr r0), some (zi x1)] [] h Q) (WP 21 5 [some (zr r0), some (zi x1)] [] h Q)) :=
  (WP_blk 3 21 0 _ _ h Q).trans rfl
theorem b_21_5 (r0 : Option Nat) (x1 : Int) (h : Zh) (Q : Zp) : WP 21 5 [some (zr r0), some (zi x1)] [] h Q = (br (x1 = (3 : Int)) (WP 21 10 [some (zr r0), some (zi x1)] [] h Q) (WP 21 17 [some (zr r0), some (zi x1)] [] h Q)) :=
  (WP_blk 3 21 5 _ _ h Q).trans rfl
theorem b_21_10 (r0 : Option Nat) (x1 : Int) (h : Zh) (Q : Zp) : WP 21 10 [some (zr r0), some (zi x1)] [] h Q = (kd h r0 4 ∧ (br ((gI h (ad r0) 5) = 0) (WP 21 32 [some (zr r0), some (zi x1)] [] h Q) (WP 21 17 [some (zr r0), some (zi x1)] [] h Q))) :=
  (WP_blk 3 21 10 _ _ h Q).trans rfl
theorem b_21_17 (r0 : Option Nat) (x1 : Int) (h : Zh) (Q : Zp) : WP 21 17 [some (zr r0), some (zi x1)] [] h Q = (br (x1 = (4 : Int)) (WP 21 22 [some (zr r0), some (zi x1)] [] h Q) (WP 21 36 [some (zr r0), some (zi x1)] [] h Q)) :=
  (WP_blk 3 21 17 _ _ h Q).trans rfl
theorem b_21_22 (r0 : Option Nat) (x1 : Int) (h : Zh) (Q : Zp) : WP 21 22 [some (zr r0), some (zi x1)] [] h Q = (kd h r0 4 ∧ (kd h (gR h (ad r0) 3) 1 ∧ (WP 3 0 [some (zr (gR h (ad r0) 3))] [] h (kont WP 21 26 [some (zr r0), some (zi x1)] [] [] Q)))) :=
  (WP_blk 3 21 22 _ _ h Q).trans rfl
theorem b_21_29 (r0 : Option Nat) (x1 : Int) (s0 : Int) (h : Zh) (Q : Zp) : WP 21 29 [some (zr r0), some (zi x1)] [zi s0] h Q = (br (s0 = 0) (WP 21 36 [some (zr r0), some (zi x1)] [] h Q) (WP 21 32 [some (zr r0), some (zi x1)] [] h Q)) :=
  (WP_blk 1 21 29 _ _ h Q).trans rfl
theorem b_21_32 (r0 : Option Nat) (x1 : Int) (h : Zh) (Q : Zp) : WP 21 32 [some (zr r0), some (zi x1)] [] h Q = (WP 21 37 [some (zr r0), some (zi x1)] [zi (1 : Int)] h Q) :=
  (WP_blk 2 21 32 _ _ h Q).trans rfl
theorem b_21_36 (r0 : Option Nat) (x1 : Int) (h : Zh) (Q : Zp) : WP 21 36 [some (zr r0), some (zi x1)] [] h Q = (WP 21 37 [some (zr r0), some (zi x1)] [zi (0 : Int)] h Q) :=
  (WP_blk 1 21 36 _ _ h Q).trans rfl
theorem b_21_37 (r0 : Option Nat) (x1 : Int) (s0 : Int) (h : Zh) (Q : Zp) : WP 21 37 [some (zr r0), some (zi x1)] [zi s0] h Q = ((s0 = 0 ∨ s0 = 1) ∧ (Q (.inl (some (zi s0))) h)) :=
  (WP_blk 1 21 37 _ _ h Q).trans rfl
-- 22: Marginalia$Text.<init>()V
theorem b_22_0 (r0 : Option Nat) (h : Zh) (Q : Zp) : WP 22 0 [some (zr r0)] [] h Q = (r0 ≠ none ∧ (((0 ≤ (61 : Int) ∧ (61 : Int) ≤ 1000 ∧ 0 ≤ (200 : Int) ∧ (200 : Int) ≤ 1000 ∧ gC h + 1 + Int.toNat (61 : Int) ≤ MXC ∧ gS h + Int.toNat (61 : Int) + Int.toNat (61 : Int) * Int.toNat (200 : Int) ≤ MXS) ∧ ∀ (q : Nat) (r : Nat → Nat), gK h q = 0 → (∀ i, i < Int.toNat (61 : Int) → gK h (r i) = 0 ∧ r i ≠ q) → (∀ i j, i < Int.toNat (61 : Int) → j < Int.toNat (61 : Int) → r i = r j → i = j) → WP 22 14 [some (zr r0)] [zr (some q), zr r0] (nw2 h q r (Int.toNat (61 : Int)) (200 : Int)) Q))) :=
  (WP_blk 6 22 0 _ _ h Q).trans rfl
theorem b_22_14 (r0 : Option Nat) (sr0 : Option Nat) (sr1 : Option Nat) (h : Zh) (Q : Zp) : WP 22 14 [some (zr r0)] [zr sr0, zr sr1] h Q = (kd h sr1 5 ∧ (WP 22 17 [some (zr r0)] [] (pR h (ad sr1) 0 sr0) Q)) :=
  (WP_blk 1 22 14 _ _ h Q).trans rfl
theorem b_22_17 (r0 : Option Nat) (h : Zh) (Q : Zp) : WP 22 17 [some (zr r0)] [] h Q = (((0 ≤ (61 : Int) ∧ (61 : Int) ≤ 1000000 ∧ gC h + 1 ≤ MXC ∧ gS h + Int.toNat (61 : Int) ≤ MXS) ∧ ∀ a, gK h a = 0 → WP 22 22 [some (zr r0)] [zr (some a), zr r0] (nw h a 10 (61 : Int)) Q)) :=
  (WP_blk 3 22 17 _ _ h Q).trans rfl
theorem b_22_22 (r0 : Option Nat) (sr0 : Option Nat) (sr1 : Option Nat) (h : Zh) (Q : Zp) : WP 22 22 [some (zr r0)] [zr sr0, zr sr1] h Q = (kd h sr1 5 ∧ (WP 22 25 [some (zr r0)] [] (pR h (ad sr1) 1 sr0) Q)) :=
  (WP_blk 1 22 22 _ _ h Q).trans rfl
theorem b_22_25 (r0 : Option Nat) (h : Zh) (Q : Zp) : WP 22 25 [some (zr r0)] [] h Q = (((0 ≤ (2400 : Int) ∧ (2400 : Int) ≤ 1000000 ∧ gC h + 1 ≤ MXC ∧ gS h + Int.toNat (2400 : Int) ≤ MXS) ∧ ∀ a, gK h a = 0 → WP 22 31 [some (zr r0)] [zr (some a), zr r0] (nw h a 10 (2400 : Int)) Q)) :=
  (WP_blk 3 22 25 _ _ h Q).trans rfl
theorem b_22_31 (r0 : Option Nat) (sr0 : Option Nat) (sr1 : Option Nat) (h : Zh) (Q : Zp) : WP 22 31 [some (zr r0)] [zr sr0, zr sr1] h Q = (kd h sr1 5 ∧ (WP 22 34 [some (zr r0)] [] (pR h (ad sr1) 2 sr0) Q)) :=
  (WP_blk 1 22 31 _ _ h Q).trans rfl
theorem b_22_34 (r0 : Option Nat) (h : Zh) (Q : Zp) : WP 22 34 [some (zr r0)] [] h Q = (Q (.inl none) h) :=
  (WP_blk 1 22 34 _ _ h Q).trans rfl
-- 23: Marginalia$Text.size()I
theorem b_23_0 (r0 : Option Nat) (h : Zh) (Q : Zp) : WP 23 0 [some (zr r0)] [] h Q = (kd h r0 5 ∧ (kd h r0 5 ∧ (ixa h (gR h (ad r0) 1) 10 (gI h (ad r0) 4) ∧ (Q (.inl (some (zi (gI h (ad (gR h (ad r0) 1)) (gI h (ad r0) 4))))) h)))) :=
  (WP_blk 6 23 0 _ _ h Q).trans rfl
-- 24: Marginalia$Text.hasRoomFor(II)Z
theorem b_24_0 (r0 : Option Nat) (x1 : Int) (x2 : Int) (h : Zh) (Q : Zp) : WP 24 0 [some (zr r0), some (zi x1), some (zi x2)] [] h Q = (kd h r0 5 ∧ (WP 23 0 [some (zr r0)] [] h (kont WP 24 1 [some (zr r0), some (zi x1), some (zi x2)] [] [] Q))) :=
  (WP_blk 2 24 0 _ _ h Q).trans rfl
theorem b_24_4 (r0 : Option Nat) (x1 : Int) (x2 : Int) (s0 : Int) (h : Zh) (Q : Zp) : WP 24 4 [some (zr r0), some (zi x1), some (zi x2)] [zi s0] h Q = (inR (s0 + x1) ∧ (br ((200 : Int) < (s0 + x1)) (WP 24 27 [some (zr r0), some (zi x1), some (zi x2)] [] h Q) (WP 24 12 [some (zr r0), some (zi x1), some (zi x2)] [] h Q))) :=
  (WP_blk 4 24 4 _ _ h Q).trans rfl
theorem b_24_12 (r0 : Option Nat) (x1 : Int) (x2 : Int) (h : Zh) (Q : Zp) : WP 24 12 [some (zr r0), some (zi x1), some (zi x2)] [] h Q = (kd h r0 5 ∧ (inR ((gI h (ad r0) 4) + x2) ∧ (br ((60 : Int) < ((gI h (ad r0) 4) + x2)) (WP 24 27 [some (zr r0), some (zi x1), some (zi x2)] [] h Q) (WP 24 23 [some (zr r0), some (zi x1), some (zi x2)] [] h Q)))) :=
  (WP_blk 6 24 12 _ _ h Q).trans rfl
theorem b_24_23 (r0 : Option Nat) (x1 : Int) (x2 : Int) (h : Zh) (Q : Zp) : WP 24 23 [some (zr r0), some (zi x1), some (zi x2)] [] h Q = (WP 24 28 [some (zr r0), some (zi x1), some (zi x2)] [zi (1 : Int)] h Q) :=
  (WP_blk 2 24 23 _ _ h Q).trans rfl
theorem b_24_27 (r0 : Option Nat) (x1 : Int) (x2 : Int) (h : Zh) (Q : Zp) : WP 24 27 [some (zr r0), some (zi x1), some (zi x2)] [] h Q = (WP 24 28 [some (zr r0), some (zi x1), some (zi x2)] [zi (0 : Int)] h Q) :=
  (WP_blk 1 24 27 _ _ h Q).trans rfl
theorem b_24_28 (r0 : Option Nat) (x1 : Int) (x2 : Int) (s0 : Int) (h : Zh) (Q : Zp) : WP 24 28 [some (zr r0), some (zi x1), some (zi x2)] [zi s0] h Q = ((s0 = 0 ∨ s0 = 1) ∧ (Q (.inl (some (zi s0))) h)) :=
  (WP_blk 1 24 28 _ _ h Q).trans rfl
-- 25: Marginalia$Text.hasVersion(I)Z
theorem b_25_0 (r0 : Option Nat) (x1 : Int) (h : Zh) (Q : Zp) : WP 25 0 [some (zr r0), some (zi x1)] [] h Q = (kd h r0 5 ∧ (WP 67 0 [some (zi x1), some (zi (0 : Int)), some (zi (gI h (ad r0) 4))] [] h (kont WP 25 6 [some (zr r0), some (zi x1)] [] [] Q))) :=
  (WP_blk 5 25 0 _ _ h Q).trans rfl
theorem b_25_9 (r0 : Option Nat) (x1 : Int) (s0 : Int) (h : Zh) (Q : Zp) : WP 25 9 [some (zr r0), some (zi x1)] [zi s0] h Q = ((s0 = 0 ∨ s0 = 1) ∧ (Q (.inl (some (zi s0))) h)) :=
  (WP_blk 1 25 9 _ _ h Q).trans rfl
-- 26: Marginalia$Text.hasSignIn(II)Z
theorem b_26_0 (r0 : Option Nat) (x1 : Int) (x2 : Int) (h : Zh) (Q : Zp) : WP 26 0 [some (zr r0), some (zi x1), some (zi x2)] [] h Q = (kd h r0 5 ∧ (ixa h (gR h (ad r0) 1) 10 x1 ∧ (inR ((gI h (ad (gR h (ad r0) 1)) x1) - (1 : Int)) ∧ (WP 67 0 [some (zi x2), some (zi (0 : Int)), some (zi ((gI h (ad (gR h (ad r0) 1)) x1) - (1 : Int)))] [] h (kont WP 26 10 [some (zr r0), some (zi x1), some (zi x2)] [] [] Q))))) :=
  (WP_blk 9 26 0 _ _ h Q).trans rfl
theorem b_26_13 (r0 : Option Nat) (x1 : Int) (x2 : Int) (s0 : Int) (h : Zh) (Q : Zp) : WP 26 13 [some (zr r0), some (zi x1), some (zi x2)] [zi s0] h Q = ((s0 = 0 ∨ s0 = 1) ∧ (Q (.inl (some (zi s0))) h)) :=
  (WP_blk 1 26 13 _ _ h Q).trans rfl
-- 27: Marginalia$Text.signIn(II)I
theorem b_27_0 (r0 : Option Nat) (x1 : Int) (x2 : Int) (h : Zh) (Q : Zp) : WP 27 0 [some (zr r0), some (zi x1), some (zi x2)] [] h Q = (kd h r0 5 ∧ (kd h r0 5 ∧ (ixa h (gR h (ad r0) 0) 14 x1 ∧ (ixa h (gR h (ad (gR h (ad r0) 0)) x1) 10 x2 ∧ (ixa h (gR h (ad r0) 2) 10 (gI h (ad (gR h (ad (gR h (ad r0) 0)) x1)) x2) ∧ (Q (.inl (some (zi (gI h (ad (gR h (ad r0) 2)) (gI h (ad (gR h (ad (gR h (ad r0) 0)) x1)) x2))))) h)))))) :=
  (WP_blk 10 27 0 _ _ h Q).trans rfl
-- 28: Marginalia$Text.placeNow(II)I
theorem b_28_0 (r0 : Option Nat) (x1 : Int) (x2 : Int) (h : Zh) (Q : Zp) : WP 28 0 [some (zr r0), some (zi x1), some (zi x2), none, none] [] h Q = (kd h r0 5 ∧ (ixa h (gR h (ad r0) 0) 14 x1 ∧ (ixa h (gR h (ad (gR h (ad r0) 0)) x1) 10 x2 ∧ (WP 28 12 [some (zr r0), some (zi x1), some (zi x2), some (zi (gI h (ad (gR h (ad (gR h (ad r0) 0)) x1)) x2)), some (zi (0 : Int))] [] h Q)))) :=
  (WP_blk 9 28 0 _ _ h Q).trans rfl
theorem b_28_12 (r0 : Option Nat) (x1 : Int) (x2 : Int) (x3 : Int) (x4 : Int) (h : Zh) (Q : Zp) : WP 28 12 [some (zr r0), some (zi x1), some (zi x2), some (zi x3), some (zi x4)] [] h Q = (kd h r0 5 ∧ (WP 23 0 [some (zr r0)] [] h (kont WP 28 15 [some (zr r0), some (zi x1), some (zi x2), some (zi x3), some (zi x4)] [zi x4] [] Q))) :=
  (WP_blk 3 28 12 _ _ h Q).trans rfl
theorem b_28_18 (r0 : Option Nat) (x1 : Int) (x2 : Int) (x3 : Int) (x4 : Int) (s0 : Int) (s1 : Int) (h : Zh) (Q : Zp) : WP 28 18 [some (zr r0), some (zi x1), some (zi x2), some (zi x3), some (zi x4)] [zi s0, zi s1] h Q = (br (s0 ≤ s1) (WP 28 46 [some (zr r0), some (zi x1), some (zi x2), some (zi x3), some (zi x4)] [] h Q) (WP 28 21 [some (zr r0), some (zi x1), some (zi x2), some (zi x3), some (zi x4)] [] h Q)) :=
  (WP_blk 1 28 18 _ _ h Q).trans rfl
theorem b_28_21 (r0 : Option Nat) (x1 : Int) (x2 : Int) (x3 : Int) (x4 : Int) (h : Zh) (Q : Zp) : WP 28 21 [some (zr r0), some (zi x1), some (zi x2), some (zi x3), some (zi x4)] [] h Q = (kd h r0 5 ∧ (kd h r0 5 ∧ (ixa h (gR h (ad r0) 0) 14 (gI h (ad r0) 4) ∧ (ixa h (gR h (ad (gR h (ad r0) 0)) (gI h (ad r0) 4)) 10 x4 ∧ (br ((gI h (ad (gR h (ad (gR h (ad r0) 0)) (gI h (ad r0) 4))) x4) = x3) (WP 28 37 [some (zr r0), some (zi x1), some (zi x2), some (zi x3), some (zi x4)] [] h Q) (WP 28 40 [some (zr r0), some (zi x1), some (zi x2), some (zi x3), some (zi x4)] [] h Q)))))) :=
  (WP_blk 9 28 21 _ _ h Q).trans rfl
theorem b_28_37 (r0 : Option Nat) (x1 : Int) (x2 : Int) (x3 : Int) (x4 : Int) (h : Zh) (Q : Zp) : WP 28 37 [some (zr r0), some (zi x1), some (zi x2), some (zi x3), some (zi x4)] [] h Q = (Q (.inl (some (zi x4))) h) :=
  (WP_blk 2 28 37 _ _ h Q).trans rfl
theorem b_28_40 (r0 : Option Nat) (x1 : Int) (x2 : Int) (x3 : Int) (x4 : Int) (h : Zh) (Q : Zp) : WP 28 40 [some (zr r0), some (zi x1), some (zi x2), some (zi x3), some (zi x4)] [] h Q = (inR (x4 + 1) ∧ (WP 28 12 [some (zr r0), some (zi x1), some (zi x2), some (zi x3), some (zi (x4 + 1))] [] h Q)) :=
  (WP_blk 2 28 40 _ _ h Q).trans rfl
theorem b_28_46 (r0 : Option Nat) (x1 : Int) (x2 : Int) (x3 : Int) (x4 : Int) (h : Zh) (Q : Zp) : WP 28 46 [some (zr r0), some (zi x1), some (zi x2), some (zi x3), some (zi x4)] [] h Q = (Q (.inl (some (zi (-1 : Int)))) h) :=
  (WP_blk 2 28 46 _ _ h Q).trans rfl
-- 29: Marginalia$Text.hasAt(I[I)Z
theorem b_29_0 (r0 : Option Nat) (x1 : Int) (r2 : Option Nat) (h : Zh) (Q : Zp) : WP 29 0 [some (zr r0), some (zi x1), some (zr r2), none] [] h Q = (kd h r0 5 ∧ (WP 23 0 [some (zr r0)] [] h (kont WP 29 3 [some (zr r0), some (zi x1), some (zr r2), none] [zi (0 : Int), zi x1] [] Q))) :=
  (WP_blk 4 29 0 _ _ h Q).trans rfl
theorem b_29_6 (r0 : Option Nat) (x1 : Int) (r2 : Option Nat) (s0 : Int) (s1 : Int) (s2 : Int) (h : Zh) (Q : Zp) : WP 29 6 [some (zr r0), some (zi x1), some (zr r2), none] [zi s0, zi s1, zi s2] h Q = (kd h r2 10 ∧ (inR (s0 - (gL h (ad r2))) ∧ (WP 67 0 [some (zi s2), some (zi s1), some (zi (s0 - (gL h (ad r2))))] [] h (kont WP 29 9 [some (zr r0), some (zi x1), some (zr r2), none] [] [] Q)))) :=
  (WP_blk 4 29 6 _ _ h Q).trans rfl
theorem b_29_12 (r0 : Option Nat) (x1 : Int) (r2 : Option Nat) (s0 : Int) (h : Zh) (Q : Zp) : WP 29 12 [some (zr r0), some (zi x1), some (zr r2), none] [zi s0] h Q = (br (s0 = 0) (WP 29 15 [some (zr r0), some (zi x1), some (zr r2), none] [] h Q) (WP 29 17 [some (zr r0), some (zi x1), some (zr r2), none] [] h Q)) :=
  (WP_blk 1 29 12 _ _ h Q).trans rfl
theorem b_29_15 (r0 : Option Nat) (x1 : Int) (r2 : Option Nat) (h : Zh) (Q : Zp) : WP 29 15 [some (zr r0), some (zi x1), some (zr r2), none] [] h Q = (((0 : Int) = 0 ∨ (0 : Int) = 1) ∧ (Q (.inl (some (zi (0 : Int)))) h)) :=
  (WP_blk 2 29 15 _ _ h Q).trans rfl
theorem b_29_17 (r0 : Option Nat) (x1 : Int) (r2 : Option Nat) (h : Zh) (Q : Zp) : WP 29 17 [some (zr r0), some (zi x1), some (zr r2), none] [] h Q = (WP 29 19 [some (zr r0), some (zi x1), some (zr r2), some (zi (0 : Int))] [] h Q) :=
  (WP_blk 2 29 17 _ _ h Q).trans rfl
theorem b_29_19 (r0 : Option Nat) (x1 : Int) (r2 : Option Nat) (x3 : Int) (h : Zh) (Q : Zp) : WP 29 19 [some (zr r0), some (zi x1), some (zr r2), some (zi x3)] [] h Q = (kd h r2 10 ∧ (br ((gL h (ad r2)) ≤ x3) (WP 29 50 [some (zr r0), some (zi x1), some (zr r2), some (zi x3)] [] h Q) (WP 29 25 [some (zr r0), some (zi x1), some (zr r2), some (zi x3)] [] h Q))) :=
  (WP_blk 4 29 19 _ _ h Q).trans rfl
theorem b_29_25 (r0 : Option Nat) (x1 : Int) (r2 : Option Nat) (x3 : Int) (h : Zh) (Q : Zp) : WP 29 25 [some (zr r0), some (zi x1), some (zr r2), some (zi x3)] [] h Q = (kd h r0 5 ∧ (inR (x1 + x3) ∧ (kd h r0 5 ∧ (WP 27 0 [some (zr r0), some (zi (gI h (ad r0) 4)), some (zi (x1 + x3))] [] h (kont WP 29 33 [some (zr r0), some (zi x1), some (zr r2), some (zi x3)] [] [] Q))))) :=
  (WP_blk 7 29 25 _ _ h Q).trans rfl
theorem b_29_36 (r0 : Option Nat) (x1 : Int) (r2 : Option Nat) (x3 : Int) (s0 : Int) (h : Zh) (Q : Zp) : WP 29 36 [some (zr r0), some (zi x1), some (zr r2), some (zi x3)] [zi s0] h Q = (ixa h r2 10 x3 ∧ (br (s0 = (gI h (ad r2) x3)) (WP 29 44 [some (zr r0), some (zi x1), some (zr r2), some (zi x3)] [] h Q) (WP 29 42 [some (zr r0), some (zi x1), some (zr r2), some (zi x3)] [] h Q))) :=
  (WP_blk 4 29 36 _ _ h Q).trans rfl
theorem b_29_42 (r0 : Option Nat) (x1 : Int) (r2 : Option Nat) (x3 : Int) (h : Zh) (Q : Zp) : WP 29 42 [some (zr r0), some (zi x1), some (zr r2), some (zi x3)] [] h Q = (((0 : Int) = 0 ∨ (0 : Int) = 1) ∧ (Q (.inl (some (zi (0 : Int)))) h)) :=
  (WP_blk 2 29 42 _ _ h Q).trans rfl
theorem b_29_44 (r0 : Option Nat) (x1 : Int) (r2 : Option Nat) (x3 : Int) (h : Zh) (Q : Zp) : WP 29 44 [some (zr r0), some (zi x1), some (zr r2), some (zi x3)] [] h Q = (inR (x3 + 1) ∧ (WP 29 19 [some (zr r0), some (zi x1), some (zr r2), some (zi (x3 + 1))] [] h Q)) :=
  (WP_blk 2 29 44 _ _ h Q).trans rfl
theorem b_29_50 (r0 : Option Nat) (x1 : Int) (r2 : Option Nat) (x3 : Int) (h : Zh) (Q : Zp) : WP 29 50 [some (zr r0), some (zi x1), some (zr r2), some (zi x3)] [] h Q = (((1 : Int) = 0 ∨ (1 : Int) = 1) ∧ (Q (.inl (some (zi (1 : Int)))) h)) :=
  (WP_blk 2 29 50 _ _ h Q).trans rfl
-- 30: Marginalia$Text.edit(IIII)V
theorem b_30_0 (r0 : Option Nat) (x1 : Int) (x2 : Int) (x3 : Int) (x4 : Int) (h : Zh) (Q : Zp) : WP 30 0 [some (zr r0), some (zi x1), some (zi x2), some (zi x3), some (zi x4), none, none, none] [] h Q = (kd h r0 5 ∧ (kd h r0 5 ∧ (ixa h (gR h (ad r0) 0) 14 (gI h (ad r0) 4) ∧ (kd h r0 5 ∧ (kd h r0 5 ∧ (inR ((gI h (ad r0) 4) + (1 : Int)) ∧ (ixa h (gR h (ad r0) 0) 14 ((gI h (ad r0) 4) + (1 : Int)) ∧ ((kd h (gR h (ad (gR h (ad r0) 0)) (gI h (ad r0) 4)) 10 ∧ kd h (gR h (ad (gR h (ad r0) 0)) ((gI h (ad r0) 4) + (1 : Int))) 10 ∧ 0 ≤ x1 ∧ 0 ≤ (0 : Int) ∧ 0 ≤ (0 : Int) ∧ (0 : Int) + x1 ≤ gL h (ad (gR h (ad (gR h (ad r0) 0)) (gI h (ad r0) 4))) ∧ (0 : Int) + x1 ≤ gL h (ad (gR h (ad (gR h (ad r0) 0)) ((gI h (ad r0) 4) + (1 : Int))))) ∧ (WP 30 34 [some (zr r0), some (zi x1), some (zi x2), some (zi x3), some (zi x4), some (zr (gR h (ad (gR h (ad r0) 0)) (gI h (ad r0) 4))), some (zr (gR h (ad (gR h (ad r0) 0)) ((gI h (ad r0) 4) + (1 : Int)))), none] [] (cpy h (ad (gR h (ad (gR h (ad r0) 0)) (gI h (ad r0) 4))) (0 : Int) (ad (gR h (ad (gR h (ad r0) 0)) ((gI h (ad r0) 4) + (1 : Int)))) (0 : Int) x1) Q))))))))) :=
  (WP_blk 20 30 0 _ _ h Q).trans rfl
theorem b_30_34 (r0 : Option Nat) (x1 : Int) (x2 : Int) (x3 : Int) (x4 : Int) (r5 : Option Nat) (r6 : Option Nat) (h : Zh) (Q : Zp) : WP 30 34 [some (zr r0), some (zi x1), some (zi x2), some (zi x3), some (zi x4), some (zr r5), some (zr r6), none] [] h Q = (WP 30 37 [some (zr r0), some (zi x1), some (zi x2), some (zi x3), some (zi x4), some (zr r5), some (zr r6), some (zi (0 : Int))] [] h Q) :=
  (WP_blk 2 30 34 _ _ h Q).trans rfl
theorem b_30_37 (r0 : Option Nat) (x1 : Int) (x2 : Int) (x3 : Int) (x4 : Int) (r5 : Option Nat) (r6 : Option Nat) (x7 : Int) (h : Zh) (Q : Zp) : WP 30 37 [some (zr r0), some (zi x1), some (zi x2), some (zi x3), some (zi x4), some (zr r5), some (zr r6), some (zi x7)] [] h Q = (br (x3 ≤ x7) (WP 30 87 [some (zr r0), some (zi x1), some (zi x2), some (zi x3), some (zi x4), some (zr r5), some (zr r6), some (zi x7)] [] h Q) (WP 30 43 [some (zr r0), some (zi x1), some (zi x2), some (zi x3), some (zi x4), some (zr r5), some (zr r6), some (zi x7)] [] h Q)) :=
  (WP_blk 3 30 37 _ _ h Q).trans rfl
theorem b_30_43 (r0 : Option Nat) (x1 : Int) (x2 : Int) (x3 : Int) (x4 : Int) (r5 : Option Nat) (r6 : Option Nat) (x7 : Int) (h : Zh) (Q : Zp) : WP 30 43 [some (zr r0), some (zi x1), some (zi x2), some (zi x3), some (zi x4), some (zr r5), some (zr r6), some (zi x7)] [] h Q = (kd h r0 5 ∧ (kd h r0 5 ∧ (inR (x4 + x7) ∧ ((0 ≤ (x4 + x7) ∧ 0 < (26 : Int)) ∧ (ixa h (gR h (ad r0) 2) 10 (gI h (ad r0) 3) ∧ (WP 30 60 [some (zr r0), some (zi x1), some (zi x2), some (zi x3), some (zi x4), some (zr r5), some (zr r6), some (zi x7)] [] (pI h (ad (gR h (ad r0) 2)) (gI h (ad r0) 3) ((x4 + x7) % (26 : Int))) Q)))))) :=
  (WP_blk 10 30 43 _ _ h Q).trans rfl
theorem b_30_60 (r0 : Option Nat) (x1 : Int) (x2 : Int) (x3 : Int) (x4 : Int) (r5 : Option Nat) (r6 : Option Nat) (x7 : Int) (h : Zh) (Q : Zp) : WP 30 60 [some (zr r0), some (zi x1), some (zi x2), some (zi x3), some (zi x4), some (zr r5), some (zr r6), some (zi x7)] [] h Q = (inR (x1 + x7) ∧ (kd h r0 5 ∧ (ixa h r6 10 (x1 + x7) ∧ (WP 30 71 [some (zr r0), some (zi x1), some (zi x2), some (zi x3), some (zi x4), some (zr r5), some (zr r6), some (zi x7)] [] (pI h (ad r6) (x1 + x7) (gI h (ad r0) 3)) Q)))) :=
  (WP_blk 7 30 60 _ _ h Q).trans rfl
theorem b_30_71 (r0 : Option Nat) (x1 : Int) (x2 : Int) (x3 : Int) (x4 : Int) (r5 : Option Nat) (r6 : Option Nat) (x7 : Int) (h : Zh) (Q : Zp) : WP 30 71 [some (zr r0), some (zi x1), some (zi x2), some (zi x3), some (zi x4), some (zr r5), some (zr r6), some (zi x7)] [] h Q = (kd h r0 5 ∧ (inR ((gI h (ad r0) 3) + (1 : Int)) ∧ (kd h r0 5 ∧ (WP 30 81 [some (zr r0), some (zi x1), some (zi x2), some (zi x3), some (zi x4), some (zr r5), some (zr r6), some (zi x7)] [] (pI h (ad r0) 3 ((gI h (ad r0) 3) + (1 : Int))) Q)))) :=
  (WP_blk 6 30 71 _ _ h Q).trans rfl
theorem b_30_81 (r0 : Option Nat) (x1 : Int) (x2 : Int) (x3 : Int) (x4 : Int) (r5 : Option Nat) (r6 : Option Nat) (x7 : Int) (h : Zh) (Q : Zp) : WP 30 81 [some (zr r0), some (zi x1), some (zi x2), some (zi x3), some (zi x4), some (zr r5), some (zr r6), some (zi x7)] [] h Q = (inR (x7 + 1) ∧ (WP 30 37 [some (zr r0), some (zi x1), some (zi x2), some (zi x3), some (zi x4), some (zr r5), some (zr r6), some (zi (x7 + 1))] [] h Q)) :=
  (WP_blk 2 30 81 _ _ h Q).trans rfl
theorem b_30_87 (r0 : Option Nat) (x1 : Int) (x2 : Int) (x3 : Int) (x4 : Int) (r5 : Option Nat) (r6 : Option Nat) (x7 : Int) (h : Zh) (Q : Zp) : WP 30 87 [some (zr r0), some (zi x1), some (zi x2), some (zi x3), some (zi x4), some (zr r5), some (zr r6), some (zi x7)] [] h Q = (inR (x1 + x2) ∧ (inR (x1 + x3) ∧ (kd h r0 5 ∧ (WP 23 0 [some (zr r0)] [] h (kont WP 30 98 [some (zr r0), some (zi x1), some (zi x2), some (zi x3), some (zi x4), some (zr r5), some (zr r6), some (zi x7)] [zi (x1 + x3), zr r6, zi (x1 + x2), zr r5] [] Q))))) :=
  (WP_blk 10 30 87 _ _ h Q).trans rfl
theorem b_30_101 (r0 : Option Nat) (x1 : Int) (x2 : Int) (x3 : Int) (x4 : Int) (r5 : Option Nat) (r6 : Option Nat) (x7 : Int) (s0 : Int) (s1 : Int) (sr2 : Option Nat) (s3 : Int) (sr4 : Option Nat) (h : Zh) (Q : Zp) : WP 30 101 [some (zr r0), some (zi x1), some (zi x2), some (zi x3), some (zi x4), some (zr r5), some (zr r6), some (zi x7)] [zi s0, zi s1, zr sr2, zi s3, zr sr4] h Q = (inR (s0 - x1) ∧ (inR ((s0 - x1) - x2) ∧ ((kd h sr4 10 ∧ kd h sr2 10 ∧ 0 ≤ ((s0 - x1) - x2) ∧ 0 ≤ s3 ∧ 0 ≤ s1 ∧ s3 + ((s0 - x1) - x2) ≤ gL h (ad sr4) ∧ s1 + ((s0 - x1) - x2) ≤ gL h (ad sr2)) ∧ (WP 30 108 [some (zr r0), some (zi x1), some (zi x2), some (zi x3), some (zi x4), some (zr r5), some (zr r6), some (zi x7)] [] (cpy h (ad sr4) s3 (ad sr2) s1 ((s0 - x1) - x2)) Q)))) :=
  (WP_blk 5 30 101 _ _ h Q).trans rfl
theorem b_30_108 (r0 : Option Nat) (x1 : Int) (x2 : Int) (x3 : Int) (x4 : Int) (r5 : Option Nat) (r6 : Option Nat) (x7 : Int) (h : Zh) (Q : Zp) : WP 30 108 [some (zr r0), some (zi x1), some (zi x2), some (zi x3), some (zi x4), some (zr r5), some (zr r6), some (zi x7)] [] h Q = (kd h r0 5 ∧ (kd h r0 5 ∧ (inR ((gI h (ad r0) 4) + (1 : Int)) ∧ (kd h r0 5 ∧ (WP 23 0 [some (zr r0)] [] h (kont WP 30 119 [some (zr r0), some (zi x1), some (zi x2), some (zi x3), some (zi x4), some (zr r5), some (zr r6), some (zi x7)] [zi ((gI h (ad r0) 4) + (1 : Int)), zr (gR h (ad r0) 1)] [] Q)))))) :=
  (WP_blk 8 30 108 _ _ h Q).trans rfl
theorem b_30_122 (r0 : Option Nat) (x1 : Int) (x2 : Int) (x3 : Int) (x4 : Int) (r5 : Option Nat) (r6 : Option Nat) (x7 : Int) (s0 : Int) (s1 : Int) (sr2 : Option Nat) (h : Zh) (Q : Zp) : WP 30 122 [some (zr r0), some (zi x1), some (zi x2), some (zi x3), some (zi x4), some (zr r5), some (zr r6), some (zi x7)] [zi s0, zi s1, zr sr2] h Q = (inR (s0 - x2) ∧ (inR ((s0 - x2) + x3) ∧ (ixa h sr2 10 s1 ∧ (WP 30 127 [some (zr r0), some (zi x1), some (zi x2), some (zi x3), some (zi x4), some (zr r5), some (zr r6), some (zi x7)] [] (pI h (ad sr2) s1 ((s0 - x2) + x3)) Q)))) :=
  (WP_blk 5 30 122 _ _ h Q).trans rfl
theorem b_30_127 (r0 : Option Nat) (x1 : Int) (x2 : Int) (x3 : Int) (x4 : Int) (r5 : Option Nat) (r6 : Option Nat) (x7 : Int) (h : Zh) (Q : Zp) : WP 30 127 [some (zr r0), some (zi x1), some (zi x2), some (zi x3), some (zi x4), some (zr r5), some (zr r6), some (zi x7)] [] h Q = (kd h r0 5 ∧ (inR ((gI h (ad r0) 4) + (1 : Int)) ∧ (kd h r0 5 ∧ (WP 30 137 [some (zr r0), some (zi x1), some (zi x2), some (zi x3), some (zi x4), some (zr r5), some (zr r6), some (zi x7)] [] (pI h (ad r0) 4 ((gI h (ad r0) 4) + (1 : Int))) Q)))) :=
  (WP_blk 6 30 127 _ _ h Q).trans rfl
theorem b_30_137 (r0 : Option Nat) (x1 : Int) (x2 : Int) (x3 : Int) (x4 : Int) (r5 : Option Nat) (r6 : Option Nat) (x7 : Int) (h : Zh) (Q : Zp) : WP 30 137 [some (zr r0), some (zi x1), some (zi x2), some (zi x3), some (zi x4), some (zr r5), some (zr r6), some (zi x7)] [] h Q = (Q (.inl none) h) :=
  (WP_blk 1 30 137 _ _ h Q).trans rfl
