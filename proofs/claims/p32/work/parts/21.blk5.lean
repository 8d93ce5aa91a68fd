-- 31: Marginalia.<init>()V
theorem b_31_0 (r0 : Option Nat) (h : Zh) (Q : Zp) : WP 31 0 [some (zr r0)] [] h Q = (r0 ≠ none ∧ (((0 ≤ (6 : Int) ∧ (6 : Int) ≤ 1000000 ∧ gC h + 1 ≤ MXC ∧ gS h + Int.toNat (6 : Int) ≤ MXS) ∧ ∀ a, gK h a = 0 → WP 31 9 [some (zr r0)] [zr (some a), zr r0] (nw h a 10 (6 : Int)) Q))) :=
  (WP_blk 5 31 0 _ _ h Q).trans rfl
theorem b_31_9 (r0 : Option Nat) (sr0 : Option Nat) (sr1 : Option Nat) (h : Zh) (Q : Zp) : WP 31 9 [some (zr r0)] [zr sr0, zr sr1] h Q = (kd h sr1 6 ∧ (WP 31 12 [some (zr r0)] [] (pR h (ad sr1) 0 sr0) Q)) :=
  (WP_blk 1 31 9 _ _ h Q).trans rfl
theorem b_31_12 (r0 : Option Nat) (h : Zh) (Q : Zp) : WP 31 12 [some (zr r0)] [] h Q = (((gC h + 1 ≤ MXC ∧ gS h + 5 ≤ MXS) ∧ ∀ a, gK h a = 0 → WP 31 16 [some (zr r0)] [zr (some a), zr r0] (nw h a 5 5) Q)) :=
  (WP_blk 2 31 12 _ _ h Q).trans rfl
theorem b_31_16 (r0 : Option Nat) (sr0 : Option Nat) (sr1 : Option Nat) (h : Zh) (Q : Zp) : WP 31 16 [some (zr r0)] [zr sr0, zr sr1] h Q = (kd h sr0 5 ∧ (WP 22 0 [some (zr sr0)] [] h (kont WP 31 17 [some (zr r0)] [zr sr0, zr sr1] [] Q))) :=
  (WP_blk 2 31 16 _ _ h Q).trans rfl
theorem b_31_20 (r0 : Option Nat) (sr0 : Option Nat) (sr1 : Option Nat) (h : Zh) (Q : Zp) : WP 31 20 [some (zr r0)] [zr sr0, zr sr1] h Q = (kd h sr1 6 ∧ (WP 31 23 [some (zr r0)] [] (pR h (ad sr1) 1 sr0) Q)) :=
  (WP_blk 1 31 20 _ _ h Q).trans rfl
theorem b_31_23 (r0 : Option Nat) (h : Zh) (Q : Zp) : WP 31 23 [some (zr r0)] [] h Q = (((0 ≤ (60 : Int) ∧ (60 : Int) ≤ 1000000 ∧ gC h + 1 ≤ MXC ∧ gS h + Int.toNat (60 : Int) ≤ MXS) ∧ ∀ a, gK h a = 0 → WP 31 29 [some (zr r0)] [zr (some a), zr r0] (nw h a 13 (60 : Int)) Q)) :=
  (WP_blk 3 31 23 _ _ h Q).trans rfl
theorem b_31_29 (r0 : Option Nat) (sr0 : Option Nat) (sr1 : Option Nat) (h : Zh) (Q : Zp) : WP 31 29 [some (zr r0)] [zr sr0, zr sr1] h Q = (kd h sr1 6 ∧ (WP 31 32 [some (zr r0)] [] (pR h (ad sr1) 2 sr0) Q)) :=
  (WP_blk 1 31 29 _ _ h Q).trans rfl
theorem b_31_32 (r0 : Option Nat) (h : Zh) (Q : Zp) : WP 31 32 [some (zr r0)] [] h Q = (((0 ≤ (60 : Int) ∧ (60 : Int) ≤ 1000000 ∧ gC h + 1 ≤ MXC ∧ gS h + Int.toNat (60 : Int) ≤ MXS) ∧ ∀ a, gK h a = 0 → WP 31 38 [some (zr r0)] [zr (some a), zr r0] (nw h a 13 (60 : Int)) Q)) :=
  (WP_blk 3 31 32 _ _ h Q).trans rfl
theorem b_31_38 (r0 : Option Nat) (sr0 : Option Nat) (sr1 : Option Nat) (h : Zh) (Q : Zp) : WP 31 38 [some (zr r0)] [zr sr0, zr sr1] h Q = (kd h sr1 6 ∧ (WP 31 41 [some (zr r0)] [] (pR h (ad sr1) 3 sr0) Q)) :=
  (WP_blk 1 31 38 _ _ h Q).trans rfl
theorem b_31_41 (r0 : Option Nat) (h : Zh) (Q : Zp) : WP 31 41 [some (zr r0)] [] h Q = (((gC h + 1 ≤ MXC ∧ gS h + 2 ≤ MXS) ∧ ∀ a, gK h a = 0 → WP 31 45 [some (zr r0)] [zr (some a), zr r0] (nw h a 2 2) Q)) :=
  (WP_blk 2 31 41 _ _ h Q).trans rfl
theorem b_31_45 (r0 : Option Nat) (sr0 : Option Nat) (sr1 : Option Nat) (h : Zh) (Q : Zp) : WP 31 45 [some (zr r0)] [zr sr0, zr sr1] h Q = (kd h sr0 2 ∧ (WP 10 0 [some (zr sr0)] [] h (kont WP 31 46 [some (zr r0)] [zr sr0, zr sr1] [] Q))) :=
  (WP_blk 2 31 45 _ _ h Q).trans rfl
theorem b_31_49 (r0 : Option Nat) (sr0 : Option Nat) (sr1 : Option Nat) (h : Zh) (Q : Zp) : WP 31 49 [some (zr r0)] [zr sr0, zr sr1] h Q = (kd h sr1 6 ∧ (WP 31 52 [some (zr r0)] [] (pR h (ad sr1) 4 sr0) Q)) :=
  (WP_blk 1 31 49 _ _ h Q).trans rfl
theorem b_31_52 (r0 : Option Nat) (h : Zh) (Q : Zp) : WP 31 52 [some (zr r0)] [] h Q = (Q (.inl none) h) :=
  (WP_blk 1 31 52 _ _ h Q).trans rfl
-- 32: Marginalia.user(I)I
theorem b_32_0 (r0 : Option Nat) (x1 : Int) (h : Zh) (Q : Zp) : WP 32 0 [some (zr r0), some (zi x1)] [] h Q = (WP 68 0 [some (zi x1)] [] h (kont WP 32 1 [some (zr r0), some (zi x1)] [] [] Q)) :=
  (WP_blk 2 32 0 _ _ h Q).trans rfl
theorem b_32_4 (r0 : Option Nat) (x1 : Int) (s0 : Int) (h : Zh) (Q : Zp) : WP 32 4 [some (zr r0), some (zi x1)] [zi s0] h Q = (WP 65 0 [some (zi s0)] [] h (kont WP 32 4 [some (zr r0), some (zi x1)] [] [] Q)) :=
  (WP_blk 1 32 4 _ _ h Q).trans rfl
theorem b_32_7 (r0 : Option Nat) (x1 : Int) (h : Zh) (Q : Zp) : WP 32 7 [some (zr r0), some (zi x1)] [] h Q = (kd h r0 6 ∧ (br ((6 : Int) ≤ (gI h (ad r0) 5)) (WP 32 20 [some (zr r0), some (zi x1)] [] h Q) (WP 32 16 [some (zr r0), some (zi x1)] [] h Q))) :=
  (WP_blk 4 32 7 _ _ h Q).trans rfl
theorem b_32_16 (r0 : Option Nat) (x1 : Int) (h : Zh) (Q : Zp) : WP 32 16 [some (zr r0), some (zi x1)] [] h Q = (WP 32 21 [some (zr r0), some (zi x1)] [zi (1 : Int)] h Q) :=
  (WP_blk 2 32 16 _ _ h Q).trans rfl
theorem b_32_20 (r0 : Option Nat) (x1 : Int) (h : Zh) (Q : Zp) : WP 32 20 [some (zr r0), some (zi x1)] [] h Q = (WP 32 21 [some (zr r0), some (zi x1)] [zi (0 : Int)] h Q) :=
  (WP_blk 1 32 20 _ _ h Q).trans rfl
theorem b_32_21 (r0 : Option Nat) (x1 : Int) (s0 : Int) (h : Zh) (Q : Zp) : WP 32 21 [some (zr r0), some (zi x1)] [zi s0] h Q = (WP 66 0 [some (zi s0)] [] h (kont WP 32 21 [some (zr r0), some (zi x1)] [] [] Q)) :=
  (WP_blk 1 32 21 _ _ h Q).trans rfl
theorem b_32_24 (r0 : Option Nat) (x1 : Int) (h : Zh) (Q : Zp) : WP 32 24 [some (zr r0), some (zi x1)] [] h Q = (kd h r0 6 ∧ (kd h r0 6 ∧ (ixa h (gR h (ad r0) 0) 10 (gI h (ad r0) 5) ∧ (WP 32 34 [some (zr r0), some (zi x1)] [] (pI h (ad (gR h (ad r0) 0)) (gI h (ad r0) 5) x1) Q)))) :=
  (WP_blk 6 32 24 _ _ h Q).trans rfl
theorem b_32_34 (r0 : Option Nat) (x1 : Int) (h : Zh) (Q : Zp) : WP 32 34 [some (zr r0), some (zi x1)] [] h Q = (kd h r0 6 ∧ (inR ((gI h (ad r0) 5) + (1 : Int)) ∧ (kd h r0 6 ∧ (WP 32 44 [some (zr r0), some (zi x1)] [] (pI h (ad r0) 5 ((gI h (ad r0) 5) + (1 : Int))) Q)))) :=
  (WP_blk 6 32 34 _ _ h Q).trans rfl
theorem b_32_44 (r0 : Option Nat) (x1 : Int) (h : Zh) (Q : Zp) : WP 32 44 [some (zr r0), some (zi x1)] [] h Q = (kd h r0 6 ∧ (inR ((gI h (ad r0) 5) - (1 : Int)) ∧ (Q (.inl (some (zi ((gI h (ad r0) 5) - (1 : Int))))) h))) :=
  (WP_blk 5 32 44 _ _ h Q).trans rfl
-- 33: Marginalia.setRight(III)I
theorem b_33_0 (r0 : Option Nat) (x1 : Int) (x2 : Int) (x3 : Int) (h : Zh) (Q : Zp) : WP 33 0 [some (zr r0), some (zi x1), some (zi x2), some (zi x3), none] [] h Q = (kd h r0 6 ∧ (WP 61 0 [some (zr r0), some (zi x1)] [] h (kont WP 33 2 [some (zr r0), some (zi x1), some (zi x2), some (zi x3), none] [] [] Q))) :=
  (WP_blk 3 33 0 _ _ h Q).trans rfl
theorem b_33_5 (r0 : Option Nat) (x1 : Int) (x2 : Int) (x3 : Int) (h : Zh) (Q : Zp) : WP 33 5 [some (zr r0), some (zi x1), some (zi x2), some (zi x3), none] [] h Q = (kd h r0 6 ∧ (WP 61 0 [some (zr r0), some (zi x2)] [] h (kont WP 33 7 [some (zr r0), some (zi x1), some (zi x2), some (zi x3), none] [] [] Q))) :=
  (WP_blk 3 33 5 _ _ h Q).trans rfl
theorem b_33_10 (r0 : Option Nat) (x1 : Int) (x2 : Int) (x3 : Int) (h : Zh) (Q : Zp) : WP 33 10 [some (zr r0), some (zi x1), some (zi x2), some (zi x3), none] [] h Q = (WP 68 0 [some (zi x3)] [] h (kont WP 33 11 [some (zr r0), some (zi x1), some (zi x2), some (zi x3), none] [] [] Q)) :=
  (WP_blk 2 33 10 _ _ h Q).trans rfl
theorem b_33_14 (r0 : Option Nat) (x1 : Int) (x2 : Int) (x3 : Int) (s0 : Int) (h : Zh) (Q : Zp) : WP 33 14 [some (zr r0), some (zi x1), some (zi x2), some (zi x3), none] [zi s0] h Q = (WP 65 0 [some (zi s0)] [] h (kont WP 33 14 [some (zr r0), some (zi x1), some (zi x2), some (zi x3), none] [] [] Q)) :=
  (WP_blk 1 33 14 _ _ h Q).trans rfl
theorem b_33_17 (r0 : Option Nat) (x1 : Int) (x2 : Int) (x3 : Int) (h : Zh) (Q : Zp) : WP 33 17 [some (zr r0), some (zi x1), some (zi x2), some (zi x3), none] [] h Q = (kd h r0 6 ∧ (ixa h (gR h (ad r0) 0) 10 x1 ∧ (br ((gI h (ad (gR h (ad r0) 0)) x1) = (4 : Int)) (WP 33 27 [some (zr r0), some (zi x1), some (zi x2), some (zi x3), none] [] h Q) (WP 33 31 [some (zr r0), some (zi x1), some (zi x2), some (zi x3), none] [] h Q)))) :=
  (WP_blk 6 33 17 _ _ h Q).trans rfl
theorem b_33_27 (r0 : Option Nat) (x1 : Int) (x2 : Int) (x3 : Int) (h : Zh) (Q : Zp) : WP 33 27 [some (zr r0), some (zi x1), some (zi x2), some (zi x3), none] [] h Q = (WP 33 32 [some (zr r0), some (zi x1), some (zi x2), some (zi x3), none] [zi (1 : Int)] h Q) :=
  (WP_blk 2 33 27 _ _ h Q).trans rfl
theorem b_33_31 (r0 : Option Nat) (x1 : Int) (x2 : Int) (x3 : Int) (h : Zh) (Q : Zp) : WP 33 31 [some (zr r0), some (zi x1), some (zi x2), some (zi x3), none] [] h Q = (WP 33 32 [some (zr r0), some (zi x1), some (zi x2), some (zi x3), none] [zi (0 : Int)] h Q) :=
  (WP_blk 1 33 31 _ _ h Q).trans rfl
theorem b_33_32 (r0 : Option Nat) (x1 : Int) (x2 : Int) (x3 : Int) (s0 : Int) (h : Zh) (Q : Zp) : WP 33 32 [some (zr r0), some (zi x1), some (zi x2), some (zi x3), none] [zi s0] h Q = (WP 66 0 [some (zi s0)] [] h (kont WP 33 32 [some (zr r0), some (zi x1), some (zi x2), some (zi x3), none] [] [] Q)) :=
  (WP_blk 1 33 32 _ _ h Q).trans rfl
theorem b_33_35 (r0 : Option Nat) (x1 : Int) (x2 : Int) (x3 : Int) (h : Zh) (Q : Zp) : WP 33 35 [some (zr r0), some (zi x1), some (zi x2), some (zi x3), none] [] h Q = (kd h r0 6 ∧ (ixa h (gR h (ad r0) 0) 10 x2 ∧ (kd h r0 6 ∧ (ixa h (gR h (ad r0) 0) 10 x2 ∧ (WP 33 50 [some (zr r0), some (zi x1), some (zi x2), some (zi x3), some (zi (gI h (ad (gR h (ad r0) 0)) x2))] [] (pI h (ad (gR h (ad r0) 0)) x2 x3) Q))))) :=
  (WP_blk 10 33 35 _ _ h Q).trans rfl
theorem b_33_50 (r0 : Option Nat) (x1 : Int) (x2 : Int) (x3 : Int) (x4 : Int) (h : Zh) (Q : Zp) : WP 33 50 [some (zr r0), some (zi x1), some (zi x2), some (zi x3), some (zi x4)] [] h Q = (Q (.inl (some (zi x4))) h) :=
  (WP_blk 2 33 50 _ _ h Q).trans rfl
-- 34: Marginalia.insert(IIII)I
theorem b_34_0 (r0 : Option Nat) (x1 : Int) (x2 : Int) (x3 : Int) (x4 : Int) (h : Zh) (Q : Zp) : WP 34 0 [some (zr r0), some (zi x1), some (zi x2), some (zi x3), some (zi x4)] [] h Q = (kd h r0 6 ∧ (WP 61 0 [some (zr r0), some (zi x1)] [] h (kont WP 34 2 [some (zr r0), some (zi x1), some (zi x2), some (zi x3), some (zi x4)] [] [] Q))) :=
  (WP_blk 3 34 0 _ _ h Q).trans rfl
theorem b_34_5 (r0 : Option Nat) (x1 : Int) (x2 : Int) (x3 : Int) (x4 : Int) (h : Zh) (Q : Zp) : WP 34 5 [some (zr r0), some (zi x1), some (zi x2), some (zi x3), some (zi x4)] [] h Q = (kd h r0 6 ∧ (kd h (gR h (ad r0) 1) 5 ∧ (WP 23 0 [some (zr (gR h (ad r0) 1))] [] h (kont WP 34 11 [some (zr r0), some (zi x1), some (zi x2), some (zi x3), some (zi x4)] [zi (0 : Int), zi x2] [] Q)))) :=
  (WP_blk 5 34 5 _ _ h Q).trans rfl
theorem b_34_14 (r0 : Option Nat) (x1 : Int) (x2 : Int) (x3 : Int) (x4 : Int) (s0 : Int) (s1 : Int) (s2 : Int) (h : Zh) (Q : Zp) : WP 34 14 [some (zr r0), some (zi x1), some (zi x2), some (zi x3), some (zi x4)] [zi s0, zi s1, zi s2] h Q = (WP 67 0 [some (zi s2), some (zi s1), some (zi s0)] [] h (kont WP 34 14 [some (zr r0), some (zi x1), some (zi x2), some (zi x3), some (zi x4)] [] [] Q)) :=
  (WP_blk 1 34 14 _ _ h Q).trans rfl
theorem b_34_17 (r0 : Option Nat) (x1 : Int) (x2 : Int) (x3 : Int) (x4 : Int) (s0 : Int) (h : Zh) (Q : Zp) : WP 34 17 [some (zr r0), some (zi x1), some (zi x2), some (zi x3), some (zi x4)] [zi s0] h Q = (WP 64 0 [some (zi s0)] [] h (kont WP 34 17 [some (zr r0), some (zi x1), some (zi x2), some (zi x3), some (zi x4)] [] [] Q)) :=
  (WP_blk 1 34 17 _ _ h Q).trans rfl
theorem b_34_20 (r0 : Option Nat) (x1 : Int) (x2 : Int) (x3 : Int) (x4 : Int) (h : Zh) (Q : Zp) : WP 34 20 [some (zr r0), some (zi x1), some (zi x2), some (zi x3), some (zi x4)] [] h Q = (WP 67 0 [some (zi x3), some (zi (1 : Int)), some (zi (40 : Int))] [] h (kont WP 34 24 [some (zr r0), some (zi x1), some (zi x2), some (zi x3), some (zi x4)] [] [] Q)) :=
  (WP_blk 4 34 20 _ _ h Q).trans rfl
theorem b_34_27 (r0 : Option Nat) (x1 : Int) (x2 : Int) (x3 : Int) (x4 : Int) (s0 : Int) (h : Zh) (Q : Zp) : WP 34 27 [some (zr r0), some (zi x1), some (zi x2), some (zi x3), some (zi x4)] [zi s0] h Q = (br (s0 = 0) (WP 34 45 [some (zr r0), some (zi x1), some (zi x2), some (zi x3), some (zi x4)] [] h Q) (WP 34 30 [some (zr r0), some (zi x1), some (zi x2), some (zi x3), some (zi x4)] [] h Q)) :=
  (WP_blk 1 34 27 _ _ h Q).trans rfl
theorem b_34_30 (r0 : Option Nat) (x1 : Int) (x2 : Int) (x3 : Int) (x4 : Int) (h : Zh) (Q : Zp) : WP 34 30 [some (zr r0), some (zi x1), some (zi x2), some (zi x3), some (zi x4)] [] h Q = (WP 67 0 [some (zi x4), some (zi (0 : Int)), some (zi (25 : Int))] [] h (kont WP 34 35 [some (zr r0), some (zi x1), some (zi x2), some (zi x3), some (zi x4)] [] [] Q)) :=
  (WP_blk 4 34 30 _ _ h Q).trans rfl
theorem b_34_38 (r0 : Option Nat) (x1 : Int) (x2 : Int) (x3 : Int) (x4 : Int) (s0 : Int) (h : Zh) (Q : Zp) : WP 34 38 [some (zr r0), some (zi x1), some (zi x2), some (zi x3), some (zi x4)] [zi s0] h Q = (br (s0 = 0) (WP 34 45 [some (zr r0), some (zi x1), some (zi x2), some (zi x3), some (zi x4)] [] h Q) (WP 34 41 [some (zr r0), some (zi x1), some (zi x2), some (zi x3), some (zi x4)] [] h Q)) :=
  (WP_blk 1 34 38 _ _ h Q).trans rfl
theorem b_34_41 (r0 : Option Nat) (x1 : Int) (x2 : Int) (x3 : Int) (x4 : Int) (h : Zh) (Q : Zp) : WP 34 41 [some (zr r0), some (zi x1), some (zi x2), some (zi x3), some (zi x4)] [] h Q = (WP 34 46 [some (zr r0), some (zi x1), some (zi x2), some (zi x3), some (zi x4)] [zi (1 : Int)] h Q) :=
  (WP_blk 2 34 41 _ _ h Q).trans rfl
theorem b_34_45 (r0 : Option Nat) (x1 : Int) (x2 : Int) (x3 : Int) (x4 : Int) (h : Zh) (Q : Zp) : WP 34 45 [some (zr r0), some (zi x1), some (zi x2), some (zi x3), some (zi x4)] [] h Q = (WP 34 46 [some (zr r0), some (zi x1), some (zi x2), some (zi x3), some (zi x4)] [zi (0 : Int)] h Q) :=
  (WP_blk 1 34 45 _ _ h Q).trans rfl
theorem b_34_46 (r0 : Option Nat) (x1 : Int) (x2 : Int) (x3 : Int) (x4 : Int) (s0 : Int) (h : Zh) (Q : Zp) : WP 34 46 [some (zr r0), some (zi x1), some (zi x2), some (zi x3), some (zi x4)] [zi s0] h Q = (WP 65 0 [some (zi s0)] [] h (kont WP 34 46 [some (zr r0), some (zi x1), some (zi x2), some (zi x3), some (zi x4)] [] [] Q)) :=
  (WP_blk 1 34 46 _ _ h Q).trans rfl
theorem b_34_49 (r0 : Option Nat) (x1 : Int) (x2 : Int) (x3 : Int) (x4 : Int) (h : Zh) (Q : Zp) : WP 34 49 [some (zr r0), some (zi x1), some (zi x2), some (zi x3), some (zi x4)] [] h Q = (kd h r0 6 ∧ (ixa h (gR h (ad r0) 0) 10 x1 ∧ (br ((gI h (ad (gR h (ad r0) 0)) x1) < (3 : Int)) (WP 34 75 [some (zr r0), some (zi x1), some (zi x2), some (zi x3), some (zi x4)] [] h Q) (WP 34 59 [some (zr r0), some (zi x1), some (zi x2), some (zi x3), some (zi x4)] [] h Q)))) :=
  (WP_blk 6 34 49 _ _ h Q).trans rfl
theorem b_34_59 (r0 : Option Nat) (x1 : Int) (x2 : Int) (x3 : Int) (x4 : Int) (h : Zh) (Q : Zp) : WP 34 59 [some (zr r0), some (zi x1), some (zi x2), some (zi x3), some (zi x4)] [] h Q = (kd h r0 6 ∧ (kd h (gR h (ad r0) 1) 5 ∧ (WP 24 0 [some (zr (gR h (ad r0) 1)), some (zi x3), some (zi (1 : Int))] [] h (kont WP 34 65 [some (zr r0), some (zi x1), some (zi x2), some (zi x3), some (zi x4)] [] [] Q)))) :=
  (WP_blk 5 34 59 _ _ h Q).trans rfl
theorem b_34_68 (r0 : Option Nat) (x1 : Int) (x2 : Int) (x3 : Int) (x4 : Int) (s0 : Int) (h : Zh) (Q : Zp) : WP 34 68 [some (zr r0), some (zi x1), some (zi x2), some (zi x3), some (zi x4)] [zi s0] h Q = (br (s0 = 0) (WP 34 75 [some (zr r0), some (zi x1), some (zi x2), some (zi x3), some (zi x4)] [] h Q) (WP 34 71 [some (zr r0), some (zi x1), some (zi x2), some (zi x3), some (zi x4)] [] h Q)) :=
  (WP_blk 1 34 68 _ _ h Q).trans rfl
theorem b_34_71 (r0 : Option Nat) (x1 : Int) (x2 : Int) (x3 : Int) (x4 : Int) (h : Zh) (Q : Zp) : WP 34 71 [some (zr r0), some (zi x1), some (zi x2), some (zi x3), some (zi x4)] [] h Q = (WP 34 76 [some (zr r0), some (zi x1), some (zi x2), some (zi x3), some (zi x4)] [zi (1 : Int)] h Q) :=
  (WP_blk 2 34 71 _ _ h Q).trans rfl
theorem b_34_75 (r0 : Option Nat) (x1 : Int) (x2 : Int) (x3 : Int) (x4 : Int) (h : Zh) (Q : Zp) : WP 34 75 [some (zr r0), some (zi x1), some (zi x2), some (zi x3), some (zi x4)] [] h Q = (WP 34 76 [some (zr r0), some (zi x1), some (zi x2), some (zi x3), some (zi x4)] [zi (0 : Int)] h Q) :=
  (WP_blk 1 34 75 _ _ h Q).trans rfl
theorem b_34_76 (r0 : Option Nat) (x1 : Int) (x2 : Int) (x3 : Int) (x4 : Int) (s0 : Int) (h : Zh) (Q : Zp) : WP 34 76 [some (zr r0), some (zi x1), some (zi x2), some (zi x3), some (zi x4)] [zi s0] h Q = (WP 66 0 [some (zi s0)] [] h (kont WP 34 76 [some (zr r0), some (zi x1), some (zi x2), some (zi x3), some (zi x4)] [] [] Q)) :=
  (WP_blk 1 34 76 _ _ h Q).trans rfl
theorem b_34_79 (r0 : Option Nat) (x1 : Int) (x2 : Int) (x3 : Int) (x4 : Int) (h : Zh) (Q : Zp) : WP 34 79 [some (zr r0), some (zi x1), some (zi x2), some (zi x3), some (zi x4)] [] h Q = (kd h r0 6 ∧ (WP 70 0 [some (zr r0), some (zi x2), some (zi x3), some (zi x4), none] [] h (kont WP 34 84 [some (zr r0), some (zi x1), some (zi x2), some (zi x3), some (zi x4)] [] [] Q))) :=
  (WP_blk 5 34 79 _ _ h Q).trans rfl
theorem b_34_87 (r0 : Option Nat) (x1 : Int) (x2 : Int) (x3 : Int) (x4 : Int) (h : Zh) (Q : Zp) : WP 34 87 [some (zr r0), some (zi x1), some (zi x2), some (zi x3), some (zi x4)] [] h Q = (kd h r0 6 ∧ (kd h (gR h (ad r0) 1) 5 ∧ (WP 23 0 [some (zr (gR h (ad r0) 1))] [] h (kont WP 34 91 [some (zr r0), some (zi x1), some (zi x2), some (zi x3), some (zi x4)] [] [] Q)))) :=
  (WP_blk 3 34 87 _ _ h Q).trans rfl
theorem b_34_94 (r0 : Option Nat) (x1 : Int) (x2 : Int) (x3 : Int) (x4 : Int) (s0 : Int) (h : Zh) (Q : Zp) : WP 34 94 [some (zr r0), some (zi x1), some (zi x2), some (zi x3), some (zi x4)] [zi s0] h Q = (Q (.inl (some (zi s0))) h) :=
  (WP_blk 1 34 94 _ _ h Q).trans rfl
-- 35: Marginalia.delete(III)I
theorem b_35_0 (r0 : Option Nat) (x1 : Int) (x2 : Int) (x3 : Int) (h : Zh) (Q : Zp) : WP 35 0 [some (zr r0), some (zi x1), some (zi x2), some (zi x3)] [] h Q = (kd h r0 6 ∧ (WP 61 0 [some (zr r0), some (zi x1)] [] h (kont WP 35 2 [some (zr r0), some (zi x1), some (zi x2), some (zi x3)] [] [] Q))) :=
  (WP_blk 3 35 0 _ _ h Q).trans rfl
theorem b_35_5 (r0 : Option Nat) (x1 : Int) (x2 : Int) (x3 : Int) (h : Zh) (Q : Zp) : WP 35 5 [some (zr r0), some (zi x1), some (zi x2), some (zi x3)] [] h Q = (kd h r0 6 ∧ (WP 62 0 [some (zr r0), some (zi x2)] [] h (kont WP 35 7 [some (zr r0), some (zi x1), some (zi x2), some (zi x3)] [] [] Q))) :=
  (WP_blk 3 35 5 _ _ h Q).trans rfl
theorem b_35_10 (r0 : Option Nat) (x1 : Int) (x2 : Int) (x3 : Int) (h : Zh) (Q : Zp) : WP 35 10 [some (zr r0), some (zi x1), some (zi x2), some (zi x3)] [] h Q = (kd h r0 6 ∧ (kd h (gR h (ad r0) 1) 5 ∧ (WP 23 0 [some (zr (gR h (ad r0) 1))] [] h (kont WP 35 16 [some (zr r0), some (zi x1), some (zi x2), some (zi x3)] [zi (1 : Int), zi x3] [] Q)))) :=
  (WP_blk 5 35 10 _ _ h Q).trans rfl
theorem b_35_19 (r0 : Option Nat) (x1 : Int) (x2 : Int) (x3 : Int) (s0 : Int) (s1 : Int) (s2 : Int) (h : Zh) (Q : Zp) : WP 35 19 [some (zr r0), some (zi x1), some (zi x2), some (zi x3)] [zi s0, zi s1, zi s2] h Q = (inR (s0 - x2) ∧ (WP 67 0 [some (zi s2), some (zi s1), some (zi (s0 - x2))] [] h (kont WP 35 21 [some (zr r0), some (zi x1), some (zi x2), some (zi x3)] [] [] Q))) :=
  (WP_blk 3 35 19 _ _ h Q).trans rfl
theorem b_35_24 (r0 : Option Nat) (x1 : Int) (x2 : Int) (x3 : Int) (s0 : Int) (h : Zh) (Q : Zp) : WP 35 24 [some (zr r0), some (zi x1), some (zi x2), some (zi x3)] [zi s0] h Q = (WP 65 0 [some (zi s0)] [] h (kont WP 35 24 [some (zr r0), some (zi x1), some (zi x2), some (zi x3)] [] [] Q)) :=
  (WP_blk 1 35 24 _ _ h Q).trans rfl
theorem b_35_27 (r0 : Option Nat) (x1 : Int) (x2 : Int) (x3 : Int) (h : Zh) (Q : Zp) : WP 35 27 [some (zr r0), some (zi x1), some (zi x2), some (zi x3)] [] h Q = (kd h r0 6 ∧ (ixa h (gR h (ad r0) 0) 10 x1 ∧ (br ((gI h (ad (gR h (ad r0) 0)) x1) < (3 : Int)) (WP 35 53 [some (zr r0), some (zi x1), some (zi x2), some (zi x3)] [] h Q) (WP 35 37 [some (zr r0), some (zi x1), some (zi x2), some (zi x3)] [] h Q)))) :=
  (WP_blk 6 35 27 _ _ h Q).trans rfl
theorem b_35_37 (r0 : Option Nat) (x1 : Int) (x2 : Int) (x3 : Int) (h : Zh) (Q : Zp) : WP 35 37 [some (zr r0), some (zi x1), some (zi x2), some (zi x3)] [] h Q = (kd h r0 6 ∧ (kd h (gR h (ad r0) 1) 5 ∧ (WP 24 0 [some (zr (gR h (ad r0) 1)), some (zi (0 : Int)), some (zi (1 : Int))] [] h (kont WP 35 43 [some (zr r0), some (zi x1), some (zi x2), some (zi x3)] [] [] Q)))) :=
  (WP_blk 5 35 37 _ _ h Q).trans rfl
theorem b_35_46 (r0 : Option Nat) (x1 : Int) (x2 : Int) (x3 : Int) (s0 : Int) (h : Zh) (Q : Zp) : WP 35 46 [some (zr r0), some (zi x1), some (zi x2), some (zi x3)] [zi s0] h Q = (br (s0 = 0) (WP 35 53 [some (zr r0), some (zi x1), some (zi x2), some (zi x3)] [] h Q) (WP 35 49 [some (zr r0), some (zi x1), some (zi x2), some (zi x3)] [] h Q)) :=
  (WP_blk 1 35 46 _ _ h Q).trans rfl
theorem b_35_49 (r0 : Option Nat) (x1 : Int) (x2 : Int) (x3 : Int) (h : Zh) (Q : Zp) : WP 35 49 [some (zr r0), some (zi x1), some (zi x2), some (zi x3)] [] h Q = (WP 35 54 [some (zr r0), some (zi x1), some (zi x2), some (zi x3)] [zi (1 : Int)] h Q) :=
  (WP_blk 2 35 49 _ _ h Q).trans rfl
theorem b_35_53 (r0 : Option Nat) (x1 : Int) (x2 : Int) (x3 : Int) (h : Zh) (Q : Zp) : WP 35 53 [some (zr r0), some (zi x1), some (zi x2), some (zi x3)] [] h Q = (WP 35 54 [some (zr r0), some (zi x1), some (zi x2), some (zi x3)] [zi (0 : Int)] h Q) :=
  (WP_blk 1 35 53 _ _ h Q).trans rfl
theorem b_35_54 (r0 : Option Nat) (x1 : Int) (x2 : Int) (x3 : Int) (s0 : Int) (h : Zh) (Q : Zp) : WP 35 54 [some (zr r0), some (zi x1), some (zi x2), some (zi x3)] [zi s0] h Q = (WP 66 0 [some (zi s0)] [] h (kont WP 35 54 [some (zr r0), some (zi x1), some (zi x2), some (zi x3)] [] [] Q)) :=
  (WP_blk 1 35 54 _ _ h Q).trans rfl
theorem b_35_57 (r0 : Option Nat) (x1 : Int) (x2 : Int) (x3 : Int) (h : Zh) (Q : Zp) : WP 35 57 [some (zr r0), some (zi x1), some (zi x2), some (zi x3)] [] h Q = (kd h r0 6 ∧ (WP 71 0 [some (zr r0), some (zi x2), some (zi x3), none] [] h (kont WP 35 60 [some (zr r0), some (zi x1), some (zi x2), some (zi x3)] [] [] Q))) :=
  (WP_blk 4 35 57 _ _ h Q).trans rfl
theorem b_35_63 (r0 : Option Nat) (x1 : Int) (x2 : Int) (x3 : Int) (h : Zh) (Q : Zp) : WP 35 63 [some (zr r0), some (zi x1), some (zi x2), some (zi x3)] [] h Q = (kd h r0 6 ∧ (kd h (gR h (ad r0) 1) 5 ∧ (WP 23 0 [some (zr (gR h (ad r0) 1))] [] h (kont WP 35 67 [some (zr r0), some (zi x1), some (zi x2), some (zi x3)] [] [] Q)))) :=
  (WP_blk 3 35 63 _ _ h Q).trans rfl
theorem b_35_70 (r0 : Option Nat) (x1 : Int) (x2 : Int) (x3 : Int) (s0 : Int) (h : Zh) (Q : Zp) : WP 35 70 [some (zr r0), some (zi x1), some (zi x2), some (zi x3)] [zi s0] h Q = (Q (.inl (some (zi s0))) h) :=
  (WP_blk 1 35 70 _ _ h Q).trans rfl
-- 36: Marginalia.length()I
theorem b_36_0 (r0 : Option Nat) (h : Zh) (Q : Zp) : WP 36 0 [some (zr r0)] [] h Q = (kd h r0 6 ∧ (kd h (gR h (ad r0) 1) 5 ∧ (WP 23 0 [some (zr (gR h (ad r0) 1))] [] h (kont WP 36 4 [some (zr r0)] [] [] Q)))) :=
  (WP_blk 3 36 0 _ _ h Q).trans rfl
theorem b_36_7 (r0 : Option Nat) (s0 : Int) (h : Zh) (Q : Zp) : WP 36 7 [some (zr r0)] [zi s0] h Q = (Q (.inl (some (zi s0))) h) :=
  (WP_blk 1 36 7 _ _ h Q).trans rfl
-- 38: Marginalia.now(II)I
theorem b_38_0 (r0 : Option Nat) (x1 : Int) (x2 : Int) (h : Zh) (Q : Zp) : WP 38 0 [some (zr r0), some (zi x1), some (zi x2)] [] h Q = (kd h r0 6 ∧ (kd h (gR h (ad r0) 1) 5 ∧ (WP 25 0 [some (zr (gR h (ad r0) 1)), some (zi x1)] [] h (kont WP 38 5 [some (zr r0), some (zi x1), some (zi x2)] [] [] Q)))) :=
  (WP_blk 4 38 0 _ _ h Q).trans rfl
theorem b_38_8 (r0 : Option Nat) (x1 : Int) (x2 : Int) (s0 : Int) (h : Zh) (Q : Zp) : WP 38 8 [some (zr r0), some (zi x1), some (zi x2)] [zi s0] h Q = (WP 64 0 [some (zi s0)] [] h (kont WP 38 8 [some (zr r0), some (zi x1), some (zi x2)] [] [] Q)) :=
  (WP_blk 1 38 8 _ _ h Q).trans rfl
theorem b_38_11 (r0 : Option Nat) (x1 : Int) (x2 : Int) (h : Zh) (Q : Zp) : WP 38 11 [some (zr r0), some (zi x1), some (zi x2)] [] h Q = (kd h r0 6 ∧ (kd h (gR h (ad r0) 1) 5 ∧ (WP 26 0 [some (zr (gR h (ad r0) 1)), some (zi x1), some (zi x2)] [] h (kont WP 38 17 [some (zr r0), some (zi x1), some (zi x2)] [] [] Q)))) :=
  (WP_blk 5 38 11 _ _ h Q).trans rfl
theorem b_38_20 (r0 : Option Nat) (x1 : Int) (x2 : Int) (s0 : Int) (h : Zh) (Q : Zp) : WP 38 20 [some (zr r0), some (zi x1), some (zi x2)] [zi s0] h Q = (WP 64 0 [some (zi s0)] [] h (kont WP 38 20 [some (zr r0), some (zi x1), some (zi x2)] [] [] Q)) :=
  (WP_blk 1 38 20 _ _ h Q).trans rfl
theorem b_38_23 (r0 : Option Nat) (x1 : Int) (x2 : Int) (h : Zh) (Q : Zp) : WP 38 23 [some (zr r0), some (zi x1), some (zi x2)] [] h Q = (kd h r0 6 ∧ (kd h (gR h (ad r0) 1) 5 ∧ (WP 28 0 [some (zr (gR h (ad r0) 1)), some (zi x1), some (zi x2), none, none] [] h (kont WP 38 29 [some (zr r0), some (zi x1), some (zi x2)] [] [] Q)))) :=
  (WP_blk 5 38 23 _ _ h Q).trans rfl
theorem b_38_32 (r0 : Option Nat) (x1 : Int) (x2 : Int) (s0 : Int) (h : Zh) (Q : Zp) : WP 38 32 [some (zr r0), some (zi x1), some (zi x2)] [zi s0] h Q = (Q (.inl (some (zi s0))) h) :=
  (WP_blk 1 38 32 _ _ h Q).trans rfl
-- 39: Marginalia.version()I
theorem b_39_0 (r0 : Option Nat) (h : Zh) (Q : Zp) : WP 39 0 [some (zr r0)] [] h Q = (kd h r0 6 ∧ (kd h (gR h (ad r0) 1) 5 ∧ (Q (.inl (some (zi (gI h (ad (gR h (ad r0) 1)) 4)))) h))) :=
  (WP_blk 4 39 0 _ _ h Q).trans rfl
-- 40: Marginalia.note(IIIII)I
theorem b_40_0 (r0 : Option Nat) (x1 : Int) (x2 : Int) (x3 : Int) (x4 : Int) (x5 : Int) (h : Zh) (Q : Zp) : WP 40 0 [some (zr r0), some (zi x1), some (zi x2), some (zi x3), some (zi x4), some (zi x5), none] [] h Q = (kd h r0 6 ∧ (WP 61 0 [some (zr r0), some (zi x1)] [] h (kont WP 40 2 [some (zr r0), some (zi x1), some (zi x2), some (zi x3), some (zi x4), some (zi x5), none] [] [] Q))) :=
  (WP_blk 3 40 0 _ _ h Q).trans rfl
theorem b_40_5 (r0 : Option Nat) (x1 : Int) (x2 : Int) (x3 : Int) (x4 : Int) (x5 : Int) (h : Zh) (Q : Zp) : WP 40 5 [some (zr r0), some (zi x1), some (zi x2), some (zi x3), some (zi x4), some (zi x5), none] [] h Q = (br (x2 < 0) (WP 40 29 [some (zr r0), some (zi x1), some (zi x2), some (zi x3), some (zi x4), some (zi x5), none] [] h Q) (WP 40 9 [some (zr r0), some (zi x1), some (zi x2), some (zi x3), some (zi x4), some (zi x5), none] [] h Q)) :=
  (WP_blk 2 40 5 _ _ h Q).trans rfl
theorem b_40_9 (r0 : Option Nat) (x1 : Int) (x2 : Int) (x3 : Int) (x4 : Int) (x5 : Int) (h : Zh) (Q : Zp) : WP 40 9 [some (zr r0), some (zi x1), some (zi x2), some (zi x3), some (zi x4), some (zi x5), none] [] h Q = (br (x3 ≤ x2) (WP 40 29 [some (zr r0), some (zi x1), some (zi x2), some (zi x3), some (zi x4), some (zi x5), none] [] h Q) (WP 40 14 [some (zr r0), some (zi x1), some (zi x2), some (zi x3), some (zi x4), some (zi x5), none] [] h Q)) :=
  (WP_blk 3 40 9 _ _ h Q).trans rfl
theorem b_40_14 (r0 : Option Nat) (x1 : Int) (x2 : Int) (x3 : Int) (x4 : Int) (x5 : Int) (h : Zh) (Q : Zp) : WP 40 14 [some (zr r0), some (zi x1), some (zi x2), some (zi x3), some (zi x4), some (zi x5), none] [] h Q = (kd h r0 6 ∧ (kd h (gR h (ad r0) 1) 5 ∧ (WP 23 0 [some (zr (gR h (ad r0) 1))] [] h (kont WP 40 19 [some (zr r0), some (zi x1), some (zi x2), some (zi x3), some (zi x4), some (zi x5), none] [zi x3] [] Q)))) :=
  (WP_blk 4 40 14 _ _ h Q).trans rfl
theorem b_40_22 (r0 : Option Nat) (x1 : Int) (x2 : Int) (x3 : Int) (x4 : Int) (x5 : Int) (s0 : Int) (s1 : Int) (h : Zh) (Q : Zp) : WP 40 22 [some (zr r0), some (zi x1), some (zi x2), some (zi x3), some (zi x4), some (zi x5), none] [zi s0, zi s1] h Q = (br (s0 < s1) (WP 40 29 [some (zr r0), some (zi x1), some (zi x2), some (zi x3), some (zi x4), some (zi x5), none] [] h Q) (WP 40 25 [some (zr r0), some (zi x1), some (zi x2), some (zi x3), some (zi x4), some (zi x5), none] [] h Q)) :=
  (WP_blk 1 40 22 _ _ h Q).trans rfl
theorem b_40_25 (r0 : Option Nat) (x1 : Int) (x2 : Int) (x3 : Int) (x4 : Int) (x5 : Int) (h : Zh) (Q : Zp) : WP 40 25 [some (zr r0), some (zi x1), some (zi x2), some (zi x3), some (zi x4), some (zi x5), none] [] h Q = (WP 40 30 [some (zr r0), some (zi x1), some (zi x2), some (zi x3), some (zi x4), some (zi x5), none] [zi (1 : Int)] h Q) :=
  (WP_blk 2 40 25 _ _ h Q).trans rfl
theorem b_40_29 (r0 : Option Nat) (x1 : Int) (x2 : Int) (x3 : Int) (x4 : Int) (x5 : Int) (h : Zh) (Q : Zp) : WP 40 29 [some (zr r0), some (zi x1), some (zi x2), some (zi x3), some (zi x4), some (zi x5), none] [] h Q = (WP 40 30 [some (zr r0), some (zi x1), some (zi x2), some (zi x3), some (zi x4), some (zi x5), none] [zi (0 : Int)] h Q) :=
  (WP_blk 1 40 29 _ _ h Q).trans rfl
theorem b_40_30 (r0 : Option Nat) (x1 : Int) (x2 : Int) (x3 : Int) (x4 : Int) (x5 : Int) (s0 : Int) (h : Zh) (Q : Zp) : WP 40 30 [some (zr r0), some (zi x1), some (zi x2), some (zi x3), some (zi x4), some (zi x5), none] [zi s0] h Q = (WP 65 0 [some (zi s0)] [] h (kont WP 40 30 [some (zr r0), some (zi x1), some (zi x2), some (zi x3), some (zi x4), some (zi x5), none] [] [] Q)) :=
  (WP_blk 1 40 30 _ _ h Q).trans rfl
theorem b_40_33 (r0 : Option Nat) (x1 : Int) (x2 : Int) (x3 : Int) (x4 : Int) (x5 : Int) (h : Zh) (Q : Zp) : WP 40 33 [some (zr r0), some (zi x1), some (zi x2), some (zi x3), some (zi x4), some (zi x5), none] [] h Q = (WP 67 0 [some (zi x4), some (zi (0 : Int)), some (zi (2 : Int))] [] h (kont WP 40 37 [some (zr r0), some (zi x1), some (zi x2), some (zi x3), some (zi x4), some (zi x5), none] [] [] Q)) :=
  (WP_blk 4 40 33 _ _ h Q).trans rfl
theorem b_40_40 (r0 : Option Nat) (x1 : Int) (x2 : Int) (x3 : Int) (x4 : Int) (x5 : Int) (s0 : Int) (h : Zh) (Q : Zp) : WP 40 40 [some (zr r0), some (zi x1), some (zi x2), some (zi x3), some (zi x4), some (zi x5), none] [zi s0] h Q = (br (s0 = 0) (WP 40 55 [some (zr r0), some (zi x1), some (zi x2), some (zi x3), some (zi x4), some (zi x5), none] [] h Q) (WP 40 43 [some (zr r0), some (zi x1), some (zi x2), some (zi x3), some (zi x4), some (zi x5), none] [] h Q)) :=
  (WP_blk 1 40 40 _ _ h Q).trans rfl
theorem b_40_43 (r0 : Option Nat) (x1 : Int) (x2 : Int) (x3 : Int) (x4 : Int) (x5 : Int) (h : Zh) (Q : Zp) : WP 40 43 [some (zr r0), some (zi x1), some (zi x2), some (zi x3), some (zi x4), some (zi x5), none] [] h Q = (WP 69 0 [some (zi x5)] [] h (kont WP 40 45 [some (zr r0), some (zi x1), some (zi x2), some (zi x3), some (zi x4), some (zi x5), none] [] [] Q)) :=
  (WP_blk 2 40 43 _ _ h Q).trans rfl
theorem b_40_48 (r0 : Option Nat) (x1 : Int) (x2 : Int) (x3 : Int) (x4 : Int) (x5 : Int) (s0 : Int) (h : Zh) (Q : Zp) : WP 40 48 [some (zr r0), some (zi x1), some (zi x2), some (zi x3), some (zi x4), some (zi x5), none] [zi s0] h Q = (br (s0 = 0) (WP 40 55 [some (zr r0), some (zi x1), some (zi x2), some (zi x3), some (zi x4), some (zi x5), none] [] h Q) (WP 40 51 [some (zr r0), some (zi x1), some (zi x2), some (zi x3), some (zi x4), some (zi x5), none] [] h Q)) :=
  (WP_blk 1 40 48 _ _ h Q).trans rfl
theorem b_40_51 (r0 : Option Nat) (x1 : Int) (x2 : Int) (x3 : Int) (x4 : Int) (x5 : Int) (h : Zh) (Q : Zp) : WP 40 51 [some (zr r0), some (zi x1), some (zi x2), some (zi x3), some (zi x4), some (zi x5), none] [] h Q = (WP 40 56 [some (zr r0), some (zi x1), some (zi x2), some (zi x3), some (zi x4), some (zi x5), none] [zi (1 : Int)] h Q) :=
  (WP_blk 2 40 51 _ _ h Q).trans rfl
theorem b_40_55 (r0 : Option Nat) (x1 : Int) (x2 : Int) (x3 : Int) (x4 : Int) (x5 : Int) (h : Zh) (Q : Zp) : WP 40 55 [some (zr r0), some (zi x1), some (zi x2), some (zi x3), some (zi x4), some (zi x5), none] [] h Q = (WP 40 56 [some (zr r0), some (zi x1), some (zi x2), some (zi x3), some (zi x4), some (zi x5), none] [zi (0 : Int)] h Q) :=
  (WP_blk 1 40 55 _ _ h Q).trans rfl
theorem b_40_56 (r0 : Option Nat) (x1 : Int) (x2 : Int) (x3 : Int) (x4 : Int) (x5 : Int) (s0 : Int) (h : Zh) (Q : Zp) : WP 40 56 [some (zr r0), some (zi x1), some (zi x2), some (zi x3), some (zi x4), some (zi x5), none] [zi s0] h Q = (WP 65 0 [some (zi s0)] [] h (kont WP 40 56 [some (zr r0), some (zi x1), some (zi x2), some (zi x3), some (zi x4), some (zi x5), none] [] [] Q)) :=
  (WP_blk 1 40 56 _ _ h Q).trans rfl
theorem b_40_59 (r0 : Option Nat) (x1 : Int) (x2 : Int) (x3 : Int) (x4 : Int) (x5 : Int) (h : Zh) (Q : Zp) : WP 40 59 [some (zr r0), some (zi x1), some (zi x2), some (zi x3), some (zi x4), some (zi x5), none] [] h Q = (kd h r0 6 ∧ (ixa h (gR h (ad r0) 0) 10 x1 ∧ (br ((gI h (ad (gR h (ad r0) 0)) x1) < (2 : Int)) (WP 40 82 [some (zr r0), some (zi x1), some (zi x2), some (zi x3), some (zi x4), some (zi x5), none] [] h Q) (WP 40 69 [some (zr r0), some (zi x1), some (zi x2), some (zi x3), some (zi x4), some (zi x5), none] [] h Q)))) :=
  (WP_blk 6 40 59 _ _ h Q).trans rfl
theorem b_40_69 (r0 : Option Nat) (x1 : Int) (x2 : Int) (x3 : Int) (x4 : Int) (x5 : Int) (h : Zh) (Q : Zp) : WP 40 69 [some (zr r0), some (zi x1), some (zi x2), some (zi x3), some (zi x4), some (zi x5), none] [] h Q = (kd h r0 6 ∧ (br ((60 : Int) ≤ (gI h (ad r0) 6)) (WP 40 82 [some (zr r0), some (zi x1), some (zi x2), some (zi x3), some (zi x4), some (zi x5), none] [] h Q) (WP 40 78 [some (zr r0), some (zi x1), some (zi x2), some (zi x3), some (zi x4), some (zi x5), none] [] h Q))) :=
  (WP_blk 4 40 69 _ _ h Q).trans rfl
theorem b_40_78 (r0 : Option Nat) (x1 : Int) (x2 : Int) (x3 : Int) (x4 : Int) (x5 : Int) (h : Zh) (Q : Zp) : WP 40 78 [some (zr r0), some (zi x1), some (zi x2), some (zi x3), some (zi x4), some (zi x5), none] [] h Q = (WP 40 83 [some (zr r0), some (zi x1), some (zi x2), some (zi x3), some (zi x4), some (zi x5), none] [zi (1 : Int)] h Q) :=
  (WP_blk 2 40 78 _ _ h Q).trans rfl
theorem b_40_82 (r0 : Option Nat) (x1 : Int) (x2 : Int) (x3 : Int) (x4 : Int) (x5 : Int) (h : Zh) (Q : Zp) : WP 40 82 [some (zr r0), some (zi x1), some (zi x2), some (zi x3), some (zi x4), some (zi x5), none] [] h Q = (WP 40 83 [some (zr r0), some (zi x1), some (zi x2), some (zi x3), some (zi x4), some (zi x5), none] [zi (0 : Int)] h Q) :=
  (WP_blk 1 40 82 _ _ h Q).trans rfl
theorem b_40_83 (r0 : Option Nat) (x1 : Int) (x2 : Int) (x3 : Int) (x4 : Int) (x5 : Int) (s0 : Int) (h : Zh) (Q : Zp) : WP 40 83 [some (zr r0), some (zi x1), some (zi x2), some (zi x3), some (zi x4), some (zi x5), none] [zi s0] h Q = (WP 66 0 [some (zi s0)] [] h (kont WP 40 83 [some (zr r0), some (zi x1), some (zi x2), some (zi x3), some (zi x4), some (zi x5), none] [] [] Q)) :=
  (WP_blk 1 40 83 _ _ h Q).trans rfl
theorem b_40_86 (r0 : Option Nat) (x1 : Int) (x2 : Int) (x3 : Int) (x4 : Int) (x5 : Int) (h : Zh) (Q : Zp) : WP 40 86 [some (zr r0), some (zi x1), some (zi x2), some (zi x3), some (zi x4), some (zi x5), none] [] h Q = (((gC h + 1 ≤ MXC ∧ gS h + 8 ≤ MXS) ∧ ∀ a, gK h a = 0 → WP 40 89 [some (zr r0), some (zi x1), some (zi x2), some (zi x3), some (zi x4), some (zi x5), none] [zr (some a)] (nw h a 4 8) Q)) :=
  (WP_blk 1 40 86 _ _ h Q).trans rfl
theorem b_40_89 (r0 : Option Nat) (x1 : Int) (x2 : Int) (x3 : Int) (x4 : Int) (x5 : Int) (sr0 : Option Nat) (h : Zh) (Q : Zp) : WP 40 89 [some (zr r0), some (zi x1), some (zi x2), some (zi x3), some (zi x4), some (zi x5), none] [zr sr0] h Q = (kd h r0 6 ∧ (((gC h + 1 ≤ MXC ∧ gS h + 2 ≤ MXS) ∧ ∀ a, gK h a = 0 → WP 40 100 [some (zr r0), some (zi x1), some (zi x2), some (zi x3), some (zi x4), some (zi x5), none] [zr (some a), zi x4, zi x1, zi (gI h (ad r0) 6), zr sr0, zr sr0] (nw h a 1 2) Q))) :=
  (WP_blk 6 40 89 _ _ h Q).trans rfl
theorem b_40_100 (r0 : Option Nat) (x1 : Int) (x2 : Int) (x3 : Int) (x4 : Int) (x5 : Int) (sr0 : Option Nat) (s1 : Int) (s2 : Int) (s3 : Int) (sr4 : Option Nat) (sr5 : Option Nat) (h : Zh) (Q : Zp) : WP 40 100 [some (zr r0), some (zi x1), some (zi x2), some (zi x3), some (zi x4), some (zi x5), none] [zr sr0, zi s1, zi s2, zi s3, zr sr4, zr sr5] h Q = (kd h sr0 1 ∧ (WP 0 0 [some (zr sr0), some (zi x2), some (zi x3)] [] h (kont WP 40 103 [some (zr r0), some (zi x1), some (zi x2), some (zi x3), some (zi x4), some (zi x5), none] [zr sr0, zi s1, zi s2, zi s3, zr sr4, zr sr5] [] Q))) :=
  (WP_blk 4 40 100 _ _ h Q).trans rfl
theorem b_40_106 (r0 : Option Nat) (x1 : Int) (x2 : Int) (x3 : Int) (x4 : Int) (x5 : Int) (sr0 : Option Nat) (s1 : Int) (s2 : Int) (s3 : Int) (sr4 : Option Nat) (sr5 : Option Nat) (h : Zh) (Q : Zp) : WP 40 106 [some (zr r0), some (zi x1), some (zi x2), some (zi x3), some (zi x4), some (zi x5), none] [zr sr0, zi s1, zi s2, zi s3, zr sr4, zr sr5] h Q = (kd h r0 6 ∧ (WP 74 0 [some (zr r0), some (zi x2), some (zi x3), none, none] [] h (kont WP 40 109 [some (zr r0), some (zi x1), some (zi x2), some (zi x3), some (zi x4), some (zi x5), none] [zr sr0, zi s1, zi s2, zi s3, zr sr4, zr sr5] [] Q))) :=
  (WP_blk 4 40 106 _ _ h Q).trans rfl
theorem b_40_112 (r0 : Option Nat) (x1 : Int) (x2 : Int) (x3 : Int) (x4 : Int) (x5 : Int) (sr0 : Option Nat) (sr1 : Option Nat) (s2 : Int) (s3 : Int) (s4 : Int) (sr5 : Option Nat) (sr6 : Option Nat) (h : Zh) (Q : Zp) : WP 40 112 [some (zr r0), some (zi x1), some (zi x2), some (zi x3), some (zi x4), some (zi x5), none] [zr sr0, zr sr1, zi s2, zi s3, zi s4, zr sr5, zr sr6] h Q = (kd h sr5 4 ∧ (WP 19 0 [some (zr sr5), some (zi s4), some (zi s3), some (zi s2), some (zr sr1), some (zr sr0)] [] h (kont WP 40 112 [some (zr r0), some (zi x1), some (zi x2), some (zi x3), some (zi x4), some (zi x5), none] [zr sr6] [] Q))) :=
  (WP_blk 1 40 112 _ _ h Q).trans rfl
theorem b_40_115 (r0 : Option Nat) (x1 : Int) (x2 : Int) (x3 : Int) (x4 : Int) (x5 : Int) (sr0 : Option Nat) (h : Zh) (Q : Zp) : WP 40 115 [some (zr r0), some (zi x1), some (zi x2), some (zi x3), some (zi x4), some (zi x5), none] [zr sr0] h Q = (((gC h + 1 ≤ MXC ∧ gS h + 10 ≤ MXS) ∧ ∀ a, gK h a = 0 → WP 40 121 [some (zr r0), some (zi x1), some (zi x2), some (zi x3), some (zi x4), some (zi x5), some (zr sr0)] [zr (some a), zr r0] (nw h a 3 10) Q)) :=
  (WP_blk 3 40 115 _ _ h Q).trans rfl
theorem b_40_121 (r0 : Option Nat) (x1 : Int) (x2 : Int) (x3 : Int) (x4 : Int) (x5 : Int) (r6 : Option Nat) (sr0 : Option Nat) (sr1 : Option Nat) (h : Zh) (Q : Zp) : WP 40 121 [some (zr r0), some (zi x1), some (zi x2), some (zi x3), some (zi x4), some (zi x5), some (zr r6)] [zr sr0, zr sr1] h Q = (kd h r0 6 ∧ (kd h sr0 3 ∧ (WP 12 0 [some (zr sr0), some (zi (gI h (ad r0) 6)), some (zi x1), some (zi x5), some (zr none), some (zr r6)] [] h (kont WP 40 132 [some (zr r0), some (zi x1), some (zi x2), some (zi x3), some (zi x4), some (zi x5), some (zr r6)] [zr sr0, zr sr1] [] Q)))) :=
  (WP_blk 8 40 121 _ _ h Q).trans rfl
theorem b_40_135 (r0 : Option Nat) (x1 : Int) (x2 : Int) (x3 : Int) (x4 : Int) (x5 : Int) (r6 : Option Nat) (sr0 : Option Nat) (sr1 : Option Nat) (h : Zh) (Q : Zp) : WP 40 135 [some (zr r0), some (zi x1), some (zi x2), some (zi x3), some (zi x4), some (zi x5), some (zr r6)] [zr sr0, zr sr1] h Q = (kd h sr1 6 ∧ (WP 77 0 [some (zr sr1), some (zr sr0)] [] h (kont WP 40 135 [some (zr r0), some (zi x1), some (zi x2), some (zi x3), some (zi x4), some (zi x5), some (zr r6)] [] [] Q))) :=
  (WP_blk 1 40 135 _ _ h Q).trans rfl
theorem b_40_138 (r0 : Option Nat) (x1 : Int) (x2 : Int) (x3 : Int) (x4 : Int) (x5 : Int) (r6 : Option Nat) (s0 : Int) (h : Zh) (Q : Zp) : WP 40 138 [some (zr r0), some (zi x1), some (zi x2), some (zi x3), some (zi x4), some (zi x5), some (zr r6)] [zi s0] h Q = (Q (.inl (some (zi s0))) h) :=
  (WP_blk 1 40 138 _ _ h Q).trans rfl
-- 41: Marginalia.reply(III)I
theorem b_41_0 (r0 : Option Nat) (x1 : Int) (x2 : Int) (x3 : Int) (h : Zh) (Q : Zp) : WP 41 0 [some (zr r0), some (zi x1), some (zi x2), some (zi x3), none, none] [] h Q = (kd h r0 6 ∧ (WP 61 0 [some (zr r0), some (zi x1)] [] h (kont WP 41 2 [some (zr r0), some (zi x1), some (zi x2), some (zi x3), none, none] [] [] Q))) :=
  (WP_blk 3 41 0 _ _ h Q).trans rfl
theorem b_41_5 (r0 : Option Nat) (x1 : Int) (x2 : Int) (x3 : Int) (h : Zh) (Q : Zp) : WP 41 5 [some (zr r0), some (zi x1), some (zi x2), some (zi x3), none, none] [] h Q = (kd h r0 6 ∧ (WP 63 0 [some (zr r0), some (zi x2), none] [] h (kont WP 41 7 [some (zr r0), some (zi x1), some (zi x2), some (zi x3), none, none] [] [] Q))) :=
  (WP_blk 3 41 5 _ _ h Q).trans rfl
theorem b_41_10 (r0 : Option Nat) (x1 : Int) (x2 : Int) (x3 : Int) (sr0 : Option Nat) (h : Zh) (Q : Zp) : WP 41 10 [some (zr r0), some (zi x1), some (zi x2), some (zi x3), none, none] [zr sr0] h Q = (WP 69 0 [some (zi x3)] [] h (kont WP 41 13 [some (zr r0), some (zi x1), some (zi x2), some (zi x3), some (zr sr0), none] [] [] Q)) :=
  (WP_blk 3 41 10 _ _ h Q).trans rfl
theorem b_41_16 (r0 : Option Nat) (x1 : Int) (x2 : Int) (x3 : Int) (r4 : Option Nat) (s0 : Int) (h : Zh) (Q : Zp) : WP 41 16 [some (zr r0), some (zi x1), some (zi x2), some (zi x3), some (zr r4), none] [zi s0] h Q = (WP 65 0 [some (zi s0)] [] h (kont WP 41 16 [some (zr r0), some (zi x1), some (zi x2), some (zi x3), some (zr r4), none] [] [] Q)) :=
  (WP_blk 1 41 16 _ _ h Q).trans rfl
theorem b_41_19 (r0 : Option Nat) (x1 : Int) (x2 : Int) (x3 : Int) (r4 : Option Nat) (h : Zh) (Q : Zp) : WP 41 19 [some (zr r0), some (zi x1), some (zi x2), some (zi x3), some (zr r4), none] [] h Q = (kd h r0 6 ∧ (ixa h (gR h (ad r0) 0) 10 x1 ∧ (br ((gI h (ad (gR h (ad r0) 0)) x1) < (2 : Int)) (WP 41 43 [some (zr r0), some (zi x1), some (zi x2), some (zi x3), some (zr r4), none] [] h Q) (WP 41 29 [some (zr r0), some (zi x1), some (zi x2), some (zi x3), some (zr r4), none] [] h Q)))) :=
  (WP_blk 6 41 19 _ _ h Q).trans rfl
theorem b_41_29 (r0 : Option Nat) (x1 : Int) (x2 : Int) (x3 : Int) (r4 : Option Nat) (h : Zh) (Q : Zp) : WP 41 29 [some (zr r0), some (zi x1), some (zi x2), some (zi x3), some (zr r4), none] [] h Q = (kd h r0 6 ∧ (WP 79 0 [some (zr r0), some (zi x1), some (zr r4)] [] h (kont WP 41 33 [some (zr r0), some (zi x1), some (zi x2), some (zi x3), some (zr r4), none] [] [] Q))) :=
  (WP_blk 4 41 29 _ _ h Q).trans rfl
theorem b_41_36 (r0 : Option Nat) (x1 : Int) (x2 : Int) (x3 : Int) (r4 : Option Nat) (s0 : Int) (h : Zh) (Q : Zp) : WP 41 36 [some (zr r0), some (zi x1), some (zi x2), some (zi x3), some (zr r4), none] [zi s0] h Q = (br (s0 = 0) (WP 41 43 [some (zr r0), some (zi x1), some (zi x2), some (zi x3), some (zr r4), none] [] h Q) (WP 41 39 [some (zr r0), some (zi x1), some (zi x2), some (zi x3), some (zr r4), none] [] h Q)) :=
  (WP_blk 1 41 36 _ _ h Q).trans rfl
theorem b_41_39 (r0 : Option Nat) (x1 : Int) (x2 : Int) (x3 : Int) (r4 : Option Nat) (h : Zh) (Q : Zp) : WP 41 39 [some (zr r0), some (zi x1), some (zi x2), some (zi x3), some (zr r4), none] [] h Q = (WP 41 44 [some (zr r0), some (zi x1), some (zi x2), some (zi x3), some (zr r4), none] [zi (1 : Int)] h Q) :=
  (WP_blk 2 41 39 _ _ h Q).trans rfl
theorem b_41_43 (r0 : Option Nat) (x1 : Int) (x2 : Int) (x3 : Int) (r4 : Option Nat) (h : Zh) (Q : Zp) : WP 41 43 [some (zr r0), some (zi x1), some (zi x2), some (zi x3), some (zr r4), none] [] h Q = (WP 41 44 [some (zr r0), some (zi x1), some (zi x2), some (zi x3), some (zr r4), none] [zi (0 : Int)] h Q) :=
  (WP_blk 1 41 43 _ _ h Q).trans rfl
theorem b_41_44 (r0 : Option Nat) (x1 : Int) (x2 : Int) (x3 : Int) (r4 : Option Nat) (s0 : Int) (h : Zh) (Q : Zp) : WP 41 44 [some (zr r0), some (zi x1), some (zi x2), some (zi x3), some (zr r4), none] [zi s0] h Q = (WP 66 0 [some (zi s0)] [] h (kont WP 41 44 [some (zr r0), some (zi x1), some (zi x2), some (zi x3), some (zr r4), none] [] [] Q)) :=
  (WP_blk 1 41 44 _ _ h Q).trans rfl
theorem b_41_47 (r0 : Option Nat) (x1 : Int) (x2 : Int) (x3 : Int) (r4 : Option Nat) (h : Zh) (Q : Zp) : WP 41 47 [some (zr r0), some (zi x1), some (zi x2), some (zi x3), some (zr r4), none] [] h Q = (kd h r4 3 ∧ (br ((gI h (ad r4) 8) = 0) (WP 41 55 [some (zr r0), some (zi x1), some (zi x2), some (zi x3), some (zr r4), none] [] h Q) (WP 41 68 [some (zr r0), some (zi x1), some (zi x2), some (zi x3), some (zr r4), none] [] h Q))) :=
  (WP_blk 3 41 47 _ _ h Q).trans rfl
theorem b_41_55 (r0 : Option Nat) (x1 : Int) (x2 : Int) (x3 : Int) (r4 : Option Nat) (h : Zh) (Q : Zp) : WP 41 55 [some (zr r0), some (zi x1), some (zi x2), some (zi x3), some (zr r4), none] [] h Q = (kd h r0 6 ∧ (br ((60 : Int) ≤ (gI h (ad r0) 6)) (WP 41 68 [some (zr r0), some (zi x1), some (zi x2), some (zi x3), some (zr r4), none] [] h Q) (WP 41 64 [some (zr r0), some (zi x1), some (zi x2), some (zi x3), some (zr r4), none] [] h Q))) :=
  (WP_blk 4 41 55 _ _ h Q).trans rfl
theorem b_41_64 (r0 : Option Nat) (x1 : Int) (x2 : Int) (x3 : Int) (r4 : Option Nat) (h : Zh) (Q : Zp) : WP 41 64 [some (zr r0), some (zi x1), some (zi x2), some (zi x3), some (zr r4), none] [] h Q = (WP 41 69 [some (zr r0), some (zi x1), some (zi x2), some (zi x3), some (zr r4), none] [zi (1 : Int)] h Q) :=
  (WP_blk 2 41 64 _ _ h Q).trans rfl
theorem b_41_68 (r0 : Option Nat) (x1 : Int) (x2 : Int) (x3 : Int) (r4 : Option Nat) (h : Zh) (Q : Zp) : WP 41 68 [some (zr r0), some (zi x1), some (zi x2), some (zi x3), some (zr r4), none] [] h Q = (WP 41 69 [some (zr r0), some (zi x1), some (zi x2), some (zi x3), some (zr r4), none] [zi (0 : Int)] h Q) :=
  (WP_blk 1 41 68 _ _ h Q).trans rfl
theorem b_41_69 (r0 : Option Nat) (x1 : Int) (x2 : Int) (x3 : Int) (r4 : Option Nat) (s0 : Int) (h : Zh) (Q : Zp) : WP 41 69 [some (zr r0), some (zi x1), some (zi x2), some (zi x3), some (zr r4), none] [zi s0] h Q = (WP 66 0 [some (zi s0)] [] h (kont WP 41 69 [some (zr r0), some (zi x1), some (zi x2), some (zi x3), some (zr r4), none] [] [] Q)) :=
  (WP_blk 1 41 69 _ _ h Q).trans rfl
theorem b_41_72 (r0 : Option Nat) (x1 : Int) (x2 : Int) (x3 : Int) (r4 : Option Nat) (h : Zh) (Q : Zp) : WP 41 72 [some (zr r0), some (zi x1), some (zi x2), some (zi x3), some (zr r4), none] [] h Q = (((gC h + 1 ≤ MXC ∧ gS h + 10 ≤ MXS) ∧ ∀ a, gK h a = 0 → WP 41 75 [some (zr r0), some (zi x1), some (zi x2), some (zi x3), some (zr r4), none] [zr (some a)] (nw h a 3 10) Q)) :=
  (WP_blk 1 41 72 _ _ h Q).trans rfl
theorem b_41_75 (r0 : Option Nat) (x1 : Int) (x2 : Int) (x3 : Int) (r4 : Option Nat) (sr0 : Option Nat) (h : Zh) (Q : Zp) : WP 41 75 [some (zr r0), some (zi x1), some (zi x2), some (zi x3), some (zr r4), none] [zr sr0] h Q = (kd h r0 6 ∧ (kd h r4 3 ∧ (kd h sr0 3 ∧ (WP 12 0 [some (zr sr0), some (zi (gI h (ad r0) 6)), some (zi x1), some (zi x3), some (zr r4), some (zr (gR h (ad r4) 5))] [] h (kont WP 41 89 [some (zr r0), some (zi x1), some (zi x2), some (zi x3), some (zr r4), none] [zr sr0] [] Q))))) :=
  (WP_blk 9 41 75 _ _ h Q).trans rfl
theorem b_41_92 (r0 : Option Nat) (x1 : Int) (x2 : Int) (x3 : Int) (r4 : Option Nat) (sr0 : Option Nat) (h : Zh) (Q : Zp) : WP 41 92 [some (zr r0), some (zi x1), some (zi x2), some (zi x3), some (zr r4), none] [zr sr0] h Q = (kd h r4 3 ∧ (WP 16 0 [some (zr r4), some (zr sr0), none] [] h (kont WP 41 98 [some (zr r0), some (zi x1), some (zi x2), some (zi x3), some (zr r4), some (zr sr0)] [] [] Q))) :=
  (WP_blk 4 41 92 _ _ h Q).trans rfl
theorem b_41_101 (r0 : Option Nat) (x1 : Int) (x2 : Int) (x3 : Int) (r4 : Option Nat) (r5 : Option Nat) (h : Zh) (Q : Zp) : WP 41 101 [some (zr r0), some (zi x1), some (zi x2), some (zi x3), some (zr r4), some (zr r5)] [] h Q = (kd h r4 3 ∧ ((kd h (gR h (ad r4) 5) 4 ∧ ((0 : Int) = 0 ∨ (0 : Int) = 1)) ∧ (WP 41 110 [some (zr r0), some (zi x1), some (zi x2), some (zi x3), some (zr r4), some (zr r5)] [] (pI h (ad (gR h (ad r4) 5)) 5 (0 : Int)) Q))) :=
  (WP_blk 4 41 101 _ _ h Q).trans rfl
theorem b_41_110 (r0 : Option Nat) (x1 : Int) (x2 : Int) (x3 : Int) (r4 : Option Nat) (r5 : Option Nat) (h : Zh) (Q : Zp) : WP 41 110 [some (zr r0), some (zi x1), some (zi x2), some (zi x3), some (zr r4), some (zr r5)] [] h Q = (kd h r0 6 ∧ (WP 77 0 [some (zr r0), some (zr r5)] [] h (kont WP 41 113 [some (zr r0), some (zi x1), some (zi x2), some (zi x3), some (zr r4), some (zr r5)] [] [] Q))) :=
  (WP_blk 3 41 110 _ _ h Q).trans rfl
theorem b_41_116 (r0 : Option Nat) (x1 : Int) (x2 : Int) (x3 : Int) (r4 : Option Nat) (r5 : Option Nat) (s0 : Int) (h : Zh) (Q : Zp) : WP 41 116 [some (zr r0), some (zi x1), some (zi x2), some (zi x3), some (zr r4), some (zr r5)] [zi s0] h Q = (Q (.inl (some (zi s0))) h) :=
  (WP_blk 1 41 116 _ _ h Q).trans rfl
-- 42: Marginalia.settle(IIZ)Z
theorem b_42_0 (r0 : Option Nat) (x1 : Int) (x2 : Int) (x3 : Int) (h : Zh) (Q : Zp) : WP 42 0 [some (zr r0), some (zi x1), some (zi x2), some (zi x3), none, none, none] [] h Q = (kd h r0 6 ∧ (WP 61 0 [some (zr r0), some (zi x1)] [] h (kont WP 42 2 [some (zr r0), some (zi x1), some (zi x2), some (zi x3), none, none, none] [] [] Q))) :=
  (WP_blk 3 42 0 _ _ h Q).trans rfl
theorem b_42_5 (r0 : Option Nat) (x1 : Int) (x2 : Int) (x3 : Int) (h : Zh) (Q : Zp) : WP 42 5 [some (zr r0), some (zi x1), some (zi x2), some (zi x3), none, none, none] [] h Q = (kd h r0 6 ∧ (WP 63 0 [some (zr r0), some (zi x2), none] [] h (kont WP 42 7 [some (zr r0), some (zi x1), some (zi x2), some (zi x3), none, none, none] [] [] Q))) :=
  (WP_blk 3 42 5 _ _ h Q).trans rfl
theorem b_42_10 (r0 : Option Nat) (x1 : Int) (x2 : Int) (x3 : Int) (sr0 : Option Nat) (h : Zh) (Q : Zp) : WP 42 10 [some (zr r0), some (zi x1), some (zi x2), some (zi x3), none, none, none] [zr sr0] h Q = (kd h sr0 3 ∧ (kd h (gR h (ad sr0) 5) 4 ∧ (br ((gI h (ad (gR h (ad sr0) 5)) 1) = x1) (WP 42 38 [some (zr r0), some (zi x1), some (zi x2), some (zi x3), some (zr sr0), some (zr (gR h (ad sr0) 5)), none] [] h Q) (WP 42 28 [some (zr r0), some (zi x1), some (zi x2), some (zi x3), some (zr sr0), some (zr (gR h (ad sr0) 5)), none] [] h Q)))) :=
  (WP_blk 8 42 10 _ _ h Q).trans rfl
theorem b_42_28 (r0 : Option Nat) (x1 : Int) (x2 : Int) (x3 : Int) (r4 : Option Nat) (r5 : Option Nat) (h : Zh) (Q : Zp) : WP 42 28 [some (zr r0), some (zi x1), some (zi x2), some (zi x3), some (zr r4), some (zr r5), none] [] h Q = (kd h r0 6 ∧ (ixa h (gR h (ad r0) 0) 10 x1 ∧ (br ((gI h (ad (gR h (ad r0) 0)) x1) < (3 : Int)) (WP 42 42 [some (zr r0), some (zi x1), some (zi x2), some (zi x3), some (zr r4), some (zr r5), none] [] h Q) (WP 42 38 [some (zr r0), some (zi x1), some (zi x2), some (zi x3), some (zr r4), some (zr r5), none] [] h Q)))) :=
  (WP_blk 6 42 28 _ _ h Q).trans rfl
theorem b_42_38 (r0 : Option Nat) (x1 : Int) (x2 : Int) (x3 : Int) (r4 : Option Nat) (r5 : Option Nat) (h : Zh) (Q : Zp) : WP 42 38 [some (zr r0), some (zi x1), some (zi x2), some (zi x3), some (zr r4), some (zr r5), none] [] h Q = (WP 42 43 [some (zr r0), some (zi x1), some (zi x2), some (zi x3), some (zr r4), some (zr r5), none] [zi (1 : Int)] h Q) :=
  (WP_blk 2 42 38 _ _ h Q).trans rfl
theorem b_42_42 (r0 : Option Nat) (x1 : Int) (x2 : Int) (x3 : Int) (r4 : Option Nat) (r5 : Option Nat) (h : Zh) (Q : Zp) : WP 42 42 [some (zr r0), some (zi x1), some (zi x2), some (zi x3), some (zr r4), some (zr r5), none] [] h Q = (WP 42 43 [some (zr r0), some (zi x1), some (zi x2), some (zi x3), some (zr r4), some (zr r5), none] [zi (0 : Int)] h Q) :=
  (WP_blk 1 42 42 _ _ h Q).trans rfl
theorem b_42_43 (r0 : Option Nat) (x1 : Int) (x2 : Int) (x3 : Int) (r4 : Option Nat) (r5 : Option Nat) (s0 : Int) (h : Zh) (Q : Zp) : WP 42 43 [some (zr r0), some (zi x1), some (zi x2), some (zi x3), some (zr r4), some (zr r5), none] [zi s0] h Q = (WP 66 0 [some (zi s0)] [] h (kont WP 42 43 [some (zr r0), some (zi x1), some (zi x2), some (zi x3), some (zr r4), some (zr r5), none] [] [] Q)) :=
  (WP_blk 1 42 43 _ _ h Q).trans rfl
theorem b_42_46 (r0 : Option Nat) (x1 : Int) (x2 : Int) (x3 : Int) (r4 : Option Nat) (r5 : Option Nat) (h : Zh) (Q : Zp) : WP 42 46 [some (zr r0), some (zi x1), some (zi x2), some (zi x3), some (zr r4), some (zr r5), none] [] h Q = (kd h r0 6 ∧ (WP 79 0 [some (zr r0), some (zi x1), some (zr r4)] [] h (kont WP 42 50 [some (zr r0), some (zi x1), some (zi x2), some (zi x3), some (zr r4), some (zr r5), none] [] [] Q))) :=
  (WP_blk 4 42 46 _ _ h Q).trans rfl
theorem b_42_53 (r0 : Option Nat) (x1 : Int) (x2 : Int) (x3 : Int) (r4 : Option Nat) (r5 : Option Nat) (s0 : Int) (h : Zh) (Q : Zp) : WP 42 53 [some (zr r0), some (zi x1), some (zi x2), some (zi x3), some (zr r4), some (zr r5), none] [zi s0] h Q = (WP 66 0 [some (zi s0)] [] h (kont WP 42 53 [some (zr r0), some (zi x1), some (zi x2), some (zi x3), some (zr r4), some (zr r5), none] [] [] Q)) :=
  (WP_blk 1 42 53 _ _ h Q).trans rfl
theorem b_42_56 (r0 : Option Nat) (x1 : Int) (x2 : Int) (x3 : Int) (r4 : Option Nat) (r5 : Option Nat) (h : Zh) (Q : Zp) : WP 42 56 [some (zr r0), some (zi x1), some (zi x2), some (zi x3), some (zr r4), some (zr r5), none] [] h Q = (kd h r5 4 ∧ ((kd h r5 4 ∧ (x3 = 0 ∨ x3 = 1)) ∧ (WP 42 69 [some (zr r0), some (zi x1), some (zi x2), some (zi x3), some (zr r4), some (zr r5), some (zi (gI h (ad r5) 5))] [] (pI h (ad r5) 5 x3) Q))) :=
  (WP_blk 6 42 56 _ _ h Q).trans rfl
theorem b_42_69 (r0 : Option Nat) (x1 : Int) (x2 : Int) (x3 : Int) (r4 : Option Nat) (r5 : Option Nat) (x6 : Int) (h : Zh) (Q : Zp) : WP 42 69 [some (zr r0), some (zi x1), some (zi x2), some (zi x3), some (zr r4), some (zr r5), some (zi x6)] [] h Q = ((x6 = 0 ∨ x6 = 1) ∧ (Q (.inl (some (zi x6))) h)) :=
  (WP_blk 2 42 69 _ _ h Q).trans rfl
-- 43: Marginalia.remove(II)I
theorem b_43_0 (r0 : Option Nat) (x1 : Int) (x2 : Int) (h : Zh) (Q : Zp) : WP 43 0 [some (zr r0), some (zi x1), some (zi x2), none] [] h Q = (kd h r0 6 ∧ (WP 61 0 [some (zr r0), some (zi x1)] [] h (kont WP 43 2 [some (zr r0), some (zi x1), some (zi x2), none] [] [] Q))) :=
  (WP_blk 3 43 0 _ _ h Q).trans rfl
theorem b_43_5 (r0 : Option Nat) (x1 : Int) (x2 : Int) (h : Zh) (Q : Zp) : WP 43 5 [some (zr r0), some (zi x1), some (zi x2), none] [] h Q = (kd h r0 6 ∧ (WP 63 0 [some (zr r0), some (zi x2), none] [] h (kont WP 43 7 [some (zr r0), some (zi x1), some (zi x2), none] [] [] Q))) :=
  (WP_blk 3 43 5 _ _ h Q).trans rfl
theorem b_43_10 (r0 : Option Nat) (x1 : Int) (x2 : Int) (sr0 : Option Nat) (h : Zh) (Q : Zp) : WP 43 10 [some (zr r0), some (zi x1), some (zi x2), none] [zr sr0] h Q = (kd h sr0 3 ∧ (br ((gI h (ad sr0) 1) = x1) (WP 43 29 [some (zr r0), some (zi x1), some (zi x2), some (zr sr0)] [] h Q) (WP 43 19 [some (zr r0), some (zi x1), some (zi x2), some (zr sr0)] [] h Q))) :=
  (WP_blk 5 43 10 _ _ h Q).trans rfl
theorem b_43_19 (r0 : Option Nat) (x1 : Int) (x2 : Int) (r3 : Option Nat) (h : Zh) (Q : Zp) : WP 43 19 [some (zr r0), some (zi x1), some (zi x2), some (zr r3)] [] h Q = (kd h r0 6 ∧ (ixa h (gR h (ad r0) 0) 10 x1 ∧ (br ((gI h (ad (gR h (ad r0) 0)) x1) = (4 : Int)) (WP 43 29 [some (zr r0), some (zi x1), some (zi x2), some (zr r3)] [] h Q) (WP 43 33 [some (zr r0), some (zi x1), some (zi x2), some (zr r3)] [] h Q)))) :=
  (WP_blk 6 43 19 _ _ h Q).trans rfl
theorem b_43_29 (r0 : Option Nat) (x1 : Int) (x2 : Int) (r3 : Option Nat) (h : Zh) (Q : Zp) : WP 43 29 [some (zr r0), some (zi x1), some (zi x2), some (zr r3)] [] h Q = (WP 43 34 [some (zr r0), some (zi x1), some (zi x2), some (zr r3)] [zi (1 : Int)] h Q) :=
  (WP_blk 2 43 29 _ _ h Q).trans rfl
theorem b_43_33 (r0 : Option Nat) (x1 : Int) (x2 : Int) (r3 : Option Nat) (h : Zh) (Q : Zp) : WP 43 33 [some (zr r0), some (zi x1), some (zi x2), some (zr r3)] [] h Q = (WP 43 34 [some (zr r0), some (zi x1), some (zi x2), some (zr r3)] [zi (0 : Int)] h Q) :=
  (WP_blk 1 43 33 _ _ h Q).trans rfl
theorem b_43_34 (r0 : Option Nat) (x1 : Int) (x2 : Int) (r3 : Option Nat) (s0 : Int) (h : Zh) (Q : Zp) : WP 43 34 [some (zr r0), some (zi x1), some (zi x2), some (zr r3)] [zi s0] h Q = (WP 66 0 [some (zi s0)] [] h (kont WP 43 34 [some (zr r0), some (zi x1), some (zi x2), some (zr r3)] [] [] Q)) :=
  (WP_blk 1 43 34 _ _ h Q).trans rfl
theorem b_43_37 (r0 : Option Nat) (x1 : Int) (x2 : Int) (r3 : Option Nat) (h : Zh) (Q : Zp) : WP 43 37 [some (zr r0), some (zi x1), some (zi x2), some (zr r3)] [] h Q = (kd h r0 6 ∧ (WP 79 0 [some (zr r0), some (zi x1), some (zr r3)] [] h (kont WP 43 40 [some (zr r0), some (zi x1), some (zi x2), some (zr r3)] [] [] Q))) :=
  (WP_blk 4 43 37 _ _ h Q).trans rfl
theorem b_43_43 (r0 : Option Nat) (x1 : Int) (x2 : Int) (r3 : Option Nat) (s0 : Int) (h : Zh) (Q : Zp) : WP 43 43 [some (zr r0), some (zi x1), some (zi x2), some (zr r3)] [zi s0] h Q = (br (s0 = 0) (WP 43 57 [some (zr r0), some (zi x1), some (zi x2), some (zr r3)] [] h Q) (WP 43 46 [some (zr r0), some (zi x1), some (zi x2), some (zr r3)] [] h Q)) :=
  (WP_blk 1 43 43 _ _ h Q).trans rfl
theorem b_43_46 (r0 : Option Nat) (x1 : Int) (x2 : Int) (r3 : Option Nat) (h : Zh) (Q : Zp) : WP 43 46 [some (zr r0), some (zi x1), some (zi x2), some (zr r3)] [] h Q = (kd h r3 3 ∧ (br ((gI h (ad r3) 8) = 0) (WP 43 53 [some (zr r0), some (zi x1), some (zi x2), some (zr r3)] [] h Q) (WP 43 57 [some (zr r0), some (zi x1), some (zi x2), some (zr r3)] [] h Q))) :=
  (WP_blk 3 43 46 _ _ h Q).trans rfl
theorem b_43_53 (r0 : Option Nat) (x1 : Int) (x2 : Int) (r3 : Option Nat) (h : Zh) (Q : Zp) : WP 43 53 [some (zr r0), some (zi x1), some (zi x2), some (zr r3)] [] h Q = (WP 43 58 [some (zr r0), some (zi x1), some (zi x2), some (zr r3)] [zi (1 : Int)] h Q) :=
  (WP_blk 2 43 53 _ _ h Q).trans rfl
theorem b_43_57 (r0 : Option Nat) (x1 : Int) (x2 : Int) (r3 : Option Nat) (h : Zh) (Q : Zp) : WP 43 57 [some (zr r0), some (zi x1), some (zi x2), some (zr r3)] [] h Q = (WP 43 58 [some (zr r0), some (zi x1), some (zi x2), some (zr r3)] [zi (0 : Int)] h Q) :=
  (WP_blk 1 43 57 _ _ h Q).trans rfl
theorem b_43_58 (r0 : Option Nat) (x1 : Int) (x2 : Int) (r3 : Option Nat) (s0 : Int) (h : Zh) (Q : Zp) : WP 43 58 [some (zr r0), some (zi x1), some (zi x2), some (zr r3)] [zi s0] h Q = (WP 66 0 [some (zi s0)] [] h (kont WP 43 58 [some (zr r0), some (zi x1), some (zi x2), some (zr r3)] [] [] Q)) :=
  (WP_blk 1 43 58 _ _ h Q).trans rfl
theorem b_43_61 (r0 : Option Nat) (x1 : Int) (x2 : Int) (r3 : Option Nat) (h : Zh) (Q : Zp) : WP 43 61 [some (zr r0), some (zi x1), some (zi x2), some (zr r3)] [] h Q = (kd h r3 3 ∧ (WP 17 0 [some (zr r3), none, none] [] h (kont WP 43 62 [some (zr r0), some (zi x1), some (zi x2), some (zr r3)] [] [] Q))) :=
  (WP_blk 2 43 61 _ _ h Q).trans rfl
theorem b_43_65 (r0 : Option Nat) (x1 : Int) (x2 : Int) (r3 : Option Nat) (s0 : Int) (h : Zh) (Q : Zp) : WP 43 65 [some (zr r0), some (zi x1), some (zi x2), some (zr r3)] [zi s0] h Q = (Q (.inl (some (zi s0))) h) :=
  (WP_blk 1 43 65 _ _ h Q).trans rfl
-- 44: Marginalia.propose(IIII)I
theorem b_44_0 (r0 : Option Nat) (x1 : Int) (x2 : Int) (x3 : Int) (x4 : Int) (h : Zh) (Q : Zp) : WP 44 0 [some (zr r0), some (zi x1), some (zi x2), some (zi x3), some (zi x4), none] [] h Q = (kd h r0 6 ∧ (WP 61 0 [some (zr r0), some (zi x1)] [] h (kont WP 44 2 [some (zr r0), some (zi x1), some (zi x2), some (zi x3), some (zi x4), none] [] [] Q))) :=
  (WP_blk 3 44 0 _ _ h Q).trans rfl
theorem b_44_5 (r0 : Option Nat) (x1 : Int) (x2 : Int) (x3 : Int) (x4 : Int) (h : Zh) (Q : Zp) : WP 44 5 [some (zr r0), some (zi x1), some (zi x2), some (zi x3), some (zi x4), none] [] h Q = (kd h r0 6 ∧ (WP 63 0 [some (zr r0), some (zi x2), none] [] h (kont WP 44 7 [some (zr r0), some (zi x1), some (zi x2), some (zi x3), some (zi x4), none] [] [] Q))) :=
  (WP_blk 3 44 5 _ _ h Q).trans rfl
theorem b_44_10 (r0 : Option Nat) (x1 : Int) (x2 : Int) (x3 : Int) (x4 : Int) (sr0 : Option Nat) (h : Zh) (Q : Zp) : WP 44 10 [some (zr r0), some (zi x1), some (zi x2), some (zi x3), some (zi x4), none] [zr sr0] h Q = (kd h sr0 3 ∧ (WP 13 0 [some (zr sr0)] [] h (kont WP 44 14 [some (zr r0), some (zi x1), some (zi x2), some (zi x3), some (zi x4), some (zr sr0)] [] [] Q))) :=
  (WP_blk 3 44 10 _ _ h Q).trans rfl
theorem b_44_17 (r0 : Option Nat) (x1 : Int) (x2 : Int) (x3 : Int) (x4 : Int) (r5 : Option Nat) (s0 : Int) (h : Zh) (Q : Zp) : WP 44 17 [some (zr r0), some (zi x1), some (zi x2), some (zi x3), some (zi x4), some (zr r5)] [zi s0] h Q = (br (s0 = 0) (WP 44 45 [some (zr r0), some (zi x1), some (zi x2), some (zi x3), some (zi x4), some (zr r5)] [] h Q) (WP 44 20 [some (zr r0), some (zi x1), some (zi x2), some (zi x3), some (zi x4), some (zr r5)] [] h Q)) :=
  (WP_blk 1 44 17 _ _ h Q).trans rfl
theorem b_44_20 (r0 : Option Nat) (x1 : Int) (x2 : Int) (x3 : Int) (x4 : Int) (r5 : Option Nat) (h : Zh) (Q : Zp) : WP 44 20 [some (zr r0), some (zi x1), some (zi x2), some (zi x3), some (zi x4), some (zr r5)] [] h Q = (WP 67 0 [some (zi x3), some (zi (0 : Int)), some (zi (40 : Int))] [] h (kont WP 44 24 [some (zr r0), some (zi x1), some (zi x2), some (zi x3), some (zi x4), some (zr r5)] [] [] Q)) :=
  (WP_blk 4 44 20 _ _ h Q).trans rfl
theorem b_44_27 (r0 : Option Nat) (x1 : Int) (x2 : Int) (x3 : Int) (x4 : Int) (r5 : Option Nat) (s0 : Int) (h : Zh) (Q : Zp) : WP 44 27 [some (zr r0), some (zi x1), some (zi x2), some (zi x3), some (zi x4), some (zr r5)] [zi s0] h Q = (br (s0 = 0) (WP 44 45 [some (zr r0), some (zi x1), some (zi x2), some (zi x3), some (zi x4), some (zr r5)] [] h Q) (WP 44 30 [some (zr r0), some (zi x1), some (zi x2), some (zi x3), some (zi x4), some (zr r5)] [] h Q)) :=
  (WP_blk 1 44 27 _ _ h Q).trans rfl
theorem b_44_30 (r0 : Option Nat) (x1 : Int) (x2 : Int) (x3 : Int) (x4 : Int) (r5 : Option Nat) (h : Zh) (Q : Zp) : WP 44 30 [some (zr r0), some (zi x1), some (zi x2), some (zi x3), some (zi x4), some (zr r5)] [] h Q = (WP 67 0 [some (zi x4), some (zi (0 : Int)), some (zi (25 : Int))] [] h (kont WP 44 35 [some (zr r0), some (zi x1), some (zi x2), some (zi x3), some (zi x4), some (zr r5)] [] [] Q)) :=
  (WP_blk 4 44 30 _ _ h Q).trans rfl
theorem b_44_38 (r0 : Option Nat) (x1 : Int) (x2 : Int) (x3 : Int) (x4 : Int) (r5 : Option Nat) (s0 : Int) (h : Zh) (Q : Zp) : WP 44 38 [some (zr r0), some (zi x1), some (zi x2), some (zi x3), some (zi x4), some (zr r5)] [zi s0] h Q = (br (s0 = 0) (WP 44 45 [some (zr r0), some (zi x1), some (zi x2), some (zi x3), some (zi x4), some (zr r5)] [] h Q) (WP 44 41 [some (zr r0), some (zi x1), some (zi x2), some (zi x3), some (zi x4), some (zr r5)] [] h Q)) :=
  (WP_blk 1 44 38 _ _ h Q).trans rfl
theorem b_44_41 (r0 : Option Nat) (x1 : Int) (x2 : Int) (x3 : Int) (x4 : Int) (r5 : Option Nat) (h : Zh) (Q : Zp) : WP 44 41 [some (zr r0), some (zi x1), some (zi x2), some (zi x3), some (zi x4), some (zr r5)] [] h Q = (WP 44 46 [some (zr r0), some (zi x1), some (zi x2), some (zi x3), some (zi x4), some (zr r5)] [zi (1 : Int)] h Q) :=
  (WP_blk 2 44 41 _ _ h Q).trans rfl
theorem b_44_45 (r0 : Option Nat) (x1 : Int) (x2 : Int) (x3 : Int) (x4 : Int) (r5 : Option Nat) (h : Zh) (Q : Zp) : WP 44 45 [some (zr r0), some (zi x1), some (zi x2), some (zi x3), some (zi x4), some (zr r5)] [] h Q = (WP 44 46 [some (zr r0), some (zi x1), some (zi x2), some (zi x3), some (zi x4), some (zr r5)] [zi (0 : Int)] h Q) :=
  (WP_blk 1 44 45 _ _ h Q).trans rfl
theorem b_44_46 (r0 : Option Nat) (x1 : Int) (x2 : Int) (x3 : Int) (x4 : Int) (r5 : Option Nat) (s0 : Int) (h : Zh) (Q : Zp) : WP 44 46 [some (zr r0), some (zi x1), some (zi x2), some (zi x3), some (zi x4), some (zr r5)] [zi s0] h Q = (WP 65 0 [some (zi s0)] [] h (kont WP 44 46 [some (zr r0), some (zi x1), some (zi x2), some (zi x3), some (zi x4), some (zr r5)] [] [] Q)) :=
  (WP_blk 1 44 46 _ _ h Q).trans rfl
theorem b_44_49 (r0 : Option Nat) (x1 : Int) (x2 : Int) (x3 : Int) (x4 : Int) (r5 : Option Nat) (h : Zh) (Q : Zp) : WP 44 49 [some (zr r0), some (zi x1), some (zi x2), some (zi x3), some (zi x4), some (zr r5)] [] h Q = (kd h r0 6 ∧ (ixa h (gR h (ad r0) 0) 10 x1 ∧ (br ((gI h (ad (gR h (ad r0) 0)) x1) < (2 : Int)) (WP 44 81 [some (zr r0), some (zi x1), some (zi x2), some (zi x3), some (zi x4), some (zr r5)] [] h Q) (WP 44 59 [some (zr r0), some (zi x1), some (zi x2), some (zi x3), some (zi x4), some (zr r5)] [] h Q)))) :=
  (WP_blk 6 44 49 _ _ h Q).trans rfl
theorem b_44_59 (r0 : Option Nat) (x1 : Int) (x2 : Int) (x3 : Int) (x4 : Int) (r5 : Option Nat) (h : Zh) (Q : Zp) : WP 44 59 [some (zr r0), some (zi x1), some (zi x2), some (zi x3), some (zi x4), some (zr r5)] [] h Q = (kd h r0 6 ∧ (WP 79 0 [some (zr r0), some (zi x1), some (zr r5)] [] h (kont WP 44 63 [some (zr r0), some (zi x1), some (zi x2), some (zi x3), some (zi x4), some (zr r5)] [] [] Q))) :=
  (WP_blk 4 44 59 _ _ h Q).trans rfl
theorem b_44_66 (r0 : Option Nat) (x1 : Int) (x2 : Int) (x3 : Int) (x4 : Int) (r5 : Option Nat) (s0 : Int) (h : Zh) (Q : Zp) : WP 44 66 [some (zr r0), some (zi x1), some (zi x2), some (zi x3), some (zi x4), some (zr r5)] [zi s0] h Q = (br (s0 = 0) (WP 44 81 [some (zr r0), some (zi x1), some (zi x2), some (zi x3), some (zi x4), some (zr r5)] [] h Q) (WP 44 69 [some (zr r0), some (zi x1), some (zi x2), some (zi x3), some (zi x4), some (zr r5)] [] h Q)) :=
  (WP_blk 1 44 66 _ _ h Q).trans rfl
theorem b_44_69 (r0 : Option Nat) (x1 : Int) (x2 : Int) (x3 : Int) (x4 : Int) (r5 : Option Nat) (h : Zh) (Q : Zp) : WP 44 69 [some (zr r0), some (zi x1), some (zi x2), some (zi x3), some (zi x4), some (zr r5)] [] h Q = (kd h r5 3 ∧ (br ((gI h (ad r5) 8) = 0) (WP 44 77 [some (zr r0), some (zi x1), some (zi x2), some (zi x3), some (zi x4), some (zr r5)] [] h Q) (WP 44 81 [some (zr r0), some (zi x1), some (zi x2), some (zi x3), some (zi x4), some (zr r5)] [] h Q))) :=
  (WP_blk 3 44 69 _ _ h Q).trans rfl
theorem b_44_77 (r0 : Option Nat) (x1 : Int) (x2 : Int) (x3 : Int) (x4 : Int) (r5 : Option Nat) (h : Zh) (Q : Zp) : WP 44 77 [some (zr r0), some (zi x1), some (zi x2), some (zi x3), some (zi x4), some (zr r5)] [] h Q = (WP 44 82 [some (zr r0), some (zi x1), some (zi x2), some (zi x3), some (zi x4), some (zr r5)] [zi (1 : Int)] h Q) :=
  (WP_blk 2 44 77 _ _ h Q).trans rfl
theorem b_44_81 (r0 : Option Nat) (x1 : Int) (x2 : Int) (x3 : Int) (x4 : Int) (r5 : Option Nat) (h : Zh) (Q : Zp) : WP 44 81 [some (zr r0), some (zi x1), some (zi x2), some (zi x3), some (zi x4), some (zr r5)] [] h Q = (WP 44 82 [some (zr r0), some (zi x1), some (zi x2), some (zi x3), some (zi x4), some (zr r5)] [zi (0 : Int)] h Q) :=
  (WP_blk 1 44 81 _ _ h Q).trans rfl
theorem b_44_82 (r0 : Option Nat) (x1 : Int) (x2 : Int) (x3 : Int) (x4 : Int) (r5 : Option Nat) (s0 : Int) (h : Zh) (Q : Zp) : WP 44 82 [some (zr r0), some (zi x1), some (zi x2), some (zi x3), some (zi x4), some (zr r5)] [zi s0] h Q = (WP 66 0 [some (zi s0)] [] h (kont WP 44 82 [some (zr r0), some (zi x1), some (zi x2), some (zi x3), some (zi x4), some (zr r5)] [] [] Q)) :=
  (WP_blk 1 44 82 _ _ h Q).trans rfl
theorem b_44_85 (r0 : Option Nat) (x1 : Int) (x2 : Int) (x3 : Int) (x4 : Int) (r5 : Option Nat) (h : Zh) (Q : Zp) : WP 44 85 [some (zr r0), some (zi x1), some (zi x2), some (zi x3), some (zi x4), some (zr r5)] [] h Q = (kd h r5 3 ∧ (kd h (gR h (ad r5) 5) 4 ∧ (WP 44 94 [some (zr r0), some (zi x1), some (zi x2), some (zi x3), some (zi x4), some (zr r5)] [] (pI h (ad (gR h (ad r5) 5)) 6 x3) Q))) :=
  (WP_blk 4 44 85 _ _ h Q).trans rfl
theorem b_44_94 (r0 : Option Nat) (x1 : Int) (x2 : Int) (x3 : Int) (x4 : Int) (r5 : Option Nat) (h : Zh) (Q : Zp) : WP 44 94 [some (zr r0), some (zi x1), some (zi x2), some (zi x3), some (zi x4), some (zr r5)] [] h Q = (kd h r5 3 ∧ (kd h (gR h (ad r5) 5) 4 ∧ (WP 44 104 [some (zr r0), some (zi x1), some (zi x2), some (zi x3), some (zi x4), some (zr r5)] [] (pI h (ad (gR h (ad r5) 5)) 7 x4) Q))) :=
  (WP_blk 4 44 94 _ _ h Q).trans rfl
theorem b_44_104 (r0 : Option Nat) (x1 : Int) (x2 : Int) (x3 : Int) (x4 : Int) (r5 : Option Nat) (h : Zh) (Q : Zp) : WP 44 104 [some (zr r0), some (zi x1), some (zi x2), some (zi x3), some (zi x4), some (zr r5)] [] h Q = (kd h r5 3 ∧ (Q (.inl (some (zi (gI h (ad r5) 0)))) h)) :=
  (WP_blk 3 44 104 _ _ h Q).trans rfl
-- 45: Marginalia.take(II)I
theorem b_45_0 (r0 : Option Nat) (x1 : Int) (x2 : Int) (h : Zh) (Q : Zp) : WP 45 0 [some (zr r0), some (zi x1), some (zi x2), none] [] h Q = (kd h r0 6 ∧ (WP 61 0 [some (zr r0), some (zi x1)] [] h (kont WP 45 2 [some (zr r0), some (zi x1), some (zi x2), none] [] [] Q))) :=
  (WP_blk 3 45 0 _ _ h Q).trans rfl
theorem b_45_5 (r0 : Option Nat) (x1 : Int) (x2 : Int) (h : Zh) (Q : Zp) : WP 45 5 [some (zr r0), some (zi x1), some (zi x2), none] [] h Q = (kd h r0 6 ∧ (WP 63 0 [some (zr r0), some (zi x2), none] [] h (kont WP 45 7 [some (zr r0), some (zi x1), some (zi x2), none] [] [] Q))) :=
  (WP_blk 3 45 5 _ _ h Q).trans rfl
theorem b_45_10 (r0 : Option Nat) (x1 : Int) (x2 : Int) (sr0 : Option Nat) (h : Zh) (Q : Zp) : WP 45 10 [some (zr r0), some (zi x1), some (zi x2), none] [zr sr0] h Q = (kd h sr0 3 ∧ (WP 13 0 [some (zr sr0)] [] h (kont WP 45 12 [some (zr r0), some (zi x1), some (zi x2), some (zr sr0)] [] [] Q))) :=
  (WP_blk 3 45 10 _ _ h Q).trans rfl
theorem b_45_15 (r0 : Option Nat) (x1 : Int) (x2 : Int) (r3 : Option Nat) (s0 : Int) (h : Zh) (Q : Zp) : WP 45 15 [some (zr r0), some (zi x1), some (zi x2), some (zr r3)] [zi s0] h Q = (WP 65 0 [some (zi s0)] [] h (kont WP 45 15 [some (zr r0), some (zi x1), some (zi x2), some (zr r3)] [] [] Q)) :=
  (WP_blk 1 45 15 _ _ h Q).trans rfl
theorem b_45_18 (r0 : Option Nat) (x1 : Int) (x2 : Int) (r3 : Option Nat) (h : Zh) (Q : Zp) : WP 45 18 [some (zr r0), some (zi x1), some (zi x2), some (zr r3)] [] h Q = (kd h r0 6 ∧ (ixa h (gR h (ad r0) 0) 10 x1 ∧ (br ((gI h (ad (gR h (ad r0) 0)) x1) < (3 : Int)) (WP 45 41 [some (zr r0), some (zi x1), some (zi x2), some (zr r3)] [] h Q) (WP 45 28 [some (zr r0), some (zi x1), some (zi x2), some (zr r3)] [] h Q)))) :=
  (WP_blk 6 45 18 _ _ h Q).trans rfl
theorem b_45_28 (r0 : Option Nat) (x1 : Int) (x2 : Int) (r3 : Option Nat) (h : Zh) (Q : Zp) : WP 45 28 [some (zr r0), some (zi x1), some (zi x2), some (zr r3)] [] h Q = (kd h r0 6 ∧ (WP 79 0 [some (zr r0), some (zi x1), some (zr r3)] [] h (kont WP 45 31 [some (zr r0), some (zi x1), some (zi x2), some (zr r3)] [] [] Q))) :=
  (WP_blk 4 45 28 _ _ h Q).trans rfl
theorem b_45_34 (r0 : Option Nat) (x1 : Int) (x2 : Int) (r3 : Option Nat) (s0 : Int) (h : Zh) (Q : Zp) : WP 45 34 [some (zr r0), some (zi x1), some (zi x2), some (zr r3)] [zi s0] h Q = (br (s0 = 0) (WP 45 41 [some (zr r0), some (zi x1), some (zi x2), some (zr r3)] [] h Q) (WP 45 37 [some (zr r0), some (zi x1), some (zi x2), some (zr r3)] [] h Q)) :=
  (WP_blk 1 45 34 _ _ h Q).trans rfl
theorem b_45_37 (r0 : Option Nat) (x1 : Int) (x2 : Int) (r3 : Option Nat) (h : Zh) (Q : Zp) : WP 45 37 [some (zr r0), some (zi x1), some (zi x2), some (zr r3)] [] h Q = (WP 45 42 [some (zr r0), some (zi x1), some (zi x2), some (zr r3)] [zi (1 : Int)] h Q) :=
  (WP_blk 2 45 37 _ _ h Q).trans rfl
theorem b_45_41 (r0 : Option Nat) (x1 : Int) (x2 : Int) (r3 : Option Nat) (h : Zh) (Q : Zp) : WP 45 41 [some (zr r0), some (zi x1), some (zi x2), some (zr r3)] [] h Q = (WP 45 42 [some (zr r0), some (zi x1), some (zi x2), some (zr r3)] [zi (0 : Int)] h Q) :=
  (WP_blk 1 45 41 _ _ h Q).trans rfl
theorem b_45_42 (r0 : Option Nat) (x1 : Int) (x2 : Int) (r3 : Option Nat) (s0 : Int) (h : Zh) (Q : Zp) : WP 45 42 [some (zr r0), some (zi x1), some (zi x2), some (zr r3)] [zi s0] h Q = (WP 66 0 [some (zi s0)] [] h (kont WP 45 42 [some (zr r0), some (zi x1), some (zi x2), some (zr r3)] [] [] Q)) :=
  (WP_blk 1 45 42 _ _ h Q).trans rfl
theorem b_45_45 (r0 : Option Nat) (x1 : Int) (x2 : Int) (r3 : Option Nat) (h : Zh) (Q : Zp) : WP 45 45 [some (zr r0), some (zi x1), some (zi x2), some (zr r3)] [] h Q = (kd h r3 3 ∧ (kd h r0 6 ∧ (WP 72 0 [some (zr r0), some (zr (gR h (ad r3) 5)), none] [] h (kont WP 45 50 [some (zr r0), some (zi x1), some (zi x2), some (zr r3)] [] [] Q)))) :=
  (WP_blk 4 45 45 _ _ h Q).trans rfl
theorem b_45_53 (r0 : Option Nat) (x1 : Int) (x2 : Int) (r3 : Option Nat) (s0 : Int) (h : Zh) (Q : Zp) : WP 45 53 [some (zr r0), some (zi x1), some (zi x2), some (zr r3)] [zi s0] h Q = (WP 66 0 [some (zi s0)] [] h (kont WP 45 53 [some (zr r0), some (zi x1), some (zi x2), some (zr r3)] [] [] Q)) :=
  (WP_blk 1 45 53 _ _ h Q).trans rfl
theorem b_45_56 (r0 : Option Nat) (x1 : Int) (x2 : Int) (r3 : Option Nat) (h : Zh) (Q : Zp) : WP 45 56 [some (zr r0), some (zi x1), some (zi x2), some (zr r3)] [] h Q = (kd h r3 3 ∧ (kd h r0 6 ∧ (WP 73 0 [some (zr r0), some (zr (gR h (ad r3) 5)), none, none, none] [] h (kont WP 45 61 [some (zr r0), some (zi x1), some (zi x2), some (zr r3)] [] [] Q)))) :=
  (WP_blk 4 45 56 _ _ h Q).trans rfl
theorem b_45_64 (r0 : Option Nat) (x1 : Int) (x2 : Int) (r3 : Option Nat) (h : Zh) (Q : Zp) : WP 45 64 [some (zr r0), some (zi x1), some (zi x2), some (zr r3)] [] h Q = (kd h r0 6 ∧ (kd h (gR h (ad r0) 1) 5 ∧ (WP 23 0 [some (zr (gR h (ad r0) 1))] [] h (kont WP 45 68 [some (zr r0), some (zi x1), some (zi x2), some (zr r3)] [] [] Q)))) :=
  (WP_blk 3 45 64 _ _ h Q).trans rfl
theorem b_45_71 (r0 : Option Nat) (x1 : Int) (x2 : Int) (r3 : Option Nat) (s0 : Int) (h : Zh) (Q : Zp) : WP 45 71 [some (zr r0), some (zi x1), some (zi x2), some (zr r3)] [zi s0] h Q = (Q (.inl (some (zi s0))) h) :=
  (WP_blk 1 45 71 _ _ h Q).trans rfl
-- 46: Marginalia.heal()I
theorem b_46_0 (r0 : Option Nat) (h : Zh) (Q : Zp) : WP 46 0 [some (zr r0), none, none] [] h Q = (WP 46 4 [some (zr r0), some (zi (0 : Int)), some (zi (0 : Int))] [] h Q) :=
  (WP_blk 4 46 0 _ _ h Q).trans rfl
theorem b_46_4 (r0 : Option Nat) (x1 : Int) (x2 : Int) (h : Zh) (Q : Zp) : WP 46 4 [some (zr r0), some (zi x1), some (zi x2)] [] h Q = (kd h r0 6 ∧ (br ((gI h (ad r0) 6) ≤ x2) (WP 46 49 [some (zr r0), some (zi x1), some (zi x2)] [] h Q) (WP 46 12 [some (zr r0), some (zi x1), some (zi x2)] [] h Q))) :=
  (WP_blk 4 46 4 _ _ h Q).trans rfl
theorem b_46_12 (r0 : Option Nat) (x1 : Int) (x2 : Int) (h : Zh) (Q : Zp) : WP 46 12 [some (zr r0), some (zi x1), some (zi x2)] [] h Q = (kd h r0 6 ∧ (ixa h (gR h (ad r0) 2) 13 x2 ∧ (kd h (gR h (ad (gR h (ad r0) 2)) x2) 3 ∧ (WP 14 0 [some (zr (gR h (ad (gR h (ad r0) 2)) x2))] [] h (kont WP 46 18 [some (zr r0), some (zi x1), some (zi x2)] [] [] Q))))) :=
  (WP_blk 5 46 12 _ _ h Q).trans rfl
theorem b_46_21 (r0 : Option Nat) (x1 : Int) (x2 : Int) (s0 : Int) (h : Zh) (Q : Zp) : WP 46 21 [some (zr r0), some (zi x1), some (zi x2)] [zi s0] h Q = (br (s0 = 0) (WP 46 43 [some (zr r0), some (zi x1), some (zi x2)] [] h Q) (WP 46 24 [some (zr r0), some (zi x1), some (zi x2)] [] h Q)) :=
  (WP_blk 1 46 21 _ _ h Q).trans rfl
theorem b_46_24 (r0 : Option Nat) (x1 : Int) (x2 : Int) (h : Zh) (Q : Zp) : WP 46 24 [some (zr r0), some (zi x1), some (zi x2)] [] h Q = (kd h r0 6 ∧ (ixa h (gR h (ad r0) 2) 13 x2 ∧ (kd h (gR h (ad (gR h (ad r0) 2)) x2) 3 ∧ (kd h r0 6 ∧ (WP 75 0 [some (zr r0), some (zr (gR h (ad (gR h (ad (gR h (ad r0) 2)) x2)) 5)), none] [] h (kont WP 46 34 [some (zr r0), some (zi x1), some (zi x2)] [] [] Q)))))) :=
  (WP_blk 7 46 24 _ _ h Q).trans rfl
theorem b_46_37 (r0 : Option Nat) (x1 : Int) (x2 : Int) (s0 : Int) (h : Zh) (Q : Zp) : WP 46 37 [some (zr r0), some (zi x1), some (zi x2)] [zi s0] h Q = (br (s0 = 0) (WP 46 43 [some (zr r0), some (zi x1), some (zi x2)] [] h Q) (WP 46 40 [some (zr r0), some (zi x1), some (zi x2)] [] h Q)) :=
  (WP_blk 1 46 37 _ _ h Q).trans rfl
theorem b_46_40 (r0 : Option Nat) (x1 : Int) (x2 : Int) (h : Zh) (Q : Zp) : WP 46 40 [some (zr r0), some (zi x1), some (zi x2)] [] h Q = (inR (x1 + 1) ∧ (WP 46 43 [some (zr r0), some (zi (x1 + 1)), some (zi x2)] [] h Q)) :=
  (WP_blk 1 46 40 _ _ h Q).trans rfl
theorem b_46_43 (r0 : Option Nat) (x1 : Int) (x2 : Int) (h : Zh) (Q : Zp) : WP 46 43 [some (zr r0), some (zi x1), some (zi x2)] [] h Q = (inR (x2 + 1) ∧ (WP 46 4 [some (zr r0), some (zi x1), some (zi (x2 + 1))] [] h Q)) :=
  (WP_blk 2 46 43 _ _ h Q).trans rfl
theorem b_46_49 (r0 : Option Nat) (x1 : Int) (x2 : Int) (h : Zh) (Q : Zp) : WP 46 49 [some (zr r0), some (zi x1), some (zi x2)] [] h Q = (Q (.inl (some (zi x1))) h) :=
  (WP_blk 2 46 49 _ _ h Q).trans rfl
-- 47: Marginalia.many(I)I
theorem b_47_0 (r0 : Option Nat) (x1 : Int) (h : Zh) (Q : Zp) : WP 47 0 [some (zr r0), some (zi x1)] [] h Q = (WP 67 0 [some (zi x1), some (zi (0 : Int)), some (zi (4 : Int))] [] h (kont WP 47 3 [some (zr r0), some (zi x1)] [] [] Q)) :=
  (WP_blk 4 47 0 _ _ h Q).trans rfl
theorem b_47_6 (r0 : Option Nat) (x1 : Int) (s0 : Int) (h : Zh) (Q : Zp) : WP 47 6 [some (zr r0), some (zi x1)] [zi s0] h Q = (WP 65 0 [some (zi s0)] [] h (kont WP 47 6 [some (zr r0), some (zi x1)] [] [] Q)) :=
  (WP_blk 1 47 6 _ _ h Q).trans rfl
theorem b_47_9 (r0 : Option Nat) (x1 : Int) (h : Zh) (Q : Zp) : WP 47 9 [some (zr r0), some (zi x1)] [] h Q = (br (x1 = 0) (WP 47 13 [some (zr r0), some (zi x1)] [] h Q) (WP 47 18 [some (zr r0), some (zi x1)] [] h Q)) :=
  (WP_blk 2 47 9 _ _ h Q).trans rfl
theorem b_47_13 (r0 : Option Nat) (x1 : Int) (h : Zh) (Q : Zp) : WP 47 13 [some (zr r0), some (zi x1)] [] h Q = (kd h r0 6 ∧ (Q (.inl (some (zi (gI h (ad r0) 5)))) h)) :=
  (WP_blk 3 47 13 _ _ h Q).trans rfl
theorem b_47_18 (r0 : Option Nat) (x1 : Int) (h : Zh) (Q : Zp) : WP 47 18 [some (zr r0), some (zi x1)] [] h Q = (br (x1 = (1 : Int)) (WP 47 23 [some (zr r0), some (zi x1)] [] h Q) (WP 47 30 [some (zr r0), some (zi x1)] [] h Q)) :=
  (WP_blk 3 47 18 _ _ h Q).trans rfl
theorem b_47_23 (r0 : Option Nat) (x1 : Int) (h : Zh) (Q : Zp) : WP 47 23 [some (zr r0), some (zi x1)] [] h Q = (kd h r0 6 ∧ (WP 80 0 [some (zr r0), none, none] [] h (kont WP 47 24 [some (zr r0), some (zi x1)] [] [] Q))) :=
  (WP_blk 2 47 23 _ _ h Q).trans rfl
theorem b_47_27 (r0 : Option Nat) (x1 : Int) (s0 : Int) (h : Zh) (Q : Zp) : WP 47 27 [some (zr r0), some (zi x1)] [zi s0] h Q = (WP 47 35 [some (zr r0), some (zi x1)] [zi s0] h Q) :=
  (WP_blk 1 47 27 _ _ h Q).trans rfl
theorem b_47_30 (r0 : Option Nat) (x1 : Int) (h : Zh) (Q : Zp) : WP 47 30 [some (zr r0), some (zi x1)] [] h Q = (kd h r0 6 ∧ (WP 81 0 [some (zr r0), some (zi x1), none, none] [] h (kont WP 47 32 [some (zr r0), some (zi x1)] [] [] Q))) :=
  (WP_blk 3 47 30 _ _ h Q).trans rfl
theorem b_47_35 (r0 : Option Nat) (x1 : Int) (s0 : Int) (h : Zh) (Q : Zp) : WP 47 35 [some (zr r0), some (zi x1)] [zi s0] h Q = (Q (.inl (some (zi s0))) h) :=
  (WP_blk 1 47 35 _ _ h Q).trans rfl
-- 48: Marginalia.right(I)I
theorem b_48_0 (r0 : Option Nat) (x1 : Int) (h : Zh) (Q : Zp) : WP 48 0 [some (zr r0), some (zi x1)] [] h Q = (kd h r0 6 ∧ (WP 61 0 [some (zr r0), some (zi x1)] [] h (kont WP 48 2 [some (zr r0), some (zi x1)] [] [] Q))) :=
  (WP_blk 3 48 0 _ _ h Q).trans rfl
theorem b_48_5 (r0 : Option Nat) (x1 : Int) (h : Zh) (Q : Zp) : WP 48 5 [some (zr r0), some (zi x1)] [] h Q = (kd h r0 6 ∧ (ixa h (gR h (ad r0) 0) 10 x1 ∧ (Q (.inl (some (zi (gI h (ad (gR h (ad r0) 0)) x1)))) h))) :=
  (WP_blk 5 48 5 _ _ h Q).trans rfl
-- 49: Marginalia.ofNote(II)I
theorem b_49_0 (r0 : Option Nat) (x1 : Int) (x2 : Int) (h : Zh) (Q : Zp) : WP 49 0 [some (zr r0), some (zi x1), some (zi x2), none] [] h Q = (kd h r0 6 ∧ (WP 63 0 [some (zr r0), some (zi x1), none] [] h (kont WP 49 2 [some (zr r0), some (zi x1), some (zi x2), none] [] [] Q))) :=
  (WP_blk 3 49 0 _ _ h Q).trans rfl
theorem b_49_5 (r0 : Option Nat) (x1 : Int) (x2 : Int) (sr0 : Option Nat) (h : Zh) (Q : Zp) : WP 49 5 [some (zr r0), some (zi x1), some (zi x2), none] [zr sr0] h Q = (WP 67 0 [some (zi x2), some (zi (0 : Int)), some (zi (10 : Int))] [] h (kont WP 49 10 [some (zr r0), some (zi x1), some (zi x2), some (zr sr0)] [] [] Q)) :=
  (WP_blk 5 49 5 _ _ h Q).trans rfl
theorem b_49_13 (r0 : Option Nat) (x1 : Int) (x2 : Int) (r3 : Option Nat) (s0 : Int) (h : Zh) (Q : Zp) : WP 49 13 [some (zr r0), some (zi x1), some (zi x2), some (zr r3)] [zi s0] h Q = (WP 65 0 [some (zi s0)] [] h (kont WP 49 13 [some (zr r0), some (zi x1), some (zi x2), some (zr r3)] [] [] Q)) :=
  (WP_blk 1 49 13 _ _ h Q).trans rfl
theorem b_49_16 (r0 : Option Nat) (x1 : Int) (x2 : Int) (r3 : Option Nat) (h : Zh) (Q : Zp) : WP 49 16 [some (zr r0), some (zi x1), some (zi x2), some (zr r3)] [] h Q = (kd h r3 3 ∧ (WP 18 0 [some (zr r3), some (zi x2)] [] h (kont WP 49 18 [some (zr r0), some (zi x1), some (zi x2), some (zr r3)] [] [] Q))) :=
  (WP_blk 3 49 16 _ _ h Q).trans rfl
theorem b_49_21 (r0 : Option Nat) (x1 : Int) (x2 : Int) (r3 : Option Nat) (s0 : Int) (h : Zh) (Q : Zp) : WP 49 21 [some (zr r0), some (zi x1), some (zi x2), some (zr r3)] [zi s0] h Q = (Q (.inl (some (zi s0))) h) :=
  (WP_blk 1 49 21 _ _ h Q).trans rfl
-- 51: Marginalia.sees(II)Z
theorem b_51_0 (r0 : Option Nat) (x1 : Int) (x2 : Int) (h : Zh) (Q : Zp) : WP 51 0 [some (zr r0), some (zi x1), some (zi x2)] [] h Q = (kd h r0 6 ∧ (WP 61 0 [some (zr r0), some (zi x1)] [] h (kont WP 51 2 [some (zr r0), some (zi x1), some (zi x2)] [] [] Q))) :=
  (WP_blk 3 51 0 _ _ h Q).trans rfl
theorem b_51_5 (r0 : Option Nat) (x1 : Int) (x2 : Int) (h : Zh) (Q : Zp) : WP 51 5 [some (zr r0), some (zi x1), some (zi x2)] [] h Q = (kd h r0 6 ∧ (WP 63 0 [some (zr r0), some (zi x2), none] [] h (kont WP 51 9 [some (zr r0), some (zi x1), some (zi x2)] [zi x1, zr r0] [] Q))) :=
  (WP_blk 5 51 5 _ _ h Q).trans rfl
theorem b_51_12 (r0 : Option Nat) (x1 : Int) (x2 : Int) (sr0 : Option Nat) (s1 : Int) (sr2 : Option Nat) (h : Zh) (Q : Zp) : WP 51 12 [some (zr r0), some (zi x1), some (zi x2)] [zr sr0, zi s1, zr sr2] h Q = (kd h sr2 6 ∧ (WP 79 0 [some (zr sr2), some (zi s1), some (zr sr0)] [] h (kont WP 51 12 [some (zr r0), some (zi x1), some (zi x2)] [] [] Q))) :=
  (WP_blk 1 51 12 _ _ h Q).trans rfl
theorem b_51_15 (r0 : Option Nat) (x1 : Int) (x2 : Int) (s0 : Int) (h : Zh) (Q : Zp) : WP 51 15 [some (zr r0), some (zi x1), some (zi x2)] [zi s0] h Q = ((s0 = 0 ∨ s0 = 1) ∧ (Q (.inl (some (zi s0))) h)) :=
  (WP_blk 1 51 15 _ _ h Q).trans rfl
-- 52: Marginalia.thread(II)I
theorem b_52_0 (r0 : Option Nat) (x1 : Int) (x2 : Int) (h : Zh) (Q : Zp) : WP 52 0 [some (zr r0), some (zi x1), some (zi x2), none, none] [] h Q = (kd h r0 6 ∧ (WP 63 0 [some (zr r0), some (zi x1), none] [] h (kont WP 52 5 [some (zr r0), some (zi x1), some (zi x2), some (zi (0 : Int)), none] [zr r0] [] Q))) :=
  (WP_blk 6 52 0 _ _ h Q).trans rfl
theorem b_52_8 (r0 : Option Nat) (x1 : Int) (x2 : Int) (x3 : Int) (sr0 : Option Nat) (sr1 : Option Nat) (h : Zh) (Q : Zp) : WP 52 8 [some (zr r0), some (zi x1), some (zi x2), some (zi x3), none] [zr sr0, zr sr1] h Q = (kd h sr1 6 ∧ (WP 78 0 [some (zr sr1), some (zr sr0)] [] h (kont WP 52 8 [some (zr r0), some (zi x1), some (zi x2), some (zi x3), none] [] [] Q))) :=
  (WP_blk 1 52 8 _ _ h Q).trans rfl
theorem b_52_11 (r0 : Option Nat) (x1 : Int) (x2 : Int) (x3 : Int) (sr0 : Option Nat) (h : Zh) (Q : Zp) : WP 52 11 [some (zr r0), some (zi x1), some (zi x2), some (zi x3), none] [zr sr0] h Q = (WP 52 13 [some (zr r0), some (zi x1), some (zi x2), some (zi x3), some (zr sr0)] [] h Q) :=
  (WP_blk 1 52 11 _ _ h Q).trans rfl
theorem b_52_13 (r0 : Option Nat) (x1 : Int) (x2 : Int) (x3 : Int) (r4 : Option Nat) (h : Zh) (Q : Zp) : WP 52 13 [some (zr r0), some (zi x1), some (zi x2), some (zi x3), some (zr r4)] [] h Q = (br (r4 = none) (WP 52 50 [some (zr r0), some (zi x1), some (zi x2), some (zi x3), some (zr r4)] [] h Q) (WP 52 18 [some (zr r0), some (zi x1), some (zi x2), some (zi x3), some (zr r4)] [] h Q)) :=
  (WP_blk 2 52 13 _ _ h Q).trans rfl
theorem b_52_18 (r0 : Option Nat) (x1 : Int) (x2 : Int) (x3 : Int) (r4 : Option Nat) (h : Zh) (Q : Zp) : WP 52 18 [some (zr r0), some (zi x1), some (zi x2), some (zi x3), some (zr r4)] [] h Q = (kd h r4 3 ∧ (br ((gI h (ad r4) 9) = 0) (WP 52 26 [some (zr r0), some (zi x1), some (zi x2), some (zi x3), some (zr r4)] [] h Q) (WP 52 40 [some (zr r0), some (zi x1), some (zi x2), some (zi x3), some (zr r4)] [] h Q))) :=
  (WP_blk 3 52 18 _ _ h Q).trans rfl
theorem b_52_26 (r0 : Option Nat) (x1 : Int) (x2 : Int) (x3 : Int) (r4 : Option Nat) (h : Zh) (Q : Zp) : WP 52 26 [some (zr r0), some (zi x1), some (zi x2), some (zi x3), some (zr r4)] [] h Q = (br (x3 = x2) (WP 52 31 [some (zr r0), some (zi x1), some (zi x2), some (zi x3), some (zr r4)] [] h Q) (WP 52 37 [some (zr r0), some (zi x1), some (zi x2), some (zi x3), some (zr r4)] [] h Q)) :=
  (WP_blk 3 52 26 _ _ h Q).trans rfl
theorem b_52_31 (r0 : Option Nat) (x1 : Int) (x2 : Int) (x3 : Int) (r4 : Option Nat) (h : Zh) (Q : Zp) : WP 52 31 [some (zr r0), some (zi x1), some (zi x2), some (zi x3), some (zr r4)] [] h Q = (kd h r4 3 ∧ (Q (.inl (some (zi (gI h (ad r4) 0)))) h)) :=
  (WP_blk 3 52 31 _ _ h Q).trans rfl
theorem b_52_37 (r0 : Option Nat) (x1 : Int) (x2 : Int) (x3 : Int) (r4 : Option Nat) (h : Zh) (Q : Zp) : WP 52 37 [some (zr r0), some (zi x1), some (zi x2), some (zi x3), some (zr r4)] [] h Q = (inR (x3 + 1) ∧ (WP 52 40 [some (zr r0), some (zi x1), some (zi x2), some (zi (x3 + 1)), some (zr r4)] [] h Q)) :=
  (WP_blk 1 52 37 _ _ h Q).trans rfl
theorem b_52_40 (r0 : Option Nat) (x1 : Int) (x2 : Int) (x3 : Int) (r4 : Option Nat) (h : Zh) (Q : Zp) : WP 52 40 [some (zr r0), some (zi x1), some (zi x2), some (zi x3), some (zr r4)] [] h Q = (kd h r4 3 ∧ (WP 52 13 [some (zr r0), some (zi x1), some (zi x2), some (zi x3), some (zr (gR h (ad r4) 6))] [] h Q)) :=
  (WP_blk 4 52 40 _ _ h Q).trans rfl
theorem b_52_50 (r0 : Option Nat) (x1 : Int) (x2 : Int) (x3 : Int) (r4 : Option Nat) (h : Zh) (Q : Zp) : WP 52 50 [some (zr r0), some (zi x1), some (zi x2), some (zi x3), some (zr r4)] [] h Q = (Q (.inl (some (zi (-1 : Int)))) h) :=
  (WP_blk 2 52 50 _ _ h Q).trans rfl
-- 53: Marginalia.over(II)I
theorem b_53_0 (r0 : Option Nat) (x1 : Int) (x2 : Int) (h : Zh) (Q : Zp) : WP 53 0 [some (zr r0), some (zi x1), some (zi x2), none, none, none] [] h Q = (kd h r0 6 ∧ (WP 61 0 [some (zr r0), some (zi x1)] [] h (kont WP 53 2 [some (zr r0), some (zi x1), some (zi x2), none, none, none] [] [] Q))) :=
  (WP_blk 3 53 0 _ _ h Q).trans rfl
theorem b_53_5 (r0 : Option Nat) (x1 : Int) (x2 : Int) (h : Zh) (Q : Zp) : WP 53 5 [some (zr r0), some (zi x1), some (zi x2), none, none, none] [] h Q = (WP 53 10 [some (zr r0), some (zi x1), some (zi x2), some (zi (0 : Int)), some (zi (0 : Int)), none] [] h Q) :=
  (WP_blk 4 53 5 _ _ h Q).trans rfl
theorem b_53_10 (r0 : Option Nat) (x1 : Int) (x2 : Int) (x3 : Int) (x4 : Int) (o5 : Option Zv) (h : Zh) (Q : Zp) : WP 53 10 [some (zr r0), some (zi x1), some (zi x2), some (zi x3), some (zi x4), o5] [] h Q = (kd h r0 6 ∧ (br ((gI h (ad r0) 6) ≤ x4) (WP 53 70 [some (zr r0), some (zi x1), some (zi x2), some (zi x3), some (zi x4), o5] [] h Q) (WP 53 19 [some (zr r0), some (zi x1), some (zi x2), some (zi x3), some (zi x4), o5] [] h Q))) :=
  (WP_blk 4 53 10 _ _ h Q).trans rfl
theorem b_53_19 (r0 : Option Nat) (x1 : Int) (x2 : Int) (x3 : Int) (x4 : Int) (o5 : Option Zv) (h : Zh) (Q : Zp) : WP 53 19 [some (zr r0), some (zi x1), some (zi x2), some (zi x3), some (zi x4), o5] [] h Q = (kd h r0 6 ∧ (ixa h (gR h (ad r0) 2) 13 x4 ∧ (kd h (gR h (ad (gR h (ad r0) 2)) x4) 3 ∧ (WP 14 0 [some (zr (gR h (ad (gR h (ad r0) 2)) x4))] [] h (kont WP 53 30 [some (zr r0), some (zi x1), some (zi x2), some (zi x3), some (zi x4), some (zr (gR h (ad (gR h (ad r0) 2)) x4))] [] [] Q))))) :=
  (WP_blk 7 53 19 _ _ h Q).trans rfl
theorem b_53_33 (r0 : Option Nat) (x1 : Int) (x2 : Int) (x3 : Int) (x4 : Int) (r5 : Option Nat) (s0 : Int) (h : Zh) (Q : Zp) : WP 53 33 [some (zr r0), some (zi x1), some (zi x2), some (zi x3), some (zi x4), some (zr r5)] [zi s0] h Q = (br (s0 = 0) (WP 53 64 [some (zr r0), some (zi x1), some (zi x2), some (zi x3), some (zi x4), some (zr r5)] [] h Q) (WP 53 36 [some (zr r0), some (zi x1), some (zi x2), some (zi x3), some (zi x4), some (zr r5)] [] h Q)) :=
  (WP_blk 1 53 33 _ _ h Q).trans rfl
theorem b_53_36 (r0 : Option Nat) (x1 : Int) (x2 : Int) (x3 : Int) (x4 : Int) (r5 : Option Nat) (h : Zh) (Q : Zp) : WP 53 36 [some (zr r0), some (zi x1), some (zi x2), some (zi x3), some (zi x4), some (zr r5)] [] h Q = (kd h r0 6 ∧ (WP 79 0 [some (zr r0), some (zi x1), some (zr r5)] [] h (kont WP 53 40 [some (zr r0), some (zi x1), some (zi x2), some (zi x3), some (zi x4), some (zr r5)] [] [] Q))) :=
  (WP_blk 4 53 36 _ _ h Q).trans rfl
theorem b_53_43 (r0 : Option Nat) (x1 : Int) (x2 : Int) (x3 : Int) (x4 : Int) (r5 : Option Nat) (s0 : Int) (h : Zh) (Q : Zp) : WP 53 43 [some (zr r0), some (zi x1), some (zi x2), some (zi x3), some (zi x4), some (zr r5)] [zi s0] h Q = (br (s0 = 0) (WP 53 64 [some (zr r0), some (zi x1), some (zi x2), some (zi x3), some (zi x4), some (zr r5)] [] h Q) (WP 53 46 [some (zr r0), some (zi x1), some (zi x2), some (zi x3), some (zi x4), some (zr r5)] [] h Q)) :=
  (WP_blk 1 53 43 _ _ h Q).trans rfl
theorem b_53_46 (r0 : Option Nat) (x1 : Int) (x2 : Int) (x3 : Int) (x4 : Int) (r5 : Option Nat) (h : Zh) (Q : Zp) : WP 53 46 [some (zr r0), some (zi x1), some (zi x2), some (zi x3), some (zi x4), some (zr r5)] [] h Q = (kd h r5 3 ∧ (kd h (gR h (ad r5) 5) 4 ∧ (kd h (gR h (ad (gR h (ad r5) 5)) 3) 1 ∧ (WP 4 0 [some (zr (gR h (ad (gR h (ad r5) 5)) 3)), some (zi x2)] [] h (kont WP 53 55 [some (zr r0), some (zi x1), some (zi x2), some (zi x3), some (zi x4), some (zr r5)] [] [] Q))))) :=
  (WP_blk 5 53 46 _ _ h Q).trans rfl
theorem b_53_58 (r0 : Option Nat) (x1 : Int) (x2 : Int) (x3 : Int) (x4 : Int) (r5 : Option Nat) (s0 : Int) (h : Zh) (Q : Zp) : WP 53 58 [some (zr r0), some (zi x1), some (zi x2), some (zi x3), some (zi x4), some (zr r5)] [zi s0] h Q = (br (s0 = 0) (WP 53 64 [some (zr r0), some (zi x1), some (zi x2), some (zi x3), some (zi x4), some (zr r5)] [] h Q) (WP 53 61 [some (zr r0), some (zi x1), some (zi x2), some (zi x3), some (zi x4), some (zr r5)] [] h Q)) :=
  (WP_blk 1 53 58 _ _ h Q).trans rfl
theorem b_53_61 (r0 : Option Nat) (x1 : Int) (x2 : Int) (x3 : Int) (x4 : Int) (r5 : Option Nat) (h : Zh) (Q : Zp) : WP 53 61 [some (zr r0), some (zi x1), some (zi x2), some (zi x3), some (zi x4), some (zr r5)] [] h Q = (inR (x3 + 1) ∧ (WP 53 64 [some (zr r0), some (zi x1), some (zi x2), some (zi (x3 + 1)), some (zi x4), some (zr r5)] [] h Q)) :=
  (WP_blk 1 53 61 _ _ h Q).trans rfl
theorem b_53_64 (r0 : Option Nat) (x1 : Int) (x2 : Int) (x3 : Int) (x4 : Int) (r5 : Option Nat) (h : Zh) (Q : Zp) : WP 53 64 [some (zr r0), some (zi x1), some (zi x2), some (zi x3), some (zi x4), some (zr r5)] [] h Q = (inR (x4 + 1) ∧ (WP 53 10 [some (zr r0), some (zi x1), some (zi x2), some (zi x3), some (zi (x4 + 1)), some (zr r5)] [] h Q)) :=
  (WP_blk 2 53 64 _ _ h Q).trans rfl
theorem b_53_70 (r0 : Option Nat) (x1 : Int) (x2 : Int) (x3 : Int) (x4 : Int) (o5 : Option Zv) (h : Zh) (Q : Zp) : WP 53 70 [some (zr r0), some (zi x1), some (zi x2), some (zi x3), some (zi x4), o5] [] h Q = (Q (.inl (some (zi x3))) h) :=
  (WP_blk 2 53 70 _ _ h Q).trans rfl
-- 54: Marginalia.export(IZ)I
theorem b_54_0 (r0 : Option Nat) (x1 : Int) (x2 : Int) (h : Zh) (Q : Zp) : WP 54 0 [some (zr r0), some (zi x1), some (zi x2), none, none] [] h Q = (kd h r0 6 ∧ (WP 61 0 [some (zr r0), some (zi x1)] [] h (kont WP 54 2 [some (zr r0), some (zi x1), some (zi x2), none, none] [] [] Q))) :=
  (WP_blk 3 54 0 _ _ h Q).trans rfl
theorem b_54_5 (r0 : Option Nat) (x1 : Int) (x2 : Int) (h : Zh) (Q : Zp) : WP 54 5 [some (zr r0), some (zi x1), some (zi x2), none, none] [] h Q = (kd h r0 6 ∧ (WP 82 0 [some (zr r0), some (zi x1), some (zi x2), none, none, none] [] h (kont WP 54 8 [some (zr r0), some (zi x1), some (zi x2), none, none] [] [] Q))) :=
  (WP_blk 4 54 5 _ _ h Q).trans rfl
theorem b_54_11 (r0 : Option Nat) (x1 : Int) (x2 : Int) (s0 : Int) (h : Zh) (Q : Zp) : WP 54 11 [some (zr r0), some (zi x1), some (zi x2), none, none] [zi s0] h Q = (kd h r0 6 ∧ (kd h (gR h (ad r0) 4) 2 ∧ (WP 54 20 [some (zr r0), some (zi x1), some (zi x2), some (zi s0), none] [] (pI h (ad (gR h (ad r0) 4)) 1 (0 : Int)) Q))) :=
  (WP_blk 5 54 11 _ _ h Q).trans rfl
theorem b_54_20 (r0 : Option Nat) (x1 : Int) (x2 : Int) (x3 : Int) (h : Zh) (Q : Zp) : WP 54 20 [some (zr r0), some (zi x1), some (zi x2), some (zi x3), none] [] h Q = (WP 54 23 [some (zr r0), some (zi x1), some (zi x2), some (zi x3), some (zi (0 : Int))] [] h Q) :=
  (WP_blk 2 54 20 _ _ h Q).trans rfl
theorem b_54_23 (r0 : Option Nat) (x1 : Int) (x2 : Int) (x3 : Int) (x4 : Int) (h : Zh) (Q : Zp) : WP 54 23 [some (zr r0), some (zi x1), some (zi x2), some (zi x3), some (zi x4)] [] h Q = (br (x3 ≤ x4) (WP 54 49 [some (zr r0), some (zi x1), some (zi x2), some (zi x3), some (zi x4)] [] h Q) (WP 54 29 [some (zr r0), some (zi x1), some (zi x2), some (zi x3), some (zi x4)] [] h Q)) :=
  (WP_blk 3 54 23 _ _ h Q).trans rfl
theorem b_54_29 (r0 : Option Nat) (x1 : Int) (x2 : Int) (x3 : Int) (x4 : Int) (h : Zh) (Q : Zp) : WP 54 29 [some (zr r0), some (zi x1), some (zi x2), some (zi x3), some (zi x4)] [] h Q = (kd h r0 6 ∧ (kd h r0 6 ∧ (ixa h (gR h (ad r0) 3) 13 x4 ∧ (kd h (gR h (ad r0) 4) 2 ∧ (WP 11 0 [some (zr (gR h (ad r0) 4)), some (zr (gR h (ad (gR h (ad r0) 3)) x4)), none] [] h (kont WP 54 40 [some (zr r0), some (zi x1), some (zi x2), some (zi x3), some (zi x4)] [] [] Q)))))) :=
  (WP_blk 7 54 29 _ _ h Q).trans rfl
theorem b_54_43 (r0 : Option Nat) (x1 : Int) (x2 : Int) (x3 : Int) (x4 : Int) (h : Zh) (Q : Zp) : WP 54 43 [some (zr r0), some (zi x1), some (zi x2), some (zi x3), some (zi x4)] [] h Q = (inR (x4 + 1) ∧ (WP 54 23 [some (zr r0), some (zi x1), some (zi x2), some (zi x3), some (zi (x4 + 1))] [] h Q)) :=
  (WP_blk 2 54 43 _ _ h Q).trans rfl
theorem b_54_49 (r0 : Option Nat) (x1 : Int) (x2 : Int) (x3 : Int) (x4 : Int) (h : Zh) (Q : Zp) : WP 54 49 [some (zr r0), some (zi x1), some (zi x2), some (zi x3), some (zi x4)] [] h Q = (kd h r0 6 ∧ (kd h (gR h (ad r0) 4) 2 ∧ (Q (.inl (some (zi (gI h (ad (gR h (ad r0) 4)) 1)))) h))) :=
  (WP_blk 4 54 49 _ _ h Q).trans rfl
-- 55: Marginalia.exported(II)I
theorem b_55_0 (r0 : Option Nat) (x1 : Int) (x2 : Int) (h : Zh) (Q : Zp) : WP 55 0 [some (zr r0), some (zi x1), some (zi x2)] [] h Q = (kd h r0 6 ∧ (kd h (gR h (ad r0) 4) 2 ∧ (inR ((gI h (ad (gR h (ad r0) 4)) 1) - (1 : Int)) ∧ (WP 67 0 [some (zi x1), some (zi (0 : Int)), some (zi ((gI h (ad (gR h (ad r0) 4)) 1) - (1 : Int)))] [] h (kont WP 55 11 [some (zr r0), some (zi x1), some (zi x2)] [] [] Q))))) :=
  (WP_blk 8 55 0 _ _ h Q).trans rfl
theorem b_55_14 (r0 : Option Nat) (x1 : Int) (x2 : Int) (s0 : Int) (h : Zh) (Q : Zp) : WP 55 14 [some (zr r0), some (zi x1), some (zi x2)] [zi s0] h Q = (WP 64 0 [some (zi s0)] [] h (kont WP 55 14 [some (zr r0), some (zi x1), some (zi x2)] [] [] Q)) :=
  (WP_blk 1 55 14 _ _ h Q).trans rfl
theorem b_55_17 (r0 : Option Nat) (x1 : Int) (x2 : Int) (h : Zh) (Q : Zp) : WP 55 17 [some (zr r0), some (zi x1), some (zi x2)] [] h Q = (WP 67 0 [some (zi x2), some (zi (0 : Int)), some (zi (3 : Int))] [] h (kont WP 55 20 [some (zr r0), some (zi x1), some (zi x2)] [] [] Q)) :=
  (WP_blk 4 55 17 _ _ h Q).trans rfl
theorem b_55_23 (r0 : Option Nat) (x1 : Int) (x2 : Int) (s0 : Int) (h : Zh) (Q : Zp) : WP 55 23 [some (zr r0), some (zi x1), some (zi x2)] [zi s0] h Q = (WP 65 0 [some (zi s0)] [] h (kont WP 55 23 [some (zr r0), some (zi x1), some (zi x2)] [] [] Q)) :=
  (WP_blk 1 55 23 _ _ h Q).trans rfl
theorem b_55_26 (r0 : Option Nat) (x1 : Int) (x2 : Int) (h : Zh) (Q : Zp) : WP 55 26 [some (zr r0), some (zi x1), some (zi x2)] [] h Q = (kd h r0 6 ∧ (kd h (gR h (ad r0) 4) 2 ∧ (ixa h (gR h (ad (gR h (ad r0) 4)) 0) 14 x2 ∧ (ixa h (gR h (ad (gR h (ad (gR h (ad r0) 4)) 0)) x2) 10 x1 ∧ (Q (.inl (some (zi (gI h (ad (gR h (ad (gR h (ad (gR h (ad r0) 4)) 0)) x2)) x1)))) h))))) :=
  (WP_blk 8 55 26 _ _ h Q).trans rfl
-- 56: Marginalia.meanThread()D
theorem b_56_0 (r0 : Option Nat) (h : Zh) (Q : Zp) : WP 56 0 [some (zr r0), none] [] h Q = (kd h r0 6 ∧ (WP 81 0 [some (zr r0), some (zi (2 : Int)), none, none] [] h (kont WP 56 2 [some (zr r0), none] [] [] Q))) :=
  (WP_blk 3 56 0 _ _ h Q).trans rfl
theorem b_56_5 (r0 : Option Nat) (s0 : Int) (h : Zh) (Q : Zp) : WP 56 5 [some (zr r0), none] [zi s0] h Q = (br (s0 = 0) (WP 56 10 [some (zr r0), some (zi s0)] [] h Q) (WP 56 14 [some (zr r0), some (zi s0)] [] h Q)) :=
  (WP_blk 3 56 5 _ _ h Q).trans rfl
theorem b_56_10 (r0 : Option Nat) (x1 : Int) (h : Zh) (Q : Zp) : WP 56 10 [some (zr r0), some (zi x1)] [] h Q = (WP 56 22 [some (zr r0), some (zi x1)] [zd FP.dconst0] h Q) :=
  (WP_blk 2 56 10 _ _ h Q).trans rfl
theorem b_56_14 (r0 : Option Nat) (x1 : Int) (h : Zh) (Q : Zp) : WP 56 14 [some (zr r0), some (zi x1)] [] h Q = (kd h r0 6 ∧ (WP 80 0 [some (zr r0), none, none] [] h (kont WP 56 15 [some (zr r0), some (zi x1)] [] [] Q))) :=
  (WP_blk 2 56 14 _ _ h Q).trans rfl
theorem b_56_18 (r0 : Option Nat) (x1 : Int) (s0 : Int) (h : Zh) (Q : Zp) : WP 56 18 [some (zr r0), some (zi x1)] [zi s0] h Q = (vf_n64 (FP.ddiv (FP.i2d (Int32.ofInt s0)) (FP.i2d (Int32.ofInt x1))) ∧ (WP 56 22 [some (zr r0), some (zi x1)] [zd (FP.ddiv (FP.i2d (Int32.ofInt s0)) (FP.i2d (Int32.ofInt x1)))] h Q)) :=
  (WP_blk 4 56 18 _ _ h Q).trans rfl
theorem b_56_22 (r0 : Option Nat) (x1 : Int) (sd0 : UInt64) (h : Zh) (Q : Zp) : WP 56 22 [some (zr r0), some (zi x1)] [zd sd0] h Q = (Q (.inl (some (zd sd0))) h) :=
  (WP_blk 1 56 22 _ _ h Q).trans rfl
-- 57: Marginalia.lostBy(II)I
theorem b_57_0 (r0 : Option Nat) (x1 : Int) (x2 : Int) (h : Zh) (Q : Zp) : WP 57 0 [some (zr r0), some (zi x1), some (zi x2), none, none] [] h Q = (kd h r0 6 ∧ (WP 62 0 [some (zr r0), some (zi x1)] [] h (kont WP 57 2 [some (zr r0), some (zi x1), some (zi x2), none, none] [] [] Q))) :=
  (WP_blk 3 57 0 _ _ h Q).trans rfl
theorem b_57_5 (r0 : Option Nat) (x1 : Int) (x2 : Int) (h : Zh) (Q : Zp) : WP 57 5 [some (zr r0), some (zi x1), some (zi x2), none, none] [] h Q = (kd h r0 6 ∧ (kd h (gR h (ad r0) 1) 5 ∧ (WP 23 0 [some (zr (gR h (ad r0) 1))] [] h (kont WP 57 11 [some (zr r0), some (zi x1), some (zi x2), none, none] [zi (1 : Int), zi x2] [] Q)))) :=
  (WP_blk 5 57 5 _ _ h Q).trans rfl
theorem b_57_14 (r0 : Option Nat) (x1 : Int) (x2 : Int) (s0 : Int) (s1 : Int) (s2 : Int) (h : Zh) (Q : Zp) : WP 57 14 [some (zr r0), some (zi x1), some (zi x2), none, none] [zi s0, zi s1, zi s2] h Q = (inR (s0 - x1) ∧ (WP 67 0 [some (zi s2), some (zi s1), some (zi (s0 - x1))] [] h (kont WP 57 16 [some (zr r0), some (zi x1), some (zi x2), none, none] [] [] Q))) :=
  (WP_blk 3 57 14 _ _ h Q).trans rfl
theorem b_57_19 (r0 : Option Nat) (x1 : Int) (x2 : Int) (s0 : Int) (h : Zh) (Q : Zp) : WP 57 19 [some (zr r0), some (zi x1), some (zi x2), none, none] [zi s0] h Q = (WP 65 0 [some (zi s0)] [] h (kont WP 57 19 [some (zr r0), some (zi x1), some (zi x2), none, none] [] [] Q)) :=
  (WP_blk 1 57 19 _ _ h Q).trans rfl
theorem b_57_22 (r0 : Option Nat) (x1 : Int) (x2 : Int) (h : Zh) (Q : Zp) : WP 57 22 [some (zr r0), some (zi x1), some (zi x2), none, none] [] h Q = (WP 57 27 [some (zr r0), some (zi x1), some (zi x2), some (zi (0 : Int)), some (zi (0 : Int))] [] h Q) :=
  (WP_blk 4 57 22 _ _ h Q).trans rfl
theorem b_57_27 (r0 : Option Nat) (x1 : Int) (x2 : Int) (x3 : Int) (x4 : Int) (h : Zh) (Q : Zp) : WP 57 27 [some (zr r0), some (zi x1), some (zi x2), some (zi x3), some (zi x4)] [] h Q = (kd h r0 6 ∧ (br ((gI h (ad r0) 6) ≤ x4) (WP 57 81 [some (zr r0), some (zi x1), some (zi x2), some (zi x3), some (zi x4)] [] h Q) (WP 57 36 [some (zr r0), some (zi x1), some (zi x2), some (zi x3), some (zi x4)] [] h Q))) :=
  (WP_blk 4 57 27 _ _ h Q).trans rfl
theorem b_57_36 (r0 : Option Nat) (x1 : Int) (x2 : Int) (x3 : Int) (x4 : Int) (h : Zh) (Q : Zp) : WP 57 36 [some (zr r0), some (zi x1), some (zi x2), some (zi x3), some (zi x4)] [] h Q = (kd h r0 6 ∧ (ixa h (gR h (ad r0) 2) 13 x4 ∧ (kd h (gR h (ad (gR h (ad r0) 2)) x4) 3 ∧ (WP 14 0 [some (zr (gR h (ad (gR h (ad r0) 2)) x4))] [] h (kont WP 57 43 [some (zr r0), some (zi x1), some (zi x2), some (zi x3), some (zi x4)] [] [] Q))))) :=
  (WP_blk 5 57 36 _ _ h Q).trans rfl
theorem b_57_46 (r0 : Option Nat) (x1 : Int) (x2 : Int) (x3 : Int) (x4 : Int) (s0 : Int) (h : Zh) (Q : Zp) : WP 57 46 [some (zr r0), some (zi x1), some (zi x2), some (zi x3), some (zi x4)] [zi s0] h Q = (br (s0 = 0) (WP 57 75 [some (zr r0), some (zi x1), some (zi x2), some (zi x3), some (zi x4)] [] h Q) (WP 57 49 [some (zr r0), some (zi x1), some (zi x2), some (zi x3), some (zi x4)] [] h Q)) :=
  (WP_blk 1 57 46 _ _ h Q).trans rfl
theorem b_57_49 (r0 : Option Nat) (x1 : Int) (x2 : Int) (x3 : Int) (x4 : Int) (h : Zh) (Q : Zp) : WP 57 49 [some (zr r0), some (zi x1), some (zi x2), some (zi x3), some (zi x4)] [] h Q = (kd h r0 6 ∧ (ixa h (gR h (ad r0) 2) 13 x4 ∧ (kd h (gR h (ad (gR h (ad r0) 2)) x4) 3 ∧ (kd h (gR h (ad (gR h (ad (gR h (ad r0) 2)) x4)) 5) 4 ∧ (inR (x1 + x2) ∧ (kd h (gR h (ad (gR h (ad (gR h (ad (gR h (ad r0) 2)) x4)) 5)) 3) 1 ∧ (WP 6 0 [some (zr (gR h (ad (gR h (ad (gR h (ad (gR h (ad r0) 2)) x4)) 5)) 3)), some (zi x1), some (zi (x1 + x2))] [] h (kont WP 57 66 [some (zr r0), some (zi x1), some (zi x2), some (zi x3), some (zi x4)] [] [] Q)))))))) :=
  (WP_blk 11 57 49 _ _ h Q).trans rfl
theorem b_57_69 (r0 : Option Nat) (x1 : Int) (x2 : Int) (x3 : Int) (x4 : Int) (s0 : Int) (h : Zh) (Q : Zp) : WP 57 69 [some (zr r0), some (zi x1), some (zi x2), some (zi x3), some (zi x4)] [zi s0] h Q = (br (s0 = 0) (WP 57 75 [some (zr r0), some (zi x1), some (zi x2), some (zi x3), some (zi x4)] [] h Q) (WP 57 72 [some (zr r0), some (zi x1), some (zi x2), some (zi x3), some (zi x4)] [] h Q)) :=
  (WP_blk 1 57 69 _ _ h Q).trans rfl
theorem b_57_72 (r0 : Option Nat) (x1 : Int) (x2 : Int) (x3 : Int) (x4 : Int) (h : Zh) (Q : Zp) : WP 57 72 [some (zr r0), some (zi x1), some (zi x2), some (zi x3), some (zi x4)] [] h Q = (inR (x3 + 1) ∧ (WP 57 75 [some (zr r0), some (zi x1), some (zi x2), some (zi (x3 + 1)), some (zi x4)] [] h Q)) :=
  (WP_blk 1 57 72 _ _ h Q).trans rfl
theorem b_57_75 (r0 : Option Nat) (x1 : Int) (x2 : Int) (x3 : Int) (x4 : Int) (h : Zh) (Q : Zp) : WP 57 75 [some (zr r0), some (zi x1), some (zi x2), some (zi x3), some (zi x4)] [] h Q = (inR (x4 + 1) ∧ (WP 57 27 [some (zr r0), some (zi x1), some (zi x2), some (zi x3), some (zi (x4 + 1))] [] h Q)) :=
  (WP_blk 2 57 75 _ _ h Q).trans rfl
theorem b_57_81 (r0 : Option Nat) (x1 : Int) (x2 : Int) (x3 : Int) (x4 : Int) (h : Zh) (Q : Zp) : WP 57 81 [some (zr r0), some (zi x1), some (zi x2), some (zi x3), some (zi x4)] [] h Q = (Q (.inl (some (zi x3))) h) :=
  (WP_blk 2 57 81 _ _ h Q).trans rfl
-- 58: Marginalia.wouldHeal(I)I
theorem b_58_0 (r0 : Option Nat) (x1 : Int) (h : Zh) (Q : Zp) : WP 58 0 [some (zr r0), some (zi x1)] [] h Q = (kd h r0 6 ∧ (WP 63 0 [some (zr r0), some (zi x1), none] [] h (kont WP 58 3 [some (zr r0), some (zi x1)] [zr r0] [] Q))) :=
  (WP_blk 4 58 0 _ _ h Q).trans rfl
theorem b_58_6 (r0 : Option Nat) (x1 : Int) (sr0 : Option Nat) (sr1 : Option Nat) (h : Zh) (Q : Zp) : WP 58 6 [some (zr r0), some (zi x1)] [zr sr0, zr sr1] h Q = (kd h sr0 3 ∧ (kd h sr1 6 ∧ (WP 76 0 [some (zr sr1), some (zr (gR h (ad sr0) 5)), none, none] [] h (kont WP 58 9 [some (zr r0), some (zi x1)] [] [] Q)))) :=
  (WP_blk 2 58 6 _ _ h Q).trans rfl
theorem b_58_12 (r0 : Option Nat) (x1 : Int) (s0 : Int) (h : Zh) (Q : Zp) : WP 58 12 [some (zr r0), some (zi x1)] [zi s0] h Q = (Q (.inl (some (zi s0))) h) :=
  (WP_blk 1 58 12 _ _ h Q).trans rfl
-- 59: Marginalia.wouldSee(II)I
theorem b_59_0 (r0 : Option Nat) (x1 : Int) (x2 : Int) (h : Zh) (Q : Zp) : WP 59 0 [some (zr r0), some (zi x1), some (zi x2), none, none] [] h Q = (kd h r0 6 ∧ (WP 61 0 [some (zr r0), some (zi x1)] [] h (kont WP 59 2 [some (zr r0), some (zi x1), some (zi x2), none, none] [] [] Q))) :=
  (WP_blk 3 59 0 _ _ h Q).trans rfl
theorem b_59_5 (r0 : Option Nat) (x1 : Int) (x2 : Int) (h : Zh) (Q : Zp) : WP 59 5 [some (zr r0), some (zi x1), some (zi x2), none, none] [] h Q = (WP 68 0 [some (zi x2)] [] h (kont WP 59 6 [some (zr r0), some (zi x1), some (zi x2), none, none] [] [] Q)) :=
  (WP_blk 2 59 5 _ _ h Q).trans rfl
theorem b_59_9 (r0 : Option Nat) (x1 : Int) (x2 : Int) (s0 : Int) (h : Zh) (Q : Zp) : WP 59 9 [some (zr r0), some (zi x1), some (zi x2), none, none] [zi s0] h Q = (WP 65 0 [some (zi s0)] [] h (kont WP 59 9 [some (zr r0), some (zi x1), some (zi x2), none, none] [] [] Q)) :=
  (WP_blk 1 59 9 _ _ h Q).trans rfl
theorem b_59_12 (r0 : Option Nat) (x1 : Int) (x2 : Int) (h : Zh) (Q : Zp) : WP 59 12 [some (zr r0), some (zi x1), some (zi x2), none, none] [] h Q = (WP 59 17 [some (zr r0), some (zi x1), some (zi x2), some (zi (0 : Int)), some (zi (0 : Int))] [] h Q) :=
  (WP_blk 4 59 12 _ _ h Q).trans rfl
theorem b_59_17 (r0 : Option Nat) (x1 : Int) (x2 : Int) (x3 : Int) (x4 : Int) (h : Zh) (Q : Zp) : WP 59 17 [some (zr r0), some (zi x1), some (zi x2), some (zi x3), some (zi x4)] [] h Q = (kd h r0 6 ∧ (br ((gI h (ad r0) 6) ≤ x4) (WP 59 66 [some (zr r0), some (zi x1), some (zi x2), some (zi x3), some (zi x4)] [] h Q) (WP 59 26 [some (zr r0), some (zi x1), some (zi x2), some (zi x3), some (zi x4)] [] h Q))) :=
  (WP_blk 4 59 17 _ _ h Q).trans rfl
theorem b_59_26 (r0 : Option Nat) (x1 : Int) (x2 : Int) (x3 : Int) (x4 : Int) (h : Zh) (Q : Zp) : WP 59 26 [some (zr r0), some (zi x1), some (zi x2), some (zi x3), some (zi x4)] [] h Q = (kd h r0 6 ∧ (ixa h (gR h (ad r0) 2) 13 x4 ∧ (kd h (gR h (ad (gR h (ad r0) 2)) x4) 3 ∧ (br ((gI h (ad (gR h (ad (gR h (ad r0) 2)) x4)) 9) = 0) (WP 59 39 [some (zr r0), some (zi x1), some (zi x2), some (zi x3), some (zi x4)] [] h Q) (WP 59 60 [some (zr r0), some (zi x1), some (zi x2), some (zi x3), some (zi x4)] [] h Q))))) :=
  (WP_blk 6 59 26 _ _ h Q).trans rfl
theorem b_59_39 (r0 : Option Nat) (x1 : Int) (x2 : Int) (x3 : Int) (x4 : Int) (h : Zh) (Q : Zp) : WP 59 39 [some (zr r0), some (zi x1), some (zi x2), some (zi x3), some (zi x4)] [] h Q = (kd h r0 6 ∧ (ixa h (gR h (ad r0) 2) 13 x4 ∧ (kd h (gR h (ad (gR h (ad r0) 2)) x4) 3 ∧ (kd h (gR h (ad (gR h (ad (gR h (ad r0) 2)) x4)) 5) 4 ∧ (WP 20 0 [some (zr (gR h (ad (gR h (ad (gR h (ad r0) 2)) x4)) 5)), some (zi x1), some (zi x2)] [] h (kont WP 59 51 [some (zr r0), some (zi x1), some (zi x2), some (zi x3), some (zi x4)] [] [] Q)))))) :=
  (WP_blk 8 59 39 _ _ h Q).trans rfl
theorem b_59_54 (r0 : Option Nat) (x1 : Int) (x2 : Int) (x3 : Int) (x4 : Int) (s0 : Int) (h : Zh) (Q : Zp) : WP 59 54 [some (zr r0), some (zi x1), some (zi x2), some (zi x3), some (zi x4)] [zi s0] h Q = (br (s0 = 0) (WP 59 60 [some (zr r0), some (zi x1), some (zi x2), some (zi x3), some (zi x4)] [] h Q) (WP 59 57 [some (zr r0), some (zi x1), some (zi x2), some (zi x3), some (zi x4)] [] h Q)) :=
  (WP_blk 1 59 54 _ _ h Q).trans rfl
theorem b_59_57 (r0 : Option Nat) (x1 : Int) (x2 : Int) (x3 : Int) (x4 : Int) (h : Zh) (Q : Zp) : WP 59 57 [some (zr r0), some (zi x1), some (zi x2), some (zi x3), some (zi x4)] [] h Q = (inR (x3 + 1) ∧ (WP 59 60 [some (zr r0), some (zi x1), some (zi x2), some (zi (x3 + 1)), some (zi x4)] [] h Q)) :=
  (WP_blk 1 59 57 _ _ h Q).trans rfl
theorem b_59_60 (r0 : Option Nat) (x1 : Int) (x2 : Int) (x3 : Int) (x4 : Int) (h : Zh) (Q : Zp) : WP 59 60 [some (zr r0), some (zi x1), some (zi x2), some (zi x3), some (zi x4)] [] h Q = (inR (x4 + 1) ∧ (WP 59 17 [some (zr r0), some (zi x1), some (zi x2), some (zi x3), some (zi (x4 + 1))] [] h Q)) :=
  (WP_blk 2 59 60 _ _ h Q).trans rfl
theorem b_59_66 (r0 : Option Nat) (x1 : Int) (x2 : Int) (x3 : Int) (x4 : Int) (h : Zh) (Q : Zp) : WP 59 66 [some (zr r0), some (zi x1), some (zi x2), some (zi x3), some (zi x4)] [] h Q = (Q (.inl (some (zi x3))) h) :=
  (WP_blk 2 59 66 _ _ h Q).trans rfl
-- 60: Marginalia.digest()J
theorem b_60_0 (r0 : Option Nat) (h : Zh) (Q : Zp) : WP 60 0 [some (zr r0), none, none, none] [] h Q = (kd h r0 6 ∧ (WP 85 0 [some (zr r0), some (zl 58083), none, none, none, none] [] h (kont WP 60 4 [some (zr r0), none, none, none] [] [] Q))) :=
  (WP_blk 3 60 0 _ _ h Q).trans rfl
theorem b_60_7 (r0 : Option Nat) (sl0 : Int64) (h : Zh) (Q : Zp) : WP 60 7 [some (zr r0), none, none, none] [zl sl0] h Q = (WP 60 10 [some (zr r0), some (zl sl0), none, some (zi (0 : Int))] [] h Q) :=
  (WP_blk 3 60 7 _ _ h Q).trans rfl
theorem b_60_10 (r0 : Option Nat) (l1 : Int64) (x3 : Int) (h : Zh) (Q : Zp) : WP 60 10 [some (zr r0), some (zl l1), none, some (zi x3)] [] h Q = (kd h r0 6 ∧ (br ((gI h (ad r0) 5) ≤ x3) (WP 60 31 [some (zr r0), some (zl l1), none, some (zi x3)] [] h Q) (WP 60 18 [some (zr r0), some (zl l1), none, some (zi x3)] [] h Q))) :=
  (WP_blk 4 60 10 _ _ h Q).trans rfl
theorem b_60_18 (r0 : Option Nat) (l1 : Int64) (x3 : Int) (h : Zh) (Q : Zp) : WP 60 18 [some (zr r0), some (zl l1), none, some (zi x3)] [] h Q = (kd h r0 6 ∧ (WP 86 0 [some (zr r0), some (zl l1), none, some (zi x3), none, none] [] h (kont WP 60 21 [some (zr r0), some (zl l1), none, some (zi x3)] [] [] Q))) :=
  (WP_blk 4 60 18 _ _ h Q).trans rfl
theorem b_60_24 (r0 : Option Nat) (l1 : Int64) (x3 : Int) (sl0 : Int64) (h : Zh) (Q : Zp) : WP 60 24 [some (zr r0), some (zl l1), none, some (zi x3)] [zl sl0] h Q = (inR (x3 + 1) ∧ (WP 60 10 [some (zr r0), some (zl sl0), none, some (zi (x3 + 1))] [] h Q)) :=
  (WP_blk 3 60 24 _ _ h Q).trans rfl
theorem b_60_31 (r0 : Option Nat) (l1 : Int64) (x3 : Int) (h : Zh) (Q : Zp) : WP 60 31 [some (zr r0), some (zl l1), none, some (zi x3)] [] h Q = (WP 60 33 [some (zr r0), some (zl l1), none, some (zi (0 : Int))] [] h Q) :=
  (WP_blk 2 60 31 _ _ h Q).trans rfl
theorem b_60_33 (r0 : Option Nat) (l1 : Int64) (x3 : Int) (h : Zh) (Q : Zp) : WP 60 33 [some (zr r0), some (zl l1), none, some (zi x3)] [] h Q = (kd h r0 6 ∧ (br ((gI h (ad r0) 6) ≤ x3) (WP 60 66 [some (zr r0), some (zl l1), none, some (zi x3)] [] h Q) (WP 60 41 [some (zr r0), some (zl l1), none, some (zi x3)] [] h Q))) :=
  (WP_blk 4 60 33 _ _ h Q).trans rfl
theorem b_60_41 (r0 : Option Nat) (l1 : Int64) (x3 : Int) (h : Zh) (Q : Zp) : WP 60 41 [some (zr r0), some (zl l1), none, some (zi x3)] [] h Q = (kd h r0 6 ∧ (ixa h (gR h (ad r0) 2) 13 x3 ∧ (kd h (gR h (ad (gR h (ad r0) 2)) x3) 3 ∧ (br ((gI h (ad (gR h (ad (gR h (ad r0) 2)) x3)) 9) = 0) (WP 60 53 [some (zr r0), some (zl l1), none, some (zi x3)] [] h Q) (WP 60 60 [some (zr r0), some (zl l1), none, some (zi x3)] [] h Q))))) :=
  (WP_blk 6 60 41 _ _ h Q).trans rfl
theorem b_60_53 (r0 : Option Nat) (l1 : Int64) (x3 : Int) (h : Zh) (Q : Zp) : WP 60 53 [some (zr r0), some (zl l1), none, some (zi x3)] [] h Q = (kd h r0 6 ∧ (WP 87 0 [some (zr r0), some (zl l1), none, some (zi x3), none, none, none] [] h (kont WP 60 56 [some (zr r0), some (zl l1), none, some (zi x3)] [] [] Q))) :=
  (WP_blk 4 60 53 _ _ h Q).trans rfl
theorem b_60_59 (r0 : Option Nat) (l1 : Int64) (x3 : Int) (sl0 : Int64) (h : Zh) (Q : Zp) : WP 60 59 [some (zr r0), some (zl l1), none, some (zi x3)] [zl sl0] h Q = (WP 60 60 [some (zr r0), some (zl sl0), none, some (zi x3)] [] h Q) :=
  (WP_blk 1 60 59 _ _ h Q).trans rfl
theorem b_60_60 (r0 : Option Nat) (l1 : Int64) (x3 : Int) (h : Zh) (Q : Zp) : WP 60 60 [some (zr r0), some (zl l1), none, some (zi x3)] [] h Q = (inR (x3 + 1) ∧ (WP 60 33 [some (zr r0), some (zl l1), none, some (zi (x3 + 1))] [] h Q)) :=
  (WP_blk 2 60 60 _ _ h Q).trans rfl
theorem b_60_66 (r0 : Option Nat) (l1 : Int64) (x3 : Int) (h : Zh) (Q : Zp) : WP 60 66 [some (zr r0), some (zl l1), none, some (zi x3)] [] h Q = (kd h r0 6 ∧ (WP 88 0 [some (zr r0), some (zl l1), none, none, none, none, none] [] h (kont WP 60 68 [some (zr r0), some (zl l1), none, some (zi x3)] [] [] Q))) :=
  (WP_blk 3 60 66 _ _ h Q).trans rfl
theorem b_60_71 (r0 : Option Nat) (l1 : Int64) (x3 : Int) (sl0 : Int64) (h : Zh) (Q : Zp) : WP 60 71 [some (zr r0), some (zl l1), none, some (zi x3)] [zl sl0] h Q = (Q (.inl (some (zl sl0))) h) :=
  (WP_blk 1 60 71 _ _ h Q).trans rfl
-- 61: Marginalia.requireUser(I)V
theorem b_61_0 (r0 : Option Nat) (x1 : Int) (h : Zh) (Q : Zp) : WP 61 0 [some (zr r0), some (zi x1)] [] h Q = (kd h r0 6 ∧ (inR ((gI h (ad r0) 5) - (1 : Int)) ∧ (WP 67 0 [some (zi x1), some (zi (0 : Int)), some (zi ((gI h (ad r0) 5) - (1 : Int)))] [] h (kont WP 61 8 [some (zr r0), some (zi x1)] [] [] Q)))) :=
  (WP_blk 7 61 0 _ _ h Q).trans rfl
theorem b_61_11 (r0 : Option Nat) (x1 : Int) (s0 : Int) (h : Zh) (Q : Zp) : WP 61 11 [some (zr r0), some (zi x1)] [zi s0] h Q = (br (s0 = 0) (WP 61 14 [some (zr r0), some (zi x1)] [] h Q) (WP 61 24 [some (zr r0), some (zi x1)] [] h Q)) :=
  (WP_blk 1 61 11 _ _ h Q).trans rfl
theorem b_61_14 (r0 : Option Nat) (x1 : Int) (h : Zh) (Q : Zp) : WP 61 14 [some (zr r0), some (zi x1)] [] h Q = (((gC h + 1 ≤ MXC ∧ gS h + 6 ≤ MXS) ∧ Q (.inr 3) (tk h))) :=
  (WP_blk 1 61 14 _ _ h Q).trans rfl
theorem b_61_24 (r0 : Option Nat) (x1 : Int) (h : Zh) (Q : Zp) : WP 61 24 [some (zr r0), some (zi x1)] [] h Q = (Q (.inl none) h) :=
  (WP_blk 1 61 24 _ _ h Q).trans rfl
-- 62: Marginalia.requireSign(I)V
theorem b_62_0 (r0 : Option Nat) (x1 : Int) (h : Zh) (Q : Zp) : WP 62 0 [some (zr r0), some (zi x1)] [] h Q = (kd h r0 6 ∧ (kd h (gR h (ad r0) 1) 5 ∧ (WP 23 0 [some (zr (gR h (ad r0) 1))] [] h (kont WP 62 6 [some (zr r0), some (zi x1)] [zi (0 : Int), zi x1] [] Q)))) :=
  (WP_blk 5 62 0 _ _ h Q).trans rfl
theorem b_62_9 (r0 : Option Nat) (x1 : Int) (s0 : Int) (s1 : Int) (s2 : Int) (h : Zh) (Q : Zp) : WP 62 9 [some (zr r0), some (zi x1)] [zi s0, zi s1, zi s2] h Q = (inR (s0 - (1 : Int)) ∧ (WP 67 0 [some (zi s2), some (zi s1), some (zi (s0 - (1 : Int)))] [] h (kont WP 62 11 [some (zr r0), some (zi x1)] [] [] Q))) :=
  (WP_blk 3 62 9 _ _ h Q).trans rfl
theorem b_62_14 (r0 : Option Nat) (x1 : Int) (s0 : Int) (h : Zh) (Q : Zp) : WP 62 14 [some (zr r0), some (zi x1)] [zi s0] h Q = (br (s0 = 0) (WP 62 17 [some (zr r0), some (zi x1)] [] h Q) (WP 62 28 [some (zr r0), some (zi x1)] [] h Q)) :=
  (WP_blk 1 62 14 _ _ h Q).trans rfl
theorem b_62_17 (r0 : Option Nat) (x1 : Int) (h : Zh) (Q : Zp) : WP 62 17 [some (zr r0), some (zi x1)] [] h Q = (((gC h + 1 ≤ MXC ∧ gS h + 6 ≤ MXS) ∧ Q (.inr 3) (tk h))) :=
  (WP_blk 1 62 17 _ _ h Q).trans rfl
theorem b_62_28 (r0 : Option Nat) (x1 : Int) (h : Zh) (Q : Zp) : WP 62 28 [some (zr r0), some (zi x1)] [] h Q = (Q (.inl none) h) :=
  (WP_blk 1 62 28 _ _ h Q).trans rfl
-- 63: Marginalia.requireNote(I)LMarginalia$Note;
theorem b_63_0 (r0 : Option Nat) (x1 : Int) (h : Zh) (Q : Zp) : WP 63 0 [some (zr r0), some (zi x1), none] [] h Q = (kd h r0 6 ∧ (inR ((gI h (ad r0) 6) - (1 : Int)) ∧ (WP 67 0 [some (zi x1), some (zi (0 : Int)), some (zi ((gI h (ad r0) 6) - (1 : Int)))] [] h (kont WP 63 8 [some (zr r0), some (zi x1), none] [] [] Q)))) :=
  (WP_blk 7 63 0 _ _ h Q).trans rfl
theorem b_63_11 (r0 : Option Nat) (x1 : Int) (s0 : Int) (h : Zh) (Q : Zp) : WP 63 11 [some (zr r0), some (zi x1), none] [zi s0] h Q = (br (s0 = 0) (WP 63 14 [some (zr r0), some (zi x1), none] [] h Q) (WP 63 25 [some (zr r0), some (zi x1), none] [] h Q)) :=
  (WP_blk 1 63 11 _ _ h Q).trans rfl
theorem b_63_14 (r0 : Option Nat) (x1 : Int) (h : Zh) (Q : Zp) : WP 63 14 [some (zr r0), some (zi x1), none] [] h Q = (((gC h + 1 ≤ MXC ∧ gS h + 6 ≤ MXS) ∧ Q (.inr 3) (tk h))) :=
  (WP_blk 1 63 14 _ _ h Q).trans rfl
theorem b_63_25 (r0 : Option Nat) (x1 : Int) (h : Zh) (Q : Zp) : WP 63 25 [some (zr r0), some (zi x1), none] [] h Q = (kd h r0 6 ∧ (ixa h (gR h (ad r0) 2) 13 x1 ∧ (br ((gR h (ad (gR h (ad r0) 2)) x1) = none) (WP 63 43 [some (zr r0), some (zi x1), some (zr (gR h (ad (gR h (ad r0) 2)) x1))] [] h Q) (WP 63 36 [some (zr r0), some (zi x1), some (zr (gR h (ad (gR h (ad r0) 2)) x1))] [] h Q)))) :=
  (WP_blk 7 63 25 _ _ h Q).trans rfl
theorem b_63_36 (r0 : Option Nat) (x1 : Int) (r2 : Option Nat) (h : Zh) (Q : Zp) : WP 63 36 [some (zr r0), some (zi x1), some (zr r2)] [] h Q = (kd h r2 3 ∧ (br ((gI h (ad r2) 9) = 0) (WP 63 54 [some (zr r0), some (zi x1), some (zr r2)] [] h Q) (WP 63 43 [some (zr r0), some (zi x1), some (zr r2)] [] h Q))) :=
  (WP_blk 3 63 36 _ _ h Q).trans rfl
theorem b_63_43 (r0 : Option Nat) (x1 : Int) (r2 : Option Nat) (h : Zh) (Q : Zp) : WP 63 43 [some (zr r0), some (zi x1), some (zr r2)] [] h Q = (((gC h + 1 ≤ MXC ∧ gS h + 6 ≤ MXS) ∧ Q (.inr 3) (tk h))) :=
  (WP_blk 1 63 43 _ _ h Q).trans rfl
theorem b_63_54 (r0 : Option Nat) (x1 : Int) (r2 : Option Nat) (h : Zh) (Q : Zp) : WP 63 54 [some (zr r0), some (zi x1), some (zr r2)] [] h Q = (Q (.inl (some (zr r2))) h) :=
  (WP_blk 2 63 54 _ _ h Q).trans rfl
-- 64: Marginalia.requireIndex(Z)V
theorem b_64_0 (x0 : Int) (h : Zh) (Q : Zp) : WP 64 0 [some (zi x0)] [] h Q = (br (x0 = 0) (WP 64 4 [some (zi x0)] [] h Q) (WP 64 15 [some (zi x0)] [] h Q)) :=
  (WP_blk 2 64 0 _ _ h Q).trans rfl
theorem b_64_4 (x0 : Int) (h : Zh) (Q : Zp) : WP 64 4 [some (zi x0)] [] h Q = (((gC h + 1 ≤ MXC ∧ gS h + 6 ≤ MXS) ∧ Q (.inr 3) (tk h))) :=
  (WP_blk 1 64 4 _ _ h Q).trans rfl
theorem b_64_15 (x0 : Int) (h : Zh) (Q : Zp) : WP 64 15 [some (zi x0)] [] h Q = (Q (.inl none) h) :=
  (WP_blk 1 64 15 _ _ h Q).trans rfl
-- 65: Marginalia.requireArgument(Z)V
theorem b_65_0 (x0 : Int) (h : Zh) (Q : Zp) : WP 65 0 [some (zi x0)] [] h Q = (br (x0 = 0) (WP 65 4 [some (zi x0)] [] h Q) (WP 65 15 [some (zi x0)] [] h Q)) :=
  (WP_blk 2 65 0 _ _ h Q).trans rfl
theorem b_65_4 (x0 : Int) (h : Zh) (Q : Zp) : WP 65 4 [some (zi x0)] [] h Q = (((gC h + 1 ≤ MXC ∧ gS h + 6 ≤ MXS) ∧ Q (.inr 1) (tk h))) :=
  (WP_blk 1 65 4 _ _ h Q).trans rfl
theorem b_65_15 (x0 : Int) (h : Zh) (Q : Zp) : WP 65 15 [some (zi x0)] [] h Q = (Q (.inl none) h) :=
  (WP_blk 1 65 15 _ _ h Q).trans rfl
-- 66: Marginalia.requireState(Z)V
theorem b_66_0 (x0 : Int) (h : Zh) (Q : Zp) : WP 66 0 [some (zi x0)] [] h Q = (br (x0 = 0) (WP 66 4 [some (zi x0)] [] h Q) (WP 66 15 [some (zi x0)] [] h Q)) :=
  (WP_blk 2 66 0 _ _ h Q).trans rfl
theorem b_66_4 (x0 : Int) (h : Zh) (Q : Zp) : WP 66 4 [some (zi x0)] [] h Q = (((gC h + 1 ≤ MXC ∧ gS h + 6 ≤ MXS) ∧ Q (.inr 2) (tk h))) :=
  (WP_blk 1 66 4 _ _ h Q).trans rfl
theorem b_66_15 (x0 : Int) (h : Zh) (Q : Zp) : WP 66 15 [some (zi x0)] [] h Q = (Q (.inl none) h) :=
  (WP_blk 1 66 15 _ _ h Q).trans rfl
-- 67: Marginalia.isWithin(III)Z
theorem b_67_0 (x0 : Int) (x1 : Int) (x2 : Int) (h : Zh) (Q : Zp) : WP 67 0 [some (zi x0), some (zi x1), some (zi x2)] [] h Q = (br (x0 < x1) (WP 67 14 [some (zi x0), some (zi x1), some (zi x2)] [] h Q) (WP 67 5 [some (zi x0), some (zi x1), some (zi x2)] [] h Q)) :=
  (WP_blk 3 67 0 _ _ h Q).trans rfl
theorem b_67_5 (x0 : Int) (x1 : Int) (x2 : Int) (h : Zh) (Q : Zp) : WP 67 5 [some (zi x0), some (zi x1), some (zi x2)] [] h Q = (br (x2 < x0) (WP 67 14 [some (zi x0), some (zi x1), some (zi x2)] [] h Q) (WP 67 10 [some (zi x0), some (zi x1), some (zi x2)] [] h Q)) :=
  (WP_blk 3 67 5 _ _ h Q).trans rfl
theorem b_67_10 (x0 : Int) (x1 : Int) (x2 : Int) (h : Zh) (Q : Zp) : WP 67 10 [some (zi x0), some (zi x1), some (zi x2)] [] h Q = (WP 67 15 [some (zi x0), some (zi x1), some (zi x2)] [zi (1 : Int)] h Q) :=
  (WP_blk 2 67 10 _ _ h Q).trans rfl
theorem b_67_14 (x0 : Int) (x1 : Int) (x2 : Int) (h : Zh) (Q : Zp) : WP 67 14 [some (zi x0), some (zi x1), some (zi x2)] [] h Q = (WP 67 15 [some (zi x0), some (zi x1), some (zi x2)] [zi (0 : Int)] h Q) :=
  (WP_blk 1 67 14 _ _ h Q).trans rfl
theorem b_67_15 (x0 : Int) (x1 : Int) (x2 : Int) (s0 : Int) (h : Zh) (Q : Zp) : WP 67 15 [some (zi x0), some (zi x1), some (zi x2)] [zi s0] h Q = ((s0 = 0 ∨ s0 = 1) ∧ (Q (.inl (some (zi s0))) h)) :=
  (WP_blk 1 67 15 _ _ h Q).trans rfl
-- 68: Marginalia.isRight(I)Z
theorem b_68_0 (x0 : Int) (h : Zh) (Q : Zp) : WP 68 0 [some (zi x0)] [] h Q = (WP 67 0 [some (zi x0), some (zi (0 : Int)), some (zi (4 : Int))] [] h (kont WP 68 3 [some (zi x0)] [] [] Q)) :=
  (WP_blk 4 68 0 _ _ h Q).trans rfl
theorem b_68_6 (x0 : Int) (s0 : Int) (h : Zh) (Q : Zp) : WP 68 6 [some (zi x0)] [zi s0] h Q = ((s0 = 0 ∨ s0 = 1) ∧ (Q (.inl (some (zi s0))) h)) :=
  (WP_blk 1 68 6 _ _ h Q).trans rfl
-- 69: Marginalia.isContent(I)Z
theorem b_69_0 (x0 : Int) (h : Zh) (Q : Zp) : WP 69 0 [some (zi x0)] [] h Q = (WP 67 0 [some (zi x0), some (zi (0 : Int)), some (zi (999 : Int))] [] h (kont WP 69 5 [some (zi x0)] [] [] Q)) :=
  (WP_blk 4 69 0 _ _ h Q).trans rfl
theorem b_69_8 (x0 : Int) (s0 : Int) (h : Zh) (Q : Zp) : WP 69 8 [some (zi x0)] [zi s0] h Q = ((s0 = 0 ∨ s0 = 1) ∧ (Q (.inl (some (zi s0))) h)) :=
  (WP_blk 1 69 8 _ _ h Q).trans rfl
-- 70: Marginalia.putSigns(III)V
theorem b_70_0 (r0 : Option Nat) (x1 : Int) (x2 : Int) (x3 : Int) (h : Zh) (Q : Zp) : WP 70 0 [some (zr r0), some (zi x1), some (zi x2), some (zi x3), none] [] h Q = (kd h r0 6 ∧ (kd h (gR h (ad r0) 1) 5 ∧ (WP 30 0 [some (zr (gR h (ad r0) 1)), some (zi x1), some (zi (0 : Int)), some (zi x2), some (zi x3), none, none, none] [] h (kont WP 70 8 [some (zr r0), some (zi x1), some (zi x2), some (zi x3), none] [] [] Q)))) :=
  (WP_blk 7 70 0 _ _ h Q).trans rfl
theorem b_70_11 (r0 : Option Nat) (x1 : Int) (x2 : Int) (x3 : Int) (h : Zh) (Q : Zp) : WP 70 11 [some (zr r0), some (zi x1), some (zi x2), some (zi x3), none] [] h Q = (WP 70 14 [some (zr r0), some (zi x1), some (zi x2), some (zi x3), some (zi (0 : Int))] [] h Q) :=
  (WP_blk 2 70 11 _ _ h Q).trans rfl
theorem b_70_14 (r0 : Option Nat) (x1 : Int) (x2 : Int) (x3 : Int) (x4 : Int) (h : Zh) (Q : Zp) : WP 70 14 [some (zr r0), some (zi x1), some (zi x2), some (zi x3), some (zi x4)] [] h Q = (kd h r0 6 ∧ (br ((gI h (ad r0) 6) ≤ x4) (WP 70 60 [some (zr r0), some (zi x1), some (zi x2), some (zi x3), some (zi x4)] [] h Q) (WP 70 23 [some (zr r0), some (zi x1), some (zi x2), some (zi x3), some (zi x4)] [] h Q))) :=
  (WP_blk 4 70 14 _ _ h Q).trans rfl
theorem b_70_23 (r0 : Option Nat) (x1 : Int) (x2 : Int) (x3 : Int) (x4 : Int) (h : Zh) (Q : Zp) : WP 70 23 [some (zr r0), some (zi x1), some (zi x2), some (zi x3), some (zi x4)] [] h Q = (kd h r0 6 ∧ (ixa h (gR h (ad r0) 2) 13 x4 ∧ (kd h (gR h (ad (gR h (ad r0) 2)) x4) 3 ∧ (WP 13 0 [some (zr (gR h (ad (gR h (ad r0) 2)) x4))] [] h (kont WP 70 30 [some (zr r0), some (zi x1), some (zi x2), some (zi x3), some (zi x4)] [] [] Q))))) :=
  (WP_blk 5 70 23 _ _ h Q).trans rfl
theorem b_70_33 (r0 : Option Nat) (x1 : Int) (x2 : Int) (x3 : Int) (x4 : Int) (s0 : Int) (h : Zh) (Q : Zp) : WP 70 33 [some (zr r0), some (zi x1), some (zi x2), some (zi x3), some (zi x4)] [zi s0] h Q = (br (s0 = 0) (WP 70 54 [some (zr r0), some (zi x1), some (zi x2), some (zi x3), some (zi x4)] [] h Q) (WP 70 36 [some (zr r0), some (zi x1), some (zi x2), some (zi x3), some (zi x4)] [] h Q)) :=
  (WP_blk 1 70 33 _ _ h Q).trans rfl
theorem b_70_36 (r0 : Option Nat) (x1 : Int) (x2 : Int) (x3 : Int) (x4 : Int) (h : Zh) (Q : Zp) : WP 70 36 [some (zr r0), some (zi x1), some (zi x2), some (zi x3), some (zi x4)] [] h Q = (kd h r0 6 ∧ (ixa h (gR h (ad r0) 2) 13 x4 ∧ (kd h (gR h (ad (gR h (ad r0) 2)) x4) 3 ∧ (kd h (gR h (ad (gR h (ad (gR h (ad r0) 2)) x4)) 5) 4 ∧ (kd h (gR h (ad (gR h (ad (gR h (ad (gR h (ad r0) 2)) x4)) 5)) 3) 1 ∧ (WP 7 0 [some (zr (gR h (ad (gR h (ad (gR h (ad (gR h (ad r0) 2)) x4)) 5)) 3)), some (zi x1), some (zi x2)] [] h (kont WP 70 51 [some (zr r0), some (zi x1), some (zi x2), some (zi x3), some (zi x4)] [] [] Q))))))) :=
  (WP_blk 9 70 36 _ _ h Q).trans rfl
theorem b_70_54 (r0 : Option Nat) (x1 : Int) (x2 : Int) (x3 : Int) (x4 : Int) (h : Zh) (Q : Zp) : WP 70 54 [some (zr r0), some (zi x1), some (zi x2), some (zi x3), some (zi x4)] [] h Q = (inR (x4 + 1) ∧ (WP 70 14 [some (zr r0), some (zi x1), some (zi x2), some (zi x3), some (zi (x4 + 1))] [] h Q)) :=
  (WP_blk 2 70 54 _ _ h Q).trans rfl
theorem b_70_60 (r0 : Option Nat) (x1 : Int) (x2 : Int) (x3 : Int) (x4 : Int) (h : Zh) (Q : Zp) : WP 70 60 [some (zr r0), some (zi x1), some (zi x2), some (zi x3), some (zi x4)] [] h Q = (Q (.inl none) h) :=
  (WP_blk 1 70 60 _ _ h Q).trans rfl
-- 71: Marginalia.cutSigns(II)V
theorem b_71_0 (r0 : Option Nat) (x1 : Int) (x2 : Int) (h : Zh) (Q : Zp) : WP 71 0 [some (zr r0), some (zi x1), some (zi x2), none] [] h Q = (kd h r0 6 ∧ (kd h (gR h (ad r0) 1) 5 ∧ (WP 30 0 [some (zr (gR h (ad r0) 1)), some (zi x1), some (zi x2), some (zi (0 : Int)), some (zi (0 : Int)), none, none, none] [] h (kont WP 71 8 [some (zr r0), some (zi x1), some (zi x2), none] [] [] Q)))) :=
  (WP_blk 7 71 0 _ _ h Q).trans rfl
theorem b_71_11 (r0 : Option Nat) (x1 : Int) (x2 : Int) (h : Zh) (Q : Zp) : WP 71 11 [some (zr r0), some (zi x1), some (zi x2), none] [] h Q = (WP 71 13 [some (zr r0), some (zi x1), some (zi x2), some (zi (0 : Int))] [] h Q) :=
  (WP_blk 2 71 11 _ _ h Q).trans rfl
theorem b_71_13 (r0 : Option Nat) (x1 : Int) (x2 : Int) (x3 : Int) (h : Zh) (Q : Zp) : WP 71 13 [some (zr r0), some (zi x1), some (zi x2), some (zi x3)] [] h Q = (kd h r0 6 ∧ (br ((gI h (ad r0) 6) ≤ x3) (WP 71 58 [some (zr r0), some (zi x1), some (zi x2), some (zi x3)] [] h Q) (WP 71 21 [some (zr r0), some (zi x1), some (zi x2), some (zi x3)] [] h Q))) :=
  (WP_blk 4 71 13 _ _ h Q).trans rfl
theorem b_71_21 (r0 : Option Nat) (x1 : Int) (x2 : Int) (x3 : Int) (h : Zh) (Q : Zp) : WP 71 21 [some (zr r0), some (zi x1), some (zi x2), some (zi x3)] [] h Q = (kd h r0 6 ∧ (ixa h (gR h (ad r0) 2) 13 x3 ∧ (kd h (gR h (ad (gR h (ad r0) 2)) x3) 3 ∧ (WP 13 0 [some (zr (gR h (ad (gR h (ad r0) 2)) x3))] [] h (kont WP 71 27 [some (zr r0), some (zi x1), some (zi x2), some (zi x3)] [] [] Q))))) :=
  (WP_blk 5 71 21 _ _ h Q).trans rfl
theorem b_71_30 (r0 : Option Nat) (x1 : Int) (x2 : Int) (x3 : Int) (s0 : Int) (h : Zh) (Q : Zp) : WP 71 30 [some (zr r0), some (zi x1), some (zi x2), some (zi x3)] [zi s0] h Q = (br (s0 = 0) (WP 71 52 [some (zr r0), some (zi x1), some (zi x2), some (zi x3)] [] h Q) (WP 71 33 [some (zr r0), some (zi x1), some (zi x2), some (zi x3)] [] h Q)) :=
  (WP_blk 1 71 30 _ _ h Q).trans rfl
theorem b_71_33 (r0 : Option Nat) (x1 : Int) (x2 : Int) (x3 : Int) (h : Zh) (Q : Zp) : WP 71 33 [some (zr r0), some (zi x1), some (zi x2), some (zi x3)] [] h Q = (kd h r0 6 ∧ (ixa h (gR h (ad r0) 2) 13 x3 ∧ (kd h (gR h (ad (gR h (ad r0) 2)) x3) 3 ∧ (kd h (gR h (ad (gR h (ad (gR h (ad r0) 2)) x3)) 5) 4 ∧ (inR (x1 + x2) ∧ (kd h (gR h (ad (gR h (ad (gR h (ad (gR h (ad r0) 2)) x3)) 5)) 3) 1 ∧ (WP 8 0 [some (zr (gR h (ad (gR h (ad (gR h (ad (gR h (ad r0) 2)) x3)) 5)) 3)), some (zi x1), some (zi (x1 + x2))] [] h (kont WP 71 49 [some (zr r0), some (zi x1), some (zi x2), some (zi x3)] [] [] Q)))))))) :=
  (WP_blk 11 71 33 _ _ h Q).trans rfl
theorem b_71_52 (r0 : Option Nat) (x1 : Int) (x2 : Int) (x3 : Int) (h : Zh) (Q : Zp) : WP 71 52 [some (zr r0), some (zi x1), some (zi x2), some (zi x3)] [] h Q = (inR (x3 + 1) ∧ (WP 71 13 [some (zr r0), some (zi x1), some (zi x2), some (zi (x3 + 1))] [] h Q)) :=
  (WP_blk 2 71 52 _ _ h Q).trans rfl
theorem b_71_58 (r0 : Option Nat) (x1 : Int) (x2 : Int) (x3 : Int) (h : Zh) (Q : Zp) : WP 71 58 [some (zr r0), some (zi x1), some (zi x2), some (zi x3)] [] h Q = (Q (.inl none) h) :=
  (WP_blk 1 71 58 _ _ h Q).trans rfl
-- 72: Marginalia.canTake(LMarginalia$Strand;)Z
theorem b_72_0 (r0 : Option Nat) (r1 : Option Nat) (h : Zh) (Q : Zp) : WP 72 0 [some (zr r0), some (zr r1), none] [] h Q = (kd h r1 4 ∧ (br ((gI h (ad r1) 6) = 0) (WP 72 7 [some (zr r0), some (zr r1), none] [] h Q) (WP 72 11 [some (zr r0), some (zr r1), none] [] h Q))) :=
  (WP_blk 3 72 0 _ _ h Q).trans rfl
theorem b_72_7 (r0 : Option Nat) (r1 : Option Nat) (h : Zh) (Q : Zp) : WP 72 7 [some (zr r0), some (zr r1), none] [] h Q = (WP 72 12 [some (zr r0), some (zr r1), none] [zi (1 : Int)] h Q) :=
  (WP_blk 2 72 7 _ _ h Q).trans rfl
theorem b_72_11 (r0 : Option Nat) (r1 : Option Nat) (h : Zh) (Q : Zp) : WP 72 11 [some (zr r0), some (zr r1), none] [] h Q = (WP 72 12 [some (zr r0), some (zr r1), none] [zi (2 : Int)] h Q) :=
  (WP_blk 1 72 11 _ _ h Q).trans rfl
theorem b_72_12 (r0 : Option Nat) (r1 : Option Nat) (s0 : Int) (h : Zh) (Q : Zp) : WP 72 12 [some (zr r0), some (zr r1), none] [zi s0] h Q = (kd h r1 4 ∧ (br ((gI h (ad r1) 6) = (-1 : Int)) (WP 72 58 [some (zr r0), some (zr r1), some (zi s0)] [] h Q) (WP 72 21 [some (zr r0), some (zr r1), some (zi s0)] [] h Q))) :=
  (WP_blk 5 72 12 _ _ h Q).trans rfl
theorem b_72_21 (r0 : Option Nat) (r1 : Option Nat) (x2 : Int) (h : Zh) (Q : Zp) : WP 72 21 [some (zr r0), some (zr r1), some (zi x2)] [] h Q = (kd h r1 4 ∧ (kd h (gR h (ad r1) 3) 1 ∧ (WP 3 0 [some (zr (gR h (ad r1) 3))] [] h (kont WP 72 25 [some (zr r0), some (zr r1), some (zi x2)] [] [] Q)))) :=
  (WP_blk 3 72 21 _ _ h Q).trans rfl
theorem b_72_28 (r0 : Option Nat) (r1 : Option Nat) (x2 : Int) (s0 : Int) (h : Zh) (Q : Zp) : WP 72 28 [some (zr r0), some (zr r1), some (zi x2)] [zi s0] h Q = (br (s0 = 0) (WP 72 31 [some (zr r0), some (zr r1), some (zi x2)] [] h Q) (WP 72 58 [some (zr r0), some (zr r1), some (zi x2)] [] h Q)) :=
  (WP_blk 1 72 28 _ _ h Q).trans rfl
theorem b_72_31 (r0 : Option Nat) (r1 : Option Nat) (x2 : Int) (h : Zh) (Q : Zp) : WP 72 31 [some (zr r0), some (zr r1), some (zi x2)] [] h Q = (kd h r0 6 ∧ (kd h r1 4 ∧ (kd h r1 4 ∧ (kd h (gR h (ad r1) 3) 1 ∧ (WP 2 0 [some (zr (gR h (ad r1) 3))] [] h (kont WP 72 43 [some (zr r0), some (zr r1), some (zi x2)] [zi (gI h (ad r1) 6), zr (gR h (ad r0) 1)] [] Q)))))) :=
  (WP_blk 7 72 31 _ _ h Q).trans rfl
theorem b_72_46 (r0 : Option Nat) (r1 : Option Nat) (x2 : Int) (s0 : Int) (s1 : Int) (sr2 : Option Nat) (h : Zh) (Q : Zp) : WP 72 46 [some (zr r0), some (zr r1), some (zi x2)] [zi s0, zi s1, zr sr2] h Q = (inR (s1 - s0) ∧ (kd h sr2 5 ∧ (WP 24 0 [some (zr sr2), some (zi (s1 - s0)), some (zi x2)] [] h (kont WP 72 48 [some (zr r0), some (zr r1), some (zi x2)] [] [] Q)))) :=
  (WP_blk 3 72 46 _ _ h Q).trans rfl
theorem b_72_51 (r0 : Option Nat) (r1 : Option Nat) (x2 : Int) (s0 : Int) (h : Zh) (Q : Zp) : WP 72 51 [some (zr r0), some (zr r1), some (zi x2)] [zi s0] h Q = (br (s0 = 0) (WP 72 58 [some (zr r0), some (zr r1), some (zi x2)] [] h Q) (WP 72 54 [some (zr r0), some (zr r1), some (zi x2)] [] h Q)) :=
  (WP_blk 1 72 51 _ _ h Q).trans rfl
theorem b_72_54 (r0 : Option Nat) (r1 : Option Nat) (x2 : Int) (h : Zh) (Q : Zp) : WP 72 54 [some (zr r0), some (zr r1), some (zi x2)] [] h Q = (WP 72 59 [some (zr r0), some (zr r1), some (zi x2)] [zi (1 : Int)] h Q) :=
  (WP_blk 2 72 54 _ _ h Q).trans rfl
theorem b_72_58 (r0 : Option Nat) (r1 : Option Nat) (x2 : Int) (h : Zh) (Q : Zp) : WP 72 58 [some (zr r0), some (zr r1), some (zi x2)] [] h Q = (WP 72 59 [some (zr r0), some (zr r1), some (zi x2)] [zi (0 : Int)] h Q) :=
  (WP_blk 1 72 58 _ _ h Q).trans rfl
theorem b_72_59 (r0 : Option Nat) (r1 : Option Nat) (x2 : Int) (s0 : Int) (h : Zh) (Q : Zp) : WP 72 59 [some (zr r0), some (zr r1), some (zi x2)] [zi s0] h Q = ((s0 = 0 ∨ s0 = 1) ∧ (Q (.inl (some (zi s0))) h)) :=
  (WP_blk 1 72 59 _ _ h Q).trans rfl
-- 73: Marginalia.putProposal(LMarginalia$Strand;)V
theorem b_73_0 (r0 : Option Nat) (r1 : Option Nat) (h : Zh) (Q : Zp) : WP 73 0 [some (zr r0), some (zr r1), none, none, none] [] h Q = (kd h r1 4 ∧ (kd h (gR h (ad r1) 3) 1 ∧ (kd h r1 4 ∧ (kd h (gR h (ad r1) 3) 1 ∧ (WP 2 0 [some (zr (gR h (ad r1) 3))] [] h (kont WP 73 19 [some (zr r0), some (zr r1), some (zr (gR h (ad r1) 3)), some (zi (gI h (ad (gR h (ad r1) 3)) 0)), some (zi (gI h (ad r1) 6))] [zi (gI h (ad (gR h (ad r1) 3)) 0), zr r0] [] Q)))))) :=
  (WP_blk 13 73 0 _ _ h Q).trans rfl
theorem b_73_22 (r0 : Option Nat) (r1 : Option Nat) (r2 : Option Nat) (x3 : Int) (x4 : Int) (s0 : Int) (s1 : Int) (sr2 : Option Nat) (h : Zh) (Q : Zp) : WP 73 22 [some (zr r0), some (zr r1), some (zr r2), some (zi x3), some (zi x4)] [zi s0, zi s1, zr sr2] h Q = (kd h sr2 6 ∧ (WP 71 0 [some (zr sr2), some (zi s1), some (zi s0), none] [] h (kont WP 73 22 [some (zr r0), some (zr r1), some (zr r2), some (zi x3), some (zi x4)] [] [] Q))) :=
  (WP_blk 1 73 22 _ _ h Q).trans rfl
theorem b_73_25 (r0 : Option Nat) (r1 : Option Nat) (r2 : Option Nat) (x3 : Int) (x4 : Int) (h : Zh) (Q : Zp) : WP 73 25 [some (zr r0), some (zr r1), some (zr r2), some (zi x3), some (zi x4)] [] h Q = (br (x4 ≤ 0) (WP 73 41 [some (zr r0), some (zr r1), some (zr r2), some (zi x3), some (zi x4)] [] h Q) (WP 73 30 [some (zr r0), some (zr r1), some (zr r2), some (zi x3), some (zi x4)] [] h Q)) :=
  (WP_blk 2 73 25 _ _ h Q).trans rfl
theorem b_73_30 (r0 : Option Nat) (r1 : Option Nat) (r2 : Option Nat) (x3 : Int) (x4 : Int) (h : Zh) (Q : Zp) : WP 73 30 [some (zr r0), some (zr r1), some (zr r2), some (zi x3), some (zi x4)] [] h Q = (kd h r1 4 ∧ (kd h r0 6 ∧ (WP 70 0 [some (zr r0), some (zi x3), some (zi x4), some (zi (gI h (ad r1) 7)), none] [] h (kont WP 73 38 [some (zr r0), some (zr r1), some (zr r2), some (zi x3), some (zi x4)] [] [] Q)))) :=
  (WP_blk 6 73 30 _ _ h Q).trans rfl
theorem b_73_41 (r0 : Option Nat) (r1 : Option Nat) (r2 : Option Nat) (x3 : Int) (x4 : Int) (h : Zh) (Q : Zp) : WP 73 41 [some (zr r0), some (zr r1), some (zr r2), some (zi x3), some (zi x4)] [] h Q = (inR (x3 + x4) ∧ (kd h r2 1 ∧ (WP 1 0 [some (zr r2), some (zi x3), some (zi (x3 + x4))] [] h (kont WP 73 47 [some (zr r0), some (zr r1), some (zr r2), some (zi x3), some (zi x4)] [] [] Q)))) :=
  (WP_blk 6 73 41 _ _ h Q).trans rfl
theorem b_73_50 (r0 : Option Nat) (r1 : Option Nat) (r2 : Option Nat) (x3 : Int) (x4 : Int) (h : Zh) (Q : Zp) : WP 73 50 [some (zr r0), some (zr r1), some (zr r2), some (zi x3), some (zi x4)] [] h Q = ((kd h r1 4 ∧ ((1 : Int) = 0 ∨ (1 : Int) = 1)) ∧ (WP 73 55 [some (zr r0), some (zr r1), some (zr r2), some (zi x3), some (zi x4)] [] (pI h (ad r1) 5 (1 : Int)) Q)) :=
  (WP_blk 3 73 50 _ _ h Q).trans rfl
theorem b_73_55 (r0 : Option Nat) (r1 : Option Nat) (r2 : Option Nat) (x3 : Int) (x4 : Int) (h : Zh) (Q : Zp) : WP 73 55 [some (zr r0), some (zr r1), some (zr r2), some (zi x3), some (zi x4)] [] h Q = (kd h r1 4 ∧ (WP 73 60 [some (zr r0), some (zr r1), some (zr r2), some (zi x3), some (zi x4)] [] (pI h (ad r1) 6 (-1 : Int)) Q)) :=
  (WP_blk 3 73 55 _ _ h Q).trans rfl
theorem b_73_60 (r0 : Option Nat) (r1 : Option Nat) (r2 : Option Nat) (x3 : Int) (x4 : Int) (h : Zh) (Q : Zp) : WP 73 60 [some (zr r0), some (zr r1), some (zr r2), some (zi x3), some (zi x4)] [] h Q = (Q (.inl none) h) :=
  (WP_blk 1 73 60 _ _ h Q).trans rfl
-- 74: Marginalia.quoteOf(II)[I
theorem b_74_0 (r0 : Option Nat) (x1 : Int) (x2 : Int) (h : Zh) (Q : Zp) : WP 74 0 [some (zr r0), some (zi x1), some (zi x2), none, none] [] h Q = (inR (x2 - x1) ∧ (((0 ≤ (if (12 : Int) < (x2 - x1) then (12 : Int) else (x2 - x1)) ∧ (if (12 : Int) < (x2 - x1) then (12 : Int) else (x2 - x1)) ≤ 1000000 ∧ gC h + 1 ≤ MXC ∧ gS h + Int.toNat (if (12 : Int) < (x2 - x1) then (12 : Int) else (x2 - x1)) ≤ MXS) ∧ ∀ a, gK h a = 0 → WP 74 10 [some (zr r0), some (zi x1), some (zi x2), none, none] [zr (some a)] (nw h a 10 (if (12 : Int) < (x2 - x1) then (12 : Int) else (x2 - x1))) Q))) :=
  (WP_blk 6 74 0 _ _ h Q).trans rfl
theorem b_74_10 (r0 : Option Nat) (x1 : Int) (x2 : Int) (sr0 : Option Nat) (h : Zh) (Q : Zp) : WP 74 10 [some (zr r0), some (zi x1), some (zi x2), none, none] [zr sr0] h Q = (WP 74 14 [some (zr r0), some (zi x1), some (zi x2), some (zr sr0), some (zi (0 : Int))] [] h Q) :=
  (WP_blk 3 74 10 _ _ h Q).trans rfl
theorem b_74_14 (r0 : Option Nat) (x1 : Int) (x2 : Int) (r3 : Option Nat) (x4 : Int) (h : Zh) (Q : Zp) : WP 74 14 [some (zr r0), some (zi x1), some (zi x2), some (zr r3), some (zi x4)] [] h Q = (kd h r3 10 ∧ (br ((gL h (ad r3)) ≤ x4) (WP 74 49 [some (zr r0), some (zi x1), some (zi x2), some (zr r3), some (zi x4)] [] h Q) (WP 74 21 [some (zr r0), some (zi x1), some (zi x2), some (zr r3), some (zi x4)] [] h Q))) :=
  (WP_blk 4 74 14 _ _ h Q).trans rfl
theorem b_74_21 (r0 : Option Nat) (x1 : Int) (x2 : Int) (r3 : Option Nat) (x4 : Int) (h : Zh) (Q : Zp) : WP 74 21 [some (zr r0), some (zi x1), some (zi x2), some (zr r3), some (zi x4)] [] h Q = (kd h r0 6 ∧ (kd h r0 6 ∧ (kd h (gR h (ad r0) 1) 5 ∧ (inR (x1 + x4) ∧ (kd h (gR h (ad r0) 1) 5 ∧ (WP 27 0 [some (zr (gR h (ad r0) 1)), some (zi (gI h (ad (gR h (ad r0) 1)) 4)), some (zi (x1 + x4))] [] h (kont WP 74 39 [some (zr r0), some (zi x1), some (zi x2), some (zr r3), some (zi x4)] [zi x4, zr r3] [] Q))))))) :=
  (WP_blk 11 74 21 _ _ h Q).trans rfl
theorem b_74_42 (r0 : Option Nat) (x1 : Int) (x2 : Int) (r3 : Option Nat) (x4 : Int) (s0 : Int) (s1 : Int) (sr2 : Option Nat) (h : Zh) (Q : Zp) : WP 74 42 [some (zr r0), some (zi x1), some (zi x2), some (zr r3), some (zi x4)] [zi s0, zi s1, zr sr2] h Q = (ixa h sr2 10 s1 ∧ (WP 74 43 [some (zr r0), some (zi x1), some (zi x2), some (zr r3), some (zi x4)] [] (pI h (ad sr2) s1 s0) Q)) :=
  (WP_blk 1 74 42 _ _ h Q).trans rfl
theorem b_74_43 (r0 : Option Nat) (x1 : Int) (x2 : Int) (r3 : Option Nat) (x4 : Int) (h : Zh) (Q : Zp) : WP 74 43 [some (zr r0), some (zi x1), some (zi x2), some (zr r3), some (zi x4)] [] h Q = (inR (x4 + 1) ∧ (WP 74 14 [some (zr r0), some (zi x1), some (zi x2), some (zr r3), some (zi (x4 + 1))] [] h Q)) :=
  (WP_blk 2 74 43 _ _ h Q).trans rfl
theorem b_74_49 (r0 : Option Nat) (x1 : Int) (x2 : Int) (r3 : Option Nat) (x4 : Int) (h : Zh) (Q : Zp) : WP 74 49 [some (zr r0), some (zi x1), some (zi x2), some (zr r3), some (zi x4)] [] h Q = (Q (.inl (some (zr r3))) h) :=
  (WP_blk 2 74 49 _ _ h Q).trans rfl
-- 75: Marginalia.healAnchor(LMarginalia$Strand;)Z
theorem b_75_0 (r0 : Option Nat) (r1 : Option Nat) (h : Zh) (Q : Zp) : WP 75 0 [some (zr r0), some (zr r1), none] [] h Q = (kd h r1 4 ∧ (kd h (gR h (ad r1) 3) 1 ∧ (WP 3 0 [some (zr (gR h (ad r1) 3))] [] h (kont WP 75 4 [some (zr r0), some (zr r1), none] [] [] Q)))) :=
  (WP_blk 3 75 0 _ _ h Q).trans rfl
theorem b_75_7 (r0 : Option Nat) (r1 : Option Nat) (s0 : Int) (h : Zh) (Q : Zp) : WP 75 7 [some (zr r0), some (zr r1), none] [zi s0] h Q = (br (s0 = 0) (WP 75 10 [some (zr r0), some (zr r1), none] [] h Q) (WP 75 12 [some (zr r0), some (zr r1), none] [] h Q)) :=
  (WP_blk 1 75 7 _ _ h Q).trans rfl
theorem b_75_10 (r0 : Option Nat) (r1 : Option Nat) (h : Zh) (Q : Zp) : WP 75 10 [some (zr r0), some (zr r1), none] [] h Q = (((0 : Int) = 0 ∨ (0 : Int) = 1) ∧ (Q (.inl (some (zi (0 : Int)))) h)) :=
  (WP_blk 2 75 10 _ _ h Q).trans rfl
theorem b_75_12 (r0 : Option Nat) (r1 : Option Nat) (h : Zh) (Q : Zp) : WP 75 12 [some (zr r0), some (zr r1), none] [] h Q = (kd h r0 6 ∧ (WP 76 0 [some (zr r0), some (zr r1), none, none] [] h (kont WP 75 14 [some (zr r0), some (zr r1), none] [] [] Q))) :=
  (WP_blk 3 75 12 _ _ h Q).trans rfl
theorem b_75_17 (r0 : Option Nat) (r1 : Option Nat) (s0 : Int) (h : Zh) (Q : Zp) : WP 75 17 [some (zr r0), some (zr r1), none] [zi s0] h Q = (br (s0 = (-1 : Int)) (WP 75 23 [some (zr r0), some (zr r1), some (zi s0)] [] h Q) (WP 75 25 [some (zr r0), some (zr r1), some (zi s0)] [] h Q)) :=
  (WP_blk 4 75 17 _ _ h Q).trans rfl
theorem b_75_23 (r0 : Option Nat) (r1 : Option Nat) (x2 : Int) (h : Zh) (Q : Zp) : WP 75 23 [some (zr r0), some (zr r1), some (zi x2)] [] h Q = (((0 : Int) = 0 ∨ (0 : Int) = 1) ∧ (Q (.inl (some (zi (0 : Int)))) h)) :=
  (WP_blk 2 75 23 _ _ h Q).trans rfl
theorem b_75_25 (r0 : Option Nat) (r1 : Option Nat) (x2 : Int) (h : Zh) (Q : Zp) : WP 75 25 [some (zr r0), some (zr r1), some (zi x2)] [] h Q = (kd h r1 4 ∧ (kd h r1 4 ∧ (kd h (gR h (ad r1) 4) 10 ∧ (inR (x2 + (gL h (ad (gR h (ad r1) 4)))) ∧ (kd h (gR h (ad r1) 3) 1 ∧ (WP 1 0 [some (zr (gR h (ad r1) 3)), some (zi x2), some (zi (x2 + (gL h (ad (gR h (ad r1) 4)))))] [] h (kont WP 75 37 [some (zr r0), some (zr r1), some (zi x2)] [] [] Q))))))) :=
  (WP_blk 9 75 25 _ _ h Q).trans rfl
theorem b_75_40 (r0 : Option Nat) (r1 : Option Nat) (x2 : Int) (h : Zh) (Q : Zp) : WP 75 40 [some (zr r0), some (zr r1), some (zi x2)] [] h Q = (((1 : Int) = 0 ∨ (1 : Int) = 1) ∧ (Q (.inl (some (zi (1 : Int)))) h)) :=
  (WP_blk 2 75 40 _ _ h Q).trans rfl
-- 76: Marginalia.placeOfQuote(LMarginalia$Strand;)I
theorem b_76_0 (r0 : Option Nat) (r1 : Option Nat) (h : Zh) (Q : Zp) : WP 76 0 [some (zr r0), some (zr r1), none, none] [] h Q = (kd h r1 4 ∧ (kd h (gR h (ad r1) 3) 1 ∧ (WP 76 10 [some (zr r0), some (zr r1), some (zi (gI h (ad (gR h (ad r1) 3)) 0)), some (zi (0 : Int))] [] h Q))) :=
  (WP_blk 6 76 0 _ _ h Q).trans rfl
theorem b_76_10 (r0 : Option Nat) (r1 : Option Nat) (x2 : Int) (x3 : Int) (h : Zh) (Q : Zp) : WP 76 10 [some (zr r0), some (zr r1), some (zi x2), some (zi x3)] [] h Q = (br ((200 : Int) < x3) (WP 76 65 [some (zr r0), some (zr r1), some (zi x2), some (zi x3)] [] h Q) (WP 76 17 [some (zr r0), some (zr r1), some (zi x2), some (zi x3)] [] h Q)) :=
  (WP_blk 3 76 10 _ _ h Q).trans rfl
theorem b_76_17 (r0 : Option Nat) (r1 : Option Nat) (x2 : Int) (x3 : Int) (h : Zh) (Q : Zp) : WP 76 17 [some (zr r0), some (zr r1), some (zi x2), some (zi x3)] [] h Q = (kd h r0 6 ∧ (inR (x2 - x3) ∧ (kd h r1 4 ∧ (kd h (gR h (ad r0) 1) 5 ∧ (WP 29 0 [some (zr (gR h (ad r0) 1)), some (zi (x2 - x3)), some (zr (gR h (ad r1) 4)), none] [] h (kont WP 76 28 [some (zr r0), some (zr r1), some (zi x2), some (zi x3)] [] [] Q)))))) :=
  (WP_blk 8 76 17 _ _ h Q).trans rfl
theorem b_76_31 (r0 : Option Nat) (r1 : Option Nat) (x2 : Int) (x3 : Int) (s0 : Int) (h : Zh) (Q : Zp) : WP 76 31 [some (zr r0), some (zr r1), some (zi x2), some (zi x3)] [zi s0] h Q = (br (s0 = 0) (WP 76 38 [some (zr r0), some (zr r1), some (zi x2), some (zi x3)] [] h Q) (WP 76 34 [some (zr r0), some (zr r1), some (zi x2), some (zi x3)] [] h Q)) :=
  (WP_blk 1 76 31 _ _ h Q).trans rfl
theorem b_76_34 (r0 : Option Nat) (r1 : Option Nat) (x2 : Int) (x3 : Int) (h : Zh) (Q : Zp) : WP 76 34 [some (zr r0), some (zr r1), some (zi x2), some (zi x3)] [] h Q = (inR (x2 - x3) ∧ (Q (.inl (some (zi (x2 - x3)))) h)) :=
  (WP_blk 4 76 34 _ _ h Q).trans rfl
theorem b_76_38 (r0 : Option Nat) (r1 : Option Nat) (x2 : Int) (x3 : Int) (h : Zh) (Q : Zp) : WP 76 38 [some (zr r0), some (zr r1), some (zi x2), some (zi x3)] [] h Q = (kd h r0 6 ∧ (inR (x2 + x3) ∧ (kd h r1 4 ∧ (kd h (gR h (ad r0) 1) 5 ∧ (WP 29 0 [some (zr (gR h (ad r0) 1)), some (zi (x2 + x3)), some (zr (gR h (ad r1) 4)), none] [] h (kont WP 76 49 [some (zr r0), some (zr r1), some (zi x2), some (zi x3)] [] [] Q)))))) :=
  (WP_blk 8 76 38 _ _ h Q).trans rfl
theorem b_76_52 (r0 : Option Nat) (r1 : Option Nat) (x2 : Int) (x3 : Int) (s0 : Int) (h : Zh) (Q : Zp) : WP 76 52 [some (zr r0), some (zr r1), some (zi x2), some (zi x3)] [zi s0] h Q = (br (s0 = 0) (WP 76 59 [some (zr r0), some (zr r1), some (zi x2), some (zi x3)] [] h Q) (WP 76 55 [some (zr r0), some (zr r1), some (zi x2), some (zi x3)] [] h Q)) :=
  (WP_blk 1 76 52 _ _ h Q).trans rfl
theorem b_76_55 (r0 : Option Nat) (r1 : Option Nat) (x2 : Int) (x3 : Int) (h : Zh) (Q : Zp) : WP 76 55 [some (zr r0), some (zr r1), some (zi x2), some (zi x3)] [] h Q = (inR (x2 + x3) ∧ (Q (.inl (some (zi (x2 + x3)))) h)) :=
  (WP_blk 4 76 55 _ _ h Q).trans rfl
theorem b_76_59 (r0 : Option Nat) (r1 : Option Nat) (x2 : Int) (x3 : Int) (h : Zh) (Q : Zp) : WP 76 59 [some (zr r0), some (zr r1), some (zi x2), some (zi x3)] [] h Q = (inR (x3 + 1) ∧ (WP 76 10 [some (zr r0), some (zr r1), some (zi x2), some (zi (x3 + 1))] [] h Q)) :=
  (WP_blk 2 76 59 _ _ h Q).trans rfl
theorem b_76_65 (r0 : Option Nat) (r1 : Option Nat) (x2 : Int) (x3 : Int) (h : Zh) (Q : Zp) : WP 76 65 [some (zr r0), some (zr r1), some (zi x2), some (zi x3)] [] h Q = (Q (.inl (some (zi (-1 : Int)))) h) :=
  (WP_blk 2 76 65 _ _ h Q).trans rfl
-- 77: Marginalia.keepNote(LMarginalia$Note;)I
theorem b_77_0 (r0 : Option Nat) (r1 : Option Nat) (h : Zh) (Q : Zp) : WP 77 0 [some (zr r0), some (zr r1)] [] h Q = (kd h r0 6 ∧ (kd h r0 6 ∧ ((ixa h (gR h (ad r0) 2) 13 (gI h (ad r0) 6) ∧ kd h r1 3) ∧ (WP 77 10 [some (zr r0), some (zr r1)] [] (pR h (ad (gR h (ad r0) 2)) (gI h (ad r0) 6) r1) Q)))) :=
  (WP_blk 6 77 0 _ _ h Q).trans rfl
theorem b_77_10 (r0 : Option Nat) (r1 : Option Nat) (h : Zh) (Q : Zp) : WP 77 10 [some (zr r0), some (zr r1)] [] h Q = (kd h r0 6 ∧ (inR ((gI h (ad r0) 6) + (1 : Int)) ∧ (kd h r0 6 ∧ (WP 77 20 [some (zr r0), some (zr r1)] [] (pI h (ad r0) 6 ((gI h (ad r0) 6) + (1 : Int))) Q)))) :=
  (WP_blk 6 77 10 _ _ h Q).trans rfl
theorem b_77_20 (r0 : Option Nat) (r1 : Option Nat) (h : Zh) (Q : Zp) : WP 77 20 [some (zr r0), some (zr r1)] [] h Q = (kd h r1 3 ∧ (Q (.inl (some (zi (gI h (ad r1) 0)))) h)) :=
  (WP_blk 3 77 20 _ _ h Q).trans rfl
-- 78: Marginalia.headOf(LMarginalia$Note;)LMarginalia$Note;
theorem b_78_0 (r0 : Option Nat) (r1 : Option Nat) (h : Zh) (Q : Zp) : WP 78 0 [some (zr r0), some (zr r1)] [] h Q = (kd h r0 6 ∧ (kd h r1 3 ∧ (kd h (gR h (ad r1) 5) 4 ∧ (ixa h (gR h (ad r0) 2) 13 (gI h (ad (gR h (ad r1) 5)) 0) ∧ (Q (.inl (some (zr (gR h (ad (gR h (ad r0) 2)) (gI h (ad (gR h (ad r1) 5)) 0))))) h))))) :=
  (WP_blk 7 78 0 _ _ h Q).trans rfl
-- 79: Marginalia.isSeen(ILMarginalia$Note;)Z
theorem b_79_0 (r0 : Option Nat) (x1 : Int) (r2 : Option Nat) (h : Zh) (Q : Zp) : WP 79 0 [some (zr r0), some (zi x1), some (zr r2)] [] h Q = (kd h r2 3 ∧ (kd h r0 6 ∧ (ixa h (gR h (ad r0) 0) 10 x1 ∧ (kd h (gR h (ad r2) 5) 4 ∧ (WP 20 0 [some (zr (gR h (ad r2) 5)), some (zi x1), some (zi (gI h (ad (gR h (ad r0) 0)) x1))] [] h (kont WP 79 11 [some (zr r0), some (zi x1), some (zr r2)] [] [] Q)))))) :=
  (WP_blk 8 79 0 _ _ h Q).trans rfl
theorem b_79_14 (r0 : Option Nat) (x1 : Int) (r2 : Option Nat) (s0 : Int) (h : Zh) (Q : Zp) : WP 79 14 [some (zr r0), some (zi x1), some (zr r2)] [zi s0] h Q = ((s0 = 0 ∨ s0 = 1) ∧ (Q (.inl (some (zi s0))) h)) :=
  (WP_blk 1 79 14 _ _ h Q).trans rfl
-- 80: Marginalia.countNotes()I
theorem b_80_0 (r0 : Option Nat) (h : Zh) (Q : Zp) : WP 80 0 [some (zr r0), none, none] [] h Q = (WP 80 4 [some (zr r0), some (zi (0 : Int)), some (zi (0 : Int))] [] h Q) :=
  (WP_blk 4 80 0 _ _ h Q).trans rfl
theorem b_80_4 (r0 : Option Nat) (x1 : Int) (x2 : Int) (h : Zh) (Q : Zp) : WP 80 4 [some (zr r0), some (zi x1), some (zi x2)] [] h Q = (kd h r0 6 ∧ (br ((gI h (ad r0) 6) ≤ x2) (WP 80 33 [some (zr r0), some (zi x1), some (zi x2)] [] h Q) (WP 80 12 [some (zr r0), some (zi x1), some (zi x2)] [] h Q))) :=
  (WP_blk 4 80 4 _ _ h Q).trans rfl
theorem b_80_12 (r0 : Option Nat) (x1 : Int) (x2 : Int) (h : Zh) (Q : Zp) : WP 80 12 [some (zr r0), some (zi x1), some (zi x2)] [] h Q = (kd h r0 6 ∧ (ixa h (gR h (ad r0) 2) 13 x2 ∧ (kd h (gR h (ad (gR h (ad r0) 2)) x2) 3 ∧ (br ((gI h (ad (gR h (ad (gR h (ad r0) 2)) x2)) 9) = 0) (WP 80 24 [some (zr r0), some (zi x1), some (zi x2)] [] h Q) (WP 80 27 [some (zr r0), some (zi x1), some (zi x2)] [] h Q))))) :=
  (WP_blk 6 80 12 _ _ h Q).trans rfl
theorem b_80_24 (r0 : Option Nat) (x1 : Int) (x2 : Int) (h : Zh) (Q : Zp) : WP 80 24 [some (zr r0), some (zi x1), some (zi x2)] [] h Q = (inR (x1 + 1) ∧ (WP 80 27 [some (zr r0), some (zi (x1 + 1)), some (zi x2)] [] h Q)) :=
  (WP_blk 1 80 24 _ _ h Q).trans rfl
theorem b_80_27 (r0 : Option Nat) (x1 : Int) (x2 : Int) (h : Zh) (Q : Zp) : WP 80 27 [some (zr r0), some (zi x1), some (zi x2)] [] h Q = (inR (x2 + 1) ∧ (WP 80 4 [some (zr r0), some (zi x1), some (zi (x2 + 1))] [] h Q)) :=
  (WP_blk 2 80 27 _ _ h Q).trans rfl
theorem b_80_33 (r0 : Option Nat) (x1 : Int) (x2 : Int) (h : Zh) (Q : Zp) : WP 80 33 [some (zr r0), some (zi x1), some (zi x2)] [] h Q = (Q (.inl (some (zi x1))) h) :=
  (WP_blk 2 80 33 _ _ h Q).trans rfl
-- 81: Marginalia.countStrands(I)I
theorem b_81_0 (r0 : Option Nat) (x1 : Int) (h : Zh) (Q : Zp) : WP 81 0 [some (zr r0), some (zi x1), none, none] [] h Q = (WP 81 4 [some (zr r0), some (zi x1), some (zi (0 : Int)), some (zi (0 : Int))] [] h Q) :=
  (WP_blk 4 81 0 _ _ h Q).trans rfl
theorem b_81_4 (r0 : Option Nat) (x1 : Int) (x2 : Int) (x3 : Int) (h : Zh) (Q : Zp) : WP 81 4 [some (zr r0), some (zi x1), some (zi x2), some (zi x3)] [] h Q = (kd h r0 6 ∧ (br ((gI h (ad r0) 6) ≤ x3) (WP 81 49 [some (zr r0), some (zi x1), some (zi x2), some (zi x3)] [] h Q) (WP 81 12 [some (zr r0), some (zi x1), some (zi x2), some (zi x3)] [] h Q))) :=
  (WP_blk 4 81 4 _ _ h Q).trans rfl
theorem b_81_12 (r0 : Option Nat) (x1 : Int) (x2 : Int) (x3 : Int) (h : Zh) (Q : Zp) : WP 81 12 [some (zr r0), some (zi x1), some (zi x2), some (zi x3)] [] h Q = (kd h r0 6 ∧ (ixa h (gR h (ad r0) 2) 13 x3 ∧ (kd h (gR h (ad (gR h (ad r0) 2)) x3) 3 ∧ (WP 14 0 [some (zr (gR h (ad (gR h (ad r0) 2)) x3))] [] h (kont WP 81 18 [some (zr r0), some (zi x1), some (zi x2), some (zi x3)] [] [] Q))))) :=
  (WP_blk 5 81 12 _ _ h Q).trans rfl
theorem b_81_21 (r0 : Option Nat) (x1 : Int) (x2 : Int) (x3 : Int) (s0 : Int) (h : Zh) (Q : Zp) : WP 81 21 [some (zr r0), some (zi x1), some (zi x2), some (zi x3)] [zi s0] h Q = (br (s0 = 0) (WP 81 43 [some (zr r0), some (zi x1), some (zi x2), some (zi x3)] [] h Q) (WP 81 24 [some (zr r0), some (zi x1), some (zi x2), some (zi x3)] [] h Q)) :=
  (WP_blk 1 81 21 _ _ h Q).trans rfl
theorem b_81_24 (r0 : Option Nat) (x1 : Int) (x2 : Int) (x3 : Int) (h : Zh) (Q : Zp) : WP 81 24 [some (zr r0), some (zi x1), some (zi x2), some (zi x3)] [] h Q = (kd h r0 6 ∧ (ixa h (gR h (ad r0) 2) 13 x3 ∧ (kd h (gR h (ad (gR h (ad r0) 2)) x3) 3 ∧ (kd h (gR h (ad (gR h (ad (gR h (ad r0) 2)) x3)) 5) 4 ∧ (WP 21 0 [some (zr (gR h (ad (gR h (ad (gR h (ad r0) 2)) x3)) 5)), some (zi x1)] [] h (kont WP 81 34 [some (zr r0), some (zi x1), some (zi x2), some (zi x3)] [] [] Q)))))) :=
  (WP_blk 7 81 24 _ _ h Q).trans rfl
theorem b_81_37 (r0 : Option Nat) (x1 : Int) (x2 : Int) (x3 : Int) (s0 : Int) (h : Zh) (Q : Zp) : WP 81 37 [some (zr r0), some (zi x1), some (zi x2), some (zi x3)] [zi s0] h Q = (br (s0 = 0) (WP 81 43 [some (zr r0), some (zi x1), some (zi x2), some (zi x3)] [] h Q) (WP 81 40 [some (zr r0), some (zi x1), some (zi x2), some (zi x3)] [] h Q)) :=
  (WP_blk 1 81 37 _ _ h Q).trans rfl
theorem b_81_40 (r0 : Option Nat) (x1 : Int) (x2 : Int) (x3 : Int) (h : Zh) (Q : Zp) : WP 81 40 [some (zr r0), some (zi x1), some (zi x2), some (zi x3)] [] h Q = (inR (x2 + 1) ∧ (WP 81 43 [some (zr r0), some (zi x1), some (zi (x2 + 1)), some (zi x3)] [] h Q)) :=
  (WP_blk 1 81 40 _ _ h Q).trans rfl
theorem b_81_43 (r0 : Option Nat) (x1 : Int) (x2 : Int) (x3 : Int) (h : Zh) (Q : Zp) : WP 81 43 [some (zr r0), some (zi x1), some (zi x2), some (zi x3)] [] h Q = (inR (x3 + 1) ∧ (WP 81 4 [some (zr r0), some (zi x1), some (zi x2), some (zi (x3 + 1))] [] h Q)) :=
  (WP_blk 2 81 43 _ _ h Q).trans rfl
theorem b_81_49 (r0 : Option Nat) (x1 : Int) (x2 : Int) (x3 : Int) (h : Zh) (Q : Zp) : WP 81 49 [some (zr r0), some (zi x1), some (zi x2), some (zi x3)] [] h Q = (Q (.inl (some (zi x2))) h) :=
  (WP_blk 2 81 49 _ _ h Q).trans rfl
-- 82: Marginalia.chooseHeads(IZ)I
theorem b_82_0 (r0 : Option Nat) (x1 : Int) (x2 : Int) (h : Zh) (Q : Zp) : WP 82 0 [some (zr r0), some (zi x1), some (zi x2), none, none, none] [] h Q = (WP 82 5 [some (zr r0), some (zi x1), some (zi x2), some (zi (0 : Int)), some (zi (0 : Int)), none] [] h Q) :=
  (WP_blk 4 82 0 _ _ h Q).trans rfl
theorem b_82_5 (r0 : Option Nat) (x1 : Int) (x2 : Int) (x3 : Int) (x4 : Int) (o5 : Option Zv) (h : Zh) (Q : Zp) : WP 82 5 [some (zr r0), some (zi x1), some (zi x2), some (zi x3), some (zi x4), o5] [] h Q = (kd h r0 6 ∧ (br ((gI h (ad r0) 6) ≤ x4) (WP 82 72 [some (zr r0), some (zi x1), some (zi x2), some (zi x3), some (zi x4), o5] [] h Q) (WP 82 14 [some (zr r0), some (zi x1), some (zi x2), some (zi x3), some (zi x4), o5] [] h Q))) :=
  (WP_blk 4 82 5 _ _ h Q).trans rfl
theorem b_82_14 (r0 : Option Nat) (x1 : Int) (x2 : Int) (x3 : Int) (x4 : Int) (o5 : Option Zv) (h : Zh) (Q : Zp) : WP 82 14 [some (zr r0), some (zi x1), some (zi x2), some (zi x3), some (zi x4), o5] [] h Q = (kd h r0 6 ∧ (ixa h (gR h (ad r0) 2) 13 x4 ∧ (kd h (gR h (ad (gR h (ad r0) 2)) x4) 3 ∧ (WP 14 0 [some (zr (gR h (ad (gR h (ad r0) 2)) x4))] [] h (kont WP 82 25 [some (zr r0), some (zi x1), some (zi x2), some (zi x3), some (zi x4), some (zr (gR h (ad (gR h (ad r0) 2)) x4))] [] [] Q))))) :=
  (WP_blk 7 82 14 _ _ h Q).trans rfl
theorem b_82_28 (r0 : Option Nat) (x1 : Int) (x2 : Int) (x3 : Int) (x4 : Int) (r5 : Option Nat) (s0 : Int) (h : Zh) (Q : Zp) : WP 82 28 [some (zr r0), some (zi x1), some (zi x2), some (zi x3), some (zi x4), some (zr r5)] [zi s0] h Q = (br (s0 = 0) (WP 82 66 [some (zr r0), some (zi x1), some (zi x2), some (zi x3), some (zi x4), some (zr r5)] [] h Q) (WP 82 31 [some (zr r0), some (zi x1), some (zi x2), some (zi x3), some (zi x4), some (zr r5)] [] h Q)) :=
  (WP_blk 1 82 28 _ _ h Q).trans rfl
theorem b_82_31 (r0 : Option Nat) (x1 : Int) (x2 : Int) (x3 : Int) (x4 : Int) (r5 : Option Nat) (h : Zh) (Q : Zp) : WP 82 31 [some (zr r0), some (zi x1), some (zi x2), some (zi x3), some (zi x4), some (zr r5)] [] h Q = (kd h r0 6 ∧ (WP 79 0 [some (zr r0), some (zi x1), some (zr r5)] [] h (kont WP 82 35 [some (zr r0), some (zi x1), some (zi x2), some (zi x3), some (zi x4), some (zr r5)] [] [] Q))) :=
  (WP_blk 4 82 31 _ _ h Q).trans rfl
theorem b_82_38 (r0 : Option Nat) (x1 : Int) (x2 : Int) (x3 : Int) (x4 : Int) (r5 : Option Nat) (s0 : Int) (h : Zh) (Q : Zp) : WP 82 38 [some (zr r0), some (zi x1), some (zi x2), some (zi x3), some (zi x4), some (zr r5)] [zi s0] h Q = (br (s0 = 0) (WP 82 66 [some (zr r0), some (zi x1), some (zi x2), some (zi x3), some (zi x4), some (zr r5)] [] h Q) (WP 82 41 [some (zr r0), some (zi x1), some (zi x2), some (zi x3), some (zi x4), some (zr r5)] [] h Q)) :=
  (WP_blk 1 82 38 _ _ h Q).trans rfl
theorem b_82_41 (r0 : Option Nat) (x1 : Int) (x2 : Int) (x3 : Int) (x4 : Int) (r5 : Option Nat) (h : Zh) (Q : Zp) : WP 82 41 [some (zr r0), some (zi x1), some (zi x2), some (zi x3), some (zi x4), some (zr r5)] [] h Q = (br (x2 = 0) (WP 82 45 [some (zr r0), some (zi x1), some (zi x2), some (zi x3), some (zi x4), some (zr r5)] [] h Q) (WP 82 56 [some (zr r0), some (zi x1), some (zi x2), some (zi x3), some (zi x4), some (zr r5)] [] h Q)) :=
  (WP_blk 2 82 41 _ _ h Q).trans rfl
theorem b_82_45 (r0 : Option Nat) (x1 : Int) (x2 : Int) (x3 : Int) (x4 : Int) (r5 : Option Nat) (h : Zh) (Q : Zp) : WP 82 45 [some (zr r0), some (zi x1), some (zi x2), some (zi x3), some (zi x4), some (zr r5)] [] h Q = (kd h r5 3 ∧ (kd h (gR h (ad r5) 5) 4 ∧ (br ((gI h (ad (gR h (ad r5) 5)) 5) = 0) (WP 82 56 [some (zr r0), some (zi x1), some (zi x2), some (zi x3), some (zi x4), some (zr r5)] [] h Q) (WP 82 66 [some (zr r0), some (zi x1), some (zi x2), some (zi x3), some (zi x4), some (zr r5)] [] h Q)))) :=
  (WP_blk 4 82 45 _ _ h Q).trans rfl
theorem b_82_56 (r0 : Option Nat) (x1 : Int) (x2 : Int) (x3 : Int) (x4 : Int) (r5 : Option Nat) (h : Zh) (Q : Zp) : WP 82 56 [some (zr r0), some (zi x1), some (zi x2), some (zi x3), some (zi x4), some (zr r5)] [] h Q = (kd h r0 6 ∧ (WP 83 0 [some (zr r0), some (zr r5), some (zi x3), none] [] h (kont WP 82 60 [some (zr r0), some (zi x1), some (zi x2), some (zi x3), some (zi x4), some (zr r5)] [] [] Q))) :=
  (WP_blk 4 82 56 _ _ h Q).trans rfl
theorem b_82_63 (r0 : Option Nat) (x1 : Int) (x2 : Int) (x3 : Int) (x4 : Int) (r5 : Option Nat) (h : Zh) (Q : Zp) : WP 82 63 [some (zr r0), some (zi x1), some (zi x2), some (zi x3), some (zi x4), some (zr r5)] [] h Q = (inR (x3 + 1) ∧ (WP 82 66 [some (zr r0), some (zi x1), some (zi x2), some (zi (x3 + 1)), some (zi x4), some (zr r5)] [] h Q)) :=
  (WP_blk 1 82 63 _ _ h Q).trans rfl
theorem b_82_66 (r0 : Option Nat) (x1 : Int) (x2 : Int) (x3 : Int) (x4 : Int) (r5 : Option Nat) (h : Zh) (Q : Zp) : WP 82 66 [some (zr r0), some (zi x1), some (zi x2), some (zi x3), some (zi x4), some (zr r5)] [] h Q = (inR (x4 + 1) ∧ (WP 82 5 [some (zr r0), some (zi x1), some (zi x2), some (zi x3), some (zi (x4 + 1)), some (zr r5)] [] h Q)) :=
  (WP_blk 2 82 66 _ _ h Q).trans rfl
theorem b_82_72 (r0 : Option Nat) (x1 : Int) (x2 : Int) (x3 : Int) (x4 : Int) (o5 : Option Zv) (h : Zh) (Q : Zp) : WP 82 72 [some (zr r0), some (zi x1), some (zi x2), some (zi x3), some (zi x4), o5] [] h Q = (Q (.inl (some (zi x3))) h) :=
  (WP_blk 2 82 72 _ _ h Q).trans rfl
-- 83: Marginalia.putAmongChosen(LMarginalia$Note;I)V
theorem b_83_0 (r0 : Option Nat) (r1 : Option Nat) (x2 : Int) (h : Zh) (Q : Zp) : WP 83 0 [some (zr r0), some (zr r1), some (zi x2), none] [] h Q = (WP 83 2 [some (zr r0), some (zr r1), some (zi x2), some (zi x2)] [] h Q) :=
  (WP_blk 2 83 0 _ _ h Q).trans rfl
theorem b_83_2 (r0 : Option Nat) (r1 : Option Nat) (x2 : Int) (x3 : Int) (h : Zh) (Q : Zp) : WP 83 2 [some (zr r0), some (zr r1), some (zi x2), some (zi x3)] [] h Q = (br (x3 ≤ 0) (WP 83 53 [some (zr r0), some (zr r1), some (zi x2), some (zi x3)] [] h Q) (WP 83 6 [some (zr r0), some (zr r1), some (zi x2), some (zi x3)] [] h Q)) :=
  (WP_blk 2 83 2 _ _ h Q).trans rfl
theorem b_83_6 (r0 : Option Nat) (r1 : Option Nat) (x2 : Int) (x3 : Int) (h : Zh) (Q : Zp) : WP 83 6 [some (zr r0), some (zr r1), some (zi x2), some (zi x3)] [] h Q = (kd h r1 3 ∧ (kd h (gR h (ad r1) 5) 4 ∧ (kd h r0 6 ∧ (inR (x3 - (1 : Int)) ∧ (ixa h (gR h (ad r0) 3) 13 (x3 - (1 : Int)) ∧ (kd h (gR h (ad (gR h (ad r0) 3)) (x3 - (1 : Int))) 3 ∧ (kd h (gR h (ad (gR h (ad (gR h (ad r0) 3)) (x3 - (1 : Int)))) 5) 4 ∧ (kd h (gR h (ad (gR h (ad r1) 5)) 3) 1 ∧ (WP 5 0 [some (zr (gR h (ad (gR h (ad r1) 5)) 3)), some (zr (gR h (ad (gR h (ad (gR h (ad (gR h (ad r0) 3)) (x3 - (1 : Int)))) 5)) 3))] [] h (kont WP 83 27 [some (zr r0), some (zr r1), some (zi x2), some (zi x3)] [] [] Q)))))))))) :=
  (WP_blk 12 83 6 _ _ h Q).trans rfl
theorem b_83_30 (r0 : Option Nat) (r1 : Option Nat) (x2 : Int) (x3 : Int) (s0 : Int) (h : Zh) (Q : Zp) : WP 83 30 [some (zr r0), some (zr r1), some (zi x2), some (zi x3)] [zi s0] h Q = (br (s0 = 0) (WP 83 53 [some (zr r0), some (zr r1), some (zi x2), some (zi x3)] [] h Q) (WP 83 33 [some (zr r0), some (zr r1), some (zi x2), some (zi x3)] [] h Q)) :=
  (WP_blk 1 83 30 _ _ h Q).trans rfl
theorem b_83_33 (r0 : Option Nat) (r1 : Option Nat) (x2 : Int) (x3 : Int) (h : Zh) (Q : Zp) : WP 83 33 [some (zr r0), some (zr r1), some (zi x2), some (zi x3)] [] h Q = (kd h r0 6 ∧ (kd h r0 6 ∧ (inR (x3 - (1 : Int)) ∧ (ixa h (gR h (ad r0) 3) 13 (x3 - (1 : Int)) ∧ ((ixa h (gR h (ad r0) 3) 13 x3 ∧ kd h (gR h (ad (gR h (ad r0) 3)) (x3 - (1 : Int))) 3) ∧ (WP 83 47 [some (zr r0), some (zr r1), some (zi x2), some (zi x3)] [] (pR h (ad (gR h (ad r0) 3)) x3 (gR h (ad (gR h (ad r0) 3)) (x3 - (1 : Int)))) Q)))))) :=
  (WP_blk 10 83 33 _ _ h Q).trans rfl
theorem b_83_47 (r0 : Option Nat) (r1 : Option Nat) (x2 : Int) (x3 : Int) (h : Zh) (Q : Zp) : WP 83 47 [some (zr r0), some (zr r1), some (zi x2), some (zi x3)] [] h Q = (inR (x3 + (-1)) ∧ (WP 83 2 [some (zr r0), some (zr r1), some (zi x2), some (zi (x3 + (-1)))] [] h Q)) :=
  (WP_blk 2 83 47 _ _ h Q).trans rfl
theorem b_83_53 (r0 : Option Nat) (r1 : Option Nat) (x2 : Int) (x3 : Int) (h : Zh) (Q : Zp) : WP 83 53 [some (zr r0), some (zr r1), some (zi x2), some (zi x3)] [] h Q = (kd h r0 6 ∧ ((ixa h (gR h (ad r0) 3) 13 x3 ∧ kd h r1 3) ∧ (WP 83 60 [some (zr r0), some (zr r1), some (zi x2), some (zi x3)] [] (pR h (ad (gR h (ad r0) 3)) x3 r1) Q))) :=
  (WP_blk 5 83 53 _ _ h Q).trans rfl
theorem b_83_60 (r0 : Option Nat) (r1 : Option Nat) (x2 : Int) (x3 : Int) (h : Zh) (Q : Zp) : WP 83 60 [some (zr r0), some (zr r1), some (zi x2), some (zi x3)] [] h Q = (Q (.inl none) h) :=
  (WP_blk 1 83 60 _ _ h Q).trans rfl
-- 84: Marginalia.mix(JJ)J
theorem b_84_0 (l0 : Int64) (l2 : Int64) (h : Zh) (Q : Zp) : WP 84 0 [some (zl l0), none, some (zl l2), none] [] h Q = (Q (.inl (some (zl ((l0 * 31) + l2)))) h) :=
  (WP_blk 6 84 0 _ _ h Q).trans rfl
-- 85: Marginalia.digestText(J)J
theorem b_85_0 (r0 : Option Nat) (l1 : Int64) (h : Zh) (Q : Zp) : WP 85 0 [some (zr r0), some (zl l1), none, none, none, none] [] h Q = (WP 85 5 [some (zr r0), some (zl l1), none, some (zl l1), none, some (zi (0 : Int))] [] h Q) :=
  (WP_blk 4 85 0 _ _ h Q).trans rfl
theorem b_85_5 (r0 : Option Nat) (l1 : Int64) (l3 : Int64) (x5 : Int) (h : Zh) (Q : Zp) : WP 85 5 [some (zr r0), some (zl l1), none, some (zl l3), none, some (zi x5)] [] h Q = (br ((4 : Int) < x5) (WP 85 29 [some (zr r0), some (zl l1), none, some (zl l3), none, some (zi x5)] [] h Q) (WP 85 11 [some (zr r0), some (zl l1), none, some (zl l3), none, some (zi x5)] [] h Q)) :=
  (WP_blk 3 85 5 _ _ h Q).trans rfl
theorem b_85_11 (r0 : Option Nat) (l1 : Int64) (l3 : Int64) (x5 : Int) (h : Zh) (Q : Zp) : WP 85 11 [some (zr r0), some (zl l1), none, some (zl l3), none, some (zi x5)] [] h Q = (kd h r0 6 ∧ (WP 47 0 [some (zr r0), some (zi x5)] [] h (kont WP 85 15 [some (zr r0), some (zl l1), none, some (zl l3), none, some (zi x5)] [zl l3] [] Q))) :=
  (WP_blk 4 85 11 _ _ h Q).trans rfl
theorem b_85_18 (r0 : Option Nat) (l1 : Int64) (l3 : Int64) (x5 : Int) (s0 : Int) (sl1 : Int64) (h : Zh) (Q : Zp) : WP 85 18 [some (zr r0), some (zl l1), none, some (zl l3), none, some (zi x5)] [zi s0, zl sl1] h Q = (WP 84 0 [some (zl sl1), none, some (zl (Int64.ofInt s0)), none] [] h (kont WP 85 19 [some (zr r0), some (zl l1), none, some (zl l3), none, some (zi x5)] [] [] Q)) :=
  (WP_blk 2 85 18 _ _ h Q).trans rfl
theorem b_85_22 (r0 : Option Nat) (l1 : Int64) (l3 : Int64) (x5 : Int) (sl0 : Int64) (h : Zh) (Q : Zp) : WP 85 22 [some (zr r0), some (zl l1), none, some (zl l3), none, some (zi x5)] [zl sl0] h Q = (inR (x5 + 1) ∧ (WP 85 5 [some (zr r0), some (zl l1), none, some (zl sl0), none, some (zi (x5 + 1))] [] h Q)) :=
  (WP_blk 3 85 22 _ _ h Q).trans rfl
theorem b_85_29 (r0 : Option Nat) (l1 : Int64) (l3 : Int64) (x5 : Int) (h : Zh) (Q : Zp) : WP 85 29 [some (zr r0), some (zl l1), none, some (zl l3), none, some (zi x5)] [] h Q = (kd h r0 6 ∧ (kd h (gR h (ad r0) 1) 5 ∧ (WP 23 0 [some (zr (gR h (ad r0) 1))] [] h (kont WP 85 34 [some (zr r0), some (zl l1), none, some (zl l3), none, some (zi x5)] [zl l3] [] Q)))) :=
  (WP_blk 4 85 29 _ _ h Q).trans rfl
theorem b_85_37 (r0 : Option Nat) (l1 : Int64) (l3 : Int64) (x5 : Int) (s0 : Int) (sl1 : Int64) (h : Zh) (Q : Zp) : WP 85 37 [some (zr r0), some (zl l1), none, some (zl l3), none, some (zi x5)] [zi s0, zl sl1] h Q = (WP 84 0 [some (zl sl1), none, some (zl (Int64.ofInt s0)), none] [] h (kont WP 85 38 [some (zr r0), some (zl l1), none, some (zl l3), none, some (zi x5)] [] [] Q)) :=
  (WP_blk 2 85 37 _ _ h Q).trans rfl
theorem b_85_41 (r0 : Option Nat) (l1 : Int64) (l3 : Int64) (x5 : Int) (sl0 : Int64) (h : Zh) (Q : Zp) : WP 85 41 [some (zr r0), some (zl l1), none, some (zl l3), none, some (zi x5)] [zl sl0] h Q = (kd h r0 6 ∧ (kd h (gR h (ad r0) 1) 5 ∧ (WP 84 0 [some (zl sl0), none, some (zl (Int64.ofInt (gI h (ad (gR h (ad r0) 1)) 4))), none] [] h (kont WP 85 51 [some (zr r0), some (zl l1), none, some (zl sl0), none, some (zi x5)] [] [] Q)))) :=
  (WP_blk 7 85 41 _ _ h Q).trans rfl
theorem b_85_54 (r0 : Option Nat) (l1 : Int64) (l3 : Int64) (x5 : Int) (sl0 : Int64) (h : Zh) (Q : Zp) : WP 85 54 [some (zr r0), some (zl l1), none, some (zl l3), none, some (zi x5)] [zl sl0] h Q = (WP 85 58 [some (zr r0), some (zl l1), none, some (zl sl0), none, some (zi (0 : Int))] [] h Q) :=
  (WP_blk 3 85 54 _ _ h Q).trans rfl
theorem b_85_58 (r0 : Option Nat) (l1 : Int64) (l3 : Int64) (x5 : Int) (h : Zh) (Q : Zp) : WP 85 58 [some (zr r0), some (zl l1), none, some (zl l3), none, some (zi x5)] [] h Q = (kd h r0 6 ∧ (kd h (gR h (ad r0) 1) 5 ∧ (WP 23 0 [some (zr (gR h (ad r0) 1))] [] h (kont WP 85 64 [some (zr r0), some (zl l1), none, some (zl l3), none, some (zi x5)] [zi x5] [] Q)))) :=
  (WP_blk 4 85 58 _ _ h Q).trans rfl
theorem b_85_67 (r0 : Option Nat) (l1 : Int64) (l3 : Int64) (x5 : Int) (s0 : Int) (s1 : Int) (h : Zh) (Q : Zp) : WP 85 67 [some (zr r0), some (zl l1), none, some (zl l3), none, some (zi x5)] [zi s0, zi s1] h Q = (br (s0 ≤ s1) (WP 85 98 [some (zr r0), some (zl l1), none, some (zl l3), none, some (zi x5)] [] h Q) (WP 85 70 [some (zr r0), some (zl l1), none, some (zl l3), none, some (zi x5)] [] h Q)) :=
  (WP_blk 1 85 67 _ _ h Q).trans rfl
theorem b_85_70 (r0 : Option Nat) (l1 : Int64) (l3 : Int64) (x5 : Int) (h : Zh) (Q : Zp) : WP 85 70 [some (zr r0), some (zl l1), none, some (zl l3), none, some (zi x5)] [] h Q = (kd h r0 6 ∧ (kd h r0 6 ∧ (kd h (gR h (ad r0) 1) 5 ∧ (kd h (gR h (ad r0) 1) 5 ∧ (WP 27 0 [some (zr (gR h (ad r0) 1)), some (zi (gI h (ad (gR h (ad r0) 1)) 4)), some (zi x5)] [] h (kont WP 85 84 [some (zr r0), some (zl l1), none, some (zl l3), none, some (zi x5)] [zl l3] [] Q)))))) :=
  (WP_blk 8 85 70 _ _ h Q).trans rfl
theorem b_85_87 (r0 : Option Nat) (l1 : Int64) (l3 : Int64) (x5 : Int) (s0 : Int) (sl1 : Int64) (h : Zh) (Q : Zp) : WP 85 87 [some (zr r0), some (zl l1), none, some (zl l3), none, some (zi x5)] [zi s0, zl sl1] h Q = (WP 84 0 [some (zl sl1), none, some (zl (Int64.ofInt s0)), none] [] h (kont WP 85 88 [some (zr r0), some (zl l1), none, some (zl l3), none, some (zi x5)] [] [] Q)) :=
  (WP_blk 2 85 87 _ _ h Q).trans rfl
theorem b_85_91 (r0 : Option Nat) (l1 : Int64) (l3 : Int64) (x5 : Int) (sl0 : Int64) (h : Zh) (Q : Zp) : WP 85 91 [some (zr r0), some (zl l1), none, some (zl l3), none, some (zi x5)] [zl sl0] h Q = (inR (x5 + 1) ∧ (WP 85 58 [some (zr r0), some (zl l1), none, some (zl sl0), none, some (zi (x5 + 1))] [] h Q)) :=
  (WP_blk 3 85 91 _ _ h Q).trans rfl
theorem b_85_98 (r0 : Option Nat) (l1 : Int64) (l3 : Int64) (x5 : Int) (h : Zh) (Q : Zp) : WP 85 98 [some (zr r0), some (zl l1), none, some (zl l3), none, some (zi x5)] [] h Q = (Q (.inl (some (zl l3))) h) :=
  (WP_blk 2 85 98 _ _ h Q).trans rfl
-- 86: Marginalia.digestUser(JI)J
theorem b_86_0 (r0 : Option Nat) (l1 : Int64) (x3 : Int) (h : Zh) (Q : Zp) : WP 86 0 [some (zr r0), some (zl l1), none, some (zi x3), none, none] [] h Q = (kd h r0 6 ∧ (ixa h (gR h (ad r0) 0) 10 x3 ∧ (WP 84 0 [some (zl l1), none, some (zl (Int64.ofInt (gI h (ad (gR h (ad r0) 0)) x3))), none] [] h (kont WP 86 8 [some (zr r0), some (zl l1), none, some (zi x3), none, none] [] [] Q)))) :=
  (WP_blk 7 86 0 _ _ h Q).trans rfl
theorem b_86_11 (r0 : Option Nat) (l1 : Int64) (x3 : Int) (sl0 : Int64) (h : Zh) (Q : Zp) : WP 86 11 [some (zr r0), some (zl l1), none, some (zi x3), none, none] [zl sl0] h Q = (kd h r0 6 ∧ (WP 59 0 [some (zr r0), some (zi x3), some (zi (1 : Int)), none, none] [] h (kont WP 86 18 [some (zr r0), some (zl l1), none, some (zi x3), some (zl sl0), none] [zl sl0] [] Q))) :=
  (WP_blk 6 86 11 _ _ h Q).trans rfl
theorem b_86_21 (r0 : Option Nat) (l1 : Int64) (x3 : Int) (l4 : Int64) (s0 : Int) (sl1 : Int64) (h : Zh) (Q : Zp) : WP 86 21 [some (zr r0), some (zl l1), none, some (zi x3), some (zl l4), none] [zi s0, zl sl1] h Q = (WP 84 0 [some (zl sl1), none, some (zl (Int64.ofInt s0)), none] [] h (kont WP 86 22 [some (zr r0), some (zl l1), none, some (zi x3), some (zl l4), none] [] [] Q)) :=
  (WP_blk 2 86 21 _ _ h Q).trans rfl
theorem b_86_25 (r0 : Option Nat) (l1 : Int64) (x3 : Int) (l4 : Int64) (sl0 : Int64) (h : Zh) (Q : Zp) : WP 86 25 [some (zr r0), some (zl l1), none, some (zi x3), some (zl l4), none] [zl sl0] h Q = (kd h r0 6 ∧ (WP 53 0 [some (zr r0), some (zi x3), some (zi (0 : Int)), none, none, none] [] h (kont WP 86 32 [some (zr r0), some (zl l1), none, some (zi x3), some (zl sl0), none] [zl sl0] [] Q))) :=
  (WP_blk 6 86 25 _ _ h Q).trans rfl
theorem b_86_35 (r0 : Option Nat) (l1 : Int64) (x3 : Int) (l4 : Int64) (s0 : Int) (sl1 : Int64) (h : Zh) (Q : Zp) : WP 86 35 [some (zr r0), some (zl l1), none, some (zi x3), some (zl l4), none] [zi s0, zl sl1] h Q = (WP 84 0 [some (zl sl1), none, some (zl (Int64.ofInt s0)), none] [] h (kont WP 86 36 [some (zr r0), some (zl l1), none, some (zi x3), some (zl l4), none] [] [] Q)) :=
  (WP_blk 2 86 35 _ _ h Q).trans rfl
theorem b_86_39 (r0 : Option Nat) (l1 : Int64) (x3 : Int) (l4 : Int64) (sl0 : Int64) (h : Zh) (Q : Zp) : WP 86 39 [some (zr r0), some (zl l1), none, some (zi x3), some (zl l4), none] [zl sl0] h Q = (kd h r0 6 ∧ (WP 53 0 [some (zr r0), some (zi x3), some (zi (5 : Int)), none, none, none] [] h (kont WP 86 46 [some (zr r0), some (zl l1), none, some (zi x3), some (zl sl0), none] [zl sl0] [] Q))) :=
  (WP_blk 6 86 39 _ _ h Q).trans rfl
theorem b_86_49 (r0 : Option Nat) (l1 : Int64) (x3 : Int) (l4 : Int64) (s0 : Int) (sl1 : Int64) (h : Zh) (Q : Zp) : WP 86 49 [some (zr r0), some (zl l1), none, some (zi x3), some (zl l4), none] [zi s0, zl sl1] h Q = (WP 84 0 [some (zl sl1), none, some (zl (Int64.ofInt s0)), none] [] h (kont WP 86 50 [some (zr r0), some (zl l1), none, some (zi x3), some (zl l4), none] [] [] Q)) :=
  (WP_blk 2 86 49 _ _ h Q).trans rfl
theorem b_86_53 (r0 : Option Nat) (l1 : Int64) (x3 : Int) (l4 : Int64) (sl0 : Int64) (h : Zh) (Q : Zp) : WP 86 53 [some (zr r0), some (zl l1), none, some (zi x3), some (zl l4), none] [zl sl0] h Q = (Q (.inl (some (zl sl0))) h) :=
  (WP_blk 1 86 53 _ _ h Q).trans rfl
-- 87: Marginalia.digestNote(JI)J
theorem b_87_0 (r0 : Option Nat) (l1 : Int64) (x3 : Int) (h : Zh) (Q : Zp) : WP 87 0 [some (zr r0), some (zl l1), none, some (zi x3), none, none, none] [] h Q = (WP 84 0 [some (zl l1), none, some (zl (Int64.ofInt x3)), none] [] h (kont WP 87 3 [some (zr r0), some (zl l1), none, some (zi x3), none, none, none] [] [] Q)) :=
  (WP_blk 4 87 0 _ _ h Q).trans rfl
theorem b_87_6 (r0 : Option Nat) (l1 : Int64) (x3 : Int) (sl0 : Int64) (h : Zh) (Q : Zp) : WP 87 6 [some (zr r0), some (zl l1), none, some (zi x3), none, none, none] [zl sl0] h Q = (WP 87 11 [some (zr r0), some (zl l1), none, some (zi x3), some (zl sl0), none, some (zi (0 : Int))] [] h Q) :=
  (WP_blk 3 87 6 _ _ h Q).trans rfl
theorem b_87_11 (r0 : Option Nat) (l1 : Int64) (x3 : Int) (l4 : Int64) (x6 : Int) (h : Zh) (Q : Zp) : WP 87 11 [some (zr r0), some (zl l1), none, some (zi x3), some (zl l4), none, some (zi x6)] [] h Q = (br ((10 : Int) < x6) (WP 87 39 [some (zr r0), some (zl l1), none, some (zi x3), some (zl l4), none, some (zi x6)] [] h Q) (WP 87 18 [some (zr r0), some (zl l1), none, some (zi x3), some (zl l4), none, some (zi x6)] [] h Q)) :=
  (WP_blk 3 87 11 _ _ h Q).trans rfl
theorem b_87_18 (r0 : Option Nat) (l1 : Int64) (x3 : Int) (l4 : Int64) (x6 : Int) (h : Zh) (Q : Zp) : WP 87 18 [some (zr r0), some (zl l1), none, some (zi x3), some (zl l4), none, some (zi x6)] [] h Q = (kd h r0 6 ∧ (WP 49 0 [some (zr r0), some (zi x3), some (zi x6), none] [] h (kont WP 87 24 [some (zr r0), some (zl l1), none, some (zi x3), some (zl l4), none, some (zi x6)] [zl l4] [] Q))) :=
  (WP_blk 5 87 18 _ _ h Q).trans rfl
theorem b_87_27 (r0 : Option Nat) (l1 : Int64) (x3 : Int) (l4 : Int64) (x6 : Int) (s0 : Int) (sl1 : Int64) (h : Zh) (Q : Zp) : WP 87 27 [some (zr r0), some (zl l1), none, some (zi x3), some (zl l4), none, some (zi x6)] [zi s0, zl sl1] h Q = (WP 84 0 [some (zl sl1), none, some (zl (Int64.ofInt s0)), none] [] h (kont WP 87 28 [some (zr r0), some (zl l1), none, some (zi x3), some (zl l4), none, some (zi x6)] [] [] Q)) :=
  (WP_blk 2 87 27 _ _ h Q).trans rfl
theorem b_87_31 (r0 : Option Nat) (l1 : Int64) (x3 : Int) (l4 : Int64) (x6 : Int) (sl0 : Int64) (h : Zh) (Q : Zp) : WP 87 31 [some (zr r0), some (zl l1), none, some (zi x3), some (zl l4), none, some (zi x6)] [zl sl0] h Q = (inR (x6 + 1) ∧ (WP 87 11 [some (zr r0), some (zl l1), none, some (zi x3), some (zl sl0), none, some (zi (x6 + 1))] [] h Q)) :=
  (WP_blk 3 87 31 _ _ h Q).trans rfl
theorem b_87_39 (r0 : Option Nat) (l1 : Int64) (x3 : Int) (l4 : Int64) (x6 : Int) (h : Zh) (Q : Zp) : WP 87 39 [some (zr r0), some (zl l1), none, some (zi x3), some (zl l4), none, some (zi x6)] [] h Q = (kd h r0 6 ∧ (WP 58 0 [some (zr r0), some (zi x3)] [] h (kont WP 87 43 [some (zr r0), some (zl l1), none, some (zi x3), some (zl l4), none, some (zi x6)] [zl l4] [] Q))) :=
  (WP_blk 4 87 39 _ _ h Q).trans rfl
theorem b_87_46 (r0 : Option Nat) (l1 : Int64) (x3 : Int) (l4 : Int64) (x6 : Int) (s0 : Int) (sl1 : Int64) (h : Zh) (Q : Zp) : WP 87 46 [some (zr r0), some (zl l1), none, some (zi x3), some (zl l4), none, some (zi x6)] [zi s0, zl sl1] h Q = (WP 84 0 [some (zl sl1), none, some (zl (Int64.ofInt s0)), none] [] h (kont WP 87 47 [some (zr r0), some (zl l1), none, some (zi x3), some (zl l4), none, some (zi x6)] [] [] Q)) :=
  (WP_blk 2 87 46 _ _ h Q).trans rfl
theorem b_87_50 (r0 : Option Nat) (l1 : Int64) (x3 : Int) (l4 : Int64) (x6 : Int) (sl0 : Int64) (h : Zh) (Q : Zp) : WP 87 50 [some (zr r0), some (zl l1), none, some (zi x3), some (zl l4), none, some (zi x6)] [zl sl0] h Q = (WP 87 55 [some (zr r0), some (zl l1), none, some (zi x3), some (zl sl0), none, some (zi (0 : Int))] [] h Q) :=
  (WP_blk 3 87 50 _ _ h Q).trans rfl
theorem b_87_55 (r0 : Option Nat) (l1 : Int64) (x3 : Int) (l4 : Int64) (x6 : Int) (h : Zh) (Q : Zp) : WP 87 55 [some (zr r0), some (zl l1), none, some (zi x3), some (zl l4), none, some (zi x6)] [] h Q = (kd h r0 6 ∧ (br ((gI h (ad r0) 5) ≤ x6) (WP 87 92 [some (zr r0), some (zl l1), none, some (zi x3), some (zl l4), none, some (zi x6)] [] h Q) (WP 87 64 [some (zr r0), some (zl l1), none, some (zi x3), some (zl l4), none, some (zi x6)] [] h Q))) :=
  (WP_blk 4 87 55 _ _ h Q).trans rfl
theorem b_87_64 (r0 : Option Nat) (l1 : Int64) (x3 : Int) (l4 : Int64) (x6 : Int) (h : Zh) (Q : Zp) : WP 87 64 [some (zr r0), some (zl l1), none, some (zi x3), some (zl l4), none, some (zi x6)] [] h Q = (kd h r0 6 ∧ (WP 51 0 [some (zr r0), some (zi x6), some (zi x3)] [] h (kont WP 87 70 [some (zr r0), some (zl l1), none, some (zi x3), some (zl l4), none, some (zi x6)] [zl l4] [] Q))) :=
  (WP_blk 5 87 64 _ _ h Q).trans rfl
theorem b_87_73 (r0 : Option Nat) (l1 : Int64) (x3 : Int) (l4 : Int64) (x6 : Int) (s0 : Int) (sl1 : Int64) (h : Zh) (Q : Zp) : WP 87 73 [some (zr r0), some (zl l1), none, some (zi x3), some (zl l4), none, some (zi x6)] [zi s0, zl sl1] h Q = (br (s0 = 0) (WP 87 80 [some (zr r0), some (zl l1), none, some (zi x3), some (zl l4), none, some (zi x6)] [zl sl1] h Q) (WP 87 76 [some (zr r0), some (zl l1), none, some (zi x3), some (zl l4), none, some (zi x6)] [zl sl1] h Q)) :=
  (WP_blk 1 87 73 _ _ h Q).trans rfl
theorem b_87_76 (r0 : Option Nat) (l1 : Int64) (x3 : Int) (l4 : Int64) (x6 : Int) (sl0 : Int64) (h : Zh) (Q : Zp) : WP 87 76 [some (zr r0), some (zl l1), none, some (zi x3), some (zl l4), none, some (zi x6)] [zl sl0] h Q = (WP 87 81 [some (zr r0), some (zl l1), none, some (zi x3), some (zl l4), none, some (zi x6)] [zl 1, zl sl0] h Q) :=
  (WP_blk 2 87 76 _ _ h Q).trans rfl
theorem b_87_80 (r0 : Option Nat) (l1 : Int64) (x3 : Int) (l4 : Int64) (x6 : Int) (sl0 : Int64) (h : Zh) (Q : Zp) : WP 87 80 [some (zr r0), some (zl l1), none, some (zi x3), some (zl l4), none, some (zi x6)] [zl sl0] h Q = (WP 87 81 [some (zr r0), some (zl l1), none, some (zi x3), some (zl l4), none, some (zi x6)] [zl 0, zl sl0] h Q) :=
  (WP_blk 1 87 80 _ _ h Q).trans rfl
theorem b_87_81 (r0 : Option Nat) (l1 : Int64) (x3 : Int) (l4 : Int64) (x6 : Int) (sl0 : Int64) (sl1 : Int64) (h : Zh) (Q : Zp) : WP 87 81 [some (zr r0), some (zl l1), none, some (zi x3), some (zl l4), none, some (zi x6)] [zl sl0, zl sl1] h Q = (WP 84 0 [some (zl sl1), none, some (zl sl0), none] [] h (kont WP 87 81 [some (zr r0), some (zl l1), none, some (zi x3), some (zl l4), none, some (zi x6)] [] [] Q)) :=
  (WP_blk 1 87 81 _ _ h Q).trans rfl
theorem b_87_84 (r0 : Option Nat) (l1 : Int64) (x3 : Int) (l4 : Int64) (x6 : Int) (sl0 : Int64) (h : Zh) (Q : Zp) : WP 87 84 [some (zr r0), some (zl l1), none, some (zi x3), some (zl l4), none, some (zi x6)] [zl sl0] h Q = (inR (x6 + 1) ∧ (WP 87 55 [some (zr r0), some (zl l1), none, some (zi x3), some (zl sl0), none, some (zi (x6 + 1))] [] h Q)) :=
  (WP_blk 3 87 84 _ _ h Q).trans rfl
theorem b_87_92 (r0 : Option Nat) (l1 : Int64) (x3 : Int) (l4 : Int64) (x6 : Int) (h : Zh) (Q : Zp) : WP 87 92 [some (zr r0), some (zl l1), none, some (zi x3), some (zl l4), none, some (zi x6)] [] h Q = (Q (.inl (some (zl l4))) h) :=
  (WP_blk 2 87 92 _ _ h Q).trans rfl
-- 88: Marginalia.digestExport(J)J
theorem b_88_0 (r0 : Option Nat) (l1 : Int64) (h : Zh) (Q : Zp) : WP 88 0 [some (zr r0), some (zl l1), none, none, none, none, none] [] h Q = (WP 88 5 [some (zr r0), some (zl l1), none, some (zl l1), none, some (zi (0 : Int)), none] [] h Q) :=
  (WP_blk 4 88 0 _ _ h Q).trans rfl
theorem b_88_5 (r0 : Option Nat) (l1 : Int64) (l3 : Int64) (x5 : Int) (o6 : Option Zv) (h : Zh) (Q : Zp) : WP 88 5 [some (zr r0), some (zl l1), none, some (zl l3), none, some (zi x5), o6] [] h Q = (kd h r0 6 ∧ (kd h (gR h (ad r0) 4) 2 ∧ (br ((gI h (ad (gR h (ad r0) 4)) 1) ≤ x5) (WP 88 57 [some (zr r0), some (zl l1), none, some (zl l3), none, some (zi x5), o6] [] h Q) (WP 88 17 [some (zr r0), some (zl l1), none, some (zl l3), none, some (zi x5), o6] [] h Q)))) :=
  (WP_blk 5 88 5 _ _ h Q).trans rfl
theorem b_88_17 (r0 : Option Nat) (l1 : Int64) (l3 : Int64) (x5 : Int) (o6 : Option Zv) (h : Zh) (Q : Zp) : WP 88 17 [some (zr r0), some (zl l1), none, some (zl l3), none, some (zi x5), o6] [] h Q = (WP 88 20 [some (zr r0), some (zl l1), none, some (zl l3), none, some (zi x5), some (zi (0 : Int))] [] h Q) :=
  (WP_blk 2 88 17 _ _ h Q).trans rfl
theorem b_88_20 (r0 : Option Nat) (l1 : Int64) (l3 : Int64) (x5 : Int) (x6 : Int) (h : Zh) (Q : Zp) : WP 88 20 [some (zr r0), some (zl l1), none, some (zl l3), none, some (zi x5), some (zi x6)] [] h Q = (br ((4 : Int) ≤ x6) (WP 88 51 [some (zr r0), some (zl l1), none, some (zl l3), none, some (zi x5), some (zi x6)] [] h Q) (WP 88 26 [some (zr r0), some (zl l1), none, some (zl l3), none, some (zi x5), some (zi x6)] [] h Q)) :=
  (WP_blk 3 88 20 _ _ h Q).trans rfl
theorem b_88_26 (r0 : Option Nat) (l1 : Int64) (l3 : Int64) (x5 : Int) (x6 : Int) (h : Zh) (Q : Zp) : WP 88 26 [some (zr r0), some (zl l1), none, some (zl l3), none, some (zi x5), some (zi x6)] [] h Q = (kd h r0 6 ∧ (kd h (gR h (ad r0) 4) 2 ∧ (ixa h (gR h (ad (gR h (ad r0) 4)) 0) 14 x6 ∧ (ixa h (gR h (ad (gR h (ad (gR h (ad r0) 4)) 0)) x6) 10 x5 ∧ (WP 84 0 [some (zl l3), none, some (zl (Int64.ofInt (gI h (ad (gR h (ad (gR h (ad (gR h (ad r0) 4)) 0)) x6)) x5))), none] [] h (kont WP 88 41 [some (zr r0), some (zl l1), none, some (zl l3), none, some (zi x5), some (zi x6)] [] [] Q)))))) :=
  (WP_blk 10 88 26 _ _ h Q).trans rfl
theorem b_88_44 (r0 : Option Nat) (l1 : Int64) (l3 : Int64) (x5 : Int) (x6 : Int) (sl0 : Int64) (h : Zh) (Q : Zp) : WP 88 44 [some (zr r0), some (zl l1), none, some (zl l3), none, some (zi x5), some (zi x6)] [zl sl0] h Q = (inR (x6 + 1) ∧ (WP 88 20 [some (zr r0), some (zl l1), none, some (zl sl0), none, some (zi x5), some (zi (x6 + 1))] [] h Q)) :=
  (WP_blk 3 88 44 _ _ h Q).trans rfl
theorem b_88_51 (r0 : Option Nat) (l1 : Int64) (l3 : Int64) (x5 : Int) (x6 : Int) (h : Zh) (Q : Zp) : WP 88 51 [some (zr r0), some (zl l1), none, some (zl l3), none, some (zi x5), some (zi x6)] [] h Q = (inR (x5 + 1) ∧ (WP 88 5 [some (zr r0), some (zl l1), none, some (zl l3), none, some (zi (x5 + 1)), some (zi x6)] [] h Q)) :=
  (WP_blk 2 88 51 _ _ h Q).trans rfl
theorem b_88_57 (r0 : Option Nat) (l1 : Int64) (l3 : Int64) (x5 : Int) (o6 : Option Zv) (h : Zh) (Q : Zp) : WP 88 57 [some (zr r0), some (zl l1), none, some (zl l3), none, some (zi x5), o6] [] h Q = (Q (.inl (some (zl l3))) h) :=
  (WP_blk 2 88 57 _ _ h Q).trans rfl
