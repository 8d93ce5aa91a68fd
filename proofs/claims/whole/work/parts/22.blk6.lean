-- 89: MarginaliaModel.<init>()V
theorem b_89_0 (r0 : Option Nat) (h : Zh) (Q : Zp) : WP 89 0 [some (zr r0)] [] h Q = (r0 ≠ none ∧ (((0 ≤ (6 : Int) ∧ (6 : Int) ≤ 1000000 ∧ gC h + 1 ≤ MXC ∧ gS h + Int.toNat (6 : Int) ≤ MXS) ∧ ∀ a, gK h a = 0 → WP 89 9 [some (zr r0)] [zr (some a), zr r0] (nw h a 10 (6 : Int)) Q))) :=
  (WP_blk 5 89 0 _ _ h Q).trans rfl
theorem b_89_9 (r0 : Option Nat) (sr0 : Option Nat) (sr1 : Option Nat) (h : Zh) (Q : Zp) : WP 89 9 [some (zr r0)] [zr sr0, zr sr1] h Q = (kd h sr1 7 ∧ (WP 89 12 [some (zr r0)] [] (pR h (ad sr1) 2 sr0) Q)) :=
  (WP_blk 1 89 9 _ _ h Q).trans rfl
theorem b_89_12 (r0 : Option Nat) (h : Zh) (Q : Zp) : WP 89 12 [some (zr r0)] [] h Q = (((0 ≤ (40 : Int) ∧ (40 : Int) ≤ 1000000 ∧ gC h + 1 ≤ MXC ∧ gS h + Int.toNat (40 : Int) ≤ MXS) ∧ ∀ a, gK h a = 0 → WP 89 17 [some (zr r0)] [zr (some a), zr r0] (nw h a 10 (40 : Int)) Q)) :=
  (WP_blk 3 89 12 _ _ h Q).trans rfl
theorem b_89_17 (r0 : Option Nat) (sr0 : Option Nat) (sr1 : Option Nat) (h : Zh) (Q : Zp) : WP 89 17 [some (zr r0)] [zr sr0, zr sr1] h Q = (kd h sr1 7 ∧ (WP 89 20 [some (zr r0)] [] (pR h (ad sr1) 4 sr0) Q)) :=
  (WP_blk 1 89 17 _ _ h Q).trans rfl
theorem b_89_20 (r0 : Option Nat) (h : Zh) (Q : Zp) : WP 89 20 [some (zr r0)] [] h Q = (((0 ≤ (61 : Int) ∧ (61 : Int) ≤ 1000 ∧ 0 ≤ (0 : Int) ∧ (0 : Int) ≤ 1000 ∧ gC h + 1 + Int.toNat (61 : Int) ≤ MXC ∧ gS h + Int.toNat (61 : Int) + Int.toNat (61 : Int) * Int.toNat (0 : Int) ≤ MXS) ∧ ∀ (q : Nat) (r : Nat → Nat), gK h q = 0 → (∀ i, i < Int.toNat (61 : Int) → gK h (r i) = 0 ∧ r i ≠ q) → (∀ i j, i < Int.toNat (61 : Int) → j < Int.toNat (61 : Int) → r i = r j → i = j) → WP 89 28 [some (zr r0)] [zr (some q), zr r0] (nw2 h q r (Int.toNat (61 : Int)) (0 : Int)) Q)) :=
  (WP_blk 4 89 20 _ _ h Q).trans rfl
theorem b_89_28 (r0 : Option Nat) (sr0 : Option Nat) (sr1 : Option Nat) (h : Zh) (Q : Zp) : WP 89 28 [some (zr r0)] [zr sr0, zr sr1] h Q = (kd h sr1 7 ∧ (WP 89 31 [some (zr r0)] [] (pR h (ad sr1) 5 sr0) Q)) :=
  (WP_blk 1 89 28 _ _ h Q).trans rfl
theorem b_89_31 (r0 : Option Nat) (h : Zh) (Q : Zp) : WP 89 31 [some (zr r0)] [] h Q = (((0 ≤ (60 : Int) ∧ (60 : Int) ≤ 1000000 ∧ gC h + 1 ≤ MXC ∧ gS h + Int.toNat (60 : Int) ≤ MXS) ∧ ∀ a, gK h a = 0 → WP 89 36 [some (zr r0)] [zr (some a), zr r0] (nw h a 10 (60 : Int)) Q)) :=
  (WP_blk 3 89 31 _ _ h Q).trans rfl
theorem b_89_36 (r0 : Option Nat) (sr0 : Option Nat) (sr1 : Option Nat) (h : Zh) (Q : Zp) : WP 89 36 [some (zr r0)] [zr sr0, zr sr1] h Q = (kd h sr1 7 ∧ (WP 89 39 [some (zr r0)] [] (pR h (ad sr1) 8 sr0) Q)) :=
  (WP_blk 1 89 36 _ _ h Q).trans rfl
theorem b_89_39 (r0 : Option Nat) (h : Zh) (Q : Zp) : WP 89 39 [some (zr r0)] [] h Q = (((0 ≤ (60 : Int) ∧ (60 : Int) ≤ 1000000 ∧ gC h + 1 ≤ MXC ∧ gS h + Int.toNat (60 : Int) ≤ MXS) ∧ ∀ a, gK h a = 0 → WP 89 44 [some (zr r0)] [zr (some a), zr r0] (nw h a 10 (60 : Int)) Q)) :=
  (WP_blk 3 89 39 _ _ h Q).trans rfl
theorem b_89_44 (r0 : Option Nat) (sr0 : Option Nat) (sr1 : Option Nat) (h : Zh) (Q : Zp) : WP 89 44 [some (zr r0)] [zr sr0, zr sr1] h Q = (kd h sr1 7 ∧ (WP 89 47 [some (zr r0)] [] (pR h (ad sr1) 9 sr0) Q)) :=
  (WP_blk 1 89 44 _ _ h Q).trans rfl
theorem b_89_47 (r0 : Option Nat) (h : Zh) (Q : Zp) : WP 89 47 [some (zr r0)] [] h Q = (((0 ≤ (60 : Int) ∧ (60 : Int) ≤ 1000000 ∧ gC h + 1 ≤ MXC ∧ gS h + Int.toNat (60 : Int) ≤ MXS) ∧ ∀ a, gK h a = 0 → WP 89 52 [some (zr r0)] [zr (some a), zr r0] (nw h a 10 (60 : Int)) Q)) :=
  (WP_blk 3 89 47 _ _ h Q).trans rfl
theorem b_89_52 (r0 : Option Nat) (sr0 : Option Nat) (sr1 : Option Nat) (h : Zh) (Q : Zp) : WP 89 52 [some (zr r0)] [zr sr0, zr sr1] h Q = (kd h sr1 7 ∧ (WP 89 55 [some (zr r0)] [] (pR h (ad sr1) 10 sr0) Q)) :=
  (WP_blk 1 89 52 _ _ h Q).trans rfl
theorem b_89_55 (r0 : Option Nat) (h : Zh) (Q : Zp) : WP 89 55 [some (zr r0)] [] h Q = (((0 ≤ (60 : Int) ∧ (60 : Int) ≤ 1000000 ∧ gC h + 1 ≤ MXC ∧ gS h + Int.toNat (60 : Int) ≤ MXS) ∧ ∀ a, gK h a = 0 → WP 89 60 [some (zr r0)] [zr (some a), zr r0] (nw h a 10 (60 : Int)) Q)) :=
  (WP_blk 3 89 55 _ _ h Q).trans rfl
theorem b_89_60 (r0 : Option Nat) (sr0 : Option Nat) (sr1 : Option Nat) (h : Zh) (Q : Zp) : WP 89 60 [some (zr r0)] [zr sr0, zr sr1] h Q = (kd h sr1 7 ∧ (WP 89 63 [some (zr r0)] [] (pR h (ad sr1) 11 sr0) Q)) :=
  (WP_blk 1 89 60 _ _ h Q).trans rfl
theorem b_89_63 (r0 : Option Nat) (h : Zh) (Q : Zp) : WP 89 63 [some (zr r0)] [] h Q = (((0 ≤ (60 : Int) ∧ (60 : Int) ≤ 1000000 ∧ gC h + 1 ≤ MXC ∧ gS h + Int.toNat (60 : Int) ≤ MXS) ∧ ∀ a, gK h a = 0 → WP 89 68 [some (zr r0)] [zr (some a), zr r0] (nw h a 10 (60 : Int)) Q)) :=
  (WP_blk 3 89 63 _ _ h Q).trans rfl
theorem b_89_68 (r0 : Option Nat) (sr0 : Option Nat) (sr1 : Option Nat) (h : Zh) (Q : Zp) : WP 89 68 [some (zr r0)] [zr sr0, zr sr1] h Q = (kd h sr1 7 ∧ (WP 89 71 [some (zr r0)] [] (pR h (ad sr1) 12 sr0) Q)) :=
  (WP_blk 1 89 68 _ _ h Q).trans rfl
theorem b_89_71 (r0 : Option Nat) (h : Zh) (Q : Zp) : WP 89 71 [some (zr r0)] [] h Q = (((0 ≤ (60 : Int) ∧ (60 : Int) ≤ 1000000 ∧ gC h + 1 ≤ MXC ∧ gS h + Int.toNat (60 : Int) ≤ MXS) ∧ ∀ a, gK h a = 0 → WP 89 76 [some (zr r0)] [zr (some a), zr r0] (nw h a 10 (60 : Int)) Q)) :=
  (WP_blk 3 89 71 _ _ h Q).trans rfl
theorem b_89_76 (r0 : Option Nat) (sr0 : Option Nat) (sr1 : Option Nat) (h : Zh) (Q : Zp) : WP 89 76 [some (zr r0)] [zr sr0, zr sr1] h Q = (kd h sr1 7 ∧ (WP 89 79 [some (zr r0)] [] (pR h (ad sr1) 13 sr0) Q)) :=
  (WP_blk 1 89 76 _ _ h Q).trans rfl
theorem b_89_79 (r0 : Option Nat) (h : Zh) (Q : Zp) : WP 89 79 [some (zr r0)] [] h Q = (((0 ≤ (60 : Int) ∧ (60 : Int) ≤ 1000000 ∧ gC h + 1 ≤ MXC ∧ gS h + Int.toNat (60 : Int) ≤ MXS) ∧ ∀ a, gK h a = 0 → WP 89 84 [some (zr r0)] [zr (some a), zr r0] (nw h a 10 (60 : Int)) Q)) :=
  (WP_blk 3 89 79 _ _ h Q).trans rfl
theorem b_89_84 (r0 : Option Nat) (sr0 : Option Nat) (sr1 : Option Nat) (h : Zh) (Q : Zp) : WP 89 84 [some (zr r0)] [zr sr0, zr sr1] h Q = (kd h sr1 7 ∧ (WP 89 87 [some (zr r0)] [] (pR h (ad sr1) 14 sr0) Q)) :=
  (WP_blk 1 89 84 _ _ h Q).trans rfl
theorem b_89_87 (r0 : Option Nat) (h : Zh) (Q : Zp) : WP 89 87 [some (zr r0)] [] h Q = (((0 ≤ (60 : Int) ∧ (60 : Int) ≤ 1000000 ∧ gC h + 1 ≤ MXC ∧ gS h + Int.toNat (60 : Int) ≤ MXS) ∧ ∀ a, gK h a = 0 → WP 89 92 [some (zr r0)] [zr (some a), zr r0] (nw h a 10 (60 : Int)) Q)) :=
  (WP_blk 3 89 87 _ _ h Q).trans rfl
theorem b_89_92 (r0 : Option Nat) (sr0 : Option Nat) (sr1 : Option Nat) (h : Zh) (Q : Zp) : WP 89 92 [some (zr r0)] [zr sr0, zr sr1] h Q = (kd h sr1 7 ∧ (WP 89 95 [some (zr r0)] [] (pR h (ad sr1) 15 sr0) Q)) :=
  (WP_blk 1 89 92 _ _ h Q).trans rfl
theorem b_89_95 (r0 : Option Nat) (h : Zh) (Q : Zp) : WP 89 95 [some (zr r0)] [] h Q = (((0 ≤ (60 : Int) ∧ (60 : Int) ≤ 1000000 ∧ gC h + 1 ≤ MXC ∧ gS h + Int.toNat (60 : Int) ≤ MXS) ∧ ∀ a, gK h a = 0 → WP 89 100 [some (zr r0)] [zr (some a), zr r0] (nw h a 10 (60 : Int)) Q)) :=
  (WP_blk 3 89 95 _ _ h Q).trans rfl
theorem b_89_100 (r0 : Option Nat) (sr0 : Option Nat) (sr1 : Option Nat) (h : Zh) (Q : Zp) : WP 89 100 [some (zr r0)] [zr sr0, zr sr1] h Q = (kd h sr1 7 ∧ (WP 89 103 [some (zr r0)] [] (pR h (ad sr1) 16 sr0) Q)) :=
  (WP_blk 1 89 100 _ _ h Q).trans rfl
theorem b_89_103 (r0 : Option Nat) (h : Zh) (Q : Zp) : WP 89 103 [some (zr r0)] [] h Q = (((0 ≤ (60 : Int) ∧ (60 : Int) ≤ 1000000 ∧ gC h + 1 ≤ MXC ∧ gS h + Int.toNat (60 : Int) ≤ MXS) ∧ ∀ a, gK h a = 0 → WP 89 108 [some (zr r0)] [zr (some a), zr r0] (nw h a 10 (60 : Int)) Q)) :=
  (WP_blk 3 89 103 _ _ h Q).trans rfl
theorem b_89_108 (r0 : Option Nat) (sr0 : Option Nat) (sr1 : Option Nat) (h : Zh) (Q : Zp) : WP 89 108 [some (zr r0)] [zr sr0, zr sr1] h Q = (kd h sr1 7 ∧ (WP 89 111 [some (zr r0)] [] (pR h (ad sr1) 17 sr0) Q)) :=
  (WP_blk 1 89 108 _ _ h Q).trans rfl
theorem b_89_111 (r0 : Option Nat) (h : Zh) (Q : Zp) : WP 89 111 [some (zr r0)] [] h Q = (((0 ≤ (60 : Int) ∧ (60 : Int) ≤ 1000000 ∧ gC h + 1 ≤ MXC ∧ gS h + Int.toNat (60 : Int) ≤ MXS) ∧ ∀ a, gK h a = 0 → WP 89 116 [some (zr r0)] [zr (some a), zr r0] (nw h a 12 (60 : Int)) Q)) :=
  (WP_blk 3 89 111 _ _ h Q).trans rfl
theorem b_89_116 (r0 : Option Nat) (sr0 : Option Nat) (sr1 : Option Nat) (h : Zh) (Q : Zp) : WP 89 116 [some (zr r0)] [zr sr0, zr sr1] h Q = (kd h sr1 7 ∧ (WP 89 119 [some (zr r0)] [] (pR h (ad sr1) 18 sr0) Q)) :=
  (WP_blk 1 89 116 _ _ h Q).trans rfl
theorem b_89_119 (r0 : Option Nat) (h : Zh) (Q : Zp) : WP 89 119 [some (zr r0)] [] h Q = (((0 ≤ (60 : Int) ∧ (60 : Int) ≤ 1000000 ∧ gC h + 1 ≤ MXC ∧ gS h + Int.toNat (60 : Int) ≤ MXS) ∧ ∀ a, gK h a = 0 → WP 89 125 [some (zr r0)] [zr (some a), zr r0] (nw h a 14 (60 : Int)) Q)) :=
  (WP_blk 3 89 119 _ _ h Q).trans rfl
theorem b_89_125 (r0 : Option Nat) (sr0 : Option Nat) (sr1 : Option Nat) (h : Zh) (Q : Zp) : WP 89 125 [some (zr r0)] [zr sr0, zr sr1] h Q = (kd h sr1 7 ∧ (WP 89 128 [some (zr r0)] [] (pR h (ad sr1) 19 sr0) Q)) :=
  (WP_blk 1 89 125 _ _ h Q).trans rfl
theorem b_89_128 (r0 : Option Nat) (h : Zh) (Q : Zp) : WP 89 128 [some (zr r0)] [] h Q = (((0 ≤ (0 : Int) ∧ (0 : Int) ≤ 1000000 ∧ gC h + 1 ≤ MXC ∧ gS h + Int.toNat (0 : Int) ≤ MXS) ∧ ∀ a, gK h a = 0 → WP 89 132 [some (zr r0)] [zr (some a), zr r0] (nw h a 10 (0 : Int)) Q)) :=
  (WP_blk 3 89 128 _ _ h Q).trans rfl
theorem b_89_132 (r0 : Option Nat) (sr0 : Option Nat) (sr1 : Option Nat) (h : Zh) (Q : Zp) : WP 89 132 [some (zr r0)] [zr sr0, zr sr1] h Q = (kd h sr1 7 ∧ (WP 89 135 [some (zr r0)] [] (pR h (ad sr1) 20 sr0) Q)) :=
  (WP_blk 1 89 132 _ _ h Q).trans rfl
theorem b_89_135 (r0 : Option Nat) (h : Zh) (Q : Zp) : WP 89 135 [some (zr r0)] [] h Q = (((0 ≤ (60 : Int) ∧ (60 : Int) ≤ 1000000 ∧ gC h + 1 ≤ MXC ∧ gS h + Int.toNat (60 : Int) ≤ MXS) ∧ ∀ a, gK h a = 0 → WP 89 140 [some (zr r0)] [zr (some a), zr r0] (nw h a 10 (60 : Int)) Q)) :=
  (WP_blk 3 89 135 _ _ h Q).trans rfl
theorem b_89_140 (r0 : Option Nat) (sr0 : Option Nat) (sr1 : Option Nat) (h : Zh) (Q : Zp) : WP 89 140 [some (zr r0)] [zr sr0, zr sr1] h Q = (kd h sr1 7 ∧ (WP 89 143 [some (zr r0)] [] (pR h (ad sr1) 22 sr0) Q)) :=
  (WP_blk 1 89 140 _ _ h Q).trans rfl
theorem b_89_143 (r0 : Option Nat) (h : Zh) (Q : Zp) : WP 89 143 [some (zr r0)] [] h Q = (Q (.inl none) h) :=
  (WP_blk 1 89 143 _ _ h Q).trans rfl
-- 90: MarginaliaModel.thrown()I
theorem b_90_0 (r0 : Option Nat) (h : Zh) (Q : Zp) : WP 90 0 [some (zr r0)] [] h Q = (kd h r0 7 ∧ (Q (.inl (some (zi (gI h (ad r0) 0)))) h)) :=
  (WP_blk 3 90 0 _ _ h Q).trans rfl
-- 91: MarginaliaModel.no(I)I
theorem b_91_0 (r0 : Option Nat) (x1 : Int) (h : Zh) (Q : Zp) : WP 91 0 [some (zr r0), some (zi x1)] [] h Q = (kd h r0 7 ∧ (WP 91 5 [some (zr r0), some (zi x1)] [] (pI h (ad r0) 0 x1) Q)) :=
  (WP_blk 3 91 0 _ _ h Q).trans rfl
theorem b_91_5 (r0 : Option Nat) (x1 : Int) (h : Zh) (Q : Zp) : WP 91 5 [some (zr r0), some (zi x1)] [] h Q = (Q (.inl (some (zi (0 : Int)))) h) :=
  (WP_blk 2 91 5 _ _ h Q).trans rfl
-- 92: MarginaliaModel.isNot(I)Z
theorem b_92_0 (r0 : Option Nat) (x1 : Int) (h : Zh) (Q : Zp) : WP 92 0 [some (zr r0), some (zi x1)] [] h Q = (kd h r0 7 ∧ (WP 92 5 [some (zr r0), some (zi x1)] [] (pI h (ad r0) 0 x1) Q)) :=
  (WP_blk 3 92 0 _ _ h Q).trans rfl
theorem b_92_5 (r0 : Option Nat) (x1 : Int) (h : Zh) (Q : Zp) : WP 92 5 [some (zr r0), some (zi x1)] [] h Q = (((0 : Int) = 0 ∨ (0 : Int) = 1) ∧ (Q (.inl (some (zi (0 : Int)))) h)) :=
  (WP_blk 2 92 5 _ _ h Q).trans rfl
-- 93: MarginaliaModel.ok(I)I
theorem b_93_0 (r0 : Option Nat) (x1 : Int) (h : Zh) (Q : Zp) : WP 93 0 [some (zr r0), some (zi x1)] [] h Q = (kd h r0 7 ∧ (WP 93 5 [some (zr r0), some (zi x1)] [] (pI h (ad r0) 0 (0 : Int)) Q)) :=
  (WP_blk 3 93 0 _ _ h Q).trans rfl
theorem b_93_5 (r0 : Option Nat) (x1 : Int) (h : Zh) (Q : Zp) : WP 93 5 [some (zr r0), some (zi x1)] [] h Q = (Q (.inl (some (zi x1))) h) :=
  (WP_blk 2 93 5 _ _ h Q).trans rfl
-- 94: MarginaliaModel.isIn(III)Z
theorem b_94_0 (x0 : Int) (x1 : Int) (x2 : Int) (h : Zh) (Q : Zp) : WP 94 0 [some (zi x0), some (zi x1), some (zi x2)] [] h Q = (br (x0 < x1) (WP 94 14 [some (zi x0), some (zi x1), some (zi x2)] [] h Q) (WP 94 5 [some (zi x0), some (zi x1), some (zi x2)] [] h Q)) :=
  (WP_blk 3 94 0 _ _ h Q).trans rfl
theorem b_94_5 (x0 : Int) (x1 : Int) (x2 : Int) (h : Zh) (Q : Zp) : WP 94 5 [some (zi x0), some (zi x1), some (zi x2)] [] h Q = (br (x2 < x0) (WP 94 14 [some (zi x0), some (zi x1), some (zi x2)] [] h Q) (WP 94 10 [some (zi x0), some (zi x1), some (zi x2)] [] h Q)) :=
  (WP_blk 3 94 5 _ _ h Q).trans rfl
theorem b_94_10 (x0 : Int) (x1 : Int) (x2 : Int) (h : Zh) (Q : Zp) : WP 94 10 [some (zi x0), some (zi x1), some (zi x2)] [] h Q = (WP 94 15 [some (zi x0), some (zi x1), some (zi x2)] [zi (1 : Int)] h Q) :=
  (WP_blk 2 94 10 _ _ h Q).trans rfl
theorem b_94_14 (x0 : Int) (x1 : Int) (x2 : Int) (h : Zh) (Q : Zp) : WP 94 14 [some (zi x0), some (zi x1), some (zi x2)] [] h Q = (WP 94 15 [some (zi x0), some (zi x1), some (zi x2)] [zi (0 : Int)] h Q) :=
  (WP_blk 1 94 14 _ _ h Q).trans rfl
theorem b_94_15 (x0 : Int) (x1 : Int) (x2 : Int) (s0 : Int) (h : Zh) (Q : Zp) : WP 94 15 [some (zi x0), some (zi x1), some (zi x2)] [zi s0] h Q = ((s0 = 0 ∨ s0 = 1) ∧ (Q (.inl (some (zi s0))) h)) :=
  (WP_blk 1 94 15 _ _ h Q).trans rfl
-- 95: MarginaliaModel.isUser(I)Z
theorem b_95_0 (r0 : Option Nat) (x1 : Int) (h : Zh) (Q : Zp) : WP 95 0 [some (zr r0), some (zi x1)] [] h Q = (kd h r0 7 ∧ (inR ((gI h (ad r0) 1) - (1 : Int)) ∧ (WP 94 0 [some (zi x1), some (zi (0 : Int)), some (zi ((gI h (ad r0) 1) - (1 : Int)))] [] h (kont WP 95 8 [some (zr r0), some (zi x1)] [] [] Q)))) :=
  (WP_blk 7 95 0 _ _ h Q).trans rfl
theorem b_95_11 (r0 : Option Nat) (x1 : Int) (s0 : Int) (h : Zh) (Q : Zp) : WP 95 11 [some (zr r0), some (zi x1)] [zi s0] h Q = ((s0 = 0 ∨ s0 = 1) ∧ (Q (.inl (some (zi s0))) h)) :=
  (WP_blk 1 95 11 _ _ h Q).trans rfl
-- 96: MarginaliaModel.isNote(I)Z
theorem b_96_0 (r0 : Option Nat) (x1 : Int) (h : Zh) (Q : Zp) : WP 96 0 [some (zr r0), some (zi x1)] [] h Q = (kd h r0 7 ∧ (inR ((gI h (ad r0) 7) - (1 : Int)) ∧ (WP 94 0 [some (zi x1), some (zi (0 : Int)), some (zi ((gI h (ad r0) 7) - (1 : Int)))] [] h (kont WP 96 8 [some (zr r0), some (zi x1)] [] [] Q)))) :=
  (WP_blk 7 96 0 _ _ h Q).trans rfl
theorem b_96_11 (r0 : Option Nat) (x1 : Int) (s0 : Int) (h : Zh) (Q : Zp) : WP 96 11 [some (zr r0), some (zi x1)] [zi s0] h Q = (br (s0 = 0) (WP 96 28 [some (zr r0), some (zi x1)] [] h Q) (WP 96 14 [some (zr r0), some (zi x1)] [] h Q)) :=
  (WP_blk 1 96 11 _ _ h Q).trans rfl
theorem b_96_14 (r0 : Option Nat) (x1 : Int) (h : Zh) (Q : Zp) : WP 96 14 [some (zr r0), some (zi x1)] [] h Q = (kd h r0 7 ∧ (ixa h (gR h (ad r0) 12) 10 x1 ∧ (br ((gI h (ad (gR h (ad r0) 12)) x1) = (2 : Int)) (WP 96 28 [some (zr r0), some (zi x1)] [] h Q) (WP 96 24 [some (zr r0), some (zi x1)] [] h Q)))) :=
  (WP_blk 6 96 14 _ _ h Q).trans rfl
theorem b_96_24 (r0 : Option Nat) (x1 : Int) (h : Zh) (Q : Zp) : WP 96 24 [some (zr r0), some (zi x1)] [] h Q = (WP 96 29 [some (zr r0), some (zi x1)] [zi (1 : Int)] h Q) :=
  (WP_blk 2 96 24 _ _ h Q).trans rfl
theorem b_96_28 (r0 : Option Nat) (x1 : Int) (h : Zh) (Q : Zp) : WP 96 28 [some (zr r0), some (zi x1)] [] h Q = (WP 96 29 [some (zr r0), some (zi x1)] [zi (0 : Int)] h Q) :=
  (WP_blk 1 96 28 _ _ h Q).trans rfl
theorem b_96_29 (r0 : Option Nat) (x1 : Int) (s0 : Int) (h : Zh) (Q : Zp) : WP 96 29 [some (zr r0), some (zi x1)] [zi s0] h Q = ((s0 = 0 ∨ s0 = 1) ∧ (Q (.inl (some (zi s0))) h)) :=
  (WP_blk 1 96 29 _ _ h Q).trans rfl
-- 97: MarginaliaModel.text()[I
theorem b_97_0 (r0 : Option Nat) (h : Zh) (Q : Zp) : WP 97 0 [some (zr r0)] [] h Q = (kd h r0 7 ∧ (kd h r0 7 ∧ (ixa h (gR h (ad r0) 5) 14 (gI h (ad r0) 6) ∧ (Q (.inl (some (zr (gR h (ad (gR h (ad r0) 5)) (gI h (ad r0) 6))))) h)))) :=
  (WP_blk 6 97 0 _ _ h Q).trans rfl
-- 98: MarginaliaModel.user(I)I
theorem b_98_0 (r0 : Option Nat) (x1 : Int) (h : Zh) (Q : Zp) : WP 98 0 [some (zr r0), some (zi x1)] [] h Q = (kd h r0 7 ∧ (WP 98 5 [some (zr r0), some (zi x1)] [] (pI h (ad r0) 0 (0 : Int)) Q)) :=
  (WP_blk 3 98 0 _ _ h Q).trans rfl
theorem b_98_5 (r0 : Option Nat) (x1 : Int) (h : Zh) (Q : Zp) : WP 98 5 [some (zr r0), some (zi x1)] [] h Q = (WP 94 0 [some (zi x1), some (zi (0 : Int)), some (zi (4 : Int))] [] h (kont WP 98 8 [some (zr r0), some (zi x1)] [] [] Q)) :=
  (WP_blk 4 98 5 _ _ h Q).trans rfl
theorem b_98_11 (r0 : Option Nat) (x1 : Int) (s0 : Int) (h : Zh) (Q : Zp) : WP 98 11 [some (zr r0), some (zi x1)] [zi s0] h Q = (br (s0 = 0) (WP 98 14 [some (zr r0), some (zi x1)] [] h Q) (WP 98 20 [some (zr r0), some (zi x1)] [] h Q)) :=
  (WP_blk 1 98 11 _ _ h Q).trans rfl
theorem b_98_14 (r0 : Option Nat) (x1 : Int) (h : Zh) (Q : Zp) : WP 98 14 [some (zr r0), some (zi x1)] [] h Q = (kd h r0 7 ∧ (WP 91 0 [some (zr r0), some (zi (1 : Int))] [] h (kont WP 98 16 [some (zr r0), some (zi x1)] [] [] Q))) :=
  (WP_blk 3 98 14 _ _ h Q).trans rfl
theorem b_98_19 (r0 : Option Nat) (x1 : Int) (s0 : Int) (h : Zh) (Q : Zp) : WP 98 19 [some (zr r0), some (zi x1)] [zi s0] h Q = (Q (.inl (some (zi s0))) h) :=
  (WP_blk 1 98 19 _ _ h Q).trans rfl
theorem b_98_20 (r0 : Option Nat) (x1 : Int) (h : Zh) (Q : Zp) : WP 98 20 [some (zr r0), some (zi x1)] [] h Q = (kd h r0 7 ∧ (br ((gI h (ad r0) 1) = (6 : Int)) (WP 98 29 [some (zr r0), some (zi x1)] [] h Q) (WP 98 35 [some (zr r0), some (zi x1)] [] h Q))) :=
  (WP_blk 4 98 20 _ _ h Q).trans rfl
theorem b_98_29 (r0 : Option Nat) (x1 : Int) (h : Zh) (Q : Zp) : WP 98 29 [some (zr r0), some (zi x1)] [] h Q = (kd h r0 7 ∧ (WP 91 0 [some (zr r0), some (zi (2 : Int))] [] h (kont WP 98 31 [some (zr r0), some (zi x1)] [] [] Q))) :=
  (WP_blk 3 98 29 _ _ h Q).trans rfl
theorem b_98_34 (r0 : Option Nat) (x1 : Int) (s0 : Int) (h : Zh) (Q : Zp) : WP 98 34 [some (zr r0), some (zi x1)] [zi s0] h Q = (Q (.inl (some (zi s0))) h) :=
  (WP_blk 1 98 34 _ _ h Q).trans rfl
theorem b_98_35 (r0 : Option Nat) (x1 : Int) (h : Zh) (Q : Zp) : WP 98 35 [some (zr r0), some (zi x1)] [] h Q = (kd h r0 7 ∧ (kd h r0 7 ∧ (ixa h (gR h (ad r0) 2) 10 (gI h (ad r0) 1) ∧ (WP 98 45 [some (zr r0), some (zi x1)] [] (pI h (ad (gR h (ad r0) 2)) (gI h (ad r0) 1) x1) Q)))) :=
  (WP_blk 6 98 35 _ _ h Q).trans rfl
theorem b_98_45 (r0 : Option Nat) (x1 : Int) (h : Zh) (Q : Zp) : WP 98 45 [some (zr r0), some (zi x1)] [] h Q = (kd h r0 7 ∧ (inR ((gI h (ad r0) 1) + (1 : Int)) ∧ (kd h r0 7 ∧ (WP 98 56 [some (zr r0), some (zi x1)] [zi (gI h (ad r0) 1)] (pI h (ad r0) 1 ((gI h (ad r0) 1) + (1 : Int))) Q)))) :=
  (WP_blk 7 98 45 _ _ h Q).trans rfl
theorem b_98_56 (r0 : Option Nat) (x1 : Int) (s0 : Int) (h : Zh) (Q : Zp) : WP 98 56 [some (zr r0), some (zi x1)] [zi s0] h Q = (Q (.inl (some (zi s0))) h) :=
  (WP_blk 1 98 56 _ _ h Q).trans rfl
-- 99: MarginaliaModel.setRight(III)I
theorem b_99_0 (r0 : Option Nat) (x1 : Int) (x2 : Int) (x3 : Int) (h : Zh) (Q : Zp) : WP 99 0 [some (zr r0), some (zi x1), some (zi x2), some (zi x3), none] [] h Q = (kd h r0 7 ∧ (WP 99 5 [some (zr r0), some (zi x1), some (zi x2), some (zi x3), none] [] (pI h (ad r0) 0 (0 : Int)) Q)) :=
  (WP_blk 3 99 0 _ _ h Q).trans rfl
theorem b_99_5 (r0 : Option Nat) (x1 : Int) (x2 : Int) (x3 : Int) (h : Zh) (Q : Zp) : WP 99 5 [some (zr r0), some (zi x1), some (zi x2), some (zi x3), none] [] h Q = (kd h r0 7 ∧ (WP 95 0 [some (zr r0), some (zi x1)] [] h (kont WP 99 7 [some (zr r0), some (zi x1), some (zi x2), some (zi x3), none] [] [] Q))) :=
  (WP_blk 3 99 5 _ _ h Q).trans rfl
theorem b_99_10 (r0 : Option Nat) (x1 : Int) (x2 : Int) (x3 : Int) (s0 : Int) (h : Zh) (Q : Zp) : WP 99 10 [some (zr r0), some (zi x1), some (zi x2), some (zi x3), none] [zi s0] h Q = (br (s0 = 0) (WP 99 21 [some (zr r0), some (zi x1), some (zi x2), some (zi x3), none] [] h Q) (WP 99 13 [some (zr r0), some (zi x1), some (zi x2), some (zi x3), none] [] h Q)) :=
  (WP_blk 1 99 10 _ _ h Q).trans rfl
theorem b_99_13 (r0 : Option Nat) (x1 : Int) (x2 : Int) (x3 : Int) (h : Zh) (Q : Zp) : WP 99 13 [some (zr r0), some (zi x1), some (zi x2), some (zi x3), none] [] h Q = (kd h r0 7 ∧ (WP 95 0 [some (zr r0), some (zi x2)] [] h (kont WP 99 15 [some (zr r0), some (zi x1), some (zi x2), some (zi x3), none] [] [] Q))) :=
  (WP_blk 3 99 13 _ _ h Q).trans rfl
theorem b_99_18 (r0 : Option Nat) (x1 : Int) (x2 : Int) (x3 : Int) (s0 : Int) (h : Zh) (Q : Zp) : WP 99 18 [some (zr r0), some (zi x1), some (zi x2), some (zi x3), none] [zi s0] h Q = (br (s0 = 0) (WP 99 21 [some (zr r0), some (zi x1), some (zi x2), some (zi x3), none] [] h Q) (WP 99 27 [some (zr r0), some (zi x1), some (zi x2), some (zi x3), none] [] h Q)) :=
  (WP_blk 1 99 18 _ _ h Q).trans rfl
theorem b_99_21 (r0 : Option Nat) (x1 : Int) (x2 : Int) (x3 : Int) (h : Zh) (Q : Zp) : WP 99 21 [some (zr r0), some (zi x1), some (zi x2), some (zi x3), none] [] h Q = (kd h r0 7 ∧ (WP 91 0 [some (zr r0), some (zi (1 : Int))] [] h (kont WP 99 23 [some (zr r0), some (zi x1), some (zi x2), some (zi x3), none] [] [] Q))) :=
  (WP_blk 3 99 21 _ _ h Q).trans rfl
theorem b_99_26 (r0 : Option Nat) (x1 : Int) (x2 : Int) (x3 : Int) (s0 : Int) (h : Zh) (Q : Zp) : WP 99 26 [some (zr r0), some (zi x1), some (zi x2), some (zi x3), none] [zi s0] h Q = (Q (.inl (some (zi s0))) h) :=
  (WP_blk 1 99 26 _ _ h Q).trans rfl
theorem b_99_27 (r0 : Option Nat) (x1 : Int) (x2 : Int) (x3 : Int) (h : Zh) (Q : Zp) : WP 99 27 [some (zr r0), some (zi x1), some (zi x2), some (zi x3), none] [] h Q = (WP 94 0 [some (zi x3), some (zi (0 : Int)), some (zi (4 : Int))] [] h (kont WP 99 30 [some (zr r0), some (zi x1), some (zi x2), some (zi x3), none] [] [] Q)) :=
  (WP_blk 4 99 27 _ _ h Q).trans rfl
theorem b_99_33 (r0 : Option Nat) (x1 : Int) (x2 : Int) (x3 : Int) (s0 : Int) (h : Zh) (Q : Zp) : WP 99 33 [some (zr r0), some (zi x1), some (zi x2), some (zi x3), none] [zi s0] h Q = (br (s0 = 0) (WP 99 36 [some (zr r0), some (zi x1), some (zi x2), some (zi x3), none] [] h Q) (WP 99 42 [some (zr r0), some (zi x1), some (zi x2), some (zi x3), none] [] h Q)) :=
  (WP_blk 1 99 33 _ _ h Q).trans rfl
theorem b_99_36 (r0 : Option Nat) (x1 : Int) (x2 : Int) (x3 : Int) (h : Zh) (Q : Zp) : WP 99 36 [some (zr r0), some (zi x1), some (zi x2), some (zi x3), none] [] h Q = (kd h r0 7 ∧ (WP 91 0 [some (zr r0), some (zi (2 : Int))] [] h (kont WP 99 38 [some (zr r0), some (zi x1), some (zi x2), some (zi x3), none] [] [] Q))) :=
  (WP_blk 3 99 36 _ _ h Q).trans rfl
theorem b_99_41 (r0 : Option Nat) (x1 : Int) (x2 : Int) (x3 : Int) (s0 : Int) (h : Zh) (Q : Zp) : WP 99 41 [some (zr r0), some (zi x1), some (zi x2), some (zi x3), none] [zi s0] h Q = (Q (.inl (some (zi s0))) h) :=
  (WP_blk 1 99 41 _ _ h Q).trans rfl
theorem b_99_42 (r0 : Option Nat) (x1 : Int) (x2 : Int) (x3 : Int) (h : Zh) (Q : Zp) : WP 99 42 [some (zr r0), some (zi x1), some (zi x2), some (zi x3), none] [] h Q = (kd h r0 7 ∧ (ixa h (gR h (ad r0) 2) 10 x1 ∧ (br ((4 : Int) ≤ (gI h (ad (gR h (ad r0) 2)) x1)) (WP 99 58 [some (zr r0), some (zi x1), some (zi x2), some (zi x3), none] [] h Q) (WP 99 52 [some (zr r0), some (zi x1), some (zi x2), some (zi x3), none] [] h Q)))) :=
  (WP_blk 6 99 42 _ _ h Q).trans rfl
theorem b_99_52 (r0 : Option Nat) (x1 : Int) (x2 : Int) (x3 : Int) (h : Zh) (Q : Zp) : WP 99 52 [some (zr r0), some (zi x1), some (zi x2), some (zi x3), none] [] h Q = (kd h r0 7 ∧ (WP 91 0 [some (zr r0), some (zi (3 : Int))] [] h (kont WP 99 54 [some (zr r0), some (zi x1), some (zi x2), some (zi x3), none] [] [] Q))) :=
  (WP_blk 3 99 52 _ _ h Q).trans rfl
theorem b_99_57 (r0 : Option Nat) (x1 : Int) (x2 : Int) (x3 : Int) (s0 : Int) (h : Zh) (Q : Zp) : WP 99 57 [some (zr r0), some (zi x1), some (zi x2), some (zi x3), none] [zi s0] h Q = (Q (.inl (some (zi s0))) h) :=
  (WP_blk 1 99 57 _ _ h Q).trans rfl
theorem b_99_58 (r0 : Option Nat) (x1 : Int) (x2 : Int) (x3 : Int) (h : Zh) (Q : Zp) : WP 99 58 [some (zr r0), some (zi x1), some (zi x2), some (zi x3), none] [] h Q = (kd h r0 7 ∧ (ixa h (gR h (ad r0) 2) 10 x2 ∧ (kd h r0 7 ∧ (ixa h (gR h (ad r0) 2) 10 x2 ∧ (WP 99 73 [some (zr r0), some (zi x1), some (zi x2), some (zi x3), some (zi (gI h (ad (gR h (ad r0) 2)) x2))] [] (pI h (ad (gR h (ad r0) 2)) x2 x3) Q))))) :=
  (WP_blk 10 99 58 _ _ h Q).trans rfl
theorem b_99_73 (r0 : Option Nat) (x1 : Int) (x2 : Int) (x3 : Int) (x4 : Int) (h : Zh) (Q : Zp) : WP 99 73 [some (zr r0), some (zi x1), some (zi x2), some (zi x3), some (zi x4)] [] h Q = (Q (.inl (some (zi x4))) h) :=
  (WP_blk 2 99 73 _ _ h Q).trans rfl
-- 100: MarginaliaModel.put(III)V
theorem b_100_0 (r0 : Option Nat) (x1 : Int) (x2 : Int) (x3 : Int) (h : Zh) (Q : Zp) : WP 100 0 [some (zr r0), some (zi x1), some (zi x2), some (zi x3), none, none, none] [] h Q = (kd h r0 7 ∧ (WP 97 0 [some (zr r0)] [] h (kont WP 100 1 [some (zr r0), some (zi x1), some (zi x2), some (zi x3), none, none, none] [] [] Q))) :=
  (WP_blk 2 100 0 _ _ h Q).trans rfl
theorem b_100_4 (r0 : Option Nat) (x1 : Int) (x2 : Int) (x3 : Int) (sr0 : Option Nat) (h : Zh) (Q : Zp) : WP 100 4 [some (zr r0), some (zi x1), some (zi x2), some (zi x3), none, none, none] [zr sr0] h Q = (kd h sr0 10 ∧ (inR ((gL h (ad sr0)) + x2) ∧ (((0 ≤ ((gL h (ad sr0)) + x2) ∧ ((gL h (ad sr0)) + x2) ≤ 1000000 ∧ gC h + 1 ≤ MXC ∧ gS h + Int.toNat ((gL h (ad sr0)) + x2) ≤ MXS) ∧ ∀ a, gK h a = 0 → WP 100 13 [some (zr r0), some (zi x1), some (zi x2), some (zi x3), some (zr sr0), none, none] [zr (some a)] (nw h a 10 ((gL h (ad sr0)) + x2)) Q)))) :=
  (WP_blk 6 100 4 _ _ h Q).trans rfl
theorem b_100_13 (r0 : Option Nat) (x1 : Int) (x2 : Int) (x3 : Int) (r4 : Option Nat) (sr0 : Option Nat) (h : Zh) (Q : Zp) : WP 100 13 [some (zr r0), some (zi x1), some (zi x2), some (zi x3), some (zr r4), none, none] [zr sr0] h Q = ((kd h r4 10 ∧ kd h sr0 10 ∧ 0 ≤ x1 ∧ 0 ≤ (0 : Int) ∧ 0 ≤ (0 : Int) ∧ (0 : Int) + x1 ≤ gL h (ad r4) ∧ (0 : Int) + x1 ≤ gL h (ad sr0)) ∧ (WP 100 25 [some (zr r0), some (zi x1), some (zi x2), some (zi x3), some (zr r4), some (zr sr0), none] [] (cpy h (ad r4) (0 : Int) (ad sr0) (0 : Int) x1) Q)) :=
  (WP_blk 7 100 13 _ _ h Q).trans rfl
theorem b_100_25 (r0 : Option Nat) (x1 : Int) (x2 : Int) (x3 : Int) (r4 : Option Nat) (r5 : Option Nat) (h : Zh) (Q : Zp) : WP 100 25 [some (zr r0), some (zi x1), some (zi x2), some (zi x3), some (zr r4), some (zr r5), none] [] h Q = (inR (x1 + x2) ∧ (kd h r4 10 ∧ (inR ((gL h (ad r4)) - x1) ∧ ((kd h r4 10 ∧ kd h r5 10 ∧ 0 ≤ ((gL h (ad r4)) - x1) ∧ 0 ≤ x1 ∧ 0 ≤ (x1 + x2) ∧ x1 + ((gL h (ad r4)) - x1) ≤ gL h (ad r4) ∧ (x1 + x2) + ((gL h (ad r4)) - x1) ≤ gL h (ad r5)) ∧ (WP 100 41 [some (zr r0), some (zi x1), some (zi x2), some (zi x3), some (zr r4), some (zr r5), none] [] (cpy h (ad r4) x1 (ad r5) (x1 + x2) ((gL h (ad r4)) - x1)) Q))))) :=
  (WP_blk 11 100 25 _ _ h Q).trans rfl
theorem b_100_41 (r0 : Option Nat) (x1 : Int) (x2 : Int) (x3 : Int) (r4 : Option Nat) (r5 : Option Nat) (h : Zh) (Q : Zp) : WP 100 41 [some (zr r0), some (zi x1), some (zi x2), some (zi x3), some (zr r4), some (zr r5), none] [] h Q = (kd h r0 7 ∧ (inR ((gI h (ad r0) 3) + x2) ∧ (kd h r0 7 ∧ (kd h (gR h (ad r0) 4) 10 ∧ (br (((gI h (ad r0) 3) + x2) ≤ (gL h (ad (gR h (ad r0) 4)))) (WP 100 88 [some (zr r0), some (zi x1), some (zi x2), some (zi x3), some (zr r4), some (zr r5), none] [] h Q) (WP 100 55 [some (zr r0), some (zi x1), some (zi x2), some (zi x3), some (zr r4), some (zr r5), none] [] h Q)))))) :=
  (WP_blk 8 100 41 _ _ h Q).trans rfl
theorem b_100_55 (r0 : Option Nat) (x1 : Int) (x2 : Int) (x3 : Int) (r4 : Option Nat) (r5 : Option Nat) (h : Zh) (Q : Zp) : WP 100 55 [some (zr r0), some (zi x1), some (zi x2), some (zi x3), some (zr r4), some (zr r5), none] [] h Q = (kd h r0 7 ∧ (inR ((gI h (ad r0) 3) + x2) ∧ (inR ((2 : Int) * ((gI h (ad r0) 3) + x2)) ∧ (((0 ≤ ((2 : Int) * ((gI h (ad r0) 3) + x2)) ∧ ((2 : Int) * ((gI h (ad r0) 3) + x2)) ≤ 1000000 ∧ gC h + 1 ≤ MXC ∧ gS h + Int.toNat ((2 : Int) * ((gI h (ad r0) 3) + x2)) ≤ MXS) ∧ ∀ a, gK h a = 0 → WP 100 65 [some (zr r0), some (zi x1), some (zi x2), some (zi x3), some (zr r4), some (zr r5), none] [zr (some a)] (nw h a 10 ((2 : Int) * ((gI h (ad r0) 3) + x2))) Q))))) :=
  (WP_blk 7 100 55 _ _ h Q).trans rfl
theorem b_100_65 (r0 : Option Nat) (x1 : Int) (x2 : Int) (x3 : Int) (r4 : Option Nat) (r5 : Option Nat) (sr0 : Option Nat) (h : Zh) (Q : Zp) : WP 100 65 [some (zr r0), some (zi x1), some (zi x2), some (zi x3), some (zr r4), some (zr r5), none] [zr sr0] h Q = (kd h r0 7 ∧ (kd h r0 7 ∧ ((kd h (gR h (ad r0) 4) 10 ∧ kd h sr0 10 ∧ 0 ≤ (gI h (ad r0) 3) ∧ 0 ≤ (0 : Int) ∧ 0 ≤ (0 : Int) ∧ (0 : Int) + (gI h (ad r0) 3) ≤ gL h (ad (gR h (ad r0) 4)) ∧ (0 : Int) + (gI h (ad r0) 3) ≤ gL h (ad sr0)) ∧ (WP 100 82 [some (zr r0), some (zi x1), some (zi x2), some (zi x3), some (zr r4), some (zr r5), some (zr sr0)] [] (cpy h (ad (gR h (ad r0) 4)) (0 : Int) (ad sr0) (0 : Int) (gI h (ad r0) 3)) Q)))) :=
  (WP_blk 9 100 65 _ _ h Q).trans rfl
theorem b_100_82 (r0 : Option Nat) (x1 : Int) (x2 : Int) (x3 : Int) (r4 : Option Nat) (r5 : Option Nat) (r6 : Option Nat) (h : Zh) (Q : Zp) : WP 100 82 [some (zr r0), some (zi x1), some (zi x2), some (zi x3), some (zr r4), some (zr r5), some (zr r6)] [] h Q = (kd h r0 7 ∧ (WP 100 88 [some (zr r0), some (zi x1), some (zi x2), some (zi x3), some (zr r4), some (zr r5), some (zr r6)] [] (pR h (ad r0) 4 r6) Q)) :=
  (WP_blk 3 100 82 _ _ h Q).trans rfl
theorem b_100_88 (r0 : Option Nat) (x1 : Int) (x2 : Int) (x3 : Int) (r4 : Option Nat) (r5 : Option Nat) (o6 : Option Zv) (h : Zh) (Q : Zp) : WP 100 88 [some (zr r0), some (zi x1), some (zi x2), some (zi x3), some (zr r4), some (zr r5), o6] [] h Q = (WP 100 91 [some (zr r0), some (zi x1), some (zi x2), some (zi x3), some (zr r4), some (zr r5), some (zi (0 : Int))] [] h Q) :=
  (WP_blk 2 100 88 _ _ h Q).trans rfl
theorem b_100_91 (r0 : Option Nat) (x1 : Int) (x2 : Int) (x3 : Int) (r4 : Option Nat) (r5 : Option Nat) (x6 : Int) (h : Zh) (Q : Zp) : WP 100 91 [some (zr r0), some (zi x1), some (zi x2), some (zi x3), some (zr r4), some (zr r5), some (zi x6)] [] h Q = (br (x2 ≤ x6) (WP 100 137 [some (zr r0), some (zi x1), some (zi x2), some (zi x3), some (zr r4), some (zr r5), some (zi x6)] [] h Q) (WP 100 97 [some (zr r0), some (zi x1), some (zi x2), some (zi x3), some (zr r4), some (zr r5), some (zi x6)] [] h Q)) :=
  (WP_blk 3 100 91 _ _ h Q).trans rfl
theorem b_100_97 (r0 : Option Nat) (x1 : Int) (x2 : Int) (x3 : Int) (r4 : Option Nat) (r5 : Option Nat) (x6 : Int) (h : Zh) (Q : Zp) : WP 100 97 [some (zr r0), some (zi x1), some (zi x2), some (zi x3), some (zr r4), some (zr r5), some (zi x6)] [] h Q = (kd h r0 7 ∧ (kd h r0 7 ∧ (inR (x3 + x6) ∧ ((0 ≤ (x3 + x6) ∧ 0 < (26 : Int)) ∧ (ixa h (gR h (ad r0) 4) 10 (gI h (ad r0) 3) ∧ (WP 100 113 [some (zr r0), some (zi x1), some (zi x2), some (zi x3), some (zr r4), some (zr r5), some (zi x6)] [] (pI h (ad (gR h (ad r0) 4)) (gI h (ad r0) 3) ((x3 + x6) % (26 : Int))) Q)))))) :=
  (WP_blk 10 100 97 _ _ h Q).trans rfl
theorem b_100_113 (r0 : Option Nat) (x1 : Int) (x2 : Int) (x3 : Int) (r4 : Option Nat) (r5 : Option Nat) (x6 : Int) (h : Zh) (Q : Zp) : WP 100 113 [some (zr r0), some (zi x1), some (zi x2), some (zi x3), some (zr r4), some (zr r5), some (zi x6)] [] h Q = (inR (x1 + x6) ∧ (kd h r0 7 ∧ (inR ((gI h (ad r0) 3) + (1 : Int)) ∧ (kd h r0 7 ∧ (WP 100 130 [some (zr r0), some (zi x1), some (zi x2), some (zi x3), some (zr r4), some (zr r5), some (zi x6)] [zi (gI h (ad r0) 3), zi (x1 + x6), zr r5] (pI h (ad r0) 3 ((gI h (ad r0) 3) + (1 : Int))) Q))))) :=
  (WP_blk 11 100 113 _ _ h Q).trans rfl
theorem b_100_130 (r0 : Option Nat) (x1 : Int) (x2 : Int) (x3 : Int) (r4 : Option Nat) (r5 : Option Nat) (x6 : Int) (s0 : Int) (s1 : Int) (sr2 : Option Nat) (h : Zh) (Q : Zp) : WP 100 130 [some (zr r0), some (zi x1), some (zi x2), some (zi x3), some (zr r4), some (zr r5), some (zi x6)] [zi s0, zi s1, zr sr2] h Q = (ixa h sr2 10 s1 ∧ (WP 100 131 [some (zr r0), some (zi x1), some (zi x2), some (zi x3), some (zr r4), some (zr r5), some (zi x6)] [] (pI h (ad sr2) s1 s0) Q)) :=
  (WP_blk 1 100 130 _ _ h Q).trans rfl
theorem b_100_131 (r0 : Option Nat) (x1 : Int) (x2 : Int) (x3 : Int) (r4 : Option Nat) (r5 : Option Nat) (x6 : Int) (h : Zh) (Q : Zp) : WP 100 131 [some (zr r0), some (zi x1), some (zi x2), some (zi x3), some (zr r4), some (zr r5), some (zi x6)] [] h Q = (inR (x6 + 1) ∧ (WP 100 91 [some (zr r0), some (zi x1), some (zi x2), some (zi x3), some (zr r4), some (zr r5), some (zi (x6 + 1))] [] h Q)) :=
  (WP_blk 2 100 131 _ _ h Q).trans rfl
theorem b_100_137 (r0 : Option Nat) (x1 : Int) (x2 : Int) (x3 : Int) (r4 : Option Nat) (r5 : Option Nat) (x6 : Int) (h : Zh) (Q : Zp) : WP 100 137 [some (zr r0), some (zi x1), some (zi x2), some (zi x3), some (zr r4), some (zr r5), some (zi x6)] [] h Q = (kd h r0 7 ∧ (kd h r0 7 ∧ (inR ((gI h (ad r0) 6) + (1 : Int)) ∧ (kd h r0 7 ∧ (WP 100 152 [some (zr r0), some (zi x1), some (zi x2), some (zi x3), some (zr r4), some (zr r5), some (zi x6)] [zi ((gI h (ad r0) 6) + (1 : Int)), zr (gR h (ad r0) 5)] (pI h (ad r0) 6 ((gI h (ad r0) 6) + (1 : Int))) Q))))) :=
  (WP_blk 9 100 137 _ _ h Q).trans rfl
theorem b_100_152 (r0 : Option Nat) (x1 : Int) (x2 : Int) (x3 : Int) (r4 : Option Nat) (r5 : Option Nat) (x6 : Int) (s0 : Int) (sr1 : Option Nat) (h : Zh) (Q : Zp) : WP 100 152 [some (zr r0), some (zi x1), some (zi x2), some (zi x3), some (zr r4), some (zr r5), some (zi x6)] [zi s0, zr sr1] h Q = ((ixa h sr1 14 s0 ∧ kd h r5 10) ∧ (WP 100 155 [some (zr r0), some (zi x1), some (zi x2), some (zi x3), some (zr r4), some (zr r5), some (zi x6)] [] (pR h (ad sr1) s0 r5) Q)) :=
  (WP_blk 2 100 152 _ _ h Q).trans rfl
theorem b_100_155 (r0 : Option Nat) (x1 : Int) (x2 : Int) (x3 : Int) (r4 : Option Nat) (r5 : Option Nat) (x6 : Int) (h : Zh) (Q : Zp) : WP 100 155 [some (zr r0), some (zi x1), some (zi x2), some (zi x3), some (zr r4), some (zr r5), some (zi x6)] [] h Q = (WP 100 158 [some (zr r0), some (zi x1), some (zi x2), some (zi x3), some (zr r4), some (zr r5), some (zi (0 : Int))] [] h Q) :=
  (WP_blk 2 100 155 _ _ h Q).trans rfl
theorem b_100_158 (r0 : Option Nat) (x1 : Int) (x2 : Int) (x3 : Int) (r4 : Option Nat) (r5 : Option Nat) (x6 : Int) (h : Zh) (Q : Zp) : WP 100 158 [some (zr r0), some (zi x1), some (zi x2), some (zi x3), some (zr r4), some (zr r5), some (zi x6)] [] h Q = (kd h r0 7 ∧ (br ((gI h (ad r0) 7) ≤ x6) (WP 100 251 [some (zr r0), some (zi x1), some (zi x2), some (zi x3), some (zr r4), some (zr r5), some (zi x6)] [] h Q) (WP 100 167 [some (zr r0), some (zi x1), some (zi x2), some (zi x3), some (zr r4), some (zr r5), some (zi x6)] [] h Q))) :=
  (WP_blk 4 100 158 _ _ h Q).trans rfl
theorem b_100_167 (r0 : Option Nat) (x1 : Int) (x2 : Int) (x3 : Int) (r4 : Option Nat) (r5 : Option Nat) (x6 : Int) (h : Zh) (Q : Zp) : WP 100 167 [some (zr r0), some (zi x1), some (zi x2), some (zi x3), some (zr r4), some (zr r5), some (zi x6)] [] h Q = (kd h r0 7 ∧ (ixa h (gR h (ad r0) 11) 10 x6 ∧ (br ((gI h (ad (gR h (ad r0) 11)) x6) = x6) (WP 100 182 [some (zr r0), some (zi x1), some (zi x2), some (zi x3), some (zr r4), some (zr r5), some (zi x6)] [] h Q) (WP 100 179 [some (zr r0), some (zi x1), some (zi x2), some (zi x3), some (zr r4), some (zr r5), some (zi x6)] [] h Q)))) :=
  (WP_blk 6 100 167 _ _ h Q).trans rfl
theorem b_100_179 (r0 : Option Nat) (x1 : Int) (x2 : Int) (x3 : Int) (r4 : Option Nat) (r5 : Option Nat) (x6 : Int) (h : Zh) (Q : Zp) : WP 100 179 [some (zr r0), some (zi x1), some (zi x2), some (zi x3), some (zr r4), some (zr r5), some (zi x6)] [] h Q = (WP 100 245 [some (zr r0), some (zi x1), some (zi x2), some (zi x3), some (zr r4), some (zr r5), some (zi x6)] [] h Q) :=
  (WP_blk 1 100 179 _ _ h Q).trans rfl
theorem b_100_182 (r0 : Option Nat) (x1 : Int) (x2 : Int) (x3 : Int) (r4 : Option Nat) (r5 : Option Nat) (x6 : Int) (h : Zh) (Q : Zp) : WP 100 182 [some (zr r0), some (zi x1), some (zi x2), some (zi x3), some (zr r4), some (zr r5), some (zi x6)] [] h Q = (kd h r0 7 ∧ (ixa h (gR h (ad r0) 14) 10 x6 ∧ (kd h r0 7 ∧ (ixa h (gR h (ad r0) 13) 10 x6 ∧ (br (x1 ≤ (gI h (ad (gR h (ad r0) 13)) x6)) (WP 100 212 [some (zr r0), some (zi x1), some (zi x2), some (zi x3), some (zr r4), some (zr r5), some (zi x6)] [zi (gI h (ad (gR h (ad r0) 14)) x6), zi x6, zr (gR h (ad r0) 14)] h Q) (WP 100 201 [some (zr r0), some (zi x1), some (zi x2), some (zi x3), some (zr r4), some (zr r5), some (zi x6)] [zi (gI h (ad (gR h (ad r0) 14)) x6), zi x6, zr (gR h (ad r0) 14)] h Q)))))) :=
  (WP_blk 11 100 182 _ _ h Q).trans rfl
theorem b_100_201 (r0 : Option Nat) (x1 : Int) (x2 : Int) (x3 : Int) (r4 : Option Nat) (r5 : Option Nat) (x6 : Int) (s0 : Int) (s1 : Int) (sr2 : Option Nat) (h : Zh) (Q : Zp) : WP 100 201 [some (zr r0), some (zi x1), some (zi x2), some (zi x3), some (zr r4), some (zr r5), some (zi x6)] [zi s0, zi s1, zr sr2] h Q = (kd h r0 7 ∧ (ixa h (gR h (ad r0) 14) 10 x6 ∧ (br ((gI h (ad (gR h (ad r0) 14)) x6) ≤ x1) (WP 100 216 [some (zr r0), some (zi x1), some (zi x2), some (zi x3), some (zr r4), some (zr r5), some (zi x6)] [zi s0, zi s1, zr sr2] h Q) (WP 100 212 [some (zr r0), some (zi x1), some (zi x2), some (zi x3), some (zr r4), some (zr r5), some (zi x6)] [zi s0, zi s1, zr sr2] h Q)))) :=
  (WP_blk 6 100 201 _ _ h Q).trans rfl
theorem b_100_212 (r0 : Option Nat) (x1 : Int) (x2 : Int) (x3 : Int) (r4 : Option Nat) (r5 : Option Nat) (x6 : Int) (s0 : Int) (s1 : Int) (sr2 : Option Nat) (h : Zh) (Q : Zp) : WP 100 212 [some (zr r0), some (zi x1), some (zi x2), some (zi x3), some (zr r4), some (zr r5), some (zi x6)] [zi s0, zi s1, zr sr2] h Q = (WP 100 217 [some (zr r0), some (zi x1), some (zi x2), some (zi x3), some (zr r4), some (zr r5), some (zi x6)] [zi x2, zi s0, zi s1, zr sr2] h Q) :=
  (WP_blk 2 100 212 _ _ h Q).trans rfl
theorem b_100_216 (r0 : Option Nat) (x1 : Int) (x2 : Int) (x3 : Int) (r4 : Option Nat) (r5 : Option Nat) (x6 : Int) (s0 : Int) (s1 : Int) (sr2 : Option Nat) (h : Zh) (Q : Zp) : WP 100 216 [some (zr r0), some (zi x1), some (zi x2), some (zi x3), some (zr r4), some (zr r5), some (zi x6)] [zi s0, zi s1, zr sr2] h Q = (WP 100 217 [some (zr r0), some (zi x1), some (zi x2), some (zi x3), some (zr r4), some (zr r5), some (zi x6)] [zi (0 : Int), zi s0, zi s1, zr sr2] h Q) :=
  (WP_blk 1 100 216 _ _ h Q).trans rfl
theorem b_100_217 (r0 : Option Nat) (x1 : Int) (x2 : Int) (x3 : Int) (r4 : Option Nat) (r5 : Option Nat) (x6 : Int) (s0 : Int) (s1 : Int) (s2 : Int) (sr3 : Option Nat) (h : Zh) (Q : Zp) : WP 100 217 [some (zr r0), some (zi x1), some (zi x2), some (zi x3), some (zr r4), some (zr r5), some (zi x6)] [zi s0, zi s1, zi s2, zr sr3] h Q = (inR (s1 + s0) ∧ (ixa h sr3 10 s2 ∧ (WP 100 219 [some (zr r0), some (zi x1), some (zi x2), some (zi x3), some (zr r4), some (zr r5), some (zi x6)] [] (pI h (ad sr3) s2 (s1 + s0)) Q))) :=
  (WP_blk 2 100 217 _ _ h Q).trans rfl
theorem b_100_219 (r0 : Option Nat) (x1 : Int) (x2 : Int) (x3 : Int) (r4 : Option Nat) (r5 : Option Nat) (x6 : Int) (h : Zh) (Q : Zp) : WP 100 219 [some (zr r0), some (zi x1), some (zi x2), some (zi x3), some (zr r4), some (zr r5), some (zi x6)] [] h Q = (kd h r0 7 ∧ (ixa h (gR h (ad r0) 13) 10 x6 ∧ (kd h r0 7 ∧ (ixa h (gR h (ad r0) 13) 10 x6 ∧ (br ((gI h (ad (gR h (ad r0) 13)) x6) < x1) (WP 100 242 [some (zr r0), some (zi x1), some (zi x2), some (zi x3), some (zr r4), some (zr r5), some (zi x6)] [zi (gI h (ad (gR h (ad r0) 13)) x6), zi x6, zr (gR h (ad r0) 13)] h Q) (WP 100 238 [some (zr r0), some (zi x1), some (zi x2), some (zi x3), some (zr r4), some (zr r5), some (zi x6)] [zi (gI h (ad (gR h (ad r0) 13)) x6), zi x6, zr (gR h (ad r0) 13)] h Q)))))) :=
  (WP_blk 11 100 219 _ _ h Q).trans rfl
theorem b_100_238 (r0 : Option Nat) (x1 : Int) (x2 : Int) (x3 : Int) (r4 : Option Nat) (r5 : Option Nat) (x6 : Int) (s0 : Int) (s1 : Int) (sr2 : Option Nat) (h : Zh) (Q : Zp) : WP 100 238 [some (zr r0), some (zi x1), some (zi x2), some (zi x3), some (zr r4), some (zr r5), some (zi x6)] [zi s0, zi s1, zr sr2] h Q = (WP 100 243 [some (zr r0), some (zi x1), some (zi x2), some (zi x3), some (zr r4), some (zr r5), some (zi x6)] [zi x2, zi s0, zi s1, zr sr2] h Q) :=
  (WP_blk 2 100 238 _ _ h Q).trans rfl
theorem b_100_242 (r0 : Option Nat) (x1 : Int) (x2 : Int) (x3 : Int) (r4 : Option Nat) (r5 : Option Nat) (x6 : Int) (s0 : Int) (s1 : Int) (sr2 : Option Nat) (h : Zh) (Q : Zp) : WP 100 242 [some (zr r0), some (zi x1), some (zi x2), some (zi x3), some (zr r4), some (zr r5), some (zi x6)] [zi s0, zi s1, zr sr2] h Q = (WP 100 243 [some (zr r0), some (zi x1), some (zi x2), some (zi x3), some (zr r4), some (zr r5), some (zi x6)] [zi (0 : Int), zi s0, zi s1, zr sr2] h Q) :=
  (WP_blk 1 100 242 _ _ h Q).trans rfl
theorem b_100_243 (r0 : Option Nat) (x1 : Int) (x2 : Int) (x3 : Int) (r4 : Option Nat) (r5 : Option Nat) (x6 : Int) (s0 : Int) (s1 : Int) (s2 : Int) (sr3 : Option Nat) (h : Zh) (Q : Zp) : WP 100 243 [some (zr r0), some (zi x1), some (zi x2), some (zi x3), some (zr r4), some (zr r5), some (zi x6)] [zi s0, zi s1, zi s2, zr sr3] h Q = (inR (s1 + s0) ∧ (ixa h sr3 10 s2 ∧ (WP 100 245 [some (zr r0), some (zi x1), some (zi x2), some (zi x3), some (zr r4), some (zr r5), some (zi x6)] [] (pI h (ad sr3) s2 (s1 + s0)) Q))) :=
  (WP_blk 2 100 243 _ _ h Q).trans rfl
theorem b_100_245 (r0 : Option Nat) (x1 : Int) (x2 : Int) (x3 : Int) (r4 : Option Nat) (r5 : Option Nat) (x6 : Int) (h : Zh) (Q : Zp) : WP 100 245 [some (zr r0), some (zi x1), some (zi x2), some (zi x3), some (zr r4), some (zr r5), some (zi x6)] [] h Q = (inR (x6 + 1) ∧ (WP 100 158 [some (zr r0), some (zi x1), some (zi x2), some (zi x3), some (zr r4), some (zr r5), some (zi (x6 + 1))] [] h Q)) :=
  (WP_blk 2 100 245 _ _ h Q).trans rfl
theorem b_100_251 (r0 : Option Nat) (x1 : Int) (x2 : Int) (x3 : Int) (r4 : Option Nat) (r5 : Option Nat) (x6 : Int) (h : Zh) (Q : Zp) : WP 100 251 [some (zr r0), some (zi x1), some (zi x2), some (zi x3), some (zr r4), some (zr r5), some (zi x6)] [] h Q = (Q (.inl none) h) :=
  (WP_blk 1 100 251 _ _ h Q).trans rfl
-- 101: MarginaliaModel.cut(II)V
theorem b_101_0 (r0 : Option Nat) (x1 : Int) (x2 : Int) (h : Zh) (Q : Zp) : WP 101 0 [some (zr r0), some (zi x1), some (zi x2), none, none, none] [] h Q = (kd h r0 7 ∧ (WP 97 0 [some (zr r0)] [] h (kont WP 101 1 [some (zr r0), some (zi x1), some (zi x2), none, none, none] [] [] Q))) :=
  (WP_blk 2 101 0 _ _ h Q).trans rfl
theorem b_101_4 (r0 : Option Nat) (x1 : Int) (x2 : Int) (sr0 : Option Nat) (h : Zh) (Q : Zp) : WP 101 4 [some (zr r0), some (zi x1), some (zi x2), none, none, none] [zr sr0] h Q = (kd h sr0 10 ∧ (inR ((gL h (ad sr0)) - x2) ∧ (((0 ≤ ((gL h (ad sr0)) - x2) ∧ ((gL h (ad sr0)) - x2) ≤ 1000000 ∧ gC h + 1 ≤ MXC ∧ gS h + Int.toNat ((gL h (ad sr0)) - x2) ≤ MXS) ∧ ∀ a, gK h a = 0 → WP 101 11 [some (zr r0), some (zi x1), some (zi x2), some (zr sr0), none, none] [zr (some a)] (nw h a 10 ((gL h (ad sr0)) - x2)) Q)))) :=
  (WP_blk 6 101 4 _ _ h Q).trans rfl
theorem b_101_11 (r0 : Option Nat) (x1 : Int) (x2 : Int) (r3 : Option Nat) (sr0 : Option Nat) (h : Zh) (Q : Zp) : WP 101 11 [some (zr r0), some (zi x1), some (zi x2), some (zr r3), none, none] [zr sr0] h Q = ((kd h r3 10 ∧ kd h sr0 10 ∧ 0 ≤ x1 ∧ 0 ≤ (0 : Int) ∧ 0 ≤ (0 : Int) ∧ (0 : Int) + x1 ≤ gL h (ad r3) ∧ (0 : Int) + x1 ≤ gL h (ad sr0)) ∧ (WP 101 22 [some (zr r0), some (zi x1), some (zi x2), some (zr r3), some (zr sr0), none] [] (cpy h (ad r3) (0 : Int) (ad sr0) (0 : Int) x1) Q)) :=
  (WP_blk 7 101 11 _ _ h Q).trans rfl
theorem b_101_22 (r0 : Option Nat) (x1 : Int) (x2 : Int) (r3 : Option Nat) (r4 : Option Nat) (h : Zh) (Q : Zp) : WP 101 22 [some (zr r0), some (zi x1), some (zi x2), some (zr r3), some (zr r4), none] [] h Q = (inR (x1 + x2) ∧ (kd h r4 10 ∧ (inR ((gL h (ad r4)) - x1) ∧ ((kd h r3 10 ∧ kd h r4 10 ∧ 0 ≤ ((gL h (ad r4)) - x1) ∧ 0 ≤ (x1 + x2) ∧ 0 ≤ x1 ∧ (x1 + x2) + ((gL h (ad r4)) - x1) ≤ gL h (ad r3) ∧ x1 + ((gL h (ad r4)) - x1) ≤ gL h (ad r4)) ∧ (WP 101 37 [some (zr r0), some (zi x1), some (zi x2), some (zr r3), some (zr r4), none] [] (cpy h (ad r3) (x1 + x2) (ad r4) x1 ((gL h (ad r4)) - x1)) Q))))) :=
  (WP_blk 11 101 22 _ _ h Q).trans rfl
theorem b_101_37 (r0 : Option Nat) (x1 : Int) (x2 : Int) (r3 : Option Nat) (r4 : Option Nat) (h : Zh) (Q : Zp) : WP 101 37 [some (zr r0), some (zi x1), some (zi x2), some (zr r3), some (zr r4), none] [] h Q = (kd h r0 7 ∧ (kd h r0 7 ∧ (inR ((gI h (ad r0) 6) + (1 : Int)) ∧ (kd h r0 7 ∧ (WP 101 52 [some (zr r0), some (zi x1), some (zi x2), some (zr r3), some (zr r4), none] [zi ((gI h (ad r0) 6) + (1 : Int)), zr (gR h (ad r0) 5)] (pI h (ad r0) 6 ((gI h (ad r0) 6) + (1 : Int))) Q))))) :=
  (WP_blk 9 101 37 _ _ h Q).trans rfl
theorem b_101_52 (r0 : Option Nat) (x1 : Int) (x2 : Int) (r3 : Option Nat) (r4 : Option Nat) (s0 : Int) (sr1 : Option Nat) (h : Zh) (Q : Zp) : WP 101 52 [some (zr r0), some (zi x1), some (zi x2), some (zr r3), some (zr r4), none] [zi s0, zr sr1] h Q = ((ixa h sr1 14 s0 ∧ kd h r4 10) ∧ (WP 101 55 [some (zr r0), some (zi x1), some (zi x2), some (zr r3), some (zr r4), none] [] (pR h (ad sr1) s0 r4) Q)) :=
  (WP_blk 2 101 52 _ _ h Q).trans rfl
theorem b_101_55 (r0 : Option Nat) (x1 : Int) (x2 : Int) (r3 : Option Nat) (r4 : Option Nat) (h : Zh) (Q : Zp) : WP 101 55 [some (zr r0), some (zi x1), some (zi x2), some (zr r3), some (zr r4), none] [] h Q = (WP 101 58 [some (zr r0), some (zi x1), some (zi x2), some (zr r3), some (zr r4), some (zi (0 : Int))] [] h Q) :=
  (WP_blk 2 101 55 _ _ h Q).trans rfl
theorem b_101_58 (r0 : Option Nat) (x1 : Int) (x2 : Int) (r3 : Option Nat) (r4 : Option Nat) (x5 : Int) (h : Zh) (Q : Zp) : WP 101 58 [some (zr r0), some (zi x1), some (zi x2), some (zr r3), some (zr r4), some (zi x5)] [] h Q = (kd h r0 7 ∧ (br ((gI h (ad r0) 7) ≤ x5) (WP 101 142 [some (zr r0), some (zi x1), some (zi x2), some (zr r3), some (zr r4), some (zi x5)] [] h Q) (WP 101 67 [some (zr r0), some (zi x1), some (zi x2), some (zr r3), some (zr r4), some (zi x5)] [] h Q))) :=
  (WP_blk 4 101 58 _ _ h Q).trans rfl
theorem b_101_67 (r0 : Option Nat) (x1 : Int) (x2 : Int) (r3 : Option Nat) (r4 : Option Nat) (x5 : Int) (h : Zh) (Q : Zp) : WP 101 67 [some (zr r0), some (zi x1), some (zi x2), some (zr r3), some (zr r4), some (zi x5)] [] h Q = (kd h r0 7 ∧ (ixa h (gR h (ad r0) 11) 10 x5 ∧ (br ((gI h (ad (gR h (ad r0) 11)) x5) = x5) (WP 101 82 [some (zr r0), some (zi x1), some (zi x2), some (zr r3), some (zr r4), some (zi x5)] [] h Q) (WP 101 79 [some (zr r0), some (zi x1), some (zi x2), some (zr r3), some (zr r4), some (zi x5)] [] h Q)))) :=
  (WP_blk 6 101 67 _ _ h Q).trans rfl
theorem b_101_79 (r0 : Option Nat) (x1 : Int) (x2 : Int) (r3 : Option Nat) (r4 : Option Nat) (x5 : Int) (h : Zh) (Q : Zp) : WP 101 79 [some (zr r0), some (zi x1), some (zi x2), some (zr r3), some (zr r4), some (zi x5)] [] h Q = (WP 101 136 [some (zr r0), some (zi x1), some (zi x2), some (zr r3), some (zr r4), some (zi x5)] [] h Q) :=
  (WP_blk 1 101 79 _ _ h Q).trans rfl
theorem b_101_82 (r0 : Option Nat) (x1 : Int) (x2 : Int) (r3 : Option Nat) (r4 : Option Nat) (x5 : Int) (h : Zh) (Q : Zp) : WP 101 82 [some (zr r0), some (zi x1), some (zi x2), some (zr r3), some (zr r4), some (zi x5)] [] h Q = (kd h r0 7 ∧ (ixa h (gR h (ad r0) 13) 10 x5 ∧ (kd h r0 7 ∧ (ixa h (gR h (ad r0) 13) 10 x5 ∧ (inR ((gI h (ad (gR h (ad r0) 13)) x5) - x1) ∧ (inR ((gI h (ad (gR h (ad r0) 13)) x5) - (if (0 : Int) < (if ((gI h (ad (gR h (ad r0) 13)) x5) - x1) < x2 then ((gI h (ad (gR h (ad r0) 13)) x5) - x1) else x2) then (if ((gI h (ad (gR h (ad r0) 13)) x5) - x1) < x2 then ((gI h (ad (gR h (ad r0) 13)) x5) - x1) else x2) else (0 : Int))) ∧ (ixa h (gR h (ad r0) 13) 10 x5 ∧ (WP 101 109 [some (zr r0), some (zi x1), some (zi x2), some (zr r3), some (zr r4), some (zi x5)] [] (pI h (ad (gR h (ad r0) 13)) x5 ((gI h (ad (gR h (ad r0) 13)) x5) - (if (0 : Int) < (if ((gI h (ad (gR h (ad r0) 13)) x5) - x1) < x2 then ((gI h (ad (gR h (ad r0) 13)) x5) - x1) else x2) then (if ((gI h (ad (gR h (ad r0) 13)) x5) - x1) < x2 then ((gI h (ad (gR h (ad r0) 13)) x5) - x1) else x2) else (0 : Int)))) Q)))))))) :=
  (WP_blk 17 101 82 _ _ h Q).trans rfl
theorem b_101_109 (r0 : Option Nat) (x1 : Int) (x2 : Int) (r3 : Option Nat) (r4 : Option Nat) (x5 : Int) (h : Zh) (Q : Zp) : WP 101 109 [some (zr r0), some (zi x1), some (zi x2), some (zr r3), some (zr r4), some (zi x5)] [] h Q = (kd h r0 7 ∧ (ixa h (gR h (ad r0) 14) 10 x5 ∧ (kd h r0 7 ∧ (ixa h (gR h (ad r0) 14) 10 x5 ∧ (inR ((gI h (ad (gR h (ad r0) 14)) x5) - x1) ∧ (inR ((gI h (ad (gR h (ad r0) 14)) x5) - (if (0 : Int) < (if ((gI h (ad (gR h (ad r0) 14)) x5) - x1) < x2 then ((gI h (ad (gR h (ad r0) 14)) x5) - x1) else x2) then (if ((gI h (ad (gR h (ad r0) 14)) x5) - x1) < x2 then ((gI h (ad (gR h (ad r0) 14)) x5) - x1) else x2) else (0 : Int))) ∧ (ixa h (gR h (ad r0) 14) 10 x5 ∧ (WP 101 136 [some (zr r0), some (zi x1), some (zi x2), some (zr r3), some (zr r4), some (zi x5)] [] (pI h (ad (gR h (ad r0) 14)) x5 ((gI h (ad (gR h (ad r0) 14)) x5) - (if (0 : Int) < (if ((gI h (ad (gR h (ad r0) 14)) x5) - x1) < x2 then ((gI h (ad (gR h (ad r0) 14)) x5) - x1) else x2) then (if ((gI h (ad (gR h (ad r0) 14)) x5) - x1) < x2 then ((gI h (ad (gR h (ad r0) 14)) x5) - x1) else x2) else (0 : Int)))) Q)))))))) :=
  (WP_blk 17 101 109 _ _ h Q).trans rfl
theorem b_101_136 (r0 : Option Nat) (x1 : Int) (x2 : Int) (r3 : Option Nat) (r4 : Option Nat) (x5 : Int) (h : Zh) (Q : Zp) : WP 101 136 [some (zr r0), some (zi x1), some (zi x2), some (zr r3), some (zr r4), some (zi x5)] [] h Q = (inR (x5 + 1) ∧ (WP 101 58 [some (zr r0), some (zi x1), some (zi x2), some (zr r3), some (zr r4), some (zi (x5 + 1))] [] h Q)) :=
  (WP_blk 2 101 136 _ _ h Q).trans rfl
theorem b_101_142 (r0 : Option Nat) (x1 : Int) (x2 : Int) (r3 : Option Nat) (r4 : Option Nat) (x5 : Int) (h : Zh) (Q : Zp) : WP 101 142 [some (zr r0), some (zi x1), some (zi x2), some (zr r3), some (zr r4), some (zi x5)] [] h Q = (Q (.inl none) h) :=
  (WP_blk 1 101 142 _ _ h Q).trans rfl
-- 102: MarginaliaModel.insert(IIII)I
theorem b_102_0 (r0 : Option Nat) (x1 : Int) (x2 : Int) (x3 : Int) (x4 : Int) (h : Zh) (Q : Zp) : WP 102 0 [some (zr r0), some (zi x1), some (zi x2), some (zi x3), some (zi x4)] [] h Q = (kd h r0 7 ∧ (WP 102 5 [some (zr r0), some (zi x1), some (zi x2), some (zi x3), some (zi x4)] [] (pI h (ad r0) 0 (0 : Int)) Q)) :=
  (WP_blk 3 102 0 _ _ h Q).trans rfl
theorem b_102_5 (r0 : Option Nat) (x1 : Int) (x2 : Int) (x3 : Int) (x4 : Int) (h : Zh) (Q : Zp) : WP 102 5 [some (zr r0), some (zi x1), some (zi x2), some (zi x3), some (zi x4)] [] h Q = (kd h r0 7 ∧ (WP 95 0 [some (zr r0), some (zi x1)] [] h (kont WP 102 7 [some (zr r0), some (zi x1), some (zi x2), some (zi x3), some (zi x4)] [] [] Q))) :=
  (WP_blk 3 102 5 _ _ h Q).trans rfl
theorem b_102_10 (r0 : Option Nat) (x1 : Int) (x2 : Int) (x3 : Int) (x4 : Int) (s0 : Int) (h : Zh) (Q : Zp) : WP 102 10 [some (zr r0), some (zi x1), some (zi x2), some (zi x3), some (zi x4)] [zi s0] h Q = (br (s0 = 0) (WP 102 26 [some (zr r0), some (zi x1), some (zi x2), some (zi x3), some (zi x4)] [] h Q) (WP 102 13 [some (zr r0), some (zi x1), some (zi x2), some (zi x3), some (zi x4)] [] h Q)) :=
  (WP_blk 1 102 10 _ _ h Q).trans rfl
theorem b_102_13 (r0 : Option Nat) (x1 : Int) (x2 : Int) (x3 : Int) (x4 : Int) (h : Zh) (Q : Zp) : WP 102 13 [some (zr r0), some (zi x1), some (zi x2), some (zi x3), some (zi x4)] [] h Q = (kd h r0 7 ∧ (WP 97 0 [some (zr r0)] [] h (kont WP 102 16 [some (zr r0), some (zi x1), some (zi x2), some (zi x3), some (zi x4)] [zi (0 : Int), zi x2] [] Q))) :=
  (WP_blk 4 102 13 _ _ h Q).trans rfl
theorem b_102_19 (r0 : Option Nat) (x1 : Int) (x2 : Int) (x3 : Int) (x4 : Int) (sr0 : Option Nat) (s1 : Int) (s2 : Int) (h : Zh) (Q : Zp) : WP 102 19 [some (zr r0), some (zi x1), some (zi x2), some (zi x3), some (zi x4)] [zr sr0, zi s1, zi s2] h Q = (kd h sr0 10 ∧ (WP 94 0 [some (zi s2), some (zi s1), some (zi (gL h (ad sr0)))] [] h (kont WP 102 20 [some (zr r0), some (zi x1), some (zi x2), some (zi x3), some (zi x4)] [] [] Q))) :=
  (WP_blk 2 102 19 _ _ h Q).trans rfl
theorem b_102_23 (r0 : Option Nat) (x1 : Int) (x2 : Int) (x3 : Int) (x4 : Int) (s0 : Int) (h : Zh) (Q : Zp) : WP 102 23 [some (zr r0), some (zi x1), some (zi x2), some (zi x3), some (zi x4)] [zi s0] h Q = (br (s0 = 0) (WP 102 26 [some (zr r0), some (zi x1), some (zi x2), some (zi x3), some (zi x4)] [] h Q) (WP 102 32 [some (zr r0), some (zi x1), some (zi x2), some (zi x3), some (zi x4)] [] h Q)) :=
  (WP_blk 1 102 23 _ _ h Q).trans rfl
theorem b_102_26 (r0 : Option Nat) (x1 : Int) (x2 : Int) (x3 : Int) (x4 : Int) (h : Zh) (Q : Zp) : WP 102 26 [some (zr r0), some (zi x1), some (zi x2), some (zi x3), some (zi x4)] [] h Q = (kd h r0 7 ∧ (WP 91 0 [some (zr r0), some (zi (1 : Int))] [] h (kont WP 102 28 [some (zr r0), some (zi x1), some (zi x2), some (zi x3), some (zi x4)] [] [] Q))) :=
  (WP_blk 3 102 26 _ _ h Q).trans rfl
theorem b_102_31 (r0 : Option Nat) (x1 : Int) (x2 : Int) (x3 : Int) (x4 : Int) (s0 : Int) (h : Zh) (Q : Zp) : WP 102 31 [some (zr r0), some (zi x1), some (zi x2), some (zi x3), some (zi x4)] [zi s0] h Q = (Q (.inl (some (zi s0))) h) :=
  (WP_blk 1 102 31 _ _ h Q).trans rfl
theorem b_102_32 (r0 : Option Nat) (x1 : Int) (x2 : Int) (x3 : Int) (x4 : Int) (h : Zh) (Q : Zp) : WP 102 32 [some (zr r0), some (zi x1), some (zi x2), some (zi x3), some (zi x4)] [] h Q = (WP 94 0 [some (zi x3), some (zi (1 : Int)), some (zi (40 : Int))] [] h (kont WP 102 36 [some (zr r0), some (zi x1), some (zi x2), some (zi x3), some (zi x4)] [] [] Q)) :=
  (WP_blk 4 102 32 _ _ h Q).trans rfl
theorem b_102_39 (r0 : Option Nat) (x1 : Int) (x2 : Int) (x3 : Int) (x4 : Int) (s0 : Int) (h : Zh) (Q : Zp) : WP 102 39 [some (zr r0), some (zi x1), some (zi x2), some (zi x3), some (zi x4)] [zi s0] h Q = (br (s0 = 0) (WP 102 53 [some (zr r0), some (zi x1), some (zi x2), some (zi x3), some (zi x4)] [] h Q) (WP 102 42 [some (zr r0), some (zi x1), some (zi x2), some (zi x3), some (zi x4)] [] h Q)) :=
  (WP_blk 1 102 39 _ _ h Q).trans rfl
theorem b_102_42 (r0 : Option Nat) (x1 : Int) (x2 : Int) (x3 : Int) (x4 : Int) (h : Zh) (Q : Zp) : WP 102 42 [some (zr r0), some (zi x1), some (zi x2), some (zi x3), some (zi x4)] [] h Q = (WP 94 0 [some (zi x4), some (zi (0 : Int)), some (zi (25 : Int))] [] h (kont WP 102 47 [some (zr r0), some (zi x1), some (zi x2), some (zi x3), some (zi x4)] [] [] Q)) :=
  (WP_blk 4 102 42 _ _ h Q).trans rfl
theorem b_102_50 (r0 : Option Nat) (x1 : Int) (x2 : Int) (x3 : Int) (x4 : Int) (s0 : Int) (h : Zh) (Q : Zp) : WP 102 50 [some (zr r0), some (zi x1), some (zi x2), some (zi x3), some (zi x4)] [zi s0] h Q = (br (s0 = 0) (WP 102 53 [some (zr r0), some (zi x1), some (zi x2), some (zi x3), some (zi x4)] [] h Q) (WP 102 59 [some (zr r0), some (zi x1), some (zi x2), some (zi x3), some (zi x4)] [] h Q)) :=
  (WP_blk 1 102 50 _ _ h Q).trans rfl
theorem b_102_53 (r0 : Option Nat) (x1 : Int) (x2 : Int) (x3 : Int) (x4 : Int) (h : Zh) (Q : Zp) : WP 102 53 [some (zr r0), some (zi x1), some (zi x2), some (zi x3), some (zi x4)] [] h Q = (kd h r0 7 ∧ (WP 91 0 [some (zr r0), some (zi (2 : Int))] [] h (kont WP 102 55 [some (zr r0), some (zi x1), some (zi x2), some (zi x3), some (zi x4)] [] [] Q))) :=
  (WP_blk 3 102 53 _ _ h Q).trans rfl
theorem b_102_58 (r0 : Option Nat) (x1 : Int) (x2 : Int) (x3 : Int) (x4 : Int) (s0 : Int) (h : Zh) (Q : Zp) : WP 102 58 [some (zr r0), some (zi x1), some (zi x2), some (zi x3), some (zi x4)] [zi s0] h Q = (Q (.inl (some (zi s0))) h) :=
  (WP_blk 1 102 58 _ _ h Q).trans rfl
theorem b_102_59 (r0 : Option Nat) (x1 : Int) (x2 : Int) (x3 : Int) (x4 : Int) (h : Zh) (Q : Zp) : WP 102 59 [some (zr r0), some (zi x1), some (zi x2), some (zi x3), some (zi x4)] [] h Q = (kd h r0 7 ∧ (ixa h (gR h (ad r0) 2) 10 x1 ∧ (br ((gI h (ad (gR h (ad r0) 2)) x1) < (3 : Int)) (WP 102 91 [some (zr r0), some (zi x1), some (zi x2), some (zi x3), some (zi x4)] [] h Q) (WP 102 69 [some (zr r0), some (zi x1), some (zi x2), some (zi x3), some (zi x4)] [] h Q)))) :=
  (WP_blk 6 102 59 _ _ h Q).trans rfl
theorem b_102_69 (r0 : Option Nat) (x1 : Int) (x2 : Int) (x3 : Int) (x4 : Int) (h : Zh) (Q : Zp) : WP 102 69 [some (zr r0), some (zi x1), some (zi x2), some (zi x3), some (zi x4)] [] h Q = (kd h r0 7 ∧ (WP 97 0 [some (zr r0)] [] h (kont WP 102 70 [some (zr r0), some (zi x1), some (zi x2), some (zi x3), some (zi x4)] [] [] Q))) :=
  (WP_blk 2 102 69 _ _ h Q).trans rfl
theorem b_102_73 (r0 : Option Nat) (x1 : Int) (x2 : Int) (x3 : Int) (x4 : Int) (sr0 : Option Nat) (h : Zh) (Q : Zp) : WP 102 73 [some (zr r0), some (zi x1), some (zi x2), some (zi x3), some (zi x4)] [zr sr0] h Q = (kd h sr0 10 ∧ (inR ((gL h (ad sr0)) + x3) ∧ (br ((200 : Int) < ((gL h (ad sr0)) + x3)) (WP 102 91 [some (zr r0), some (zi x1), some (zi x2), some (zi x3), some (zi x4)] [] h Q) (WP 102 82 [some (zr r0), some (zi x1), some (zi x2), some (zi x3), some (zi x4)] [] h Q)))) :=
  (WP_blk 5 102 73 _ _ h Q).trans rfl
theorem b_102_82 (r0 : Option Nat) (x1 : Int) (x2 : Int) (x3 : Int) (x4 : Int) (h : Zh) (Q : Zp) : WP 102 82 [some (zr r0), some (zi x1), some (zi x2), some (zi x3), some (zi x4)] [] h Q = (kd h r0 7 ∧ (br ((gI h (ad r0) 6) = (60 : Int)) (WP 102 91 [some (zr r0), some (zi x1), some (zi x2), some (zi x3), some (zi x4)] [] h Q) (WP 102 97 [some (zr r0), some (zi x1), some (zi x2), some (zi x3), some (zi x4)] [] h Q))) :=
  (WP_blk 4 102 82 _ _ h Q).trans rfl
theorem b_102_91 (r0 : Option Nat) (x1 : Int) (x2 : Int) (x3 : Int) (x4 : Int) (h : Zh) (Q : Zp) : WP 102 91 [some (zr r0), some (zi x1), some (zi x2), some (zi x3), some (zi x4)] [] h Q = (kd h r0 7 ∧ (WP 91 0 [some (zr r0), some (zi (3 : Int))] [] h (kont WP 102 93 [some (zr r0), some (zi x1), some (zi x2), some (zi x3), some (zi x4)] [] [] Q))) :=
  (WP_blk 3 102 91 _ _ h Q).trans rfl
theorem b_102_96 (r0 : Option Nat) (x1 : Int) (x2 : Int) (x3 : Int) (x4 : Int) (s0 : Int) (h : Zh) (Q : Zp) : WP 102 96 [some (zr r0), some (zi x1), some (zi x2), some (zi x3), some (zi x4)] [zi s0] h Q = (Q (.inl (some (zi s0))) h) :=
  (WP_blk 1 102 96 _ _ h Q).trans rfl
theorem b_102_97 (r0 : Option Nat) (x1 : Int) (x2 : Int) (x3 : Int) (x4 : Int) (h : Zh) (Q : Zp) : WP 102 97 [some (zr r0), some (zi x1), some (zi x2), some (zi x3), some (zi x4)] [] h Q = (kd h r0 7 ∧ (WP 100 0 [some (zr r0), some (zi x2), some (zi x3), some (zi x4), none, none, none] [] h (kont WP 102 102 [some (zr r0), some (zi x1), some (zi x2), some (zi x3), some (zi x4)] [] [] Q))) :=
  (WP_blk 5 102 97 _ _ h Q).trans rfl
theorem b_102_105 (r0 : Option Nat) (x1 : Int) (x2 : Int) (x3 : Int) (x4 : Int) (h : Zh) (Q : Zp) : WP 102 105 [some (zr r0), some (zi x1), some (zi x2), some (zi x3), some (zi x4)] [] h Q = (kd h r0 7 ∧ (WP 97 0 [some (zr r0)] [] h (kont WP 102 106 [some (zr r0), some (zi x1), some (zi x2), some (zi x3), some (zi x4)] [] [] Q))) :=
  (WP_blk 2 102 105 _ _ h Q).trans rfl
theorem b_102_109 (r0 : Option Nat) (x1 : Int) (x2 : Int) (x3 : Int) (x4 : Int) (sr0 : Option Nat) (h : Zh) (Q : Zp) : WP 102 109 [some (zr r0), some (zi x1), some (zi x2), some (zi x3), some (zi x4)] [zr sr0] h Q = (kd h sr0 10 ∧ (Q (.inl (some (zi (gL h (ad sr0))))) h)) :=
  (WP_blk 2 102 109 _ _ h Q).trans rfl
-- 103: MarginaliaModel.delete(III)I
theorem b_103_0 (r0 : Option Nat) (x1 : Int) (x2 : Int) (x3 : Int) (h : Zh) (Q : Zp) : WP 103 0 [some (zr r0), some (zi x1), some (zi x2), some (zi x3)] [] h Q = (kd h r0 7 ∧ (WP 103 5 [some (zr r0), some (zi x1), some (zi x2), some (zi x3)] [] (pI h (ad r0) 0 (0 : Int)) Q)) :=
  (WP_blk 3 103 0 _ _ h Q).trans rfl
theorem b_103_5 (r0 : Option Nat) (x1 : Int) (x2 : Int) (x3 : Int) (h : Zh) (Q : Zp) : WP 103 5 [some (zr r0), some (zi x1), some (zi x2), some (zi x3)] [] h Q = (kd h r0 7 ∧ (WP 95 0 [some (zr r0), some (zi x1)] [] h (kont WP 103 7 [some (zr r0), some (zi x1), some (zi x2), some (zi x3)] [] [] Q))) :=
  (WP_blk 3 103 5 _ _ h Q).trans rfl
theorem b_103_10 (r0 : Option Nat) (x1 : Int) (x2 : Int) (x3 : Int) (s0 : Int) (h : Zh) (Q : Zp) : WP 103 10 [some (zr r0), some (zi x1), some (zi x2), some (zi x3)] [zi s0] h Q = (br (s0 = 0) (WP 103 28 [some (zr r0), some (zi x1), some (zi x2), some (zi x3)] [] h Q) (WP 103 13 [some (zr r0), some (zi x1), some (zi x2), some (zi x3)] [] h Q)) :=
  (WP_blk 1 103 10 _ _ h Q).trans rfl
theorem b_103_13 (r0 : Option Nat) (x1 : Int) (x2 : Int) (x3 : Int) (h : Zh) (Q : Zp) : WP 103 13 [some (zr r0), some (zi x1), some (zi x2), some (zi x3)] [] h Q = (kd h r0 7 ∧ (WP 97 0 [some (zr r0)] [] h (kont WP 103 16 [some (zr r0), some (zi x1), some (zi x2), some (zi x3)] [zi (0 : Int), zi x2] [] Q))) :=
  (WP_blk 4 103 13 _ _ h Q).trans rfl
theorem b_103_19 (r0 : Option Nat) (x1 : Int) (x2 : Int) (x3 : Int) (sr0 : Option Nat) (s1 : Int) (s2 : Int) (h : Zh) (Q : Zp) : WP 103 19 [some (zr r0), some (zi x1), some (zi x2), some (zi x3)] [zr sr0, zi s1, zi s2] h Q = (kd h sr0 10 ∧ (inR ((gL h (ad sr0)) - (1 : Int)) ∧ (WP 94 0 [some (zi s2), some (zi s1), some (zi ((gL h (ad sr0)) - (1 : Int)))] [] h (kont WP 103 22 [some (zr r0), some (zi x1), some (zi x2), some (zi x3)] [] [] Q)))) :=
  (WP_blk 4 103 19 _ _ h Q).trans rfl
theorem b_103_25 (r0 : Option Nat) (x1 : Int) (x2 : Int) (x3 : Int) (s0 : Int) (h : Zh) (Q : Zp) : WP 103 25 [some (zr r0), some (zi x1), some (zi x2), some (zi x3)] [zi s0] h Q = (br (s0 = 0) (WP 103 28 [some (zr r0), some (zi x1), some (zi x2), some (zi x3)] [] h Q) (WP 103 34 [some (zr r0), some (zi x1), some (zi x2), some (zi x3)] [] h Q)) :=
  (WP_blk 1 103 25 _ _ h Q).trans rfl
theorem b_103_28 (r0 : Option Nat) (x1 : Int) (x2 : Int) (x3 : Int) (h : Zh) (Q : Zp) : WP 103 28 [some (zr r0), some (zi x1), some (zi x2), some (zi x3)] [] h Q = (kd h r0 7 ∧ (WP 91 0 [some (zr r0), some (zi (1 : Int))] [] h (kont WP 103 30 [some (zr r0), some (zi x1), some (zi x2), some (zi x3)] [] [] Q))) :=
  (WP_blk 3 103 28 _ _ h Q).trans rfl
theorem b_103_33 (r0 : Option Nat) (x1 : Int) (x2 : Int) (x3 : Int) (s0 : Int) (h : Zh) (Q : Zp) : WP 103 33 [some (zr r0), some (zi x1), some (zi x2), some (zi x3)] [zi s0] h Q = (Q (.inl (some (zi s0))) h) :=
  (WP_blk 1 103 33 _ _ h Q).trans rfl
theorem b_103_34 (r0 : Option Nat) (x1 : Int) (x2 : Int) (x3 : Int) (h : Zh) (Q : Zp) : WP 103 34 [some (zr r0), some (zi x1), some (zi x2), some (zi x3)] [] h Q = (kd h r0 7 ∧ (WP 97 0 [some (zr r0)] [] h (kont WP 103 37 [some (zr r0), some (zi x1), some (zi x2), some (zi x3)] [zi (1 : Int), zi x3] [] Q))) :=
  (WP_blk 4 103 34 _ _ h Q).trans rfl
theorem b_103_40 (r0 : Option Nat) (x1 : Int) (x2 : Int) (x3 : Int) (sr0 : Option Nat) (s1 : Int) (s2 : Int) (h : Zh) (Q : Zp) : WP 103 40 [some (zr r0), some (zi x1), some (zi x2), some (zi x3)] [zr sr0, zi s1, zi s2] h Q = (kd h sr0 10 ∧ (inR ((gL h (ad sr0)) - x2) ∧ (WP 94 0 [some (zi s2), some (zi s1), some (zi ((gL h (ad sr0)) - x2))] [] h (kont WP 103 43 [some (zr r0), some (zi x1), some (zi x2), some (zi x3)] [] [] Q)))) :=
  (WP_blk 4 103 40 _ _ h Q).trans rfl
theorem b_103_46 (r0 : Option Nat) (x1 : Int) (x2 : Int) (x3 : Int) (s0 : Int) (h : Zh) (Q : Zp) : WP 103 46 [some (zr r0), some (zi x1), some (zi x2), some (zi x3)] [zi s0] h Q = (br (s0 = 0) (WP 103 49 [some (zr r0), some (zi x1), some (zi x2), some (zi x3)] [] h Q) (WP 103 55 [some (zr r0), some (zi x1), some (zi x2), some (zi x3)] [] h Q)) :=
  (WP_blk 1 103 46 _ _ h Q).trans rfl
theorem b_103_49 (r0 : Option Nat) (x1 : Int) (x2 : Int) (x3 : Int) (h : Zh) (Q : Zp) : WP 103 49 [some (zr r0), some (zi x1), some (zi x2), some (zi x3)] [] h Q = (kd h r0 7 ∧ (WP 91 0 [some (zr r0), some (zi (2 : Int))] [] h (kont WP 103 51 [some (zr r0), some (zi x1), some (zi x2), some (zi x3)] [] [] Q))) :=
  (WP_blk 3 103 49 _ _ h Q).trans rfl
theorem b_103_54 (r0 : Option Nat) (x1 : Int) (x2 : Int) (x3 : Int) (s0 : Int) (h : Zh) (Q : Zp) : WP 103 54 [some (zr r0), some (zi x1), some (zi x2), some (zi x3)] [zi s0] h Q = (Q (.inl (some (zi s0))) h) :=
  (WP_blk 1 103 54 _ _ h Q).trans rfl
theorem b_103_55 (r0 : Option Nat) (x1 : Int) (x2 : Int) (x3 : Int) (h : Zh) (Q : Zp) : WP 103 55 [some (zr r0), some (zi x1), some (zi x2), some (zi x3)] [] h Q = (kd h r0 7 ∧ (ixa h (gR h (ad r0) 2) 10 x1 ∧ (br ((gI h (ad (gR h (ad r0) 2)) x1) < (3 : Int)) (WP 103 74 [some (zr r0), some (zi x1), some (zi x2), some (zi x3)] [] h Q) (WP 103 65 [some (zr r0), some (zi x1), some (zi x2), some (zi x3)] [] h Q)))) :=
  (WP_blk 6 103 55 _ _ h Q).trans rfl
theorem b_103_65 (r0 : Option Nat) (x1 : Int) (x2 : Int) (x3 : Int) (h : Zh) (Q : Zp) : WP 103 65 [some (zr r0), some (zi x1), some (zi x2), some (zi x3)] [] h Q = (kd h r0 7 ∧ (br ((gI h (ad r0) 6) = (60 : Int)) (WP 103 74 [some (zr r0), some (zi x1), some (zi x2), some (zi x3)] [] h Q) (WP 103 80 [some (zr r0), some (zi x1), some (zi x2), some (zi x3)] [] h Q))) :=
  (WP_blk 4 103 65 _ _ h Q).trans rfl
theorem b_103_74 (r0 : Option Nat) (x1 : Int) (x2 : Int) (x3 : Int) (h : Zh) (Q : Zp) : WP 103 74 [some (zr r0), some (zi x1), some (zi x2), some (zi x3)] [] h Q = (kd h r0 7 ∧ (WP 91 0 [some (zr r0), some (zi (3 : Int))] [] h (kont WP 103 76 [some (zr r0), some (zi x1), some (zi x2), some (zi x3)] [] [] Q))) :=
  (WP_blk 3 103 74 _ _ h Q).trans rfl
theorem b_103_79 (r0 : Option Nat) (x1 : Int) (x2 : Int) (x3 : Int) (s0 : Int) (h : Zh) (Q : Zp) : WP 103 79 [some (zr r0), some (zi x1), some (zi x2), some (zi x3)] [zi s0] h Q = (Q (.inl (some (zi s0))) h) :=
  (WP_blk 1 103 79 _ _ h Q).trans rfl
theorem b_103_80 (r0 : Option Nat) (x1 : Int) (x2 : Int) (x3 : Int) (h : Zh) (Q : Zp) : WP 103 80 [some (zr r0), some (zi x1), some (zi x2), some (zi x3)] [] h Q = (kd h r0 7 ∧ (WP 101 0 [some (zr r0), some (zi x2), some (zi x3), none, none, none] [] h (kont WP 103 83 [some (zr r0), some (zi x1), some (zi x2), some (zi x3)] [] [] Q))) :=
  (WP_blk 4 103 80 _ _ h Q).trans rfl
theorem b_103_86 (r0 : Option Nat) (x1 : Int) (x2 : Int) (x3 : Int) (h : Zh) (Q : Zp) : WP 103 86 [some (zr r0), some (zi x1), some (zi x2), some (zi x3)] [] h Q = (kd h r0 7 ∧ (WP 97 0 [some (zr r0)] [] h (kont WP 103 87 [some (zr r0), some (zi x1), some (zi x2), some (zi x3)] [] [] Q))) :=
  (WP_blk 2 103 86 _ _ h Q).trans rfl
theorem b_103_90 (r0 : Option Nat) (x1 : Int) (x2 : Int) (x3 : Int) (sr0 : Option Nat) (h : Zh) (Q : Zp) : WP 103 90 [some (zr r0), some (zi x1), some (zi x2), some (zi x3)] [zr sr0] h Q = (kd h sr0 10 ∧ (Q (.inl (some (zi (gL h (ad sr0))))) h)) :=
  (WP_blk 2 103 90 _ _ h Q).trans rfl
-- 104: MarginaliaModel.length()I
theorem b_104_0 (r0 : Option Nat) (h : Zh) (Q : Zp) : WP 104 0 [some (zr r0)] [] h Q = (kd h r0 7 ∧ (WP 97 0 [some (zr r0)] [] h (kont WP 104 2 [some (zr r0)] [zr r0] [] Q))) :=
  (WP_blk 3 104 0 _ _ h Q).trans rfl
theorem b_104_5 (r0 : Option Nat) (sr0 : Option Nat) (sr1 : Option Nat) (h : Zh) (Q : Zp) : WP 104 5 [some (zr r0)] [zr sr0, zr sr1] h Q = (kd h sr0 10 ∧ (kd h sr1 7 ∧ (WP 93 0 [some (zr sr1), some (zi (gL h (ad sr0)))] [] h (kont WP 104 6 [some (zr r0)] [] [] Q)))) :=
  (WP_blk 2 104 5 _ _ h Q).trans rfl
theorem b_104_9 (r0 : Option Nat) (s0 : Int) (h : Zh) (Q : Zp) : WP 104 9 [some (zr r0)] [zi s0] h Q = (Q (.inl (some (zi s0))) h) :=
  (WP_blk 1 104 9 _ _ h Q).trans rfl
-- 105: MarginaliaModel.sign(II)I
theorem b_105_0 (r0 : Option Nat) (x1 : Int) (x2 : Int) (h : Zh) (Q : Zp) : WP 105 0 [some (zr r0), some (zi x1), some (zi x2)] [] h Q = (kd h r0 7 ∧ (WP 105 5 [some (zr r0), some (zi x1), some (zi x2)] [] (pI h (ad r0) 0 (0 : Int)) Q)) :=
  (WP_blk 3 105 0 _ _ h Q).trans rfl
theorem b_105_5 (r0 : Option Nat) (x1 : Int) (x2 : Int) (h : Zh) (Q : Zp) : WP 105 5 [some (zr r0), some (zi x1), some (zi x2)] [] h Q = (kd h r0 7 ∧ (WP 94 0 [some (zi x1), some (zi (0 : Int)), some (zi (gI h (ad r0) 6))] [] h (kont WP 105 11 [some (zr r0), some (zi x1), some (zi x2)] [] [] Q))) :=
  (WP_blk 5 105 5 _ _ h Q).trans rfl
theorem b_105_14 (r0 : Option Nat) (x1 : Int) (x2 : Int) (s0 : Int) (h : Zh) (Q : Zp) : WP 105 14 [some (zr r0), some (zi x1), some (zi x2)] [zi s0] h Q = (br (s0 = 0) (WP 105 17 [some (zr r0), some (zi x1), some (zi x2)] [] h Q) (WP 105 23 [some (zr r0), some (zi x1), some (zi x2)] [] h Q)) :=
  (WP_blk 1 105 14 _ _ h Q).trans rfl
theorem b_105_17 (r0 : Option Nat) (x1 : Int) (x2 : Int) (h : Zh) (Q : Zp) : WP 105 17 [some (zr r0), some (zi x1), some (zi x2)] [] h Q = (kd h r0 7 ∧ (WP 91 0 [some (zr r0), some (zi (1 : Int))] [] h (kont WP 105 19 [some (zr r0), some (zi x1), some (zi x2)] [] [] Q))) :=
  (WP_blk 3 105 17 _ _ h Q).trans rfl
theorem b_105_22 (r0 : Option Nat) (x1 : Int) (x2 : Int) (s0 : Int) (h : Zh) (Q : Zp) : WP 105 22 [some (zr r0), some (zi x1), some (zi x2)] [zi s0] h Q = (Q (.inl (some (zi s0))) h) :=
  (WP_blk 1 105 22 _ _ h Q).trans rfl
theorem b_105_23 (r0 : Option Nat) (x1 : Int) (x2 : Int) (h : Zh) (Q : Zp) : WP 105 23 [some (zr r0), some (zi x1), some (zi x2)] [] h Q = (kd h r0 7 ∧ (ixa h (gR h (ad r0) 5) 14 x1 ∧ (kd h (gR h (ad (gR h (ad r0) 5)) x1) 10 ∧ (inR ((gL h (ad (gR h (ad (gR h (ad r0) 5)) x1))) - (1 : Int)) ∧ (WP 94 0 [some (zi x2), some (zi (0 : Int)), some (zi ((gL h (ad (gR h (ad (gR h (ad r0) 5)) x1))) - (1 : Int)))] [] h (kont WP 105 34 [some (zr r0), some (zi x1), some (zi x2)] [] [] Q)))))) :=
  (WP_blk 10 105 23 _ _ h Q).trans rfl
theorem b_105_37 (r0 : Option Nat) (x1 : Int) (x2 : Int) (s0 : Int) (h : Zh) (Q : Zp) : WP 105 37 [some (zr r0), some (zi x1), some (zi x2)] [zi s0] h Q = (br (s0 = 0) (WP 105 56 [some (zr r0), some (zi x1), some (zi x2)] [] h Q) (WP 105 40 [some (zr r0), some (zi x1), some (zi x2)] [] h Q)) :=
  (WP_blk 1 105 37 _ _ h Q).trans rfl
theorem b_105_40 (r0 : Option Nat) (x1 : Int) (x2 : Int) (h : Zh) (Q : Zp) : WP 105 40 [some (zr r0), some (zi x1), some (zi x2)] [] h Q = (kd h r0 7 ∧ (kd h r0 7 ∧ (ixa h (gR h (ad r0) 5) 14 x1 ∧ (ixa h (gR h (ad (gR h (ad r0) 5)) x1) 10 x2 ∧ (ixa h (gR h (ad r0) 4) 10 (gI h (ad (gR h (ad (gR h (ad r0) 5)) x1)) x2) ∧ (WP 105 57 [some (zr r0), some (zi x1), some (zi x2)] [zi (gI h (ad (gR h (ad r0) 4)) (gI h (ad (gR h (ad (gR h (ad r0) 5)) x1)) x2))] h Q)))))) :=
  (WP_blk 10 105 40 _ _ h Q).trans rfl
theorem b_105_56 (r0 : Option Nat) (x1 : Int) (x2 : Int) (h : Zh) (Q : Zp) : WP 105 56 [some (zr r0), some (zi x1), some (zi x2)] [] h Q = (WP 105 57 [some (zr r0), some (zi x1), some (zi x2)] [zi (-1 : Int)] h Q) :=
  (WP_blk 1 105 56 _ _ h Q).trans rfl
theorem b_105_57 (r0 : Option Nat) (x1 : Int) (x2 : Int) (s0 : Int) (h : Zh) (Q : Zp) : WP 105 57 [some (zr r0), some (zi x1), some (zi x2)] [zi s0] h Q = (Q (.inl (some (zi s0))) h) :=
  (WP_blk 1 105 57 _ _ h Q).trans rfl
-- 106: MarginaliaModel.now(II)I
theorem b_106_0 (r0 : Option Nat) (x1 : Int) (x2 : Int) (h : Zh) (Q : Zp) : WP 106 0 [some (zr r0), some (zi x1), some (zi x2), none] [] h Q = (kd h r0 7 ∧ (WP 106 5 [some (zr r0), some (zi x1), some (zi x2), none] [] (pI h (ad r0) 0 (0 : Int)) Q)) :=
  (WP_blk 3 106 0 _ _ h Q).trans rfl
theorem b_106_5 (r0 : Option Nat) (x1 : Int) (x2 : Int) (h : Zh) (Q : Zp) : WP 106 5 [some (zr r0), some (zi x1), some (zi x2), none] [] h Q = (kd h r0 7 ∧ (WP 94 0 [some (zi x1), some (zi (0 : Int)), some (zi (gI h (ad r0) 6))] [] h (kont WP 106 11 [some (zr r0), some (zi x1), some (zi x2), none] [] [] Q))) :=
  (WP_blk 5 106 5 _ _ h Q).trans rfl
theorem b_106_14 (r0 : Option Nat) (x1 : Int) (x2 : Int) (s0 : Int) (h : Zh) (Q : Zp) : WP 106 14 [some (zr r0), some (zi x1), some (zi x2), none] [zi s0] h Q = (br (s0 = 0) (WP 106 34 [some (zr r0), some (zi x1), some (zi x2), none] [] h Q) (WP 106 17 [some (zr r0), some (zi x1), some (zi x2), none] [] h Q)) :=
  (WP_blk 1 106 14 _ _ h Q).trans rfl
theorem b_106_17 (r0 : Option Nat) (x1 : Int) (x2 : Int) (h : Zh) (Q : Zp) : WP 106 17 [some (zr r0), some (zi x1), some (zi x2), none] [] h Q = (kd h r0 7 ∧ (ixa h (gR h (ad r0) 5) 14 x1 ∧ (kd h (gR h (ad (gR h (ad r0) 5)) x1) 10 ∧ (inR ((gL h (ad (gR h (ad (gR h (ad r0) 5)) x1))) - (1 : Int)) ∧ (WP 94 0 [some (zi x2), some (zi (0 : Int)), some (zi ((gL h (ad (gR h (ad (gR h (ad r0) 5)) x1))) - (1 : Int)))] [] h (kont WP 106 28 [some (zr r0), some (zi x1), some (zi x2), none] [] [] Q)))))) :=
  (WP_blk 10 106 17 _ _ h Q).trans rfl
theorem b_106_31 (r0 : Option Nat) (x1 : Int) (x2 : Int) (s0 : Int) (h : Zh) (Q : Zp) : WP 106 31 [some (zr r0), some (zi x1), some (zi x2), none] [zi s0] h Q = (br (s0 = 0) (WP 106 34 [some (zr r0), some (zi x1), some (zi x2), none] [] h Q) (WP 106 40 [some (zr r0), some (zi x1), some (zi x2), none] [] h Q)) :=
  (WP_blk 1 106 31 _ _ h Q).trans rfl
theorem b_106_34 (r0 : Option Nat) (x1 : Int) (x2 : Int) (h : Zh) (Q : Zp) : WP 106 34 [some (zr r0), some (zi x1), some (zi x2), none] [] h Q = (kd h r0 7 ∧ (WP 91 0 [some (zr r0), some (zi (1 : Int))] [] h (kont WP 106 36 [some (zr r0), some (zi x1), some (zi x2), none] [] [] Q))) :=
  (WP_blk 3 106 34 _ _ h Q).trans rfl
theorem b_106_39 (r0 : Option Nat) (x1 : Int) (x2 : Int) (s0 : Int) (h : Zh) (Q : Zp) : WP 106 39 [some (zr r0), some (zi x1), some (zi x2), none] [zi s0] h Q = (Q (.inl (some (zi s0))) h) :=
  (WP_blk 1 106 39 _ _ h Q).trans rfl
theorem b_106_40 (r0 : Option Nat) (x1 : Int) (x2 : Int) (h : Zh) (Q : Zp) : WP 106 40 [some (zr r0), some (zi x1), some (zi x2), none] [] h Q = (WP 106 42 [some (zr r0), some (zi x1), some (zi x2), some (zi (0 : Int))] [] h Q) :=
  (WP_blk 2 106 40 _ _ h Q).trans rfl
theorem b_106_42 (r0 : Option Nat) (x1 : Int) (x2 : Int) (x3 : Int) (h : Zh) (Q : Zp) : WP 106 42 [some (zr r0), some (zi x1), some (zi x2), some (zi x3)] [] h Q = (kd h r0 7 ∧ (WP 97 0 [some (zr r0)] [] h (kont WP 106 44 [some (zr r0), some (zi x1), some (zi x2), some (zi x3)] [zi x3] [] Q))) :=
  (WP_blk 3 106 42 _ _ h Q).trans rfl
theorem b_106_47 (r0 : Option Nat) (x1 : Int) (x2 : Int) (x3 : Int) (sr0 : Option Nat) (s1 : Int) (h : Zh) (Q : Zp) : WP 106 47 [some (zr r0), some (zi x1), some (zi x2), some (zi x3)] [zr sr0, zi s1] h Q = (kd h sr0 10 ∧ (br ((gL h (ad sr0)) ≤ s1) (WP 106 76 [some (zr r0), some (zi x1), some (zi x2), some (zi x3)] [] h Q) (WP 106 51 [some (zr r0), some (zi x1), some (zi x2), some (zi x3)] [] h Q))) :=
  (WP_blk 2 106 47 _ _ h Q).trans rfl
theorem b_106_51 (r0 : Option Nat) (x1 : Int) (x2 : Int) (x3 : Int) (h : Zh) (Q : Zp) : WP 106 51 [some (zr r0), some (zi x1), some (zi x2), some (zi x3)] [] h Q = (kd h r0 7 ∧ (WP 97 0 [some (zr r0)] [] h (kont WP 106 52 [some (zr r0), some (zi x1), some (zi x2), some (zi x3)] [] [] Q))) :=
  (WP_blk 2 106 51 _ _ h Q).trans rfl
theorem b_106_55 (r0 : Option Nat) (x1 : Int) (x2 : Int) (x3 : Int) (sr0 : Option Nat) (h : Zh) (Q : Zp) : WP 106 55 [some (zr r0), some (zi x1), some (zi x2), some (zi x3)] [zr sr0] h Q = (ixa h sr0 10 x3 ∧ (kd h r0 7 ∧ (ixa h (gR h (ad r0) 5) 14 x1 ∧ (ixa h (gR h (ad (gR h (ad r0) 5)) x1) 10 x2 ∧ (br ((gI h (ad sr0) x3) = (gI h (ad (gR h (ad (gR h (ad r0) 5)) x1)) x2)) (WP 106 68 [some (zr r0), some (zi x1), some (zi x2), some (zi x3)] [] h Q) (WP 106 70 [some (zr r0), some (zi x1), some (zi x2), some (zi x3)] [] h Q)))))) :=
  (WP_blk 9 106 55 _ _ h Q).trans rfl
theorem b_106_68 (r0 : Option Nat) (x1 : Int) (x2 : Int) (x3 : Int) (h : Zh) (Q : Zp) : WP 106 68 [some (zr r0), some (zi x1), some (zi x2), some (zi x3)] [] h Q = (Q (.inl (some (zi x3))) h) :=
  (WP_blk 2 106 68 _ _ h Q).trans rfl
theorem b_106_70 (r0 : Option Nat) (x1 : Int) (x2 : Int) (x3 : Int) (h : Zh) (Q : Zp) : WP 106 70 [some (zr r0), some (zi x1), some (zi x2), some (zi x3)] [] h Q = (inR (x3 + 1) ∧ (WP 106 42 [some (zr r0), some (zi x1), some (zi x2), some (zi (x3 + 1))] [] h Q)) :=
  (WP_blk 2 106 70 _ _ h Q).trans rfl
theorem b_106_76 (r0 : Option Nat) (x1 : Int) (x2 : Int) (x3 : Int) (h : Zh) (Q : Zp) : WP 106 76 [some (zr r0), some (zi x1), some (zi x2), some (zi x3)] [] h Q = (Q (.inl (some (zi (-1 : Int)))) h) :=
  (WP_blk 2 106 76 _ _ h Q).trans rfl
-- 107: MarginaliaModel.version()I
theorem b_107_0 (r0 : Option Nat) (h : Zh) (Q : Zp) : WP 107 0 [some (zr r0)] [] h Q = (kd h r0 7 ∧ (kd h r0 7 ∧ (WP 93 0 [some (zr r0), some (zi (gI h (ad r0) 6))] [] h (kont WP 107 5 [some (zr r0)] [] [] Q)))) :=
  (WP_blk 4 107 0 _ _ h Q).trans rfl
theorem b_107_8 (r0 : Option Nat) (s0 : Int) (h : Zh) (Q : Zp) : WP 107 8 [some (zr r0)] [zi s0] h Q = (Q (.inl (some (zi s0))) h) :=
  (WP_blk 1 107 8 _ _ h Q).trans rfl
-- 108: MarginaliaModel.seesBy(III)Z
theorem b_108_0 (r0 : Option Nat) (x1 : Int) (x2 : Int) (x3 : Int) (h : Zh) (Q : Zp) : WP 108 0 [some (zr r0), some (zi x1), some (zi x2), some (zi x3)] [] h Q = (br (x2 ≤ 0) (WP 108 48 [some (zr r0), some (zi x1), some (zi x2), some (zi x3)] [] h Q) (WP 108 4 [some (zr r0), some (zi x1), some (zi x2), some (zi x3)] [] h Q)) :=
  (WP_blk 2 108 0 _ _ h Q).trans rfl
theorem b_108_4 (r0 : Option Nat) (x1 : Int) (x2 : Int) (x3 : Int) (h : Zh) (Q : Zp) : WP 108 4 [some (zr r0), some (zi x1), some (zi x2), some (zi x3)] [] h Q = (kd h r0 7 ∧ (ixa h (gR h (ad r0) 15) 10 x3 ∧ (br ((gI h (ad (gR h (ad r0) 15)) x3) = (2 : Int)) (WP 108 44 [some (zr r0), some (zi x1), some (zi x2), some (zi x3)] [] h Q) (WP 108 14 [some (zr r0), some (zi x1), some (zi x2), some (zi x3)] [] h Q)))) :=
  (WP_blk 6 108 4 _ _ h Q).trans rfl
theorem b_108_14 (r0 : Option Nat) (x1 : Int) (x2 : Int) (x3 : Int) (h : Zh) (Q : Zp) : WP 108 14 [some (zr r0), some (zi x1), some (zi x2), some (zi x3)] [] h Q = (kd h r0 7 ∧ (ixa h (gR h (ad r0) 15) 10 x3 ∧ (br ((gI h (ad (gR h (ad r0) 15)) x3) = (1 : Int)) (WP 108 24 [some (zr r0), some (zi x1), some (zi x2), some (zi x3)] [] h Q) (WP 108 29 [some (zr r0), some (zi x1), some (zi x2), some (zi x3)] [] h Q)))) :=
  (WP_blk 6 108 14 _ _ h Q).trans rfl
theorem b_108_24 (r0 : Option Nat) (x1 : Int) (x2 : Int) (x3 : Int) (h : Zh) (Q : Zp) : WP 108 24 [some (zr r0), some (zi x1), some (zi x2), some (zi x3)] [] h Q = (br ((2 : Int) ≤ x2) (WP 108 44 [some (zr r0), some (zi x1), some (zi x2), some (zi x3)] [] h Q) (WP 108 29 [some (zr r0), some (zi x1), some (zi x2), some (zi x3)] [] h Q)) :=
  (WP_blk 3 108 24 _ _ h Q).trans rfl
theorem b_108_29 (r0 : Option Nat) (x1 : Int) (x2 : Int) (x3 : Int) (h : Zh) (Q : Zp) : WP 108 29 [some (zr r0), some (zi x1), some (zi x2), some (zi x3)] [] h Q = (kd h r0 7 ∧ (ixa h (gR h (ad r0) 8) 10 x3 ∧ (br ((gI h (ad (gR h (ad r0) 8)) x3) = x1) (WP 108 44 [some (zr r0), some (zi x1), some (zi x2), some (zi x3)] [] h Q) (WP 108 39 [some (zr r0), some (zi x1), some (zi x2), some (zi x3)] [] h Q)))) :=
  (WP_blk 6 108 29 _ _ h Q).trans rfl
theorem b_108_39 (r0 : Option Nat) (x1 : Int) (x2 : Int) (x3 : Int) (h : Zh) (Q : Zp) : WP 108 39 [some (zr r0), some (zi x1), some (zi x2), some (zi x3)] [] h Q = (br (x2 = (4 : Int)) (WP 108 44 [some (zr r0), some (zi x1), some (zi x2), some (zi x3)] [] h Q) (WP 108 48 [some (zr r0), some (zi x1), some (zi x2), some (zi x3)] [] h Q)) :=
  (WP_blk 3 108 39 _ _ h Q).trans rfl
theorem b_108_44 (r0 : Option Nat) (x1 : Int) (x2 : Int) (x3 : Int) (h : Zh) (Q : Zp) : WP 108 44 [some (zr r0), some (zi x1), some (zi x2), some (zi x3)] [] h Q = (WP 108 49 [some (zr r0), some (zi x1), some (zi x2), some (zi x3)] [zi (1 : Int)] h Q) :=
  (WP_blk 2 108 44 _ _ h Q).trans rfl
theorem b_108_48 (r0 : Option Nat) (x1 : Int) (x2 : Int) (x3 : Int) (h : Zh) (Q : Zp) : WP 108 48 [some (zr r0), some (zi x1), some (zi x2), some (zi x3)] [] h Q = (WP 108 49 [some (zr r0), some (zi x1), some (zi x2), some (zi x3)] [zi (0 : Int)] h Q) :=
  (WP_blk 1 108 48 _ _ h Q).trans rfl
theorem b_108_49 (r0 : Option Nat) (x1 : Int) (x2 : Int) (x3 : Int) (s0 : Int) (h : Zh) (Q : Zp) : WP 108 49 [some (zr r0), some (zi x1), some (zi x2), some (zi x3)] [zi s0] h Q = ((s0 = 0 ∨ s0 = 1) ∧ (Q (.inl (some (zi s0))) h)) :=
  (WP_blk 1 108 49 _ _ h Q).trans rfl
-- 109: MarginaliaModel.seesNow(II)Z
theorem b_109_0 (r0 : Option Nat) (x1 : Int) (x2 : Int) (h : Zh) (Q : Zp) : WP 109 0 [some (zr r0), some (zi x1), some (zi x2)] [] h Q = (kd h r0 7 ∧ (ixa h (gR h (ad r0) 2) 10 x1 ∧ (kd h r0 7 ∧ (ixa h (gR h (ad r0) 11) 10 x2 ∧ (kd h r0 7 ∧ (WP 108 0 [some (zr r0), some (zi x1), some (zi (gI h (ad (gR h (ad r0) 2)) x1)), some (zi (gI h (ad (gR h (ad r0) 11)) x2))] [] h (kont WP 109 14 [some (zr r0), some (zi x1), some (zi x2)] [] [] Q))))))) :=
  (WP_blk 11 109 0 _ _ h Q).trans rfl
theorem b_109_17 (r0 : Option Nat) (x1 : Int) (x2 : Int) (s0 : Int) (h : Zh) (Q : Zp) : WP 109 17 [some (zr r0), some (zi x1), some (zi x2)] [zi s0] h Q = ((s0 = 0 ∨ s0 = 1) ∧ (Q (.inl (some (zi s0))) h)) :=
  (WP_blk 1 109 17 _ _ h Q).trans rfl
-- 110: MarginaliaModel.may(III)Z
theorem b_110_0 (r0 : Option Nat) (x1 : Int) (x2 : Int) (x3 : Int) (h : Zh) (Q : Zp) : WP 110 0 [some (zr r0), some (zi x1), some (zi x2), some (zi x3)] [] h Q = (kd h r0 7 ∧ (ixa h (gR h (ad r0) 2) 10 x1 ∧ (br ((gI h (ad (gR h (ad r0) 2)) x1) < x3) (WP 110 23 [some (zr r0), some (zi x1), some (zi x2), some (zi x3)] [] h Q) (WP 110 10 [some (zr r0), some (zi x1), some (zi x2), some (zi x3)] [] h Q)))) :=
  (WP_blk 6 110 0 _ _ h Q).trans rfl
theorem b_110_10 (r0 : Option Nat) (x1 : Int) (x2 : Int) (x3 : Int) (h : Zh) (Q : Zp) : WP 110 10 [some (zr r0), some (zi x1), some (zi x2), some (zi x3)] [] h Q = (kd h r0 7 ∧ (WP 109 0 [some (zr r0), some (zi x1), some (zi x2)] [] h (kont WP 110 13 [some (zr r0), some (zi x1), some (zi x2), some (zi x3)] [] [] Q))) :=
  (WP_blk 4 110 10 _ _ h Q).trans rfl
theorem b_110_16 (r0 : Option Nat) (x1 : Int) (x2 : Int) (x3 : Int) (s0 : Int) (h : Zh) (Q : Zp) : WP 110 16 [some (zr r0), some (zi x1), some (zi x2), some (zi x3)] [zi s0] h Q = (br (s0 = 0) (WP 110 23 [some (zr r0), some (zi x1), some (zi x2), some (zi x3)] [] h Q) (WP 110 19 [some (zr r0), some (zi x1), some (zi x2), some (zi x3)] [] h Q)) :=
  (WP_blk 1 110 16 _ _ h Q).trans rfl
theorem b_110_19 (r0 : Option Nat) (x1 : Int) (x2 : Int) (x3 : Int) (h : Zh) (Q : Zp) : WP 110 19 [some (zr r0), some (zi x1), some (zi x2), some (zi x3)] [] h Q = (WP 110 24 [some (zr r0), some (zi x1), some (zi x2), some (zi x3)] [zi (1 : Int)] h Q) :=
  (WP_blk 2 110 19 _ _ h Q).trans rfl
theorem b_110_23 (r0 : Option Nat) (x1 : Int) (x2 : Int) (x3 : Int) (h : Zh) (Q : Zp) : WP 110 23 [some (zr r0), some (zi x1), some (zi x2), some (zi x3)] [] h Q = (WP 110 24 [some (zr r0), some (zi x1), some (zi x2), some (zi x3)] [zi (0 : Int)] h Q) :=
  (WP_blk 1 110 23 _ _ h Q).trans rfl
theorem b_110_24 (r0 : Option Nat) (x1 : Int) (x2 : Int) (x3 : Int) (s0 : Int) (h : Zh) (Q : Zp) : WP 110 24 [some (zr r0), some (zi x1), some (zi x2), some (zi x3)] [zi s0] h Q = ((s0 = 0 ∨ s0 = 1) ∧ (Q (.inl (some (zi s0))) h)) :=
  (WP_blk 1 110 24 _ _ h Q).trans rfl
-- 111: MarginaliaModel.add(III)I
theorem b_111_0 (r0 : Option Nat) (x1 : Int) (x2 : Int) (x3 : Int) (h : Zh) (Q : Zp) : WP 111 0 [some (zr r0), some (zi x1), some (zi x2), some (zi x3)] [] h Q = (kd h r0 7 ∧ (kd h r0 7 ∧ (ixa h (gR h (ad r0) 8) 10 (gI h (ad r0) 7) ∧ (WP 111 10 [some (zr r0), some (zi x1), some (zi x2), some (zi x3)] [] (pI h (ad (gR h (ad r0) 8)) (gI h (ad r0) 7) x1) Q)))) :=
  (WP_blk 6 111 0 _ _ h Q).trans rfl
theorem b_111_10 (r0 : Option Nat) (x1 : Int) (x2 : Int) (x3 : Int) (h : Zh) (Q : Zp) : WP 111 10 [some (zr r0), some (zi x1), some (zi x2), some (zi x3)] [] h Q = (kd h r0 7 ∧ (kd h r0 7 ∧ (ixa h (gR h (ad r0) 9) 10 (gI h (ad r0) 7) ∧ (WP 111 20 [some (zr r0), some (zi x1), some (zi x2), some (zi x3)] [] (pI h (ad (gR h (ad r0) 9)) (gI h (ad r0) 7) x2) Q)))) :=
  (WP_blk 6 111 10 _ _ h Q).trans rfl
theorem b_111_20 (r0 : Option Nat) (x1 : Int) (x2 : Int) (x3 : Int) (h : Zh) (Q : Zp) : WP 111 20 [some (zr r0), some (zi x1), some (zi x2), some (zi x3)] [] h Q = (kd h r0 7 ∧ (kd h r0 7 ∧ (ixa h (gR h (ad r0) 10) 10 (gI h (ad r0) 7) ∧ (WP 111 30 [some (zr r0), some (zi x1), some (zi x2), some (zi x3)] [] (pI h (ad (gR h (ad r0) 10)) (gI h (ad r0) 7) x3) Q)))) :=
  (WP_blk 6 111 20 _ _ h Q).trans rfl
theorem b_111_30 (r0 : Option Nat) (x1 : Int) (x2 : Int) (x3 : Int) (h : Zh) (Q : Zp) : WP 111 30 [some (zr r0), some (zi x1), some (zi x2), some (zi x3)] [] h Q = (kd h r0 7 ∧ (kd h r0 7 ∧ (br (x3 = (-1 : Int)) (WP 111 43 [some (zr r0), some (zi x1), some (zi x2), some (zi x3)] [zi (gI h (ad r0) 7), zr (gR h (ad r0) 11)] h Q) (WP 111 50 [some (zr r0), some (zi x1), some (zi x2), some (zi x3)] [zi (gI h (ad r0) 7), zr (gR h (ad r0) 11)] h Q)))) :=
  (WP_blk 7 111 30 _ _ h Q).trans rfl
theorem b_111_43 (r0 : Option Nat) (x1 : Int) (x2 : Int) (x3 : Int) (s0 : Int) (sr1 : Option Nat) (h : Zh) (Q : Zp) : WP 111 43 [some (zr r0), some (zi x1), some (zi x2), some (zi x3)] [zi s0, zr sr1] h Q = (kd h r0 7 ∧ (WP 111 56 [some (zr r0), some (zi x1), some (zi x2), some (zi x3)] [zi (gI h (ad r0) 7), zi s0, zr sr1] h Q)) :=
  (WP_blk 3 111 43 _ _ h Q).trans rfl
theorem b_111_50 (r0 : Option Nat) (x1 : Int) (x2 : Int) (x3 : Int) (s0 : Int) (sr1 : Option Nat) (h : Zh) (Q : Zp) : WP 111 50 [some (zr r0), some (zi x1), some (zi x2), some (zi x3)] [zi s0, zr sr1] h Q = (kd h r0 7 ∧ (ixa h (gR h (ad r0) 11) 10 x3 ∧ (WP 111 56 [some (zr r0), some (zi x1), some (zi x2), some (zi x3)] [zi (gI h (ad (gR h (ad r0) 11)) x3), zi s0, zr sr1] h Q))) :=
  (WP_blk 4 111 50 _ _ h Q).trans rfl
theorem b_111_56 (r0 : Option Nat) (x1 : Int) (x2 : Int) (x3 : Int) (s0 : Int) (s1 : Int) (sr2 : Option Nat) (h : Zh) (Q : Zp) : WP 111 56 [some (zr r0), some (zi x1), some (zi x2), some (zi x3)] [zi s0, zi s1, zr sr2] h Q = (ixa h sr2 10 s1 ∧ (WP 111 57 [some (zr r0), some (zi x1), some (zi x2), some (zi x3)] [] (pI h (ad sr2) s1 s0) Q)) :=
  (WP_blk 1 111 56 _ _ h Q).trans rfl
theorem b_111_57 (r0 : Option Nat) (x1 : Int) (x2 : Int) (x3 : Int) (h : Zh) (Q : Zp) : WP 111 57 [some (zr r0), some (zi x1), some (zi x2), some (zi x3)] [] h Q = (kd h r0 7 ∧ (inR ((gI h (ad r0) 7) + (1 : Int)) ∧ (kd h r0 7 ∧ (WP 111 68 [some (zr r0), some (zi x1), some (zi x2), some (zi x3)] [zi (gI h (ad r0) 7)] (pI h (ad r0) 7 ((gI h (ad r0) 7) + (1 : Int))) Q)))) :=
  (WP_blk 7 111 57 _ _ h Q).trans rfl
theorem b_111_68 (r0 : Option Nat) (x1 : Int) (x2 : Int) (x3 : Int) (s0 : Int) (h : Zh) (Q : Zp) : WP 111 68 [some (zr r0), some (zi x1), some (zi x2), some (zi x3)] [zi s0] h Q = (Q (.inl (some (zi s0))) h) :=
  (WP_blk 1 111 68 _ _ h Q).trans rfl
-- 112: MarginaliaModel.note(IIIII)I
theorem b_112_0 (r0 : Option Nat) (x1 : Int) (x2 : Int) (x3 : Int) (x4 : Int) (x5 : Int) (h : Zh) (Q : Zp) : WP 112 0 [some (zr r0), some (zi x1), some (zi x2), some (zi x3), some (zi x4), some (zi x5), none] [] h Q = (kd h r0 7 ∧ (WP 112 5 [some (zr r0), some (zi x1), some (zi x2), some (zi x3), some (zi x4), some (zi x5), none] [] (pI h (ad r0) 0 (0 : Int)) Q)) :=
  (WP_blk 3 112 0 _ _ h Q).trans rfl
theorem b_112_5 (r0 : Option Nat) (x1 : Int) (x2 : Int) (x3 : Int) (x4 : Int) (x5 : Int) (h : Zh) (Q : Zp) : WP 112 5 [some (zr r0), some (zi x1), some (zi x2), some (zi x3), some (zi x4), some (zi x5), none] [] h Q = (kd h r0 7 ∧ (WP 95 0 [some (zr r0), some (zi x1)] [] h (kont WP 112 7 [some (zr r0), some (zi x1), some (zi x2), some (zi x3), some (zi x4), some (zi x5), none] [] [] Q))) :=
  (WP_blk 3 112 5 _ _ h Q).trans rfl
theorem b_112_10 (r0 : Option Nat) (x1 : Int) (x2 : Int) (x3 : Int) (x4 : Int) (x5 : Int) (s0 : Int) (h : Zh) (Q : Zp) : WP 112 10 [some (zr r0), some (zi x1), some (zi x2), some (zi x3), some (zi x4), some (zi x5), none] [zi s0] h Q = (br (s0 = 0) (WP 112 13 [some (zr r0), some (zi x1), some (zi x2), some (zi x3), some (zi x4), some (zi x5), none] [] h Q) (WP 112 19 [some (zr r0), some (zi x1), some (zi x2), some (zi x3), some (zi x4), some (zi x5), none] [] h Q)) :=
  (WP_blk 1 112 10 _ _ h Q).trans rfl
theorem b_112_13 (r0 : Option Nat) (x1 : Int) (x2 : Int) (x3 : Int) (x4 : Int) (x5 : Int) (h : Zh) (Q : Zp) : WP 112 13 [some (zr r0), some (zi x1), some (zi x2), some (zi x3), some (zi x4), some (zi x5), none] [] h Q = (kd h r0 7 ∧ (WP 91 0 [some (zr r0), some (zi (1 : Int))] [] h (kont WP 112 15 [some (zr r0), some (zi x1), some (zi x2), some (zi x3), some (zi x4), some (zi x5), none] [] [] Q))) :=
  (WP_blk 3 112 13 _ _ h Q).trans rfl
theorem b_112_18 (r0 : Option Nat) (x1 : Int) (x2 : Int) (x3 : Int) (x4 : Int) (x5 : Int) (s0 : Int) (h : Zh) (Q : Zp) : WP 112 18 [some (zr r0), some (zi x1), some (zi x2), some (zi x3), some (zi x4), some (zi x5), none] [zi s0] h Q = (Q (.inl (some (zi s0))) h) :=
  (WP_blk 1 112 18 _ _ h Q).trans rfl
theorem b_112_19 (r0 : Option Nat) (x1 : Int) (x2 : Int) (x3 : Int) (x4 : Int) (x5 : Int) (h : Zh) (Q : Zp) : WP 112 19 [some (zr r0), some (zi x1), some (zi x2), some (zi x3), some (zi x4), some (zi x5), none] [] h Q = (br (x2 < 0) (WP 112 59 [some (zr r0), some (zi x1), some (zi x2), some (zi x3), some (zi x4), some (zi x5), none] [] h Q) (WP 112 23 [some (zr r0), some (zi x1), some (zi x2), some (zi x3), some (zi x4), some (zi x5), none] [] h Q)) :=
  (WP_blk 2 112 19 _ _ h Q).trans rfl
theorem b_112_23 (r0 : Option Nat) (x1 : Int) (x2 : Int) (x3 : Int) (x4 : Int) (x5 : Int) (h : Zh) (Q : Zp) : WP 112 23 [some (zr r0), some (zi x1), some (zi x2), some (zi x3), some (zi x4), some (zi x5), none] [] h Q = (br (x3 ≤ x2) (WP 112 59 [some (zr r0), some (zi x1), some (zi x2), some (zi x3), some (zi x4), some (zi x5), none] [] h Q) (WP 112 28 [some (zr r0), some (zi x1), some (zi x2), some (zi x3), some (zi x4), some (zi x5), none] [] h Q)) :=
  (WP_blk 3 112 23 _ _ h Q).trans rfl
theorem b_112_28 (r0 : Option Nat) (x1 : Int) (x2 : Int) (x3 : Int) (x4 : Int) (x5 : Int) (h : Zh) (Q : Zp) : WP 112 28 [some (zr r0), some (zi x1), some (zi x2), some (zi x3), some (zi x4), some (zi x5), none] [] h Q = (kd h r0 7 ∧ (WP 97 0 [some (zr r0)] [] h (kont WP 112 30 [some (zr r0), some (zi x1), some (zi x2), some (zi x3), some (zi x4), some (zi x5), none] [zi x3] [] Q))) :=
  (WP_blk 3 112 28 _ _ h Q).trans rfl
theorem b_112_33 (r0 : Option Nat) (x1 : Int) (x2 : Int) (x3 : Int) (x4 : Int) (x5 : Int) (sr0 : Option Nat) (s1 : Int) (h : Zh) (Q : Zp) : WP 112 33 [some (zr r0), some (zi x1), some (zi x2), some (zi x3), some (zi x4), some (zi x5), none] [zr sr0, zi s1] h Q = (kd h sr0 10 ∧ (br ((gL h (ad sr0)) < s1) (WP 112 59 [some (zr r0), some (zi x1), some (zi x2), some (zi x3), some (zi x4), some (zi x5), none] [] h Q) (WP 112 37 [some (zr r0), some (zi x1), some (zi x2), some (zi x3), some (zi x4), some (zi x5), none] [] h Q))) :=
  (WP_blk 2 112 33 _ _ h Q).trans rfl
theorem b_112_37 (r0 : Option Nat) (x1 : Int) (x2 : Int) (x3 : Int) (x4 : Int) (x5 : Int) (h : Zh) (Q : Zp) : WP 112 37 [some (zr r0), some (zi x1), some (zi x2), some (zi x3), some (zi x4), some (zi x5), none] [] h Q = (WP 94 0 [some (zi x4), some (zi (0 : Int)), some (zi (2 : Int))] [] h (kont WP 112 41 [some (zr r0), some (zi x1), some (zi x2), some (zi x3), some (zi x4), some (zi x5), none] [] [] Q)) :=
  (WP_blk 4 112 37 _ _ h Q).trans rfl
theorem b_112_44 (r0 : Option Nat) (x1 : Int) (x2 : Int) (x3 : Int) (x4 : Int) (x5 : Int) (s0 : Int) (h : Zh) (Q : Zp) : WP 112 44 [some (zr r0), some (zi x1), some (zi x2), some (zi x3), some (zi x4), some (zi x5), none] [zi s0] h Q = (br (s0 = 0) (WP 112 59 [some (zr r0), some (zi x1), some (zi x2), some (zi x3), some (zi x4), some (zi x5), none] [] h Q) (WP 112 47 [some (zr r0), some (zi x1), some (zi x2), some (zi x3), some (zi x4), some (zi x5), none] [] h Q)) :=
  (WP_blk 1 112 44 _ _ h Q).trans rfl
theorem b_112_47 (r0 : Option Nat) (x1 : Int) (x2 : Int) (x3 : Int) (x4 : Int) (x5 : Int) (h : Zh) (Q : Zp) : WP 112 47 [some (zr r0), some (zi x1), some (zi x2), some (zi x3), some (zi x4), some (zi x5), none] [] h Q = (WP 94 0 [some (zi x5), some (zi (0 : Int)), some (zi (999 : Int))] [] h (kont WP 112 53 [some (zr r0), some (zi x1), some (zi x2), some (zi x3), some (zi x4), some (zi x5), none] [] [] Q)) :=
  (WP_blk 4 112 47 _ _ h Q).trans rfl
theorem b_112_56 (r0 : Option Nat) (x1 : Int) (x2 : Int) (x3 : Int) (x4 : Int) (x5 : Int) (s0 : Int) (h : Zh) (Q : Zp) : WP 112 56 [some (zr r0), some (zi x1), some (zi x2), some (zi x3), some (zi x4), some (zi x5), none] [zi s0] h Q = (br (s0 = 0) (WP 112 59 [some (zr r0), some (zi x1), some (zi x2), some (zi x3), some (zi x4), some (zi x5), none] [] h Q) (WP 112 65 [some (zr r0), some (zi x1), some (zi x2), some (zi x3), some (zi x4), some (zi x5), none] [] h Q)) :=
  (WP_blk 1 112 56 _ _ h Q).trans rfl
theorem b_112_59 (r0 : Option Nat) (x1 : Int) (x2 : Int) (x3 : Int) (x4 : Int) (x5 : Int) (h : Zh) (Q : Zp) : WP 112 59 [some (zr r0), some (zi x1), some (zi x2), some (zi x3), some (zi x4), some (zi x5), none] [] h Q = (kd h r0 7 ∧ (WP 91 0 [some (zr r0), some (zi (2 : Int))] [] h (kont WP 112 61 [some (zr r0), some (zi x1), some (zi x2), some (zi x3), some (zi x4), some (zi x5), none] [] [] Q))) :=
  (WP_blk 3 112 59 _ _ h Q).trans rfl
theorem b_112_64 (r0 : Option Nat) (x1 : Int) (x2 : Int) (x3 : Int) (x4 : Int) (x5 : Int) (s0 : Int) (h : Zh) (Q : Zp) : WP 112 64 [some (zr r0), some (zi x1), some (zi x2), some (zi x3), some (zi x4), some (zi x5), none] [zi s0] h Q = (Q (.inl (some (zi s0))) h) :=
  (WP_blk 1 112 64 _ _ h Q).trans rfl
theorem b_112_65 (r0 : Option Nat) (x1 : Int) (x2 : Int) (x3 : Int) (x4 : Int) (x5 : Int) (h : Zh) (Q : Zp) : WP 112 65 [some (zr r0), some (zi x1), some (zi x2), some (zi x3), some (zi x4), some (zi x5), none] [] h Q = (kd h r0 7 ∧ (ixa h (gR h (ad r0) 2) 10 x1 ∧ (br ((gI h (ad (gR h (ad r0) 2)) x1) < (2 : Int)) (WP 112 84 [some (zr r0), some (zi x1), some (zi x2), some (zi x3), some (zi x4), some (zi x5), none] [] h Q) (WP 112 75 [some (zr r0), some (zi x1), some (zi x2), some (zi x3), some (zi x4), some (zi x5), none] [] h Q)))) :=
  (WP_blk 6 112 65 _ _ h Q).trans rfl
theorem b_112_75 (r0 : Option Nat) (x1 : Int) (x2 : Int) (x3 : Int) (x4 : Int) (x5 : Int) (h : Zh) (Q : Zp) : WP 112 75 [some (zr r0), some (zi x1), some (zi x2), some (zi x3), some (zi x4), some (zi x5), none] [] h Q = (kd h r0 7 ∧ (br ((gI h (ad r0) 7) = (60 : Int)) (WP 112 84 [some (zr r0), some (zi x1), some (zi x2), some (zi x3), some (zi x4), some (zi x5), none] [] h Q) (WP 112 90 [some (zr r0), some (zi x1), some (zi x2), some (zi x3), some (zi x4), some (zi x5), none] [] h Q))) :=
  (WP_blk 4 112 75 _ _ h Q).trans rfl
theorem b_112_84 (r0 : Option Nat) (x1 : Int) (x2 : Int) (x3 : Int) (x4 : Int) (x5 : Int) (h : Zh) (Q : Zp) : WP 112 84 [some (zr r0), some (zi x1), some (zi x2), some (zi x3), some (zi x4), some (zi x5), none] [] h Q = (kd h r0 7 ∧ (WP 91 0 [some (zr r0), some (zi (3 : Int))] [] h (kont WP 112 86 [some (zr r0), some (zi x1), some (zi x2), some (zi x3), some (zi x4), some (zi x5), none] [] [] Q))) :=
  (WP_blk 3 112 84 _ _ h Q).trans rfl
theorem b_112_89 (r0 : Option Nat) (x1 : Int) (x2 : Int) (x3 : Int) (x4 : Int) (x5 : Int) (s0 : Int) (h : Zh) (Q : Zp) : WP 112 89 [some (zr r0), some (zi x1), some (zi x2), some (zi x3), some (zi x4), some (zi x5), none] [zi s0] h Q = (Q (.inl (some (zi s0))) h) :=
  (WP_blk 1 112 89 _ _ h Q).trans rfl
theorem b_112_90 (r0 : Option Nat) (x1 : Int) (x2 : Int) (x3 : Int) (x4 : Int) (x5 : Int) (h : Zh) (Q : Zp) : WP 112 90 [some (zr r0), some (zi x1), some (zi x2), some (zi x3), some (zi x4), some (zi x5), none] [] h Q = (kd h r0 7 ∧ (kd h r0 7 ∧ (ixa h (gR h (ad r0) 13) 10 (gI h (ad r0) 7) ∧ (WP 112 100 [some (zr r0), some (zi x1), some (zi x2), some (zi x3), some (zi x4), some (zi x5), none] [] (pI h (ad (gR h (ad r0) 13)) (gI h (ad r0) 7) x2) Q)))) :=
  (WP_blk 6 112 90 _ _ h Q).trans rfl
theorem b_112_100 (r0 : Option Nat) (x1 : Int) (x2 : Int) (x3 : Int) (x4 : Int) (x5 : Int) (h : Zh) (Q : Zp) : WP 112 100 [some (zr r0), some (zi x1), some (zi x2), some (zi x3), some (zi x4), some (zi x5), none] [] h Q = (kd h r0 7 ∧ (kd h r0 7 ∧ (ixa h (gR h (ad r0) 14) 10 (gI h (ad r0) 7) ∧ (WP 112 110 [some (zr r0), some (zi x1), some (zi x2), some (zi x3), some (zi x4), some (zi x5), none] [] (pI h (ad (gR h (ad r0) 14)) (gI h (ad r0) 7) x3) Q)))) :=
  (WP_blk 6 112 100 _ _ h Q).trans rfl
theorem b_112_110 (r0 : Option Nat) (x1 : Int) (x2 : Int) (x3 : Int) (x4 : Int) (x5 : Int) (h : Zh) (Q : Zp) : WP 112 110 [some (zr r0), some (zi x1), some (zi x2), some (zi x3), some (zi x4), some (zi x5), none] [] h Q = (kd h r0 7 ∧ (kd h r0 7 ∧ (ixa h (gR h (ad r0) 15) 10 (gI h (ad r0) 7) ∧ (WP 112 121 [some (zr r0), some (zi x1), some (zi x2), some (zi x3), some (zi x4), some (zi x5), none] [] (pI h (ad (gR h (ad r0) 15)) (gI h (ad r0) 7) x4) Q)))) :=
  (WP_blk 6 112 110 _ _ h Q).trans rfl
theorem b_112_121 (r0 : Option Nat) (x1 : Int) (x2 : Int) (x3 : Int) (x4 : Int) (x5 : Int) (h : Zh) (Q : Zp) : WP 112 121 [some (zr r0), some (zi x1), some (zi x2), some (zi x3), some (zi x4), some (zi x5), none] [] h Q = (kd h r0 7 ∧ (kd h r0 7 ∧ (ixa h (gR h (ad r0) 16) 10 (gI h (ad r0) 7) ∧ (WP 112 131 [some (zr r0), some (zi x1), some (zi x2), some (zi x3), some (zi x4), some (zi x5), none] [] (pI h (ad (gR h (ad r0) 16)) (gI h (ad r0) 7) (-1 : Int)) Q)))) :=
  (WP_blk 6 112 121 _ _ h Q).trans rfl
theorem b_112_131 (r0 : Option Nat) (x1 : Int) (x2 : Int) (x3 : Int) (x4 : Int) (x5 : Int) (h : Zh) (Q : Zp) : WP 112 131 [some (zr r0), some (zi x1), some (zi x2), some (zi x3), some (zi x4), some (zi x5), none] [] h Q = (kd h r0 7 ∧ (kd h r0 7 ∧ (inR (x3 - x2) ∧ (((0 ≤ (if (x3 - x2) < (12 : Int) then (x3 - x2) else (12 : Int)) ∧ (if (x3 - x2) < (12 : Int) then (x3 - x2) else (12 : Int)) ≤ 1000000 ∧ gC h + 1 ≤ MXC ∧ gS h + Int.toNat (if (x3 - x2) < (12 : Int) then (x3 - x2) else (12 : Int)) ≤ MXS) ∧ ∀ a, gK h a = 0 → WP 112 149 [some (zr r0), some (zi x1), some (zi x2), some (zi x3), some (zi x4), some (zi x5), none] [zr (some a), zi (gI h (ad r0) 7), zr (gR h (ad r0) 19)] (nw h a 10 (if (x3 - x2) < (12 : Int) then (x3 - x2) else (12 : Int))) Q))))) :=
  (WP_blk 10 112 131 _ _ h Q).trans rfl
theorem b_112_149 (r0 : Option Nat) (x1 : Int) (x2 : Int) (x3 : Int) (x4 : Int) (x5 : Int) (sr0 : Option Nat) (s1 : Int) (sr2 : Option Nat) (h : Zh) (Q : Zp) : WP 112 149 [some (zr r0), some (zi x1), some (zi x2), some (zi x3), some (zi x4), some (zi x5), none] [zr sr0, zi s1, zr sr2] h Q = ((ixa h sr2 14 s1 ∧ kd h sr0 10) ∧ (WP 112 150 [some (zr r0), some (zi x1), some (zi x2), some (zi x3), some (zi x4), some (zi x5), none] [] (pR h (ad sr2) s1 sr0) Q)) :=
  (WP_blk 1 112 149 _ _ h Q).trans rfl
theorem b_112_150 (r0 : Option Nat) (x1 : Int) (x2 : Int) (x3 : Int) (x4 : Int) (x5 : Int) (h : Zh) (Q : Zp) : WP 112 150 [some (zr r0), some (zi x1), some (zi x2), some (zi x3), some (zi x4), some (zi x5), none] [] h Q = (WP 112 153 [some (zr r0), some (zi x1), some (zi x2), some (zi x3), some (zi x4), some (zi x5), some (zi (0 : Int))] [] h Q) :=
  (WP_blk 2 112 150 _ _ h Q).trans rfl
theorem b_112_153 (r0 : Option Nat) (x1 : Int) (x2 : Int) (x3 : Int) (x4 : Int) (x5 : Int) (x6 : Int) (h : Zh) (Q : Zp) : WP 112 153 [some (zr r0), some (zi x1), some (zi x2), some (zi x3), some (zi x4), some (zi x5), some (zi x6)] [] h Q = (kd h r0 7 ∧ (kd h r0 7 ∧ (ixa h (gR h (ad r0) 19) 14 (gI h (ad r0) 7) ∧ (kd h (gR h (ad (gR h (ad r0) 19)) (gI h (ad r0) 7)) 10 ∧ (br ((gL h (ad (gR h (ad (gR h (ad r0) 19)) (gI h (ad r0) 7)))) ≤ x6) (WP 112 200 [some (zr r0), some (zi x1), some (zi x2), some (zi x3), some (zi x4), some (zi x5), some (zi x6)] [] h Q) (WP 112 168 [some (zr r0), some (zi x1), some (zi x2), some (zi x3), some (zi x4), some (zi x5), some (zi x6)] [] h Q)))))) :=
  (WP_blk 8 112 153 _ _ h Q).trans rfl
theorem b_112_168 (r0 : Option Nat) (x1 : Int) (x2 : Int) (x3 : Int) (x4 : Int) (x5 : Int) (x6 : Int) (h : Zh) (Q : Zp) : WP 112 168 [some (zr r0), some (zi x1), some (zi x2), some (zi x3), some (zi x4), some (zi x5), some (zi x6)] [] h Q = (kd h r0 7 ∧ (kd h r0 7 ∧ (ixa h (gR h (ad r0) 19) 14 (gI h (ad r0) 7) ∧ (kd h r0 7 ∧ (kd h r0 7 ∧ (WP 97 0 [some (zr r0)] [] h (kont WP 112 184 [some (zr r0), some (zi x1), some (zi x2), some (zi x3), some (zi x4), some (zi x5), some (zi x6)] [zr (gR h (ad r0) 4), zi x6, zr (gR h (ad (gR h (ad r0) 19)) (gI h (ad r0) 7))] [] Q))))))) :=
  (WP_blk 10 112 168 _ _ h Q).trans rfl
theorem b_112_187 (r0 : Option Nat) (x1 : Int) (x2 : Int) (x3 : Int) (x4 : Int) (x5 : Int) (x6 : Int) (sr0 : Option Nat) (sr1 : Option Nat) (s2 : Int) (sr3 : Option Nat) (h : Zh) (Q : Zp) : WP 112 187 [some (zr r0), some (zi x1), some (zi x2), some (zi x3), some (zi x4), some (zi x5), some (zi x6)] [zr sr0, zr sr1, zi s2, zr sr3] h Q = (inR (x2 + x6) ∧ (ixa h sr0 10 (x2 + x6) ∧ (ixa h sr1 10 (gI h (ad sr0) (x2 + x6)) ∧ (ixa h sr3 10 s2 ∧ (WP 112 194 [some (zr r0), some (zi x1), some (zi x2), some (zi x3), some (zi x4), some (zi x5), some (zi x6)] [] (pI h (ad sr3) s2 (gI h (ad sr1) (gI h (ad sr0) (x2 + x6)))) Q))))) :=
  (WP_blk 6 112 187 _ _ h Q).trans rfl
theorem b_112_194 (r0 : Option Nat) (x1 : Int) (x2 : Int) (x3 : Int) (x4 : Int) (x5 : Int) (x6 : Int) (h : Zh) (Q : Zp) : WP 112 194 [some (zr r0), some (zi x1), some (zi x2), some (zi x3), some (zi x4), some (zi x5), some (zi x6)] [] h Q = (inR (x6 + 1) ∧ (WP 112 153 [some (zr r0), some (zi x1), some (zi x2), some (zi x3), some (zi x4), some (zi x5), some (zi (x6 + 1))] [] h Q)) :=
  (WP_blk 2 112 194 _ _ h Q).trans rfl
theorem b_112_200 (r0 : Option Nat) (x1 : Int) (x2 : Int) (x3 : Int) (x4 : Int) (x5 : Int) (x6 : Int) (h : Zh) (Q : Zp) : WP 112 200 [some (zr r0), some (zi x1), some (zi x2), some (zi x3), some (zi x4), some (zi x5), some (zi x6)] [] h Q = (kd h r0 7 ∧ (WP 111 0 [some (zr r0), some (zi x1), some (zi x5), some (zi (-1 : Int))] [] h (kont WP 112 205 [some (zr r0), some (zi x1), some (zi x2), some (zi x3), some (zi x4), some (zi x5), some (zi x6)] [] [] Q))) :=
  (WP_blk 5 112 200 _ _ h Q).trans rfl
theorem b_112_208 (r0 : Option Nat) (x1 : Int) (x2 : Int) (x3 : Int) (x4 : Int) (x5 : Int) (x6 : Int) (s0 : Int) (h : Zh) (Q : Zp) : WP 112 208 [some (zr r0), some (zi x1), some (zi x2), some (zi x3), some (zi x4), some (zi x5), some (zi x6)] [zi s0] h Q = (Q (.inl (some (zi s0))) h) :=
  (WP_blk 1 112 208 _ _ h Q).trans rfl
-- 113: MarginaliaModel.reply(III)I
theorem b_113_0 (r0 : Option Nat) (x1 : Int) (x2 : Int) (x3 : Int) (h : Zh) (Q : Zp) : WP 113 0 [some (zr r0), some (zi x1), some (zi x2), some (zi x3)] [] h Q = (kd h r0 7 ∧ (WP 113 5 [some (zr r0), some (zi x1), some (zi x2), some (zi x3)] [] (pI h (ad r0) 0 (0 : Int)) Q)) :=
  (WP_blk 3 113 0 _ _ h Q).trans rfl
theorem b_113_5 (r0 : Option Nat) (x1 : Int) (x2 : Int) (x3 : Int) (h : Zh) (Q : Zp) : WP 113 5 [some (zr r0), some (zi x1), some (zi x2), some (zi x3)] [] h Q = (kd h r0 7 ∧ (WP 95 0 [some (zr r0), some (zi x1)] [] h (kont WP 113 7 [some (zr r0), some (zi x1), some (zi x2), some (zi x3)] [] [] Q))) :=
  (WP_blk 3 113 5 _ _ h Q).trans rfl
theorem b_113_10 (r0 : Option Nat) (x1 : Int) (x2 : Int) (x3 : Int) (s0 : Int) (h : Zh) (Q : Zp) : WP 113 10 [some (zr r0), some (zi x1), some (zi x2), some (zi x3)] [zi s0] h Q = (br (s0 = 0) (WP 113 21 [some (zr r0), some (zi x1), some (zi x2), some (zi x3)] [] h Q) (WP 113 13 [some (zr r0), some (zi x1), some (zi x2), some (zi x3)] [] h Q)) :=
  (WP_blk 1 113 10 _ _ h Q).trans rfl
theorem b_113_13 (r0 : Option Nat) (x1 : Int) (x2 : Int) (x3 : Int) (h : Zh) (Q : Zp) : WP 113 13 [some (zr r0), some (zi x1), some (zi x2), some (zi x3)] [] h Q = (kd h r0 7 ∧ (WP 96 0 [some (zr r0), some (zi x2)] [] h (kont WP 113 15 [some (zr r0), some (zi x1), some (zi x2), some (zi x3)] [] [] Q))) :=
  (WP_blk 3 113 13 _ _ h Q).trans rfl
theorem b_113_18 (r0 : Option Nat) (x1 : Int) (x2 : Int) (x3 : Int) (s0 : Int) (h : Zh) (Q : Zp) : WP 113 18 [some (zr r0), some (zi x1), some (zi x2), some (zi x3)] [zi s0] h Q = (br (s0 = 0) (WP 113 21 [some (zr r0), some (zi x1), some (zi x2), some (zi x3)] [] h Q) (WP 113 27 [some (zr r0), some (zi x1), some (zi x2), some (zi x3)] [] h Q)) :=
  (WP_blk 1 113 18 _ _ h Q).trans rfl
theorem b_113_21 (r0 : Option Nat) (x1 : Int) (x2 : Int) (x3 : Int) (h : Zh) (Q : Zp) : WP 113 21 [some (zr r0), some (zi x1), some (zi x2), some (zi x3)] [] h Q = (kd h r0 7 ∧ (WP 91 0 [some (zr r0), some (zi (1 : Int))] [] h (kont WP 113 23 [some (zr r0), some (zi x1), some (zi x2), some (zi x3)] [] [] Q))) :=
  (WP_blk 3 113 21 _ _ h Q).trans rfl
theorem b_113_26 (r0 : Option Nat) (x1 : Int) (x2 : Int) (x3 : Int) (s0 : Int) (h : Zh) (Q : Zp) : WP 113 26 [some (zr r0), some (zi x1), some (zi x2), some (zi x3)] [zi s0] h Q = (Q (.inl (some (zi s0))) h) :=
  (WP_blk 1 113 26 _ _ h Q).trans rfl
theorem b_113_27 (r0 : Option Nat) (x1 : Int) (x2 : Int) (x3 : Int) (h : Zh) (Q : Zp) : WP 113 27 [some (zr r0), some (zi x1), some (zi x2), some (zi x3)] [] h Q = (WP 94 0 [some (zi x3), some (zi (0 : Int)), some (zi (999 : Int))] [] h (kont WP 113 32 [some (zr r0), some (zi x1), some (zi x2), some (zi x3)] [] [] Q)) :=
  (WP_blk 4 113 27 _ _ h Q).trans rfl
theorem b_113_35 (r0 : Option Nat) (x1 : Int) (x2 : Int) (x3 : Int) (s0 : Int) (h : Zh) (Q : Zp) : WP 113 35 [some (zr r0), some (zi x1), some (zi x2), some (zi x3)] [zi s0] h Q = (br (s0 = 0) (WP 113 38 [some (zr r0), some (zi x1), some (zi x2), some (zi x3)] [] h Q) (WP 113 44 [some (zr r0), some (zi x1), some (zi x2), some (zi x3)] [] h Q)) :=
  (WP_blk 1 113 35 _ _ h Q).trans rfl
theorem b_113_38 (r0 : Option Nat) (x1 : Int) (x2 : Int) (x3 : Int) (h : Zh) (Q : Zp) : WP 113 38 [some (zr r0), some (zi x1), some (zi x2), some (zi x3)] [] h Q = (kd h r0 7 ∧ (WP 91 0 [some (zr r0), some (zi (2 : Int))] [] h (kont WP 113 40 [some (zr r0), some (zi x1), some (zi x2), some (zi x3)] [] [] Q))) :=
  (WP_blk 3 113 38 _ _ h Q).trans rfl
theorem b_113_43 (r0 : Option Nat) (x1 : Int) (x2 : Int) (x3 : Int) (s0 : Int) (h : Zh) (Q : Zp) : WP 113 43 [some (zr r0), some (zi x1), some (zi x2), some (zi x3)] [zi s0] h Q = (Q (.inl (some (zi s0))) h) :=
  (WP_blk 1 113 43 _ _ h Q).trans rfl
theorem b_113_44 (r0 : Option Nat) (x1 : Int) (x2 : Int) (x3 : Int) (h : Zh) (Q : Zp) : WP 113 44 [some (zr r0), some (zi x1), some (zi x2), some (zi x3)] [] h Q = (kd h r0 7 ∧ (WP 110 0 [some (zr r0), some (zi x1), some (zi x2), some (zi (2 : Int))] [] h (kont WP 113 48 [some (zr r0), some (zi x1), some (zi x2), some (zi x3)] [] [] Q))) :=
  (WP_blk 5 113 44 _ _ h Q).trans rfl
theorem b_113_51 (r0 : Option Nat) (x1 : Int) (x2 : Int) (x3 : Int) (s0 : Int) (h : Zh) (Q : Zp) : WP 113 51 [some (zr r0), some (zi x1), some (zi x2), some (zi x3)] [zi s0] h Q = (br (s0 = 0) (WP 113 73 [some (zr r0), some (zi x1), some (zi x2), some (zi x3)] [] h Q) (WP 113 54 [some (zr r0), some (zi x1), some (zi x2), some (zi x3)] [] h Q)) :=
  (WP_blk 1 113 51 _ _ h Q).trans rfl
theorem b_113_54 (r0 : Option Nat) (x1 : Int) (x2 : Int) (x3 : Int) (h : Zh) (Q : Zp) : WP 113 54 [some (zr r0), some (zi x1), some (zi x2), some (zi x3)] [] h Q = (kd h r0 7 ∧ (ixa h (gR h (ad r0) 12) 10 x2 ∧ (br ((gI h (ad (gR h (ad r0) 12)) x2) = (1 : Int)) (WP 113 73 [some (zr r0), some (zi x1), some (zi x2), some (zi x3)] [] h Q) (WP 113 64 [some (zr r0), some (zi x1), some (zi x2), some (zi x3)] [] h Q)))) :=
  (WP_blk 6 113 54 _ _ h Q).trans rfl
theorem b_113_64 (r0 : Option Nat) (x1 : Int) (x2 : Int) (x3 : Int) (h : Zh) (Q : Zp) : WP 113 64 [some (zr r0), some (zi x1), some (zi x2), some (zi x3)] [] h Q = (kd h r0 7 ∧ (br ((gI h (ad r0) 7) = (60 : Int)) (WP 113 73 [some (zr r0), some (zi x1), some (zi x2), some (zi x3)] [] h Q) (WP 113 79 [some (zr r0), some (zi x1), some (zi x2), some (zi x3)] [] h Q))) :=
  (WP_blk 4 113 64 _ _ h Q).trans rfl
theorem b_113_73 (r0 : Option Nat) (x1 : Int) (x2 : Int) (x3 : Int) (h : Zh) (Q : Zp) : WP 113 73 [some (zr r0), some (zi x1), some (zi x2), some (zi x3)] [] h Q = (kd h r0 7 ∧ (WP 91 0 [some (zr r0), some (zi (3 : Int))] [] h (kont WP 113 75 [some (zr r0), some (zi x1), some (zi x2), some (zi x3)] [] [] Q))) :=
  (WP_blk 3 113 73 _ _ h Q).trans rfl
theorem b_113_78 (r0 : Option Nat) (x1 : Int) (x2 : Int) (x3 : Int) (s0 : Int) (h : Zh) (Q : Zp) : WP 113 78 [some (zr r0), some (zi x1), some (zi x2), some (zi x3)] [zi s0] h Q = (Q (.inl (some (zi s0))) h) :=
  (WP_blk 1 113 78 _ _ h Q).trans rfl
theorem b_113_79 (r0 : Option Nat) (x1 : Int) (x2 : Int) (x3 : Int) (h : Zh) (Q : Zp) : WP 113 79 [some (zr r0), some (zi x1), some (zi x2), some (zi x3)] [] h Q = (kd h r0 7 ∧ (kd h r0 7 ∧ (ixa h (gR h (ad r0) 11) 10 x2 ∧ ((ixa h (gR h (ad r0) 18) 12 (gI h (ad (gR h (ad r0) 11)) x2) ∧ ((0 : Int) = 0 ∨ (0 : Int) = 1)) ∧ (WP 113 91 [some (zr r0), some (zi x1), some (zi x2), some (zi x3)] [] (pI h (ad (gR h (ad r0) 18)) (gI h (ad (gR h (ad r0) 11)) x2) (0 : Int)) Q))))) :=
  (WP_blk 8 113 79 _ _ h Q).trans rfl
theorem b_113_91 (r0 : Option Nat) (x1 : Int) (x2 : Int) (x3 : Int) (h : Zh) (Q : Zp) : WP 113 91 [some (zr r0), some (zi x1), some (zi x2), some (zi x3)] [] h Q = (kd h r0 7 ∧ (WP 111 0 [some (zr r0), some (zi x1), some (zi x3), some (zi x2)] [] h (kont WP 113 95 [some (zr r0), some (zi x1), some (zi x2), some (zi x3)] [] [] Q))) :=
  (WP_blk 5 113 91 _ _ h Q).trans rfl
theorem b_113_98 (r0 : Option Nat) (x1 : Int) (x2 : Int) (x3 : Int) (s0 : Int) (h : Zh) (Q : Zp) : WP 113 98 [some (zr r0), some (zi x1), some (zi x2), some (zi x3)] [zi s0] h Q = (Q (.inl (some (zi s0))) h) :=
  (WP_blk 1 113 98 _ _ h Q).trans rfl
-- 114: MarginaliaModel.settle(IIZ)Z
theorem b_114_0 (r0 : Option Nat) (x1 : Int) (x2 : Int) (x3 : Int) (h : Zh) (Q : Zp) : WP 114 0 [some (zr r0), some (zi x1), some (zi x2), some (zi x3), none] [] h Q = (kd h r0 7 ∧ (WP 114 5 [some (zr r0), some (zi x1), some (zi x2), some (zi x3), none] [] (pI h (ad r0) 0 (0 : Int)) Q)) :=
  (WP_blk 3 114 0 _ _ h Q).trans rfl
theorem b_114_5 (r0 : Option Nat) (x1 : Int) (x2 : Int) (x3 : Int) (h : Zh) (Q : Zp) : WP 114 5 [some (zr r0), some (zi x1), some (zi x2), some (zi x3), none] [] h Q = (kd h r0 7 ∧ (WP 95 0 [some (zr r0), some (zi x1)] [] h (kont WP 114 7 [some (zr r0), some (zi x1), some (zi x2), some (zi x3), none] [] [] Q))) :=
  (WP_blk 3 114 5 _ _ h Q).trans rfl
theorem b_114_10 (r0 : Option Nat) (x1 : Int) (x2 : Int) (x3 : Int) (s0 : Int) (h : Zh) (Q : Zp) : WP 114 10 [some (zr r0), some (zi x1), some (zi x2), some (zi x3), none] [zi s0] h Q = (br (s0 = 0) (WP 114 21 [some (zr r0), some (zi x1), some (zi x2), some (zi x3), none] [] h Q) (WP 114 13 [some (zr r0), some (zi x1), some (zi x2), some (zi x3), none] [] h Q)) :=
  (WP_blk 1 114 10 _ _ h Q).trans rfl
theorem b_114_13 (r0 : Option Nat) (x1 : Int) (x2 : Int) (x3 : Int) (h : Zh) (Q : Zp) : WP 114 13 [some (zr r0), some (zi x1), some (zi x2), some (zi x3), none] [] h Q = (kd h r0 7 ∧ (WP 96 0 [some (zr r0), some (zi x2)] [] h (kont WP 114 15 [some (zr r0), some (zi x1), some (zi x2), some (zi x3), none] [] [] Q))) :=
  (WP_blk 3 114 13 _ _ h Q).trans rfl
theorem b_114_18 (r0 : Option Nat) (x1 : Int) (x2 : Int) (x3 : Int) (s0 : Int) (h : Zh) (Q : Zp) : WP 114 18 [some (zr r0), some (zi x1), some (zi x2), some (zi x3), none] [zi s0] h Q = (br (s0 = 0) (WP 114 21 [some (zr r0), some (zi x1), some (zi x2), some (zi x3), none] [] h Q) (WP 114 27 [some (zr r0), some (zi x1), some (zi x2), some (zi x3), none] [] h Q)) :=
  (WP_blk 1 114 18 _ _ h Q).trans rfl
theorem b_114_21 (r0 : Option Nat) (x1 : Int) (x2 : Int) (x3 : Int) (h : Zh) (Q : Zp) : WP 114 21 [some (zr r0), some (zi x1), some (zi x2), some (zi x3), none] [] h Q = (kd h r0 7 ∧ (WP 92 0 [some (zr r0), some (zi (1 : Int))] [] h (kont WP 114 23 [some (zr r0), some (zi x1), some (zi x2), some (zi x3), none] [] [] Q))) :=
  (WP_blk 3 114 21 _ _ h Q).trans rfl
theorem b_114_26 (r0 : Option Nat) (x1 : Int) (x2 : Int) (x3 : Int) (s0 : Int) (h : Zh) (Q : Zp) : WP 114 26 [some (zr r0), some (zi x1), some (zi x2), some (zi x3), none] [zi s0] h Q = ((s0 = 0 ∨ s0 = 1) ∧ (Q (.inl (some (zi s0))) h)) :=
  (WP_blk 1 114 26 _ _ h Q).trans rfl
theorem b_114_27 (r0 : Option Nat) (x1 : Int) (x2 : Int) (x3 : Int) (h : Zh) (Q : Zp) : WP 114 27 [some (zr r0), some (zi x1), some (zi x2), some (zi x3), none] [] h Q = (kd h r0 7 ∧ (kd h r0 7 ∧ (ixa h (gR h (ad r0) 11) 10 x2 ∧ (ixa h (gR h (ad r0) 8) 10 (gI h (ad (gR h (ad r0) 11)) x2) ∧ (br ((gI h (ad (gR h (ad r0) 8)) (gI h (ad (gR h (ad r0) 11)) x2)) = x1) (WP 114 45 [some (zr r0), some (zi x1), some (zi x2), some (zi x3), none] [zi x2, zi x1, zr r0] h Q) (WP 114 49 [some (zr r0), some (zi x1), some (zi x2), some (zi x3), none] [zi x2, zi x1, zr r0] h Q)))))) :=
  (WP_blk 12 114 27 _ _ h Q).trans rfl
theorem b_114_45 (r0 : Option Nat) (x1 : Int) (x2 : Int) (x3 : Int) (s0 : Int) (s1 : Int) (sr2 : Option Nat) (h : Zh) (Q : Zp) : WP 114 45 [some (zr r0), some (zi x1), some (zi x2), some (zi x3), none] [zi s0, zi s1, zr sr2] h Q = (WP 114 50 [some (zr r0), some (zi x1), some (zi x2), some (zi x3), none] [zi (1 : Int), zi s0, zi s1, zr sr2] h Q) :=
  (WP_blk 2 114 45 _ _ h Q).trans rfl
theorem b_114_49 (r0 : Option Nat) (x1 : Int) (x2 : Int) (x3 : Int) (s0 : Int) (s1 : Int) (sr2 : Option Nat) (h : Zh) (Q : Zp) : WP 114 49 [some (zr r0), some (zi x1), some (zi x2), some (zi x3), none] [zi s0, zi s1, zr sr2] h Q = (WP 114 50 [some (zr r0), some (zi x1), some (zi x2), some (zi x3), none] [zi (3 : Int), zi s0, zi s1, zr sr2] h Q) :=
  (WP_blk 1 114 49 _ _ h Q).trans rfl
theorem b_114_50 (r0 : Option Nat) (x1 : Int) (x2 : Int) (x3 : Int) (s0 : Int) (s1 : Int) (s2 : Int) (sr3 : Option Nat) (h : Zh) (Q : Zp) : WP 114 50 [some (zr r0), some (zi x1), some (zi x2), some (zi x3), none] [zi s0, zi s1, zi s2, zr sr3] h Q = (kd h sr3 7 ∧ (WP 110 0 [some (zr sr3), some (zi s2), some (zi s1), some (zi s0)] [] h (kont WP 114 50 [some (zr r0), some (zi x1), some (zi x2), some (zi x3), none] [] [] Q))) :=
  (WP_blk 1 114 50 _ _ h Q).trans rfl
theorem b_114_53 (r0 : Option Nat) (x1 : Int) (x2 : Int) (x3 : Int) (s0 : Int) (h : Zh) (Q : Zp) : WP 114 53 [some (zr r0), some (zi x1), some (zi x2), some (zi x3), none] [zi s0] h Q = (br (s0 = 0) (WP 114 56 [some (zr r0), some (zi x1), some (zi x2), some (zi x3), none] [] h Q) (WP 114 62 [some (zr r0), some (zi x1), some (zi x2), some (zi x3), none] [] h Q)) :=
  (WP_blk 1 114 53 _ _ h Q).trans rfl
theorem b_114_56 (r0 : Option Nat) (x1 : Int) (x2 : Int) (x3 : Int) (h : Zh) (Q : Zp) : WP 114 56 [some (zr r0), some (zi x1), some (zi x2), some (zi x3), none] [] h Q = (kd h r0 7 ∧ (WP 92 0 [some (zr r0), some (zi (2 : Int))] [] h (kont WP 114 58 [some (zr r0), some (zi x1), some (zi x2), some (zi x3), none] [] [] Q))) :=
  (WP_blk 3 114 56 _ _ h Q).trans rfl
theorem b_114_61 (r0 : Option Nat) (x1 : Int) (x2 : Int) (x3 : Int) (s0 : Int) (h : Zh) (Q : Zp) : WP 114 61 [some (zr r0), some (zi x1), some (zi x2), some (zi x3), none] [zi s0] h Q = ((s0 = 0 ∨ s0 = 1) ∧ (Q (.inl (some (zi s0))) h)) :=
  (WP_blk 1 114 61 _ _ h Q).trans rfl
theorem b_114_62 (r0 : Option Nat) (x1 : Int) (x2 : Int) (x3 : Int) (h : Zh) (Q : Zp) : WP 114 62 [some (zr r0), some (zi x1), some (zi x2), some (zi x3), none] [] h Q = (kd h r0 7 ∧ (kd h r0 7 ∧ (ixa h (gR h (ad r0) 11) 10 x2 ∧ (ixa h (gR h (ad r0) 18) 12 (gI h (ad (gR h (ad r0) 11)) x2) ∧ (kd h r0 7 ∧ (kd h r0 7 ∧ (ixa h (gR h (ad r0) 11) 10 x2 ∧ ((ixa h (gR h (ad r0) 18) 12 (gI h (ad (gR h (ad r0) 11)) x2) ∧ (x3 = 0 ∨ x3 = 1)) ∧ (WP 114 87 [some (zr r0), some (zi x1), some (zi x2), some (zi x3), some (zi (gI h (ad (gR h (ad r0) 18)) (gI h (ad (gR h (ad r0) 11)) x2)))] [] (pI h (ad (gR h (ad r0) 18)) (gI h (ad (gR h (ad r0) 11)) x2) x3) Q))))))))) :=
  (WP_blk 16 114 62 _ _ h Q).trans rfl
theorem b_114_87 (r0 : Option Nat) (x1 : Int) (x2 : Int) (x3 : Int) (x4 : Int) (h : Zh) (Q : Zp) : WP 114 87 [some (zr r0), some (zi x1), some (zi x2), some (zi x3), some (zi x4)] [] h Q = ((x4 = 0 ∨ x4 = 1) ∧ (Q (.inl (some (zi x4))) h)) :=
  (WP_blk 2 114 87 _ _ h Q).trans rfl
-- 115: MarginaliaModel.replies(I)I
theorem b_115_0 (r0 : Option Nat) (x1 : Int) (h : Zh) (Q : Zp) : WP 115 0 [some (zr r0), some (zi x1), none, none] [] h Q = (inR (x1 + (1 : Int)) ∧ (WP 115 6 [some (zr r0), some (zi x1), some (zi (0 : Int)), some (zi (x1 + (1 : Int)))] [] h Q)) :=
  (WP_blk 6 115 0 _ _ h Q).trans rfl
theorem b_115_6 (r0 : Option Nat) (x1 : Int) (x2 : Int) (x3 : Int) (h : Zh) (Q : Zp) : WP 115 6 [some (zr r0), some (zi x1), some (zi x2), some (zi x3)] [] h Q = (kd h r0 7 ∧ (br ((gI h (ad r0) 7) ≤ x3) (WP 115 48 [some (zr r0), some (zi x1), some (zi x2), some (zi x3)] [] h Q) (WP 115 14 [some (zr r0), some (zi x1), some (zi x2), some (zi x3)] [] h Q))) :=
  (WP_blk 4 115 6 _ _ h Q).trans rfl
theorem b_115_14 (r0 : Option Nat) (x1 : Int) (x2 : Int) (x3 : Int) (h : Zh) (Q : Zp) : WP 115 14 [some (zr r0), some (zi x1), some (zi x2), some (zi x3)] [] h Q = (kd h r0 7 ∧ (ixa h (gR h (ad r0) 10) 10 x3 ∧ (br ((gI h (ad (gR h (ad r0) 10)) x3) = x1) (WP 115 25 [some (zr r0), some (zi x1), some (zi x2), some (zi x3)] [zi x2] h Q) (WP 115 39 [some (zr r0), some (zi x1), some (zi x2), some (zi x3)] [zi x2] h Q)))) :=
  (WP_blk 7 115 14 _ _ h Q).trans rfl
theorem b_115_25 (r0 : Option Nat) (x1 : Int) (x2 : Int) (x3 : Int) (s0 : Int) (h : Zh) (Q : Zp) : WP 115 25 [some (zr r0), some (zi x1), some (zi x2), some (zi x3)] [zi s0] h Q = (kd h r0 7 ∧ (ixa h (gR h (ad r0) 12) 10 x3 ∧ (br ((gI h (ad (gR h (ad r0) 12)) x3) = (2 : Int)) (WP 115 39 [some (zr r0), some (zi x1), some (zi x2), some (zi x3)] [zi s0] h Q) (WP 115 35 [some (zr r0), some (zi x1), some (zi x2), some (zi x3)] [zi s0] h Q)))) :=
  (WP_blk 6 115 25 _ _ h Q).trans rfl
theorem b_115_35 (r0 : Option Nat) (x1 : Int) (x2 : Int) (x3 : Int) (s0 : Int) (h : Zh) (Q : Zp) : WP 115 35 [some (zr r0), some (zi x1), some (zi x2), some (zi x3)] [zi s0] h Q = (WP 115 40 [some (zr r0), some (zi x1), some (zi x2), some (zi x3)] [zi (1 : Int), zi s0] h Q) :=
  (WP_blk 2 115 35 _ _ h Q).trans rfl
theorem b_115_39 (r0 : Option Nat) (x1 : Int) (x2 : Int) (x3 : Int) (s0 : Int) (h : Zh) (Q : Zp) : WP 115 39 [some (zr r0), some (zi x1), some (zi x2), some (zi x3)] [zi s0] h Q = (WP 115 40 [some (zr r0), some (zi x1), some (zi x2), some (zi x3)] [zi (0 : Int), zi s0] h Q) :=
  (WP_blk 1 115 39 _ _ h Q).trans rfl
theorem b_115_40 (r0 : Option Nat) (x1 : Int) (x2 : Int) (x3 : Int) (s0 : Int) (s1 : Int) (h : Zh) (Q : Zp) : WP 115 40 [some (zr r0), some (zi x1), some (zi x2), some (zi x3)] [zi s0, zi s1] h Q = (inR (s1 + s0) ∧ (inR (x3 + 1) ∧ (WP 115 6 [some (zr r0), some (zi x1), some (zi (s1 + s0)), some (zi (x3 + 1))] [] h Q))) :=
  (WP_blk 4 115 40 _ _ h Q).trans rfl
theorem b_115_48 (r0 : Option Nat) (x1 : Int) (x2 : Int) (x3 : Int) (h : Zh) (Q : Zp) : WP 115 48 [some (zr r0), some (zi x1), some (zi x2), some (zi x3)] [] h Q = (Q (.inl (some (zi x2))) h) :=
  (WP_blk 2 115 48 _ _ h Q).trans rfl
-- 116: MarginaliaModel.remove(II)I
theorem b_116_0 (r0 : Option Nat) (x1 : Int) (x2 : Int) (h : Zh) (Q : Zp) : WP 116 0 [some (zr r0), some (zi x1), some (zi x2), none, none] [] h Q = (kd h r0 7 ∧ (WP 116 5 [some (zr r0), some (zi x1), some (zi x2), none, none] [] (pI h (ad r0) 0 (0 : Int)) Q)) :=
  (WP_blk 3 116 0 _ _ h Q).trans rfl
theorem b_116_5 (r0 : Option Nat) (x1 : Int) (x2 : Int) (h : Zh) (Q : Zp) : WP 116 5 [some (zr r0), some (zi x1), some (zi x2), none, none] [] h Q = (kd h r0 7 ∧ (WP 95 0 [some (zr r0), some (zi x1)] [] h (kont WP 116 7 [some (zr r0), some (zi x1), some (zi x2), none, none] [] [] Q))) :=
  (WP_blk 3 116 5 _ _ h Q).trans rfl
theorem b_116_10 (r0 : Option Nat) (x1 : Int) (x2 : Int) (s0 : Int) (h : Zh) (Q : Zp) : WP 116 10 [some (zr r0), some (zi x1), some (zi x2), none, none] [zi s0] h Q = (br (s0 = 0) (WP 116 21 [some (zr r0), some (zi x1), some (zi x2), none, none] [] h Q) (WP 116 13 [some (zr r0), some (zi x1), some (zi x2), none, none] [] h Q)) :=
  (WP_blk 1 116 10 _ _ h Q).trans rfl
theorem b_116_13 (r0 : Option Nat) (x1 : Int) (x2 : Int) (h : Zh) (Q : Zp) : WP 116 13 [some (zr r0), some (zi x1), some (zi x2), none, none] [] h Q = (kd h r0 7 ∧ (WP 96 0 [some (zr r0), some (zi x2)] [] h (kont WP 116 15 [some (zr r0), some (zi x1), some (zi x2), none, none] [] [] Q))) :=
  (WP_blk 3 116 13 _ _ h Q).trans rfl
theorem b_116_18 (r0 : Option Nat) (x1 : Int) (x2 : Int) (s0 : Int) (h : Zh) (Q : Zp) : WP 116 18 [some (zr r0), some (zi x1), some (zi x2), none, none] [zi s0] h Q = (br (s0 = 0) (WP 116 21 [some (zr r0), some (zi x1), some (zi x2), none, none] [] h Q) (WP 116 27 [some (zr r0), some (zi x1), some (zi x2), none, none] [] h Q)) :=
  (WP_blk 1 116 18 _ _ h Q).trans rfl
theorem b_116_21 (r0 : Option Nat) (x1 : Int) (x2 : Int) (h : Zh) (Q : Zp) : WP 116 21 [some (zr r0), some (zi x1), some (zi x2), none, none] [] h Q = (kd h r0 7 ∧ (WP 91 0 [some (zr r0), some (zi (1 : Int))] [] h (kont WP 116 23 [some (zr r0), some (zi x1), some (zi x2), none, none] [] [] Q))) :=
  (WP_blk 3 116 21 _ _ h Q).trans rfl
theorem b_116_26 (r0 : Option Nat) (x1 : Int) (x2 : Int) (s0 : Int) (h : Zh) (Q : Zp) : WP 116 26 [some (zr r0), some (zi x1), some (zi x2), none, none] [zi s0] h Q = (Q (.inl (some (zi s0))) h) :=
  (WP_blk 1 116 26 _ _ h Q).trans rfl
theorem b_116_27 (r0 : Option Nat) (x1 : Int) (x2 : Int) (h : Zh) (Q : Zp) : WP 116 27 [some (zr r0), some (zi x1), some (zi x2), none, none] [] h Q = (kd h r0 7 ∧ (ixa h (gR h (ad r0) 8) 10 x2 ∧ (br ((gI h (ad (gR h (ad r0) 8)) x2) = x1) (WP 116 40 [some (zr r0), some (zi x1), some (zi x2), none, none] [zi x2, zi x1, zr r0] h Q) (WP 116 44 [some (zr r0), some (zi x1), some (zi x2), none, none] [zi x2, zi x1, zr r0] h Q)))) :=
  (WP_blk 9 116 27 _ _ h Q).trans rfl
theorem b_116_40 (r0 : Option Nat) (x1 : Int) (x2 : Int) (s0 : Int) (s1 : Int) (sr2 : Option Nat) (h : Zh) (Q : Zp) : WP 116 40 [some (zr r0), some (zi x1), some (zi x2), none, none] [zi s0, zi s1, zr sr2] h Q = (WP 116 45 [some (zr r0), some (zi x1), some (zi x2), none, none] [zi (1 : Int), zi s0, zi s1, zr sr2] h Q) :=
  (WP_blk 2 116 40 _ _ h Q).trans rfl
theorem b_116_44 (r0 : Option Nat) (x1 : Int) (x2 : Int) (s0 : Int) (s1 : Int) (sr2 : Option Nat) (h : Zh) (Q : Zp) : WP 116 44 [some (zr r0), some (zi x1), some (zi x2), none, none] [zi s0, zi s1, zr sr2] h Q = (WP 116 45 [some (zr r0), some (zi x1), some (zi x2), none, none] [zi (4 : Int), zi s0, zi s1, zr sr2] h Q) :=
  (WP_blk 1 116 44 _ _ h Q).trans rfl
theorem b_116_45 (r0 : Option Nat) (x1 : Int) (x2 : Int) (s0 : Int) (s1 : Int) (s2 : Int) (sr3 : Option Nat) (h : Zh) (Q : Zp) : WP 116 45 [some (zr r0), some (zi x1), some (zi x2), none, none] [zi s0, zi s1, zi s2, zr sr3] h Q = (kd h sr3 7 ∧ (WP 110 0 [some (zr sr3), some (zi s2), some (zi s1), some (zi s0)] [] h (kont WP 116 45 [some (zr r0), some (zi x1), some (zi x2), none, none] [] [] Q))) :=
  (WP_blk 1 116 45 _ _ h Q).trans rfl
theorem b_116_48 (r0 : Option Nat) (x1 : Int) (x2 : Int) (s0 : Int) (h : Zh) (Q : Zp) : WP 116 48 [some (zr r0), some (zi x1), some (zi x2), none, none] [zi s0] h Q = (br (s0 = 0) (WP 116 61 [some (zr r0), some (zi x1), some (zi x2), none, none] [] h Q) (WP 116 51 [some (zr r0), some (zi x1), some (zi x2), none, none] [] h Q)) :=
  (WP_blk 1 116 48 _ _ h Q).trans rfl
theorem b_116_51 (r0 : Option Nat) (x1 : Int) (x2 : Int) (h : Zh) (Q : Zp) : WP 116 51 [some (zr r0), some (zi x1), some (zi x2), none, none] [] h Q = (kd h r0 7 ∧ (ixa h (gR h (ad r0) 12) 10 x2 ∧ (br ((gI h (ad (gR h (ad r0) 12)) x2) = (1 : Int)) (WP 116 61 [some (zr r0), some (zi x1), some (zi x2), none, none] [] h Q) (WP 116 67 [some (zr r0), some (zi x1), some (zi x2), none, none] [] h Q)))) :=
  (WP_blk 6 116 51 _ _ h Q).trans rfl
theorem b_116_61 (r0 : Option Nat) (x1 : Int) (x2 : Int) (h : Zh) (Q : Zp) : WP 116 61 [some (zr r0), some (zi x1), some (zi x2), none, none] [] h Q = (kd h r0 7 ∧ (WP 91 0 [some (zr r0), some (zi (2 : Int))] [] h (kont WP 116 63 [some (zr r0), some (zi x1), some (zi x2), none, none] [] [] Q))) :=
  (WP_blk 3 116 61 _ _ h Q).trans rfl
theorem b_116_66 (r0 : Option Nat) (x1 : Int) (x2 : Int) (s0 : Int) (h : Zh) (Q : Zp) : WP 116 66 [some (zr r0), some (zi x1), some (zi x2), none, none] [zi s0] h Q = (Q (.inl (some (zi s0))) h) :=
  (WP_blk 1 116 66 _ _ h Q).trans rfl
theorem b_116_67 (r0 : Option Nat) (x1 : Int) (x2 : Int) (h : Zh) (Q : Zp) : WP 116 67 [some (zr r0), some (zi x1), some (zi x2), none, none] [] h Q = (kd h r0 7 ∧ (ixa h (gR h (ad r0) 12) 10 x2 ∧ (WP 116 74 [some (zr r0), some (zi x1), some (zi x2), none, none] [] (pI h (ad (gR h (ad r0) 12)) x2 (1 : Int)) Q))) :=
  (WP_blk 5 116 67 _ _ h Q).trans rfl
theorem b_116_74 (r0 : Option Nat) (x1 : Int) (x2 : Int) (h : Zh) (Q : Zp) : WP 116 74 [some (zr r0), some (zi x1), some (zi x2), none, none] [] h Q = (WP 116 79 [some (zr r0), some (zi x1), some (zi x2), some (zi (0 : Int)), some (zi x2)] [] h Q) :=
  (WP_blk 4 116 74 _ _ h Q).trans rfl
theorem b_116_79 (r0 : Option Nat) (x1 : Int) (x2 : Int) (x3 : Int) (x4 : Int) (h : Zh) (Q : Zp) : WP 116 79 [some (zr r0), some (zi x1), some (zi x2), some (zi x3), some (zi x4)] [] h Q = (br (x4 = (-1 : Int)) (WP 116 128 [some (zr r0), some (zi x1), some (zi x2), some (zi x3), some (zi x4)] [] h Q) (WP 116 85 [some (zr r0), some (zi x1), some (zi x2), some (zi x3), some (zi x4)] [] h Q)) :=
  (WP_blk 3 116 79 _ _ h Q).trans rfl
theorem b_116_85 (r0 : Option Nat) (x1 : Int) (x2 : Int) (x3 : Int) (x4 : Int) (h : Zh) (Q : Zp) : WP 116 85 [some (zr r0), some (zi x1), some (zi x2), some (zi x3), some (zi x4)] [] h Q = (kd h r0 7 ∧ (ixa h (gR h (ad r0) 12) 10 x4 ∧ (br ((gI h (ad (gR h (ad r0) 12)) x4) = (1 : Int)) (WP 116 96 [some (zr r0), some (zi x1), some (zi x2), some (zi x3), some (zi x4)] [] h Q) (WP 116 128 [some (zr r0), some (zi x1), some (zi x2), some (zi x3), some (zi x4)] [] h Q)))) :=
  (WP_blk 6 116 85 _ _ h Q).trans rfl
theorem b_116_96 (r0 : Option Nat) (x1 : Int) (x2 : Int) (x3 : Int) (x4 : Int) (h : Zh) (Q : Zp) : WP 116 96 [some (zr r0), some (zi x1), some (zi x2), some (zi x3), some (zi x4)] [] h Q = (kd h r0 7 ∧ (WP 115 0 [some (zr r0), some (zi x4), none, none] [] h (kont WP 116 99 [some (zr r0), some (zi x1), some (zi x2), some (zi x3), some (zi x4)] [] [] Q))) :=
  (WP_blk 3 116 96 _ _ h Q).trans rfl
theorem b_116_102 (r0 : Option Nat) (x1 : Int) (x2 : Int) (x3 : Int) (x4 : Int) (s0 : Int) (h : Zh) (Q : Zp) : WP 116 102 [some (zr r0), some (zi x1), some (zi x2), some (zi x3), some (zi x4)] [zi s0] h Q = (br (s0 = 0) (WP 116 105 [some (zr r0), some (zi x1), some (zi x2), some (zi x3), some (zi x4)] [] h Q) (WP 116 128 [some (zr r0), some (zi x1), some (zi x2), some (zi x3), some (zi x4)] [] h Q)) :=
  (WP_blk 1 116 102 _ _ h Q).trans rfl
theorem b_116_105 (r0 : Option Nat) (x1 : Int) (x2 : Int) (x3 : Int) (x4 : Int) (h : Zh) (Q : Zp) : WP 116 105 [some (zr r0), some (zi x1), some (zi x2), some (zi x3), some (zi x4)] [] h Q = (kd h r0 7 ∧ (ixa h (gR h (ad r0) 12) 10 x4 ∧ (WP 116 113 [some (zr r0), some (zi x1), some (zi x2), some (zi x3), some (zi x4)] [] (pI h (ad (gR h (ad r0) 12)) x4 (2 : Int)) Q))) :=
  (WP_blk 5 116 105 _ _ h Q).trans rfl
theorem b_116_113 (r0 : Option Nat) (x1 : Int) (x2 : Int) (x3 : Int) (x4 : Int) (h : Zh) (Q : Zp) : WP 116 113 [some (zr r0), some (zi x1), some (zi x2), some (zi x3), some (zi x4)] [] h Q = (inR (x3 + 1) ∧ (kd h r0 7 ∧ (ixa h (gR h (ad r0) 10) 10 x4 ∧ (WP 116 79 [some (zr r0), some (zi x1), some (zi x2), some (zi (x3 + 1)), some (zi (gI h (ad (gR h (ad r0) 10)) x4))] [] h Q)))) :=
  (WP_blk 7 116 113 _ _ h Q).trans rfl
theorem b_116_128 (r0 : Option Nat) (x1 : Int) (x2 : Int) (x3 : Int) (x4 : Int) (h : Zh) (Q : Zp) : WP 116 128 [some (zr r0), some (zi x1), some (zi x2), some (zi x3), some (zi x4)] [] h Q = (Q (.inl (some (zi x3))) h) :=
  (WP_blk 2 116 128 _ _ h Q).trans rfl
-- 117: MarginaliaModel.propose(IIII)I
theorem b_117_0 (r0 : Option Nat) (x1 : Int) (x2 : Int) (x3 : Int) (x4 : Int) (h : Zh) (Q : Zp) : WP 117 0 [some (zr r0), some (zi x1), some (zi x2), some (zi x3), some (zi x4)] [] h Q = (kd h r0 7 ∧ (WP 117 5 [some (zr r0), some (zi x1), some (zi x2), some (zi x3), some (zi x4)] [] (pI h (ad r0) 0 (0 : Int)) Q)) :=
  (WP_blk 3 117 0 _ _ h Q).trans rfl
theorem b_117_5 (r0 : Option Nat) (x1 : Int) (x2 : Int) (x3 : Int) (x4 : Int) (h : Zh) (Q : Zp) : WP 117 5 [some (zr r0), some (zi x1), some (zi x2), some (zi x3), some (zi x4)] [] h Q = (kd h r0 7 ∧ (WP 95 0 [some (zr r0), some (zi x1)] [] h (kont WP 117 7 [some (zr r0), some (zi x1), some (zi x2), some (zi x3), some (zi x4)] [] [] Q))) :=
  (WP_blk 3 117 5 _ _ h Q).trans rfl
theorem b_117_10 (r0 : Option Nat) (x1 : Int) (x2 : Int) (x3 : Int) (x4 : Int) (s0 : Int) (h : Zh) (Q : Zp) : WP 117 10 [some (zr r0), some (zi x1), some (zi x2), some (zi x3), some (zi x4)] [zi s0] h Q = (br (s0 = 0) (WP 117 21 [some (zr r0), some (zi x1), some (zi x2), some (zi x3), some (zi x4)] [] h Q) (WP 117 13 [some (zr r0), some (zi x1), some (zi x2), some (zi x3), some (zi x4)] [] h Q)) :=
  (WP_blk 1 117 10 _ _ h Q).trans rfl
theorem b_117_13 (r0 : Option Nat) (x1 : Int) (x2 : Int) (x3 : Int) (x4 : Int) (h : Zh) (Q : Zp) : WP 117 13 [some (zr r0), some (zi x1), some (zi x2), some (zi x3), some (zi x4)] [] h Q = (kd h r0 7 ∧ (WP 96 0 [some (zr r0), some (zi x2)] [] h (kont WP 117 15 [some (zr r0), some (zi x1), some (zi x2), some (zi x3), some (zi x4)] [] [] Q))) :=
  (WP_blk 3 117 13 _ _ h Q).trans rfl
theorem b_117_18 (r0 : Option Nat) (x1 : Int) (x2 : Int) (x3 : Int) (x4 : Int) (s0 : Int) (h : Zh) (Q : Zp) : WP 117 18 [some (zr r0), some (zi x1), some (zi x2), some (zi x3), some (zi x4)] [zi s0] h Q = (br (s0 = 0) (WP 117 21 [some (zr r0), some (zi x1), some (zi x2), some (zi x3), some (zi x4)] [] h Q) (WP 117 27 [some (zr r0), some (zi x1), some (zi x2), some (zi x3), some (zi x4)] [] h Q)) :=
  (WP_blk 1 117 18 _ _ h Q).trans rfl
theorem b_117_21 (r0 : Option Nat) (x1 : Int) (x2 : Int) (x3 : Int) (x4 : Int) (h : Zh) (Q : Zp) : WP 117 21 [some (zr r0), some (zi x1), some (zi x2), some (zi x3), some (zi x4)] [] h Q = (kd h r0 7 ∧ (WP 91 0 [some (zr r0), some (zi (1 : Int))] [] h (kont WP 117 23 [some (zr r0), some (zi x1), some (zi x2), some (zi x3), some (zi x4)] [] [] Q))) :=
  (WP_blk 3 117 21 _ _ h Q).trans rfl
theorem b_117_26 (r0 : Option Nat) (x1 : Int) (x2 : Int) (x3 : Int) (x4 : Int) (s0 : Int) (h : Zh) (Q : Zp) : WP 117 26 [some (zr r0), some (zi x1), some (zi x2), some (zi x3), some (zi x4)] [zi s0] h Q = (Q (.inl (some (zi s0))) h) :=
  (WP_blk 1 117 26 _ _ h Q).trans rfl
theorem b_117_27 (r0 : Option Nat) (x1 : Int) (x2 : Int) (x3 : Int) (x4 : Int) (h : Zh) (Q : Zp) : WP 117 27 [some (zr r0), some (zi x1), some (zi x2), some (zi x3), some (zi x4)] [] h Q = (kd h r0 7 ∧ (ixa h (gR h (ad r0) 11) 10 x2 ∧ (br ((gI h (ad (gR h (ad r0) 11)) x2) = x2) (WP 117 37 [some (zr r0), some (zi x1), some (zi x2), some (zi x3), some (zi x4)] [] h Q) (WP 117 58 [some (zr r0), some (zi x1), some (zi x2), some (zi x3), some (zi x4)] [] h Q)))) :=
  (WP_blk 6 117 27 _ _ h Q).trans rfl
theorem b_117_37 (r0 : Option Nat) (x1 : Int) (x2 : Int) (x3 : Int) (x4 : Int) (h : Zh) (Q : Zp) : WP 117 37 [some (zr r0), some (zi x1), some (zi x2), some (zi x3), some (zi x4)] [] h Q = (WP 94 0 [some (zi x3), some (zi (0 : Int)), some (zi (40 : Int))] [] h (kont WP 117 41 [some (zr r0), some (zi x1), some (zi x2), some (zi x3), some (zi x4)] [] [] Q)) :=
  (WP_blk 4 117 37 _ _ h Q).trans rfl
theorem b_117_44 (r0 : Option Nat) (x1 : Int) (x2 : Int) (x3 : Int) (x4 : Int) (s0 : Int) (h : Zh) (Q : Zp) : WP 117 44 [some (zr r0), some (zi x1), some (zi x2), some (zi x3), some (zi x4)] [zi s0] h Q = (br (s0 = 0) (WP 117 58 [some (zr r0), some (zi x1), some (zi x2), some (zi x3), some (zi x4)] [] h Q) (WP 117 47 [some (zr r0), some (zi x1), some (zi x2), some (zi x3), some (zi x4)] [] h Q)) :=
  (WP_blk 1 117 44 _ _ h Q).trans rfl
theorem b_117_47 (r0 : Option Nat) (x1 : Int) (x2 : Int) (x3 : Int) (x4 : Int) (h : Zh) (Q : Zp) : WP 117 47 [some (zr r0), some (zi x1), some (zi x2), some (zi x3), some (zi x4)] [] h Q = (WP 94 0 [some (zi x4), some (zi (0 : Int)), some (zi (25 : Int))] [] h (kont WP 117 52 [some (zr r0), some (zi x1), some (zi x2), some (zi x3), some (zi x4)] [] [] Q)) :=
  (WP_blk 4 117 47 _ _ h Q).trans rfl
theorem b_117_55 (r0 : Option Nat) (x1 : Int) (x2 : Int) (x3 : Int) (x4 : Int) (s0 : Int) (h : Zh) (Q : Zp) : WP 117 55 [some (zr r0), some (zi x1), some (zi x2), some (zi x3), some (zi x4)] [zi s0] h Q = (br (s0 = 0) (WP 117 58 [some (zr r0), some (zi x1), some (zi x2), some (zi x3), some (zi x4)] [] h Q) (WP 117 64 [some (zr r0), some (zi x1), some (zi x2), some (zi x3), some (zi x4)] [] h Q)) :=
  (WP_blk 1 117 55 _ _ h Q).trans rfl
theorem b_117_58 (r0 : Option Nat) (x1 : Int) (x2 : Int) (x3 : Int) (x4 : Int) (h : Zh) (Q : Zp) : WP 117 58 [some (zr r0), some (zi x1), some (zi x2), some (zi x3), some (zi x4)] [] h Q = (kd h r0 7 ∧ (WP 91 0 [some (zr r0), some (zi (2 : Int))] [] h (kont WP 117 60 [some (zr r0), some (zi x1), some (zi x2), some (zi x3), some (zi x4)] [] [] Q))) :=
  (WP_blk 3 117 58 _ _ h Q).trans rfl
theorem b_117_63 (r0 : Option Nat) (x1 : Int) (x2 : Int) (x3 : Int) (x4 : Int) (s0 : Int) (h : Zh) (Q : Zp) : WP 117 63 [some (zr r0), some (zi x1), some (zi x2), some (zi x3), some (zi x4)] [zi s0] h Q = (Q (.inl (some (zi s0))) h) :=
  (WP_blk 1 117 63 _ _ h Q).trans rfl
theorem b_117_64 (r0 : Option Nat) (x1 : Int) (x2 : Int) (x3 : Int) (x4 : Int) (h : Zh) (Q : Zp) : WP 117 64 [some (zr r0), some (zi x1), some (zi x2), some (zi x3), some (zi x4)] [] h Q = (kd h r0 7 ∧ (WP 110 0 [some (zr r0), some (zi x1), some (zi x2), some (zi (2 : Int))] [] h (kont WP 117 68 [some (zr r0), some (zi x1), some (zi x2), some (zi x3), some (zi x4)] [] [] Q))) :=
  (WP_blk 5 117 64 _ _ h Q).trans rfl
theorem b_117_71 (r0 : Option Nat) (x1 : Int) (x2 : Int) (x3 : Int) (x4 : Int) (s0 : Int) (h : Zh) (Q : Zp) : WP 117 71 [some (zr r0), some (zi x1), some (zi x2), some (zi x3), some (zi x4)] [zi s0] h Q = (br (s0 = 0) (WP 117 84 [some (zr r0), some (zi x1), some (zi x2), some (zi x3), some (zi x4)] [] h Q) (WP 117 74 [some (zr r0), some (zi x1), some (zi x2), some (zi x3), some (zi x4)] [] h Q)) :=
  (WP_blk 1 117 71 _ _ h Q).trans rfl
theorem b_117_74 (r0 : Option Nat) (x1 : Int) (x2 : Int) (x3 : Int) (x4 : Int) (h : Zh) (Q : Zp) : WP 117 74 [some (zr r0), some (zi x1), some (zi x2), some (zi x3), some (zi x4)] [] h Q = (kd h r0 7 ∧ (ixa h (gR h (ad r0) 12) 10 x2 ∧ (br ((gI h (ad (gR h (ad r0) 12)) x2) = (1 : Int)) (WP 117 84 [some (zr r0), some (zi x1), some (zi x2), some (zi x3), some (zi x4)] [] h Q) (WP 117 90 [some (zr r0), some (zi x1), some (zi x2), some (zi x3), some (zi x4)] [] h Q)))) :=
  (WP_blk 6 117 74 _ _ h Q).trans rfl
theorem b_117_84 (r0 : Option Nat) (x1 : Int) (x2 : Int) (x3 : Int) (x4 : Int) (h : Zh) (Q : Zp) : WP 117 84 [some (zr r0), some (zi x1), some (zi x2), some (zi x3), some (zi x4)] [] h Q = (kd h r0 7 ∧ (WP 91 0 [some (zr r0), some (zi (3 : Int))] [] h (kont WP 117 86 [some (zr r0), some (zi x1), some (zi x2), some (zi x3), some (zi x4)] [] [] Q))) :=
  (WP_blk 3 117 84 _ _ h Q).trans rfl
theorem b_117_89 (r0 : Option Nat) (x1 : Int) (x2 : Int) (x3 : Int) (x4 : Int) (s0 : Int) (h : Zh) (Q : Zp) : WP 117 89 [some (zr r0), some (zi x1), some (zi x2), some (zi x3), some (zi x4)] [zi s0] h Q = (Q (.inl (some (zi s0))) h) :=
  (WP_blk 1 117 89 _ _ h Q).trans rfl
theorem b_117_90 (r0 : Option Nat) (x1 : Int) (x2 : Int) (x3 : Int) (x4 : Int) (h : Zh) (Q : Zp) : WP 117 90 [some (zr r0), some (zi x1), some (zi x2), some (zi x3), some (zi x4)] [] h Q = (kd h r0 7 ∧ (ixa h (gR h (ad r0) 16) 10 x2 ∧ (WP 117 97 [some (zr r0), some (zi x1), some (zi x2), some (zi x3), some (zi x4)] [] (pI h (ad (gR h (ad r0) 16)) x2 x3) Q))) :=
  (WP_blk 5 117 90 _ _ h Q).trans rfl
theorem b_117_97 (r0 : Option Nat) (x1 : Int) (x2 : Int) (x3 : Int) (x4 : Int) (h : Zh) (Q : Zp) : WP 117 97 [some (zr r0), some (zi x1), some (zi x2), some (zi x3), some (zi x4)] [] h Q = (kd h r0 7 ∧ (ixa h (gR h (ad r0) 17) 10 x2 ∧ (WP 117 105 [some (zr r0), some (zi x1), some (zi x2), some (zi x3), some (zi x4)] [] (pI h (ad (gR h (ad r0) 17)) x2 x4) Q))) :=
  (WP_blk 5 117 97 _ _ h Q).trans rfl
theorem b_117_105 (r0 : Option Nat) (x1 : Int) (x2 : Int) (x3 : Int) (x4 : Int) (h : Zh) (Q : Zp) : WP 117 105 [some (zr r0), some (zi x1), some (zi x2), some (zi x3), some (zi x4)] [] h Q = (Q (.inl (some (zi x2))) h) :=
  (WP_blk 2 117 105 _ _ h Q).trans rfl
-- 118: MarginaliaModel.take(II)I
theorem b_118_0 (r0 : Option Nat) (x1 : Int) (x2 : Int) (h : Zh) (Q : Zp) : WP 118 0 [some (zr r0), some (zi x1), some (zi x2), none, none, none] [] h Q = (kd h r0 7 ∧ (WP 118 5 [some (zr r0), some (zi x1), some (zi x2), none, none, none] [] (pI h (ad r0) 0 (0 : Int)) Q)) :=
  (WP_blk 3 118 0 _ _ h Q).trans rfl
theorem b_118_5 (r0 : Option Nat) (x1 : Int) (x2 : Int) (h : Zh) (Q : Zp) : WP 118 5 [some (zr r0), some (zi x1), some (zi x2), none, none, none] [] h Q = (kd h r0 7 ∧ (WP 95 0 [some (zr r0), some (zi x1)] [] h (kont WP 118 7 [some (zr r0), some (zi x1), some (zi x2), none, none, none] [] [] Q))) :=
  (WP_blk 3 118 5 _ _ h Q).trans rfl
theorem b_118_10 (r0 : Option Nat) (x1 : Int) (x2 : Int) (s0 : Int) (h : Zh) (Q : Zp) : WP 118 10 [some (zr r0), some (zi x1), some (zi x2), none, none, none] [zi s0] h Q = (br (s0 = 0) (WP 118 21 [some (zr r0), some (zi x1), some (zi x2), none, none, none] [] h Q) (WP 118 13 [some (zr r0), some (zi x1), some (zi x2), none, none, none] [] h Q)) :=
  (WP_blk 1 118 10 _ _ h Q).trans rfl
theorem b_118_13 (r0 : Option Nat) (x1 : Int) (x2 : Int) (h : Zh) (Q : Zp) : WP 118 13 [some (zr r0), some (zi x1), some (zi x2), none, none, none] [] h Q = (kd h r0 7 ∧ (WP 96 0 [some (zr r0), some (zi x2)] [] h (kont WP 118 15 [some (zr r0), some (zi x1), some (zi x2), none, none, none] [] [] Q))) :=
  (WP_blk 3 118 13 _ _ h Q).trans rfl
theorem b_118_18 (r0 : Option Nat) (x1 : Int) (x2 : Int) (s0 : Int) (h : Zh) (Q : Zp) : WP 118 18 [some (zr r0), some (zi x1), some (zi x2), none, none, none] [zi s0] h Q = (br (s0 = 0) (WP 118 21 [some (zr r0), some (zi x1), some (zi x2), none, none, none] [] h Q) (WP 118 27 [some (zr r0), some (zi x1), some (zi x2), none, none, none] [] h Q)) :=
  (WP_blk 1 118 18 _ _ h Q).trans rfl
theorem b_118_21 (r0 : Option Nat) (x1 : Int) (x2 : Int) (h : Zh) (Q : Zp) : WP 118 21 [some (zr r0), some (zi x1), some (zi x2), none, none, none] [] h Q = (kd h r0 7 ∧ (WP 91 0 [some (zr r0), some (zi (1 : Int))] [] h (kont WP 118 23 [some (zr r0), some (zi x1), some (zi x2), none, none, none] [] [] Q))) :=
  (WP_blk 3 118 21 _ _ h Q).trans rfl
theorem b_118_26 (r0 : Option Nat) (x1 : Int) (x2 : Int) (s0 : Int) (h : Zh) (Q : Zp) : WP 118 26 [some (zr r0), some (zi x1), some (zi x2), none, none, none] [zi s0] h Q = (Q (.inl (some (zi s0))) h) :=
  (WP_blk 1 118 26 _ _ h Q).trans rfl
theorem b_118_27 (r0 : Option Nat) (x1 : Int) (x2 : Int) (h : Zh) (Q : Zp) : WP 118 27 [some (zr r0), some (zi x1), some (zi x2), none, none, none] [] h Q = (kd h r0 7 ∧ (ixa h (gR h (ad r0) 11) 10 x2 ∧ (br ((gI h (ad (gR h (ad r0) 11)) x2) = x2) (WP 118 43 [some (zr r0), some (zi x1), some (zi x2), none, none, none] [] h Q) (WP 118 37 [some (zr r0), some (zi x1), some (zi x2), none, none, none] [] h Q)))) :=
  (WP_blk 6 118 27 _ _ h Q).trans rfl
theorem b_118_37 (r0 : Option Nat) (x1 : Int) (x2 : Int) (h : Zh) (Q : Zp) : WP 118 37 [some (zr r0), some (zi x1), some (zi x2), none, none, none] [] h Q = (kd h r0 7 ∧ (WP 91 0 [some (zr r0), some (zi (2 : Int))] [] h (kont WP 118 39 [some (zr r0), some (zi x1), some (zi x2), none, none, none] [] [] Q))) :=
  (WP_blk 3 118 37 _ _ h Q).trans rfl
theorem b_118_42 (r0 : Option Nat) (x1 : Int) (x2 : Int) (s0 : Int) (h : Zh) (Q : Zp) : WP 118 42 [some (zr r0), some (zi x1), some (zi x2), none, none, none] [zi s0] h Q = (Q (.inl (some (zi s0))) h) :=
  (WP_blk 1 118 42 _ _ h Q).trans rfl
theorem b_118_43 (r0 : Option Nat) (x1 : Int) (x2 : Int) (h : Zh) (Q : Zp) : WP 118 43 [some (zr r0), some (zi x1), some (zi x2), none, none, none] [] h Q = (kd h r0 7 ∧ (ixa h (gR h (ad r0) 16) 10 x2 ∧ (kd h r0 7 ∧ (ixa h (gR h (ad r0) 13) 10 x2 ∧ (kd h r0 7 ∧ (ixa h (gR h (ad r0) 14) 10 x2 ∧ (inR ((gI h (ad (gR h (ad r0) 14)) x2) - (gI h (ad (gR h (ad r0) 13)) x2)) ∧ (kd h r0 7 ∧ (WP 110 0 [some (zr r0), some (zi x1), some (zi x2), some (zi (3 : Int))] [] h (kont WP 118 73 [some (zr r0), some (zi x1), some (zi x2), some (zi (gI h (ad (gR h (ad r0) 16)) x2)), some (zi (gI h (ad (gR h (ad r0) 13)) x2)), some (zi ((gI h (ad (gR h (ad r0) 14)) x2) - (gI h (ad (gR h (ad r0) 13)) x2)))] [] [] Q)))))))))) :=
  (WP_blk 22 118 43 _ _ h Q).trans rfl
theorem b_118_76 (r0 : Option Nat) (x1 : Int) (x2 : Int) (x3 : Int) (x4 : Int) (x5 : Int) (s0 : Int) (h : Zh) (Q : Zp) : WP 118 76 [some (zr r0), some (zi x1), some (zi x2), some (zi x3), some (zi x4), some (zi x5)] [zi s0] h Q = (br (s0 = 0) (WP 118 124 [some (zr r0), some (zi x1), some (zi x2), some (zi x3), some (zi x4), some (zi x5)] [] h Q) (WP 118 79 [some (zr r0), some (zi x1), some (zi x2), some (zi x3), some (zi x4), some (zi x5)] [] h Q)) :=
  (WP_blk 1 118 76 _ _ h Q).trans rfl
theorem b_118_79 (r0 : Option Nat) (x1 : Int) (x2 : Int) (x3 : Int) (x4 : Int) (x5 : Int) (h : Zh) (Q : Zp) : WP 118 79 [some (zr r0), some (zi x1), some (zi x2), some (zi x3), some (zi x4), some (zi x5)] [] h Q = (br (x3 = (-1 : Int)) (WP 118 124 [some (zr r0), some (zi x1), some (zi x2), some (zi x3), some (zi x4), some (zi x5)] [] h Q) (WP 118 84 [some (zr r0), some (zi x1), some (zi x2), some (zi x3), some (zi x4), some (zi x5)] [] h Q)) :=
  (WP_blk 3 118 79 _ _ h Q).trans rfl
theorem b_118_84 (r0 : Option Nat) (x1 : Int) (x2 : Int) (x3 : Int) (x4 : Int) (x5 : Int) (h : Zh) (Q : Zp) : WP 118 84 [some (zr r0), some (zi x1), some (zi x2), some (zi x3), some (zi x4), some (zi x5)] [] h Q = (br (x5 = 0) (WP 118 124 [some (zr r0), some (zi x1), some (zi x2), some (zi x3), some (zi x4), some (zi x5)] [] h Q) (WP 118 89 [some (zr r0), some (zi x1), some (zi x2), some (zi x3), some (zi x4), some (zi x5)] [] h Q)) :=
  (WP_blk 2 118 84 _ _ h Q).trans rfl
theorem b_118_89 (r0 : Option Nat) (x1 : Int) (x2 : Int) (x3 : Int) (x4 : Int) (x5 : Int) (h : Zh) (Q : Zp) : WP 118 89 [some (zr r0), some (zi x1), some (zi x2), some (zi x3), some (zi x4), some (zi x5)] [] h Q = (kd h r0 7 ∧ (WP 97 0 [some (zr r0)] [] h (kont WP 118 90 [some (zr r0), some (zi x1), some (zi x2), some (zi x3), some (zi x4), some (zi x5)] [] [] Q))) :=
  (WP_blk 2 118 89 _ _ h Q).trans rfl
theorem b_118_93 (r0 : Option Nat) (x1 : Int) (x2 : Int) (x3 : Int) (x4 : Int) (x5 : Int) (sr0 : Option Nat) (h : Zh) (Q : Zp) : WP 118 93 [some (zr r0), some (zi x1), some (zi x2), some (zi x3), some (zi x4), some (zi x5)] [zr sr0] h Q = (kd h sr0 10 ∧ (inR ((gL h (ad sr0)) - x5) ∧ (inR (((gL h (ad sr0)) - x5) + x3) ∧ (br ((200 : Int) < (((gL h (ad sr0)) - x5) + x3)) (WP 118 124 [some (zr r0), some (zi x1), some (zi x2), some (zi x3), some (zi x4), some (zi x5)] [] h Q) (WP 118 105 [some (zr r0), some (zi x1), some (zi x2), some (zi x3), some (zi x4), some (zi x5)] [] h Q))))) :=
  (WP_blk 7 118 93 _ _ h Q).trans rfl
theorem b_118_105 (r0 : Option Nat) (x1 : Int) (x2 : Int) (x3 : Int) (x4 : Int) (x5 : Int) (h : Zh) (Q : Zp) : WP 118 105 [some (zr r0), some (zi x1), some (zi x2), some (zi x3), some (zi x4), some (zi x5)] [] h Q = (kd h r0 7 ∧ (br (x3 = 0) (WP 118 113 [some (zr r0), some (zi x1), some (zi x2), some (zi x3), some (zi x4), some (zi x5)] [zi (gI h (ad r0) 6)] h Q) (WP 118 117 [some (zr r0), some (zi x1), some (zi x2), some (zi x3), some (zi x4), some (zi x5)] [zi (gI h (ad r0) 6)] h Q))) :=
  (WP_blk 4 118 105 _ _ h Q).trans rfl
theorem b_118_113 (r0 : Option Nat) (x1 : Int) (x2 : Int) (x3 : Int) (x4 : Int) (x5 : Int) (s0 : Int) (h : Zh) (Q : Zp) : WP 118 113 [some (zr r0), some (zi x1), some (zi x2), some (zi x3), some (zi x4), some (zi x5)] [zi s0] h Q = (WP 118 118 [some (zr r0), some (zi x1), some (zi x2), some (zi x3), some (zi x4), some (zi x5)] [zi (1 : Int), zi s0] h Q) :=
  (WP_blk 2 118 113 _ _ h Q).trans rfl
theorem b_118_117 (r0 : Option Nat) (x1 : Int) (x2 : Int) (x3 : Int) (x4 : Int) (x5 : Int) (s0 : Int) (h : Zh) (Q : Zp) : WP 118 117 [some (zr r0), some (zi x1), some (zi x2), some (zi x3), some (zi x4), some (zi x5)] [zi s0] h Q = (WP 118 118 [some (zr r0), some (zi x1), some (zi x2), some (zi x3), some (zi x4), some (zi x5)] [zi (2 : Int), zi s0] h Q) :=
  (WP_blk 1 118 117 _ _ h Q).trans rfl
theorem b_118_118 (r0 : Option Nat) (x1 : Int) (x2 : Int) (x3 : Int) (x4 : Int) (x5 : Int) (s0 : Int) (s1 : Int) (h : Zh) (Q : Zp) : WP 118 118 [some (zr r0), some (zi x1), some (zi x2), some (zi x3), some (zi x4), some (zi x5)] [zi s0, zi s1] h Q = (inR (s1 + s0) ∧ (br ((s1 + s0) ≤ (60 : Int)) (WP 118 130 [some (zr r0), some (zi x1), some (zi x2), some (zi x3), some (zi x4), some (zi x5)] [] h Q) (WP 118 124 [some (zr r0), some (zi x1), some (zi x2), some (zi x3), some (zi x4), some (zi x5)] [] h Q))) :=
  (WP_blk 3 118 118 _ _ h Q).trans rfl
theorem b_118_124 (r0 : Option Nat) (x1 : Int) (x2 : Int) (x3 : Int) (x4 : Int) (x5 : Int) (h : Zh) (Q : Zp) : WP 118 124 [some (zr r0), some (zi x1), some (zi x2), some (zi x3), some (zi x4), some (zi x5)] [] h Q = (kd h r0 7 ∧ (WP 91 0 [some (zr r0), some (zi (3 : Int))] [] h (kont WP 118 126 [some (zr r0), some (zi x1), some (zi x2), some (zi x3), some (zi x4), some (zi x5)] [] [] Q))) :=
  (WP_blk 3 118 124 _ _ h Q).trans rfl
theorem b_118_129 (r0 : Option Nat) (x1 : Int) (x2 : Int) (x3 : Int) (x4 : Int) (x5 : Int) (s0 : Int) (h : Zh) (Q : Zp) : WP 118 129 [some (zr r0), some (zi x1), some (zi x2), some (zi x3), some (zi x4), some (zi x5)] [zi s0] h Q = (Q (.inl (some (zi s0))) h) :=
  (WP_blk 1 118 129 _ _ h Q).trans rfl
theorem b_118_130 (r0 : Option Nat) (x1 : Int) (x2 : Int) (x3 : Int) (x4 : Int) (x5 : Int) (h : Zh) (Q : Zp) : WP 118 130 [some (zr r0), some (zi x1), some (zi x2), some (zi x3), some (zi x4), some (zi x5)] [] h Q = (kd h r0 7 ∧ (WP 101 0 [some (zr r0), some (zi x4), some (zi x5), none, none, none] [] h (kont WP 118 135 [some (zr r0), some (zi x1), some (zi x2), some (zi x3), some (zi x4), some (zi x5)] [] [] Q))) :=
  (WP_blk 4 118 130 _ _ h Q).trans rfl
theorem b_118_138 (r0 : Option Nat) (x1 : Int) (x2 : Int) (x3 : Int) (x4 : Int) (x5 : Int) (h : Zh) (Q : Zp) : WP 118 138 [some (zr r0), some (zi x1), some (zi x2), some (zi x3), some (zi x4), some (zi x5)] [] h Q = (br (x3 ≤ 0) (WP 118 155 [some (zr r0), some (zi x1), some (zi x2), some (zi x3), some (zi x4), some (zi x5)] [] h Q) (WP 118 142 [some (zr r0), some (zi x1), some (zi x2), some (zi x3), some (zi x4), some (zi x5)] [] h Q)) :=
  (WP_blk 2 118 138 _ _ h Q).trans rfl
theorem b_118_142 (r0 : Option Nat) (x1 : Int) (x2 : Int) (x3 : Int) (x4 : Int) (x5 : Int) (h : Zh) (Q : Zp) : WP 118 142 [some (zr r0), some (zi x1), some (zi x2), some (zi x3), some (zi x4), some (zi x5)] [] h Q = (kd h r0 7 ∧ (ixa h (gR h (ad r0) 17) 10 x2 ∧ (kd h r0 7 ∧ (WP 100 0 [some (zr r0), some (zi x4), some (zi x3), some (zi (gI h (ad (gR h (ad r0) 17)) x2)), none, none, none] [] h (kont WP 118 152 [some (zr r0), some (zi x1), some (zi x2), some (zi x3), some (zi x4), some (zi x5)] [] [] Q))))) :=
  (WP_blk 8 118 142 _ _ h Q).trans rfl
theorem b_118_155 (r0 : Option Nat) (x1 : Int) (x2 : Int) (x3 : Int) (x4 : Int) (x5 : Int) (h : Zh) (Q : Zp) : WP 118 155 [some (zr r0), some (zi x1), some (zi x2), some (zi x3), some (zi x4), some (zi x5)] [] h Q = (kd h r0 7 ∧ (ixa h (gR h (ad r0) 13) 10 x2 ∧ (WP 118 163 [some (zr r0), some (zi x1), some (zi x2), some (zi x3), some (zi x4), some (zi x5)] [] (pI h (ad (gR h (ad r0) 13)) x2 x4) Q))) :=
  (WP_blk 5 118 155 _ _ h Q).trans rfl
theorem b_118_163 (r0 : Option Nat) (x1 : Int) (x2 : Int) (x3 : Int) (x4 : Int) (x5 : Int) (h : Zh) (Q : Zp) : WP 118 163 [some (zr r0), some (zi x1), some (zi x2), some (zi x3), some (zi x4), some (zi x5)] [] h Q = (kd h r0 7 ∧ (inR (x4 + x3) ∧ (ixa h (gR h (ad r0) 14) 10 x2 ∧ (WP 118 173 [some (zr r0), some (zi x1), some (zi x2), some (zi x3), some (zi x4), some (zi x5)] [] (pI h (ad (gR h (ad r0) 14)) x2 (x4 + x3)) Q)))) :=
  (WP_blk 7 118 163 _ _ h Q).trans rfl
theorem b_118_173 (r0 : Option Nat) (x1 : Int) (x2 : Int) (x3 : Int) (x4 : Int) (x5 : Int) (h : Zh) (Q : Zp) : WP 118 173 [some (zr r0), some (zi x1), some (zi x2), some (zi x3), some (zi x4), some (zi x5)] [] h Q = (kd h r0 7 ∧ ((ixa h (gR h (ad r0) 18) 12 x2 ∧ ((1 : Int) = 0 ∨ (1 : Int) = 1)) ∧ (WP 118 180 [some (zr r0), some (zi x1), some (zi x2), some (zi x3), some (zi x4), some (zi x5)] [] (pI h (ad (gR h (ad r0) 18)) x2 (1 : Int)) Q))) :=
  (WP_blk 5 118 173 _ _ h Q).trans rfl
theorem b_118_180 (r0 : Option Nat) (x1 : Int) (x2 : Int) (x3 : Int) (x4 : Int) (x5 : Int) (h : Zh) (Q : Zp) : WP 118 180 [some (zr r0), some (zi x1), some (zi x2), some (zi x3), some (zi x4), some (zi x5)] [] h Q = (kd h r0 7 ∧ (ixa h (gR h (ad r0) 16) 10 x2 ∧ (WP 118 187 [some (zr r0), some (zi x1), some (zi x2), some (zi x3), some (zi x4), some (zi x5)] [] (pI h (ad (gR h (ad r0) 16)) x2 (-1 : Int)) Q))) :=
  (WP_blk 5 118 180 _ _ h Q).trans rfl
theorem b_118_187 (r0 : Option Nat) (x1 : Int) (x2 : Int) (x3 : Int) (x4 : Int) (x5 : Int) (h : Zh) (Q : Zp) : WP 118 187 [some (zr r0), some (zi x1), some (zi x2), some (zi x3), some (zi x4), some (zi x5)] [] h Q = (kd h r0 7 ∧ (WP 97 0 [some (zr r0)] [] h (kont WP 118 188 [some (zr r0), some (zi x1), some (zi x2), some (zi x3), some (zi x4), some (zi x5)] [] [] Q))) :=
  (WP_blk 2 118 187 _ _ h Q).trans rfl
theorem b_118_191 (r0 : Option Nat) (x1 : Int) (x2 : Int) (x3 : Int) (x4 : Int) (x5 : Int) (sr0 : Option Nat) (h : Zh) (Q : Zp) : WP 118 191 [some (zr r0), some (zi x1), some (zi x2), some (zi x3), some (zi x4), some (zi x5)] [zr sr0] h Q = (kd h sr0 10 ∧ (Q (.inl (some (zi (gL h (ad sr0))))) h)) :=
  (WP_blk 2 118 191 _ _ h Q).trans rfl
-- 119: MarginaliaModel.found(I)I
theorem b_119_0 (r0 : Option Nat) (x1 : Int) (h : Zh) (Q : Zp) : WP 119 0 [some (zr r0), some (zi x1), none, none, none, none] [] h Q = (WP 119 4 [some (zr r0), some (zi x1), some (zi (-1 : Int)), some (zi (0 : Int)), none, none] [] h Q) :=
  (WP_blk 4 119 0 _ _ h Q).trans rfl
theorem b_119_4 (r0 : Option Nat) (x1 : Int) (x2 : Int) (x3 : Int) (o4 : Option Zv) (o5 : Option Zv) (h : Zh) (Q : Zp) : WP 119 4 [some (zr r0), some (zi x1), some (zi x2), some (zi x3), o4, o5] [] h Q = (kd h r0 7 ∧ (ixa h (gR h (ad r0) 19) 14 x1 ∧ (kd h (gR h (ad (gR h (ad r0) 19)) x1) 10 ∧ (inR (x3 + (gL h (ad (gR h (ad (gR h (ad r0) 19)) x1)))) ∧ (kd h r0 7 ∧ (WP 97 0 [some (zr r0)] [] h (kont WP 119 14 [some (zr r0), some (zi x1), some (zi x2), some (zi x3), o4, o5] [zi (x3 + (gL h (ad (gR h (ad (gR h (ad r0) 19)) x1))))] [] Q))))))) :=
  (WP_blk 9 119 4 _ _ h Q).trans rfl
theorem b_119_17 (r0 : Option Nat) (x1 : Int) (x2 : Int) (x3 : Int) (o4 : Option Zv) (o5 : Option Zv) (sr0 : Option Nat) (s1 : Int) (h : Zh) (Q : Zp) : WP 119 17 [some (zr r0), some (zi x1), some (zi x2), some (zi x3), o4, o5] [zr sr0, zi s1] h Q = (kd h sr0 10 ∧ (br ((gL h (ad sr0)) < s1) (WP 119 124 [some (zr r0), some (zi x1), some (zi x2), some (zi x3), o4, o5] [] h Q) (WP 119 21 [some (zr r0), some (zi x1), some (zi x2), some (zi x3), o4, o5] [] h Q))) :=
  (WP_blk 2 119 17 _ _ h Q).trans rfl
theorem b_119_21 (r0 : Option Nat) (x1 : Int) (x2 : Int) (x3 : Int) (o4 : Option Zv) (o5 : Option Zv) (h : Zh) (Q : Zp) : WP 119 21 [some (zr r0), some (zi x1), some (zi x2), some (zi x3), o4, o5] [] h Q = (WP 119 27 [some (zr r0), some (zi x1), some (zi x2), some (zi x3), some (zi (1 : Int)), some (zi (0 : Int))] [] h Q) :=
  (WP_blk 4 119 21 _ _ h Q).trans rfl
theorem b_119_27 (r0 : Option Nat) (x1 : Int) (x2 : Int) (x3 : Int) (x4 : Int) (x5 : Int) (h : Zh) (Q : Zp) : WP 119 27 [some (zr r0), some (zi x1), some (zi x2), some (zi x3), some (zi x4), some (zi x5)] [] h Q = (kd h r0 7 ∧ (ixa h (gR h (ad r0) 19) 14 x1 ∧ (kd h (gR h (ad (gR h (ad r0) 19)) x1) 10 ∧ (br ((gL h (ad (gR h (ad (gR h (ad r0) 19)) x1))) ≤ x5) (WP 119 81 [some (zr r0), some (zi x1), some (zi x2), some (zi x3), some (zi x4), some (zi x5)] [] h Q) (WP 119 39 [some (zr r0), some (zi x1), some (zi x2), some (zi x3), some (zi x4), some (zi x5)] [] h Q))))) :=
  (WP_blk 7 119 27 _ _ h Q).trans rfl
theorem b_119_39 (r0 : Option Nat) (x1 : Int) (x2 : Int) (x3 : Int) (x4 : Int) (x5 : Int) (h : Zh) (Q : Zp) : WP 119 39 [some (zr r0), some (zi x1), some (zi x2), some (zi x3), some (zi x4), some (zi x5)] [] h Q = (kd h r0 7 ∧ (kd h r0 7 ∧ (WP 97 0 [some (zr r0)] [] h (kont WP 119 46 [some (zr r0), some (zi x1), some (zi x2), some (zi x3), some (zi x4), some (zi x5)] [zr (gR h (ad r0) 4), zi x4] [] Q)))) :=
  (WP_blk 5 119 39 _ _ h Q).trans rfl
theorem b_119_49 (r0 : Option Nat) (x1 : Int) (x2 : Int) (x3 : Int) (x4 : Int) (x5 : Int) (sr0 : Option Nat) (sr1 : Option Nat) (s2 : Int) (h : Zh) (Q : Zp) : WP 119 49 [some (zr r0), some (zi x1), some (zi x2), some (zi x3), some (zi x4), some (zi x5)] [zr sr0, zr sr1, zi s2] h Q = (inR (x3 + x5) ∧ (ixa h sr0 10 (x3 + x5) ∧ (ixa h sr1 10 (gI h (ad sr0) (x3 + x5)) ∧ (kd h r0 7 ∧ (ixa h (gR h (ad r0) 19) 14 x1 ∧ (ixa h (gR h (ad (gR h (ad r0) 19)) x1) 10 x5 ∧ (br ((gI h (ad sr1) (gI h (ad sr0) (x3 + x5))) = (gI h (ad (gR h (ad (gR h (ad r0) 19)) x1)) x5)) (WP 119 67 [some (zr r0), some (zi x1), some (zi x2), some (zi x3), some (zi x4), some (zi x5)] [zi s2] h Q) (WP 119 71 [some (zr r0), some (zi x1), some (zi x2), some (zi x3), some (zi x4), some (zi x5)] [zi s2] h Q)))))))) :=
  (WP_blk 12 119 49 _ _ h Q).trans rfl
theorem b_119_67 (r0 : Option Nat) (x1 : Int) (x2 : Int) (x3 : Int) (x4 : Int) (x5 : Int) (s0 : Int) (h : Zh) (Q : Zp) : WP 119 67 [some (zr r0), some (zi x1), some (zi x2), some (zi x3), some (zi x4), some (zi x5)] [zi s0] h Q = (WP 119 72 [some (zr r0), some (zi x1), some (zi x2), some (zi x3), some (zi x4), some (zi x5)] [zi (1 : Int), zi s0] h Q) :=
  (WP_blk 2 119 67 _ _ h Q).trans rfl
theorem b_119_71 (r0 : Option Nat) (x1 : Int) (x2 : Int) (x3 : Int) (x4 : Int) (x5 : Int) (s0 : Int) (h : Zh) (Q : Zp) : WP 119 71 [some (zr r0), some (zi x1), some (zi x2), some (zi x3), some (zi x4), some (zi x5)] [zi s0] h Q = (WP 119 72 [some (zr r0), some (zi x1), some (zi x2), some (zi x3), some (zi x4), some (zi x5)] [zi (0 : Int), zi s0] h Q) :=
  (WP_blk 1 119 71 _ _ h Q).trans rfl
theorem b_119_72 (r0 : Option Nat) (x1 : Int) (x2 : Int) (x3 : Int) (x4 : Int) (x5 : Int) (s0 : Int) (s1 : Int) (h : Zh) (Q : Zp) : WP 119 72 [some (zr r0), some (zi x1), some (zi x2), some (zi x3), some (zi x4), some (zi x5)] [zi s0, zi s1] h Q = ((s0 = 31 ∨ ((s1 = 0 ∨ s1 = 1) ∧ (s0 = 0 ∨ s0 = 1))) ∧ (inR (x5 + 1) ∧ (WP 119 27 [some (zr r0), some (zi x1), some (zi x2), some (zi x3), some (zi (if s0 = 31 then s1 % 32 else s1 * s0)), some (zi (x5 + 1))] [] h Q))) :=
  (WP_blk 4 119 72 _ _ h Q).trans rfl
theorem b_119_81 (r0 : Option Nat) (x1 : Int) (x2 : Int) (x3 : Int) (x4 : Int) (x5 : Int) (h : Zh) (Q : Zp) : WP 119 81 [some (zr r0), some (zi x1), some (zi x2), some (zi x3), some (zi x4), some (zi x5)] [] h Q = (br (x4 = 0) (WP 119 118 [some (zr r0), some (zi x1), some (zi x2), some (zi x3), some (zi x4), some (zi x5)] [] h Q) (WP 119 86 [some (zr r0), some (zi x1), some (zi x2), some (zi x3), some (zi x4), some (zi x5)] [] h Q)) :=
  (WP_blk 2 119 81 _ _ h Q).trans rfl
theorem b_119_86 (r0 : Option Nat) (x1 : Int) (x2 : Int) (x3 : Int) (x4 : Int) (x5 : Int) (h : Zh) (Q : Zp) : WP 119 86 [some (zr r0), some (zi x1), some (zi x2), some (zi x3), some (zi x4), some (zi x5)] [] h Q = (br (x2 = (-1 : Int)) (WP 119 116 [some (zr r0), some (zi x1), some (zi x2), some (zi x3), some (zi x4), some (zi x5)] [] h Q) (WP 119 91 [some (zr r0), some (zi x1), some (zi x2), some (zi x3), some (zi x4), some (zi x5)] [] h Q)) :=
  (WP_blk 3 119 86 _ _ h Q).trans rfl
theorem b_119_91 (r0 : Option Nat) (x1 : Int) (x2 : Int) (x3 : Int) (x4 : Int) (x5 : Int) (h : Zh) (Q : Zp) : WP 119 91 [some (zr r0), some (zi x1), some (zi x2), some (zi x3), some (zi x4), some (zi x5)] [] h Q = (kd h r0 7 ∧ (ixa h (gR h (ad r0) 13) 10 x1 ∧ (inR (x3 - (gI h (ad (gR h (ad r0) 13)) x1)) ∧ (inR (-(x3 - (gI h (ad (gR h (ad r0) 13)) x1))) ∧ (kd h r0 7 ∧ (ixa h (gR h (ad r0) 13) 10 x1 ∧ (inR (x2 - (gI h (ad (gR h (ad r0) 13)) x1)) ∧ (inR (-(x2 - (gI h (ad (gR h (ad r0) 13)) x1))) ∧ (br ((if (x2 - (gI h (ad (gR h (ad r0) 13)) x1)) < 0 then -(x2 - (gI h (ad (gR h (ad r0) 13)) x1)) else (x2 - (gI h (ad (gR h (ad r0) 13)) x1))) ≤ (if (x3 - (gI h (ad (gR h (ad r0) 13)) x1)) < 0 then -(x3 - (gI h (ad (gR h (ad r0) 13)) x1)) else (x3 - (gI h (ad (gR h (ad r0) 13)) x1)))) (WP 119 118 [some (zr r0), some (zi x1), some (zi x2), some (zi x3), some (zi x4), some (zi x5)] [] h Q) (WP 119 116 [some (zr r0), some (zi x1), some (zi x2), some (zi x3), some (zi x4), some (zi x5)] [] h Q)))))))))) :=
  (WP_blk 15 119 91 _ _ h Q).trans rfl
theorem b_119_116 (r0 : Option Nat) (x1 : Int) (x2 : Int) (x3 : Int) (x4 : Int) (x5 : Int) (h : Zh) (Q : Zp) : WP 119 116 [some (zr r0), some (zi x1), some (zi x2), some (zi x3), some (zi x4), some (zi x5)] [] h Q = (WP 119 118 [some (zr r0), some (zi x1), some (zi x3), some (zi x3), some (zi x4), some (zi x5)] [] h Q) :=
  (WP_blk 2 119 116 _ _ h Q).trans rfl
theorem b_119_118 (r0 : Option Nat) (x1 : Int) (x2 : Int) (x3 : Int) (x4 : Int) (x5 : Int) (h : Zh) (Q : Zp) : WP 119 118 [some (zr r0), some (zi x1), some (zi x2), some (zi x3), some (zi x4), some (zi x5)] [] h Q = (inR (x3 + 1) ∧ (WP 119 4 [some (zr r0), some (zi x1), some (zi x2), some (zi (x3 + 1)), some (zi x4), some (zi x5)] [] h Q)) :=
  (WP_blk 2 119 118 _ _ h Q).trans rfl
theorem b_119_124 (r0 : Option Nat) (x1 : Int) (x2 : Int) (x3 : Int) (o4 : Option Zv) (o5 : Option Zv) (h : Zh) (Q : Zp) : WP 119 124 [some (zr r0), some (zi x1), some (zi x2), some (zi x3), o4, o5] [] h Q = (Q (.inl (some (zi x2))) h) :=
  (WP_blk 2 119 124 _ _ h Q).trans rfl
-- 120: MarginaliaModel.isHead(I)Z
theorem b_120_0 (r0 : Option Nat) (x1 : Int) (h : Zh) (Q : Zp) : WP 120 0 [some (zr r0), some (zi x1)] [] h Q = (kd h r0 7 ∧ (ixa h (gR h (ad r0) 11) 10 x1 ∧ (br ((gI h (ad (gR h (ad r0) 11)) x1) = x1) (WP 120 10 [some (zr r0), some (zi x1)] [] h Q) (WP 120 24 [some (zr r0), some (zi x1)] [] h Q)))) :=
  (WP_blk 6 120 0 _ _ h Q).trans rfl
theorem b_120_10 (r0 : Option Nat) (x1 : Int) (h : Zh) (Q : Zp) : WP 120 10 [some (zr r0), some (zi x1)] [] h Q = (kd h r0 7 ∧ (ixa h (gR h (ad r0) 12) 10 x1 ∧ (br ((gI h (ad (gR h (ad r0) 12)) x1) = (2 : Int)) (WP 120 24 [some (zr r0), some (zi x1)] [] h Q) (WP 120 20 [some (zr r0), some (zi x1)] [] h Q)))) :=
  (WP_blk 6 120 10 _ _ h Q).trans rfl
theorem b_120_20 (r0 : Option Nat) (x1 : Int) (h : Zh) (Q : Zp) : WP 120 20 [some (zr r0), some (zi x1)] [] h Q = (WP 120 25 [some (zr r0), some (zi x1)] [zi (1 : Int)] h Q) :=
  (WP_blk 2 120 20 _ _ h Q).trans rfl
theorem b_120_24 (r0 : Option Nat) (x1 : Int) (h : Zh) (Q : Zp) : WP 120 24 [some (zr r0), some (zi x1)] [] h Q = (WP 120 25 [some (zr r0), some (zi x1)] [zi (0 : Int)] h Q) :=
  (WP_blk 1 120 24 _ _ h Q).trans rfl
theorem b_120_25 (r0 : Option Nat) (x1 : Int) (s0 : Int) (h : Zh) (Q : Zp) : WP 120 25 [some (zr r0), some (zi x1)] [zi s0] h Q = ((s0 = 0 ∨ s0 = 1) ∧ (Q (.inl (some (zi s0))) h)) :=
  (WP_blk 1 120 25 _ _ h Q).trans rfl
-- 121: MarginaliaModel.isLost(I)Z
theorem b_121_0 (r0 : Option Nat) (x1 : Int) (h : Zh) (Q : Zp) : WP 121 0 [some (zr r0), some (zi x1)] [] h Q = (kd h r0 7 ∧ (ixa h (gR h (ad r0) 13) 10 x1 ∧ (kd h r0 7 ∧ (ixa h (gR h (ad r0) 14) 10 x1 ∧ (br ((gI h (ad (gR h (ad r0) 13)) x1) = (gI h (ad (gR h (ad r0) 14)) x1)) (WP 121 15 [some (zr r0), some (zi x1)] [] h Q) (WP 121 19 [some (zr r0), some (zi x1)] [] h Q)))))) :=
  (WP_blk 9 121 0 _ _ h Q).trans rfl
theorem b_121_15 (r0 : Option Nat) (x1 : Int) (h : Zh) (Q : Zp) : WP 121 15 [some (zr r0), some (zi x1)] [] h Q = (WP 121 20 [some (zr r0), some (zi x1)] [zi (1 : Int)] h Q) :=
  (WP_blk 2 121 15 _ _ h Q).trans rfl
theorem b_121_19 (r0 : Option Nat) (x1 : Int) (h : Zh) (Q : Zp) : WP 121 19 [some (zr r0), some (zi x1)] [] h Q = (WP 121 20 [some (zr r0), some (zi x1)] [zi (0 : Int)] h Q) :=
  (WP_blk 1 121 19 _ _ h Q).trans rfl
theorem b_121_20 (r0 : Option Nat) (x1 : Int) (s0 : Int) (h : Zh) (Q : Zp) : WP 121 20 [some (zr r0), some (zi x1)] [zi s0] h Q = ((s0 = 0 ∨ s0 = 1) ∧ (Q (.inl (some (zi s0))) h)) :=
  (WP_blk 1 121 20 _ _ h Q).trans rfl
-- 122: MarginaliaModel.heal()I
theorem b_122_0 (r0 : Option Nat) (h : Zh) (Q : Zp) : WP 122 0 [some (zr r0), none, none] [] h Q = (kd h r0 7 ∧ (WP 122 5 [some (zr r0), none, none] [] (pI h (ad r0) 0 (0 : Int)) Q)) :=
  (WP_blk 3 122 0 _ _ h Q).trans rfl
theorem b_122_5 (r0 : Option Nat) (h : Zh) (Q : Zp) : WP 122 5 [some (zr r0), none, none] [] h Q = (WP 122 9 [some (zr r0), some (zi (0 : Int)), some (zi (0 : Int))] [] h Q) :=
  (WP_blk 4 122 5 _ _ h Q).trans rfl
theorem b_122_9 (r0 : Option Nat) (x1 : Int) (x2 : Int) (h : Zh) (Q : Zp) : WP 122 9 [some (zr r0), some (zi x1), some (zi x2)] [] h Q = (kd h r0 7 ∧ (br ((gI h (ad r0) 7) ≤ x2) (WP 122 85 [some (zr r0), some (zi x1), some (zi x2)] [] h Q) (WP 122 17 [some (zr r0), some (zi x1), some (zi x2)] [] h Q))) :=
  (WP_blk 4 122 9 _ _ h Q).trans rfl
theorem b_122_17 (r0 : Option Nat) (x1 : Int) (x2 : Int) (h : Zh) (Q : Zp) : WP 122 17 [some (zr r0), some (zi x1), some (zi x2)] [] h Q = (kd h r0 7 ∧ (WP 120 0 [some (zr r0), some (zi x2)] [] h (kont WP 122 19 [some (zr r0), some (zi x1), some (zi x2)] [] [] Q))) :=
  (WP_blk 3 122 17 _ _ h Q).trans rfl
theorem b_122_22 (r0 : Option Nat) (x1 : Int) (x2 : Int) (s0 : Int) (h : Zh) (Q : Zp) : WP 122 22 [some (zr r0), some (zi x1), some (zi x2)] [zi s0] h Q = (br (s0 = 0) (WP 122 79 [some (zr r0), some (zi x1), some (zi x2)] [] h Q) (WP 122 25 [some (zr r0), some (zi x1), some (zi x2)] [] h Q)) :=
  (WP_blk 1 122 22 _ _ h Q).trans rfl
theorem b_122_25 (r0 : Option Nat) (x1 : Int) (x2 : Int) (h : Zh) (Q : Zp) : WP 122 25 [some (zr r0), some (zi x1), some (zi x2)] [] h Q = (kd h r0 7 ∧ (WP 121 0 [some (zr r0), some (zi x2)] [] h (kont WP 122 27 [some (zr r0), some (zi x1), some (zi x2)] [] [] Q))) :=
  (WP_blk 3 122 25 _ _ h Q).trans rfl
theorem b_122_30 (r0 : Option Nat) (x1 : Int) (x2 : Int) (s0 : Int) (h : Zh) (Q : Zp) : WP 122 30 [some (zr r0), some (zi x1), some (zi x2)] [zi s0] h Q = (br (s0 = 0) (WP 122 79 [some (zr r0), some (zi x1), some (zi x2)] [] h Q) (WP 122 33 [some (zr r0), some (zi x1), some (zi x2)] [] h Q)) :=
  (WP_blk 1 122 30 _ _ h Q).trans rfl
theorem b_122_33 (r0 : Option Nat) (x1 : Int) (x2 : Int) (h : Zh) (Q : Zp) : WP 122 33 [some (zr r0), some (zi x1), some (zi x2)] [] h Q = (kd h r0 7 ∧ (WP 119 0 [some (zr r0), some (zi x2), none, none, none, none] [] h (kont WP 122 35 [some (zr r0), some (zi x1), some (zi x2)] [] [] Q))) :=
  (WP_blk 3 122 33 _ _ h Q).trans rfl
theorem b_122_38 (r0 : Option Nat) (x1 : Int) (x2 : Int) (s0 : Int) (h : Zh) (Q : Zp) : WP 122 38 [some (zr r0), some (zi x1), some (zi x2)] [zi s0] h Q = (br (s0 = (-1 : Int)) (WP 122 42 [some (zr r0), some (zi x1), some (zi x2)] [] h Q) (WP 122 45 [some (zr r0), some (zi x1), some (zi x2)] [] h Q)) :=
  (WP_blk 2 122 38 _ _ h Q).trans rfl
theorem b_122_42 (r0 : Option Nat) (x1 : Int) (x2 : Int) (h : Zh) (Q : Zp) : WP 122 42 [some (zr r0), some (zi x1), some (zi x2)] [] h Q = (WP 122 79 [some (zr r0), some (zi x1), some (zi x2)] [] h Q) :=
  (WP_blk 1 122 42 _ _ h Q).trans rfl
theorem b_122_45 (r0 : Option Nat) (x1 : Int) (x2 : Int) (h : Zh) (Q : Zp) : WP 122 45 [some (zr r0), some (zi x1), some (zi x2)] [] h Q = (kd h r0 7 ∧ (kd h r0 7 ∧ (WP 119 0 [some (zr r0), some (zi x2), none, none, none, none] [] h (kont WP 122 52 [some (zr r0), some (zi x1), some (zi x2)] [zi x2, zr (gR h (ad r0) 13)] [] Q)))) :=
  (WP_blk 6 122 45 _ _ h Q).trans rfl
theorem b_122_55 (r0 : Option Nat) (x1 : Int) (x2 : Int) (s0 : Int) (s1 : Int) (sr2 : Option Nat) (h : Zh) (Q : Zp) : WP 122 55 [some (zr r0), some (zi x1), some (zi x2)] [zi s0, zi s1, zr sr2] h Q = (ixa h sr2 10 s1 ∧ (WP 122 56 [some (zr r0), some (zi x1), some (zi x2)] [] (pI h (ad sr2) s1 s0) Q)) :=
  (WP_blk 1 122 55 _ _ h Q).trans rfl
theorem b_122_56 (r0 : Option Nat) (x1 : Int) (x2 : Int) (h : Zh) (Q : Zp) : WP 122 56 [some (zr r0), some (zi x1), some (zi x2)] [] h Q = (kd h r0 7 ∧ (kd h r0 7 ∧ (ixa h (gR h (ad r0) 13) 10 x2 ∧ (kd h r0 7 ∧ (ixa h (gR h (ad r0) 19) 14 x2 ∧ (kd h (gR h (ad (gR h (ad r0) 19)) x2) 10 ∧ (inR ((gI h (ad (gR h (ad r0) 13)) x2) + (gL h (ad (gR h (ad (gR h (ad r0) 19)) x2)))) ∧ (ixa h (gR h (ad r0) 14) 10 x2 ∧ (WP 122 76 [some (zr r0), some (zi x1), some (zi x2)] [] (pI h (ad (gR h (ad r0) 14)) x2 ((gI h (ad (gR h (ad r0) 13)) x2) + (gL h (ad (gR h (ad (gR h (ad r0) 19)) x2))))) Q))))))))) :=
  (WP_blk 14 122 56 _ _ h Q).trans rfl
theorem b_122_76 (r0 : Option Nat) (x1 : Int) (x2 : Int) (h : Zh) (Q : Zp) : WP 122 76 [some (zr r0), some (zi x1), some (zi x2)] [] h Q = (inR (x1 + 1) ∧ (WP 122 79 [some (zr r0), some (zi (x1 + 1)), some (zi x2)] [] h Q)) :=
  (WP_blk 1 122 76 _ _ h Q).trans rfl
theorem b_122_79 (r0 : Option Nat) (x1 : Int) (x2 : Int) (h : Zh) (Q : Zp) : WP 122 79 [some (zr r0), some (zi x1), some (zi x2)] [] h Q = (inR (x2 + 1) ∧ (WP 122 9 [some (zr r0), some (zi x1), some (zi (x2 + 1))] [] h Q)) :=
  (WP_blk 2 122 79 _ _ h Q).trans rfl
theorem b_122_85 (r0 : Option Nat) (x1 : Int) (x2 : Int) (h : Zh) (Q : Zp) : WP 122 85 [some (zr r0), some (zi x1), some (zi x2)] [] h Q = (Q (.inl (some (zi x1))) h) :=
  (WP_blk 2 122 85 _ _ h Q).trans rfl
-- 123: MarginaliaModel.manyNow(I)I
theorem b_123_0 (r0 : Option Nat) (x1 : Int) (h : Zh) (Q : Zp) : WP 123 0 [some (zr r0), some (zi x1), none, none, none] [] h Q = (br (x1 = 0) (WP 123 4 [some (zr r0), some (zi x1), none, none, none] [] h Q) (WP 123 11 [some (zr r0), some (zi x1), none, none, none] [] h Q)) :=
  (WP_blk 2 123 0 _ _ h Q).trans rfl
theorem b_123_4 (r0 : Option Nat) (x1 : Int) (h : Zh) (Q : Zp) : WP 123 4 [some (zr r0), some (zi x1), none, none, none] [] h Q = (kd h r0 7 ∧ (WP 123 12 [some (zr r0), some (zi x1), none, none, none] [zi (gI h (ad r0) 1)] h Q)) :=
  (WP_blk 3 123 4 _ _ h Q).trans rfl
theorem b_123_11 (r0 : Option Nat) (x1 : Int) (h : Zh) (Q : Zp) : WP 123 11 [some (zr r0), some (zi x1), none, none, none] [] h Q = (WP 123 12 [some (zr r0), some (zi x1), none, none, none] [zi (0 : Int)] h Q) :=
  (WP_blk 1 123 11 _ _ h Q).trans rfl
theorem b_123_12 (r0 : Option Nat) (x1 : Int) (s0 : Int) (h : Zh) (Q : Zp) : WP 123 12 [some (zr r0), some (zi x1), none, none, none] [zi s0] h Q = (WP 123 15 [some (zr r0), some (zi x1), some (zi s0), some (zi (0 : Int)), none] [] h Q) :=
  (WP_blk 3 123 12 _ _ h Q).trans rfl
theorem b_123_15 (r0 : Option Nat) (x1 : Int) (x2 : Int) (x3 : Int) (o4 : Option Zv) (h : Zh) (Q : Zp) : WP 123 15 [some (zr r0), some (zi x1), some (zi x2), some (zi x3), o4] [] h Q = (kd h r0 7 ∧ (br ((gI h (ad r0) 7) ≤ x3) (WP 123 110 [some (zr r0), some (zi x1), some (zi x2), some (zi x3), o4] [] h Q) (WP 123 23 [some (zr r0), some (zi x1), some (zi x2), some (zi x3), o4] [] h Q))) :=
  (WP_blk 4 123 15 _ _ h Q).trans rfl
theorem b_123_23 (r0 : Option Nat) (x1 : Int) (x2 : Int) (x3 : Int) (o4 : Option Zv) (h : Zh) (Q : Zp) : WP 123 23 [some (zr r0), some (zi x1), some (zi x2), some (zi x3), o4] [] h Q = (br (x1 ≤ 0) (WP 123 110 [some (zr r0), some (zi x1), some (zi x2), some (zi x3), o4] [] h Q) (WP 123 27 [some (zr r0), some (zi x1), some (zi x2), some (zi x3), o4] [] h Q)) :=
  (WP_blk 2 123 23 _ _ h Q).trans rfl
theorem b_123_27 (r0 : Option Nat) (x1 : Int) (x2 : Int) (x3 : Int) (o4 : Option Zv) (h : Zh) (Q : Zp) : WP 123 27 [some (zr r0), some (zi x1), some (zi x2), some (zi x3), o4] [] h Q = (kd h r0 7 ∧ (ixa h (gR h (ad r0) 12) 10 x3 ∧ (br ((gI h (ad (gR h (ad r0) 12)) x3) = (2 : Int)) (WP 123 88 [some (zr r0), some (zi x1), some (zi x2), some (zi x3), o4] [] h Q) (WP 123 37 [some (zr r0), some (zi x1), some (zi x2), some (zi x3), o4] [] h Q)))) :=
  (WP_blk 6 123 27 _ _ h Q).trans rfl
theorem b_123_37 (r0 : Option Nat) (x1 : Int) (x2 : Int) (x3 : Int) (o4 : Option Zv) (h : Zh) (Q : Zp) : WP 123 37 [some (zr r0), some (zi x1), some (zi x2), some (zi x3), o4] [] h Q = (br (x1 = (1 : Int)) (WP 123 84 [some (zr r0), some (zi x1), some (zi x2), some (zi x3), o4] [] h Q) (WP 123 42 [some (zr r0), some (zi x1), some (zi x2), some (zi x3), o4] [] h Q)) :=
  (WP_blk 3 123 37 _ _ h Q).trans rfl
theorem b_123_42 (r0 : Option Nat) (x1 : Int) (x2 : Int) (x3 : Int) (o4 : Option Zv) (h : Zh) (Q : Zp) : WP 123 42 [some (zr r0), some (zi x1), some (zi x2), some (zi x3), o4] [] h Q = (kd h r0 7 ∧ (ixa h (gR h (ad r0) 11) 10 x3 ∧ (br ((gI h (ad (gR h (ad r0) 11)) x3) = x3) (WP 123 52 [some (zr r0), some (zi x1), some (zi x2), some (zi x3), o4] [] h Q) (WP 123 88 [some (zr r0), some (zi x1), some (zi x2), some (zi x3), o4] [] h Q)))) :=
  (WP_blk 6 123 42 _ _ h Q).trans rfl
theorem b_123_52 (r0 : Option Nat) (x1 : Int) (x2 : Int) (x3 : Int) (o4 : Option Zv) (h : Zh) (Q : Zp) : WP 123 52 [some (zr r0), some (zi x1), some (zi x2), some (zi x3), o4] [] h Q = (br (x1 = (2 : Int)) (WP 123 84 [some (zr r0), some (zi x1), some (zi x2), some (zi x3), o4] [] h Q) (WP 123 57 [some (zr r0), some (zi x1), some (zi x2), some (zi x3), o4] [] h Q)) :=
  (WP_blk 3 123 52 _ _ h Q).trans rfl
theorem b_123_57 (r0 : Option Nat) (x1 : Int) (x2 : Int) (x3 : Int) (o4 : Option Zv) (h : Zh) (Q : Zp) : WP 123 57 [some (zr r0), some (zi x1), some (zi x2), some (zi x3), o4] [] h Q = (br (x1 = (3 : Int)) (WP 123 62 [some (zr r0), some (zi x1), some (zi x2), some (zi x3), o4] [] h Q) (WP 123 71 [some (zr r0), some (zi x1), some (zi x2), some (zi x3), o4] [] h Q)) :=
  (WP_blk 3 123 57 _ _ h Q).trans rfl
theorem b_123_62 (r0 : Option Nat) (x1 : Int) (x2 : Int) (x3 : Int) (o4 : Option Zv) (h : Zh) (Q : Zp) : WP 123 62 [some (zr r0), some (zi x1), some (zi x2), some (zi x3), o4] [] h Q = (kd h r0 7 ∧ (ixa h (gR h (ad r0) 18) 12 x3 ∧ (br ((gI h (ad (gR h (ad r0) 18)) x3) = 0) (WP 123 84 [some (zr r0), some (zi x1), some (zi x2), some (zi x3), o4] [] h Q) (WP 123 71 [some (zr r0), some (zi x1), some (zi x2), some (zi x3), o4] [] h Q)))) :=
  (WP_blk 5 123 62 _ _ h Q).trans rfl
theorem b_123_71 (r0 : Option Nat) (x1 : Int) (x2 : Int) (x3 : Int) (o4 : Option Zv) (h : Zh) (Q : Zp) : WP 123 71 [some (zr r0), some (zi x1), some (zi x2), some (zi x3), o4] [] h Q = (br (x1 = (4 : Int)) (WP 123 76 [some (zr r0), some (zi x1), some (zi x2), some (zi x3), o4] [] h Q) (WP 123 88 [some (zr r0), some (zi x1), some (zi x2), some (zi x3), o4] [] h Q)) :=
  (WP_blk 3 123 71 _ _ h Q).trans rfl
theorem b_123_76 (r0 : Option Nat) (x1 : Int) (x2 : Int) (x3 : Int) (o4 : Option Zv) (h : Zh) (Q : Zp) : WP 123 76 [some (zr r0), some (zi x1), some (zi x2), some (zi x3), o4] [] h Q = (kd h r0 7 ∧ (WP 121 0 [some (zr r0), some (zi x3)] [] h (kont WP 123 78 [some (zr r0), some (zi x1), some (zi x2), some (zi x3), o4] [] [] Q))) :=
  (WP_blk 3 123 76 _ _ h Q).trans rfl
theorem b_123_81 (r0 : Option Nat) (x1 : Int) (x2 : Int) (x3 : Int) (o4 : Option Zv) (s0 : Int) (h : Zh) (Q : Zp) : WP 123 81 [some (zr r0), some (zi x1), some (zi x2), some (zi x3), o4] [zi s0] h Q = (br (s0 = 0) (WP 123 88 [some (zr r0), some (zi x1), some (zi x2), some (zi x3), o4] [] h Q) (WP 123 84 [some (zr r0), some (zi x1), some (zi x2), some (zi x3), o4] [] h Q)) :=
  (WP_blk 1 123 81 _ _ h Q).trans rfl
theorem b_123_84 (r0 : Option Nat) (x1 : Int) (x2 : Int) (x3 : Int) (o4 : Option Zv) (h : Zh) (Q : Zp) : WP 123 84 [some (zr r0), some (zi x1), some (zi x2), some (zi x3), o4] [] h Q = (WP 123 89 [some (zr r0), some (zi x1), some (zi x2), some (zi x3), o4] [zi (1 : Int)] h Q) :=
  (WP_blk 2 123 84 _ _ h Q).trans rfl
theorem b_123_88 (r0 : Option Nat) (x1 : Int) (x2 : Int) (x3 : Int) (o4 : Option Zv) (h : Zh) (Q : Zp) : WP 123 88 [some (zr r0), some (zi x1), some (zi x2), some (zi x3), o4] [] h Q = (WP 123 89 [some (zr r0), some (zi x1), some (zi x2), some (zi x3), o4] [zi (0 : Int)] h Q) :=
  (WP_blk 1 123 88 _ _ h Q).trans rfl
theorem b_123_89 (r0 : Option Nat) (x1 : Int) (x2 : Int) (x3 : Int) (o4 : Option Zv) (s0 : Int) (h : Zh) (Q : Zp) : WP 123 89 [some (zr r0), some (zi x1), some (zi x2), some (zi x3), o4] [zi s0] h Q = (br (s0 = 0) (WP 123 101 [some (zr r0), some (zi x1), some (zi x2), some (zi x3), some (zi s0)] [zi x2] h Q) (WP 123 97 [some (zr r0), some (zi x1), some (zi x2), some (zi x3), some (zi s0)] [zi x2] h Q)) :=
  (WP_blk 4 123 89 _ _ h Q).trans rfl
theorem b_123_97 (r0 : Option Nat) (x1 : Int) (x2 : Int) (x3 : Int) (x4 : Int) (s0 : Int) (h : Zh) (Q : Zp) : WP 123 97 [some (zr r0), some (zi x1), some (zi x2), some (zi x3), some (zi x4)] [zi s0] h Q = (WP 123 102 [some (zr r0), some (zi x1), some (zi x2), some (zi x3), some (zi x4)] [zi (1 : Int), zi s0] h Q) :=
  (WP_blk 2 123 97 _ _ h Q).trans rfl
theorem b_123_101 (r0 : Option Nat) (x1 : Int) (x2 : Int) (x3 : Int) (x4 : Int) (s0 : Int) (h : Zh) (Q : Zp) : WP 123 101 [some (zr r0), some (zi x1), some (zi x2), some (zi x3), some (zi x4)] [zi s0] h Q = (WP 123 102 [some (zr r0), some (zi x1), some (zi x2), some (zi x3), some (zi x4)] [zi (0 : Int), zi s0] h Q) :=
  (WP_blk 1 123 101 _ _ h Q).trans rfl
theorem b_123_102 (r0 : Option Nat) (x1 : Int) (x2 : Int) (x3 : Int) (x4 : Int) (s0 : Int) (s1 : Int) (h : Zh) (Q : Zp) : WP 123 102 [some (zr r0), some (zi x1), some (zi x2), some (zi x3), some (zi x4)] [zi s0, zi s1] h Q = (inR (s1 + s0) ∧ (inR (x3 + 1) ∧ (WP 123 15 [some (zr r0), some (zi x1), some (zi (s1 + s0)), some (zi (x3 + 1)), some (zi x4)] [] h Q))) :=
  (WP_blk 4 123 102 _ _ h Q).trans rfl
theorem b_123_110 (r0 : Option Nat) (x1 : Int) (x2 : Int) (x3 : Int) (o4 : Option Zv) (h : Zh) (Q : Zp) : WP 123 110 [some (zr r0), some (zi x1), some (zi x2), some (zi x3), o4] [] h Q = (Q (.inl (some (zi x2))) h) :=
  (WP_blk 2 123 110 _ _ h Q).trans rfl
-- 124: MarginaliaModel.many(I)I
theorem b_124_0 (r0 : Option Nat) (x1 : Int) (h : Zh) (Q : Zp) : WP 124 0 [some (zr r0), some (zi x1)] [] h Q = (kd h r0 7 ∧ (WP 124 5 [some (zr r0), some (zi x1)] [] (pI h (ad r0) 0 (0 : Int)) Q)) :=
  (WP_blk 3 124 0 _ _ h Q).trans rfl
theorem b_124_5 (r0 : Option Nat) (x1 : Int) (h : Zh) (Q : Zp) : WP 124 5 [some (zr r0), some (zi x1)] [] h Q = (WP 94 0 [some (zi x1), some (zi (0 : Int)), some (zi (4 : Int))] [] h (kont WP 124 8 [some (zr r0), some (zi x1)] [] [] Q)) :=
  (WP_blk 4 124 5 _ _ h Q).trans rfl
theorem b_124_11 (r0 : Option Nat) (x1 : Int) (s0 : Int) (h : Zh) (Q : Zp) : WP 124 11 [some (zr r0), some (zi x1)] [zi s0] h Q = (br (s0 = 0) (WP 124 22 [some (zr r0), some (zi x1)] [] h Q) (WP 124 14 [some (zr r0), some (zi x1)] [] h Q)) :=
  (WP_blk 1 124 11 _ _ h Q).trans rfl
theorem b_124_14 (r0 : Option Nat) (x1 : Int) (h : Zh) (Q : Zp) : WP 124 14 [some (zr r0), some (zi x1)] [] h Q = (kd h r0 7 ∧ (WP 123 0 [some (zr r0), some (zi x1), none, none, none] [] h (kont WP 124 16 [some (zr r0), some (zi x1)] [] [] Q))) :=
  (WP_blk 3 124 14 _ _ h Q).trans rfl
theorem b_124_19 (r0 : Option Nat) (x1 : Int) (s0 : Int) (h : Zh) (Q : Zp) : WP 124 19 [some (zr r0), some (zi x1)] [zi s0] h Q = (WP 124 27 [some (zr r0), some (zi x1)] [zi s0] h Q) :=
  (WP_blk 1 124 19 _ _ h Q).trans rfl
theorem b_124_22 (r0 : Option Nat) (x1 : Int) (h : Zh) (Q : Zp) : WP 124 22 [some (zr r0), some (zi x1)] [] h Q = (kd h r0 7 ∧ (WP 91 0 [some (zr r0), some (zi (1 : Int))] [] h (kont WP 124 24 [some (zr r0), some (zi x1)] [] [] Q))) :=
  (WP_blk 3 124 22 _ _ h Q).trans rfl
theorem b_124_27 (r0 : Option Nat) (x1 : Int) (s0 : Int) (h : Zh) (Q : Zp) : WP 124 27 [some (zr r0), some (zi x1)] [zi s0] h Q = (Q (.inl (some (zi s0))) h) :=
  (WP_blk 1 124 27 _ _ h Q).trans rfl
-- 125: MarginaliaModel.right(I)I
theorem b_125_0 (r0 : Option Nat) (x1 : Int) (h : Zh) (Q : Zp) : WP 125 0 [some (zr r0), some (zi x1)] [] h Q = (kd h r0 7 ∧ (WP 125 5 [some (zr r0), some (zi x1)] [] (pI h (ad r0) 0 (0 : Int)) Q)) :=
  (WP_blk 3 125 0 _ _ h Q).trans rfl
theorem b_125_5 (r0 : Option Nat) (x1 : Int) (h : Zh) (Q : Zp) : WP 125 5 [some (zr r0), some (zi x1)] [] h Q = (kd h r0 7 ∧ (WP 95 0 [some (zr r0), some (zi x1)] [] h (kont WP 125 7 [some (zr r0), some (zi x1)] [] [] Q))) :=
  (WP_blk 3 125 5 _ _ h Q).trans rfl
theorem b_125_10 (r0 : Option Nat) (x1 : Int) (s0 : Int) (h : Zh) (Q : Zp) : WP 125 10 [some (zr r0), some (zi x1)] [zi s0] h Q = (br (s0 = 0) (WP 125 22 [some (zr r0), some (zi x1)] [] h Q) (WP 125 13 [some (zr r0), some (zi x1)] [] h Q)) :=
  (WP_blk 1 125 10 _ _ h Q).trans rfl
theorem b_125_13 (r0 : Option Nat) (x1 : Int) (h : Zh) (Q : Zp) : WP 125 13 [some (zr r0), some (zi x1)] [] h Q = (kd h r0 7 ∧ (ixa h (gR h (ad r0) 2) 10 x1 ∧ (WP 125 27 [some (zr r0), some (zi x1)] [zi (gI h (ad (gR h (ad r0) 2)) x1)] h Q))) :=
  (WP_blk 5 125 13 _ _ h Q).trans rfl
theorem b_125_22 (r0 : Option Nat) (x1 : Int) (h : Zh) (Q : Zp) : WP 125 22 [some (zr r0), some (zi x1)] [] h Q = (kd h r0 7 ∧ (WP 91 0 [some (zr r0), some (zi (1 : Int))] [] h (kont WP 125 24 [some (zr r0), some (zi x1)] [] [] Q))) :=
  (WP_blk 3 125 22 _ _ h Q).trans rfl
theorem b_125_27 (r0 : Option Nat) (x1 : Int) (s0 : Int) (h : Zh) (Q : Zp) : WP 125 27 [some (zr r0), some (zi x1)] [zi s0] h Q = (Q (.inl (some (zi s0))) h) :=
  (WP_blk 1 125 27 _ _ h Q).trans rfl
-- 126: MarginaliaModel.depth(I)I
theorem b_126_0 (r0 : Option Nat) (x1 : Int) (h : Zh) (Q : Zp) : WP 126 0 [some (zr r0), some (zi x1), none, none] [] h Q = (kd h r0 7 ∧ (ixa h (gR h (ad r0) 10) 10 x1 ∧ (WP 126 9 [some (zr r0), some (zi x1), some (zi (0 : Int)), some (zi (gI h (ad (gR h (ad r0) 10)) x1))] [] h Q))) :=
  (WP_blk 7 126 0 _ _ h Q).trans rfl
theorem b_126_9 (r0 : Option Nat) (x1 : Int) (x2 : Int) (x3 : Int) (h : Zh) (Q : Zp) : WP 126 9 [some (zr r0), some (zi x1), some (zi x2), some (zi x3)] [] h Q = (br (x3 = (-1 : Int)) (WP 126 27 [some (zr r0), some (zi x1), some (zi x2), some (zi x3)] [] h Q) (WP 126 14 [some (zr r0), some (zi x1), some (zi x2), some (zi x3)] [] h Q)) :=
  (WP_blk 3 126 9 _ _ h Q).trans rfl
theorem b_126_14 (r0 : Option Nat) (x1 : Int) (x2 : Int) (x3 : Int) (h : Zh) (Q : Zp) : WP 126 14 [some (zr r0), some (zi x1), some (zi x2), some (zi x3)] [] h Q = (inR (x2 + 1) ∧ (kd h r0 7 ∧ (ixa h (gR h (ad r0) 10) 10 x3 ∧ (WP 126 9 [some (zr r0), some (zi x1), some (zi (x2 + 1)), some (zi (gI h (ad (gR h (ad r0) 10)) x3))] [] h Q)))) :=
  (WP_blk 7 126 14 _ _ h Q).trans rfl
theorem b_126_27 (r0 : Option Nat) (x1 : Int) (x2 : Int) (x3 : Int) (h : Zh) (Q : Zp) : WP 126 27 [some (zr r0), some (zi x1), some (zi x2), some (zi x3)] [] h Q = (Q (.inl (some (zi x2))) h) :=
  (WP_blk 2 126 27 _ _ h Q).trans rfl
-- 127: MarginaliaModel.contentOf(I)I
theorem b_127_0 (r0 : Option Nat) (x1 : Int) (h : Zh) (Q : Zp) : WP 127 0 [some (zr r0), some (zi x1)] [] h Q = (kd h r0 7 ∧ (ixa h (gR h (ad r0) 12) 10 x1 ∧ (br ((gI h (ad (gR h (ad r0) 12)) x1) = (1 : Int)) (WP 127 10 [some (zr r0), some (zi x1)] [] h Q) (WP 127 14 [some (zr r0), some (zi x1)] [] h Q)))) :=
  (WP_blk 6 127 0 _ _ h Q).trans rfl
theorem b_127_10 (r0 : Option Nat) (x1 : Int) (h : Zh) (Q : Zp) : WP 127 10 [some (zr r0), some (zi x1)] [] h Q = (WP 127 20 [some (zr r0), some (zi x1)] [zi (-1 : Int)] h Q) :=
  (WP_blk 2 127 10 _ _ h Q).trans rfl
theorem b_127_14 (r0 : Option Nat) (x1 : Int) (h : Zh) (Q : Zp) : WP 127 14 [some (zr r0), some (zi x1)] [] h Q = (kd h r0 7 ∧ (ixa h (gR h (ad r0) 9) 10 x1 ∧ (WP 127 20 [some (zr r0), some (zi x1)] [zi (gI h (ad (gR h (ad r0) 9)) x1)] h Q))) :=
  (WP_blk 4 127 14 _ _ h Q).trans rfl
theorem b_127_20 (r0 : Option Nat) (x1 : Int) (s0 : Int) (h : Zh) (Q : Zp) : WP 127 20 [some (zr r0), some (zi x1)] [zi s0] h Q = (Q (.inl (some (zi s0))) h) :=
  (WP_blk 1 127 20 _ _ h Q).trans rfl
-- 128: MarginaliaModel.ofNow(II)I
theorem b_128_0 (r0 : Option Nat) (x1 : Int) (x2 : Int) (h : Zh) (Q : Zp) : WP 128 0 [some (zr r0), some (zi x1), some (zi x2), none] [] h Q = (kd h r0 7 ∧ (ixa h (gR h (ad r0) 11) 10 x1 ∧ ((((x2 < 0 ∨ 0 + (10 : Int) ≤ x2) → WP 128 134 [some (zr r0), some (zi x1), some (zi x2), some (zi (gI h (ad (gR h (ad r0) 11)) x1))] [] h Q) ∧ swA (fun t => WP 128 t [some (zr r0), some (zi x1), some (zi x2), some (zi (gI h (ad (gR h (ad r0) 11)) x1))] [] h Q) x2 0 [64, 71, 78, 80, 86, 93, 100, 106, 112, 127])))) :=
  (WP_blk 7 128 0 _ _ h Q).trans rfl
theorem b_128_64 (r0 : Option Nat) (x1 : Int) (x2 : Int) (x3 : Int) (h : Zh) (Q : Zp) : WP 128 64 [some (zr r0), some (zi x1), some (zi x2), some (zi x3)] [] h Q = (kd h r0 7 ∧ (ixa h (gR h (ad r0) 8) 10 x1 ∧ (Q (.inl (some (zi (gI h (ad (gR h (ad r0) 8)) x1)))) h))) :=
  (WP_blk 5 128 64 _ _ h Q).trans rfl
theorem b_128_71 (r0 : Option Nat) (x1 : Int) (x2 : Int) (x3 : Int) (h : Zh) (Q : Zp) : WP 128 71 [some (zr r0), some (zi x1), some (zi x2), some (zi x3)] [] h Q = (kd h r0 7 ∧ (ixa h (gR h (ad r0) 10) 10 x1 ∧ (Q (.inl (some (zi (gI h (ad (gR h (ad r0) 10)) x1)))) h))) :=
  (WP_blk 5 128 71 _ _ h Q).trans rfl
theorem b_128_78 (r0 : Option Nat) (x1 : Int) (x2 : Int) (x3 : Int) (h : Zh) (Q : Zp) : WP 128 78 [some (zr r0), some (zi x1), some (zi x2), some (zi x3)] [] h Q = (Q (.inl (some (zi x3))) h) :=
  (WP_blk 2 128 78 _ _ h Q).trans rfl
theorem b_128_80 (r0 : Option Nat) (x1 : Int) (x2 : Int) (x3 : Int) (h : Zh) (Q : Zp) : WP 128 80 [some (zr r0), some (zi x1), some (zi x2), some (zi x3)] [] h Q = (kd h r0 7 ∧ (WP 127 0 [some (zr r0), some (zi x1)] [] h (kont WP 128 82 [some (zr r0), some (zi x1), some (zi x2), some (zi x3)] [] [] Q))) :=
  (WP_blk 3 128 80 _ _ h Q).trans rfl
theorem b_128_85 (r0 : Option Nat) (x1 : Int) (x2 : Int) (x3 : Int) (s0 : Int) (h : Zh) (Q : Zp) : WP 128 85 [some (zr r0), some (zi x1), some (zi x2), some (zi x3)] [zi s0] h Q = (Q (.inl (some (zi s0))) h) :=
  (WP_blk 1 128 85 _ _ h Q).trans rfl
theorem b_128_86 (r0 : Option Nat) (x1 : Int) (x2 : Int) (x3 : Int) (h : Zh) (Q : Zp) : WP 128 86 [some (zr r0), some (zi x1), some (zi x2), some (zi x3)] [] h Q = (kd h r0 7 ∧ (ixa h (gR h (ad r0) 13) 10 x3 ∧ (Q (.inl (some (zi (gI h (ad (gR h (ad r0) 13)) x3)))) h))) :=
  (WP_blk 5 128 86 _ _ h Q).trans rfl
theorem b_128_93 (r0 : Option Nat) (x1 : Int) (x2 : Int) (x3 : Int) (h : Zh) (Q : Zp) : WP 128 93 [some (zr r0), some (zi x1), some (zi x2), some (zi x3)] [] h Q = (kd h r0 7 ∧ (ixa h (gR h (ad r0) 14) 10 x3 ∧ (Q (.inl (some (zi (gI h (ad (gR h (ad r0) 14)) x3)))) h))) :=
  (WP_blk 5 128 93 _ _ h Q).trans rfl
theorem b_128_100 (r0 : Option Nat) (x1 : Int) (x2 : Int) (x3 : Int) (h : Zh) (Q : Zp) : WP 128 100 [some (zr r0), some (zi x1), some (zi x2), some (zi x3)] [] h Q = (kd h r0 7 ∧ (WP 126 0 [some (zr r0), some (zi x1), none, none] [] h (kont WP 128 102 [some (zr r0), some (zi x1), some (zi x2), some (zi x3)] [] [] Q))) :=
  (WP_blk 3 128 100 _ _ h Q).trans rfl
theorem b_128_105 (r0 : Option Nat) (x1 : Int) (x2 : Int) (x3 : Int) (s0 : Int) (h : Zh) (Q : Zp) : WP 128 105 [some (zr r0), some (zi x1), some (zi x2), some (zi x3)] [zi s0] h Q = (Q (.inl (some (zi s0))) h) :=
  (WP_blk 1 128 105 _ _ h Q).trans rfl
theorem b_128_106 (r0 : Option Nat) (x1 : Int) (x2 : Int) (x3 : Int) (h : Zh) (Q : Zp) : WP 128 106 [some (zr r0), some (zi x1), some (zi x2), some (zi x3)] [] h Q = (kd h r0 7 ∧ (WP 115 0 [some (zr r0), some (zi x1), none, none] [] h (kont WP 128 108 [some (zr r0), some (zi x1), some (zi x2), some (zi x3)] [] [] Q))) :=
  (WP_blk 3 128 106 _ _ h Q).trans rfl
theorem b_128_111 (r0 : Option Nat) (x1 : Int) (x2 : Int) (x3 : Int) (s0 : Int) (h : Zh) (Q : Zp) : WP 128 111 [some (zr r0), some (zi x1), some (zi x2), some (zi x3)] [zi s0] h Q = (Q (.inl (some (zi s0))) h) :=
  (WP_blk 1 128 111 _ _ h Q).trans rfl
theorem b_128_112 (r0 : Option Nat) (x1 : Int) (x2 : Int) (x3 : Int) (h : Zh) (Q : Zp) : WP 128 112 [some (zr r0), some (zi x1), some (zi x2), some (zi x3)] [] h Q = (kd h r0 7 ∧ (ixa h (gR h (ad r0) 18) 12 x3 ∧ (br ((gI h (ad (gR h (ad r0) 18)) x3) = 0) (WP 128 125 [some (zr r0), some (zi x1), some (zi x2), some (zi x3)] [] h Q) (WP 128 121 [some (zr r0), some (zi x1), some (zi x2), some (zi x3)] [] h Q)))) :=
  (WP_blk 5 128 112 _ _ h Q).trans rfl
theorem b_128_121 (r0 : Option Nat) (x1 : Int) (x2 : Int) (x3 : Int) (h : Zh) (Q : Zp) : WP 128 121 [some (zr r0), some (zi x1), some (zi x2), some (zi x3)] [] h Q = (WP 128 126 [some (zr r0), some (zi x1), some (zi x2), some (zi x3)] [zi (1 : Int)] h Q) :=
  (WP_blk 2 128 121 _ _ h Q).trans rfl
theorem b_128_125 (r0 : Option Nat) (x1 : Int) (x2 : Int) (x3 : Int) (h : Zh) (Q : Zp) : WP 128 125 [some (zr r0), some (zi x1), some (zi x2), some (zi x3)] [] h Q = (WP 128 126 [some (zr r0), some (zi x1), some (zi x2), some (zi x3)] [zi (0 : Int)] h Q) :=
  (WP_blk 1 128 125 _ _ h Q).trans rfl
theorem b_128_126 (r0 : Option Nat) (x1 : Int) (x2 : Int) (x3 : Int) (s0 : Int) (h : Zh) (Q : Zp) : WP 128 126 [some (zr r0), some (zi x1), some (zi x2), some (zi x3)] [zi s0] h Q = (Q (.inl (some (zi s0))) h) :=
  (WP_blk 1 128 126 _ _ h Q).trans rfl
theorem b_128_127 (r0 : Option Nat) (x1 : Int) (x2 : Int) (x3 : Int) (h : Zh) (Q : Zp) : WP 128 127 [some (zr r0), some (zi x1), some (zi x2), some (zi x3)] [] h Q = (kd h r0 7 ∧ (ixa h (gR h (ad r0) 15) 10 x3 ∧ (Q (.inl (some (zi (gI h (ad (gR h (ad r0) 15)) x3)))) h))) :=
  (WP_blk 5 128 127 _ _ h Q).trans rfl
theorem b_128_134 (r0 : Option Nat) (x1 : Int) (x2 : Int) (x3 : Int) (h : Zh) (Q : Zp) : WP 128 134 [some (zr r0), some (zi x1), some (zi x2), some (zi x3)] [] h Q = (kd h r0 7 ∧ (ixa h (gR h (ad r0) 16) 10 x3 ∧ (Q (.inl (some (zi (gI h (ad (gR h (ad r0) 16)) x3)))) h))) :=
  (WP_blk 5 128 134 _ _ h Q).trans rfl
-- 129: MarginaliaModel.ofNote(II)I
theorem b_129_0 (r0 : Option Nat) (x1 : Int) (x2 : Int) (h : Zh) (Q : Zp) : WP 129 0 [some (zr r0), some (zi x1), some (zi x2)] [] h Q = (kd h r0 7 ∧ (WP 129 5 [some (zr r0), some (zi x1), some (zi x2)] [] (pI h (ad r0) 0 (0 : Int)) Q)) :=
  (WP_blk 3 129 0 _ _ h Q).trans rfl
theorem b_129_5 (r0 : Option Nat) (x1 : Int) (x2 : Int) (h : Zh) (Q : Zp) : WP 129 5 [some (zr r0), some (zi x1), some (zi x2)] [] h Q = (kd h r0 7 ∧ (WP 96 0 [some (zr r0), some (zi x1)] [] h (kont WP 129 7 [some (zr r0), some (zi x1), some (zi x2)] [] [] Q))) :=
  (WP_blk 3 129 5 _ _ h Q).trans rfl
theorem b_129_10 (r0 : Option Nat) (x1 : Int) (x2 : Int) (s0 : Int) (h : Zh) (Q : Zp) : WP 129 10 [some (zr r0), some (zi x1), some (zi x2)] [zi s0] h Q = (br (s0 = 0) (WP 129 13 [some (zr r0), some (zi x1), some (zi x2)] [] h Q) (WP 129 19 [some (zr r0), some (zi x1), some (zi x2)] [] h Q)) :=
  (WP_blk 1 129 10 _ _ h Q).trans rfl
theorem b_129_13 (r0 : Option Nat) (x1 : Int) (x2 : Int) (h : Zh) (Q : Zp) : WP 129 13 [some (zr r0), some (zi x1), some (zi x2)] [] h Q = (kd h r0 7 ∧ (WP 91 0 [some (zr r0), some (zi (1 : Int))] [] h (kont WP 129 15 [some (zr r0), some (zi x1), some (zi x2)] [] [] Q))) :=
  (WP_blk 3 129 13 _ _ h Q).trans rfl
theorem b_129_18 (r0 : Option Nat) (x1 : Int) (x2 : Int) (s0 : Int) (h : Zh) (Q : Zp) : WP 129 18 [some (zr r0), some (zi x1), some (zi x2)] [zi s0] h Q = (Q (.inl (some (zi s0))) h) :=
  (WP_blk 1 129 18 _ _ h Q).trans rfl
theorem b_129_19 (r0 : Option Nat) (x1 : Int) (x2 : Int) (h : Zh) (Q : Zp) : WP 129 19 [some (zr r0), some (zi x1), some (zi x2)] [] h Q = (WP 94 0 [some (zi x2), some (zi (0 : Int)), some (zi (10 : Int))] [] h (kont WP 129 23 [some (zr r0), some (zi x1), some (zi x2)] [] [] Q)) :=
  (WP_blk 4 129 19 _ _ h Q).trans rfl
theorem b_129_26 (r0 : Option Nat) (x1 : Int) (x2 : Int) (s0 : Int) (h : Zh) (Q : Zp) : WP 129 26 [some (zr r0), some (zi x1), some (zi x2)] [zi s0] h Q = (br (s0 = 0) (WP 129 38 [some (zr r0), some (zi x1), some (zi x2)] [] h Q) (WP 129 29 [some (zr r0), some (zi x1), some (zi x2)] [] h Q)) :=
  (WP_blk 1 129 26 _ _ h Q).trans rfl
theorem b_129_29 (r0 : Option Nat) (x1 : Int) (x2 : Int) (h : Zh) (Q : Zp) : WP 129 29 [some (zr r0), some (zi x1), some (zi x2)] [] h Q = (kd h r0 7 ∧ (WP 128 0 [some (zr r0), some (zi x1), some (zi x2), none] [] h (kont WP 129 32 [some (zr r0), some (zi x1), some (zi x2)] [] [] Q))) :=
  (WP_blk 4 129 29 _ _ h Q).trans rfl
theorem b_129_35 (r0 : Option Nat) (x1 : Int) (x2 : Int) (s0 : Int) (h : Zh) (Q : Zp) : WP 129 35 [some (zr r0), some (zi x1), some (zi x2)] [zi s0] h Q = (WP 129 43 [some (zr r0), some (zi x1), some (zi x2)] [zi s0] h Q) :=
  (WP_blk 1 129 35 _ _ h Q).trans rfl
theorem b_129_38 (r0 : Option Nat) (x1 : Int) (x2 : Int) (h : Zh) (Q : Zp) : WP 129 38 [some (zr r0), some (zi x1), some (zi x2)] [] h Q = (kd h r0 7 ∧ (WP 91 0 [some (zr r0), some (zi (2 : Int))] [] h (kont WP 129 40 [some (zr r0), some (zi x1), some (zi x2)] [] [] Q))) :=
  (WP_blk 3 129 38 _ _ h Q).trans rfl
theorem b_129_43 (r0 : Option Nat) (x1 : Int) (x2 : Int) (s0 : Int) (h : Zh) (Q : Zp) : WP 129 43 [some (zr r0), some (zi x1), some (zi x2)] [zi s0] h Q = (Q (.inl (some (zi s0))) h) :=
  (WP_blk 1 129 43 _ _ h Q).trans rfl
-- 130: MarginaliaModel.quote(II)I
theorem b_130_0 (r0 : Option Nat) (x1 : Int) (x2 : Int) (h : Zh) (Q : Zp) : WP 130 0 [some (zr r0), some (zi x1), some (zi x2), none] [] h Q = (kd h r0 7 ∧ (WP 130 5 [some (zr r0), some (zi x1), some (zi x2), none] [] (pI h (ad r0) 0 (0 : Int)) Q)) :=
  (WP_blk 3 130 0 _ _ h Q).trans rfl
theorem b_130_5 (r0 : Option Nat) (x1 : Int) (x2 : Int) (h : Zh) (Q : Zp) : WP 130 5 [some (zr r0), some (zi x1), some (zi x2), none] [] h Q = (kd h r0 7 ∧ (WP 96 0 [some (zr r0), some (zi x1)] [] h (kont WP 130 7 [some (zr r0), some (zi x1), some (zi x2), none] [] [] Q))) :=
  (WP_blk 3 130 5 _ _ h Q).trans rfl
theorem b_130_10 (r0 : Option Nat) (x1 : Int) (x2 : Int) (s0 : Int) (h : Zh) (Q : Zp) : WP 130 10 [some (zr r0), some (zi x1), some (zi x2), none] [zi s0] h Q = (br (s0 = 0) (WP 130 13 [some (zr r0), some (zi x1), some (zi x2), none] [] h Q) (WP 130 19 [some (zr r0), some (zi x1), some (zi x2), none] [] h Q)) :=
  (WP_blk 1 130 10 _ _ h Q).trans rfl
theorem b_130_13 (r0 : Option Nat) (x1 : Int) (x2 : Int) (h : Zh) (Q : Zp) : WP 130 13 [some (zr r0), some (zi x1), some (zi x2), none] [] h Q = (kd h r0 7 ∧ (WP 91 0 [some (zr r0), some (zi (1 : Int))] [] h (kont WP 130 15 [some (zr r0), some (zi x1), some (zi x2), none] [] [] Q))) :=
  (WP_blk 3 130 13 _ _ h Q).trans rfl
theorem b_130_18 (r0 : Option Nat) (x1 : Int) (x2 : Int) (s0 : Int) (h : Zh) (Q : Zp) : WP 130 18 [some (zr r0), some (zi x1), some (zi x2), none] [zi s0] h Q = (Q (.inl (some (zi s0))) h) :=
  (WP_blk 1 130 18 _ _ h Q).trans rfl
theorem b_130_19 (r0 : Option Nat) (x1 : Int) (x2 : Int) (h : Zh) (Q : Zp) : WP 130 19 [some (zr r0), some (zi x1), some (zi x2), none] [] h Q = (kd h r0 7 ∧ (kd h r0 7 ∧ (ixa h (gR h (ad r0) 11) 10 x1 ∧ (ixa h (gR h (ad r0) 19) 14 (gI h (ad (gR h (ad r0) 11)) x1) ∧ (kd h (gR h (ad (gR h (ad r0) 19)) (gI h (ad (gR h (ad r0) 11)) x1)) 10 ∧ (inR ((gL h (ad (gR h (ad (gR h (ad r0) 19)) (gI h (ad (gR h (ad r0) 11)) x1)))) - (1 : Int)) ∧ (WP 94 0 [some (zi x2), some (zi (0 : Int)), some (zi ((gL h (ad (gR h (ad (gR h (ad r0) 19)) (gI h (ad (gR h (ad r0) 11)) x1)))) - (1 : Int)))] [] h (kont WP 130 37 [some (zr r0), some (zi x1), some (zi x2), some (zr (gR h (ad (gR h (ad r0) 19)) (gI h (ad (gR h (ad r0) 11)) x1)))] [] [] Q)))))))) :=
  (WP_blk 15 130 19 _ _ h Q).trans rfl
theorem b_130_40 (r0 : Option Nat) (x1 : Int) (x2 : Int) (r3 : Option Nat) (s0 : Int) (h : Zh) (Q : Zp) : WP 130 40 [some (zr r0), some (zi x1), some (zi x2), some (zr r3)] [zi s0] h Q = (br (s0 = 0) (WP 130 49 [some (zr r0), some (zi x1), some (zi x2), some (zr r3)] [] h Q) (WP 130 43 [some (zr r0), some (zi x1), some (zi x2), some (zr r3)] [] h Q)) :=
  (WP_blk 1 130 40 _ _ h Q).trans rfl
theorem b_130_43 (r0 : Option Nat) (x1 : Int) (x2 : Int) (r3 : Option Nat) (h : Zh) (Q : Zp) : WP 130 43 [some (zr r0), some (zi x1), some (zi x2), some (zr r3)] [] h Q = (ixa h r3 10 x2 ∧ (WP 130 50 [some (zr r0), some (zi x1), some (zi x2), some (zr r3)] [zi (gI h (ad r3) x2)] h Q)) :=
  (WP_blk 4 130 43 _ _ h Q).trans rfl
theorem b_130_49 (r0 : Option Nat) (x1 : Int) (x2 : Int) (r3 : Option Nat) (h : Zh) (Q : Zp) : WP 130 49 [some (zr r0), some (zi x1), some (zi x2), some (zr r3)] [] h Q = (WP 130 50 [some (zr r0), some (zi x1), some (zi x2), some (zr r3)] [zi (-1 : Int)] h Q) :=
  (WP_blk 1 130 49 _ _ h Q).trans rfl
theorem b_130_50 (r0 : Option Nat) (x1 : Int) (x2 : Int) (r3 : Option Nat) (s0 : Int) (h : Zh) (Q : Zp) : WP 130 50 [some (zr r0), some (zi x1), some (zi x2), some (zr r3)] [zi s0] h Q = (Q (.inl (some (zi s0))) h) :=
  (WP_blk 1 130 50 _ _ h Q).trans rfl
-- 131: MarginaliaModel.sees(II)Z
theorem b_131_0 (r0 : Option Nat) (x1 : Int) (x2 : Int) (h : Zh) (Q : Zp) : WP 131 0 [some (zr r0), some (zi x1), some (zi x2)] [] h Q = (kd h r0 7 ∧ (WP 131 5 [some (zr r0), some (zi x1), some (zi x2)] [] (pI h (ad r0) 0 (0 : Int)) Q)) :=
  (WP_blk 3 131 0 _ _ h Q).trans rfl
theorem b_131_5 (r0 : Option Nat) (x1 : Int) (x2 : Int) (h : Zh) (Q : Zp) : WP 131 5 [some (zr r0), some (zi x1), some (zi x2)] [] h Q = (kd h r0 7 ∧ (WP 95 0 [some (zr r0), some (zi x1)] [] h (kont WP 131 7 [some (zr r0), some (zi x1), some (zi x2)] [] [] Q))) :=
  (WP_blk 3 131 5 _ _ h Q).trans rfl
theorem b_131_10 (r0 : Option Nat) (x1 : Int) (x2 : Int) (s0 : Int) (h : Zh) (Q : Zp) : WP 131 10 [some (zr r0), some (zi x1), some (zi x2)] [zi s0] h Q = (br (s0 = 0) (WP 131 30 [some (zr r0), some (zi x1), some (zi x2)] [] h Q) (WP 131 13 [some (zr r0), some (zi x1), some (zi x2)] [] h Q)) :=
  (WP_blk 1 131 10 _ _ h Q).trans rfl
theorem b_131_13 (r0 : Option Nat) (x1 : Int) (x2 : Int) (h : Zh) (Q : Zp) : WP 131 13 [some (zr r0), some (zi x1), some (zi x2)] [] h Q = (kd h r0 7 ∧ (WP 96 0 [some (zr r0), some (zi x2)] [] h (kont WP 131 15 [some (zr r0), some (zi x1), some (zi x2)] [] [] Q))) :=
  (WP_blk 3 131 13 _ _ h Q).trans rfl
theorem b_131_18 (r0 : Option Nat) (x1 : Int) (x2 : Int) (s0 : Int) (h : Zh) (Q : Zp) : WP 131 18 [some (zr r0), some (zi x1), some (zi x2)] [zi s0] h Q = (br (s0 = 0) (WP 131 30 [some (zr r0), some (zi x1), some (zi x2)] [] h Q) (WP 131 21 [some (zr r0), some (zi x1), some (zi x2)] [] h Q)) :=
  (WP_blk 1 131 18 _ _ h Q).trans rfl
theorem b_131_21 (r0 : Option Nat) (x1 : Int) (x2 : Int) (h : Zh) (Q : Zp) : WP 131 21 [some (zr r0), some (zi x1), some (zi x2)] [] h Q = (kd h r0 7 ∧ (WP 109 0 [some (zr r0), some (zi x1), some (zi x2)] [] h (kont WP 131 24 [some (zr r0), some (zi x1), some (zi x2)] [] [] Q))) :=
  (WP_blk 4 131 21 _ _ h Q).trans rfl
theorem b_131_27 (r0 : Option Nat) (x1 : Int) (x2 : Int) (s0 : Int) (h : Zh) (Q : Zp) : WP 131 27 [some (zr r0), some (zi x1), some (zi x2)] [zi s0] h Q = (WP 131 35 [some (zr r0), some (zi x1), some (zi x2)] [zi s0] h Q) :=
  (WP_blk 1 131 27 _ _ h Q).trans rfl
theorem b_131_30 (r0 : Option Nat) (x1 : Int) (x2 : Int) (h : Zh) (Q : Zp) : WP 131 30 [some (zr r0), some (zi x1), some (zi x2)] [] h Q = (kd h r0 7 ∧ (WP 92 0 [some (zr r0), some (zi (1 : Int))] [] h (kont WP 131 32 [some (zr r0), some (zi x1), some (zi x2)] [] [] Q))) :=
  (WP_blk 3 131 30 _ _ h Q).trans rfl
theorem b_131_35 (r0 : Option Nat) (x1 : Int) (x2 : Int) (s0 : Int) (h : Zh) (Q : Zp) : WP 131 35 [some (zr r0), some (zi x1), some (zi x2)] [zi s0] h Q = ((s0 = 0 ∨ s0 = 1) ∧ (Q (.inl (some (zi s0))) h)) :=
  (WP_blk 1 131 35 _ _ h Q).trans rfl
-- 132: MarginaliaModel.tellOrder(I)V
theorem b_132_0 (r0 : Option Nat) (x1 : Int) (h : Zh) (Q : Zp) : WP 132 0 [some (zr r0), some (zi x1), none] [] h Q = (kd h r0 7 ∧ (WP 132 5 [some (zr r0), some (zi x1), none] [] (pI h (ad r0) 21 (0 : Int)) Q)) :=
  (WP_blk 3 132 0 _ _ h Q).trans rfl
theorem b_132_5 (r0 : Option Nat) (x1 : Int) (h : Zh) (Q : Zp) : WP 132 5 [some (zr r0), some (zi x1), none] [] h Q = (WP 132 7 [some (zr r0), some (zi x1), some (zi x1)] [] h Q) :=
  (WP_blk 2 132 5 _ _ h Q).trans rfl
theorem b_132_7 (r0 : Option Nat) (x1 : Int) (x2 : Int) (h : Zh) (Q : Zp) : WP 132 7 [some (zr r0), some (zi x1), some (zi x2)] [] h Q = (br (x2 = (-1 : Int)) (WP 132 38 [some (zr r0), some (zi x1), some (zi x2)] [] h Q) (WP 132 12 [some (zr r0), some (zi x1), some (zi x2)] [] h Q)) :=
  (WP_blk 3 132 7 _ _ h Q).trans rfl
theorem b_132_12 (r0 : Option Nat) (x1 : Int) (x2 : Int) (h : Zh) (Q : Zp) : WP 132 12 [some (zr r0), some (zi x1), some (zi x2)] [] h Q = (kd h r0 7 ∧ (kd h r0 7 ∧ (inR ((gI h (ad r0) 21) + (1 : Int)) ∧ (kd h r0 7 ∧ (WP 132 27 [some (zr r0), some (zi x1), some (zi x2)] [zi (gI h (ad r0) 21), zr (gR h (ad r0) 22)] (pI h (ad r0) 21 ((gI h (ad r0) 21) + (1 : Int))) Q))))) :=
  (WP_blk 9 132 12 _ _ h Q).trans rfl
theorem b_132_27 (r0 : Option Nat) (x1 : Int) (x2 : Int) (s0 : Int) (sr1 : Option Nat) (h : Zh) (Q : Zp) : WP 132 27 [some (zr r0), some (zi x1), some (zi x2)] [zi s0, zr sr1] h Q = (ixa h sr1 10 s0 ∧ (WP 132 29 [some (zr r0), some (zi x1), some (zi x2)] [] (pI h (ad sr1) s0 x2) Q)) :=
  (WP_blk 2 132 27 _ _ h Q).trans rfl
theorem b_132_29 (r0 : Option Nat) (x1 : Int) (x2 : Int) (h : Zh) (Q : Zp) : WP 132 29 [some (zr r0), some (zi x1), some (zi x2)] [] h Q = (kd h r0 7 ∧ (WP 133 0 [some (zr r0), some (zi x2), none, none] [] h (kont WP 132 31 [some (zr r0), some (zi x1), some (zi x2)] [] [] Q))) :=
  (WP_blk 3 132 29 _ _ h Q).trans rfl
theorem b_132_34 (r0 : Option Nat) (x1 : Int) (x2 : Int) (s0 : Int) (h : Zh) (Q : Zp) : WP 132 34 [some (zr r0), some (zi x1), some (zi x2)] [zi s0] h Q = (WP 132 7 [some (zr r0), some (zi x1), some (zi s0)] [] h Q) :=
  (WP_blk 2 132 34 _ _ h Q).trans rfl
theorem b_132_38 (r0 : Option Nat) (x1 : Int) (x2 : Int) (h : Zh) (Q : Zp) : WP 132 38 [some (zr r0), some (zi x1), some (zi x2)] [] h Q = (Q (.inl none) h) :=
  (WP_blk 1 132 38 _ _ h Q).trans rfl
-- 133: MarginaliaModel.behind(I)I
theorem b_133_0 (r0 : Option Nat) (x1 : Int) (h : Zh) (Q : Zp) : WP 133 0 [some (zr r0), some (zi x1), none, none] [] h Q = (kd h r0 7 ∧ (WP 134 0 [some (zr r0), some (zi x1), some (zi x1), none] [] h (kont WP 133 3 [some (zr r0), some (zi x1), none, none] [] [] Q))) :=
  (WP_blk 4 133 0 _ _ h Q).trans rfl
theorem b_133_6 (r0 : Option Nat) (x1 : Int) (s0 : Int) (h : Zh) (Q : Zp) : WP 133 6 [some (zr r0), some (zi x1), none, none] [zi s0] h Q = (WP 133 9 [some (zr r0), some (zi x1), some (zi s0), some (zi x1)] [] h Q) :=
  (WP_blk 3 133 6 _ _ h Q).trans rfl
theorem b_133_9 (r0 : Option Nat) (x1 : Int) (x2 : Int) (x3 : Int) (h : Zh) (Q : Zp) : WP 133 9 [some (zr r0), some (zi x1), some (zi x2), some (zi x3)] [] h Q = (br (x2 = (-1 : Int)) (WP 133 14 [some (zr r0), some (zi x1), some (zi x2), some (zi x3)] [] h Q) (WP 133 46 [some (zr r0), some (zi x1), some (zi x2), some (zi x3)] [] h Q)) :=
  (WP_blk 3 133 9 _ _ h Q).trans rfl
theorem b_133_14 (r0 : Option Nat) (x1 : Int) (x2 : Int) (x3 : Int) (h : Zh) (Q : Zp) : WP 133 14 [some (zr r0), some (zi x1), some (zi x2), some (zi x3)] [] h Q = (kd h r0 7 ∧ (ixa h (gR h (ad r0) 10) 10 x3 ∧ (br ((gI h (ad (gR h (ad r0) 10)) x3) = (-1 : Int)) (WP 133 46 [some (zr r0), some (zi x1), some (zi x2), some (zi x3)] [] h Q) (WP 133 24 [some (zr r0), some (zi x1), some (zi x2), some (zi x3)] [] h Q)))) :=
  (WP_blk 6 133 14 _ _ h Q).trans rfl
theorem b_133_24 (r0 : Option Nat) (x1 : Int) (x2 : Int) (x3 : Int) (h : Zh) (Q : Zp) : WP 133 24 [some (zr r0), some (zi x1), some (zi x2), some (zi x3)] [] h Q = (kd h r0 7 ∧ (ixa h (gR h (ad r0) 10) 10 x3 ∧ (kd h r0 7 ∧ (WP 134 0 [some (zr r0), some (zi (gI h (ad (gR h (ad r0) 10)) x3)), some (zi x3), none] [] h (kont WP 133 32 [some (zr r0), some (zi x1), some (zi x2), some (zi x3)] [] [] Q))))) :=
  (WP_blk 7 133 24 _ _ h Q).trans rfl
theorem b_133_35 (r0 : Option Nat) (x1 : Int) (x2 : Int) (x3 : Int) (s0 : Int) (h : Zh) (Q : Zp) : WP 133 35 [some (zr r0), some (zi x1), some (zi x2), some (zi x3)] [zi s0] h Q = (kd h r0 7 ∧ (ixa h (gR h (ad r0) 10) 10 x3 ∧ (WP 133 9 [some (zr r0), some (zi x1), some (zi s0), some (zi (gI h (ad (gR h (ad r0) 10)) x3))] [] h Q))) :=
  (WP_blk 7 133 35 _ _ h Q).trans rfl
theorem b_133_46 (r0 : Option Nat) (x1 : Int) (x2 : Int) (x3 : Int) (h : Zh) (Q : Zp) : WP 133 46 [some (zr r0), some (zi x1), some (zi x2), some (zi x3)] [] h Q = (Q (.inl (some (zi x2))) h) :=
  (WP_blk 2 133 46 _ _ h Q).trans rfl
-- 134: MarginaliaModel.reply(II)I
theorem b_134_0 (r0 : Option Nat) (x1 : Int) (x2 : Int) (h : Zh) (Q : Zp) : WP 134 0 [some (zr r0), some (zi x1), some (zi x2), none] [] h Q = (inR (x2 + (1 : Int)) ∧ (WP 134 4 [some (zr r0), some (zi x1), some (zi x2), some (zi (x2 + (1 : Int)))] [] h Q)) :=
  (WP_blk 4 134 0 _ _ h Q).trans rfl
theorem b_134_4 (r0 : Option Nat) (x1 : Int) (x2 : Int) (x3 : Int) (h : Zh) (Q : Zp) : WP 134 4 [some (zr r0), some (zi x1), some (zi x2), some (zi x3)] [] h Q = (kd h r0 7 ∧ (br ((gI h (ad r0) 7) ≤ x3) (WP 134 40 [some (zr r0), some (zi x1), some (zi x2), some (zi x3)] [] h Q) (WP 134 12 [some (zr r0), some (zi x1), some (zi x2), some (zi x3)] [] h Q))) :=
  (WP_blk 4 134 4 _ _ h Q).trans rfl
theorem b_134_12 (r0 : Option Nat) (x1 : Int) (x2 : Int) (x3 : Int) (h : Zh) (Q : Zp) : WP 134 12 [some (zr r0), some (zi x1), some (zi x2), some (zi x3)] [] h Q = (kd h r0 7 ∧ (ixa h (gR h (ad r0) 10) 10 x3 ∧ (br ((gI h (ad (gR h (ad r0) 10)) x3) = x1) (WP 134 22 [some (zr r0), some (zi x1), some (zi x2), some (zi x3)] [] h Q) (WP 134 34 [some (zr r0), some (zi x1), some (zi x2), some (zi x3)] [] h Q)))) :=
  (WP_blk 6 134 12 _ _ h Q).trans rfl
theorem b_134_22 (r0 : Option Nat) (x1 : Int) (x2 : Int) (x3 : Int) (h : Zh) (Q : Zp) : WP 134 22 [some (zr r0), some (zi x1), some (zi x2), some (zi x3)] [] h Q = (kd h r0 7 ∧ (ixa h (gR h (ad r0) 12) 10 x3 ∧ (br ((gI h (ad (gR h (ad r0) 12)) x3) = (2 : Int)) (WP 134 34 [some (zr r0), some (zi x1), some (zi x2), some (zi x3)] [] h Q) (WP 134 32 [some (zr r0), some (zi x1), some (zi x2), some (zi x3)] [] h Q)))) :=
  (WP_blk 6 134 22 _ _ h Q).trans rfl
theorem b_134_32 (r0 : Option Nat) (x1 : Int) (x2 : Int) (x3 : Int) (h : Zh) (Q : Zp) : WP 134 32 [some (zr r0), some (zi x1), some (zi x2), some (zi x3)] [] h Q = (Q (.inl (some (zi x3))) h) :=
  (WP_blk 2 134 32 _ _ h Q).trans rfl
theorem b_134_34 (r0 : Option Nat) (x1 : Int) (x2 : Int) (x3 : Int) (h : Zh) (Q : Zp) : WP 134 34 [some (zr r0), some (zi x1), some (zi x2), some (zi x3)] [] h Q = (inR (x3 + 1) ∧ (WP 134 4 [some (zr r0), some (zi x1), some (zi x2), some (zi (x3 + 1))] [] h Q)) :=
  (WP_blk 2 134 34 _ _ h Q).trans rfl
theorem b_134_40 (r0 : Option Nat) (x1 : Int) (x2 : Int) (x3 : Int) (h : Zh) (Q : Zp) : WP 134 40 [some (zr r0), some (zi x1), some (zi x2), some (zi x3)] [] h Q = (Q (.inl (some (zi (-1 : Int)))) h) :=
  (WP_blk 2 134 40 _ _ h Q).trans rfl
-- 135: MarginaliaModel.thread(II)I
theorem b_135_0 (r0 : Option Nat) (x1 : Int) (x2 : Int) (h : Zh) (Q : Zp) : WP 135 0 [some (zr r0), some (zi x1), some (zi x2)] [] h Q = (kd h r0 7 ∧ (WP 135 5 [some (zr r0), some (zi x1), some (zi x2)] [] (pI h (ad r0) 0 (0 : Int)) Q)) :=
  (WP_blk 3 135 0 _ _ h Q).trans rfl
theorem b_135_5 (r0 : Option Nat) (x1 : Int) (x2 : Int) (h : Zh) (Q : Zp) : WP 135 5 [some (zr r0), some (zi x1), some (zi x2)] [] h Q = (kd h r0 7 ∧ (WP 96 0 [some (zr r0), some (zi x1)] [] h (kont WP 135 7 [some (zr r0), some (zi x1), some (zi x2)] [] [] Q))) :=
  (WP_blk 3 135 5 _ _ h Q).trans rfl
theorem b_135_10 (r0 : Option Nat) (x1 : Int) (x2 : Int) (s0 : Int) (h : Zh) (Q : Zp) : WP 135 10 [some (zr r0), some (zi x1), some (zi x2)] [zi s0] h Q = (br (s0 = 0) (WP 135 13 [some (zr r0), some (zi x1), some (zi x2)] [] h Q) (WP 135 19 [some (zr r0), some (zi x1), some (zi x2)] [] h Q)) :=
  (WP_blk 1 135 10 _ _ h Q).trans rfl
theorem b_135_13 (r0 : Option Nat) (x1 : Int) (x2 : Int) (h : Zh) (Q : Zp) : WP 135 13 [some (zr r0), some (zi x1), some (zi x2)] [] h Q = (kd h r0 7 ∧ (WP 91 0 [some (zr r0), some (zi (1 : Int))] [] h (kont WP 135 15 [some (zr r0), some (zi x1), some (zi x2)] [] [] Q))) :=
  (WP_blk 3 135 13 _ _ h Q).trans rfl
theorem b_135_18 (r0 : Option Nat) (x1 : Int) (x2 : Int) (s0 : Int) (h : Zh) (Q : Zp) : WP 135 18 [some (zr r0), some (zi x1), some (zi x2)] [zi s0] h Q = (Q (.inl (some (zi s0))) h) :=
  (WP_blk 1 135 18 _ _ h Q).trans rfl
theorem b_135_19 (r0 : Option Nat) (x1 : Int) (x2 : Int) (h : Zh) (Q : Zp) : WP 135 19 [some (zr r0), some (zi x1), some (zi x2)] [] h Q = (kd h r0 7 ∧ (ixa h (gR h (ad r0) 11) 10 x1 ∧ (kd h r0 7 ∧ (WP 132 0 [some (zr r0), some (zi (gI h (ad (gR h (ad r0) 11)) x1)), none] [] h (kont WP 135 26 [some (zr r0), some (zi x1), some (zi x2)] [] [] Q))))) :=
  (WP_blk 6 135 19 _ _ h Q).trans rfl
theorem b_135_29 (r0 : Option Nat) (x1 : Int) (x2 : Int) (h : Zh) (Q : Zp) : WP 135 29 [some (zr r0), some (zi x1), some (zi x2)] [] h Q = (kd h r0 7 ∧ (inR ((gI h (ad r0) 21) - (1 : Int)) ∧ (WP 94 0 [some (zi x2), some (zi (0 : Int)), some (zi ((gI h (ad r0) 21) - (1 : Int)))] [] h (kont WP 135 37 [some (zr r0), some (zi x1), some (zi x2)] [] [] Q)))) :=
  (WP_blk 7 135 29 _ _ h Q).trans rfl
theorem b_135_40 (r0 : Option Nat) (x1 : Int) (x2 : Int) (s0 : Int) (h : Zh) (Q : Zp) : WP 135 40 [some (zr r0), some (zi x1), some (zi x2)] [zi s0] h Q = (br (s0 = 0) (WP 135 52 [some (zr r0), some (zi x1), some (zi x2)] [] h Q) (WP 135 43 [some (zr r0), some (zi x1), some (zi x2)] [] h Q)) :=
  (WP_blk 1 135 40 _ _ h Q).trans rfl
theorem b_135_43 (r0 : Option Nat) (x1 : Int) (x2 : Int) (h : Zh) (Q : Zp) : WP 135 43 [some (zr r0), some (zi x1), some (zi x2)] [] h Q = (kd h r0 7 ∧ (ixa h (gR h (ad r0) 22) 10 x2 ∧ (WP 135 53 [some (zr r0), some (zi x1), some (zi x2)] [zi (gI h (ad (gR h (ad r0) 22)) x2)] h Q))) :=
  (WP_blk 5 135 43 _ _ h Q).trans rfl
theorem b_135_52 (r0 : Option Nat) (x1 : Int) (x2 : Int) (h : Zh) (Q : Zp) : WP 135 52 [some (zr r0), some (zi x1), some (zi x2)] [] h Q = (WP 135 53 [some (zr r0), some (zi x1), some (zi x2)] [zi (-1 : Int)] h Q) :=
  (WP_blk 1 135 52 _ _ h Q).trans rfl
theorem b_135_53 (r0 : Option Nat) (x1 : Int) (x2 : Int) (s0 : Int) (h : Zh) (Q : Zp) : WP 135 53 [some (zr r0), some (zi x1), some (zi x2)] [zi s0] h Q = (Q (.inl (some (zi s0))) h) :=
  (WP_blk 1 135 53 _ _ h Q).trans rfl
-- 136: MarginaliaModel.overNow(II)I
theorem b_136_0 (r0 : Option Nat) (x1 : Int) (x2 : Int) (h : Zh) (Q : Zp) : WP 136 0 [some (zr r0), some (zi x1), some (zi x2), none, none] [] h Q = (WP 136 5 [some (zr r0), some (zi x1), some (zi x2), some (zi (0 : Int)), some (zi (0 : Int))] [] h Q) :=
  (WP_blk 4 136 0 _ _ h Q).trans rfl
theorem b_136_5 (r0 : Option Nat) (x1 : Int) (x2 : Int) (x3 : Int) (x4 : Int) (h : Zh) (Q : Zp) : WP 136 5 [some (zr r0), some (zi x1), some (zi x2), some (zi x3), some (zi x4)] [] h Q = (kd h r0 7 ∧ (br ((gI h (ad r0) 7) ≤ x4) (WP 136 69 [some (zr r0), some (zi x1), some (zi x2), some (zi x3), some (zi x4)] [] h Q) (WP 136 14 [some (zr r0), some (zi x1), some (zi x2), some (zi x3), some (zi x4)] [] h Q))) :=
  (WP_blk 4 136 5 _ _ h Q).trans rfl
theorem b_136_14 (r0 : Option Nat) (x1 : Int) (x2 : Int) (x3 : Int) (x4 : Int) (h : Zh) (Q : Zp) : WP 136 14 [some (zr r0), some (zi x1), some (zi x2), some (zi x3), some (zi x4)] [] h Q = (kd h r0 7 ∧ (WP 120 0 [some (zr r0), some (zi x4)] [] h (kont WP 136 18 [some (zr r0), some (zi x1), some (zi x2), some (zi x3), some (zi x4)] [zi x3] [] Q))) :=
  (WP_blk 4 136 14 _ _ h Q).trans rfl
theorem b_136_21 (r0 : Option Nat) (x1 : Int) (x2 : Int) (x3 : Int) (x4 : Int) (s0 : Int) (s1 : Int) (h : Zh) (Q : Zp) : WP 136 21 [some (zr r0), some (zi x1), some (zi x2), some (zi x3), some (zi x4)] [zi s0, zi s1] h Q = (br (s0 = 0) (WP 136 60 [some (zr r0), some (zi x1), some (zi x2), some (zi x3), some (zi x4)] [zi s1] h Q) (WP 136 24 [some (zr r0), some (zi x1), some (zi x2), some (zi x3), some (zi x4)] [zi s1] h Q)) :=
  (WP_blk 1 136 21 _ _ h Q).trans rfl
theorem b_136_24 (r0 : Option Nat) (x1 : Int) (x2 : Int) (x3 : Int) (x4 : Int) (s0 : Int) (h : Zh) (Q : Zp) : WP 136 24 [some (zr r0), some (zi x1), some (zi x2), some (zi x3), some (zi x4)] [zi s0] h Q = (kd h r0 7 ∧ (WP 109 0 [some (zr r0), some (zi x1), some (zi x4)] [] h (kont WP 136 28 [some (zr r0), some (zi x1), some (zi x2), some (zi x3), some (zi x4)] [zi s0] [] Q))) :=
  (WP_blk 4 136 24 _ _ h Q).trans rfl
theorem b_136_31 (r0 : Option Nat) (x1 : Int) (x2 : Int) (x3 : Int) (x4 : Int) (s0 : Int) (s1 : Int) (h : Zh) (Q : Zp) : WP 136 31 [some (zr r0), some (zi x1), some (zi x2), some (zi x3), some (zi x4)] [zi s0, zi s1] h Q = (br (s0 = 0) (WP 136 60 [some (zr r0), some (zi x1), some (zi x2), some (zi x3), some (zi x4)] [zi s1] h Q) (WP 136 34 [some (zr r0), some (zi x1), some (zi x2), some (zi x3), some (zi x4)] [zi s1] h Q)) :=
  (WP_blk 1 136 31 _ _ h Q).trans rfl
theorem b_136_34 (r0 : Option Nat) (x1 : Int) (x2 : Int) (x3 : Int) (x4 : Int) (s0 : Int) (h : Zh) (Q : Zp) : WP 136 34 [some (zr r0), some (zi x1), some (zi x2), some (zi x3), some (zi x4)] [zi s0] h Q = (kd h r0 7 ∧ (ixa h (gR h (ad r0) 13) 10 x4 ∧ (br (x2 < (gI h (ad (gR h (ad r0) 13)) x4)) (WP 136 60 [some (zr r0), some (zi x1), some (zi x2), some (zi x3), some (zi x4)] [zi s0] h Q) (WP 136 45 [some (zr r0), some (zi x1), some (zi x2), some (zi x3), some (zi x4)] [zi s0] h Q)))) :=
  (WP_blk 6 136 34 _ _ h Q).trans rfl
theorem b_136_45 (r0 : Option Nat) (x1 : Int) (x2 : Int) (x3 : Int) (x4 : Int) (s0 : Int) (h : Zh) (Q : Zp) : WP 136 45 [some (zr r0), some (zi x1), some (zi x2), some (zi x3), some (zi x4)] [zi s0] h Q = (kd h r0 7 ∧ (ixa h (gR h (ad r0) 14) 10 x4 ∧ (br ((gI h (ad (gR h (ad r0) 14)) x4) ≤ x2) (WP 136 60 [some (zr r0), some (zi x1), some (zi x2), some (zi x3), some (zi x4)] [zi s0] h Q) (WP 136 56 [some (zr r0), some (zi x1), some (zi x2), some (zi x3), some (zi x4)] [zi s0] h Q)))) :=
  (WP_blk 6 136 45 _ _ h Q).trans rfl
theorem b_136_56 (r0 : Option Nat) (x1 : Int) (x2 : Int) (x3 : Int) (x4 : Int) (s0 : Int) (h : Zh) (Q : Zp) : WP 136 56 [some (zr r0), some (zi x1), some (zi x2), some (zi x3), some (zi x4)] [zi s0] h Q = (WP 136 61 [some (zr r0), some (zi x1), some (zi x2), some (zi x3), some (zi x4)] [zi (1 : Int), zi s0] h Q) :=
  (WP_blk 2 136 56 _ _ h Q).trans rfl
theorem b_136_60 (r0 : Option Nat) (x1 : Int) (x2 : Int) (x3 : Int) (x4 : Int) (s0 : Int) (h : Zh) (Q : Zp) : WP 136 60 [some (zr r0), some (zi x1), some (zi x2), some (zi x3), some (zi x4)] [zi s0] h Q = (WP 136 61 [some (zr r0), some (zi x1), some (zi x2), some (zi x3), some (zi x4)] [zi (0 : Int), zi s0] h Q) :=
  (WP_blk 1 136 60 _ _ h Q).trans rfl
theorem b_136_61 (r0 : Option Nat) (x1 : Int) (x2 : Int) (x3 : Int) (x4 : Int) (s0 : Int) (s1 : Int) (h : Zh) (Q : Zp) : WP 136 61 [some (zr r0), some (zi x1), some (zi x2), some (zi x3), some (zi x4)] [zi s0, zi s1] h Q = (inR (s1 + s0) ∧ (inR (x4 + 1) ∧ (WP 136 5 [some (zr r0), some (zi x1), some (zi x2), some (zi (s1 + s0)), some (zi (x4 + 1))] [] h Q))) :=
  (WP_blk 4 136 61 _ _ h Q).trans rfl
theorem b_136_69 (r0 : Option Nat) (x1 : Int) (x2 : Int) (x3 : Int) (x4 : Int) (h : Zh) (Q : Zp) : WP 136 69 [some (zr r0), some (zi x1), some (zi x2), some (zi x3), some (zi x4)] [] h Q = (Q (.inl (some (zi x3))) h) :=
  (WP_blk 2 136 69 _ _ h Q).trans rfl
-- 137: MarginaliaModel.over(II)I
theorem b_137_0 (r0 : Option Nat) (x1 : Int) (x2 : Int) (h : Zh) (Q : Zp) : WP 137 0 [some (zr r0), some (zi x1), some (zi x2)] [] h Q = (kd h r0 7 ∧ (WP 137 5 [some (zr r0), some (zi x1), some (zi x2)] [] (pI h (ad r0) 0 (0 : Int)) Q)) :=
  (WP_blk 3 137 0 _ _ h Q).trans rfl
theorem b_137_5 (r0 : Option Nat) (x1 : Int) (x2 : Int) (h : Zh) (Q : Zp) : WP 137 5 [some (zr r0), some (zi x1), some (zi x2)] [] h Q = (kd h r0 7 ∧ (WP 95 0 [some (zr r0), some (zi x1)] [] h (kont WP 137 7 [some (zr r0), some (zi x1), some (zi x2)] [] [] Q))) :=
  (WP_blk 3 137 5 _ _ h Q).trans rfl
theorem b_137_10 (r0 : Option Nat) (x1 : Int) (x2 : Int) (s0 : Int) (h : Zh) (Q : Zp) : WP 137 10 [some (zr r0), some (zi x1), some (zi x2)] [zi s0] h Q = (br (s0 = 0) (WP 137 22 [some (zr r0), some (zi x1), some (zi x2)] [] h Q) (WP 137 13 [some (zr r0), some (zi x1), some (zi x2)] [] h Q)) :=
  (WP_blk 1 137 10 _ _ h Q).trans rfl
theorem b_137_13 (r0 : Option Nat) (x1 : Int) (x2 : Int) (h : Zh) (Q : Zp) : WP 137 13 [some (zr r0), some (zi x1), some (zi x2)] [] h Q = (kd h r0 7 ∧ (WP 136 0 [some (zr r0), some (zi x1), some (zi x2), none, none] [] h (kont WP 137 16 [some (zr r0), some (zi x1), some (zi x2)] [] [] Q))) :=
  (WP_blk 4 137 13 _ _ h Q).trans rfl
theorem b_137_19 (r0 : Option Nat) (x1 : Int) (x2 : Int) (s0 : Int) (h : Zh) (Q : Zp) : WP 137 19 [some (zr r0), some (zi x1), some (zi x2)] [zi s0] h Q = (WP 137 27 [some (zr r0), some (zi x1), some (zi x2)] [zi s0] h Q) :=
  (WP_blk 1 137 19 _ _ h Q).trans rfl
theorem b_137_22 (r0 : Option Nat) (x1 : Int) (x2 : Int) (h : Zh) (Q : Zp) : WP 137 22 [some (zr r0), some (zi x1), some (zi x2)] [] h Q = (kd h r0 7 ∧ (WP 91 0 [some (zr r0), some (zi (1 : Int))] [] h (kont WP 137 24 [some (zr r0), some (zi x1), some (zi x2)] [] [] Q))) :=
  (WP_blk 3 137 22 _ _ h Q).trans rfl
theorem b_137_27 (r0 : Option Nat) (x1 : Int) (x2 : Int) (s0 : Int) (h : Zh) (Q : Zp) : WP 137 27 [some (zr r0), some (zi x1), some (zi x2)] [zi s0] h Q = (Q (.inl (some (zi s0))) h) :=
  (WP_blk 1 137 27 _ _ h Q).trans rfl
-- 138: MarginaliaModel.isAhead(II)Z
theorem b_138_0 (r0 : Option Nat) (x1 : Int) (x2 : Int) (h : Zh) (Q : Zp) : WP 138 0 [some (zr r0), some (zi x1), some (zi x2)] [] h Q = (kd h r0 7 ∧ (ixa h (gR h (ad r0) 13) 10 x1 ∧ (kd h r0 7 ∧ (ixa h (gR h (ad r0) 13) 10 x2 ∧ (br ((gI h (ad (gR h (ad r0) 13)) x1) = (gI h (ad (gR h (ad r0) 13)) x2)) (WP 138 36 [some (zr r0), some (zi x1), some (zi x2)] [] h Q) (WP 138 15 [some (zr r0), some (zi x1), some (zi x2)] [] h Q)))))) :=
  (WP_blk 9 138 0 _ _ h Q).trans rfl
theorem b_138_15 (r0 : Option Nat) (x1 : Int) (x2 : Int) (h : Zh) (Q : Zp) : WP 138 15 [some (zr r0), some (zi x1), some (zi x2)] [] h Q = (kd h r0 7 ∧ (ixa h (gR h (ad r0) 13) 10 x1 ∧ (kd h r0 7 ∧ (ixa h (gR h (ad r0) 13) 10 x2 ∧ (br ((gI h (ad (gR h (ad r0) 13)) x2) ≤ (gI h (ad (gR h (ad r0) 13)) x1)) (WP 138 34 [some (zr r0), some (zi x1), some (zi x2)] [] h Q) (WP 138 30 [some (zr r0), some (zi x1), some (zi x2)] [] h Q)))))) :=
  (WP_blk 9 138 15 _ _ h Q).trans rfl
theorem b_138_30 (r0 : Option Nat) (x1 : Int) (x2 : Int) (h : Zh) (Q : Zp) : WP 138 30 [some (zr r0), some (zi x1), some (zi x2)] [] h Q = (WP 138 35 [some (zr r0), some (zi x1), some (zi x2)] [zi (1 : Int)] h Q) :=
  (WP_blk 2 138 30 _ _ h Q).trans rfl
theorem b_138_34 (r0 : Option Nat) (x1 : Int) (x2 : Int) (h : Zh) (Q : Zp) : WP 138 34 [some (zr r0), some (zi x1), some (zi x2)] [] h Q = (WP 138 35 [some (zr r0), some (zi x1), some (zi x2)] [zi (0 : Int)] h Q) :=
  (WP_blk 1 138 34 _ _ h Q).trans rfl
theorem b_138_35 (r0 : Option Nat) (x1 : Int) (x2 : Int) (s0 : Int) (h : Zh) (Q : Zp) : WP 138 35 [some (zr r0), some (zi x1), some (zi x2)] [zi s0] h Q = ((s0 = 0 ∨ s0 = 1) ∧ (Q (.inl (some (zi s0))) h)) :=
  (WP_blk 1 138 35 _ _ h Q).trans rfl
theorem b_138_36 (r0 : Option Nat) (x1 : Int) (x2 : Int) (h : Zh) (Q : Zp) : WP 138 36 [some (zr r0), some (zi x1), some (zi x2)] [] h Q = (kd h r0 7 ∧ (ixa h (gR h (ad r0) 14) 10 x1 ∧ (kd h r0 7 ∧ (ixa h (gR h (ad r0) 14) 10 x2 ∧ (br ((gI h (ad (gR h (ad r0) 14)) x1) = (gI h (ad (gR h (ad r0) 14)) x2)) (WP 138 51 [some (zr r0), some (zi x1), some (zi x2)] [] h Q) (WP 138 64 [some (zr r0), some (zi x1), some (zi x2)] [] h Q)))))) :=
  (WP_blk 9 138 36 _ _ h Q).trans rfl
theorem b_138_51 (r0 : Option Nat) (x1 : Int) (x2 : Int) (h : Zh) (Q : Zp) : WP 138 51 [some (zr r0), some (zi x1), some (zi x2)] [] h Q = (br (x2 ≤ x1) (WP 138 60 [some (zr r0), some (zi x1), some (zi x2)] [] h Q) (WP 138 56 [some (zr r0), some (zi x1), some (zi x2)] [] h Q)) :=
  (WP_blk 3 138 51 _ _ h Q).trans rfl
theorem b_138_56 (r0 : Option Nat) (x1 : Int) (x2 : Int) (h : Zh) (Q : Zp) : WP 138 56 [some (zr r0), some (zi x1), some (zi x2)] [] h Q = (WP 138 84 [some (zr r0), some (zi x1), some (zi x2)] [zi (1 : Int)] h Q) :=
  (WP_blk 2 138 56 _ _ h Q).trans rfl
theorem b_138_60 (r0 : Option Nat) (x1 : Int) (x2 : Int) (h : Zh) (Q : Zp) : WP 138 60 [some (zr r0), some (zi x1), some (zi x2)] [] h Q = (WP 138 84 [some (zr r0), some (zi x1), some (zi x2)] [zi (0 : Int)] h Q) :=
  (WP_blk 2 138 60 _ _ h Q).trans rfl
theorem b_138_64 (r0 : Option Nat) (x1 : Int) (x2 : Int) (h : Zh) (Q : Zp) : WP 138 64 [some (zr r0), some (zi x1), some (zi x2)] [] h Q = (kd h r0 7 ∧ (ixa h (gR h (ad r0) 14) 10 x1 ∧ (kd h r0 7 ∧ (ixa h (gR h (ad r0) 14) 10 x2 ∧ (br ((gI h (ad (gR h (ad r0) 14)) x2) ≤ (gI h (ad (gR h (ad r0) 14)) x1)) (WP 138 83 [some (zr r0), some (zi x1), some (zi x2)] [] h Q) (WP 138 79 [some (zr r0), some (zi x1), some (zi x2)] [] h Q)))))) :=
  (WP_blk 9 138 64 _ _ h Q).trans rfl
theorem b_138_79 (r0 : Option Nat) (x1 : Int) (x2 : Int) (h : Zh) (Q : Zp) : WP 138 79 [some (zr r0), some (zi x1), some (zi x2)] [] h Q = (WP 138 84 [some (zr r0), some (zi x1), some (zi x2)] [zi (1 : Int)] h Q) :=
  (WP_blk 2 138 79 _ _ h Q).trans rfl
theorem b_138_83 (r0 : Option Nat) (x1 : Int) (x2 : Int) (h : Zh) (Q : Zp) : WP 138 83 [some (zr r0), some (zi x1), some (zi x2)] [] h Q = (WP 138 84 [some (zr r0), some (zi x1), some (zi x2)] [zi (0 : Int)] h Q) :=
  (WP_blk 1 138 83 _ _ h Q).trans rfl
theorem b_138_84 (r0 : Option Nat) (x1 : Int) (x2 : Int) (s0 : Int) (h : Zh) (Q : Zp) : WP 138 84 [some (zr r0), some (zi x1), some (zi x2)] [zi s0] h Q = ((s0 = 0 ∨ s0 = 1) ∧ (Q (.inl (some (zi s0))) h)) :=
  (WP_blk 1 138 84 _ _ h Q).trans rfl
-- 139: MarginaliaModel.export(IZ)I
theorem b_139_0 (r0 : Option Nat) (x1 : Int) (x2 : Int) (h : Zh) (Q : Zp) : WP 139 0 [some (zr r0), some (zi x1), some (zi x2), none, none, none, none, none, none, none] [] h Q = (kd h r0 7 ∧ (WP 139 5 [some (zr r0), some (zi x1), some (zi x2), none, none, none, none, none, none, none] [] (pI h (ad r0) 0 (0 : Int)) Q)) :=
  (WP_blk 3 139 0 _ _ h Q).trans rfl
theorem b_139_5 (r0 : Option Nat) (x1 : Int) (x2 : Int) (h : Zh) (Q : Zp) : WP 139 5 [some (zr r0), some (zi x1), some (zi x2), none, none, none, none, none, none, none] [] h Q = (kd h r0 7 ∧ (WP 95 0 [some (zr r0), some (zi x1)] [] h (kont WP 139 7 [some (zr r0), some (zi x1), some (zi x2), none, none, none, none, none, none, none] [] [] Q))) :=
  (WP_blk 3 139 5 _ _ h Q).trans rfl
theorem b_139_10 (r0 : Option Nat) (x1 : Int) (x2 : Int) (s0 : Int) (h : Zh) (Q : Zp) : WP 139 10 [some (zr r0), some (zi x1), some (zi x2), none, none, none, none, none, none, none] [zi s0] h Q = (br (s0 = 0) (WP 139 13 [some (zr r0), some (zi x1), some (zi x2), none, none, none, none, none, none, none] [] h Q) (WP 139 19 [some (zr r0), some (zi x1), some (zi x2), none, none, none, none, none, none, none] [] h Q)) :=
  (WP_blk 1 139 10 _ _ h Q).trans rfl
theorem b_139_13 (r0 : Option Nat) (x1 : Int) (x2 : Int) (h : Zh) (Q : Zp) : WP 139 13 [some (zr r0), some (zi x1), some (zi x2), none, none, none, none, none, none, none] [] h Q = (kd h r0 7 ∧ (WP 91 0 [some (zr r0), some (zi (1 : Int))] [] h (kont WP 139 15 [some (zr r0), some (zi x1), some (zi x2), none, none, none, none, none, none, none] [] [] Q))) :=
  (WP_blk 3 139 13 _ _ h Q).trans rfl
theorem b_139_18 (r0 : Option Nat) (x1 : Int) (x2 : Int) (s0 : Int) (h : Zh) (Q : Zp) : WP 139 18 [some (zr r0), some (zi x1), some (zi x2), none, none, none, none, none, none, none] [zi s0] h Q = (Q (.inl (some (zi s0))) h) :=
  (WP_blk 1 139 18 _ _ h Q).trans rfl
theorem b_139_19 (r0 : Option Nat) (x1 : Int) (x2 : Int) (h : Zh) (Q : Zp) : WP 139 19 [some (zr r0), some (zi x1), some (zi x2), none, none, none, none, none, none, none] [] h Q = (((0 ≤ (60 : Int) ∧ (60 : Int) ≤ 1000000 ∧ gC h + 1 ≤ MXC ∧ gS h + Int.toNat (60 : Int) ≤ MXS) ∧ ∀ a, gK h a = 0 → WP 139 23 [some (zr r0), some (zi x1), some (zi x2), none, none, none, none, none, none, none] [zr (some a)] (nw h a 10 (60 : Int)) Q)) :=
  (WP_blk 2 139 19 _ _ h Q).trans rfl
theorem b_139_23 (r0 : Option Nat) (x1 : Int) (x2 : Int) (sr0 : Option Nat) (h : Zh) (Q : Zp) : WP 139 23 [some (zr r0), some (zi x1), some (zi x2), none, none, none, none, none, none, none] [zr sr0] h Q = (WP 139 30 [some (zr r0), some (zi x1), some (zi x2), some (zr sr0), some (zi (0 : Int)), some (zi (0 : Int)), none, none, none, none] [] h Q) :=
  (WP_blk 5 139 23 _ _ h Q).trans rfl
theorem b_139_30 (r0 : Option Nat) (x1 : Int) (x2 : Int) (r3 : Option Nat) (x4 : Int) (x5 : Int) (o6 : Option Zv) (h : Zh) (Q : Zp) : WP 139 30 [some (zr r0), some (zi x1), some (zi x2), some (zr r3), some (zi x4), some (zi x5), o6, none, none, none] [] h Q = (kd h r0 7 ∧ (br ((gI h (ad r0) 7) ≤ x5) (WP 139 130 [some (zr r0), some (zi x1), some (zi x2), some (zr r3), some (zi x4), some (zi x5), o6, none, none, none] [] h Q) (WP 139 39 [some (zr r0), some (zi x1), some (zi x2), some (zr r3), some (zi x4), some (zi x5), o6, none, none, none] [] h Q))) :=
  (WP_blk 4 139 30 _ _ h Q).trans rfl
theorem b_139_39 (r0 : Option Nat) (x1 : Int) (x2 : Int) (r3 : Option Nat) (x4 : Int) (x5 : Int) (o6 : Option Zv) (h : Zh) (Q : Zp) : WP 139 39 [some (zr r0), some (zi x1), some (zi x2), some (zr r3), some (zi x4), some (zi x5), o6, none, none, none] [] h Q = (kd h r0 7 ∧ (WP 120 0 [some (zr r0), some (zi x5)] [] h (kont WP 139 42 [some (zr r0), some (zi x1), some (zi x2), some (zr r3), some (zi x4), some (zi x5), o6, none, none, none] [] [] Q))) :=
  (WP_blk 3 139 39 _ _ h Q).trans rfl
theorem b_139_45 (r0 : Option Nat) (x1 : Int) (x2 : Int) (r3 : Option Nat) (x4 : Int) (x5 : Int) (o6 : Option Zv) (s0 : Int) (h : Zh) (Q : Zp) : WP 139 45 [some (zr r0), some (zi x1), some (zi x2), some (zr r3), some (zi x4), some (zi x5), o6, none, none, none] [zi s0] h Q = (br (s0 = 0) (WP 139 124 [some (zr r0), some (zi x1), some (zi x2), some (zr r3), some (zi x4), some (zi x5), o6, none, none, none] [] h Q) (WP 139 48 [some (zr r0), some (zi x1), some (zi x2), some (zr r3), some (zi x4), some (zi x5), o6, none, none, none] [] h Q)) :=
  (WP_blk 1 139 45 _ _ h Q).trans rfl
theorem b_139_48 (r0 : Option Nat) (x1 : Int) (x2 : Int) (r3 : Option Nat) (x4 : Int) (x5 : Int) (o6 : Option Zv) (h : Zh) (Q : Zp) : WP 139 48 [some (zr r0), some (zi x1), some (zi x2), some (zr r3), some (zi x4), some (zi x5), o6, none, none, none] [] h Q = (kd h r0 7 ∧ (WP 109 0 [some (zr r0), some (zi x1), some (zi x5)] [] h (kont WP 139 52 [some (zr r0), some (zi x1), some (zi x2), some (zr r3), some (zi x4), some (zi x5), o6, none, none, none] [] [] Q))) :=
  (WP_blk 4 139 48 _ _ h Q).trans rfl
theorem b_139_55 (r0 : Option Nat) (x1 : Int) (x2 : Int) (r3 : Option Nat) (x4 : Int) (x5 : Int) (o6 : Option Zv) (s0 : Int) (h : Zh) (Q : Zp) : WP 139 55 [some (zr r0), some (zi x1), some (zi x2), some (zr r3), some (zi x4), some (zi x5), o6, none, none, none] [zi s0] h Q = (br (s0 = 0) (WP 139 124 [some (zr r0), some (zi x1), some (zi x2), some (zr r3), some (zi x4), some (zi x5), o6, none, none, none] [] h Q) (WP 139 58 [some (zr r0), some (zi x1), some (zi x2), some (zr r3), some (zi x4), some (zi x5), o6, none, none, none] [] h Q)) :=
  (WP_blk 1 139 55 _ _ h Q).trans rfl
theorem b_139_58 (r0 : Option Nat) (x1 : Int) (x2 : Int) (r3 : Option Nat) (x4 : Int) (x5 : Int) (o6 : Option Zv) (h : Zh) (Q : Zp) : WP 139 58 [some (zr r0), some (zi x1), some (zi x2), some (zr r3), some (zi x4), some (zi x5), o6, none, none, none] [] h Q = (br (x2 = 0) (WP 139 62 [some (zr r0), some (zi x1), some (zi x2), some (zr r3), some (zi x4), some (zi x5), o6, none, none, none] [] h Q) (WP 139 75 [some (zr r0), some (zi x1), some (zi x2), some (zr r3), some (zi x4), some (zi x5), o6, none, none, none] [] h Q)) :=
  (WP_blk 2 139 58 _ _ h Q).trans rfl
theorem b_139_62 (r0 : Option Nat) (x1 : Int) (x2 : Int) (r3 : Option Nat) (x4 : Int) (x5 : Int) (o6 : Option Zv) (h : Zh) (Q : Zp) : WP 139 62 [some (zr r0), some (zi x1), some (zi x2), some (zr r3), some (zi x4), some (zi x5), o6, none, none, none] [] h Q = (kd h r0 7 ∧ (ixa h (gR h (ad r0) 18) 12 x5 ∧ (br ((gI h (ad (gR h (ad r0) 18)) x5) = 0) (WP 139 75 [some (zr r0), some (zi x1), some (zi x2), some (zr r3), some (zi x4), some (zi x5), o6, none, none, none] [] h Q) (WP 139 72 [some (zr r0), some (zi x1), some (zi x2), some (zr r3), some (zi x4), some (zi x5), o6, none, none, none] [] h Q)))) :=
  (WP_blk 5 139 62 _ _ h Q).trans rfl
theorem b_139_72 (r0 : Option Nat) (x1 : Int) (x2 : Int) (r3 : Option Nat) (x4 : Int) (x5 : Int) (o6 : Option Zv) (h : Zh) (Q : Zp) : WP 139 72 [some (zr r0), some (zi x1), some (zi x2), some (zr r3), some (zi x4), some (zi x5), o6, none, none, none] [] h Q = (WP 139 124 [some (zr r0), some (zi x1), some (zi x2), some (zr r3), some (zi x4), some (zi x5), o6, none, none, none] [] h Q) :=
  (WP_blk 1 139 72 _ _ h Q).trans rfl
theorem b_139_75 (r0 : Option Nat) (x1 : Int) (x2 : Int) (r3 : Option Nat) (x4 : Int) (x5 : Int) (o6 : Option Zv) (h : Zh) (Q : Zp) : WP 139 75 [some (zr r0), some (zi x1), some (zi x2), some (zr r3), some (zi x4), some (zi x5), o6, none, none, none] [] h Q = (inR (x4 + 1) ∧ (WP 139 82 [some (zr r0), some (zi x1), some (zi x2), some (zr r3), some (zi (x4 + 1)), some (zi x5), some (zi x4), none, none, none] [] h Q)) :=
  (WP_blk 3 139 75 _ _ h Q).trans rfl
theorem b_139_82 (r0 : Option Nat) (x1 : Int) (x2 : Int) (r3 : Option Nat) (x4 : Int) (x5 : Int) (x6 : Int) (h : Zh) (Q : Zp) : WP 139 82 [some (zr r0), some (zi x1), some (zi x2), some (zr r3), some (zi x4), some (zi x5), some (zi x6), none, none, none] [] h Q = (br (x6 ≤ 0) (WP 139 118 [some (zr r0), some (zi x1), some (zi x2), some (zr r3), some (zi x4), some (zi x5), some (zi x6), none, none, none] [] h Q) (WP 139 87 [some (zr r0), some (zi x1), some (zi x2), some (zr r3), some (zi x4), some (zi x5), some (zi x6), none, none, none] [] h Q)) :=
  (WP_blk 2 139 82 _ _ h Q).trans rfl
theorem b_139_87 (r0 : Option Nat) (x1 : Int) (x2 : Int) (r3 : Option Nat) (x4 : Int) (x5 : Int) (x6 : Int) (h : Zh) (Q : Zp) : WP 139 87 [some (zr r0), some (zi x1), some (zi x2), some (zr r3), some (zi x4), some (zi x5), some (zi x6), none, none, none] [] h Q = (inR (x6 - (1 : Int)) ∧ (ixa h r3 10 (x6 - (1 : Int)) ∧ (kd h r0 7 ∧ (WP 138 0 [some (zr r0), some (zi x5), some (zi (gI h (ad r3) (x6 - (1 : Int))))] [] h (kont WP 139 96 [some (zr r0), some (zi x1), some (zi x2), some (zr r3), some (zi x4), some (zi x5), some (zi x6), none, none, none] [] [] Q))))) :=
  (WP_blk 8 139 87 _ _ h Q).trans rfl
theorem b_139_99 (r0 : Option Nat) (x1 : Int) (x2 : Int) (r3 : Option Nat) (x4 : Int) (x5 : Int) (x6 : Int) (s0 : Int) (h : Zh) (Q : Zp) : WP 139 99 [some (zr r0), some (zi x1), some (zi x2), some (zr r3), some (zi x4), some (zi x5), some (zi x6), none, none, none] [zi s0] h Q = (br (s0 = 0) (WP 139 118 [some (zr r0), some (zi x1), some (zi x2), some (zr r3), some (zi x4), some (zi x5), some (zi x6), none, none, none] [] h Q) (WP 139 102 [some (zr r0), some (zi x1), some (zi x2), some (zr r3), some (zi x4), some (zi x5), some (zi x6), none, none, none] [] h Q)) :=
  (WP_blk 1 139 99 _ _ h Q).trans rfl
theorem b_139_102 (r0 : Option Nat) (x1 : Int) (x2 : Int) (r3 : Option Nat) (x4 : Int) (x5 : Int) (x6 : Int) (h : Zh) (Q : Zp) : WP 139 102 [some (zr r0), some (zi x1), some (zi x2), some (zr r3), some (zi x4), some (zi x5), some (zi x6), none, none, none] [] h Q = (inR (x6 - (1 : Int)) ∧ (ixa h r3 10 (x6 - (1 : Int)) ∧ (ixa h r3 10 x6 ∧ (WP 139 112 [some (zr r0), some (zi x1), some (zi x2), some (zr r3), some (zi x4), some (zi x5), some (zi x6), none, none, none] [] (pI h (ad r3) x6 (gI h (ad r3) (x6 - (1 : Int)))) Q)))) :=
  (WP_blk 8 139 102 _ _ h Q).trans rfl
theorem b_139_112 (r0 : Option Nat) (x1 : Int) (x2 : Int) (r3 : Option Nat) (x4 : Int) (x5 : Int) (x6 : Int) (h : Zh) (Q : Zp) : WP 139 112 [some (zr r0), some (zi x1), some (zi x2), some (zr r3), some (zi x4), some (zi x5), some (zi x6), none, none, none] [] h Q = (inR (x6 + (-1)) ∧ (WP 139 82 [some (zr r0), some (zi x1), some (zi x2), some (zr r3), some (zi x4), some (zi x5), some (zi (x6 + (-1))), none, none, none] [] h Q)) :=
  (WP_blk 2 139 112 _ _ h Q).trans rfl
theorem b_139_118 (r0 : Option Nat) (x1 : Int) (x2 : Int) (r3 : Option Nat) (x4 : Int) (x5 : Int) (x6 : Int) (h : Zh) (Q : Zp) : WP 139 118 [some (zr r0), some (zi x1), some (zi x2), some (zr r3), some (zi x4), some (zi x5), some (zi x6), none, none, none] [] h Q = (ixa h r3 10 x6 ∧ (WP 139 124 [some (zr r0), some (zi x1), some (zi x2), some (zr r3), some (zi x4), some (zi x5), some (zi x6), none, none, none] [] (pI h (ad r3) x6 x5) Q)) :=
  (WP_blk 4 139 118 _ _ h Q).trans rfl
theorem b_139_124 (r0 : Option Nat) (x1 : Int) (x2 : Int) (r3 : Option Nat) (x4 : Int) (x5 : Int) (o6 : Option Zv) (h : Zh) (Q : Zp) : WP 139 124 [some (zr r0), some (zi x1), some (zi x2), some (zr r3), some (zi x4), some (zi x5), o6, none, none, none] [] h Q = (inR (x5 + 1) ∧ (WP 139 30 [some (zr r0), some (zi x1), some (zi x2), some (zr r3), some (zi x4), some (zi (x5 + 1)), o6, none, none, none] [] h Q)) :=
  (WP_blk 2 139 124 _ _ h Q).trans rfl
theorem b_139_130 (r0 : Option Nat) (x1 : Int) (x2 : Int) (r3 : Option Nat) (x4 : Int) (x5 : Int) (o6 : Option Zv) (h : Zh) (Q : Zp) : WP 139 130 [some (zr r0), some (zi x1), some (zi x2), some (zr r3), some (zi x4), some (zi x5), o6, none, none, none] [] h Q = (((0 ≤ (240 : Int) ∧ (240 : Int) ≤ 1000000 ∧ gC h + 1 ≤ MXC ∧ gS h + Int.toNat (240 : Int) ≤ MXS) ∧ ∀ a, gK h a = 0 → WP 139 135 [some (zr r0), some (zi x1), some (zi x2), some (zr r3), some (zi x4), some (zi x5), o6, none, none, none] [zr (some a)] (nw h a 10 (240 : Int)) Q)) :=
  (WP_blk 2 139 130 _ _ h Q).trans rfl
theorem b_139_135 (r0 : Option Nat) (x1 : Int) (x2 : Int) (r3 : Option Nat) (x4 : Int) (x5 : Int) (o6 : Option Zv) (sr0 : Option Nat) (h : Zh) (Q : Zp) : WP 139 135 [some (zr r0), some (zi x1), some (zi x2), some (zr r3), some (zi x4), some (zi x5), o6, none, none, none] [zr sr0] h Q = (WP 139 143 [some (zr r0), some (zi x1), some (zi x2), some (zr r3), some (zi x4), some (zr sr0), some (zi (0 : Int)), some (zi (0 : Int)), none, none] [] h Q) :=
  (WP_blk 5 139 135 _ _ h Q).trans rfl
theorem b_139_143 (r0 : Option Nat) (x1 : Int) (x2 : Int) (r3 : Option Nat) (x4 : Int) (r5 : Option Nat) (x6 : Int) (x7 : Int) (o8 : Option Zv) (o9 : Option Zv) (h : Zh) (Q : Zp) : WP 139 143 [some (zr r0), some (zi x1), some (zi x2), some (zr r3), some (zi x4), some (zr r5), some (zi x6), some (zi x7), o8, o9] [] h Q = (br (x4 ≤ x7) (WP 139 251 [some (zr r0), some (zi x1), some (zi x2), some (zr r3), some (zi x4), some (zr r5), some (zi x6), some (zi x7), o8, o9] [] h Q) (WP 139 150 [some (zr r0), some (zi x1), some (zi x2), some (zr r3), some (zi x4), some (zr r5), some (zi x6), some (zi x7), o8, o9] [] h Q)) :=
  (WP_blk 3 139 143 _ _ h Q).trans rfl
theorem b_139_150 (r0 : Option Nat) (x1 : Int) (x2 : Int) (r3 : Option Nat) (x4 : Int) (r5 : Option Nat) (x6 : Int) (x7 : Int) (o8 : Option Zv) (o9 : Option Zv) (h : Zh) (Q : Zp) : WP 139 150 [some (zr r0), some (zi x1), some (zi x2), some (zr r3), some (zi x4), some (zr r5), some (zi x6), some (zi x7), o8, o9] [] h Q = (ixa h r3 10 x7 ∧ (kd h r0 7 ∧ (WP 132 0 [some (zr r0), some (zi (gI h (ad r3) x7)), none] [] h (kont WP 139 155 [some (zr r0), some (zi x1), some (zi x2), some (zr r3), some (zi x4), some (zr r5), some (zi x6), some (zi x7), o8, o9] [] [] Q)))) :=
  (WP_blk 5 139 150 _ _ h Q).trans rfl
theorem b_139_158 (r0 : Option Nat) (x1 : Int) (x2 : Int) (r3 : Option Nat) (x4 : Int) (r5 : Option Nat) (x6 : Int) (x7 : Int) (o8 : Option Zv) (o9 : Option Zv) (h : Zh) (Q : Zp) : WP 139 158 [some (zr r0), some (zi x1), some (zi x2), some (zr r3), some (zi x4), some (zr r5), some (zi x6), some (zi x7), o8, o9] [] h Q = (WP 139 161 [some (zr r0), some (zi x1), some (zi x2), some (zr r3), some (zi x4), some (zr r5), some (zi x6), some (zi x7), some (zi (0 : Int)), o9] [] h Q) :=
  (WP_blk 2 139 158 _ _ h Q).trans rfl
theorem b_139_161 (r0 : Option Nat) (x1 : Int) (x2 : Int) (r3 : Option Nat) (x4 : Int) (r5 : Option Nat) (x6 : Int) (x7 : Int) (x8 : Int) (o9 : Option Zv) (h : Zh) (Q : Zp) : WP 139 161 [some (zr r0), some (zi x1), some (zi x2), some (zr r3), some (zi x4), some (zr r5), some (zi x6), some (zi x7), some (zi x8), o9] [] h Q = (kd h r0 7 ∧ (br ((gI h (ad r0) 21) ≤ x8) (WP 139 245 [some (zr r0), some (zi x1), some (zi x2), some (zr r3), some (zi x4), some (zr r5), some (zi x6), some (zi x7), some (zi x8), o9] [] h Q) (WP 139 170 [some (zr r0), some (zi x1), some (zi x2), some (zr r3), some (zi x4), some (zr r5), some (zi x6), some (zi x7), some (zi x8), o9] [] h Q))) :=
  (WP_blk 4 139 161 _ _ h Q).trans rfl
theorem b_139_170 (r0 : Option Nat) (x1 : Int) (x2 : Int) (r3 : Option Nat) (x4 : Int) (r5 : Option Nat) (x6 : Int) (x7 : Int) (x8 : Int) (o9 : Option Zv) (h : Zh) (Q : Zp) : WP 139 170 [some (zr r0), some (zi x1), some (zi x2), some (zr r3), some (zi x4), some (zr r5), some (zi x6), some (zi x7), some (zi x8), o9] [] h Q = (((0 ≤ (4 : Int) ∧ (4 : Int) ≤ 1000000 ∧ gC h + 1 ≤ MXC ∧ gS h + Int.toNat (4 : Int) ≤ MXS) ∧ ∀ a, gK h a = 0 → WP 139 173 [some (zr r0), some (zi x1), some (zi x2), some (zr r3), some (zi x4), some (zr r5), some (zi x6), some (zi x7), some (zi x8), o9] [zr (some a)] (nw h a 10 (4 : Int)) Q)) :=
  (WP_blk 2 139 170 _ _ h Q).trans rfl
theorem b_139_173 (r0 : Option Nat) (x1 : Int) (x2 : Int) (r3 : Option Nat) (x4 : Int) (r5 : Option Nat) (x6 : Int) (x7 : Int) (x8 : Int) (o9 : Option Zv) (sr0 : Option Nat) (h : Zh) (Q : Zp) : WP 139 173 [some (zr r0), some (zi x1), some (zi x2), some (zr r3), some (zi x4), some (zr r5), some (zi x6), some (zi x7), some (zi x8), o9] [zr sr0] h Q = (kd h r0 7 ∧ (ixa h (gR h (ad r0) 22) 10 x8 ∧ (ixa h sr0 10 (0 : Int) ∧ (WP 139 183 [some (zr r0), some (zi x1), some (zi x2), some (zr r3), some (zi x4), some (zr r5), some (zi x6), some (zi x7), some (zi x8), o9] [zr sr0] (pI h (ad sr0) (0 : Int) (gI h (ad (gR h (ad r0) 22)) x8)) Q)))) :=
  (WP_blk 7 139 173 _ _ h Q).trans rfl
theorem b_139_183 (r0 : Option Nat) (x1 : Int) (x2 : Int) (r3 : Option Nat) (x4 : Int) (r5 : Option Nat) (x6 : Int) (x7 : Int) (x8 : Int) (o9 : Option Zv) (sr0 : Option Nat) (h : Zh) (Q : Zp) : WP 139 183 [some (zr r0), some (zi x1), some (zi x2), some (zr r3), some (zi x4), some (zr r5), some (zi x6), some (zi x7), some (zi x8), o9] [zr sr0] h Q = (kd h r0 7 ∧ (ixa h (gR h (ad r0) 22) 10 x8 ∧ (kd h r0 7 ∧ (WP 126 0 [some (zr r0), some (zi (gI h (ad (gR h (ad r0) 22)) x8)), none, none] [] h (kont WP 139 193 [some (zr r0), some (zi x1), some (zi x2), some (zr r3), some (zi x4), some (zr r5), some (zi x6), some (zi x7), some (zi x8), o9] [zi (1 : Int), zr sr0, zr sr0] [] Q))))) :=
  (WP_blk 8 139 183 _ _ h Q).trans rfl
theorem b_139_196 (r0 : Option Nat) (x1 : Int) (x2 : Int) (r3 : Option Nat) (x4 : Int) (r5 : Option Nat) (x6 : Int) (x7 : Int) (x8 : Int) (o9 : Option Zv) (s0 : Int) (s1 : Int) (sr2 : Option Nat) (sr3 : Option Nat) (h : Zh) (Q : Zp) : WP 139 196 [some (zr r0), some (zi x1), some (zi x2), some (zr r3), some (zi x4), some (zr r5), some (zi x6), some (zi x7), some (zi x8), o9] [zi s0, zi s1, zr sr2, zr sr3] h Q = (ixa h sr2 10 s1 ∧ (WP 139 197 [some (zr r0), some (zi x1), some (zi x2), some (zr r3), some (zi x4), some (zr r5), some (zi x6), some (zi x7), some (zi x8), o9] [zr sr3] (pI h (ad sr2) s1 s0) Q)) :=
  (WP_blk 1 139 196 _ _ h Q).trans rfl
theorem b_139_197 (r0 : Option Nat) (x1 : Int) (x2 : Int) (r3 : Option Nat) (x4 : Int) (r5 : Option Nat) (x6 : Int) (x7 : Int) (x8 : Int) (o9 : Option Zv) (sr0 : Option Nat) (h : Zh) (Q : Zp) : WP 139 197 [some (zr r0), some (zi x1), some (zi x2), some (zr r3), some (zi x4), some (zr r5), some (zi x6), some (zi x7), some (zi x8), o9] [zr sr0] h Q = (kd h r0 7 ∧ (ixa h r3 10 x7 ∧ (ixa h (gR h (ad r0) 13) 10 (gI h (ad r3) x7) ∧ (ixa h sr0 10 (2 : Int) ∧ (WP 139 209 [some (zr r0), some (zi x1), some (zi x2), some (zr r3), some (zi x4), some (zr r5), some (zi x6), some (zi x7), some (zi x8), o9] [zr sr0] (pI h (ad sr0) (2 : Int) (gI h (ad (gR h (ad r0) 13)) (gI h (ad r3) x7))) Q))))) :=
  (WP_blk 9 139 197 _ _ h Q).trans rfl
theorem b_139_209 (r0 : Option Nat) (x1 : Int) (x2 : Int) (r3 : Option Nat) (x4 : Int) (r5 : Option Nat) (x6 : Int) (x7 : Int) (x8 : Int) (o9 : Option Zv) (sr0 : Option Nat) (h : Zh) (Q : Zp) : WP 139 209 [some (zr r0), some (zi x1), some (zi x2), some (zr r3), some (zi x4), some (zr r5), some (zi x6), some (zi x7), some (zi x8), o9] [zr sr0] h Q = (kd h r0 7 ∧ (ixa h (gR h (ad r0) 22) 10 x8 ∧ (kd h r0 7 ∧ (WP 127 0 [some (zr r0), some (zi (gI h (ad (gR h (ad r0) 22)) x8))] [] h (kont WP 139 219 [some (zr r0), some (zi x1), some (zi x2), some (zr r3), some (zi x4), some (zr r5), some (zi x6), some (zi x7), some (zi x8), o9] [zi (3 : Int), zr sr0, zr sr0] [] Q))))) :=
  (WP_blk 8 139 209 _ _ h Q).trans rfl
theorem b_139_222 (r0 : Option Nat) (x1 : Int) (x2 : Int) (r3 : Option Nat) (x4 : Int) (r5 : Option Nat) (x6 : Int) (x7 : Int) (x8 : Int) (o9 : Option Zv) (s0 : Int) (s1 : Int) (sr2 : Option Nat) (sr3 : Option Nat) (h : Zh) (Q : Zp) : WP 139 222 [some (zr r0), some (zi x1), some (zi x2), some (zr r3), some (zi x4), some (zr r5), some (zi x6), some (zi x7), some (zi x8), o9] [zi s0, zi s1, zr sr2, zr sr3] h Q = (ixa h sr2 10 s1 ∧ (WP 139 223 [some (zr r0), some (zi x1), some (zi x2), some (zr r3), some (zi x4), some (zr r5), some (zi x6), some (zi x7), some (zi x8), o9] [zr sr3] (pI h (ad sr2) s1 s0) Q)) :=
  (WP_blk 1 139 222 _ _ h Q).trans rfl
theorem b_139_223 (r0 : Option Nat) (x1 : Int) (x2 : Int) (r3 : Option Nat) (x4 : Int) (r5 : Option Nat) (x6 : Int) (x7 : Int) (x8 : Int) (o9 : Option Zv) (sr0 : Option Nat) (h : Zh) (Q : Zp) : WP 139 223 [some (zr r0), some (zi x1), some (zi x2), some (zr r3), some (zi x4), some (zr r5), some (zi x6), some (zi x7), some (zi x8), o9] [zr sr0] h Q = ((kd h sr0 10 ∧ kd h r5 10 ∧ 0 ≤ (4 : Int) ∧ 0 ≤ (0 : Int) ∧ 0 ≤ x6 ∧ (0 : Int) + (4 : Int) ≤ gL h (ad sr0) ∧ x6 + (4 : Int) ≤ gL h (ad r5)) ∧ (WP 139 236 [some (zr r0), some (zi x1), some (zi x2), some (zr r3), some (zi x4), some (zr r5), some (zi x6), some (zi x7), some (zi x8), some (zr sr0)] [] (cpy h (ad sr0) (0 : Int) (ad r5) x6 (4 : Int)) Q)) :=
  (WP_blk 7 139 223 _ _ h Q).trans rfl
theorem b_139_236 (r0 : Option Nat) (x1 : Int) (x2 : Int) (r3 : Option Nat) (x4 : Int) (r5 : Option Nat) (x6 : Int) (x7 : Int) (x8 : Int) (r9 : Option Nat) (h : Zh) (Q : Zp) : WP 139 236 [some (zr r0), some (zi x1), some (zi x2), some (zr r3), some (zi x4), some (zr r5), some (zi x6), some (zi x7), some (zi x8), some (zr r9)] [] h Q = (inR (x6 + 4) ∧ (inR (x8 + 1) ∧ (WP 139 161 [some (zr r0), some (zi x1), some (zi x2), some (zr r3), some (zi x4), some (zr r5), some (zi (x6 + 4)), some (zi x7), some (zi (x8 + 1)), some (zr r9)] [] h Q))) :=
  (WP_blk 3 139 236 _ _ h Q).trans rfl
theorem b_139_245 (r0 : Option Nat) (x1 : Int) (x2 : Int) (r3 : Option Nat) (x4 : Int) (r5 : Option Nat) (x6 : Int) (x7 : Int) (x8 : Int) (o9 : Option Zv) (h : Zh) (Q : Zp) : WP 139 245 [some (zr r0), some (zi x1), some (zi x2), some (zr r3), some (zi x4), some (zr r5), some (zi x6), some (zi x7), some (zi x8), o9] [] h Q = (inR (x7 + 1) ∧ (WP 139 143 [some (zr r0), some (zi x1), some (zi x2), some (zr r3), some (zi x4), some (zr r5), some (zi x6), some (zi (x7 + 1)), some (zi x8), o9] [] h Q)) :=
  (WP_blk 2 139 245 _ _ h Q).trans rfl
theorem b_139_251 (r0 : Option Nat) (x1 : Int) (x2 : Int) (r3 : Option Nat) (x4 : Int) (r5 : Option Nat) (x6 : Int) (x7 : Int) (o8 : Option Zv) (o9 : Option Zv) (h : Zh) (Q : Zp) : WP 139 251 [some (zr r0), some (zi x1), some (zi x2), some (zr r3), some (zi x4), some (zr r5), some (zi x6), some (zi x7), o8, o9] [] h Q = (((0 ≤ x6 ∧ x6 ≤ 1000000 ∧ gC h + 1 ≤ MXC ∧ gS h + Int.toNat x6 ≤ MXS) ∧ ∀ a, gK h a = 0 → WP 139 256 [some (zr r0), some (zi x1), some (zi x2), some (zr r3), some (zi x4), some (zr r5), some (zi x6), some (zi x7), o8, o9] [zr (some a), zr r0] (nw h a 10 x6) Q)) :=
  (WP_blk 3 139 251 _ _ h Q).trans rfl
theorem b_139_256 (r0 : Option Nat) (x1 : Int) (x2 : Int) (r3 : Option Nat) (x4 : Int) (r5 : Option Nat) (x6 : Int) (x7 : Int) (o8 : Option Zv) (o9 : Option Zv) (sr0 : Option Nat) (sr1 : Option Nat) (h : Zh) (Q : Zp) : WP 139 256 [some (zr r0), some (zi x1), some (zi x2), some (zr r3), some (zi x4), some (zr r5), some (zi x6), some (zi x7), o8, o9] [zr sr0, zr sr1] h Q = (kd h sr1 7 ∧ (WP 139 259 [some (zr r0), some (zi x1), some (zi x2), some (zr r3), some (zi x4), some (zr r5), some (zi x6), some (zi x7), o8, o9] [] (pR h (ad sr1) 20 sr0) Q)) :=
  (WP_blk 1 139 256 _ _ h Q).trans rfl
theorem b_139_259 (r0 : Option Nat) (x1 : Int) (x2 : Int) (r3 : Option Nat) (x4 : Int) (r5 : Option Nat) (x6 : Int) (x7 : Int) (o8 : Option Zv) (o9 : Option Zv) (h : Zh) (Q : Zp) : WP 139 259 [some (zr r0), some (zi x1), some (zi x2), some (zr r3), some (zi x4), some (zr r5), some (zi x6), some (zi x7), o8, o9] [] h Q = (kd h r0 7 ∧ ((kd h r5 10 ∧ kd h (gR h (ad r0) 20) 10 ∧ 0 ≤ x6 ∧ 0 ≤ (0 : Int) ∧ 0 ≤ (0 : Int) ∧ (0 : Int) + x6 ≤ gL h (ad r5) ∧ (0 : Int) + x6 ≤ gL h (ad (gR h (ad r0) 20))) ∧ (WP 139 272 [some (zr r0), some (zi x1), some (zi x2), some (zr r3), some (zi x4), some (zr r5), some (zi x6), some (zi x7), o8, o9] [] (cpy h (ad r5) (0 : Int) (ad (gR h (ad r0) 20)) (0 : Int) x6) Q))) :=
  (WP_blk 7 139 259 _ _ h Q).trans rfl
theorem b_139_272 (r0 : Option Nat) (x1 : Int) (x2 : Int) (r3 : Option Nat) (x4 : Int) (r5 : Option Nat) (x6 : Int) (x7 : Int) (o8 : Option Zv) (o9 : Option Zv) (h : Zh) (Q : Zp) : WP 139 272 [some (zr r0), some (zi x1), some (zi x2), some (zr r3), some (zi x4), some (zr r5), some (zi x6), some (zi x7), o8, o9] [] h Q = ((0 ≤ x6 ∧ 0 < (4 : Int)) ∧ (Q (.inl (some (zi (x6 / (4 : Int))))) h)) :=
  (WP_blk 4 139 272 _ _ h Q).trans rfl
-- 140: MarginaliaModel.exported(II)I
theorem b_140_0 (r0 : Option Nat) (x1 : Int) (x2 : Int) (h : Zh) (Q : Zp) : WP 140 0 [some (zr r0), some (zi x1), some (zi x2)] [] h Q = (kd h r0 7 ∧ (WP 140 5 [some (zr r0), some (zi x1), some (zi x2)] [] (pI h (ad r0) 0 (0 : Int)) Q)) :=
  (WP_blk 3 140 0 _ _ h Q).trans rfl
theorem b_140_5 (r0 : Option Nat) (x1 : Int) (x2 : Int) (h : Zh) (Q : Zp) : WP 140 5 [some (zr r0), some (zi x1), some (zi x2)] [] h Q = (kd h r0 7 ∧ (kd h (gR h (ad r0) 20) 10 ∧ ((0 ≤ (gL h (ad (gR h (ad r0) 20))) ∧ 0 < (4 : Int)) ∧ (inR (((gL h (ad (gR h (ad r0) 20))) / (4 : Int)) - (1 : Int)) ∧ (WP 94 0 [some (zi x1), some (zi (0 : Int)), some (zi (((gL h (ad (gR h (ad r0) 20))) / (4 : Int)) - (1 : Int)))] [] h (kont WP 140 16 [some (zr r0), some (zi x1), some (zi x2)] [] [] Q)))))) :=
  (WP_blk 10 140 5 _ _ h Q).trans rfl
theorem b_140_19 (r0 : Option Nat) (x1 : Int) (x2 : Int) (s0 : Int) (h : Zh) (Q : Zp) : WP 140 19 [some (zr r0), some (zi x1), some (zi x2)] [zi s0] h Q = (br (s0 = 0) (WP 140 22 [some (zr r0), some (zi x1), some (zi x2)] [] h Q) (WP 140 28 [some (zr r0), some (zi x1), some (zi x2)] [] h Q)) :=
  (WP_blk 1 140 19 _ _ h Q).trans rfl
theorem b_140_22 (r0 : Option Nat) (x1 : Int) (x2 : Int) (h : Zh) (Q : Zp) : WP 140 22 [some (zr r0), some (zi x1), some (zi x2)] [] h Q = (kd h r0 7 ∧ (WP 91 0 [some (zr r0), some (zi (1 : Int))] [] h (kont WP 140 24 [some (zr r0), some (zi x1), some (zi x2)] [] [] Q))) :=
  (WP_blk 3 140 22 _ _ h Q).trans rfl
theorem b_140_27 (r0 : Option Nat) (x1 : Int) (x2 : Int) (s0 : Int) (h : Zh) (Q : Zp) : WP 140 27 [some (zr r0), some (zi x1), some (zi x2)] [zi s0] h Q = (Q (.inl (some (zi s0))) h) :=
  (WP_blk 1 140 27 _ _ h Q).trans rfl
theorem b_140_28 (r0 : Option Nat) (x1 : Int) (x2 : Int) (h : Zh) (Q : Zp) : WP 140 28 [some (zr r0), some (zi x1), some (zi x2)] [] h Q = (WP 94 0 [some (zi x2), some (zi (0 : Int)), some (zi (3 : Int))] [] h (kont WP 140 31 [some (zr r0), some (zi x1), some (zi x2)] [] [] Q)) :=
  (WP_blk 4 140 28 _ _ h Q).trans rfl
theorem b_140_34 (r0 : Option Nat) (x1 : Int) (x2 : Int) (s0 : Int) (h : Zh) (Q : Zp) : WP 140 34 [some (zr r0), some (zi x1), some (zi x2)] [zi s0] h Q = (br (s0 = 0) (WP 140 50 [some (zr r0), some (zi x1), some (zi x2)] [] h Q) (WP 140 37 [some (zr r0), some (zi x1), some (zi x2)] [] h Q)) :=
  (WP_blk 1 140 34 _ _ h Q).trans rfl
theorem b_140_37 (r0 : Option Nat) (x1 : Int) (x2 : Int) (h : Zh) (Q : Zp) : WP 140 37 [some (zr r0), some (zi x1), some (zi x2)] [] h Q = (kd h r0 7 ∧ (inR ((4 : Int) * x1) ∧ (inR (((4 : Int) * x1) + x2) ∧ (ixa h (gR h (ad r0) 20) 10 (((4 : Int) * x1) + x2) ∧ (WP 140 55 [some (zr r0), some (zi x1), some (zi x2)] [zi (gI h (ad (gR h (ad r0) 20)) (((4 : Int) * x1) + x2))] h Q))))) :=
  (WP_blk 9 140 37 _ _ h Q).trans rfl
theorem b_140_50 (r0 : Option Nat) (x1 : Int) (x2 : Int) (h : Zh) (Q : Zp) : WP 140 50 [some (zr r0), some (zi x1), some (zi x2)] [] h Q = (kd h r0 7 ∧ (WP 91 0 [some (zr r0), some (zi (2 : Int))] [] h (kont WP 140 52 [some (zr r0), some (zi x1), some (zi x2)] [] [] Q))) :=
  (WP_blk 3 140 50 _ _ h Q).trans rfl
theorem b_140_55 (r0 : Option Nat) (x1 : Int) (x2 : Int) (s0 : Int) (h : Zh) (Q : Zp) : WP 140 55 [some (zr r0), some (zi x1), some (zi x2)] [zi s0] h Q = (Q (.inl (some (zi s0))) h) :=
  (WP_blk 1 140 55 _ _ h Q).trans rfl
-- 141: MarginaliaModel.meanThread()D
theorem b_141_0 (r0 : Option Nat) (h : Zh) (Q : Zp) : WP 141 0 [some (zr r0)] [] h Q = (kd h r0 7 ∧ (WP 141 5 [some (zr r0)] [] (pI h (ad r0) 0 (0 : Int)) Q)) :=
  (WP_blk 3 141 0 _ _ h Q).trans rfl
theorem b_141_5 (r0 : Option Nat) (h : Zh) (Q : Zp) : WP 141 5 [some (zr r0)] [] h Q = (kd h r0 7 ∧ (WP 123 0 [some (zr r0), some (zi (2 : Int)), none, none, none] [] h (kont WP 141 7 [some (zr r0)] [] [] Q))) :=
  (WP_blk 3 141 5 _ _ h Q).trans rfl
theorem b_141_10 (r0 : Option Nat) (s0 : Int) (h : Zh) (Q : Zp) : WP 141 10 [some (zr r0)] [zi s0] h Q = (br (s0 = 0) (WP 141 13 [some (zr r0)] [] h Q) (WP 141 17 [some (zr r0)] [] h Q)) :=
  (WP_blk 1 141 10 _ _ h Q).trans rfl
theorem b_141_13 (r0 : Option Nat) (h : Zh) (Q : Zp) : WP 141 13 [some (zr r0)] [] h Q = (WP 141 30 [some (zr r0)] [zd FP.dconst0] h Q) :=
  (WP_blk 2 141 13 _ _ h Q).trans rfl
theorem b_141_17 (r0 : Option Nat) (h : Zh) (Q : Zp) : WP 141 17 [some (zr r0)] [] h Q = (kd h r0 7 ∧ (WP 123 0 [some (zr r0), some (zi (1 : Int)), none, none, none] [] h (kont WP 141 19 [some (zr r0)] [] [] Q))) :=
  (WP_blk 3 141 17 _ _ h Q).trans rfl
theorem b_141_22 (r0 : Option Nat) (s0 : Int) (h : Zh) (Q : Zp) : WP 141 22 [some (zr r0)] [zi s0] h Q = (kd h r0 7 ∧ (WP 123 0 [some (zr r0), some (zi (2 : Int)), none, none, none] [] h (kont WP 141 25 [some (zr r0)] [zd (FP.i2d (Int32.ofInt s0))] [] Q))) :=
  (WP_blk 4 141 22 _ _ h Q).trans rfl
theorem b_141_28 (r0 : Option Nat) (s0 : Int) (sd1 : UInt64) (h : Zh) (Q : Zp) : WP 141 28 [some (zr r0)] [zi s0, zd sd1] h Q = (vf_n64 (FP.ddiv sd1 (FP.i2d (Int32.ofInt s0))) ∧ (WP 141 30 [some (zr r0)] [zd (FP.ddiv sd1 (FP.i2d (Int32.ofInt s0)))] h Q)) :=
  (WP_blk 2 141 28 _ _ h Q).trans rfl
theorem b_141_30 (r0 : Option Nat) (sd0 : UInt64) (h : Zh) (Q : Zp) : WP 141 30 [some (zr r0)] [zd sd0] h Q = (Q (.inl (some (zd sd0))) h) :=
  (WP_blk 1 141 30 _ _ h Q).trans rfl
-- 142: MarginaliaModel.lostBy(II)I
theorem b_142_0 (r0 : Option Nat) (x1 : Int) (x2 : Int) (h : Zh) (Q : Zp) : WP 142 0 [some (zr r0), some (zi x1), some (zi x2), none, none] [] h Q = (kd h r0 7 ∧ (WP 142 5 [some (zr r0), some (zi x1), some (zi x2), none, none] [] (pI h (ad r0) 0 (0 : Int)) Q)) :=
  (WP_blk 3 142 0 _ _ h Q).trans rfl
theorem b_142_5 (r0 : Option Nat) (x1 : Int) (x2 : Int) (h : Zh) (Q : Zp) : WP 142 5 [some (zr r0), some (zi x1), some (zi x2), none, none] [] h Q = (kd h r0 7 ∧ (WP 97 0 [some (zr r0)] [] h (kont WP 142 8 [some (zr r0), some (zi x1), some (zi x2), none, none] [zi (0 : Int), zi x1] [] Q))) :=
  (WP_blk 4 142 5 _ _ h Q).trans rfl
theorem b_142_11 (r0 : Option Nat) (x1 : Int) (x2 : Int) (sr0 : Option Nat) (s1 : Int) (s2 : Int) (h : Zh) (Q : Zp) : WP 142 11 [some (zr r0), some (zi x1), some (zi x2), none, none] [zr sr0, zi s1, zi s2] h Q = (kd h sr0 10 ∧ (inR ((gL h (ad sr0)) - (1 : Int)) ∧ (WP 94 0 [some (zi s2), some (zi s1), some (zi ((gL h (ad sr0)) - (1 : Int)))] [] h (kont WP 142 14 [some (zr r0), some (zi x1), some (zi x2), none, none] [] [] Q)))) :=
  (WP_blk 4 142 11 _ _ h Q).trans rfl
theorem b_142_17 (r0 : Option Nat) (x1 : Int) (x2 : Int) (s0 : Int) (h : Zh) (Q : Zp) : WP 142 17 [some (zr r0), some (zi x1), some (zi x2), none, none] [zi s0] h Q = (br (s0 = 0) (WP 142 20 [some (zr r0), some (zi x1), some (zi x2), none, none] [] h Q) (WP 142 26 [some (zr r0), some (zi x1), some (zi x2), none, none] [] h Q)) :=
  (WP_blk 1 142 17 _ _ h Q).trans rfl
theorem b_142_20 (r0 : Option Nat) (x1 : Int) (x2 : Int) (h : Zh) (Q : Zp) : WP 142 20 [some (zr r0), some (zi x1), some (zi x2), none, none] [] h Q = (kd h r0 7 ∧ (WP 91 0 [some (zr r0), some (zi (1 : Int))] [] h (kont WP 142 22 [some (zr r0), some (zi x1), some (zi x2), none, none] [] [] Q))) :=
  (WP_blk 3 142 20 _ _ h Q).trans rfl
theorem b_142_25 (r0 : Option Nat) (x1 : Int) (x2 : Int) (s0 : Int) (h : Zh) (Q : Zp) : WP 142 25 [some (zr r0), some (zi x1), some (zi x2), none, none] [zi s0] h Q = (Q (.inl (some (zi s0))) h) :=
  (WP_blk 1 142 25 _ _ h Q).trans rfl
theorem b_142_26 (r0 : Option Nat) (x1 : Int) (x2 : Int) (h : Zh) (Q : Zp) : WP 142 26 [some (zr r0), some (zi x1), some (zi x2), none, none] [] h Q = (kd h r0 7 ∧ (WP 97 0 [some (zr r0)] [] h (kont WP 142 29 [some (zr r0), some (zi x1), some (zi x2), none, none] [zi (1 : Int), zi x2] [] Q))) :=
  (WP_blk 4 142 26 _ _ h Q).trans rfl
theorem b_142_32 (r0 : Option Nat) (x1 : Int) (x2 : Int) (sr0 : Option Nat) (s1 : Int) (s2 : Int) (h : Zh) (Q : Zp) : WP 142 32 [some (zr r0), some (zi x1), some (zi x2), none, none] [zr sr0, zi s1, zi s2] h Q = (kd h sr0 10 ∧ (inR ((gL h (ad sr0)) - x1) ∧ (WP 94 0 [some (zi s2), some (zi s1), some (zi ((gL h (ad sr0)) - x1))] [] h (kont WP 142 35 [some (zr r0), some (zi x1), some (zi x2), none, none] [] [] Q)))) :=
  (WP_blk 4 142 32 _ _ h Q).trans rfl
theorem b_142_38 (r0 : Option Nat) (x1 : Int) (x2 : Int) (s0 : Int) (h : Zh) (Q : Zp) : WP 142 38 [some (zr r0), some (zi x1), some (zi x2), none, none] [zi s0] h Q = (br (s0 = 0) (WP 142 41 [some (zr r0), some (zi x1), some (zi x2), none, none] [] h Q) (WP 142 47 [some (zr r0), some (zi x1), some (zi x2), none, none] [] h Q)) :=
  (WP_blk 1 142 38 _ _ h Q).trans rfl
theorem b_142_41 (r0 : Option Nat) (x1 : Int) (x2 : Int) (h : Zh) (Q : Zp) : WP 142 41 [some (zr r0), some (zi x1), some (zi x2), none, none] [] h Q = (kd h r0 7 ∧ (WP 91 0 [some (zr r0), some (zi (2 : Int))] [] h (kont WP 142 43 [some (zr r0), some (zi x1), some (zi x2), none, none] [] [] Q))) :=
  (WP_blk 3 142 41 _ _ h Q).trans rfl
theorem b_142_46 (r0 : Option Nat) (x1 : Int) (x2 : Int) (s0 : Int) (h : Zh) (Q : Zp) : WP 142 46 [some (zr r0), some (zi x1), some (zi x2), none, none] [zi s0] h Q = (Q (.inl (some (zi s0))) h) :=
  (WP_blk 1 142 46 _ _ h Q).trans rfl
theorem b_142_47 (r0 : Option Nat) (x1 : Int) (x2 : Int) (h : Zh) (Q : Zp) : WP 142 47 [some (zr r0), some (zi x1), some (zi x2), none, none] [] h Q = (WP 142 52 [some (zr r0), some (zi x1), some (zi x2), some (zi (0 : Int)), some (zi (0 : Int))] [] h Q) :=
  (WP_blk 4 142 47 _ _ h Q).trans rfl
theorem b_142_52 (r0 : Option Nat) (x1 : Int) (x2 : Int) (x3 : Int) (x4 : Int) (h : Zh) (Q : Zp) : WP 142 52 [some (zr r0), some (zi x1), some (zi x2), some (zi x3), some (zi x4)] [] h Q = (kd h r0 7 ∧ (br ((gI h (ad r0) 7) ≤ x4) (WP 142 117 [some (zr r0), some (zi x1), some (zi x2), some (zi x3), some (zi x4)] [] h Q) (WP 142 61 [some (zr r0), some (zi x1), some (zi x2), some (zi x3), some (zi x4)] [] h Q))) :=
  (WP_blk 4 142 52 _ _ h Q).trans rfl
theorem b_142_61 (r0 : Option Nat) (x1 : Int) (x2 : Int) (x3 : Int) (x4 : Int) (h : Zh) (Q : Zp) : WP 142 61 [some (zr r0), some (zi x1), some (zi x2), some (zi x3), some (zi x4)] [] h Q = (kd h r0 7 ∧ (WP 120 0 [some (zr r0), some (zi x4)] [] h (kont WP 142 65 [some (zr r0), some (zi x1), some (zi x2), some (zi x3), some (zi x4)] [zi x3] [] Q))) :=
  (WP_blk 4 142 61 _ _ h Q).trans rfl
theorem b_142_68 (r0 : Option Nat) (x1 : Int) (x2 : Int) (x3 : Int) (x4 : Int) (s0 : Int) (s1 : Int) (h : Zh) (Q : Zp) : WP 142 68 [some (zr r0), some (zi x1), some (zi x2), some (zi x3), some (zi x4)] [zi s0, zi s1] h Q = (br (s0 = 0) (WP 142 108 [some (zr r0), some (zi x1), some (zi x2), some (zi x3), some (zi x4)] [zi s1] h Q) (WP 142 71 [some (zr r0), some (zi x1), some (zi x2), some (zi x3), some (zi x4)] [zi s1] h Q)) :=
  (WP_blk 1 142 68 _ _ h Q).trans rfl
theorem b_142_71 (r0 : Option Nat) (x1 : Int) (x2 : Int) (x3 : Int) (x4 : Int) (s0 : Int) (h : Zh) (Q : Zp) : WP 142 71 [some (zr r0), some (zi x1), some (zi x2), some (zi x3), some (zi x4)] [zi s0] h Q = (kd h r0 7 ∧ (WP 121 0 [some (zr r0), some (zi x4)] [] h (kont WP 142 74 [some (zr r0), some (zi x1), some (zi x2), some (zi x3), some (zi x4)] [zi s0] [] Q))) :=
  (WP_blk 3 142 71 _ _ h Q).trans rfl
theorem b_142_77 (r0 : Option Nat) (x1 : Int) (x2 : Int) (x3 : Int) (x4 : Int) (s0 : Int) (s1 : Int) (h : Zh) (Q : Zp) : WP 142 77 [some (zr r0), some (zi x1), some (zi x2), some (zi x3), some (zi x4)] [zi s0, zi s1] h Q = (br (s0 = 0) (WP 142 80 [some (zr r0), some (zi x1), some (zi x2), some (zi x3), some (zi x4)] [zi s1] h Q) (WP 142 108 [some (zr r0), some (zi x1), some (zi x2), some (zi x3), some (zi x4)] [zi s1] h Q)) :=
  (WP_blk 1 142 77 _ _ h Q).trans rfl
theorem b_142_80 (r0 : Option Nat) (x1 : Int) (x2 : Int) (x3 : Int) (x4 : Int) (s0 : Int) (h : Zh) (Q : Zp) : WP 142 80 [some (zr r0), some (zi x1), some (zi x2), some (zi x3), some (zi x4)] [zi s0] h Q = (kd h r0 7 ∧ (ixa h (gR h (ad r0) 13) 10 x4 ∧ (br ((gI h (ad (gR h (ad r0) 13)) x4) < x1) (WP 142 108 [some (zr r0), some (zi x1), some (zi x2), some (zi x3), some (zi x4)] [zi s0] h Q) (WP 142 91 [some (zr r0), some (zi x1), some (zi x2), some (zi x3), some (zi x4)] [zi s0] h Q)))) :=
  (WP_blk 6 142 80 _ _ h Q).trans rfl
theorem b_142_91 (r0 : Option Nat) (x1 : Int) (x2 : Int) (x3 : Int) (x4 : Int) (s0 : Int) (h : Zh) (Q : Zp) : WP 142 91 [some (zr r0), some (zi x1), some (zi x2), some (zi x3), some (zi x4)] [zi s0] h Q = (kd h r0 7 ∧ (ixa h (gR h (ad r0) 14) 10 x4 ∧ (inR (x1 + x2) ∧ (br ((x1 + x2) < (gI h (ad (gR h (ad r0) 14)) x4)) (WP 142 108 [some (zr r0), some (zi x1), some (zi x2), some (zi x3), some (zi x4)] [zi s0] h Q) (WP 142 104 [some (zr r0), some (zi x1), some (zi x2), some (zi x3), some (zi x4)] [zi s0] h Q))))) :=
  (WP_blk 8 142 91 _ _ h Q).trans rfl
theorem b_142_104 (r0 : Option Nat) (x1 : Int) (x2 : Int) (x3 : Int) (x4 : Int) (s0 : Int) (h : Zh) (Q : Zp) : WP 142 104 [some (zr r0), some (zi x1), some (zi x2), some (zi x3), some (zi x4)] [zi s0] h Q = (WP 142 109 [some (zr r0), some (zi x1), some (zi x2), some (zi x3), some (zi x4)] [zi (1 : Int), zi s0] h Q) :=
  (WP_blk 2 142 104 _ _ h Q).trans rfl
theorem b_142_108 (r0 : Option Nat) (x1 : Int) (x2 : Int) (x3 : Int) (x4 : Int) (s0 : Int) (h : Zh) (Q : Zp) : WP 142 108 [some (zr r0), some (zi x1), some (zi x2), some (zi x3), some (zi x4)] [zi s0] h Q = (WP 142 109 [some (zr r0), some (zi x1), some (zi x2), some (zi x3), some (zi x4)] [zi (0 : Int), zi s0] h Q) :=
  (WP_blk 1 142 108 _ _ h Q).trans rfl
theorem b_142_109 (r0 : Option Nat) (x1 : Int) (x2 : Int) (x3 : Int) (x4 : Int) (s0 : Int) (s1 : Int) (h : Zh) (Q : Zp) : WP 142 109 [some (zr r0), some (zi x1), some (zi x2), some (zi x3), some (zi x4)] [zi s0, zi s1] h Q = (inR (s1 + s0) ∧ (inR (x4 + 1) ∧ (WP 142 52 [some (zr r0), some (zi x1), some (zi x2), some (zi (s1 + s0)), some (zi (x4 + 1))] [] h Q))) :=
  (WP_blk 4 142 109 _ _ h Q).trans rfl
theorem b_142_117 (r0 : Option Nat) (x1 : Int) (x2 : Int) (x3 : Int) (x4 : Int) (h : Zh) (Q : Zp) : WP 142 117 [some (zr r0), some (zi x1), some (zi x2), some (zi x3), some (zi x4)] [] h Q = (Q (.inl (some (zi x3))) h) :=
  (WP_blk 2 142 117 _ _ h Q).trans rfl
-- 143: MarginaliaModel.wouldHeal(I)I
theorem b_143_0 (r0 : Option Nat) (x1 : Int) (h : Zh) (Q : Zp) : WP 143 0 [some (zr r0), some (zi x1)] [] h Q = (kd h r0 7 ∧ (WP 143 5 [some (zr r0), some (zi x1)] [] (pI h (ad r0) 0 (0 : Int)) Q)) :=
  (WP_blk 3 143 0 _ _ h Q).trans rfl
theorem b_143_5 (r0 : Option Nat) (x1 : Int) (h : Zh) (Q : Zp) : WP 143 5 [some (zr r0), some (zi x1)] [] h Q = (kd h r0 7 ∧ (WP 96 0 [some (zr r0), some (zi x1)] [] h (kont WP 143 7 [some (zr r0), some (zi x1)] [] [] Q))) :=
  (WP_blk 3 143 5 _ _ h Q).trans rfl
theorem b_143_10 (r0 : Option Nat) (x1 : Int) (s0 : Int) (h : Zh) (Q : Zp) : WP 143 10 [some (zr r0), some (zi x1)] [zi s0] h Q = (br (s0 = 0) (WP 143 26 [some (zr r0), some (zi x1)] [] h Q) (WP 143 13 [some (zr r0), some (zi x1)] [] h Q)) :=
  (WP_blk 1 143 10 _ _ h Q).trans rfl
theorem b_143_13 (r0 : Option Nat) (x1 : Int) (h : Zh) (Q : Zp) : WP 143 13 [some (zr r0), some (zi x1)] [] h Q = (kd h r0 7 ∧ (ixa h (gR h (ad r0) 11) 10 x1 ∧ (kd h r0 7 ∧ (WP 119 0 [some (zr r0), some (zi (gI h (ad (gR h (ad r0) 11)) x1)), none, none, none, none] [] h (kont WP 143 20 [some (zr r0), some (zi x1)] [] [] Q))))) :=
  (WP_blk 6 143 13 _ _ h Q).trans rfl
theorem b_143_23 (r0 : Option Nat) (x1 : Int) (s0 : Int) (h : Zh) (Q : Zp) : WP 143 23 [some (zr r0), some (zi x1)] [zi s0] h Q = (WP 143 31 [some (zr r0), some (zi x1)] [zi s0] h Q) :=
  (WP_blk 1 143 23 _ _ h Q).trans rfl
theorem b_143_26 (r0 : Option Nat) (x1 : Int) (h : Zh) (Q : Zp) : WP 143 26 [some (zr r0), some (zi x1)] [] h Q = (kd h r0 7 ∧ (WP 91 0 [some (zr r0), some (zi (1 : Int))] [] h (kont WP 143 28 [some (zr r0), some (zi x1)] [] [] Q))) :=
  (WP_blk 3 143 26 _ _ h Q).trans rfl
theorem b_143_31 (r0 : Option Nat) (x1 : Int) (s0 : Int) (h : Zh) (Q : Zp) : WP 143 31 [some (zr r0), some (zi x1)] [zi s0] h Q = (Q (.inl (some (zi s0))) h) :=
  (WP_blk 1 143 31 _ _ h Q).trans rfl
-- 144: MarginaliaModel.seen(II)I
theorem b_144_0 (r0 : Option Nat) (x1 : Int) (x2 : Int) (h : Zh) (Q : Zp) : WP 144 0 [some (zr r0), some (zi x1), some (zi x2), none, none] [] h Q = (WP 144 5 [some (zr r0), some (zi x1), some (zi x2), some (zi (0 : Int)), some (zi (0 : Int))] [] h Q) :=
  (WP_blk 4 144 0 _ _ h Q).trans rfl
theorem b_144_5 (r0 : Option Nat) (x1 : Int) (x2 : Int) (x3 : Int) (x4 : Int) (h : Zh) (Q : Zp) : WP 144 5 [some (zr r0), some (zi x1), some (zi x2), some (zi x3), some (zi x4)] [] h Q = (kd h r0 7 ∧ (br ((gI h (ad r0) 7) ≤ x4) (WP 144 55 [some (zr r0), some (zi x1), some (zi x2), some (zi x3), some (zi x4)] [] h Q) (WP 144 14 [some (zr r0), some (zi x1), some (zi x2), some (zi x3), some (zi x4)] [] h Q))) :=
  (WP_blk 4 144 5 _ _ h Q).trans rfl
theorem b_144_14 (r0 : Option Nat) (x1 : Int) (x2 : Int) (x3 : Int) (x4 : Int) (h : Zh) (Q : Zp) : WP 144 14 [some (zr r0), some (zi x1), some (zi x2), some (zi x3), some (zi x4)] [] h Q = (kd h r0 7 ∧ (ixa h (gR h (ad r0) 12) 10 x4 ∧ (br ((gI h (ad (gR h (ad r0) 12)) x4) = (2 : Int)) (WP 144 46 [some (zr r0), some (zi x1), some (zi x2), some (zi x3), some (zi x4)] [zi x3] h Q) (WP 144 26 [some (zr r0), some (zi x1), some (zi x2), some (zi x3), some (zi x4)] [zi x3] h Q)))) :=
  (WP_blk 7 144 14 _ _ h Q).trans rfl
theorem b_144_26 (r0 : Option Nat) (x1 : Int) (x2 : Int) (x3 : Int) (x4 : Int) (s0 : Int) (h : Zh) (Q : Zp) : WP 144 26 [some (zr r0), some (zi x1), some (zi x2), some (zi x3), some (zi x4)] [zi s0] h Q = (kd h r0 7 ∧ (ixa h (gR h (ad r0) 11) 10 x4 ∧ (kd h r0 7 ∧ (WP 108 0 [some (zr r0), some (zi x1), some (zi x2), some (zi (gI h (ad (gR h (ad r0) 11)) x4))] [] h (kont WP 144 36 [some (zr r0), some (zi x1), some (zi x2), some (zi x3), some (zi x4)] [zi s0] [] Q))))) :=
  (WP_blk 8 144 26 _ _ h Q).trans rfl
theorem b_144_39 (r0 : Option Nat) (x1 : Int) (x2 : Int) (x3 : Int) (x4 : Int) (s0 : Int) (s1 : Int) (h : Zh) (Q : Zp) : WP 144 39 [some (zr r0), some (zi x1), some (zi x2), some (zi x3), some (zi x4)] [zi s0, zi s1] h Q = (br (s0 = 0) (WP 144 46 [some (zr r0), some (zi x1), some (zi x2), some (zi x3), some (zi x4)] [zi s1] h Q) (WP 144 42 [some (zr r0), some (zi x1), some (zi x2), some (zi x3), some (zi x4)] [zi s1] h Q)) :=
  (WP_blk 1 144 39 _ _ h Q).trans rfl
theorem b_144_42 (r0 : Option Nat) (x1 : Int) (x2 : Int) (x3 : Int) (x4 : Int) (s0 : Int) (h : Zh) (Q : Zp) : WP 144 42 [some (zr r0), some (zi x1), some (zi x2), some (zi x3), some (zi x4)] [zi s0] h Q = (WP 144 47 [some (zr r0), some (zi x1), some (zi x2), some (zi x3), some (zi x4)] [zi (1 : Int), zi s0] h Q) :=
  (WP_blk 2 144 42 _ _ h Q).trans rfl
theorem b_144_46 (r0 : Option Nat) (x1 : Int) (x2 : Int) (x3 : Int) (x4 : Int) (s0 : Int) (h : Zh) (Q : Zp) : WP 144 46 [some (zr r0), some (zi x1), some (zi x2), some (zi x3), some (zi x4)] [zi s0] h Q = (WP 144 47 [some (zr r0), some (zi x1), some (zi x2), some (zi x3), some (zi x4)] [zi (0 : Int), zi s0] h Q) :=
  (WP_blk 1 144 46 _ _ h Q).trans rfl
theorem b_144_47 (r0 : Option Nat) (x1 : Int) (x2 : Int) (x3 : Int) (x4 : Int) (s0 : Int) (s1 : Int) (h : Zh) (Q : Zp) : WP 144 47 [some (zr r0), some (zi x1), some (zi x2), some (zi x3), some (zi x4)] [zi s0, zi s1] h Q = (inR (s1 + s0) ∧ (inR (x4 + 1) ∧ (WP 144 5 [some (zr r0), some (zi x1), some (zi x2), some (zi (s1 + s0)), some (zi (x4 + 1))] [] h Q))) :=
  (WP_blk 4 144 47 _ _ h Q).trans rfl
theorem b_144_55 (r0 : Option Nat) (x1 : Int) (x2 : Int) (x3 : Int) (x4 : Int) (h : Zh) (Q : Zp) : WP 144 55 [some (zr r0), some (zi x1), some (zi x2), some (zi x3), some (zi x4)] [] h Q = (Q (.inl (some (zi x3))) h) :=
  (WP_blk 2 144 55 _ _ h Q).trans rfl
-- 145: MarginaliaModel.wouldSee(II)I
theorem b_145_0 (r0 : Option Nat) (x1 : Int) (x2 : Int) (h : Zh) (Q : Zp) : WP 145 0 [some (zr r0), some (zi x1), some (zi x2)] [] h Q = (kd h r0 7 ∧ (WP 145 5 [some (zr r0), some (zi x1), some (zi x2)] [] (pI h (ad r0) 0 (0 : Int)) Q)) :=
  (WP_blk 3 145 0 _ _ h Q).trans rfl
theorem b_145_5 (r0 : Option Nat) (x1 : Int) (x2 : Int) (h : Zh) (Q : Zp) : WP 145 5 [some (zr r0), some (zi x1), some (zi x2)] [] h Q = (kd h r0 7 ∧ (WP 95 0 [some (zr r0), some (zi x1)] [] h (kont WP 145 7 [some (zr r0), some (zi x1), some (zi x2)] [] [] Q))) :=
  (WP_blk 3 145 5 _ _ h Q).trans rfl
theorem b_145_10 (r0 : Option Nat) (x1 : Int) (x2 : Int) (s0 : Int) (h : Zh) (Q : Zp) : WP 145 10 [some (zr r0), some (zi x1), some (zi x2)] [zi s0] h Q = (br (s0 = 0) (WP 145 13 [some (zr r0), some (zi x1), some (zi x2)] [] h Q) (WP 145 19 [some (zr r0), some (zi x1), some (zi x2)] [] h Q)) :=
  (WP_blk 1 145 10 _ _ h Q).trans rfl
theorem b_145_13 (r0 : Option Nat) (x1 : Int) (x2 : Int) (h : Zh) (Q : Zp) : WP 145 13 [some (zr r0), some (zi x1), some (zi x2)] [] h Q = (kd h r0 7 ∧ (WP 91 0 [some (zr r0), some (zi (1 : Int))] [] h (kont WP 145 15 [some (zr r0), some (zi x1), some (zi x2)] [] [] Q))) :=
  (WP_blk 3 145 13 _ _ h Q).trans rfl
theorem b_145_18 (r0 : Option Nat) (x1 : Int) (x2 : Int) (s0 : Int) (h : Zh) (Q : Zp) : WP 145 18 [some (zr r0), some (zi x1), some (zi x2)] [zi s0] h Q = (Q (.inl (some (zi s0))) h) :=
  (WP_blk 1 145 18 _ _ h Q).trans rfl
theorem b_145_19 (r0 : Option Nat) (x1 : Int) (x2 : Int) (h : Zh) (Q : Zp) : WP 145 19 [some (zr r0), some (zi x1), some (zi x2)] [] h Q = (WP 94 0 [some (zi x2), some (zi (0 : Int)), some (zi (4 : Int))] [] h (kont WP 145 22 [some (zr r0), some (zi x1), some (zi x2)] [] [] Q)) :=
  (WP_blk 4 145 19 _ _ h Q).trans rfl
theorem b_145_25 (r0 : Option Nat) (x1 : Int) (x2 : Int) (s0 : Int) (h : Zh) (Q : Zp) : WP 145 25 [some (zr r0), some (zi x1), some (zi x2)] [zi s0] h Q = (br (s0 = 0) (WP 145 37 [some (zr r0), some (zi x1), some (zi x2)] [] h Q) (WP 145 28 [some (zr r0), some (zi x1), some (zi x2)] [] h Q)) :=
  (WP_blk 1 145 25 _ _ h Q).trans rfl
theorem b_145_28 (r0 : Option Nat) (x1 : Int) (x2 : Int) (h : Zh) (Q : Zp) : WP 145 28 [some (zr r0), some (zi x1), some (zi x2)] [] h Q = (kd h r0 7 ∧ (WP 144 0 [some (zr r0), some (zi x1), some (zi x2), none, none] [] h (kont WP 145 31 [some (zr r0), some (zi x1), some (zi x2)] [] [] Q))) :=
  (WP_blk 4 145 28 _ _ h Q).trans rfl
theorem b_145_34 (r0 : Option Nat) (x1 : Int) (x2 : Int) (s0 : Int) (h : Zh) (Q : Zp) : WP 145 34 [some (zr r0), some (zi x1), some (zi x2)] [zi s0] h Q = (WP 145 42 [some (zr r0), some (zi x1), some (zi x2)] [zi s0] h Q) :=
  (WP_blk 1 145 34 _ _ h Q).trans rfl
theorem b_145_37 (r0 : Option Nat) (x1 : Int) (x2 : Int) (h : Zh) (Q : Zp) : WP 145 37 [some (zr r0), some (zi x1), some (zi x2)] [] h Q = (kd h r0 7 ∧ (WP 91 0 [some (zr r0), some (zi (2 : Int))] [] h (kont WP 145 39 [some (zr r0), some (zi x1), some (zi x2)] [] [] Q))) :=
  (WP_blk 3 145 37 _ _ h Q).trans rfl
theorem b_145_42 (r0 : Option Nat) (x1 : Int) (x2 : Int) (s0 : Int) (h : Zh) (Q : Zp) : WP 145 42 [some (zr r0), some (zi x1), some (zi x2)] [zi s0] h Q = (Q (.inl (some (zi s0))) h) :=
  (WP_blk 1 145 42 _ _ h Q).trans rfl
-- 146: MarginaliaModel.digest()J
theorem b_146_0 (r0 : Option Nat) (h : Zh) (Q : Zp) : WP 146 0 [some (zr r0), none, none, none, none, none, none] [] h Q = (kd h r0 7 ∧ (WP 146 5 [some (zr r0), none, none, none, none, none, none] [] (pI h (ad r0) 0 (0 : Int)) Q)) :=
  (WP_blk 3 146 0 _ _ h Q).trans rfl
theorem b_146_5 (r0 : Option Nat) (h : Zh) (Q : Zp) : WP 146 5 [some (zr r0), none, none, none, none, none, none] [] h Q = (WP 146 11 [some (zr r0), some (zl 58083), none, some (zi (0 : Int)), none, none, none] [] h Q) :=
  (WP_blk 4 146 5 _ _ h Q).trans rfl
theorem b_146_11 (r0 : Option Nat) (l1 : Int64) (x3 : Int) (h : Zh) (Q : Zp) : WP 146 11 [some (zr r0), some (zl l1), none, some (zi x3), none, none, none] [] h Q = (br ((5 : Int) ≤ x3) (WP 146 35 [some (zr r0), some (zl l1), none, some (zi x3), none, none, none] [] h Q) (WP 146 16 [some (zr r0), some (zl l1), none, some (zi x3), none, none, none] [] h Q)) :=
  (WP_blk 3 146 11 _ _ h Q).trans rfl
theorem b_146_16 (r0 : Option Nat) (l1 : Int64) (x3 : Int) (h : Zh) (Q : Zp) : WP 146 16 [some (zr r0), some (zl l1), none, some (zi x3), none, none, none] [] h Q = (kd h r0 7 ∧ (WP 123 0 [some (zr r0), some (zi x3), none, none, none] [] h (kont WP 146 23 [some (zr r0), some (zl l1), none, some (zi x3), none, none, none] [zl (l1 * 31)] [] Q))) :=
  (WP_blk 6 146 16 _ _ h Q).trans rfl
theorem b_146_26 (r0 : Option Nat) (l1 : Int64) (x3 : Int) (s0 : Int) (sl1 : Int64) (h : Zh) (Q : Zp) : WP 146 26 [some (zr r0), some (zl l1), none, some (zi x3), none, none, none] [zi s0, zl sl1] h Q = (inR (x3 + 1) ∧ (WP 146 11 [some (zr r0), some (zl (sl1 + (Int64.ofInt s0))), none, some (zi (x3 + 1)), none, none, none] [] h Q)) :=
  (WP_blk 5 146 26 _ _ h Q).trans rfl
theorem b_146_35 (r0 : Option Nat) (l1 : Int64) (x3 : Int) (h : Zh) (Q : Zp) : WP 146 35 [some (zr r0), some (zl l1), none, some (zi x3), none, none, none] [] h Q = (kd h r0 7 ∧ (WP 97 0 [some (zr r0)] [] h (kont WP 146 41 [some (zr r0), some (zl l1), none, some (zi x3), none, none, none] [zl (l1 * 31)] [] Q))) :=
  (WP_blk 5 146 35 _ _ h Q).trans rfl
theorem b_146_44 (r0 : Option Nat) (l1 : Int64) (x3 : Int) (sr0 : Option Nat) (sl1 : Int64) (h : Zh) (Q : Zp) : WP 146 44 [some (zr r0), some (zl l1), none, some (zi x3), none, none, none] [zr sr0, zl sl1] h Q = (kd h sr0 10 ∧ (kd h r0 7 ∧ (kd h r0 7 ∧ (WP 97 0 [some (zr r0)] [] h (kont WP 146 59 [some (zr r0), some (zl (((sl1 + (Int64.ofInt (gL h (ad sr0)))) * 31) + (Int64.ofInt (gI h (ad r0) 6)))), none, some (zi x3), none, none, none] [] [] Q))))) :=
  (WP_blk 12 146 44 _ _ h Q).trans rfl
theorem b_146_62 (r0 : Option Nat) (l1 : Int64) (x3 : Int) (sr0 : Option Nat) (h : Zh) (Q : Zp) : WP 146 62 [some (zr r0), some (zl l1), none, some (zi x3), none, none, none] [zr sr0] h Q = (kd h sr0 10 ∧ (WP 146 70 [some (zr r0), some (zl l1), none, some (zr sr0), some (zi (gL h (ad sr0))), some (zi (0 : Int)), none] [] h Q)) :=
  (WP_blk 6 146 62 _ _ h Q).trans rfl
theorem b_146_70 (r0 : Option Nat) (l1 : Int64) (r3 : Option Nat) (x4 : Int) (x5 : Int) (o6 : Option Zv) (h : Zh) (Q : Zp) : WP 146 70 [some (zr r0), some (zl l1), none, some (zr r3), some (zi x4), some (zi x5), o6] [] h Q = (br (x4 ≤ x5) (WP 146 104 [some (zr r0), some (zl l1), none, some (zr r3), some (zi x4), some (zi x5), o6] [] h Q) (WP 146 77 [some (zr r0), some (zl l1), none, some (zr r3), some (zi x4), some (zi x5), o6] [] h Q)) :=
  (WP_blk 3 146 70 _ _ h Q).trans rfl
theorem b_146_77 (r0 : Option Nat) (l1 : Int64) (r3 : Option Nat) (x4 : Int) (x5 : Int) (o6 : Option Zv) (h : Zh) (Q : Zp) : WP 146 77 [some (zr r0), some (zl l1), none, some (zr r3), some (zi x4), some (zi x5), o6] [] h Q = (ixa h r3 10 x5 ∧ (kd h r0 7 ∧ (ixa h (gR h (ad r0) 4) 10 (gI h (ad r3) x5) ∧ (inR (x5 + 1) ∧ (WP 146 70 [some (zr r0), some (zl ((l1 * 31) + (Int64.ofInt (gI h (ad (gR h (ad r0) 4)) (gI h (ad r3) x5))))), none, some (zr r3), some (zi x4), some (zi (x5 + 1)), some (zi (gI h (ad r3) x5))] [] h Q))))) :=
  (WP_blk 16 146 77 _ _ h Q).trans rfl
theorem b_146_104 (r0 : Option Nat) (l1 : Int64) (r3 : Option Nat) (x4 : Int) (x5 : Int) (o6 : Option Zv) (h : Zh) (Q : Zp) : WP 146 104 [some (zr r0), some (zl l1), none, some (zr r3), some (zi x4), some (zi x5), o6] [] h Q = (WP 146 106 [some (zr r0), some (zl l1), none, some (zi (0 : Int)), some (zi x4), some (zi x5), o6] [] h Q) :=
  (WP_blk 2 146 104 _ _ h Q).trans rfl
theorem b_146_106 (r0 : Option Nat) (l1 : Int64) (x3 : Int) (x4 : Int) (x5 : Int) (o6 : Option Zv) (h : Zh) (Q : Zp) : WP 146 106 [some (zr r0), some (zl l1), none, some (zi x3), some (zi x4), some (zi x5), o6] [] h Q = (kd h r0 7 ∧ (br ((gI h (ad r0) 1) ≤ x3) (WP 146 170 [some (zr r0), some (zl l1), none, some (zi x3), some (zi x4), some (zi x5), o6] [] h Q) (WP 146 114 [some (zr r0), some (zl l1), none, some (zi x3), some (zi x4), some (zi x5), o6] [] h Q))) :=
  (WP_blk 4 146 106 _ _ h Q).trans rfl
theorem b_146_114 (r0 : Option Nat) (l1 : Int64) (x3 : Int) (x4 : Int) (x5 : Int) (o6 : Option Zv) (h : Zh) (Q : Zp) : WP 146 114 [some (zr r0), some (zl l1), none, some (zi x3), some (zi x4), some (zi x5), o6] [] h Q = (kd h r0 7 ∧ (ixa h (gR h (ad r0) 2) 10 x3 ∧ (kd h r0 7 ∧ (WP 144 0 [some (zr r0), some (zi x3), some (zi (1 : Int)), none, none] [] h (kont WP 146 134 [some (zr r0), some (zl l1), none, some (zi x3), some (zi x4), some (zi x5), o6] [zl (((l1 * 31) + (Int64.ofInt (gI h (ad (gR h (ad r0) 2)) x3))) * 31)] [] Q))))) :=
  (WP_blk 15 146 114 _ _ h Q).trans rfl
theorem b_146_137 (r0 : Option Nat) (l1 : Int64) (x3 : Int) (x4 : Int) (x5 : Int) (o6 : Option Zv) (s0 : Int) (sl1 : Int64) (h : Zh) (Q : Zp) : WP 146 137 [some (zr r0), some (zl l1), none, some (zi x3), some (zi x4), some (zi x5), o6] [zi s0, zl sl1] h Q = (kd h r0 7 ∧ (WP 136 0 [some (zr r0), some (zi x3), some (zi (0 : Int)), none, none] [] h (kont WP 146 146 [some (zr r0), some (zl l1), none, some (zi x3), some (zi x4), some (zi x5), o6] [zl ((sl1 + (Int64.ofInt s0)) * 31)] [] Q))) :=
  (WP_blk 8 146 137 _ _ h Q).trans rfl
theorem b_146_149 (r0 : Option Nat) (l1 : Int64) (x3 : Int) (x4 : Int) (x5 : Int) (o6 : Option Zv) (s0 : Int) (sl1 : Int64) (h : Zh) (Q : Zp) : WP 146 149 [some (zr r0), some (zl l1), none, some (zi x3), some (zi x4), some (zi x5), o6] [zi s0, zl sl1] h Q = (kd h r0 7 ∧ (WP 136 0 [some (zr r0), some (zi x3), some (zi (5 : Int)), none, none] [] h (kont WP 146 158 [some (zr r0), some (zl l1), none, some (zi x3), some (zi x4), some (zi x5), o6] [zl ((sl1 + (Int64.ofInt s0)) * 31)] [] Q))) :=
  (WP_blk 8 146 149 _ _ h Q).trans rfl
theorem b_146_161 (r0 : Option Nat) (l1 : Int64) (x3 : Int) (x4 : Int) (x5 : Int) (o6 : Option Zv) (s0 : Int) (sl1 : Int64) (h : Zh) (Q : Zp) : WP 146 161 [some (zr r0), some (zl l1), none, some (zi x3), some (zi x4), some (zi x5), o6] [zi s0, zl sl1] h Q = (inR (x3 + 1) ∧ (WP 146 106 [some (zr r0), some (zl (sl1 + (Int64.ofInt s0))), none, some (zi (x3 + 1)), some (zi x4), some (zi x5), o6] [] h Q)) :=
  (WP_blk 5 146 161 _ _ h Q).trans rfl
theorem b_146_170 (r0 : Option Nat) (l1 : Int64) (x3 : Int) (x4 : Int) (x5 : Int) (o6 : Option Zv) (h : Zh) (Q : Zp) : WP 146 170 [some (zr r0), some (zl l1), none, some (zi x3), some (zi x4), some (zi x5), o6] [] h Q = (WP 146 172 [some (zr r0), some (zl l1), none, some (zi (0 : Int)), some (zi x4), some (zi x5), o6] [] h Q) :=
  (WP_blk 2 146 170 _ _ h Q).trans rfl
theorem b_146_172 (r0 : Option Nat) (l1 : Int64) (x3 : Int) (x4 : Int) (x5 : Int) (o6 : Option Zv) (h : Zh) (Q : Zp) : WP 146 172 [some (zr r0), some (zl l1), none, some (zi x3), some (zi x4), some (zi x5), o6] [] h Q = (kd h r0 7 ∧ (br ((gI h (ad r0) 7) ≤ x3) (WP 146 298 [some (zr r0), some (zl l1), none, some (zi x3), some (zi x4), some (zi x5), o6] [] h Q) (WP 146 180 [some (zr r0), some (zl l1), none, some (zi x3), some (zi x4), some (zi x5), o6] [] h Q))) :=
  (WP_blk 4 146 172 _ _ h Q).trans rfl
theorem b_146_180 (r0 : Option Nat) (l1 : Int64) (x3 : Int) (x4 : Int) (x5 : Int) (o6 : Option Zv) (h : Zh) (Q : Zp) : WP 146 180 [some (zr r0), some (zl l1), none, some (zi x3), some (zi x4), some (zi x5), o6] [] h Q = (kd h r0 7 ∧ (ixa h (gR h (ad r0) 12) 10 x3 ∧ (br ((gI h (ad (gR h (ad r0) 12)) x3) = (2 : Int)) (WP 146 190 [some (zr r0), some (zl l1), none, some (zi x3), some (zi x4), some (zi x5), o6] [] h Q) (WP 146 193 [some (zr r0), some (zl l1), none, some (zi x3), some (zi x4), some (zi x5), o6] [] h Q)))) :=
  (WP_blk 6 146 180 _ _ h Q).trans rfl
theorem b_146_190 (r0 : Option Nat) (l1 : Int64) (x3 : Int) (x4 : Int) (x5 : Int) (o6 : Option Zv) (h : Zh) (Q : Zp) : WP 146 190 [some (zr r0), some (zl l1), none, some (zi x3), some (zi x4), some (zi x5), o6] [] h Q = (WP 146 292 [some (zr r0), some (zl l1), none, some (zi x3), some (zi x4), some (zi x5), o6] [] h Q) :=
  (WP_blk 1 146 190 _ _ h Q).trans rfl
theorem b_146_193 (r0 : Option Nat) (l1 : Int64) (x3 : Int) (x4 : Int) (x5 : Int) (o6 : Option Zv) (h : Zh) (Q : Zp) : WP 146 193 [some (zr r0), some (zl l1), none, some (zi x3), some (zi x4), some (zi x5), o6] [] h Q = (WP 146 205 [some (zr r0), some (zl ((l1 * 31) + (Int64.ofInt x3))), none, some (zi x3), some (zi (0 : Int)), some (zi x5), o6] [] h Q) :=
  (WP_blk 9 146 193 _ _ h Q).trans rfl
theorem b_146_205 (r0 : Option Nat) (l1 : Int64) (x3 : Int) (x4 : Int) (x5 : Int) (o6 : Option Zv) (h : Zh) (Q : Zp) : WP 146 205 [some (zr r0), some (zl l1), none, some (zi x3), some (zi x4), some (zi x5), o6] [] h Q = (br ((11 : Int) ≤ x4) (WP 146 233 [some (zr r0), some (zl l1), none, some (zi x3), some (zi x4), some (zi x5), o6] [] h Q) (WP 146 212 [some (zr r0), some (zl l1), none, some (zi x3), some (zi x4), some (zi x5), o6] [] h Q)) :=
  (WP_blk 3 146 205 _ _ h Q).trans rfl
theorem b_146_212 (r0 : Option Nat) (l1 : Int64) (x3 : Int) (x4 : Int) (x5 : Int) (o6 : Option Zv) (h : Zh) (Q : Zp) : WP 146 212 [some (zr r0), some (zl l1), none, some (zi x3), some (zi x4), some (zi x5), o6] [] h Q = (kd h r0 7 ∧ (WP 128 0 [some (zr r0), some (zi x3), some (zi x4), none] [] h (kont WP 146 221 [some (zr r0), some (zl l1), none, some (zi x3), some (zi x4), some (zi x5), o6] [zl (l1 * 31)] [] Q))) :=
  (WP_blk 7 146 212 _ _ h Q).trans rfl
theorem b_146_224 (r0 : Option Nat) (l1 : Int64) (x3 : Int) (x4 : Int) (x5 : Int) (o6 : Option Zv) (s0 : Int) (sl1 : Int64) (h : Zh) (Q : Zp) : WP 146 224 [some (zr r0), some (zl l1), none, some (zi x3), some (zi x4), some (zi x5), o6] [zi s0, zl sl1] h Q = (inR (x4 + 1) ∧ (WP 146 205 [some (zr r0), some (zl (sl1 + (Int64.ofInt s0))), none, some (zi x3), some (zi (x4 + 1)), some (zi x5), o6] [] h Q)) :=
  (WP_blk 5 146 224 _ _ h Q).trans rfl
theorem b_146_233 (r0 : Option Nat) (l1 : Int64) (x3 : Int) (x4 : Int) (x5 : Int) (o6 : Option Zv) (h : Zh) (Q : Zp) : WP 146 233 [some (zr r0), some (zl l1), none, some (zi x3), some (zi x4), some (zi x5), o6] [] h Q = (kd h r0 7 ∧ (ixa h (gR h (ad r0) 11) 10 x3 ∧ (kd h r0 7 ∧ (WP 119 0 [some (zr r0), some (zi (gI h (ad (gR h (ad r0) 11)) x3)), none, none, none, none] [] h (kont WP 146 245 [some (zr r0), some (zl l1), none, some (zi x3), some (zi x4), some (zi x5), o6] [zl (l1 * 31)] [] Q))))) :=
  (WP_blk 9 146 233 _ _ h Q).trans rfl
theorem b_146_248 (r0 : Option Nat) (l1 : Int64) (x3 : Int) (x4 : Int) (x5 : Int) (o6 : Option Zv) (s0 : Int) (sl1 : Int64) (h : Zh) (Q : Zp) : WP 146 248 [some (zr r0), some (zl l1), none, some (zi x3), some (zi x4), some (zi x5), o6] [zi s0, zl sl1] h Q = (WP 146 254 [some (zr r0), some (zl (sl1 + (Int64.ofInt s0))), none, some (zi x3), some (zi (0 : Int)), some (zi x5), o6] [] h Q) :=
  (WP_blk 5 146 248 _ _ h Q).trans rfl
theorem b_146_254 (r0 : Option Nat) (l1 : Int64) (x3 : Int) (x4 : Int) (x5 : Int) (o6 : Option Zv) (h : Zh) (Q : Zp) : WP 146 254 [some (zr r0), some (zl l1), none, some (zi x3), some (zi x4), some (zi x5), o6] [] h Q = (kd h r0 7 ∧ (br ((gI h (ad r0) 1) ≤ x4) (WP 146 292 [some (zr r0), some (zl l1), none, some (zi x3), some (zi x4), some (zi x5), o6] [] h Q) (WP 146 263 [some (zr r0), some (zl l1), none, some (zi x3), some (zi x4), some (zi x5), o6] [] h Q))) :=
  (WP_blk 4 146 254 _ _ h Q).trans rfl
theorem b_146_263 (r0 : Option Nat) (l1 : Int64) (x3 : Int) (x4 : Int) (x5 : Int) (o6 : Option Zv) (h : Zh) (Q : Zp) : WP 146 263 [some (zr r0), some (zl l1), none, some (zi x3), some (zi x4), some (zi x5), o6] [] h Q = (kd h r0 7 ∧ (WP 109 0 [some (zr r0), some (zi x4), some (zi x3)] [] h (kont WP 146 272 [some (zr r0), some (zl l1), none, some (zi x3), some (zi x4), some (zi x5), o6] [zl (l1 * 31)] [] Q))) :=
  (WP_blk 7 146 263 _ _ h Q).trans rfl
theorem b_146_275 (r0 : Option Nat) (l1 : Int64) (x3 : Int) (x4 : Int) (x5 : Int) (o6 : Option Zv) (s0 : Int) (sl1 : Int64) (h : Zh) (Q : Zp) : WP 146 275 [some (zr r0), some (zl l1), none, some (zi x3), some (zi x4), some (zi x5), o6] [zi s0, zl sl1] h Q = (br (s0 = 0) (WP 146 282 [some (zr r0), some (zl l1), none, some (zi x3), some (zi x4), some (zi x5), o6] [zl sl1] h Q) (WP 146 278 [some (zr r0), some (zl l1), none, some (zi x3), some (zi x4), some (zi x5), o6] [zl sl1] h Q)) :=
  (WP_blk 1 146 275 _ _ h Q).trans rfl
theorem b_146_278 (r0 : Option Nat) (l1 : Int64) (x3 : Int) (x4 : Int) (x5 : Int) (o6 : Option Zv) (sl0 : Int64) (h : Zh) (Q : Zp) : WP 146 278 [some (zr r0), some (zl l1), none, some (zi x3), some (zi x4), some (zi x5), o6] [zl sl0] h Q = (WP 146 283 [some (zr r0), some (zl l1), none, some (zi x3), some (zi x4), some (zi x5), o6] [zi (1 : Int), zl sl0] h Q) :=
  (WP_blk 2 146 278 _ _ h Q).trans rfl
theorem b_146_282 (r0 : Option Nat) (l1 : Int64) (x3 : Int) (x4 : Int) (x5 : Int) (o6 : Option Zv) (sl0 : Int64) (h : Zh) (Q : Zp) : WP 146 282 [some (zr r0), some (zl l1), none, some (zi x3), some (zi x4), some (zi x5), o6] [zl sl0] h Q = (WP 146 283 [some (zr r0), some (zl l1), none, some (zi x3), some (zi x4), some (zi x5), o6] [zi (0 : Int), zl sl0] h Q) :=
  (WP_blk 1 146 282 _ _ h Q).trans rfl
theorem b_146_283 (r0 : Option Nat) (l1 : Int64) (x3 : Int) (x4 : Int) (x5 : Int) (o6 : Option Zv) (s0 : Int) (sl1 : Int64) (h : Zh) (Q : Zp) : WP 146 283 [some (zr r0), some (zl l1), none, some (zi x3), some (zi x4), some (zi x5), o6] [zi s0, zl sl1] h Q = (inR (x4 + 1) ∧ (WP 146 254 [some (zr r0), some (zl (sl1 + (Int64.ofInt s0))), none, some (zi x3), some (zi (x4 + 1)), some (zi x5), o6] [] h Q)) :=
  (WP_blk 5 146 283 _ _ h Q).trans rfl
theorem b_146_292 (r0 : Option Nat) (l1 : Int64) (x3 : Int) (x4 : Int) (x5 : Int) (o6 : Option Zv) (h : Zh) (Q : Zp) : WP 146 292 [some (zr r0), some (zl l1), none, some (zi x3), some (zi x4), some (zi x5), o6] [] h Q = (inR (x3 + 1) ∧ (WP 146 172 [some (zr r0), some (zl l1), none, some (zi (x3 + 1)), some (zi x4), some (zi x5), o6] [] h Q)) :=
  (WP_blk 2 146 292 _ _ h Q).trans rfl
theorem b_146_298 (r0 : Option Nat) (l1 : Int64) (x3 : Int) (x4 : Int) (x5 : Int) (o6 : Option Zv) (h : Zh) (Q : Zp) : WP 146 298 [some (zr r0), some (zl l1), none, some (zi x3), some (zi x4), some (zi x5), o6] [] h Q = (kd h r0 7 ∧ (kd h (gR h (ad r0) 20) 10 ∧ (WP 146 310 [some (zr r0), some (zl l1), none, some (zr (gR h (ad r0) 20)), some (zi (gL h (ad (gR h (ad r0) 20)))), some (zi (0 : Int)), o6] [] h Q))) :=
  (WP_blk 8 146 298 _ _ h Q).trans rfl
theorem b_146_310 (r0 : Option Nat) (l1 : Int64) (r3 : Option Nat) (x4 : Int) (x5 : Int) (o6 : Option Zv) (h : Zh) (Q : Zp) : WP 146 310 [some (zr r0), some (zl l1), none, some (zr r3), some (zi x4), some (zi x5), o6] [] h Q = (br (x4 ≤ x5) (WP 146 339 [some (zr r0), some (zl l1), none, some (zr r3), some (zi x4), some (zi x5), o6] [] h Q) (WP 146 317 [some (zr r0), some (zl l1), none, some (zr r3), some (zi x4), some (zi x5), o6] [] h Q)) :=
  (WP_blk 3 146 310 _ _ h Q).trans rfl
theorem b_146_317 (r0 : Option Nat) (l1 : Int64) (r3 : Option Nat) (x4 : Int) (x5 : Int) (o6 : Option Zv) (h : Zh) (Q : Zp) : WP 146 317 [some (zr r0), some (zl l1), none, some (zr r3), some (zi x4), some (zi x5), o6] [] h Q = (ixa h r3 10 x5 ∧ (inR (x5 + 1) ∧ (WP 146 310 [some (zr r0), some (zl ((l1 * 31) + (Int64.ofInt (gI h (ad r3) x5)))), none, some (zr r3), some (zi x4), some (zi (x5 + 1)), some (zi (gI h (ad r3) x5))] [] h Q))) :=
  (WP_blk 13 146 317 _ _ h Q).trans rfl
theorem b_146_339 (r0 : Option Nat) (l1 : Int64) (r3 : Option Nat) (x4 : Int) (x5 : Int) (o6 : Option Zv) (h : Zh) (Q : Zp) : WP 146 339 [some (zr r0), some (zl l1), none, some (zr r3), some (zi x4), some (zi x5), o6] [] h Q = (Q (.inl (some (zl l1))) h) :=
  (WP_blk 2 146 339 _ _ h Q).trans rfl
