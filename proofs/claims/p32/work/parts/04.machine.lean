/-! THE ABSTRACT MACHINE: values with mathematical ints, a memory of plain functions, an instruction = a monotone predicate transformer; WP = their least closure. Nothing of the JVM model is read here but types. -/
abbrev Zv : Type := Int ⊕ (Int64 ⊕ (UInt64 ⊕ Option Nat))
abbrev zi (x : Int) : Zv := .inl x
abbrev zl (x : Int64) : Zv := .inr (.inl x)
abbrev zd (x : UInt64) : Zv := .inr (.inr (.inl x))
abbrev zr (x : Option Nat) : Zv := .inr (.inr (.inr x))
def inR (x : Int) : Prop := -2147483648 ≤ x ∧ x ≤ 2147483647
def okz (v : Zv) : Prop := match v with
  | .inl x => inR x
  | _ => True
def cz (v : Zv) : Value := match v with
  | .inl x => .int (Int32.ofInt x)
  | .inr (.inl x) => .long x
  | .inr (.inr (.inl x)) => .double x
  | .inr (.inr (.inr r)) => va_rf r
def ctz (v : Zv) : Nat := match v with
  | .inl _ => 1
  | .inr (.inl _) => 2
  | .inr (.inr (.inl _)) => 2
  | .inr (.inr (.inr _)) => 1
abbrev Zl : Type := List (Option Zv)
/-- the memory: kinds (0 nothing; 1..7 the objects; 10 int[], 11 long[], 12 boolean[], 13 Note[], 14 int[][], 15 the script, 16 int[][][]), lengths, ints, references, longs; how many cells and slots were made since the start -/
abbrev Zh : Type := (Nat → Nat) × (Nat → Int) × (Nat → Int → Int) × (Nat → Int → Option Nat) × (Nat → Int → Int64) × Nat × Nat
def gK (h : Zh) (a : Nat) : Nat := h.1 a
def gL (h : Zh) (a : Nat) : Int := h.2.1 a
def gI (h : Zh) (a : Nat) (i : Int) : Int := h.2.2.1 a i
def gR (h : Zh) (a : Nat) (i : Int) : Option Nat := h.2.2.2.1 a i
def gJ (h : Zh) (a : Nat) (i : Int) : Int64 := h.2.2.2.2.1 a i
def gC (h : Zh) : Nat := h.2.2.2.2.2.1
def gS (h : Zh) : Nat := h.2.2.2.2.2.2
/-- the room of the whole run -/
def MXC : Nat := 600086
def MXS : Nat := 7301442
def pI (h : Zh) (a : Nat) (k x : Int) : Zh := (h.1, h.2.1, (fun b j => if b = a ∧ j = k then x else gI h b j), h.2.2.2.1, h.2.2.2.2)
def pR (h : Zh) (a : Nat) (k : Int) (x : Option Nat) : Zh := (h.1, h.2.1, h.2.2.1, (fun b j => if b = a ∧ j = k then x else gR h b j), h.2.2.2.2)
def pJ (h : Zh) (a : Nat) (k : Int) (x : Int64) : Zh := (h.1, h.2.1, h.2.2.1, h.2.2.2.1, (fun b j => if b = a ∧ j = k then x else gJ h b j), h.2.2.2.2.2)
def nw (h : Zh) (a kd : Nat) (n : Int) : Zh := ((fun b => if b = a then kd else gK h b), (fun b => if b = a then n else gL h b), (fun b j => if b = a then 0 else gI h b j), (fun b j => if b = a then none else gR h b j), (fun b j => if b = a then 0 else gJ h b j), gC h + 1, gS h + n.toNat)
/-- new int[n][m]: the outer one at q, the rows at r 0, r 1, .. -/
def nw2 (h : Zh) (q : Nat) (r : Nat → Nat) (n : Nat) (m : Int) : Zh :=
  ((fun b => if b = q then 14 else if b ∈ (List.range n).map r then 10 else gK h b), (fun b => if b = q then (n : Int) else if b ∈ (List.range n).map r then m else gL h b), (fun b j => if b = q ∨ b ∈ (List.range n).map r then 0 else gI h b j),
    (fun b j => if b = q then (if 0 ≤ j ∧ j < n then some (r j.toNat) else none) else if b ∈ (List.range n).map r then none else gR h b j), (fun b j => if b = q ∨ b ∈ (List.range n).map r then 0 else gJ h b j), gC h + 1 + n, gS h + n + n * m.toNat)
/-- an exception was made -/
def tk (h : Zh) : Zh := (h.1, h.2.1, h.2.2.1, h.2.2.2.1, h.2.2.2.2.1, gC h + 1, gS h + 6)
def cpy (h : Zh) (s : Nat) (sp : Int) (d : Nat) (dp n : Int) : Zh := (h.1, h.2.1, (fun b j => if b = d ∧ dp ≤ j ∧ j < dp + n then gI h s (sp + (j - dp)) else gI h b j), h.2.2.2.1, h.2.2.2.2)
theorem gK_pI (h : Zh) (a : Nat) (k x : Int) (b : Nat) : gK (pI h a k x) b = gK h b := rfl
theorem gL_pI (h : Zh) (a : Nat) (k x : Int) (b : Nat) : gL (pI h a k x) b = gL h b := rfl
theorem gI_pI (h : Zh) (a : Nat) (k x : Int) (b : Nat) (j : Int) : gI (pI h a k x) b j = if b = a ∧ j = k then x else gI h b j := rfl
theorem gR_pI (h : Zh) (a : Nat) (k x : Int) (b : Nat) (j : Int) : gR (pI h a k x) b j = gR h b j := rfl
theorem gJ_pI (h : Zh) (a : Nat) (k x : Int) (b : Nat) (j : Int) : gJ (pI h a k x) b j = gJ h b j := rfl
theorem gK_pR (h : Zh) (a : Nat) (k : Int) (x : Option Nat) (b : Nat) : gK (pR h a k x) b = gK h b := rfl
theorem gL_pR (h : Zh) (a : Nat) (k : Int) (x : Option Nat) (b : Nat) : gL (pR h a k x) b = gL h b := rfl
theorem gI_pR (h : Zh) (a : Nat) (k : Int) (x : Option Nat) (b : Nat) (j : Int) : gI (pR h a k x) b j = gI h b j := rfl
theorem gR_pR (h : Zh) (a : Nat) (k : Int) (x : Option Nat) (b : Nat) (j : Int) : gR (pR h a k x) b j = if b = a ∧ j = k then x else gR h b j := rfl
theorem gJ_pR (h : Zh) (a : Nat) (k : Int) (x : Option Nat) (b : Nat) (j : Int) : gJ (pR h a k x) b j = gJ h b j := rfl
theorem gK_pJ (h : Zh) (a : Nat) (k : Int) (x : Int64) (b : Nat) : gK (pJ h a k x) b = gK h b := rfl
theorem gL_pJ (h : Zh) (a : Nat) (k : Int) (x : Int64) (b : Nat) : gL (pJ h a k x) b = gL h b := rfl
theorem gI_pJ (h : Zh) (a : Nat) (k : Int) (x : Int64) (b : Nat) (j : Int) : gI (pJ h a k x) b j = gI h b j := rfl
theorem gR_pJ (h : Zh) (a : Nat) (k : Int) (x : Int64) (b : Nat) (j : Int) : gR (pJ h a k x) b j = gR h b j := rfl
theorem gJ_pJ (h : Zh) (a : Nat) (k : Int) (x : Int64) (b : Nat) (j : Int) : gJ (pJ h a k x) b j = if b = a ∧ j = k then x else gJ h b j := rfl
theorem gK_nw (h : Zh) (a kd : Nat) (n : Int) (b : Nat) : gK (nw h a kd n) b = if b = a then kd else gK h b := rfl
theorem gL_nw (h : Zh) (a kd : Nat) (n : Int) (b : Nat) : gL (nw h a kd n) b = if b = a then n else gL h b := rfl
theorem gI_nw (h : Zh) (a kd : Nat) (n : Int) (b : Nat) (j : Int) : gI (nw h a kd n) b j = if b = a then 0 else gI h b j := rfl
theorem gR_nw (h : Zh) (a kd : Nat) (n : Int) (b : Nat) (j : Int) : gR (nw h a kd n) b j = if b = a then none else gR h b j := rfl
theorem gJ_nw (h : Zh) (a kd : Nat) (n : Int) (b : Nat) (j : Int) : gJ (nw h a kd n) b j = if b = a then 0 else gJ h b j := rfl
theorem gK_nw2 (h : Zh) (q : Nat) (r : Nat → Nat) (n : Nat) (m : Int) (b : Nat) : gK (nw2 h q r n m) b = if b = q then 14 else if b ∈ (List.range n).map r then 10 else gK h b := rfl
theorem gL_nw2 (h : Zh) (q : Nat) (r : Nat → Nat) (n : Nat) (m : Int) (b : Nat) : gL (nw2 h q r n m) b = if b = q then (n : Int) else if b ∈ (List.range n).map r then m else gL h b := rfl
theorem gI_nw2 (h : Zh) (q : Nat) (r : Nat → Nat) (n : Nat) (m : Int) (b : Nat) (j : Int) : gI (nw2 h q r n m) b j = if b = q ∨ b ∈ (List.range n).map r then 0 else gI h b j := rfl
theorem gR_nw2 (h : Zh) (q : Nat) (r : Nat → Nat) (n : Nat) (m : Int) (b : Nat) (j : Int) : gR (nw2 h q r n m) b j = if b = q then (if 0 ≤ j ∧ j < n then some (r j.toNat) else none) else if b ∈ (List.range n).map r then none else gR h b j := rfl
theorem gJ_nw2 (h : Zh) (q : Nat) (r : Nat → Nat) (n : Nat) (m : Int) (b : Nat) (j : Int) : gJ (nw2 h q r n m) b j = if b = q ∨ b ∈ (List.range n).map r then 0 else gJ h b j := rfl
theorem gK_cpy (h : Zh) (s : Nat) (sp : Int) (d : Nat) (dp n : Int) (b : Nat) : gK (cpy h s sp d dp n) b = gK h b := rfl
theorem gL_cpy (h : Zh) (s : Nat) (sp : Int) (d : Nat) (dp n : Int) (b : Nat) : gL (cpy h s sp d dp n) b = gL h b := rfl
theorem gI_cpy (h : Zh) (s : Nat) (sp : Int) (d : Nat) (dp n : Int) (b : Nat) (j : Int) : gI (cpy h s sp d dp n) b j = if b = d ∧ dp ≤ j ∧ j < dp + n then gI h s (sp + (j - dp)) else gI h b j := rfl
theorem gR_cpy (h : Zh) (s : Nat) (sp : Int) (d : Nat) (dp n : Int) (b : Nat) (j : Int) : gR (cpy h s sp d dp n) b j = gR h b j := rfl
theorem gJ_cpy (h : Zh) (s : Nat) (sp : Int) (d : Nat) (dp n : Int) (b : Nat) (j : Int) : gJ (cpy h s sp d dp n) b j = gJ h b j := rfl
theorem gC_pI (h : Zh) (a : Nat) (k x : Int) : gC (pI h a k x) = gC h := rfl
theorem gS_pI (h : Zh) (a : Nat) (k x : Int) : gS (pI h a k x) = gS h := rfl
theorem gC_pR (h : Zh) (a : Nat) (k : Int) (x : Option Nat) : gC (pR h a k x) = gC h := rfl
theorem gS_pR (h : Zh) (a : Nat) (k : Int) (x : Option Nat) : gS (pR h a k x) = gS h := rfl
theorem gC_pJ (h : Zh) (a : Nat) (k : Int) (x : Int64) : gC (pJ h a k x) = gC h := rfl
theorem gS_pJ (h : Zh) (a : Nat) (k : Int) (x : Int64) : gS (pJ h a k x) = gS h := rfl
theorem gC_cpy (h : Zh) (s : Nat) (sp : Int) (d : Nat) (dp n : Int) : gC (cpy h s sp d dp n) = gC h := rfl
theorem gS_cpy (h : Zh) (s : Nat) (sp : Int) (d : Nat) (dp n : Int) : gS (cpy h s sp d dp n) = gS h := rfl
theorem gC_nw (h : Zh) (a kd : Nat) (n : Int) : gC (nw h a kd n) = gC h + 1 := rfl
theorem gS_nw (h : Zh) (a kd : Nat) (n : Int) : gS (nw h a kd n) = gS h + n.toNat := rfl
theorem gC_nw2 (h : Zh) (q : Nat) (r : Nat → Nat) (n : Nat) (m : Int) : gC (nw2 h q r n m) = gC h + 1 + n := rfl
theorem gS_nw2 (h : Zh) (q : Nat) (r : Nat → Nat) (n : Nat) (m : Int) : gS (nw2 h q r n m) = gS h + n + n * m.toNat := rfl
theorem gK_tk (h : Zh) (b : Nat) : gK (tk h) b = gK h b := rfl
theorem gL_tk (h : Zh) (b : Nat) : gL (tk h) b = gL h b := rfl
theorem gI_tk (h : Zh) (b : Nat) (j : Int) : gI (tk h) b j = gI h b j := rfl
theorem gR_tk (h : Zh) (b : Nat) (j : Int) : gR (tk h) b j = gR h b j := rfl
theorem gJ_tk (h : Zh) (b : Nat) (j : Int) : gJ (tk h) b j = gJ h b j := rfl
theorem gC_tk (h : Zh) : gC (tk h) = gC h + 1 := rfl
theorem gS_tk (h : Zh) : gS (tk h) = gS h + 6 := rfl
/-- a reference to a thing of the kind c -/
def kd (h : Zh) (r : Option Nat) (c : Nat) : Prop := ∃ a, r = some a ∧ gK h a = c
def ad (r : Option Nat) : Nat := r.getD 0
theorem ad_some (a : Nat) : ad (some a) = a := rfl
theorem kd_some (h : Zh) (a c : Nat) : kd h (some a) c ↔ gK h a = c := ⟨fun ⟨b, e, k⟩ => by cases e; exact k, fun k => ⟨a, rfl, k⟩⟩
abbrev Zo : Type := Option Zv ⊕ Nat
abbrev Zp : Type := Zo → Zh → Prop
abbrev Zx : Type := Nat → Nat → Zl → List Zv → Zh → Zp → Prop
abbrev Op1 : Type := Zx → Zx
/-- a guard that is reckoned away -/
def gd (b : Bool) (P : Prop) : Prop := match b with
  | true => P
  | false => False
theorem gd_iff {b : Bool} {P : Prop} : gd b P ↔ b = true ∧ P := by cases b <;> simp [gd]
def clr (ls : Zl) (k : Nat) : Zl := match k with
  | 0 => ls
  | j + 1 => match ls[j]? with
    | some (some (.inr (.inl _))) => ls.set j none
    | some (some (.inr (.inr (.inl _)))) => ls.set j none
    | _ => ls
def st1 (ls : Zl) (k : Nat) (v : Zv) : Zl := (clr ls k).set k (some v)
def st2 (ls : Zl) (k : Nat) (v : Zv) : Zl := ((clr ls k).set k (some v)).set (k + 1) none
def sl1 (vs : List Zv) : Zl := match vs with
  | [] => []
  | v :: r => if ctz v = 2 then some v :: none :: sl1 r else some v :: sl1 r
def ent (n : Nat) (vs : List Zv) : Zl := sl1 vs ++ List.replicate (n - (sl1 vs).length) none
-- ---- the instructions
def oFail : Op1 := fun _ _ _ _ _ _ _ => False
def oLdI (k n : Nat) : Op1 := fun X m pc ls st h Q => match ls[k]? with
  | some (some (.inl x)) => X m (pc + n) ls (zi x :: st) h Q
  | _ => False
def oLdL (k n : Nat) : Op1 := fun X m pc ls st h Q => match ls[k]? with
  | some (some (.inr (.inl x))) => X m (pc + n) ls (zl x :: st) h Q
  | _ => False
def oLdD (k n : Nat) : Op1 := fun X m pc ls st h Q => match ls[k]? with
  | some (some (.inr (.inr (.inl x)))) => X m (pc + n) ls (zd x :: st) h Q
  | _ => False
def oLdR (k n : Nat) : Op1 := fun X m pc ls st h Q => match ls[k]? with
  | some (some (.inr (.inr (.inr x)))) => X m (pc + n) ls (zr x :: st) h Q
  | _ => False
def oStI (k n : Nat) : Op1 := fun X m pc ls st h Q => match st with
  | .inl x :: r => X m (pc + n) (st1 ls k (zi x)) r h Q
  | _ => False
def oStL (k n : Nat) : Op1 := fun X m pc ls st h Q => match st with
  | .inr (.inl x) :: r => X m (pc + n) (st2 ls k (zl x)) r h Q
  | _ => False
def oStD (k n : Nat) : Op1 := fun X m pc ls st h Q => match st with
  | .inr (.inr (.inl x)) :: r => X m (pc + n) (st2 ls k (zd x)) r h Q
  | _ => False
def oStR (k n : Nat) : Op1 := fun X m pc ls st h Q => match st with
  | .inr (.inr (.inr x)) :: r => X m (pc + n) (st1 ls k (zr x)) r h Q
  | _ => False
def oCI (x : Int) (n : Nat) : Op1 := fun X m pc ls st h Q => X m (pc + n) ls (zi x :: st) h Q
def oCL (x : Int64) (n : Nat) : Op1 := fun X m pc ls st h Q => X m (pc + n) ls (zl x :: st) h Q
def oCD : Op1 := fun X m pc ls st h Q => X m (pc + 1) ls (zd FP.dconst0 :: st) h Q
def oNull : Op1 := fun X m pc ls st h Q => X m (pc + 1) ls (zr none :: st) h Q
def oInc (k : Nat) (d : Int) : Op1 := fun X m pc ls st h Q => match ls[k]? with
  | some (some (.inl x)) => inR (x + d) ∧ X m (pc + 3) (st1 ls k (zi (x + d))) st h Q
  | _ => False
def oAdd : Op1 := fun X m pc ls st h Q => match st with
  | .inl b :: .inl a :: r => inR (a + b) ∧ X m (pc + 1) ls (zi (a + b) :: r) h Q
  | _ => False
def oSub : Op1 := fun X m pc ls st h Q => match st with
  | .inl b :: .inl a :: r => inR (a - b) ∧ X m (pc + 1) ls (zi (a - b) :: r) h Q
  | _ => False
def oMul : Op1 := fun X m pc ls st h Q => match st with
  | .inl b :: .inl a :: r => inR (a * b) ∧ X m (pc + 1) ls (zi (a * b) :: r) h Q
  | _ => False
/-- of a dividend that is not below 0 and a divisor above 0 -/
def oDiv : Op1 := fun X m pc ls st h Q => match st with
  | .inl b :: .inl a :: r => (0 ≤ a ∧ 0 < b) ∧ X m (pc + 1) ls (zi (a / b) :: r) h Q
  | _ => False
def oRem : Op1 := fun X m pc ls st h Q => match st with
  | .inl b :: .inl a :: r => (0 ≤ a ∧ 0 < b) ∧ X m (pc + 1) ls (zi (a % b) :: r) h Q
  | _ => False
/-- by the mask 31, or of two truths -/
def oAnd : Op1 := fun X m pc ls st h Q => match st with
  | .inl b :: .inl a :: r => (b = 31 ∨ ((a = 0 ∨ a = 1) ∧ (b = 0 ∨ b = 1))) ∧ X m (pc + 1) ls (zi (if b = 31 then a % 32 else a * b) :: r) h Q
  | _ => False
def oI2L : Op1 := fun X m pc ls st h Q => match st with
  | .inl a :: r => X m (pc + 1) ls (zl (Int64.ofInt a) :: r) h Q
  | _ => False
def oLAdd : Op1 := fun X m pc ls st h Q => match st with
  | .inr (.inl b) :: .inr (.inl a) :: r => X m (pc + 1) ls (zl (a + b) :: r) h Q
  | _ => False
def oLMul : Op1 := fun X m pc ls st h Q => match st with
  | .inr (.inl b) :: .inr (.inl a) :: r => X m (pc + 1) ls (zl (a * b) :: r) h Q
  | _ => False
def oLCmp : Op1 := fun X m pc ls st h Q => match st with
  | .inr (.inl b) :: .inr (.inl a) :: r => X m (pc + 1) ls (zi (if a = b then 0 else if a < b then -1 else 1) :: r) h Q
  | _ => False
def oI2D : Op1 := fun X m pc ls st h Q => match st with
  | .inl a :: r => X m (pc + 1) ls (zd (FP.i2d (Int32.ofInt a)) :: r) h Q
  | _ => False
def oDDiv : Op1 := fun X m pc ls st h Q => match st with
  | .inr (.inr (.inl b)) :: .inr (.inr (.inl a)) :: r => vf_n64 (FP.ddiv a b) ∧ X m (pc + 1) ls (zd (FP.ddiv a b) :: r) h Q
  | _ => False
def oDCmp (c : CmpOp) : Op1 := fun X m pc ls st h Q => match st with
  | .inr (.inr (.inl b)) :: .inr (.inr (.inl a)) :: r => X m (pc + 1) ls (zi (Op.cmpValue (FP.dcmp a b) c).toInt :: r) h Q
  | _ => False
def oDup : Op1 := fun X m pc ls st h Q => match st with
  | a :: r => gd (Nat.beq (ctz a) 1) (X m (pc + 1) ls (a :: a :: r) h Q)
  | _ => False
def oDupX1 : Op1 := fun X m pc ls st h Q => match st with
  | a :: b :: r => gd (Nat.beq (ctz a) 1 && Nat.beq (ctz b) 1) (X m (pc + 1) ls (a :: b :: a :: r) h Q)
  | _ => False
def oDup2 : Op1 := fun X m pc ls st h Q => match st with
  | a :: b :: r => gd (Nat.beq (ctz a) 1 && Nat.beq (ctz b) 1) (X m (pc + 1) ls (a :: b :: a :: b :: r) h Q)
  | _ => False
def br (c : Prop) (t f : Prop) : Prop := (c → t) ∧ (¬ c → f)
def oZeq (t : Nat) : Op1 := fun X m pc ls st h Q => match st with
  | .inl a :: r => br (a = 0) (X m t ls r h Q) (X m (pc + 3) ls r h Q)
  | _ => False
def oZne (t : Nat) : Op1 := fun X m pc ls st h Q => match st with
  | .inl a :: r => br (a = 0) (X m (pc + 3) ls r h Q) (X m t ls r h Q)
  | _ => False
def oZlt (t : Nat) : Op1 := fun X m pc ls st h Q => match st with
  | .inl a :: r => br (a < 0) (X m t ls r h Q) (X m (pc + 3) ls r h Q)
  | _ => False
def oZge (t : Nat) : Op1 := fun X m pc ls st h Q => match st with
  | .inl a :: r => br (0 ≤ a) (X m t ls r h Q) (X m (pc + 3) ls r h Q)
  | _ => False
def oZgt (t : Nat) : Op1 := fun X m pc ls st h Q => match st with
  | .inl a :: r => br (0 < a) (X m t ls r h Q) (X m (pc + 3) ls r h Q)
  | _ => False
def oZle (t : Nat) : Op1 := fun X m pc ls st h Q => match st with
  | .inl a :: r => br (a ≤ 0) (X m t ls r h Q) (X m (pc + 3) ls r h Q)
  | _ => False
def oCeq (t : Nat) : Op1 := fun X m pc ls st h Q => match st with
  | .inl b :: .inl a :: r => br (a = b) (X m t ls r h Q) (X m (pc + 3) ls r h Q)
  | _ => False
def oCne (t : Nat) : Op1 := fun X m pc ls st h Q => match st with
  | .inl b :: .inl a :: r => br (a = b) (X m (pc + 3) ls r h Q) (X m t ls r h Q)
  | _ => False
def oClt (t : Nat) : Op1 := fun X m pc ls st h Q => match st with
  | .inl b :: .inl a :: r => br (a < b) (X m t ls r h Q) (X m (pc + 3) ls r h Q)
  | _ => False
def oCge (t : Nat) : Op1 := fun X m pc ls st h Q => match st with
  | .inl b :: .inl a :: r => br (b ≤ a) (X m t ls r h Q) (X m (pc + 3) ls r h Q)
  | _ => False
def oCgt (t : Nat) : Op1 := fun X m pc ls st h Q => match st with
  | .inl b :: .inl a :: r => br (b < a) (X m t ls r h Q) (X m (pc + 3) ls r h Q)
  | _ => False
def oCle (t : Nat) : Op1 := fun X m pc ls st h Q => match st with
  | .inl b :: .inl a :: r => br (a ≤ b) (X m t ls r h Q) (X m (pc + 3) ls r h Q)
  | _ => False
def oNul (t : Nat) : Op1 := fun X m pc ls st h Q => match st with
  | .inr (.inr (.inr a)) :: r => br (a = none) (X m t ls r h Q) (X m (pc + 3) ls r h Q)
  | _ => False
def oNNul (t : Nat) : Op1 := fun X m pc ls st h Q => match st with
  | .inr (.inr (.inr a)) :: r => br (a = none) (X m (pc + 3) ls r h Q) (X m t ls r h Q)
  | _ => False
def oGoto (t : Nat) : Op1 := fun X m _ ls st h Q => X m t ls st h Q
def swA (X : Nat → Prop) (x lo : Int) (ts : List Nat) : Prop := match ts with
  | [] => True
  | t :: r => (x = lo → X t) ∧ swA X x (lo + 1) r
def oSw (lo : Int) (ts : List Nat) (d : Nat) : Op1 := fun X m _ ls st h Q => match st with
  | .inl x :: r => ((x < lo ∨ lo + ts.length ≤ x) → X m d ls r h Q) ∧ swA (fun t => X m t ls r h Q) x lo ts
  | _ => False
def oGetI (c : Nat) (k : Nat) : Op1 := fun X m pc ls st h Q => match st with
  | .inr (.inr (.inr r)) :: t => kd h r c ∧ X m (pc + 3) ls (zi (gI h (ad r) k) :: t) h Q
  | _ => False
def oGetR (c : Nat) (k : Nat) : Op1 := fun X m pc ls st h Q => match st with
  | .inr (.inr (.inr r)) :: t => kd h r c ∧ X m (pc + 3) ls (zr (gR h (ad r) k) :: t) h Q
  | _ => False
def oPutI (c : Nat) (k : Nat) : Op1 := fun X m pc ls st h Q => match st with
  | .inl x :: .inr (.inr (.inr r)) :: t => kd h r c ∧ X m (pc + 3) ls t (pI h (ad r) k x) Q
  | _ => False
def oPutZ (c : Nat) (k : Nat) : Op1 := fun X m pc ls st h Q => match st with
  | .inl x :: .inr (.inr (.inr r)) :: t => (kd h r c ∧ (x = 0 ∨ x = 1)) ∧ X m (pc + 3) ls t (pI h (ad r) k x) Q
  | _ => False
def oPutR (c : Nat) (k : Nat) : Op1 := fun X m pc ls st h Q => match st with
  | .inr (.inr (.inr x)) :: .inr (.inr (.inr r)) :: t => kd h r c ∧ X m (pc + 3) ls t (pR h (ad r) k x) Q
  | _ => False
def ixa (h : Zh) (r : Option Nat) (c : Nat) (i : Int) : Prop := kd h r c ∧ 0 ≤ i ∧ i < gL h (ad r)
def oALdI (c : Nat) : Op1 := fun X m pc ls st h Q => match st with
  | .inl i :: .inr (.inr (.inr r)) :: t => ixa h r c i ∧ X m (pc + 1) ls (zi (gI h (ad r) i) :: t) h Q
  | _ => False
def oALdJ : Op1 := fun X m pc ls st h Q => match st with
  | .inl i :: .inr (.inr (.inr r)) :: t => ixa h r 11 i ∧ X m (pc + 1) ls (zl (gJ h (ad r) i) :: t) h Q
  | _ => False
def oALdR (c : Nat) : Op1 := fun X m pc ls st h Q => match st with
  | .inl i :: .inr (.inr (.inr r)) :: t => ixa h r c i ∧ X m (pc + 1) ls (zr (gR h (ad r) i) :: t) h Q
  | _ => False
def oAStI : Op1 := fun X m pc ls st h Q => match st with
  | .inl x :: .inl i :: .inr (.inr (.inr r)) :: t => ixa h r 10 i ∧ X m (pc + 1) ls t (pI h (ad r) i x) Q
  | _ => False
def oAStZ : Op1 := fun X m pc ls st h Q => match st with
  | .inl x :: .inl i :: .inr (.inr (.inr r)) :: t => (ixa h r 12 i ∧ (x = 0 ∨ x = 1)) ∧ X m (pc + 1) ls t (pI h (ad r) i x) Q
  | _ => False
def oAStJ : Op1 := fun X m pc ls st h Q => match st with
  | .inr (.inl x) :: .inl i :: .inr (.inr (.inr r)) :: t => ixa h r 11 i ∧ X m (pc + 1) ls t (pJ h (ad r) i x) Q
  | _ => False
/-- a thing of the kind e into an array of references of the kind c -/
def oAStR (c e : Nat) : Op1 := fun X m pc ls st h Q => match st with
  | .inr (.inr (.inr x)) :: .inl i :: .inr (.inr (.inr r)) :: t => (ixa h r c i ∧ kd h x e) ∧ X m (pc + 1) ls t (pR h (ad r) i x) Q
  | _ => False
def oALen (c : Nat) : Op1 := fun X m pc ls st h Q => match st with
  | .inr (.inr (.inr r)) :: t => kd h r c ∧ X m (pc + 1) ls (zi (gL h (ad r)) :: t) h Q
  | _ => False
/-- new C: kind c, n fields -/
def oNew (c n : Nat) : Op1 := fun X m pc ls st h Q => (gC h + 1 ≤ MXC ∧ gS h + n ≤ MXS) ∧ ∀ a, gK h a = 0 → X m (pc + 3) ls (zr (some a) :: st) (nw h a c n) Q
def oNewA (c len : Nat) : Op1 := fun X m pc ls st h Q => match st with
  | .inl n :: t => (0 ≤ n ∧ n ≤ 1000000 ∧ gC h + 1 ≤ MXC ∧ gS h + n.toNat ≤ MXS) ∧ ∀ a, gK h a = 0 → X m (pc + len) ls (zr (some a) :: t) (nw h a c n) Q
  | _ => False
def oNew2 : Op1 := fun X m pc ls st h Q => match st with
  | .inl k :: .inl n :: t => (0 ≤ n ∧ n ≤ 1000 ∧ 0 ≤ k ∧ k ≤ 1000 ∧ gC h + 1 + n.toNat ≤ MXC ∧ gS h + n.toNat + n.toNat * k.toNat ≤ MXS) ∧ ∀ (q : Nat) (r : Nat → Nat), gK h q = 0 → (∀ i, i < n.toNat → gK h (r i) = 0 ∧ r i ≠ q) → (∀ i j, i < n.toNat → j < n.toNat → r i = r j → i = j) →
      X m (pc + 4) ls (zr (some q) :: t) (nw2 h q r n.toNat k) Q
  | _ => False
def oMax : Op1 := fun X m pc ls st h Q => match st with
  | .inl b :: .inl a :: r => gd (Nat.ble (r.map ctz).sum 8) (X m (pc + 3) ls (zi (if a < b then b else a) :: r) h Q)
  | _ => False
def oMin : Op1 := fun X m pc ls st h Q => match st with
  | .inl b :: .inl a :: r => gd (Nat.ble (r.map ctz).sum 8) (X m (pc + 3) ls (zi (if b < a then b else a) :: r) h Q)
  | _ => False
def oAbs : Op1 := fun X m pc ls st h Q => match st with
  | .inl a :: r => gd (Nat.ble (r.map ctz).sum 8) (inR (-a) ∧ X m (pc + 3) ls (zi (if a < 0 then -a else a) :: r) h Q)
  | _ => False
def oCpy : Op1 := fun X m pc ls st h Q => match st with
  | .inl n :: .inl dp :: .inr (.inr (.inr d)) :: .inl sp :: .inr (.inr (.inr s)) :: r => gd (Nat.ble (r.map ctz).sum 8) ((kd h s 10 ∧ kd h d 10 ∧ 0 ≤ n ∧ 0 ≤ sp ∧ 0 ≤ dp ∧ sp + n ≤ gL h (ad s) ∧ dp + n ≤ gL h (ad d)) ∧ X m (pc + 3) ls r (cpy h (ad s) sp (ad d) dp n) Q)
  | _ => False
/-- Object's constructor -/
def oObj : Op1 := fun X m pc ls st h Q => match st with
  | .inr (.inr (.inr a)) :: r => gd (Nat.ble (r.map ctz).sum 8) (a ≠ none ∧ X m (pc + 3) ls r h Q)
  | _ => False
/-- behind a call; hs: the handlers of this place, a code of a class and where it goes on (none: it goes out) -/
def kont (X : Zx) (m pc : Nat) (ls : Zl) (r : List Zv) (hs : List (Nat × Nat)) (Q : Zp) : Zp := fun o h => match o with
  | .inl v => X m (pc + 3) ls (v.toList ++ r) h Q
  | .inr e => match hs with
    | [] => Q (.inr e) h
    | _ => match hs.lookup e with
      | some t => ∀ q, X m t ls [zr (some q)] h Q
      | none => False
/-- a call of method m2 (of n parameters, maxL locals) -/
def oCallS (m2 n maxL : Nat) (hs : List (Nat × Nat)) : Op1 := fun X m pc ls st h Q =>
  gd (Nat.ble ((st.drop n).map ctz).sum 8 && (Nat.ble n st.length && Nat.ble (sl1 (st.take n).reverse).length maxL)) (X m2 0 (ent maxL (st.take n).reverse) [] h (kont X m pc ls (st.drop n) hs Q))
/-- the receiver, of the kind c, is below the n parameters -/
def oCallV (m2 n maxL c : Nat) (hs : List (Nat × Nat)) : Op1 := fun X m pc ls st h Q => match st.drop n with
  | .inr (.inr (.inr r)) :: t => gd (Nat.ble (t.map ctz).sum 8 && (Nat.ble n st.length && Nat.ble (sl1 (zr r :: (st.take n).reverse)).length maxL)) (kd h r c ∧ X m2 0 (ent maxL (zr r :: (st.take n).reverse)) [] h (kont X m pc ls t hs Q))
  | _ => False
def oRetI : Op1 := fun _ _ _ _ st h Q => match st with
  | [.inl x] => Q (.inl (some (zi x))) h
  | _ => False
def oRetZ : Op1 := fun _ _ _ _ st h Q => match st with
  | [.inl x] => (x = 0 ∨ x = 1) ∧ Q (.inl (some (zi x))) h
  | _ => False
def oRetL : Op1 := fun _ _ _ _ st h Q => match st with
  | [.inr (.inl x)] => Q (.inl (some (zl x))) h
  | _ => False
def oRetD : Op1 := fun _ _ _ _ st h Q => match st with
  | [.inr (.inr (.inl x))] => Q (.inl (some (zd x))) h
  | _ => False
def oRetR : Op1 := fun _ _ _ _ st h Q => match st with
  | [.inr (.inr (.inr x))] => Q (.inl (some (zr x))) h
  | _ => False
def oRetV : Op1 := fun _ _ _ _ st h Q => match st with
  | [] => Q (.inl none) h
  | _ => False
/-- new E, dup, the text, its constructor, athrow -/
def oThr (e : Nat) : Op1 := fun _ _ _ _ st h Q => gd (Nat.ble (st.map ctz).sum 8) ((gC h + 1 ≤ MXC ∧ gS h + 6 ≤ MXS) ∧ Q (.inr e) (tk h))
-- ---- more instructions: what is not followed (any int), the mask of a sign, rows of rows of rows
def oHav : Op1 := fun X m pc ls st h Q => match st with
  | .inl _ :: .inl _ :: r => ∀ x : Int, inR x → X m (pc + 1) ls (zi x :: r) h Q
  | _ => False
def oMsk : Op1 := fun X m pc ls st h Q => match st with
  | .inl b :: .inl _ :: r => b = 2147483647 ∧ ∀ x : Int, 0 ≤ x → x ≤ 2147483647 → X m (pc + 1) ls (zi x :: r) h Q
  | _ => False
/-- new int[1][0][]: the outer one at q, the inner one at r -/
def nw3 (h : Zh) (q r : Nat) : Zh := pR (nw (nw h r 14 0) q 16 1) q 0 (some r)
def oNew3 : Op1 := fun X m pc ls st h Q => match st with
  | .inl k :: .inl n :: t => ((n = 1 ∧ k = 0) ∧ gC h + 2 ≤ MXC ∧ gS h + 1 ≤ MXS) ∧ ∀ (q r : Nat), gK h q = 0 → gK h r = 0 → r ≠ q → X m (pc + 4) ls (zr (some q) :: t) (nw3 h q r) Q
  | _ => False
/-- references copied -/
def cpyR (h : Zh) (s : Nat) (sp : Int) (d : Nat) (dp n : Int) : Zh := (h.1, h.2.1, h.2.2.1, (fun b j => if b = d ∧ dp ≤ j ∧ j < dp + n then gR h s (sp + (j - dp)) else gR h b j), h.2.2.2.2)
theorem gK_cpyR (h : Zh) (s : Nat) (sp : Int) (d : Nat) (dp n : Int) (b : Nat) : gK (cpyR h s sp d dp n) b = gK h b := rfl
theorem gL_cpyR (h : Zh) (s : Nat) (sp : Int) (d : Nat) (dp n : Int) (b : Nat) : gL (cpyR h s sp d dp n) b = gL h b := rfl
theorem gI_cpyR (h : Zh) (s : Nat) (sp : Int) (d : Nat) (dp n : Int) (b : Nat) (j : Int) : gI (cpyR h s sp d dp n) b j = gI h b j := rfl
theorem gR_cpyR (h : Zh) (s : Nat) (sp : Int) (d : Nat) (dp n : Int) (b : Nat) (j : Int) : gR (cpyR h s sp d dp n) b j = if b = d ∧ dp ≤ j ∧ j < dp + n then gR h s (sp + (j - dp)) else gR h b j := rfl
theorem gJ_cpyR (h : Zh) (s : Nat) (sp : Int) (d : Nat) (dp n : Int) (b : Nat) (j : Int) : gJ (cpyR h s sp d dp n) b j = gJ h b j := rfl
theorem gC_cpyR (h : Zh) (s : Nat) (sp : Int) (d : Nat) (dp n : Int) : gC (cpyR h s sp d dp n) = gC h := rfl
theorem gS_cpyR (h : Zh) (s : Nat) (sp : Int) (d : Nat) (dp n : Int) : gS (cpyR h s sp d dp n) = gS h := rfl
/-- the rows of an array of references of the kind c, to things of the kind e -/
def elk (h : Zh) (s : Nat) (sp n : Int) (e : Nat) : Prop := ∀ (i : Int) (y : Nat), sp ≤ i → i < sp + n → gR h s i = some y → gK h y = e
def oCpyR (c e : Nat) : Op1 := fun X m pc ls st h Q => match st with
  | .inl n :: .inl dp :: .inr (.inr (.inr d)) :: .inl sp :: .inr (.inr (.inr s)) :: r => gd (Nat.ble (r.map ctz).sum 8) ((kd h s c ∧ kd h d c ∧ 0 ≤ n ∧ 0 ≤ sp ∧ 0 ≤ dp ∧ sp + n ≤ gL h (ad s) ∧ dp + n ≤ gL h (ad d) ∧ elk h (ad s) sp n e) ∧ X m (pc + 3) ls r (cpyR h (ad s) sp (ad d) dp n) Q)
  | _ => False
-- ---- monotone
def ZxLe (X Y : Zx) : Prop := ∀ m pc ls st h Q, X m pc ls st h Q → Y m pc ls st h Q
def ZxMo (X : Zx) : Prop := ∀ m pc ls st h (Q Q2 : Zp), (∀ o g, Q o g → Q2 o g) → X m pc ls st h Q → X m pc ls st h Q2
/-- both at once: a larger X, a larger Q -/
def OpMo (f : Op1) : Prop := ∀ (X Y : Zx), ZxLe X Y → ZxMo Y → ∀ m pc ls st h (Q Q2 : Zp), (∀ o g, Q o g → Q2 o g) → f X m pc ls st h Q → f Y m pc ls st h Q2
theorem br_mo {c a b a2 b2 : Prop} (h1 : a → a2) (h2 : b → b2) : br c a b → br c a2 b2 := fun ⟨x, y⟩ => ⟨fun z => h1 (x z), fun z => h2 (y z)⟩
theorem swA_mo {X Y : Nat → Prop} (h : ∀ t, X t → Y t) (x : Int) : ∀ (ts : List Nat) (lo : Int), swA X x lo ts → swA Y x lo ts
  | [], _, _ => trivial
  | _ :: r, lo, ⟨a, b⟩ => ⟨fun e => h _ (a e), swA_mo h x r (lo + 1) b⟩
theorem mo_id {X Y : Zx} (hXY : ZxLe X Y) (hY : ZxMo Y) {m pc : Nat} {ls : Zl} {st : List Zv} {h : Zh} {Q Q2 : Zp} (hQ : ∀ o g, Q o g → Q2 o g) : X m pc ls st h Q → Y m pc ls st h Q2 := fun k => hY _ _ _ _ _ _ _ hQ (hXY _ _ _ _ _ _ k)
theorem kont_mo {X Y : Zx} (hXY : ZxLe X Y) (hY : ZxMo Y) {m pc : Nat} {ls : Zl} {r : List Zv} {hs : List (Nat × Nat)} {Q Q2 : Zp} (hQ : ∀ o g, Q o g → Q2 o g) : ∀ o g, kont X m pc ls r hs Q o g → kont Y m pc ls r hs Q2 o g := by
  intro o g k
  match o, hs, k with
  | .inl v, hs, k => exact mo_id hXY hY hQ k
  | .inr e, [], k => exact hQ _ _ k
  | .inr e, q :: t, k =>
    unfold kont at k ⊢
    dsimp only at k ⊢
    split
    · next _ t9 e9 => rw [e9] at k; exact fun q => mo_id hXY hY hQ (k q)
    · next e9 => rw [e9] at k; exact k
