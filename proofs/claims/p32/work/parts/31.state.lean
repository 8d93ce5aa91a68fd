/-! THE MATHEMATICAL STATE, and how the class and the reference hold it -/
abbrev St : Type := Nat → Int → Int → Int
def su (S : St) (k : Nat) (i j v : Int) : St := fun k2 i2 j2 => if k2 = k ∧ i2 = i ∧ j2 = j then v else S k2 i2 j2
theorem su_k {S : St} {k k2 : Nat} {i j v i2 j2 : Int} (h : k2 ≠ k) : su S k i j v k2 i2 j2 = S k2 i2 j2 := if_neg (fun z => h z.1)
theorem su_i {S : St} {k : Nat} {i j v i2 j2 : Int} : su S k i j v k i2 j2 = if i2 = i ∧ j2 = j then v else S k i2 j2 := by
  unfold su
  by_cases h : i2 = i ∧ j2 = j
  · rw [if_pos h, if_pos ⟨rfl, h⟩]
  · rw [if_neg h, if_neg (fun z => h z.2)]
/-- the same at an address -/
def sm (h g : Zh) (a : Nat) : Prop := gK g a = gK h a ∧ gL g a = gL h a ∧ (∀ i, gI g a i = gI h a i) ∧ (∀ i, gR g a i = gR h a i) ∧ ∀ i, gJ g a i = gJ h a i
theorem sm_rfl (h : Zh) (a : Nat) : sm h h a := ⟨rfl, rfl, fun _ => rfl, fun _ => rfl, fun _ => rfl⟩
theorem sm.trans {h g f : Zh} {a : Nat} (x : sm h g a) (y : sm g f a) : sm h f a := ⟨y.1.trans x.1, y.2.1.trans x.2.1, fun i => (y.2.2.1 i).trans (x.2.2.1 i), fun i => (y.2.2.2.1 i).trans (x.2.2.2.1 i), fun i => (y.2.2.2.2 i).trans (x.2.2.2.2 i)⟩
theorem sm_pI {h : Zh} {a b : Nat} {k x : Int} (n : b ≠ a) : sm h (pI h a k x) b := ⟨rfl, rfl, fun i => by rw [gI_pI, if_neg (fun z => n z.1)], fun _ => rfl, fun _ => rfl⟩
theorem sm_pR {h : Zh} {a b : Nat} {k : Int} {x : Option Nat} (n : b ≠ a) : sm h (pR h a k x) b := ⟨rfl, rfl, fun _ => rfl, fun i => by rw [gR_pR, if_neg (fun z => n z.1)], fun _ => rfl⟩
theorem sm_pJ {h : Zh} {a b : Nat} {k : Int} {x : Int64} (n : b ≠ a) : sm h (pJ h a k x) b := ⟨rfl, rfl, fun _ => rfl, fun _ => rfl, fun i => by rw [gJ_pJ, if_neg (fun z => n z.1)]⟩
theorem sm_cpy {h : Zh} {s d b : Nat} {sp dp n : Int} (nb : b ≠ d) : sm h (cpy h s sp d dp n) b := ⟨rfl, rfl, fun i => by rw [gI_cpy, if_neg (fun z => nb z.1)], fun _ => rfl, fun _ => rfl⟩
theorem sm_nw {h : Zh} {a b kd : Nat} {n : Int} (nb : b ≠ a) : sm h (nw h a kd n) b := ⟨by rw [gK_nw, if_neg nb], by rw [gL_nw, if_neg nb], fun i => by rw [gI_nw, if_neg nb], fun i => by rw [gR_nw, if_neg nb], fun i => by rw [gJ_nw, if_neg nb]⟩
theorem sm_tk (h : Zh) (a : Nat) : sm h (tk h) a := ⟨rfl, rfl, fun _ => rfl, fun _ => rfl, fun _ => rfl⟩
/-- names of addresses; no two names are one address -/
abbrev Na : Type := Nat → Int → Nat
abbrev Ij (a : Na) : Prop := ∀ f i g j, (a f i = a g j) = (f = g ∧ i = j)
/-- what isn't touched: the names of P that are made -/
def Fr (P : Nat → Prop) (a : Na) (h : Zh) (b : Na) (g : Zh) : Prop := ∀ f i, P f → gK h (a f i) ≠ 0 → b f i = a f i ∧ sm h g (a f i)
theorem Fr_rfl {P : Nat → Prop} {a : Na} {h : Zh} : Fr P a h a h := fun f i _ _ => ⟨rfl, sm_rfl h (a f i)⟩
theorem Fr.trans {P : Nat → Prop} {a b c : Na} {h g k : Zh} (x : Fr P a h b g) (y : Fr P b g c k) : Fr P a h c k := fun f i p n => by
  have x1 := x f i p n
  have y1 := y f i p (by rw [x1.1, x1.2.1]; exact n)
  rw [x1.1] at y1
  exact ⟨y1.1, x1.2.trans y1.2⟩
theorem Ij.ne {a : Na} (hi : Ij a) {f g : Nat} {i j : Int} (n : g ≠ f) : a g j ≠ a f i := fun e => by
  rw [hi] at e
  exact n e.1
theorem Fr_pI {P : Nat → Prop} {a : Na} (hi : Ij a) {h : Zh} {f : Nat} {i k x : Int} (n : ¬ P f) : Fr P a h a (pI h (a f i) k x) := fun g j p _ => ⟨rfl, sm_pI (hi.ne (fun e => n (e ▸ p)))⟩
theorem Fr_pR {P : Nat → Prop} {a : Na} (hi : Ij a) {h : Zh} {f : Nat} {i k : Int} {x : Option Nat} (n : ¬ P f) : Fr P a h a (pR h (a f i) k x) := fun g j p _ => ⟨rfl, sm_pR (hi.ne (fun e => n (e ▸ p)))⟩
theorem Fr_pJ {P : Nat → Prop} {a : Na} (hi : Ij a) {h : Zh} {f : Nat} {i k : Int} {x : Int64} (n : ¬ P f) : Fr P a h a (pJ h (a f i) k x) := fun g j p _ => ⟨rfl, sm_pJ (hi.ne (fun e => n (e ▸ p)))⟩
theorem Fr_cpy {P : Nat → Prop} {a : Na} (hi : Ij a) {h : Zh} {s f : Nat} {i sp dp m : Int} (n : ¬ P f) : Fr P a h a (cpy h s sp (a f i) dp m) := fun g j p _ => ⟨rfl, sm_cpy (hi.ne (fun e => n (e ▸ p)))⟩
theorem Fr_tk {P : Nat → Prop} {a : Na} {h : Zh} : Fr P a h a (tk h) := fun f i _ _ => ⟨rfl, sm_tk h (a f i)⟩
/-- a new name -/
def nm (a : Na) (f : Nat) (i : Int) (q : Nat) : Na := fun g j => if g = f ∧ j = i then q else if a g j = q then a f i else a g j
theorem nm_self (a : Na) (f : Nat) (i : Int) (q : Nat) : nm a f i q f i = q := if_pos ⟨rfl, rfl⟩
theorem nm_live {a : Na} {f g : Nat} {i j : Int} {q : Nat} {h : Zh} (hq : gK h q = 0) (hl : gK h (a g j) ≠ 0) (n : ¬ (g = f ∧ j = i)) : nm a f i q g j = a g j := by
  unfold nm
  rw [if_neg n, if_neg (fun e => hl (by rw [e]; exact hq))]
theorem Ij_nm {a : Na} (hi : Ij a) (f : Nat) (i : Int) (q : Nat) : Ij (nm a f i q) := by
  intro g j g2 j2
  apply propext
  refine ⟨fun e => ?_, fun ⟨x, y⟩ => by rw [x, y]⟩
  unfold nm at e
  by_cases c1 : g = f ∧ j = i
  · rw [if_pos c1] at e
    by_cases c2 : g2 = f ∧ j2 = i
    · exact ⟨c1.1.trans c2.1.symm, c1.2.trans c2.2.symm⟩
    · rw [if_neg c2] at e
      by_cases c3 : a g2 j2 = q
      · rw [if_pos c3] at e
        have := (hi f i g2 j2).mp (by rw [c3]; exact e.symm)
        exact absurd ⟨this.1.symm, this.2.symm⟩ c2
      · rw [if_neg c3] at e
        exact absurd e.symm c3
  · rw [if_neg c1] at e
    by_cases c2 : g2 = f ∧ j2 = i
    · rw [if_pos c2] at e
      by_cases c3 : a g j = q
      · rw [if_pos c3] at e
        have := (hi f i g j).mp (by rw [c3]; exact e)
        exact absurd ⟨this.1.symm, this.2.symm⟩ c1
      · rw [if_neg c3] at e
        exact absurd e c3
    · rw [if_neg c2] at e
      by_cases c3 : a g j = q
      · by_cases c4 : a g2 j2 = q
        · exact (hi g j g2 j2).mp (c3.trans c4.symm)
        · rw [if_pos c3, if_neg c4] at e
          have := (hi f i g2 j2).mp e
          exact absurd ⟨this.1.symm, this.2.symm⟩ c2
      · by_cases c4 : a g2 j2 = q
        · rw [if_neg c3, if_pos c4] at e
          have := (hi g j f i).mp e
          exact absurd this c1
        · rw [if_neg c3, if_neg c4] at e
          exact (hi g j g2 j2).mp e
theorem Fr_nw {P : Nat → Prop} {a : Na} {h : Zh} {f : Nat} {i n : Int} {q kd : Nat} (hq : gK h q = 0) (hn : ¬ P f) : Fr P a h (nm a f i q) (nw h q kd n) := fun g j p hl =>
  ⟨nm_live hq hl (fun e => hn (e.1 ▸ p)), sm_nw (fun e => hl (by rw [e]; exact hq))⟩
/-- how many, and the first one, of a stretch -/
noncomputable def cn (p : Int → Prop) (m : Nat) (i : Int) : Int := match m with
  | 0 => 0
  | m + 1 => b2i (p i) + cn p m (i + 1)
noncomputable def fs (p : Int → Prop) (m : Nat) (i : Int) : Int := match m with
  | 0 => -1
  | m + 1 => @ite Int (p i) (Classical.propDecidable _) i (fs p m (i + 1))
/-- a note's number; a head's -/
def nt (S : St) (k : Int) : Prop := 0 ≤ k ∧ k < S 7 0 0
def hd (S : St) (k : Int) : Prop := nt S k ∧ S 11 k 0 = k
/-- the first reply to q behind k, gone ones too; the note behind k in the order -/
noncomputable def rA (S : St) (q k : Int) : Int := fs (fun j => S 10 j 0 = q) (S 7 0 0 - k - 1).toNat (k + 1)
noncomputable def up (S : St) (m : Nat) (k : Int) : Int := match m with
  | 0 => -1
  | m + 1 => if S 10 k 0 = -1 then -1 else if rA S (S 10 k 0) k = -1 then up S m (S 10 k 0) else rA S (S 10 k 0) k
noncomputable def NX (S : St) (k : Int) : Int := if rA S k k = -1 then up S 61 k else rA S k k
/-- the replies that are not gone -/
noncomputable def RP (S : St) (k : Int) : Int := cn (fun j => S 10 j 0 = k ∧ S 12 j 0 ≠ 2) (S 7 0 0).toNat 0
/-- the invariant: bounds, the tree of notes, what is gone -/
def InvU (S : St) : Prop := (0 ≤ S 0 0 0 ∧ S 0 0 0 ≤ 6) ∧ ∀ u, 0 ≤ S 1 u 0 ∧ S 1 u 0 ≤ 4
def InvT (S : St) : Prop := (0 ≤ S 2 0 0 ∧ S 2 0 0 ≤ 60) ∧ (∀ v, 0 ≤ v → v ≤ S 2 0 0 → 0 ≤ S 3 v 0 ∧ S 3 v 0 ≤ 200) ∧ (0 ≤ S 6 0 0 ∧ S 6 0 0 ≤ 40 * S 2 0 0) ∧
  (∀ v p, 0 ≤ v → v ≤ S 2 0 0 → 0 ≤ p → p < S 3 v 0 → 0 ≤ S 4 v p ∧ S 4 v p < S 6 0 0) ∧ ∀ n, 0 ≤ n → n < S 6 0 0 → 0 ≤ S 5 n 0 ∧ S 5 n 0 ≤ 25
/-- of one note, of one head -/
def InvK (S : St) (k : Int) : Prop := (0 ≤ S 8 k 0 ∧ S 8 k 0 < S 0 0 0) ∧ (0 ≤ S 9 k 0 ∧ S 9 k 0 ≤ 999) ∧ ((S 10 k 0 = -1 ∧ S 11 k 0 = k ∧ S 23 k 0 = 0) ∨ (0 ≤ S 10 k 0 ∧ S 10 k 0 < k ∧ S 11 k 0 = S 11 (S 10 k 0) 0 ∧ S 23 k 0 = S 23 (S 10 k 0) 0 + 1)) ∧ (S 12 k 0 = 0 ∨ S 12 k 0 = 1 ∨ S 12 k 0 = 2) ∧ hd S (S 11 k 0) ∧ (S 11 k 0 ≤ k) ∧ (0 ≤ S 23 k 0 ∧ S 23 k 0 ≤ k)
def InvH (S : St) (k : Int) : Prop := (0 ≤ S 13 k 0 ∧ S 13 k 0 ≤ S 14 k 0 ∧ S 14 k 0 ≤ S 3 (S 2 0 0) 0) ∧ (0 ≤ S 15 k 0 ∧ S 15 k 0 ≤ 2) ∧ (-1 ≤ S 16 k 0 ∧ S 16 k 0 ≤ 40) ∧ (0 ≤ S 17 k 0 ∧ S 17 k 0 ≤ 25) ∧ (S 18 k 0 = 0 ∨ S 18 k 0 = 1) ∧ (1 ≤ S 19 k 0 ∧ S 19 k 0 ≤ 12) ∧ ∀ i, 0 ≤ i → i < S 19 k 0 → 0 ≤ S 20 k i ∧ S 20 k i ≤ 25
def InvN (S : St) : Prop := (0 ≤ S 7 0 0 ∧ S 7 0 0 ≤ 60) ∧ (∀ k, nt S k → InvK S k) ∧
  (∀ k, S 7 0 0 ≤ k → k < 60 → S 12 k 0 = 0 ∧ S 17 k 0 = 0 ∧ S 18 k 0 = 0) ∧ (∀ k, hd S k → InvH S k) ∧
  (∀ k j, nt S k → nt S j → S 10 j 0 = k → S 12 k 0 = 2 → S 12 j 0 = 2)
def InvE (S : St) : Prop := 0 ≤ S 21 0 0 ∧ S 21 0 0 ≤ 60
def Inv (S : St) : Prop := InvU S ∧ InvT S ∧ InvN S ∧ InvE S
def RepC (a : Na) (S : St) (h : Zh) : Prop := gK h (a 0 0) = 6 ∧
  gI h (a 0 0) 5 = S 0 0 0 ∧
  gI h (a 0 0) 6 = S 7 0 0 ∧
  gR h (a 0 0) 0 = some (a 1 0) ∧
  gR h (a 0 0) 1 = some (a 2 0) ∧
  gR h (a 0 0) 2 = some (a 3 0) ∧
  gR h (a 0 0) 3 = some (a 4 0) ∧
  gR h (a 0 0) 4 = some (a 5 0) ∧
  gK h (a 1 0) = 10 ∧
  gL h (a 1 0) = 6 ∧
  (∀ u, gI h (a 1 0) u = S 1 u 0) ∧
  gK h (a 2 0) = 5 ∧
  gI h (a 2 0) 3 = S 6 0 0 ∧
  gI h (a 2 0) 4 = S 2 0 0 ∧
  gR h (a 2 0) 0 = some (a 6 0) ∧
  gR h (a 2 0) 1 = some (a 7 0) ∧
  gR h (a 2 0) 2 = some (a 8 0) ∧
  gK h (a 6 0) = 14 ∧
  gL h (a 6 0) = 61 ∧
  (∀ v, 0 ≤ v → v ≤ 60 → gR h (a 6 0) v = some (a 11 v)) ∧
  (∀ v, 0 ≤ v → v ≤ 60 → gK h (a 11 v) = 10) ∧
  (∀ v, 0 ≤ v → v ≤ 60 → gL h (a 11 v) = 200) ∧
  (∀ v p, 0 ≤ v → v ≤ 60 → v ≤ S 2 0 0 → 0 ≤ p → p < S 3 v 0 → gI h (a 11 v) p = S 4 v p) ∧
  gK h (a 7 0) = 10 ∧
  gL h (a 7 0) = 61 ∧
  (∀ v, 0 ≤ v → v ≤ S 2 0 0 → gI h (a 7 0) v = S 3 v 0) ∧
  gK h (a 8 0) = 10 ∧
  gL h (a 8 0) = 2400 ∧
  (∀ n, 0 ≤ n → n < S 6 0 0 → gI h (a 8 0) n = S 5 n 0) ∧
  gK h (a 3 0) = 13 ∧
  gL h (a 3 0) = 60 ∧
  (∀ k, nt S k → gR h (a 3 0) k = some (a 20 k)) ∧
  gK h (a 4 0) = 13 ∧
  gL h (a 4 0) = 60 ∧
  (∀ k, nt S k → gK h (a 20 k) = 3) ∧
  (∀ k, nt S k → gI h (a 20 k) 0 = k) ∧
  (∀ k, nt S k → gI h (a 20 k) 1 = S 8 k 0) ∧
  (∀ k, nt S k → gI h (a 20 k) 2 = S 9 k 0) ∧
  (∀ k, nt S k → gI h (a 20 k) 3 = S 23 k 0) ∧
  (∀ k, nt S k → gI h (a 20 k) 7 = RP S k) ∧
  (∀ k, nt S k → gI h (a 20 k) 8 = b2i (S 12 k 0 ≠ 0)) ∧
  (∀ k, nt S k → gI h (a 20 k) 9 = b2i (S 12 k 0 = 2)) ∧
  (∀ k, nt S k → S 10 k 0 = -1 → gR h (a 20 k) 4 = none) ∧
  (∀ k j, nt S k → nt S j → S 10 k 0 = j → gR h (a 20 k) 4 = some (a 20 j)) ∧
  (∀ k j, nt S k → hd S j → S 11 k 0 = j → gR h (a 20 k) 5 = some (a 21 j)) ∧
  (∀ k, nt S k → NX S k = -1 → gR h (a 20 k) 6 = none) ∧
  (∀ k j, nt S k → nt S j → NX S k = j → gR h (a 20 k) 6 = some (a 20 j)) ∧
  (∀ k, hd S k → gK h (a 21 k) = 4) ∧
  (∀ k, hd S k → gI h (a 21 k) 0 = k) ∧
  (∀ k, hd S k → gI h (a 21 k) 1 = S 8 k 0) ∧
  (∀ k, hd S k → gI h (a 21 k) 2 = S 15 k 0) ∧
  (∀ k, hd S k → gR h (a 21 k) 3 = some (a 22 k)) ∧
  (∀ k, hd S k → gR h (a 21 k) 4 = some (a 23 k)) ∧
  (∀ k, hd S k → gI h (a 21 k) 5 = S 18 k 0) ∧
  (∀ k, hd S k → gI h (a 21 k) 6 = S 16 k 0) ∧
  (∀ k, hd S k → gI h (a 21 k) 7 = S 17 k 0) ∧
  (∀ k, hd S k → gK h (a 22 k) = 1) ∧
  (∀ k, hd S k → gI h (a 22 k) 0 = S 13 k 0) ∧
  (∀ k, hd S k → gI h (a 22 k) 1 = S 14 k 0) ∧
  (∀ k, hd S k → gK h (a 23 k) = 10) ∧
  (∀ k, hd S k → gL h (a 23 k) = S 19 k 0) ∧
  (∀ k i, hd S k → 0 ≤ i → i < S 19 k 0 → gI h (a 23 k) i = S 20 k i) ∧
  gK h (a 5 0) = 2 ∧
  gI h (a 5 0) 1 = S 21 0 0 ∧
  gR h (a 5 0) 0 = some (a 9 0) ∧
  gK h (a 9 0) = 14 ∧
  gL h (a 9 0) = 4 ∧
  (∀ w, 0 ≤ w → w < 4 → gR h (a 9 0) w = some (a 10 w)) ∧
  (∀ w, 0 ≤ w → w < 4 → gK h (a 10 w) = 10) ∧
  (∀ w, 0 ≤ w → w < 4 → gL h (a 10 w) = 60) ∧
  (∀ w p, 0 ≤ w → w < 4 → 0 ≤ p → p < S 21 0 0 → gI h (a 10 w) p = S 22 p w)
def RepM (a : Na) (S : St) (h : Zh) : Prop := gK h (a 100 0) = 7 ∧
  gI h (a 100 0) 1 = S 0 0 0 ∧
  gI h (a 100 0) 3 = S 6 0 0 ∧
  gI h (a 100 0) 6 = S 2 0 0 ∧
  gI h (a 100 0) 7 = S 7 0 0 ∧
  gR h (a 100 0) 2 = some (a 102 0) ∧
  gR h (a 100 0) 4 = some (a 104 0) ∧
  gR h (a 100 0) 5 = some (a 105 0) ∧
  gR h (a 100 0) 8 = some (a 108 0) ∧
  gR h (a 100 0) 9 = some (a 109 0) ∧
  gR h (a 100 0) 10 = some (a 110 0) ∧
  gR h (a 100 0) 11 = some (a 111 0) ∧
  gR h (a 100 0) 12 = some (a 112 0) ∧
  gR h (a 100 0) 13 = some (a 113 0) ∧
  gR h (a 100 0) 14 = some (a 114 0) ∧
  gR h (a 100 0) 15 = some (a 115 0) ∧
  gR h (a 100 0) 16 = some (a 116 0) ∧
  gR h (a 100 0) 17 = some (a 117 0) ∧
  gR h (a 100 0) 18 = some (a 118 0) ∧
  gR h (a 100 0) 19 = some (a 119 0) ∧
  gR h (a 100 0) 20 = some (a 120 0) ∧
  gR h (a 100 0) 22 = some (a 122 0) ∧
  gK h (a 102 0) = 10 ∧
  gL h (a 102 0) = 6 ∧
  (∀ u, gI h (a 102 0) u = S 1 u 0) ∧
  gK h (a 104 0) = 10 ∧
  S 6 0 0 ≤ gL h (a 104 0) ∧
  (∀ n, 0 ≤ n → n < S 6 0 0 → gI h (a 104 0) n = S 5 n 0) ∧
  gK h (a 105 0) = 14 ∧
  gL h (a 105 0) = 61 ∧
  (∀ v, 0 ≤ v → v ≤ S 2 0 0 → gR h (a 105 0) v = some (a 150 v)) ∧
  (∀ v, 0 ≤ v → v ≤ S 2 0 0 → gK h (a 150 v) = 10) ∧
  (∀ v, 0 ≤ v → v ≤ S 2 0 0 → gL h (a 150 v) = S 3 v 0) ∧
  (∀ v p, 0 ≤ v → v ≤ S 2 0 0 → 0 ≤ p → p < S 3 v 0 → gI h (a 150 v) p = S 4 v p) ∧
  gK h (a 108 0) = 10 ∧
  gL h (a 108 0) = 60 ∧
  (∀ k, gI h (a 108 0) k = S 8 k 0) ∧
  gK h (a 109 0) = 10 ∧
  gL h (a 109 0) = 60 ∧
  (∀ k, gI h (a 109 0) k = S 9 k 0) ∧
  gK h (a 110 0) = 10 ∧
  gL h (a 110 0) = 60 ∧
  (∀ k, gI h (a 110 0) k = S 10 k 0) ∧
  gK h (a 111 0) = 10 ∧
  gL h (a 111 0) = 60 ∧
  (∀ k, gI h (a 111 0) k = S 11 k 0) ∧
  gK h (a 112 0) = 10 ∧
  gL h (a 112 0) = 60 ∧
  (∀ k, gI h (a 112 0) k = S 12 k 0) ∧
  gK h (a 113 0) = 10 ∧
  gL h (a 113 0) = 60 ∧
  (∀ k, gI h (a 113 0) k = S 13 k 0) ∧
  gK h (a 114 0) = 10 ∧
  gL h (a 114 0) = 60 ∧
  (∀ k, gI h (a 114 0) k = S 14 k 0) ∧
  gK h (a 115 0) = 10 ∧
  gL h (a 115 0) = 60 ∧
  (∀ k, gI h (a 115 0) k = S 15 k 0) ∧
  gK h (a 116 0) = 10 ∧
  gL h (a 116 0) = 60 ∧
  (∀ k, gI h (a 116 0) k = S 16 k 0) ∧
  gK h (a 117 0) = 10 ∧
  gL h (a 117 0) = 60 ∧
  (∀ k, gI h (a 117 0) k = S 17 k 0) ∧
  gK h (a 118 0) = 12 ∧
  gL h (a 118 0) = 60 ∧
  (∀ k, gI h (a 118 0) k = S 18 k 0) ∧
  gK h (a 119 0) = 14 ∧
  gL h (a 119 0) = 60 ∧
  (∀ k, hd S k → gR h (a 119 0) k = some (a 151 k)) ∧
  (∀ k, hd S k → gK h (a 151 k) = 10) ∧
  (∀ k, hd S k → gL h (a 151 k) = S 19 k 0) ∧
  (∀ k i, hd S k → 0 ≤ i → i < S 19 k 0 → gI h (a 151 k) i = S 20 k i) ∧
  gK h (a 120 0) = 10 ∧
  gL h (a 120 0) = 4 * S 21 0 0 ∧
  (∀ p w, 0 ≤ p → p < S 21 0 0 → 0 ≤ w → w < 4 → gI h (a 120 0) (4 * p + w) = S 22 p w) ∧
  gK h (a 122 0) = 10 ∧
  gL h (a 122 0) = 60
theorem RepC.c0 {a : Na} {S : St} {h : Zh} (hr : RepC a S h) : gK h (a 0 0) = 6 := hr.1
theorem RepC.c1 {a : Na} {S : St} {h : Zh} (hr : RepC a S h) : gI h (a 0 0) 5 = S 0 0 0 := hr.2.1
theorem RepC.c2 {a : Na} {S : St} {h : Zh} (hr : RepC a S h) : gI h (a 0 0) 6 = S 7 0 0 := hr.2.2.1
theorem RepC.c3 {a : Na} {S : St} {h : Zh} (hr : RepC a S h) : gR h (a 0 0) 0 = some (a 1 0) := hr.2.2.2.1
theorem RepC.c4 {a : Na} {S : St} {h : Zh} (hr : RepC a S h) : gR h (a 0 0) 1 = some (a 2 0) := hr.2.2.2.2.1
theorem RepC.c5 {a : Na} {S : St} {h : Zh} (hr : RepC a S h) : gR h (a 0 0) 2 = some (a 3 0) := hr.2.2.2.2.2.1
theorem RepC.c6 {a : Na} {S : St} {h : Zh} (hr : RepC a S h) : gR h (a 0 0) 3 = some (a 4 0) := hr.2.2.2.2.2.2.1
theorem RepC.c7 {a : Na} {S : St} {h : Zh} (hr : RepC a S h) : gR h (a 0 0) 4 = some (a 5 0) := hr.2.2.2.2.2.2.2.1
theorem RepC.c8 {a : Na} {S : St} {h : Zh} (hr : RepC a S h) : gK h (a 1 0) = 10 := hr.2.2.2.2.2.2.2.2.1
theorem RepC.c9 {a : Na} {S : St} {h : Zh} (hr : RepC a S h) : gL h (a 1 0) = 6 := hr.2.2.2.2.2.2.2.2.2.1
theorem RepC.c10 {a : Na} {S : St} {h : Zh} (hr : RepC a S h) : (∀ u, gI h (a 1 0) u = S 1 u 0) := hr.2.2.2.2.2.2.2.2.2.2.1
theorem RepC.c11 {a : Na} {S : St} {h : Zh} (hr : RepC a S h) : gK h (a 2 0) = 5 := hr.2.2.2.2.2.2.2.2.2.2.2.1
theorem RepC.c12 {a : Na} {S : St} {h : Zh} (hr : RepC a S h) : gI h (a 2 0) 3 = S 6 0 0 := hr.2.2.2.2.2.2.2.2.2.2.2.2.1
theorem RepC.c13 {a : Na} {S : St} {h : Zh} (hr : RepC a S h) : gI h (a 2 0) 4 = S 2 0 0 := hr.2.2.2.2.2.2.2.2.2.2.2.2.2.1
theorem RepC.c14 {a : Na} {S : St} {h : Zh} (hr : RepC a S h) : gR h (a 2 0) 0 = some (a 6 0) := hr.2.2.2.2.2.2.2.2.2.2.2.2.2.2.1
theorem RepC.c15 {a : Na} {S : St} {h : Zh} (hr : RepC a S h) : gR h (a 2 0) 1 = some (a 7 0) := hr.2.2.2.2.2.2.2.2.2.2.2.2.2.2.2.1
theorem RepC.c16 {a : Na} {S : St} {h : Zh} (hr : RepC a S h) : gR h (a 2 0) 2 = some (a 8 0) := hr.2.2.2.2.2.2.2.2.2.2.2.2.2.2.2.2.1
theorem RepC.c17 {a : Na} {S : St} {h : Zh} (hr : RepC a S h) : gK h (a 6 0) = 14 := hr.2.2.2.2.2.2.2.2.2.2.2.2.2.2.2.2.2.1
theorem RepC.c18 {a : Na} {S : St} {h : Zh} (hr : RepC a S h) : gL h (a 6 0) = 61 := hr.2.2.2.2.2.2.2.2.2.2.2.2.2.2.2.2.2.2.1
theorem RepC.c19 {a : Na} {S : St} {h : Zh} (hr : RepC a S h) : (∀ v, 0 ≤ v → v ≤ 60 → gR h (a 6 0) v = some (a 11 v)) := hr.2.2.2.2.2.2.2.2.2.2.2.2.2.2.2.2.2.2.2.1
theorem RepC.c20 {a : Na} {S : St} {h : Zh} (hr : RepC a S h) : (∀ v, 0 ≤ v → v ≤ 60 → gK h (a 11 v) = 10) := hr.2.2.2.2.2.2.2.2.2.2.2.2.2.2.2.2.2.2.2.2.1
theorem RepC.c21 {a : Na} {S : St} {h : Zh} (hr : RepC a S h) : (∀ v, 0 ≤ v → v ≤ 60 → gL h (a 11 v) = 200) := hr.2.2.2.2.2.2.2.2.2.2.2.2.2.2.2.2.2.2.2.2.2.1
theorem RepC.c22 {a : Na} {S : St} {h : Zh} (hr : RepC a S h) : (∀ v p, 0 ≤ v → v ≤ 60 → v ≤ S 2 0 0 → 0 ≤ p → p < S 3 v 0 → gI h (a 11 v) p = S 4 v p) := hr.2.2.2.2.2.2.2.2.2.2.2.2.2.2.2.2.2.2.2.2.2.2.1
theorem RepC.c23 {a : Na} {S : St} {h : Zh} (hr : RepC a S h) : gK h (a 7 0) = 10 := hr.2.2.2.2.2.2.2.2.2.2.2.2.2.2.2.2.2.2.2.2.2.2.2.1
theorem RepC.c24 {a : Na} {S : St} {h : Zh} (hr : RepC a S h) : gL h (a 7 0) = 61 := hr.2.2.2.2.2.2.2.2.2.2.2.2.2.2.2.2.2.2.2.2.2.2.2.2.1
theorem RepC.c25 {a : Na} {S : St} {h : Zh} (hr : RepC a S h) : (∀ v, 0 ≤ v → v ≤ S 2 0 0 → gI h (a 7 0) v = S 3 v 0) := hr.2.2.2.2.2.2.2.2.2.2.2.2.2.2.2.2.2.2.2.2.2.2.2.2.2.1
theorem RepC.c26 {a : Na} {S : St} {h : Zh} (hr : RepC a S h) : gK h (a 8 0) = 10 := hr.2.2.2.2.2.2.2.2.2.2.2.2.2.2.2.2.2.2.2.2.2.2.2.2.2.2.1
theorem RepC.c27 {a : Na} {S : St} {h : Zh} (hr : RepC a S h) : gL h (a 8 0) = 2400 := hr.2.2.2.2.2.2.2.2.2.2.2.2.2.2.2.2.2.2.2.2.2.2.2.2.2.2.2.1
theorem RepC.c28 {a : Na} {S : St} {h : Zh} (hr : RepC a S h) : (∀ n, 0 ≤ n → n < S 6 0 0 → gI h (a 8 0) n = S 5 n 0) := hr.2.2.2.2.2.2.2.2.2.2.2.2.2.2.2.2.2.2.2.2.2.2.2.2.2.2.2.2.1
theorem RepC.c29 {a : Na} {S : St} {h : Zh} (hr : RepC a S h) : gK h (a 3 0) = 13 := hr.2.2.2.2.2.2.2.2.2.2.2.2.2.2.2.2.2.2.2.2.2.2.2.2.2.2.2.2.2.1
theorem RepC.c30 {a : Na} {S : St} {h : Zh} (hr : RepC a S h) : gL h (a 3 0) = 60 := hr.2.2.2.2.2.2.2.2.2.2.2.2.2.2.2.2.2.2.2.2.2.2.2.2.2.2.2.2.2.2.1
theorem RepC.c31 {a : Na} {S : St} {h : Zh} (hr : RepC a S h) : (∀ k, nt S k → gR h (a 3 0) k = some (a 20 k)) := hr.2.2.2.2.2.2.2.2.2.2.2.2.2.2.2.2.2.2.2.2.2.2.2.2.2.2.2.2.2.2.2.1
theorem RepC.c32 {a : Na} {S : St} {h : Zh} (hr : RepC a S h) : gK h (a 4 0) = 13 := hr.2.2.2.2.2.2.2.2.2.2.2.2.2.2.2.2.2.2.2.2.2.2.2.2.2.2.2.2.2.2.2.2.1
theorem RepC.c33 {a : Na} {S : St} {h : Zh} (hr : RepC a S h) : gL h (a 4 0) = 60 := hr.2.2.2.2.2.2.2.2.2.2.2.2.2.2.2.2.2.2.2.2.2.2.2.2.2.2.2.2.2.2.2.2.2.1
theorem RepC.c34 {a : Na} {S : St} {h : Zh} (hr : RepC a S h) : (∀ k, nt S k → gK h (a 20 k) = 3) := hr.2.2.2.2.2.2.2.2.2.2.2.2.2.2.2.2.2.2.2.2.2.2.2.2.2.2.2.2.2.2.2.2.2.2.1
theorem RepC.c35 {a : Na} {S : St} {h : Zh} (hr : RepC a S h) : (∀ k, nt S k → gI h (a 20 k) 0 = k) := hr.2.2.2.2.2.2.2.2.2.2.2.2.2.2.2.2.2.2.2.2.2.2.2.2.2.2.2.2.2.2.2.2.2.2.2.1
theorem RepC.c36 {a : Na} {S : St} {h : Zh} (hr : RepC a S h) : (∀ k, nt S k → gI h (a 20 k) 1 = S 8 k 0) := hr.2.2.2.2.2.2.2.2.2.2.2.2.2.2.2.2.2.2.2.2.2.2.2.2.2.2.2.2.2.2.2.2.2.2.2.2.1
theorem RepC.c37 {a : Na} {S : St} {h : Zh} (hr : RepC a S h) : (∀ k, nt S k → gI h (a 20 k) 2 = S 9 k 0) := hr.2.2.2.2.2.2.2.2.2.2.2.2.2.2.2.2.2.2.2.2.2.2.2.2.2.2.2.2.2.2.2.2.2.2.2.2.2.1
theorem RepC.c38 {a : Na} {S : St} {h : Zh} (hr : RepC a S h) : (∀ k, nt S k → gI h (a 20 k) 3 = S 23 k 0) := hr.2.2.2.2.2.2.2.2.2.2.2.2.2.2.2.2.2.2.2.2.2.2.2.2.2.2.2.2.2.2.2.2.2.2.2.2.2.2.1
theorem RepC.c39 {a : Na} {S : St} {h : Zh} (hr : RepC a S h) : (∀ k, nt S k → gI h (a 20 k) 7 = RP S k) := hr.2.2.2.2.2.2.2.2.2.2.2.2.2.2.2.2.2.2.2.2.2.2.2.2.2.2.2.2.2.2.2.2.2.2.2.2.2.2.2.1
theorem RepC.c40 {a : Na} {S : St} {h : Zh} (hr : RepC a S h) : (∀ k, nt S k → gI h (a 20 k) 8 = b2i (S 12 k 0 ≠ 0)) := hr.2.2.2.2.2.2.2.2.2.2.2.2.2.2.2.2.2.2.2.2.2.2.2.2.2.2.2.2.2.2.2.2.2.2.2.2.2.2.2.2.1
theorem RepC.c41 {a : Na} {S : St} {h : Zh} (hr : RepC a S h) : (∀ k, nt S k → gI h (a 20 k) 9 = b2i (S 12 k 0 = 2)) := hr.2.2.2.2.2.2.2.2.2.2.2.2.2.2.2.2.2.2.2.2.2.2.2.2.2.2.2.2.2.2.2.2.2.2.2.2.2.2.2.2.2.1
theorem RepC.c42 {a : Na} {S : St} {h : Zh} (hr : RepC a S h) : (∀ k, nt S k → S 10 k 0 = -1 → gR h (a 20 k) 4 = none) := hr.2.2.2.2.2.2.2.2.2.2.2.2.2.2.2.2.2.2.2.2.2.2.2.2.2.2.2.2.2.2.2.2.2.2.2.2.2.2.2.2.2.2.1
theorem RepC.c43 {a : Na} {S : St} {h : Zh} (hr : RepC a S h) : (∀ k j, nt S k → nt S j → S 10 k 0 = j → gR h (a 20 k) 4 = some (a 20 j)) := hr.2.2.2.2.2.2.2.2.2.2.2.2.2.2.2.2.2.2.2.2.2.2.2.2.2.2.2.2.2.2.2.2.2.2.2.2.2.2.2.2.2.2.2.1
theorem RepC.c44 {a : Na} {S : St} {h : Zh} (hr : RepC a S h) : (∀ k j, nt S k → hd S j → S 11 k 0 = j → gR h (a 20 k) 5 = some (a 21 j)) := hr.2.2.2.2.2.2.2.2.2.2.2.2.2.2.2.2.2.2.2.2.2.2.2.2.2.2.2.2.2.2.2.2.2.2.2.2.2.2.2.2.2.2.2.2.1
theorem RepC.c45 {a : Na} {S : St} {h : Zh} (hr : RepC a S h) : (∀ k, nt S k → NX S k = -1 → gR h (a 20 k) 6 = none) := hr.2.2.2.2.2.2.2.2.2.2.2.2.2.2.2.2.2.2.2.2.2.2.2.2.2.2.2.2.2.2.2.2.2.2.2.2.2.2.2.2.2.2.2.2.2.1
theorem RepC.c46 {a : Na} {S : St} {h : Zh} (hr : RepC a S h) : (∀ k j, nt S k → nt S j → NX S k = j → gR h (a 20 k) 6 = some (a 20 j)) := hr.2.2.2.2.2.2.2.2.2.2.2.2.2.2.2.2.2.2.2.2.2.2.2.2.2.2.2.2.2.2.2.2.2.2.2.2.2.2.2.2.2.2.2.2.2.2.1
theorem RepC.c47 {a : Na} {S : St} {h : Zh} (hr : RepC a S h) : (∀ k, hd S k → gK h (a 21 k) = 4) := hr.2.2.2.2.2.2.2.2.2.2.2.2.2.2.2.2.2.2.2.2.2.2.2.2.2.2.2.2.2.2.2.2.2.2.2.2.2.2.2.2.2.2.2.2.2.2.2.1
theorem RepC.c48 {a : Na} {S : St} {h : Zh} (hr : RepC a S h) : (∀ k, hd S k → gI h (a 21 k) 0 = k) := hr.2.2.2.2.2.2.2.2.2.2.2.2.2.2.2.2.2.2.2.2.2.2.2.2.2.2.2.2.2.2.2.2.2.2.2.2.2.2.2.2.2.2.2.2.2.2.2.2.1
theorem RepC.c49 {a : Na} {S : St} {h : Zh} (hr : RepC a S h) : (∀ k, hd S k → gI h (a 21 k) 1 = S 8 k 0) := hr.2.2.2.2.2.2.2.2.2.2.2.2.2.2.2.2.2.2.2.2.2.2.2.2.2.2.2.2.2.2.2.2.2.2.2.2.2.2.2.2.2.2.2.2.2.2.2.2.2.1
theorem RepC.c50 {a : Na} {S : St} {h : Zh} (hr : RepC a S h) : (∀ k, hd S k → gI h (a 21 k) 2 = S 15 k 0) := hr.2.2.2.2.2.2.2.2.2.2.2.2.2.2.2.2.2.2.2.2.2.2.2.2.2.2.2.2.2.2.2.2.2.2.2.2.2.2.2.2.2.2.2.2.2.2.2.2.2.2.1
theorem RepC.c51 {a : Na} {S : St} {h : Zh} (hr : RepC a S h) : (∀ k, hd S k → gR h (a 21 k) 3 = some (a 22 k)) := hr.2.2.2.2.2.2.2.2.2.2.2.2.2.2.2.2.2.2.2.2.2.2.2.2.2.2.2.2.2.2.2.2.2.2.2.2.2.2.2.2.2.2.2.2.2.2.2.2.2.2.2.1
theorem RepC.c52 {a : Na} {S : St} {h : Zh} (hr : RepC a S h) : (∀ k, hd S k → gR h (a 21 k) 4 = some (a 23 k)) := hr.2.2.2.2.2.2.2.2.2.2.2.2.2.2.2.2.2.2.2.2.2.2.2.2.2.2.2.2.2.2.2.2.2.2.2.2.2.2.2.2.2.2.2.2.2.2.2.2.2.2.2.2.1
theorem RepC.c53 {a : Na} {S : St} {h : Zh} (hr : RepC a S h) : (∀ k, hd S k → gI h (a 21 k) 5 = S 18 k 0) := hr.2.2.2.2.2.2.2.2.2.2.2.2.2.2.2.2.2.2.2.2.2.2.2.2.2.2.2.2.2.2.2.2.2.2.2.2.2.2.2.2.2.2.2.2.2.2.2.2.2.2.2.2.2.1
theorem RepC.c54 {a : Na} {S : St} {h : Zh} (hr : RepC a S h) : (∀ k, hd S k → gI h (a 21 k) 6 = S 16 k 0) := hr.2.2.2.2.2.2.2.2.2.2.2.2.2.2.2.2.2.2.2.2.2.2.2.2.2.2.2.2.2.2.2.2.2.2.2.2.2.2.2.2.2.2.2.2.2.2.2.2.2.2.2.2.2.2.1
theorem RepC.c55 {a : Na} {S : St} {h : Zh} (hr : RepC a S h) : (∀ k, hd S k → gI h (a 21 k) 7 = S 17 k 0) := hr.2.2.2.2.2.2.2.2.2.2.2.2.2.2.2.2.2.2.2.2.2.2.2.2.2.2.2.2.2.2.2.2.2.2.2.2.2.2.2.2.2.2.2.2.2.2.2.2.2.2.2.2.2.2.2.1
theorem RepC.c56 {a : Na} {S : St} {h : Zh} (hr : RepC a S h) : (∀ k, hd S k → gK h (a 22 k) = 1) := hr.2.2.2.2.2.2.2.2.2.2.2.2.2.2.2.2.2.2.2.2.2.2.2.2.2.2.2.2.2.2.2.2.2.2.2.2.2.2.2.2.2.2.2.2.2.2.2.2.2.2.2.2.2.2.2.2.1
theorem RepC.c57 {a : Na} {S : St} {h : Zh} (hr : RepC a S h) : (∀ k, hd S k → gI h (a 22 k) 0 = S 13 k 0) := hr.2.2.2.2.2.2.2.2.2.2.2.2.2.2.2.2.2.2.2.2.2.2.2.2.2.2.2.2.2.2.2.2.2.2.2.2.2.2.2.2.2.2.2.2.2.2.2.2.2.2.2.2.2.2.2.2.2.1
theorem RepC.c58 {a : Na} {S : St} {h : Zh} (hr : RepC a S h) : (∀ k, hd S k → gI h (a 22 k) 1 = S 14 k 0) := hr.2.2.2.2.2.2.2.2.2.2.2.2.2.2.2.2.2.2.2.2.2.2.2.2.2.2.2.2.2.2.2.2.2.2.2.2.2.2.2.2.2.2.2.2.2.2.2.2.2.2.2.2.2.2.2.2.2.2.1
theorem RepC.c59 {a : Na} {S : St} {h : Zh} (hr : RepC a S h) : (∀ k, hd S k → gK h (a 23 k) = 10) := hr.2.2.2.2.2.2.2.2.2.2.2.2.2.2.2.2.2.2.2.2.2.2.2.2.2.2.2.2.2.2.2.2.2.2.2.2.2.2.2.2.2.2.2.2.2.2.2.2.2.2.2.2.2.2.2.2.2.2.2.1
theorem RepC.c60 {a : Na} {S : St} {h : Zh} (hr : RepC a S h) : (∀ k, hd S k → gL h (a 23 k) = S 19 k 0) := hr.2.2.2.2.2.2.2.2.2.2.2.2.2.2.2.2.2.2.2.2.2.2.2.2.2.2.2.2.2.2.2.2.2.2.2.2.2.2.2.2.2.2.2.2.2.2.2.2.2.2.2.2.2.2.2.2.2.2.2.2.1
theorem RepC.c61 {a : Na} {S : St} {h : Zh} (hr : RepC a S h) : (∀ k i, hd S k → 0 ≤ i → i < S 19 k 0 → gI h (a 23 k) i = S 20 k i) := hr.2.2.2.2.2.2.2.2.2.2.2.2.2.2.2.2.2.2.2.2.2.2.2.2.2.2.2.2.2.2.2.2.2.2.2.2.2.2.2.2.2.2.2.2.2.2.2.2.2.2.2.2.2.2.2.2.2.2.2.2.2.1
theorem RepC.c62 {a : Na} {S : St} {h : Zh} (hr : RepC a S h) : gK h (a 5 0) = 2 := hr.2.2.2.2.2.2.2.2.2.2.2.2.2.2.2.2.2.2.2.2.2.2.2.2.2.2.2.2.2.2.2.2.2.2.2.2.2.2.2.2.2.2.2.2.2.2.2.2.2.2.2.2.2.2.2.2.2.2.2.2.2.2.1
theorem RepC.c63 {a : Na} {S : St} {h : Zh} (hr : RepC a S h) : gI h (a 5 0) 1 = S 21 0 0 := hr.2.2.2.2.2.2.2.2.2.2.2.2.2.2.2.2.2.2.2.2.2.2.2.2.2.2.2.2.2.2.2.2.2.2.2.2.2.2.2.2.2.2.2.2.2.2.2.2.2.2.2.2.2.2.2.2.2.2.2.2.2.2.2.1
theorem RepC.c64 {a : Na} {S : St} {h : Zh} (hr : RepC a S h) : gR h (a 5 0) 0 = some (a 9 0) := hr.2.2.2.2.2.2.2.2.2.2.2.2.2.2.2.2.2.2.2.2.2.2.2.2.2.2.2.2.2.2.2.2.2.2.2.2.2.2.2.2.2.2.2.2.2.2.2.2.2.2.2.2.2.2.2.2.2.2.2.2.2.2.2.2.1
theorem RepC.c65 {a : Na} {S : St} {h : Zh} (hr : RepC a S h) : gK h (a 9 0) = 14 := hr.2.2.2.2.2.2.2.2.2.2.2.2.2.2.2.2.2.2.2.2.2.2.2.2.2.2.2.2.2.2.2.2.2.2.2.2.2.2.2.2.2.2.2.2.2.2.2.2.2.2.2.2.2.2.2.2.2.2.2.2.2.2.2.2.2.1
theorem RepC.c66 {a : Na} {S : St} {h : Zh} (hr : RepC a S h) : gL h (a 9 0) = 4 := hr.2.2.2.2.2.2.2.2.2.2.2.2.2.2.2.2.2.2.2.2.2.2.2.2.2.2.2.2.2.2.2.2.2.2.2.2.2.2.2.2.2.2.2.2.2.2.2.2.2.2.2.2.2.2.2.2.2.2.2.2.2.2.2.2.2.2.1
theorem RepC.c67 {a : Na} {S : St} {h : Zh} (hr : RepC a S h) : (∀ w, 0 ≤ w → w < 4 → gR h (a 9 0) w = some (a 10 w)) := hr.2.2.2.2.2.2.2.2.2.2.2.2.2.2.2.2.2.2.2.2.2.2.2.2.2.2.2.2.2.2.2.2.2.2.2.2.2.2.2.2.2.2.2.2.2.2.2.2.2.2.2.2.2.2.2.2.2.2.2.2.2.2.2.2.2.2.2.1
theorem RepC.c68 {a : Na} {S : St} {h : Zh} (hr : RepC a S h) : (∀ w, 0 ≤ w → w < 4 → gK h (a 10 w) = 10) := hr.2.2.2.2.2.2.2.2.2.2.2.2.2.2.2.2.2.2.2.2.2.2.2.2.2.2.2.2.2.2.2.2.2.2.2.2.2.2.2.2.2.2.2.2.2.2.2.2.2.2.2.2.2.2.2.2.2.2.2.2.2.2.2.2.2.2.2.2.1
theorem RepC.c69 {a : Na} {S : St} {h : Zh} (hr : RepC a S h) : (∀ w, 0 ≤ w → w < 4 → gL h (a 10 w) = 60) := hr.2.2.2.2.2.2.2.2.2.2.2.2.2.2.2.2.2.2.2.2.2.2.2.2.2.2.2.2.2.2.2.2.2.2.2.2.2.2.2.2.2.2.2.2.2.2.2.2.2.2.2.2.2.2.2.2.2.2.2.2.2.2.2.2.2.2.2.2.2.1
theorem RepC.c70 {a : Na} {S : St} {h : Zh} (hr : RepC a S h) : (∀ w p, 0 ≤ w → w < 4 → 0 ≤ p → p < S 21 0 0 → gI h (a 10 w) p = S 22 p w) := hr.2.2.2.2.2.2.2.2.2.2.2.2.2.2.2.2.2.2.2.2.2.2.2.2.2.2.2.2.2.2.2.2.2.2.2.2.2.2.2.2.2.2.2.2.2.2.2.2.2.2.2.2.2.2.2.2.2.2.2.2.2.2.2.2.2.2.2.2.2.2
theorem RepM.c0 {a : Na} {S : St} {h : Zh} (hr : RepM a S h) : gK h (a 100 0) = 7 := hr.1
theorem RepM.c1 {a : Na} {S : St} {h : Zh} (hr : RepM a S h) : gI h (a 100 0) 1 = S 0 0 0 := hr.2.1
theorem RepM.c2 {a : Na} {S : St} {h : Zh} (hr : RepM a S h) : gI h (a 100 0) 3 = S 6 0 0 := hr.2.2.1
theorem RepM.c3 {a : Na} {S : St} {h : Zh} (hr : RepM a S h) : gI h (a 100 0) 6 = S 2 0 0 := hr.2.2.2.1
theorem RepM.c4 {a : Na} {S : St} {h : Zh} (hr : RepM a S h) : gI h (a 100 0) 7 = S 7 0 0 := hr.2.2.2.2.1
theorem RepM.c5 {a : Na} {S : St} {h : Zh} (hr : RepM a S h) : gR h (a 100 0) 2 = some (a 102 0) := hr.2.2.2.2.2.1
theorem RepM.c6 {a : Na} {S : St} {h : Zh} (hr : RepM a S h) : gR h (a 100 0) 4 = some (a 104 0) := hr.2.2.2.2.2.2.1
theorem RepM.c7 {a : Na} {S : St} {h : Zh} (hr : RepM a S h) : gR h (a 100 0) 5 = some (a 105 0) := hr.2.2.2.2.2.2.2.1
theorem RepM.c8 {a : Na} {S : St} {h : Zh} (hr : RepM a S h) : gR h (a 100 0) 8 = some (a 108 0) := hr.2.2.2.2.2.2.2.2.1
theorem RepM.c9 {a : Na} {S : St} {h : Zh} (hr : RepM a S h) : gR h (a 100 0) 9 = some (a 109 0) := hr.2.2.2.2.2.2.2.2.2.1
theorem RepM.c10 {a : Na} {S : St} {h : Zh} (hr : RepM a S h) : gR h (a 100 0) 10 = some (a 110 0) := hr.2.2.2.2.2.2.2.2.2.2.1
theorem RepM.c11 {a : Na} {S : St} {h : Zh} (hr : RepM a S h) : gR h (a 100 0) 11 = some (a 111 0) := hr.2.2.2.2.2.2.2.2.2.2.2.1
theorem RepM.c12 {a : Na} {S : St} {h : Zh} (hr : RepM a S h) : gR h (a 100 0) 12 = some (a 112 0) := hr.2.2.2.2.2.2.2.2.2.2.2.2.1
theorem RepM.c13 {a : Na} {S : St} {h : Zh} (hr : RepM a S h) : gR h (a 100 0) 13 = some (a 113 0) := hr.2.2.2.2.2.2.2.2.2.2.2.2.2.1
theorem RepM.c14 {a : Na} {S : St} {h : Zh} (hr : RepM a S h) : gR h (a 100 0) 14 = some (a 114 0) := hr.2.2.2.2.2.2.2.2.2.2.2.2.2.2.1
theorem RepM.c15 {a : Na} {S : St} {h : Zh} (hr : RepM a S h) : gR h (a 100 0) 15 = some (a 115 0) := hr.2.2.2.2.2.2.2.2.2.2.2.2.2.2.2.1
theorem RepM.c16 {a : Na} {S : St} {h : Zh} (hr : RepM a S h) : gR h (a 100 0) 16 = some (a 116 0) := hr.2.2.2.2.2.2.2.2.2.2.2.2.2.2.2.2.1
theorem RepM.c17 {a : Na} {S : St} {h : Zh} (hr : RepM a S h) : gR h (a 100 0) 17 = some (a 117 0) := hr.2.2.2.2.2.2.2.2.2.2.2.2.2.2.2.2.2.1
theorem RepM.c18 {a : Na} {S : St} {h : Zh} (hr : RepM a S h) : gR h (a 100 0) 18 = some (a 118 0) := hr.2.2.2.2.2.2.2.2.2.2.2.2.2.2.2.2.2.2.1
theorem RepM.c19 {a : Na} {S : St} {h : Zh} (hr : RepM a S h) : gR h (a 100 0) 19 = some (a 119 0) := hr.2.2.2.2.2.2.2.2.2.2.2.2.2.2.2.2.2.2.2.1
theorem RepM.c20 {a : Na} {S : St} {h : Zh} (hr : RepM a S h) : gR h (a 100 0) 20 = some (a 120 0) := hr.2.2.2.2.2.2.2.2.2.2.2.2.2.2.2.2.2.2.2.2.1
theorem RepM.c21 {a : Na} {S : St} {h : Zh} (hr : RepM a S h) : gR h (a 100 0) 22 = some (a 122 0) := hr.2.2.2.2.2.2.2.2.2.2.2.2.2.2.2.2.2.2.2.2.2.1
theorem RepM.c22 {a : Na} {S : St} {h : Zh} (hr : RepM a S h) : gK h (a 102 0) = 10 := hr.2.2.2.2.2.2.2.2.2.2.2.2.2.2.2.2.2.2.2.2.2.2.1
theorem RepM.c23 {a : Na} {S : St} {h : Zh} (hr : RepM a S h) : gL h (a 102 0) = 6 := hr.2.2.2.2.2.2.2.2.2.2.2.2.2.2.2.2.2.2.2.2.2.2.2.1
theorem RepM.c24 {a : Na} {S : St} {h : Zh} (hr : RepM a S h) : (∀ u, gI h (a 102 0) u = S 1 u 0) := hr.2.2.2.2.2.2.2.2.2.2.2.2.2.2.2.2.2.2.2.2.2.2.2.2.1
theorem RepM.c25 {a : Na} {S : St} {h : Zh} (hr : RepM a S h) : gK h (a 104 0) = 10 := hr.2.2.2.2.2.2.2.2.2.2.2.2.2.2.2.2.2.2.2.2.2.2.2.2.2.1
theorem RepM.c26 {a : Na} {S : St} {h : Zh} (hr : RepM a S h) : S 6 0 0 ≤ gL h (a 104 0) := hr.2.2.2.2.2.2.2.2.2.2.2.2.2.2.2.2.2.2.2.2.2.2.2.2.2.2.1
theorem RepM.c27 {a : Na} {S : St} {h : Zh} (hr : RepM a S h) : (∀ n, 0 ≤ n → n < S 6 0 0 → gI h (a 104 0) n = S 5 n 0) := hr.2.2.2.2.2.2.2.2.2.2.2.2.2.2.2.2.2.2.2.2.2.2.2.2.2.2.2.1
theorem RepM.c28 {a : Na} {S : St} {h : Zh} (hr : RepM a S h) : gK h (a 105 0) = 14 := hr.2.2.2.2.2.2.2.2.2.2.2.2.2.2.2.2.2.2.2.2.2.2.2.2.2.2.2.2.1
theorem RepM.c29 {a : Na} {S : St} {h : Zh} (hr : RepM a S h) : gL h (a 105 0) = 61 := hr.2.2.2.2.2.2.2.2.2.2.2.2.2.2.2.2.2.2.2.2.2.2.2.2.2.2.2.2.2.1
theorem RepM.c30 {a : Na} {S : St} {h : Zh} (hr : RepM a S h) : (∀ v, 0 ≤ v → v ≤ S 2 0 0 → gR h (a 105 0) v = some (a 150 v)) := hr.2.2.2.2.2.2.2.2.2.2.2.2.2.2.2.2.2.2.2.2.2.2.2.2.2.2.2.2.2.2.1
theorem RepM.c31 {a : Na} {S : St} {h : Zh} (hr : RepM a S h) : (∀ v, 0 ≤ v → v ≤ S 2 0 0 → gK h (a 150 v) = 10) := hr.2.2.2.2.2.2.2.2.2.2.2.2.2.2.2.2.2.2.2.2.2.2.2.2.2.2.2.2.2.2.2.1
theorem RepM.c32 {a : Na} {S : St} {h : Zh} (hr : RepM a S h) : (∀ v, 0 ≤ v → v ≤ S 2 0 0 → gL h (a 150 v) = S 3 v 0) := hr.2.2.2.2.2.2.2.2.2.2.2.2.2.2.2.2.2.2.2.2.2.2.2.2.2.2.2.2.2.2.2.2.1
theorem RepM.c33 {a : Na} {S : St} {h : Zh} (hr : RepM a S h) : (∀ v p, 0 ≤ v → v ≤ S 2 0 0 → 0 ≤ p → p < S 3 v 0 → gI h (a 150 v) p = S 4 v p) := hr.2.2.2.2.2.2.2.2.2.2.2.2.2.2.2.2.2.2.2.2.2.2.2.2.2.2.2.2.2.2.2.2.2.1
theorem RepM.c34 {a : Na} {S : St} {h : Zh} (hr : RepM a S h) : gK h (a 108 0) = 10 := hr.2.2.2.2.2.2.2.2.2.2.2.2.2.2.2.2.2.2.2.2.2.2.2.2.2.2.2.2.2.2.2.2.2.2.1
theorem RepM.c35 {a : Na} {S : St} {h : Zh} (hr : RepM a S h) : gL h (a 108 0) = 60 := hr.2.2.2.2.2.2.2.2.2.2.2.2.2.2.2.2.2.2.2.2.2.2.2.2.2.2.2.2.2.2.2.2.2.2.2.1
theorem RepM.c36 {a : Na} {S : St} {h : Zh} (hr : RepM a S h) : (∀ k, gI h (a 108 0) k = S 8 k 0) := hr.2.2.2.2.2.2.2.2.2.2.2.2.2.2.2.2.2.2.2.2.2.2.2.2.2.2.2.2.2.2.2.2.2.2.2.2.1
theorem RepM.c37 {a : Na} {S : St} {h : Zh} (hr : RepM a S h) : gK h (a 109 0) = 10 := hr.2.2.2.2.2.2.2.2.2.2.2.2.2.2.2.2.2.2.2.2.2.2.2.2.2.2.2.2.2.2.2.2.2.2.2.2.2.1
theorem RepM.c38 {a : Na} {S : St} {h : Zh} (hr : RepM a S h) : gL h (a 109 0) = 60 := hr.2.2.2.2.2.2.2.2.2.2.2.2.2.2.2.2.2.2.2.2.2.2.2.2.2.2.2.2.2.2.2.2.2.2.2.2.2.2.1
theorem RepM.c39 {a : Na} {S : St} {h : Zh} (hr : RepM a S h) : (∀ k, gI h (a 109 0) k = S 9 k 0) := hr.2.2.2.2.2.2.2.2.2.2.2.2.2.2.2.2.2.2.2.2.2.2.2.2.2.2.2.2.2.2.2.2.2.2.2.2.2.2.2.1
theorem RepM.c40 {a : Na} {S : St} {h : Zh} (hr : RepM a S h) : gK h (a 110 0) = 10 := hr.2.2.2.2.2.2.2.2.2.2.2.2.2.2.2.2.2.2.2.2.2.2.2.2.2.2.2.2.2.2.2.2.2.2.2.2.2.2.2.2.1
theorem RepM.c41 {a : Na} {S : St} {h : Zh} (hr : RepM a S h) : gL h (a 110 0) = 60 := hr.2.2.2.2.2.2.2.2.2.2.2.2.2.2.2.2.2.2.2.2.2.2.2.2.2.2.2.2.2.2.2.2.2.2.2.2.2.2.2.2.2.1
theorem RepM.c42 {a : Na} {S : St} {h : Zh} (hr : RepM a S h) : (∀ k, gI h (a 110 0) k = S 10 k 0) := hr.2.2.2.2.2.2.2.2.2.2.2.2.2.2.2.2.2.2.2.2.2.2.2.2.2.2.2.2.2.2.2.2.2.2.2.2.2.2.2.2.2.2.1
theorem RepM.c43 {a : Na} {S : St} {h : Zh} (hr : RepM a S h) : gK h (a 111 0) = 10 := hr.2.2.2.2.2.2.2.2.2.2.2.2.2.2.2.2.2.2.2.2.2.2.2.2.2.2.2.2.2.2.2.2.2.2.2.2.2.2.2.2.2.2.2.1
theorem RepM.c44 {a : Na} {S : St} {h : Zh} (hr : RepM a S h) : gL h (a 111 0) = 60 := hr.2.2.2.2.2.2.2.2.2.2.2.2.2.2.2.2.2.2.2.2.2.2.2.2.2.2.2.2.2.2.2.2.2.2.2.2.2.2.2.2.2.2.2.2.1
theorem RepM.c45 {a : Na} {S : St} {h : Zh} (hr : RepM a S h) : (∀ k, gI h (a 111 0) k = S 11 k 0) := hr.2.2.2.2.2.2.2.2.2.2.2.2.2.2.2.2.2.2.2.2.2.2.2.2.2.2.2.2.2.2.2.2.2.2.2.2.2.2.2.2.2.2.2.2.2.1
theorem RepM.c46 {a : Na} {S : St} {h : Zh} (hr : RepM a S h) : gK h (a 112 0) = 10 := hr.2.2.2.2.2.2.2.2.2.2.2.2.2.2.2.2.2.2.2.2.2.2.2.2.2.2.2.2.2.2.2.2.2.2.2.2.2.2.2.2.2.2.2.2.2.2.1
theorem RepM.c47 {a : Na} {S : St} {h : Zh} (hr : RepM a S h) : gL h (a 112 0) = 60 := hr.2.2.2.2.2.2.2.2.2.2.2.2.2.2.2.2.2.2.2.2.2.2.2.2.2.2.2.2.2.2.2.2.2.2.2.2.2.2.2.2.2.2.2.2.2.2.2.1
theorem RepM.c48 {a : Na} {S : St} {h : Zh} (hr : RepM a S h) : (∀ k, gI h (a 112 0) k = S 12 k 0) := hr.2.2.2.2.2.2.2.2.2.2.2.2.2.2.2.2.2.2.2.2.2.2.2.2.2.2.2.2.2.2.2.2.2.2.2.2.2.2.2.2.2.2.2.2.2.2.2.2.1
theorem RepM.c49 {a : Na} {S : St} {h : Zh} (hr : RepM a S h) : gK h (a 113 0) = 10 := hr.2.2.2.2.2.2.2.2.2.2.2.2.2.2.2.2.2.2.2.2.2.2.2.2.2.2.2.2.2.2.2.2.2.2.2.2.2.2.2.2.2.2.2.2.2.2.2.2.2.1
theorem RepM.c50 {a : Na} {S : St} {h : Zh} (hr : RepM a S h) : gL h (a 113 0) = 60 := hr.2.2.2.2.2.2.2.2.2.2.2.2.2.2.2.2.2.2.2.2.2.2.2.2.2.2.2.2.2.2.2.2.2.2.2.2.2.2.2.2.2.2.2.2.2.2.2.2.2.2.1
theorem RepM.c51 {a : Na} {S : St} {h : Zh} (hr : RepM a S h) : (∀ k, gI h (a 113 0) k = S 13 k 0) := hr.2.2.2.2.2.2.2.2.2.2.2.2.2.2.2.2.2.2.2.2.2.2.2.2.2.2.2.2.2.2.2.2.2.2.2.2.2.2.2.2.2.2.2.2.2.2.2.2.2.2.2.1
theorem RepM.c52 {a : Na} {S : St} {h : Zh} (hr : RepM a S h) : gK h (a 114 0) = 10 := hr.2.2.2.2.2.2.2.2.2.2.2.2.2.2.2.2.2.2.2.2.2.2.2.2.2.2.2.2.2.2.2.2.2.2.2.2.2.2.2.2.2.2.2.2.2.2.2.2.2.2.2.2.1
theorem RepM.c53 {a : Na} {S : St} {h : Zh} (hr : RepM a S h) : gL h (a 114 0) = 60 := hr.2.2.2.2.2.2.2.2.2.2.2.2.2.2.2.2.2.2.2.2.2.2.2.2.2.2.2.2.2.2.2.2.2.2.2.2.2.2.2.2.2.2.2.2.2.2.2.2.2.2.2.2.2.1
theorem RepM.c54 {a : Na} {S : St} {h : Zh} (hr : RepM a S h) : (∀ k, gI h (a 114 0) k = S 14 k 0) := hr.2.2.2.2.2.2.2.2.2.2.2.2.2.2.2.2.2.2.2.2.2.2.2.2.2.2.2.2.2.2.2.2.2.2.2.2.2.2.2.2.2.2.2.2.2.2.2.2.2.2.2.2.2.2.1
theorem RepM.c55 {a : Na} {S : St} {h : Zh} (hr : RepM a S h) : gK h (a 115 0) = 10 := hr.2.2.2.2.2.2.2.2.2.2.2.2.2.2.2.2.2.2.2.2.2.2.2.2.2.2.2.2.2.2.2.2.2.2.2.2.2.2.2.2.2.2.2.2.2.2.2.2.2.2.2.2.2.2.2.1
theorem RepM.c56 {a : Na} {S : St} {h : Zh} (hr : RepM a S h) : gL h (a 115 0) = 60 := hr.2.2.2.2.2.2.2.2.2.2.2.2.2.2.2.2.2.2.2.2.2.2.2.2.2.2.2.2.2.2.2.2.2.2.2.2.2.2.2.2.2.2.2.2.2.2.2.2.2.2.2.2.2.2.2.2.1
theorem RepM.c57 {a : Na} {S : St} {h : Zh} (hr : RepM a S h) : (∀ k, gI h (a 115 0) k = S 15 k 0) := hr.2.2.2.2.2.2.2.2.2.2.2.2.2.2.2.2.2.2.2.2.2.2.2.2.2.2.2.2.2.2.2.2.2.2.2.2.2.2.2.2.2.2.2.2.2.2.2.2.2.2.2.2.2.2.2.2.2.1
theorem RepM.c58 {a : Na} {S : St} {h : Zh} (hr : RepM a S h) : gK h (a 116 0) = 10 := hr.2.2.2.2.2.2.2.2.2.2.2.2.2.2.2.2.2.2.2.2.2.2.2.2.2.2.2.2.2.2.2.2.2.2.2.2.2.2.2.2.2.2.2.2.2.2.2.2.2.2.2.2.2.2.2.2.2.2.1
theorem RepM.c59 {a : Na} {S : St} {h : Zh} (hr : RepM a S h) : gL h (a 116 0) = 60 := hr.2.2.2.2.2.2.2.2.2.2.2.2.2.2.2.2.2.2.2.2.2.2.2.2.2.2.2.2.2.2.2.2.2.2.2.2.2.2.2.2.2.2.2.2.2.2.2.2.2.2.2.2.2.2.2.2.2.2.2.1
theorem RepM.c60 {a : Na} {S : St} {h : Zh} (hr : RepM a S h) : (∀ k, gI h (a 116 0) k = S 16 k 0) := hr.2.2.2.2.2.2.2.2.2.2.2.2.2.2.2.2.2.2.2.2.2.2.2.2.2.2.2.2.2.2.2.2.2.2.2.2.2.2.2.2.2.2.2.2.2.2.2.2.2.2.2.2.2.2.2.2.2.2.2.2.1
theorem RepM.c61 {a : Na} {S : St} {h : Zh} (hr : RepM a S h) : gK h (a 117 0) = 10 := hr.2.2.2.2.2.2.2.2.2.2.2.2.2.2.2.2.2.2.2.2.2.2.2.2.2.2.2.2.2.2.2.2.2.2.2.2.2.2.2.2.2.2.2.2.2.2.2.2.2.2.2.2.2.2.2.2.2.2.2.2.2.1
theorem RepM.c62 {a : Na} {S : St} {h : Zh} (hr : RepM a S h) : gL h (a 117 0) = 60 := hr.2.2.2.2.2.2.2.2.2.2.2.2.2.2.2.2.2.2.2.2.2.2.2.2.2.2.2.2.2.2.2.2.2.2.2.2.2.2.2.2.2.2.2.2.2.2.2.2.2.2.2.2.2.2.2.2.2.2.2.2.2.2.1
theorem RepM.c63 {a : Na} {S : St} {h : Zh} (hr : RepM a S h) : (∀ k, gI h (a 117 0) k = S 17 k 0) := hr.2.2.2.2.2.2.2.2.2.2.2.2.2.2.2.2.2.2.2.2.2.2.2.2.2.2.2.2.2.2.2.2.2.2.2.2.2.2.2.2.2.2.2.2.2.2.2.2.2.2.2.2.2.2.2.2.2.2.2.2.2.2.2.1
theorem RepM.c64 {a : Na} {S : St} {h : Zh} (hr : RepM a S h) : gK h (a 118 0) = 12 := hr.2.2.2.2.2.2.2.2.2.2.2.2.2.2.2.2.2.2.2.2.2.2.2.2.2.2.2.2.2.2.2.2.2.2.2.2.2.2.2.2.2.2.2.2.2.2.2.2.2.2.2.2.2.2.2.2.2.2.2.2.2.2.2.2.1
theorem RepM.c65 {a : Na} {S : St} {h : Zh} (hr : RepM a S h) : gL h (a 118 0) = 60 := hr.2.2.2.2.2.2.2.2.2.2.2.2.2.2.2.2.2.2.2.2.2.2.2.2.2.2.2.2.2.2.2.2.2.2.2.2.2.2.2.2.2.2.2.2.2.2.2.2.2.2.2.2.2.2.2.2.2.2.2.2.2.2.2.2.2.1
theorem RepM.c66 {a : Na} {S : St} {h : Zh} (hr : RepM a S h) : (∀ k, gI h (a 118 0) k = S 18 k 0) := hr.2.2.2.2.2.2.2.2.2.2.2.2.2.2.2.2.2.2.2.2.2.2.2.2.2.2.2.2.2.2.2.2.2.2.2.2.2.2.2.2.2.2.2.2.2.2.2.2.2.2.2.2.2.2.2.2.2.2.2.2.2.2.2.2.2.2.1
theorem RepM.c67 {a : Na} {S : St} {h : Zh} (hr : RepM a S h) : gK h (a 119 0) = 14 := hr.2.2.2.2.2.2.2.2.2.2.2.2.2.2.2.2.2.2.2.2.2.2.2.2.2.2.2.2.2.2.2.2.2.2.2.2.2.2.2.2.2.2.2.2.2.2.2.2.2.2.2.2.2.2.2.2.2.2.2.2.2.2.2.2.2.2.2.1
theorem RepM.c68 {a : Na} {S : St} {h : Zh} (hr : RepM a S h) : gL h (a 119 0) = 60 := hr.2.2.2.2.2.2.2.2.2.2.2.2.2.2.2.2.2.2.2.2.2.2.2.2.2.2.2.2.2.2.2.2.2.2.2.2.2.2.2.2.2.2.2.2.2.2.2.2.2.2.2.2.2.2.2.2.2.2.2.2.2.2.2.2.2.2.2.2.1
theorem RepM.c69 {a : Na} {S : St} {h : Zh} (hr : RepM a S h) : (∀ k, hd S k → gR h (a 119 0) k = some (a 151 k)) := hr.2.2.2.2.2.2.2.2.2.2.2.2.2.2.2.2.2.2.2.2.2.2.2.2.2.2.2.2.2.2.2.2.2.2.2.2.2.2.2.2.2.2.2.2.2.2.2.2.2.2.2.2.2.2.2.2.2.2.2.2.2.2.2.2.2.2.2.2.2.1
theorem RepM.c70 {a : Na} {S : St} {h : Zh} (hr : RepM a S h) : (∀ k, hd S k → gK h (a 151 k) = 10) := hr.2.2.2.2.2.2.2.2.2.2.2.2.2.2.2.2.2.2.2.2.2.2.2.2.2.2.2.2.2.2.2.2.2.2.2.2.2.2.2.2.2.2.2.2.2.2.2.2.2.2.2.2.2.2.2.2.2.2.2.2.2.2.2.2.2.2.2.2.2.2.1
theorem RepM.c71 {a : Na} {S : St} {h : Zh} (hr : RepM a S h) : (∀ k, hd S k → gL h (a 151 k) = S 19 k 0) := hr.2.2.2.2.2.2.2.2.2.2.2.2.2.2.2.2.2.2.2.2.2.2.2.2.2.2.2.2.2.2.2.2.2.2.2.2.2.2.2.2.2.2.2.2.2.2.2.2.2.2.2.2.2.2.2.2.2.2.2.2.2.2.2.2.2.2.2.2.2.2.2.1
theorem RepM.c72 {a : Na} {S : St} {h : Zh} (hr : RepM a S h) : (∀ k i, hd S k → 0 ≤ i → i < S 19 k 0 → gI h (a 151 k) i = S 20 k i) := hr.2.2.2.2.2.2.2.2.2.2.2.2.2.2.2.2.2.2.2.2.2.2.2.2.2.2.2.2.2.2.2.2.2.2.2.2.2.2.2.2.2.2.2.2.2.2.2.2.2.2.2.2.2.2.2.2.2.2.2.2.2.2.2.2.2.2.2.2.2.2.2.2.1
theorem RepM.c73 {a : Na} {S : St} {h : Zh} (hr : RepM a S h) : gK h (a 120 0) = 10 := hr.2.2.2.2.2.2.2.2.2.2.2.2.2.2.2.2.2.2.2.2.2.2.2.2.2.2.2.2.2.2.2.2.2.2.2.2.2.2.2.2.2.2.2.2.2.2.2.2.2.2.2.2.2.2.2.2.2.2.2.2.2.2.2.2.2.2.2.2.2.2.2.2.2.1
theorem RepM.c74 {a : Na} {S : St} {h : Zh} (hr : RepM a S h) : gL h (a 120 0) = 4 * S 21 0 0 := hr.2.2.2.2.2.2.2.2.2.2.2.2.2.2.2.2.2.2.2.2.2.2.2.2.2.2.2.2.2.2.2.2.2.2.2.2.2.2.2.2.2.2.2.2.2.2.2.2.2.2.2.2.2.2.2.2.2.2.2.2.2.2.2.2.2.2.2.2.2.2.2.2.2.2.1
theorem RepM.c75 {a : Na} {S : St} {h : Zh} (hr : RepM a S h) : (∀ p w, 0 ≤ p → p < S 21 0 0 → 0 ≤ w → w < 4 → gI h (a 120 0) (4 * p + w) = S 22 p w) := hr.2.2.2.2.2.2.2.2.2.2.2.2.2.2.2.2.2.2.2.2.2.2.2.2.2.2.2.2.2.2.2.2.2.2.2.2.2.2.2.2.2.2.2.2.2.2.2.2.2.2.2.2.2.2.2.2.2.2.2.2.2.2.2.2.2.2.2.2.2.2.2.2.2.2.2.1
theorem RepM.c76 {a : Na} {S : St} {h : Zh} (hr : RepM a S h) : gK h (a 122 0) = 10 := hr.2.2.2.2.2.2.2.2.2.2.2.2.2.2.2.2.2.2.2.2.2.2.2.2.2.2.2.2.2.2.2.2.2.2.2.2.2.2.2.2.2.2.2.2.2.2.2.2.2.2.2.2.2.2.2.2.2.2.2.2.2.2.2.2.2.2.2.2.2.2.2.2.2.2.2.2.1
theorem RepM.c77 {a : Na} {S : St} {h : Zh} (hr : RepM a S h) : gL h (a 122 0) = 60 := hr.2.2.2.2.2.2.2.2.2.2.2.2.2.2.2.2.2.2.2.2.2.2.2.2.2.2.2.2.2.2.2.2.2.2.2.2.2.2.2.2.2.2.2.2.2.2.2.2.2.2.2.2.2.2.2.2.2.2.2.2.2.2.2.2.2.2.2.2.2.2.2.2.2.2.2.2.2
/-- the names of the class are where they were -/
def MvC (S : St) (a : Na) (h : Zh) (b : Na) (g : Zh) : Prop := (b 0 0 = a 0 0 ∧ sm h g (a 0 0)) ∧
  (b 1 0 = a 1 0 ∧ sm h g (a 1 0)) ∧
  (b 2 0 = a 2 0 ∧ sm h g (a 2 0)) ∧
  (b 3 0 = a 3 0 ∧ sm h g (a 3 0)) ∧
  (b 4 0 = a 4 0 ∧ sm h g (a 4 0)) ∧
  (b 5 0 = a 5 0 ∧ sm h g (a 5 0)) ∧
  (b 6 0 = a 6 0 ∧ sm h g (a 6 0)) ∧
  (b 7 0 = a 7 0 ∧ sm h g (a 7 0)) ∧
  (b 8 0 = a 8 0 ∧ sm h g (a 8 0)) ∧
  (b 9 0 = a 9 0 ∧ sm h g (a 9 0)) ∧
  (∀ w, 0 ≤ w → w < 4 → b 10 w = a 10 w ∧ sm h g (a 10 w)) ∧
  (∀ v, 0 ≤ v → v ≤ 60 → b 11 v = a 11 v ∧ sm h g (a 11 v)) ∧
  (∀ k, nt S k → b 20 k = a 20 k ∧ sm h g (a 20 k)) ∧
  (∀ k, hd S k → b 21 k = a 21 k ∧ sm h g (a 21 k)) ∧
  (∀ k, hd S k → b 22 k = a 22 k ∧ sm h g (a 22 k)) ∧
  (∀ k, hd S k → b 23 k = a 23 k ∧ sm h g (a 23 k))
theorem RepC.mv {a b : Na} {S : St} {h g : Zh} (hr : RepC a S h) (hm : MvC S a h b g) : RepC b S g := by
  have b0 : b 0 0 = a 0 0 := (hm.1).1
  have K0 : gK g (a 0 0) = gK h (a 0 0) := (hm.1).2.1
  have L0 : gL g (a 0 0) = gL h (a 0 0) := (hm.1).2.2.1
  have I0 : ∀ x, gI g (a 0 0) x = gI h (a 0 0) x := fun x => (hm.1).2.2.2.1 x
  have R0 : ∀ x, gR g (a 0 0) x = gR h (a 0 0) x := fun x => (hm.1).2.2.2.2.1 x
  have b1 : b 1 0 = a 1 0 := (hm.2.1).1
  have K1 : gK g (a 1 0) = gK h (a 1 0) := (hm.2.1).2.1
  have L1 : gL g (a 1 0) = gL h (a 1 0) := (hm.2.1).2.2.1
  have I1 : ∀ x, gI g (a 1 0) x = gI h (a 1 0) x := fun x => (hm.2.1).2.2.2.1 x
  have R1 : ∀ x, gR g (a 1 0) x = gR h (a 1 0) x := fun x => (hm.2.1).2.2.2.2.1 x
  have b2 : b 2 0 = a 2 0 := (hm.2.2.1).1
  have K2 : gK g (a 2 0) = gK h (a 2 0) := (hm.2.2.1).2.1
  have L2 : gL g (a 2 0) = gL h (a 2 0) := (hm.2.2.1).2.2.1
  have I2 : ∀ x, gI g (a 2 0) x = gI h (a 2 0) x := fun x => (hm.2.2.1).2.2.2.1 x
  have R2 : ∀ x, gR g (a 2 0) x = gR h (a 2 0) x := fun x => (hm.2.2.1).2.2.2.2.1 x
  have b3 : b 3 0 = a 3 0 := (hm.2.2.2.1).1
  have K3 : gK g (a 3 0) = gK h (a 3 0) := (hm.2.2.2.1).2.1
  have L3 : gL g (a 3 0) = gL h (a 3 0) := (hm.2.2.2.1).2.2.1
  have I3 : ∀ x, gI g (a 3 0) x = gI h (a 3 0) x := fun x => (hm.2.2.2.1).2.2.2.1 x
  have R3 : ∀ x, gR g (a 3 0) x = gR h (a 3 0) x := fun x => (hm.2.2.2.1).2.2.2.2.1 x
  have b4 : b 4 0 = a 4 0 := (hm.2.2.2.2.1).1
  have K4 : gK g (a 4 0) = gK h (a 4 0) := (hm.2.2.2.2.1).2.1
  have L4 : gL g (a 4 0) = gL h (a 4 0) := (hm.2.2.2.2.1).2.2.1
  have I4 : ∀ x, gI g (a 4 0) x = gI h (a 4 0) x := fun x => (hm.2.2.2.2.1).2.2.2.1 x
  have R4 : ∀ x, gR g (a 4 0) x = gR h (a 4 0) x := fun x => (hm.2.2.2.2.1).2.2.2.2.1 x
  have b5 : b 5 0 = a 5 0 := (hm.2.2.2.2.2.1).1
  have K5 : gK g (a 5 0) = gK h (a 5 0) := (hm.2.2.2.2.2.1).2.1
  have L5 : gL g (a 5 0) = gL h (a 5 0) := (hm.2.2.2.2.2.1).2.2.1
  have I5 : ∀ x, gI g (a 5 0) x = gI h (a 5 0) x := fun x => (hm.2.2.2.2.2.1).2.2.2.1 x
  have R5 : ∀ x, gR g (a 5 0) x = gR h (a 5 0) x := fun x => (hm.2.2.2.2.2.1).2.2.2.2.1 x
  have b6 : b 6 0 = a 6 0 := (hm.2.2.2.2.2.2.1).1
  have K6 : gK g (a 6 0) = gK h (a 6 0) := (hm.2.2.2.2.2.2.1).2.1
  have L6 : gL g (a 6 0) = gL h (a 6 0) := (hm.2.2.2.2.2.2.1).2.2.1
  have I6 : ∀ x, gI g (a 6 0) x = gI h (a 6 0) x := fun x => (hm.2.2.2.2.2.2.1).2.2.2.1 x
  have R6 : ∀ x, gR g (a 6 0) x = gR h (a 6 0) x := fun x => (hm.2.2.2.2.2.2.1).2.2.2.2.1 x
  have b7 : b 7 0 = a 7 0 := (hm.2.2.2.2.2.2.2.1).1
  have K7 : gK g (a 7 0) = gK h (a 7 0) := (hm.2.2.2.2.2.2.2.1).2.1
  have L7 : gL g (a 7 0) = gL h (a 7 0) := (hm.2.2.2.2.2.2.2.1).2.2.1
  have I7 : ∀ x, gI g (a 7 0) x = gI h (a 7 0) x := fun x => (hm.2.2.2.2.2.2.2.1).2.2.2.1 x
  have R7 : ∀ x, gR g (a 7 0) x = gR h (a 7 0) x := fun x => (hm.2.2.2.2.2.2.2.1).2.2.2.2.1 x
  have b8 : b 8 0 = a 8 0 := (hm.2.2.2.2.2.2.2.2.1).1
  have K8 : gK g (a 8 0) = gK h (a 8 0) := (hm.2.2.2.2.2.2.2.2.1).2.1
  have L8 : gL g (a 8 0) = gL h (a 8 0) := (hm.2.2.2.2.2.2.2.2.1).2.2.1
  have I8 : ∀ x, gI g (a 8 0) x = gI h (a 8 0) x := fun x => (hm.2.2.2.2.2.2.2.2.1).2.2.2.1 x
  have R8 : ∀ x, gR g (a 8 0) x = gR h (a 8 0) x := fun x => (hm.2.2.2.2.2.2.2.2.1).2.2.2.2.1 x
  have b9 : b 9 0 = a 9 0 := (hm.2.2.2.2.2.2.2.2.2.1).1
  have K9 : gK g (a 9 0) = gK h (a 9 0) := (hm.2.2.2.2.2.2.2.2.2.1).2.1
  have L9 : gL g (a 9 0) = gL h (a 9 0) := (hm.2.2.2.2.2.2.2.2.2.1).2.2.1
  have I9 : ∀ x, gI g (a 9 0) x = gI h (a 9 0) x := fun x => (hm.2.2.2.2.2.2.2.2.2.1).2.2.2.1 x
  have R9 : ∀ x, gR g (a 9 0) x = gR h (a 9 0) x := fun x => (hm.2.2.2.2.2.2.2.2.2.1).2.2.2.2.1 x
  have b10 : ∀ w, 0 ≤ w → w < 4 → b 10 w = a 10 w := fun w h0 h1 => (hm.2.2.2.2.2.2.2.2.2.2.1 w h0 h1).1
  have K10 : ∀ w, 0 ≤ w → w < 4 → gK g (a 10 w) = gK h (a 10 w) := fun w h0 h1 => (hm.2.2.2.2.2.2.2.2.2.2.1 w h0 h1).2.1
  have L10 : ∀ w, 0 ≤ w → w < 4 → gL g (a 10 w) = gL h (a 10 w) := fun w h0 h1 => (hm.2.2.2.2.2.2.2.2.2.2.1 w h0 h1).2.2.1
  have I10 : ∀ w x, 0 ≤ w → w < 4 → gI g (a 10 w) x = gI h (a 10 w) x := fun w x h0 h1 => (hm.2.2.2.2.2.2.2.2.2.2.1 w h0 h1).2.2.2.1 x
  have R10 : ∀ w x, 0 ≤ w → w < 4 → gR g (a 10 w) x = gR h (a 10 w) x := fun w x h0 h1 => (hm.2.2.2.2.2.2.2.2.2.2.1 w h0 h1).2.2.2.2.1 x
  have b11 : ∀ v, 0 ≤ v → v ≤ 60 → b 11 v = a 11 v := fun v h0 h1 => (hm.2.2.2.2.2.2.2.2.2.2.2.1 v h0 h1).1
  have K11 : ∀ v, 0 ≤ v → v ≤ 60 → gK g (a 11 v) = gK h (a 11 v) := fun v h0 h1 => (hm.2.2.2.2.2.2.2.2.2.2.2.1 v h0 h1).2.1
  have L11 : ∀ v, 0 ≤ v → v ≤ 60 → gL g (a 11 v) = gL h (a 11 v) := fun v h0 h1 => (hm.2.2.2.2.2.2.2.2.2.2.2.1 v h0 h1).2.2.1
  have I11 : ∀ v x, 0 ≤ v → v ≤ 60 → gI g (a 11 v) x = gI h (a 11 v) x := fun v x h0 h1 => (hm.2.2.2.2.2.2.2.2.2.2.2.1 v h0 h1).2.2.2.1 x
  have R11 : ∀ v x, 0 ≤ v → v ≤ 60 → gR g (a 11 v) x = gR h (a 11 v) x := fun v x h0 h1 => (hm.2.2.2.2.2.2.2.2.2.2.2.1 v h0 h1).2.2.2.2.1 x
  have b20 : ∀ k, nt S k → b 20 k = a 20 k := fun k h0 => (hm.2.2.2.2.2.2.2.2.2.2.2.2.1 k h0).1
  have K20 : ∀ k, nt S k → gK g (a 20 k) = gK h (a 20 k) := fun k h0 => (hm.2.2.2.2.2.2.2.2.2.2.2.2.1 k h0).2.1
  have L20 : ∀ k, nt S k → gL g (a 20 k) = gL h (a 20 k) := fun k h0 => (hm.2.2.2.2.2.2.2.2.2.2.2.2.1 k h0).2.2.1
  have I20 : ∀ k x, nt S k → gI g (a 20 k) x = gI h (a 20 k) x := fun k x h0 => (hm.2.2.2.2.2.2.2.2.2.2.2.2.1 k h0).2.2.2.1 x
  have R20 : ∀ k x, nt S k → gR g (a 20 k) x = gR h (a 20 k) x := fun k x h0 => (hm.2.2.2.2.2.2.2.2.2.2.2.2.1 k h0).2.2.2.2.1 x
  have b21 : ∀ k, hd S k → b 21 k = a 21 k := fun k h0 => (hm.2.2.2.2.2.2.2.2.2.2.2.2.2.1 k h0).1
  have K21 : ∀ k, hd S k → gK g (a 21 k) = gK h (a 21 k) := fun k h0 => (hm.2.2.2.2.2.2.2.2.2.2.2.2.2.1 k h0).2.1
  have L21 : ∀ k, hd S k → gL g (a 21 k) = gL h (a 21 k) := fun k h0 => (hm.2.2.2.2.2.2.2.2.2.2.2.2.2.1 k h0).2.2.1
  have I21 : ∀ k x, hd S k → gI g (a 21 k) x = gI h (a 21 k) x := fun k x h0 => (hm.2.2.2.2.2.2.2.2.2.2.2.2.2.1 k h0).2.2.2.1 x
  have R21 : ∀ k x, hd S k → gR g (a 21 k) x = gR h (a 21 k) x := fun k x h0 => (hm.2.2.2.2.2.2.2.2.2.2.2.2.2.1 k h0).2.2.2.2.1 x
  have b22 : ∀ k, hd S k → b 22 k = a 22 k := fun k h0 => (hm.2.2.2.2.2.2.2.2.2.2.2.2.2.2.1 k h0).1
  have K22 : ∀ k, hd S k → gK g (a 22 k) = gK h (a 22 k) := fun k h0 => (hm.2.2.2.2.2.2.2.2.2.2.2.2.2.2.1 k h0).2.1
  have L22 : ∀ k, hd S k → gL g (a 22 k) = gL h (a 22 k) := fun k h0 => (hm.2.2.2.2.2.2.2.2.2.2.2.2.2.2.1 k h0).2.2.1
  have I22 : ∀ k x, hd S k → gI g (a 22 k) x = gI h (a 22 k) x := fun k x h0 => (hm.2.2.2.2.2.2.2.2.2.2.2.2.2.2.1 k h0).2.2.2.1 x
  have R22 : ∀ k x, hd S k → gR g (a 22 k) x = gR h (a 22 k) x := fun k x h0 => (hm.2.2.2.2.2.2.2.2.2.2.2.2.2.2.1 k h0).2.2.2.2.1 x
  have b23 : ∀ k, hd S k → b 23 k = a 23 k := fun k h0 => (hm.2.2.2.2.2.2.2.2.2.2.2.2.2.2.2 k h0).1
  have K23 : ∀ k, hd S k → gK g (a 23 k) = gK h (a 23 k) := fun k h0 => (hm.2.2.2.2.2.2.2.2.2.2.2.2.2.2.2 k h0).2.1
  have L23 : ∀ k, hd S k → gL g (a 23 k) = gL h (a 23 k) := fun k h0 => (hm.2.2.2.2.2.2.2.2.2.2.2.2.2.2.2 k h0).2.2.1
  have I23 : ∀ k x, hd S k → gI g (a 23 k) x = gI h (a 23 k) x := fun k x h0 => (hm.2.2.2.2.2.2.2.2.2.2.2.2.2.2.2 k h0).2.2.2.1 x
  have R23 : ∀ k x, hd S k → gR g (a 23 k) x = gR h (a 23 k) x := fun k x h0 => (hm.2.2.2.2.2.2.2.2.2.2.2.2.2.2.2 k h0).2.2.2.2.1 x
  exact ⟨(by simp (disch := first | assumption | omega) only [b0, K0, L0, I0, R0]; exact hr.c0),
    (by simp (disch := first | assumption | omega) only [b0, K0, L0, I0, R0]; exact hr.c1),
    (by simp (disch := first | assumption | omega) only [b0, K0, L0, I0, R0]; exact hr.c2),
    (by simp (disch := first | assumption | omega) only [b0, K0, L0, I0, R0, b1, K1, L1, I1, R1]; exact hr.c3),
    (by simp (disch := first | assumption | omega) only [b0, K0, L0, I0, R0, b2, K2, L2, I2, R2]; exact hr.c4),
    (by simp (disch := first | assumption | omega) only [b0, K0, L0, I0, R0, b3, K3, L3, I3, R3]; exact hr.c5),
    (by simp (disch := first | assumption | omega) only [b0, K0, L0, I0, R0, b4, K4, L4, I4, R4]; exact hr.c6),
    (by simp (disch := first | assumption | omega) only [b0, K0, L0, I0, R0, b5, K5, L5, I5, R5]; exact hr.c7),
    (by simp (disch := first | assumption | omega) only [b1, K1, L1, I1, R1]; exact hr.c8),
    (by simp (disch := first | assumption | omega) only [b1, K1, L1, I1, R1]; exact hr.c9),
    fun u  => (by simp (disch := first | assumption | omega) only [b1, K1, L1, I1, R1]; exact hr.c10 u ),
    (by simp (disch := first | assumption | omega) only [b2, K2, L2, I2, R2]; exact hr.c11),
    (by simp (disch := first | assumption | omega) only [b2, K2, L2, I2, R2]; exact hr.c12),
    (by simp (disch := first | assumption | omega) only [b2, K2, L2, I2, R2]; exact hr.c13),
    (by simp (disch := first | assumption | omega) only [b2, K2, L2, I2, R2, b6, K6, L6, I6, R6]; exact hr.c14),
    (by simp (disch := first | assumption | omega) only [b2, K2, L2, I2, R2, b7, K7, L7, I7, R7]; exact hr.c15),
    (by simp (disch := first | assumption | omega) only [b2, K2, L2, I2, R2, b8, K8, L8, I8, R8]; exact hr.c16),
    (by simp (disch := first | assumption | omega) only [b6, K6, L6, I6, R6]; exact hr.c17),
    (by simp (disch := first | assumption | omega) only [b6, K6, L6, I6, R6]; exact hr.c18),
    fun v h0 h1 => (by simp (disch := first | assumption | omega) only [b6, K6, L6, I6, R6, b11, K11, L11, I11, R11]; exact hr.c19 v h0 h1),
    fun v h0 h1 => (by simp (disch := first | assumption | omega) only [b11, K11, L11, I11, R11]; exact hr.c20 v h0 h1),
    fun v h0 h1 => (by simp (disch := first | assumption | omega) only [b11, K11, L11, I11, R11]; exact hr.c21 v h0 h1),
    fun v p h0 h1 h2 h3 h4 => (by simp (disch := first | assumption | omega) only [b11, K11, L11, I11, R11]; exact hr.c22 v p h0 h1 h2 h3 h4),
    (by simp (disch := first | assumption | omega) only [b7, K7, L7, I7, R7]; exact hr.c23),
    (by simp (disch := first | assumption | omega) only [b7, K7, L7, I7, R7]; exact hr.c24),
    fun v h0 h1 => (by simp (disch := first | assumption | omega) only [b7, K7, L7, I7, R7]; exact hr.c25 v h0 h1),
    (by simp (disch := first | assumption | omega) only [b8, K8, L8, I8, R8]; exact hr.c26),
    (by simp (disch := first | assumption | omega) only [b8, K8, L8, I8, R8]; exact hr.c27),
    fun n h0 h1 => (by simp (disch := first | assumption | omega) only [b8, K8, L8, I8, R8]; exact hr.c28 n h0 h1),
    (by simp (disch := first | assumption | omega) only [b3, K3, L3, I3, R3]; exact hr.c29),
    (by simp (disch := first | assumption | omega) only [b3, K3, L3, I3, R3]; exact hr.c30),
    fun k h0 => (by simp (disch := first | assumption | omega) only [b3, K3, L3, I3, R3, b20, K20, L20, I20, R20]; exact hr.c31 k h0),
    (by simp (disch := first | assumption | omega) only [b4, K4, L4, I4, R4]; exact hr.c32),
    (by simp (disch := first | assumption | omega) only [b4, K4, L4, I4, R4]; exact hr.c33),
    fun k h0 => (by simp (disch := first | assumption | omega) only [b20, K20, L20, I20, R20]; exact hr.c34 k h0),
    fun k h0 => (by simp (disch := first | assumption | omega) only [b20, K20, L20, I20, R20]; exact hr.c35 k h0),
    fun k h0 => (by simp (disch := first | assumption | omega) only [b20, K20, L20, I20, R20]; exact hr.c36 k h0),
    fun k h0 => (by simp (disch := first | assumption | omega) only [b20, K20, L20, I20, R20]; exact hr.c37 k h0),
    fun k h0 => (by simp (disch := first | assumption | omega) only [b20, K20, L20, I20, R20]; exact hr.c38 k h0),
    fun k h0 => (by simp (disch := first | assumption | omega) only [b20, K20, L20, I20, R20]; exact hr.c39 k h0),
    fun k h0 => (by simp (disch := first | assumption | omega) only [b20, K20, L20, I20, R20]; exact hr.c40 k h0),
    fun k h0 => (by simp (disch := first | assumption | omega) only [b20, K20, L20, I20, R20]; exact hr.c41 k h0),
    fun k h0 h1 => (by simp (disch := first | assumption | omega) only [b20, K20, L20, I20, R20]; exact hr.c42 k h0 h1),
    fun k j h0 h1 h2 => (by simp (disch := first | assumption | omega) only [b20, K20, L20, I20, R20]; exact hr.c43 k j h0 h1 h2),
    fun k j h0 h1 h2 => (by simp (disch := first | assumption | omega) only [b20, K20, L20, I20, R20, b21, K21, L21, I21, R21]; exact hr.c44 k j h0 h1 h2),
    fun k h0 h1 => (by simp (disch := first | assumption | omega) only [b20, K20, L20, I20, R20]; exact hr.c45 k h0 h1),
    fun k j h0 h1 h2 => (by simp (disch := first | assumption | omega) only [b20, K20, L20, I20, R20]; exact hr.c46 k j h0 h1 h2),
    fun k h0 => (by simp (disch := first | assumption | omega) only [b21, K21, L21, I21, R21]; exact hr.c47 k h0),
    fun k h0 => (by simp (disch := first | assumption | omega) only [b21, K21, L21, I21, R21]; exact hr.c48 k h0),
    fun k h0 => (by simp (disch := first | assumption | omega) only [b21, K21, L21, I21, R21]; exact hr.c49 k h0),
    fun k h0 => (by simp (disch := first | assumption | omega) only [b21, K21, L21, I21, R21]; exact hr.c50 k h0),
    fun k h0 => (by simp (disch := first | assumption | omega) only [b21, K21, L21, I21, R21, b22, K22, L22, I22, R22]; exact hr.c51 k h0),
    fun k h0 => (by simp (disch := first | assumption | omega) only [b21, K21, L21, I21, R21, b23, K23, L23, I23, R23]; exact hr.c52 k h0),
    fun k h0 => (by simp (disch := first | assumption | omega) only [b21, K21, L21, I21, R21]; exact hr.c53 k h0),
    fun k h0 => (by simp (disch := first | assumption | omega) only [b21, K21, L21, I21, R21]; exact hr.c54 k h0),
    fun k h0 => (by simp (disch := first | assumption | omega) only [b21, K21, L21, I21, R21]; exact hr.c55 k h0),
    fun k h0 => (by simp (disch := first | assumption | omega) only [b22, K22, L22, I22, R22]; exact hr.c56 k h0),
    fun k h0 => (by simp (disch := first | assumption | omega) only [b22, K22, L22, I22, R22]; exact hr.c57 k h0),
    fun k h0 => (by simp (disch := first | assumption | omega) only [b22, K22, L22, I22, R22]; exact hr.c58 k h0),
    fun k h0 => (by simp (disch := first | assumption | omega) only [b23, K23, L23, I23, R23]; exact hr.c59 k h0),
    fun k h0 => (by simp (disch := first | assumption | omega) only [b23, K23, L23, I23, R23]; exact hr.c60 k h0),
    fun k i h0 h1 h2 => (by simp (disch := first | assumption | omega) only [b23, K23, L23, I23, R23]; exact hr.c61 k i h0 h1 h2),
    (by simp (disch := first | assumption | omega) only [b5, K5, L5, I5, R5]; exact hr.c62),
    (by simp (disch := first | assumption | omega) only [b5, K5, L5, I5, R5]; exact hr.c63),
    (by simp (disch := first | assumption | omega) only [b5, K5, L5, I5, R5, b9, K9, L9, I9, R9]; exact hr.c64),
    (by simp (disch := first | assumption | omega) only [b9, K9, L9, I9, R9]; exact hr.c65),
    (by simp (disch := first | assumption | omega) only [b9, K9, L9, I9, R9]; exact hr.c66),
    fun w h0 h1 => (by simp (disch := first | assumption | omega) only [b9, K9, L9, I9, R9, b10, K10, L10, I10, R10]; exact hr.c67 w h0 h1),
    fun w h0 h1 => (by simp (disch := first | assumption | omega) only [b10, K10, L10, I10, R10]; exact hr.c68 w h0 h1),
    fun w h0 h1 => (by simp (disch := first | assumption | omega) only [b10, K10, L10, I10, R10]; exact hr.c69 w h0 h1),
    fun w p h0 h1 h2 h3 => (by simp (disch := first | assumption | omega) only [b10, K10, L10, I10, R10]; exact hr.c70 w p h0 h1 h2 h3)⟩
/-- the names of the reference are where they were -/
def MvM (S : St) (a : Na) (h : Zh) (b : Na) (g : Zh) : Prop := (b 100 0 = a 100 0 ∧ sm h g (a 100 0)) ∧
  (b 102 0 = a 102 0 ∧ sm h g (a 102 0)) ∧
  (b 104 0 = a 104 0 ∧ sm h g (a 104 0)) ∧
  (b 105 0 = a 105 0 ∧ sm h g (a 105 0)) ∧
  (b 108 0 = a 108 0 ∧ sm h g (a 108 0)) ∧
  (b 109 0 = a 109 0 ∧ sm h g (a 109 0)) ∧
  (b 110 0 = a 110 0 ∧ sm h g (a 110 0)) ∧
  (b 111 0 = a 111 0 ∧ sm h g (a 111 0)) ∧
  (b 112 0 = a 112 0 ∧ sm h g (a 112 0)) ∧
  (b 113 0 = a 113 0 ∧ sm h g (a 113 0)) ∧
  (b 114 0 = a 114 0 ∧ sm h g (a 114 0)) ∧
  (b 115 0 = a 115 0 ∧ sm h g (a 115 0)) ∧
  (b 116 0 = a 116 0 ∧ sm h g (a 116 0)) ∧
  (b 117 0 = a 117 0 ∧ sm h g (a 117 0)) ∧
  (b 118 0 = a 118 0 ∧ sm h g (a 118 0)) ∧
  (b 119 0 = a 119 0 ∧ sm h g (a 119 0)) ∧
  (b 120 0 = a 120 0 ∧ sm h g (a 120 0)) ∧
  (b 122 0 = a 122 0 ∧ sm h g (a 122 0)) ∧
  (∀ v, 0 ≤ v → v ≤ S 2 0 0 → b 150 v = a 150 v ∧ sm h g (a 150 v)) ∧
  (∀ k, hd S k → b 151 k = a 151 k ∧ sm h g (a 151 k))
theorem RepM.mv {a b : Na} {S : St} {h g : Zh} (hr : RepM a S h) (hm : MvM S a h b g) : RepM b S g := by
  have b100 : b 100 0 = a 100 0 := (hm.1).1
  have K100 : gK g (a 100 0) = gK h (a 100 0) := (hm.1).2.1
  have L100 : gL g (a 100 0) = gL h (a 100 0) := (hm.1).2.2.1
  have I100 : ∀ x, gI g (a 100 0) x = gI h (a 100 0) x := fun x => (hm.1).2.2.2.1 x
  have R100 : ∀ x, gR g (a 100 0) x = gR h (a 100 0) x := fun x => (hm.1).2.2.2.2.1 x
  have b102 : b 102 0 = a 102 0 := (hm.2.1).1
  have K102 : gK g (a 102 0) = gK h (a 102 0) := (hm.2.1).2.1
  have L102 : gL g (a 102 0) = gL h (a 102 0) := (hm.2.1).2.2.1
  have I102 : ∀ x, gI g (a 102 0) x = gI h (a 102 0) x := fun x => (hm.2.1).2.2.2.1 x
  have R102 : ∀ x, gR g (a 102 0) x = gR h (a 102 0) x := fun x => (hm.2.1).2.2.2.2.1 x
  have b104 : b 104 0 = a 104 0 := (hm.2.2.1).1
  have K104 : gK g (a 104 0) = gK h (a 104 0) := (hm.2.2.1).2.1
  have L104 : gL g (a 104 0) = gL h (a 104 0) := (hm.2.2.1).2.2.1
  have I104 : ∀ x, gI g (a 104 0) x = gI h (a 104 0) x := fun x => (hm.2.2.1).2.2.2.1 x
  have R104 : ∀ x, gR g (a 104 0) x = gR h (a 104 0) x := fun x => (hm.2.2.1).2.2.2.2.1 x
  have b105 : b 105 0 = a 105 0 := (hm.2.2.2.1).1
  have K105 : gK g (a 105 0) = gK h (a 105 0) := (hm.2.2.2.1).2.1
  have L105 : gL g (a 105 0) = gL h (a 105 0) := (hm.2.2.2.1).2.2.1
  have I105 : ∀ x, gI g (a 105 0) x = gI h (a 105 0) x := fun x => (hm.2.2.2.1).2.2.2.1 x
  have R105 : ∀ x, gR g (a 105 0) x = gR h (a 105 0) x := fun x => (hm.2.2.2.1).2.2.2.2.1 x
  have b108 : b 108 0 = a 108 0 := (hm.2.2.2.2.1).1
  have K108 : gK g (a 108 0) = gK h (a 108 0) := (hm.2.2.2.2.1).2.1
  have L108 : gL g (a 108 0) = gL h (a 108 0) := (hm.2.2.2.2.1).2.2.1
  have I108 : ∀ x, gI g (a 108 0) x = gI h (a 108 0) x := fun x => (hm.2.2.2.2.1).2.2.2.1 x
  have R108 : ∀ x, gR g (a 108 0) x = gR h (a 108 0) x := fun x => (hm.2.2.2.2.1).2.2.2.2.1 x
  have b109 : b 109 0 = a 109 0 := (hm.2.2.2.2.2.1).1
  have K109 : gK g (a 109 0) = gK h (a 109 0) := (hm.2.2.2.2.2.1).2.1
  have L109 : gL g (a 109 0) = gL h (a 109 0) := (hm.2.2.2.2.2.1).2.2.1
  have I109 : ∀ x, gI g (a 109 0) x = gI h (a 109 0) x := fun x => (hm.2.2.2.2.2.1).2.2.2.1 x
  have R109 : ∀ x, gR g (a 109 0) x = gR h (a 109 0) x := fun x => (hm.2.2.2.2.2.1).2.2.2.2.1 x
  have b110 : b 110 0 = a 110 0 := (hm.2.2.2.2.2.2.1).1
  have K110 : gK g (a 110 0) = gK h (a 110 0) := (hm.2.2.2.2.2.2.1).2.1
  have L110 : gL g (a 110 0) = gL h (a 110 0) := (hm.2.2.2.2.2.2.1).2.2.1
  have I110 : ∀ x, gI g (a 110 0) x = gI h (a 110 0) x := fun x => (hm.2.2.2.2.2.2.1).2.2.2.1 x
  have R110 : ∀ x, gR g (a 110 0) x = gR h (a 110 0) x := fun x => (hm.2.2.2.2.2.2.1).2.2.2.2.1 x
  have b111 : b 111 0 = a 111 0 := (hm.2.2.2.2.2.2.2.1).1
  have K111 : gK g (a 111 0) = gK h (a 111 0) := (hm.2.2.2.2.2.2.2.1).2.1
  have L111 : gL g (a 111 0) = gL h (a 111 0) := (hm.2.2.2.2.2.2.2.1).2.2.1
  have I111 : ∀ x, gI g (a 111 0) x = gI h (a 111 0) x := fun x => (hm.2.2.2.2.2.2.2.1).2.2.2.1 x
  have R111 : ∀ x, gR g (a 111 0) x = gR h (a 111 0) x := fun x => (hm.2.2.2.2.2.2.2.1).2.2.2.2.1 x
  have b112 : b 112 0 = a 112 0 := (hm.2.2.2.2.2.2.2.2.1).1
  have K112 : gK g (a 112 0) = gK h (a 112 0) := (hm.2.2.2.2.2.2.2.2.1).2.1
  have L112 : gL g (a 112 0) = gL h (a 112 0) := (hm.2.2.2.2.2.2.2.2.1).2.2.1
  have I112 : ∀ x, gI g (a 112 0) x = gI h (a 112 0) x := fun x => (hm.2.2.2.2.2.2.2.2.1).2.2.2.1 x
  have R112 : ∀ x, gR g (a 112 0) x = gR h (a 112 0) x := fun x => (hm.2.2.2.2.2.2.2.2.1).2.2.2.2.1 x
  have b113 : b 113 0 = a 113 0 := (hm.2.2.2.2.2.2.2.2.2.1).1
  have K113 : gK g (a 113 0) = gK h (a 113 0) := (hm.2.2.2.2.2.2.2.2.2.1).2.1
  have L113 : gL g (a 113 0) = gL h (a 113 0) := (hm.2.2.2.2.2.2.2.2.2.1).2.2.1
  have I113 : ∀ x, gI g (a 113 0) x = gI h (a 113 0) x := fun x => (hm.2.2.2.2.2.2.2.2.2.1).2.2.2.1 x
  have R113 : ∀ x, gR g (a 113 0) x = gR h (a 113 0) x := fun x => (hm.2.2.2.2.2.2.2.2.2.1).2.2.2.2.1 x
  have b114 : b 114 0 = a 114 0 := (hm.2.2.2.2.2.2.2.2.2.2.1).1
  have K114 : gK g (a 114 0) = gK h (a 114 0) := (hm.2.2.2.2.2.2.2.2.2.2.1).2.1
  have L114 : gL g (a 114 0) = gL h (a 114 0) := (hm.2.2.2.2.2.2.2.2.2.2.1).2.2.1
  have I114 : ∀ x, gI g (a 114 0) x = gI h (a 114 0) x := fun x => (hm.2.2.2.2.2.2.2.2.2.2.1).2.2.2.1 x
  have R114 : ∀ x, gR g (a 114 0) x = gR h (a 114 0) x := fun x => (hm.2.2.2.2.2.2.2.2.2.2.1).2.2.2.2.1 x
  have b115 : b 115 0 = a 115 0 := (hm.2.2.2.2.2.2.2.2.2.2.2.1).1
  have K115 : gK g (a 115 0) = gK h (a 115 0) := (hm.2.2.2.2.2.2.2.2.2.2.2.1).2.1
  have L115 : gL g (a 115 0) = gL h (a 115 0) := (hm.2.2.2.2.2.2.2.2.2.2.2.1).2.2.1
  have I115 : ∀ x, gI g (a 115 0) x = gI h (a 115 0) x := fun x => (hm.2.2.2.2.2.2.2.2.2.2.2.1).2.2.2.1 x
  have R115 : ∀ x, gR g (a 115 0) x = gR h (a 115 0) x := fun x => (hm.2.2.2.2.2.2.2.2.2.2.2.1).2.2.2.2.1 x
  have b116 : b 116 0 = a 116 0 := (hm.2.2.2.2.2.2.2.2.2.2.2.2.1).1
  have K116 : gK g (a 116 0) = gK h (a 116 0) := (hm.2.2.2.2.2.2.2.2.2.2.2.2.1).2.1
  have L116 : gL g (a 116 0) = gL h (a 116 0) := (hm.2.2.2.2.2.2.2.2.2.2.2.2.1).2.2.1
  have I116 : ∀ x, gI g (a 116 0) x = gI h (a 116 0) x := fun x => (hm.2.2.2.2.2.2.2.2.2.2.2.2.1).2.2.2.1 x
  have R116 : ∀ x, gR g (a 116 0) x = gR h (a 116 0) x := fun x => (hm.2.2.2.2.2.2.2.2.2.2.2.2.1).2.2.2.2.1 x
  have b117 : b 117 0 = a 117 0 := (hm.2.2.2.2.2.2.2.2.2.2.2.2.2.1).1
  have K117 : gK g (a 117 0) = gK h (a 117 0) := (hm.2.2.2.2.2.2.2.2.2.2.2.2.2.1).2.1
  have L117 : gL g (a 117 0) = gL h (a 117 0) := (hm.2.2.2.2.2.2.2.2.2.2.2.2.2.1).2.2.1
  have I117 : ∀ x, gI g (a 117 0) x = gI h (a 117 0) x := fun x => (hm.2.2.2.2.2.2.2.2.2.2.2.2.2.1).2.2.2.1 x
  have R117 : ∀ x, gR g (a 117 0) x = gR h (a 117 0) x := fun x => (hm.2.2.2.2.2.2.2.2.2.2.2.2.2.1).2.2.2.2.1 x
  have b118 : b 118 0 = a 118 0 := (hm.2.2.2.2.2.2.2.2.2.2.2.2.2.2.1).1
  have K118 : gK g (a 118 0) = gK h (a 118 0) := (hm.2.2.2.2.2.2.2.2.2.2.2.2.2.2.1).2.1
  have L118 : gL g (a 118 0) = gL h (a 118 0) := (hm.2.2.2.2.2.2.2.2.2.2.2.2.2.2.1).2.2.1
  have I118 : ∀ x, gI g (a 118 0) x = gI h (a 118 0) x := fun x => (hm.2.2.2.2.2.2.2.2.2.2.2.2.2.2.1).2.2.2.1 x
  have R118 : ∀ x, gR g (a 118 0) x = gR h (a 118 0) x := fun x => (hm.2.2.2.2.2.2.2.2.2.2.2.2.2.2.1).2.2.2.2.1 x
  have b119 : b 119 0 = a 119 0 := (hm.2.2.2.2.2.2.2.2.2.2.2.2.2.2.2.1).1
  have K119 : gK g (a 119 0) = gK h (a 119 0) := (hm.2.2.2.2.2.2.2.2.2.2.2.2.2.2.2.1).2.1
  have L119 : gL g (a 119 0) = gL h (a 119 0) := (hm.2.2.2.2.2.2.2.2.2.2.2.2.2.2.2.1).2.2.1
  have I119 : ∀ x, gI g (a 119 0) x = gI h (a 119 0) x := fun x => (hm.2.2.2.2.2.2.2.2.2.2.2.2.2.2.2.1).2.2.2.1 x
  have R119 : ∀ x, gR g (a 119 0) x = gR h (a 119 0) x := fun x => (hm.2.2.2.2.2.2.2.2.2.2.2.2.2.2.2.1).2.2.2.2.1 x
  have b120 : b 120 0 = a 120 0 := (hm.2.2.2.2.2.2.2.2.2.2.2.2.2.2.2.2.1).1
  have K120 : gK g (a 120 0) = gK h (a 120 0) := (hm.2.2.2.2.2.2.2.2.2.2.2.2.2.2.2.2.1).2.1
  have L120 : gL g (a 120 0) = gL h (a 120 0) := (hm.2.2.2.2.2.2.2.2.2.2.2.2.2.2.2.2.1).2.2.1
  have I120 : ∀ x, gI g (a 120 0) x = gI h (a 120 0) x := fun x => (hm.2.2.2.2.2.2.2.2.2.2.2.2.2.2.2.2.1).2.2.2.1 x
  have R120 : ∀ x, gR g (a 120 0) x = gR h (a 120 0) x := fun x => (hm.2.2.2.2.2.2.2.2.2.2.2.2.2.2.2.2.1).2.2.2.2.1 x
  have b122 : b 122 0 = a 122 0 := (hm.2.2.2.2.2.2.2.2.2.2.2.2.2.2.2.2.2.1).1
  have K122 : gK g (a 122 0) = gK h (a 122 0) := (hm.2.2.2.2.2.2.2.2.2.2.2.2.2.2.2.2.2.1).2.1
  have L122 : gL g (a 122 0) = gL h (a 122 0) := (hm.2.2.2.2.2.2.2.2.2.2.2.2.2.2.2.2.2.1).2.2.1
  have I122 : ∀ x, gI g (a 122 0) x = gI h (a 122 0) x := fun x => (hm.2.2.2.2.2.2.2.2.2.2.2.2.2.2.2.2.2.1).2.2.2.1 x
  have R122 : ∀ x, gR g (a 122 0) x = gR h (a 122 0) x := fun x => (hm.2.2.2.2.2.2.2.2.2.2.2.2.2.2.2.2.2.1).2.2.2.2.1 x
  have b150 : ∀ v, 0 ≤ v → v ≤ S 2 0 0 → b 150 v = a 150 v := fun v h0 h1 => (hm.2.2.2.2.2.2.2.2.2.2.2.2.2.2.2.2.2.2.1 v h0 h1).1
  have K150 : ∀ v, 0 ≤ v → v ≤ S 2 0 0 → gK g (a 150 v) = gK h (a 150 v) := fun v h0 h1 => (hm.2.2.2.2.2.2.2.2.2.2.2.2.2.2.2.2.2.2.1 v h0 h1).2.1
  have L150 : ∀ v, 0 ≤ v → v ≤ S 2 0 0 → gL g (a 150 v) = gL h (a 150 v) := fun v h0 h1 => (hm.2.2.2.2.2.2.2.2.2.2.2.2.2.2.2.2.2.2.1 v h0 h1).2.2.1
  have I150 : ∀ v x, 0 ≤ v → v ≤ S 2 0 0 → gI g (a 150 v) x = gI h (a 150 v) x := fun v x h0 h1 => (hm.2.2.2.2.2.2.2.2.2.2.2.2.2.2.2.2.2.2.1 v h0 h1).2.2.2.1 x
  have R150 : ∀ v x, 0 ≤ v → v ≤ S 2 0 0 → gR g (a 150 v) x = gR h (a 150 v) x := fun v x h0 h1 => (hm.2.2.2.2.2.2.2.2.2.2.2.2.2.2.2.2.2.2.1 v h0 h1).2.2.2.2.1 x
  have b151 : ∀ k, hd S k → b 151 k = a 151 k := fun k h0 => (hm.2.2.2.2.2.2.2.2.2.2.2.2.2.2.2.2.2.2.2 k h0).1
  have K151 : ∀ k, hd S k → gK g (a 151 k) = gK h (a 151 k) := fun k h0 => (hm.2.2.2.2.2.2.2.2.2.2.2.2.2.2.2.2.2.2.2 k h0).2.1
  have L151 : ∀ k, hd S k → gL g (a 151 k) = gL h (a 151 k) := fun k h0 => (hm.2.2.2.2.2.2.2.2.2.2.2.2.2.2.2.2.2.2.2 k h0).2.2.1
  have I151 : ∀ k x, hd S k → gI g (a 151 k) x = gI h (a 151 k) x := fun k x h0 => (hm.2.2.2.2.2.2.2.2.2.2.2.2.2.2.2.2.2.2.2 k h0).2.2.2.1 x
  have R151 : ∀ k x, hd S k → gR g (a 151 k) x = gR h (a 151 k) x := fun k x h0 => (hm.2.2.2.2.2.2.2.2.2.2.2.2.2.2.2.2.2.2.2 k h0).2.2.2.2.1 x
  exact ⟨(by simp (disch := first | assumption | omega) only [b100, K100, L100, I100, R100]; exact hr.c0),
    (by simp (disch := first | assumption | omega) only [b100, K100, L100, I100, R100]; exact hr.c1),
    (by simp (disch := first | assumption | omega) only [b100, K100, L100, I100, R100]; exact hr.c2),
    (by simp (disch := first | assumption | omega) only [b100, K100, L100, I100, R100]; exact hr.c3),
    (by simp (disch := first | assumption | omega) only [b100, K100, L100, I100, R100]; exact hr.c4),
    (by simp (disch := first | assumption | omega) only [b100, K100, L100, I100, R100, b102, K102, L102, I102, R102]; exact hr.c5),
    (by simp (disch := first | assumption | omega) only [b100, K100, L100, I100, R100, b104, K104, L104, I104, R104]; exact hr.c6),
    (by simp (disch := first | assumption | omega) only [b100, K100, L100, I100, R100, b105, K105, L105, I105, R105]; exact hr.c7),
    (by simp (disch := first | assumption | omega) only [b100, K100, L100, I100, R100, b108, K108, L108, I108, R108]; exact hr.c8),
    (by simp (disch := first | assumption | omega) only [b100, K100, L100, I100, R100, b109, K109, L109, I109, R109]; exact hr.c9),
    (by simp (disch := first | assumption | omega) only [b100, K100, L100, I100, R100, b110, K110, L110, I110, R110]; exact hr.c10),
    (by simp (disch := first | assumption | omega) only [b100, K100, L100, I100, R100, b111, K111, L111, I111, R111]; exact hr.c11),
    (by simp (disch := first | assumption | omega) only [b100, K100, L100, I100, R100, b112, K112, L112, I112, R112]; exact hr.c12),
    (by simp (disch := first | assumption | omega) only [b100, K100, L100, I100, R100, b113, K113, L113, I113, R113]; exact hr.c13),
    (by simp (disch := first | assumption | omega) only [b100, K100, L100, I100, R100, b114, K114, L114, I114, R114]; exact hr.c14),
    (by simp (disch := first | assumption | omega) only [b100, K100, L100, I100, R100, b115, K115, L115, I115, R115]; exact hr.c15),
    (by simp (disch := first | assumption | omega) only [b100, K100, L100, I100, R100, b116, K116, L116, I116, R116]; exact hr.c16),
    (by simp (disch := first | assumption | omega) only [b100, K100, L100, I100, R100, b117, K117, L117, I117, R117]; exact hr.c17),
    (by simp (disch := first | assumption | omega) only [b100, K100, L100, I100, R100, b118, K118, L118, I118, R118]; exact hr.c18),
    (by simp (disch := first | assumption | omega) only [b100, K100, L100, I100, R100, b119, K119, L119, I119, R119]; exact hr.c19),
    (by simp (disch := first | assumption | omega) only [b100, K100, L100, I100, R100, b120, K120, L120, I120, R120]; exact hr.c20),
    (by simp (disch := first | assumption | omega) only [b100, K100, L100, I100, R100, b122, K122, L122, I122, R122]; exact hr.c21),
    (by simp (disch := first | assumption | omega) only [b102, K102, L102, I102, R102]; exact hr.c22),
    (by simp (disch := first | assumption | omega) only [b102, K102, L102, I102, R102]; exact hr.c23),
    fun u  => (by simp (disch := first | assumption | omega) only [b102, K102, L102, I102, R102]; exact hr.c24 u ),
    (by simp (disch := first | assumption | omega) only [b104, K104, L104, I104, R104]; exact hr.c25),
    (by simp (disch := first | assumption | omega) only [b104, K104, L104, I104, R104]; exact hr.c26),
    fun n h0 h1 => (by simp (disch := first | assumption | omega) only [b104, K104, L104, I104, R104]; exact hr.c27 n h0 h1),
    (by simp (disch := first | assumption | omega) only [b105, K105, L105, I105, R105]; exact hr.c28),
    (by simp (disch := first | assumption | omega) only [b105, K105, L105, I105, R105]; exact hr.c29),
    fun v h0 h1 => (by simp (disch := first | assumption | omega) only [b105, K105, L105, I105, R105, b150, K150, L150, I150, R150]; exact hr.c30 v h0 h1),
    fun v h0 h1 => (by simp (disch := first | assumption | omega) only [b150, K150, L150, I150, R150]; exact hr.c31 v h0 h1),
    fun v h0 h1 => (by simp (disch := first | assumption | omega) only [b150, K150, L150, I150, R150]; exact hr.c32 v h0 h1),
    fun v p h0 h1 h2 h3 => (by simp (disch := first | assumption | omega) only [b150, K150, L150, I150, R150]; exact hr.c33 v p h0 h1 h2 h3),
    (by simp (disch := first | assumption | omega) only [b108, K108, L108, I108, R108]; exact hr.c34),
    (by simp (disch := first | assumption | omega) only [b108, K108, L108, I108, R108]; exact hr.c35),
    fun k  => (by simp (disch := first | assumption | omega) only [b108, K108, L108, I108, R108]; exact hr.c36 k ),
    (by simp (disch := first | assumption | omega) only [b109, K109, L109, I109, R109]; exact hr.c37),
    (by simp (disch := first | assumption | omega) only [b109, K109, L109, I109, R109]; exact hr.c38),
    fun k  => (by simp (disch := first | assumption | omega) only [b109, K109, L109, I109, R109]; exact hr.c39 k ),
    (by simp (disch := first | assumption | omega) only [b110, K110, L110, I110, R110]; exact hr.c40),
    (by simp (disch := first | assumption | omega) only [b110, K110, L110, I110, R110]; exact hr.c41),
    fun k  => (by simp (disch := first | assumption | omega) only [b110, K110, L110, I110, R110]; exact hr.c42 k ),
    (by simp (disch := first | assumption | omega) only [b111, K111, L111, I111, R111]; exact hr.c43),
    (by simp (disch := first | assumption | omega) only [b111, K111, L111, I111, R111]; exact hr.c44),
    fun k  => (by simp (disch := first | assumption | omega) only [b111, K111, L111, I111, R111]; exact hr.c45 k ),
    (by simp (disch := first | assumption | omega) only [b112, K112, L112, I112, R112]; exact hr.c46),
    (by simp (disch := first | assumption | omega) only [b112, K112, L112, I112, R112]; exact hr.c47),
    fun k  => (by simp (disch := first | assumption | omega) only [b112, K112, L112, I112, R112]; exact hr.c48 k ),
    (by simp (disch := first | assumption | omega) only [b113, K113, L113, I113, R113]; exact hr.c49),
    (by simp (disch := first | assumption | omega) only [b113, K113, L113, I113, R113]; exact hr.c50),
    fun k  => (by simp (disch := first | assumption | omega) only [b113, K113, L113, I113, R113]; exact hr.c51 k ),
    (by simp (disch := first | assumption | omega) only [b114, K114, L114, I114, R114]; exact hr.c52),
    (by simp (disch := first | assumption | omega) only [b114, K114, L114, I114, R114]; exact hr.c53),
    fun k  => (by simp (disch := first | assumption | omega) only [b114, K114, L114, I114, R114]; exact hr.c54 k ),
    (by simp (disch := first | assumption | omega) only [b115, K115, L115, I115, R115]; exact hr.c55),
    (by simp (disch := first | assumption | omega) only [b115, K115, L115, I115, R115]; exact hr.c56),
    fun k  => (by simp (disch := first | assumption | omega) only [b115, K115, L115, I115, R115]; exact hr.c57 k ),
    (by simp (disch := first | assumption | omega) only [b116, K116, L116, I116, R116]; exact hr.c58),
    (by simp (disch := first | assumption | omega) only [b116, K116, L116, I116, R116]; exact hr.c59),
    fun k  => (by simp (disch := first | assumption | omega) only [b116, K116, L116, I116, R116]; exact hr.c60 k ),
    (by simp (disch := first | assumption | omega) only [b117, K117, L117, I117, R117]; exact hr.c61),
    (by simp (disch := first | assumption | omega) only [b117, K117, L117, I117, R117]; exact hr.c62),
    fun k  => (by simp (disch := first | assumption | omega) only [b117, K117, L117, I117, R117]; exact hr.c63 k ),
    (by simp (disch := first | assumption | omega) only [b118, K118, L118, I118, R118]; exact hr.c64),
    (by simp (disch := first | assumption | omega) only [b118, K118, L118, I118, R118]; exact hr.c65),
    fun k  => (by simp (disch := first | assumption | omega) only [b118, K118, L118, I118, R118]; exact hr.c66 k ),
    (by simp (disch := first | assumption | omega) only [b119, K119, L119, I119, R119]; exact hr.c67),
    (by simp (disch := first | assumption | omega) only [b119, K119, L119, I119, R119]; exact hr.c68),
    fun k h0 => (by simp (disch := first | assumption | omega) only [b119, K119, L119, I119, R119, b151, K151, L151, I151, R151]; exact hr.c69 k h0),
    fun k h0 => (by simp (disch := first | assumption | omega) only [b151, K151, L151, I151, R151]; exact hr.c70 k h0),
    fun k h0 => (by simp (disch := first | assumption | omega) only [b151, K151, L151, I151, R151]; exact hr.c71 k h0),
    fun k i h0 h1 h2 => (by simp (disch := first | assumption | omega) only [b151, K151, L151, I151, R151]; exact hr.c72 k i h0 h1 h2),
    (by simp (disch := first | assumption | omega) only [b120, K120, L120, I120, R120]; exact hr.c73),
    (by simp (disch := first | assumption | omega) only [b120, K120, L120, I120, R120]; exact hr.c74),
    fun p w h0 h1 h2 h3 => (by simp (disch := first | assumption | omega) only [b120, K120, L120, I120, R120]; exact hr.c75 p w h0 h1 h2 h3),
    (by simp (disch := first | assumption | omega) only [b122, K122, L122, I122, R122]; exact hr.c76),
    (by simp (disch := first | assumption | omega) only [b122, K122, L122, I122, R122]; exact hr.c77)⟩
