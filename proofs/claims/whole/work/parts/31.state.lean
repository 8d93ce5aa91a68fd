/-! THE MATHEMATICAL STATE, and how the reference and the class hold it -/
abbrev St : Type := Nat → Int → Int → Int
def su (S : St) (k : Nat) (i j v : Int) : St := fun k2 i2 j2 => if k2 = k ∧ i2 = i ∧ j2 = j then v else S k2 i2 j2
theorem su_k {S : St} {k k2 : Nat} {i j v i2 j2 : Int} (h : k2 ≠ k) : su S k i j v k2 i2 j2 = S k2 i2 j2 := if_neg (fun z => h z.1)
theorem su_i {S : St} {k : Nat} {i j v i2 j2 : Int} : su S k i j v k i2 j2 = if i2 = i ∧ j2 = j then v else S k i2 j2 := by
  unfold su
  by_cases h : i2 = i ∧ j2 = j
  · rw [if_pos h, if_pos ⟨rfl, h⟩]
  · rw [if_neg h, if_neg (fun z => h z.2)]
/-- the same at an address -/
def sm (h g : Zh) (a : Nat) : Prop := gK g a = gK h a ∧ gL g a = gL h a ∧ (∀ i, gI g a i = gI h a i) ∧ (∀ i, gR g a i = gR h a i) ∧ ∀ i, gJ g a i = gJ h a i
theorem sm_rfl (h : Zh) (a : Nat) : sm h h a := ⟨rfl, rfl, fun _ => rfl, fun _ => rfl, fun _ => rfl⟩
theorem sm.trans {h g f : Zh} {a : Nat} (x : sm h g a) (y : sm g f a) : sm h f a := ⟨y.1.trans x.1, y.2.1.trans x.2.1, fun i => (y.2.2.1 i).trans (x.2.2.1 i), fun i => (y.2.2.2.1 i).trans (x.2.2.2.1 i), fun i => (y.2.2.2.2 i).trans (x.2.2.2.2 i)⟩
theorem sm_pI {h : Zh} {a b : Nat} {k x : Int} (n : b ≠ a) : sm h (pI h a k x) b := ⟨rfl, rfl, fun i => by rw [gI_pI, if_neg (fun z => n z.1)], fun _ => rfl, fun _ => rfl⟩
theorem sm_pR {h : Zh} {a b : Nat} {k : Int} {x : Option Nat} (n : b ≠ a) : sm h (pR h a k x) b := ⟨rfl, rfl, fun _ => rfl, fun i => by rw [gR_pR, if_neg (fun z => n z.1)], fun _ => rfl⟩
theorem sm_pJ {h : Zh} {a b : Nat} {k : Int} {x : Int64} (n : b ≠ a) : sm h (pJ h a k x) b := ⟨rfl, rfl, fun _ => rfl, fun _ => rfl, fun i => by rw [gJ_pJ, if_neg (fun z => n z.1)]⟩
theorem sm_cpy {h : Zh} {s d b : Nat} {sp dp n : Int} (nb : b ≠ d) : sm h (cpy h s sp d dp n) b := ⟨rfl, rfl, fun i => by rw [gI_cpy, if_neg (fun z => nb z.1)], fun _ => rfl, fun _ => rfl⟩
theorem sm_nw {h : Zh} {a b kd : Nat} {n : Int} (nb : b ≠ a) : sm h (nw h a kd n) b := ⟨by rw [gK_nw, if_neg nb], by rw [gL_nw, if_neg nb], fun i => by rw [gI_nw, if_neg nb], fun i => by rw [gR_nw, if_neg nb], fun i => by rw [gJ_nw, if_neg nb]⟩
theorem sm_tk (h : Zh) (a : Nat) : sm h (tk h) a := ⟨rfl, rfl, fun _ => rfl, fun _ => rfl, fun _ => rfl⟩
/-- what isn't owned stays -/
def Keep (O : Nat → Prop) (h g : Zh) : Prop := ∀ a, gK h a ≠ 0 → ¬ O a → sm h g a
theorem Keep_rfl (O : Nat → Prop) (h : Zh) : Keep O h h := fun a _ _ => sm_rfl h a
theorem Keep.trans {O : Nat → Prop} {h g f : Zh} (x : Keep O h g) (y : Keep O g f) : Keep O h f := fun a h1 h2 => (x a h1 h2).trans (y a (by rw [(x a h1 h2).1]; exact h1) h2)
theorem Keep_pI {O : Nat → Prop} {h : Zh} {a : Nat} {k x : Int} (n : O a) : Keep O h (pI h a k x) := fun _ _ hb => sm_pI (fun e => hb (e ▸ n))
theorem Keep_pR {O : Nat → Prop} {h : Zh} {a : Nat} {k : Int} {x : Option Nat} (n : O a) : Keep O h (pR h a k x) := fun _ _ hb => sm_pR (fun e => hb (e ▸ n))
theorem Keep_cpy {O : Nat → Prop} {h : Zh} {s d : Nat} {sp dp n : Int} (nb : O d) : Keep O h (cpy h s sp d dp n) := fun _ _ hb => sm_cpy (fun e => hb (e ▸ nb))
theorem Keep_nw {O : Nat → Prop} {h : Zh} {a kd : Nat} {n : Int} (ha : gK h a = 0) : Keep O h (nw h a kd n) := fun _ h0 _ => sm_nw (fun e => h0 (e ▸ ha))
theorem Keep_tk {O : Nat → Prop} {h : Zh} : Keep O h (tk h) := fun a _ _ => sm_tk h a
/-- the names: each of a place of its own -/
def Inj (V : Nat → Int → Prop) (a : Nat → Int → Nat) : Prop := ∀ f i g j, V f i → V g j → a f i = a g j → f = g ∧ i = j
theorem Inj.ne {V : Nat → Int → Prop} {a : Nat → Int → Nat} (hi : Inj V a) {f g : Nat} {i j : Int} (h1 : V f i) (h2 : V g j) (n : ¬ (f = g ∧ i = j)) : a f i ≠ a g j := fun e => n (hi f i g j h1 h2 e)
theorem Inj.eq {V : Nat → Int → Prop} {a : Nat → Int → Nat} (hi : Inj V a) {f g : Nat} {i j : Int} (h1 : V f i) (h2 : V g j) : (a f i = a g j) = (f = g ∧ i = j) := propext ⟨hi f i g j h1 h2, fun ⟨x, y⟩ => by rw [x, y]⟩
/-- the invariant: bounds, the tree of notes, what is gone -/
def InvU (S : St) : Prop := (0 ≤ S 0 0 0 ∧ S 0 0 0 ≤ 6) ∧ ∀ u, 0 ≤ u → u < S 0 0 0 → 0 ≤ S 1 u 0 ∧ S 1 u 0 ≤ 4
def InvT (S : St) : Prop := (0 ≤ S 2 0 0 ∧ S 2 0 0 ≤ 60) ∧ (∀ v, 0 ≤ v → v ≤ S 2 0 0 → 0 ≤ S 3 v 0 ∧ S 3 v 0 ≤ 200) ∧ (0 ≤ S 6 0 0 ∧ S 6 0 0 ≤ 40 * S 2 0 0) ∧
  (∀ v p, 0 ≤ v → v ≤ S 2 0 0 → 0 ≤ p → p < S 3 v 0 → 0 ≤ S 4 v p ∧ S 4 v p < S 6 0 0) ∧ ∀ n, 0 ≤ n → n < S 6 0 0 → 0 ≤ S 5 n 0 ∧ S 5 n 0 ≤ 25
def InvN (S : St) : Prop := (0 ≤ S 7 0 0 ∧ S 7 0 0 ≤ 60) ∧ (∀ k, 0 ≤ k → k < S 7 0 0 → (0 ≤ S 8 k 0 ∧ S 8 k 0 < S 0 0 0) ∧ (0 ≤ S 9 k 0 ∧ S 9 k 0 ≤ 999) ∧ ((S 10 k 0 = -1 ∧ S 11 k 0 = k) ∨ (0 ≤ S 10 k 0 ∧ S 10 k 0 < k ∧ S 11 k 0 = S 11 (S 10 k 0) 0)) ∧ (S 12 k 0 = 0 ∨ S 12 k 0 = 1 ∨ S 12 k 0 = 2)) ∧
  (∀ k, S 7 0 0 ≤ k → k < 60 → S 12 k 0 = 0 ∧ S 18 k 0 = 0) ∧
  (∀ k, 0 ≤ k → k < S 7 0 0 → S 11 k 0 = k → (0 ≤ S 13 k 0 ∧ S 13 k 0 ≤ S 14 k 0 ∧ S 14 k 0 ≤ S 3 (S 2 0 0) 0) ∧ (0 ≤ S 15 k 0 ∧ S 15 k 0 ≤ 2) ∧ (-1 ≤ S 16 k 0 ∧ S 16 k 0 ≤ 40) ∧ (0 ≤ S 17 k 0 ∧ S 17 k 0 ≤ 25) ∧ (S 18 k 0 = 0 ∨ S 18 k 0 = 1) ∧ (1 ≤ S 19 k 0 ∧ S 19 k 0 ≤ 12) ∧ ∀ i, 0 ≤ i → i < S 19 k 0 → 0 ≤ S 20 k i ∧ S 20 k i ≤ 25) ∧
  (∀ k j, 0 ≤ k → k < S 7 0 0 → 0 ≤ j → j < S 7 0 0 → S 10 j 0 = k → S 12 k 0 = 2 → S 12 j 0 = 2)
def InvE (S : St) : Prop := 0 ≤ S 21 0 0 ∧ S 21 0 0 ≤ 60
def Inv (S : St) : Prop := InvU S ∧ InvT S ∧ InvN S ∧ InvE S
/-- the reference's things: (0,0) itself, (f,0) the array in its field f, (50,v) the text v, (51,k) the quote k -/
def VM (S : St) (f : Nat) (i : Int) : Prop := (f < 24 ∧ i = 0) ∨ (f = 50 ∧ 0 ≤ i ∧ i ≤ S 2 0 0) ∨ (f = 51 ∧ 0 ≤ i ∧ i < S 7 0 0 ∧ S 11 i 0 = i)
def RepM (O : Nat → Prop) (a : Nat → Int → Nat) (S : St) (h : Zh) : Prop := Inj (VM S) a ∧ (∀ f i, VM S f i → O (a f i)) ∧
  (gK h (a 0 0) = 7 ∧ gI h (a 0 0) 1 = S 0 0 0 ∧ gI h (a 0 0) 3 = S 6 0 0 ∧ gI h (a 0 0) 6 = S 2 0 0 ∧ gI h (a 0 0) 7 = S 7 0 0) ∧
  (gR h (a 0 0) 2 = some (a 2 0) ∧ gR h (a 0 0) 4 = some (a 4 0) ∧ gR h (a 0 0) 5 = some (a 5 0) ∧ gR h (a 0 0) 8 = some (a 8 0) ∧ gR h (a 0 0) 9 = some (a 9 0) ∧ gR h (a 0 0) 10 = some (a 10 0) ∧ gR h (a 0 0) 11 = some (a 11 0) ∧ gR h (a 0 0) 12 = some (a 12 0) ∧ gR h (a 0 0) 13 = some (a 13 0) ∧ gR h (a 0 0) 14 = some (a 14 0) ∧ gR h (a 0 0) 15 = some (a 15 0) ∧ gR h (a 0 0) 16 = some (a 16 0) ∧ gR h (a 0 0) 17 = some (a 17 0) ∧ gR h (a 0 0) 18 = some (a 18 0) ∧ gR h (a 0 0) 19 = some (a 19 0) ∧ gR h (a 0 0) 20 = some (a 20 0) ∧ gR h (a 0 0) 22 = some (a 22 0)) ∧
  (gK h (a 2 0) = 10 ∧ gL h (a 2 0) = 6 ∧ ∀ u, 0 ≤ u → u < 6 → gI h (a 2 0) u = S 1 u 0) ∧
  (gK h (a 4 0) = 10 ∧ S 6 0 0 ≤ gL h (a 4 0) ∧ ∀ n, 0 ≤ n → n < S 6 0 0 → gI h (a 4 0) n = S 5 n 0) ∧
  (gK h (a 5 0) = 14 ∧ gL h (a 5 0) = 61 ∧ ∀ v, 0 ≤ v → v ≤ S 2 0 0 → gR h (a 5 0) v = some (a 50 v) ∧ gK h (a 50 v) = 10 ∧ gL h (a 50 v) = S 3 v 0 ∧ ∀ p, 0 ≤ p → p < S 3 v 0 → gI h (a 50 v) p = S 4 v p) ∧
  (∀ f : Nat, 8 ≤ f → f ≤ 18 → gK h (a f 0) = (if f = 18 then 12 else 10) ∧ gL h (a f 0) = 60 ∧ ∀ k, 0 ≤ k → k < 60 → gI h (a f 0) k = S f k 0) ∧
  (gK h (a 19 0) = 14 ∧ gL h (a 19 0) = 60 ∧ ∀ k, 0 ≤ k → k < S 7 0 0 → S 11 k 0 = k → gR h (a 19 0) k = some (a 51 k) ∧ gK h (a 51 k) = 10 ∧ gL h (a 51 k) = S 19 k 0 ∧ ∀ i, 0 ≤ i → i < S 19 k 0 → gI h (a 51 k) i = S 20 k i) ∧
  (gK h (a 20 0) = 10 ∧ gL h (a 20 0) = 4 * S 21 0 0 ∧ ∀ p w, 0 ≤ p → p < S 21 0 0 → 0 ≤ w → w < 4 → gI h (a 20 0) (4 * p + w) = S 22 p w) ∧
  (gK h (a 22 0) = 10 ∧ gL h (a 22 0) = 60)
