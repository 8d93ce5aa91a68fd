/-! EDITS OF THE REFERENCE -/
/-- on its way: b's names, thrown as it was -/
def FM (a : Na) (h : Zh) (b : Na) (g : Zh) : Prop := Ij b ∧ Fr (fun f => f < 100 ∨ 200 ≤ f) a h b g ∧ gI g (b 100 0) 0 = gI h (a 100 0) 0 ∧ b 100 0 = a 100 0
theorem FM.trans {a b c : Na} {h g k : Zh} (x : FM a h b g) (y : FM b g c k) : FM a h c k := ⟨y.1, x.2.1.trans y.2.1, y.2.2.1.trans x.2.2.1, y.2.2.2.trans x.2.2.2⟩
section
variable {a : Na} {S T : St} {h : Zh} {Q : Zp}
theorem FM.rfl' (hi : Ij a) : FM a h a h := ⟨hi, Fr_rfl, rfl, rfl⟩
theorem FM.I (hi : Ij a) {f : Nat} {i k x : Int} (h1 : 100 ≤ f) (h2 : f < 200) (h3 : ¬ (f = 100 ∧ k = 0)) : FM a h a (pI h (a f i) k x) := ⟨hi, Fr_pI hi (by omega), by
  rw [gI_pI, if_neg (fun z => by rw [hi] at z; omega)], rfl⟩
theorem FM.R (hi : Ij a) {f : Nat} {i k : Int} {x : Option Nat} (h1 : 100 ≤ f) (h2 : f < 200) : FM a h a (pR h (a f i) k x) := ⟨hi, Fr_pR hi (by omega), rfl, rfl⟩
theorem FM.C (hi : Ij a) {f s : Nat} {i sp dp n : Int} (h1 : 101 ≤ f) (h2 : f < 200) : FM a h a (cpy h s sp (a f i) dp n) := ⟨hi, Fr_cpy hi (by omega), by
  rw [gI_cpy, if_neg (fun z => by rw [hi] at z; omega)], rfl⟩
theorem FM.nw (hi : Ij a) {f q kd : Nat} {i n : Int} (h1 : 101 ≤ f) (h2 : f < 200) (hq : gK h q = 0) (k : gK h (a 100 0) = 7) : FM a h (nm a f i q) (nw h q kd n) := by
  have e : nm a f i q 100 0 = a 100 0 := nm_live hq (by omega) (by omega)
  refine ⟨Ij_nm hi f i q, Fr_nw hq (by omega), ?_, e⟩
  rw [e, gI_nw, if_neg (fun z => by rw [z] at k; omega)]
theorem ct_m (f p n : Int) (hn : 0 ≤ n) : f - (if 0 < (if f - p < n then f - p else n) then (if f - p < n then f - p else n) else 0) = ct f p n := by
  unfold ct
  by_cases q : f - p < n
  · rw [if_pos q]
    split <;> split <;> (try split) <;> omega
  · rw [if_neg q]
    split <;> split <;> (try split) <;> omega
theorem LvM_new {S : St} {v : Int} (n : S 2 0 0 < v) : ¬ LvM S 150 v := fun z => by
  rcases z with z | z | z
  · omega
  · omega
  · omega
end
