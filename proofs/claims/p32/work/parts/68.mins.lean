/-! put, cut, insert, delete OF THE REFERENCE -/
section
variable {a : Na} {S T : St} {h : Zh} {Q : Zp}
/-- a new thing of the reference, by its name -/
theorem newM (hi : Ij a) (hm : RepM a S h) (hv : 0 ≤ S 2 0 0 ∧ S 2 0 0 ≤ 60) (f : Nat) (i n : Int) (kd : Nat) (f1 : 101 ≤ f) (f2 : f < 200) (nl : ¬ LvM S f i) {G : Nat → Zh → Prop}
    (k : ∀ b g, Ij b → RepM b S g → FM a h b g → gC g = gC h + 1 → gS g = gS h + n.toNat → gK g (b f i) = kd → gL g (b f i) = n → (∀ f2 i2, gK h (a f2 i2) ≠ 0 → ¬ (f2 = f ∧ i2 = i) → b f2 i2 = a f2 i2 ∧ sm h g (a f2 i2)) → G (b f i) g) :
    ∀ q, gK h q = 0 → G q (nw h q kd n) := by
  intro q hq
  have e : nm a f i q f i = q := nm_self a f i q
  have := k (nm a f i q) (nw h q kd n) (Ij_nm hi f i q) (hm.new hv hq nl) (FM.nw hi f1 f2 hq hm.A.1) (gC_nw ..) (gS_nw ..) (by rw [e, gK_nw, if_pos rfl]) (by rw [e, gL_nw, if_pos rfl]) (fun f2 i2 k2 n2 => ⟨nm_live hq k2 n2, sm_nw (fun z => k2 (by rw [z]; exact hq))⟩)
  rw [e] at this
  exact this
theorem EM.of {b : Na} {g : Zh} (f : FM (a := a) h b g) (c : gC g ≤ gC h + 80) (s : gS g ≤ gS h + 5600) : EM a h b g := ⟨f.1, f.2.1, c, s, f.2.2.2⟩
theorem tw_FM (hi : Ij a) {b : Na} {g : Zh} {x : Int} (f : FM a (tw a h x) b g) (c : gC g ≤ gC h + 80) (s : gS g ≤ gS h + 5600) : EM a h b g ∧ gI g (b 100 0) 0 = x := ⟨⟨f.1, (Fr_tw hi (by omega)).trans f.2.1, c, s, f.2.2.2⟩, f.2.2.1.trans (tw_0 a h x)⟩
end
