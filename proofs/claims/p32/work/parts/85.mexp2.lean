/-! export OF THE REFERENCE: the orders -/
/-- what holds while rows are made: the heads at 160, the rows at 161 -/
def XI (S : St) (a : Na) (h : Zh) (N : Nat) (C : Int → Int) (b : Na) (g : Zh) (s : Int × (Int → Int → Int)) : Prop :=
  (Ij b ∧ RepM b S g ∧ FM a h b g) ∧ ((gC g : Int) ≤ gC h + 2 + s.1 ∧ (gS g : Int) ≤ gS h + 300 + 4 * s.1) ∧ (gK g (b 160 0) = 10 ∧ gL g (b 160 0) = 60 ∧ ∀ i : Int, 0 ≤ i → i < N → gI g (b 160 0) i = C i) ∧ gK g (b 161 0) = 10 ∧ gL g (b 161 0) = 240 ∧ ∀ p w, 0 ≤ p → p < s.1 → 0 ≤ w → w < 4 → gI g (b 161 0) (4 * p + w) = s.2 p w
section
variable {a : Na} {S : St} {h : Zh} {Q : Zp}
end
