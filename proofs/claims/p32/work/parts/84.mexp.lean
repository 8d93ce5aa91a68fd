/-! export OF THE REFERENCE -/
section
variable {a : Na} {S : St} {h : Zh} {Q : Zp}
theorem nl16 (S : St) {f : Nat} (h : 160 ≤ f) : ¬ LvM S f 0 := fun z => by
  unfold LvM at z
  omega
end
