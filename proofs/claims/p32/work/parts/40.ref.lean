/-! THE REFERENCE, asking -/
section
variable {a : Na} {S : St} {h : Zh} {Q : Zp}
end
