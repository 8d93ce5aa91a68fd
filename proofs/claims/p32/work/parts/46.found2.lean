/-! THE REFERENCE: where a quote stands, the outer loop -/
section
variable {a : Na} {S : St} {h : Zh} {Q : Zp}
end
