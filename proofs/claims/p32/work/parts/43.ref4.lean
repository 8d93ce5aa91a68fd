/-! THE REFERENCE: counts by kind, and the asking methods -/
section
variable {a : Na} {S : St} {h : Zh} {Q : Zp}
end
