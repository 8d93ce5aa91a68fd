/-! THE REFERENCE: the checksum -/
section
variable {a : Na} {S : St} {h : Zh} {Q : Zp}
end
