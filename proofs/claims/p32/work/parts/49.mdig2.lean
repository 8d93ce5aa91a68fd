/-! THE REFERENCE: the checksum, notes, users, text -/
section
variable {a : Na} {S : St} {h : Zh} {Q : Zp}
end
