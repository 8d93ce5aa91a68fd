/-! take OF THE REFERENCE -/
section
variable {a : Na} {S : St} {h : Zh} {Q : Zp}
end
