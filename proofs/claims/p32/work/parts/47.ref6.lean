/-! THE REFERENCE: lostBy, now -/
section
variable {a : Na} {S : St} {h : Zh} {Q : Zp}
end
