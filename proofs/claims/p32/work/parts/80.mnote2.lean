/-! note, reply OF THE REFERENCE: the calls -/
def Sn1 (S : St) (f t v : Int) : St := su (su (su (su S 13 (S 7 0 0) 0 f) 14 (S 7 0 0) 0 t) 15 (S 7 0 0) 0 v) 16 (S 7 0 0) 0 (-1)
section
variable {a : Na} {S : St} {h : Zh} {Q : Zp}
theorem nnt (S : St) : ¬ nt S (S 7 0 0) := fun z => by have := z.2; omega
end
