/-! SMALL CHANGES: user, setRight, settle, propose of the reference -/
section
variable {a : Na} {S : St} {h : Zh} {Q : Zp}
theorem tw_e (a : Na) (h : Zh) (x : Int) : pI h (a 100 0) 0 x = tw a h x := rfl
end
