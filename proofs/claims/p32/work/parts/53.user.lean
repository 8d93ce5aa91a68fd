/-! user -/
def Suser (S : St) (x : Int) : St := su (su S 1 (S 0 0 0) 0 x) 0 0 0 (S 0 0 0 + 1)
