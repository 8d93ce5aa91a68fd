/-! the word that an array of arrays can be made, as the printed row va_mna names it (claim/NAMES.whole.lean.txt uses it and doesn't define it) -/
def va_AOA (t : FieldType) (U : State) : Prop := (Cond.arrayOver (.array t)).before #[] U = true
theorem va_AOA.of {t : FieldType} {B : Array Value} {U : State} (h : (Cond.arrayOver (.array t)).before B U = true) : va_AOA t U := h
theorem va_AOA.use {t : FieldType} {B : Array Value} {U : State} (h : va_AOA t U) : (Cond.arrayOver (.array t)).before B U = true := h
