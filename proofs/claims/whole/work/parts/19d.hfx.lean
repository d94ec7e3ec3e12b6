theorem hfX {a a' : va_W} {k : Nat → Nat} {g : Nat → Nat → Nat} {R R' : Nat → Nat → Nat → Int32} (h : a'.map Prod.fst = a.map Prod.fst) : (a' ++ rgX k g R').map Prod.fst = (a ++ rgX k g R).map Prod.fst := by
  rw [List.map_append, List.map_append, h, rgX_fst k g R R']
