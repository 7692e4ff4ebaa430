/-! THE REFERENCE joins: one place -/
/-- which of the cases it is -/
def jCs (O A B : List ND) (o a b : Int) : Nat := if alk A a B b ∨ alk B b O o then 0 else if alk A a O o then 1 else if kdI A a = 5 ∧ kdI B b = 5 ∧ (o = -1 ∨ kdI O o = 5) then 2 else 3
