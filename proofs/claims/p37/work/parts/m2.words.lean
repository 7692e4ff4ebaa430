/-! WORDS and what they are written as -/
theorem une_nl : ∀ {r : List Int}, une r = [] → r = []
  | [], _ => rfl
  | [x], h => by
    have : [if x = 126 then (47 : Int) else x] = [] := h
    cases this
  | x :: y :: r, h => by
    have h' : (if x = 126 then (if y = 48 then (126 : Int) else 47) :: une r else x :: une (y :: r)) = [] := h
    split at h' <;> cases h'
/-- as far as the first = -/
def t6 : List Int → Nat
  | [] => 0
  | x :: r => if x = 61 then 0 else t6 r + 1