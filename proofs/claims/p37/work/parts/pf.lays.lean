/-! THE REFERENCE's lay: all ORDERS -/
def laF (U : List ND) : List Nat → Nat → List ND → Nat ⊕ List ND
  | [], _, V => .inr V
  | c :: K, n, V => match loS U c V with
    | none => .inl n
    | some T => laF U K (n + 1) T
theorem laF_c {U : List ND} {c : Nat} {K : List Nat} {n : Nat} {V : List ND} : laF U (c :: K) n V = match loS U c V with
    | none => .inl n
    | some T => laF U K (n + 1) T := rfl
theorem lyF_la {U : List ND} {bk : Option (List (List ND))} : ∀ (K : List Nat) (n : Nat) (V : List ND), lyF U false K n V bk = match laF U K n V with
    | .inl m => .inl m
    | .inr T => .inr (T, bk)
  | [], n, V => rfl
  | c :: K, n, V => by
    rw [lyF_c, laF_c]
    unfold loS
    cases lyS U c V with
    | none => rfl
    | some T =>
      dsimp only
      by_cases cp : pOK T
      · rw [if_pos cp, if_pos cp, if_neg (by decide)]
        exact lyF_la K (n + 1) T
      · rw [if_neg cp, if_neg cp]
