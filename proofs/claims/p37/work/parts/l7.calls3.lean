/-! THE REFERENCE's calls: tell, write, sum -/
abbrev tlO (V : List ND) (i : Nat) (w : Int) : Prop := w = 3 ∨ (w = 0 ∧ nk V i = 3) ∨ (w = 1 ∧ nk V i = 2) ∨ (w = 2 ∧ 1 ≤ i ∧ nk V (owI V i).toNat = 5)
def tlT (V : List ND) (i : Nat) (w : Int) : List Int := if w = 3 then pth V i else if w = 2 then nq V i else nt V i
def szs : List (List ND) → Nat
  | [] => 0
  | V :: D => V.length + szs D
