/-! what is owed of the functions alone -/
/-- the state of a new class -/
def S0c : GS := (fun _ _ => 0, fun _ _ => false, fun c k => match c, k with | 470, 5 => 430 | 477, 5 => 352 | 477, 6 => 352 | 477, 7 => 352 | 485, 4 => 392 | 485, 5 => 392 | 485, 6 => 392 | 487, 9 => 400 | 487, 10 => 400 | _, _ => 0)
/-- what is owed of the functions alone -/
def PureAll : Prop := ∀ (XL : Nat) (XS : Nat → Int), XL ≤ 260 → (∀ k, inr (XS k)) → ∃ (n1 n3 : Nat) (x1 : Int) (S1 S3 : GS), f_X11_init n1 2035 193 S0c [] = some (x1, S1) ∧ f_L_law XL XS n3 2036 15 S1 [1, 0, 0] = some (1, S3)
