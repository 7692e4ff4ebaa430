def b_X11_init_193 (n d : Nat) (rec : Nat → Nat → GS → List Int → Option (Int × GS)) (S : GS) : Option (Int × GS) :=
  gg (1 ≤ d) <|
  gc (f_X8_standardTo n (d - 1) 0 S [((428 : Nat) : Int)]) fun x2 S_3 =>
  gc (f_X6_parse n (d - 1) 0 S_3 [((428 : Nat) : Int), 0]) fun x5 S_6 =>
  gc (f_X6_result n (d - 1) 0 S_6 []) fun x8 S_9 =>
  gc (f_X10_copyOf n (d - 1) 0 S_9 [((328 : Nat) : Int), ((x8.toNat : Nat) : Int), 0]) fun x11 S_12 =>
  some (0, S_12)
def f_X11_init : Nat → Nat → Nat → GS → List Int → Option (Int × GS)
  | 0, _, _, _, _ => none
  | n + 1, d, pc, S, x => match pc, x with
    | 193, [] => b_X11_init_193 n d (f_X11_init n) S 
    | _, _ => none
theorem e_X11_init_193 {n d : Nat} {S : GS} : f_X11_init (n + 1) d 193 S [] = b_X11_init_193 n d (f_X11_init n) S  := rfl

