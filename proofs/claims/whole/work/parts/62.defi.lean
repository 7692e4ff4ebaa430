def b_X11_init_193 (n d : Nat) (rec : Nat → Nat → GS → List Int → Option (Int × GS)) (S : GS) : Option (Int × GS) :=
  gg (1 ≤ d) <|
  gc (f_X8_standardTo n (d - 1) 0 S [((428 : Nat) : Int)]) fun x2 S_3 =>
  gc (f_X6_parse n (d - 1) 0 S_3 [((428 : Nat) : Int), 0]) fun x5 S_6 =>
  gc (f_X6_result n (d - 1) 0 S_6 []) fun x8 S_9 =>
  gc (f_X10_copyOf n (d - 1) 0 S_9 [((328 : Nat) : Int), ((x8.toNat : Nat) : Int), 0]) fun x11 S_12 =>
  some (0, S_12)
def f_X11_init : Nat → Nat → Nat → GS → List Int → Option (Int × GS)
  | 0, _, _, _, _ => none
  | n + 1, d, pc, S, x => match pc, x with
    | 193, [] => b_X11_init_193 n d (f_X11_init n) S 
    | _, _ => none
theorem e_X11_init_193 {n d : Nat} {S : GS} : f_X11_init (n + 1) d 193 S [] = b_X11_init_193 n d (f_X11_init n) S  := rfl

def b_X12_init_1201 (n d : Nat) (rec : Nat → Nat → GS → List Int → Option (Int × GS)) (S : GS) : Option (Int × GS) :=
  gv (gI S 500 15 0) fun S_1 =>
  rec d 1208 S_1 [0]
def b_X12_init_1208 (n d : Nat) (rec : Nat → Nat → GS → List Int → Option (Int × GS)) (S : GS) (a1 : Int) : Option (Int × GS) :=
  gg (inr a1) <|
  if 81 ≤ a1 then (
    gg (1 ≤ d) <|
    gc (f_X12_reads n (d - 1) 0 S [0]) fun x4 S_5 =>
    gc (f_X12_becomes n (d - 1) 0 S_5 [45, 40]) fun x7 S_8 =>
    some (0, S_8)
  ) else (
    rec d 1217 S [a1, 7]
  )
def b_X12_init_1217 (n d : Nat) (rec : Nat → Nat → GS → List Int → Option (Int × GS)) (S : GS) (a1 : Int) (a2 : Int) : Option (Int × GS) :=
  gg (inr a2) <|
  if a2 < 0 then (
    gv (a1 + 1) fun x3 =>
    rec d 1208 S [x3]
  ) else (
    gv (S.1 500 15) fun x5 =>
    gg (0 ≤ a1 ∧ a1 < ((81 : Nat) : Int) ∧ a1 < 2147483648) <|
    gv ((gl_standard.getD (a1 : Int).toNat 0).toInt) fun x8 =>
    gv (8 * a2) fun x10 =>
    gg (0 ≤ x10 ∧ x10 < 64) <|
    gg (inl x8) <|
    gv (x8 / ((2 ^ (x10 : Int).toNat : Nat) : Int)) fun x14 =>
    gv (x14 % 256) fun x16 =>
    gg (0 ≤ x5 ∧ x5 < ((1000 : Nat) : Int) ∧ x5 < 2147483648) <|
    gv (gI S 508 (x5 : Int).toNat x16) fun S_19 =>
    gv (S_19.1 500 15) fun x21 =>
    gv (x21 + 1) fun x23 =>
    gv (gI S_19 500 15 x23) fun S_25 =>
    gv (a2 + (-1)) fun x27 =>
    rec d 1217 S_25 [a1, x27]
  )
def f_X12_init : Nat → Nat → Nat → GS → List Int → Option (Int × GS)
  | 0, _, _, _, _ => none
  | n + 1, d, pc, S, x => match pc, x with
    | 1201, [] => b_X12_init_1201 n d (f_X12_init n) S 
    | 1208, [a1] => b_X12_init_1208 n d (f_X12_init n) S a1
    | 1217, [a1, a2] => b_X12_init_1217 n d (f_X12_init n) S a1 a2
    | _, _ => none
theorem e_X12_init_1201 {n d : Nat} {S : GS} : f_X12_init (n + 1) d 1201 S [] = b_X12_init_1201 n d (f_X12_init n) S  := rfl
theorem e_X12_init_1208 {n d : Nat} {S : GS} {a1 : Int} : f_X12_init (n + 1) d 1208 S [a1] = b_X12_init_1208 n d (f_X12_init n) S a1 := rfl
theorem e_X12_init_1217 {n d : Nat} {S : GS} {a1 : Int} {a2 : Int} : f_X12_init (n + 1) d 1217 S [a1, a2] = b_X12_init_1217 n d (f_X12_init n) S a1 a2 := rfl

