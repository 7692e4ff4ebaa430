def b_X12_at_0 (n d : Nat) (rec : Nat → Nat → GS → List Int → Option (Int × GS)) (S : GS) (a0 : Int) (a1 : Int) : Option (Int × GS) :=
  gv (101 * a0) fun x1 =>
  gv (x1 + a1) fun x3 =>
  gv (x3 * 61) fun x5 =>
  some (x5, S)
def f_X12_at : Nat → Nat → Nat → GS → List Int → Option (Int × GS)
  | 0, _, _, _, _ => none
  | n + 1, d, pc, S, x => match pc, x with
    | 0, [a0, a1] => b_X12_at_0 n d (f_X12_at n) S a0 a1
    | _, _ => none
theorem e_X12_at_0 {n d : Nat} {S : GS} {a0 : Int} {a1 : Int} : f_X12_at (n + 1) d 0 S [a0, a1] = b_X12_at_0 n d (f_X12_at n) S a0 a1 := rfl

def b_X12_added_0 (n d : Nat) (rec : Nat → Nat → GS → List Int → Option (Int × GS)) (S : GS) (a1 : Int) (a2 : Int) : Option (Int × GS) :=
  gg (0 ≤ a1 ∧ a1 < ((48 : Nat) : Int) ∧ a1 < 2147483648) <|
  gv (S.1 502 (a1 : Int).toNat) fun x2 =>
  gg (1 ≤ d) <|
  gc (f_X12_at n (d - 1) 0 S [a1, x2]) fun x5 S_6 =>
  rec d 14 S_6 [a1, a2, x2, x5]
def b_X12_added_14 (n d : Nat) (rec : Nat → Nat → GS → List Int → Option (Int × GS)) (S : GS) (a1 : Int) (a2 : Int) (a3 : Int) (a4 : Int) : Option (Int × GS) :=
  gg (1 ≤ d) <|
  gc (f_X12_at n (d - 1) 0 S [a1, a3]) fun x2 S_3 =>
  gv (x2 + 61) fun x5 =>
  gg (inr a4) <|
  gg (inr x5) <|
  if x5 ≤ a4 then (
    gc (f_X12_at n (d - 1) 0 S_3 [a1, a3]) fun x10 S_11 =>
    gg (0 ≤ x10 ∧ x10 < ((295728 : Nat) : Int) ∧ x10 < 2147483648) <|
    gv (gI S_11 501 (x10 : Int).toNat a2) fun S_14 =>
    gv (bi (S_14.2.1 500 5)) fun x16 =>
    gg (inr x16) <|
    if x16 ≠ 0 then (
      rec d 71 S_14 [a1, a3, 1]
    ) else (
      gg (inr a3) <|
      if a3 ≠ 100 then (
        rec d 71 S_14 [a1, a3, 0]
      ) else (
        rec d 71 S_14 [a1, a3, 1]
      )
    )
  ) else (
    gg (0 ≤ a4 ∧ a4 < ((295728 : Nat) : Int) ∧ a4 < 2147483648) <|
    gv (gI S_3 501 (a4 : Int).toNat 0) fun S_23 =>
    gv (a4 + 1) fun x25 =>
    rec d 14 S_23 [a1, a2, a3, x25]
  )
def b_X12_added_71 (n d : Nat) (rec : Nat → Nat → GS → List Int → Option (Int × GS)) (S : GS) (a1 : Int) (a3 : Int) (s0 : Int) : Option (Int × GS) :=
  gg (s0 = 0 ∨ s0 = 1) <|
  gv (gB S 500 5 (decide ((s0 : Int) = 1))) fun S_2 =>
  gg (0 ≤ a1 ∧ a1 < ((48 : Nat) : Int) ∧ a1 < 2147483648) <|
  gv (S_2.1 502 (a1 : Int).toNat) fun x5 =>
  gg (inr a3) <|
  if a3 ≠ 100 then (
    gv (x5 + 1) fun x9 =>
    gv (gI S_2 502 (a1 : Int).toNat x9) fun S_11 =>
    some (a3, S_11)
  ) else (
    gv (x5 + 0) fun x13 =>
    gv (gI S_2 502 (a1 : Int).toNat x13) fun S_15 =>
    some (a3, S_15)
  )
def f_X12_added : Nat → Nat → Nat → GS → List Int → Option (Int × GS)
  | 0, _, _, _, _ => none
  | n + 1, d, pc, S, x => match pc, x with
    | 0, [a1, a2] => b_X12_added_0 n d (f_X12_added n) S a1 a2
    | 14, [a1, a2, a3, a4] => b_X12_added_14 n d (f_X12_added n) S a1 a2 a3 a4
    | 71, [a1, a3, s0] => b_X12_added_71 n d (f_X12_added n) S a1 a3 s0
    | _, _ => none
theorem e_X12_added_0 {n d : Nat} {S : GS} {a1 : Int} {a2 : Int} : f_X12_added (n + 1) d 0 S [a1, a2] = b_X12_added_0 n d (f_X12_added n) S a1 a2 := rfl
theorem e_X12_added_14 {n d : Nat} {S : GS} {a1 : Int} {a2 : Int} {a3 : Int} {a4 : Int} : f_X12_added (n + 1) d 14 S [a1, a2, a3, a4] = b_X12_added_14 n d (f_X12_added n) S a1 a2 a3 a4 := rfl
theorem e_X12_added_71 {n d : Nat} {S : GS} {a1 : Int} {a3 : Int} {s0 : Int} : f_X12_added (n + 1) d 71 S [a1, a3, s0] = b_X12_added_71 n d (f_X12_added n) S a1 a3 s0 := rfl

def b_X12_part_0 (n d : Nat) (rec : Nat → Nat → GS → List Int → Option (Int × GS)) (S : GS) (a1 : Int) (a2 : Int) (a3 : Int) : Option (Int × GS) :=
  gg (1 ≤ d) <|
  gc (f_X12_at n (d - 1) 0 S [a1, a2]) fun x2 S_3 =>
  gv (x2 + a3) fun x5 =>
  gg (0 ≤ x5 ∧ x5 < ((295728 : Nat) : Int) ∧ x5 < 2147483648) <|
  gv (S_3.1 501 (x5 : Int).toNat) fun x8 =>
  some (x8, S_3)
def f_X12_part : Nat → Nat → Nat → GS → List Int → Option (Int × GS)
  | 0, _, _, _, _ => none
  | n + 1, d, pc, S, x => match pc, x with
    | 0, [a1, a2, a3] => b_X12_part_0 n d (f_X12_part n) S a1 a2 a3
    | _, _ => none
theorem e_X12_part_0 {n d : Nat} {S : GS} {a1 : Int} {a2 : Int} {a3 : Int} : f_X12_part (n + 1) d 0 S [a1, a2, a3] = b_X12_part_0 n d (f_X12_part n) S a1 a2 a3 := rfl

def b_X12_byKeys_0 (n d : Nat) (rec : Nat → Nat → GS → List Int → Option (Int × GS)) (S : GS) (a1 : Int) (a2 : Int) (a3 : Int) (a4 : Int) : Option (Int × GS) :=
  gg (1 ≤ d) <|
  gc (f_X12_at n (d - 1) 0 S [a1, a2]) fun x2 S_3 =>
  gc (f_X12_at n (d - 1) 0 S_3 [a3, a4]) fun x5 S_6 =>
  rec d 18 S_6 [x2, x5, 0]
def b_X12_byKeys_18 (n d : Nat) (rec : Nat → Nat → GS → List Int → Option (Int × GS)) (S : GS) (a5 : Int) (a6 : Int) (a7 : Int) : Option (Int × GS) :=
  gv (a5 + 5) fun x1 =>
  gg (0 ≤ x1 ∧ x1 < ((295728 : Nat) : Int) ∧ x1 < 2147483648) <|
  gv (S.1 501 (x1 : Int).toNat) fun x4 =>
  gg (inr a7) <|
  gg (inr x4) <|
  if x4 ≤ a7 then (
    rec d 116 S [a5, a6]
  ) else (
    gv (a6 + 5) fun x9 =>
    gg (0 ≤ x9 ∧ x9 < ((295728 : Nat) : Int) ∧ x9 < 2147483648) <|
    gv (S.1 501 (x9 : Int).toNat) fun x12 =>
    gg (inr x12) <|
    if x12 ≤ a7 then (
      rec d 116 S [a5, a6]
    ) else (
      gv (a5 + 6) fun x16 =>
      gv (x16 + a7) fun x18 =>
      gg (0 ≤ x18 ∧ x18 < ((295728 : Nat) : Int) ∧ x18 < 2147483648) <|
      gv (S.1 501 (x18 : Int).toNat) fun x21 =>
      gv (a6 + 6) fun x23 =>
      gv (x23 + a7) fun x25 =>
      gg (0 ≤ x25 ∧ x25 < ((295728 : Nat) : Int) ∧ x25 < 2147483648) <|
      gv (S.1 501 (x25 : Int).toNat) fun x28 =>
      gg (inr x21) <|
      gg (inr x28) <|
      if x21 = x28 then (
        gv (a7 + 1) fun x33 =>
        rec d 18 S [a5, a6, x33]
      ) else (
        gv (a5 + 6) fun x35 =>
        gv (x35 + a7) fun x37 =>
        gg (0 ≤ x37 ∧ x37 < ((295728 : Nat) : Int) ∧ x37 < 2147483648) <|
        gv (S.1 501 (x37 : Int).toNat) fun x40 =>
        gv (a6 + 6) fun x42 =>
        gv (x42 + a7) fun x44 =>
        gg (0 ≤ x44 ∧ x44 < ((295728 : Nat) : Int) ∧ x44 < 2147483648) <|
        gv (S.1 501 (x44 : Int).toNat) fun x47 =>
        gg (inr x40) <|
        gg (inr x47) <|
        if x47 ≤ x40 then (
          some (1, S)
        ) else (
          some ((-1), S)
        )
      )
    )
  )
def b_X12_byKeys_116 (n d : Nat) (rec : Nat → Nat → GS → List Int → Option (Int × GS)) (S : GS) (a5 : Int) (a6 : Int) : Option (Int × GS) :=
  gv (a5 + 5) fun x1 =>
  gg (0 ≤ x1 ∧ x1 < ((295728 : Nat) : Int) ∧ x1 < 2147483648) <|
  gv (S.1 501 (x1 : Int).toNat) fun x4 =>
  gv (a6 + 5) fun x6 =>
  gg (0 ≤ x6 ∧ x6 < ((295728 : Nat) : Int) ∧ x6 < 2147483648) <|
  gv (S.1 501 (x6 : Int).toNat) fun x9 =>
  gv (x4 - x9) fun x11 =>
  some (x11, S)
def f_X12_byKeys : Nat → Nat → Nat → GS → List Int → Option (Int × GS)
  | 0, _, _, _, _ => none
  | n + 1, d, pc, S, x => match pc, x with
    | 0, [a1, a2, a3, a4] => b_X12_byKeys_0 n d (f_X12_byKeys n) S a1 a2 a3 a4
    | 18, [a5, a6, a7] => b_X12_byKeys_18 n d (f_X12_byKeys n) S a5 a6 a7
    | 116, [a5, a6] => b_X12_byKeys_116 n d (f_X12_byKeys n) S a5 a6
    | _, _ => none
theorem e_X12_byKeys_0 {n d : Nat} {S : GS} {a1 : Int} {a2 : Int} {a3 : Int} {a4 : Int} : f_X12_byKeys (n + 1) d 0 S [a1, a2, a3, a4] = b_X12_byKeys_0 n d (f_X12_byKeys n) S a1 a2 a3 a4 := rfl
theorem e_X12_byKeys_18 {n d : Nat} {S : GS} {a5 : Int} {a6 : Int} {a7 : Int} : f_X12_byKeys (n + 1) d 18 S [a5, a6, a7] = b_X12_byKeys_18 n d (f_X12_byKeys n) S a5 a6 a7 := rfl
theorem e_X12_byKeys_116 {n d : Nat} {S : GS} {a5 : Int} {a6 : Int} : f_X12_byKeys (n + 1) d 116 S [a5, a6] = b_X12_byKeys_116 n d (f_X12_byKeys n) S a5 a6 := rfl

def b_X12_endOf_0 (n d : Nat) (rec : Nat → Nat → GS → List Int → Option (Int × GS)) (S : GS) (a1 : Int) (a2 : Int) : Option (Int × GS) :=
  gg (1 ≤ d) <|
  gc (f_X12_part n (d - 1) 0 S [a1, a2, 4]) fun x2 S_3 =>
  gv (a2 + x2) fun x5 =>
  some (x5, S_3)
def f_X12_endOf : Nat → Nat → Nat → GS → List Int → Option (Int × GS)
  | 0, _, _, _, _ => none
  | n + 1, d, pc, S, x => match pc, x with
    | 0, [a1, a2] => b_X12_endOf_0 n d (f_X12_endOf n) S a1 a2
    | _, _ => none
theorem e_X12_endOf_0 {n d : Nat} {S : GS} {a1 : Int} {a2 : Int} : f_X12_endOf (n + 1) d 0 S [a1, a2] = b_X12_endOf_0 n d (f_X12_endOf n) S a1 a2 := rfl

def b_X12_childLike_0 (n d : Nat) (rec : Nat → Nat → GS → List Int → Option (Int × GS)) (S : GS) (a1 : Int) (a2 : Int) (a3 : Int) (a4 : Int) : Option (Int × GS) :=
  gv (a2 + 1) fun x1 =>
  rec d 8 S [a1, a2, a3, a4, x1, 0]
def b_X12_childLike_8 (n d : Nat) (rec : Nat → Nat → GS → List Int → Option (Int × GS)) (S : GS) (a1 : Int) (a2 : Int) (a3 : Int) (a4 : Int) (a5 : Int) (a6 : Int) : Option (Int × GS) :=
  gg (1 ≤ d) <|
  gc (f_X12_part n (d - 1) 0 S [a1, a2, 3]) fun x2 S_3 =>
  gg (inr a6) <|
  gg (inr x2) <|
  if x2 ≤ a6 then (
    some ((-1), S_3)
  ) else (
    gc (f_X12_byKeys n (d - 1) 0 S_3 [a1, a5, a3, a4]) fun x8 S_9 =>
    gg (inr x8) <|
    if x8 ≠ 0 then (
      gc (f_X12_endOf n (d - 1) 0 S_9 [a1, a5]) fun x13 S_14 =>
      gv (a6 + 1) fun x16 =>
      rec d 8 S_14 [a1, a2, a3, a4, x13, x16]
    ) else (
      some (a5, S_9)
    )
  )
def f_X12_childLike : Nat → Nat → Nat → GS → List Int → Option (Int × GS)
  | 0, _, _, _, _ => none
  | n + 1, d, pc, S, x => match pc, x with
    | 0, [a1, a2, a3, a4] => b_X12_childLike_0 n d (f_X12_childLike n) S a1 a2 a3 a4
    | 8, [a1, a2, a3, a4, a5, a6] => b_X12_childLike_8 n d (f_X12_childLike n) S a1 a2 a3 a4 a5 a6
    | _, _ => none
theorem e_X12_childLike_0 {n d : Nat} {S : GS} {a1 : Int} {a2 : Int} {a3 : Int} {a4 : Int} : f_X12_childLike (n + 1) d 0 S [a1, a2, a3, a4] = b_X12_childLike_0 n d (f_X12_childLike n) S a1 a2 a3 a4 := rfl
theorem e_X12_childLike_8 {n d : Nat} {S : GS} {a1 : Int} {a2 : Int} {a3 : Int} {a4 : Int} {a5 : Int} {a6 : Int} : f_X12_childLike (n + 1) d 8 S [a1, a2, a3, a4, a5, a6] = b_X12_childLike_8 n d (f_X12_childLike n) S a1 a2 a3 a4 a5 a6 := rfl

def b_X12_puts_0 (n d : Nat) (rec : Nat → Nat → GS → List Int → Option (Int × GS)) (S : GS) (a1 : Int) (a2 : Int) : Option (Int × GS) :=
  gv (40000 * a1) fun x1 =>
  gg (0 ≤ a1 ∧ a1 < ((2 : Nat) : Int) ∧ a1 < 2147483648) <|
  gv (S.1 517 (a1 : Int).toNat) fun x4 =>
  gv (x1 + x4) fun x6 =>
  gg (0 ≤ x6 ∧ x6 < ((80000 : Nat) : Int) ∧ x6 < 2147483648) <|
  gv (gI S 516 (x6 : Int).toNat a2) fun S_9 =>
  gv (S_9.1 517 (a1 : Int).toNat) fun x11 =>
  gv (x11 + 1) fun x13 =>
  gv (gI S_9 517 (a1 : Int).toNat x13) fun S_15 =>
  some (0, S_15)
def f_X12_puts : Nat → Nat → Nat → GS → List Int → Option (Int × GS)
  | 0, _, _, _, _ => none
  | n + 1, d, pc, S, x => match pc, x with
    | 0, [a1, a2] => b_X12_puts_0 n d (f_X12_puts n) S a1 a2
    | _, _ => none
theorem e_X12_puts_0 {n d : Nat} {S : GS} {a1 : Int} {a2 : Int} : f_X12_puts (n + 1) d 0 S [a1, a2] = b_X12_puts_0 n d (f_X12_puts n) S a1 a2 := rfl

def b_X12_kind_0 (n d : Nat) (rec : Nat → Nat → GS → List Int → Option (Int × GS)) (S : GS) (a1 : Int) (a2 : Int) : Option (Int × GS) :=
  gg (1 ≤ d) <|
  gc (f_X12_at n (d - 1) 0 S [a1, a2]) fun x2 S_3 =>
  gg (0 ≤ x2 ∧ x2 < ((295728 : Nat) : Int) ∧ x2 < 2147483648) <|
  gv (S_3.1 501 (x2 : Int).toNat) fun x6 =>
  some (x6, S_3)
def f_X12_kind : Nat → Nat → Nat → GS → List Int → Option (Int × GS)
  | 0, _, _, _, _ => none
  | n + 1, d, pc, S, x => match pc, x with
    | 0, [a1, a2] => b_X12_kind_0 n d (f_X12_kind n) S a1 a2
    | _, _ => none
theorem e_X12_kind_0 {n d : Nat} {S : GS} {a1 : Int} {a2 : Int} : f_X12_kind (n + 1) d 0 S [a1, a2] = b_X12_kind_0 n d (f_X12_kind n) S a1 a2 := rfl

def b_X12_putsInt_0 (n d : Nat) (rec : Nat → Nat → GS → List Int → Option (Int × GS)) (S : GS) (a1 : Int) (a2 : Int) : Option (Int × GS) :=
  gg (inr a2) <|
  if 0 ≤ a2 then (
    if 0 ≤ a2 then (
      rec d 21 S [a1, a2]
    ) else (
      gv (-a2) fun x4 =>
      rec d 21 S [a1, x4]
    )
  ) else (
    gg (1 ≤ d) <|
    gc (f_X12_puts n (d - 1) 0 S [a1, 45]) fun x7 S_8 =>
    if 0 ≤ a2 then (
      rec d 21 S_8 [a1, a2]
    ) else (
      gv (-a2) fun x11 =>
      rec d 21 S_8 [a1, x11]
    )
  )
def b_X12_putsInt_21 (n d : Nat) (rec : Nat → Nat → GS → List Int → Option (Int × GS)) (S : GS) (a1 : Int) (s0 : Int) : Option (Int × GS) :=
  gg (inr s0) <|
  if s0 ≤ 9 then (
    rec d 40 S [a1, s0]
  ) else (
    gg ((0 ≤ s0 ∧ s0 < 2147483648) ∧ ((0 : Int) < 10 ∧ (10 : Int) < 2147483648)) <|
    gv (s0 / 10) fun x4 =>
    gv (48 + x4) fun x6 =>
    gg (1 ≤ d) <|
    gc (f_X12_puts n (d - 1) 0 S [a1, x6]) fun x9 S_10 =>
    rec d 40 S_10 [a1, s0]
  )
def b_X12_putsInt_40 (n d : Nat) (rec : Nat → Nat → GS → List Int → Option (Int × GS)) (S : GS) (a1 : Int) (a3 : Int) : Option (Int × GS) :=
  gg ((0 ≤ a3 ∧ a3 < 2147483648) ∧ ((0 : Int) < 10 ∧ (10 : Int) < 2147483648)) <|
  gv (a3 % 10) fun x2 =>
  gv (48 + x2) fun x4 =>
  gg (1 ≤ d) <|
  gc (f_X12_puts n (d - 1) 0 S [a1, x4]) fun x7 S_8 =>
  some (0, S_8)
def f_X12_putsInt : Nat → Nat → Nat → GS → List Int → Option (Int × GS)
  | 0, _, _, _, _ => none
  | n + 1, d, pc, S, x => match pc, x with
    | 0, [a1, a2] => b_X12_putsInt_0 n d (f_X12_putsInt n) S a1 a2
    | 21, [a1, s0] => b_X12_putsInt_21 n d (f_X12_putsInt n) S a1 s0
    | 40, [a1, a3] => b_X12_putsInt_40 n d (f_X12_putsInt n) S a1 a3
    | _, _ => none
theorem e_X12_putsInt_0 {n d : Nat} {S : GS} {a1 : Int} {a2 : Int} : f_X12_putsInt (n + 1) d 0 S [a1, a2] = b_X12_putsInt_0 n d (f_X12_putsInt n) S a1 a2 := rfl
theorem e_X12_putsInt_21 {n d : Nat} {S : GS} {a1 : Int} {s0 : Int} : f_X12_putsInt (n + 1) d 21 S [a1, s0] = b_X12_putsInt_21 n d (f_X12_putsInt n) S a1 s0 := rfl
theorem e_X12_putsInt_40 {n d : Nat} {S : GS} {a1 : Int} {a3 : Int} : f_X12_putsInt (n + 1) d 40 S [a1, a3] = b_X12_putsInt_40 n d (f_X12_putsInt n) S a1 a3 := rfl

def b_X12_putsStep_0 (n d : Nat) (rec : Nat → Nat → GS → List Int → Option (Int × GS)) (S : GS) (a1 : Int) (a2 : Int) : Option (Int × GS) :=
  gg (1 ≤ d) <|
  gc (f_X12_puts n (d - 1) 0 S [0, 47]) fun x2 S_3 =>
  gc (f_X12_part n (d - 1) 0 S_3 [a1, a2, 1]) fun x5 S_6 =>
  gc (f_X12_kind n (d - 1) 0 S_6 [a1, x5]) fun x8 S_9 =>
  gg (inr x8) <|
  if x8 ≠ 4 then (
    rec d 38 S_9 [a1, a2, 0]
  ) else (
    gc (f_X12_part n (d - 1) 0 S_9 [a1, a2, 2]) fun x13 S_14 =>
    gc (f_X12_putsInt n (d - 1) 0 S_14 [0, x13]) fun x16 S_17 =>
    some (0, S_17)
  )
def b_X12_putsStep_38 (n d : Nat) (rec : Nat → Nat → GS → List Int → Option (Int × GS)) (S : GS) (a1 : Int) (a2 : Int) (a3 : Int) : Option (Int × GS) :=
  gg (1 ≤ d) <|
  gc (f_X12_part n (d - 1) 0 S [a1, a2, 5]) fun x2 S_3 =>
  gg (inr a3) <|
  gg (inr x2) <|
  if x2 ≤ a3 then (
    some (0, S_3)
  ) else (
    gv (6 + a3) fun x8 =>
    gc (f_X12_part n (d - 1) 0 S_3 [a1, a2, x8]) fun x10 S_11 =>
    gg (inr x10) <|
    if x10 = 126 then (
      rec d 84 S_11 [a1, a2, a3, x10, 126, 0]
    ) else (
      if x10 ≠ 47 then (
        rec d 84 S_11 [a1, a2, a3, x10, x10, 0]
      ) else (
        rec d 84 S_11 [a1, a2, a3, x10, 126, 0]
      )
    )
  )
def b_X12_putsStep_84 (n d : Nat) (rec : Nat → Nat → GS → List Int → Option (Int × GS)) (S : GS) (a1 : Int) (a2 : Int) (a3 : Int) (a4 : Int) (s0 : Int) (s1 : Int) : Option (Int × GS) :=
  gg (1 ≤ d) <|
  gc (f_X12_puts n (d - 1) 0 S [s1, s0]) fun x2 S_3 =>
  gg (inr a4) <|
  if a4 = 126 then (
    rec d 101 S_3 [a1, a2, a3, a4]
  ) else (
    if a4 ≠ 47 then (
      gv (a3 + 1) fun x8 =>
      rec d 38 S_3 [a1, a2, x8]
    ) else (
      rec d 101 S_3 [a1, a2, a3, a4]
    )
  )
def b_X12_putsStep_101 (n d : Nat) (rec : Nat → Nat → GS → List Int → Option (Int × GS)) (S : GS) (a1 : Int) (a2 : Int) (a3 : Int) (a4 : Int) : Option (Int × GS) :=
  gg (inr a4) <|
  if a4 ≠ 126 then (
    gg (1 ≤ d) <|
    gc (f_X12_puts n (d - 1) 0 S [0, 49]) fun x4 S_5 =>
    gv (a3 + 1) fun x7 =>
    rec d 38 S_5 [a1, a2, x7]
  ) else (
    gg (1 ≤ d) <|
    gc (f_X12_puts n (d - 1) 0 S [0, 48]) fun x10 S_11 =>
    gv (a3 + 1) fun x13 =>
    rec d 38 S_11 [a1, a2, x13]
  )
def f_X12_putsStep : Nat → Nat → Nat → GS → List Int → Option (Int × GS)
  | 0, _, _, _, _ => none
  | n + 1, d, pc, S, x => match pc, x with
    | 0, [a1, a2] => b_X12_putsStep_0 n d (f_X12_putsStep n) S a1 a2
    | 38, [a1, a2, a3] => b_X12_putsStep_38 n d (f_X12_putsStep n) S a1 a2 a3
    | 84, [a1, a2, a3, a4, s0, s1] => b_X12_putsStep_84 n d (f_X12_putsStep n) S a1 a2 a3 a4 s0 s1
    | 101, [a1, a2, a3, a4] => b_X12_putsStep_101 n d (f_X12_putsStep n) S a1 a2 a3 a4
    | _, _ => none
theorem e_X12_putsStep_0 {n d : Nat} {S : GS} {a1 : Int} {a2 : Int} : f_X12_putsStep (n + 1) d 0 S [a1, a2] = b_X12_putsStep_0 n d (f_X12_putsStep n) S a1 a2 := rfl
theorem e_X12_putsStep_38 {n d : Nat} {S : GS} {a1 : Int} {a2 : Int} {a3 : Int} : f_X12_putsStep (n + 1) d 38 S [a1, a2, a3] = b_X12_putsStep_38 n d (f_X12_putsStep n) S a1 a2 a3 := rfl
theorem e_X12_putsStep_84 {n d : Nat} {S : GS} {a1 : Int} {a2 : Int} {a3 : Int} {a4 : Int} {s0 : Int} {s1 : Int} : f_X12_putsStep (n + 1) d 84 S [a1, a2, a3, a4, s0, s1] = b_X12_putsStep_84 n d (f_X12_putsStep n) S a1 a2 a3 a4 s0 s1 := rfl
theorem e_X12_putsStep_101 {n d : Nat} {S : GS} {a1 : Int} {a2 : Int} {a3 : Int} {a4 : Int} : f_X12_putsStep (n + 1) d 101 S [a1, a2, a3, a4] = b_X12_putsStep_101 n d (f_X12_putsStep n) S a1 a2 a3 a4 := rfl

def b_X12_putsPath_0 (n d : Nat) (rec : Nat → Nat → GS → List Int → Option (Int × GS)) (S : GS) (a1 : Int) (a2 : Int) : Option (Int × GS) :=
  rec d 5 S [a1, 0, a2]
def b_X12_putsPath_5 (n d : Nat) (rec : Nat → Nat → GS → List Int → Option (Int × GS)) (S : GS) (a1 : Int) (a3 : Int) (a4 : Int) : Option (Int × GS) :=
  gg (inr a4) <|
  if a4 = 0 then (
    gv (a3 - 1) fun x3 =>
    rec d 39 S [a1, x3]
  ) else (
    gg (0 ≤ a3 ∧ a3 < ((16 : Nat) : Int) ∧ a3 < 2147483648) <|
    gv (gI S 513 (a3 : Int).toNat a4) fun S_6 =>
    gv (a3 + 1) fun x8 =>
    gg (1 ≤ d) <|
    gc (f_X12_part n (d - 1) 0 S_6 [a1, a4, 1]) fun x11 S_12 =>
    rec d 5 S_12 [a1, x8, x11]
  )
def b_X12_putsPath_39 (n d : Nat) (rec : Nat → Nat → GS → List Int → Option (Int × GS)) (S : GS) (a1 : Int) (a4 : Int) : Option (Int × GS) :=
  gg (inr a4) <|
  if a4 < 0 then (
    some (0, S)
  ) else (
    gg (0 ≤ a4 ∧ a4 < ((16 : Nat) : Int) ∧ a4 < 2147483648) <|
    gv (S.1 513 (a4 : Int).toNat) fun x4 =>
    gg (1 ≤ d) <|
    gc (f_X12_putsStep n (d - 1) 0 S [a1, x4]) fun x7 S_8 =>
    gv (a4 + (-1)) fun x10 =>
    rec d 39 S_8 [a1, x10]
  )
def f_X12_putsPath : Nat → Nat → Nat → GS → List Int → Option (Int × GS)
  | 0, _, _, _, _ => none
  | n + 1, d, pc, S, x => match pc, x with
    | 0, [a1, a2] => b_X12_putsPath_0 n d (f_X12_putsPath n) S a1 a2
    | 5, [a1, a3, a4] => b_X12_putsPath_5 n d (f_X12_putsPath n) S a1 a3 a4
    | 39, [a1, a4] => b_X12_putsPath_39 n d (f_X12_putsPath n) S a1 a4
    | _, _ => none
theorem e_X12_putsPath_0 {n d : Nat} {S : GS} {a1 : Int} {a2 : Int} : f_X12_putsPath (n + 1) d 0 S [a1, a2] = b_X12_putsPath_0 n d (f_X12_putsPath n) S a1 a2 := rfl
theorem e_X12_putsPath_5 {n d : Nat} {S : GS} {a1 : Int} {a3 : Int} {a4 : Int} : f_X12_putsPath (n + 1) d 5 S [a1, a3, a4] = b_X12_putsPath_5 n d (f_X12_putsPath n) S a1 a3 a4 := rfl
theorem e_X12_putsPath_39 {n d : Nat} {S : GS} {a1 : Int} {a4 : Int} : f_X12_putsPath (n + 1) d 39 S [a1, a4] = b_X12_putsPath_39 n d (f_X12_putsPath n) S a1 a4 := rfl

def b_X12_pathOfNode_0 (n d : Nat) (rec : Nat → Nat → GS → List Int → Option (Int × GS)) (S : GS) (a1 : Int) (a2 : Int) : Option (Int × GS) :=
  gg ((0 : Int) ≤ 0 ∧ (0 : Int) < ((2 : Nat) : Int) ∧ (0 : Int) < 2147483648) <|
  gv (gI S 517 (0 : Int).toNat 0) fun S_2 =>
  gg (1 ≤ d) <|
  gc (f_X12_putsPath n (d - 1) 0 S_2 [a1, a2]) fun x5 S_6 =>
  gv (S_6.1 517 (0 : Int).toNat) fun x8 =>
  gg (inr x8) <|
  if x8 ≤ 900 then (
    gv (S_6.1 517 (0 : Int).toNat) fun x12 =>
    gv (gI S_6 500 29 x12) fun S_14 =>
    rec d 43 S_14 [0]
  ) else (
    gv (gI S_6 500 29 900) fun S_16 =>
    rec d 43 S_16 [0]
  )
def b_X12_pathOfNode_43 (n d : Nat) (rec : Nat → Nat → GS → List Int → Option (Int × GS)) (S : GS) (a3 : Int) : Option (Int × GS) :=
  gv (S.1 500 29) fun x1 =>
  gg (inr a3) <|
  gg (inr x1) <|
  if x1 ≤ a3 then (
    some (0, S)
  ) else (
    gg (0 ≤ a3 ∧ a3 < ((80000 : Nat) : Int) ∧ a3 < 2147483648) <|
    gv (S.1 516 (a3 : Int).toNat) fun x7 =>
    gg (0 ≤ a3 ∧ a3 < ((1000 : Nat) : Int) ∧ a3 < 2147483648) <|
    gv (gI S 518 (a3 : Int).toNat x7) fun S_10 =>
    gv (a3 + 1) fun x12 =>
    rec d 43 S_10 [x12]
  )
def f_X12_pathOfNode : Nat → Nat → Nat → GS → List Int → Option (Int × GS)
  | 0, _, _, _, _ => none
  | n + 1, d, pc, S, x => match pc, x with
    | 0, [a1, a2] => b_X12_pathOfNode_0 n d (f_X12_pathOfNode n) S a1 a2
    | 43, [a3] => b_X12_pathOfNode_43 n d (f_X12_pathOfNode n) S a3
    | _, _ => none
theorem e_X12_pathOfNode_0 {n d : Nat} {S : GS} {a1 : Int} {a2 : Int} : f_X12_pathOfNode (n + 1) d 0 S [a1, a2] = b_X12_pathOfNode_0 n d (f_X12_pathOfNode n) S a1 a2 := rfl
theorem e_X12_pathOfNode_43 {n d : Nat} {S : GS} {a3 : Int} : f_X12_pathOfNode (n + 1) d 43 S [a3] = b_X12_pathOfNode_43 n d (f_X12_pathOfNode n) S a3 := rfl

def b_X12_addsStep_0 (n d : Nat) (rec : Nat → Nat → GS → List Int → Option (Int × GS)) (S : GS) (a1 : Int) (a2 : Int) : Option (Int × GS) :=
  gg ((0 : Int) ≤ 0 ∧ (0 : Int) < ((2 : Nat) : Int) ∧ (0 : Int) < 2147483648) <|
  gv (gI S 517 (0 : Int).toNat 0) fun S_2 =>
  gg (1 ≤ d) <|
  gc (f_X12_putsStep n (d - 1) 0 S_2 [a1, a2]) fun x5 S_6 =>
  rec d 15 S_6 [0]
def b_X12_addsStep_15 (n d : Nat) (rec : Nat → Nat → GS → List Int → Option (Int × GS)) (S : GS) (a3 : Int) : Option (Int × GS) :=
  gg ((0 : Int) ≤ 0 ∧ (0 : Int) < ((2 : Nat) : Int) ∧ (0 : Int) < 2147483648) <|
  gv (S.1 517 (0 : Int).toNat) fun x2 =>
  gg (inr a3) <|
  gg (inr x2) <|
  if x2 ≤ a3 then (
    some (0, S)
  ) else (
    gv (S.1 500 29) fun x7 =>
    gg (0 ≤ a3 ∧ a3 < ((80000 : Nat) : Int) ∧ a3 < 2147483648) <|
    gv (S.1 516 (a3 : Int).toNat) fun x10 =>
    gg (0 ≤ x7 ∧ x7 < ((1000 : Nat) : Int) ∧ x7 < 2147483648) <|
    gv (gI S 518 (x7 : Int).toNat x10) fun S_13 =>
    gv (S_13.1 500 29) fun x15 =>
    gv (x15 + 1) fun x17 =>
    gv (gI S_13 500 29 x17) fun S_19 =>
    gv (a3 + 1) fun x21 =>
    rec d 15 S_19 [x21]
  )
def f_X12_addsStep : Nat → Nat → Nat → GS → List Int → Option (Int × GS)
  | 0, _, _, _, _ => none
  | n + 1, d, pc, S, x => match pc, x with
    | 0, [a1, a2] => b_X12_addsStep_0 n d (f_X12_addsStep n) S a1 a2
    | 15, [a3] => b_X12_addsStep_15 n d (f_X12_addsStep n) S a3
    | _, _ => none
theorem e_X12_addsStep_0 {n d : Nat} {S : GS} {a1 : Int} {a2 : Int} : f_X12_addsStep (n + 1) d 0 S [a1, a2] = b_X12_addsStep_0 n d (f_X12_addsStep n) S a1 a2 := rfl
theorem e_X12_addsStep_15 {n d : Nat} {S : GS} {a3 : Int} : f_X12_addsStep (n + 1) d 15 S [a3] = b_X12_addsStep_15 n d (f_X12_addsStep n) S a3 := rfl

def b_X12_says_0 (n d : Nat) (rec : Nat → Nat → GS → List Int → Option (Int × GS)) (S : GS) (a1 : Int) : Option (Int × GS) :=
  gv (gI S 500 13 0) fun S_1 =>
  rec d 8 S_1 [a1, 7]
def b_X12_says_8 (n d : Nat) (rec : Nat → Nat → GS → List Int → Option (Int × GS)) (S : GS) (a1 : Int) (a3 : Int) : Option (Int × GS) :=
  gg (inr a3) <|
  if a3 < 0 then (
    some (0, S)
  ) else (
    gv (8 * a3) fun x3 =>
    gg (0 ≤ x3 ∧ x3 < 64) <|
    gg (inl a1) <|
    gv (a1 / ((2 ^ (x3 : Int).toNat : Nat) : Int)) fun x7 =>
    gv (x7 % 256) fun x9 =>
    gg (inr x9) <|
    if x9 = 0 then (
      gv (a3 + (-1)) fun x13 =>
      rec d 8 S [a1, x13]
    ) else (
      gv (S.1 500 13) fun x15 =>
      gg (0 ≤ x15 ∧ x15 < ((1000 : Nat) : Int) ∧ x15 < 2147483648) <|
      gv (gI S 507 (x15 : Int).toNat x9) fun S_18 =>
      gv (S_18.1 500 13) fun x20 =>
      gv (x20 + 1) fun x22 =>
      gv (gI S_18 500 13 x22) fun S_24 =>
      gv (a3 + (-1)) fun x26 =>
      rec d 8 S_24 [a1, x26]
    )
  )
def f_X12_says : Nat → Nat → Nat → GS → List Int → Option (Int × GS)
  | 0, _, _, _, _ => none
  | n + 1, d, pc, S, x => match pc, x with
    | 0, [a1] => b_X12_says_0 n d (f_X12_says n) S a1
    | 8, [a1, a3] => b_X12_says_8 n d (f_X12_says n) S a1 a3
    | _, _ => none
theorem e_X12_says_0 {n d : Nat} {S : GS} {a1 : Int} : f_X12_says (n + 1) d 0 S [a1] = b_X12_says_0 n d (f_X12_says n) S a1 := rfl
theorem e_X12_says_8 {n d : Nat} {S : GS} {a1 : Int} {a3 : Int} : f_X12_says (n + 1) d 8 S [a1, a3] = b_X12_says_8 n d (f_X12_says n) S a1 a3 := rfl

def b_X12_keyIs_0 (n d : Nat) (rec : Nat → Nat → GS → List Int → Option (Int × GS)) (S : GS) (a1 : Int) (a2 : Int) : Option (Int × GS) :=
  gg (1 ≤ d) <|
  gc (f_X12_at n (d - 1) 0 S [a1, a2]) fun x2 S_3 =>
  gv (x2 + 5) fun x5 =>
  gv (S_3.1 500 13) fun x7 =>
  gg (0 ≤ x5 ∧ x5 < ((295728 : Nat) : Int) ∧ x5 < 2147483648) <|
  gv (gI S_3 501 (x5 : Int).toNat x7) fun S_10 =>
  rec d 18 S_10 [a1, a2, 0]
def b_X12_keyIs_18 (n d : Nat) (rec : Nat → Nat → GS → List Int → Option (Int × GS)) (S : GS) (a1 : Int) (a2 : Int) (a3 : Int) : Option (Int × GS) :=
  gv (S.1 500 13) fun x1 =>
  gg (inr a3) <|
  gg (inr x1) <|
  if x1 ≤ a3 then (
    some (0, S)
  ) else (
    if 12 ≤ a3 then (
      some (0, S)
    ) else (
      gg (1 ≤ d) <|
      gc (f_X12_at n (d - 1) 0 S [a1, a2]) fun x8 S_9 =>
      gv (x8 + 6) fun x11 =>
      gv (x11 + a3) fun x13 =>
      gg (0 ≤ a3 ∧ a3 < ((1000 : Nat) : Int) ∧ a3 < 2147483648) <|
      gv (S_9.1 507 (a3 : Int).toNat) fun x16 =>
      gg (0 ≤ x13 ∧ x13 < ((295728 : Nat) : Int) ∧ x13 < 2147483648) <|
      gv (gI S_9 501 (x13 : Int).toNat x16) fun S_19 =>
      gv (a3 + 1) fun x21 =>
      rec d 18 S_19 [a1, a2, x21]
    )
  )
def f_X12_keyIs : Nat → Nat → Nat → GS → List Int → Option (Int × GS)
  | 0, _, _, _, _ => none
  | n + 1, d, pc, S, x => match pc, x with
    | 0, [a1, a2] => b_X12_keyIs_0 n d (f_X12_keyIs n) S a1 a2
    | 18, [a1, a2, a3] => b_X12_keyIs_18 n d (f_X12_keyIs n) S a1 a2 a3
    | _, _ => none
theorem e_X12_keyIs_0 {n d : Nat} {S : GS} {a1 : Int} {a2 : Int} : f_X12_keyIs (n + 1) d 0 S [a1, a2] = b_X12_keyIs_0 n d (f_X12_keyIs n) S a1 a2 := rfl
theorem e_X12_keyIs_18 {n d : Nat} {S : GS} {a1 : Int} {a2 : Int} {a3 : Int} : f_X12_keyIs (n + 1) d 18 S [a1, a2, a3] = b_X12_keyIs_18 n d (f_X12_keyIs n) S a1 a2 a3 := rfl

def b_X12_named_0 (n d : Nat) (rec : Nat → Nat → GS → List Int → Option (Int × GS)) (S : GS) (a1 : Int) (a2 : Int) (a3 : Int) : Option (Int × GS) :=
  gg (1 ≤ d) <|
  gc (f_X12_says n (d - 1) 0 S [a3]) fun x2 S_3 =>
  gc (f_X12_keyIs n (d - 1) 0 S_3 [a1, a2]) fun x5 S_6 =>
  some (0, S_6)
def f_X12_named : Nat → Nat → Nat → GS → List Int → Option (Int × GS)
  | 0, _, _, _, _ => none
  | n + 1, d, pc, S, x => match pc, x with
    | 0, [a1, a2, a3] => b_X12_named_0 n d (f_X12_named n) S a1 a2 a3
    | _, _ => none
theorem e_X12_named_0 {n d : Nat} {S : GS} {a1 : Int} {a2 : Int} {a3 : Int} : f_X12_named (n + 1) d 0 S [a1, a2, a3] = b_X12_named_0 n d (f_X12_named n) S a1 a2 a3 := rfl

def b_X12_textIs_0 (n d : Nat) (rec : Nat → Nat → GS → List Int → Option (Int × GS)) (S : GS) (a1 : Int) (a2 : Int) : Option (Int × GS) :=
  gg (1 ≤ d) <|
  gc (f_X12_at n (d - 1) 0 S [a1, a2]) fun x2 S_3 =>
  gv (x2 + 18) fun x5 =>
  gv (S_3.1 500 13) fun x7 =>
  gg (0 ≤ x5 ∧ x5 < ((295728 : Nat) : Int) ∧ x5 < 2147483648) <|
  gv (gI S_3 501 (x5 : Int).toNat x7) fun S_10 =>
  rec d 19 S_10 [a1, a2, 0]
def b_X12_textIs_19 (n d : Nat) (rec : Nat → Nat → GS → List Int → Option (Int × GS)) (S : GS) (a1 : Int) (a2 : Int) (a3 : Int) : Option (Int × GS) :=
  gv (S.1 500 13) fun x1 =>
  gg (inr a3) <|
  gg (inr x1) <|
  if x1 ≤ a3 then (
    some (0, S)
  ) else (
    if 40 ≤ a3 then (
      some (0, S)
    ) else (
      gg (1 ≤ d) <|
      gc (f_X12_at n (d - 1) 0 S [a1, a2]) fun x8 S_9 =>
      gv (x8 + 21) fun x11 =>
      gv (x11 + a3) fun x13 =>
      gg (0 ≤ a3 ∧ a3 < ((1000 : Nat) : Int) ∧ a3 < 2147483648) <|
      gv (S_9.1 507 (a3 : Int).toNat) fun x16 =>
      gg (0 ≤ x13 ∧ x13 < ((295728 : Nat) : Int) ∧ x13 < 2147483648) <|
      gv (gI S_9 501 (x13 : Int).toNat x16) fun S_19 =>
      gv (a3 + 1) fun x21 =>
      rec d 19 S_19 [a1, a2, x21]
    )
  )
def f_X12_textIs : Nat → Nat → Nat → GS → List Int → Option (Int × GS)
  | 0, _, _, _, _ => none
  | n + 1, d, pc, S, x => match pc, x with
    | 0, [a1, a2] => b_X12_textIs_0 n d (f_X12_textIs n) S a1 a2
    | 19, [a1, a2, a3] => b_X12_textIs_19 n d (f_X12_textIs n) S a1 a2 a3
    | _, _ => none
theorem e_X12_textIs_0 {n d : Nat} {S : GS} {a1 : Int} {a2 : Int} : f_X12_textIs (n + 1) d 0 S [a1, a2] = b_X12_textIs_0 n d (f_X12_textIs n) S a1 a2 := rfl
theorem e_X12_textIs_19 {n d : Nat} {S : GS} {a1 : Int} {a2 : Int} {a3 : Int} : f_X12_textIs (n + 1) d 19 S [a1, a2, a3] = b_X12_textIs_19 n d (f_X12_textIs n) S a1 a2 a3 := rfl

def b_X12_like_0 (n d : Nat) (rec : Nat → Nat → GS → List Int → Option (Int × GS)) (S : GS) (a1 : Int) (a2 : Int) (a3 : Int) : Option (Int × GS) :=
  gg (1 ≤ d) <|
  gc (f_X12_added n (d - 1) 0 S [a1, 0]) fun x2 S_3 =>
  rec d 11 S_3 [a1, a2, a3, x2, 0]
def b_X12_like_11 (n d : Nat) (rec : Nat → Nat → GS → List Int → Option (Int × GS)) (S : GS) (a1 : Int) (a2 : Int) (a3 : Int) (a4 : Int) (a5 : Int) : Option (Int × GS) :=
  gg (inr a5) <|
  if 61 ≤ a5 then (
    gg (1 ≤ d) <|
    gc (f_X12_at n (d - 1) 0 S [a1, a4]) fun x4 S_5 =>
    gv (x4 + 3) fun x7 =>
    gg (0 ≤ x7 ∧ x7 < ((295728 : Nat) : Int) ∧ x7 < 2147483648) <|
    gv (gI S_5 501 (x7 : Int).toNat 0) fun S_10 =>
    some (a4, S_10)
  ) else (
    gg (1 ≤ d) <|
    gc (f_X12_at n (d - 1) 0 S [a1, a4]) fun x13 S_14 =>
    gv (x13 + a5) fun x16 =>
    gc (f_X12_at n (d - 1) 0 S_14 [a2, a3]) fun x18 S_19 =>
    gv (x18 + a5) fun x21 =>
    gg (0 ≤ x21 ∧ x21 < ((295728 : Nat) : Int) ∧ x21 < 2147483648) <|
    gv (S_19.1 501 (x21 : Int).toNat) fun x24 =>
    gg (0 ≤ x16 ∧ x16 < ((295728 : Nat) : Int) ∧ x16 < 2147483648) <|
    gv (gI S_19 501 (x16 : Int).toNat x24) fun S_27 =>
    gv (a5 + 1) fun x29 =>
    rec d 11 S_27 [a1, a2, a3, a4, x29]
  )
def f_X12_like : Nat → Nat → Nat → GS → List Int → Option (Int × GS)
  | 0, _, _, _, _ => none
  | n + 1, d, pc, S, x => match pc, x with
    | 0, [a1, a2, a3] => b_X12_like_0 n d (f_X12_like n) S a1 a2 a3
    | 11, [a1, a2, a3, a4, a5] => b_X12_like_11 n d (f_X12_like n) S a1 a2 a3 a4 a5
    | _, _ => none
theorem e_X12_like_0 {n d : Nat} {S : GS} {a1 : Int} {a2 : Int} {a3 : Int} : f_X12_like (n + 1) d 0 S [a1, a2, a3] = b_X12_like_0 n d (f_X12_like n) S a1 a2 a3 := rfl
theorem e_X12_like_11 {n d : Nat} {S : GS} {a1 : Int} {a2 : Int} {a3 : Int} {a4 : Int} {a5 : Int} : f_X12_like (n + 1) d 11 S [a1, a2, a3, a4, a5] = b_X12_like_11 n d (f_X12_like n) S a1 a2 a3 a4 a5 := rfl

def b_X12_copies_0 (n d : Nat) (rec : Nat → Nat → GS → List Int → Option (Int × GS)) (S : GS) (a1 : Int) (a2 : Int) (a3 : Int) (a4 : Int) : Option (Int × GS) :=
  rec d 3 S [a1, a2, a4, a3]
def b_X12_copies_3 (n d : Nat) (rec : Nat → Nat → GS → List Int → Option (Int × GS)) (S : GS) (a1 : Int) (a2 : Int) (a4 : Int) (a5 : Int) : Option (Int × GS) :=
  gg (inr a5) <|
  gg (inr a4) <|
  if a4 ≤ a5 then (
    some (0, S)
  ) else (
    gg (1 ≤ d) <|
    gc (f_X12_part n (d - 1) 0 S [a2, a5, 3]) fun x5 S_6 =>
    gc (f_X12_like n (d - 1) 0 S_6 [a1, a2, a5]) fun x8 S_9 =>
    gc (f_X12_at n (d - 1) 0 S_9 [a1, x8]) fun x11 S_12 =>
    gv (x11 + 3) fun x14 =>
    gg (0 ≤ x14 ∧ x14 < ((295728 : Nat) : Int) ∧ x14 < 2147483648) <|
    gv (gI S_12 501 (x14 : Int).toNat x5) fun S_17 =>
    gv (a5 + 1) fun x19 =>
    rec d 3 S_17 [a1, a2, a4, x19]
  )
def f_X12_copies : Nat → Nat → Nat → GS → List Int → Option (Int × GS)
  | 0, _, _, _, _ => none
  | n + 1, d, pc, S, x => match pc, x with
    | 0, [a1, a2, a3, a4] => b_X12_copies_0 n d (f_X12_copies n) S a1 a2 a3 a4
    | 3, [a1, a2, a4, a5] => b_X12_copies_3 n d (f_X12_copies n) S a1 a2 a4 a5
    | _, _ => none
theorem e_X12_copies_0 {n d : Nat} {S : GS} {a1 : Int} {a2 : Int} {a3 : Int} {a4 : Int} : f_X12_copies (n + 1) d 0 S [a1, a2, a3, a4] = b_X12_copies_0 n d (f_X12_copies n) S a1 a2 a3 a4 := rfl
theorem e_X12_copies_3 {n d : Nat} {S : GS} {a1 : Int} {a2 : Int} {a4 : Int} {a5 : Int} : f_X12_copies (n + 1) d 3 S [a1, a2, a4, a5] = b_X12_copies_3 n d (f_X12_copies n) S a1 a2 a4 a5 := rfl

def b_X12_noKey_0 (n d : Nat) (rec : Nat → Nat → GS → List Int → Option (Int × GS)) (S : GS) (a1 : Int) (a2 : Int) : Option (Int × GS) :=
  gg (1 ≤ d) <|
  gc (f_X12_at n (d - 1) 0 S [a1, a2]) fun x2 S_3 =>
  gv (x2 + 5) fun x5 =>
  gg (0 ≤ x5 ∧ x5 < ((295728 : Nat) : Int) ∧ x5 < 2147483648) <|
  gv (gI S_3 501 (x5 : Int).toNat 0) fun S_8 =>
  some (0, S_8)
def f_X12_noKey : Nat → Nat → Nat → GS → List Int → Option (Int × GS)
  | 0, _, _, _, _ => none
  | n + 1, d, pc, S, x => match pc, x with
    | 0, [a1, a2] => b_X12_noKey_0 n d (f_X12_noKey n) S a1 a2
    | _, _ => none
theorem e_X12_noKey_0 {n d : Nat} {S : GS} {a1 : Int} {a2 : Int} : f_X12_noKey (n + 1) d 0 S [a1, a2] = b_X12_noKey_0 n d (f_X12_noKey n) S a1 a2 := rfl

def b_X12_brings_0 (n d : Nat) (rec : Nat → Nat → GS → List Int → Option (Int × GS)) (S : GS) (a1 : Int) (a2 : Int) (a3 : Int) (a4 : Int) : Option (Int × GS) :=
  gg (0 ≤ a1 ∧ a1 < ((48 : Nat) : Int) ∧ a1 < 2147483648) <|
  gv (S.1 502 (a1 : Int).toNat) fun x2 =>
  gg (1 ≤ d) <|
  gc (f_X12_endOf n (d - 1) 0 S [a2, a3]) fun x5 S_6 =>
  gc (f_X12_copies n (d - 1) 0 S_6 [a1, a2, a3, x5]) fun x8 S_9 =>
  gg (inr x2) <|
  if 100 ≤ x2 then (
    some (0, S_9)
  ) else (
    gc (f_X12_noKey n (d - 1) 0 S_9 [a1, x2]) fun x13 S_14 =>
    gg (inr a4) <|
    if a4 = 0 then (
      some (0, S_14)
    ) else (
      gc (f_X12_keyIs n (d - 1) 0 S_14 [a1, x2]) fun x18 S_19 =>
      some (0, S_19)
    )
  )
def f_X12_brings : Nat → Nat → Nat → GS → List Int → Option (Int × GS)
  | 0, _, _, _, _ => none
  | n + 1, d, pc, S, x => match pc, x with
    | 0, [a1, a2, a3, a4] => b_X12_brings_0 n d (f_X12_brings n) S a1 a2 a3 a4
    | _, _ => none
theorem e_X12_brings_0 {n d : Nat} {S : GS} {a1 : Int} {a2 : Int} {a3 : Int} {a4 : Int} : f_X12_brings (n + 1) d 0 S [a1, a2, a3, a4] = b_X12_brings_0 n d (f_X12_brings n) S a1 a2 a3 a4 := rfl

def b_X12_ordered_0 (n d : Nat) (rec : Nat → Nat → GS → List Int → Option (Int × GS)) (S : GS) (a1 : Int) (a2 : Int) (a3 : Int) (a4 : Int) : Option (Int × GS) :=
  gg (inr a4) <|
  if a4 ≠ (-1) then (
    gg (1 ≤ d) <|
    gc (f_X12_part n (d - 1) 0 S [a3, a4, 4]) fun x4 S_5 =>
    rec d 18 S_5 [a1, a2, a3, a4, x4]
  ) else (
    rec d 18 S [a1, a2, a3, a4, 0]
  )
def b_X12_ordered_18 (n d : Nat) (rec : Nat → Nat → GS → List Int → Option (Int × GS)) (S : GS) (a1 : Int) (a2 : Int) (a3 : Int) (a4 : Int) (s0 : Int) : Option (Int × GS) :=
  gv (bi (S.2.1 500 38)) fun x1 =>
  gg (inr x1) <|
  if x1 ≠ 0 then (
    rec d 58 S [a1, a2, a3, a4, 1]
  ) else (
    gv (S.1 500 29) fun x5 =>
    gg (inr x5) <|
    if 40 < x5 then (
      rec d 58 S [a1, a2, a3, a4, 1]
    ) else (
      gg (0 ≤ a1 ∧ a1 < ((48 : Nat) : Int) ∧ a1 < 2147483648) <|
      gv (S.1 502 (a1 : Int).toNat) fun x10 =>
      gv (x10 + 3) fun x12 =>
      gv (x12 + s0) fun x14 =>
      gg (inr x14) <|
      if x14 ≤ 100 then (
        rec d 58 S [a1, a2, a3, a4, 0]
      ) else (
        rec d 58 S [a1, a2, a3, a4, 1]
      )
    )
  )
def b_X12_ordered_58 (n d : Nat) (rec : Nat → Nat → GS → List Int → Option (Int × GS)) (S : GS) (a1 : Int) (a2 : Int) (a3 : Int) (a4 : Int) (s0 : Int) : Option (Int × GS) :=
  gg (s0 = 0 ∨ s0 = 1) <|
  gv (gB S 500 38 (decide ((s0 : Int) = 1))) fun S_2 =>
  gg (1 ≤ d) <|
  gc (f_X12_at n (d - 1) 0 S_2 [a1, 0]) fun x5 S_6 =>
  gv (x5 + 3) fun x8 =>
  gg (0 ≤ x8 ∧ x8 < ((295728 : Nat) : Int) ∧ x8 < 2147483648) <|
  gv (S_6.1 501 (x8 : Int).toNat) fun x11 =>
  gv (x11 + 1) fun x13 =>
  gv (gI S_6 501 (x8 : Int).toNat x13) fun S_15 =>
  gc (f_X12_added n (d - 1) 0 S_15 [a1, 5]) fun x17 S_18 =>
  gc (f_X12_at n (d - 1) 0 S_18 [a1, x17]) fun x20 S_21 =>
  gv (x20 + 3) fun x23 =>
  gg (inr a4) <|
  if a4 ≠ (-1) then (
    rec d 108 S_21 [a1, a2, a3, a4, 3, x23]
  ) else (
    rec d 108 S_21 [a1, a2, a3, a4, 2, x23]
  )
def b_X12_ordered_108 (n d : Nat) (rec : Nat → Nat → GS → List Int → Option (Int × GS)) (S : GS) (a1 : Int) (a2 : Int) (a3 : Int) (a4 : Int) (s0 : Int) (s1 : Int) : Option (Int × GS) :=
  gg (0 ≤ s1 ∧ s1 < ((295728 : Nat) : Int) ∧ s1 < 2147483648) <|
  gv (gI S 501 (s1 : Int).toNat s0) fun S_2 =>
  gg (1 ≤ d) <|
  gc (f_X12_added n (d - 1) 0 S_2 [a1, 3]) fun x5 S_6 =>
  gc (f_X12_named n (d - 1) 0 S_6 [a1, x5, 8029918135601594368]) fun x8 S_9 =>
  gg (0 ≤ a2 ∧ a2 < ((6 : Nat) : Int) ∧ a2 < 2147483648) <|
  gv ((gl_ops.getD (a2 : Int).toNat 0).toInt) fun x12 =>
  gc (f_X12_says n (d - 1) 0 S_9 [x12]) fun x14 S_15 =>
  gc (f_X12_textIs n (d - 1) 0 S_15 [a1, x5]) fun x17 S_18 =>
  gc (f_X12_added n (d - 1) 0 S_18 [a1, 3]) fun x20 S_21 =>
  gc (f_X12_named n (d - 1) 0 S_21 [a1, x20, 8097881595014283264]) fun x23 S_24 =>
  gv (S_24.1 500 29) fun x26 =>
  gg (inr x26) <|
  if x26 ≤ 40 then (
    gv (S_24.1 500 29) fun x30 =>
    gv (gI S_24 500 13 x30) fun S_32 =>
    rec d 187 S_32 [a1, a3, a4, x20, 0]
  ) else (
    gv (gI S_24 500 13 40) fun S_34 =>
    rec d 187 S_34 [a1, a3, a4, x20, 0]
  )
def b_X12_ordered_187 (n d : Nat) (rec : Nat → Nat → GS → List Int → Option (Int × GS)) (S : GS) (a1 : Int) (a3 : Int) (a4 : Int) (a7 : Int) (a8 : Int) : Option (Int × GS) :=
  gv (S.1 500 13) fun x1 =>
  gg (inr a8) <|
  gg (inr x1) <|
  if x1 ≤ a8 then (
    gg (1 ≤ d) <|
    gc (f_X12_textIs n (d - 1) 0 S [a1, a7]) fun x7 S_8 =>
    gg (inr a4) <|
    if a4 = (-1) then (
      some (0, S_8)
    ) else (
      gc (f_X12_says n (d - 1) 0 S_8 [8530218420677902336]) fun x12 S_13 =>
      gc (f_X12_brings n (d - 1) 0 S_13 [a1, a3, a4, 1]) fun x15 S_16 =>
      some (0, S_16)
    )
  ) else (
    gg (0 ≤ a8 ∧ a8 < ((1000 : Nat) : Int) ∧ a8 < 2147483648) <|
    gv (S.1 518 (a8 : Int).toNat) fun x19 =>
    gv (gI S 507 (a8 : Int).toNat x19) fun S_21 =>
    gv (a8 + 1) fun x23 =>
    rec d 187 S_21 [a1, a3, a4, a7, x23]
  )
def f_X12_ordered : Nat → Nat → Nat → GS → List Int → Option (Int × GS)
  | 0, _, _, _, _ => none
  | n + 1, d, pc, S, x => match pc, x with
    | 0, [a1, a2, a3, a4] => b_X12_ordered_0 n d (f_X12_ordered n) S a1 a2 a3 a4
    | 18, [a1, a2, a3, a4, s0] => b_X12_ordered_18 n d (f_X12_ordered n) S a1 a2 a3 a4 s0
    | 58, [a1, a2, a3, a4, s0] => b_X12_ordered_58 n d (f_X12_ordered n) S a1 a2 a3 a4 s0
    | 108, [a1, a2, a3, a4, s0, s1] => b_X12_ordered_108 n d (f_X12_ordered n) S a1 a2 a3 a4 s0 s1
    | 187, [a1, a3, a4, a7, a8] => b_X12_ordered_187 n d (f_X12_ordered n) S a1 a3 a4 a7 a8
    | _, _ => none
theorem e_X12_ordered_0 {n d : Nat} {S : GS} {a1 : Int} {a2 : Int} {a3 : Int} {a4 : Int} : f_X12_ordered (n + 1) d 0 S [a1, a2, a3, a4] = b_X12_ordered_0 n d (f_X12_ordered n) S a1 a2 a3 a4 := rfl
theorem e_X12_ordered_18 {n d : Nat} {S : GS} {a1 : Int} {a2 : Int} {a3 : Int} {a4 : Int} {s0 : Int} : f_X12_ordered (n + 1) d 18 S [a1, a2, a3, a4, s0] = b_X12_ordered_18 n d (f_X12_ordered n) S a1 a2 a3 a4 s0 := rfl
theorem e_X12_ordered_58 {n d : Nat} {S : GS} {a1 : Int} {a2 : Int} {a3 : Int} {a4 : Int} {s0 : Int} : f_X12_ordered (n + 1) d 58 S [a1, a2, a3, a4, s0] = b_X12_ordered_58 n d (f_X12_ordered n) S a1 a2 a3 a4 s0 := rfl
theorem e_X12_ordered_108 {n d : Nat} {S : GS} {a1 : Int} {a2 : Int} {a3 : Int} {a4 : Int} {s0 : Int} {s1 : Int} : f_X12_ordered (n + 1) d 108 S [a1, a2, a3, a4, s0, s1] = b_X12_ordered_108 n d (f_X12_ordered n) S a1 a2 a3 a4 s0 s1 := rfl
theorem e_X12_ordered_187 {n d : Nat} {S : GS} {a1 : Int} {a3 : Int} {a4 : Int} {a7 : Int} {a8 : Int} : f_X12_ordered (n + 1) d 187 S [a1, a3, a4, a7, a8] = b_X12_ordered_187 n d (f_X12_ordered n) S a1 a3 a4 a7 a8 := rfl

def b_X12_addsKeys_0 (n d : Nat) (rec : Nat → Nat → GS → List Int → Option (Int × GS)) (S : GS) (a1 : Int) (a2 : Int) (a3 : Int) (a4 : Int) : Option (Int × GS) :=
  gv (a4 + 1) fun x1 =>
  rec d 9 S [a1, a2, a3, a4, x1, 0]
def b_X12_addsKeys_9 (n d : Nat) (rec : Nat → Nat → GS → List Int → Option (Int × GS)) (S : GS) (a1 : Int) (a2 : Int) (a3 : Int) (a4 : Int) (a5 : Int) (a6 : Int) : Option (Int × GS) :=
  gg (1 ≤ d) <|
  gc (f_X12_part n (d - 1) 0 S [a3, a4, 3]) fun x2 S_3 =>
  gg (inr a6) <|
  gg (inr x2) <|
  if x2 ≤ a6 then (
    some (0, S_3)
  ) else (
    gc (f_X12_childLike n (d - 1) 0 S_3 [a1, a2, a3, a5]) fun x8 S_9 =>
    gg (inr x8) <|
    if x8 ≠ (-1) then (
      gc (f_X12_endOf n (d - 1) 0 S_9 [a3, a5]) fun x13 S_14 =>
      gv (a6 + 1) fun x16 =>
      rec d 9 S_14 [a1, a2, a3, a4, x13, x16]
    ) else (
      gc (f_X12_pathOfNode n (d - 1) 0 S_9 [a1, a2]) fun x18 S_19 =>
      gc (f_X12_addsStep n (d - 1) 0 S_19 [a3, a5]) fun x21 S_22 =>
      gc (f_X12_ordered n (d - 1) 0 S_22 [40, 0, a3, a5]) fun x24 S_25 =>
      gc (f_X12_endOf n (d - 1) 0 S_25 [a3, a5]) fun x27 S_28 =>
      gv (a6 + 1) fun x30 =>
      rec d 9 S_28 [a1, a2, a3, a4, x27, x30]
    )
  )
def f_X12_addsKeys : Nat → Nat → Nat → GS → List Int → Option (Int × GS)
  | 0, _, _, _, _ => none
  | n + 1, d, pc, S, x => match pc, x with
    | 0, [a1, a2, a3, a4] => b_X12_addsKeys_0 n d (f_X12_addsKeys n) S a1 a2 a3 a4
    | 9, [a1, a2, a3, a4, a5, a6] => b_X12_addsKeys_9 n d (f_X12_addsKeys n) S a1 a2 a3 a4 a5 a6
    | _, _ => none
theorem e_X12_addsKeys_0 {n d : Nat} {S : GS} {a1 : Int} {a2 : Int} {a3 : Int} {a4 : Int} : f_X12_addsKeys (n + 1) d 0 S [a1, a2, a3, a4] = b_X12_addsKeys_0 n d (f_X12_addsKeys n) S a1 a2 a3 a4 := rfl
theorem e_X12_addsKeys_9 {n d : Nat} {S : GS} {a1 : Int} {a2 : Int} {a3 : Int} {a4 : Int} {a5 : Int} {a6 : Int} : f_X12_addsKeys (n + 1) d 9 S [a1, a2, a3, a4, a5, a6] = b_X12_addsKeys_9 n d (f_X12_addsKeys n) S a1 a2 a3 a4 a5 a6 := rfl

def b_X12_addsPlace_0 (n d : Nat) (rec : Nat → Nat → GS → List Int → Option (Int × GS)) (S : GS) (a1 : Int) : Option (Int × GS) :=
  gg ((0 : Int) ≤ 0 ∧ (0 : Int) < ((2 : Nat) : Int) ∧ (0 : Int) < 2147483648) <|
  gv (gI S 517 (0 : Int).toNat 0) fun S_2 =>
  gg (1 ≤ d) <|
  gc (f_X12_puts n (d - 1) 0 S_2 [0, 47]) fun x5 S_6 =>
  gc (f_X12_putsInt n (d - 1) 0 S_6 [0, a1]) fun x8 S_9 =>
  rec d 22 S_9 [0]
def b_X12_addsPlace_22 (n d : Nat) (rec : Nat → Nat → GS → List Int → Option (Int × GS)) (S : GS) (a2 : Int) : Option (Int × GS) :=
  gg ((0 : Int) ≤ 0 ∧ (0 : Int) < ((2 : Nat) : Int) ∧ (0 : Int) < 2147483648) <|
  gv (S.1 517 (0 : Int).toNat) fun x2 =>
  gg (inr a2) <|
  gg (inr x2) <|
  if x2 ≤ a2 then (
    some (0, S)
  ) else (
    gv (S.1 500 29) fun x7 =>
    gg (0 ≤ a2 ∧ a2 < ((80000 : Nat) : Int) ∧ a2 < 2147483648) <|
    gv (S.1 516 (a2 : Int).toNat) fun x10 =>
    gg (0 ≤ x7 ∧ x7 < ((1000 : Nat) : Int) ∧ x7 < 2147483648) <|
    gv (gI S 518 (x7 : Int).toNat x10) fun S_13 =>
    gv (S_13.1 500 29) fun x15 =>
    gv (x15 + 1) fun x17 =>
    gv (gI S_13 500 29 x17) fun S_19 =>
    gv (a2 + 1) fun x21 =>
    rec d 22 S_19 [x21]
  )
def f_X12_addsPlace : Nat → Nat → Nat → GS → List Int → Option (Int × GS)
  | 0, _, _, _, _ => none
  | n + 1, d, pc, S, x => match pc, x with
    | 0, [a1] => b_X12_addsPlace_0 n d (f_X12_addsPlace n) S a1
    | 22, [a2] => b_X12_addsPlace_22 n d (f_X12_addsPlace n) S a2
    | _, _ => none
theorem e_X12_addsPlace_0 {n d : Nat} {S : GS} {a1 : Int} : f_X12_addsPlace (n + 1) d 0 S [a1] = b_X12_addsPlace_0 n d (f_X12_addsPlace n) S a1 := rfl
theorem e_X12_addsPlace_22 {n d : Nat} {S : GS} {a2 : Int} : f_X12_addsPlace (n + 1) d 22 S [a2] = b_X12_addsPlace_22 n d (f_X12_addsPlace n) S a2 := rfl

def b_X12_addsWord_0 (n d : Nat) (rec : Nat → Nat → GS → List Int → Option (Int × GS)) (S : GS) : Option (Int × GS) :=
  gv (S.1 500 29) fun x1 =>
  gg (0 ≤ x1 ∧ x1 < ((1000 : Nat) : Int) ∧ x1 < 2147483648) <|
  gv (gI S 518 (x1 : Int).toNat 47) fun S_4 =>
  gv (S_4.1 500 29) fun x6 =>
  gv (x6 + 1) fun x8 =>
  gv (gI S_4 500 29 x8) fun S_10 =>
  rec d 23 S_10 [0]
def b_X12_addsWord_23 (n d : Nat) (rec : Nat → Nat → GS → List Int → Option (Int × GS)) (S : GS) (a1 : Int) : Option (Int × GS) :=
  gv (S.1 500 13) fun x1 =>
  gg (inr a1) <|
  gg (inr x1) <|
  if x1 ≤ a1 then (
    some (0, S)
  ) else (
    gg (0 ≤ a1 ∧ a1 < ((1000 : Nat) : Int) ∧ a1 < 2147483648) <|
    gv (S.1 507 (a1 : Int).toNat) fun x7 =>
    gg (inr x7) <|
    if x7 = 126 then (
      rec d 58 S [a1, 1]
    ) else (
      gv (S.1 507 (a1 : Int).toNat) fun x11 =>
      gg (inr x11) <|
      if x11 ≠ 47 then (
        rec d 58 S [a1, 0]
      ) else (
        rec d 58 S [a1, 1]
      )
    )
  )
def b_X12_addsWord_58 (n d : Nat) (rec : Nat → Nat → GS → List Int → Option (Int × GS)) (S : GS) (a1 : Int) (s0 : Int) : Option (Int × GS) :=
  gv (S.1 500 29) fun x1 =>
  gg (inr s0) <|
  if s0 = 0 then (
    gg (0 ≤ a1 ∧ a1 < ((1000 : Nat) : Int) ∧ a1 < 2147483648) <|
    gv (S.1 507 (a1 : Int).toNat) fun x6 =>
    rec d 82 S [a1, s0, x6, x1]
  ) else (
    rec d 82 S [a1, s0, 126, x1]
  )
def b_X12_addsWord_82 (n d : Nat) (rec : Nat → Nat → GS → List Int → Option (Int × GS)) (S : GS) (a1 : Int) (a2 : Int) (s0 : Int) (s1 : Int) : Option (Int × GS) :=
  gg (0 ≤ s1 ∧ s1 < ((1000 : Nat) : Int) ∧ s1 < 2147483648) <|
  gv (gI S 518 (s1 : Int).toNat s0) fun S_2 =>
  gv (S_2.1 500 29) fun x4 =>
  gv (x4 + 1) fun x6 =>
  gv (gI S_2 500 29 x6) fun S_8 =>
  gg (inr a2) <|
  if a2 = 0 then (
    gv (a1 + 1) fun x12 =>
    rec d 23 S_8 [x12]
  ) else (
    gv (S_8.1 500 29) fun x14 =>
    gg (0 ≤ a1 ∧ a1 < ((1000 : Nat) : Int) ∧ a1 < 2147483648) <|
    gv (S_8.1 507 (a1 : Int).toNat) fun x17 =>
    gg (inr x17) <|
    if x17 ≠ 126 then (
      rec d 123 S_8 [a1, 49, x14]
    ) else (
      rec d 123 S_8 [a1, 48, x14]
    )
  )
def b_X12_addsWord_123 (n d : Nat) (rec : Nat → Nat → GS → List Int → Option (Int × GS)) (S : GS) (a1 : Int) (s0 : Int) (s1 : Int) : Option (Int × GS) :=
  gg (0 ≤ s1 ∧ s1 < ((1000 : Nat) : Int) ∧ s1 < 2147483648) <|
  gv (gI S 518 (s1 : Int).toNat s0) fun S_2 =>
  gv (S_2.1 500 29) fun x4 =>
  gv (x4 + 1) fun x6 =>
  gv (gI S_2 500 29 x6) fun S_8 =>
  gv (a1 + 1) fun x10 =>
  rec d 23 S_8 [x10]
def f_X12_addsWord : Nat → Nat → Nat → GS → List Int → Option (Int × GS)
  | 0, _, _, _, _ => none
  | n + 1, d, pc, S, x => match pc, x with
    | 0, [] => b_X12_addsWord_0 n d (f_X12_addsWord n) S 
    | 23, [a1] => b_X12_addsWord_23 n d (f_X12_addsWord n) S a1
    | 58, [a1, s0] => b_X12_addsWord_58 n d (f_X12_addsWord n) S a1 s0
    | 82, [a1, a2, s0, s1] => b_X12_addsWord_82 n d (f_X12_addsWord n) S a1 a2 s0 s1
    | 123, [a1, s0, s1] => b_X12_addsWord_123 n d (f_X12_addsWord n) S a1 s0 s1
    | _, _ => none
theorem e_X12_addsWord_0 {n d : Nat} {S : GS} : f_X12_addsWord (n + 1) d 0 S [] = b_X12_addsWord_0 n d (f_X12_addsWord n) S  := rfl
theorem e_X12_addsWord_23 {n d : Nat} {S : GS} {a1 : Int} : f_X12_addsWord (n + 1) d 23 S [a1] = b_X12_addsWord_23 n d (f_X12_addsWord n) S a1 := rfl
theorem e_X12_addsWord_58 {n d : Nat} {S : GS} {a1 : Int} {s0 : Int} : f_X12_addsWord (n + 1) d 58 S [a1, s0] = b_X12_addsWord_58 n d (f_X12_addsWord n) S a1 s0 := rfl
theorem e_X12_addsWord_82 {n d : Nat} {S : GS} {a1 : Int} {a2 : Int} {s0 : Int} {s1 : Int} : f_X12_addsWord (n + 1) d 82 S [a1, a2, s0, s1] = b_X12_addsWord_82 n d (f_X12_addsWord n) S a1 a2 s0 s1 := rfl
theorem e_X12_addsWord_123 {n d : Nat} {S : GS} {a1 : Int} {s0 : Int} {s1 : Int} : f_X12_addsWord (n + 1) d 123 S [a1, s0, s1] = b_X12_addsWord_123 n d (f_X12_addsWord n) S a1 s0 s1 := rfl

def b_X12_putsLetters_0 (n d : Nat) (rec : Nat → Nat → GS → List Int → Option (Int × GS)) (S : GS) (a1 : Int) (a2 : Int) : Option (Int × GS) :=
  rec d 4 S [a1, a2, 7]
def b_X12_putsLetters_4 (n d : Nat) (rec : Nat → Nat → GS → List Int → Option (Int × GS)) (S : GS) (a1 : Int) (a2 : Int) (a4 : Int) : Option (Int × GS) :=
  gg (inr a4) <|
  if a4 < 0 then (
    some (0, S)
  ) else (
    gv (8 * a4) fun x3 =>
    gg (0 ≤ x3 ∧ x3 < 64) <|
    gg (inl a2) <|
    gv (a2 / ((2 ^ (x3 : Int).toNat : Nat) : Int)) fun x7 =>
    gv (x7 % 256) fun x9 =>
    gg (inr x9) <|
    if x9 = 0 then (
      gv (a4 + (-1)) fun x13 =>
      rec d 4 S [a1, a2, x13]
    ) else (
      gg (1 ≤ d) <|
      gc (f_X12_puts n (d - 1) 0 S [a1, x9]) fun x16 S_17 =>
      gv (a4 + (-1)) fun x19 =>
      rec d 4 S_17 [a1, a2, x19]
    )
  )
def f_X12_putsLetters : Nat → Nat → Nat → GS → List Int → Option (Int × GS)
  | 0, _, _, _, _ => none
  | n + 1, d, pc, S, x => match pc, x with
    | 0, [a1, a2] => b_X12_putsLetters_0 n d (f_X12_putsLetters n) S a1 a2
    | 4, [a1, a2, a4] => b_X12_putsLetters_4 n d (f_X12_putsLetters n) S a1 a2 a4
    | _, _ => none
theorem e_X12_putsLetters_0 {n d : Nat} {S : GS} {a1 : Int} {a2 : Int} : f_X12_putsLetters (n + 1) d 0 S [a1, a2] = b_X12_putsLetters_0 n d (f_X12_putsLetters n) S a1 a2 := rfl
theorem e_X12_putsLetters_4 {n d : Nat} {S : GS} {a1 : Int} {a2 : Int} {a4 : Int} : f_X12_putsLetters (n + 1) d 4 S [a1, a2, a4] = b_X12_putsLetters_4 n d (f_X12_putsLetters n) S a1 a2 a4 := rfl

def b_X12_hexSign_0 (n d : Nat) (rec : Nat → Nat → GS → List Int → Option (Int × GS)) (S : GS) (a0 : Int) : Option (Int × GS) :=
  gg (inr a0) <|
  if 10 ≤ a0 then (
    gv (97 + a0) fun x3 =>
    gv (x3 - 10) fun x5 =>
    some (x5, S)
  ) else (
    gv (48 + a0) fun x7 =>
    some (x7, S)
  )
def f_X12_hexSign : Nat → Nat → Nat → GS → List Int → Option (Int × GS)
  | 0, _, _, _, _ => none
  | n + 1, d, pc, S, x => match pc, x with
    | 0, [a0] => b_X12_hexSign_0 n d (f_X12_hexSign n) S a0
    | _, _ => none
theorem e_X12_hexSign_0 {n d : Nat} {S : GS} {a0 : Int} : f_X12_hexSign (n + 1) d 0 S [a0] = b_X12_hexSign_0 n d (f_X12_hexSign n) S a0 := rfl

def b_X12_putsQuoted_0 (n d : Nat) (rec : Nat → Nat → GS → List Int → Option (Int × GS)) (S : GS) (a1 : Int) (a2 : Int) (a3 : Int) : Option (Int × GS) :=
  gg (1 ≤ d) <|
  gc (f_X12_puts n (d - 1) 0 S [a1, 34]) fun x2 S_3 =>
  rec d 10 S_3 [a1, a2, a3, a2]
def b_X12_putsQuoted_10 (n d : Nat) (rec : Nat → Nat → GS → List Int → Option (Int × GS)) (S : GS) (a1 : Int) (a2 : Int) (a3 : Int) (a4 : Int) : Option (Int × GS) :=
  gv (a2 + a3) fun x1 =>
  gg (inr a4) <|
  gg (inr x1) <|
  if x1 ≤ a4 then (
    gg (1 ≤ d) <|
    gc (f_X12_puts n (d - 1) 0 S [a1, 34]) fun x7 S_8 =>
    some (0, S_8)
  ) else (
    gg (0 ≤ a4 ∧ a4 < ((295728 : Nat) : Int) ∧ a4 < 2147483648) <|
    gv (S.1 501 (a4 : Int).toNat) fun x11 =>
    gg (inr x11) <|
    if x11 < 32 then (
      rec d 41 S [a1, a2, a3, a4, x11]
    ) else (
      if x11 ≤ 126 then (
        if x11 = 34 then (
          rec d 112 S [a1, a2, a3, a4, x11]
        ) else (
          if x11 ≠ 92 then (
            gg (1 ≤ d) <|
            gc (f_X12_puts n (d - 1) 0 S [a1, x11]) fun x19 S_20 =>
            gv (a4 + 1) fun x22 =>
            rec d 10 S_20 [a1, a2, a3, x22]
          ) else (
            rec d 112 S [a1, a2, a3, a4, x11]
          )
        )
      ) else (
        rec d 41 S [a1, a2, a3, a4, x11]
      )
    )
  )
def b_X12_putsQuoted_41 (n d : Nat) (rec : Nat → Nat → GS → List Int → Option (Int × GS)) (S : GS) (a1 : Int) (a2 : Int) (a3 : Int) (a4 : Int) (a5 : Int) : Option (Int × GS) :=
  gg (1 ≤ d) <|
  gc (f_X12_puts n (d - 1) 0 S [a1, 92]) fun x2 S_3 =>
  gc (f_X12_puts n (d - 1) 0 S_3 [a1, 117]) fun x5 S_6 =>
  gc (f_X12_puts n (d - 1) 0 S_6 [a1, 48]) fun x8 S_9 =>
  gc (f_X12_puts n (d - 1) 0 S_9 [a1, 48]) fun x11 S_12 =>
  gg ((0 ≤ a5 ∧ a5 < 2147483648) ∧ ((0 : Int) < 16 ∧ (16 : Int) < 2147483648)) <|
  gv (a5 / 16) fun x15 =>
  gc (f_X12_hexSign n (d - 1) 0 S_12 [x15]) fun x17 S_18 =>
  gc (f_X12_puts n (d - 1) 0 S_18 [a1, x17]) fun x20 S_21 =>
  gg ((0 ≤ a5 ∧ a5 < 2147483648) ∧ ((0 : Int) < 16 ∧ (16 : Int) < 2147483648)) <|
  gv (a5 % 16) fun x24 =>
  gc (f_X12_hexSign n (d - 1) 0 S_21 [x24]) fun x26 S_27 =>
  gc (f_X12_puts n (d - 1) 0 S_27 [a1, x26]) fun x29 S_30 =>
  gv (a4 + 1) fun x32 =>
  rec d 10 S_30 [a1, a2, a3, x32]
def b_X12_putsQuoted_112 (n d : Nat) (rec : Nat → Nat → GS → List Int → Option (Int × GS)) (S : GS) (a1 : Int) (a2 : Int) (a3 : Int) (a4 : Int) (a5 : Int) : Option (Int × GS) :=
  gg (1 ≤ d) <|
  gc (f_X12_puts n (d - 1) 0 S [a1, 92]) fun x2 S_3 =>
  gc (f_X12_puts n (d - 1) 0 S_3 [a1, a5]) fun x5 S_6 =>
  gv (a4 + 1) fun x8 =>
  rec d 10 S_6 [a1, a2, a3, x8]
def f_X12_putsQuoted : Nat → Nat → Nat → GS → List Int → Option (Int × GS)
  | 0, _, _, _, _ => none
  | n + 1, d, pc, S, x => match pc, x with
    | 0, [a1, a2, a3] => b_X12_putsQuoted_0 n d (f_X12_putsQuoted n) S a1 a2 a3
    | 10, [a1, a2, a3, a4] => b_X12_putsQuoted_10 n d (f_X12_putsQuoted n) S a1 a2 a3 a4
    | 41, [a1, a2, a3, a4, a5] => b_X12_putsQuoted_41 n d (f_X12_putsQuoted n) S a1 a2 a3 a4 a5
    | 112, [a1, a2, a3, a4, a5] => b_X12_putsQuoted_112 n d (f_X12_putsQuoted n) S a1 a2 a3 a4 a5
    | _, _ => none
theorem e_X12_putsQuoted_0 {n d : Nat} {S : GS} {a1 : Int} {a2 : Int} {a3 : Int} : f_X12_putsQuoted (n + 1) d 0 S [a1, a2, a3] = b_X12_putsQuoted_0 n d (f_X12_putsQuoted n) S a1 a2 a3 := rfl
theorem e_X12_putsQuoted_10 {n d : Nat} {S : GS} {a1 : Int} {a2 : Int} {a3 : Int} {a4 : Int} : f_X12_putsQuoted (n + 1) d 10 S [a1, a2, a3, a4] = b_X12_putsQuoted_10 n d (f_X12_putsQuoted n) S a1 a2 a3 a4 := rfl
theorem e_X12_putsQuoted_41 {n d : Nat} {S : GS} {a1 : Int} {a2 : Int} {a3 : Int} {a4 : Int} {a5 : Int} : f_X12_putsQuoted (n + 1) d 41 S [a1, a2, a3, a4, a5] = b_X12_putsQuoted_41 n d (f_X12_putsQuoted n) S a1 a2 a3 a4 a5 := rfl
theorem e_X12_putsQuoted_112 {n d : Nat} {S : GS} {a1 : Int} {a2 : Int} {a3 : Int} {a4 : Int} {a5 : Int} : f_X12_putsQuoted (n + 1) d 112 S [a1, a2, a3, a4, a5] = b_X12_putsQuoted_112 n d (f_X12_putsQuoted n) S a1 a2 a3 a4 a5 := rfl

def b_X12_putsScalar_0 (n d : Nat) (rec : Nat → Nat → GS → List Int → Option (Int × GS)) (S : GS) (a1 : Int) (a2 : Int) (a3 : Int) : Option (Int × GS) :=
  gg (1 ≤ d) <|
  gc (f_X12_at n (d - 1) 0 S [a2, a3]) fun x2 S_3 =>
  gg (0 ≤ x2 ∧ x2 < ((295728 : Nat) : Int) ∧ x2 < 2147483648) <|
  gv (S_3.1 501 (x2 : Int).toNat) fun x6 =>
  gg (inr x6) <|
  if x6 ≠ 0 then (
    if x6 ≠ 1 then (
      if x6 ≠ 3 then (
        if x6 ≠ 2 then (
          if x6 ≠ 4 then (
            rec d 219 S_3 [a1, x6, 123, a1]
          ) else (
            rec d 219 S_3 [a1, x6, 91, a1]
          )
        ) else (
          gv (x2 + 19) fun x14 =>
          gg (0 ≤ x14 ∧ x14 < ((295728 : Nat) : Int) ∧ x14 < 2147483648) <|
          gv (S_3.1 501 (x14 : Int).toNat) fun x17 =>
          gg (inr x17) <|
          if 0 ≤ x17 then (
            rec d 127 S_3 [a1, x2, 0]
          ) else (
            gc (f_X12_puts n (d - 1) 0 S_3 [a1, 45]) fun x21 S_22 =>
            rec d 127 S_22 [a1, x2, 0]
          )
        )
      ) else (
        gv (x2 + 21) fun x24 =>
        gv (x2 + 18) fun x26 =>
        gg (0 ≤ x26 ∧ x26 < ((295728 : Nat) : Int) ∧ x26 < 2147483648) <|
        gv (S_3.1 501 (x26 : Int).toNat) fun x29 =>
        gc (f_X12_putsQuoted n (d - 1) 0 S_3 [a1, x24, x29]) fun x31 S_32 =>
        some (0, S_32)
      )
    ) else (
      gv (x2 + 19) fun x34 =>
      gg (0 ≤ x34 ∧ x34 < ((295728 : Nat) : Int) ∧ x34 < 2147483648) <|
      gv (S_3.1 501 (x34 : Int).toNat) fun x37 =>
      gg (inr x37) <|
      if x37 ≠ 1 then (
        gc (f_X12_putsLetters n (d - 1) 0 S_3 [a1, 7377296907481120768]) fun x41 S_42 =>
        some (0, S_42)
      ) else (
        gc (f_X12_putsLetters n (d - 1) 0 S_3 [a1, 8390898132396802048]) fun x44 S_45 =>
        some (0, S_45)
      )
    )
  ) else (
    gc (f_X12_putsLetters n (d - 1) 0 S_3 [a1, 7959387127559487488]) fun x47 S_48 =>
    some (0, S_48)
  )
def b_X12_putsScalar_127 (n d : Nat) (rec : Nat → Nat → GS → List Int → Option (Int × GS)) (S : GS) (a1 : Int) (a4 : Int) (a6 : Int) : Option (Int × GS) :=
  gv (a4 + 18) fun x1 =>
  gg (0 ≤ x1 ∧ x1 < ((295728 : Nat) : Int) ∧ x1 < 2147483648) <|
  gv (S.1 501 (x1 : Int).toNat) fun x4 =>
  gg (inr a6) <|
  gg (inr x4) <|
  if x4 ≤ a6 then (
    gv (a4 + 20) fun x9 =>
    gg (0 ≤ x9 ∧ x9 < ((295728 : Nat) : Int) ∧ x9 < 2147483648) <|
    gv (S.1 501 (x9 : Int).toNat) fun x12 =>
    gg (inr x12) <|
    if x12 = 0 then (
      some (0, S)
    ) else (
      gg (1 ≤ d) <|
      gc (f_X12_puts n (d - 1) 0 S [a1, 101]) fun x17 S_18 =>
      gv (a4 + 20) fun x20 =>
      gg (0 ≤ x20 ∧ x20 < ((295728 : Nat) : Int) ∧ x20 < 2147483648) <|
      gv (S_18.1 501 (x20 : Int).toNat) fun x23 =>
      gc (f_X12_putsInt n (d - 1) 0 S_18 [a1, x23]) fun x25 S_26 =>
      some (0, S_26)
    )
  ) else (
    gv (a4 + 21) fun x28 =>
    gv (x28 + a6) fun x30 =>
    gg (0 ≤ x30 ∧ x30 < ((295728 : Nat) : Int) ∧ x30 < 2147483648) <|
    gv (S.1 501 (x30 : Int).toNat) fun x33 =>
    gg (1 ≤ d) <|
    gc (f_X12_puts n (d - 1) 0 S [a1, x33]) fun x36 S_37 =>
    gv (a6 + 1) fun x39 =>
    rec d 127 S_37 [a1, a4, x39]
  )
def b_X12_putsScalar_219 (n d : Nat) (rec : Nat → Nat → GS → List Int → Option (Int × GS)) (S : GS) (a1 : Int) (a5 : Int) (s0 : Int) (s1 : Int) : Option (Int × GS) :=
  gg (1 ≤ d) <|
  gc (f_X12_puts n (d - 1) 0 S [s1, s0]) fun x2 S_3 =>
  gg (inr a5) <|
  if a5 ≠ 4 then (
    gc (f_X12_puts n (d - 1) 0 S_3 [a1, 125]) fun x7 S_8 =>
    some (0, S_8)
  ) else (
    gc (f_X12_puts n (d - 1) 0 S_3 [a1, 93]) fun x10 S_11 =>
    some (0, S_11)
  )
def f_X12_putsScalar : Nat → Nat → Nat → GS → List Int → Option (Int × GS)
  | 0, _, _, _, _ => none
  | n + 1, d, pc, S, x => match pc, x with
    | 0, [a1, a2, a3] => b_X12_putsScalar_0 n d (f_X12_putsScalar n) S a1 a2 a3
    | 127, [a1, a4, a6] => b_X12_putsScalar_127 n d (f_X12_putsScalar n) S a1 a4 a6
    | 219, [a1, a5, s0, s1] => b_X12_putsScalar_219 n d (f_X12_putsScalar n) S a1 a5 s0 s1
    | _, _ => none
theorem e_X12_putsScalar_0 {n d : Nat} {S : GS} {a1 : Int} {a2 : Int} {a3 : Int} : f_X12_putsScalar (n + 1) d 0 S [a1, a2, a3] = b_X12_putsScalar_0 n d (f_X12_putsScalar n) S a1 a2 a3 := rfl
theorem e_X12_putsScalar_127 {n d : Nat} {S : GS} {a1 : Int} {a4 : Int} {a6 : Int} : f_X12_putsScalar (n + 1) d 127 S [a1, a4, a6] = b_X12_putsScalar_127 n d (f_X12_putsScalar n) S a1 a4 a6 := rfl
theorem e_X12_putsScalar_219 {n d : Nat} {S : GS} {a1 : Int} {a5 : Int} {s0 : Int} {s1 : Int} : f_X12_putsScalar (n + 1) d 219 S [a1, a5, s0, s1] = b_X12_putsScalar_219 n d (f_X12_putsScalar n) S a1 a5 s0 s1 := rfl

def b_X12_isLater_0 (n d : Nat) (rec : Nat → Nat → GS → List Int → Option (Int × GS)) (S : GS) (a1 : Int) (a2 : Int) (a3 : Int) : Option (Int × GS) :=
  gv (a2 + 1) fun x1 =>
  rec d 5 S [a1, a3, x1]
def b_X12_isLater_5 (n d : Nat) (rec : Nat → Nat → GS → List Int → Option (Int × GS)) (S : GS) (a1 : Int) (a3 : Int) (a4 : Int) : Option (Int × GS) :=
  gg (inr a4) <|
  gg (inr a3) <|
  if a3 ≤ a4 then (
    some (0, S)
  ) else (
    gg (1 ≤ d) <|
    gc (f_X12_byKeys n (d - 1) 0 S [a1, a4, a1, a3]) fun x5 S_6 =>
    gg (inr x5) <|
    if x5 ≠ 0 then (
      gc (f_X12_endOf n (d - 1) 0 S_6 [a1, a4]) fun x10 S_11 =>
      rec d 5 S_11 [a1, a3, x10]
    ) else (
      some (1, S_6)
    )
  )
def f_X12_isLater : Nat → Nat → Nat → GS → List Int → Option (Int × GS)
  | 0, _, _, _, _ => none
  | n + 1, d, pc, S, x => match pc, x with
    | 0, [a1, a2, a3] => b_X12_isLater_0 n d (f_X12_isLater n) S a1 a2 a3
    | 5, [a1, a3, a4] => b_X12_isLater_5 n d (f_X12_isLater n) S a1 a3 a4
    | _, _ => none
theorem e_X12_isLater_0 {n d : Nat} {S : GS} {a1 : Int} {a2 : Int} {a3 : Int} : f_X12_isLater (n + 1) d 0 S [a1, a2, a3] = b_X12_isLater_0 n d (f_X12_isLater n) S a1 a2 a3 := rfl
theorem e_X12_isLater_5 {n d : Nat} {S : GS} {a1 : Int} {a3 : Int} {a4 : Int} : f_X12_isLater (n + 1) d 5 S [a1, a3, a4] = b_X12_isLater_5 n d (f_X12_isLater n) S a1 a3 a4 := rfl

def b_X12_nextChild_0 (n d : Nat) (rec : Nat → Nat → GS → List Int → Option (Int × GS)) (S : GS) (a1 : Int) (a2 : Int) (a3 : Int) (a4 : Int) : Option (Int × GS) :=
  gg (inr a3) <|
  if a3 ≠ (-1) then (
    gg (1 ≤ d) <|
    gc (f_X12_endOf n (d - 1) 0 S [a1, a3]) fun x4 S_5 =>
    rec d 17 S_5 [a1, a2, a3, a4, x4]
  ) else (
    gv (a2 + 1) fun x7 =>
    rec d 17 S [a1, a2, a3, a4, x7]
  )
def b_X12_nextChild_17 (n d : Nat) (rec : Nat → Nat → GS → List Int → Option (Int × GS)) (S : GS) (a1 : Int) (a2 : Int) (a3 : Int) (a4 : Int) (s0 : Int) : Option (Int × GS) :=
  gg (inr a4) <|
  if a4 = 0 then (
    rec d 34 S [a1, a2, s0]
  ) else (
    gg (1 ≤ d) <|
    gc (f_X12_kind n (d - 1) 0 S [a1, a2]) fun x4 S_5 =>
    gg (inr x4) <|
    if x4 ≠ 4 then (
      if a4 ≠ 1 then (
        rec d 156 S_5 [a1, a2, s0]
      ) else (
        gv (a2 + 1) fun x10 =>
        rec d 69 S_5 [a1, a2, a3, x10, (-1), 0]
      )
    ) else (
      rec d 34 S_5 [a1, a2, s0]
    )
  )
def b_X12_nextChild_34 (n d : Nat) (rec : Nat → Nat → GS → List Int → Option (Int × GS)) (S : GS) (a1 : Int) (a2 : Int) (a5 : Int) : Option (Int × GS) :=
  gg (1 ≤ d) <|
  gc (f_X12_endOf n (d - 1) 0 S [a1, a2]) fun x2 S_3 =>
  gg (inr a5) <|
  gg (inr x2) <|
  if x2 ≤ a5 then (
    some ((-1), S_3)
  ) else (
    some (a5, S_3)
  )
def b_X12_nextChild_69 (n d : Nat) (rec : Nat → Nat → GS → List Int → Option (Int × GS)) (S : GS) (a1 : Int) (a2 : Int) (a3 : Int) (a5 : Int) (a6 : Int) (a7 : Int) : Option (Int × GS) :=
  gg (1 ≤ d) <|
  gc (f_X12_part n (d - 1) 0 S [a1, a2, 3]) fun x2 S_3 =>
  gg (inr a7) <|
  gg (inr x2) <|
  if x2 ≤ a7 then (
    some (a6, S_3)
  ) else (
    gg (inr a3) <|
    if a3 = (-1) then (
      rec d 103 S_3 [a1, a2, a3, a5, a6, a7, 1]
    ) else (
      gc (f_X12_byKeys n (d - 1) 0 S_3 [a1, a5, a1, a3]) fun x10 S_11 =>
      gg (inr x10) <|
      if x10 ≤ 0 then (
        rec d 103 S_11 [a1, a2, a3, a5, a6, a7, 0]
      ) else (
        rec d 103 S_11 [a1, a2, a3, a5, a6, a7, 1]
      )
    )
  )
def b_X12_nextChild_103 (n d : Nat) (rec : Nat → Nat → GS → List Int → Option (Int × GS)) (S : GS) (a1 : Int) (a2 : Int) (a3 : Int) (a5 : Int) (a6 : Int) (a7 : Int) (s0 : Int) : Option (Int × GS) :=
  gg (inr s0) <|
  if s0 = 0 then (
    rec d 136 S [a1, a2, a3, a5, a7, a6]
  ) else (
    gg (inr a6) <|
    if a6 = (-1) then (
      rec d 136 S [a1, a2, a3, a5, a7, a5]
    ) else (
      gg (1 ≤ d) <|
      gc (f_X12_byKeys n (d - 1) 0 S [a1, a5, a1, a6]) fun x6 S_7 =>
      gg (inr x6) <|
      if 0 ≤ x6 then (
        rec d 136 S_7 [a1, a2, a3, a5, a7, a6]
      ) else (
        rec d 136 S_7 [a1, a2, a3, a5, a7, a5]
      )
    )
  )
def b_X12_nextChild_136 (n d : Nat) (rec : Nat → Nat → GS → List Int → Option (Int × GS)) (S : GS) (a1 : Int) (a2 : Int) (a3 : Int) (a5 : Int) (a7 : Int) (s0 : Int) : Option (Int × GS) :=
  gg (1 ≤ d) <|
  gc (f_X12_endOf n (d - 1) 0 S [a1, a5]) fun x2 S_3 =>
  gv (a7 + 1) fun x5 =>
  rec d 69 S_3 [a1, a2, a3, x2, s0, x5]
def b_X12_nextChild_156 (n d : Nat) (rec : Nat → Nat → GS → List Int → Option (Int × GS)) (S : GS) (a1 : Int) (a2 : Int) (a5 : Int) : Option (Int × GS) :=
  gg (1 ≤ d) <|
  gc (f_X12_endOf n (d - 1) 0 S [a1, a2]) fun x2 S_3 =>
  gg (inr a5) <|
  gg (inr x2) <|
  if x2 ≤ a5 then (
    rec d 190 S_3 [a1, a2, a5]
  ) else (
    gc (f_X12_isLater n (d - 1) 0 S_3 [a1, a2, a5]) fun x8 S_9 =>
    gg (inr x8) <|
    if x8 = 0 then (
      rec d 190 S_9 [a1, a2, a5]
    ) else (
      gc (f_X12_endOf n (d - 1) 0 S_9 [a1, a5]) fun x13 S_14 =>
      rec d 156 S_14 [a1, a2, x13]
    )
  )
def b_X12_nextChild_190 (n d : Nat) (rec : Nat → Nat → GS → List Int → Option (Int × GS)) (S : GS) (a1 : Int) (a2 : Int) (a5 : Int) : Option (Int × GS) :=
  gg (1 ≤ d) <|
  gc (f_X12_endOf n (d - 1) 0 S [a1, a2]) fun x2 S_3 =>
  gg (inr a5) <|
  gg (inr x2) <|
  if x2 ≤ a5 then (
    some ((-1), S_3)
  ) else (
    some (a5, S_3)
  )
def f_X12_nextChild : Nat → Nat → Nat → GS → List Int → Option (Int × GS)
  | 0, _, _, _, _ => none
  | n + 1, d, pc, S, x => match pc, x with
    | 0, [a1, a2, a3, a4] => b_X12_nextChild_0 n d (f_X12_nextChild n) S a1 a2 a3 a4
    | 17, [a1, a2, a3, a4, s0] => b_X12_nextChild_17 n d (f_X12_nextChild n) S a1 a2 a3 a4 s0
    | 34, [a1, a2, a5] => b_X12_nextChild_34 n d (f_X12_nextChild n) S a1 a2 a5
    | 69, [a1, a2, a3, a5, a6, a7] => b_X12_nextChild_69 n d (f_X12_nextChild n) S a1 a2 a3 a5 a6 a7
    | 103, [a1, a2, a3, a5, a6, a7, s0] => b_X12_nextChild_103 n d (f_X12_nextChild n) S a1 a2 a3 a5 a6 a7 s0
    | 136, [a1, a2, a3, a5, a7, s0] => b_X12_nextChild_136 n d (f_X12_nextChild n) S a1 a2 a3 a5 a7 s0
    | 156, [a1, a2, a5] => b_X12_nextChild_156 n d (f_X12_nextChild n) S a1 a2 a5
    | 190, [a1, a2, a5] => b_X12_nextChild_190 n d (f_X12_nextChild n) S a1 a2 a5
    | _, _ => none
theorem e_X12_nextChild_0 {n d : Nat} {S : GS} {a1 : Int} {a2 : Int} {a3 : Int} {a4 : Int} : f_X12_nextChild (n + 1) d 0 S [a1, a2, a3, a4] = b_X12_nextChild_0 n d (f_X12_nextChild n) S a1 a2 a3 a4 := rfl
theorem e_X12_nextChild_17 {n d : Nat} {S : GS} {a1 : Int} {a2 : Int} {a3 : Int} {a4 : Int} {s0 : Int} : f_X12_nextChild (n + 1) d 17 S [a1, a2, a3, a4, s0] = b_X12_nextChild_17 n d (f_X12_nextChild n) S a1 a2 a3 a4 s0 := rfl
theorem e_X12_nextChild_34 {n d : Nat} {S : GS} {a1 : Int} {a2 : Int} {a5 : Int} : f_X12_nextChild (n + 1) d 34 S [a1, a2, a5] = b_X12_nextChild_34 n d (f_X12_nextChild n) S a1 a2 a5 := rfl
theorem e_X12_nextChild_69 {n d : Nat} {S : GS} {a1 : Int} {a2 : Int} {a3 : Int} {a5 : Int} {a6 : Int} {a7 : Int} : f_X12_nextChild (n + 1) d 69 S [a1, a2, a3, a5, a6, a7] = b_X12_nextChild_69 n d (f_X12_nextChild n) S a1 a2 a3 a5 a6 a7 := rfl
theorem e_X12_nextChild_103 {n d : Nat} {S : GS} {a1 : Int} {a2 : Int} {a3 : Int} {a5 : Int} {a6 : Int} {a7 : Int} {s0 : Int} : f_X12_nextChild (n + 1) d 103 S [a1, a2, a3, a5, a6, a7, s0] = b_X12_nextChild_103 n d (f_X12_nextChild n) S a1 a2 a3 a5 a6 a7 s0 := rfl
theorem e_X12_nextChild_136 {n d : Nat} {S : GS} {a1 : Int} {a2 : Int} {a3 : Int} {a5 : Int} {a7 : Int} {s0 : Int} : f_X12_nextChild (n + 1) d 136 S [a1, a2, a3, a5, a7, s0] = b_X12_nextChild_136 n d (f_X12_nextChild n) S a1 a2 a3 a5 a7 s0 := rfl
theorem e_X12_nextChild_156 {n d : Nat} {S : GS} {a1 : Int} {a2 : Int} {a5 : Int} : f_X12_nextChild (n + 1) d 156 S [a1, a2, a5] = b_X12_nextChild_156 n d (f_X12_nextChild n) S a1 a2 a5 := rfl
theorem e_X12_nextChild_190 {n d : Nat} {S : GS} {a1 : Int} {a2 : Int} {a5 : Int} : f_X12_nextChild (n + 1) d 190 S [a1, a2, a5] = b_X12_nextChild_190 n d (f_X12_nextChild n) S a1 a2 a5 := rfl

def b_X12_putsLine_0 (n d : Nat) (rec : Nat → Nat → GS → List Int → Option (Int × GS)) (S : GS) (a1 : Int) (a2 : Int) : Option (Int × GS) :=
  gg (1 ≤ d) <|
  gc (f_X12_puts n (d - 1) 0 S [a1, 10]) fun x2 S_3 =>
  rec d 9 S_3 [a1, a2, 0]
def b_X12_putsLine_9 (n d : Nat) (rec : Nat → Nat → GS → List Int → Option (Int × GS)) (S : GS) (a1 : Int) (a2 : Int) (a3 : Int) : Option (Int × GS) :=
  gv (2 * a2) fun x1 =>
  gg (inr a3) <|
  gg (inr x1) <|
  if x1 ≤ a3 then (
    some (0, S)
  ) else (
    gg (1 ≤ d) <|
    gc (f_X12_puts n (d - 1) 0 S [a1, 32]) fun x7 S_8 =>
    gv (a3 + 1) fun x10 =>
    rec d 9 S_8 [a1, a2, x10]
  )
def f_X12_putsLine : Nat → Nat → Nat → GS → List Int → Option (Int × GS)
  | 0, _, _, _, _ => none
  | n + 1, d, pc, S, x => match pc, x with
    | 0, [a1, a2] => b_X12_putsLine_0 n d (f_X12_putsLine n) S a1 a2
    | 9, [a1, a2, a3] => b_X12_putsLine_9 n d (f_X12_putsLine n) S a1 a2 a3
    | _, _ => none
theorem e_X12_putsLine_0 {n d : Nat} {S : GS} {a1 : Int} {a2 : Int} : f_X12_putsLine (n + 1) d 0 S [a1, a2] = b_X12_putsLine_0 n d (f_X12_putsLine n) S a1 a2 := rfl
theorem e_X12_putsLine_9 {n d : Nat} {S : GS} {a1 : Int} {a2 : Int} {a3 : Int} : f_X12_putsLine (n + 1) d 9 S [a1, a2, a3] = b_X12_putsLine_9 n d (f_X12_putsLine n) S a1 a2 a3 := rfl

def b_X12_writes_0 (n d : Nat) (rec : Nat → Nat → GS → List Int → Option (Int × GS)) (S : GS) (a1 : Int) (a2 : Int) (a3 : Int) (a4 : Int) : Option (Int × GS) :=
  gg (0 ≤ a1 ∧ a1 < ((2 : Nat) : Int) ∧ a1 < 2147483648) <|
  gv (gI S 517 (a1 : Int).toNat 0) fun S_2 =>
  gg (1 ≤ d) <|
  gc (f_X12_part n (d - 1) 0 S_2 [a2, a3, 3]) fun x5 S_6 =>
  gg (inr x5) <|
  if x5 ≠ 0 then (
    gc (f_X12_kind n (d - 1) 0 S_6 [a2, a3]) fun x10 S_11 =>
    gg (inr x10) <|
    if x10 ≠ 4 then (
      rec d 44 S_11 [a1, a2, a3, a4, 123, a1]
    ) else (
      rec d 44 S_11 [a1, a2, a3, a4, 91, a1]
    )
  ) else (
    gc (f_X12_putsScalar n (d - 1) 0 S_6 [a1, a2, a3]) fun x15 S_16 =>
    some (0, S_16)
  )
def b_X12_writes_44 (n d : Nat) (rec : Nat → Nat → GS → List Int → Option (Int × GS)) (S : GS) (a1 : Int) (a2 : Int) (a3 : Int) (a4 : Int) (s0 : Int) (s1 : Int) : Option (Int × GS) :=
  gg (1 ≤ d) <|
  gc (f_X12_puts n (d - 1) 0 S [s1, s0]) fun x2 S_3 =>
  gg ((0 : Int) ≤ 0 ∧ (0 : Int) < ((16 : Nat) : Int) ∧ (0 : Int) < 2147483648) <|
  gv (gI S_3 513 (0 : Int).toNat a3) fun S_6 =>
  gv (gI S_6 515 (0 : Int).toNat (-1)) fun S_8 =>
  rec d 64 S_8 [a1, a2, a4, 1]
def b_X12_writes_64 (n d : Nat) (rec : Nat → Nat → GS → List Int → Option (Int × GS)) (S : GS) (a1 : Int) (a2 : Int) (a4 : Int) (a5 : Int) : Option (Int × GS) :=
  gg (inr a5) <|
  if a5 ≤ 0 then (
    some (0, S)
  ) else (
    gv (a5 - 1) fun x3 =>
    gg (0 ≤ x3 ∧ x3 < ((16 : Nat) : Int) ∧ x3 < 2147483648) <|
    gv (S.1 513 (x3 : Int).toNat) fun x6 =>
    gv (a5 - 1) fun x8 =>
    gg (0 ≤ x8 ∧ x8 < ((16 : Nat) : Int) ∧ x8 < 2147483648) <|
    gv (S.1 515 (x8 : Int).toNat) fun x11 =>
    gg (inr a4) <|
    if a4 ≠ 1 then (
      rec d 104 S [a1, a2, a4, a5, x6, 0, x11, x6, a2]
    ) else (
      rec d 104 S [a1, a2, a4, a5, x6, 1, x11, x6, a2]
    )
  )
def b_X12_writes_104 (n d : Nat) (rec : Nat → Nat → GS → List Int → Option (Int × GS)) (S : GS) (a1 : Int) (a2 : Int) (a4 : Int) (a5 : Int) (a6 : Int) (s0 : Int) (s1 : Int) (s2 : Int) (s3 : Int) : Option (Int × GS) :=
  gg (1 ≤ d) <|
  gc (f_X12_nextChild n (d - 1) 0 S [s3, s2, s1, s0]) fun x2 S_3 =>
  gg (inr x2) <|
  if x2 ≠ (-1) then (
    gv (a5 - 1) fun x7 =>
    gg (0 ≤ x7 ∧ x7 < ((16 : Nat) : Int) ∧ x7 < 2147483648) <|
    gv (S_3.1 515 (x7 : Int).toNat) fun x10 =>
    gg (inr x10) <|
    if x10 = (-1) then (
      rec d 177 S_3 [a1, a2, a4, a5, a6, x2]
    ) else (
      gc (f_X12_puts n (d - 1) 0 S_3 [a1, 44]) fun x14 S_15 =>
      rec d 177 S_15 [a1, a2, a4, a5, a6, x2]
    )
  ) else (
    gv (a5 + (-1)) fun x17 =>
    gg (inr a4) <|
    if a4 ≠ 2 then (
      rec d 131 S_3 [a1, a2, a4, x17, a6]
    ) else (
      gc (f_X12_putsLine n (d - 1) 0 S_3 [a1, x17]) fun x21 S_22 =>
      rec d 131 S_22 [a1, a2, a4, x17, a6]
    )
  )
def b_X12_writes_131 (n d : Nat) (rec : Nat → Nat → GS → List Int → Option (Int × GS)) (S : GS) (a1 : Int) (a2 : Int) (a4 : Int) (a5 : Int) (a6 : Int) : Option (Int × GS) :=
  gg (1 ≤ d) <|
  gc (f_X12_kind n (d - 1) 0 S [a2, a6]) fun x2 S_3 =>
  gg (inr x2) <|
  if x2 ≠ 4 then (
    gc (f_X12_puts n (d - 1) 0 S_3 [a1, 125]) fun x7 S_8 =>
    rec d 64 S_8 [a1, a2, a4, a5]
  ) else (
    gc (f_X12_puts n (d - 1) 0 S_3 [a1, 93]) fun x10 S_11 =>
    rec d 64 S_11 [a1, a2, a4, a5]
  )
def b_X12_writes_177 (n d : Nat) (rec : Nat → Nat → GS → List Int → Option (Int × GS)) (S : GS) (a1 : Int) (a2 : Int) (a4 : Int) (a5 : Int) (a6 : Int) (a7 : Int) : Option (Int × GS) :=
  gv (a5 - 1) fun x1 =>
  gg (0 ≤ x1 ∧ x1 < ((16 : Nat) : Int) ∧ x1 < 2147483648) <|
  gv (gI S 515 (x1 : Int).toNat a7) fun S_4 =>
  gg (inr a4) <|
  if a4 ≠ 2 then (
    rec d 201 S_4 [a1, a2, a4, a5, a6, a7]
  ) else (
    gg (1 ≤ d) <|
    gc (f_X12_putsLine n (d - 1) 0 S_4 [a1, a5]) fun x9 S_10 =>
    rec d 201 S_10 [a1, a2, a4, a5, a6, a7]
  )
def b_X12_writes_201 (n d : Nat) (rec : Nat → Nat → GS → List Int → Option (Int × GS)) (S : GS) (a1 : Int) (a2 : Int) (a4 : Int) (a5 : Int) (a6 : Int) (a7 : Int) : Option (Int × GS) :=
  gg (1 ≤ d) <|
  gc (f_X12_kind n (d - 1) 0 S [a2, a6]) fun x2 S_3 =>
  gg (inr x2) <|
  if x2 ≠ 5 then (
    rec d 254 S_3 [a1, a2, a4, a5, a7]
  ) else (
    gc (f_X12_at n (d - 1) 0 S_3 [a2, a7]) fun x7 S_8 =>
    gv (x7 + 6) fun x10 =>
    gc (f_X12_part n (d - 1) 0 S_8 [a2, a7, 5]) fun x12 S_13 =>
    gc (f_X12_putsQuoted n (d - 1) 0 S_13 [a1, x10, x12]) fun x15 S_16 =>
    gc (f_X12_puts n (d - 1) 0 S_16 [a1, 58]) fun x18 S_19 =>
    gg (inr a4) <|
    if a4 ≠ 2 then (
      rec d 254 S_19 [a1, a2, a4, a5, a7]
    ) else (
      gc (f_X12_puts n (d - 1) 0 S_19 [a1, 32]) fun x23 S_24 =>
      rec d 254 S_24 [a1, a2, a4, a5, a7]
    )
  )
def b_X12_writes_254 (n d : Nat) (rec : Nat → Nat → GS → List Int → Option (Int × GS)) (S : GS) (a1 : Int) (a2 : Int) (a4 : Int) (a5 : Int) (a7 : Int) : Option (Int × GS) :=
  gg (1 ≤ d) <|
  gc (f_X12_part n (d - 1) 0 S [a2, a7, 3]) fun x2 S_3 =>
  gg (inr x2) <|
  if x2 ≠ 0 then (
    gc (f_X12_kind n (d - 1) 0 S_3 [a2, a7]) fun x7 S_8 =>
    gg (inr x7) <|
    if x7 ≠ 4 then (
      rec d 296 S_8 [a1, a2, a4, a5, a7, 123, a1]
    ) else (
      rec d 296 S_8 [a1, a2, a4, a5, a7, 91, a1]
    )
  ) else (
    gc (f_X12_putsScalar n (d - 1) 0 S_3 [a1, a2, a7]) fun x12 S_13 =>
    rec d 64 S_13 [a1, a2, a4, a5]
  )
def b_X12_writes_296 (n d : Nat) (rec : Nat → Nat → GS → List Int → Option (Int × GS)) (S : GS) (a1 : Int) (a2 : Int) (a4 : Int) (a5 : Int) (a7 : Int) (s0 : Int) (s1 : Int) : Option (Int × GS) :=
  gg (1 ≤ d) <|
  gc (f_X12_puts n (d - 1) 0 S [s1, s0]) fun x2 S_3 =>
  gg (0 ≤ a5 ∧ a5 < ((16 : Nat) : Int) ∧ a5 < 2147483648) <|
  gv (gI S_3 513 (a5 : Int).toNat a7) fun S_6 =>
  gv (gI S_6 515 (a5 : Int).toNat (-1)) fun S_8 =>
  gv (a5 + 1) fun x10 =>
  rec d 64 S_8 [a1, a2, a4, x10]
def f_X12_writes : Nat → Nat → Nat → GS → List Int → Option (Int × GS)
  | 0, _, _, _, _ => none
  | n + 1, d, pc, S, x => match pc, x with
    | 0, [a1, a2, a3, a4] => b_X12_writes_0 n d (f_X12_writes n) S a1 a2 a3 a4
    | 44, [a1, a2, a3, a4, s0, s1] => b_X12_writes_44 n d (f_X12_writes n) S a1 a2 a3 a4 s0 s1
    | 64, [a1, a2, a4, a5] => b_X12_writes_64 n d (f_X12_writes n) S a1 a2 a4 a5
    | 104, [a1, a2, a4, a5, a6, s0, s1, s2, s3] => b_X12_writes_104 n d (f_X12_writes n) S a1 a2 a4 a5 a6 s0 s1 s2 s3
    | 131, [a1, a2, a4, a5, a6] => b_X12_writes_131 n d (f_X12_writes n) S a1 a2 a4 a5 a6
    | 177, [a1, a2, a4, a5, a6, a7] => b_X12_writes_177 n d (f_X12_writes n) S a1 a2 a4 a5 a6 a7
    | 201, [a1, a2, a4, a5, a6, a7] => b_X12_writes_201 n d (f_X12_writes n) S a1 a2 a4 a5 a6 a7
    | 254, [a1, a2, a4, a5, a7] => b_X12_writes_254 n d (f_X12_writes n) S a1 a2 a4 a5 a7
    | 296, [a1, a2, a4, a5, a7, s0, s1] => b_X12_writes_296 n d (f_X12_writes n) S a1 a2 a4 a5 a7 s0 s1
    | _, _ => none
theorem e_X12_writes_0 {n d : Nat} {S : GS} {a1 : Int} {a2 : Int} {a3 : Int} {a4 : Int} : f_X12_writes (n + 1) d 0 S [a1, a2, a3, a4] = b_X12_writes_0 n d (f_X12_writes n) S a1 a2 a3 a4 := rfl
theorem e_X12_writes_44 {n d : Nat} {S : GS} {a1 : Int} {a2 : Int} {a3 : Int} {a4 : Int} {s0 : Int} {s1 : Int} : f_X12_writes (n + 1) d 44 S [a1, a2, a3, a4, s0, s1] = b_X12_writes_44 n d (f_X12_writes n) S a1 a2 a3 a4 s0 s1 := rfl
theorem e_X12_writes_64 {n d : Nat} {S : GS} {a1 : Int} {a2 : Int} {a4 : Int} {a5 : Int} : f_X12_writes (n + 1) d 64 S [a1, a2, a4, a5] = b_X12_writes_64 n d (f_X12_writes n) S a1 a2 a4 a5 := rfl
theorem e_X12_writes_104 {n d : Nat} {S : GS} {a1 : Int} {a2 : Int} {a4 : Int} {a5 : Int} {a6 : Int} {s0 : Int} {s1 : Int} {s2 : Int} {s3 : Int} : f_X12_writes (n + 1) d 104 S [a1, a2, a4, a5, a6, s0, s1, s2, s3] = b_X12_writes_104 n d (f_X12_writes n) S a1 a2 a4 a5 a6 s0 s1 s2 s3 := rfl
theorem e_X12_writes_131 {n d : Nat} {S : GS} {a1 : Int} {a2 : Int} {a4 : Int} {a5 : Int} {a6 : Int} : f_X12_writes (n + 1) d 131 S [a1, a2, a4, a5, a6] = b_X12_writes_131 n d (f_X12_writes n) S a1 a2 a4 a5 a6 := rfl
theorem e_X12_writes_177 {n d : Nat} {S : GS} {a1 : Int} {a2 : Int} {a4 : Int} {a5 : Int} {a6 : Int} {a7 : Int} : f_X12_writes (n + 1) d 177 S [a1, a2, a4, a5, a6, a7] = b_X12_writes_177 n d (f_X12_writes n) S a1 a2 a4 a5 a6 a7 := rfl
theorem e_X12_writes_201 {n d : Nat} {S : GS} {a1 : Int} {a2 : Int} {a4 : Int} {a5 : Int} {a6 : Int} {a7 : Int} : f_X12_writes (n + 1) d 201 S [a1, a2, a4, a5, a6, a7] = b_X12_writes_201 n d (f_X12_writes n) S a1 a2 a4 a5 a6 a7 := rfl
theorem e_X12_writes_254 {n d : Nat} {S : GS} {a1 : Int} {a2 : Int} {a4 : Int} {a5 : Int} {a7 : Int} : f_X12_writes (n + 1) d 254 S [a1, a2, a4, a5, a7] = b_X12_writes_254 n d (f_X12_writes n) S a1 a2 a4 a5 a7 := rfl
theorem e_X12_writes_296 {n d : Nat} {S : GS} {a1 : Int} {a2 : Int} {a4 : Int} {a5 : Int} {a7 : Int} {s0 : Int} {s1 : Int} : f_X12_writes (n + 1) d 296 S [a1, a2, a4, a5, a7, s0, s1] = b_X12_writes_296 n d (f_X12_writes n) S a1 a2 a4 a5 a7 s0 s1 := rfl

def b_X12_areEqual_0 (n d : Nat) (rec : Nat → Nat → GS → List Int → Option (Int × GS)) (S : GS) (a1 : Int) (a2 : Int) (a3 : Int) (a4 : Int) : Option (Int × GS) :=
  gg (1 ≤ d) <|
  gc (f_X12_kind n (d - 1) 0 S [a1, a2]) fun x2 S_3 =>
  gc (f_X12_kind n (d - 1) 0 S_3 [a3, a4]) fun x5 S_6 =>
  gg (inr x2) <|
  gg (inr x5) <|
  if x2 ≠ x5 then (
    some (0, S_6)
  ) else (
    gc (f_X12_part n (d - 1) 0 S_6 [a1, a2, 4]) fun x11 S_12 =>
    gc (f_X12_part n (d - 1) 0 S_12 [a3, a4, 4]) fun x14 S_15 =>
    gg (inr x11) <|
    gg (inr x14) <|
    if x11 = x14 then (
      gc (f_X12_writes n (d - 1) 0 S_15 [0, a1, a2, 1]) fun x20 S_21 =>
      gc (f_X12_writes n (d - 1) 0 S_21 [1, a3, a4, 1]) fun x23 S_24 =>
      gg ((0 : Int) ≤ 0 ∧ (0 : Int) < ((2 : Nat) : Int) ∧ (0 : Int) < 2147483648) <|
      gv (S_24.1 517 (0 : Int).toNat) fun x27 =>
      gg ((0 : Int) ≤ 1 ∧ (1 : Int) < ((2 : Nat) : Int) ∧ (1 : Int) < 2147483648) <|
      gv (S_24.1 517 (1 : Int).toNat) fun x30 =>
      gg (inr x27) <|
      gg (inr x30) <|
      if x27 ≠ x30 then (
        rec d 78 S_24 [0, 0]
      ) else (
        rec d 78 S_24 [1, 0]
      )
    ) else (
      some (0, S_15)
    )
  )
def b_X12_areEqual_78 (n d : Nat) (rec : Nat → Nat → GS → List Int → Option (Int × GS)) (S : GS) (a5 : Int) (a6 : Int) : Option (Int × GS) :=
  gg ((0 : Int) ≤ 0 ∧ (0 : Int) < ((2 : Nat) : Int) ∧ (0 : Int) < 2147483648) <|
  gv (S.1 517 (0 : Int).toNat) fun x2 =>
  gg (inr a6) <|
  gg (inr x2) <|
  if x2 ≤ a6 then (
    gg (a5 = 0 ∨ a5 = 1) <|
    some (a5, S)
  ) else (
    gg (inr a5) <|
    if a5 = 0 then (
      gg (a5 = 0 ∨ a5 = 1) <|
      some (a5, S)
    ) else (
      gg (0 ≤ a6 ∧ a6 < ((80000 : Nat) : Int) ∧ a6 < 2147483648) <|
      gv (S.1 516 (a6 : Int).toNat) fun x12 =>
      gv (40000 + a6) fun x14 =>
      gg (0 ≤ x14 ∧ x14 < ((80000 : Nat) : Int) ∧ x14 < 2147483648) <|
      gv (S.1 516 (x14 : Int).toNat) fun x17 =>
      gg (inr x12) <|
      gg (inr x17) <|
      if x12 ≠ x17 then (
        gv (a6 + 1) fun x22 =>
        rec d 78 S [0, x22]
      ) else (
        gv (a6 + 1) fun x24 =>
        rec d 78 S [1, x24]
      )
    )
  )
def f_X12_areEqual : Nat → Nat → Nat → GS → List Int → Option (Int × GS)
  | 0, _, _, _, _ => none
  | n + 1, d, pc, S, x => match pc, x with
    | 0, [a1, a2, a3, a4] => b_X12_areEqual_0 n d (f_X12_areEqual n) S a1 a2 a3 a4
    | 78, [a5, a6] => b_X12_areEqual_78 n d (f_X12_areEqual n) S a5 a6
    | _, _ => none
theorem e_X12_areEqual_0 {n d : Nat} {S : GS} {a1 : Int} {a2 : Int} {a3 : Int} {a4 : Int} : f_X12_areEqual (n + 1) d 0 S [a1, a2, a3, a4] = b_X12_areEqual_0 n d (f_X12_areEqual n) S a1 a2 a3 a4 := rfl
theorem e_X12_areEqual_78 {n d : Nat} {S : GS} {a5 : Int} {a6 : Int} : f_X12_areEqual (n + 1) d 78 S [a5, a6] = b_X12_areEqual_78 n d (f_X12_areEqual n) S a5 a6 := rfl

def b_X12_areAlike_0 (n d : Nat) (rec : Nat → Nat → GS → List Int → Option (Int × GS)) (S : GS) (a1 : Int) (a2 : Int) (a3 : Int) (a4 : Int) : Option (Int × GS) :=
  gg (inr a2) <|
  if a2 = (-1) then (
    rec d 11 S [a2, a4]
  ) else (
    gg (inr a4) <|
    if a4 ≠ (-1) then (
      gg (1 ≤ d) <|
      gc (f_X12_areEqual n (d - 1) 0 S [a1, a2, a3, a4]) fun x6 S_7 =>
      gg (x6 = 0 ∨ x6 = 1) <|
      some (x6, S_7)
    ) else (
      rec d 11 S [a2, a4]
    )
  )
def b_X12_areAlike_11 (n d : Nat) (rec : Nat → Nat → GS → List Int → Option (Int × GS)) (S : GS) (a2 : Int) (a4 : Int) : Option (Int × GS) :=
  gg (inr a2) <|
  gg (inr a4) <|
  if a2 ≠ a4 then (
    some (0, S)
  ) else (
    some (1, S)
  )
def f_X12_areAlike : Nat → Nat → Nat → GS → List Int → Option (Int × GS)
  | 0, _, _, _, _ => none
  | n + 1, d, pc, S, x => match pc, x with
    | 0, [a1, a2, a3, a4] => b_X12_areAlike_0 n d (f_X12_areAlike n) S a1 a2 a3 a4
    | 11, [a2, a4] => b_X12_areAlike_11 n d (f_X12_areAlike n) S a2 a4
    | _, _ => none
theorem e_X12_areAlike_0 {n d : Nat} {S : GS} {a1 : Int} {a2 : Int} {a3 : Int} {a4 : Int} : f_X12_areAlike (n + 1) d 0 S [a1, a2, a3, a4] = b_X12_areAlike_0 n d (f_X12_areAlike n) S a1 a2 a3 a4 := rfl
theorem e_X12_areAlike_11 {n d : Nat} {S : GS} {a2 : Int} {a4 : Int} : f_X12_areAlike (n + 1) d 11 S [a2, a4] = b_X12_areAlike_11 n d (f_X12_areAlike n) S a2 a4 := rfl

def b_X12_childAt_0 (n d : Nat) (rec : Nat → Nat → GS → List Int → Option (Int × GS)) (S : GS) (a1 : Int) (a2 : Int) (a3 : Int) : Option (Int × GS) :=
  gv (a2 + 1) fun x1 =>
  rec d 8 S [a1, a3, x1, 0]
def b_X12_childAt_8 (n d : Nat) (rec : Nat → Nat → GS → List Int → Option (Int × GS)) (S : GS) (a1 : Int) (a3 : Int) (a4 : Int) (a5 : Int) : Option (Int × GS) :=
  gg (inr a5) <|
  gg (inr a3) <|
  if a3 ≤ a5 then (
    some (a4, S)
  ) else (
    gg (1 ≤ d) <|
    gc (f_X12_endOf n (d - 1) 0 S [a1, a4]) fun x5 S_6 =>
    gv (a5 + 1) fun x8 =>
    rec d 8 S_6 [a1, a3, x5, x8]
  )
def f_X12_childAt : Nat → Nat → Nat → GS → List Int → Option (Int × GS)
  | 0, _, _, _, _ => none
  | n + 1, d, pc, S, x => match pc, x with
    | 0, [a1, a2, a3] => b_X12_childAt_0 n d (f_X12_childAt n) S a1 a2 a3
    | 8, [a1, a3, a4, a5] => b_X12_childAt_8 n d (f_X12_childAt n) S a1 a3 a4 a5
    | _, _ => none
theorem e_X12_childAt_0 {n d : Nat} {S : GS} {a1 : Int} {a2 : Int} {a3 : Int} : f_X12_childAt (n + 1) d 0 S [a1, a2, a3] = b_X12_childAt_0 n d (f_X12_childAt n) S a1 a2 a3 := rfl
theorem e_X12_childAt_8 {n d : Nat} {S : GS} {a1 : Int} {a3 : Int} {a4 : Int} {a5 : Int} : f_X12_childAt (n + 1) d 8 S [a1, a3, a4, a5] = b_X12_childAt_8 n d (f_X12_childAt n) S a1 a3 a4 a5 := rfl

def b_X12_areAll_0 (n d : Nat) (rec : Nat → Nat → GS → List Int → Option (Int × GS)) (S : GS) (a1 : Int) (a2 : Int) : Option (Int × GS) :=
  rec d 5 S [a1, a2, 1, 0]
def b_X12_areAll_5 (n d : Nat) (rec : Nat → Nat → GS → List Int → Option (Int × GS)) (S : GS) (a1 : Int) (a2 : Int) (a3 : Int) (a4 : Int) : Option (Int × GS) :=
  gg (1 ≤ d) <|
  gc (f_X12_part n (d - 1) 0 S [a1, 0, 3]) fun x2 S_3 =>
  gg (inr a4) <|
  gg (inr x2) <|
  if x2 ≤ a4 then (
    gg (a3 = 0 ∨ a3 = 1) <|
    some (a3, S_3)
  ) else (
    gg (inr a3) <|
    if a3 = 0 then (
      gv (a4 + 1) fun x11 =>
      rec d 5 S_3 [a1, a2, 0, x11]
    ) else (
      gc (f_X12_childAt n (d - 1) 0 S_3 [a1, 0, a4]) fun x13 S_14 =>
      gc (f_X12_kind n (d - 1) 0 S_14 [a1, x13]) fun x16 S_17 =>
      gg (inr x16) <|
      gg (inr a2) <|
      if x16 ≠ a2 then (
        gv (a4 + 1) fun x22 =>
        rec d 5 S_17 [a1, a2, 0, x22]
      ) else (
        gv (a4 + 1) fun x24 =>
        rec d 5 S_17 [a1, a2, 1, x24]
      )
    )
  )
def f_X12_areAll : Nat → Nat → Nat → GS → List Int → Option (Int × GS)
  | 0, _, _, _, _ => none
  | n + 1, d, pc, S, x => match pc, x with
    | 0, [a1, a2] => b_X12_areAll_0 n d (f_X12_areAll n) S a1 a2
    | 5, [a1, a2, a3, a4] => b_X12_areAll_5 n d (f_X12_areAll n) S a1 a2 a3 a4
    | _, _ => none
theorem e_X12_areAll_0 {n d : Nat} {S : GS} {a1 : Int} {a2 : Int} : f_X12_areAll (n + 1) d 0 S [a1, a2] = b_X12_areAll_0 n d (f_X12_areAll n) S a1 a2 := rfl
theorem e_X12_areAll_5 {n d : Nat} {S : GS} {a1 : Int} {a2 : Int} {a3 : Int} {a4 : Int} : f_X12_areAll (n + 1) d 5 S [a1, a2, a3, a4] = b_X12_areAll_5 n d (f_X12_areAll n) S a1 a2 a3 a4 := rfl

def b_X12_complains_0 (n d : Nat) (rec : Nat → Nat → GS → List Int → Option (Int × GS)) (S : GS) (a1 : Int) (a2 : Int) : Option (Int × GS) :=
  gv (S.1 500 79) fun x1 =>
  gv (32 * a1) fun x3 =>
  gv (x3 + a2) fun x5 =>
  gg (0 ≤ x1 ∧ x1 < ((220000 : Nat) : Int) ∧ x1 < 2147483648) <|
  gv (gI S 551 (x1 : Int).toNat x5) fun S_8 =>
  gv (S_8.1 500 79) fun x10 =>
  gv (x10 + 1) fun x12 =>
  gv (gI S_8 500 79 x12) fun S_14 =>
  some (0, S_14)
def f_X12_complains : Nat → Nat → Nat → GS → List Int → Option (Int × GS)
  | 0, _, _, _, _ => none
  | n + 1, d, pc, S, x => match pc, x with
    | 0, [a1, a2] => b_X12_complains_0 n d (f_X12_complains n) S a1 a2
    | _, _ => none
theorem e_X12_complains_0 {n d : Nat} {S : GS} {a1 : Int} {a2 : Int} : f_X12_complains (n + 1) d 0 S [a1, a2] = b_X12_complains_0 n d (f_X12_complains n) S a1 a2 := rfl

def b_X12_hears_0 (n d : Nat) (rec : Nat → Nat → GS → List Int → Option (Int × GS)) (S : GS) (a1 : Int) : Option (Int × GS) :=
  gg (0 ≤ a1 ∧ a1 < ((500 : Nat) : Int) ∧ a1 < 2147483648) <|
  gv (gB S 548 (a1 : Int).toNat (decide ((0 : Int) = 1))) fun S_2 =>
  gv (S_2.1 543 (a1 : Int).toNat) fun x4 =>
  gg (inr x4) <|
  if x4 < 12 then (
    rec d 57 S_2 [a1, x4]
  ) else (
    if 14 < x4 then (
      rec d 57 S_2 [a1, x4]
    ) else (
      gv (S_2.1 547 (a1 : Int).toNat) fun x9 =>
      gv (bi (S_2.2.1 500 75)) fun x11 =>
      gg (inr x11) <|
      if x11 = 0 then (
        rec d 45 S_2 [a1, x4, 0, x9, a1]
      ) else (
        rec d 45 S_2 [a1, x4, 1, x9, a1]
      )
    )
  )
def b_X12_hears_45 (n d : Nat) (rec : Nat → Nat → GS → List Int → Option (Int × GS)) (S : GS) (a1 : Int) (a2 : Int) (s0 : Int) (s1 : Int) (s2 : Int) : Option (Int × GS) :=
  gv (s1 + s0) fun x1 =>
  gg (0 ≤ s2 ∧ s2 < ((500 : Nat) : Int) ∧ s2 < 2147483648) <|
  gv (gI S 547 (s2 : Int).toNat x1) fun S_4 =>
  gg (0 ≤ a1 ∧ a1 < ((500 : Nat) : Int) ∧ a1 < 2147483648) <|
  gv (S_4.1 546 (a1 : Int).toNat) fun x7 =>
  gv (gI S_4 500 79 x7) fun S_9 =>
  rec d 57 S_9 [a1, a2]
def b_X12_hears_57 (n d : Nat) (rec : Nat → Nat → GS → List Int → Option (Int × GS)) (S : GS) (a1 : Int) (a2 : Int) : Option (Int × GS) :=
  gg (inr a2) <|
  if a2 ≠ 14 then (
    rec d 92 S [a1, a2]
  ) else (
    gv (bi (S.2.1 500 75)) fun x3 =>
    gg (inr x3) <|
    if x3 = 0 then (
      rec d 82 S [a1, a2]
    ) else (
      gg (0 ≤ a1 ∧ a1 < ((500 : Nat) : Int) ∧ a1 < 2147483648) <|
      gv (S.1 542 (a1 : Int).toNat) fun x8 =>
      gg (1 ≤ d) <|
      gc (f_X12_complains n (d - 1) 0 S [x8, 14]) fun x11 S_12 =>
      rec d 82 S_12 [a1, a2]
    )
  )
def b_X12_hears_82 (n d : Nat) (rec : Nat → Nat → GS → List Int → Option (Int × GS)) (S : GS) (a1 : Int) (a2 : Int) : Option (Int × GS) :=
  gg (0 ≤ a1 ∧ a1 < ((500 : Nat) : Int) ∧ a1 < 2147483648) <|
  gv (S.1 543 (a1 : Int).toNat) fun x2 =>
  gv (x2 + 1) fun x4 =>
  gv (gI S 543 (a1 : Int).toNat x4) fun S_6 =>
  rec d 92 S_6 [a1, a2]
def b_X12_hears_92 (n d : Nat) (rec : Nat → Nat → GS → List Int → Option (Int × GS)) (S : GS) (a1 : Int) (a2 : Int) : Option (Int × GS) :=
  gg (inr a2) <|
  if a2 ≠ 15 then (
    some (0, S)
  ) else (
    gv (S.1 500 76) fun x3 =>
    gv (x3 - 1) fun x5 =>
    gv (gI S 500 76 x5) fun S_7 =>
    gg (0 ≤ a1 ∧ a1 < ((500 : Nat) : Int) ∧ a1 < 2147483648) <|
    gv (S_7.1 543 (a1 : Int).toNat) fun x10 =>
    gv (x10 + 1) fun x12 =>
    gv (gI S_7 543 (a1 : Int).toNat x12) fun S_14 =>
    some (0, S_14)
  )
def f_X12_hears : Nat → Nat → Nat → GS → List Int → Option (Int × GS)
  | 0, _, _, _, _ => none
  | n + 1, d, pc, S, x => match pc, x with
    | 0, [a1] => b_X12_hears_0 n d (f_X12_hears n) S a1
    | 45, [a1, a2, s0, s1, s2] => b_X12_hears_45 n d (f_X12_hears n) S a1 a2 s0 s1 s2
    | 57, [a1, a2] => b_X12_hears_57 n d (f_X12_hears n) S a1 a2
    | 82, [a1, a2] => b_X12_hears_82 n d (f_X12_hears n) S a1 a2
    | 92, [a1, a2] => b_X12_hears_92 n d (f_X12_hears n) S a1 a2
    | _, _ => none
theorem e_X12_hears_0 {n d : Nat} {S : GS} {a1 : Int} : f_X12_hears (n + 1) d 0 S [a1] = b_X12_hears_0 n d (f_X12_hears n) S a1 := rfl
theorem e_X12_hears_45 {n d : Nat} {S : GS} {a1 : Int} {a2 : Int} {s0 : Int} {s1 : Int} {s2 : Int} : f_X12_hears (n + 1) d 45 S [a1, a2, s0, s1, s2] = b_X12_hears_45 n d (f_X12_hears n) S a1 a2 s0 s1 s2 := rfl
theorem e_X12_hears_57 {n d : Nat} {S : GS} {a1 : Int} {a2 : Int} : f_X12_hears (n + 1) d 57 S [a1, a2] = b_X12_hears_57 n d (f_X12_hears n) S a1 a2 := rfl
theorem e_X12_hears_82 {n d : Nat} {S : GS} {a1 : Int} {a2 : Int} : f_X12_hears (n + 1) d 82 S [a1, a2] = b_X12_hears_82 n d (f_X12_hears n) S a1 a2 := rfl
theorem e_X12_hears_92 {n d : Nat} {S : GS} {a1 : Int} {a2 : Int} : f_X12_hears (n + 1) d 92 S [a1, a2] = b_X12_hears_92 n d (f_X12_hears n) S a1 a2 := rfl

def b_X12_childByWord_0 (n d : Nat) (rec : Nat → Nat → GS → List Int → Option (Int × GS)) (S : GS) (a1 : Int) (a2 : Int) : Option (Int × GS) :=
  gv (a2 + 1) fun x1 =>
  rec d 7 S [a1, a2, x1, 0]
def b_X12_childByWord_7 (n d : Nat) (rec : Nat → Nat → GS → List Int → Option (Int × GS)) (S : GS) (a1 : Int) (a2 : Int) (a3 : Int) (a4 : Int) : Option (Int × GS) :=
  gg (1 ≤ d) <|
  gc (f_X12_part n (d - 1) 0 S [a1, a2, 3]) fun x2 S_3 =>
  gg (inr a4) <|
  gg (inr x2) <|
  if x2 ≤ a4 then (
    some ((-1), S_3)
  ) else (
    gc (f_X12_part n (d - 1) 0 S_3 [a1, a3, 5]) fun x8 S_9 =>
    gv (S_9.1 500 13) fun x11 =>
    gg (inr x8) <|
    gg (inr x11) <|
    if x8 ≠ x11 then (
      rec d 43 S_9 [a1, a2, a3, a4, 0, 0]
    ) else (
      rec d 43 S_9 [a1, a2, a3, a4, 1, 0]
    )
  )
def b_X12_childByWord_43 (n d : Nat) (rec : Nat → Nat → GS → List Int → Option (Int × GS)) (S : GS) (a1 : Int) (a2 : Int) (a3 : Int) (a4 : Int) (a5 : Int) (a6 : Int) : Option (Int × GS) :=
  gv (S.1 500 13) fun x1 =>
  gg (inr a6) <|
  gg (inr x1) <|
  if x1 ≤ a6 then (
    rec d 91 S [a1, a2, a3, a4, a5]
  ) else (
    gg (inr a5) <|
    if a5 = 0 then (
      rec d 91 S [a1, a2, a3, a4, a5]
    ) else (
      gv (6 + a6) fun x8 =>
      gg (1 ≤ d) <|
      gc (f_X12_part n (d - 1) 0 S [a1, a3, x8]) fun x11 S_12 =>
      gg (0 ≤ a6 ∧ a6 < ((1000 : Nat) : Int) ∧ a6 < 2147483648) <|
      gv (S_12.1 507 (a6 : Int).toNat) fun x15 =>
      gg (inr x11) <|
      gg (inr x15) <|
      if x11 ≠ x15 then (
        gv (a6 + 1) fun x20 =>
        rec d 43 S_12 [a1, a2, a3, a4, 0, x20]
      ) else (
        gv (a6 + 1) fun x22 =>
        rec d 43 S_12 [a1, a2, a3, a4, 1, x22]
      )
    )
  )
def b_X12_childByWord_91 (n d : Nat) (rec : Nat → Nat → GS → List Int → Option (Int × GS)) (S : GS) (a1 : Int) (a2 : Int) (a3 : Int) (a4 : Int) (a5 : Int) : Option (Int × GS) :=
  gg (inr a5) <|
  if a5 = 0 then (
    gg (1 ≤ d) <|
    gc (f_X12_endOf n (d - 1) 0 S [a1, a3]) fun x4 S_5 =>
    gv (a4 + 1) fun x7 =>
    rec d 7 S_5 [a1, a2, x4, x7]
  ) else (
    some (a3, S)
  )
def f_X12_childByWord : Nat → Nat → Nat → GS → List Int → Option (Int × GS)
  | 0, _, _, _, _ => none
  | n + 1, d, pc, S, x => match pc, x with
    | 0, [a1, a2] => b_X12_childByWord_0 n d (f_X12_childByWord n) S a1 a2
    | 7, [a1, a2, a3, a4] => b_X12_childByWord_7 n d (f_X12_childByWord n) S a1 a2 a3 a4
    | 43, [a1, a2, a3, a4, a5, a6] => b_X12_childByWord_43 n d (f_X12_childByWord n) S a1 a2 a3 a4 a5 a6
    | 91, [a1, a2, a3, a4, a5] => b_X12_childByWord_91 n d (f_X12_childByWord n) S a1 a2 a3 a4 a5
    | _, _ => none
theorem e_X12_childByWord_0 {n d : Nat} {S : GS} {a1 : Int} {a2 : Int} : f_X12_childByWord (n + 1) d 0 S [a1, a2] = b_X12_childByWord_0 n d (f_X12_childByWord n) S a1 a2 := rfl
theorem e_X12_childByWord_7 {n d : Nat} {S : GS} {a1 : Int} {a2 : Int} {a3 : Int} {a4 : Int} : f_X12_childByWord (n + 1) d 7 S [a1, a2, a3, a4] = b_X12_childByWord_7 n d (f_X12_childByWord n) S a1 a2 a3 a4 := rfl
theorem e_X12_childByWord_43 {n d : Nat} {S : GS} {a1 : Int} {a2 : Int} {a3 : Int} {a4 : Int} {a5 : Int} {a6 : Int} : f_X12_childByWord (n + 1) d 43 S [a1, a2, a3, a4, a5, a6] = b_X12_childByWord_43 n d (f_X12_childByWord n) S a1 a2 a3 a4 a5 a6 := rfl
theorem e_X12_childByWord_91 {n d : Nat} {S : GS} {a1 : Int} {a2 : Int} {a3 : Int} {a4 : Int} {a5 : Int} : f_X12_childByWord (n + 1) d 91 S [a1, a2, a3, a4, a5] = b_X12_childByWord_91 n d (f_X12_childByWord n) S a1 a2 a3 a4 a5 := rfl

def b_X12_childNamed_0 (n d : Nat) (rec : Nat → Nat → GS → List Int → Option (Int × GS)) (S : GS) (a1 : Int) (a2 : Int) (a3 : Int) : Option (Int × GS) :=
  gg (1 ≤ d) <|
  gc (f_X12_says n (d - 1) 0 S [a3]) fun x2 S_3 =>
  gc (f_X12_childByWord n (d - 1) 0 S_3 [a1, a2]) fun x5 S_6 =>
  some (x5, S_6)
def f_X12_childNamed : Nat → Nat → Nat → GS → List Int → Option (Int × GS)
  | 0, _, _, _, _ => none
  | n + 1, d, pc, S, x => match pc, x with
    | 0, [a1, a2, a3] => b_X12_childNamed_0 n d (f_X12_childNamed n) S a1 a2 a3
    | _, _ => none
theorem e_X12_childNamed_0 {n d : Nat} {S : GS} {a1 : Int} {a2 : Int} {a3 : Int} : f_X12_childNamed (n + 1) d 0 S [a1, a2, a3] = b_X12_childNamed_0 n d (f_X12_childNamed n) S a1 a2 a3 := rfl

def b_X12_isText_0 (n d : Nat) (rec : Nat → Nat → GS → List Int → Option (Int × GS)) (S : GS) (a1 : Int) (a2 : Int) (a3 : Int) : Option (Int × GS) :=
  gg (1 ≤ d) <|
  gc (f_X12_says n (d - 1) 0 S [a3]) fun x2 S_3 =>
  gc (f_X12_kind n (d - 1) 0 S_3 [a1, a2]) fun x5 S_6 =>
  gg (inr x5) <|
  if x5 ≠ 3 then (
    rec d 40 S_6 [a1, a2, 0, 0]
  ) else (
    gc (f_X12_part n (d - 1) 0 S_6 [a1, a2, 18]) fun x10 S_11 =>
    gv (S_11.1 500 13) fun x13 =>
    gg (inr x10) <|
    gg (inr x13) <|
    if x10 ≠ x13 then (
      rec d 40 S_11 [a1, a2, 0, 0]
    ) else (
      rec d 40 S_11 [a1, a2, 1, 0]
    )
  )
def b_X12_isText_40 (n d : Nat) (rec : Nat → Nat → GS → List Int → Option (Int × GS)) (S : GS) (a1 : Int) (a2 : Int) (a5 : Int) (a6 : Int) : Option (Int × GS) :=
  gv (S.1 500 13) fun x1 =>
  gg (inr a6) <|
  gg (inr x1) <|
  if x1 ≤ a6 then (
    gg (a5 = 0 ∨ a5 = 1) <|
    some (a5, S)
  ) else (
    gg (inr a5) <|
    if a5 = 0 then (
      gg (a5 = 0 ∨ a5 = 1) <|
      some (a5, S)
    ) else (
      gv (21 + a6) fun x10 =>
      gg (1 ≤ d) <|
      gc (f_X12_part n (d - 1) 0 S [a1, a2, x10]) fun x13 S_14 =>
      gg (0 ≤ a6 ∧ a6 < ((1000 : Nat) : Int) ∧ a6 < 2147483648) <|
      gv (S_14.1 507 (a6 : Int).toNat) fun x17 =>
      gg (inr x13) <|
      gg (inr x17) <|
      if x13 ≠ x17 then (
        gv (a6 + 1) fun x22 =>
        rec d 40 S_14 [a1, a2, 0, x22]
      ) else (
        gv (a6 + 1) fun x24 =>
        rec d 40 S_14 [a1, a2, 1, x24]
      )
    )
  )
def f_X12_isText : Nat → Nat → Nat → GS → List Int → Option (Int × GS)
  | 0, _, _, _, _ => none
  | n + 1, d, pc, S, x => match pc, x with
    | 0, [a1, a2, a3] => b_X12_isText_0 n d (f_X12_isText n) S a1 a2 a3
    | 40, [a1, a2, a5, a6] => b_X12_isText_40 n d (f_X12_isText n) S a1 a2 a5 a6
    | _, _ => none
theorem e_X12_isText_0 {n d : Nat} {S : GS} {a1 : Int} {a2 : Int} {a3 : Int} : f_X12_isText (n + 1) d 0 S [a1, a2, a3] = b_X12_isText_0 n d (f_X12_isText n) S a1 a2 a3 := rfl
theorem e_X12_isText_40 {n d : Nat} {S : GS} {a1 : Int} {a2 : Int} {a5 : Int} {a6 : Int} : f_X12_isText (n + 1) d 40 S [a1, a2, a5, a6] = b_X12_isText_40 n d (f_X12_isText n) S a1 a2 a5 a6 := rfl

def b_X12_isKind_0 (n d : Nat) (rec : Nat → Nat → GS → List Int → Option (Int × GS)) (S : GS) (a1 : Int) (a2 : Int) : Option (Int × GS) :=
  rec d 5 S [a1, a2, 0, 0]
def b_X12_isKind_5 (n d : Nat) (rec : Nat → Nat → GS → List Int → Option (Int × GS)) (S : GS) (a1 : Int) (a2 : Int) (a3 : Int) (a4 : Int) : Option (Int × GS) :=
  gg (inr a4) <|
  if 7 ≤ a4 then (
    gg (a3 = 0 ∨ a3 = 1) <|
    some (a3, S)
  ) else (
    gg (inr a3) <|
    if a3 ≠ 0 then (
      gv (a4 + 1) fun x6 =>
      rec d 5 S [a1, a2, 1, x6]
    ) else (
      gv (S.1 500 62) fun x8 =>
      gg (0 ≤ a4 ∧ a4 < ((7 : Nat) : Int) ∧ a4 < 2147483648) <|
      gv ((gl_kinds.getD (a4 : Int).toNat 0).toInt) fun x11 =>
      gg (1 ≤ d) <|
      gc (f_X12_isText n (d - 1) 0 S [x8, a1, x11]) fun x14 S_15 =>
      gg (inr x14) <|
      if x14 = 0 then (
        gv (a4 + 1) fun x19 =>
        rec d 5 S_15 [a1, a2, 0, x19]
      ) else (
        if 6 ≤ a4 then (
          gv (S_15.1 500 63) fun x22 =>
          gc (f_X12_kind n (d - 1) 0 S_15 [x22, a2]) fun x24 S_25 =>
          gg (inr x24) <|
          if x24 ≠ 2 then (
            gv (a4 + 1) fun x29 =>
            rec d 5 S_25 [a1, a2, 0, x29]
          ) else (
            gv (S_25.1 500 63) fun x31 =>
            gc (f_X12_part n (d - 1) 0 S_25 [x31, a2, 20]) fun x33 S_34 =>
            gg (inr x33) <|
            if x33 < 0 then (
              gv (a4 + 1) fun x38 =>
              rec d 5 S_34 [a1, a2, 0, x38]
            ) else (
              gv (a4 + 1) fun x40 =>
              rec d 5 S_34 [a1, a2, 1, x40]
            )
          )
        ) else (
          gv (S_15.1 500 63) fun x42 =>
          gc (f_X12_kind n (d - 1) 0 S_15 [x42, a2]) fun x44 S_45 =>
          gg (inr x44) <|
          if x44 ≠ a4 then (
            gv (a4 + 1) fun x49 =>
            rec d 5 S_45 [a1, a2, 0, x49]
          ) else (
            gv (a4 + 1) fun x51 =>
            rec d 5 S_45 [a1, a2, 1, x51]
          )
        )
      )
    )
  )
def f_X12_isKind : Nat → Nat → Nat → GS → List Int → Option (Int × GS)
  | 0, _, _, _, _ => none
  | n + 1, d, pc, S, x => match pc, x with
    | 0, [a1, a2] => b_X12_isKind_0 n d (f_X12_isKind n) S a1 a2
    | 5, [a1, a2, a3, a4] => b_X12_isKind_5 n d (f_X12_isKind n) S a1 a2 a3 a4
    | _, _ => none
theorem e_X12_isKind_0 {n d : Nat} {S : GS} {a1 : Int} {a2 : Int} : f_X12_isKind (n + 1) d 0 S [a1, a2] = b_X12_isKind_0 n d (f_X12_isKind n) S a1 a2 := rfl
theorem e_X12_isKind_5 {n d : Nat} {S : GS} {a1 : Int} {a2 : Int} {a3 : Int} {a4 : Int} : f_X12_isKind (n + 1) d 5 S [a1, a2, a3, a4] = b_X12_isKind_5 n d (f_X12_isKind n) S a1 a2 a3 a4 := rfl

def b_X12_compared_0 (n d : Nat) (rec : Nat → Nat → GS → List Int → Option (Int × GS)) (S : GS) (a1 : Int) (a2 : Int) (a3 : Int) (a4 : Int) : Option (Int × GS) :=
  gg (1 ≤ d) <|
  gc (f_X12_at n (d - 1) 0 S [a1, a2]) fun x2 S_3 =>
  gc (f_X12_at n (d - 1) 0 S_3 [a3, a4]) fun x5 S_6 =>
  gv (x2 + 19) fun x8 =>
  gg (0 ≤ x8 ∧ x8 < ((295728 : Nat) : Int) ∧ x8 < 2147483648) <|
  gv (S_6.1 501 (x8 : Int).toNat) fun x11 =>
  gv (x5 + 19) fun x13 =>
  gg (0 ≤ x13 ∧ x13 < ((295728 : Nat) : Int) ∧ x13 < 2147483648) <|
  gv (S_6.1 501 (x13 : Int).toNat) fun x16 =>
  gg (inr x11) <|
  gg (inr x16) <|
  if x11 = x16 then (
    gv (x2 + 19) fun x21 =>
    gg (0 ≤ x21 ∧ x21 < ((295728 : Nat) : Int) ∧ x21 < 2147483648) <|
    gv (S_6.1 501 (x21 : Int).toNat) fun x24 =>
    gg (inr x24) <|
    if x24 ≠ 0 then (
      gv (x2 + 18) fun x28 =>
      gg (0 ≤ x28 ∧ x28 < ((295728 : Nat) : Int) ∧ x28 < 2147483648) <|
      gv (S_6.1 501 (x28 : Int).toNat) fun x31 =>
      gv (x2 + 20) fun x33 =>
      gg (0 ≤ x33 ∧ x33 < ((295728 : Nat) : Int) ∧ x33 < 2147483648) <|
      gv (S_6.1 501 (x33 : Int).toNat) fun x36 =>
      gv (x31 + x36) fun x38 =>
      gv (x5 + 18) fun x40 =>
      gg (0 ≤ x40 ∧ x40 < ((295728 : Nat) : Int) ∧ x40 < 2147483648) <|
      gv (S_6.1 501 (x40 : Int).toNat) fun x43 =>
      gv (x38 - x43) fun x45 =>
      gv (x5 + 20) fun x47 =>
      gg (0 ≤ x47 ∧ x47 < ((295728 : Nat) : Int) ∧ x47 < 2147483648) <|
      gv (S_6.1 501 (x47 : Int).toNat) fun x50 =>
      gv (x45 - x50) fun x52 =>
      rec d 130 S_6 [x2, x5, x52, 0]
    ) else (
      some (0, S_6)
    )
  ) else (
    gv (x2 + 19) fun x54 =>
    gg (0 ≤ x54 ∧ x54 < ((295728 : Nat) : Int) ∧ x54 < 2147483648) <|
    gv (S_6.1 501 (x54 : Int).toNat) fun x57 =>
    gv (x5 + 19) fun x59 =>
    gg (0 ≤ x59 ∧ x59 < ((295728 : Nat) : Int) ∧ x59 < 2147483648) <|
    gv (S_6.1 501 (x59 : Int).toNat) fun x62 =>
    gg (inr x57) <|
    gg (inr x62) <|
    if x62 ≤ x57 then (
      some (1, S_6)
    ) else (
      some ((-1), S_6)
    )
  )
def b_X12_compared_130 (n d : Nat) (rec : Nat → Nat → GS → List Int → Option (Int × GS)) (S : GS) (a5 : Int) (a6 : Int) (a7 : Int) (a8 : Int) : Option (Int × GS) :=
  gg (inr a8) <|
  if 24 ≤ a8 then (
    rec d 221 S [a5, a7]
  ) else (
    gg (inr a7) <|
    if a7 ≠ 0 then (
      rec d 221 S [a5, a7]
    ) else (
      gv (a5 + 18) fun x5 =>
      gg (0 ≤ x5 ∧ x5 < ((295728 : Nat) : Int) ∧ x5 < 2147483648) <|
      gv (S.1 501 (x5 : Int).toNat) fun x8 =>
      gg (inr x8) <|
      if x8 ≤ a8 then (
        rec d 175 S [a5, a6, a8, 48]
      ) else (
        gv (a5 + 21) fun x12 =>
        gv (x12 + a8) fun x14 =>
        gg (0 ≤ x14 ∧ x14 < ((295728 : Nat) : Int) ∧ x14 < 2147483648) <|
        gv (S.1 501 (x14 : Int).toNat) fun x17 =>
        rec d 175 S [a5, a6, a8, x17]
      )
    )
  )
def b_X12_compared_175 (n d : Nat) (rec : Nat → Nat → GS → List Int → Option (Int × GS)) (S : GS) (a5 : Int) (a6 : Int) (a8 : Int) (s0 : Int) : Option (Int × GS) :=
  gv (a6 + 18) fun x1 =>
  gg (0 ≤ x1 ∧ x1 < ((295728 : Nat) : Int) ∧ x1 < 2147483648) <|
  gv (S.1 501 (x1 : Int).toNat) fun x4 =>
  gg (inr a8) <|
  gg (inr x4) <|
  if x4 ≤ a8 then (
    gv (s0 - 48) fun x9 =>
    gv (a8 + 1) fun x11 =>
    rec d 130 S [a5, a6, x9, x11]
  ) else (
    gv (a6 + 21) fun x13 =>
    gv (x13 + a8) fun x15 =>
    gg (0 ≤ x15 ∧ x15 < ((295728 : Nat) : Int) ∧ x15 < 2147483648) <|
    gv (S.1 501 (x15 : Int).toNat) fun x18 =>
    gv (s0 - x18) fun x20 =>
    gv (a8 + 1) fun x22 =>
    rec d 130 S [a5, a6, x20, x22]
  )
def b_X12_compared_221 (n d : Nat) (rec : Nat → Nat → GS → List Int → Option (Int × GS)) (S : GS) (a5 : Int) (a7 : Int) : Option (Int × GS) :=
  gg (inr a7) <|
  if 0 ≤ a7 then (
    if a7 ≤ 0 then (
      rec d 240 S [a5, 0]
    ) else (
      rec d 240 S [a5, 1]
    )
  ) else (
    rec d 240 S [a5, (-1)]
  )
def b_X12_compared_240 (n d : Nat) (rec : Nat → Nat → GS → List Int → Option (Int × GS)) (S : GS) (a5 : Int) (s0 : Int) : Option (Int × GS) :=
  gv (a5 + 19) fun x1 =>
  gg (0 ≤ x1 ∧ x1 < ((295728 : Nat) : Int) ∧ x1 < 2147483648) <|
  gv (S.1 501 (x1 : Int).toNat) fun x4 =>
  gv (x4 * s0) fun x6 =>
  some (x6, S)
def f_X12_compared : Nat → Nat → Nat → GS → List Int → Option (Int × GS)
  | 0, _, _, _, _ => none
  | n + 1, d, pc, S, x => match pc, x with
    | 0, [a1, a2, a3, a4] => b_X12_compared_0 n d (f_X12_compared n) S a1 a2 a3 a4
    | 130, [a5, a6, a7, a8] => b_X12_compared_130 n d (f_X12_compared n) S a5 a6 a7 a8
    | 175, [a5, a6, a8, s0] => b_X12_compared_175 n d (f_X12_compared n) S a5 a6 a8 s0
    | 221, [a5, a7] => b_X12_compared_221 n d (f_X12_compared n) S a5 a7
    | 240, [a5, s0] => b_X12_compared_240 n d (f_X12_compared n) S a5 s0
    | _, _ => none
theorem e_X12_compared_0 {n d : Nat} {S : GS} {a1 : Int} {a2 : Int} {a3 : Int} {a4 : Int} : f_X12_compared (n + 1) d 0 S [a1, a2, a3, a4] = b_X12_compared_0 n d (f_X12_compared n) S a1 a2 a3 a4 := rfl
theorem e_X12_compared_130 {n d : Nat} {S : GS} {a5 : Int} {a6 : Int} {a7 : Int} {a8 : Int} : f_X12_compared (n + 1) d 130 S [a5, a6, a7, a8] = b_X12_compared_130 n d (f_X12_compared n) S a5 a6 a7 a8 := rfl
theorem e_X12_compared_175 {n d : Nat} {S : GS} {a5 : Int} {a6 : Int} {a8 : Int} {s0 : Int} : f_X12_compared (n + 1) d 175 S [a5, a6, a8, s0] = b_X12_compared_175 n d (f_X12_compared n) S a5 a6 a8 s0 := rfl
theorem e_X12_compared_221 {n d : Nat} {S : GS} {a5 : Int} {a7 : Int} : f_X12_compared (n + 1) d 221 S [a5, a7] = b_X12_compared_221 n d (f_X12_compared n) S a5 a7 := rfl
theorem e_X12_compared_240 {n d : Nat} {S : GS} {a5 : Int} {s0 : Int} : f_X12_compared (n + 1) d 240 S [a5, s0] = b_X12_compared_240 n d (f_X12_compared n) S a5 s0 := rfl

def b_X12_begin_0 (n d : Nat) (rec : Nat → Nat → GS → List Int → Option (Int × GS)) (S : GS) (a1 : Int) : Option (Int × GS) :=
  gg (0 ≤ a1 ∧ a1 < ((48 : Nat) : Int) ∧ a1 < 2147483648) <|
  gv (gI S 502 (a1 : Int).toNat 0) fun S_2 =>
  gv (gB S_2 500 5 (decide ((0 : Int) = 1))) fun S_4 =>
  some (0, S_4)
def f_X12_begin : Nat → Nat → Nat → GS → List Int → Option (Int × GS)
  | 0, _, _, _, _ => none
  | n + 1, d, pc, S, x => match pc, x with
    | 0, [a1] => b_X12_begin_0 n d (f_X12_begin n) S a1
    | _, _ => none
theorem e_X12_begin_0 {n d : Nat} {S : GS} {a1 : Int} : f_X12_begin (n + 1) d 0 S [a1] = b_X12_begin_0 n d (f_X12_begin n) S a1 := rfl

def b_X12_in_0 (n d : Nat) (rec : Nat → Nat → GS → List Int → Option (Int × GS)) (S : GS) (a0 : Int) (a1 : Int) (a2 : Int) : Option (Int × GS) :=
  gg (inr a0) <|
  gg (inr a1) <|
  if a0 < a1 then (
    some (0, S)
  ) else (
    gg (inr a2) <|
    if a2 < a0 then (
      some (0, S)
    ) else (
      some (1, S)
    )
  )
def f_X12_in : Nat → Nat → Nat → GS → List Int → Option (Int × GS)
  | 0, _, _, _, _ => none
  | n + 1, d, pc, S, x => match pc, x with
    | 0, [a0, a1, a2] => b_X12_in_0 n d (f_X12_in n) S a0 a1 a2
    | _, _ => none
theorem e_X12_in_0 {n d : Nat} {S : GS} {a0 : Int} {a1 : Int} {a2 : Int} : f_X12_in (n + 1) d 0 S [a0, a1, a2] = b_X12_in_0 n d (f_X12_in n) S a0 a1 a2 := rfl

def b_X12_isNumber_0 (n d : Nat) (rec : Nat → Nat → GS → List Int → Option (Int × GS)) (S : GS) (a1 : Int) (a2 : Int) (a3 : Int) (a4 : Int) : Option (Int × GS) :=
  rec d 10 S [a1, a2, a3, a4, 0]
def b_X12_isNumber_10 (n d : Nat) (rec : Nat → Nat → GS → List Int → Option (Int × GS)) (S : GS) (a1 : Int) (a2 : Int) (a5 : Int) (a6 : Int) (a7 : Int) : Option (Int × GS) :=
  gg (inr a7) <|
  gg (inr a5) <|
  if a5 ≤ a7 then (
    rec d 33 S [a1, a2, a5, a6, a7]
  ) else (
    gg (0 ≤ a7 ∧ a7 < ((24 : Nat) : Int) ∧ a7 < 2147483648) <|
    gv (S.1 510 (a7 : Int).toNat) fun x5 =>
    gg (inr x5) <|
    if x5 ≠ 0 then (
      rec d 33 S [a1, a2, a5, a6, a7]
    ) else (
      gv (a7 + 1) fun x9 =>
      rec d 10 S [a1, a2, a5, a6, x9]
    )
  )
def b_X12_isNumber_33 (n d : Nat) (rec : Nat → Nat → GS → List Int → Option (Int × GS)) (S : GS) (a1 : Int) (a2 : Int) (a5 : Int) (a6 : Int) (a7 : Int) : Option (Int × GS) :=
  gg (inr a5) <|
  gg (inr a7) <|
  if a5 ≤ a7 then (
    rec d 61 S [a1, a2, a5, a6, a7]
  ) else (
    gv (a5 - 1) fun x4 =>
    gg (0 ≤ x4 ∧ x4 < ((24 : Nat) : Int) ∧ x4 < 2147483648) <|
    gv (S.1 510 (x4 : Int).toNat) fun x7 =>
    gg (inr x7) <|
    if x7 ≠ 0 then (
      rec d 61 S [a1, a2, a5, a6, a7]
    ) else (
      gv (a5 + (-1)) fun x11 =>
      gv (a6 + 1) fun x13 =>
      rec d 33 S [a1, a2, x11, x13, a7]
    )
  )
def b_X12_isNumber_61 (n d : Nat) (rec : Nat → Nat → GS → List Int → Option (Int × GS)) (S : GS) (a1 : Int) (a2 : Int) (a5 : Int) (a6 : Int) (a7 : Int) : Option (Int × GS) :=
  gg (1 ≤ d) <|
  gc (f_X12_at n (d - 1) 0 S [40, a1]) fun x2 S_3 =>
  gg (inr a7) <|
  gg (inr a5) <|
  if a7 ≠ a5 then (
    gv (x2 + 18) fun x8 =>
    gv (a5 - a7) fun x10 =>
    gg (0 ≤ x8 ∧ x8 < ((295728 : Nat) : Int) ∧ x8 < 2147483648) <|
    gv (gI S_3 501 (x8 : Int).toNat x10) fun S_13 =>
    gv (x2 + 19) fun x15 =>
    gg (inr a2) <|
    if a2 = 0 then (
      rec d 156 S_13 [a5, a6, a7, x2, 1, x15]
    ) else (
      rec d 156 S_13 [a5, a6, a7, x2, (-1), x15]
    )
  ) else (
    gv (x2 + 18) fun x19 =>
    gg (0 ≤ x19 ∧ x19 < ((295728 : Nat) : Int) ∧ x19 < 2147483648) <|
    gv (gI S_3 501 (x19 : Int).toNat 1) fun S_22 =>
    gv (x2 + 19) fun x24 =>
    gg (0 ≤ x24 ∧ x24 < ((295728 : Nat) : Int) ∧ x24 < 2147483648) <|
    gv (gI S_22 501 (x24 : Int).toNat 0) fun S_27 =>
    gv (x2 + 20) fun x29 =>
    gg (0 ≤ x29 ∧ x29 < ((295728 : Nat) : Int) ∧ x29 < 2147483648) <|
    gv (gI S_27 501 (x29 : Int).toNat 0) fun S_32 =>
    gv (x2 + 21) fun x34 =>
    gg (0 ≤ x34 ∧ x34 < ((295728 : Nat) : Int) ∧ x34 < 2147483648) <|
    gv (gI S_32 501 (x34 : Int).toNat 48) fun S_37 =>
    some (1, S_37)
  )
def b_X12_isNumber_156 (n d : Nat) (rec : Nat → Nat → GS → List Int → Option (Int × GS)) (S : GS) (a5 : Int) (a6 : Int) (a7 : Int) (a8 : Int) (s0 : Int) (s1 : Int) : Option (Int × GS) :=
  gg (0 ≤ s1 ∧ s1 < ((295728 : Nat) : Int) ∧ s1 < 2147483648) <|
  gv (gI S 501 (s1 : Int).toNat s0) fun S_2 =>
  gv (a8 + 20) fun x4 =>
  gg (0 ≤ x4 ∧ x4 < ((295728 : Nat) : Int) ∧ x4 < 2147483648) <|
  gv (gI S_2 501 (x4 : Int).toNat a6) fun S_7 =>
  rec d 173 S_7 [a5, a6, a7, a8, a7]
def b_X12_isNumber_173 (n d : Nat) (rec : Nat → Nat → GS → List Int → Option (Int × GS)) (S : GS) (a5 : Int) (a6 : Int) (a7 : Int) (a8 : Int) (a9 : Int) : Option (Int × GS) :=
  gg (inr a9) <|
  gg (inr a5) <|
  if a5 ≤ a9 then (
    gg (1 ≤ d) <|
    gc (f_X12_in n (d - 1) 0 S [a6, (-99), 99]) fun x5 S_6 =>
    gg (x5 = 0 ∨ x5 = 1) <|
    some (x5, S_6)
  ) else (
    gv (a8 + 21) fun x9 =>
    gv (x9 + a9) fun x11 =>
    gv (x11 - a7) fun x13 =>
    gg (0 ≤ a9 ∧ a9 < ((24 : Nat) : Int) ∧ a9 < 2147483648) <|
    gv (S.1 510 (a9 : Int).toNat) fun x16 =>
    gv (48 + x16) fun x18 =>
    gg (0 ≤ x13 ∧ x13 < ((295728 : Nat) : Int) ∧ x13 < 2147483648) <|
    gv (gI S 501 (x13 : Int).toNat x18) fun S_21 =>
    gv (a9 + 1) fun x23 =>
    rec d 173 S_21 [a5, a6, a7, a8, x23]
  )
def f_X12_isNumber : Nat → Nat → Nat → GS → List Int → Option (Int × GS)
  | 0, _, _, _, _ => none
  | n + 1, d, pc, S, x => match pc, x with
    | 0, [a1, a2, a3, a4] => b_X12_isNumber_0 n d (f_X12_isNumber n) S a1 a2 a3 a4
    | 10, [a1, a2, a5, a6, a7] => b_X12_isNumber_10 n d (f_X12_isNumber n) S a1 a2 a5 a6 a7
    | 33, [a1, a2, a5, a6, a7] => b_X12_isNumber_33 n d (f_X12_isNumber n) S a1 a2 a5 a6 a7
    | 61, [a1, a2, a5, a6, a7] => b_X12_isNumber_61 n d (f_X12_isNumber n) S a1 a2 a5 a6 a7
    | 156, [a5, a6, a7, a8, s0, s1] => b_X12_isNumber_156 n d (f_X12_isNumber n) S a5 a6 a7 a8 s0 s1
    | 173, [a5, a6, a7, a8, a9] => b_X12_isNumber_173 n d (f_X12_isNumber n) S a5 a6 a7 a8 a9
    | _, _ => none
theorem e_X12_isNumber_0 {n d : Nat} {S : GS} {a1 : Int} {a2 : Int} {a3 : Int} {a4 : Int} : f_X12_isNumber (n + 1) d 0 S [a1, a2, a3, a4] = b_X12_isNumber_0 n d (f_X12_isNumber n) S a1 a2 a3 a4 := rfl
theorem e_X12_isNumber_10 {n d : Nat} {S : GS} {a1 : Int} {a2 : Int} {a5 : Int} {a6 : Int} {a7 : Int} : f_X12_isNumber (n + 1) d 10 S [a1, a2, a5, a6, a7] = b_X12_isNumber_10 n d (f_X12_isNumber n) S a1 a2 a5 a6 a7 := rfl
theorem e_X12_isNumber_33 {n d : Nat} {S : GS} {a1 : Int} {a2 : Int} {a5 : Int} {a6 : Int} {a7 : Int} : f_X12_isNumber (n + 1) d 33 S [a1, a2, a5, a6, a7] = b_X12_isNumber_33 n d (f_X12_isNumber n) S a1 a2 a5 a6 a7 := rfl
theorem e_X12_isNumber_61 {n d : Nat} {S : GS} {a1 : Int} {a2 : Int} {a5 : Int} {a6 : Int} {a7 : Int} : f_X12_isNumber (n + 1) d 61 S [a1, a2, a5, a6, a7] = b_X12_isNumber_61 n d (f_X12_isNumber n) S a1 a2 a5 a6 a7 := rfl
theorem e_X12_isNumber_156 {n d : Nat} {S : GS} {a5 : Int} {a6 : Int} {a7 : Int} {a8 : Int} {s0 : Int} {s1 : Int} : f_X12_isNumber (n + 1) d 156 S [a5, a6, a7, a8, s0, s1] = b_X12_isNumber_156 n d (f_X12_isNumber n) S a5 a6 a7 a8 s0 s1 := rfl
theorem e_X12_isNumber_173 {n d : Nat} {S : GS} {a5 : Int} {a6 : Int} {a7 : Int} {a8 : Int} {a9 : Int} : f_X12_isNumber (n + 1) d 173 S [a5, a6, a7, a8, a9] = b_X12_isNumber_173 n d (f_X12_isNumber n) S a5 a6 a7 a8 a9 := rfl

def b_X12_beside_0 (n d : Nat) (rec : Nat → Nat → GS → List Int → Option (Int × GS)) (S : GS) (a1 : Int) (a2 : Int) : Option (Int × GS) :=
  gg (1 ≤ d) <|
  gc (f_X12_begin n (d - 1) 0 S [40]) fun x2 S_3 =>
  gc (f_X12_added n (d - 1) 0 S_3 [40, 2]) fun x5 S_6 =>
  gg ((0 ≤ a1 ∧ a1 < 2147483648) ∧ ((0 : Int) < 100 ∧ (100 : Int) < 2147483648)) <|
  gv (a1 / 100) fun x9 =>
  gg ((0 : Int) ≤ 0 ∧ (0 : Int) < ((24 : Nat) : Int) ∧ (0 : Int) < 2147483648) <|
  gv (gI S_6 510 (0 : Int).toNat x9) fun S_12 =>
  gg ((0 ≤ a1 ∧ a1 < 2147483648) ∧ ((0 : Int) < 10 ∧ (10 : Int) < 2147483648)) <|
  gv (a1 / 10) fun x15 =>
  gg ((0 ≤ x15 ∧ x15 < 2147483648) ∧ ((0 : Int) < 10 ∧ (10 : Int) < 2147483648)) <|
  gv (x15 % 10) fun x18 =>
  gg ((0 : Int) ≤ 1 ∧ (1 : Int) < ((24 : Nat) : Int) ∧ (1 : Int) < 2147483648) <|
  gv (gI S_12 510 (1 : Int).toNat x18) fun S_21 =>
  gg ((0 ≤ a1 ∧ a1 < 2147483648) ∧ ((0 : Int) < 10 ∧ (10 : Int) < 2147483648)) <|
  gv (a1 % 10) fun x24 =>
  gg ((0 : Int) ≤ 2 ∧ (2 : Int) < ((24 : Nat) : Int) ∧ (2 : Int) < 2147483648) <|
  gv (gI S_21 510 (2 : Int).toNat x24) fun S_27 =>
  gc (f_X12_isNumber n (d - 1) 0 S_27 [x5, 0, 3, 0]) fun x29 S_30 =>
  gv (S_30.1 500 62) fun x32 =>
  gc (f_X12_compared n (d - 1) 0 S_30 [40, x5, x32, a2]) fun x34 S_35 =>
  some (x34, S_35)
def f_X12_beside : Nat → Nat → Nat → GS → List Int → Option (Int × GS)
  | 0, _, _, _, _ => none
  | n + 1, d, pc, S, x => match pc, x with
    | 0, [a1, a2] => b_X12_beside_0 n d (f_X12_beside n) S a1 a2
    | _, _ => none
theorem e_X12_beside_0 {n d : Nat} {S : GS} {a1 : Int} {a2 : Int} : f_X12_beside (n + 1) d 0 S [a1, a2] = b_X12_beside_0 n d (f_X12_beside n) S a1 a2 := rfl

def b_X12_wordOfText_0 (n d : Nat) (rec : Nat → Nat → GS → List Int → Option (Int × GS)) (S : GS) (a1 : Int) (a2 : Int) : Option (Int × GS) :=
  gg (1 ≤ d) <|
  gc (f_X12_part n (d - 1) 0 S [a1, a2, 18]) fun x2 S_3 =>
  gv (gI S_3 500 13 x2) fun S_5 =>
  rec d 14 S_5 [a1, a2, 0]
def b_X12_wordOfText_14 (n d : Nat) (rec : Nat → Nat → GS → List Int → Option (Int × GS)) (S : GS) (a1 : Int) (a2 : Int) (a3 : Int) : Option (Int × GS) :=
  gv (S.1 500 13) fun x1 =>
  gg (inr a3) <|
  gg (inr x1) <|
  if x1 ≤ a3 then (
    some (0, S)
  ) else (
    gv (21 + a3) fun x6 =>
    gg (1 ≤ d) <|
    gc (f_X12_part n (d - 1) 0 S [a1, a2, x6]) fun x9 S_10 =>
    gg (0 ≤ a3 ∧ a3 < ((1000 : Nat) : Int) ∧ a3 < 2147483648) <|
    gv (gI S_10 507 (a3 : Int).toNat x9) fun S_13 =>
    gv (a3 + 1) fun x15 =>
    rec d 14 S_13 [a1, a2, x15]
  )
def f_X12_wordOfText : Nat → Nat → Nat → GS → List Int → Option (Int × GS)
  | 0, _, _, _, _ => none
  | n + 1, d, pc, S, x => match pc, x with
    | 0, [a1, a2] => b_X12_wordOfText_0 n d (f_X12_wordOfText n) S a1 a2
    | 14, [a1, a2, a3] => b_X12_wordOfText_14 n d (f_X12_wordOfText n) S a1 a2 a3
    | _, _ => none
theorem e_X12_wordOfText_0 {n d : Nat} {S : GS} {a1 : Int} {a2 : Int} : f_X12_wordOfText (n + 1) d 0 S [a1, a2] = b_X12_wordOfText_0 n d (f_X12_wordOfText n) S a1 a2 := rfl
theorem e_X12_wordOfText_14 {n d : Nat} {S : GS} {a1 : Int} {a2 : Int} {a3 : Int} : f_X12_wordOfText (n + 1) d 14 S [a1, a2, a3] = b_X12_wordOfText_14 n d (f_X12_wordOfText n) S a1 a2 a3 := rfl

def b_X12_says__0 (n d : Nat) (rec : Nat → Nat → GS → List Int → Option (Int × GS)) (S : GS) (a1 : Int) (a2 : Int) (a3 : Int) : Option (Int × GS) :=
  gv (S.1 500 63) fun x1 =>
  gg (1 ≤ d) <|
  gc (f_X12_kind n (d - 1) 0 S [x1, a3]) fun x4 S_5 =>
  gg (inr x4) <|
  if x4 ≠ 3 then (
    gv (S_5.1 500 63) fun x9 =>
    gc (f_X12_part n (d - 1) 0 S_5 [x9, a3, 3]) fun x11 S_12 =>
    rec d 41 S_12 [a1, a2, a3, x4, x11]
  ) else (
    gv (S_5.1 500 63) fun x14 =>
    gc (f_X12_part n (d - 1) 0 S_5 [x14, a3, 18]) fun x16 S_17 =>
    rec d 41 S_17 [a1, a2, a3, x4, x16]
  )
def b_X12_says__41 (n d : Nat) (rec : Nat → Nat → GS → List Int → Option (Int × GS)) (S : GS) (a1 : Int) (a2 : Int) (a3 : Int) (a4 : Int) (s0 : Int) : Option (Int × GS) :=
  gg (inr a1) <|
  if a1 ≠ 1 then (
    if a1 ≠ 2 then (
      if a1 ≠ 3 then (
        if a1 ≠ 4 then (
          if a1 ≠ 5 then (
            if a1 ≠ 6 then (
              rec d 339 S [a1, a2, a3, 0, 0]
            ) else (
              rec d 264 S [a1, a2, a3, a4, 1, 0]
            )
          ) else (
            gg (inr a4) <|
            if a4 < 3 then (
              rec d 250 S [a1, a3, 1]
            ) else (
              gg (1 ≤ d) <|
              gc (f_X12_beside n (d - 1) 0 S [s0, a2]) fun x11 S_12 =>
              gg (inr x11) <|
              if 0 < x11 then (
                rec d 250 S_12 [a1, a3, 0]
              ) else (
                rec d 250 S_12 [a1, a3, 1]
              )
            )
          )
        ) else (
          gg (inr a4) <|
          if a4 < 3 then (
            rec d 219 S [a1, a3, 1]
          ) else (
            gg (1 ≤ d) <|
            gc (f_X12_beside n (d - 1) 0 S [s0, a2]) fun x19 S_20 =>
            gg (inr x19) <|
            if x19 < 0 then (
              rec d 219 S_20 [a1, a3, 0]
            ) else (
              rec d 219 S_20 [a1, a3, 1]
            )
          )
        )
      ) else (
        gg (inr a4) <|
        if a4 ≠ 2 then (
          rec d 188 S [a1, a3, 1]
        ) else (
          gv (S.1 500 63) fun x26 =>
          gv (S.1 500 62) fun x28 =>
          gg (1 ≤ d) <|
          gc (f_X12_compared n (d - 1) 0 S [x26, a3, x28, a2]) fun x31 S_32 =>
          gg (inr x31) <|
          if 0 < x31 then (
            rec d 188 S_32 [a1, a3, 0]
          ) else (
            rec d 188 S_32 [a1, a3, 1]
          )
        )
      )
    ) else (
      gg (inr a4) <|
      if a4 ≠ 2 then (
        rec d 150 S [a1, a3, 1]
      ) else (
        gv (S.1 500 63) fun x38 =>
        gv (S.1 500 62) fun x40 =>
        gg (1 ≤ d) <|
        gc (f_X12_compared n (d - 1) 0 S [x38, a3, x40, a2]) fun x43 S_44 =>
        gg (inr x43) <|
        if x43 < 0 then (
          rec d 150 S_44 [a1, a3, 0]
        ) else (
          rec d 150 S_44 [a1, a3, 1]
        )
      )
    )
  ) else (
    gg (1 ≤ d) <|
    gc (f_X12_isKind n (d - 1) 0 S [a2, a3]) fun x49 S_50 =>
    rec d 62 S_50 [a1, a2, a3, x49, 0]
  )
def b_X12_says__62 (n d : Nat) (rec : Nat → Nat → GS → List Int → Option (Int × GS)) (S : GS) (a1 : Int) (a2 : Int) (a3 : Int) (a6 : Int) (a7 : Int) : Option (Int × GS) :=
  gv (S.1 500 62) fun x1 =>
  gg (1 ≤ d) <|
  gc (f_X12_part n (d - 1) 0 S [x1, a2, 3]) fun x4 S_5 =>
  gg (inr a7) <|
  gg (inr x4) <|
  if x4 ≤ a7 then (
    gg (inr a6) <|
    if a6 ≠ 0 then (
      some (0, S_5)
    ) else (
      gc (f_X12_complains n (d - 1) 0 S_5 [a3, a1]) fun x12 S_13 =>
      some (0, S_13)
    )
  ) else (
    gg (inr a6) <|
    if a6 ≠ 0 then (
      gv (a7 + 1) fun x17 =>
      rec d 62 S_5 [a1, a2, a3, 1, x17]
    ) else (
      gv (S_5.1 500 62) fun x19 =>
      gc (f_X12_childAt n (d - 1) 0 S_5 [x19, a2, a7]) fun x21 S_22 =>
      gc (f_X12_isKind n (d - 1) 0 S_22 [x21, a3]) fun x24 S_25 =>
      gg (inr x24) <|
      if x24 = 0 then (
        gv (a7 + 1) fun x29 =>
        rec d 62 S_25 [a1, a2, a3, 0, x29]
      ) else (
        gv (a7 + 1) fun x31 =>
        rec d 62 S_25 [a1, a2, a3, 1, x31]
      )
    )
  )
def b_X12_says__150 (n d : Nat) (rec : Nat → Nat → GS → List Int → Option (Int × GS)) (S : GS) (a1 : Int) (a3 : Int) (s0 : Int) : Option (Int × GS) :=
  gg (inr s0) <|
  if s0 ≠ 0 then (
    some (0, S)
  ) else (
    gg (1 ≤ d) <|
    gc (f_X12_complains n (d - 1) 0 S [a3, a1]) fun x4 S_5 =>
    some (0, S_5)
  )
def b_X12_says__188 (n d : Nat) (rec : Nat → Nat → GS → List Int → Option (Int × GS)) (S : GS) (a1 : Int) (a3 : Int) (s0 : Int) : Option (Int × GS) :=
  gg (inr s0) <|
  if s0 ≠ 0 then (
    some (0, S)
  ) else (
    gg (1 ≤ d) <|
    gc (f_X12_complains n (d - 1) 0 S [a3, a1]) fun x4 S_5 =>
    some (0, S_5)
  )
def b_X12_says__219 (n d : Nat) (rec : Nat → Nat → GS → List Int → Option (Int × GS)) (S : GS) (a1 : Int) (a3 : Int) (s0 : Int) : Option (Int × GS) :=
  gg (inr s0) <|
  if s0 ≠ 0 then (
    some (0, S)
  ) else (
    gg (1 ≤ d) <|
    gc (f_X12_complains n (d - 1) 0 S [a3, a1]) fun x4 S_5 =>
    some (0, S_5)
  )
def b_X12_says__250 (n d : Nat) (rec : Nat → Nat → GS → List Int → Option (Int × GS)) (S : GS) (a1 : Int) (a3 : Int) (s0 : Int) : Option (Int × GS) :=
  gg (inr s0) <|
  if s0 ≠ 0 then (
    some (0, S)
  ) else (
    gg (1 ≤ d) <|
    gc (f_X12_complains n (d - 1) 0 S [a3, a1]) fun x4 S_5 =>
    some (0, S_5)
  )
def b_X12_says__264 (n d : Nat) (rec : Nat → Nat → GS → List Int → Option (Int × GS)) (S : GS) (a1 : Int) (a2 : Int) (a3 : Int) (a4 : Int) (a6 : Int) (a7 : Int) : Option (Int × GS) :=
  gv (S.1 500 62) fun x1 =>
  gg (1 ≤ d) <|
  gc (f_X12_part n (d - 1) 0 S [x1, a2, 3]) fun x4 S_5 =>
  gg (inr a7) <|
  gg (inr x4) <|
  if x4 ≤ a7 then (
    rec d 330 S_5 [a1, a3, a6]
  ) else (
    gg (inr a4) <|
    if a4 ≠ 5 then (
      rec d 330 S_5 [a1, a3, a6]
    ) else (
      gv (S_5.1 500 62) fun x12 =>
      gv (S_5.1 500 62) fun x14 =>
      gc (f_X12_childAt n (d - 1) 0 S_5 [x14, a2, a7]) fun x16 S_17 =>
      gc (f_X12_wordOfText n (d - 1) 0 S_17 [x12, x16]) fun x19 S_20 =>
      gv (S_20.1 500 63) fun x22 =>
      gc (f_X12_childByWord n (d - 1) 0 S_20 [x22, a3]) fun x24 S_25 =>
      gg (inr x24) <|
      if x24 ≠ (-1) then (
        gv (a7 + 1) fun x29 =>
        rec d 264 S_25 [a1, a2, a3, a4, a6, x29]
      ) else (
        gc (f_X12_complains n (d - 1) 0 S_25 [a3, 6]) fun x31 S_32 =>
        gv (a7 + 1) fun x34 =>
        rec d 264 S_32 [a1, a2, a3, a4, a6, x34]
      )
    )
  )
def b_X12_says__330 (n d : Nat) (rec : Nat → Nat → GS → List Int → Option (Int × GS)) (S : GS) (a1 : Int) (a3 : Int) (a6 : Int) : Option (Int × GS) :=
  gg (inr a6) <|
  if a6 ≠ 0 then (
    some (0, S)
  ) else (
    gg (1 ≤ d) <|
    gc (f_X12_complains n (d - 1) 0 S [a3, a1]) fun x4 S_5 =>
    some (0, S_5)
  )
def b_X12_says__339 (n d : Nat) (rec : Nat → Nat → GS → List Int → Option (Int × GS)) (S : GS) (a1 : Int) (a2 : Int) (a3 : Int) (a6 : Int) (a7 : Int) : Option (Int × GS) :=
  gv (S.1 500 62) fun x1 =>
  gg (1 ≤ d) <|
  gc (f_X12_part n (d - 1) 0 S [x1, a2, 3]) fun x4 S_5 =>
  gg (inr a7) <|
  gg (inr x4) <|
  if x4 ≤ a7 then (
    gg (inr a6) <|
    if a6 ≠ 0 then (
      some (0, S_5)
    ) else (
      gc (f_X12_complains n (d - 1) 0 S_5 [a3, a1]) fun x12 S_13 =>
      some (0, S_13)
    )
  ) else (
    gg (inr a6) <|
    if a6 ≠ 0 then (
      gv (a7 + 1) fun x17 =>
      rec d 339 S_5 [a1, a2, a3, 1, x17]
    ) else (
      gv (S_5.1 500 62) fun x19 =>
      gv (S_5.1 500 62) fun x21 =>
      gc (f_X12_childAt n (d - 1) 0 S_5 [x21, a2, a7]) fun x23 S_24 =>
      gv (S_24.1 500 63) fun x26 =>
      gc (f_X12_areEqual n (d - 1) 0 S_24 [x19, x23, x26, a3]) fun x28 S_29 =>
      gg (inr x28) <|
      if x28 = 0 then (
        gv (a7 + 1) fun x33 =>
        rec d 339 S_29 [a1, a2, a3, 0, x33]
      ) else (
        gv (a7 + 1) fun x35 =>
        rec d 339 S_29 [a1, a2, a3, 1, x35]
      )
    )
  )
def f_X12_says_ : Nat → Nat → Nat → GS → List Int → Option (Int × GS)
  | 0, _, _, _, _ => none
  | n + 1, d, pc, S, x => match pc, x with
    | 0, [a1, a2, a3] => b_X12_says__0 n d (f_X12_says_ n) S a1 a2 a3
    | 41, [a1, a2, a3, a4, s0] => b_X12_says__41 n d (f_X12_says_ n) S a1 a2 a3 a4 s0
    | 62, [a1, a2, a3, a6, a7] => b_X12_says__62 n d (f_X12_says_ n) S a1 a2 a3 a6 a7
    | 150, [a1, a3, s0] => b_X12_says__150 n d (f_X12_says_ n) S a1 a3 s0
    | 188, [a1, a3, s0] => b_X12_says__188 n d (f_X12_says_ n) S a1 a3 s0
    | 219, [a1, a3, s0] => b_X12_says__219 n d (f_X12_says_ n) S a1 a3 s0
    | 250, [a1, a3, s0] => b_X12_says__250 n d (f_X12_says_ n) S a1 a3 s0
    | 264, [a1, a2, a3, a4, a6, a7] => b_X12_says__264 n d (f_X12_says_ n) S a1 a2 a3 a4 a6 a7
    | 330, [a1, a3, a6] => b_X12_says__330 n d (f_X12_says_ n) S a1 a3 a6
    | 339, [a1, a2, a3, a6, a7] => b_X12_says__339 n d (f_X12_says_ n) S a1 a2 a3 a6 a7
    | _, _ => none
theorem e_X12_says__0 {n d : Nat} {S : GS} {a1 : Int} {a2 : Int} {a3 : Int} : f_X12_says_ (n + 1) d 0 S [a1, a2, a3] = b_X12_says__0 n d (f_X12_says_ n) S a1 a2 a3 := rfl
theorem e_X12_says__41 {n d : Nat} {S : GS} {a1 : Int} {a2 : Int} {a3 : Int} {a4 : Int} {s0 : Int} : f_X12_says_ (n + 1) d 41 S [a1, a2, a3, a4, s0] = b_X12_says__41 n d (f_X12_says_ n) S a1 a2 a3 a4 s0 := rfl
theorem e_X12_says__62 {n d : Nat} {S : GS} {a1 : Int} {a2 : Int} {a3 : Int} {a6 : Int} {a7 : Int} : f_X12_says_ (n + 1) d 62 S [a1, a2, a3, a6, a7] = b_X12_says__62 n d (f_X12_says_ n) S a1 a2 a3 a6 a7 := rfl
theorem e_X12_says__150 {n d : Nat} {S : GS} {a1 : Int} {a3 : Int} {s0 : Int} : f_X12_says_ (n + 1) d 150 S [a1, a3, s0] = b_X12_says__150 n d (f_X12_says_ n) S a1 a3 s0 := rfl
theorem e_X12_says__188 {n d : Nat} {S : GS} {a1 : Int} {a3 : Int} {s0 : Int} : f_X12_says_ (n + 1) d 188 S [a1, a3, s0] = b_X12_says__188 n d (f_X12_says_ n) S a1 a3 s0 := rfl
theorem e_X12_says__219 {n d : Nat} {S : GS} {a1 : Int} {a3 : Int} {s0 : Int} : f_X12_says_ (n + 1) d 219 S [a1, a3, s0] = b_X12_says__219 n d (f_X12_says_ n) S a1 a3 s0 := rfl
theorem e_X12_says__250 {n d : Nat} {S : GS} {a1 : Int} {a3 : Int} {s0 : Int} : f_X12_says_ (n + 1) d 250 S [a1, a3, s0] = b_X12_says__250 n d (f_X12_says_ n) S a1 a3 s0 := rfl
theorem e_X12_says__264 {n d : Nat} {S : GS} {a1 : Int} {a2 : Int} {a3 : Int} {a4 : Int} {a6 : Int} {a7 : Int} : f_X12_says_ (n + 1) d 264 S [a1, a2, a3, a4, a6, a7] = b_X12_says__264 n d (f_X12_says_ n) S a1 a2 a3 a4 a6 a7 := rfl
theorem e_X12_says__330 {n d : Nat} {S : GS} {a1 : Int} {a3 : Int} {a6 : Int} : f_X12_says_ (n + 1) d 330 S [a1, a3, a6] = b_X12_says__330 n d (f_X12_says_ n) S a1 a3 a6 := rfl
theorem e_X12_says__339 {n d : Nat} {S : GS} {a1 : Int} {a2 : Int} {a3 : Int} {a6 : Int} {a7 : Int} : f_X12_says_ (n + 1) d 339 S [a1, a2, a3, a6, a7] = b_X12_says__339 n d (f_X12_says_ n) S a1 a2 a3 a6 a7 := rfl

def b_X12_asksOf_0 (n d : Nat) (rec : Nat → Nat → GS → List Int → Option (Int × GS)) (S : GS) (a1 : Int) (a2 : Int) : Option (Int × GS) :=
  gv (S.1 500 64) fun x1 =>
  gv (x1 + 1) fun x3 =>
  gv (gI S 500 64 x3) fun S_5 =>
  gv (S_5.1 500 66) fun x7 =>
  gg (0 ≤ x7 ∧ x7 < ((500 : Nat) : Int) ∧ x7 < 2147483648) <|
  gv (gI S_5 541 (x7 : Int).toNat a1) fun S_10 =>
  gv (S_10.1 500 66) fun x12 =>
  gg (0 ≤ x12 ∧ x12 < ((500 : Nat) : Int) ∧ x12 < 2147483648) <|
  gv (gI S_10 542 (x12 : Int).toNat a2) fun S_15 =>
  gv (S_15.1 500 66) fun x17 =>
  gg (0 ≤ x17 ∧ x17 < ((500 : Nat) : Int) ∧ x17 < 2147483648) <|
  gv (gI S_15 543 (x17 : Int).toNat 1) fun S_20 =>
  gv (S_20.1 500 66) fun x22 =>
  gg (0 ≤ x22 ∧ x22 < ((500 : Nat) : Int) ∧ x22 < 2147483648) <|
  gv (gI S_20 544 (x22 : Int).toNat 0) fun S_25 =>
  gv (S_25.1 500 66) fun x27 =>
  gv (S_25.1 500 79) fun x29 =>
  gg (0 ≤ x27 ∧ x27 < ((500 : Nat) : Int) ∧ x27 < 2147483648) <|
  gv (gI S_25 545 (x27 : Int).toNat x29) fun S_32 =>
  gv (S_32.1 500 66) fun x34 =>
  gg (0 ≤ x34 ∧ x34 < ((500 : Nat) : Int) ∧ x34 < 2147483648) <|
  gv (gI S_32 547 (x34 : Int).toNat 0) fun S_37 =>
  gv (S_37.1 500 66) fun x39 =>
  gg (0 ≤ x39 ∧ x39 < ((500 : Nat) : Int) ∧ x39 < 2147483648) <|
  gv (gB S_37 548 (x39 : Int).toNat (decide ((0 : Int) = 1))) fun S_42 =>
  gv (S_42.1 500 66) fun x44 =>
  gv (x44 + 1) fun x46 =>
  gv (gI S_42 500 66 x46) fun S_48 =>
  some (0, S_48)
def f_X12_asksOf : Nat → Nat → Nat → GS → List Int → Option (Int × GS)
  | 0, _, _, _, _ => none
  | n + 1, d, pc, S, x => match pc, x with
    | 0, [a1, a2] => b_X12_asksOf_0 n d (f_X12_asksOf n) S a1 a2
    | _, _ => none
theorem e_X12_asksOf_0 {n d : Nat} {S : GS} {a1 : Int} {a2 : Int} : f_X12_asksOf (n + 1) d 0 S [a1, a2] = b_X12_asksOf_0 n d (f_X12_asksOf n) S a1 a2 := rfl

def b_X12_asksRef_0 (n d : Nat) (rec : Nat → Nat → GS → List Int → Option (Int × GS)) (S : GS) (a1 : Int) (a2 : Int) (a3 : Int) : Option (Int × GS) :=
  gv (S.1 500 62) fun x1 =>
  gg (1 ≤ d) <|
  gc (f_X12_kind n (d - 1) 0 S [x1, 0]) fun x4 S_5 =>
  gg (inr x4) <|
  if x4 ≠ 5 then (
    rec d 29 S_5 [a1, a2, a3, (-1)]
  ) else (
    gv (S_5.1 500 62) fun x9 =>
    gc (f_X12_childNamed n (d - 1) 0 S_5 [x9, 0, 7953758699401510912]) fun x11 S_12 =>
    rec d 29 S_12 [a1, a2, a3, x11]
  )
def b_X12_asksRef_29 (n d : Nat) (rec : Nat → Nat → GS → List Int → Option (Int × GS)) (S : GS) (a1 : Int) (a2 : Int) (a3 : Int) (s0 : Int) : Option (Int × GS) :=
  gv (S.1 500 62) fun x1 =>
  gg (1 ≤ d) <|
  gc (f_X12_wordOfText n (d - 1) 0 S [x1, a2]) fun x4 S_5 =>
  gg (inr s0) <|
  if s0 = (-1) then (
    rec d 79 S_5 [a1, a3, (-1), 0]
  ) else (
    gv (S_5.1 500 62) fun x9 =>
    gc (f_X12_kind n (d - 1) 0 S_5 [x9, s0]) fun x11 S_12 =>
    gg (inr x11) <|
    if x11 = 5 then (
      gv (S_12.1 500 62) fun x16 =>
      gc (f_X12_childByWord n (d - 1) 0 S_12 [x16, s0]) fun x18 S_19 =>
      rec d 79 S_19 [a1, a3, x18, 0]
    ) else (
      rec d 79 S_12 [a1, a3, (-1), 0]
    )
  )
def b_X12_asksRef_79 (n d : Nat) (rec : Nat → Nat → GS → List Int → Option (Int × GS)) (S : GS) (a1 : Int) (a3 : Int) (a5 : Int) (a6 : Int) : Option (Int × GS) :=
  gv (S.1 500 76) fun x1 =>
  gg (inr a6) <|
  gg (inr x1) <|
  if x1 ≤ a6 then (
    gg (inr a5) <|
    if a5 = (-1) then (
      gg (1 ≤ d) <|
      gc (f_X12_complains n (d - 1) 0 S [a3, 15]) fun x9 S_10 =>
      some (0, S_10)
    ) else (
      gv (S.1 500 76) fun x12 =>
      gg (inr x12) <|
      if x12 ≠ 13 then (
        gv (S.1 500 76) fun x16 =>
        gg (0 ≤ x16 ∧ x16 < ((16 : Nat) : Int) ∧ x16 < 2147483648) <|
        gv (gI S 549 (x16 : Int).toNat a5) fun S_19 =>
        gv (S_19.1 500 76) fun x21 =>
        gg (0 ≤ x21 ∧ x21 < ((16 : Nat) : Int) ∧ x21 < 2147483648) <|
        gv (gI S_19 550 (x21 : Int).toNat a3) fun S_24 =>
        gv (S_24.1 500 76) fun x26 =>
        gv (x26 + 1) fun x28 =>
        gv (gI S_24 500 76 x28) fun S_30 =>
        gg (0 ≤ a1 ∧ a1 < ((500 : Nat) : Int) ∧ a1 < 2147483648) <|
        gv (gB S_30 548 (a1 : Int).toNat (decide ((1 : Int) = 1))) fun S_33 =>
        gg (1 ≤ d) <|
        gc (f_X12_asksOf n (d - 1) 0 S_33 [a5, a3]) fun x36 S_37 =>
        some (1, S_37)
      ) else (
        gg (1 ≤ d) <|
        gc (f_X12_complains n (d - 1) 0 S [a3, 15]) fun x40 S_41 =>
        some (0, S_41)
      )
    )
  ) else (
    gg (inr a5) <|
    if a5 = (-1) then (
      gv (a6 + 1) fun x45 =>
      rec d 79 S [a1, a3, a5, x45]
    ) else (
      gg (0 ≤ a6 ∧ a6 < ((16 : Nat) : Int) ∧ a6 < 2147483648) <|
      gv (S.1 549 (a6 : Int).toNat) fun x48 =>
      gg (inr x48) <|
      if x48 ≠ a5 then (
        gv (a6 + 1) fun x52 =>
        rec d 79 S [a1, a3, a5, x52]
      ) else (
        gv (S.1 550 (a6 : Int).toNat) fun x54 =>
        gg (inr x54) <|
        gg (inr a3) <|
        if x54 ≠ a3 then (
          gv (a6 + 1) fun x59 =>
          rec d 79 S [a1, a3, a5, x59]
        ) else (
          some (0, S)
        )
      )
    )
  )
def f_X12_asksRef : Nat → Nat → Nat → GS → List Int → Option (Int × GS)
  | 0, _, _, _, _ => none
  | n + 1, d, pc, S, x => match pc, x with
    | 0, [a1, a2, a3] => b_X12_asksRef_0 n d (f_X12_asksRef n) S a1 a2 a3
    | 29, [a1, a2, a3, s0] => b_X12_asksRef_29 n d (f_X12_asksRef n) S a1 a2 a3 s0
    | 79, [a1, a3, a5, a6] => b_X12_asksRef_79 n d (f_X12_asksRef n) S a1 a3 a5 a6
    | _, _ => none
theorem e_X12_asksRef_0 {n d : Nat} {S : GS} {a1 : Int} {a2 : Int} {a3 : Int} : f_X12_asksRef (n + 1) d 0 S [a1, a2, a3] = b_X12_asksRef_0 n d (f_X12_asksRef n) S a1 a2 a3 := rfl
theorem e_X12_asksRef_29 {n d : Nat} {S : GS} {a1 : Int} {a2 : Int} {a3 : Int} {s0 : Int} : f_X12_asksRef (n + 1) d 29 S [a1, a2, a3, s0] = b_X12_asksRef_29 n d (f_X12_asksRef n) S a1 a2 a3 s0 := rfl
theorem e_X12_asksRef_79 {n d : Nat} {S : GS} {a1 : Int} {a3 : Int} {a5 : Int} {a6 : Int} : f_X12_asksRef (n + 1) d 79 S [a1, a3, a5, a6] = b_X12_asksRef_79 n d (f_X12_asksRef n) S a1 a3 a5 a6 := rfl

def b_X12_asksNext_0 (n d : Nat) (rec : Nat → Nat → GS → List Int → Option (Int × GS)) (S : GS) (a1 : Int) (a2 : Int) (a3 : Int) (a4 : Int) : Option (Int × GS) :=
  gv (S.1 500 63) fun x1 =>
  gg (1 ≤ d) <|
  gc (f_X12_kind n (d - 1) 0 S [x1, a4]) fun x4 S_5 =>
  gg (inr a2) <|
  if 11 ≤ a2 then (
    rec d 23 S_5 [a1, a2, a3, a4, x4, 0]
  ) else (
    rec d 23 S_5 [a1, a2, a3, a4, x4, 1]
  )
def b_X12_asksNext_23 (n d : Nat) (rec : Nat → Nat → GS → List Int → Option (Int × GS)) (S : GS) (a1 : Int) (a2 : Int) (a3 : Int) (a4 : Int) (a5 : Int) (s0 : Int) : Option (Int × GS) :=
  gg (inr s0) <|
  if s0 ≠ 0 then (
    gg (inr a2) <|
    if a2 ≠ 9 then (
      rec d 56 S [a1, a2, a3, a4, s0, 5, a5]
    ) else (
      rec d 56 S [a1, a2, a3, a4, s0, 4, a5]
    )
  ) else (
    gv (S.1 500 62) fun x5 =>
    gg (1 ≤ d) <|
    gc (f_X12_part n (d - 1) 0 S [x5, a3, 3]) fun x8 S_9 =>
    rec d 76 S_9 [a1, a2, a3, a4, s0, x8]
  )
def b_X12_asksNext_56 (n d : Nat) (rec : Nat → Nat → GS → List Int → Option (Int × GS)) (S : GS) (a1 : Int) (a2 : Int) (a3 : Int) (a4 : Int) (a6 : Int) (s0 : Int) (s1 : Int) : Option (Int × GS) :=
  gg (inr s1) <|
  gg (inr s0) <|
  if s1 ≠ s0 then (
    rec d 76 S [a1, a2, a3, a4, a6, 0]
  ) else (
    gv (S.1 500 63) fun x4 =>
    gg (1 ≤ d) <|
    gc (f_X12_part n (d - 1) 0 S [x4, a4, 3]) fun x7 S_8 =>
    rec d 76 S_8 [a1, a2, a3, a4, a6, x7]
  )
def b_X12_asksNext_76 (n d : Nat) (rec : Nat → Nat → GS → List Int → Option (Int × GS)) (S : GS) (a1 : Int) (a2 : Int) (a3 : Int) (a4 : Int) (a6 : Int) (a7 : Int) : Option (Int × GS) :=
  gg (0 ≤ a1 ∧ a1 < ((500 : Nat) : Int) ∧ a1 < 2147483648) <|
  gv (S.1 544 (a1 : Int).toNat) fun x2 =>
  gg (inr x2) <|
  gg (inr a7) <|
  if a7 ≤ x2 then (
    some (0, S)
  ) else (
    gg (inr a6) <|
    if a6 = 0 then (
      rec d 113 S [a1, a2, a3, a4, a6, a7, a4]
    ) else (
      gv (S.1 500 63) fun x9 =>
      gv (S.1 544 (a1 : Int).toNat) fun x11 =>
      gg (1 ≤ d) <|
      gc (f_X12_childAt n (d - 1) 0 S [x9, a4, x11]) fun x14 S_15 =>
      rec d 113 S_15 [a1, a2, a3, a4, a6, a7, x14]
    )
  )
def b_X12_asksNext_113 (n d : Nat) (rec : Nat → Nat → GS → List Int → Option (Int × GS)) (S : GS) (a1 : Int) (a2 : Int) (a3 : Int) (a4 : Int) (a6 : Int) (a7 : Int) (s0 : Int) : Option (Int × GS) :=
  gg (inr a2) <|
  if a2 ≠ 7 then (
    if a2 ≠ 8 then (
      gg (inr a6) <|
      if a6 ≠ 0 then (
        rec d 231 S [a1, a2, a3, a4, a6, a7, s0, a3]
      ) else (
        gv (S.1 500 62) fun x6 =>
        gg (0 ≤ a1 ∧ a1 < ((500 : Nat) : Int) ∧ a1 < 2147483648) <|
        gv (S.1 544 (a1 : Int).toNat) fun x9 =>
        gg (1 ≤ d) <|
        gc (f_X12_childAt n (d - 1) 0 S [x6, a3, x9]) fun x12 S_13 =>
        rec d 231 S_13 [a1, a2, a3, a4, a6, a7, s0, x12]
      )
    ) else (
      gv (S.1 500 62) fun x15 =>
      gg (0 ≤ a1 ∧ a1 < ((500 : Nat) : Int) ∧ a1 < 2147483648) <|
      gv (S.1 541 (a1 : Int).toNat) fun x18 =>
      gg ((0 : Int) ≤ 7 ∧ (7 : Int) < ((16 : Nat) : Int) ∧ (7 : Int) < 2147483648) <|
      gv ((gl_words.getD (7 : Int).toNat 0).toInt) fun x21 =>
      gg (1 ≤ d) <|
      gc (f_X12_childNamed n (d - 1) 0 S [x15, x18, x21]) fun x24 S_25 =>
      gg (inr x24) <|
      if x24 = (-1) then (
        rec d 231 S_25 [a1, a2, a3, a4, a6, a7, s0, a3]
      ) else (
        gv (S_25.1 500 62) fun x29 =>
        gv (S_25.1 500 63) fun x31 =>
        gc (f_X12_childLike n (d - 1) 0 S_25 [x29, x24, x31, s0]) fun x33 S_34 =>
        gg (inr x33) <|
        if x33 = (-1) then (
          rec d 231 S_34 [a1, a2, a3, a4, a6, a7, s0, a3]
        ) else (
          rec d 231 S_34 [a1, a2, a3, a4, a6, a7, s0, (-1)]
        )
      )
    )
  ) else (
    gv (S.1 500 62) fun x38 =>
    gv (S.1 500 63) fun x40 =>
    gg (1 ≤ d) <|
    gc (f_X12_childLike n (d - 1) 0 S [x38, a3, x40, s0]) fun x43 S_44 =>
    rec d 231 S_44 [a1, a2, a3, a4, a6, a7, s0, x43]
  )
def b_X12_asksNext_231 (n d : Nat) (rec : Nat → Nat → GS → List Int → Option (Int × GS)) (S : GS) (a1 : Int) (a2 : Int) (a3 : Int) (a4 : Int) (a6 : Int) (a7 : Int) (a8 : Int) (a9 : Int) : Option (Int × GS) :=
  gg (0 ≤ a1 ∧ a1 < ((500 : Nat) : Int) ∧ a1 < 2147483648) <|
  gv (S.1 544 (a1 : Int).toNat) fun x2 =>
  gv (x2 + 1) fun x4 =>
  gv (gI S 544 (a1 : Int).toNat x4) fun S_6 =>
  gg (inr a9) <|
  if a9 = (-1) then (
    rec d 76 S_6 [a1, a2, a3, a4, a6, a7]
  ) else (
    gv (S_6.1 500 79) fun x10 =>
    gv (gI S_6 546 (a1 : Int).toNat x10) fun S_12 =>
    gv (gB S_12 548 (a1 : Int).toNat (decide ((1 : Int) = 1))) fun S_14 =>
    gg (1 ≤ d) <|
    gc (f_X12_asksOf n (d - 1) 0 S_14 [a9, a8]) fun x17 S_18 =>
    some (1, S_18)
  )
def f_X12_asksNext : Nat → Nat → Nat → GS → List Int → Option (Int × GS)
  | 0, _, _, _, _ => none
  | n + 1, d, pc, S, x => match pc, x with
    | 0, [a1, a2, a3, a4] => b_X12_asksNext_0 n d (f_X12_asksNext n) S a1 a2 a3 a4
    | 23, [a1, a2, a3, a4, a5, s0] => b_X12_asksNext_23 n d (f_X12_asksNext n) S a1 a2 a3 a4 a5 s0
    | 56, [a1, a2, a3, a4, a6, s0, s1] => b_X12_asksNext_56 n d (f_X12_asksNext n) S a1 a2 a3 a4 a6 s0 s1
    | 76, [a1, a2, a3, a4, a6, a7] => b_X12_asksNext_76 n d (f_X12_asksNext n) S a1 a2 a3 a4 a6 a7
    | 113, [a1, a2, a3, a4, a6, a7, s0] => b_X12_asksNext_113 n d (f_X12_asksNext n) S a1 a2 a3 a4 a6 a7 s0
    | 231, [a1, a2, a3, a4, a6, a7, a8, a9] => b_X12_asksNext_231 n d (f_X12_asksNext n) S a1 a2 a3 a4 a6 a7 a8 a9
    | _, _ => none
theorem e_X12_asksNext_0 {n d : Nat} {S : GS} {a1 : Int} {a2 : Int} {a3 : Int} {a4 : Int} : f_X12_asksNext (n + 1) d 0 S [a1, a2, a3, a4] = b_X12_asksNext_0 n d (f_X12_asksNext n) S a1 a2 a3 a4 := rfl
theorem e_X12_asksNext_23 {n d : Nat} {S : GS} {a1 : Int} {a2 : Int} {a3 : Int} {a4 : Int} {a5 : Int} {s0 : Int} : f_X12_asksNext (n + 1) d 23 S [a1, a2, a3, a4, a5, s0] = b_X12_asksNext_23 n d (f_X12_asksNext n) S a1 a2 a3 a4 a5 s0 := rfl
theorem e_X12_asksNext_56 {n d : Nat} {S : GS} {a1 : Int} {a2 : Int} {a3 : Int} {a4 : Int} {a6 : Int} {s0 : Int} {s1 : Int} : f_X12_asksNext (n + 1) d 56 S [a1, a2, a3, a4, a6, s0, s1] = b_X12_asksNext_56 n d (f_X12_asksNext n) S a1 a2 a3 a4 a6 s0 s1 := rfl
theorem e_X12_asksNext_76 {n d : Nat} {S : GS} {a1 : Int} {a2 : Int} {a3 : Int} {a4 : Int} {a6 : Int} {a7 : Int} : f_X12_asksNext (n + 1) d 76 S [a1, a2, a3, a4, a6, a7] = b_X12_asksNext_76 n d (f_X12_asksNext n) S a1 a2 a3 a4 a6 a7 := rfl
theorem e_X12_asksNext_113 {n d : Nat} {S : GS} {a1 : Int} {a2 : Int} {a3 : Int} {a4 : Int} {a6 : Int} {a7 : Int} {s0 : Int} : f_X12_asksNext (n + 1) d 113 S [a1, a2, a3, a4, a6, a7, s0] = b_X12_asksNext_113 n d (f_X12_asksNext n) S a1 a2 a3 a4 a6 a7 s0 := rfl
theorem e_X12_asksNext_231 {n d : Nat} {S : GS} {a1 : Int} {a2 : Int} {a3 : Int} {a4 : Int} {a6 : Int} {a7 : Int} {a8 : Int} {a9 : Int} : f_X12_asksNext (n + 1) d 231 S [a1, a2, a3, a4, a6, a7, a8, a9] = b_X12_asksNext_231 n d (f_X12_asksNext n) S a1 a2 a3 a4 a6 a7 a8 a9 := rfl

def b_X12_asksMore_0 (n d : Nat) (rec : Nat → Nat → GS → List Int → Option (Int × GS)) (S : GS) (a1 : Int) : Option (Int × GS) :=
  gg (0 ≤ a1 ∧ a1 < ((500 : Nat) : Int) ∧ a1 < 2147483648) <|
  gv (bi (S.2.1 548 (a1 : Int).toNat)) fun x2 =>
  gg (inr x2) <|
  if x2 = 0 then (
    rec d 14 S [a1]
  ) else (
    gg (1 ≤ d) <|
    gc (f_X12_hears n (d - 1) 0 S [a1]) fun x7 S_8 =>
    rec d 14 S_8 [a1]
  )
def b_X12_asksMore_14 (n d : Nat) (rec : Nat → Nat → GS → List Int → Option (Int × GS)) (S : GS) (a1 : Int) : Option (Int × GS) :=
  gv (S.1 500 62) fun x1 =>
  gg (0 ≤ a1 ∧ a1 < ((500 : Nat) : Int) ∧ a1 < 2147483648) <|
  gv (S.1 541 (a1 : Int).toNat) fun x4 =>
  gg (1 ≤ d) <|
  gc (f_X12_kind n (d - 1) 0 S [x1, x4]) fun x7 S_8 =>
  gg (inr x7) <|
  if x7 = 5 then (
    rec d 64 S_8 [a1]
  ) else (
    gv (S_8.1 500 62) fun x12 =>
    gv (S_8.1 541 (a1 : Int).toNat) fun x14 =>
    gc (f_X12_part n (d - 1) 0 S_8 [x12, x14, 19]) fun x16 S_17 =>
    gg (inr x16) <|
    if x16 ≠ 0 then (
      some (0, S_17)
    ) else (
      gv (S_17.1 542 (a1 : Int).toNat) fun x21 =>
      gc (f_X12_complains n (d - 1) 0 S_17 [x21, 0]) fun x23 S_24 =>
      some (0, S_24)
    )
  )
def b_X12_asksMore_64 (n d : Nat) (rec : Nat → Nat → GS → List Int → Option (Int × GS)) (S : GS) (a1 : Int) : Option (Int × GS) :=
  gg (0 ≤ a1 ∧ a1 < ((500 : Nat) : Int) ∧ a1 < 2147483648) <|
  gv (S.1 543 (a1 : Int).toNat) fun x2 =>
  gg (inr x2) <|
  if 16 ≤ x2 then (
    some (0, S)
  ) else (
    gv (S.1 543 (a1 : Int).toNat) fun x6 =>
    gv (S.1 500 62) fun x8 =>
    gv (S.1 541 (a1 : Int).toNat) fun x10 =>
    gg (0 ≤ x6 ∧ x6 < ((16 : Nat) : Int) ∧ x6 < 2147483648) <|
    gv ((gl_words.getD (x6 : Int).toNat 0).toInt) fun x13 =>
    gg (1 ≤ d) <|
    gc (f_X12_childNamed n (d - 1) 0 S [x8, x10, x13]) fun x16 S_17 =>
    gg (inr x16) <|
    if x16 = (-1) then (
      rec d 135 S_17 [a1, x6, x16]
    ) else (
      gg (inr x6) <|
      if x6 < 7 then (
        rec d 120 S_17 [a1, x6, x16]
      ) else (
        if x6 ≠ 10 then (
          rec d 135 S_17 [a1, x6, x16]
        ) else (
          rec d 120 S_17 [a1, x6, x16]
        )
      )
    )
  )
def b_X12_asksMore_120 (n d : Nat) (rec : Nat → Nat → GS → List Int → Option (Int × GS)) (S : GS) (a1 : Int) (a2 : Int) (a3 : Int) : Option (Int × GS) :=
  gg (0 ≤ a1 ∧ a1 < ((500 : Nat) : Int) ∧ a1 < 2147483648) <|
  gv (S.1 542 (a1 : Int).toNat) fun x2 =>
  gg (1 ≤ d) <|
  gc (f_X12_says_ n (d - 1) 0 S [a2, a3, x2]) fun x5 S_6 =>
  rec d 269 S_6 [a1]
def b_X12_asksMore_135 (n d : Nat) (rec : Nat → Nat → GS → List Int → Option (Int × GS)) (S : GS) (a1 : Int) (a2 : Int) (a3 : Int) : Option (Int × GS) :=
  gg (inr a3) <|
  if a3 = (-1) then (
    rec d 176 S [a1, a2, a3]
  ) else (
    gg (inr a2) <|
    if a2 ≠ 14 then (
      rec d 176 S [a1, a2, a3]
    ) else (
      gv (S.1 500 79) fun x5 =>
      gg (0 ≤ a1 ∧ a1 < ((500 : Nat) : Int) ∧ a1 < 2147483648) <|
      gv (gI S 546 (a1 : Int).toNat x5) fun S_8 =>
      gv (gB S_8 548 (a1 : Int).toNat (decide ((1 : Int) = 1))) fun S_10 =>
      gv (S_10.1 542 (a1 : Int).toNat) fun x12 =>
      gg (1 ≤ d) <|
      gc (f_X12_asksOf n (d - 1) 0 S_10 [a3, x12]) fun x15 S_16 =>
      some (1, S_16)
    )
  )
def b_X12_asksMore_176 (n d : Nat) (rec : Nat → Nat → GS → List Int → Option (Int × GS)) (S : GS) (a1 : Int) (a2 : Int) (a3 : Int) : Option (Int × GS) :=
  gg (inr a3) <|
  if a3 = (-1) then (
    rec d 204 S [a1, a2, a3]
  ) else (
    gg (inr a2) <|
    if a2 ≠ 15 then (
      rec d 204 S [a1, a2, a3]
    ) else (
      gg (0 ≤ a1 ∧ a1 < ((500 : Nat) : Int) ∧ a1 < 2147483648) <|
      gv (S.1 542 (a1 : Int).toNat) fun x6 =>
      gg (1 ≤ d) <|
      gc (f_X12_asksRef n (d - 1) 0 S [a1, a3, x6]) fun x9 S_10 =>
      gg (inr x9) <|
      if x9 = 0 then (
        rec d 269 S_10 [a1]
      ) else (
        some (1, S_10)
      )
    )
  )
def b_X12_asksMore_204 (n d : Nat) (rec : Nat → Nat → GS → List Int → Option (Int × GS)) (S : GS) (a1 : Int) (a2 : Int) (a3 : Int) : Option (Int × GS) :=
  gg (inr a3) <|
  if a3 = (-1) then (
    rec d 269 S [a1]
  ) else (
    gg (0 ≤ a1 ∧ a1 < ((500 : Nat) : Int) ∧ a1 < 2147483648) <|
    gv (S.1 542 (a1 : Int).toNat) fun x4 =>
    gg (1 ≤ d) <|
    gc (f_X12_asksNext n (d - 1) 0 S [a1, a2, a3, x4]) fun x7 S_8 =>
    gg (inr x7) <|
    if x7 = 0 then (
      gg (inr a2) <|
      if a2 ≠ 12 then (
        rec d 242 S_8 [a1, a2]
      ) else (
        gv (S_8.1 547 (a1 : Int).toNat) fun x14 =>
        gg (inr x14) <|
        if x14 = 0 then (
          gv (S_8.1 542 (a1 : Int).toNat) fun x18 =>
          gc (f_X12_complains n (d - 1) 0 S_8 [x18, a2]) fun x20 S_21 =>
          rec d 269 S_21 [a1]
        ) else (
          rec d 242 S_8 [a1, a2]
        )
      )
    ) else (
      some (1, S_8)
    )
  )
def b_X12_asksMore_242 (n d : Nat) (rec : Nat → Nat → GS → List Int → Option (Int × GS)) (S : GS) (a1 : Int) (a2 : Int) : Option (Int × GS) :=
  gg (inr a2) <|
  if a2 ≠ 13 then (
    rec d 269 S [a1]
  ) else (
    gg (0 ≤ a1 ∧ a1 < ((500 : Nat) : Int) ∧ a1 < 2147483648) <|
    gv (S.1 547 (a1 : Int).toNat) fun x4 =>
    gg (inr x4) <|
    if x4 = 1 then (
      rec d 269 S [a1]
    ) else (
      gv (S.1 542 (a1 : Int).toNat) fun x8 =>
      gg (1 ≤ d) <|
      gc (f_X12_complains n (d - 1) 0 S [x8, a2]) fun x11 S_12 =>
      rec d 269 S_12 [a1]
    )
  )
def b_X12_asksMore_269 (n d : Nat) (rec : Nat → Nat → GS → List Int → Option (Int × GS)) (S : GS) (a1 : Int) : Option (Int × GS) :=
  gg (0 ≤ a1 ∧ a1 < ((500 : Nat) : Int) ∧ a1 < 2147483648) <|
  gv (S.1 543 (a1 : Int).toNat) fun x2 =>
  gv (x2 + 1) fun x4 =>
  gv (gI S 543 (a1 : Int).toNat x4) fun S_6 =>
  gv (gI S_6 544 (a1 : Int).toNat 0) fun S_8 =>
  gv (gI S_8 547 (a1 : Int).toNat 0) fun S_10 =>
  rec d 64 S_10 [a1]
def f_X12_asksMore : Nat → Nat → Nat → GS → List Int → Option (Int × GS)
  | 0, _, _, _, _ => none
  | n + 1, d, pc, S, x => match pc, x with
    | 0, [a1] => b_X12_asksMore_0 n d (f_X12_asksMore n) S a1
    | 14, [a1] => b_X12_asksMore_14 n d (f_X12_asksMore n) S a1
    | 64, [a1] => b_X12_asksMore_64 n d (f_X12_asksMore n) S a1
    | 120, [a1, a2, a3] => b_X12_asksMore_120 n d (f_X12_asksMore n) S a1 a2 a3
    | 135, [a1, a2, a3] => b_X12_asksMore_135 n d (f_X12_asksMore n) S a1 a2 a3
    | 176, [a1, a2, a3] => b_X12_asksMore_176 n d (f_X12_asksMore n) S a1 a2 a3
    | 204, [a1, a2, a3] => b_X12_asksMore_204 n d (f_X12_asksMore n) S a1 a2 a3
    | 242, [a1, a2] => b_X12_asksMore_242 n d (f_X12_asksMore n) S a1 a2
    | 269, [a1] => b_X12_asksMore_269 n d (f_X12_asksMore n) S a1
    | _, _ => none
theorem e_X12_asksMore_0 {n d : Nat} {S : GS} {a1 : Int} : f_X12_asksMore (n + 1) d 0 S [a1] = b_X12_asksMore_0 n d (f_X12_asksMore n) S a1 := rfl
theorem e_X12_asksMore_14 {n d : Nat} {S : GS} {a1 : Int} : f_X12_asksMore (n + 1) d 14 S [a1] = b_X12_asksMore_14 n d (f_X12_asksMore n) S a1 := rfl
theorem e_X12_asksMore_64 {n d : Nat} {S : GS} {a1 : Int} : f_X12_asksMore (n + 1) d 64 S [a1] = b_X12_asksMore_64 n d (f_X12_asksMore n) S a1 := rfl
theorem e_X12_asksMore_120 {n d : Nat} {S : GS} {a1 : Int} {a2 : Int} {a3 : Int} : f_X12_asksMore (n + 1) d 120 S [a1, a2, a3] = b_X12_asksMore_120 n d (f_X12_asksMore n) S a1 a2 a3 := rfl
theorem e_X12_asksMore_135 {n d : Nat} {S : GS} {a1 : Int} {a2 : Int} {a3 : Int} : f_X12_asksMore (n + 1) d 135 S [a1, a2, a3] = b_X12_asksMore_135 n d (f_X12_asksMore n) S a1 a2 a3 := rfl
theorem e_X12_asksMore_176 {n d : Nat} {S : GS} {a1 : Int} {a2 : Int} {a3 : Int} : f_X12_asksMore (n + 1) d 176 S [a1, a2, a3] = b_X12_asksMore_176 n d (f_X12_asksMore n) S a1 a2 a3 := rfl
theorem e_X12_asksMore_204 {n d : Nat} {S : GS} {a1 : Int} {a2 : Int} {a3 : Int} : f_X12_asksMore (n + 1) d 204 S [a1, a2, a3] = b_X12_asksMore_204 n d (f_X12_asksMore n) S a1 a2 a3 := rfl
theorem e_X12_asksMore_242 {n d : Nat} {S : GS} {a1 : Int} {a2 : Int} : f_X12_asksMore (n + 1) d 242 S [a1, a2] = b_X12_asksMore_242 n d (f_X12_asksMore n) S a1 a2 := rfl
theorem e_X12_asksMore_269 {n d : Nat} {S : GS} {a1 : Int} : f_X12_asksMore (n + 1) d 269 S [a1] = b_X12_asksMore_269 n d (f_X12_asksMore n) S a1 := rfl

def b_X12_asksWhole_0 (n d : Nat) (rec : Nat → Nat → GS → List Int → Option (Int × GS)) (S : GS) (a1 : Int) (a2 : Int) (a3 : Int) : Option (Int × GS) :=
  gv (gI S 500 62 a1) fun S_1 =>
  gv (gI S_1 500 63 a2) fun S_3 =>
  gv (gI S_3 500 64 0) fun S_5 =>
  gv (gI S_5 500 66 0) fun S_7 =>
  gv (gI S_7 500 76 0) fun S_9 =>
  gv (gI S_9 500 79 0) fun S_11 =>
  gg (1 ≤ d) <|
  gc (f_X12_asksOf n (d - 1) 0 S_11 [0, 0]) fun x14 S_15 =>
  rec d 36 S_15 [a3]
def b_X12_asksWhole_36 (n d : Nat) (rec : Nat → Nat → GS → List Int → Option (Int × GS)) (S : GS) (a3 : Int) : Option (Int × GS) :=
  gv (S.1 500 66) fun x1 =>
  gg (inr x1) <|
  if x1 ≤ 0 then (
    rec d 102 S [a3]
  ) else (
    gv (S.1 500 64) fun x5 =>
    gg (inr x5) <|
    gg (inr a3) <|
    if a3 < x5 then (
      rec d 102 S [a3]
    ) else (
      gv (S.1 500 66) fun x10 =>
      gv (x10 - 1) fun x12 =>
      gg (1 ≤ d) <|
      gc (f_X12_asksMore n (d - 1) 0 S [x12]) fun x15 S_16 =>
      gg (inr x15) <|
      if x15 ≠ 0 then (
        rec d 36 S_16 [a3]
      ) else (
        gv (S_16.1 500 66) fun x20 =>
        gv (x20 - 1) fun x22 =>
        gv (gI S_16 500 66 x22) fun S_24 =>
        gv (S_24.1 500 79) fun x26 =>
        gv (S_24.1 500 66) fun x28 =>
        gg (0 ≤ x28 ∧ x28 < ((500 : Nat) : Int) ∧ x28 < 2147483648) <|
        gv (S_24.1 545 (x28 : Int).toNat) fun x31 =>
        gg (inr x26) <|
        gg (inr x31) <|
        if x26 ≠ x31 then (
          gv (gB S_24 500 75 (decide ((0 : Int) = 1))) fun S_36 =>
          rec d 36 S_36 [a3]
        ) else (
          gv (gB S_24 500 75 (decide ((1 : Int) = 1))) fun S_38 =>
          rec d 36 S_38 [a3]
        )
      )
    )
  )
def b_X12_asksWhole_102 (n d : Nat) (rec : Nat → Nat → GS → List Int → Option (Int × GS)) (S : GS) (a3 : Int) : Option (Int × GS) :=
  gv (S.1 500 64) fun x1 =>
  gg (inr x1) <|
  gg (inr a3) <|
  if x1 ≤ a3 then (
    gv (gB S 500 65 (decide ((0 : Int) = 1))) fun S_6 =>
    some (0, S_6)
  ) else (
    gv (gB S 500 65 (decide ((1 : Int) = 1))) fun S_8 =>
    some (0, S_8)
  )
def f_X12_asksWhole : Nat → Nat → Nat → GS → List Int → Option (Int × GS)
  | 0, _, _, _, _ => none
  | n + 1, d, pc, S, x => match pc, x with
    | 0, [a1, a2, a3] => b_X12_asksWhole_0 n d (f_X12_asksWhole n) S a1 a2 a3
    | 36, [a3] => b_X12_asksWhole_36 n d (f_X12_asksWhole n) S a3
    | 102, [a3] => b_X12_asksWhole_102 n d (f_X12_asksWhole n) S a3
    | _, _ => none
theorem e_X12_asksWhole_0 {n d : Nat} {S : GS} {a1 : Int} {a2 : Int} {a3 : Int} : f_X12_asksWhole (n + 1) d 0 S [a1, a2, a3] = b_X12_asksWhole_0 n d (f_X12_asksWhole n) S a1 a2 a3 := rfl
theorem e_X12_asksWhole_36 {n d : Nat} {S : GS} {a3 : Int} : f_X12_asksWhole (n + 1) d 36 S [a3] = b_X12_asksWhole_36 n d (f_X12_asksWhole n) S a3 := rfl
theorem e_X12_asksWhole_102 {n d : Nat} {S : GS} {a3 : Int} : f_X12_asksWhole (n + 1) d 102 S [a3] = b_X12_asksWhole_102 n d (f_X12_asksWhole n) S a3 := rfl

def b_X12_becomes_0 (n d : Nat) (rec : Nat → Nat → GS → List Int → Option (Int × GS)) (S : GS) (a1 : Int) (a2 : Int) : Option (Int × GS) :=
  gg (0 ≤ a2 ∧ a2 < ((48 : Nat) : Int) ∧ a2 < 2147483648) <|
  gv (S.1 502 (a2 : Int).toNat) fun x2 =>
  gg (0 ≤ a1 ∧ a1 < ((48 : Nat) : Int) ∧ a1 < 2147483648) <|
  gv (gI S 502 (a1 : Int).toNat x2) fun S_5 =>
  rec d 14 S_5 [a1, a2, 0]
def b_X12_becomes_14 (n d : Nat) (rec : Nat → Nat → GS → List Int → Option (Int × GS)) (S : GS) (a1 : Int) (a2 : Int) (a3 : Int) : Option (Int × GS) :=
  gg (0 ≤ a2 ∧ a2 < ((48 : Nat) : Int) ∧ a2 < 2147483648) <|
  gv (S.1 502 (a2 : Int).toNat) fun x2 =>
  gv (x2 * 61) fun x4 =>
  gg (inr a3) <|
  gg (inr x4) <|
  if x4 ≤ a3 then (
    some (0, S)
  ) else (
    gg (1 ≤ d) <|
    gc (f_X12_at n (d - 1) 0 S [a1, 0]) fun x10 S_11 =>
    gv (x10 + a3) fun x13 =>
    gc (f_X12_at n (d - 1) 0 S_11 [a2, 0]) fun x15 S_16 =>
    gv (x15 + a3) fun x18 =>
    gg (0 ≤ x18 ∧ x18 < ((295728 : Nat) : Int) ∧ x18 < 2147483648) <|
    gv (S_16.1 501 (x18 : Int).toNat) fun x21 =>
    gg (0 ≤ x13 ∧ x13 < ((295728 : Nat) : Int) ∧ x13 < 2147483648) <|
    gv (gI S_16 501 (x13 : Int).toNat x21) fun S_24 =>
    gv (a3 + 1) fun x26 =>
    rec d 14 S_24 [a1, a2, x26]
  )
def f_X12_becomes : Nat → Nat → Nat → GS → List Int → Option (Int × GS)
  | 0, _, _, _, _ => none
  | n + 1, d, pc, S, x => match pc, x with
    | 0, [a1, a2] => b_X12_becomes_0 n d (f_X12_becomes n) S a1 a2
    | 14, [a1, a2, a3] => b_X12_becomes_14 n d (f_X12_becomes n) S a1 a2 a3
    | _, _ => none
theorem e_X12_becomes_0 {n d : Nat} {S : GS} {a1 : Int} {a2 : Int} : f_X12_becomes (n + 1) d 0 S [a1, a2] = b_X12_becomes_0 n d (f_X12_becomes n) S a1 a2 := rfl
theorem e_X12_becomes_14 {n d : Nat} {S : GS} {a1 : Int} {a2 : Int} {a3 : Int} : f_X12_becomes (n + 1) d 14 S [a1, a2, a3] = b_X12_becomes_14 n d (f_X12_becomes n) S a1 a2 a3 := rfl

def b_X12_isDoc_0 (n d : Nat) (rec : Nat → Nat → GS → List Int → Option (Int × GS)) (S : GS) (a1 : Int) : Option (Int × GS) :=
  gv (S.1 500 1) fun x1 =>
  gv (x1 - 1) fun x3 =>
  gg (1 ≤ d) <|
  gc (f_X12_in n (d - 1) 0 S [a1, 0, x3]) fun x6 S_7 =>
  gg (x6 = 0 ∨ x6 = 1) <|
  some (x6, S_7)
def f_X12_isDoc : Nat → Nat → Nat → GS → List Int → Option (Int × GS)
  | 0, _, _, _, _ => none
  | n + 1, d, pc, S, x => match pc, x with
    | 0, [a1] => b_X12_isDoc_0 n d (f_X12_isDoc n) S a1
    | _, _ => none
theorem e_X12_isDoc_0 {n d : Nat} {S : GS} {a1 : Int} : f_X12_isDoc (n + 1) d 0 S [a1] = b_X12_isDoc_0 n d (f_X12_isDoc n) S a1 := rfl

def b_X12_fails_0 (n d : Nat) (rec : Nat → Nat → GS → List Int → Option (Int × GS)) (S : GS) (a1 : Int) (a2 : Int) : Option (Int × GS) :=
  gg (inr a1) <|
  if a1 = 0 then (
    gv (gI S 500 0 a2) fun S_3 =>
    if a1 ≠ 0 then (
      some (0, S_3)
    ) else (
      some (1, S_3)
    )
  ) else (
    gv (gI S 500 0 0) fun S_6 =>
    if a1 ≠ 0 then (
      some (0, S_6)
    ) else (
      some (1, S_6)
    )
  )
def f_X12_fails : Nat → Nat → Nat → GS → List Int → Option (Int × GS)
  | 0, _, _, _, _ => none
  | n + 1, d, pc, S, x => match pc, x with
    | 0, [a1, a2] => b_X12_fails_0 n d (f_X12_fails n) S a1 a2
    | _, _ => none
theorem e_X12_fails_0 {n d : Nat} {S : GS} {a1 : Int} {a2 : Int} : f_X12_fails (n + 1) d 0 S [a1, a2] = b_X12_fails_0 n d (f_X12_fails n) S a1 a2 := rfl

def b_X12_link_0 (n d : Nat) (rec : Nat → Nat → GS → List Int → Option (Int × GS)) (S : GS) (a1 : Int) : Option (Int × GS) :=
  rec d 4 S [a1, 0, 0]
def b_X12_link_4 (n d : Nat) (rec : Nat → Nat → GS → List Int → Option (Int × GS)) (S : GS) (a1 : Int) (a2 : Int) (a3 : Int) : Option (Int × GS) :=
  gg (0 ≤ a1 ∧ a1 < ((48 : Nat) : Int) ∧ a1 < 2147483648) <|
  gv (S.1 502 (a1 : Int).toNat) fun x2 =>
  gg (inr a3) <|
  gg (inr x2) <|
  if x2 ≤ a3 then (
    some (0, S)
  ) else (
    gg (1 ≤ d) <|
    gc (f_X12_at n (d - 1) 0 S [a1, a3]) fun x8 S_9 =>
    gv (x8 + 1) fun x11 =>
    gg (inr a2) <|
    if a2 ≠ 0 then (
      gv (a2 - 1) fun x15 =>
      gg (0 ≤ x15 ∧ x15 < ((128 : Nat) : Int) ∧ x15 < 2147483648) <|
      gv (S_9.1 505 (x15 : Int).toNat) fun x18 =>
      rec d 45 S_9 [a1, a2, a3, x8, x18, x11]
    ) else (
      rec d 45 S_9 [a1, a2, a3, x8, (-1), x11]
    )
  )
def b_X12_link_45 (n d : Nat) (rec : Nat → Nat → GS → List Int → Option (Int × GS)) (S : GS) (a1 : Int) (a2 : Int) (a3 : Int) (a4 : Int) (s0 : Int) (s1 : Int) : Option (Int × GS) :=
  gg (0 ≤ s1 ∧ s1 < ((295728 : Nat) : Int) ∧ s1 < 2147483648) <|
  gv (gI S 501 (s1 : Int).toNat s0) fun S_2 =>
  gv (a4 + 2) fun x4 =>
  gg (inr a2) <|
  if a2 ≠ 0 then (
    gv (a2 - 1) fun x8 =>
    gg (0 ≤ x8 ∧ x8 < ((128 : Nat) : Int) ∧ x8 < 2147483648) <|
    gv (S_2.1 505 (x8 : Int).toNat) fun x11 =>
    gg (1 ≤ d) <|
    gc (f_X12_part n (d - 1) 0 S_2 [a1, x11, 3]) fun x14 S_15 =>
    gv (a2 - 1) fun x17 =>
    gg (0 ≤ x17 ∧ x17 < ((128 : Nat) : Int) ∧ x17 < 2147483648) <|
    gv (S_15.1 506 (x17 : Int).toNat) fun x20 =>
    gv (x14 - x20) fun x22 =>
    rec d 85 S_15 [a1, a2, a3, a4, x22, x4]
  ) else (
    rec d 85 S_2 [a1, a2, a3, a4, (-1), x4]
  )
def b_X12_link_85 (n d : Nat) (rec : Nat → Nat → GS → List Int → Option (Int × GS)) (S : GS) (a1 : Int) (a2 : Int) (a3 : Int) (a4 : Int) (s0 : Int) (s1 : Int) : Option (Int × GS) :=
  gg (0 ≤ s1 ∧ s1 < ((295728 : Nat) : Int) ∧ s1 < 2147483648) <|
  gv (gI S 501 (s1 : Int).toNat s0) fun S_2 =>
  gv (a4 + 4) fun x4 =>
  gg (0 ≤ x4 ∧ x4 < ((295728 : Nat) : Int) ∧ x4 < 2147483648) <|
  gv (gI S_2 501 (x4 : Int).toNat 1) fun S_7 =>
  gg (inr a2) <|
  if a2 ≤ 0 then (
    rec d 112 S_7 [a1, a2, a3, a4]
  ) else (
    gv (a2 - 1) fun x11 =>
    gg (0 ≤ x11 ∧ x11 < ((128 : Nat) : Int) ∧ x11 < 2147483648) <|
    gv (S_7.1 506 (x11 : Int).toNat) fun x14 =>
    gv (x14 - 1) fun x16 =>
    gv (gI S_7 506 (x11 : Int).toNat x16) fun S_18 =>
    rec d 112 S_18 [a1, a2, a3, a4]
  )
def b_X12_link_112 (n d : Nat) (rec : Nat → Nat → GS → List Int → Option (Int × GS)) (S : GS) (a1 : Int) (a2 : Int) (a3 : Int) (a4 : Int) : Option (Int × GS) :=
  gv (a4 + 3) fun x1 =>
  gg (0 ≤ x1 ∧ x1 < ((295728 : Nat) : Int) ∧ x1 < 2147483648) <|
  gv (S.1 501 (x1 : Int).toNat) fun x4 =>
  gg (inr x4) <|
  if x4 ≤ 0 then (
    rec d 149 S [a1, a2, a3]
  ) else (
    gg (0 ≤ a2 ∧ a2 < ((128 : Nat) : Int) ∧ a2 < 2147483648) <|
    gv (gI S 505 (a2 : Int).toNat a3) fun S_9 =>
    gv (a4 + 3) fun x11 =>
    gg (0 ≤ x11 ∧ x11 < ((295728 : Nat) : Int) ∧ x11 < 2147483648) <|
    gv (S_9.1 501 (x11 : Int).toNat) fun x14 =>
    gv (gI S_9 506 (a2 : Int).toNat x14) fun S_16 =>
    gv (a2 + 1) fun x18 =>
    rec d 149 S_16 [a1, x18, a3]
  )
def b_X12_link_149 (n d : Nat) (rec : Nat → Nat → GS → List Int → Option (Int × GS)) (S : GS) (a1 : Int) (a2 : Int) (a3 : Int) : Option (Int × GS) :=
  gg (inr a2) <|
  if a2 ≤ 0 then (
    gv (a3 + 1) fun x3 =>
    rec d 4 S [a1, a2, x3]
  ) else (
    gv (a2 - 1) fun x5 =>
    gg (0 ≤ x5 ∧ x5 < ((128 : Nat) : Int) ∧ x5 < 2147483648) <|
    gv (S.1 506 (x5 : Int).toNat) fun x8 =>
    gg (inr x8) <|
    if x8 ≠ 0 then (
      gv (a3 + 1) fun x12 =>
      rec d 4 S [a1, a2, x12]
    ) else (
      gv (a2 + (-1)) fun x14 =>
      gg (0 ≤ x14 ∧ x14 < ((128 : Nat) : Int) ∧ x14 < 2147483648) <|
      gv (S.1 505 (x14 : Int).toNat) fun x17 =>
      gg (1 ≤ d) <|
      gc (f_X12_at n (d - 1) 0 S [a1, x17]) fun x20 S_21 =>
      gv (x20 + 4) fun x23 =>
      gv (a3 + 1) fun x25 =>
      gv (S_21.1 505 (x14 : Int).toNat) fun x27 =>
      gv (x25 - x27) fun x29 =>
      gg (0 ≤ x23 ∧ x23 < ((295728 : Nat) : Int) ∧ x23 < 2147483648) <|
      gv (gI S_21 501 (x23 : Int).toNat x29) fun S_32 =>
      rec d 149 S_32 [a1, x14, a3]
    )
  )
def f_X12_link : Nat → Nat → Nat → GS → List Int → Option (Int × GS)
  | 0, _, _, _, _ => none
  | n + 1, d, pc, S, x => match pc, x with
    | 0, [a1] => b_X12_link_0 n d (f_X12_link n) S a1
    | 4, [a1, a2, a3] => b_X12_link_4 n d (f_X12_link n) S a1 a2 a3
    | 45, [a1, a2, a3, a4, s0, s1] => b_X12_link_45 n d (f_X12_link n) S a1 a2 a3 a4 s0 s1
    | 85, [a1, a2, a3, a4, s0, s1] => b_X12_link_85 n d (f_X12_link n) S a1 a2 a3 a4 s0 s1
    | 112, [a1, a2, a3, a4] => b_X12_link_112 n d (f_X12_link n) S a1 a2 a3 a4
    | 149, [a1, a2, a3] => b_X12_link_149 n d (f_X12_link n) S a1 a2 a3
    | _, _ => none
theorem e_X12_link_0 {n d : Nat} {S : GS} {a1 : Int} : f_X12_link (n + 1) d 0 S [a1] = b_X12_link_0 n d (f_X12_link n) S a1 := rfl
theorem e_X12_link_4 {n d : Nat} {S : GS} {a1 : Int} {a2 : Int} {a3 : Int} : f_X12_link (n + 1) d 4 S [a1, a2, a3] = b_X12_link_4 n d (f_X12_link n) S a1 a2 a3 := rfl
theorem e_X12_link_45 {n d : Nat} {S : GS} {a1 : Int} {a2 : Int} {a3 : Int} {a4 : Int} {s0 : Int} {s1 : Int} : f_X12_link (n + 1) d 45 S [a1, a2, a3, a4, s0, s1] = b_X12_link_45 n d (f_X12_link n) S a1 a2 a3 a4 s0 s1 := rfl
theorem e_X12_link_85 {n d : Nat} {S : GS} {a1 : Int} {a2 : Int} {a3 : Int} {a4 : Int} {s0 : Int} {s1 : Int} : f_X12_link (n + 1) d 85 S [a1, a2, a3, a4, s0, s1] = b_X12_link_85 n d (f_X12_link n) S a1 a2 a3 a4 s0 s1 := rfl
theorem e_X12_link_112 {n d : Nat} {S : GS} {a1 : Int} {a2 : Int} {a3 : Int} {a4 : Int} : f_X12_link (n + 1) d 112 S [a1, a2, a3, a4] = b_X12_link_112 n d (f_X12_link n) S a1 a2 a3 a4 := rfl
theorem e_X12_link_149 {n d : Nat} {S : GS} {a1 : Int} {a2 : Int} {a3 : Int} : f_X12_link (n + 1) d 149 S [a1, a2, a3] = b_X12_link_149 n d (f_X12_link n) S a1 a2 a3 := rfl

def b_X12_deepOf_0 (n d : Nat) (rec : Nat → Nat → GS → List Int → Option (Int × GS)) (S : GS) (a1 : Int) (a2 : Int) : Option (Int × GS) :=
  rec d 5 S [a1, a2, 0, a2]
def b_X12_deepOf_5 (n d : Nat) (rec : Nat → Nat → GS → List Int → Option (Int × GS)) (S : GS) (a1 : Int) (a2 : Int) (a3 : Int) (a4 : Int) : Option (Int × GS) :=
  gg (1 ≤ d) <|
  gc (f_X12_endOf n (d - 1) 0 S [a1, a2]) fun x2 S_3 =>
  gg (inr a4) <|
  gg (inr x2) <|
  if x2 ≤ a4 then (
    some (a3, S_3)
  ) else (
    rec d 23 S_3 [a1, a2, a3, a4, 1, a4]
  )
def b_X12_deepOf_23 (n d : Nat) (rec : Nat → Nat → GS → List Int → Option (Int × GS)) (S : GS) (a1 : Int) (a2 : Int) (a3 : Int) (a4 : Int) (a5 : Int) (a6 : Int) : Option (Int × GS) :=
  gg (inr a6) <|
  gg (inr a2) <|
  if a6 = a2 then (
    gg (1 ≤ d) <|
    gc (f_X12_kind n (d - 1) 0 S [a1, a4]) fun x5 S_6 =>
    gg (inr x5) <|
    if x5 < 4 then (
      gv (a4 + 1) fun x10 =>
      rec d 5 S_6 [a1, a2, a3, x10]
    ) else (
      gg (inr a5) <|
      gg (inr a3) <|
      if a5 ≤ a3 then (
        gv (a4 + 1) fun x15 =>
        rec d 5 S_6 [a1, a2, a3, x15]
      ) else (
        gv (a4 + 1) fun x17 =>
        rec d 5 S_6 [a1, a2, a5, x17]
      )
    )
  ) else (
    gv (a5 + 1) fun x19 =>
    gg (1 ≤ d) <|
    gc (f_X12_part n (d - 1) 0 S [a1, a6, 1]) fun x22 S_23 =>
    rec d 23 S_23 [a1, a2, a3, a4, x19, x22]
  )
def f_X12_deepOf : Nat → Nat → Nat → GS → List Int → Option (Int × GS)
  | 0, _, _, _, _ => none
  | n + 1, d, pc, S, x => match pc, x with
    | 0, [a1, a2] => b_X12_deepOf_0 n d (f_X12_deepOf n) S a1 a2
    | 5, [a1, a2, a3, a4] => b_X12_deepOf_5 n d (f_X12_deepOf n) S a1 a2 a3 a4
    | 23, [a1, a2, a3, a4, a5, a6] => b_X12_deepOf_23 n d (f_X12_deepOf n) S a1 a2 a3 a4 a5 a6
    | _, _ => none
theorem e_X12_deepOf_0 {n d : Nat} {S : GS} {a1 : Int} {a2 : Int} : f_X12_deepOf (n + 1) d 0 S [a1, a2] = b_X12_deepOf_0 n d (f_X12_deepOf n) S a1 a2 := rfl
theorem e_X12_deepOf_5 {n d : Nat} {S : GS} {a1 : Int} {a2 : Int} {a3 : Int} {a4 : Int} : f_X12_deepOf (n + 1) d 5 S [a1, a2, a3, a4] = b_X12_deepOf_5 n d (f_X12_deepOf n) S a1 a2 a3 a4 := rfl
theorem e_X12_deepOf_23 {n d : Nat} {S : GS} {a1 : Int} {a2 : Int} {a3 : Int} {a4 : Int} {a5 : Int} {a6 : Int} : f_X12_deepOf (n + 1) d 23 S [a1, a2, a3, a4, a5, a6] = b_X12_deepOf_23 n d (f_X12_deepOf n) S a1 a2 a3 a4 a5 a6 := rfl

def b_X12_isWhole_0 (n d : Nat) (rec : Nat → Nat → GS → List Int → Option (Int × GS)) (S : GS) (a1 : Int) : Option (Int × GS) :=
  gv (bi (S.2.1 500 5)) fun x1 =>
  gg (inr x1) <|
  if x1 ≠ 0 then (
    some (0, S)
  ) else (
    gg (0 ≤ a1 ∧ a1 < ((48 : Nat) : Int) ∧ a1 < 2147483648) <|
    gv (S.1 502 (a1 : Int).toNat) fun x6 =>
    gg (inr x6) <|
    if x6 ≠ 0 then (
      gg (1 ≤ d) <|
      gc (f_X12_link n (d - 1) 0 S [a1]) fun x11 S_12 =>
      gc (f_X12_deepOf n (d - 1) 0 S_12 [a1, 0]) fun x14 S_15 =>
      gg (inr x14) <|
      if 12 < x14 then (
        some (0, S_15)
      ) else (
        some (1, S_15)
      )
    ) else (
      some (0, S)
    )
  )
def f_X12_isWhole : Nat → Nat → Nat → GS → List Int → Option (Int × GS)
  | 0, _, _, _, _ => none
  | n + 1, d, pc, S, x => match pc, x with
    | 0, [a1] => b_X12_isWhole_0 n d (f_X12_isWhole n) S a1
    | _, _ => none
theorem e_X12_isWhole_0 {n d : Nat} {S : GS} {a1 : Int} : f_X12_isWhole (n + 1) d 0 S [a1] = b_X12_isWhole_0 n d (f_X12_isWhole n) S a1 := rfl

def b_X12_keeps_0 (n d : Nat) (rec : Nat → Nat → GS → List Int → Option (Int × GS)) (S : GS) (a1 : Int) : Option (Int × GS) :=
  gv (S.1 500 1) fun x1 =>
  gg (0 ≤ a1 ∧ a1 < ((48 : Nat) : Int) ∧ a1 < 2147483648) <|
  gv (S.1 502 (a1 : Int).toNat) fun x4 =>
  gg (0 ≤ x1 ∧ x1 < ((48 : Nat) : Int) ∧ x1 < 2147483648) <|
  gv (gI S 502 (x1 : Int).toNat x4) fun S_7 =>
  rec d 17 S_7 [a1, 0]
def b_X12_keeps_17 (n d : Nat) (rec : Nat → Nat → GS → List Int → Option (Int × GS)) (S : GS) (a1 : Int) (a2 : Int) : Option (Int × GS) :=
  gg (0 ≤ a1 ∧ a1 < ((48 : Nat) : Int) ∧ a1 < 2147483648) <|
  gv (S.1 502 (a1 : Int).toNat) fun x2 =>
  gv (x2 * 61) fun x4 =>
  gg (inr a2) <|
  gg (inr x4) <|
  if x4 ≤ a2 then (
    gv (S.1 500 1) fun x9 =>
    gv (x9 + 1) fun x11 =>
    gv (gI S 500 1 x11) fun S_13 =>
    gv (S_13.1 500 1) fun x15 =>
    gv (x15 - 1) fun x17 =>
    some (x17, S_13)
  ) else (
    gv (S.1 500 1) fun x19 =>
    gg (1 ≤ d) <|
    gc (f_X12_at n (d - 1) 0 S [x19, 0]) fun x22 S_23 =>
    gv (x22 + a2) fun x25 =>
    gc (f_X12_at n (d - 1) 0 S_23 [a1, 0]) fun x27 S_28 =>
    gv (x27 + a2) fun x30 =>
    gg (0 ≤ x30 ∧ x30 < ((295728 : Nat) : Int) ∧ x30 < 2147483648) <|
    gv (S_28.1 501 (x30 : Int).toNat) fun x33 =>
    gg (0 ≤ x25 ∧ x25 < ((295728 : Nat) : Int) ∧ x25 < 2147483648) <|
    gv (gI S_28 501 (x25 : Int).toNat x33) fun S_36 =>
    gv (a2 + 1) fun x38 =>
    rec d 17 S_36 [a1, x38]
  )
def f_X12_keeps : Nat → Nat → Nat → GS → List Int → Option (Int × GS)
  | 0, _, _, _, _ => none
  | n + 1, d, pc, S, x => match pc, x with
    | 0, [a1] => b_X12_keeps_0 n d (f_X12_keeps n) S a1
    | 17, [a1, a2] => b_X12_keeps_17 n d (f_X12_keeps n) S a1 a2
    | _, _ => none
theorem e_X12_keeps_0 {n d : Nat} {S : GS} {a1 : Int} : f_X12_keeps (n + 1) d 0 S [a1] = b_X12_keeps_0 n d (f_X12_keeps n) S a1 := rfl
theorem e_X12_keeps_17 {n d : Nat} {S : GS} {a1 : Int} {a2 : Int} : f_X12_keeps (n + 1) d 17 S [a1, a2] = b_X12_keeps_17 n d (f_X12_keeps n) S a1 a2 := rfl

def b_X12_both_0 (n d : Nat) (rec : Nat → Nat → GS → List Int → Option (Int × GS)) (S : GS) (a1 : Int) (a2 : Int) : Option (Int × GS) :=
  gg (1 ≤ d) <|
  gc (f_X12_isDoc n (d - 1) 0 S [a1]) fun x2 S_3 =>
  gg (inr x2) <|
  if x2 = 0 then (
    rec d 22 S_3 [a1, a2, 0]
  ) else (
    gc (f_X12_isDoc n (d - 1) 0 S_3 [a2]) fun x7 S_8 =>
    gg (inr x7) <|
    if x7 = 0 then (
      rec d 22 S_8 [a1, a2, 0]
    ) else (
      rec d 22 S_8 [a1, a2, 1]
    )
  )
def b_X12_both_22 (n d : Nat) (rec : Nat → Nat → GS → List Int → Option (Int × GS)) (S : GS) (a1 : Int) (a2 : Int) (s0 : Int) : Option (Int × GS) :=
  gg (1 ≤ d) <|
  gc (f_X12_fails n (d - 1) 0 S [s0, 1]) fun x2 S_3 =>
  gg (inr x2) <|
  if x2 = 0 then (
    gc (f_X12_begin n (d - 1) 0 S_3 [40]) fun x7 S_8 =>
    gc (f_X12_added n (d - 1) 0 S_8 [40, 4]) fun x10 S_11 =>
    gc (f_X12_at n (d - 1) 0 S_11 [40, x10]) fun x13 S_14 =>
    gv (x13 + 3) fun x16 =>
    gg (0 ≤ x16 ∧ x16 < ((295728 : Nat) : Int) ∧ x16 < 2147483648) <|
    gv (gI S_14 501 (x16 : Int).toNat 2) fun S_19 =>
    gg (0 ≤ a1 ∧ a1 < ((48 : Nat) : Int) ∧ a1 < 2147483648) <|
    gv (S_19.1 502 (a1 : Int).toNat) fun x22 =>
    gc (f_X12_copies n (d - 1) 0 S_19 [40, a1, 0, x22]) fun x24 S_25 =>
    gg (0 ≤ a2 ∧ a2 < ((48 : Nat) : Int) ∧ a2 < 2147483648) <|
    gv (S_25.1 502 (a2 : Int).toNat) fun x28 =>
    gc (f_X12_copies n (d - 1) 0 S_25 [40, a2, 0, x28]) fun x30 S_31 =>
    gc (f_X12_isWhole n (d - 1) 0 S_31 [40]) fun x33 S_34 =>
    gg (inr x33) <|
    if x33 = 0 then (
      rec d 111 S_34 [0]
    ) else (
      gv (S_34.1 500 1) fun x38 =>
      gg (inr x38) <|
      if 40 ≤ x38 then (
        rec d 111 S_34 [0]
      ) else (
        rec d 111 S_34 [1]
      )
    )
  ) else (
    some (0, S_3)
  )
def b_X12_both_111 (n d : Nat) (rec : Nat → Nat → GS → List Int → Option (Int × GS)) (S : GS) (s0 : Int) : Option (Int × GS) :=
  gg (1 ≤ d) <|
  gc (f_X12_fails n (d - 1) 0 S [s0, 2]) fun x2 S_3 =>
  gg (inr x2) <|
  if x2 = 0 then (
    gc (f_X12_keeps n (d - 1) 0 S_3 [40]) fun x7 S_8 =>
    some (x7, S_8)
  ) else (
    some (0, S_3)
  )
def f_X12_both : Nat → Nat → Nat → GS → List Int → Option (Int × GS)
  | 0, _, _, _, _ => none
  | n + 1, d, pc, S, x => match pc, x with
    | 0, [a1, a2] => b_X12_both_0 n d (f_X12_both n) S a1 a2
    | 22, [a1, a2, s0] => b_X12_both_22 n d (f_X12_both n) S a1 a2 s0
    | 111, [s0] => b_X12_both_111 n d (f_X12_both n) S s0
    | _, _ => none
theorem e_X12_both_0 {n d : Nat} {S : GS} {a1 : Int} {a2 : Int} : f_X12_both (n + 1) d 0 S [a1, a2] = b_X12_both_0 n d (f_X12_both n) S a1 a2 := rfl
theorem e_X12_both_22 {n d : Nat} {S : GS} {a1 : Int} {a2 : Int} {s0 : Int} : f_X12_both (n + 1) d 22 S [a1, a2, s0] = b_X12_both_22 n d (f_X12_both n) S a1 a2 s0 := rfl
theorem e_X12_both_111 {n d : Nat} {S : GS} {s0 : Int} : f_X12_both (n + 1) d 111 S [s0] = b_X12_both_111 n d (f_X12_both n) S s0 := rfl

def b_X12_step_0 (n d : Nat) (rec : Nat → Nat → GS → List Int → Option (Int × GS)) (S : GS) (a1 : Int) : Option (Int × GS) :=
  gv (a1 + 1) fun x1 =>
  gv (gI S 500 30 x1) fun S_3 =>
  gv (S_3.1 500 30) fun x5 =>
  gv (gI S_3 500 31 x5) fun S_7 =>
  rec d 15 S_7 []
def b_X12_step_15 (n d : Nat) (rec : Nat → Nat → GS → List Int → Option (Int × GS)) (S : GS) : Option (Int × GS) :=
  gv (S.1 500 31) fun x1 =>
  gv (S.1 500 29) fun x3 =>
  gg (inr x1) <|
  gg (inr x3) <|
  if x3 ≤ x1 then (
    some (0, S)
  ) else (
    gv (S.1 500 31) fun x8 =>
    gg (0 ≤ x8 ∧ x8 < ((1000 : Nat) : Int) ∧ x8 < 2147483648) <|
    gv (S.1 518 (x8 : Int).toNat) fun x11 =>
    gg (inr x11) <|
    if x11 = 47 then (
      some (0, S)
    ) else (
      gv (S.1 500 31) fun x15 =>
      gv (x15 + 1) fun x17 =>
      gv (gI S 500 31 x17) fun S_19 =>
      rec d 15 S_19 []
    )
  )
def f_X12_step : Nat → Nat → Nat → GS → List Int → Option (Int × GS)
  | 0, _, _, _, _ => none
  | n + 1, d, pc, S, x => match pc, x with
    | 0, [a1] => b_X12_step_0 n d (f_X12_step n) S a1
    | 15, [] => b_X12_step_15 n d (f_X12_step n) S 
    | _, _ => none
theorem e_X12_step_0 {n d : Nat} {S : GS} {a1 : Int} : f_X12_step (n + 1) d 0 S [a1] = b_X12_step_0 n d (f_X12_step n) S a1 := rfl
theorem e_X12_step_15 {n d : Nat} {S : GS} : f_X12_step (n + 1) d 15 S [] = b_X12_step_15 n d (f_X12_step n) S  := rfl

def b_X12_wordOf_0 (n d : Nat) (rec : Nat → Nat → GS → List Int → Option (Int × GS)) (S : GS) (a1 : Int) (a2 : Int) : Option (Int × GS) :=
  gv (gI S 500 13 0) fun S_1 =>
  rec d 7 S_1 [a2, a1]
def b_X12_wordOf_7 (n d : Nat) (rec : Nat → Nat → GS → List Int → Option (Int × GS)) (S : GS) (a2 : Int) (a3 : Int) : Option (Int × GS) :=
  gg (inr a3) <|
  gg (inr a2) <|
  if a2 ≤ a3 then (
    some (0, S)
  ) else (
    gg (0 ≤ a3 ∧ a3 < ((1000 : Nat) : Int) ∧ a3 < 2147483648) <|
    gv (S.1 518 (a3 : Int).toNat) fun x5 =>
    gg (inr x5) <|
    if x5 ≠ 126 then (
      rec d 50 S [a2, a3, x5]
    ) else (
      gv (a3 + 1) fun x9 =>
      gg (0 ≤ x9 ∧ x9 < ((1000 : Nat) : Int) ∧ x9 < 2147483648) <|
      gv (S.1 518 (x9 : Int).toNat) fun x12 =>
      gg (inr x12) <|
      if x12 ≠ 48 then (
        rec d 50 S [a2, x9, 47]
      ) else (
        rec d 50 S [a2, x9, 126]
      )
    )
  )
def b_X12_wordOf_50 (n d : Nat) (rec : Nat → Nat → GS → List Int → Option (Int × GS)) (S : GS) (a2 : Int) (a3 : Int) (a4 : Int) : Option (Int × GS) :=
  gv (S.1 500 13) fun x1 =>
  gg (0 ≤ x1 ∧ x1 < ((1000 : Nat) : Int) ∧ x1 < 2147483648) <|
  gv (gI S 507 (x1 : Int).toNat a4) fun S_4 =>
  gv (S_4.1 500 13) fun x6 =>
  gv (x6 + 1) fun x8 =>
  gv (gI S_4 500 13 x8) fun S_10 =>
  gv (a3 + 1) fun x12 =>
  rec d 7 S_10 [a2, x12]
def f_X12_wordOf : Nat → Nat → Nat → GS → List Int → Option (Int × GS)
  | 0, _, _, _, _ => none
  | n + 1, d, pc, S, x => match pc, x with
    | 0, [a1, a2] => b_X12_wordOf_0 n d (f_X12_wordOf n) S a1 a2
    | 7, [a2, a3] => b_X12_wordOf_7 n d (f_X12_wordOf n) S a2 a3
    | 50, [a2, a3, a4] => b_X12_wordOf_50 n d (f_X12_wordOf n) S a2 a3 a4
    | _, _ => none
theorem e_X12_wordOf_0 {n d : Nat} {S : GS} {a1 : Int} {a2 : Int} : f_X12_wordOf (n + 1) d 0 S [a1, a2] = b_X12_wordOf_0 n d (f_X12_wordOf n) S a1 a2 := rfl
theorem e_X12_wordOf_7 {n d : Nat} {S : GS} {a2 : Int} {a3 : Int} : f_X12_wordOf (n + 1) d 7 S [a2, a3] = b_X12_wordOf_7 n d (f_X12_wordOf n) S a2 a3 := rfl
theorem e_X12_wordOf_50 {n d : Nat} {S : GS} {a2 : Int} {a3 : Int} {a4 : Int} : f_X12_wordOf (n + 1) d 50 S [a2, a3, a4] = b_X12_wordOf_50 n d (f_X12_wordOf n) S a2 a3 a4 := rfl

def b_X12_figured_0 (n d : Nat) (rec : Nat → Nat → GS → List Int → Option (Int × GS)) (S : GS) (a1 : Int) : Option (Int × GS) :=
  gv (S.1 500 13) fun x1 =>
  gg (inr a1) <|
  gg (inr x1) <|
  if x1 ≤ a1 then (
    some ((-1), S)
  ) else (
    gg (0 ≤ a1 ∧ a1 < ((1000 : Nat) : Int) ∧ a1 < 2147483648) <|
    gv (S.1 507 (a1 : Int).toNat) fun x7 =>
    gg (inr x7) <|
    if x7 ≠ 48 then (
      rec d 35 S [0, a1]
    ) else (
      gv (S.1 500 13) fun x11 =>
      gv (a1 + 1) fun x13 =>
      gg (inr x11) <|
      gg (inr x13) <|
      if x11 ≤ x13 then (
        rec d 35 S [0, a1]
      ) else (
        some ((-1), S)
      )
    )
  )
def b_X12_figured_35 (n d : Nat) (rec : Nat → Nat → GS → List Int → Option (Int × GS)) (S : GS) (a2 : Int) (a3 : Int) : Option (Int × GS) :=
  gv (S.1 500 13) fun x1 =>
  gg (inr a3) <|
  gg (inr x1) <|
  if x1 ≤ a3 then (
    some (a2, S)
  ) else (
    gg (0 ≤ a3 ∧ a3 < ((1000 : Nat) : Int) ∧ a3 < 2147483648) <|
    gv (S.1 507 (a3 : Int).toNat) fun x7 =>
    gg (1 ≤ d) <|
    gc (f_X12_in n (d - 1) 0 S [x7, 48, 57]) fun x10 S_11 =>
    gg (inr x10) <|
    if x10 ≠ 0 then (
      gg (inr a2) <|
      if a2 ≤ 9999 then (
        gv (10 * a2) fun x17 =>
        gv (S_11.1 507 (a3 : Int).toNat) fun x19 =>
        gv (x17 + x19) fun x21 =>
        gv (x21 - 48) fun x23 =>
        gv (a3 + 1) fun x25 =>
        rec d 35 S_11 [x23, x25]
      ) else (
        gv (a3 + 1) fun x27 =>
        rec d 35 S_11 [a2, x27]
      )
    ) else (
      some ((-1), S_11)
    )
  )
def f_X12_figured : Nat → Nat → Nat → GS → List Int → Option (Int × GS)
  | 0, _, _, _, _ => none
  | n + 1, d, pc, S, x => match pc, x with
    | 0, [a1] => b_X12_figured_0 n d (f_X12_figured n) S a1
    | 35, [a2, a3] => b_X12_figured_35 n d (f_X12_figured n) S a2 a3
    | _, _ => none
theorem e_X12_figured_0 {n d : Nat} {S : GS} {a1 : Int} : f_X12_figured (n + 1) d 0 S [a1] = b_X12_figured_0 n d (f_X12_figured n) S a1 := rfl
theorem e_X12_figured_35 {n d : Nat} {S : GS} {a2 : Int} {a3 : Int} : f_X12_figured (n + 1) d 35 S [a2, a3] = b_X12_figured_35 n d (f_X12_figured n) S a2 a3 := rfl

def b_X12_stepped_0 (n d : Nat) (rec : Nat → Nat → GS → List Int → Option (Int × GS)) (S : GS) (a1 : Int) (a2 : Int) (a3 : Int) : Option (Int × GS) :=
  gg (1 ≤ d) <|
  gc (f_X12_kind n (d - 1) 0 S [a1, a2]) fun x2 S_3 =>
  gg (inr x2) <|
  if x2 ≠ 5 then (
    gc (f_X12_kind n (d - 1) 0 S_3 [a1, a2]) fun x7 S_8 =>
    gg (inr x7) <|
    if x7 = 4 then (
      gc (f_X12_part n (d - 1) 0 S_8 [a1, a2, 3]) fun x12 S_13 =>
      gc (f_X12_figured n (d - 1) 0 S_13 [0]) fun x15 S_16 =>
      gg (inr a3) <|
      if a3 = 0 then (
        rec d 90 S_16 [a1, a2, x12, x15]
      ) else (
        gv (S_16.1 500 13) fun x20 =>
        gg (inr x20) <|
        if x20 ≤ 0 then (
          rec d 90 S_16 [a1, a2, x12, x15]
        ) else (
          gg ((0 : Int) ≤ 0 ∧ (0 : Int) < ((1000 : Nat) : Int) ∧ (0 : Int) < 2147483648) <|
          gv (S_16.1 507 (0 : Int).toNat) fun x25 =>
          gg (inr x25) <|
          if x25 ≠ 45 then (
            rec d 90 S_16 [a1, a2, x12, x15]
          ) else (
            gc (f_X12_figured n (d - 1) 0 S_16 [1]) fun x29 S_30 =>
            gg (inr x29) <|
            if x29 ≤ 0 then (
              rec d 90 S_30 [a1, a2, x12, (-1)]
            ) else (
              gv (x12 - x29) fun x34 =>
              rec d 90 S_30 [a1, a2, x12, x34]
            )
          )
        )
      )
    ) else (
      some ((-1), S_8)
    )
  ) else (
    gc (f_X12_childByWord n (d - 1) 0 S_3 [a1, a2]) fun x36 S_37 =>
    some (x36, S_37)
  )
def b_X12_stepped_90 (n d : Nat) (rec : Nat → Nat → GS → List Int → Option (Int × GS)) (S : GS) (a1 : Int) (a2 : Int) (a4 : Int) (a5 : Int) : Option (Int × GS) :=
  gv (a4 - 1) fun x1 =>
  gg (1 ≤ d) <|
  gc (f_X12_in n (d - 1) 0 S [a5, 0, x1]) fun x4 S_5 =>
  gg (inr x4) <|
  if x4 = 0 then (
    some ((-1), S_5)
  ) else (
    gc (f_X12_childAt n (d - 1) 0 S_5 [a1, a2, a5]) fun x9 S_10 =>
    some (x9, S_10)
  )
def f_X12_stepped : Nat → Nat → Nat → GS → List Int → Option (Int × GS)
  | 0, _, _, _, _ => none
  | n + 1, d, pc, S, x => match pc, x with
    | 0, [a1, a2, a3] => b_X12_stepped_0 n d (f_X12_stepped n) S a1 a2 a3
    | 90, [a1, a2, a4, a5] => b_X12_stepped_90 n d (f_X12_stepped n) S a1 a2 a4 a5
    | _, _ => none
theorem e_X12_stepped_0 {n d : Nat} {S : GS} {a1 : Int} {a2 : Int} {a3 : Int} : f_X12_stepped (n + 1) d 0 S [a1, a2, a3] = b_X12_stepped_0 n d (f_X12_stepped n) S a1 a2 a3 := rfl
theorem e_X12_stepped_90 {n d : Nat} {S : GS} {a1 : Int} {a2 : Int} {a4 : Int} {a5 : Int} : f_X12_stepped (n + 1) d 90 S [a1, a2, a4, a5] = b_X12_stepped_90 n d (f_X12_stepped n) S a1 a2 a4 a5 := rfl

def b_X12_plain_0 (n d : Nat) (rec : Nat → Nat → GS → List Int → Option (Int × GS)) (S : GS) (a1 : Int) (a2 : Int) : Option (Int × GS) :=
  rec d 5 S [a1, a2, 0, 0]
def b_X12_plain_5 (n d : Nat) (rec : Nat → Nat → GS → List Int → Option (Int × GS)) (S : GS) (a1 : Int) (a2 : Int) (a3 : Int) (a4 : Int) : Option (Int × GS) :=
  gg (inr a4) <|
  gg (inr a2) <|
  if a2 ≤ a4 then (
    some (a3, S)
  ) else (
    gg (inr a3) <|
    if a3 = (-1) then (
      some (a3, S)
    ) else (
      gg (1 ≤ d) <|
      gc (f_X12_step n (d - 1) 0 S [a4]) fun x7 S_8 =>
      gv (S_8.1 500 30) fun x10 =>
      gv (S_8.1 500 31) fun x12 =>
      gc (f_X12_wordOf n (d - 1) 0 S_8 [x10, x12]) fun x14 S_15 =>
      gc (f_X12_stepped n (d - 1) 0 S_15 [a1, a3, 0]) fun x17 S_18 =>
      gv (S_18.1 500 31) fun x20 =>
      rec d 5 S_18 [a1, a2, x17, x20]
    )
  )
def f_X12_plain : Nat → Nat → Nat → GS → List Int → Option (Int × GS)
  | 0, _, _, _, _ => none
  | n + 1, d, pc, S, x => match pc, x with
    | 0, [a1, a2] => b_X12_plain_0 n d (f_X12_plain n) S a1 a2
    | 5, [a1, a2, a3, a4] => b_X12_plain_5 n d (f_X12_plain n) S a1 a2 a3 a4
    | _, _ => none
theorem e_X12_plain_0 {n d : Nat} {S : GS} {a1 : Int} {a2 : Int} : f_X12_plain (n + 1) d 0 S [a1, a2] = b_X12_plain_0 n d (f_X12_plain n) S a1 a2 := rfl
theorem e_X12_plain_5 {n d : Nat} {S : GS} {a1 : Int} {a2 : Int} {a3 : Int} {a4 : Int} : f_X12_plain (n + 1) d 5 S [a1, a2, a3, a4] = b_X12_plain_5 n d (f_X12_plain n) S a1 a2 a3 a4 := rfl

def b_X12_taken_0 (n d : Nat) (rec : Nat → Nat → GS → List Int → Option (Int × GS)) (S : GS) (a1 : Int) (a2 : Int) (a3 : Int) : Option (Int × GS) :=
  gg (1 ≤ d) <|
  gc (f_X12_begin n (d - 1) 0 S [a1]) fun x2 S_3 =>
  gc (f_X12_copies n (d - 1) 0 S_3 [a1, a2, 0, a3]) fun x5 S_6 =>
  gc (f_X12_endOf n (d - 1) 0 S_6 [a2, a3]) fun x8 S_9 =>
  gg (0 ≤ a2 ∧ a2 < ((48 : Nat) : Int) ∧ a2 < 2147483648) <|
  gv (S_9.1 502 (a2 : Int).toNat) fun x12 =>
  gc (f_X12_copies n (d - 1) 0 S_9 [a1, a2, x8, x12]) fun x14 S_15 =>
  gc (f_X12_part n (d - 1) 0 S_15 [a2, a3, 1]) fun x17 S_18 =>
  gc (f_X12_at n (d - 1) 0 S_18 [a1, x17]) fun x20 S_21 =>
  gv (x20 + 3) fun x23 =>
  gg (0 ≤ x23 ∧ x23 < ((295728 : Nat) : Int) ∧ x23 < 2147483648) <|
  gv (S_21.1 501 (x23 : Int).toNat) fun x26 =>
  gv (x26 - 1) fun x28 =>
  gv (gI S_21 501 (x23 : Int).toNat x28) fun S_30 =>
  some (0, S_30)
def f_X12_taken : Nat → Nat → Nat → GS → List Int → Option (Int × GS)
  | 0, _, _, _, _ => none
  | n + 1, d, pc, S, x => match pc, x with
    | 0, [a1, a2, a3] => b_X12_taken_0 n d (f_X12_taken n) S a1 a2 a3
    | _, _ => none
theorem e_X12_taken_0 {n d : Nat} {S : GS} {a1 : Int} {a2 : Int} {a3 : Int} : f_X12_taken (n + 1) d 0 S [a1, a2, a3] = b_X12_taken_0 n d (f_X12_taken n) S a1 a2 a3 := rfl

def b_X12_canCut_0 (n d : Nat) (rec : Nat → Nat → GS → List Int → Option (Int × GS)) (S : GS) (a1 : Int) (a2 : Int) : Option (Int × GS) :=
  gv (S.1 500 29) fun x1 =>
  gg (inr x1) <|
  if x1 ≠ 0 then (
    gv (S.1 500 29) fun x5 =>
    gg (1 ≤ d) <|
    gc (f_X12_plain n (d - 1) 0 S [a2, x5]) fun x8 S_9 =>
    gg (inr x8) <|
    if x8 ≠ (-1) then (
      gc (f_X12_taken n (d - 1) 0 S_9 [a1, a2, x8]) fun x13 S_14 =>
      gc (f_X12_link n (d - 1) 0 S_14 [a1]) fun x16 S_17 =>
      some (1, S_17)
    ) else (
      some (0, S_9)
    )
  ) else (
    some (0, S)
  )
def f_X12_canCut : Nat → Nat → Nat → GS → List Int → Option (Int × GS)
  | 0, _, _, _, _ => none
  | n + 1, d, pc, S, x => match pc, x with
    | 0, [a1, a2] => b_X12_canCut_0 n d (f_X12_canCut n) S a1 a2
    | _, _ => none
theorem e_X12_canCut_0 {n d : Nat} {S : GS} {a1 : Int} {a2 : Int} : f_X12_canCut (n + 1) d 0 S [a1, a2] = b_X12_canCut_0 n d (f_X12_canCut n) S a1 a2 := rfl

def b_X12_lastStep_0 (n d : Nat) (rec : Nat → Nat → GS → List Int → Option (Int × GS)) (S : GS) : Option (Int × GS) :=
  gv (S.1 500 29) fun x1 =>
  gv (x1 - 1) fun x3 =>
  rec d 7 S [x3]
def b_X12_lastStep_7 (n d : Nat) (rec : Nat → Nat → GS → List Int → Option (Int × GS)) (S : GS) (a1 : Int) : Option (Int × GS) :=
  gg (0 ≤ a1 ∧ a1 < ((1000 : Nat) : Int) ∧ a1 < 2147483648) <|
  gv (S.1 518 (a1 : Int).toNat) fun x2 =>
  gg (inr x2) <|
  if x2 = 47 then (
    some (a1, S)
  ) else (
    gv (a1 + (-1)) fun x6 =>
    rec d 7 S [x6]
  )
def f_X12_lastStep : Nat → Nat → Nat → GS → List Int → Option (Int × GS)
  | 0, _, _, _, _ => none
  | n + 1, d, pc, S, x => match pc, x with
    | 0, [] => b_X12_lastStep_0 n d (f_X12_lastStep n) S 
    | 7, [a1] => b_X12_lastStep_7 n d (f_X12_lastStep n) S a1
    | _, _ => none
theorem e_X12_lastStep_0 {n d : Nat} {S : GS} : f_X12_lastStep (n + 1) d 0 S [] = b_X12_lastStep_0 n d (f_X12_lastStep n) S  := rfl
theorem e_X12_lastStep_7 {n d : Nat} {S : GS} {a1 : Int} : f_X12_lastStep (n + 1) d 7 S [a1] = b_X12_lastStep_7 n d (f_X12_lastStep n) S a1 := rfl

def b_X12_wordOfKey_0 (n d : Nat) (rec : Nat → Nat → GS → List Int → Option (Int × GS)) (S : GS) (a1 : Int) (a2 : Int) : Option (Int × GS) :=
  gg (1 ≤ d) <|
  gc (f_X12_part n (d - 1) 0 S [a1, a2, 5]) fun x2 S_3 =>
  gv (gI S_3 500 13 x2) fun S_5 =>
  rec d 13 S_5 [a1, a2, 0]
def b_X12_wordOfKey_13 (n d : Nat) (rec : Nat → Nat → GS → List Int → Option (Int × GS)) (S : GS) (a1 : Int) (a2 : Int) (a3 : Int) : Option (Int × GS) :=
  gv (S.1 500 13) fun x1 =>
  gg (inr a3) <|
  gg (inr x1) <|
  if x1 ≤ a3 then (
    some (0, S)
  ) else (
    gv (6 + a3) fun x6 =>
    gg (1 ≤ d) <|
    gc (f_X12_part n (d - 1) 0 S [a1, a2, x6]) fun x9 S_10 =>
    gg (0 ≤ a3 ∧ a3 < ((1000 : Nat) : Int) ∧ a3 < 2147483648) <|
    gv (gI S_10 507 (a3 : Int).toNat x9) fun S_13 =>
    gv (a3 + 1) fun x15 =>
    rec d 13 S_13 [a1, a2, x15]
  )
def f_X12_wordOfKey : Nat → Nat → Nat → GS → List Int → Option (Int × GS)
  | 0, _, _, _, _ => none
  | n + 1, d, pc, S, x => match pc, x with
    | 0, [a1, a2] => b_X12_wordOfKey_0 n d (f_X12_wordOfKey n) S a1 a2
    | 13, [a1, a2, a3] => b_X12_wordOfKey_13 n d (f_X12_wordOfKey n) S a1 a2 a3
    | _, _ => none
theorem e_X12_wordOfKey_0 {n d : Nat} {S : GS} {a1 : Int} {a2 : Int} : f_X12_wordOfKey (n + 1) d 0 S [a1, a2] = b_X12_wordOfKey_0 n d (f_X12_wordOfKey n) S a1 a2 := rfl
theorem e_X12_wordOfKey_13 {n d : Nat} {S : GS} {a1 : Int} {a2 : Int} {a3 : Int} : f_X12_wordOfKey (n + 1) d 13 S [a1, a2, a3] = b_X12_wordOfKey_13 n d (f_X12_wordOfKey n) S a1 a2 a3 := rfl

def b_X12_replaced_0 (n d : Nat) (rec : Nat → Nat → GS → List Int → Option (Int × GS)) (S : GS) (a1 : Int) (a2 : Int) (a3 : Int) (a4 : Int) (a5 : Int) : Option (Int × GS) :=
  gg (1 ≤ d) <|
  gc (f_X12_wordOfKey n (d - 1) 0 S [a2, a3]) fun x2 S_3 =>
  gc (f_X12_begin n (d - 1) 0 S_3 [a1]) fun x5 S_6 =>
  gc (f_X12_copies n (d - 1) 0 S_6 [a1, a2, 0, a3]) fun x8 S_9 =>
  gc (f_X12_part n (d - 1) 0 S_9 [a2, a3, 5]) fun x11 S_12 =>
  gg (inr x11) <|
  if 0 < x11 then (
    rec d 60 S_12 [a1, a2, a3, 1, a5, a4, a1]
  ) else (
    gg (inr a3) <|
    if a3 ≤ 0 then (
      rec d 60 S_12 [a1, a2, a3, 0, a5, a4, a1]
    ) else (
      gc (f_X12_part n (d - 1) 0 S_12 [a2, a3, 1]) fun x18 S_19 =>
      gc (f_X12_kind n (d - 1) 0 S_19 [a2, x18]) fun x21 S_22 =>
      gg (inr x21) <|
      if x21 ≠ 5 then (
        rec d 60 S_22 [a1, a2, a3, 0, a5, a4, a1]
      ) else (
        rec d 60 S_22 [a1, a2, a3, 1, a5, a4, a1]
      )
    )
  )
def b_X12_replaced_60 (n d : Nat) (rec : Nat → Nat → GS → List Int → Option (Int × GS)) (S : GS) (a1 : Int) (a2 : Int) (a3 : Int) (s0 : Int) (s1 : Int) (s2 : Int) (s3 : Int) : Option (Int × GS) :=
  gg (1 ≤ d) <|
  gc (f_X12_brings n (d - 1) 0 S [s3, s2, s1, s0]) fun x2 S_3 =>
  gc (f_X12_endOf n (d - 1) 0 S_3 [a2, a3]) fun x5 S_6 =>
  gg (0 ≤ a2 ∧ a2 < ((48 : Nat) : Int) ∧ a2 < 2147483648) <|
  gv (S_6.1 502 (a2 : Int).toNat) fun x9 =>
  gc (f_X12_copies n (d - 1) 0 S_6 [a1, a2, x5, x9]) fun x11 S_12 =>
  some (0, S_12)
def f_X12_replaced : Nat → Nat → Nat → GS → List Int → Option (Int × GS)
  | 0, _, _, _, _ => none
  | n + 1, d, pc, S, x => match pc, x with
    | 0, [a1, a2, a3, a4, a5] => b_X12_replaced_0 n d (f_X12_replaced n) S a1 a2 a3 a4 a5
    | 60, [a1, a2, a3, s0, s1, s2, s3] => b_X12_replaced_60 n d (f_X12_replaced n) S a1 a2 a3 s0 s1 s2 s3
    | _, _ => none
theorem e_X12_replaced_0 {n d : Nat} {S : GS} {a1 : Int} {a2 : Int} {a3 : Int} {a4 : Int} {a5 : Int} : f_X12_replaced (n + 1) d 0 S [a1, a2, a3, a4, a5] = b_X12_replaced_0 n d (f_X12_replaced n) S a1 a2 a3 a4 a5 := rfl
theorem e_X12_replaced_60 {n d : Nat} {S : GS} {a1 : Int} {a2 : Int} {a3 : Int} {s0 : Int} {s1 : Int} {s2 : Int} {s3 : Int} : f_X12_replaced (n + 1) d 60 S [a1, a2, a3, s0, s1, s2, s3] = b_X12_replaced_60 n d (f_X12_replaced n) S a1 a2 a3 s0 s1 s2 s3 := rfl

def b_X12_canPut_0 (n d : Nat) (rec : Nat → Nat → GS → List Int → Option (Int × GS)) (S : GS) (a1 : Int) (a2 : Int) (a3 : Int) (a4 : Int) : Option (Int × GS) :=
  gv (S.1 500 29) fun x1 =>
  gg (inr x1) <|
  if x1 ≠ 0 then (
    gg (1 ≤ d) <|
    gc (f_X12_lastStep n (d - 1) 0 S []) fun x6 S_7 =>
    gc (f_X12_plain n (d - 1) 0 S_7 [a2, x6]) fun x9 S_10 =>
    gg (inr x9) <|
    if x9 = (-1) then (
      some (0, S_10)
    ) else (
      gc (f_X12_kind n (d - 1) 0 S_10 [a2, x9]) fun x14 S_15 =>
      gg (inr x14) <|
      if 4 ≤ x14 then (
        gc (f_X12_step n (d - 1) 0 S_15 [x6]) fun x19 S_20 =>
        gv (S_20.1 500 30) fun x22 =>
        gv (S_20.1 500 31) fun x24 =>
        gc (f_X12_wordOf n (d - 1) 0 S_20 [x22, x24]) fun x26 S_27 =>
        gc (f_X12_kind n (d - 1) 0 S_27 [a2, x9]) fun x29 S_30 =>
        gg (inr x29) <|
        if x29 ≠ 5 then (
          rec d 133 S_30 [a1, a2, a3, a4, x9]
        ) else (
          gc (f_X12_childByWord n (d - 1) 0 S_30 [a2, x9]) fun x34 S_35 =>
          gg (inr x34) <|
          if x34 = (-1) then (
            gv (S_35.1 500 13) fun x39 =>
            gg (inr x39) <|
            if x39 ≤ 12 then (
              rec d 133 S_35 [a1, a2, a3, a4, x9]
            ) else (
              some (0, S_35)
            )
          ) else (
            gc (f_X12_replaced n (d - 1) 0 S_35 [a1, a2, x34, a3, a4]) fun x43 S_44 =>
            gc (f_X12_isWhole n (d - 1) 0 S_44 [a1]) fun x46 S_47 =>
            gg (x46 = 0 ∨ x46 = 1) <|
            some (x46, S_47)
          )
        )
      ) else (
        some (0, S_15)
      )
    )
  ) else (
    gg (1 ≤ d) <|
    gc (f_X12_begin n (d - 1) 0 S [a1]) fun x51 S_52 =>
    gc (f_X12_brings n (d - 1) 0 S_52 [a1, a3, a4, 0]) fun x54 S_55 =>
    gc (f_X12_isWhole n (d - 1) 0 S_55 [a1]) fun x57 S_58 =>
    gg (x57 = 0 ∨ x57 = 1) <|
    some (x57, S_58)
  )
def b_X12_canPut_133 (n d : Nat) (rec : Nat → Nat → GS → List Int → Option (Int × GS)) (S : GS) (a1 : Int) (a2 : Int) (a3 : Int) (a4 : Int) (a6 : Int) : Option (Int × GS) :=
  gg (1 ≤ d) <|
  gc (f_X12_part n (d - 1) 0 S [a2, a6, 3]) fun x2 S_3 =>
  gc (f_X12_kind n (d - 1) 0 S_3 [a2, a6]) fun x5 S_6 =>
  gg (inr x5) <|
  if x5 ≠ 4 then (
    rec d 197 S_6 [a1, a2, a3, a4, a6, x2]
  ) else (
    gv (S_6.1 500 13) fun x10 =>
    gg (inr x10) <|
    if x10 ≠ 1 then (
      rec d 177 S_6 [a1, a2, a3, a4, a6, x2]
    ) else (
      gg ((0 : Int) ≤ 0 ∧ (0 : Int) < ((1000 : Nat) : Int) ∧ (0 : Int) < 2147483648) <|
      gv (S_6.1 507 (0 : Int).toNat) fun x15 =>
      gg (inr x15) <|
      if x15 = 45 then (
        rec d 197 S_6 [a1, a2, a3, a4, a6, x2]
      ) else (
        rec d 177 S_6 [a1, a2, a3, a4, a6, x2]
      )
    )
  )
def b_X12_canPut_177 (n d : Nat) (rec : Nat → Nat → GS → List Int → Option (Int × GS)) (S : GS) (a1 : Int) (a2 : Int) (a3 : Int) (a4 : Int) (a6 : Int) (a7 : Int) : Option (Int × GS) :=
  gg (1 ≤ d) <|
  gc (f_X12_figured n (d - 1) 0 S [0]) fun x2 S_3 =>
  gc (f_X12_in n (d - 1) 0 S_3 [x2, 0, a7]) fun x5 S_6 =>
  gg (inr x5) <|
  if x5 ≠ 0 then (
    rec d 197 S_6 [a1, a2, a3, a4, a6, x2]
  ) else (
    some (0, S_6)
  )
def b_X12_canPut_197 (n d : Nat) (rec : Nat → Nat → GS → List Int → Option (Int × GS)) (S : GS) (a1 : Int) (a2 : Int) (a3 : Int) (a4 : Int) (a6 : Int) (a8 : Int) : Option (Int × GS) :=
  gg (1 ≤ d) <|
  gc (f_X12_childAt n (d - 1) 0 S [a2, a6, a8]) fun x2 S_3 =>
  gc (f_X12_begin n (d - 1) 0 S_3 [a1]) fun x5 S_6 =>
  gc (f_X12_copies n (d - 1) 0 S_6 [a1, a2, 0, x2]) fun x8 S_9 =>
  gc (f_X12_kind n (d - 1) 0 S_9 [a2, a6]) fun x11 S_12 =>
  gg (inr x11) <|
  if x11 ≠ 5 then (
    rec d 243 S_12 [a1, a2, a6, x2, 0, a4, a3, a1]
  ) else (
    rec d 243 S_12 [a1, a2, a6, x2, 1, a4, a3, a1]
  )
def b_X12_canPut_243 (n d : Nat) (rec : Nat → Nat → GS → List Int → Option (Int × GS)) (S : GS) (a1 : Int) (a2 : Int) (a6 : Int) (a9 : Int) (s0 : Int) (s1 : Int) (s2 : Int) (s3 : Int) : Option (Int × GS) :=
  gg (1 ≤ d) <|
  gc (f_X12_brings n (d - 1) 0 S [s3, s2, s1, s0]) fun x2 S_3 =>
  gg (0 ≤ a2 ∧ a2 < ((48 : Nat) : Int) ∧ a2 < 2147483648) <|
  gv (S_3.1 502 (a2 : Int).toNat) fun x6 =>
  gc (f_X12_copies n (d - 1) 0 S_3 [a1, a2, a9, x6]) fun x8 S_9 =>
  gc (f_X12_at n (d - 1) 0 S_9 [a1, a6]) fun x11 S_12 =>
  gv (x11 + 3) fun x14 =>
  gg (0 ≤ x14 ∧ x14 < ((295728 : Nat) : Int) ∧ x14 < 2147483648) <|
  gv (S_12.1 501 (x14 : Int).toNat) fun x17 =>
  gv (x17 + 1) fun x19 =>
  gv (gI S_12 501 (x14 : Int).toNat x19) fun S_21 =>
  gc (f_X12_isWhole n (d - 1) 0 S_21 [a1]) fun x23 S_24 =>
  gg (x23 = 0 ∨ x23 = 1) <|
  some (x23, S_24)
def f_X12_canPut : Nat → Nat → Nat → GS → List Int → Option (Int × GS)
  | 0, _, _, _, _ => none
  | n + 1, d, pc, S, x => match pc, x with
    | 0, [a1, a2, a3, a4] => b_X12_canPut_0 n d (f_X12_canPut n) S a1 a2 a3 a4
    | 133, [a1, a2, a3, a4, a6] => b_X12_canPut_133 n d (f_X12_canPut n) S a1 a2 a3 a4 a6
    | 177, [a1, a2, a3, a4, a6, a7] => b_X12_canPut_177 n d (f_X12_canPut n) S a1 a2 a3 a4 a6 a7
    | 197, [a1, a2, a3, a4, a6, a8] => b_X12_canPut_197 n d (f_X12_canPut n) S a1 a2 a3 a4 a6 a8
    | 243, [a1, a2, a6, a9, s0, s1, s2, s3] => b_X12_canPut_243 n d (f_X12_canPut n) S a1 a2 a6 a9 s0 s1 s2 s3
    | _, _ => none
theorem e_X12_canPut_0 {n d : Nat} {S : GS} {a1 : Int} {a2 : Int} {a3 : Int} {a4 : Int} : f_X12_canPut (n + 1) d 0 S [a1, a2, a3, a4] = b_X12_canPut_0 n d (f_X12_canPut n) S a1 a2 a3 a4 := rfl
theorem e_X12_canPut_133 {n d : Nat} {S : GS} {a1 : Int} {a2 : Int} {a3 : Int} {a4 : Int} {a6 : Int} : f_X12_canPut (n + 1) d 133 S [a1, a2, a3, a4, a6] = b_X12_canPut_133 n d (f_X12_canPut n) S a1 a2 a3 a4 a6 := rfl
theorem e_X12_canPut_177 {n d : Nat} {S : GS} {a1 : Int} {a2 : Int} {a3 : Int} {a4 : Int} {a6 : Int} {a7 : Int} : f_X12_canPut (n + 1) d 177 S [a1, a2, a3, a4, a6, a7] = b_X12_canPut_177 n d (f_X12_canPut n) S a1 a2 a3 a4 a6 a7 := rfl
theorem e_X12_canPut_197 {n d : Nat} {S : GS} {a1 : Int} {a2 : Int} {a3 : Int} {a4 : Int} {a6 : Int} {a8 : Int} : f_X12_canPut (n + 1) d 197 S [a1, a2, a3, a4, a6, a8] = b_X12_canPut_197 n d (f_X12_canPut n) S a1 a2 a3 a4 a6 a8 := rfl
theorem e_X12_canPut_243 {n d : Nat} {S : GS} {a1 : Int} {a2 : Int} {a6 : Int} {a9 : Int} {s0 : Int} {s1 : Int} {s2 : Int} {s3 : Int} : f_X12_canPut (n + 1) d 243 S [a1, a2, a6, a9, s0, s1, s2, s3] = b_X12_canPut_243 n d (f_X12_canPut n) S a1 a2 a6 a9 s0 s1 s2 s3 := rfl

def b_X12_check_0 (n d : Nat) (rec : Nat → Nat → GS → List Int → Option (Int × GS)) (S : GS) (a1 : Int) (a2 : Int) : Option (Int × GS) :=
  gg (1 ≤ d) <|
  gc (f_X12_isDoc n (d - 1) 0 S [a1]) fun x2 S_3 =>
  gg (inr x2) <|
  if x2 = 0 then (
    rec d 22 S_3 [a1, a2, 0]
  ) else (
    gc (f_X12_isDoc n (d - 1) 0 S_3 [a2]) fun x7 S_8 =>
    gg (inr x7) <|
    if x7 = 0 then (
      rec d 22 S_8 [a1, a2, 0]
    ) else (
      rec d 22 S_8 [a1, a2, 1]
    )
  )
def b_X12_check_22 (n d : Nat) (rec : Nat → Nat → GS → List Int → Option (Int × GS)) (S : GS) (a1 : Int) (a2 : Int) (s0 : Int) : Option (Int × GS) :=
  gg (1 ≤ d) <|
  gc (f_X12_fails n (d - 1) 0 S [s0, 1]) fun x2 S_3 =>
  gg (inr x2) <|
  if x2 = 0 then (
    gc (f_X12_asksWhole n (d - 1) 0 S_3 [45, a1, 1000000000]) fun x7 S_8 =>
    gv (S_8.1 500 79) fun x10 =>
    gg (inr x10) <|
    if x10 ≠ 0 then (
      rec d 54 S_8 [a1, a2, 0]
    ) else (
      rec d 54 S_8 [a1, a2, 1]
    )
  ) else (
    some (0, S_3)
  )
def b_X12_check_54 (n d : Nat) (rec : Nat → Nat → GS → List Int → Option (Int × GS)) (S : GS) (a1 : Int) (a2 : Int) (s0 : Int) : Option (Int × GS) :=
  gg (1 ≤ d) <|
  gc (f_X12_fails n (d - 1) 0 S [s0, 2]) fun x2 S_3 =>
  gg (inr x2) <|
  if x2 = 0 then (
    gc (f_X12_asksWhole n (d - 1) 0 S_3 [a1, a2, 2000]) fun x7 S_8 =>
    gv (bi (S_8.2.1 500 65)) fun x10 =>
    gg (inr x10) <|
    if x10 ≠ 0 then (
      rec d 95 S_8 [0]
    ) else (
      gv (S_8.1 500 79) fun x14 =>
      gg (inr x14) <|
      if 1000 < x14 then (
        rec d 95 S_8 [0]
      ) else (
        rec d 95 S_8 [1]
      )
    )
  ) else (
    some (0, S_3)
  )
def b_X12_check_95 (n d : Nat) (rec : Nat → Nat → GS → List Int → Option (Int × GS)) (S : GS) (s0 : Int) : Option (Int × GS) :=
  gg (1 ≤ d) <|
  gc (f_X12_fails n (d - 1) 0 S [s0, 2]) fun x2 S_3 =>
  gg (inr x2) <|
  if x2 = 0 then (
    gv (S_3.1 500 79) fun x7 =>
    gv (gI S_3 500 81 x7) fun S_9 =>
    rec d 114 S_9 [0]
  ) else (
    some (0, S_3)
  )
def b_X12_check_114 (n d : Nat) (rec : Nat → Nat → GS → List Int → Option (Int × GS)) (S : GS) (a3 : Int) : Option (Int × GS) :=
  gv (S.1 500 79) fun x1 =>
  gg (inr a3) <|
  gg (inr x1) <|
  if x1 ≤ a3 then (
    gv (S.1 500 81) fun x6 =>
    some (x6, S)
  ) else (
    gg (0 ≤ a3 ∧ a3 < ((220000 : Nat) : Int) ∧ a3 < 2147483648) <|
    gv (S.1 551 (a3 : Int).toNat) fun x9 =>
    gg (0 ≤ a3 ∧ a3 < ((1000 : Nat) : Int) ∧ a3 < 2147483648) <|
    gv (gI S 552 (a3 : Int).toNat x9) fun S_12 =>
    gv (a3 + 1) fun x14 =>
    rec d 114 S_12 [x14]
  )
def f_X12_check : Nat → Nat → Nat → GS → List Int → Option (Int × GS)
  | 0, _, _, _, _ => none
  | n + 1, d, pc, S, x => match pc, x with
    | 0, [a1, a2] => b_X12_check_0 n d (f_X12_check n) S a1 a2
    | 22, [a1, a2, s0] => b_X12_check_22 n d (f_X12_check n) S a1 a2 s0
    | 54, [a1, a2, s0] => b_X12_check_54 n d (f_X12_check n) S a1 a2 s0
    | 95, [s0] => b_X12_check_95 n d (f_X12_check n) S s0
    | 114, [a3] => b_X12_check_114 n d (f_X12_check n) S a3
    | _, _ => none
theorem e_X12_check_0 {n d : Nat} {S : GS} {a1 : Int} {a2 : Int} : f_X12_check (n + 1) d 0 S [a1, a2] = b_X12_check_0 n d (f_X12_check n) S a1 a2 := rfl
theorem e_X12_check_22 {n d : Nat} {S : GS} {a1 : Int} {a2 : Int} {s0 : Int} : f_X12_check (n + 1) d 22 S [a1, a2, s0] = b_X12_check_22 n d (f_X12_check n) S a1 a2 s0 := rfl
theorem e_X12_check_54 {n d : Nat} {S : GS} {a1 : Int} {a2 : Int} {s0 : Int} : f_X12_check (n + 1) d 54 S [a1, a2, s0] = b_X12_check_54 n d (f_X12_check n) S a1 a2 s0 := rfl
theorem e_X12_check_95 {n d : Nat} {S : GS} {s0 : Int} : f_X12_check (n + 1) d 95 S [s0] = b_X12_check_95 n d (f_X12_check n) S s0 := rfl
theorem e_X12_check_114 {n d : Nat} {S : GS} {a3 : Int} : f_X12_check (n + 1) d 114 S [a3] = b_X12_check_114 n d (f_X12_check n) S a3 := rfl

def b_X12_lastLike_0 (n d : Nat) (rec : Nat → Nat → GS → List Int → Option (Int × GS)) (S : GS) (a1 : Int) (a2 : Int) (a3 : Int) : Option (Int × GS) :=
  gv (a2 + 1) fun x1 =>
  rec d 8 S [a1, a2, a3, a3, x1]
def b_X12_lastLike_8 (n d : Nat) (rec : Nat → Nat → GS → List Int → Option (Int × GS)) (S : GS) (a1 : Int) (a2 : Int) (a3 : Int) (a4 : Int) (a5 : Int) : Option (Int × GS) :=
  gg (1 ≤ d) <|
  gc (f_X12_endOf n (d - 1) 0 S [a1, a2]) fun x2 S_3 =>
  gg (inr a5) <|
  gg (inr x2) <|
  if x2 ≤ a5 then (
    some (a4, S_3)
  ) else (
    gc (f_X12_byKeys n (d - 1) 0 S_3 [a1, a5, a1, a3]) fun x8 S_9 =>
    gg (inr x8) <|
    if x8 ≠ 0 then (
      gc (f_X12_endOf n (d - 1) 0 S_9 [a1, a5]) fun x13 S_14 =>
      rec d 8 S_14 [a1, a2, a3, a4, x13]
    ) else (
      gc (f_X12_endOf n (d - 1) 0 S_9 [a1, a5]) fun x16 S_17 =>
      rec d 8 S_17 [a1, a2, a3, a5, x16]
    )
  )
def f_X12_lastLike : Nat → Nat → Nat → GS → List Int → Option (Int × GS)
  | 0, _, _, _, _ => none
  | n + 1, d, pc, S, x => match pc, x with
    | 0, [a1, a2, a3] => b_X12_lastLike_0 n d (f_X12_lastLike n) S a1 a2 a3
    | 8, [a1, a2, a3, a4, a5] => b_X12_lastLike_8 n d (f_X12_lastLike n) S a1 a2 a3 a4 a5
    | _, _ => none
theorem e_X12_lastLike_0 {n d : Nat} {S : GS} {a1 : Int} {a2 : Int} {a3 : Int} : f_X12_lastLike (n + 1) d 0 S [a1, a2, a3] = b_X12_lastLike_0 n d (f_X12_lastLike n) S a1 a2 a3 := rfl
theorem e_X12_lastLike_8 {n d : Nat} {S : GS} {a1 : Int} {a2 : Int} {a3 : Int} {a4 : Int} {a5 : Int} : f_X12_lastLike (n + 1) d 8 S [a1, a2, a3, a4, a5] = b_X12_lastLike_8 n d (f_X12_lastLike n) S a1 a2 a3 a4 a5 := rfl

def b_X12_choose_0 (n d : Nat) (rec : Nat → Nat → GS → List Int → Option (Int × GS)) (S : GS) (a1 : Int) (a2 : Int) (a3 : Int) (a4 : Int) : Option (Int × GS) :=
  gg (1 ≤ d) <|
  gc (f_X12_begin n (d - 1) 0 S [a3]) fun x2 S_3 =>
  gc (f_X12_like n (d - 1) 0 S_3 [a3, a1, a2]) fun x5 S_6 =>
  gc (f_X12_noKey n (d - 1) 0 S_6 [a3, x5]) fun x8 S_9 =>
  gg ((0 : Int) ≤ 0 ∧ (0 : Int) < ((16 : Nat) : Int) ∧ (0 : Int) < 2147483648) <|
  gv (gI S_9 513 (0 : Int).toNat a2) fun S_12 =>
  gv (gI S_12 514 (0 : Int).toNat x5) fun S_14 =>
  gv (gI S_14 515 (0 : Int).toNat (-1)) fun S_16 =>
  rec d 49 S_16 [a1, a3, a4, 1]
def b_X12_choose_49 (n d : Nat) (rec : Nat → Nat → GS → List Int → Option (Int × GS)) (S : GS) (a1 : Int) (a3 : Int) (a4 : Int) (a5 : Int) : Option (Int × GS) :=
  gg (inr a5) <|
  if a5 ≤ 0 then (
    some (0, S)
  ) else (
    gv (a5 - 1) fun x3 =>
    gg (0 ≤ x3 ∧ x3 < ((16 : Nat) : Int) ∧ x3 < 2147483648) <|
    gv (S.1 513 (x3 : Int).toNat) fun x6 =>
    gg (1 ≤ d) <|
    gc (f_X12_part n (d - 1) 0 S [a1, x6, 3]) fun x9 S_10 =>
    gg (inr x9) <|
    if x9 ≠ 0 then (
      gv (a5 - 1) fun x14 =>
      gg (0 ≤ x14 ∧ x14 < ((16 : Nat) : Int) ∧ x14 < 2147483648) <|
      gv (S_10.1 515 (x14 : Int).toNat) fun x17 =>
      gc (f_X12_nextChild n (d - 1) 0 S_10 [a1, x6, x17, a4]) fun x19 S_20 =>
      rec d 98 S_20 [a1, a3, a4, a5, x6, x19]
    ) else (
      rec d 98 S_10 [a1, a3, a4, a5, x6, (-1)]
    )
  )
def b_X12_choose_98 (n d : Nat) (rec : Nat → Nat → GS → List Int → Option (Int × GS)) (S : GS) (a1 : Int) (a3 : Int) (a4 : Int) (a5 : Int) (a7 : Int) (s0 : Int) : Option (Int × GS) :=
  gg (inr s0) <|
  if s0 ≠ (-1) then (
    gv (a5 - 1) fun x3 =>
    gg (0 ≤ x3 ∧ x3 < ((16 : Nat) : Int) ∧ x3 < 2147483648) <|
    gv (gI S 515 (x3 : Int).toNat s0) fun S_6 =>
    gg (inr a4) <|
    if a4 ≠ 3 then (
      rec d 154 S_6 [a1, a3, a4, a5, s0]
    ) else (
      gg (1 ≤ d) <|
      gc (f_X12_kind n (d - 1) 0 S_6 [a1, a7]) fun x11 S_12 =>
      gg (inr x11) <|
      if x11 ≠ 5 then (
        rec d 154 S_12 [a1, a3, a4, a5, s0]
      ) else (
        gc (f_X12_lastLike n (d - 1) 0 S_12 [a1, a7, s0]) fun x16 S_17 =>
        rec d 154 S_17 [a1, a3, a4, a5, x16]
      )
    )
  ) else (
    gv (a5 + (-1)) fun x19 =>
    rec d 49 S [a1, a3, a4, x19]
  )
def b_X12_choose_154 (n d : Nat) (rec : Nat → Nat → GS → List Int → Option (Int × GS)) (S : GS) (a1 : Int) (a3 : Int) (a4 : Int) (a5 : Int) (s0 : Int) : Option (Int × GS) :=
  gg (1 ≤ d) <|
  gc (f_X12_like n (d - 1) 0 S [a3, a1, s0]) fun x2 S_3 =>
  gv (a5 - 1) fun x5 =>
  gg (0 ≤ x5 ∧ x5 < ((16 : Nat) : Int) ∧ x5 < 2147483648) <|
  gv (S_3.1 514 (x5 : Int).toNat) fun x8 =>
  gc (f_X12_at n (d - 1) 0 S_3 [a3, x8]) fun x10 S_11 =>
  gv (x10 + 3) fun x13 =>
  gg (0 ≤ x13 ∧ x13 < ((295728 : Nat) : Int) ∧ x13 < 2147483648) <|
  gv (S_11.1 501 (x13 : Int).toNat) fun x16 =>
  gv (x16 + 1) fun x18 =>
  gv (gI S_11 501 (x13 : Int).toNat x18) fun S_20 =>
  gc (f_X12_part n (d - 1) 0 S_20 [a1, s0, 3]) fun x22 S_23 =>
  gg (inr x22) <|
  if x22 ≤ 0 then (
    rec d 49 S_23 [a1, a3, a4, a5]
  ) else (
    gg (0 ≤ a5 ∧ a5 < ((16 : Nat) : Int) ∧ a5 < 2147483648) <|
    gv (gI S_23 513 (a5 : Int).toNat s0) fun S_28 =>
    gv (gI S_28 514 (a5 : Int).toNat x2) fun S_30 =>
    gv (gI S_30 515 (a5 : Int).toNat (-1)) fun S_32 =>
    gv (a5 + 1) fun x34 =>
    rec d 49 S_32 [a1, a3, a4, x34]
  )
def f_X12_choose : Nat → Nat → Nat → GS → List Int → Option (Int × GS)
  | 0, _, _, _, _ => none
  | n + 1, d, pc, S, x => match pc, x with
    | 0, [a1, a2, a3, a4] => b_X12_choose_0 n d (f_X12_choose n) S a1 a2 a3 a4
    | 49, [a1, a3, a4, a5] => b_X12_choose_49 n d (f_X12_choose n) S a1 a3 a4 a5
    | 98, [a1, a3, a4, a5, a7, s0] => b_X12_choose_98 n d (f_X12_choose n) S a1 a3 a4 a5 a7 s0
    | 154, [a1, a3, a4, a5, s0] => b_X12_choose_154 n d (f_X12_choose n) S a1 a3 a4 a5 s0
    | _, _ => none
theorem e_X12_choose_0 {n d : Nat} {S : GS} {a1 : Int} {a2 : Int} {a3 : Int} {a4 : Int} : f_X12_choose (n + 1) d 0 S [a1, a2, a3, a4] = b_X12_choose_0 n d (f_X12_choose n) S a1 a2 a3 a4 := rfl
theorem e_X12_choose_49 {n d : Nat} {S : GS} {a1 : Int} {a3 : Int} {a4 : Int} {a5 : Int} : f_X12_choose (n + 1) d 49 S [a1, a3, a4, a5] = b_X12_choose_49 n d (f_X12_choose n) S a1 a3 a4 a5 := rfl
theorem e_X12_choose_98 {n d : Nat} {S : GS} {a1 : Int} {a3 : Int} {a4 : Int} {a5 : Int} {a7 : Int} {s0 : Int} : f_X12_choose (n + 1) d 98 S [a1, a3, a4, a5, a7, s0] = b_X12_choose_98 n d (f_X12_choose n) S a1 a3 a4 a5 a7 s0 := rfl
theorem e_X12_choose_154 {n d : Nat} {S : GS} {a1 : Int} {a3 : Int} {a4 : Int} {a5 : Int} {s0 : Int} : f_X12_choose (n + 1) d 154 S [a1, a3, a4, a5, s0] = b_X12_choose_154 n d (f_X12_choose n) S a1 a3 a4 a5 s0 := rfl

def b_X12_isNewKey_0 (n d : Nat) (rec : Nat → Nat → GS → List Int → Option (Int × GS)) (S : GS) (a1 : Int) (a2 : Int) (a3 : Int) : Option (Int × GS) :=
  rec d 3 S [a1, a2, a3, 0]
def b_X12_isNewKey_3 (n d : Nat) (rec : Nat → Nat → GS → List Int → Option (Int × GS)) (S : GS) (a1 : Int) (a2 : Int) (a3 : Int) (a4 : Int) : Option (Int × GS) :=
  gg (inr a4) <|
  gg (inr a2) <|
  if a2 ≤ a4 then (
    some (1, S)
  ) else (
    gg (1 ≤ d) <|
    gc (f_X12_childAt n (d - 1) 0 S [a1, 0, a4]) fun x5 S_6 =>
    gc (f_X12_childLike n (d - 1) 0 S_6 [a1, x5, a1, a3]) fun x8 S_9 =>
    gg (inr x8) <|
    if x8 = (-1) then (
      gv (a4 + 1) fun x13 =>
      rec d 3 S_9 [a1, a2, a3, x13]
    ) else (
      some (0, S_9)
    )
  )
def f_X12_isNewKey : Nat → Nat → Nat → GS → List Int → Option (Int × GS)
  | 0, _, _, _, _ => none
  | n + 1, d, pc, S, x => match pc, x with
    | 0, [a1, a2, a3] => b_X12_isNewKey_0 n d (f_X12_isNewKey n) S a1 a2 a3
    | 3, [a1, a2, a3, a4] => b_X12_isNewKey_3 n d (f_X12_isNewKey n) S a1 a2 a3 a4
    | _, _ => none
theorem e_X12_isNewKey_0 {n d : Nat} {S : GS} {a1 : Int} {a2 : Int} {a3 : Int} : f_X12_isNewKey (n + 1) d 0 S [a1, a2, a3] = b_X12_isNewKey_0 n d (f_X12_isNewKey n) S a1 a2 a3 := rfl
theorem e_X12_isNewKey_3 {n d : Nat} {S : GS} {a1 : Int} {a2 : Int} {a3 : Int} {a4 : Int} : f_X12_isNewKey (n + 1) d 3 S [a1, a2, a3, a4] = b_X12_isNewKey_3 n d (f_X12_isNewKey n) S a1 a2 a3 a4 := rfl

def b_X12_columns_0 (n d : Nat) (rec : Nat → Nat → GS → List Int → Option (Int × GS)) (S : GS) (a1 : Int) : Option (Int × GS) :=
  gg (1 ≤ d) <|
  gc (f_X12_isDoc n (d - 1) 0 S [a1]) fun x2 S_3 =>
  gc (f_X12_fails n (d - 1) 0 S_3 [x2, 1]) fun x5 S_6 =>
  gg (inr x5) <|
  if x5 ≠ 0 then (
    some (0, S_6)
  ) else (
    gc (f_X12_kind n (d - 1) 0 S_6 [a1, 0]) fun x10 S_11 =>
    gg (inr x10) <|
    if x10 ≠ 4 then (
      rec d 38 S_11 [a1, 0]
    ) else (
      gc (f_X12_areAll n (d - 1) 0 S_11 [a1, 5]) fun x15 S_16 =>
      gg (inr x15) <|
      if x15 = 0 then (
        rec d 38 S_16 [a1, 0]
      ) else (
        rec d 38 S_16 [a1, 1]
      )
    )
  )
def b_X12_columns_38 (n d : Nat) (rec : Nat → Nat → GS → List Int → Option (Int × GS)) (S : GS) (a1 : Int) (s0 : Int) : Option (Int × GS) :=
  gg (1 ≤ d) <|
  gc (f_X12_fails n (d - 1) 0 S [s0, 2]) fun x2 S_3 =>
  gg (inr x2) <|
  if x2 = 0 then (
    gc (f_X12_begin n (d - 1) 0 S_3 [40]) fun x7 S_8 =>
    gc (f_X12_added n (d - 1) 0 S_8 [40, 5]) fun x10 S_11 =>
    gc (f_X12_part n (d - 1) 0 S_11 [a1, 0, 3]) fun x13 S_14 =>
    rec d 72 S_14 [a1, x10, x13, 0]
  ) else (
    some (0, S_3)
  )
def b_X12_columns_72 (n d : Nat) (rec : Nat → Nat → GS → List Int → Option (Int × GS)) (S : GS) (a1 : Int) (a2 : Int) (a3 : Int) (a4 : Int) : Option (Int × GS) :=
  gg (inr a4) <|
  gg (inr a3) <|
  if a3 ≤ a4 then (
    gg (1 ≤ d) <|
    gc (f_X12_isWhole n (d - 1) 0 S [40]) fun x5 S_6 =>
    gg (inr x5) <|
    if x5 = 0 then (
      rec d 280 S_6 [0]
    ) else (
      gv (S_6.1 500 1) fun x10 =>
      gg (inr x10) <|
      if 40 ≤ x10 then (
        rec d 280 S_6 [0]
      ) else (
        rec d 280 S_6 [1]
      )
    )
  ) else (
    gg (1 ≤ d) <|
    gc (f_X12_childAt n (d - 1) 0 S [a1, 0, a4]) fun x15 S_16 =>
    rec d 91 S_16 [a1, a2, a3, a4, x15, 0]
  )
def b_X12_columns_91 (n d : Nat) (rec : Nat → Nat → GS → List Int → Option (Int × GS)) (S : GS) (a1 : Int) (a2 : Int) (a3 : Int) (a4 : Int) (a5 : Int) (a6 : Int) : Option (Int × GS) :=
  gg (1 ≤ d) <|
  gc (f_X12_part n (d - 1) 0 S [a1, a5, 3]) fun x2 S_3 =>
  gg (inr a6) <|
  gg (inr x2) <|
  if x2 ≤ a6 then (
    gv (a4 + 1) fun x8 =>
    rec d 72 S_3 [a1, a2, a3, x8]
  ) else (
    gc (f_X12_childAt n (d - 1) 0 S_3 [a1, a5, a6]) fun x10 S_11 =>
    gc (f_X12_isNewKey n (d - 1) 0 S_11 [a1, a4, x10]) fun x13 S_14 =>
    gg (inr x13) <|
    if x13 = 0 then (
      gv (a6 + 1) fun x18 =>
      rec d 91 S_14 [a1, a2, a3, a4, a5, x18]
    ) else (
      gc (f_X12_added n (d - 1) 0 S_14 [40, 4]) fun x20 S_21 =>
      gc (f_X12_wordOfKey n (d - 1) 0 S_21 [a1, x10]) fun x23 S_24 =>
      gc (f_X12_keyIs n (d - 1) 0 S_24 [40, x20]) fun x26 S_27 =>
      gc (f_X12_at n (d - 1) 0 S_27 [40, x20]) fun x29 S_30 =>
      gv (x29 + 3) fun x32 =>
      gg (0 ≤ x32 ∧ x32 < ((295728 : Nat) : Int) ∧ x32 < 2147483648) <|
      gv (gI S_30 501 (x32 : Int).toNat a3) fun S_35 =>
      gc (f_X12_at n (d - 1) 0 S_35 [40, a2]) fun x37 S_38 =>
      gv (x37 + 3) fun x40 =>
      gg (0 ≤ x40 ∧ x40 < ((295728 : Nat) : Int) ∧ x40 < 2147483648) <|
      gv (S_38.1 501 (x40 : Int).toNat) fun x43 =>
      gv (x43 + 1) fun x45 =>
      gv (gI S_38 501 (x40 : Int).toNat x45) fun S_47 =>
      rec d 186 S_47 [a1, a2, a3, a4, a5, a6, x10, 0]
    )
  )
def b_X12_columns_186 (n d : Nat) (rec : Nat → Nat → GS → List Int → Option (Int × GS)) (S : GS) (a1 : Int) (a2 : Int) (a3 : Int) (a4 : Int) (a5 : Int) (a6 : Int) (a7 : Int) (a9 : Int) : Option (Int × GS) :=
  gg (inr a9) <|
  gg (inr a3) <|
  if a3 ≤ a9 then (
    gv (a6 + 1) fun x4 =>
    rec d 91 S [a1, a2, a3, a4, a5, x4]
  ) else (
    gg (1 ≤ d) <|
    gc (f_X12_childAt n (d - 1) 0 S [a1, 0, a9]) fun x7 S_8 =>
    gc (f_X12_childLike n (d - 1) 0 S_8 [a1, x7, a1, a7]) fun x10 S_11 =>
    gg (inr x10) <|
    if x10 ≠ (-1) then (
      gc (f_X12_brings n (d - 1) 0 S_11 [40, a1, x10, 0]) fun x15 S_16 =>
      gv (a9 + 1) fun x18 =>
      rec d 186 S_16 [a1, a2, a3, a4, a5, a6, a7, x18]
    ) else (
      gc (f_X12_added n (d - 1) 0 S_11 [40, 0]) fun x20 S_21 =>
      gv (a9 + 1) fun x23 =>
      rec d 186 S_21 [a1, a2, a3, a4, a5, a6, a7, x23]
    )
  )
def b_X12_columns_280 (n d : Nat) (rec : Nat → Nat → GS → List Int → Option (Int × GS)) (S : GS) (s0 : Int) : Option (Int × GS) :=
  gg (1 ≤ d) <|
  gc (f_X12_fails n (d - 1) 0 S [s0, 2]) fun x2 S_3 =>
  gg (inr x2) <|
  if x2 = 0 then (
    gc (f_X12_keeps n (d - 1) 0 S_3 [40]) fun x7 S_8 =>
    some (x7, S_8)
  ) else (
    some (0, S_3)
  )
def f_X12_columns : Nat → Nat → Nat → GS → List Int → Option (Int × GS)
  | 0, _, _, _, _ => none
  | n + 1, d, pc, S, x => match pc, x with
    | 0, [a1] => b_X12_columns_0 n d (f_X12_columns n) S a1
    | 38, [a1, s0] => b_X12_columns_38 n d (f_X12_columns n) S a1 s0
    | 72, [a1, a2, a3, a4] => b_X12_columns_72 n d (f_X12_columns n) S a1 a2 a3 a4
    | 91, [a1, a2, a3, a4, a5, a6] => b_X12_columns_91 n d (f_X12_columns n) S a1 a2 a3 a4 a5 a6
    | 186, [a1, a2, a3, a4, a5, a6, a7, a9] => b_X12_columns_186 n d (f_X12_columns n) S a1 a2 a3 a4 a5 a6 a7 a9
    | 280, [s0] => b_X12_columns_280 n d (f_X12_columns n) S s0
    | _, _ => none
theorem e_X12_columns_0 {n d : Nat} {S : GS} {a1 : Int} : f_X12_columns (n + 1) d 0 S [a1] = b_X12_columns_0 n d (f_X12_columns n) S a1 := rfl
theorem e_X12_columns_38 {n d : Nat} {S : GS} {a1 : Int} {s0 : Int} : f_X12_columns (n + 1) d 38 S [a1, s0] = b_X12_columns_38 n d (f_X12_columns n) S a1 s0 := rfl
theorem e_X12_columns_72 {n d : Nat} {S : GS} {a1 : Int} {a2 : Int} {a3 : Int} {a4 : Int} : f_X12_columns (n + 1) d 72 S [a1, a2, a3, a4] = b_X12_columns_72 n d (f_X12_columns n) S a1 a2 a3 a4 := rfl
theorem e_X12_columns_91 {n d : Nat} {S : GS} {a1 : Int} {a2 : Int} {a3 : Int} {a4 : Int} {a5 : Int} {a6 : Int} : f_X12_columns (n + 1) d 91 S [a1, a2, a3, a4, a5, a6] = b_X12_columns_91 n d (f_X12_columns n) S a1 a2 a3 a4 a5 a6 := rfl
theorem e_X12_columns_186 {n d : Nat} {S : GS} {a1 : Int} {a2 : Int} {a3 : Int} {a4 : Int} {a5 : Int} {a6 : Int} {a7 : Int} {a9 : Int} : f_X12_columns (n + 1) d 186 S [a1, a2, a3, a4, a5, a6, a7, a9] = b_X12_columns_186 n d (f_X12_columns n) S a1 a2 a3 a4 a5 a6 a7 a9 := rfl
theorem e_X12_columns_280 {n d : Nat} {S : GS} {s0 : Int} : f_X12_columns (n + 1) d 280 S [s0] = b_X12_columns_280 n d (f_X12_columns n) S s0 := rfl

def b_X12_compare_0 (n d : Nat) (rec : Nat → Nat → GS → List Int → Option (Int × GS)) (S : GS) (a1 : Int) (a2 : Int) : Option (Int × GS) :=
  gg (1 ≤ d) <|
  gc (f_X12_isDoc n (d - 1) 0 S [a1]) fun x2 S_3 =>
  gg (inr x2) <|
  if x2 = 0 then (
    rec d 22 S_3 [a1, a2, 0]
  ) else (
    gc (f_X12_isDoc n (d - 1) 0 S_3 [a2]) fun x7 S_8 =>
    gg (inr x7) <|
    if x7 = 0 then (
      rec d 22 S_8 [a1, a2, 0]
    ) else (
      rec d 22 S_8 [a1, a2, 1]
    )
  )
def b_X12_compare_22 (n d : Nat) (rec : Nat → Nat → GS → List Int → Option (Int × GS)) (S : GS) (a1 : Int) (a2 : Int) (s0 : Int) : Option (Int × GS) :=
  gg (1 ≤ d) <|
  gc (f_X12_fails n (d - 1) 0 S [s0, 1]) fun x2 S_3 =>
  gg (inr x2) <|
  if x2 ≠ 0 then (
    some (0, S_3)
  ) else (
    gc (f_X12_kind n (d - 1) 0 S_3 [a1, 0]) fun x7 S_8 =>
    gg (inr x7) <|
    if x7 ≠ 2 then (
      rec d 55 S_8 [a1, a2, 0]
    ) else (
      gc (f_X12_kind n (d - 1) 0 S_8 [a2, 0]) fun x12 S_13 =>
      gg (inr x12) <|
      if x12 ≠ 2 then (
        rec d 55 S_13 [a1, a2, 0]
      ) else (
        rec d 55 S_13 [a1, a2, 1]
      )
    )
  )
def b_X12_compare_55 (n d : Nat) (rec : Nat → Nat → GS → List Int → Option (Int × GS)) (S : GS) (a1 : Int) (a2 : Int) (s0 : Int) : Option (Int × GS) :=
  gg (1 ≤ d) <|
  gc (f_X12_fails n (d - 1) 0 S [s0, 2]) fun x2 S_3 =>
  gg (inr x2) <|
  if x2 = 0 then (
    gc (f_X12_compared n (d - 1) 0 S_3 [a1, 0, a2, 0]) fun x7 S_8 =>
    some (x7, S_8)
  ) else (
    some (0, S_3)
  )
def f_X12_compare : Nat → Nat → Nat → GS → List Int → Option (Int × GS)
  | 0, _, _, _, _ => none
  | n + 1, d, pc, S, x => match pc, x with
    | 0, [a1, a2] => b_X12_compare_0 n d (f_X12_compare n) S a1 a2
    | 22, [a1, a2, s0] => b_X12_compare_22 n d (f_X12_compare n) S a1 a2 s0
    | 55, [a1, a2, s0] => b_X12_compare_55 n d (f_X12_compare n) S a1 a2 s0
    | _, _ => none
theorem e_X12_compare_0 {n d : Nat} {S : GS} {a1 : Int} {a2 : Int} : f_X12_compare (n + 1) d 0 S [a1, a2] = b_X12_compare_0 n d (f_X12_compare n) S a1 a2 := rfl
theorem e_X12_compare_22 {n d : Nat} {S : GS} {a1 : Int} {a2 : Int} {s0 : Int} : f_X12_compare (n + 1) d 22 S [a1, a2, s0] = b_X12_compare_22 n d (f_X12_compare n) S a1 a2 s0 := rfl
theorem e_X12_compare_55 {n d : Nat} {S : GS} {a1 : Int} {a2 : Int} {s0 : Int} : f_X12_compare (n + 1) d 55 S [a1, a2, s0] = b_X12_compare_55 n d (f_X12_compare n) S a1 a2 s0 := rfl

def b_X12_complaint_0 (n d : Nat) (rec : Nat → Nat → GS → List Int → Option (Int × GS)) (S : GS) (a1 : Int) (a2 : Int) : Option (Int × GS) :=
  gv (S.1 500 81) fun x1 =>
  gv (x1 - 1) fun x3 =>
  gg (1 ≤ d) <|
  gc (f_X12_in n (d - 1) 0 S [a1, 0, x3]) fun x6 S_7 =>
  gc (f_X12_fails n (d - 1) 0 S_7 [x6, 1]) fun x9 S_10 =>
  gg (inr x9) <|
  if x9 ≠ 0 then (
    some (0, S_10)
  ) else (
    gc (f_X12_in n (d - 1) 0 S_10 [a2, 0, 1]) fun x14 S_15 =>
    gc (f_X12_fails n (d - 1) 0 S_15 [x14, 2]) fun x17 S_18 =>
    gg (inr x17) <|
    if x17 = 0 then (
      gg (inr a2) <|
      if a2 ≠ 0 then (
        gg (0 ≤ a1 ∧ a1 < ((1000 : Nat) : Int) ∧ a1 < 2147483648) <|
        gv (S_18.1 552 (a1 : Int).toNat) fun x25 =>
        gg ((0 ≤ x25 ∧ x25 < 2147483648) ∧ ((0 : Int) < 32 ∧ (32 : Int) < 2147483648)) <|
        gv (x25 % 32) fun x28 =>
        some (x28, S_18)
      ) else (
        gg (0 ≤ a1 ∧ a1 < ((1000 : Nat) : Int) ∧ a1 < 2147483648) <|
        gv (S_18.1 552 (a1 : Int).toNat) fun x31 =>
        gg ((0 ≤ x31 ∧ x31 < 2147483648) ∧ ((0 : Int) < 32 ∧ (32 : Int) < 2147483648)) <|
        gv (x31 / 32) fun x34 =>
        some (x34, S_18)
      )
    ) else (
      some (0, S_18)
    )
  )
def f_X12_complaint : Nat → Nat → Nat → GS → List Int → Option (Int × GS)
  | 0, _, _, _, _ => none
  | n + 1, d, pc, S, x => match pc, x with
    | 0, [a1, a2] => b_X12_complaint_0 n d (f_X12_complaint n) S a1 a2
    | _, _ => none
theorem e_X12_complaint_0 {n d : Nat} {S : GS} {a1 : Int} {a2 : Int} : f_X12_complaint (n + 1) d 0 S [a1, a2] = b_X12_complaint_0 n d (f_X12_complaint n) S a1 a2 := rfl

def b_X12_pathOfPage_0 (n d : Nat) (rec : Nat → Nat → GS → List Int → Option (Int × GS)) (S : GS) : Option (Int × GS) :=
  gv (S.1 500 7) fun x1 =>
  gv (gI S 500 29 x1) fun S_3 =>
  rec d 10 S_3 [0]
def b_X12_pathOfPage_10 (n d : Nat) (rec : Nat → Nat → GS → List Int → Option (Int × GS)) (S : GS) (a1 : Int) : Option (Int × GS) :=
  gv (S.1 500 7) fun x1 =>
  gg (inr a1) <|
  gg (inr x1) <|
  if x1 ≤ a1 then (
    some (0, S)
  ) else (
    gg (0 ≤ a1 ∧ a1 < ((400 : Nat) : Int) ∧ a1 < 2147483648) <|
    gv (S.1 503 (a1 : Int).toNat) fun x7 =>
    gg (0 ≤ a1 ∧ a1 < ((1000 : Nat) : Int) ∧ a1 < 2147483648) <|
    gv (gI S 518 (a1 : Int).toNat x7) fun S_10 =>
    gv (a1 + 1) fun x12 =>
    rec d 10 S_10 [x12]
  )
def f_X12_pathOfPage : Nat → Nat → Nat → GS → List Int → Option (Int × GS)
  | 0, _, _, _, _ => none
  | n + 1, d, pc, S, x => match pc, x with
    | 0, [] => b_X12_pathOfPage_0 n d (f_X12_pathOfPage n) S 
    | 10, [a1] => b_X12_pathOfPage_10 n d (f_X12_pathOfPage n) S a1
    | _, _ => none
theorem e_X12_pathOfPage_0 {n d : Nat} {S : GS} : f_X12_pathOfPage (n + 1) d 0 S [] = b_X12_pathOfPage_0 n d (f_X12_pathOfPage n) S  := rfl
theorem e_X12_pathOfPage_10 {n d : Nat} {S : GS} {a1 : Int} : f_X12_pathOfPage (n + 1) d 10 S [a1] = b_X12_pathOfPage_10 n d (f_X12_pathOfPage n) S a1 := rfl

def b_X12_isPath_0 (n d : Nat) (rec : Nat → Nat → GS → List Int → Option (Int × GS)) (S : GS) : Option (Int × GS) :=
  gv (S.1 500 29) fun x1 =>
  gg (inr x1) <|
  if x1 = 0 then (
    rec d 26 S [1, 0]
  ) else (
    gg ((0 : Int) ≤ 0 ∧ (0 : Int) < ((1000 : Nat) : Int) ∧ (0 : Int) < 2147483648) <|
    gv (S.1 518 (0 : Int).toNat) fun x6 =>
    gg (inr x6) <|
    if x6 ≠ 47 then (
      rec d 26 S [0, 0]
    ) else (
      rec d 26 S [1, 0]
    )
  )
def b_X12_isPath_26 (n d : Nat) (rec : Nat → Nat → GS → List Int → Option (Int × GS)) (S : GS) (a1 : Int) (a2 : Int) : Option (Int × GS) :=
  gv (S.1 500 29) fun x1 =>
  gg (inr a2) <|
  gg (inr x1) <|
  if x1 ≤ a2 then (
    gg (a1 = 0 ∨ a1 = 1) <|
    some (a1, S)
  ) else (
    gg (inr a1) <|
    if a1 = 0 then (
      gv (a2 + 1) fun x9 =>
      rec d 26 S [0, x9]
    ) else (
      gg (0 ≤ a2 ∧ a2 < ((1000 : Nat) : Int) ∧ a2 < 2147483648) <|
      gv (S.1 518 (a2 : Int).toNat) fun x12 =>
      gg (inr x12) <|
      if x12 ≠ 126 then (
        gv (a2 + 1) fun x16 =>
        rec d 26 S [1, x16]
      ) else (
        gv (a2 + 1) fun x18 =>
        gv (S.1 500 29) fun x20 =>
        gg (inr x18) <|
        gg (inr x20) <|
        if x20 ≤ x18 then (
          gv (a2 + 1) fun x25 =>
          rec d 26 S [0, x25]
        ) else (
          gv (a2 + 1) fun x27 =>
          gg (0 ≤ x27 ∧ x27 < ((1000 : Nat) : Int) ∧ x27 < 2147483648) <|
          gv (S.1 518 (x27 : Int).toNat) fun x30 =>
          gg (inr x30) <|
          if x30 = 48 then (
            gv (a2 + 1) fun x34 =>
            rec d 26 S [1, x34]
          ) else (
            gv (a2 + 1) fun x36 =>
            gg (0 ≤ x36 ∧ x36 < ((1000 : Nat) : Int) ∧ x36 < 2147483648) <|
            gv (S.1 518 (x36 : Int).toNat) fun x39 =>
            gg (inr x39) <|
            if x39 ≠ 49 then (
              gv (a2 + 1) fun x43 =>
              rec d 26 S [0, x43]
            ) else (
              gv (a2 + 1) fun x45 =>
              rec d 26 S [1, x45]
            )
          )
        )
      )
    )
  )
def f_X12_isPath : Nat → Nat → Nat → GS → List Int → Option (Int × GS)
  | 0, _, _, _, _ => none
  | n + 1, d, pc, S, x => match pc, x with
    | 0, [] => b_X12_isPath_0 n d (f_X12_isPath n) S 
    | 26, [a1, a2] => b_X12_isPath_26 n d (f_X12_isPath n) S a1 a2
    | _, _ => none
theorem e_X12_isPath_0 {n d : Nat} {S : GS} : f_X12_isPath (n + 1) d 0 S [] = b_X12_isPath_0 n d (f_X12_isPath n) S  := rfl
theorem e_X12_isPath_26 {n d : Nat} {S : GS} {a1 : Int} {a2 : Int} : f_X12_isPath (n + 1) d 26 S [a1, a2] = b_X12_isPath_26 n d (f_X12_isPath n) S a1 a2 := rfl

def b_X12_cut_0 (n d : Nat) (rec : Nat → Nat → GS → List Int → Option (Int × GS)) (S : GS) (a1 : Int) : Option (Int × GS) :=
  gg (1 ≤ d) <|
  gc (f_X12_isDoc n (d - 1) 0 S [a1]) fun x2 S_3 =>
  gc (f_X12_fails n (d - 1) 0 S_3 [x2, 1]) fun x5 S_6 =>
  gg (inr x5) <|
  if x5 = 0 then (
    gc (f_X12_pathOfPage n (d - 1) 0 S_6 []) fun x10 S_11 =>
    gv (S_11.1 500 1) fun x13 =>
    gg (inr x13) <|
    if 40 ≤ x13 then (
      rec d 51 S_11 [0]
    ) else (
      gc (f_X12_isPath n (d - 1) 0 S_11 []) fun x17 S_18 =>
      gg (inr x17) <|
      if x17 = 0 then (
        rec d 51 S_18 [0]
      ) else (
        gc (f_X12_canCut n (d - 1) 0 S_18 [40, a1]) fun x22 S_23 =>
        gg (inr x22) <|
        if x22 = 0 then (
          rec d 51 S_23 [0]
        ) else (
          rec d 51 S_23 [1]
        )
      )
    )
  ) else (
    some (0, S_6)
  )
def b_X12_cut_51 (n d : Nat) (rec : Nat → Nat → GS → List Int → Option (Int × GS)) (S : GS) (s0 : Int) : Option (Int × GS) :=
  gg (1 ≤ d) <|
  gc (f_X12_fails n (d - 1) 0 S [s0, 2]) fun x2 S_3 =>
  gg (inr x2) <|
  if x2 = 0 then (
    gv (gI S_3 500 7 0) fun S_7 =>
    gc (f_X12_keeps n (d - 1) 0 S_7 [40]) fun x9 S_10 =>
    some (x9, S_10)
  ) else (
    some (0, S_3)
  )
def f_X12_cut : Nat → Nat → Nat → GS → List Int → Option (Int × GS)
  | 0, _, _, _, _ => none
  | n + 1, d, pc, S, x => match pc, x with
    | 0, [a1] => b_X12_cut_0 n d (f_X12_cut n) S a1
    | 51, [s0] => b_X12_cut_51 n d (f_X12_cut n) S s0
    | _, _ => none
theorem e_X12_cut_0 {n d : Nat} {S : GS} {a1 : Int} : f_X12_cut (n + 1) d 0 S [a1] = b_X12_cut_0 n d (f_X12_cut n) S a1 := rfl
theorem e_X12_cut_51 {n d : Nat} {S : GS} {s0 : Int} : f_X12_cut (n + 1) d 51 S [s0] = b_X12_cut_51 n d (f_X12_cut n) S s0 := rfl

def b_X12_isNode_0 (n d : Nat) (rec : Nat → Nat → GS → List Int → Option (Int × GS)) (S : GS) (a1 : Int) (a2 : Int) : Option (Int × GS) :=
  gg (1 ≤ d) <|
  gc (f_X12_isDoc n (d - 1) 0 S [a1]) fun x2 S_3 =>
  gg (inr x2) <|
  if x2 = 0 then (
    some (0, S_3)
  ) else (
    gg (0 ≤ a1 ∧ a1 < ((48 : Nat) : Int) ∧ a1 < 2147483648) <|
    gv (S_3.1 502 (a1 : Int).toNat) fun x8 =>
    gv (x8 - 1) fun x10 =>
    gc (f_X12_in n (d - 1) 0 S_3 [a2, 0, x10]) fun x12 S_13 =>
    gg (inr x12) <|
    if x12 = 0 then (
      some (0, S_13)
    ) else (
      some (1, S_13)
    )
  )
def f_X12_isNode : Nat → Nat → Nat → GS → List Int → Option (Int × GS)
  | 0, _, _, _, _ => none
  | n + 1, d, pc, S, x => match pc, x with
    | 0, [a1, a2] => b_X12_isNode_0 n d (f_X12_isNode n) S a1 a2
    | _, _ => none
theorem e_X12_isNode_0 {n d : Nat} {S : GS} {a1 : Int} {a2 : Int} : f_X12_isNode (n + 1) d 0 S [a1, a2] = b_X12_isNode_0 n d (f_X12_isNode n) S a1 a2 := rfl

def b_X12_digest_0 (n d : Nat) (rec : Nat → Nat → GS → List Int → Option (Int × GS)) (S : GS) (a1 : Int) (a2 : Int) : Option (Int × GS) :=
  gg (1 ≤ d) <|
  gc (f_X12_isNode n (d - 1) 0 S [a1, a2]) fun x2 S_3 =>
  gc (f_X12_fails n (d - 1) 0 S_3 [x2, 1]) fun x5 S_6 =>
  gg (inr x5) <|
  if x5 = 0 then (
    gc (f_X12_writes n (d - 1) 0 S_6 [0, a1, a2, 1]) fun x10 S_11 =>
    rec d 30 S_11 [7, 0]
  ) else (
    some (0, S_6)
  )
def b_X12_digest_30 (n d : Nat) (rec : Nat → Nat → GS → List Int → Option (Int × GS)) (S : GS) (a3 : Int) (a4 : Int) : Option (Int × GS) :=
  gg ((0 : Int) ≤ 0 ∧ (0 : Int) < ((2 : Nat) : Int) ∧ (0 : Int) < 2147483648) <|
  gv (S.1 517 (0 : Int).toNat) fun x2 =>
  gg (inr a4) <|
  gg (inr x2) <|
  if x2 ≤ a4 then (
    some (a3, S)
  ) else (
    gv (257 * a3) fun x7 =>
    gg (0 ≤ a4 ∧ a4 < ((80000 : Nat) : Int) ∧ a4 < 2147483648) <|
    gv (S.1 516 (a4 : Int).toNat) fun x10 =>
    gv (x7 + x10) fun x12 =>
    gg ((0 ≤ x12 ∧ x12 < 2147483648) ∧ ((0 : Int) < 65521 ∧ (65521 : Int) < 2147483648)) <|
    gv (x12 % 65521) fun x15 =>
    gv (a4 + 1) fun x17 =>
    rec d 30 S [x15, x17]
  )
def f_X12_digest : Nat → Nat → Nat → GS → List Int → Option (Int × GS)
  | 0, _, _, _, _ => none
  | n + 1, d, pc, S, x => match pc, x with
    | 0, [a1, a2] => b_X12_digest_0 n d (f_X12_digest n) S a1 a2
    | 30, [a3, a4] => b_X12_digest_30 n d (f_X12_digest n) S a3 a4
    | _, _ => none
theorem e_X12_digest_0 {n d : Nat} {S : GS} {a1 : Int} {a2 : Int} : f_X12_digest (n + 1) d 0 S [a1, a2] = b_X12_digest_0 n d (f_X12_digest n) S a1 a2 := rfl
theorem e_X12_digest_30 {n d : Nat} {S : GS} {a3 : Int} {a4 : Int} : f_X12_digest (n + 1) d 30 S [a3, a4] = b_X12_digest_30 n d (f_X12_digest n) S a3 a4 := rfl

def b_X12_docOf_0 (n d : Nat) (rec : Nat → Nat → GS → List Int → Option (Int × GS)) (S : GS) (a1 : Int) : Option (Int × GS) :=
  gg (inr a1) <|
  if a1 ≠ 0 then (
    if a1 ≠ 1 then (
      gv (S.1 500 46) fun x4 =>
      some (x4, S)
    ) else (
      gv (S.1 500 45) fun x6 =>
      some (x6, S)
    )
  ) else (
    gv (S.1 500 44) fun x8 =>
    some (x8, S)
  )
def f_X12_docOf : Nat → Nat → Nat → GS → List Int → Option (Int × GS)
  | 0, _, _, _, _ => none
  | n + 1, d, pc, S, x => match pc, x with
    | 0, [a1] => b_X12_docOf_0 n d (f_X12_docOf n) S a1
    | _, _ => none
theorem e_X12_docOf_0 {n d : Nat} {S : GS} {a1 : Int} : f_X12_docOf (n + 1) d 0 S [a1] = b_X12_docOf_0 n d (f_X12_docOf n) S a1 := rfl

def b_X12_pathOf_0 (n d : Nat) (rec : Nat → Nat → GS → List Int → Option (Int × GS)) (S : GS) (a1 : Int) (a2 : Int) : Option (Int × GS) :=
  gg (1 ≤ d) <|
  gc (f_X12_part n (d - 1) 0 S [a1, a2, 18]) fun x2 S_3 =>
  gv (gI S_3 500 29 x2) fun S_5 =>
  rec d 14 S_5 [a1, a2, 0]
def b_X12_pathOf_14 (n d : Nat) (rec : Nat → Nat → GS → List Int → Option (Int × GS)) (S : GS) (a1 : Int) (a2 : Int) (a3 : Int) : Option (Int × GS) :=
  gv (S.1 500 29) fun x1 =>
  gg (inr a3) <|
  gg (inr x1) <|
  if x1 ≤ a3 then (
    some (0, S)
  ) else (
    gv (21 + a3) fun x6 =>
    gg (1 ≤ d) <|
    gc (f_X12_part n (d - 1) 0 S [a1, a2, x6]) fun x9 S_10 =>
    gg (0 ≤ a3 ∧ a3 < ((1000 : Nat) : Int) ∧ a3 < 2147483648) <|
    gv (gI S_10 518 (a3 : Int).toNat x9) fun S_13 =>
    gv (a3 + 1) fun x15 =>
    rec d 14 S_13 [a1, a2, x15]
  )
def f_X12_pathOf : Nat → Nat → Nat → GS → List Int → Option (Int × GS)
  | 0, _, _, _, _ => none
  | n + 1, d, pc, S, x => match pc, x with
    | 0, [a1, a2] => b_X12_pathOf_0 n d (f_X12_pathOf n) S a1 a2
    | 14, [a1, a2, a3] => b_X12_pathOf_14 n d (f_X12_pathOf n) S a1 a2 a3
    | _, _ => none
theorem e_X12_pathOf_0 {n d : Nat} {S : GS} {a1 : Int} {a2 : Int} : f_X12_pathOf (n + 1) d 0 S [a1, a2] = b_X12_pathOf_0 n d (f_X12_pathOf n) S a1 a2 := rfl
theorem e_X12_pathOf_14 {n d : Nat} {S : GS} {a1 : Int} {a2 : Int} {a3 : Int} : f_X12_pathOf (n + 1) d 14 S [a1, a2, a3] = b_X12_pathOf_14 n d (f_X12_pathOf n) S a1 a2 a3 := rfl

def b_X12_isTold_0 (n d : Nat) (rec : Nat → Nat → GS → List Int → Option (Int × GS)) (S : GS) (a1 : Int) (a2 : Int) (a3 : Int) : Option (Int × GS) :=
  gg (inr a3) <|
  if a3 = 3 then (
    rec d 10 S [a1, a2]
  ) else (
    if a3 ≠ 4 then (
      if a3 = 1 then (
        some (1, S)
      ) else (
        gg (1 ≤ d) <|
        gc (f_X12_childNamed n (d - 1) 0 S [a1, a2, 8530218420677902336]) fun x6 S_7 =>
        gg (inr x6) <|
        if x6 = (-1) then (
          some (0, S_7)
        ) else (
          some (1, S_7)
        )
      )
    ) else (
      rec d 10 S [a1, a2]
    )
  )
def b_X12_isTold_10 (n d : Nat) (rec : Nat → Nat → GS → List Int → Option (Int × GS)) (S : GS) (a1 : Int) (a2 : Int) : Option (Int × GS) :=
  gg (1 ≤ d) <|
  gc (f_X12_childNamed n (d - 1) 0 S [a1, a2, 7382085253155782656]) fun x2 S_3 =>
  gg (inr x2) <|
  if x2 = (-1) then (
    some (0, S_3)
  ) else (
    gc (f_X12_kind n (d - 1) 0 S_3 [a1, x2]) fun x7 S_8 =>
    gg (inr x7) <|
    if x7 = 3 then (
      gc (f_X12_pathOf n (d - 1) 0 S_8 [a1, x2]) fun x12 S_13 =>
      gc (f_X12_isPath n (d - 1) 0 S_13 []) fun x15 S_16 =>
      gg (x15 = 0 ∨ x15 = 1) <|
      some (x15, S_16)
    ) else (
      some (0, S_8)
    )
  )
def f_X12_isTold : Nat → Nat → Nat → GS → List Int → Option (Int × GS)
  | 0, _, _, _, _ => none
  | n + 1, d, pc, S, x => match pc, x with
    | 0, [a1, a2, a3] => b_X12_isTold_0 n d (f_X12_isTold n) S a1 a2 a3
    | 10, [a1, a2] => b_X12_isTold_10 n d (f_X12_isTold n) S a1 a2
    | _, _ => none
theorem e_X12_isTold_0 {n d : Nat} {S : GS} {a1 : Int} {a2 : Int} {a3 : Int} : f_X12_isTold (n + 1) d 0 S [a1, a2, a3] = b_X12_isTold_0 n d (f_X12_isTold n) S a1 a2 a3 := rfl
theorem e_X12_isTold_10 {n d : Nat} {S : GS} {a1 : Int} {a2 : Int} : f_X12_isTold (n + 1) d 10 S [a1, a2] = b_X12_isTold_10 n d (f_X12_isTold n) S a1 a2 := rfl

def b_X12_opOf_0 (n d : Nat) (rec : Nat → Nat → GS → List Int → Option (Int × GS)) (S : GS) (a1 : Int) (a2 : Int) : Option (Int × GS) :=
  gg (1 ≤ d) <|
  gc (f_X12_kind n (d - 1) 0 S [a1, a2]) fun x2 S_3 =>
  gg (inr x2) <|
  if x2 = 5 then (
    gc (f_X12_childNamed n (d - 1) 0 S_3 [a1, a2, 8029918135601594368]) fun x7 S_8 =>
    gc (f_X12_childNamed n (d - 1) 0 S_8 [a1, a2, 8097881595014283264]) fun x10 S_11 =>
    gg (inr x7) <|
    if x7 = (-1) then (
      some ((-1), S_11)
    ) else (
      gg (inr x10) <|
      if x10 = (-1) then (
        some ((-1), S_11)
      ) else (
        gc (f_X12_kind n (d - 1) 0 S_11 [a1, x10]) fun x17 S_18 =>
        gg (inr x17) <|
        if x17 = 3 then (
          gc (f_X12_pathOf n (d - 1) 0 S_18 [a1, x10]) fun x22 S_23 =>
          gc (f_X12_isPath n (d - 1) 0 S_23 []) fun x25 S_26 =>
          gg (inr x25) <|
          if x25 ≠ 0 then (
            rec d 76 S_26 [a1, a2, x7, 0]
          ) else (
            some ((-1), S_26)
          )
        ) else (
          some ((-1), S_18)
        )
      )
    )
  ) else (
    some ((-1), S_3)
  )
def b_X12_opOf_76 (n d : Nat) (rec : Nat → Nat → GS → List Int → Option (Int × GS)) (S : GS) (a1 : Int) (a2 : Int) (a3 : Int) (a5 : Int) : Option (Int × GS) :=
  gg (inr a5) <|
  if 6 ≤ a5 then (
    some ((-1), S)
  ) else (
    gg (0 ≤ a5 ∧ a5 < ((6 : Nat) : Int) ∧ a5 < 2147483648) <|
    gv ((gl_ops.getD (a5 : Int).toNat 0).toInt) fun x4 =>
    gg (1 ≤ d) <|
    gc (f_X12_isText n (d - 1) 0 S [a1, a3, x4]) fun x7 S_8 =>
    gg (inr x7) <|
    if x7 = 0 then (
      gv (a5 + 1) fun x12 =>
      rec d 76 S_8 [a1, a2, a3, x12]
    ) else (
      gc (f_X12_isTold n (d - 1) 0 S_8 [a1, a2, a5]) fun x14 S_15 =>
      gg (inr x14) <|
      if x14 = 0 then (
        some ((-1), S_15)
      ) else (
        some (a5, S_15)
      )
    )
  )
def f_X12_opOf : Nat → Nat → Nat → GS → List Int → Option (Int × GS)
  | 0, _, _, _, _ => none
  | n + 1, d, pc, S, x => match pc, x with
    | 0, [a1, a2] => b_X12_opOf_0 n d (f_X12_opOf n) S a1 a2
    | 76, [a1, a2, a3, a5] => b_X12_opOf_76 n d (f_X12_opOf n) S a1 a2 a3 a5
    | _, _ => none
theorem e_X12_opOf_0 {n d : Nat} {S : GS} {a1 : Int} {a2 : Int} : f_X12_opOf (n + 1) d 0 S [a1, a2] = b_X12_opOf_0 n d (f_X12_opOf n) S a1 a2 := rfl
theorem e_X12_opOf_76 {n d : Nat} {S : GS} {a1 : Int} {a2 : Int} {a3 : Int} {a5 : Int} : f_X12_opOf (n + 1) d 76 S [a1, a2, a3, a5] = b_X12_opOf_76 n d (f_X12_opOf n) S a1 a2 a3 a5 := rfl

def b_X12_pathNamed_0 (n d : Nat) (rec : Nat → Nat → GS → List Int → Option (Int × GS)) (S : GS) (a1 : Int) (a2 : Int) (a3 : Int) : Option (Int × GS) :=
  gg (1 ≤ d) <|
  gc (f_X12_childNamed n (d - 1) 0 S [a1, a2, a3]) fun x2 S_3 =>
  gc (f_X12_pathOf n (d - 1) 0 S_3 [a1, x2]) fun x5 S_6 =>
  some (0, S_6)
def f_X12_pathNamed : Nat → Nat → Nat → GS → List Int → Option (Int × GS)
  | 0, _, _, _, _ => none
  | n + 1, d, pc, S, x => match pc, x with
    | 0, [a1, a2, a3] => b_X12_pathNamed_0 n d (f_X12_pathNamed n) S a1 a2 a3
    | _, _ => none
theorem e_X12_pathNamed_0 {n d : Nat} {S : GS} {a1 : Int} {a2 : Int} {a3 : Int} : f_X12_pathNamed (n + 1) d 0 S [a1, a2, a3] = b_X12_pathNamed_0 n d (f_X12_pathNamed n) S a1 a2 a3 := rfl

def b_X12_does_0 (n d : Nat) (rec : Nat → Nat → GS → List Int → Option (Int × GS)) (S : GS) (a1 : Int) (a2 : Int) : Option (Int × GS) :=
  gg (1 ≤ d) <|
  gc (f_X12_opOf n (d - 1) 0 S [a1, a2]) fun x2 S_3 =>
  gg (inr x2) <|
  if x2 ≠ (-1) then (
    gc (f_X12_childNamed n (d - 1) 0 S_3 [a1, a2, 8530218420677902336]) fun x7 S_8 =>
    if x2 ≠ 0 then (
      if x2 ≠ 1 then (
        if x2 = 2 then (
          rec d 91 S_8 [a1, a2, x2, x7]
        ) else (
          if x2 ≠ 5 then (
            gc (f_X12_pathNamed n (d - 1) 0 S_8 [a1, a2, 7382085253155782656]) fun x14 S_15 =>
            gv (S_15.1 500 29) fun x17 =>
            gc (f_X12_plain n (d - 1) 0 S_15 [42, x17]) fun x19 S_20 =>
            gg (inr x19) <|
            if x19 = (-1) then (
              some (0, S_20)
            ) else (
              if x2 ≠ 3 then (
                rec d 218 S_20 [a1, a2, x2, x19]
              ) else (
                gc (f_X12_canCut n (d - 1) 0 S_20 [44, 42]) fun x25 S_26 =>
                gg (inr x25) <|
                if x25 ≠ 0 then (
                  rec d 218 S_26 [a1, a2, x2, x19]
                ) else (
                  some (0, S_26)
                )
              )
            )
          ) else (
            rec d 91 S_8 [a1, a2, x2, x7]
          )
        )
      ) else (
        gc (f_X12_pathNamed n (d - 1) 0 S_8 [a1, a2, 8097881595014283264]) fun x30 S_31 =>
        gc (f_X12_canCut n (d - 1) 0 S_31 [43, 42]) fun x33 S_34 =>
        rec d 251 S_34 [x33]
      )
    ) else (
      gc (f_X12_pathNamed n (d - 1) 0 S_8 [a1, a2, 8097881595014283264]) fun x36 S_37 =>
      gc (f_X12_canPut n (d - 1) 0 S_37 [43, 42, a1, x7]) fun x39 S_40 =>
      rec d 251 S_40 [x39]
    )
  ) else (
    some (0, S_3)
  )
def b_X12_does_91 (n d : Nat) (rec : Nat → Nat → GS → List Int → Option (Int × GS)) (S : GS) (a1 : Int) (a2 : Int) (a3 : Int) (a4 : Int) : Option (Int × GS) :=
  gg (1 ≤ d) <|
  gc (f_X12_pathNamed n (d - 1) 0 S [a1, a2, 8097881595014283264]) fun x2 S_3 =>
  gv (S_3.1 500 29) fun x5 =>
  gc (f_X12_plain n (d - 1) 0 S_3 [42, x5]) fun x7 S_8 =>
  gg (inr x7) <|
  if x7 = (-1) then (
    rec d 123 S_8 [a1, a4, x7]
  ) else (
    gg (inr a3) <|
    if a3 ≠ 5 then (
      gc (f_X12_replaced n (d - 1) 0 S_8 [43, 42, x7, a1, a4]) fun x14 S_15 =>
      gc (f_X12_isWhole n (d - 1) 0 S_15 [43]) fun x17 S_18 =>
      rec d 251 S_18 [x17]
    ) else (
      rec d 123 S_8 [a1, a4, x7]
    )
  )
def b_X12_does_123 (n d : Nat) (rec : Nat → Nat → GS → List Int → Option (Int × GS)) (S : GS) (a1 : Int) (a4 : Int) (a6 : Int) : Option (Int × GS) :=
  gg (inr a6) <|
  if a6 = (-1) then (
    some (0, S)
  ) else (
    gg (1 ≤ d) <|
    gc (f_X12_areEqual n (d - 1) 0 S [42, a6, a1, a4]) fun x4 S_5 =>
    gg (inr x4) <|
    if x4 = 0 then (
      some (0, S_5)
    ) else (
      some (1, S_5)
    )
  )
def b_X12_does_218 (n d : Nat) (rec : Nat → Nat → GS → List Int → Option (Int × GS)) (S : GS) (a1 : Int) (a2 : Int) (a3 : Int) (a6 : Int) : Option (Int × GS) :=
  gg (1 ≤ d) <|
  gc (f_X12_pathNamed n (d - 1) 0 S [a1, a2, 8097881595014283264]) fun x2 S_3 =>
  gg (inr a3) <|
  if a3 ≠ 3 then (
    gc (f_X12_canPut n (d - 1) 0 S_3 [43, 42, 42, a6]) fun x7 S_8 =>
    rec d 251 S_8 [x7]
  ) else (
    gc (f_X12_canPut n (d - 1) 0 S_3 [43, 44, 42, a6]) fun x10 S_11 =>
    rec d 251 S_11 [x10]
  )
def b_X12_does_251 (n d : Nat) (rec : Nat → Nat → GS → List Int → Option (Int × GS)) (S : GS) (a5 : Int) : Option (Int × GS) :=
  gg (inr a5) <|
  if a5 = 0 then (
    gg (a5 = 0 ∨ a5 = 1) <|
    some (a5, S)
  ) else (
    gg (1 ≤ d) <|
    gc (f_X12_becomes n (d - 1) 0 S [42, 43]) fun x5 S_6 =>
    gg (a5 = 0 ∨ a5 = 1) <|
    some (a5, S_6)
  )
def f_X12_does : Nat → Nat → Nat → GS → List Int → Option (Int × GS)
  | 0, _, _, _, _ => none
  | n + 1, d, pc, S, x => match pc, x with
    | 0, [a1, a2] => b_X12_does_0 n d (f_X12_does n) S a1 a2
    | 91, [a1, a2, a3, a4] => b_X12_does_91 n d (f_X12_does n) S a1 a2 a3 a4
    | 123, [a1, a4, a6] => b_X12_does_123 n d (f_X12_does n) S a1 a4 a6
    | 218, [a1, a2, a3, a6] => b_X12_does_218 n d (f_X12_does n) S a1 a2 a3 a6
    | 251, [a5] => b_X12_does_251 n d (f_X12_does n) S a5
    | _, _ => none
theorem e_X12_does_0 {n d : Nat} {S : GS} {a1 : Int} {a2 : Int} : f_X12_does (n + 1) d 0 S [a1, a2] = b_X12_does_0 n d (f_X12_does n) S a1 a2 := rfl
theorem e_X12_does_91 {n d : Nat} {S : GS} {a1 : Int} {a2 : Int} {a3 : Int} {a4 : Int} : f_X12_does (n + 1) d 91 S [a1, a2, a3, a4] = b_X12_does_91 n d (f_X12_does n) S a1 a2 a3 a4 := rfl
theorem e_X12_does_123 {n d : Nat} {S : GS} {a1 : Int} {a4 : Int} {a6 : Int} : f_X12_does (n + 1) d 123 S [a1, a4, a6] = b_X12_does_123 n d (f_X12_does n) S a1 a4 a6 := rfl
theorem e_X12_does_218 {n d : Nat} {S : GS} {a1 : Int} {a2 : Int} {a3 : Int} {a6 : Int} : f_X12_does (n + 1) d 218 S [a1, a2, a3, a6] = b_X12_does_218 n d (f_X12_does n) S a1 a2 a3 a6 := rfl
theorem e_X12_does_251 {n d : Nat} {S : GS} {a5 : Int} : f_X12_does (n + 1) d 251 S [a5] = b_X12_does_251 n d (f_X12_does n) S a5 := rfl

def b_X12_draw_0 (n d : Nat) (rec : Nat → Nat → GS → List Int → Option (Int × GS)) (S : GS) (a1 : Int) : Option (Int × GS) :=
  gv (S.1 500 83) fun x1 =>
  gv (25173 * x1) fun x3 =>
  gv (x3 + 13849) fun x5 =>
  gg ((0 ≤ x5 ∧ x5 < 2147483648) ∧ ((0 : Int) < 65536 ∧ (65536 : Int) < 2147483648)) <|
  gv (x5 % 65536) fun x8 =>
  gv (gI S 500 83 x8) fun S_10 =>
  gv (S_10.1 500 83) fun x12 =>
  gg ((0 ≤ x12 ∧ x12 < 2147483648) ∧ ((0 : Int) < 16 ∧ (16 : Int) < 2147483648)) <|
  gv (x12 / 16) fun x15 =>
  gg ((0 ≤ x15 ∧ x15 < 2147483648) ∧ ((0 : Int) < a1 ∧ (a1 : Int) < 2147483648)) <|
  gv (x15 % a1) fun x18 =>
  some (x18, S_10)
def f_X12_draw : Nat → Nat → Nat → GS → List Int → Option (Int × GS)
  | 0, _, _, _, _ => none
  | n + 1, d, pc, S, x => match pc, x with
    | 0, [a1] => b_X12_draw_0 n d (f_X12_draw n) S a1
    | _, _ => none
theorem e_X12_draw_0 {n d : Nat} {S : GS} {a1 : Int} : f_X12_draw (n + 1) d 0 S [a1] = b_X12_draw_0 n d (f_X12_draw n) S a1 := rfl

def b_X12_drawsOne_0 (n d : Nat) (rec : Nat → Nat → GS → List Int → Option (Int × GS)) (S : GS) (a1 : Int) (a2 : Int) (a3 : Int) : Option (Int × GS) :=
  gg (inr a3) <|
  if a3 = 0 then (
    rec d 16 S [a1, a2, a3, 0]
  ) else (
    gg (1 ≤ d) <|
    gc (f_X12_draw n (d - 1) 0 S [5]) fun x4 S_5 =>
    gv (97 + x4) fun x7 =>
    rec d 16 S_5 [a1, a2, a3, x7]
  )
def b_X12_drawsOne_16 (n d : Nat) (rec : Nat → Nat → GS → List Int → Option (Int × GS)) (S : GS) (a1 : Int) (a2 : Int) (a3 : Int) (s0 : Int) : Option (Int × GS) :=
  gg (inr a1) <|
  if a1 ≠ 0 then (
    if a1 ≠ 3 then (
      gg (1 ≤ d) <|
      gc (f_X12_draw n (d - 1) 0 S [8]) fun x5 S_6 =>
      rec d 51 S_6 [a2, a3, s0, x5]
    ) else (
      gg (1 ≤ d) <|
      gc (f_X12_draw n (d - 1) 0 S [4]) fun x9 S_10 =>
      rec d 51 S_10 [a2, a3, s0, x9]
    )
  ) else (
    gg (1 ≤ d) <|
    gc (f_X12_draw n (d - 1) 0 S [4]) fun x13 S_14 =>
    gv (4 + x13) fun x16 =>
    rec d 51 S_14 [a2, a3, s0, x16]
  )
def b_X12_drawsOne_51 (n d : Nat) (rec : Nat → Nat → GS → List Int → Option (Int × GS)) (S : GS) (a2 : Int) (a3 : Int) (a4 : Int) (s0 : Int) : Option (Int × GS) :=
  gg (inr s0) <|
  if 4 ≤ s0 then (
    if 6 ≤ s0 then (
      rec d 79 S [a2, a3, a4, s0, 5, 40]
    ) else (
      rec d 79 S [a2, a3, a4, s0, 4, 40]
    )
  ) else (
    rec d 79 S [a2, a3, a4, s0, s0, 40]
  )
def b_X12_drawsOne_79 (n d : Nat) (rec : Nat → Nat → GS → List Int → Option (Int × GS)) (S : GS) (a2 : Int) (a3 : Int) (a4 : Int) (a5 : Int) (s0 : Int) (s1 : Int) : Option (Int × GS) :=
  gg (1 ≤ d) <|
  gc (f_X12_added n (d - 1) 0 S [s1, s0]) fun x2 S_3 =>
  gg (inr a3) <|
  if a3 = 0 then (
    rec d 109 S_3 [a2, a5, x2]
  ) else (
    gg ((0 : Int) ≤ 0 ∧ (0 : Int) < ((1000 : Nat) : Int) ∧ (0 : Int) < 2147483648) <|
    gv (gI S_3 507 (0 : Int).toNat a4) fun S_8 =>
    gv (gI S_8 500 13 1) fun S_10 =>
    gc (f_X12_keyIs n (d - 1) 0 S_10 [40, x2]) fun x12 S_13 =>
    rec d 109 S_13 [a2, a5, x2]
  )
def b_X12_drawsOne_109 (n d : Nat) (rec : Nat → Nat → GS → List Int → Option (Int × GS)) (S : GS) (a2 : Int) (a5 : Int) (a6 : Int) : Option (Int × GS) :=
  gg (inr a5) <|
  if a5 ≠ 1 then (
    if a5 ≠ 2 then (
      if a5 ≠ 3 then (
        if a5 ≤ 3 then (
          some (0, S)
        ) else (
          gv (a2 + 1) fun x6 =>
          gg (1 ≤ d) <|
          gc (f_X12_draw n (d - 1) 0 S [x6]) fun x9 S_10 =>
          gc (f_X12_at n (d - 1) 0 S_10 [40, a6]) fun x12 S_13 =>
          gv (x12 + 3) fun x15 =>
          gg (0 ≤ x15 ∧ x15 < ((295728 : Nat) : Int) ∧ x15 < 2147483648) <|
          gv (gI S_13 501 (x15 : Int).toNat x9) fun S_18 =>
          some (x9, S_18)
        )
      ) else (
        gg (1 ≤ d) <|
        gc (f_X12_draw n (d - 1) 0 S [4]) fun x21 S_22 =>
        gv (gI S_22 500 13 x21) fun S_24 =>
        rec d 231 S_24 [a6, 0]
      )
    ) else (
      gg (1 ≤ d) <|
      gc (f_X12_draw n (d - 1) 0 S [1000]) fun x27 S_28 =>
      gc (f_X12_draw n (d - 1) 0 S_28 [5]) fun x30 S_31 =>
      gv (x30 - 2) fun x33 =>
      gg ((0 ≤ x27 ∧ x27 < 2147483648) ∧ ((0 : Int) < 100 ∧ (100 : Int) < 2147483648)) <|
      gv (x27 / 100) fun x36 =>
      gg ((0 : Int) ≤ 0 ∧ (0 : Int) < ((24 : Nat) : Int) ∧ (0 : Int) < 2147483648) <|
      gv (gI S_31 510 (0 : Int).toNat x36) fun S_39 =>
      gg ((0 ≤ x27 ∧ x27 < 2147483648) ∧ ((0 : Int) < 10 ∧ (10 : Int) < 2147483648)) <|
      gv (x27 / 10) fun x42 =>
      gg ((0 ≤ x42 ∧ x42 < 2147483648) ∧ ((0 : Int) < 10 ∧ (10 : Int) < 2147483648)) <|
      gv (x42 % 10) fun x45 =>
      gg ((0 : Int) ≤ 1 ∧ (1 : Int) < ((24 : Nat) : Int) ∧ (1 : Int) < 2147483648) <|
      gv (gI S_39 510 (1 : Int).toNat x45) fun S_48 =>
      gg ((0 ≤ x27 ∧ x27 < 2147483648) ∧ ((0 : Int) < 10 ∧ (10 : Int) < 2147483648)) <|
      gv (x27 % 10) fun x51 =>
      gg ((0 : Int) ≤ 2 ∧ (2 : Int) < ((24 : Nat) : Int) ∧ (2 : Int) < 2147483648) <|
      gv (gI S_48 510 (2 : Int).toNat x51) fun S_54 =>
      gc (f_X12_isNumber n (d - 1) 0 S_54 [a6, 0, 3, x33]) fun x56 S_57 =>
      some (0, S_57)
    )
  ) else (
    gg (1 ≤ d) <|
    gc (f_X12_at n (d - 1) 0 S [40, a6]) fun x60 S_61 =>
    gv (x60 + 19) fun x63 =>
    gc (f_X12_draw n (d - 1) 0 S_61 [2]) fun x65 S_66 =>
    gg (0 ≤ x63 ∧ x63 < ((295728 : Nat) : Int) ∧ x63 < 2147483648) <|
    gv (gI S_66 501 (x63 : Int).toNat x65) fun S_69 =>
    some (0, S_69)
  )
def b_X12_drawsOne_231 (n d : Nat) (rec : Nat → Nat → GS → List Int → Option (Int × GS)) (S : GS) (a6 : Int) (a7 : Int) : Option (Int × GS) :=
  gv (S.1 500 13) fun x1 =>
  gg (inr a7) <|
  gg (inr x1) <|
  if x1 ≤ a7 then (
    gg (1 ≤ d) <|
    gc (f_X12_textIs n (d - 1) 0 S [40, a6]) fun x7 S_8 =>
    some (0, S_8)
  ) else (
    gg (1 ≤ d) <|
    gc (f_X12_draw n (d - 1) 0 S [3]) fun x11 S_12 =>
    gv (97 + x11) fun x14 =>
    gg (0 ≤ a7 ∧ a7 < ((1000 : Nat) : Int) ∧ a7 < 2147483648) <|
    gv (gI S_12 507 (a7 : Int).toNat x14) fun S_17 =>
    gv (a7 + 1) fun x19 =>
    rec d 231 S_17 [a6, x19]
  )
def f_X12_drawsOne : Nat → Nat → Nat → GS → List Int → Option (Int × GS)
  | 0, _, _, _, _ => none
  | n + 1, d, pc, S, x => match pc, x with
    | 0, [a1, a2, a3] => b_X12_drawsOne_0 n d (f_X12_drawsOne n) S a1 a2 a3
    | 16, [a1, a2, a3, s0] => b_X12_drawsOne_16 n d (f_X12_drawsOne n) S a1 a2 a3 s0
    | 51, [a2, a3, a4, s0] => b_X12_drawsOne_51 n d (f_X12_drawsOne n) S a2 a3 a4 s0
    | 79, [a2, a3, a4, a5, s0, s1] => b_X12_drawsOne_79 n d (f_X12_drawsOne n) S a2 a3 a4 a5 s0 s1
    | 109, [a2, a5, a6] => b_X12_drawsOne_109 n d (f_X12_drawsOne n) S a2 a5 a6
    | 231, [a6, a7] => b_X12_drawsOne_231 n d (f_X12_drawsOne n) S a6 a7
    | _, _ => none
theorem e_X12_drawsOne_0 {n d : Nat} {S : GS} {a1 : Int} {a2 : Int} {a3 : Int} : f_X12_drawsOne (n + 1) d 0 S [a1, a2, a3] = b_X12_drawsOne_0 n d (f_X12_drawsOne n) S a1 a2 a3 := rfl
theorem e_X12_drawsOne_16 {n d : Nat} {S : GS} {a1 : Int} {a2 : Int} {a3 : Int} {s0 : Int} : f_X12_drawsOne (n + 1) d 16 S [a1, a2, a3, s0] = b_X12_drawsOne_16 n d (f_X12_drawsOne n) S a1 a2 a3 s0 := rfl
theorem e_X12_drawsOne_51 {n d : Nat} {S : GS} {a2 : Int} {a3 : Int} {a4 : Int} {s0 : Int} : f_X12_drawsOne (n + 1) d 51 S [a2, a3, a4, s0] = b_X12_drawsOne_51 n d (f_X12_drawsOne n) S a2 a3 a4 s0 := rfl
theorem e_X12_drawsOne_79 {n d : Nat} {S : GS} {a2 : Int} {a3 : Int} {a4 : Int} {a5 : Int} {s0 : Int} {s1 : Int} : f_X12_drawsOne (n + 1) d 79 S [a2, a3, a4, a5, s0, s1] = b_X12_drawsOne_79 n d (f_X12_drawsOne n) S a2 a3 a4 a5 s0 s1 := rfl
theorem e_X12_drawsOne_109 {n d : Nat} {S : GS} {a2 : Int} {a5 : Int} {a6 : Int} : f_X12_drawsOne (n + 1) d 109 S [a2, a5, a6] = b_X12_drawsOne_109 n d (f_X12_drawsOne n) S a2 a5 a6 := rfl
theorem e_X12_drawsOne_231 {n d : Nat} {S : GS} {a6 : Int} {a7 : Int} : f_X12_drawsOne (n + 1) d 231 S [a6, a7] = b_X12_drawsOne_231 n d (f_X12_drawsOne n) S a6 a7 := rfl

def b_X12_equal_0 (n d : Nat) (rec : Nat → Nat → GS → List Int → Option (Int × GS)) (S : GS) (a1 : Int) (a2 : Int) : Option (Int × GS) :=
  gg (1 ≤ d) <|
  gc (f_X12_isDoc n (d - 1) 0 S [a1]) fun x2 S_3 =>
  gg (inr x2) <|
  if x2 = 0 then (
    rec d 22 S_3 [a1, a2, 0]
  ) else (
    gc (f_X12_isDoc n (d - 1) 0 S_3 [a2]) fun x7 S_8 =>
    gg (inr x7) <|
    if x7 = 0 then (
      rec d 22 S_8 [a1, a2, 0]
    ) else (
      rec d 22 S_8 [a1, a2, 1]
    )
  )
def b_X12_equal_22 (n d : Nat) (rec : Nat → Nat → GS → List Int → Option (Int × GS)) (S : GS) (a1 : Int) (a2 : Int) (s0 : Int) : Option (Int × GS) :=
  gg (1 ≤ d) <|
  gc (f_X12_fails n (d - 1) 0 S [s0, 1]) fun x2 S_3 =>
  gg (inr x2) <|
  if x2 ≠ 0 then (
    some (0, S_3)
  ) else (
    gc (f_X12_areEqual n (d - 1) 0 S_3 [a1, 0, a2, 0]) fun x7 S_8 =>
    gg (inr x7) <|
    if x7 = 0 then (
      some (0, S_8)
    ) else (
      some (1, S_8)
    )
  )
def f_X12_equal : Nat → Nat → Nat → GS → List Int → Option (Int × GS)
  | 0, _, _, _, _ => none
  | n + 1, d, pc, S, x => match pc, x with
    | 0, [a1, a2] => b_X12_equal_0 n d (f_X12_equal n) S a1 a2
    | 22, [a1, a2, s0] => b_X12_equal_22 n d (f_X12_equal n) S a1 a2 s0
    | _, _ => none
theorem e_X12_equal_0 {n d : Nat} {S : GS} {a1 : Int} {a2 : Int} : f_X12_equal (n + 1) d 0 S [a1, a2] = b_X12_equal_0 n d (f_X12_equal n) S a1 a2 := rfl
theorem e_X12_equal_22 {n d : Nat} {S : GS} {a1 : Int} {a2 : Int} {s0 : Int} : f_X12_equal (n + 1) d 22 S [a1, a2, s0] = b_X12_equal_22 n d (f_X12_equal n) S a1 a2 s0 := rfl

def b_X12_escaped_0 (n d : Nat) (rec : Nat → Nat → GS → List Int → Option (Int × GS)) (S : GS) (a1 : Int) : Option (Int × GS) :=
  gg (inr a1) <|
  if a1 = 34 then (
    some (a1, S)
  ) else (
  if a1 = 47 then (
    some (a1, S)
  ) else (
  if a1 = 92 then (
    some (a1, S)
  ) else (
  if a1 = 98 then (
    some (8, S)
  ) else (
  if a1 = 102 then (
    some (12, S)
  ) else (
  if a1 = 110 then (
    some (10, S)
  ) else (
  if a1 = 114 then (
    some (13, S)
  ) else (
  if a1 = 116 then (
    some (9, S)
  ) else (
  some ((-1), S)
  ))))))))
def f_X12_escaped : Nat → Nat → Nat → GS → List Int → Option (Int × GS)
  | 0, _, _, _, _ => none
  | n + 1, d, pc, S, x => match pc, x with
    | 0, [a1] => b_X12_escaped_0 n d (f_X12_escaped n) S a1
    | _, _ => none
theorem e_X12_escaped_0 {n d : Nat} {S : GS} {a1 : Int} : f_X12_escaped (n + 1) d 0 S [a1] = b_X12_escaped_0 n d (f_X12_escaped n) S a1 := rfl

def b_X12_find_0 (n d : Nat) (rec : Nat → Nat → GS → List Int → Option (Int × GS)) (S : GS) (a1 : Int) : Option (Int × GS) :=
  gv (S.1 500 32) fun x1 =>
  gv (x1 - 1) fun x3 =>
  gg (1 ≤ d) <|
  gc (f_X12_in n (d - 1) 0 S [a1, 0, x3]) fun x6 S_7 =>
  gc (f_X12_fails n (d - 1) 0 S_7 [x6, 1]) fun x9 S_10 =>
  gg (inr x9) <|
  if x9 = 0 then (
    gg (0 ≤ a1 ∧ a1 < ((101 : Nat) : Int) ∧ a1 < 2147483648) <|
    gv (S_10.1 519 (a1 : Int).toNat) fun x15 =>
    some (x15, S_10)
  ) else (
    some (0, S_10)
  )
def f_X12_find : Nat → Nat → Nat → GS → List Int → Option (Int × GS)
  | 0, _, _, _, _ => none
  | n + 1, d, pc, S, x => match pc, x with
    | 0, [a1] => b_X12_find_0 n d (f_X12_find n) S a1
    | _, _ => none
theorem e_X12_find_0 {n d : Nat} {S : GS} {a1 : Int} : f_X12_find (n + 1) d 0 S [a1] = b_X12_find_0 n d (f_X12_find n) S a1 := rfl

def b_X12_goesInto_0 (n d : Nat) (rec : Nat → Nat → GS → List Int → Option (Int × GS)) (S : GS) (a1 : Int) (a2 : Int) (a3 : Int) (a4 : Int) : Option (Int × GS) :=
  gg (0 ≤ a1 ∧ a1 < ((16 : Nat) : Int) ∧ a1 < 2147483648) <|
  gv (gI S 528 (a1 : Int).toNat a2) fun S_2 =>
  gv (gI S_2 529 (a1 : Int).toNat a3) fun S_4 =>
  gv (gI S_4 530 (a1 : Int).toNat a4) fun S_6 =>
  gv (gI S_6 531 (a1 : Int).toNat 0) fun S_8 =>
  gg (inr a2) <|
  if a2 ≠ (-1) then (
    gv (a2 + 1) fun x12 =>
    rec d 46 S_8 [a1, x12, a1]
  ) else (
    rec d 46 S_8 [a1, (-1), a1]
  )
def b_X12_goesInto_46 (n d : Nat) (rec : Nat → Nat → GS → List Int → Option (Int × GS)) (S : GS) (a1 : Int) (s0 : Int) (s1 : Int) : Option (Int × GS) :=
  gg (0 ≤ s1 ∧ s1 < ((16 : Nat) : Int) ∧ s1 < 2147483648) <|
  gv (gI S 532 (s1 : Int).toNat s0) fun S_2 =>
  gg ((0 : Int) ≤ 40 ∧ (40 : Int) < ((48 : Nat) : Int) ∧ (40 : Int) < 2147483648) <|
  gv (S_2.1 502 (40 : Int).toNat) fun x5 =>
  gv (x5 - 1) fun x7 =>
  gg (0 ≤ a1 ∧ a1 < ((16 : Nat) : Int) ∧ a1 < 2147483648) <|
  gv (gI S_2 533 (a1 : Int).toNat x7) fun S_10 =>
  gv (S_10.1 500 29) fun x12 =>
  gv (gI S_10 534 (a1 : Int).toNat x12) fun S_14 =>
  some (0, S_14)
def f_X12_goesInto : Nat → Nat → Nat → GS → List Int → Option (Int × GS)
  | 0, _, _, _, _ => none
  | n + 1, d, pc, S, x => match pc, x with
    | 0, [a1, a2, a3, a4] => b_X12_goesInto_0 n d (f_X12_goesInto n) S a1 a2 a3 a4
    | 46, [a1, s0, s1] => b_X12_goesInto_46 n d (f_X12_goesInto n) S a1 s0 s1
    | _, _ => none
theorem e_X12_goesInto_0 {n d : Nat} {S : GS} {a1 : Int} {a2 : Int} {a3 : Int} {a4 : Int} : f_X12_goesInto (n + 1) d 0 S [a1, a2, a3, a4] = b_X12_goesInto_0 n d (f_X12_goesInto n) S a1 a2 a3 a4 := rfl
theorem e_X12_goesInto_46 {n d : Nat} {S : GS} {a1 : Int} {s0 : Int} {s1 : Int} : f_X12_goesInto (n + 1) d 46 S [a1, s0, s1] = b_X12_goesInto_46 n d (f_X12_goesInto n) S a1 s0 s1 := rfl

def b_X12_grows_0 (n d : Nat) (rec : Nat → Nat → GS → List Int → Option (Int × GS)) (S : GS) (a1 : Int) (a2 : Int) : Option (Int × GS) :=
  gg (1 ≤ d) <|
  gc (f_X12_begin n (d - 1) 0 S [40]) fun x2 S_3 =>
  gc (f_X12_drawsOne n (d - 1) 0 S_3 [a1, a2, 0]) fun x5 S_6 =>
  gg (inr x5) <|
  if x5 ≤ 0 then (
    rec d 38 S_6 [a1, a2, 0]
  ) else (
    gg ((0 : Int) ≤ 0 ∧ (0 : Int) < ((8 : Nat) : Int) ∧ (0 : Int) < 2147483648) <|
    gv (gI S_6 553 (0 : Int).toNat 0) fun S_11 =>
    gv (gI S_11 554 (0 : Int).toNat x5) fun S_13 =>
    rec d 38 S_13 [a1, a2, 1]
  )
def b_X12_grows_38 (n d : Nat) (rec : Nat → Nat → GS → List Int → Option (Int × GS)) (S : GS) (a1 : Int) (a2 : Int) (a4 : Int) : Option (Int × GS) :=
  gg (inr a4) <|
  if a4 ≤ 0 then (
    gg (1 ≤ d) <|
    gc (f_X12_link n (d - 1) 0 S [40]) fun x4 S_5 =>
    gc (f_X12_choose n (d - 1) 0 S_5 [40, 0, 41, 3]) fun x7 S_8 =>
    gc (f_X12_link n (d - 1) 0 S_8 [41]) fun x10 S_11 =>
    some (0, S_11)
  ) else (
    gv (a4 - 1) fun x13 =>
    gg (0 ≤ x13 ∧ x13 < ((8 : Nat) : Int) ∧ x13 < 2147483648) <|
    gv (S.1 554 (x13 : Int).toNat) fun x16 =>
    gg (inr x16) <|
    if x16 ≠ 0 then (
      gv (a4 - 1) fun x20 =>
      gg (0 ≤ x20 ∧ x20 < ((8 : Nat) : Int) ∧ x20 < 2147483648) <|
      gv (S.1 554 (x20 : Int).toNat) fun x23 =>
      gv (x23 - 1) fun x25 =>
      gv (gI S 554 (x20 : Int).toNat x25) fun S_27 =>
      gv (a1 + a4) fun x29 =>
      gv (a4 - 1) fun x31 =>
      gg (0 ≤ x31 ∧ x31 < ((8 : Nat) : Int) ∧ x31 < 2147483648) <|
      gv (S_27.1 553 (x31 : Int).toNat) fun x34 =>
      gg (1 ≤ d) <|
      gc (f_X12_kind n (d - 1) 0 S_27 [40, x34]) fun x37 S_38 =>
      gg (inr x37) <|
      if x37 ≠ 5 then (
        rec d 104 S_38 [a1, a2, a4, 0, a2, x29]
      ) else (
        rec d 104 S_38 [a1, a2, a4, 1, a2, x29]
      )
    ) else (
      gv (a4 + (-1)) fun x42 =>
      rec d 38 S [a1, a2, x42]
    )
  )
def b_X12_grows_104 (n d : Nat) (rec : Nat → Nat → GS → List Int → Option (Int × GS)) (S : GS) (a1 : Int) (a2 : Int) (a4 : Int) (s0 : Int) (s1 : Int) (s2 : Int) : Option (Int × GS) :=
  gg (1 ≤ d) <|
  gc (f_X12_drawsOne n (d - 1) 0 S [s2, s1, s0]) fun x2 S_3 =>
  gg (inr x2) <|
  if x2 ≤ 0 then (
    rec d 38 S_3 [a1, a2, a4]
  ) else (
    gg ((0 : Int) ≤ 40 ∧ (40 : Int) < ((48 : Nat) : Int) ∧ (40 : Int) < 2147483648) <|
    gv (S_3.1 502 (40 : Int).toNat) fun x8 =>
    gv (x8 - 1) fun x10 =>
    gg (0 ≤ a4 ∧ a4 < ((8 : Nat) : Int) ∧ a4 < 2147483648) <|
    gv (gI S_3 553 (a4 : Int).toNat x10) fun S_13 =>
    gv (gI S_13 554 (a4 : Int).toNat x2) fun S_15 =>
    gv (a4 + 1) fun x17 =>
    rec d 38 S_15 [a1, a2, x17]
  )
def f_X12_grows : Nat → Nat → Nat → GS → List Int → Option (Int × GS)
  | 0, _, _, _, _ => none
  | n + 1, d, pc, S, x => match pc, x with
    | 0, [a1, a2] => b_X12_grows_0 n d (f_X12_grows n) S a1 a2
    | 38, [a1, a2, a4] => b_X12_grows_38 n d (f_X12_grows n) S a1 a2 a4
    | 104, [a1, a2, a4, s0, s1, s2] => b_X12_grows_104 n d (f_X12_grows n) S a1 a2 a4 s0 s1 s2
    | _, _ => none
theorem e_X12_grows_0 {n d : Nat} {S : GS} {a1 : Int} {a2 : Int} : f_X12_grows (n + 1) d 0 S [a1, a2] = b_X12_grows_0 n d (f_X12_grows n) S a1 a2 := rfl
theorem e_X12_grows_38 {n d : Nat} {S : GS} {a1 : Int} {a2 : Int} {a4 : Int} : f_X12_grows (n + 1) d 38 S [a1, a2, a4] = b_X12_grows_38 n d (f_X12_grows n) S a1 a2 a4 := rfl
theorem e_X12_grows_104 {n d : Nat} {S : GS} {a1 : Int} {a2 : Int} {a4 : Int} {s0 : Int} {s1 : Int} {s2 : Int} : f_X12_grows (n + 1) d 104 S [a1, a2, a4, s0, s1, s2] = b_X12_grows_104 n d (f_X12_grows n) S a1 a2 a4 s0 s1 s2 := rfl

def b_X12_grow_0 (n d : Nat) (rec : Nat → Nat → GS → List Int → Option (Int × GS)) (S : GS) (a1 : Int) (a2 : Int) : Option (Int × GS) :=
  gg (1 ≤ d) <|
  gc (f_X12_in n (d - 1) 0 S [a1, 0, 65535]) fun x2 S_3 =>
  gg (inr x2) <|
  if x2 = 0 then (
    rec d 26 S_3 [a1, a2, 0]
  ) else (
    gc (f_X12_in n (d - 1) 0 S_3 [a2, 1, 3]) fun x7 S_8 =>
    gg (inr x7) <|
    if x7 = 0 then (
      rec d 26 S_8 [a1, a2, 0]
    ) else (
      rec d 26 S_8 [a1, a2, 1]
    )
  )
def b_X12_grow_26 (n d : Nat) (rec : Nat → Nat → GS → List Int → Option (Int × GS)) (S : GS) (a1 : Int) (a2 : Int) (s0 : Int) : Option (Int × GS) :=
  gg (1 ≤ d) <|
  gc (f_X12_fails n (d - 1) 0 S [s0, 1]) fun x2 S_3 =>
  gg (inr x2) <|
  if x2 ≠ 0 then (
    some (0, S_3)
  ) else (
    gv (S_3.1 500 1) fun x7 =>
    gg (inr x7) <|
    if 40 ≤ x7 then (
      rec d 48 S_3 [a1, a2, 0]
    ) else (
      rec d 48 S_3 [a1, a2, 1]
    )
  )
def b_X12_grow_48 (n d : Nat) (rec : Nat → Nat → GS → List Int → Option (Int × GS)) (S : GS) (a1 : Int) (a2 : Int) (s0 : Int) : Option (Int × GS) :=
  gg (1 ≤ d) <|
  gc (f_X12_fails n (d - 1) 0 S [s0, 2]) fun x2 S_3 =>
  gg (inr x2) <|
  if x2 = 0 then (
    gv (gI S_3 500 83 a1) fun S_7 =>
    gc (f_X12_grows n (d - 1) 0 S_7 [0, a2]) fun x9 S_10 =>
    gc (f_X12_keeps n (d - 1) 0 S_10 [41]) fun x12 S_13 =>
    some (x12, S_13)
  ) else (
    some (0, S_3)
  )
def f_X12_grow : Nat → Nat → Nat → GS → List Int → Option (Int × GS)
  | 0, _, _, _, _ => none
  | n + 1, d, pc, S, x => match pc, x with
    | 0, [a1, a2] => b_X12_grow_0 n d (f_X12_grow n) S a1 a2
    | 26, [a1, a2, s0] => b_X12_grow_26 n d (f_X12_grow n) S a1 a2 s0
    | 48, [a1, a2, s0] => b_X12_grow_48 n d (f_X12_grow n) S a1 a2 s0
    | _, _ => none
theorem e_X12_grow_0 {n d : Nat} {S : GS} {a1 : Int} {a2 : Int} : f_X12_grow (n + 1) d 0 S [a1, a2] = b_X12_grow_0 n d (f_X12_grow n) S a1 a2 := rfl
theorem e_X12_grow_26 {n d : Nat} {S : GS} {a1 : Int} {a2 : Int} {s0 : Int} : f_X12_grow (n + 1) d 26 S [a1, a2, s0] = b_X12_grow_26 n d (f_X12_grow n) S a1 a2 s0 := rfl
theorem e_X12_grow_48 {n d : Nat} {S : GS} {a1 : Int} {a2 : Int} {s0 : Int} : f_X12_grow (n + 1) d 48 S [a1, a2, s0] = b_X12_grow_48 n d (f_X12_grow n) S a1 a2 s0 := rfl

def b_X12_hex_0 (n d : Nat) (rec : Nat → Nat → GS → List Int → Option (Int × GS)) (S : GS) (a1 : Int) : Option (Int × GS) :=
  gg (1 ≤ d) <|
  gc (f_X12_in n (d - 1) 0 S [a1, 48, 57]) fun x2 S_3 =>
  gg (inr x2) <|
  if x2 = 0 then (
    gc (f_X12_in n (d - 1) 0 S_3 [a1, 97, 102]) fun x7 S_8 =>
    gg (inr x7) <|
    if x7 = 0 then (
      gc (f_X12_in n (d - 1) 0 S_8 [a1, 65, 70]) fun x12 S_13 =>
      gg (inr x12) <|
      if x12 = 0 then (
        some ((-1), S_13)
      ) else (
        gv (a1 - 65) fun x17 =>
        gv (x17 + 10) fun x19 =>
        some (x19, S_13)
      )
    ) else (
      gv (a1 - 97) fun x21 =>
      gv (x21 + 10) fun x23 =>
      some (x23, S_8)
    )
  ) else (
    gv (a1 - 48) fun x25 =>
    some (x25, S_3)
  )
def f_X12_hex : Nat → Nat → Nat → GS → List Int → Option (Int × GS)
  | 0, _, _, _, _ => none
  | n + 1, d, pc, S, x => match pc, x with
    | 0, [a1] => b_X12_hex_0 n d (f_X12_hex n) S a1
    | _, _ => none
theorem e_X12_hex_0 {n d : Nat} {S : GS} {a1 : Int} : f_X12_hex (n + 1) d 0 S [a1] = b_X12_hex_0 n d (f_X12_hex n) S a1 := rfl

def b_X12_isBlank_0 (n d : Nat) (rec : Nat → Nat → GS → List Int → Option (Int × GS)) (S : GS) : Option (Int × GS) :=
  gv (S.1 500 16) fun x1 =>
  gv (S.1 500 15) fun x3 =>
  gg (inr x1) <|
  gg (inr x3) <|
  if x3 ≤ x1 then (
    some (0, S)
  ) else (
    gv (S.1 500 16) fun x8 =>
    gg (0 ≤ x8 ∧ x8 < ((1000 : Nat) : Int) ∧ x8 < 2147483648) <|
    gv (S.1 508 (x8 : Int).toNat) fun x11 =>
    gg (inr x11) <|
    if x11 = 32 then (
      some (1, S)
    ) else (
      gv (S.1 500 16) fun x15 =>
      gg (0 ≤ x15 ∧ x15 < ((1000 : Nat) : Int) ∧ x15 < 2147483648) <|
      gv (S.1 508 (x15 : Int).toNat) fun x18 =>
      gg (inr x18) <|
      if x18 ≠ 10 then (
        some (0, S)
      ) else (
        some (1, S)
      )
    )
  )
def f_X12_isBlank : Nat → Nat → Nat → GS → List Int → Option (Int × GS)
  | 0, _, _, _, _ => none
  | n + 1, d, pc, S, x => match pc, x with
    | 0, [] => b_X12_isBlank_0 n d (f_X12_isBlank n) S 
    | _, _ => none
theorem e_X12_isBlank_0 {n d : Nat} {S : GS} : f_X12_isBlank (n + 1) d 0 S [] = b_X12_isBlank_0 n d (f_X12_isBlank n) S  := rfl

def b_X12_sign_0 (n d : Nat) (rec : Nat → Nat → GS → List Int → Option (Int × GS)) (S : GS) : Option (Int × GS) :=
  gv (S.1 500 16) fun x1 =>
  gv (S.1 500 15) fun x3 =>
  gg (inr x1) <|
  gg (inr x3) <|
  if x3 ≤ x1 then (
    some ((-1), S)
  ) else (
    gv (S.1 500 16) fun x8 =>
    gg (0 ≤ x8 ∧ x8 < ((1000 : Nat) : Int) ∧ x8 < 2147483648) <|
    gv (S.1 508 (x8 : Int).toNat) fun x11 =>
    some (x11, S)
  )
def f_X12_sign : Nat → Nat → Nat → GS → List Int → Option (Int × GS)
  | 0, _, _, _, _ => none
  | n + 1, d, pc, S, x => match pc, x with
    | 0, [] => b_X12_sign_0 n d (f_X12_sign n) S 
    | _, _ => none
theorem e_X12_sign_0 {n d : Nat} {S : GS} : f_X12_sign (n + 1) d 0 S [] = b_X12_sign_0 n d (f_X12_sign n) S  := rfl

def b_X12_isFigure_0 (n d : Nat) (rec : Nat → Nat → GS → List Int → Option (Int × GS)) (S : GS) : Option (Int × GS) :=
  gg (1 ≤ d) <|
  gc (f_X12_sign n (d - 1) 0 S []) fun x2 S_3 =>
  gc (f_X12_in n (d - 1) 0 S_3 [x2, 48, 57]) fun x5 S_6 =>
  gg (x5 = 0 ∨ x5 = 1) <|
  some (x5, S_6)
def f_X12_isFigure : Nat → Nat → Nat → GS → List Int → Option (Int × GS)
  | 0, _, _, _, _ => none
  | n + 1, d, pc, S, x => match pc, x with
    | 0, [] => b_X12_isFigure_0 n d (f_X12_isFigure n) S 
    | _, _ => none
theorem e_X12_isFigure_0 {n d : Nat} {S : GS} : f_X12_isFigure (n + 1) d 0 S [] = b_X12_isFigure_0 n d (f_X12_isFigure n) S  := rfl

def b_X12_isSo_0 (n d : Nat) (rec : Nat → Nat → GS → List Int → Option (Int × GS)) (S : GS) (a1 : Int) (a2 : Int) (a3 : Int) : Option (Int × GS) :=
  gg (1 ≤ d) <|
  gc (f_X12_kind n (d - 1) 0 S [a1, a2]) fun x2 S_3 =>
  gg (inr x2) <|
  if x2 = 5 then (
    gv (S_3.1 500 30) fun x7 =>
    gv (x7 + 1) fun x9 =>
    gc (f_X12_wordOf n (d - 1) 0 S_3 [x9, a3]) fun x11 S_12 =>
    gc (f_X12_childByWord n (d - 1) 0 S_12 [a1, a2]) fun x14 S_15 =>
    gg (inr x14) <|
    if x14 ≠ (-1) then (
      gv (a3 + 1) fun x19 =>
      gv (S_15.1 500 31) fun x21 =>
      gc (f_X12_wordOf n (d - 1) 0 S_15 [x19, x21]) fun x23 S_24 =>
      gc (f_X12_writes n (d - 1) 0 S_24 [0, a1, x14, 0]) fun x26 S_27 =>
      gg ((0 : Int) ≤ 0 ∧ (0 : Int) < ((2 : Nat) : Int) ∧ (0 : Int) < 2147483648) <|
      gv (S_27.1 517 (0 : Int).toNat) fun x30 =>
      gv (S_27.1 500 13) fun x32 =>
      gg (inr x30) <|
      gg (inr x32) <|
      if x30 ≠ x32 then (
        rec d 82 S_27 [0, 0]
      ) else (
        rec d 82 S_27 [1, 0]
      )
    ) else (
      some (0, S_15)
    )
  ) else (
    some (0, S_3)
  )
def b_X12_isSo_82 (n d : Nat) (rec : Nat → Nat → GS → List Int → Option (Int × GS)) (S : GS) (a5 : Int) (a6 : Int) : Option (Int × GS) :=
  gv (S.1 500 13) fun x1 =>
  gg (inr a6) <|
  gg (inr x1) <|
  if x1 ≤ a6 then (
    gg (a5 = 0 ∨ a5 = 1) <|
    some (a5, S)
  ) else (
    gg (inr a5) <|
    if a5 = 0 then (
      gg (a5 = 0 ∨ a5 = 1) <|
      some (a5, S)
    ) else (
      gg (0 ≤ a6 ∧ a6 < ((80000 : Nat) : Int) ∧ a6 < 2147483648) <|
      gv (S.1 516 (a6 : Int).toNat) fun x11 =>
      gg (0 ≤ a6 ∧ a6 < ((1000 : Nat) : Int) ∧ a6 < 2147483648) <|
      gv (S.1 507 (a6 : Int).toNat) fun x14 =>
      gg (inr x11) <|
      gg (inr x14) <|
      if x11 ≠ x14 then (
        gv (a6 + 1) fun x19 =>
        rec d 82 S [0, x19]
      ) else (
        gv (a6 + 1) fun x21 =>
        rec d 82 S [1, x21]
      )
    )
  )
def f_X12_isSo : Nat → Nat → Nat → GS → List Int → Option (Int × GS)
  | 0, _, _, _, _ => none
  | n + 1, d, pc, S, x => match pc, x with
    | 0, [a1, a2, a3] => b_X12_isSo_0 n d (f_X12_isSo n) S a1 a2 a3
    | 82, [a5, a6] => b_X12_isSo_82 n d (f_X12_isSo n) S a5 a6
    | _, _ => none
theorem e_X12_isSo_0 {n d : Nat} {S : GS} {a1 : Int} {a2 : Int} {a3 : Int} : f_X12_isSo (n + 1) d 0 S [a1, a2, a3] = b_X12_isSo_0 n d (f_X12_isSo n) S a1 a2 a3 := rfl
theorem e_X12_isSo_82 {n d : Nat} {S : GS} {a5 : Int} {a6 : Int} : f_X12_isSo (n + 1) d 82 S [a5, a6] = b_X12_isSo_82 n d (f_X12_isSo n) S a5 a6 := rfl

def b_X12_isSound_0 (n d : Nat) (rec : Nat → Nat → GS → List Int → Option (Int × GS)) (S : GS) (a1 : Int) : Option (Int × GS) :=
  gg (1 ≤ d) <|
  gc (f_X12_isDoc n (d - 1) 0 S [a1]) fun x2 S_3 =>
  gc (f_X12_fails n (d - 1) 0 S_3 [x2, 1]) fun x5 S_6 =>
  gg (inr x5) <|
  if x5 ≠ 0 then (
    some (0, S_6)
  ) else (
    some (1, S_6)
  )
def f_X12_isSound : Nat → Nat → Nat → GS → List Int → Option (Int × GS)
  | 0, _, _, _, _ => none
  | n + 1, d, pc, S, x => match pc, x with
    | 0, [a1] => b_X12_isSound_0 n d (f_X12_isSound n) S a1
    | _, _ => none
theorem e_X12_isSound_0 {n d : Nat} {S : GS} {a1 : Int} : f_X12_isSound (n + 1) d 0 S [a1] = b_X12_isSound_0 n d (f_X12_isSound n) S a1 := rfl

def b_X12_joinsOne_0 (n d : Nat) (rec : Nat → Nat → GS → List Int → Option (Int × GS)) (S : GS) (a1 : Int) (a2 : Int) (a3 : Int) (a4 : Int) : Option (Int × GS) :=
  gv (S.1 500 45) fun x1 =>
  gv (S.1 500 46) fun x3 =>
  gg (1 ≤ d) <|
  gc (f_X12_areAlike n (d - 1) 0 S [x1, a2, x3, a3]) fun x6 S_7 =>
  gg (inr x6) <|
  if x6 ≠ 0 then (
    rec d 43 S_7 [a1, a2, a3, a4, x6, 0]
  ) else (
    gv (S_7.1 500 45) fun x11 =>
    gv (S_7.1 500 44) fun x13 =>
    gc (f_X12_areAlike n (d - 1) 0 S_7 [x11, a2, x13, a1]) fun x15 S_16 =>
    gg (inr x15) <|
    if x15 = 0 then (
      rec d 43 S_16 [a1, a2, a3, a4, x6, 0]
    ) else (
      rec d 43 S_16 [a1, a2, a3, a4, x6, 1]
    )
  )
def b_X12_joinsOne_43 (n d : Nat) (rec : Nat → Nat → GS → List Int → Option (Int × GS)) (S : GS) (a1 : Int) (a2 : Int) (a3 : Int) (a4 : Int) (a5 : Int) (s0 : Int) : Option (Int × GS) :=
  gg (inr a5) <|
  if a5 ≠ 0 then (
    gg (inr s0) <|
    if s0 = 0 then (
      rec d 82 S [a4, s0, a2]
    ) else (
      rec d 82 S [a4, s0, a3]
    )
  ) else (
    gg (inr s0) <|
    if s0 ≠ 0 then (
      if s0 = 0 then (
        rec d 82 S [a4, s0, a2]
      ) else (
        rec d 82 S [a4, s0, a3]
      )
    ) else (
      gv (S.1 500 46) fun x8 =>
      gv (S.1 500 44) fun x10 =>
      gg (1 ≤ d) <|
      gc (f_X12_areAlike n (d - 1) 0 S [x8, a3, x10, a1]) fun x13 S_14 =>
      gg (inr x13) <|
      if x13 = 0 then (
        gg (inr a2) <|
        if a2 = (-1) then (
          rec d 169 S_14 [a1, a4, 0]
        ) else (
          gg (inr a3) <|
          if a3 = (-1) then (
            rec d 169 S_14 [a1, a4, 0]
          ) else (
            gv (S_14.1 500 45) fun x22 =>
            gc (f_X12_kind n (d - 1) 0 S_14 [x22, a2]) fun x24 S_25 =>
            gg (inr x24) <|
            if x24 ≠ 5 then (
              rec d 169 S_25 [a1, a4, 0]
            ) else (
              gv (S_25.1 500 46) fun x29 =>
              gc (f_X12_kind n (d - 1) 0 S_25 [x29, a3]) fun x31 S_32 =>
              gg (inr x31) <|
              if x31 ≠ 5 then (
                rec d 169 S_32 [a1, a4, 0]
              ) else (
                rec d 169 S_32 [a1, a4, 1]
              )
            )
          )
        )
      ) else (
        if s0 = 0 then (
          rec d 82 S_14 [a4, s0, a2]
        ) else (
          rec d 82 S_14 [a4, s0, a3]
        )
      )
    )
  )
def b_X12_joinsOne_82 (n d : Nat) (rec : Nat → Nat → GS → List Int → Option (Int × GS)) (S : GS) (a4 : Int) (a6 : Int) (s0 : Int) : Option (Int × GS) :=
  gg (inr s0) <|
  if s0 = (-1) then (
    if s0 ≠ (-1) then (
      some (1, S)
    ) else (
      some (0, S)
    )
  ) else (
    gg (inr a6) <|
    if a6 = 0 then (
      gv (S.1 500 45) fun x6 =>
      rec d 109 S [a4, s0, x6, 40]
    ) else (
      gv (S.1 500 46) fun x8 =>
      rec d 109 S [a4, s0, x8, 40]
    )
  )
def b_X12_joinsOne_109 (n d : Nat) (rec : Nat → Nat → GS → List Int → Option (Int × GS)) (S : GS) (a4 : Int) (a7 : Int) (s0 : Int) (s1 : Int) : Option (Int × GS) :=
  gg (1 ≤ d) <|
  gc (f_X12_brings n (d - 1) 0 S [s1, s0, a7, a4]) fun x2 S_3 =>
  gg (inr a7) <|
  if a7 ≠ (-1) then (
    some (1, S_3)
  ) else (
    some (0, S_3)
  )
def b_X12_joinsOne_169 (n d : Nat) (rec : Nat → Nat → GS → List Int → Option (Int × GS)) (S : GS) (a1 : Int) (a4 : Int) (s0 : Int) : Option (Int × GS) :=
  gg (inr s0) <|
  if s0 = 0 then (
    rec d 221 S [0]
  ) else (
    gg (inr a1) <|
    if a1 = (-1) then (
      rec d 194 S [a4]
    ) else (
      gv (S.1 500 44) fun x5 =>
      gg (1 ≤ d) <|
      gc (f_X12_kind n (d - 1) 0 S [x5, a1]) fun x8 S_9 =>
      gg (inr x8) <|
      if x8 ≠ 5 then (
        rec d 221 S_9 [0]
      ) else (
        rec d 194 S_9 [a4]
      )
    )
  )
def b_X12_joinsOne_194 (n d : Nat) (rec : Nat → Nat → GS → List Int → Option (Int × GS)) (S : GS) (a4 : Int) : Option (Int × GS) :=
  gg (1 ≤ d) <|
  gc (f_X12_added n (d - 1) 0 S [40, 5]) fun x2 S_3 =>
  gg (inr a4) <|
  if a4 = 0 then (
    some (2, S_3)
  ) else (
    gc (f_X12_keyIs n (d - 1) 0 S_3 [40, x2]) fun x7 S_8 =>
    some (2, S_8)
  )
def b_X12_joinsOne_221 (n d : Nat) (rec : Nat → Nat → GS → List Int → Option (Int × GS)) (S : GS) (a8 : Int) : Option (Int × GS) :=
  gv (S.1 500 29) fun x1 =>
  gg (inr a8) <|
  gg (inr x1) <|
  if x1 ≤ a8 then (
    gv (S.1 500 57) fun x6 =>
    gv (x6 + 1) fun x8 =>
    gv (S.1 500 57) fun x10 =>
    gg (0 ≤ x10 ∧ x10 < ((402 : Nat) : Int) ∧ x10 < 2147483648) <|
    gv (S.1 537 (x10 : Int).toNat) fun x13 =>
    gv (S.1 500 29) fun x15 =>
    gv (x13 + x15) fun x17 =>
    gg (0 ≤ x8 ∧ x8 < ((402 : Nat) : Int) ∧ x8 < 2147483648) <|
    gv (gI S 537 (x8 : Int).toNat x17) fun S_20 =>
    gv (S_20.1 500 57) fun x22 =>
    gv (x22 + 1) fun x24 =>
    gv (gI S_20 500 57 x24) fun S_26 =>
    some (0, S_26)
  ) else (
    gv (S.1 500 57) fun x28 =>
    gg (0 ≤ x28 ∧ x28 < ((402 : Nat) : Int) ∧ x28 < 2147483648) <|
    gv (S.1 537 (x28 : Int).toNat) fun x31 =>
    gv (x31 + a8) fun x33 =>
    gg (0 ≤ a8 ∧ a8 < ((1000 : Nat) : Int) ∧ a8 < 2147483648) <|
    gv (S.1 518 (a8 : Int).toNat) fun x36 =>
    gg (0 ≤ x33 ∧ x33 < ((120000 : Nat) : Int) ∧ x33 < 2147483648) <|
    gv (gI S 538 (x33 : Int).toNat x36) fun S_39 =>
    gv (a8 + 1) fun x41 =>
    rec d 221 S_39 [x41]
  )
def f_X12_joinsOne : Nat → Nat → Nat → GS → List Int → Option (Int × GS)
  | 0, _, _, _, _ => none
  | n + 1, d, pc, S, x => match pc, x with
    | 0, [a1, a2, a3, a4] => b_X12_joinsOne_0 n d (f_X12_joinsOne n) S a1 a2 a3 a4
    | 43, [a1, a2, a3, a4, a5, s0] => b_X12_joinsOne_43 n d (f_X12_joinsOne n) S a1 a2 a3 a4 a5 s0
    | 82, [a4, a6, s0] => b_X12_joinsOne_82 n d (f_X12_joinsOne n) S a4 a6 s0
    | 109, [a4, a7, s0, s1] => b_X12_joinsOne_109 n d (f_X12_joinsOne n) S a4 a7 s0 s1
    | 169, [a1, a4, s0] => b_X12_joinsOne_169 n d (f_X12_joinsOne n) S a1 a4 s0
    | 194, [a4] => b_X12_joinsOne_194 n d (f_X12_joinsOne n) S a4
    | 221, [a8] => b_X12_joinsOne_221 n d (f_X12_joinsOne n) S a8
    | _, _ => none
theorem e_X12_joinsOne_0 {n d : Nat} {S : GS} {a1 : Int} {a2 : Int} {a3 : Int} {a4 : Int} : f_X12_joinsOne (n + 1) d 0 S [a1, a2, a3, a4] = b_X12_joinsOne_0 n d (f_X12_joinsOne n) S a1 a2 a3 a4 := rfl
theorem e_X12_joinsOne_43 {n d : Nat} {S : GS} {a1 : Int} {a2 : Int} {a3 : Int} {a4 : Int} {a5 : Int} {s0 : Int} : f_X12_joinsOne (n + 1) d 43 S [a1, a2, a3, a4, a5, s0] = b_X12_joinsOne_43 n d (f_X12_joinsOne n) S a1 a2 a3 a4 a5 s0 := rfl
theorem e_X12_joinsOne_82 {n d : Nat} {S : GS} {a4 : Int} {a6 : Int} {s0 : Int} : f_X12_joinsOne (n + 1) d 82 S [a4, a6, s0] = b_X12_joinsOne_82 n d (f_X12_joinsOne n) S a4 a6 s0 := rfl
theorem e_X12_joinsOne_109 {n d : Nat} {S : GS} {a4 : Int} {a7 : Int} {s0 : Int} {s1 : Int} : f_X12_joinsOne (n + 1) d 109 S [a4, a7, s0, s1] = b_X12_joinsOne_109 n d (f_X12_joinsOne n) S a4 a7 s0 s1 := rfl
theorem e_X12_joinsOne_169 {n d : Nat} {S : GS} {a1 : Int} {a4 : Int} {s0 : Int} : f_X12_joinsOne (n + 1) d 169 S [a1, a4, s0] = b_X12_joinsOne_169 n d (f_X12_joinsOne n) S a1 a4 s0 := rfl
theorem e_X12_joinsOne_194 {n d : Nat} {S : GS} {a4 : Int} : f_X12_joinsOne (n + 1) d 194 S [a4] = b_X12_joinsOne_194 n d (f_X12_joinsOne n) S a4 := rfl
theorem e_X12_joinsOne_221 {n d : Nat} {S : GS} {a8 : Int} : f_X12_joinsOne (n + 1) d 221 S [a8] = b_X12_joinsOne_221 n d (f_X12_joinsOne n) S a8 := rfl

def b_X12_mapOf_0 (n d : Nat) (rec : Nat → Nat → GS → List Int → Option (Int × GS)) (S : GS) (a1 : Int) (a2 : Int) : Option (Int × GS) :=
  gg (inr a2) <|
  if a2 ≠ 0 then (
    if a2 ≠ 1 then (
      gg (0 ≤ a1 ∧ a1 < ((16 : Nat) : Int) ∧ a1 < 2147483648) <|
      gv (S.1 530 (a1 : Int).toNat) fun x5 =>
      some (x5, S)
    ) else (
      gg (0 ≤ a1 ∧ a1 < ((16 : Nat) : Int) ∧ a1 < 2147483648) <|
      gv (S.1 529 (a1 : Int).toNat) fun x8 =>
      some (x8, S)
    )
  ) else (
    gg (0 ≤ a1 ∧ a1 < ((16 : Nat) : Int) ∧ a1 < 2147483648) <|
    gv (S.1 528 (a1 : Int).toNat) fun x11 =>
    some (x11, S)
  )
def f_X12_mapOf : Nat → Nat → Nat → GS → List Int → Option (Int × GS)
  | 0, _, _, _, _ => none
  | n + 1, d, pc, S, x => match pc, x with
    | 0, [a1, a2] => b_X12_mapOf_0 n d (f_X12_mapOf n) S a1 a2
    | _, _ => none
theorem e_X12_mapOf_0 {n d : Nat} {S : GS} {a1 : Int} {a2 : Int} : f_X12_mapOf (n + 1) d 0 S [a1, a2] = b_X12_mapOf_0 n d (f_X12_mapOf n) S a1 a2 := rfl

def b_X12_joins_0 (n d : Nat) (rec : Nat → Nat → GS → List Int → Option (Int × GS)) (S : GS) : Option (Int × GS) :=
  gg (1 ≤ d) <|
  gc (f_X12_begin n (d - 1) 0 S [40]) fun x2 S_3 =>
  gv (gI S_3 500 57 0) fun S_5 =>
  gg ((0 : Int) ≤ 0 ∧ (0 : Int) < ((402 : Nat) : Int) ∧ (0 : Int) < 2147483648) <|
  gv (gI S_5 537 (0 : Int).toNat 0) fun S_8 =>
  gv (gI S_8 500 29 0) fun S_10 =>
  gc (f_X12_joinsOne n (d - 1) 0 S_10 [0, 0, 0, 0]) fun x12 S_13 =>
  gg (inr x12) <|
  if x12 ≠ 2 then (
    rec d 47 S_13 [0]
  ) else (
    gc (f_X12_goesInto n (d - 1) 0 S_13 [0, 0, 0, 0]) fun x17 S_18 =>
    rec d 47 S_18 [1]
  )
def b_X12_joins_47 (n d : Nat) (rec : Nat → Nat → GS → List Int → Option (Int × GS)) (S : GS) (a1 : Int) : Option (Int × GS) :=
  gg (inr a1) <|
  if a1 ≤ 0 then (
    some (0, S)
  ) else (
    gv (a1 - 1) fun x3 =>
    gg (0 ≤ x3 ∧ x3 < ((16 : Nat) : Int) ∧ x3 < 2147483648) <|
    gv (S.1 531 (x3 : Int).toNat) fun x6 =>
    gg (1 ≤ d) <|
    gc (f_X12_mapOf n (d - 1) 0 S [x3, x6]) fun x9 S_10 =>
    gg (inr x9) <|
    if x9 = (-1) then (
      rec d 96 S_10 [a1, x3, x6]
    ) else (
      gv (S_10.1 532 (x3 : Int).toNat) fun x14 =>
      gc (f_X12_docOf n (d - 1) 0 S_10 [x6]) fun x16 S_17 =>
      gc (f_X12_endOf n (d - 1) 0 S_17 [x16, x9]) fun x19 S_20 =>
      gg (inr x14) <|
      gg (inr x19) <|
      if x14 ≠ x19 then (
        gv (S_20.1 532 (x3 : Int).toNat) fun x25 =>
        gc (f_X12_docOf n (d - 1) 0 S_20 [x6]) fun x27 S_28 =>
        gc (f_X12_endOf n (d - 1) 0 S_28 [x27, x25]) fun x30 S_31 =>
        gv (gI S_31 532 (x3 : Int).toNat x30) fun S_33 =>
        gv (S_33.1 528 (x3 : Int).toNat) fun x35 =>
        gg (inr x35) <|
        if x35 ≠ (-1) then (
          gv (S_33.1 500 44) fun x39 =>
          gv (S_33.1 528 (x3 : Int).toNat) fun x41 =>
          gc (f_X12_childLike n (d - 1) 0 S_33 [x39, x41, x27, x25]) fun x43 S_44 =>
          rec d 197 S_44 [a1, x3, x6, x25, x27, x43]
        ) else (
          rec d 197 S_33 [a1, x3, x6, x25, x27, (-1)]
        )
      ) else (
        rec d 96 S_20 [a1, x3, x6]
      )
    )
  )
def b_X12_joins_96 (n d : Nat) (rec : Nat → Nat → GS → List Int → Option (Int × GS)) (S : GS) (a1 : Int) (a2 : Int) (a3 : Int) : Option (Int × GS) :=
  gg (0 ≤ a2 ∧ a2 < ((16 : Nat) : Int) ∧ a2 < 2147483648) <|
  gv (S.1 531 (a2 : Int).toNat) fun x2 =>
  gv (x2 + 1) fun x4 =>
  gv (gI S 531 (a2 : Int).toNat x4) fun S_6 =>
  gg (inr a3) <|
  if a3 ≠ 2 then (
    gv (a3 + 1) fun x10 =>
    gg (1 ≤ d) <|
    gc (f_X12_mapOf n (d - 1) 0 S_6 [a2, x10]) fun x13 S_14 =>
    gv (x13 + 1) fun x16 =>
    gv (gI S_14 532 (a2 : Int).toNat x16) fun S_18 =>
    rec d 47 S_18 [a1]
  ) else (
    gv (a1 + (-1)) fun x20 =>
    rec d 47 S_6 [x20]
  )
def b_X12_joins_197 (n d : Nat) (rec : Nat → Nat → GS → List Int → Option (Int × GS)) (S : GS) (a1 : Int) (a2 : Int) (a3 : Int) (a5 : Int) (a6 : Int) (s0 : Int) : Option (Int × GS) :=
  gv (S.1 500 45) fun x1 =>
  gg (0 ≤ a2 ∧ a2 < ((16 : Nat) : Int) ∧ a2 < 2147483648) <|
  gv (S.1 529 (a2 : Int).toNat) fun x4 =>
  gg (1 ≤ d) <|
  gc (f_X12_childLike n (d - 1) 0 S [x1, x4, a6, a5]) fun x7 S_8 =>
  gv (S_8.1 500 46) fun x10 =>
  gv (S_8.1 530 (a2 : Int).toNat) fun x12 =>
  gc (f_X12_childLike n (d - 1) 0 S_8 [x10, x12, a6, a5]) fun x14 S_15 =>
  gg (inr a3) <|
  if a3 = 0 then (
    rec d 260 S_15 [a1, a2, a5, a6, s0, x7, x14]
  ) else (
    gg (inr s0) <|
    if s0 ≠ (-1) then (
      rec d 47 S_15 [a1]
    ) else (
      if a3 = 1 then (
        rec d 260 S_15 [a1, a2, a5, a6, s0, x7, x14]
      ) else (
        gg (inr x7) <|
        if x7 ≠ (-1) then (
          rec d 47 S_15 [a1]
        ) else (
          rec d 260 S_15 [a1, a2, a5, a6, s0, x7, x14]
        )
      )
    )
  )
def b_X12_joins_260 (n d : Nat) (rec : Nat → Nat → GS → List Int → Option (Int × GS)) (S : GS) (a1 : Int) (a2 : Int) (a5 : Int) (a6 : Int) (a7 : Int) (a8 : Int) (a9 : Int) : Option (Int × GS) :=
  gg (1 ≤ d) <|
  gc (f_X12_wordOfKey n (d - 1) 0 S [a6, a5]) fun x2 S_3 =>
  gg (0 ≤ a2 ∧ a2 < ((16 : Nat) : Int) ∧ a2 < 2147483648) <|
  gv (S_3.1 534 (a2 : Int).toNat) fun x6 =>
  gv (gI S_3 500 29 x6) fun S_8 =>
  gc (f_X12_addsWord n (d - 1) 0 S_8 []) fun x10 S_11 =>
  gc (f_X12_joinsOne n (d - 1) 0 S_11 [a7, a8, a9, 1]) fun x13 S_14 =>
  gv (S_14.1 533 (a2 : Int).toNat) fun x16 =>
  gc (f_X12_at n (d - 1) 0 S_14 [40, x16]) fun x18 S_19 =>
  gv (x18 + 3) fun x21 =>
  gg (0 ≤ x21 ∧ x21 < ((295728 : Nat) : Int) ∧ x21 < 2147483648) <|
  gv (S_19.1 501 (x21 : Int).toNat) fun x24 =>
  gg (inr x13) <|
  if x13 ≠ 0 then (
    rec d 324 S_19 [a1, a7, a8, a9, x13, 1, x24, x21]
  ) else (
    rec d 324 S_19 [a1, a7, a8, a9, x13, 0, x24, x21]
  )
def b_X12_joins_324 (n d : Nat) (rec : Nat → Nat → GS → List Int → Option (Int × GS)) (S : GS) (a1 : Int) (a7 : Int) (a8 : Int) (a9 : Int) (a10 : Int) (s0 : Int) (s1 : Int) (s2 : Int) : Option (Int × GS) :=
  gv (s1 + s0) fun x1 =>
  gg (0 ≤ s2 ∧ s2 < ((295728 : Nat) : Int) ∧ s2 < 2147483648) <|
  gv (gI S 501 (s2 : Int).toNat x1) fun S_4 =>
  gg (inr a10) <|
  if a10 ≠ 2 then (
    rec d 47 S_4 [a1]
  ) else (
    gg (1 ≤ d) <|
    gc (f_X12_goesInto n (d - 1) 0 S_4 [a1, a7, a8, a9]) fun x9 S_10 =>
    gv (a1 + 1) fun x12 =>
    rec d 47 S_10 [x12]
  )
def f_X12_joins : Nat → Nat → Nat → GS → List Int → Option (Int × GS)
  | 0, _, _, _, _ => none
  | n + 1, d, pc, S, x => match pc, x with
    | 0, [] => b_X12_joins_0 n d (f_X12_joins n) S 
    | 47, [a1] => b_X12_joins_47 n d (f_X12_joins n) S a1
    | 96, [a1, a2, a3] => b_X12_joins_96 n d (f_X12_joins n) S a1 a2 a3
    | 197, [a1, a2, a3, a5, a6, s0] => b_X12_joins_197 n d (f_X12_joins n) S a1 a2 a3 a5 a6 s0
    | 260, [a1, a2, a5, a6, a7, a8, a9] => b_X12_joins_260 n d (f_X12_joins n) S a1 a2 a5 a6 a7 a8 a9
    | 324, [a1, a7, a8, a9, a10, s0, s1, s2] => b_X12_joins_324 n d (f_X12_joins n) S a1 a7 a8 a9 a10 s0 s1 s2
    | _, _ => none
theorem e_X12_joins_0 {n d : Nat} {S : GS} : f_X12_joins (n + 1) d 0 S [] = b_X12_joins_0 n d (f_X12_joins n) S  := rfl
theorem e_X12_joins_47 {n d : Nat} {S : GS} {a1 : Int} : f_X12_joins (n + 1) d 47 S [a1] = b_X12_joins_47 n d (f_X12_joins n) S a1 := rfl
theorem e_X12_joins_96 {n d : Nat} {S : GS} {a1 : Int} {a2 : Int} {a3 : Int} : f_X12_joins (n + 1) d 96 S [a1, a2, a3] = b_X12_joins_96 n d (f_X12_joins n) S a1 a2 a3 := rfl
theorem e_X12_joins_197 {n d : Nat} {S : GS} {a1 : Int} {a2 : Int} {a3 : Int} {a5 : Int} {a6 : Int} {s0 : Int} : f_X12_joins (n + 1) d 197 S [a1, a2, a3, a5, a6, s0] = b_X12_joins_197 n d (f_X12_joins n) S a1 a2 a3 a5 a6 s0 := rfl
theorem e_X12_joins_260 {n d : Nat} {S : GS} {a1 : Int} {a2 : Int} {a5 : Int} {a6 : Int} {a7 : Int} {a8 : Int} {a9 : Int} : f_X12_joins (n + 1) d 260 S [a1, a2, a5, a6, a7, a8, a9] = b_X12_joins_260 n d (f_X12_joins n) S a1 a2 a5 a6 a7 a8 a9 := rfl
theorem e_X12_joins_324 {n d : Nat} {S : GS} {a1 : Int} {a7 : Int} {a8 : Int} {a9 : Int} {a10 : Int} {s0 : Int} {s1 : Int} {s2 : Int} : f_X12_joins (n + 1) d 324 S [a1, a7, a8, a9, a10, s0, s1, s2] = b_X12_joins_324 n d (f_X12_joins n) S a1 a7 a8 a9 a10 s0 s1 s2 := rfl

def b_X12_join_0 (n d : Nat) (rec : Nat → Nat → GS → List Int → Option (Int × GS)) (S : GS) (a1 : Int) (a2 : Int) (a3 : Int) : Option (Int × GS) :=
  gg (1 ≤ d) <|
  gc (f_X12_isDoc n (d - 1) 0 S [a1]) fun x2 S_3 =>
  gg (inr x2) <|
  if x2 = 0 then (
    rec d 30 S_3 [a1, a2, a3, 0]
  ) else (
    gc (f_X12_isDoc n (d - 1) 0 S_3 [a2]) fun x7 S_8 =>
    gg (inr x7) <|
    if x7 = 0 then (
      rec d 30 S_8 [a1, a2, a3, 0]
    ) else (
      gc (f_X12_isDoc n (d - 1) 0 S_8 [a3]) fun x12 S_13 =>
      gg (inr x12) <|
      if x12 = 0 then (
        rec d 30 S_13 [a1, a2, a3, 0]
      ) else (
        rec d 30 S_13 [a1, a2, a3, 1]
      )
    )
  )
def b_X12_join_30 (n d : Nat) (rec : Nat → Nat → GS → List Int → Option (Int × GS)) (S : GS) (a1 : Int) (a2 : Int) (a3 : Int) (s0 : Int) : Option (Int × GS) :=
  gg (1 ≤ d) <|
  gc (f_X12_fails n (d - 1) 0 S [s0, 1]) fun x2 S_3 =>
  gg (inr x2) <|
  if x2 = 0 then (
    gv (gI S_3 500 44 a1) fun S_7 =>
    gv (gI S_7 500 45 a2) fun S_9 =>
    gv (gI S_9 500 46 a3) fun S_11 =>
    gc (f_X12_joins n (d - 1) 0 S_11 []) fun x13 S_14 =>
    gv (S_14.1 500 57) fun x16 =>
    gg (inr x16) <|
    if x16 ≠ 0 then (
      gv (S_14.1 500 57) fun x20 =>
      gv (gI S_14 500 54 x20) fun S_22 =>
      rec d 109 S_22 [0]
    ) else (
      gc (f_X12_isWhole n (d - 1) 0 S_14 [40]) fun x24 S_25 =>
      gg (inr x24) <|
      if x24 = 0 then (
        rec d 89 S_25 [0]
      ) else (
        gv (S_25.1 500 1) fun x29 =>
        gg (inr x29) <|
        if 40 ≤ x29 then (
          rec d 89 S_25 [0]
        ) else (
          rec d 89 S_25 [1]
        )
      )
    )
  ) else (
    some (0, S_3)
  )
def b_X12_join_89 (n d : Nat) (rec : Nat → Nat → GS → List Int → Option (Int × GS)) (S : GS) (s0 : Int) : Option (Int × GS) :=
  gg (1 ≤ d) <|
  gc (f_X12_fails n (d - 1) 0 S [s0, 2]) fun x2 S_3 =>
  gg (inr x2) <|
  if x2 = 0 then (
    gv (S_3.1 500 57) fun x7 =>
    gv (gI S_3 500 54 x7) fun S_9 =>
    rec d 109 S_9 [0]
  ) else (
    some (0, S_3)
  )
def b_X12_join_109 (n d : Nat) (rec : Nat → Nat → GS → List Int → Option (Int × GS)) (S : GS) (a4 : Int) : Option (Int × GS) :=
  gv (S.1 500 57) fun x1 =>
  gg (inr a4) <|
  gg (inr x1) <|
  if x1 < a4 then (
    rec d 141 S [0]
  ) else (
    gg (0 ≤ a4 ∧ a4 < ((402 : Nat) : Int) ∧ a4 < 2147483648) <|
    gv (S.1 537 (a4 : Int).toNat) fun x7 =>
    gv (gI S 535 (a4 : Int).toNat x7) fun S_9 =>
    gv (a4 + 1) fun x11 =>
    rec d 109 S_9 [x11]
  )
def b_X12_join_141 (n d : Nat) (rec : Nat → Nat → GS → List Int → Option (Int × GS)) (S : GS) (a4 : Int) : Option (Int × GS) :=
  gv (S.1 500 57) fun x1 =>
  gg (0 ≤ x1 ∧ x1 < ((402 : Nat) : Int) ∧ x1 < 2147483648) <|
  gv (S.1 537 (x1 : Int).toNat) fun x4 =>
  gg (inr a4) <|
  gg (inr x4) <|
  if x4 ≤ a4 then (
    gv (S.1 500 57) fun x9 =>
    gg (inr x9) <|
    if x9 ≤ 0 then (
      gg (1 ≤ d) <|
      gc (f_X12_keeps n (d - 1) 0 S [40]) fun x14 S_15 =>
      some (x14, S_15)
    ) else (
      some ((-1), S)
    )
  ) else (
    gg (0 ≤ a4 ∧ a4 < ((120000 : Nat) : Int) ∧ a4 < 2147483648) <|
    gv (S.1 538 (a4 : Int).toNat) fun x18 =>
    gv (gI S 536 (a4 : Int).toNat x18) fun S_20 =>
    gv (a4 + 1) fun x22 =>
    rec d 141 S_20 [x22]
  )
def f_X12_join : Nat → Nat → Nat → GS → List Int → Option (Int × GS)
  | 0, _, _, _, _ => none
  | n + 1, d, pc, S, x => match pc, x with
    | 0, [a1, a2, a3] => b_X12_join_0 n d (f_X12_join n) S a1 a2 a3
    | 30, [a1, a2, a3, s0] => b_X12_join_30 n d (f_X12_join n) S a1 a2 a3 s0
    | 89, [s0] => b_X12_join_89 n d (f_X12_join n) S s0
    | 109, [a4] => b_X12_join_109 n d (f_X12_join n) S a4
    | 141, [a4] => b_X12_join_141 n d (f_X12_join n) S a4
    | _, _ => none
theorem e_X12_join_0 {n d : Nat} {S : GS} {a1 : Int} {a2 : Int} {a3 : Int} : f_X12_join (n + 1) d 0 S [a1, a2, a3] = b_X12_join_0 n d (f_X12_join n) S a1 a2 a3 := rfl
theorem e_X12_join_30 {n d : Nat} {S : GS} {a1 : Int} {a2 : Int} {a3 : Int} {s0 : Int} : f_X12_join (n + 1) d 30 S [a1, a2, a3, s0] = b_X12_join_30 n d (f_X12_join n) S a1 a2 a3 s0 := rfl
theorem e_X12_join_89 {n d : Nat} {S : GS} {s0 : Int} : f_X12_join (n + 1) d 89 S [s0] = b_X12_join_89 n d (f_X12_join n) S s0 := rfl
theorem e_X12_join_109 {n d : Nat} {S : GS} {a4 : Int} : f_X12_join (n + 1) d 109 S [a4] = b_X12_join_109 n d (f_X12_join n) S a4 := rfl
theorem e_X12_join_141 {n d : Nat} {S : GS} {a4 : Int} : f_X12_join (n + 1) d 141 S [a4] = b_X12_join_141 n d (f_X12_join n) S a4 := rfl

def b_X12_kindAhead_0 (n d : Nat) (rec : Nat → Nat → GS → List Int → Option (Int × GS)) (S : GS) : Option (Int × GS) :=
  gg (1 ≤ d) <|
  gc (f_X12_sign n (d - 1) 0 S []) fun x2 S_3 =>
  gg (inr x2) <|
  if x2 ≠ 110 then (
    if x2 = 116 then (
      some (1, S_3)
    ) else (
      if x2 ≠ 102 then (
        if x2 ≠ 34 then (
          if x2 ≠ 91 then (
            if x2 ≠ 123 then (
              if x2 = 45 then (
                some (2, S_3)
              ) else (
                gc (f_X12_isFigure n (d - 1) 0 S_3 []) fun x13 S_14 =>
                gg (inr x13) <|
                if x13 = 0 then (
                  some ((-1), S_14)
                ) else (
                  some (2, S_14)
                )
              )
            ) else (
              some (5, S_3)
            )
          ) else (
            some (4, S_3)
          )
        ) else (
          some (3, S_3)
        )
      ) else (
        some (1, S_3)
      )
    )
  ) else (
    some (0, S_3)
  )
def f_X12_kindAhead : Nat → Nat → Nat → GS → List Int → Option (Int × GS)
  | 0, _, _, _, _ => none
  | n + 1, d, pc, S, x => match pc, x with
    | 0, [] => b_X12_kindAhead_0 n d (f_X12_kindAhead n) S 
    | _, _ => none
theorem e_X12_kindAhead_0 {n d : Nat} {S : GS} : f_X12_kindAhead (n + 1) d 0 S [] = b_X12_kindAhead_0 n d (f_X12_kindAhead n) S  := rfl

def b_X12_lays_0 (n d : Nat) (rec : Nat → Nat → GS → List Int → Option (Int × GS)) (S : GS) (a1 : Int) (a2 : Int) (a3 : Int) : Option (Int × GS) :=
  gg (1 ≤ d) <|
  gc (f_X12_becomes n (d - 1) 0 S [42, a1]) fun x2 S_3 =>
  rec d 10 S_3 [a2, a3, 0]
def b_X12_lays_10 (n d : Nat) (rec : Nat → Nat → GS → List Int → Option (Int × GS)) (S : GS) (a2 : Int) (a3 : Int) (a4 : Int) : Option (Int × GS) :=
  gg (inr a4) <|
  gg (inr a3) <|
  if a3 ≤ a4 then (
    some ((-1), S)
  ) else (
    gg (1 ≤ d) <|
    gc (f_X12_childAt n (d - 1) 0 S [a2, 0, a4]) fun x5 S_6 =>
    gc (f_X12_does n (d - 1) 0 S_6 [a2, x5]) fun x8 S_9 =>
    gg (inr x8) <|
    if x8 ≠ 0 then (
      gv (a4 + 1) fun x13 =>
      rec d 10 S_9 [a2, a3, x13]
    ) else (
      some (a4, S_9)
    )
  )
def f_X12_lays : Nat → Nat → Nat → GS → List Int → Option (Int × GS)
  | 0, _, _, _, _ => none
  | n + 1, d, pc, S, x => match pc, x with
    | 0, [a1, a2, a3] => b_X12_lays_0 n d (f_X12_lays n) S a1 a2 a3
    | 10, [a2, a3, a4] => b_X12_lays_10 n d (f_X12_lays n) S a2 a3 a4
    | _, _ => none
theorem e_X12_lays_0 {n d : Nat} {S : GS} {a1 : Int} {a2 : Int} {a3 : Int} : f_X12_lays (n + 1) d 0 S [a1, a2, a3] = b_X12_lays_0 n d (f_X12_lays n) S a1 a2 a3 := rfl
theorem e_X12_lays_10 {n d : Nat} {S : GS} {a2 : Int} {a3 : Int} {a4 : Int} : f_X12_lays (n + 1) d 10 S [a2, a3, a4] = b_X12_lays_10 n d (f_X12_lays n) S a2 a3 a4 := rfl

def b_X12_lay_0 (n d : Nat) (rec : Nat → Nat → GS → List Int → Option (Int × GS)) (S : GS) (a1 : Int) (a2 : Int) : Option (Int × GS) :=
  gg (1 ≤ d) <|
  gc (f_X12_isDoc n (d - 1) 0 S [a1]) fun x2 S_3 =>
  gg (inr x2) <|
  if x2 = 0 then (
    rec d 22 S_3 [a1, a2, 0]
  ) else (
    gc (f_X12_isDoc n (d - 1) 0 S_3 [a2]) fun x7 S_8 =>
    gg (inr x7) <|
    if x7 = 0 then (
      rec d 22 S_8 [a1, a2, 0]
    ) else (
      rec d 22 S_8 [a1, a2, 1]
    )
  )
def b_X12_lay_22 (n d : Nat) (rec : Nat → Nat → GS → List Int → Option (Int × GS)) (S : GS) (a1 : Int) (a2 : Int) (s0 : Int) : Option (Int × GS) :=
  gg (1 ≤ d) <|
  gc (f_X12_fails n (d - 1) 0 S [s0, 1]) fun x2 S_3 =>
  gg (inr x2) <|
  if x2 = 0 then (
    gc (f_X12_kind n (d - 1) 0 S_3 [a2, 0]) fun x7 S_8 =>
    gg (inr x7) <|
    if x7 = 4 then (
      gc (f_X12_part n (d - 1) 0 S_8 [a2, 0, 3]) fun x12 S_13 =>
      gc (f_X12_lays n (d - 1) 0 S_13 [a1, a2, x12]) fun x15 S_16 =>
      gg (inr x15) <|
      if x15 = (-1) then (
        gv (S_16.1 500 1) fun x20 =>
        gg (inr x20) <|
        if 40 ≤ x20 then (
          rec d 82 S_16 [0]
        ) else (
          rec d 82 S_16 [1]
        )
      ) else (
        gv ((-2) - x15) fun x24 =>
        some (x24, S_16)
      )
    ) else (
      some ((-1), S_8)
    )
  ) else (
    some (0, S_3)
  )
def b_X12_lay_82 (n d : Nat) (rec : Nat → Nat → GS → List Int → Option (Int × GS)) (S : GS) (s0 : Int) : Option (Int × GS) :=
  gg (1 ≤ d) <|
  gc (f_X12_fails n (d - 1) 0 S [s0, 2]) fun x2 S_3 =>
  gg (inr x2) <|
  if x2 = 0 then (
    gc (f_X12_keeps n (d - 1) 0 S_3 [42]) fun x7 S_8 =>
    some (x7, S_8)
  ) else (
    some (0, S_3)
  )
def f_X12_lay : Nat → Nat → Nat → GS → List Int → Option (Int × GS)
  | 0, _, _, _, _ => none
  | n + 1, d, pc, S, x => match pc, x with
    | 0, [a1, a2] => b_X12_lay_0 n d (f_X12_lay n) S a1 a2
    | 22, [a1, a2, s0] => b_X12_lay_22 n d (f_X12_lay n) S a1 a2 s0
    | 82, [s0] => b_X12_lay_82 n d (f_X12_lay n) S s0
    | _, _ => none
theorem e_X12_lay_0 {n d : Nat} {S : GS} {a1 : Int} {a2 : Int} : f_X12_lay (n + 1) d 0 S [a1, a2] = b_X12_lay_0 n d (f_X12_lay n) S a1 a2 := rfl
theorem e_X12_lay_22 {n d : Nat} {S : GS} {a1 : Int} {a2 : Int} {s0 : Int} : f_X12_lay (n + 1) d 22 S [a1, a2, s0] = b_X12_lay_22 n d (f_X12_lay n) S a1 a2 s0 := rfl
theorem e_X12_lay_82 {n d : Nat} {S : GS} {s0 : Int} : f_X12_lay (n + 1) d 82 S [s0] = b_X12_lay_82 n d (f_X12_lay n) S s0 := rfl

def b_X12_patchRows_0 (n d : Nat) (rec : Nat → Nat → GS → List Int → Option (Int × GS)) (S : GS) (a1 : Int) (a2 : Int) (a3 : Int) (a4 : Int) : Option (Int × GS) :=
  gg (1 ≤ d) <|
  gc (f_X12_part n (d - 1) 0 S [a1, a2, 3]) fun x2 S_3 =>
  gc (f_X12_part n (d - 1) 0 S_3 [a3, a4, 3]) fun x5 S_6 =>
  rec d 23 S_6 [a1, a2, a3, a4, x2, x5, x2]
def b_X12_patchRows_23 (n d : Nat) (rec : Nat → Nat → GS → List Int → Option (Int × GS)) (S : GS) (a1 : Int) (a2 : Int) (a3 : Int) (a4 : Int) (a5 : Int) (a6 : Int) (a7 : Int) : Option (Int × GS) :=
  gg (inr a7) <|
  if a7 < 0 then (
    rec d 219 S [a1, a2, a3, a4, a5, a6, 0]
  ) else (
    rec d 32 S [a1, a2, a3, a4, a5, a6, a7, a6]
  )
def b_X12_patchRows_32 (n d : Nat) (rec : Nat → Nat → GS → List Int → Option (Int × GS)) (S : GS) (a1 : Int) (a2 : Int) (a3 : Int) (a4 : Int) (a5 : Int) (a6 : Int) (a7 : Int) (a8 : Int) : Option (Int × GS) :=
  gg (inr a8) <|
  if a8 < 0 then (
    gv (a7 + (-1)) fun x3 =>
    rec d 23 S [a1, a2, a3, a4, a5, a6, x3]
  ) else (
    gg (inr a7) <|
    gg (inr a5) <|
    if a5 ≤ a7 then (
      rec d 189 S [a1, a2, a3, a4, a5, a6, a7, a8, 0]
    ) else (
      gg (inr a6) <|
      if a6 ≤ a8 then (
        rec d 189 S [a1, a2, a3, a4, a5, a6, a7, a8, 0]
      ) else (
        gg (1 ≤ d) <|
        gc (f_X12_childAt n (d - 1) 0 S [a1, a2, a7]) fun x11 S_12 =>
        gc (f_X12_childAt n (d - 1) 0 S_12 [a3, a4, a8]) fun x14 S_15 =>
        gc (f_X12_areEqual n (d - 1) 0 S_15 [a1, x11, a3, x14]) fun x17 S_18 =>
        gg (inr x17) <|
        if x17 = 0 then (
          rec d 103 S_18 [a1, a2, a3, a4, a5, a6, a7, a8, 0]
        ) else (
          gv (a7 + 1) fun x22 =>
          gv (101 * x22) fun x24 =>
          gv (x24 + a8) fun x26 =>
          gv (x26 + 1) fun x28 =>
          gg (0 ≤ x28 ∧ x28 < ((10201 : Nat) : Int) ∧ x28 < 2147483648) <|
          gv (S_18.1 523 (x28 : Int).toNat) fun x31 =>
          gv (x31 + 1) fun x33 =>
          rec d 103 S_18 [a1, a2, a3, a4, a5, a6, a7, a8, x33]
        )
      )
    )
  )
def b_X12_patchRows_103 (n d : Nat) (rec : Nat → Nat → GS → List Int → Option (Int × GS)) (S : GS) (a1 : Int) (a2 : Int) (a3 : Int) (a4 : Int) (a5 : Int) (a6 : Int) (a7 : Int) (a8 : Int) (s0 : Int) : Option (Int × GS) :=
  gv (a7 + 1) fun x1 =>
  gv (101 * x1) fun x3 =>
  gv (x3 + a8) fun x5 =>
  gg (0 ≤ x5 ∧ x5 < ((10201 : Nat) : Int) ∧ x5 < 2147483648) <|
  gv (S.1 523 (x5 : Int).toNat) fun x8 =>
  gg (inr x8) <|
  gg (inr s0) <|
  if x8 ≤ s0 then (
    rec d 145 S [a1, a2, a3, a4, a5, a6, a7, a8, s0]
  ) else (
    gv (a7 + 1) fun x13 =>
    gv (101 * x13) fun x15 =>
    gv (x15 + a8) fun x17 =>
    gg (0 ≤ x17 ∧ x17 < ((10201 : Nat) : Int) ∧ x17 < 2147483648) <|
    gv (S.1 523 (x17 : Int).toNat) fun x20 =>
    rec d 145 S [a1, a2, a3, a4, a5, a6, a7, a8, x20]
  )
def b_X12_patchRows_145 (n d : Nat) (rec : Nat → Nat → GS → List Int → Option (Int × GS)) (S : GS) (a1 : Int) (a2 : Int) (a3 : Int) (a4 : Int) (a5 : Int) (a6 : Int) (a7 : Int) (a8 : Int) (s0 : Int) : Option (Int × GS) :=
  gv (101 * a7) fun x1 =>
  gv (x1 + a8) fun x3 =>
  gv (x3 + 1) fun x5 =>
  gg (0 ≤ x5 ∧ x5 < ((10201 : Nat) : Int) ∧ x5 < 2147483648) <|
  gv (S.1 523 (x5 : Int).toNat) fun x8 =>
  gg (inr x8) <|
  gg (inr s0) <|
  if x8 ≤ s0 then (
    rec d 189 S [a1, a2, a3, a4, a5, a6, a7, a8, s0]
  ) else (
    gv (101 * a7) fun x13 =>
    gv (x13 + a8) fun x15 =>
    gv (x15 + 1) fun x17 =>
    gg (0 ≤ x17 ∧ x17 < ((10201 : Nat) : Int) ∧ x17 < 2147483648) <|
    gv (S.1 523 (x17 : Int).toNat) fun x20 =>
    rec d 189 S [a1, a2, a3, a4, a5, a6, a7, a8, x20]
  )
def b_X12_patchRows_189 (n d : Nat) (rec : Nat → Nat → GS → List Int → Option (Int × GS)) (S : GS) (a1 : Int) (a2 : Int) (a3 : Int) (a4 : Int) (a5 : Int) (a6 : Int) (a7 : Int) (a8 : Int) (a9 : Int) : Option (Int × GS) :=
  gv (101 * a7) fun x1 =>
  gv (x1 + a8) fun x3 =>
  gg (0 ≤ x3 ∧ x3 < ((10201 : Nat) : Int) ∧ x3 < 2147483648) <|
  gv (gI S 523 (x3 : Int).toNat a9) fun S_6 =>
  gv (a8 + (-1)) fun x8 =>
  rec d 32 S_6 [a1, a2, a3, a4, a5, a6, a7, x8]
def b_X12_patchRows_219 (n d : Nat) (rec : Nat → Nat → GS → List Int → Option (Int × GS)) (S : GS) (a1 : Int) (a2 : Int) (a3 : Int) (a4 : Int) (a5 : Int) (a6 : Int) (a7 : Int) : Option (Int × GS) :=
  gg (inr a7) <|
  if 101 ≤ a7 then (
    rec d 254 S [a1, a2, a3, a4, a5, a6, 0, 0]
  ) else (
    gg (0 ≤ a7 ∧ a7 < ((101 : Nat) : Int) ∧ a7 < 2147483648) <|
    gv (gB S 521 (a7 : Int).toNat (decide ((0 : Int) = 1))) fun S_4 =>
    gv (gB S_4 524 (a7 : Int).toNat (decide ((0 : Int) = 1))) fun S_6 =>
    gv (a7 + 1) fun x8 =>
    rec d 219 S_6 [a1, a2, a3, a4, a5, a6, x8]
  )
def b_X12_patchRows_254 (n d : Nat) (rec : Nat → Nat → GS → List Int → Option (Int × GS)) (S : GS) (a1 : Int) (a2 : Int) (a3 : Int) (a4 : Int) (a5 : Int) (a6 : Int) (a7 : Int) (a8 : Int) : Option (Int × GS) :=
  gg (inr a7) <|
  gg (inr a5) <|
  if a5 ≤ a7 then (
    gv (a5 - 1) fun x4 =>
    rec d 368 S [a1, a2, a3, a4, a6, x4]
  ) else (
    gg (inr a8) <|
    gg (inr a6) <|
    if a6 ≤ a8 then (
      gv (a5 - 1) fun x9 =>
      rec d 368 S [a1, a2, a3, a4, a6, x9]
    ) else (
      gg (1 ≤ d) <|
      gc (f_X12_childAt n (d - 1) 0 S [a1, a2, a7]) fun x12 S_13 =>
      gc (f_X12_childAt n (d - 1) 0 S_13 [a3, a4, a8]) fun x15 S_16 =>
      gc (f_X12_areEqual n (d - 1) 0 S_16 [a1, x12, a3, x15]) fun x18 S_19 =>
      gg (inr x18) <|
      if x18 = 0 then (
        gv (a7 + 1) fun x23 =>
        gv (101 * x23) fun x25 =>
        gv (x25 + a8) fun x27 =>
        gg (0 ≤ x27 ∧ x27 < ((10201 : Nat) : Int) ∧ x27 < 2147483648) <|
        gv (S_19.1 523 (x27 : Int).toNat) fun x30 =>
        gv (101 * a7) fun x32 =>
        gv (x32 + a8) fun x34 =>
        gg (0 ≤ x34 ∧ x34 < ((10201 : Nat) : Int) ∧ x34 < 2147483648) <|
        gv (S_19.1 523 (x34 : Int).toNat) fun x37 =>
        gg (inr x30) <|
        gg (inr x37) <|
        if x30 ≠ x37 then (
          gv (a8 + 1) fun x42 =>
          rec d 254 S_19 [a1, a2, a3, a4, a5, a6, a7, x42]
        ) else (
          gv (a7 + 1) fun x44 =>
          rec d 254 S_19 [a1, a2, a3, a4, a5, a6, x44, a8]
        )
      ) else (
        gg (0 ≤ a7 ∧ a7 < ((101 : Nat) : Int) ∧ a7 < 2147483648) <|
        gv (gB S_19 521 (a7 : Int).toNat (decide ((1 : Int) = 1))) fun S_47 =>
        gg (0 ≤ a8 ∧ a8 < ((101 : Nat) : Int) ∧ a8 < 2147483648) <|
        gv (gB S_47 524 (a8 : Int).toNat (decide ((1 : Int) = 1))) fun S_50 =>
        gv (a7 + 1) fun x52 =>
        gv (a8 + 1) fun x54 =>
        rec d 254 S_50 [a1, a2, a3, a4, a5, a6, x52, x54]
      )
    )
  )
def b_X12_patchRows_368 (n d : Nat) (rec : Nat → Nat → GS → List Int → Option (Int × GS)) (S : GS) (a1 : Int) (a2 : Int) (a3 : Int) (a4 : Int) (a6 : Int) (a9 : Int) : Option (Int × GS) :=
  gg (inr a9) <|
  if a9 < 0 then (
    rec d 414 S [a1, a2, a3, a4, a6, 0]
  ) else (
    gg (0 ≤ a9 ∧ a9 < ((101 : Nat) : Int) ∧ a9 < 2147483648) <|
    gv (bi (S.2.1 521 (a9 : Int).toNat)) fun x4 =>
    gg (inr x4) <|
    if x4 ≠ 0 then (
      gv (a9 + (-1)) fun x8 =>
      rec d 368 S [a1, a2, a3, a4, a6, x8]
    ) else (
      gg (1 ≤ d) <|
      gc (f_X12_childAt n (d - 1) 0 S [a1, a2, a9]) fun x11 S_12 =>
      gc (f_X12_pathOfNode n (d - 1) 0 S_12 [a1, x11]) fun x14 S_15 =>
      gc (f_X12_ordered n (d - 1) 0 S_15 [40, 1, a1, (-1)]) fun x17 S_18 =>
      gv (a9 + (-1)) fun x20 =>
      rec d 368 S_18 [a1, a2, a3, a4, a6, x20]
    )
  )
def b_X12_patchRows_414 (n d : Nat) (rec : Nat → Nat → GS → List Int → Option (Int × GS)) (S : GS) (a1 : Int) (a2 : Int) (a3 : Int) (a4 : Int) (a6 : Int) (a9 : Int) : Option (Int × GS) :=
  gg (inr a9) <|
  gg (inr a6) <|
  if a6 ≤ a9 then (
    some (0, S)
  ) else (
    gg (0 ≤ a9 ∧ a9 < ((101 : Nat) : Int) ∧ a9 < 2147483648) <|
    gv (bi (S.2.1 524 (a9 : Int).toNat)) fun x5 =>
    gg (inr x5) <|
    if x5 ≠ 0 then (
      gv (a9 + 1) fun x9 =>
      rec d 414 S [a1, a2, a3, a4, a6, x9]
    ) else (
      gg (1 ≤ d) <|
      gc (f_X12_pathOfNode n (d - 1) 0 S [a1, a2]) fun x12 S_13 =>
      gc (f_X12_addsPlace n (d - 1) 0 S_13 [a9]) fun x15 S_16 =>
      gc (f_X12_childAt n (d - 1) 0 S_16 [a3, a4, a9]) fun x18 S_19 =>
      gc (f_X12_ordered n (d - 1) 0 S_19 [40, 0, a3, x18]) fun x21 S_22 =>
      gv (a9 + 1) fun x24 =>
      rec d 414 S_22 [a1, a2, a3, a4, a6, x24]
    )
  )
def f_X12_patchRows : Nat → Nat → Nat → GS → List Int → Option (Int × GS)
  | 0, _, _, _, _ => none
  | n + 1, d, pc, S, x => match pc, x with
    | 0, [a1, a2, a3, a4] => b_X12_patchRows_0 n d (f_X12_patchRows n) S a1 a2 a3 a4
    | 23, [a1, a2, a3, a4, a5, a6, a7] => b_X12_patchRows_23 n d (f_X12_patchRows n) S a1 a2 a3 a4 a5 a6 a7
    | 32, [a1, a2, a3, a4, a5, a6, a7, a8] => b_X12_patchRows_32 n d (f_X12_patchRows n) S a1 a2 a3 a4 a5 a6 a7 a8
    | 103, [a1, a2, a3, a4, a5, a6, a7, a8, s0] => b_X12_patchRows_103 n d (f_X12_patchRows n) S a1 a2 a3 a4 a5 a6 a7 a8 s0
    | 145, [a1, a2, a3, a4, a5, a6, a7, a8, s0] => b_X12_patchRows_145 n d (f_X12_patchRows n) S a1 a2 a3 a4 a5 a6 a7 a8 s0
    | 189, [a1, a2, a3, a4, a5, a6, a7, a8, a9] => b_X12_patchRows_189 n d (f_X12_patchRows n) S a1 a2 a3 a4 a5 a6 a7 a8 a9
    | 219, [a1, a2, a3, a4, a5, a6, a7] => b_X12_patchRows_219 n d (f_X12_patchRows n) S a1 a2 a3 a4 a5 a6 a7
    | 254, [a1, a2, a3, a4, a5, a6, a7, a8] => b_X12_patchRows_254 n d (f_X12_patchRows n) S a1 a2 a3 a4 a5 a6 a7 a8
    | 368, [a1, a2, a3, a4, a6, a9] => b_X12_patchRows_368 n d (f_X12_patchRows n) S a1 a2 a3 a4 a6 a9
    | 414, [a1, a2, a3, a4, a6, a9] => b_X12_patchRows_414 n d (f_X12_patchRows n) S a1 a2 a3 a4 a6 a9
    | _, _ => none
theorem e_X12_patchRows_0 {n d : Nat} {S : GS} {a1 : Int} {a2 : Int} {a3 : Int} {a4 : Int} : f_X12_patchRows (n + 1) d 0 S [a1, a2, a3, a4] = b_X12_patchRows_0 n d (f_X12_patchRows n) S a1 a2 a3 a4 := rfl
theorem e_X12_patchRows_23 {n d : Nat} {S : GS} {a1 : Int} {a2 : Int} {a3 : Int} {a4 : Int} {a5 : Int} {a6 : Int} {a7 : Int} : f_X12_patchRows (n + 1) d 23 S [a1, a2, a3, a4, a5, a6, a7] = b_X12_patchRows_23 n d (f_X12_patchRows n) S a1 a2 a3 a4 a5 a6 a7 := rfl
theorem e_X12_patchRows_32 {n d : Nat} {S : GS} {a1 : Int} {a2 : Int} {a3 : Int} {a4 : Int} {a5 : Int} {a6 : Int} {a7 : Int} {a8 : Int} : f_X12_patchRows (n + 1) d 32 S [a1, a2, a3, a4, a5, a6, a7, a8] = b_X12_patchRows_32 n d (f_X12_patchRows n) S a1 a2 a3 a4 a5 a6 a7 a8 := rfl
theorem e_X12_patchRows_103 {n d : Nat} {S : GS} {a1 : Int} {a2 : Int} {a3 : Int} {a4 : Int} {a5 : Int} {a6 : Int} {a7 : Int} {a8 : Int} {s0 : Int} : f_X12_patchRows (n + 1) d 103 S [a1, a2, a3, a4, a5, a6, a7, a8, s0] = b_X12_patchRows_103 n d (f_X12_patchRows n) S a1 a2 a3 a4 a5 a6 a7 a8 s0 := rfl
theorem e_X12_patchRows_145 {n d : Nat} {S : GS} {a1 : Int} {a2 : Int} {a3 : Int} {a4 : Int} {a5 : Int} {a6 : Int} {a7 : Int} {a8 : Int} {s0 : Int} : f_X12_patchRows (n + 1) d 145 S [a1, a2, a3, a4, a5, a6, a7, a8, s0] = b_X12_patchRows_145 n d (f_X12_patchRows n) S a1 a2 a3 a4 a5 a6 a7 a8 s0 := rfl
theorem e_X12_patchRows_189 {n d : Nat} {S : GS} {a1 : Int} {a2 : Int} {a3 : Int} {a4 : Int} {a5 : Int} {a6 : Int} {a7 : Int} {a8 : Int} {a9 : Int} : f_X12_patchRows (n + 1) d 189 S [a1, a2, a3, a4, a5, a6, a7, a8, a9] = b_X12_patchRows_189 n d (f_X12_patchRows n) S a1 a2 a3 a4 a5 a6 a7 a8 a9 := rfl
theorem e_X12_patchRows_219 {n d : Nat} {S : GS} {a1 : Int} {a2 : Int} {a3 : Int} {a4 : Int} {a5 : Int} {a6 : Int} {a7 : Int} : f_X12_patchRows (n + 1) d 219 S [a1, a2, a3, a4, a5, a6, a7] = b_X12_patchRows_219 n d (f_X12_patchRows n) S a1 a2 a3 a4 a5 a6 a7 := rfl
theorem e_X12_patchRows_254 {n d : Nat} {S : GS} {a1 : Int} {a2 : Int} {a3 : Int} {a4 : Int} {a5 : Int} {a6 : Int} {a7 : Int} {a8 : Int} : f_X12_patchRows (n + 1) d 254 S [a1, a2, a3, a4, a5, a6, a7, a8] = b_X12_patchRows_254 n d (f_X12_patchRows n) S a1 a2 a3 a4 a5 a6 a7 a8 := rfl
theorem e_X12_patchRows_368 {n d : Nat} {S : GS} {a1 : Int} {a2 : Int} {a3 : Int} {a4 : Int} {a6 : Int} {a9 : Int} : f_X12_patchRows (n + 1) d 368 S [a1, a2, a3, a4, a6, a9] = b_X12_patchRows_368 n d (f_X12_patchRows n) S a1 a2 a3 a4 a6 a9 := rfl
theorem e_X12_patchRows_414 {n d : Nat} {S : GS} {a1 : Int} {a2 : Int} {a3 : Int} {a4 : Int} {a6 : Int} {a9 : Int} : f_X12_patchRows (n + 1) d 414 S [a1, a2, a3, a4, a6, a9] = b_X12_patchRows_414 n d (f_X12_patchRows n) S a1 a2 a3 a4 a6 a9 := rfl

def b_X12_patches_0 (n d : Nat) (rec : Nat → Nat → GS → List Int → Option (Int × GS)) (S : GS) (a1 : Int) (a2 : Int) (a3 : Int) (a4 : Int) : Option (Int × GS) :=
  gg (1 ≤ d) <|
  gc (f_X12_areEqual n (d - 1) 0 S [a1, a2, a3, a4]) fun x2 S_3 =>
  gg (inr x2) <|
  if x2 = 0 then (
    gc (f_X12_kind n (d - 1) 0 S_3 [a1, a2]) fun x7 S_8 =>
    gg (inr x7) <|
    if x7 ≠ 5 then (
      rec d 37 S_8 [a1, a2, a3, a4]
    ) else (
      gc (f_X12_kind n (d - 1) 0 S_8 [a3, a4]) fun x12 S_13 =>
      gg (inr x12) <|
      if x12 ≠ 5 then (
        rec d 37 S_13 [a1, a2, a3, a4]
      ) else (
        some (1, S_13)
      )
    )
  ) else (
    some (0, S_3)
  )
def b_X12_patches_37 (n d : Nat) (rec : Nat → Nat → GS → List Int → Option (Int × GS)) (S : GS) (a1 : Int) (a2 : Int) (a3 : Int) (a4 : Int) : Option (Int × GS) :=
  gg (1 ≤ d) <|
  gc (f_X12_kind n (d - 1) 0 S [a1, a2]) fun x2 S_3 =>
  gg (inr x2) <|
  if x2 ≠ 4 then (
    rec d 69 S_3 [a1, a2, a3, a4]
  ) else (
    gc (f_X12_kind n (d - 1) 0 S_3 [a3, a4]) fun x7 S_8 =>
    gg (inr x7) <|
    if x7 ≠ 4 then (
      rec d 69 S_8 [a1, a2, a3, a4]
    ) else (
      gc (f_X12_patchRows n (d - 1) 0 S_8 [a1, a2, a3, a4]) fun x12 S_13 =>
      some (0, S_13)
    )
  )
def b_X12_patches_69 (n d : Nat) (rec : Nat → Nat → GS → List Int → Option (Int × GS)) (S : GS) (a1 : Int) (a2 : Int) (a3 : Int) (a4 : Int) : Option (Int × GS) :=
  gg (1 ≤ d) <|
  gc (f_X12_pathOfNode n (d - 1) 0 S [a1, a2]) fun x2 S_3 =>
  gc (f_X12_ordered n (d - 1) 0 S_3 [40, 2, a3, a4]) fun x5 S_6 =>
  some (0, S_6)
def f_X12_patches : Nat → Nat → Nat → GS → List Int → Option (Int × GS)
  | 0, _, _, _, _ => none
  | n + 1, d, pc, S, x => match pc, x with
    | 0, [a1, a2, a3, a4] => b_X12_patches_0 n d (f_X12_patches n) S a1 a2 a3 a4
    | 37, [a1, a2, a3, a4] => b_X12_patches_37 n d (f_X12_patches n) S a1 a2 a3 a4
    | 69, [a1, a2, a3, a4] => b_X12_patches_69 n d (f_X12_patches n) S a1 a2 a3 a4
    | _, _ => none
theorem e_X12_patches_0 {n d : Nat} {S : GS} {a1 : Int} {a2 : Int} {a3 : Int} {a4 : Int} : f_X12_patches (n + 1) d 0 S [a1, a2, a3, a4] = b_X12_patches_0 n d (f_X12_patches n) S a1 a2 a3 a4 := rfl
theorem e_X12_patches_37 {n d : Nat} {S : GS} {a1 : Int} {a2 : Int} {a3 : Int} {a4 : Int} : f_X12_patches (n + 1) d 37 S [a1, a2, a3, a4] = b_X12_patches_37 n d (f_X12_patches n) S a1 a2 a3 a4 := rfl
theorem e_X12_patches_69 {n d : Nat} {S : GS} {a1 : Int} {a2 : Int} {a3 : Int} {a4 : Int} : f_X12_patches (n + 1) d 69 S [a1, a2, a3, a4] = b_X12_patches_69 n d (f_X12_patches n) S a1 a2 a3 a4 := rfl

def b_X12_removesKeys_0 (n d : Nat) (rec : Nat → Nat → GS → List Int → Option (Int × GS)) (S : GS) (a1 : Int) (a2 : Int) (a3 : Int) (a4 : Int) : Option (Int × GS) :=
  gv (a2 + 1) fun x1 =>
  rec d 8 S [a1, a2, a3, a4, x1, 0]
def b_X12_removesKeys_8 (n d : Nat) (rec : Nat → Nat → GS → List Int → Option (Int × GS)) (S : GS) (a1 : Int) (a2 : Int) (a3 : Int) (a4 : Int) (a5 : Int) (a6 : Int) : Option (Int × GS) :=
  gg (1 ≤ d) <|
  gc (f_X12_part n (d - 1) 0 S [a1, a2, 3]) fun x2 S_3 =>
  gg (inr a6) <|
  gg (inr x2) <|
  if x2 ≤ a6 then (
    some (0, S_3)
  ) else (
    gc (f_X12_childLike n (d - 1) 0 S_3 [a3, a4, a1, a5]) fun x8 S_9 =>
    gg (inr x8) <|
    if x8 ≠ (-1) then (
      gc (f_X12_endOf n (d - 1) 0 S_9 [a1, a5]) fun x13 S_14 =>
      gv (a6 + 1) fun x16 =>
      rec d 8 S_14 [a1, a2, a3, a4, x13, x16]
    ) else (
      gc (f_X12_pathOfNode n (d - 1) 0 S_9 [a1, a5]) fun x18 S_19 =>
      gc (f_X12_ordered n (d - 1) 0 S_19 [40, 1, a1, (-1)]) fun x21 S_22 =>
      gc (f_X12_endOf n (d - 1) 0 S_22 [a1, a5]) fun x24 S_25 =>
      gv (a6 + 1) fun x27 =>
      rec d 8 S_25 [a1, a2, a3, a4, x24, x27]
    )
  )
def f_X12_removesKeys : Nat → Nat → Nat → GS → List Int → Option (Int × GS)
  | 0, _, _, _, _ => none
  | n + 1, d, pc, S, x => match pc, x with
    | 0, [a1, a2, a3, a4] => b_X12_removesKeys_0 n d (f_X12_removesKeys n) S a1 a2 a3 a4
    | 8, [a1, a2, a3, a4, a5, a6] => b_X12_removesKeys_8 n d (f_X12_removesKeys n) S a1 a2 a3 a4 a5 a6
    | _, _ => none
theorem e_X12_removesKeys_0 {n d : Nat} {S : GS} {a1 : Int} {a2 : Int} {a3 : Int} {a4 : Int} : f_X12_removesKeys (n + 1) d 0 S [a1, a2, a3, a4] = b_X12_removesKeys_0 n d (f_X12_removesKeys n) S a1 a2 a3 a4 := rfl
theorem e_X12_removesKeys_8 {n d : Nat} {S : GS} {a1 : Int} {a2 : Int} {a3 : Int} {a4 : Int} {a5 : Int} {a6 : Int} : f_X12_removesKeys (n + 1) d 8 S [a1, a2, a3, a4, a5, a6] = b_X12_removesKeys_8 n d (f_X12_removesKeys n) S a1 a2 a3 a4 a5 a6 := rfl

def b_X12_makesPatch_0 (n d : Nat) (rec : Nat → Nat → GS → List Int → Option (Int × GS)) (S : GS) (a1 : Int) (a2 : Int) : Option (Int × GS) :=
  gg (1 ≤ d) <|
  gc (f_X12_begin n (d - 1) 0 S [40]) fun x2 S_3 =>
  gv (gB S_3 500 38 (decide ((0 : Int) = 1))) fun S_5 =>
  gc (f_X12_added n (d - 1) 0 S_5 [40, 4]) fun x7 S_8 =>
  gc (f_X12_patches n (d - 1) 0 S_8 [a1, 0, a2, 0]) fun x10 S_11 =>
  gg (inr x10) <|
  if x10 = 0 then (
    rec d 65 S_11 [a1, a2, 0]
  ) else (
    gg ((0 : Int) ≤ 0 ∧ (0 : Int) < ((16 : Nat) : Int) ∧ (0 : Int) < 2147483648) <|
    gv (gI S_11 525 (0 : Int).toNat 0) fun S_16 =>
    gv (gI S_16 526 (0 : Int).toNat 0) fun S_18 =>
    gv (gI S_18 527 (0 : Int).toNat 1) fun S_20 =>
    gc (f_X12_removesKeys n (d - 1) 0 S_20 [a1, 0, a2, 0]) fun x22 S_23 =>
    rec d 65 S_23 [a1, a2, 1]
  )
def b_X12_makesPatch_65 (n d : Nat) (rec : Nat → Nat → GS → List Int → Option (Int × GS)) (S : GS) (a1 : Int) (a2 : Int) (a4 : Int) : Option (Int × GS) :=
  gg (inr a4) <|
  if a4 ≤ 0 then (
    some (0, S)
  ) else (
    gv (a4 - 1) fun x3 =>
    gg (0 ≤ x3 ∧ x3 < ((16 : Nat) : Int) ∧ x3 < 2147483648) <|
    gv (S.1 525 (x3 : Int).toNat) fun x6 =>
    gv (a4 - 1) fun x8 =>
    gg (0 ≤ x8 ∧ x8 < ((16 : Nat) : Int) ∧ x8 < 2147483648) <|
    gv (S.1 526 (x8 : Int).toNat) fun x11 =>
    gv (a4 - 1) fun x13 =>
    gg (0 ≤ x13 ∧ x13 < ((16 : Nat) : Int) ∧ x13 < 2147483648) <|
    gv (S.1 527 (x13 : Int).toNat) fun x16 =>
    gg (1 ≤ d) <|
    gc (f_X12_endOf n (d - 1) 0 S [a1, x6]) fun x19 S_20 =>
    gg (inr x16) <|
    gg (inr x19) <|
    if x16 ≠ x19 then (
      gv (a4 - 1) fun x25 =>
      gc (f_X12_endOf n (d - 1) 0 S_20 [a1, x16]) fun x27 S_28 =>
      gg (0 ≤ x25 ∧ x25 < ((16 : Nat) : Int) ∧ x25 < 2147483648) <|
      gv (gI S_28 527 (x25 : Int).toNat x27) fun S_31 =>
      gc (f_X12_childLike n (d - 1) 0 S_31 [a2, x11, a1, x16]) fun x33 S_34 =>
      gg (inr x33) <|
      if x33 = (-1) then (
        rec d 65 S_34 [a1, a2, a4]
      ) else (
        gc (f_X12_patches n (d - 1) 0 S_34 [a1, x16, a2, x33]) fun x38 S_39 =>
        gg (inr x38) <|
        if x38 = 0 then (
          rec d 65 S_39 [a1, a2, a4]
        ) else (
          gc (f_X12_removesKeys n (d - 1) 0 S_39 [a1, x16, a2, x33]) fun x43 S_44 =>
          gg (0 ≤ a4 ∧ a4 < ((16 : Nat) : Int) ∧ a4 < 2147483648) <|
          gv (gI S_44 525 (a4 : Int).toNat x16) fun S_47 =>
          gv (gI S_47 526 (a4 : Int).toNat x33) fun S_49 =>
          gv (x16 + 1) fun x51 =>
          gv (gI S_49 527 (a4 : Int).toNat x51) fun S_53 =>
          gv (a4 + 1) fun x55 =>
          rec d 65 S_53 [a1, a2, x55]
        )
      )
    ) else (
      gc (f_X12_addsKeys n (d - 1) 0 S_20 [a1, x6, a2, x11]) fun x57 S_58 =>
      gv (a4 + (-1)) fun x60 =>
      rec d 65 S_58 [a1, a2, x60]
    )
  )
def f_X12_makesPatch : Nat → Nat → Nat → GS → List Int → Option (Int × GS)
  | 0, _, _, _, _ => none
  | n + 1, d, pc, S, x => match pc, x with
    | 0, [a1, a2] => b_X12_makesPatch_0 n d (f_X12_makesPatch n) S a1 a2
    | 65, [a1, a2, a4] => b_X12_makesPatch_65 n d (f_X12_makesPatch n) S a1 a2 a4
    | _, _ => none
theorem e_X12_makesPatch_0 {n d : Nat} {S : GS} {a1 : Int} {a2 : Int} : f_X12_makesPatch (n + 1) d 0 S [a1, a2] = b_X12_makesPatch_0 n d (f_X12_makesPatch n) S a1 a2 := rfl
theorem e_X12_makesPatch_65 {n d : Nat} {S : GS} {a1 : Int} {a2 : Int} {a4 : Int} : f_X12_makesPatch (n + 1) d 65 S [a1, a2, a4] = b_X12_makesPatch_65 n d (f_X12_makesPatch n) S a1 a2 a4 := rfl

def b_X12_meets_0 (n d : Nat) (rec : Nat → Nat → GS → List Int → Option (Int × GS)) (S : GS) (a1 : Int) : Option (Int × GS) :=
  gg (0 ≤ a1 ∧ a1 < ((101 : Nat) : Int) ∧ a1 < 2147483648) <|
  gv (bi (S.2.1 521 (a1 : Int).toNat)) fun x2 =>
  gg (inr x2) <|
  if x2 ≠ 0 then (
    some (0, S)
  ) else (
    gv (gB S 521 (a1 : Int).toNat (decide ((1 : Int) = 1))) fun S_6 =>
    gv (S_6.1 500 36) fun x8 =>
    gg (0 ≤ x8 ∧ x8 < ((101 : Nat) : Int) ∧ x8 < 2147483648) <|
    gv (gI S_6 520 (x8 : Int).toNat a1) fun S_11 =>
    gv (S_11.1 500 36) fun x13 =>
    gv (x13 + 1) fun x15 =>
    gv (gI S_11 500 36 x15) fun S_17 =>
    some (0, S_17)
  )
def f_X12_meets : Nat → Nat → Nat → GS → List Int → Option (Int × GS)
  | 0, _, _, _, _ => none
  | n + 1, d, pc, S, x => match pc, x with
    | 0, [a1] => b_X12_meets_0 n d (f_X12_meets n) S a1
    | _, _ => none
theorem e_X12_meets_0 {n d : Nat} {S : GS} {a1 : Int} : f_X12_meets (n + 1) d 0 S [a1] = b_X12_meets_0 n d (f_X12_meets n) S a1 := rfl

def b_X12_node_0 (n d : Nat) (rec : Nat → Nat → GS → List Int → Option (Int × GS)) (S : GS) (a1 : Int) (a2 : Int) (a3 : Int) : Option (Int × GS) :=
  gg (1 ≤ d) <|
  gc (f_X12_isNode n (d - 1) 0 S [a1, a2]) fun x2 S_3 =>
  gc (f_X12_fails n (d - 1) 0 S_3 [x2, 1]) fun x5 S_6 =>
  gg (inr x5) <|
  if x5 ≠ 0 then (
    some (0, S_6)
  ) else (
    gc (f_X12_in n (d - 1) 0 S_6 [a3, 0, 9]) fun x10 S_11 =>
    gc (f_X12_fails n (d - 1) 0 S_11 [x10, 2]) fun x13 S_14 =>
    gg (inr x13) <|
    if x13 = 0 then (
      gc (f_X12_kind n (d - 1) 0 S_14 [a1, a2]) fun x18 S_19 =>
      gg (inr a3) <|
      if a3 = 0 then (
        some (x18, S_19)
      ) else (
      if a3 = 1 then (
        gc (f_X12_deepOf n (d - 1) 0 S_19 [a1, a2]) fun x24 S_25 =>
        some (x24, S_25)
      ) else (
      if a3 = 2 then (
        gc (f_X12_part n (d - 1) 0 S_19 [a1, a2, 4]) fun x28 S_29 =>
        some (x28, S_29)
      ) else (
      if a3 = 3 then (
        gg (inr x18) <|
        if 3 ≤ x18 then (
          if x18 ≠ 3 then (
            gc (f_X12_part n (d - 1) 0 S_19 [a1, a2, 3]) fun x35 S_36 =>
            some (x35, S_36)
          ) else (
            gc (f_X12_part n (d - 1) 0 S_19 [a1, a2, 18]) fun x38 S_39 =>
            some (x38, S_39)
          )
        ) else (
          some ((-1), S_19)
        )
      ) else (
      if a3 = 4 then (
        gg (inr x18) <|
        if x18 ≠ 1 then (
          some ((-1), S_19)
        ) else (
          gc (f_X12_part n (d - 1) 0 S_19 [a1, a2, 19]) fun x44 S_45 =>
          some (x44, S_45)
        )
      ) else (
      if a3 = 5 then (
        gg (inr x18) <|
        if x18 ≠ 2 then (
          some (0, S_19)
        ) else (
          gc (f_X12_part n (d - 1) 0 S_19 [a1, a2, 20]) fun x50 S_51 =>
          some (x50, S_51)
        )
      ) else (
      if a3 = 6 then (
        gg (inr x18) <|
        if x18 ≠ 2 then (
          some (0, S_19)
        ) else (
          gc (f_X12_part n (d - 1) 0 S_19 [a1, a2, 18]) fun x56 S_57 =>
          some (x56, S_57)
        )
      ) else (
      if a3 = 7 then (
        gg (inr x18) <|
        if x18 ≠ 2 then (
          some ((-1), S_19)
        ) else (
          gc (f_X12_part n (d - 1) 0 S_19 [a1, a2, 19]) fun x62 S_63 =>
          some (x62, S_63)
        )
      ) else (
      if a3 = 8 then (
        gc (f_X12_part n (d - 1) 0 S_19 [a1, a2, 1]) fun x66 S_67 =>
        some (x66, S_67)
      ) else (
      gc (f_X12_part n (d - 1) 0 S_19 [a1, a2, 2]) fun x69 S_70 =>
      some (x69, S_70)
      )))))))))
    ) else (
      some (0, S_14)
    )
  )
def f_X12_node : Nat → Nat → Nat → GS → List Int → Option (Int × GS)
  | 0, _, _, _, _ => none
  | n + 1, d, pc, S, x => match pc, x with
    | 0, [a1, a2, a3] => b_X12_node_0 n d (f_X12_node n) S a1 a2 a3
    | _, _ => none
theorem e_X12_node_0 {n d : Nat} {S : GS} {a1 : Int} {a2 : Int} {a3 : Int} : f_X12_node (n + 1) d 0 S [a1, a2, a3] = b_X12_node_0 n d (f_X12_node n) S a1 a2 a3 := rfl

def b_X12_onPaper_0 (n d : Nat) (rec : Nat → Nat → GS → List Int → Option (Int × GS)) (S : GS) : Option (Int × GS) :=
  gg ((0 : Int) ≤ 0 ∧ (0 : Int) < ((2 : Nat) : Int) ∧ (0 : Int) < 2147483648) <|
  gv (S.1 517 (0 : Int).toNat) fun x2 =>
  gv (gI S 500 9 x2) fun S_4 =>
  rec d 12 S_4 [0]
def b_X12_onPaper_12 (n d : Nat) (rec : Nat → Nat → GS → List Int → Option (Int × GS)) (S : GS) (a1 : Int) : Option (Int × GS) :=
  gv (S.1 500 9) fun x1 =>
  gg (inr a1) <|
  gg (inr x1) <|
  if x1 ≤ a1 then (
    gv (S.1 500 9) fun x6 =>
    some (x6, S)
  ) else (
    gg (0 ≤ a1 ∧ a1 < ((80000 : Nat) : Int) ∧ a1 < 2147483648) <|
    gv (S.1 516 (a1 : Int).toNat) fun x9 =>
    gg (0 ≤ a1 ∧ a1 < ((40000 : Nat) : Int) ∧ a1 < 2147483648) <|
    gv (gI S 504 (a1 : Int).toNat x9) fun S_12 =>
    gv (a1 + 1) fun x14 =>
    rec d 12 S_12 [x14]
  )
def f_X12_onPaper : Nat → Nat → Nat → GS → List Int → Option (Int × GS)
  | 0, _, _, _, _ => none
  | n + 1, d, pc, S, x => match pc, x with
    | 0, [] => b_X12_onPaper_0 n d (f_X12_onPaper n) S 
    | 12, [a1] => b_X12_onPaper_12 n d (f_X12_onPaper n) S a1
    | _, _ => none
theorem e_X12_onPaper_0 {n d : Nat} {S : GS} : f_X12_onPaper (n + 1) d 0 S [] = b_X12_onPaper_0 n d (f_X12_onPaper n) S  := rfl
theorem e_X12_onPaper_12 {n d : Nat} {S : GS} {a1 : Int} : f_X12_onPaper (n + 1) d 12 S [a1] = b_X12_onPaper_12 n d (f_X12_onPaper n) S a1 := rfl

def b_X12_paper_0 (n d : Nat) (rec : Nat → Nat → GS → List Int → Option (Int × GS)) (S : GS) (a1 : Int) (a2 : Int) : Option (Int × GS) :=
  gv (S.1 500 9) fun x1 =>
  gv (x1 - 1) fun x3 =>
  gg (1 ≤ d) <|
  gc (f_X12_in n (d - 1) 0 S [a1, 0, x3]) fun x6 S_7 =>
  gc (f_X12_fails n (d - 1) 0 S_7 [x6, 1]) fun x9 S_10 =>
  gg (inr x9) <|
  if x9 ≠ 0 then (
    some (0, S_10)
  ) else (
    gc (f_X12_in n (d - 1) 0 S_10 [a2, 1, 7]) fun x14 S_15 =>
    gg (inr x14) <|
    if x14 = 0 then (
      rec d 45 S_15 [a1, a2, 0]
    ) else (
      gv (a1 + a2) fun x19 =>
      gv (S_15.1 500 9) fun x21 =>
      gg (inr x19) <|
      gg (inr x21) <|
      if x21 < x19 then (
        rec d 45 S_15 [a1, a2, 0]
      ) else (
        rec d 45 S_15 [a1, a2, 1]
      )
    )
  )
def b_X12_paper_45 (n d : Nat) (rec : Nat → Nat → GS → List Int → Option (Int × GS)) (S : GS) (a1 : Int) (a2 : Int) (s0 : Int) : Option (Int × GS) :=
  gg (1 ≤ d) <|
  gc (f_X12_fails n (d - 1) 0 S [s0, 2]) fun x2 S_3 =>
  gg (inr x2) <|
  if x2 = 0 then (
    rec d 59 S_3 [a1, a2, 0, 0]
  ) else (
    some (0, S_3)
  )
def b_X12_paper_59 (n d : Nat) (rec : Nat → Nat → GS → List Int → Option (Int × GS)) (S : GS) (a1 : Int) (a2 : Int) (a3 : Int) (a5 : Int) : Option (Int × GS) :=
  gg (inr a5) <|
  gg (inr a2) <|
  if a2 ≤ a5 then (
    some (a3, S)
  ) else (
    gv ((256 : Int) * a3) fun x4 =>
    gv (a1 + a5) fun x6 =>
    gg (0 ≤ x6 ∧ x6 < ((40000 : Nat) : Int) ∧ x6 < 2147483648) <|
    gv (S.1 504 (x6 : Int).toNat) fun x9 =>
    gg (inr x9) <|
    gv ((x4 : Int) + x9) fun x12 =>
    gv (a5 + 1) fun x14 =>
    rec d 59 S [a1, a2, x12, x14]
  )
def f_X12_paper : Nat → Nat → Nat → GS → List Int → Option (Int × GS)
  | 0, _, _, _, _ => none
  | n + 1, d, pc, S, x => match pc, x with
    | 0, [a1, a2] => b_X12_paper_0 n d (f_X12_paper n) S a1 a2
    | 45, [a1, a2, s0] => b_X12_paper_45 n d (f_X12_paper n) S a1 a2 s0
    | 59, [a1, a2, a3, a5] => b_X12_paper_59 n d (f_X12_paper n) S a1 a2 a3 a5
    | _, _ => none
theorem e_X12_paper_0 {n d : Nat} {S : GS} {a1 : Int} {a2 : Int} : f_X12_paper (n + 1) d 0 S [a1, a2] = b_X12_paper_0 n d (f_X12_paper n) S a1 a2 := rfl
theorem e_X12_paper_45 {n d : Nat} {S : GS} {a1 : Int} {a2 : Int} {s0 : Int} : f_X12_paper (n + 1) d 45 S [a1, a2, s0] = b_X12_paper_45 n d (f_X12_paper n) S a1 a2 s0 := rfl
theorem e_X12_paper_59 {n d : Nat} {S : GS} {a1 : Int} {a2 : Int} {a3 : Int} {a5 : Int} : f_X12_paper (n + 1) d 59 S [a1, a2, a3, a5] = b_X12_paper_59 n d (f_X12_paper n) S a1 a2 a3 a5 := rfl

def b_X12_patch_0 (n d : Nat) (rec : Nat → Nat → GS → List Int → Option (Int × GS)) (S : GS) (a1 : Int) (a2 : Int) : Option (Int × GS) :=
  gg (1 ≤ d) <|
  gc (f_X12_isDoc n (d - 1) 0 S [a1]) fun x2 S_3 =>
  gg (inr x2) <|
  if x2 = 0 then (
    rec d 22 S_3 [a1, a2, 0]
  ) else (
    gc (f_X12_isDoc n (d - 1) 0 S_3 [a2]) fun x7 S_8 =>
    gg (inr x7) <|
    if x7 = 0 then (
      rec d 22 S_8 [a1, a2, 0]
    ) else (
      rec d 22 S_8 [a1, a2, 1]
    )
  )
def b_X12_patch_22 (n d : Nat) (rec : Nat → Nat → GS → List Int → Option (Int × GS)) (S : GS) (a1 : Int) (a2 : Int) (s0 : Int) : Option (Int × GS) :=
  gg (1 ≤ d) <|
  gc (f_X12_fails n (d - 1) 0 S [s0, 1]) fun x2 S_3 =>
  gg (inr x2) <|
  if x2 = 0 then (
    gc (f_X12_makesPatch n (d - 1) 0 S_3 [a1, a2]) fun x7 S_8 =>
    gv (bi (S_8.2.1 500 38)) fun x10 =>
    gg (inr x10) <|
    if x10 ≠ 0 then (
      rec d 68 S_8 [0]
    ) else (
      gc (f_X12_isWhole n (d - 1) 0 S_8 [40]) fun x14 S_15 =>
      gg (inr x14) <|
      if x14 = 0 then (
        rec d 68 S_15 [0]
      ) else (
        gv (S_15.1 500 1) fun x19 =>
        gg (inr x19) <|
        if 40 ≤ x19 then (
          rec d 68 S_15 [0]
        ) else (
          rec d 68 S_15 [1]
        )
      )
    )
  ) else (
    some (0, S_3)
  )
def b_X12_patch_68 (n d : Nat) (rec : Nat → Nat → GS → List Int → Option (Int × GS)) (S : GS) (s0 : Int) : Option (Int × GS) :=
  gg (1 ≤ d) <|
  gc (f_X12_fails n (d - 1) 0 S [s0, 2]) fun x2 S_3 =>
  gg (inr x2) <|
  if x2 = 0 then (
    gc (f_X12_keeps n (d - 1) 0 S_3 [40]) fun x7 S_8 =>
    some (x7, S_8)
  ) else (
    some (0, S_3)
  )
def f_X12_patch : Nat → Nat → Nat → GS → List Int → Option (Int × GS)
  | 0, _, _, _, _ => none
  | n + 1, d, pc, S, x => match pc, x with
    | 0, [a1, a2] => b_X12_patch_0 n d (f_X12_patch n) S a1 a2
    | 22, [a1, a2, s0] => b_X12_patch_22 n d (f_X12_patch n) S a1 a2 s0
    | 68, [s0] => b_X12_patch_68 n d (f_X12_patch n) S s0
    | _, _ => none
theorem e_X12_patch_0 {n d : Nat} {S : GS} {a1 : Int} {a2 : Int} : f_X12_patch (n + 1) d 0 S [a1, a2] = b_X12_patch_0 n d (f_X12_patch n) S a1 a2 := rfl
theorem e_X12_patch_22 {n d : Nat} {S : GS} {a1 : Int} {a2 : Int} {s0 : Int} : f_X12_patch (n + 1) d 22 S [a1, a2, s0] = b_X12_patch_22 n d (f_X12_patch n) S a1 a2 s0 := rfl
theorem e_X12_patch_68 {n d : Nat} {S : GS} {s0 : Int} : f_X12_patch (n + 1) d 68 S [s0] = b_X12_patch_68 n d (f_X12_patch n) S s0 := rfl

def b_X12_print_0 (n d : Nat) (rec : Nat → Nat → GS → List Int → Option (Int × GS)) (S : GS) (a1 : Int) (a2 : Int) : Option (Int × GS) :=
  gg (1 ≤ d) <|
  gc (f_X12_isDoc n (d - 1) 0 S [a1]) fun x2 S_3 =>
  gc (f_X12_fails n (d - 1) 0 S_3 [x2, 1]) fun x5 S_6 =>
  gg (inr x5) <|
  if x5 ≠ 0 then (
    some (0, S_6)
  ) else (
    gc (f_X12_in n (d - 1) 0 S_6 [a2, 0, 2]) fun x10 S_11 =>
    gc (f_X12_fails n (d - 1) 0 S_11 [x10, 2]) fun x13 S_14 =>
    gg (inr x13) <|
    if x13 = 0 then (
      gc (f_X12_writes n (d - 1) 0 S_14 [0, a1, 0, a2]) fun x18 S_19 =>
      gc (f_X12_onPaper n (d - 1) 0 S_19 []) fun x21 S_22 =>
      some (x21, S_22)
    ) else (
      some (0, S_14)
    )
  )
def f_X12_print : Nat → Nat → Nat → GS → List Int → Option (Int × GS)
  | 0, _, _, _, _ => none
  | n + 1, d, pc, S, x => match pc, x with
    | 0, [a1, a2] => b_X12_print_0 n d (f_X12_print n) S a1 a2
    | _, _ => none
theorem e_X12_print_0 {n d : Nat} {S : GS} {a1 : Int} {a2 : Int} : f_X12_print (n + 1) d 0 S [a1, a2] = b_X12_print_0 n d (f_X12_print n) S a1 a2 := rfl

def b_X12_put_0 (n d : Nat) (rec : Nat → Nat → GS → List Int → Option (Int × GS)) (S : GS) (a1 : Int) (a2 : Int) : Option (Int × GS) :=
  gg (1 ≤ d) <|
  gc (f_X12_isDoc n (d - 1) 0 S [a1]) fun x2 S_3 =>
  gg (inr x2) <|
  if x2 = 0 then (
    rec d 22 S_3 [a1, a2, 0]
  ) else (
    gc (f_X12_isDoc n (d - 1) 0 S_3 [a2]) fun x7 S_8 =>
    gg (inr x7) <|
    if x7 = 0 then (
      rec d 22 S_8 [a1, a2, 0]
    ) else (
      rec d 22 S_8 [a1, a2, 1]
    )
  )
def b_X12_put_22 (n d : Nat) (rec : Nat → Nat → GS → List Int → Option (Int × GS)) (S : GS) (a1 : Int) (a2 : Int) (s0 : Int) : Option (Int × GS) :=
  gg (1 ≤ d) <|
  gc (f_X12_fails n (d - 1) 0 S [s0, 1]) fun x2 S_3 =>
  gg (inr x2) <|
  if x2 = 0 then (
    gc (f_X12_pathOfPage n (d - 1) 0 S_3 []) fun x7 S_8 =>
    gv (S_8.1 500 1) fun x10 =>
    gg (inr x10) <|
    if 40 ≤ x10 then (
      rec d 69 S_8 [0]
    ) else (
      gc (f_X12_isPath n (d - 1) 0 S_8 []) fun x14 S_15 =>
      gg (inr x14) <|
      if x14 = 0 then (
        rec d 69 S_15 [0]
      ) else (
        gc (f_X12_canPut n (d - 1) 0 S_15 [40, a1, a2, 0]) fun x19 S_20 =>
        gg (inr x19) <|
        if x19 = 0 then (
          rec d 69 S_20 [0]
        ) else (
          rec d 69 S_20 [1]
        )
      )
    )
  ) else (
    some (0, S_3)
  )
def b_X12_put_69 (n d : Nat) (rec : Nat → Nat → GS → List Int → Option (Int × GS)) (S : GS) (s0 : Int) : Option (Int × GS) :=
  gg (1 ≤ d) <|
  gc (f_X12_fails n (d - 1) 0 S [s0, 2]) fun x2 S_3 =>
  gg (inr x2) <|
  if x2 = 0 then (
    gv (gI S_3 500 7 0) fun S_7 =>
    gc (f_X12_keeps n (d - 1) 0 S_7 [40]) fun x9 S_10 =>
    some (x9, S_10)
  ) else (
    some (0, S_3)
  )
def f_X12_put : Nat → Nat → Nat → GS → List Int → Option (Int × GS)
  | 0, _, _, _, _ => none
  | n + 1, d, pc, S, x => match pc, x with
    | 0, [a1, a2] => b_X12_put_0 n d (f_X12_put n) S a1 a2
    | 22, [a1, a2, s0] => b_X12_put_22 n d (f_X12_put n) S a1 a2 s0
    | 69, [s0] => b_X12_put_69 n d (f_X12_put n) S s0
    | _, _ => none
theorem e_X12_put_0 {n d : Nat} {S : GS} {a1 : Int} {a2 : Int} : f_X12_put (n + 1) d 0 S [a1, a2] = b_X12_put_0 n d (f_X12_put n) S a1 a2 := rfl
theorem e_X12_put_22 {n d : Nat} {S : GS} {a1 : Int} {a2 : Int} {s0 : Int} : f_X12_put (n + 1) d 22 S [a1, a2, s0] = b_X12_put_22 n d (f_X12_put n) S a1 a2 s0 := rfl
theorem e_X12_put_69 {n d : Nat} {S : GS} {s0 : Int} : f_X12_put (n + 1) d 69 S [s0] = b_X12_put_69 n d (f_X12_put n) S s0 := rfl

def b_X12_quarrel_0 (n d : Nat) (rec : Nat → Nat → GS → List Int → Option (Int × GS)) (S : GS) (a1 : Int) : Option (Int × GS) :=
  gv (S.1 500 54) fun x1 =>
  gv (x1 - 1) fun x3 =>
  gg (1 ≤ d) <|
  gc (f_X12_in n (d - 1) 0 S [a1, 0, x3]) fun x6 S_7 =>
  gc (f_X12_fails n (d - 1) 0 S_7 [x6, 1]) fun x9 S_10 =>
  gg (inr x9) <|
  if x9 = 0 then (
    gg ((0 : Int) ≤ 0 ∧ (0 : Int) < ((2 : Nat) : Int) ∧ (0 : Int) < 2147483648) <|
    gv (gI S_10 517 (0 : Int).toNat 0) fun S_15 =>
    gg (0 ≤ a1 ∧ a1 < ((402 : Nat) : Int) ∧ a1 < 2147483648) <|
    gv (S_15.1 535 (a1 : Int).toNat) fun x18 =>
    rec d 35 S_15 [a1, x18]
  ) else (
    some (0, S_10)
  )
def b_X12_quarrel_35 (n d : Nat) (rec : Nat → Nat → GS → List Int → Option (Int × GS)) (S : GS) (a1 : Int) (a2 : Int) : Option (Int × GS) :=
  gv (a1 + 1) fun x1 =>
  gg (0 ≤ x1 ∧ x1 < ((402 : Nat) : Int) ∧ x1 < 2147483648) <|
  gv (S.1 535 (x1 : Int).toNat) fun x4 =>
  gg (inr a2) <|
  gg (inr x4) <|
  if x4 ≤ a2 then (
    gg (1 ≤ d) <|
    gc (f_X12_onPaper n (d - 1) 0 S []) fun x10 S_11 =>
    some (x10, S_11)
  ) else (
    gg (0 ≤ a2 ∧ a2 < ((120000 : Nat) : Int) ∧ a2 < 2147483648) <|
    gv (S.1 536 (a2 : Int).toNat) fun x14 =>
    gg (1 ≤ d) <|
    gc (f_X12_puts n (d - 1) 0 S [0, x14]) fun x17 S_18 =>
    gv (a2 + 1) fun x20 =>
    rec d 35 S_18 [a1, x20]
  )
def f_X12_quarrel : Nat → Nat → Nat → GS → List Int → Option (Int × GS)
  | 0, _, _, _, _ => none
  | n + 1, d, pc, S, x => match pc, x with
    | 0, [a1] => b_X12_quarrel_0 n d (f_X12_quarrel n) S a1
    | 35, [a1, a2] => b_X12_quarrel_35 n d (f_X12_quarrel n) S a1 a2
    | _, _ => none
theorem e_X12_quarrel_0 {n d : Nat} {S : GS} {a1 : Int} : f_X12_quarrel (n + 1) d 0 S [a1] = b_X12_quarrel_0 n d (f_X12_quarrel n) S a1 := rfl
theorem e_X12_quarrel_35 {n d : Nat} {S : GS} {a1 : Int} {a2 : Int} : f_X12_quarrel (n + 1) d 35 S [a1, a2] = b_X12_quarrel_35 n d (f_X12_quarrel n) S a1 a2 := rfl

def b_X12_quarrels_0 (n d : Nat) (rec : Nat → Nat → GS → List Int → Option (Int × GS)) (S : GS) : Option (Int × GS) :=
  gv (gI S 500 0 0) fun S_1 =>
  gv (S_1.1 500 54) fun x3 =>
  some (x3, S_1)
def f_X12_quarrels : Nat → Nat → Nat → GS → List Int → Option (Int × GS)
  | 0, _, _, _, _ => none
  | n + 1, d, pc, S, x => match pc, x with
    | 0, [] => b_X12_quarrels_0 n d (f_X12_quarrels n) S 
    | _, _ => none
theorem e_X12_quarrels_0 {n d : Nat} {S : GS} : f_X12_quarrels (n + 1) d 0 S [] = b_X12_quarrels_0 n d (f_X12_quarrels n) S  := rfl

def b_X12_readsText_0 (n d : Nat) (rec : Nat → Nat → GS → List Int → Option (Int × GS)) (S : GS) (a1 : Int) : Option (Int × GS) :=
  gv (gI S 500 13 0) fun S_1 =>
  gv (S_1.1 500 16) fun x3 =>
  gv (x3 + 1) fun x5 =>
  gv (gI S_1 500 16 x5) fun S_7 =>
  rec d 15 S_7 [a1]
def b_X12_readsText_15 (n d : Nat) (rec : Nat → Nat → GS → List Int → Option (Int × GS)) (S : GS) (a1 : Int) : Option (Int × GS) :=
  gg (1 ≤ d) <|
  gc (f_X12_sign n (d - 1) 0 S []) fun x2 S_3 =>
  gg (inr x2) <|
  if x2 = 34 then (
    gv (S_3.1 500 16) fun x7 =>
    gv (x7 + 1) fun x9 =>
    gv (gI S_3 500 16 x9) fun S_11 =>
    some (1, S_11)
  ) else (
    gc (f_X12_sign n (d - 1) 0 S_3 []) fun x13 S_14 =>
    gg (inr x13) <|
    if x13 < 32 then (
      some (0, S_14)
    ) else (
      gv (S_14.1 500 13) fun x18 =>
      gg (inr x18) <|
      gg (inr a1) <|
      if x18 ≠ a1 then (
        gv (S_14.1 500 16) fun x23 =>
        gv (x23 + 1) fun x25 =>
        gv (gI S_14 500 16 x25) fun S_27 =>
        if x13 ≠ 92 then (
          rec d 192 S_27 [a1, x13]
        ) else (
          gc (f_X12_sign n (d - 1) 0 S_27 []) fun x30 S_31 =>
          gc (f_X12_escaped n (d - 1) 0 S_31 [x30]) fun x33 S_34 =>
          gc (f_X12_sign n (d - 1) 0 S_34 []) fun x36 S_37 =>
          gg (inr x36) <|
          if x36 ≠ 117 then (
            rec d 175 S_37 [a1, x33]
          ) else (
            gv (S_37.1 500 16) fun x41 =>
            gv (x41 + 1) fun x43 =>
            gv (gI S_37 500 16 x43) fun S_45 =>
            rec d 91 S_45 [a1, 0]
          )
        )
      ) else (
        some (0, S_14)
      )
    )
  )
def b_X12_readsText_91 (n d : Nat) (rec : Nat → Nat → GS → List Int → Option (Int × GS)) (S : GS) (a1 : Int) (a3 : Int) : Option (Int × GS) :=
  gg (inr a3) <|
  if 2 ≤ a3 then (
    gg (1 ≤ d) <|
    gc (f_X12_sign n (d - 1) 0 S []) fun x4 S_5 =>
    gc (f_X12_hex n (d - 1) 0 S_5 [x4]) fun x7 S_8 =>
    gg (inr x7) <|
    if x7 ≠ (-1) then (
      gv (S_8.1 500 16) fun x12 =>
      gv (x12 + 1) fun x14 =>
      gv (gI S_8 500 16 x14) fun S_16 =>
      gc (f_X12_sign n (d - 1) 0 S_16 []) fun x18 S_19 =>
      gc (f_X12_hex n (d - 1) 0 S_19 [x18]) fun x21 S_22 =>
      gg (inr x21) <|
      if x21 ≠ (-1) then (
        gv (16 * x7) fun x26 =>
        gv (x26 + x21) fun x28 =>
        rec d 175 S_22 [a1, x28]
      ) else (
        some (0, S_22)
      )
    ) else (
      some (0, S_8)
    )
  ) else (
    gg (1 ≤ d) <|
    gc (f_X12_sign n (d - 1) 0 S []) fun x31 S_32 =>
    gg (inr x31) <|
    if x31 = 48 then (
      gv (S_32.1 500 16) fun x36 =>
      gv (x36 + 1) fun x38 =>
      gv (gI S_32 500 16 x38) fun S_40 =>
      gv (a3 + 1) fun x42 =>
      rec d 91 S_40 [a1, x42]
    ) else (
      some (0, S_32)
    )
  )
def b_X12_readsText_175 (n d : Nat) (rec : Nat → Nat → GS → List Int → Option (Int × GS)) (S : GS) (a1 : Int) (a2 : Int) : Option (Int × GS) :=
  gg (inr a2) <|
  if a2 ≠ (-1) then (
    gv (S.1 500 16) fun x3 =>
    gv (x3 + 1) fun x5 =>
    gv (gI S 500 16 x5) fun S_7 =>
    rec d 192 S_7 [a1, a2]
  ) else (
    some (0, S)
  )
def b_X12_readsText_192 (n d : Nat) (rec : Nat → Nat → GS → List Int → Option (Int × GS)) (S : GS) (a1 : Int) (a2 : Int) : Option (Int × GS) :=
  gv (S.1 500 13) fun x1 =>
  gg (0 ≤ x1 ∧ x1 < ((1000 : Nat) : Int) ∧ x1 < 2147483648) <|
  gv (gI S 507 (x1 : Int).toNat a2) fun S_4 =>
  gv (S_4.1 500 13) fun x6 =>
  gv (x6 + 1) fun x8 =>
  gv (gI S_4 500 13 x8) fun S_10 =>
  rec d 15 S_10 [a1]
def f_X12_readsText : Nat → Nat → Nat → GS → List Int → Option (Int × GS)
  | 0, _, _, _, _ => none
  | n + 1, d, pc, S, x => match pc, x with
    | 0, [a1] => b_X12_readsText_0 n d (f_X12_readsText n) S a1
    | 15, [a1] => b_X12_readsText_15 n d (f_X12_readsText n) S a1
    | 91, [a1, a3] => b_X12_readsText_91 n d (f_X12_readsText n) S a1 a3
    | 175, [a1, a2] => b_X12_readsText_175 n d (f_X12_readsText n) S a1 a2
    | 192, [a1, a2] => b_X12_readsText_192 n d (f_X12_readsText n) S a1 a2
    | _, _ => none
theorem e_X12_readsText_0 {n d : Nat} {S : GS} {a1 : Int} : f_X12_readsText (n + 1) d 0 S [a1] = b_X12_readsText_0 n d (f_X12_readsText n) S a1 := rfl
theorem e_X12_readsText_15 {n d : Nat} {S : GS} {a1 : Int} : f_X12_readsText (n + 1) d 15 S [a1] = b_X12_readsText_15 n d (f_X12_readsText n) S a1 := rfl
theorem e_X12_readsText_91 {n d : Nat} {S : GS} {a1 : Int} {a3 : Int} : f_X12_readsText (n + 1) d 91 S [a1, a3] = b_X12_readsText_91 n d (f_X12_readsText n) S a1 a3 := rfl
theorem e_X12_readsText_175 {n d : Nat} {S : GS} {a1 : Int} {a2 : Int} : f_X12_readsText (n + 1) d 175 S [a1, a2] = b_X12_readsText_175 n d (f_X12_readsText n) S a1 a2 := rfl
theorem e_X12_readsText_192 {n d : Nat} {S : GS} {a1 : Int} {a2 : Int} : f_X12_readsText (n + 1) d 192 S [a1, a2] = b_X12_readsText_192 n d (f_X12_readsText n) S a1 a2 := rfl

def b_X12_readsKey_0 (n d : Nat) (rec : Nat → Nat → GS → List Int → Option (Int × GS)) (S : GS) (a1 : Int) : Option (Int × GS) :=
  gg (1 ≤ d) <|
  gc (f_X12_sign n (d - 1) 0 S []) fun x2 S_3 =>
  gg (inr x2) <|
  if x2 = 34 then (
    gc (f_X12_readsText n (d - 1) 0 S_3 [12]) fun x7 S_8 =>
    gg (inr x7) <|
    if x7 ≠ 0 then (
      gv (S_8.1 500 13) fun x12 =>
      gv (gI S_8 500 22 x12) fun S_14 =>
      rec d 32 S_14 [a1, 0]
    ) else (
      some (0, S_8)
    )
  ) else (
    some (0, S_3)
  )
def b_X12_readsKey_32 (n d : Nat) (rec : Nat → Nat → GS → List Int → Option (Int × GS)) (S : GS) (a1 : Int) (a2 : Int) : Option (Int × GS) :=
  gv (S.1 500 22) fun x1 =>
  gg (inr a2) <|
  gg (inr x1) <|
  if x1 ≤ a2 then (
    gv (S.1 500 20) fun x6 =>
    gv (x6 - 1) fun x8 =>
    gg (0 ≤ x8 ∧ x8 < ((16 : Nat) : Int) ∧ x8 < 2147483648) <|
    gv (S.1 511 (x8 : Int).toNat) fun x11 =>
    gv (x11 + 1) fun x13 =>
    rec d 74 S [a1, x11, x13]
  ) else (
    gg (0 ≤ a2 ∧ a2 < ((1000 : Nat) : Int) ∧ a2 < 2147483648) <|
    gv (S.1 507 (a2 : Int).toNat) fun x16 =>
    gg (0 ≤ a2 ∧ a2 < ((13 : Nat) : Int) ∧ a2 < 2147483648) <|
    gv (gI S 512 (a2 : Int).toNat x16) fun S_19 =>
    gv (a2 + 1) fun x21 =>
    rec d 32 S_19 [a1, x21]
  )
def b_X12_readsKey_74 (n d : Nat) (rec : Nat → Nat → GS → List Int → Option (Int × GS)) (S : GS) (a1 : Int) (a2 : Int) (a3 : Int) : Option (Int × GS) :=
  gg ((0 : Int) ≤ 40 ∧ (40 : Int) < ((48 : Nat) : Int) ∧ (40 : Int) < 2147483648) <|
  gv (S.1 502 (40 : Int).toNat) fun x2 =>
  gg (inr a3) <|
  gg (inr x2) <|
  if x2 ≤ a3 then (
    rec d 198 S []
  ) else (
    gg (inr a1) <|
    if a1 ≠ 0 then (
      rec d 198 S []
    ) else (
      gg (1 ≤ d) <|
      gc (f_X12_part n (d - 1) 0 S [40, a3, 1]) fun x10 S_11 =>
      gg (inr x10) <|
      gg (inr a2) <|
      if x10 ≠ a2 then (
        rec d 126 S_11 [a1, a2, a3, 0, 0]
      ) else (
        gc (f_X12_part n (d - 1) 0 S_11 [40, a3, 5]) fun x16 S_17 =>
        gv (S_17.1 500 22) fun x19 =>
        gg (inr x16) <|
        gg (inr x19) <|
        if x16 ≠ x19 then (
          rec d 126 S_17 [a1, a2, a3, 0, 0]
        ) else (
          rec d 126 S_17 [a1, a2, a3, 1, 0]
        )
      )
    )
  )
def b_X12_readsKey_126 (n d : Nat) (rec : Nat → Nat → GS → List Int → Option (Int × GS)) (S : GS) (a1 : Int) (a2 : Int) (a3 : Int) (a4 : Int) (a5 : Int) : Option (Int × GS) :=
  gv (S.1 500 22) fun x1 =>
  gg (inr a5) <|
  gg (inr x1) <|
  if x1 ≤ a5 then (
    rec d 175 S [a1, a2, a3, a4]
  ) else (
    gg (inr a4) <|
    if a4 = 0 then (
      rec d 175 S [a1, a2, a3, a4]
    ) else (
      gv (6 + a5) fun x8 =>
      gg (1 ≤ d) <|
      gc (f_X12_part n (d - 1) 0 S [40, a3, x8]) fun x11 S_12 =>
      gg (0 ≤ a5 ∧ a5 < ((13 : Nat) : Int) ∧ a5 < 2147483648) <|
      gv (S_12.1 512 (a5 : Int).toNat) fun x15 =>
      gg (inr x11) <|
      gg (inr x15) <|
      if x11 ≠ x15 then (
        gv (a5 + 1) fun x20 =>
        rec d 126 S_12 [a1, a2, a3, 0, x20]
      ) else (
        gv (a5 + 1) fun x22 =>
        rec d 126 S_12 [a1, a2, a3, 1, x22]
      )
    )
  )
def b_X12_readsKey_175 (n d : Nat) (rec : Nat → Nat → GS → List Int → Option (Int × GS)) (S : GS) (a1 : Int) (a2 : Int) (a3 : Int) (a4 : Int) : Option (Int × GS) :=
  gg (inr a4) <|
  if a4 = 0 then (
    gv (a3 + 1) fun x3 =>
    rec d 74 S [a1, a2, x3]
  ) else (
    gv (S.1 500 16) fun x5 =>
    gv (x5 - 1) fun x7 =>
    gv (gI S 500 16 x7) fun S_9 =>
    some (0, S_9)
  )
def b_X12_readsKey_198 (n d : Nat) (rec : Nat → Nat → GS → List Int → Option (Int × GS)) (S : GS) : Option (Int × GS) :=
  gg (1 ≤ d) <|
  gc (f_X12_isBlank n (d - 1) 0 S []) fun x2 S_3 =>
  gg (inr x2) <|
  if x2 = 0 then (
    gc (f_X12_sign n (d - 1) 0 S_3 []) fun x7 S_8 =>
    gg (inr x7) <|
    if x7 = 58 then (
      gv (S_8.1 500 16) fun x12 =>
      gv (x12 + 1) fun x14 =>
      gv (gI S_8 500 16 x14) fun S_16 =>
      some (1, S_16)
    ) else (
      some (0, S_8)
    )
  ) else (
    gv (S_3.1 500 16) fun x18 =>
    gv (x18 + 1) fun x20 =>
    gv (gI S_3 500 16 x20) fun S_22 =>
    rec d 198 S_22 []
  )
def f_X12_readsKey : Nat → Nat → Nat → GS → List Int → Option (Int × GS)
  | 0, _, _, _, _ => none
  | n + 1, d, pc, S, x => match pc, x with
    | 0, [a1] => b_X12_readsKey_0 n d (f_X12_readsKey n) S a1
    | 32, [a1, a2] => b_X12_readsKey_32 n d (f_X12_readsKey n) S a1 a2
    | 74, [a1, a2, a3] => b_X12_readsKey_74 n d (f_X12_readsKey n) S a1 a2 a3
    | 126, [a1, a2, a3, a4, a5] => b_X12_readsKey_126 n d (f_X12_readsKey n) S a1 a2 a3 a4 a5
    | 175, [a1, a2, a3, a4] => b_X12_readsKey_175 n d (f_X12_readsKey n) S a1 a2 a3 a4
    | 198, [] => b_X12_readsKey_198 n d (f_X12_readsKey n) S 
    | _, _ => none
theorem e_X12_readsKey_0 {n d : Nat} {S : GS} {a1 : Int} : f_X12_readsKey (n + 1) d 0 S [a1] = b_X12_readsKey_0 n d (f_X12_readsKey n) S a1 := rfl
theorem e_X12_readsKey_32 {n d : Nat} {S : GS} {a1 : Int} {a2 : Int} : f_X12_readsKey (n + 1) d 32 S [a1, a2] = b_X12_readsKey_32 n d (f_X12_readsKey n) S a1 a2 := rfl
theorem e_X12_readsKey_74 {n d : Nat} {S : GS} {a1 : Int} {a2 : Int} {a3 : Int} : f_X12_readsKey (n + 1) d 74 S [a1, a2, a3] = b_X12_readsKey_74 n d (f_X12_readsKey n) S a1 a2 a3 := rfl
theorem e_X12_readsKey_126 {n d : Nat} {S : GS} {a1 : Int} {a2 : Int} {a3 : Int} {a4 : Int} {a5 : Int} : f_X12_readsKey (n + 1) d 126 S [a1, a2, a3, a4, a5] = b_X12_readsKey_126 n d (f_X12_readsKey n) S a1 a2 a3 a4 a5 := rfl
theorem e_X12_readsKey_175 {n d : Nat} {S : GS} {a1 : Int} {a2 : Int} {a3 : Int} {a4 : Int} : f_X12_readsKey (n + 1) d 175 S [a1, a2, a3, a4] = b_X12_readsKey_175 n d (f_X12_readsKey n) S a1 a2 a3 a4 := rfl
theorem e_X12_readsKey_198 {n d : Nat} {S : GS} : f_X12_readsKey (n + 1) d 198 S [] = b_X12_readsKey_198 n d (f_X12_readsKey n) S  := rfl

def b_X12_readsLetters_0 (n d : Nat) (rec : Nat → Nat → GS → List Int → Option (Int × GS)) (S : GS) (a1 : Int) : Option (Int × GS) :=
  gg (1 ≤ d) <|
  gc (f_X12_says n (d - 1) 0 S [a1]) fun x2 S_3 =>
  rec d 7 S_3 [0]
def b_X12_readsLetters_7 (n d : Nat) (rec : Nat → Nat → GS → List Int → Option (Int × GS)) (S : GS) (a3 : Int) : Option (Int × GS) :=
  gv (S.1 500 13) fun x1 =>
  gg (inr a3) <|
  gg (inr x1) <|
  if x1 ≤ a3 then (
    some (1, S)
  ) else (
    gg (1 ≤ d) <|
    gc (f_X12_sign n (d - 1) 0 S []) fun x7 S_8 =>
    gg (0 ≤ a3 ∧ a3 < ((1000 : Nat) : Int) ∧ a3 < 2147483648) <|
    gv (S_8.1 507 (a3 : Int).toNat) fun x11 =>
    gg (inr x7) <|
    gg (inr x11) <|
    if x7 = x11 then (
      gv (S_8.1 500 16) fun x16 =>
      gv (x16 + 1) fun x18 =>
      gv (gI S_8 500 16 x18) fun S_20 =>
      gv (a3 + 1) fun x22 =>
      rec d 7 S_20 [x22]
    ) else (
      some (0, S_8)
    )
  )
def f_X12_readsLetters : Nat → Nat → Nat → GS → List Int → Option (Int × GS)
  | 0, _, _, _, _ => none
  | n + 1, d, pc, S, x => match pc, x with
    | 0, [a1] => b_X12_readsLetters_0 n d (f_X12_readsLetters n) S a1
    | 7, [a3] => b_X12_readsLetters_7 n d (f_X12_readsLetters n) S a3
    | _, _ => none
theorem e_X12_readsLetters_0 {n d : Nat} {S : GS} {a1 : Int} : f_X12_readsLetters (n + 1) d 0 S [a1] = b_X12_readsLetters_0 n d (f_X12_readsLetters n) S a1 := rfl
theorem e_X12_readsLetters_7 {n d : Nat} {S : GS} {a3 : Int} : f_X12_readsLetters (n + 1) d 7 S [a3] = b_X12_readsLetters_7 n d (f_X12_readsLetters n) S a3 := rfl

def b_X12_readsNumber_0 (n d : Nat) (rec : Nat → Nat → GS → List Int → Option (Int × GS)) (S : GS) (a1 : Int) : Option (Int × GS) :=
  gv (S.1 500 16) fun x1 =>
  gg (1 ≤ d) <|
  gc (f_X12_sign n (d - 1) 0 S []) fun x4 S_5 =>
  gg (inr x4) <|
  if x4 ≠ 45 then (
    rec d 19 S_5 [a1, x1, 0]
  ) else (
    rec d 19 S_5 [a1, x1, 1]
  )
def b_X12_readsNumber_19 (n d : Nat) (rec : Nat → Nat → GS → List Int → Option (Int × GS)) (S : GS) (a1 : Int) (a2 : Int) (s0 : Int) : Option (Int × GS) :=
  gv (S.1 500 16) fun x1 =>
  gg (inr s0) <|
  if s0 = 0 then (
    rec d 34 S [a1, a2, s0, 0, x1]
  ) else (
    rec d 34 S [a1, a2, s0, 1, x1]
  )
def b_X12_readsNumber_34 (n d : Nat) (rec : Nat → Nat → GS → List Int → Option (Int × GS)) (S : GS) (a1 : Int) (a2 : Int) (a3 : Int) (s0 : Int) (s1 : Int) : Option (Int × GS) :=
  gv (s1 + s0) fun x1 =>
  gv (gI S 500 16 x1) fun S_3 =>
  gg (1 ≤ d) <|
  gc (f_X12_isFigure n (d - 1) 0 S_3 []) fun x6 S_7 =>
  gg (inr x6) <|
  if x6 ≠ 0 then (
    gc (f_X12_sign n (d - 1) 0 S_7 []) fun x11 S_12 =>
    gg (inr x11) <|
    if x11 ≠ 48 then (
      rec d 75 S_12 [a1, a2, a3, 0, 0, 0, 0, 1]
    ) else (
      rec d 75 S_12 [a1, a2, a3, 0, 0, 0, 1, 1]
    )
  ) else (
    some (0, S_7)
  )
def b_X12_readsNumber_75 (n d : Nat) (rec : Nat → Nat → GS → List Int → Option (Int × GS)) (S : GS) (a1 : Int) (a2 : Int) (a3 : Int) (a4 : Int) (a5 : Int) (a6 : Int) (a7 : Int) (a8 : Int) : Option (Int × GS) :=
  gg (inr a8) <|
  if a8 = 0 then (
    gg (1 ≤ d) <|
    gc (f_X12_sign n (d - 1) 0 S []) fun x4 S_5 =>
    gg (inr x4) <|
    if x4 = 101 then (
      rec d 215 S_5 [a1, a2, a3, a4, a5]
    ) else (
      gc (f_X12_sign n (d - 1) 0 S_5 []) fun x9 S_10 =>
      gg (inr x9) <|
      if x9 ≠ 69 then (
        rec d 344 S_10 [a1, a2, a3, a4, a5, 0]
      ) else (
        rec d 215 S_10 [a1, a2, a3, a4, a5]
      )
    )
  ) else (
    gg (inr a4) <|
    if a4 ≠ 24 then (
      gg (1 ≤ d) <|
      gc (f_X12_sign n (d - 1) 0 S []) fun x17 S_18 =>
      gv (x17 - 48) fun x20 =>
      gg (0 ≤ a4 ∧ a4 < ((24 : Nat) : Int) ∧ a4 < 2147483648) <|
      gv (gI S_18 510 (a4 : Int).toNat x20) fun S_23 =>
      gv (a4 + 1) fun x25 =>
      gg (inr a6) <|
      if a6 = 0 then (
        rec d 118 S_23 [a1, a2, a3, x25, a6, a7, a8, 0, a5]
      ) else (
        rec d 118 S_23 [a1, a2, a3, x25, a6, a7, a8, 1, a5]
      )
    ) else (
      some (0, S)
    )
  )
def b_X12_readsNumber_118 (n d : Nat) (rec : Nat → Nat → GS → List Int → Option (Int × GS)) (S : GS) (a1 : Int) (a2 : Int) (a3 : Int) (a4 : Int) (a6 : Int) (a7 : Int) (a8 : Int) (s0 : Int) (s1 : Int) : Option (Int × GS) :=
  gv (s1 + s0) fun x1 =>
  gv (S.1 500 16) fun x3 =>
  gv (x3 + 1) fun x5 =>
  gv (gI S 500 16 x5) fun S_7 =>
  gg (inr a6) <|
  if a6 ≠ 0 then (
    rec d 167 S_7 [a1, a2, a3, a4, x1, a6, a7]
  ) else (
    gg (1 ≤ d) <|
    gc (f_X12_sign n (d - 1) 0 S_7 []) fun x12 S_13 =>
    gg (inr x12) <|
    if x12 ≠ 46 then (
      rec d 167 S_13 [a1, a2, a3, a4, x1, a6, a7]
    ) else (
      gv (S_13.1 500 16) fun x17 =>
      gv (x17 + 1) fun x19 =>
      gv (gI S_13 500 16 x19) fun S_21 =>
      gc (f_X12_isFigure n (d - 1) 0 S_21 []) fun x23 S_24 =>
      gg (inr x23) <|
      if x23 ≠ 0 then (
        rec d 75 S_24 [a1, a2, a3, a4, x1, 1, a7, a8]
      ) else (
        some (0, S_24)
      )
    )
  )
def b_X12_readsNumber_167 (n d : Nat) (rec : Nat → Nat → GS → List Int → Option (Int × GS)) (S : GS) (a1 : Int) (a2 : Int) (a3 : Int) (a4 : Int) (a5 : Int) (a6 : Int) (a7 : Int) : Option (Int × GS) :=
  gg (1 ≤ d) <|
  gc (f_X12_isFigure n (d - 1) 0 S []) fun x2 S_3 =>
  gg (inr x2) <|
  if x2 = 0 then (
    rec d 75 S_3 [a1, a2, a3, a4, a5, a6, a7, 0]
  ) else (
    gg (inr a6) <|
    if a6 ≠ 0 then (
      rec d 75 S_3 [a1, a2, a3, a4, a5, a6, a7, 1]
    ) else (
      gg (inr a7) <|
      if a7 ≠ 0 then (
        rec d 75 S_3 [a1, a2, a3, a4, a5, a6, a7, 0]
      ) else (
        rec d 75 S_3 [a1, a2, a3, a4, a5, a6, a7, 1]
      )
    )
  )
def b_X12_readsNumber_215 (n d : Nat) (rec : Nat → Nat → GS → List Int → Option (Int × GS)) (S : GS) (a1 : Int) (a2 : Int) (a3 : Int) (a4 : Int) (a5 : Int) : Option (Int × GS) :=
  gv (S.1 500 16) fun x1 =>
  gv (x1 + 1) fun x3 =>
  gv (gI S 500 16 x3) fun S_5 =>
  gg (1 ≤ d) <|
  gc (f_X12_sign n (d - 1) 0 S_5 []) fun x8 S_9 =>
  gg (inr x8) <|
  if x8 ≠ 45 then (
    rec d 239 S_9 [a1, a2, a3, a4, a5, 0]
  ) else (
    rec d 239 S_9 [a1, a2, a3, a4, a5, 1]
  )
def b_X12_readsNumber_239 (n d : Nat) (rec : Nat → Nat → GS → List Int → Option (Int × GS)) (S : GS) (a1 : Int) (a2 : Int) (a3 : Int) (a4 : Int) (a5 : Int) (s0 : Int) : Option (Int × GS) :=
  gv (S.1 500 16) fun x1 =>
  gg (inr s0) <|
  if s0 ≠ 0 then (
    rec d 265 S [a1, a2, a3, a4, a5, s0, 1, x1]
  ) else (
    gg (1 ≤ d) <|
    gc (f_X12_sign n (d - 1) 0 S []) fun x6 S_7 =>
    gg (inr x6) <|
    if x6 ≠ 43 then (
      rec d 265 S_7 [a1, a2, a3, a4, a5, s0, 0, x1]
    ) else (
      rec d 265 S_7 [a1, a2, a3, a4, a5, s0, 1, x1]
    )
  )
def b_X12_readsNumber_265 (n d : Nat) (rec : Nat → Nat → GS → List Int → Option (Int × GS)) (S : GS) (a1 : Int) (a2 : Int) (a3 : Int) (a4 : Int) (a5 : Int) (a10 : Int) (s0 : Int) (s1 : Int) : Option (Int × GS) :=
  gv (s1 + s0) fun x1 =>
  gv (gI S 500 16 x1) fun S_3 =>
  gg (1 ≤ d) <|
  gc (f_X12_isFigure n (d - 1) 0 S_3 []) fun x6 S_7 =>
  gg (inr x6) <|
  if x6 ≠ 0 then (
    gc (f_X12_sign n (d - 1) 0 S_7 []) fun x11 S_12 =>
    gv (x11 - 48) fun x14 =>
    gv (S_12.1 500 16) fun x16 =>
    gv (x16 + 1) fun x18 =>
    gv (gI S_12 500 16 x18) fun S_20 =>
    gc (f_X12_isFigure n (d - 1) 0 S_20 []) fun x22 S_23 =>
    gg (inr x22) <|
    if x22 = 0 then (
      gg (inr a10) <|
      if a10 = 0 then (
        rec d 344 S_23 [a1, a2, a3, a4, a5, x14]
      ) else (
        gv (-x14) fun x29 =>
        rec d 344 S_23 [a1, a2, a3, a4, a5, x29]
      )
    ) else (
      gv (10 * x14) fun x31 =>
      gc (f_X12_sign n (d - 1) 0 S_23 []) fun x33 S_34 =>
      gv (x31 + x33) fun x36 =>
      gv (x36 - 48) fun x38 =>
      gv (S_34.1 500 16) fun x40 =>
      gv (x40 + 1) fun x42 =>
      gv (gI S_34 500 16 x42) fun S_44 =>
      gg (inr a10) <|
      if a10 = 0 then (
        rec d 344 S_44 [a1, a2, a3, a4, a5, x38]
      ) else (
        gv (-x38) fun x48 =>
        rec d 344 S_44 [a1, a2, a3, a4, a5, x48]
      )
    )
  ) else (
    some (0, S_7)
  )
def b_X12_readsNumber_344 (n d : Nat) (rec : Nat → Nat → GS → List Int → Option (Int × GS)) (S : GS) (a1 : Int) (a2 : Int) (a3 : Int) (a4 : Int) (a5 : Int) (a9 : Int) : Option (Int × GS) :=
  gv (a9 - a5) fun x1 =>
  gg (1 ≤ d) <|
  gc (f_X12_isNumber n (d - 1) 0 S [a1, a3, a4, x1]) fun x4 S_5 =>
  gg (inr x4) <|
  if x4 ≠ 0 then (
    some (1, S_5)
  ) else (
    gv (gI S_5 500 16 a2) fun S_9 =>
    some (0, S_9)
  )
def f_X12_readsNumber : Nat → Nat → Nat → GS → List Int → Option (Int × GS)
  | 0, _, _, _, _ => none
  | n + 1, d, pc, S, x => match pc, x with
    | 0, [a1] => b_X12_readsNumber_0 n d (f_X12_readsNumber n) S a1
    | 19, [a1, a2, s0] => b_X12_readsNumber_19 n d (f_X12_readsNumber n) S a1 a2 s0
    | 34, [a1, a2, a3, s0, s1] => b_X12_readsNumber_34 n d (f_X12_readsNumber n) S a1 a2 a3 s0 s1
    | 75, [a1, a2, a3, a4, a5, a6, a7, a8] => b_X12_readsNumber_75 n d (f_X12_readsNumber n) S a1 a2 a3 a4 a5 a6 a7 a8
    | 118, [a1, a2, a3, a4, a6, a7, a8, s0, s1] => b_X12_readsNumber_118 n d (f_X12_readsNumber n) S a1 a2 a3 a4 a6 a7 a8 s0 s1
    | 167, [a1, a2, a3, a4, a5, a6, a7] => b_X12_readsNumber_167 n d (f_X12_readsNumber n) S a1 a2 a3 a4 a5 a6 a7
    | 215, [a1, a2, a3, a4, a5] => b_X12_readsNumber_215 n d (f_X12_readsNumber n) S a1 a2 a3 a4 a5
    | 239, [a1, a2, a3, a4, a5, s0] => b_X12_readsNumber_239 n d (f_X12_readsNumber n) S a1 a2 a3 a4 a5 s0
    | 265, [a1, a2, a3, a4, a5, a10, s0, s1] => b_X12_readsNumber_265 n d (f_X12_readsNumber n) S a1 a2 a3 a4 a5 a10 s0 s1
    | 344, [a1, a2, a3, a4, a5, a9] => b_X12_readsNumber_344 n d (f_X12_readsNumber n) S a1 a2 a3 a4 a5 a9
    | _, _ => none
theorem e_X12_readsNumber_0 {n d : Nat} {S : GS} {a1 : Int} : f_X12_readsNumber (n + 1) d 0 S [a1] = b_X12_readsNumber_0 n d (f_X12_readsNumber n) S a1 := rfl
theorem e_X12_readsNumber_19 {n d : Nat} {S : GS} {a1 : Int} {a2 : Int} {s0 : Int} : f_X12_readsNumber (n + 1) d 19 S [a1, a2, s0] = b_X12_readsNumber_19 n d (f_X12_readsNumber n) S a1 a2 s0 := rfl
theorem e_X12_readsNumber_34 {n d : Nat} {S : GS} {a1 : Int} {a2 : Int} {a3 : Int} {s0 : Int} {s1 : Int} : f_X12_readsNumber (n + 1) d 34 S [a1, a2, a3, s0, s1] = b_X12_readsNumber_34 n d (f_X12_readsNumber n) S a1 a2 a3 s0 s1 := rfl
theorem e_X12_readsNumber_75 {n d : Nat} {S : GS} {a1 : Int} {a2 : Int} {a3 : Int} {a4 : Int} {a5 : Int} {a6 : Int} {a7 : Int} {a8 : Int} : f_X12_readsNumber (n + 1) d 75 S [a1, a2, a3, a4, a5, a6, a7, a8] = b_X12_readsNumber_75 n d (f_X12_readsNumber n) S a1 a2 a3 a4 a5 a6 a7 a8 := rfl
theorem e_X12_readsNumber_118 {n d : Nat} {S : GS} {a1 : Int} {a2 : Int} {a3 : Int} {a4 : Int} {a6 : Int} {a7 : Int} {a8 : Int} {s0 : Int} {s1 : Int} : f_X12_readsNumber (n + 1) d 118 S [a1, a2, a3, a4, a6, a7, a8, s0, s1] = b_X12_readsNumber_118 n d (f_X12_readsNumber n) S a1 a2 a3 a4 a6 a7 a8 s0 s1 := rfl
theorem e_X12_readsNumber_167 {n d : Nat} {S : GS} {a1 : Int} {a2 : Int} {a3 : Int} {a4 : Int} {a5 : Int} {a6 : Int} {a7 : Int} : f_X12_readsNumber (n + 1) d 167 S [a1, a2, a3, a4, a5, a6, a7] = b_X12_readsNumber_167 n d (f_X12_readsNumber n) S a1 a2 a3 a4 a5 a6 a7 := rfl
theorem e_X12_readsNumber_215 {n d : Nat} {S : GS} {a1 : Int} {a2 : Int} {a3 : Int} {a4 : Int} {a5 : Int} : f_X12_readsNumber (n + 1) d 215 S [a1, a2, a3, a4, a5] = b_X12_readsNumber_215 n d (f_X12_readsNumber n) S a1 a2 a3 a4 a5 := rfl
theorem e_X12_readsNumber_239 {n d : Nat} {S : GS} {a1 : Int} {a2 : Int} {a3 : Int} {a4 : Int} {a5 : Int} {s0 : Int} : f_X12_readsNumber (n + 1) d 239 S [a1, a2, a3, a4, a5, s0] = b_X12_readsNumber_239 n d (f_X12_readsNumber n) S a1 a2 a3 a4 a5 s0 := rfl
theorem e_X12_readsNumber_265 {n d : Nat} {S : GS} {a1 : Int} {a2 : Int} {a3 : Int} {a4 : Int} {a5 : Int} {a10 : Int} {s0 : Int} {s1 : Int} : f_X12_readsNumber (n + 1) d 265 S [a1, a2, a3, a4, a5, a10, s0, s1] = b_X12_readsNumber_265 n d (f_X12_readsNumber n) S a1 a2 a3 a4 a5 a10 s0 s1 := rfl
theorem e_X12_readsNumber_344 {n d : Nat} {S : GS} {a1 : Int} {a2 : Int} {a3 : Int} {a4 : Int} {a5 : Int} {a9 : Int} : f_X12_readsNumber (n + 1) d 344 S [a1, a2, a3, a4, a5, a9] = b_X12_readsNumber_344 n d (f_X12_readsNumber n) S a1 a2 a3 a4 a5 a9 := rfl

def b_X12_readsValue_0 (n d : Nat) (rec : Nat → Nat → GS → List Int → Option (Int × GS)) (S : GS) (a1 : Int) : Option (Int × GS) :=
  gg (1 ≤ d) <|
  gc (f_X12_sign n (d - 1) 0 S []) fun x2 S_3 =>
  gg (inr x2) <|
  if x2 ≠ 34 then (
    if x2 = 91 then (
      rec d 39 S_3 []
    ) else (
      if x2 ≠ 123 then (
        if x2 ≠ 110 then (
          if x2 = 116 then (
            rec d 77 S_3 [a1, x2]
          ) else (
            if x2 ≠ 102 then (
              gc (f_X12_readsNumber n (d - 1) 0 S_3 [a1]) fun x12 S_13 =>
              gg (x12 = 0 ∨ x12 = 1) <|
              some (x12, S_13)
            ) else (
              rec d 77 S_3 [a1, x2]
            )
          )
        ) else (
          gc (f_X12_readsLetters n (d - 1) 0 S_3 [7959387127559487488]) fun x16 S_17 =>
          gg (x16 = 0 ∨ x16 = 1) <|
          some (x16, S_17)
        )
      ) else (
        rec d 39 S_3 []
      )
    )
  ) else (
    gc (f_X12_readsText n (d - 1) 0 S_3 [40]) fun x20 S_21 =>
    gc (f_X12_textIs n (d - 1) 0 S_21 [40, a1]) fun x23 S_24 =>
    gg (x20 = 0 ∨ x20 = 1) <|
    some (x20, S_24)
  )
def b_X12_readsValue_39 (n d : Nat) (rec : Nat → Nat → GS → List Int → Option (Int × GS)) (S : GS) : Option (Int × GS) :=
  gv (S.1 500 16) fun x1 =>
  gv (x1 + 1) fun x3 =>
  gv (gI S 500 16 x3) fun S_5 =>
  some (1, S_5)
def b_X12_readsValue_77 (n d : Nat) (rec : Nat → Nat → GS → List Int → Option (Int × GS)) (S : GS) (a1 : Int) (a2 : Int) : Option (Int × GS) :=
  gg (1 ≤ d) <|
  gc (f_X12_at n (d - 1) 0 S [40, a1]) fun x2 S_3 =>
  gv (x2 + 19) fun x5 =>
  gg (inr a2) <|
  if a2 ≠ 116 then (
    rec d 101 S_3 [a2, 0, x5]
  ) else (
    rec d 101 S_3 [a2, 1, x5]
  )
def b_X12_readsValue_101 (n d : Nat) (rec : Nat → Nat → GS → List Int → Option (Int × GS)) (S : GS) (a2 : Int) (s0 : Int) (s1 : Int) : Option (Int × GS) :=
  gg (0 ≤ s1 ∧ s1 < ((295728 : Nat) : Int) ∧ s1 < 2147483648) <|
  gv (gI S 501 (s1 : Int).toNat s0) fun S_2 =>
  gg (inr a2) <|
  if a2 ≠ 116 then (
    gg (1 ≤ d) <|
    gc (f_X12_readsLetters n (d - 1) 0 S_2 [7377296907481120768]) fun x7 S_8 =>
    gg (x7 = 0 ∨ x7 = 1) <|
    some (x7, S_8)
  ) else (
    gg (1 ≤ d) <|
    gc (f_X12_readsLetters n (d - 1) 0 S_2 [8390898132396802048]) fun x12 S_13 =>
    gg (x12 = 0 ∨ x12 = 1) <|
    some (x12, S_13)
  )
def f_X12_readsValue : Nat → Nat → Nat → GS → List Int → Option (Int × GS)
  | 0, _, _, _, _ => none
  | n + 1, d, pc, S, x => match pc, x with
    | 0, [a1] => b_X12_readsValue_0 n d (f_X12_readsValue n) S a1
    | 39, [] => b_X12_readsValue_39 n d (f_X12_readsValue n) S 
    | 77, [a1, a2] => b_X12_readsValue_77 n d (f_X12_readsValue n) S a1 a2
    | 101, [a2, s0, s1] => b_X12_readsValue_101 n d (f_X12_readsValue n) S a2 s0 s1
    | _, _ => none
theorem e_X12_readsValue_0 {n d : Nat} {S : GS} {a1 : Int} : f_X12_readsValue (n + 1) d 0 S [a1] = b_X12_readsValue_0 n d (f_X12_readsValue n) S a1 := rfl
theorem e_X12_readsValue_39 {n d : Nat} {S : GS} : f_X12_readsValue (n + 1) d 39 S [] = b_X12_readsValue_39 n d (f_X12_readsValue n) S  := rfl
theorem e_X12_readsValue_77 {n d : Nat} {S : GS} {a1 : Int} {a2 : Int} : f_X12_readsValue (n + 1) d 77 S [a1, a2] = b_X12_readsValue_77 n d (f_X12_readsValue n) S a1 a2 := rfl
theorem e_X12_readsValue_101 {n d : Nat} {S : GS} {a2 : Int} {s0 : Int} {s1 : Int} : f_X12_readsValue (n + 1) d 101 S [a2, s0, s1] = b_X12_readsValue_101 n d (f_X12_readsValue n) S a2 s0 s1 := rfl

def b_X12_reads_0 (n d : Nat) (rec : Nat → Nat → GS → List Int → Option (Int × GS)) (S : GS) (a1 : Int) : Option (Int × GS) :=
  gg (1 ≤ d) <|
  gc (f_X12_begin n (d - 1) 0 S [40]) fun x2 S_3 =>
  gv (gI S_3 500 20 0) fun S_5 =>
  gv (gI S_5 500 16 0) fun S_7 =>
  rec d 23 S_7 [a1, 0, 0, 1]
def b_X12_reads_23 (n d : Nat) (rec : Nat → Nat → GS → List Int → Option (Int × GS)) (S : GS) (a1 : Int) (a2 : Int) (a3 : Int) (a4 : Int) : Option (Int × GS) :=
  gg (inr a4) <|
  if a4 = 0 then (
    gv (S.1 500 16) fun x3 =>
    gv (S.1 500 15) fun x5 =>
    gg (inr x3) <|
    gg (inr x5) <|
    if x5 ≤ x3 then (
      gg (1 ≤ d) <|
      gc (f_X12_link n (d - 1) 0 S [40]) fun x11 S_12 =>
      gg (inr a1) <|
      if a1 ≠ 2 then (
        rec d 552 S_12 [2, 41, 0, 40]
      ) else (
        rec d 552 S_12 [3, 41, 0, 40]
      )
    ) else (
      gv (S.1 500 16) fun x16 =>
      some (x16, S)
    )
  ) else (
    rec d 28 S [a1, a2, a3, a4]
  )
def b_X12_reads_28 (n d : Nat) (rec : Nat → Nat → GS → List Int → Option (Int × GS)) (S : GS) (a1 : Int) (a2 : Int) (a3 : Int) (a4 : Int) : Option (Int × GS) :=
  gg (1 ≤ d) <|
  gc (f_X12_isBlank n (d - 1) 0 S []) fun x2 S_3 =>
  gg (inr x2) <|
  if x2 = 0 then (
    gc (f_X12_sign n (d - 1) 0 S_3 []) fun x7 S_8 =>
    gv (S_8.1 500 20) fun x10 =>
    gg (inr x10) <|
    if x10 ≤ 0 then (
      rec d 99 S_8 [a1, a2, a3, a4, x7, 0]
    ) else (
      gv (S_8.1 500 20) fun x14 =>
      gv (x14 - 1) fun x16 =>
      gg (0 ≤ x16 ∧ x16 < ((16 : Nat) : Int) ∧ x16 < 2147483648) <|
      gv (S_8.1 511 (x16 : Int).toNat) fun x19 =>
      gc (f_X12_kind n (d - 1) 0 S_8 [40, x19]) fun x21 S_22 =>
      gg (inr x21) <|
      if x21 ≠ 4 then (
        gg (inr x7) <|
        if x7 ≠ 125 then (
          rec d 99 S_22 [a1, a2, a3, a4, x7, 0]
        ) else (
          rec d 99 S_22 [a1, a2, a3, a4, x7, 1]
        )
      ) else (
        gg (inr x7) <|
        if x7 ≠ 93 then (
          rec d 99 S_22 [a1, a2, a3, a4, x7, 0]
        ) else (
          rec d 99 S_22 [a1, a2, a3, a4, x7, 1]
        )
      )
    )
  ) else (
    gv (S_3.1 500 16) fun x30 =>
    gv (x30 + 1) fun x32 =>
    gv (gI S_3 500 16 x32) fun S_34 =>
    rec d 28 S_34 [a1, a2, a3, a4]
  )
def b_X12_reads_99 (n d : Nat) (rec : Nat → Nat → GS → List Int → Option (Int × GS)) (S : GS) (a1 : Int) (a2 : Int) (a3 : Int) (a4 : Int) (a5 : Int) (s0 : Int) : Option (Int × GS) :=
  gg (inr a3) <|
  if a3 = 1 then (
    rec d 116 S [a1, a2, a3, a4, a5, s0]
  ) else (
    if a3 = 2 then (
      rec d 116 S [a1, a2, a3, a4, a5, s0]
    ) else (
      if a3 ≠ 4 then (
        rec d 146 S [a1, a2, a3, a4, a5]
      ) else (
        rec d 116 S [a1, a2, a3, a4, a5, s0]
      )
    )
  )
def b_X12_reads_116 (n d : Nat) (rec : Nat → Nat → GS → List Int → Option (Int × GS)) (S : GS) (a1 : Int) (a2 : Int) (a3 : Int) (a4 : Int) (a5 : Int) (a6 : Int) : Option (Int × GS) :=
  gg (inr a6) <|
  if a6 = 0 then (
    rec d 146 S [a1, a2, a3, a4, a5]
  ) else (
    gv (S.1 500 20) fun x3 =>
    gv (x3 - 1) fun x5 =>
    gv (gI S 500 20 x5) fun S_7 =>
    gv (S_7.1 500 16) fun x9 =>
    gv (x9 + 1) fun x11 =>
    gv (gI S_7 500 16 x11) fun S_13 =>
    rec d 23 S_13 [a1, a2, 4, a4]
  )
def b_X12_reads_146 (n d : Nat) (rec : Nat → Nat → GS → List Int → Option (Int × GS)) (S : GS) (a1 : Int) (a2 : Int) (a3 : Int) (a4 : Int) (a5 : Int) : Option (Int × GS) :=
  gg (inr a3) <|
  if a3 ≠ 4 then (
    if a3 = 2 then (
      rec d 226 S [a1, a2, a4]
    ) else (
      if a3 ≠ 3 then (
        gg (1 ≤ d) <|
        gc (f_X12_kindAhead n (d - 1) 0 S []) fun x6 S_7 =>
        gg (inr x6) <|
        if x6 = (-1) then (
          gv (S_7.1 500 16) fun x11 =>
          some (x11, S_7)
        ) else (
          gg (inr a2) <|
          if a2 = 100 then (
            gv (S_7.1 500 16) fun x15 =>
            some (x15, S_7)
          ) else (
            if x6 < 4 then (
              rec d 282 S_7 [a1, a2, a4, x6]
            ) else (
              gv (S_7.1 500 20) fun x18 =>
              gg (inr x18) <|
              if x18 ≠ 12 then (
                rec d 282 S_7 [a1, a2, a4, x6]
              ) else (
                gv (S_7.1 500 16) fun x22 =>
                some (x22, S_7)
              )
            )
          )
        )
      ) else (
        rec d 226 S [a1, a2, a4]
      )
    )
  ) else (
    gv (S.1 500 20) fun x24 =>
    gg (inr x24) <|
    if x24 ≠ 0 then (
      gg (inr a5) <|
      if a5 = 44 then (
        gv (S.1 500 16) fun x30 =>
        gv (x30 + 1) fun x32 =>
        gv (gI S 500 16 x32) fun S_34 =>
        gv (S_34.1 500 20) fun x36 =>
        gv (x36 - 1) fun x38 =>
        gg (0 ≤ x38 ∧ x38 < ((16 : Nat) : Int) ∧ x38 < 2147483648) <|
        gv (S_34.1 511 (x38 : Int).toNat) fun x41 =>
        gg (1 ≤ d) <|
        gc (f_X12_kind n (d - 1) 0 S_34 [40, x41]) fun x44 S_45 =>
        gg (inr x44) <|
        if x44 ≠ 4 then (
          rec d 23 S_45 [a1, a2, 3, a4]
        ) else (
          rec d 23 S_45 [a1, a2, 0, a4]
        )
      ) else (
        gv (S.1 500 16) fun x49 =>
        some (x49, S)
      )
    ) else (
      rec d 23 S [a1, a2, a3, 0]
    )
  )
def b_X12_reads_226 (n d : Nat) (rec : Nat → Nat → GS → List Int → Option (Int × GS)) (S : GS) (a1 : Int) (a2 : Int) (a4 : Int) : Option (Int × GS) :=
  gg (1 ≤ d) <|
  gc (f_X12_readsKey n (d - 1) 0 S [a1]) fun x2 S_3 =>
  gg (inr x2) <|
  if x2 ≠ 0 then (
    rec d 23 S_3 [a1, a2, 0, a4]
  ) else (
    gv (S_3.1 500 16) fun x7 =>
    some (x7, S_3)
  )
def b_X12_reads_282 (n d : Nat) (rec : Nat → Nat → GS → List Int → Option (Int × GS)) (S : GS) (a1 : Int) (a2 : Int) (a4 : Int) (a7 : Int) : Option (Int × GS) :=
  gv (a2 + 1) fun x1 =>
  gg (1 ≤ d) <|
  gc (f_X12_added n (d - 1) 0 S [40, a7]) fun x4 S_5 =>
  gv (S_5.1 500 20) fun x7 =>
  gg (inr x7) <|
  if x7 ≠ 0 then (
    gv (S_5.1 500 20) fun x11 =>
    gv (x11 - 1) fun x13 =>
    gg (0 ≤ x13 ∧ x13 < ((16 : Nat) : Int) ∧ x13 < 2147483648) <|
    gv (S_5.1 511 (x13 : Int).toNat) fun x16 =>
    rec d 317 S_5 [a1, x1, a4, a7, x4, x16]
  ) else (
    rec d 317 S_5 [a1, x1, a4, a7, x4, (-1)]
  )
def b_X12_reads_317 (n d : Nat) (rec : Nat → Nat → GS → List Int → Option (Int × GS)) (S : GS) (a1 : Int) (a2 : Int) (a4 : Int) (a7 : Int) (a8 : Int) (s0 : Int) : Option (Int × GS) :=
  gg (1 ≤ d) <|
  gc (f_X12_at n (d - 1) 0 S [40, a8]) fun x2 S_3 =>
  gv (x2 + 1) fun x5 =>
  gg (0 ≤ x5 ∧ x5 < ((295728 : Nat) : Int) ∧ x5 < 2147483648) <|
  gv (gI S_3 501 (x5 : Int).toNat s0) fun S_8 =>
  gg (inr s0) <|
  if s0 = (-1) then (
    rec d 448 S_8 [a1, a2, a4, a7, a8]
  ) else (
    gc (f_X12_at n (d - 1) 0 S_8 [40, s0]) fun x12 S_13 =>
    gv (x12 + 3) fun x15 =>
    gg (0 ≤ x15 ∧ x15 < ((295728 : Nat) : Int) ∧ x15 < 2147483648) <|
    gv (S_13.1 501 (x15 : Int).toNat) fun x18 =>
    gv (x18 + 1) fun x20 =>
    gv (gI S_13 501 (x15 : Int).toNat x20) fun S_22 =>
    gc (f_X12_at n (d - 1) 0 S_22 [40, a8]) fun x24 S_25 =>
    gv (x24 + 5) fun x27 =>
    gc (f_X12_kind n (d - 1) 0 S_25 [40, s0]) fun x29 S_30 =>
    gg (inr x29) <|
    if x29 ≠ 5 then (
      gg (0 ≤ x27 ∧ x27 < ((295728 : Nat) : Int) ∧ x27 < 2147483648) <|
      gv (gI S_30 501 (x27 : Int).toNat 0) fun S_35 =>
      rec d 396 S_35 [a1, a2, a4, a7, a8, s0, 0]
    ) else (
      gv (S_30.1 500 22) fun x37 =>
      gg (0 ≤ x27 ∧ x27 < ((295728 : Nat) : Int) ∧ x27 < 2147483648) <|
      gv (gI S_30 501 (x27 : Int).toNat x37) fun S_40 =>
      rec d 396 S_40 [a1, a2, a4, a7, a8, s0, 0]
    )
  )
def b_X12_reads_396 (n d : Nat) (rec : Nat → Nat → GS → List Int → Option (Int × GS)) (S : GS) (a1 : Int) (a2 : Int) (a4 : Int) (a7 : Int) (a8 : Int) (a9 : Int) (a10 : Int) : Option (Int × GS) :=
  gv (S.1 500 22) fun x1 =>
  gg (inr a10) <|
  gg (inr x1) <|
  if x1 ≤ a10 then (
    rec d 448 S [a1, a2, a4, a7, a8]
  ) else (
    gg (1 ≤ d) <|
    gc (f_X12_kind n (d - 1) 0 S [40, a9]) fun x7 S_8 =>
    gg (inr x7) <|
    if x7 ≠ 5 then (
      rec d 448 S_8 [a1, a2, a4, a7, a8]
    ) else (
      gc (f_X12_at n (d - 1) 0 S_8 [40, a8]) fun x12 S_13 =>
      gv (x12 + 6) fun x15 =>
      gv (x15 + a10) fun x17 =>
      gg (0 ≤ a10 ∧ a10 < ((13 : Nat) : Int) ∧ a10 < 2147483648) <|
      gv (S_13.1 512 (a10 : Int).toNat) fun x20 =>
      gg (0 ≤ x17 ∧ x17 < ((295728 : Nat) : Int) ∧ x17 < 2147483648) <|
      gv (gI S_13 501 (x17 : Int).toNat x20) fun S_23 =>
      gv (a10 + 1) fun x25 =>
      rec d 396 S_23 [a1, a2, a4, a7, a8, a9, x25]
    )
  )
def b_X12_reads_448 (n d : Nat) (rec : Nat → Nat → GS → List Int → Option (Int × GS)) (S : GS) (a1 : Int) (a2 : Int) (a4 : Int) (a7 : Int) (a8 : Int) : Option (Int × GS) :=
  gg (1 ≤ d) <|
  gc (f_X12_readsValue n (d - 1) 0 S [a8]) fun x2 S_3 =>
  gg (inr x2) <|
  if x2 ≠ 0 then (
    gg (inr a7) <|
    if a7 ≠ 4 then (
      if a7 ≠ 5 then (
        rec d 483 S_3 [a1, a2, a4, a7, a8, 4]
      ) else (
        rec d 483 S_3 [a1, a2, a4, a7, a8, 2]
      )
    ) else (
      rec d 483 S_3 [a1, a2, a4, a7, a8, 1]
    )
  ) else (
    gv (S_3.1 500 16) fun x10 =>
    some (x10, S_3)
  )
def b_X12_reads_483 (n d : Nat) (rec : Nat → Nat → GS → List Int → Option (Int × GS)) (S : GS) (a1 : Int) (a2 : Int) (a4 : Int) (a7 : Int) (a8 : Int) (s0 : Int) : Option (Int × GS) :=
  gg (inr a7) <|
  if a7 < 4 then (
    rec d 23 S [a1, a2, s0, a4]
  ) else (
    gv (S.1 500 20) fun x3 =>
    gg (0 ≤ x3 ∧ x3 < ((16 : Nat) : Int) ∧ x3 < 2147483648) <|
    gv (gI S 511 (x3 : Int).toNat a8) fun S_6 =>
    gv (S_6.1 500 20) fun x8 =>
    gv (x8 + 1) fun x10 =>
    gv (gI S_6 500 20 x10) fun S_12 =>
    rec d 23 S_12 [a1, a2, s0, a4]
  )
def b_X12_reads_552 (n d : Nat) (rec : Nat → Nat → GS → List Int → Option (Int × GS)) (S : GS) (s0 : Int) (s1 : Int) (s2 : Int) (s3 : Int) : Option (Int × GS) :=
  gg (1 ≤ d) <|
  gc (f_X12_choose n (d - 1) 0 S [s3, s2, s1, s0]) fun x2 S_3 =>
  gc (f_X12_becomes n (d - 1) 0 S_3 [40, 41]) fun x5 S_6 =>
  gc (f_X12_link n (d - 1) 0 S_6 [40]) fun x8 S_9 =>
  some ((-1), S_9)
def f_X12_reads : Nat → Nat → Nat → GS → List Int → Option (Int × GS)
  | 0, _, _, _, _ => none
  | n + 1, d, pc, S, x => match pc, x with
    | 0, [a1] => b_X12_reads_0 n d (f_X12_reads n) S a1
    | 23, [a1, a2, a3, a4] => b_X12_reads_23 n d (f_X12_reads n) S a1 a2 a3 a4
    | 28, [a1, a2, a3, a4] => b_X12_reads_28 n d (f_X12_reads n) S a1 a2 a3 a4
    | 99, [a1, a2, a3, a4, a5, s0] => b_X12_reads_99 n d (f_X12_reads n) S a1 a2 a3 a4 a5 s0
    | 116, [a1, a2, a3, a4, a5, a6] => b_X12_reads_116 n d (f_X12_reads n) S a1 a2 a3 a4 a5 a6
    | 146, [a1, a2, a3, a4, a5] => b_X12_reads_146 n d (f_X12_reads n) S a1 a2 a3 a4 a5
    | 226, [a1, a2, a4] => b_X12_reads_226 n d (f_X12_reads n) S a1 a2 a4
    | 282, [a1, a2, a4, a7] => b_X12_reads_282 n d (f_X12_reads n) S a1 a2 a4 a7
    | 317, [a1, a2, a4, a7, a8, s0] => b_X12_reads_317 n d (f_X12_reads n) S a1 a2 a4 a7 a8 s0
    | 396, [a1, a2, a4, a7, a8, a9, a10] => b_X12_reads_396 n d (f_X12_reads n) S a1 a2 a4 a7 a8 a9 a10
    | 448, [a1, a2, a4, a7, a8] => b_X12_reads_448 n d (f_X12_reads n) S a1 a2 a4 a7 a8
    | 483, [a1, a2, a4, a7, a8, s0] => b_X12_reads_483 n d (f_X12_reads n) S a1 a2 a4 a7 a8 s0
    | 552, [s0, s1, s2, s3] => b_X12_reads_552 n d (f_X12_reads n) S s0 s1 s2 s3
    | _, _ => none
theorem e_X12_reads_0 {n d : Nat} {S : GS} {a1 : Int} : f_X12_reads (n + 1) d 0 S [a1] = b_X12_reads_0 n d (f_X12_reads n) S a1 := rfl
theorem e_X12_reads_23 {n d : Nat} {S : GS} {a1 : Int} {a2 : Int} {a3 : Int} {a4 : Int} : f_X12_reads (n + 1) d 23 S [a1, a2, a3, a4] = b_X12_reads_23 n d (f_X12_reads n) S a1 a2 a3 a4 := rfl
theorem e_X12_reads_28 {n d : Nat} {S : GS} {a1 : Int} {a2 : Int} {a3 : Int} {a4 : Int} : f_X12_reads (n + 1) d 28 S [a1, a2, a3, a4] = b_X12_reads_28 n d (f_X12_reads n) S a1 a2 a3 a4 := rfl
theorem e_X12_reads_99 {n d : Nat} {S : GS} {a1 : Int} {a2 : Int} {a3 : Int} {a4 : Int} {a5 : Int} {s0 : Int} : f_X12_reads (n + 1) d 99 S [a1, a2, a3, a4, a5, s0] = b_X12_reads_99 n d (f_X12_reads n) S a1 a2 a3 a4 a5 s0 := rfl
theorem e_X12_reads_116 {n d : Nat} {S : GS} {a1 : Int} {a2 : Int} {a3 : Int} {a4 : Int} {a5 : Int} {a6 : Int} : f_X12_reads (n + 1) d 116 S [a1, a2, a3, a4, a5, a6] = b_X12_reads_116 n d (f_X12_reads n) S a1 a2 a3 a4 a5 a6 := rfl
theorem e_X12_reads_146 {n d : Nat} {S : GS} {a1 : Int} {a2 : Int} {a3 : Int} {a4 : Int} {a5 : Int} : f_X12_reads (n + 1) d 146 S [a1, a2, a3, a4, a5] = b_X12_reads_146 n d (f_X12_reads n) S a1 a2 a3 a4 a5 := rfl
theorem e_X12_reads_226 {n d : Nat} {S : GS} {a1 : Int} {a2 : Int} {a4 : Int} : f_X12_reads (n + 1) d 226 S [a1, a2, a4] = b_X12_reads_226 n d (f_X12_reads n) S a1 a2 a4 := rfl
theorem e_X12_reads_282 {n d : Nat} {S : GS} {a1 : Int} {a2 : Int} {a4 : Int} {a7 : Int} : f_X12_reads (n + 1) d 282 S [a1, a2, a4, a7] = b_X12_reads_282 n d (f_X12_reads n) S a1 a2 a4 a7 := rfl
theorem e_X12_reads_317 {n d : Nat} {S : GS} {a1 : Int} {a2 : Int} {a4 : Int} {a7 : Int} {a8 : Int} {s0 : Int} : f_X12_reads (n + 1) d 317 S [a1, a2, a4, a7, a8, s0] = b_X12_reads_317 n d (f_X12_reads n) S a1 a2 a4 a7 a8 s0 := rfl
theorem e_X12_reads_396 {n d : Nat} {S : GS} {a1 : Int} {a2 : Int} {a4 : Int} {a7 : Int} {a8 : Int} {a9 : Int} {a10 : Int} : f_X12_reads (n + 1) d 396 S [a1, a2, a4, a7, a8, a9, a10] = b_X12_reads_396 n d (f_X12_reads n) S a1 a2 a4 a7 a8 a9 a10 := rfl
theorem e_X12_reads_448 {n d : Nat} {S : GS} {a1 : Int} {a2 : Int} {a4 : Int} {a7 : Int} {a8 : Int} : f_X12_reads (n + 1) d 448 S [a1, a2, a4, a7, a8] = b_X12_reads_448 n d (f_X12_reads n) S a1 a2 a4 a7 a8 := rfl
theorem e_X12_reads_483 {n d : Nat} {S : GS} {a1 : Int} {a2 : Int} {a4 : Int} {a7 : Int} {a8 : Int} {s0 : Int} : f_X12_reads (n + 1) d 483 S [a1, a2, a4, a7, a8, s0] = b_X12_reads_483 n d (f_X12_reads n) S a1 a2 a4 a7 a8 s0 := rfl
theorem e_X12_reads_552 {n d : Nat} {S : GS} {s0 : Int} {s1 : Int} {s2 : Int} {s3 : Int} : f_X12_reads (n + 1) d 552 S [s0, s1, s2, s3] = b_X12_reads_552 n d (f_X12_reads n) S s0 s1 s2 s3 := rfl

def b_X12_read_0 (n d : Nat) (rec : Nat → Nat → GS → List Int → Option (Int × GS)) (S : GS) : Option (Int × GS) :=
  gv (S.1 500 1) fun x1 =>
  gg (inr x1) <|
  if 40 ≤ x1 then (
    rec d 15 S [0]
  ) else (
    rec d 15 S [1]
  )
def b_X12_read_15 (n d : Nat) (rec : Nat → Nat → GS → List Int → Option (Int × GS)) (S : GS) (s0 : Int) : Option (Int × GS) :=
  gg (1 ≤ d) <|
  gc (f_X12_fails n (d - 1) 0 S [s0, 1]) fun x2 S_3 =>
  gg (inr x2) <|
  if x2 = 0 then (
    gv (S_3.1 500 7) fun x7 =>
    gv (gI S_3 500 15 x7) fun S_9 =>
    rec d 34 S_9 [0]
  ) else (
    some (0, S_3)
  )
def b_X12_read_34 (n d : Nat) (rec : Nat → Nat → GS → List Int → Option (Int × GS)) (S : GS) (a1 : Int) : Option (Int × GS) :=
  gv (S.1 500 7) fun x1 =>
  gg (inr a1) <|
  gg (inr x1) <|
  if x1 ≤ a1 then (
    gv (gI S 500 7 0) fun S_6 =>
    gv (S_6.1 500 2) fun x8 =>
    gg (1 ≤ d) <|
    gc (f_X12_reads n (d - 1) 0 S_6 [x8]) fun x11 S_12 =>
    gg (inr x11) <|
    if x11 ≠ (-1) then (
      gv ((-2) - x11) fun x16 =>
      some (x16, S_12)
    ) else (
      gc (f_X12_keeps n (d - 1) 0 S_12 [40]) fun x18 S_19 =>
      some (x18, S_19)
    )
  ) else (
    gg (0 ≤ a1 ∧ a1 < ((400 : Nat) : Int) ∧ a1 < 2147483648) <|
    gv (S.1 503 (a1 : Int).toNat) fun x22 =>
    gg (0 ≤ a1 ∧ a1 < ((1000 : Nat) : Int) ∧ a1 < 2147483648) <|
    gv (gI S 508 (a1 : Int).toNat x22) fun S_25 =>
    gv (a1 + 1) fun x27 =>
    rec d 34 S_25 [x27]
  )
def f_X12_read : Nat → Nat → Nat → GS → List Int → Option (Int × GS)
  | 0, _, _, _, _ => none
  | n + 1, d, pc, S, x => match pc, x with
    | 0, [] => b_X12_read_0 n d (f_X12_read n) S 
    | 15, [s0] => b_X12_read_15 n d (f_X12_read n) S s0
    | 34, [a1] => b_X12_read_34 n d (f_X12_read n) S a1
    | _, _ => none
theorem e_X12_read_0 {n d : Nat} {S : GS} : f_X12_read (n + 1) d 0 S [] = b_X12_read_0 n d (f_X12_read n) S  := rfl
theorem e_X12_read_15 {n d : Nat} {S : GS} {s0 : Int} : f_X12_read (n + 1) d 15 S [s0] = b_X12_read_15 n d (f_X12_read n) S s0 := rfl
theorem e_X12_read_34 {n d : Nat} {S : GS} {a1 : Int} : f_X12_read (n + 1) d 34 S [a1] = b_X12_read_34 n d (f_X12_read n) S a1 := rfl

def b_X12_rows_0 (n d : Nat) (rec : Nat → Nat → GS → List Int → Option (Int × GS)) (S : GS) (a1 : Int) : Option (Int × GS) :=
  gg (1 ≤ d) <|
  gc (f_X12_isDoc n (d - 1) 0 S [a1]) fun x2 S_3 =>
  gc (f_X12_fails n (d - 1) 0 S_3 [x2, 1]) fun x5 S_6 =>
  gg (inr x5) <|
  if x5 = 0 then (
    gc (f_X12_part n (d - 1) 0 S_6 [a1, 0, 3]) fun x10 S_11 =>
    gc (f_X12_kind n (d - 1) 0 S_11 [a1, 0]) fun x13 S_14 =>
    gg (inr x13) <|
    if x13 ≠ 5 then (
      rec d 55 S_14 [a1, x10, 0, 1]
    ) else (
      gg (inr x10) <|
      if x10 ≤ 0 then (
        rec d 55 S_14 [a1, x10, 0, 1]
      ) else (
        gc (f_X12_areAll n (d - 1) 0 S_14 [a1, 4]) fun x20 S_21 =>
        gg (inr x20) <|
        if x20 = 0 then (
          rec d 55 S_21 [a1, x10, 0, 1]
        ) else (
          rec d 55 S_21 [a1, x10, 1, 1]
        )
      )
    )
  ) else (
    some (0, S_6)
  )
def b_X12_rows_55 (n d : Nat) (rec : Nat → Nat → GS → List Int → Option (Int × GS)) (S : GS) (a1 : Int) (a2 : Int) (a3 : Int) (a4 : Int) : Option (Int × GS) :=
  gg (inr a4) <|
  gg (inr a2) <|
  if a2 ≤ a4 then (
    rec d 101 S [a1, a2, a3]
  ) else (
    gg (inr a3) <|
    if a3 = 0 then (
      rec d 101 S [a1, a2, a3]
    ) else (
      gg (1 ≤ d) <|
      gc (f_X12_childAt n (d - 1) 0 S [a1, 0, a4]) fun x7 S_8 =>
      gc (f_X12_part n (d - 1) 0 S_8 [a1, x7, 3]) fun x10 S_11 =>
      gc (f_X12_part n (d - 1) 0 S_11 [a1, 1, 3]) fun x13 S_14 =>
      gg (inr x10) <|
      gg (inr x13) <|
      if x10 ≠ x13 then (
        gv (a4 + 1) fun x19 =>
        rec d 55 S_14 [a1, a2, 0, x19]
      ) else (
        gv (a4 + 1) fun x21 =>
        rec d 55 S_14 [a1, a2, 1, x21]
      )
    )
  )
def b_X12_rows_101 (n d : Nat) (rec : Nat → Nat → GS → List Int → Option (Int × GS)) (S : GS) (a1 : Int) (a2 : Int) (a3 : Int) : Option (Int × GS) :=
  gg (1 ≤ d) <|
  gc (f_X12_fails n (d - 1) 0 S [a3, 2]) fun x2 S_3 =>
  gg (inr x2) <|
  if x2 = 0 then (
    gc (f_X12_begin n (d - 1) 0 S_3 [40]) fun x7 S_8 =>
    gc (f_X12_added n (d - 1) 0 S_8 [40, 4]) fun x10 S_11 =>
    gc (f_X12_part n (d - 1) 0 S_11 [a1, 1, 3]) fun x13 S_14 =>
    gc (f_X12_at n (d - 1) 0 S_14 [40, x10]) fun x16 S_17 =>
    gv (x16 + 3) fun x19 =>
    gg (0 ≤ x19 ∧ x19 < ((295728 : Nat) : Int) ∧ x19 < 2147483648) <|
    gv (gI S_17 501 (x19 : Int).toNat x13) fun S_22 =>
    rec d 155 S_22 [a1, a2, x13, 0]
  ) else (
    some (0, S_3)
  )
def b_X12_rows_155 (n d : Nat) (rec : Nat → Nat → GS → List Int → Option (Int × GS)) (S : GS) (a1 : Int) (a2 : Int) (a5 : Int) (a6 : Int) : Option (Int × GS) :=
  gg (inr a6) <|
  gg (inr a5) <|
  if a5 ≤ a6 then (
    gg (1 ≤ d) <|
    gc (f_X12_isWhole n (d - 1) 0 S [40]) fun x5 S_6 =>
    gg (inr x5) <|
    if x5 = 0 then (
      rec d 265 S_6 [0]
    ) else (
      gv (S_6.1 500 1) fun x10 =>
      gg (inr x10) <|
      if 40 ≤ x10 then (
        rec d 265 S_6 [0]
      ) else (
        rec d 265 S_6 [1]
      )
    )
  ) else (
    gg (1 ≤ d) <|
    gc (f_X12_added n (d - 1) 0 S [40, 5]) fun x15 S_16 =>
    gc (f_X12_at n (d - 1) 0 S_16 [40, x15]) fun x18 S_19 =>
    gv (x18 + 3) fun x21 =>
    gg (0 ≤ x21 ∧ x21 < ((295728 : Nat) : Int) ∧ x21 < 2147483648) <|
    gv (gI S_19 501 (x21 : Int).toNat a2) fun S_24 =>
    rec d 189 S_24 [a1, a2, a5, a6, 0]
  )
def b_X12_rows_189 (n d : Nat) (rec : Nat → Nat → GS → List Int → Option (Int × GS)) (S : GS) (a1 : Int) (a2 : Int) (a5 : Int) (a6 : Int) (a8 : Int) : Option (Int × GS) :=
  gg (inr a8) <|
  gg (inr a2) <|
  if a2 ≤ a8 then (
    gv (a6 + 1) fun x4 =>
    rec d 155 S [a1, a2, a5, x4]
  ) else (
    gg (1 ≤ d) <|
    gc (f_X12_childAt n (d - 1) 0 S [a1, 0, a8]) fun x7 S_8 =>
    gc (f_X12_wordOfKey n (d - 1) 0 S_8 [a1, x7]) fun x10 S_11 =>
    gc (f_X12_childAt n (d - 1) 0 S_11 [a1, x7, a6]) fun x13 S_14 =>
    gc (f_X12_brings n (d - 1) 0 S_14 [40, a1, x13, 1]) fun x16 S_17 =>
    gv (a8 + 1) fun x19 =>
    rec d 189 S_17 [a1, a2, a5, a6, x19]
  )
def b_X12_rows_265 (n d : Nat) (rec : Nat → Nat → GS → List Int → Option (Int × GS)) (S : GS) (s0 : Int) : Option (Int × GS) :=
  gg (1 ≤ d) <|
  gc (f_X12_fails n (d - 1) 0 S [s0, 2]) fun x2 S_3 =>
  gg (inr x2) <|
  if x2 = 0 then (
    gc (f_X12_keeps n (d - 1) 0 S_3 [40]) fun x7 S_8 =>
    some (x7, S_8)
  ) else (
    some (0, S_3)
  )
def f_X12_rows : Nat → Nat → Nat → GS → List Int → Option (Int × GS)
  | 0, _, _, _, _ => none
  | n + 1, d, pc, S, x => match pc, x with
    | 0, [a1] => b_X12_rows_0 n d (f_X12_rows n) S a1
    | 55, [a1, a2, a3, a4] => b_X12_rows_55 n d (f_X12_rows n) S a1 a2 a3 a4
    | 101, [a1, a2, a3] => b_X12_rows_101 n d (f_X12_rows n) S a1 a2 a3
    | 155, [a1, a2, a5, a6] => b_X12_rows_155 n d (f_X12_rows n) S a1 a2 a5 a6
    | 189, [a1, a2, a5, a6, a8] => b_X12_rows_189 n d (f_X12_rows n) S a1 a2 a5 a6 a8
    | 265, [s0] => b_X12_rows_265 n d (f_X12_rows n) S s0
    | _, _ => none
theorem e_X12_rows_0 {n d : Nat} {S : GS} {a1 : Int} : f_X12_rows (n + 1) d 0 S [a1] = b_X12_rows_0 n d (f_X12_rows n) S a1 := rfl
theorem e_X12_rows_55 {n d : Nat} {S : GS} {a1 : Int} {a2 : Int} {a3 : Int} {a4 : Int} : f_X12_rows (n + 1) d 55 S [a1, a2, a3, a4] = b_X12_rows_55 n d (f_X12_rows n) S a1 a2 a3 a4 := rfl
theorem e_X12_rows_101 {n d : Nat} {S : GS} {a1 : Int} {a2 : Int} {a3 : Int} : f_X12_rows (n + 1) d 101 S [a1, a2, a3] = b_X12_rows_101 n d (f_X12_rows n) S a1 a2 a3 := rfl
theorem e_X12_rows_155 {n d : Nat} {S : GS} {a1 : Int} {a2 : Int} {a5 : Int} {a6 : Int} : f_X12_rows (n + 1) d 155 S [a1, a2, a5, a6] = b_X12_rows_155 n d (f_X12_rows n) S a1 a2 a5 a6 := rfl
theorem e_X12_rows_189 {n d : Nat} {S : GS} {a1 : Int} {a2 : Int} {a5 : Int} {a6 : Int} {a8 : Int} : f_X12_rows (n + 1) d 189 S [a1, a2, a5, a6, a8] = b_X12_rows_189 n d (f_X12_rows n) S a1 a2 a5 a6 a8 := rfl
theorem e_X12_rows_265 {n d : Nat} {S : GS} {s0 : Int} : f_X12_rows (n + 1) d 265 S [s0] = b_X12_rows_265 n d (f_X12_rows n) S s0 := rfl

def b_X12_rule_0 (n d : Nat) (rec : Nat → Nat → GS → List Int → Option (Int × GS)) (S : GS) (a1 : Int) : Option (Int × GS) :=
  gg (1 ≤ d) <|
  gc (f_X12_in n (d - 1) 0 S [a1, 0, 2]) fun x2 S_3 =>
  gc (f_X12_fails n (d - 1) 0 S_3 [x2, 1]) fun x5 S_6 =>
  gg (inr x5) <|
  if x5 = 0 then (
    gv (S_6.1 500 2) fun x10 =>
    gv (gI S_6 500 2 a1) fun S_12 =>
    some (x10, S_12)
  ) else (
    some (0, S_6)
  )
def f_X12_rule : Nat → Nat → Nat → GS → List Int → Option (Int × GS)
  | 0, _, _, _, _ => none
  | n + 1, d, pc, S, x => match pc, x with
    | 0, [a1] => b_X12_rule_0 n d (f_X12_rule n) S a1
    | _, _ => none
theorem e_X12_rule_0 {n d : Nat} {S : GS} {a1 : Int} : f_X12_rule (n + 1) d 0 S [a1] = b_X12_rule_0 n d (f_X12_rule n) S a1 := rfl

def b_X12_selectsBy_0 (n d : Nat) (rec : Nat → Nat → GS → List Int → Option (Int × GS)) (S : GS) (a1 : Int) (a2 : Int) : Option (Int × GS) :=
  gv (S.1 500 31) fun x1 =>
  gv (S.1 500 30) fun x3 =>
  gv (x1 - x3) fun x5 =>
  gg (inr x5) <|
  if x5 ≠ 2 then (
    rec d 72 S [a1, a2, x5]
  ) else (
    gv (S.1 500 30) fun x9 =>
    gg (0 ≤ x9 ∧ x9 < ((1000 : Nat) : Int) ∧ x9 < 2147483648) <|
    gv (S.1 518 (x9 : Int).toNat) fun x12 =>
    gg (inr x12) <|
    if x12 ≠ 42 then (
      rec d 72 S [a1, a2, x5]
    ) else (
      gv (S.1 500 30) fun x16 =>
      gv (x16 + 1) fun x18 =>
      gg (0 ≤ x18 ∧ x18 < ((1000 : Nat) : Int) ∧ x18 < 2147483648) <|
      gv (S.1 518 (x18 : Int).toNat) fun x21 =>
      gg (inr x21) <|
      if x21 ≠ 42 then (
        rec d 72 S [a1, a2, x5]
      ) else (
        rec d 48 S [a1, a2, a2]
      )
    )
  )
def b_X12_selectsBy_48 (n d : Nat) (rec : Nat → Nat → GS → List Int → Option (Int × GS)) (S : GS) (a1 : Int) (a2 : Int) (a4 : Int) : Option (Int × GS) :=
  gg (1 ≤ d) <|
  gc (f_X12_endOf n (d - 1) 0 S [a1, a2]) fun x2 S_3 =>
  gg (inr a4) <|
  gg (inr x2) <|
  if x2 ≤ a4 then (
    some (0, S_3)
  ) else (
    gc (f_X12_meets n (d - 1) 0 S_3 [a4]) fun x8 S_9 =>
    gv (a4 + 1) fun x11 =>
    rec d 48 S_9 [a1, a2, x11]
  )
def b_X12_selectsBy_72 (n d : Nat) (rec : Nat → Nat → GS → List Int → Option (Int × GS)) (S : GS) (a1 : Int) (a2 : Int) (a3 : Int) : Option (Int × GS) :=
  gg (inr a3) <|
  if a3 ≠ 1 then (
    rec d 96 S [a1, a2, a3, 0]
  ) else (
    gv (S.1 500 30) fun x3 =>
    gg (0 ≤ x3 ∧ x3 < ((1000 : Nat) : Int) ∧ x3 < 2147483648) <|
    gv (S.1 518 (x3 : Int).toNat) fun x6 =>
    gg (inr x6) <|
    if x6 ≠ 42 then (
      rec d 96 S [a1, a2, a3, 0]
    ) else (
      rec d 96 S [a1, a2, a3, 1]
    )
  )
def b_X12_selectsBy_96 (n d : Nat) (rec : Nat → Nat → GS → List Int → Option (Int × GS)) (S : GS) (a1 : Int) (a2 : Int) (a3 : Int) (s0 : Int) : Option (Int × GS) :=
  gg (inr s0) <|
  if s0 ≠ 0 then (
    gv (S.1 500 30) fun x3 =>
    rec d 161 S [a1, a2, s0, x3]
  ) else (
    gg (inr a3) <|
    if a3 = 0 then (
      rec d 121 S [a1, a2]
    ) else (
      gv (S.1 500 30) fun x7 =>
      gg (0 ≤ x7 ∧ x7 < ((1000 : Nat) : Int) ∧ x7 < 2147483648) <|
      gv (S.1 518 (x7 : Int).toNat) fun x10 =>
      gg (inr x10) <|
      if x10 = 63 then (
        gv (S.1 500 30) fun x14 =>
        rec d 161 S [a1, a2, s0, x14]
      ) else (
        rec d 121 S [a1, a2]
      )
    )
  )
def b_X12_selectsBy_121 (n d : Nat) (rec : Nat → Nat → GS → List Int → Option (Int × GS)) (S : GS) (a1 : Int) (a2 : Int) : Option (Int × GS) :=
  gv (S.1 500 30) fun x1 =>
  gv (S.1 500 31) fun x3 =>
  gg (1 ≤ d) <|
  gc (f_X12_wordOf n (d - 1) 0 S [x1, x3]) fun x6 S_7 =>
  gc (f_X12_stepped n (d - 1) 0 S_7 [a1, a2, 1]) fun x9 S_10 =>
  gg (inr x9) <|
  if x9 = (-1) then (
    some (0, S_10)
  ) else (
    gc (f_X12_meets n (d - 1) 0 S_10 [x9]) fun x14 S_15 =>
    some (0, S_15)
  )
def b_X12_selectsBy_161 (n d : Nat) (rec : Nat → Nat → GS → List Int → Option (Int × GS)) (S : GS) (a1 : Int) (a2 : Int) (a4 : Int) (a5 : Int) : Option (Int × GS) :=
  gv (S.1 500 31) fun x1 =>
  gg (inr a5) <|
  gg (inr x1) <|
  if x1 ≤ a5 then (
    gv (a2 + 1) fun x6 =>
    rec d 196 S [a1, a2, a4, a5, x6, 0]
  ) else (
    gg (0 ≤ a5 ∧ a5 < ((1000 : Nat) : Int) ∧ a5 < 2147483648) <|
    gv (S.1 518 (a5 : Int).toNat) fun x9 =>
    gg (inr x9) <|
    if x9 = 61 then (
      gv (a2 + 1) fun x13 =>
      rec d 196 S [a1, a2, a4, a5, x13, 0]
    ) else (
      gv (a5 + 1) fun x15 =>
      rec d 161 S [a1, a2, a4, x15]
    )
  )
def b_X12_selectsBy_196 (n d : Nat) (rec : Nat → Nat → GS → List Int → Option (Int × GS)) (S : GS) (a1 : Int) (a2 : Int) (a4 : Int) (a5 : Int) (a6 : Int) (a7 : Int) : Option (Int × GS) :=
  gg (1 ≤ d) <|
  gc (f_X12_part n (d - 1) 0 S [a1, a2, 3]) fun x2 S_3 =>
  gg (inr a7) <|
  gg (inr x2) <|
  if x2 ≤ a7 then (
    some (0, S_3)
  ) else (
    gg (inr a4) <|
    if a4 ≠ 0 then (
      rec d 234 S_3 [a1, a2, a4, a5, a6, a7]
    ) else (
      gv (S_3.1 500 31) fun x10 =>
      gg (inr a5) <|
      gg (inr x10) <|
      if x10 ≤ a5 then (
        gc (f_X12_endOf n (d - 1) 0 S_3 [a1, a6]) fun x15 S_16 =>
        gv (a7 + 1) fun x18 =>
        rec d 196 S_16 [a1, a2, a4, a5, x15, x18]
      ) else (
        gc (f_X12_isSo n (d - 1) 0 S_3 [a1, a6, a5]) fun x20 S_21 =>
        gg (inr x20) <|
        if x20 = 0 then (
          gc (f_X12_endOf n (d - 1) 0 S_21 [a1, a6]) fun x25 S_26 =>
          gv (a7 + 1) fun x28 =>
          rec d 196 S_26 [a1, a2, a4, a5, x25, x28]
        ) else (
          rec d 234 S_21 [a1, a2, a4, a5, a6, a7]
        )
      )
    )
  )
def b_X12_selectsBy_234 (n d : Nat) (rec : Nat → Nat → GS → List Int → Option (Int × GS)) (S : GS) (a1 : Int) (a2 : Int) (a4 : Int) (a5 : Int) (a6 : Int) (a7 : Int) : Option (Int × GS) :=
  gg (1 ≤ d) <|
  gc (f_X12_meets n (d - 1) 0 S [a6]) fun x2 S_3 =>
  gc (f_X12_endOf n (d - 1) 0 S_3 [a1, a6]) fun x5 S_6 =>
  gv (a7 + 1) fun x8 =>
  rec d 196 S_6 [a1, a2, a4, a5, x5, x8]
def f_X12_selectsBy : Nat → Nat → Nat → GS → List Int → Option (Int × GS)
  | 0, _, _, _, _ => none
  | n + 1, d, pc, S, x => match pc, x with
    | 0, [a1, a2] => b_X12_selectsBy_0 n d (f_X12_selectsBy n) S a1 a2
    | 48, [a1, a2, a4] => b_X12_selectsBy_48 n d (f_X12_selectsBy n) S a1 a2 a4
    | 72, [a1, a2, a3] => b_X12_selectsBy_72 n d (f_X12_selectsBy n) S a1 a2 a3
    | 96, [a1, a2, a3, s0] => b_X12_selectsBy_96 n d (f_X12_selectsBy n) S a1 a2 a3 s0
    | 121, [a1, a2] => b_X12_selectsBy_121 n d (f_X12_selectsBy n) S a1 a2
    | 161, [a1, a2, a4, a5] => b_X12_selectsBy_161 n d (f_X12_selectsBy n) S a1 a2 a4 a5
    | 196, [a1, a2, a4, a5, a6, a7] => b_X12_selectsBy_196 n d (f_X12_selectsBy n) S a1 a2 a4 a5 a6 a7
    | 234, [a1, a2, a4, a5, a6, a7] => b_X12_selectsBy_234 n d (f_X12_selectsBy n) S a1 a2 a4 a5 a6 a7
    | _, _ => none
theorem e_X12_selectsBy_0 {n d : Nat} {S : GS} {a1 : Int} {a2 : Int} : f_X12_selectsBy (n + 1) d 0 S [a1, a2] = b_X12_selectsBy_0 n d (f_X12_selectsBy n) S a1 a2 := rfl
theorem e_X12_selectsBy_48 {n d : Nat} {S : GS} {a1 : Int} {a2 : Int} {a4 : Int} : f_X12_selectsBy (n + 1) d 48 S [a1, a2, a4] = b_X12_selectsBy_48 n d (f_X12_selectsBy n) S a1 a2 a4 := rfl
theorem e_X12_selectsBy_72 {n d : Nat} {S : GS} {a1 : Int} {a2 : Int} {a3 : Int} : f_X12_selectsBy (n + 1) d 72 S [a1, a2, a3] = b_X12_selectsBy_72 n d (f_X12_selectsBy n) S a1 a2 a3 := rfl
theorem e_X12_selectsBy_96 {n d : Nat} {S : GS} {a1 : Int} {a2 : Int} {a3 : Int} {s0 : Int} : f_X12_selectsBy (n + 1) d 96 S [a1, a2, a3, s0] = b_X12_selectsBy_96 n d (f_X12_selectsBy n) S a1 a2 a3 s0 := rfl
theorem e_X12_selectsBy_121 {n d : Nat} {S : GS} {a1 : Int} {a2 : Int} : f_X12_selectsBy (n + 1) d 121 S [a1, a2] = b_X12_selectsBy_121 n d (f_X12_selectsBy n) S a1 a2 := rfl
theorem e_X12_selectsBy_161 {n d : Nat} {S : GS} {a1 : Int} {a2 : Int} {a4 : Int} {a5 : Int} : f_X12_selectsBy (n + 1) d 161 S [a1, a2, a4, a5] = b_X12_selectsBy_161 n d (f_X12_selectsBy n) S a1 a2 a4 a5 := rfl
theorem e_X12_selectsBy_196 {n d : Nat} {S : GS} {a1 : Int} {a2 : Int} {a4 : Int} {a5 : Int} {a6 : Int} {a7 : Int} : f_X12_selectsBy (n + 1) d 196 S [a1, a2, a4, a5, a6, a7] = b_X12_selectsBy_196 n d (f_X12_selectsBy n) S a1 a2 a4 a5 a6 a7 := rfl
theorem e_X12_selectsBy_234 {n d : Nat} {S : GS} {a1 : Int} {a2 : Int} {a4 : Int} {a5 : Int} {a6 : Int} {a7 : Int} : f_X12_selectsBy (n + 1) d 234 S [a1, a2, a4, a5, a6, a7] = b_X12_selectsBy_234 n d (f_X12_selectsBy n) S a1 a2 a4 a5 a6 a7 := rfl

def b_X12_select_0 (n d : Nat) (rec : Nat → Nat → GS → List Int → Option (Int × GS)) (S : GS) (a1 : Int) : Option (Int × GS) :=
  gg (1 ≤ d) <|
  gc (f_X12_isDoc n (d - 1) 0 S [a1]) fun x2 S_3 =>
  gc (f_X12_fails n (d - 1) 0 S_3 [x2, 1]) fun x5 S_6 =>
  gg (inr x5) <|
  if x5 = 0 then (
    gc (f_X12_pathOfPage n (d - 1) 0 S_6 []) fun x10 S_11 =>
    gc (f_X12_isPath n (d - 1) 0 S_11 []) fun x13 S_14 =>
    gc (f_X12_fails n (d - 1) 0 S_14 [x13, 2]) fun x16 S_17 =>
    gg (inr x16) <|
    if x16 = 0 then (
      gv (gI S_17 500 7 0) fun S_21 =>
      gv (gI S_21 500 32 1) fun S_23 =>
      gg ((0 : Int) ≤ 0 ∧ (0 : Int) < ((101 : Nat) : Int) ∧ (0 : Int) < 2147483648) <|
      gv (gI S_23 519 (0 : Int).toNat 0) fun S_26 =>
      rec d 52 S_26 [a1, 0]
    ) else (
      some (0, S_17)
    )
  ) else (
    some (0, S_6)
  )
def b_X12_select_52 (n d : Nat) (rec : Nat → Nat → GS → List Int → Option (Int × GS)) (S : GS) (a1 : Int) (a2 : Int) : Option (Int × GS) :=
  gv (S.1 500 29) fun x1 =>
  gg (inr a2) <|
  gg (inr x1) <|
  if x1 ≤ a2 then (
    gv (S.1 500 32) fun x6 =>
    some (x6, S)
  ) else (
    gg (1 ≤ d) <|
    gc (f_X12_step n (d - 1) 0 S [a2]) fun x9 S_10 =>
    gv (gI S_10 500 36 0) fun S_12 =>
    rec d 72 S_12 [a1, 0]
  )
def b_X12_select_72 (n d : Nat) (rec : Nat → Nat → GS → List Int → Option (Int × GS)) (S : GS) (a1 : Int) (a3 : Int) : Option (Int × GS) :=
  gg (inr a3) <|
  if 101 ≤ a3 then (
    rec d 93 S [a1, 0]
  ) else (
    gg (0 ≤ a3 ∧ a3 < ((101 : Nat) : Int) ∧ a3 < 2147483648) <|
    gv (gB S 521 (a3 : Int).toNat (decide ((0 : Int) = 1))) fun S_4 =>
    gv (a3 + 1) fun x6 =>
    rec d 72 S_4 [a1, x6]
  )
def b_X12_select_93 (n d : Nat) (rec : Nat → Nat → GS → List Int → Option (Int × GS)) (S : GS) (a1 : Int) (a3 : Int) : Option (Int × GS) :=
  gv (S.1 500 32) fun x1 =>
  gg (inr a3) <|
  gg (inr x1) <|
  if x1 ≤ a3 then (
    gv (S.1 500 36) fun x6 =>
    gv (gI S 500 32 x6) fun S_8 =>
    rec d 128 S_8 [a1, 0]
  ) else (
    gg (0 ≤ a3 ∧ a3 < ((101 : Nat) : Int) ∧ a3 < 2147483648) <|
    gv (S.1 519 (a3 : Int).toNat) fun x11 =>
    gg (1 ≤ d) <|
    gc (f_X12_selectsBy n (d - 1) 0 S [a1, x11]) fun x14 S_15 =>
    gv (a3 + 1) fun x17 =>
    rec d 93 S_15 [a1, x17]
  )
def b_X12_select_128 (n d : Nat) (rec : Nat → Nat → GS → List Int → Option (Int × GS)) (S : GS) (a1 : Int) (a3 : Int) : Option (Int × GS) :=
  gv (S.1 500 32) fun x1 =>
  gg (inr a3) <|
  gg (inr x1) <|
  if x1 ≤ a3 then (
    gv (S.1 500 31) fun x6 =>
    rec d 52 S [a1, x6]
  ) else (
    gg (0 ≤ a3 ∧ a3 < ((101 : Nat) : Int) ∧ a3 < 2147483648) <|
    gv (S.1 520 (a3 : Int).toNat) fun x9 =>
    gv (gI S 519 (a3 : Int).toNat x9) fun S_11 =>
    gv (a3 + 1) fun x13 =>
    rec d 128 S_11 [a1, x13]
  )
def f_X12_select : Nat → Nat → Nat → GS → List Int → Option (Int × GS)
  | 0, _, _, _, _ => none
  | n + 1, d, pc, S, x => match pc, x with
    | 0, [a1] => b_X12_select_0 n d (f_X12_select n) S a1
    | 52, [a1, a2] => b_X12_select_52 n d (f_X12_select n) S a1 a2
    | 72, [a1, a3] => b_X12_select_72 n d (f_X12_select n) S a1 a3
    | 93, [a1, a3] => b_X12_select_93 n d (f_X12_select n) S a1 a3
    | 128, [a1, a3] => b_X12_select_128 n d (f_X12_select n) S a1 a3
    | _, _ => none
theorem e_X12_select_0 {n d : Nat} {S : GS} {a1 : Int} : f_X12_select (n + 1) d 0 S [a1] = b_X12_select_0 n d (f_X12_select n) S a1 := rfl
theorem e_X12_select_52 {n d : Nat} {S : GS} {a1 : Int} {a2 : Int} : f_X12_select (n + 1) d 52 S [a1, a2] = b_X12_select_52 n d (f_X12_select n) S a1 a2 := rfl
theorem e_X12_select_72 {n d : Nat} {S : GS} {a1 : Int} {a3 : Int} : f_X12_select (n + 1) d 72 S [a1, a3] = b_X12_select_72 n d (f_X12_select n) S a1 a3 := rfl
theorem e_X12_select_93 {n d : Nat} {S : GS} {a1 : Int} {a3 : Int} : f_X12_select (n + 1) d 93 S [a1, a3] = b_X12_select_93 n d (f_X12_select n) S a1 a3 := rfl
theorem e_X12_select_128 {n d : Nat} {S : GS} {a1 : Int} {a3 : Int} : f_X12_select (n + 1) d 128 S [a1, a3] = b_X12_select_128 n d (f_X12_select n) S a1 a3 := rfl

def b_X12_sorted_0 (n d : Nat) (rec : Nat → Nat → GS → List Int → Option (Int × GS)) (S : GS) (a1 : Int) : Option (Int × GS) :=
  gg (1 ≤ d) <|
  gc (f_X12_isDoc n (d - 1) 0 S [a1]) fun x2 S_3 =>
  gc (f_X12_fails n (d - 1) 0 S_3 [x2, 1]) fun x5 S_6 =>
  gg (inr x5) <|
  if x5 ≠ 0 then (
    some (0, S_6)
  ) else (
    gv (S_6.1 500 1) fun x10 =>
    gg (inr x10) <|
    if 40 ≤ x10 then (
      rec d 28 S_6 [a1, 0]
    ) else (
      rec d 28 S_6 [a1, 1]
    )
  )
def b_X12_sorted_28 (n d : Nat) (rec : Nat → Nat → GS → List Int → Option (Int × GS)) (S : GS) (a1 : Int) (s0 : Int) : Option (Int × GS) :=
  gg (1 ≤ d) <|
  gc (f_X12_fails n (d - 1) 0 S [s0, 2]) fun x2 S_3 =>
  gg (inr x2) <|
  if x2 = 0 then (
    gc (f_X12_choose n (d - 1) 0 S_3 [a1, 0, 40, 1]) fun x7 S_8 =>
    gc (f_X12_link n (d - 1) 0 S_8 [40]) fun x10 S_11 =>
    gc (f_X12_keeps n (d - 1) 0 S_11 [40]) fun x13 S_14 =>
    some (x13, S_14)
  ) else (
    some (0, S_3)
  )
def f_X12_sorted : Nat → Nat → Nat → GS → List Int → Option (Int × GS)
  | 0, _, _, _, _ => none
  | n + 1, d, pc, S, x => match pc, x with
    | 0, [a1] => b_X12_sorted_0 n d (f_X12_sorted n) S a1
    | 28, [a1, s0] => b_X12_sorted_28 n d (f_X12_sorted n) S a1 s0
    | _, _ => none
theorem e_X12_sorted_0 {n d : Nat} {S : GS} {a1 : Int} : f_X12_sorted (n + 1) d 0 S [a1] = b_X12_sorted_0 n d (f_X12_sorted n) S a1 := rfl
theorem e_X12_sorted_28 {n d : Nat} {S : GS} {a1 : Int} {s0 : Int} : f_X12_sorted (n + 1) d 28 S [a1, s0] = b_X12_sorted_28 n d (f_X12_sorted n) S a1 s0 := rfl

def b_X12_standard_0 (n d : Nat) (rec : Nat → Nat → GS → List Int → Option (Int × GS)) (S : GS) : Option (Int × GS) :=
  gv (S.1 500 1) fun x1 =>
  gg (inr x1) <|
  if 40 ≤ x1 then (
    rec d 15 S [0]
  ) else (
    rec d 15 S [1]
  )
def b_X12_standard_15 (n d : Nat) (rec : Nat → Nat → GS → List Int → Option (Int × GS)) (S : GS) (s0 : Int) : Option (Int × GS) :=
  gg (1 ≤ d) <|
  gc (f_X12_fails n (d - 1) 0 S [s0, 1]) fun x2 S_3 =>
  gg (inr x2) <|
  if x2 = 0 then (
    gc (f_X12_keeps n (d - 1) 0 S_3 [45]) fun x7 S_8 =>
    some (x7, S_8)
  ) else (
    some (0, S_3)
  )
def f_X12_standard : Nat → Nat → Nat → GS → List Int → Option (Int × GS)
  | 0, _, _, _, _ => none
  | n + 1, d, pc, S, x => match pc, x with
    | 0, [] => b_X12_standard_0 n d (f_X12_standard n) S 
    | 15, [s0] => b_X12_standard_15 n d (f_X12_standard n) S s0
    | _, _ => none
theorem e_X12_standard_0 {n d : Nat} {S : GS} : f_X12_standard (n + 1) d 0 S [] = b_X12_standard_0 n d (f_X12_standard n) S  := rfl
theorem e_X12_standard_15 {n d : Nat} {S : GS} {s0 : Int} : f_X12_standard (n + 1) d 15 S [s0] = b_X12_standard_15 n d (f_X12_standard n) S s0 := rfl

def b_X12_sum_0 (n d : Nat) (rec : Nat → Nat → GS → List Int → Option (Int × GS)) (S : GS) (a1 : Int) : Option (Int × GS) :=
  gg (1 ≤ d) <|
  gc (f_X12_in n (d - 1) 0 S [a1, 0, 6]) fun x2 S_3 =>
  gc (f_X12_fails n (d - 1) 0 S_3 [x2, 1]) fun x5 S_6 =>
  gg (inr x5) <|
  if x5 = 0 then (
    rec d 21 S_6 [a1, 0, 0]
  ) else (
    some (0, S_6)
  )
def b_X12_sum_21 (n d : Nat) (rec : Nat → Nat → GS → List Int → Option (Int × GS)) (S : GS) (a1 : Int) (a2 : Int) (a3 : Int) : Option (Int × GS) :=
  gv (S.1 500 1) fun x1 =>
  gg (inr a3) <|
  gg (inr x1) <|
  if x1 ≤ a3 then (
    gg (inr a1) <|
    if a1 = 0 then (
      gv (S.1 500 1) fun x8 =>
      some (x8, S)
    ) else (
    if a1 = 1 then (
      gv (S.1 500 7) fun x11 =>
      some (x11, S)
    ) else (
    if a1 = 2 then (
      gv (S.1 500 9) fun x14 =>
      some (x14, S)
    ) else (
    if a1 = 3 then (
      gv (S.1 500 2) fun x17 =>
      some (x17, S)
    ) else (
    if a1 = 4 then (
      gv (S.1 500 32) fun x20 =>
      some (x20, S)
    ) else (
    if a1 = 5 then (
      gv (S.1 500 81) fun x23 =>
      some (x23, S)
    ) else (
    some (a2, S)
    ))))))
  ) else (
    gg (0 ≤ a3 ∧ a3 < ((48 : Nat) : Int) ∧ a3 < 2147483648) <|
    gv (S.1 502 (a3 : Int).toNat) fun x26 =>
    gv (a2 + x26) fun x28 =>
    gv (a3 + 1) fun x30 =>
    rec d 21 S [a1, x28, x30]
  )
def f_X12_sum : Nat → Nat → Nat → GS → List Int → Option (Int × GS)
  | 0, _, _, _, _ => none
  | n + 1, d, pc, S, x => match pc, x with
    | 0, [a1] => b_X12_sum_0 n d (f_X12_sum n) S a1
    | 21, [a1, a2, a3] => b_X12_sum_21 n d (f_X12_sum n) S a1 a2 a3
    | _, _ => none
theorem e_X12_sum_0 {n d : Nat} {S : GS} {a1 : Int} : f_X12_sum (n + 1) d 0 S [a1] = b_X12_sum_0 n d (f_X12_sum n) S a1 := rfl
theorem e_X12_sum_21 {n d : Nat} {S : GS} {a1 : Int} {a2 : Int} {a3 : Int} : f_X12_sum (n + 1) d 21 S [a1, a2, a3] = b_X12_sum_21 n d (f_X12_sum n) S a1 a2 a3 := rfl

def b_X12_take_0 (n d : Nat) (rec : Nat → Nat → GS → List Int → Option (Int × GS)) (S : GS) (a1 : Int) (a2 : Int) : Option (Int × GS) :=
  gg (1 ≤ d) <|
  gc (f_X12_isNode n (d - 1) 0 S [a1, a2]) fun x2 S_3 =>
  gc (f_X12_fails n (d - 1) 0 S_3 [x2, 1]) fun x5 S_6 =>
  gg (inr x5) <|
  if x5 ≠ 0 then (
    some (0, S_6)
  ) else (
    gv (S_6.1 500 1) fun x10 =>
    gg (inr x10) <|
    if 40 ≤ x10 then (
      rec d 29 S_6 [a1, a2, 0]
    ) else (
      rec d 29 S_6 [a1, a2, 1]
    )
  )
def b_X12_take_29 (n d : Nat) (rec : Nat → Nat → GS → List Int → Option (Int × GS)) (S : GS) (a1 : Int) (a2 : Int) (s0 : Int) : Option (Int × GS) :=
  gg (1 ≤ d) <|
  gc (f_X12_fails n (d - 1) 0 S [s0, 2]) fun x2 S_3 =>
  gg (inr x2) <|
  if x2 = 0 then (
    gc (f_X12_choose n (d - 1) 0 S_3 [a1, a2, 40, 0]) fun x7 S_8 =>
    gc (f_X12_link n (d - 1) 0 S_8 [40]) fun x10 S_11 =>
    gc (f_X12_keeps n (d - 1) 0 S_11 [40]) fun x13 S_14 =>
    some (x13, S_14)
  ) else (
    some (0, S_3)
  )
def f_X12_take : Nat → Nat → Nat → GS → List Int → Option (Int × GS)
  | 0, _, _, _, _ => none
  | n + 1, d, pc, S, x => match pc, x with
    | 0, [a1, a2] => b_X12_take_0 n d (f_X12_take n) S a1 a2
    | 29, [a1, a2, s0] => b_X12_take_29 n d (f_X12_take n) S a1 a2 s0
    | _, _ => none
theorem e_X12_take_0 {n d : Nat} {S : GS} {a1 : Int} {a2 : Int} : f_X12_take (n + 1) d 0 S [a1, a2] = b_X12_take_0 n d (f_X12_take n) S a1 a2 := rfl
theorem e_X12_take_29 {n d : Nat} {S : GS} {a1 : Int} {a2 : Int} {s0 : Int} : f_X12_take (n + 1) d 29 S [a1, a2, s0] = b_X12_take_29 n d (f_X12_take n) S a1 a2 s0 := rfl

def b_X12_tell_0 (n d : Nat) (rec : Nat → Nat → GS → List Int → Option (Int × GS)) (S : GS) (a1 : Int) (a2 : Int) (a3 : Int) : Option (Int × GS) :=
  gg (1 ≤ d) <|
  gc (f_X12_isNode n (d - 1) 0 S [a1, a2]) fun x2 S_3 =>
  gc (f_X12_fails n (d - 1) 0 S_3 [x2, 1]) fun x5 S_6 =>
  gg (inr x5) <|
  if x5 ≠ 0 then (
    some (0, S_6)
  ) else (
    gc (f_X12_in n (d - 1) 0 S_6 [a3, 0, 3]) fun x10 S_11 =>
    gc (f_X12_fails n (d - 1) 0 S_11 [x10, 2]) fun x13 S_14 =>
    gg (inr x13) <|
    if x13 = 0 then (
      gc (f_X12_kind n (d - 1) 0 S_14 [a1, a2]) fun x18 S_19 =>
      gg (inr a2) <|
      if a2 ≤ 0 then (
        rec d 63 S_19 [a1, a2, a3, x18, 0]
      ) else (
        gc (f_X12_part n (d - 1) 0 S_19 [a1, a2, 1]) fun x23 S_24 =>
        gc (f_X12_kind n (d - 1) 0 S_24 [a1, x23]) fun x26 S_27 =>
        gg (inr x26) <|
        if x26 ≠ 5 then (
          rec d 63 S_27 [a1, a2, a3, x18, 0]
        ) else (
          rec d 63 S_27 [a1, a2, a3, x18, 1]
        )
      )
    ) else (
      some (0, S_14)
    )
  )
def b_X12_tell_63 (n d : Nat) (rec : Nat → Nat → GS → List Int → Option (Int × GS)) (S : GS) (a1 : Int) (a2 : Int) (a3 : Int) (a4 : Int) (s0 : Int) : Option (Int × GS) :=
  gg (inr a3) <|
  if a3 = 3 then (
    rec d 107 S [a1, a2, a3, 1]
  ) else (
    if a3 ≠ 0 then (
      rec d 81 S [a1, a2, a3, a4, s0]
    ) else (
      gg (inr a4) <|
      if a4 = 3 then (
        rec d 107 S [a1, a2, a3, 1]
      ) else (
        rec d 81 S [a1, a2, a3, a4, s0]
      )
    )
  )
def b_X12_tell_81 (n d : Nat) (rec : Nat → Nat → GS → List Int → Option (Int × GS)) (S : GS) (a1 : Int) (a2 : Int) (a3 : Int) (a4 : Int) (a5 : Int) : Option (Int × GS) :=
  gg (inr a3) <|
  if a3 ≠ 1 then (
    rec d 92 S [a1, a2, a3, a5]
  ) else (
    gg (inr a4) <|
    if a4 = 2 then (
      rec d 107 S [a1, a2, a3, 1]
    ) else (
      rec d 92 S [a1, a2, a3, a5]
    )
  )
def b_X12_tell_92 (n d : Nat) (rec : Nat → Nat → GS → List Int → Option (Int × GS)) (S : GS) (a1 : Int) (a2 : Int) (a3 : Int) (a5 : Int) : Option (Int × GS) :=
  gg (inr a3) <|
  if a3 ≠ 2 then (
    rec d 107 S [a1, a2, a3, 0]
  ) else (
    gg (inr a5) <|
    if a5 = 0 then (
      rec d 107 S [a1, a2, a3, 0]
    ) else (
      rec d 107 S [a1, a2, a3, 1]
    )
  )
def b_X12_tell_107 (n d : Nat) (rec : Nat → Nat → GS → List Int → Option (Int × GS)) (S : GS) (a1 : Int) (a2 : Int) (a3 : Int) (s0 : Int) : Option (Int × GS) :=
  gg (1 ≤ d) <|
  gc (f_X12_fails n (d - 1) 0 S [s0, 3]) fun x2 S_3 =>
  gg (inr x2) <|
  if x2 = 0 then (
    gg ((0 : Int) ≤ 0 ∧ (0 : Int) < ((2 : Nat) : Int) ∧ (0 : Int) < 2147483648) <|
    gv (gI S_3 517 (0 : Int).toNat 0) fun S_8 =>
    gg (inr a3) <|
    if a3 ≠ 3 then (
      if a3 ≠ 2 then (
        if a3 ≠ 1 then (
          rec d 208 S_8 [a1, a2, 0]
        ) else (
          gc (f_X12_part n (d - 1) 0 S_8 [a1, a2, 19]) fun x14 S_15 =>
          gg (inr x14) <|
          if 0 ≤ x14 then (
            rec d 208 S_15 [a1, a2, 0]
          ) else (
            gc (f_X12_puts n (d - 1) 0 S_15 [0, 45]) fun x19 S_20 =>
            rec d 208 S_20 [a1, a2, 0]
          )
        )
      ) else (
        rec d 145 S_8 [a1, a2, 0]
      )
    ) else (
      gc (f_X12_putsPath n (d - 1) 0 S_8 [a1, a2]) fun x22 S_23 =>
      gc (f_X12_onPaper n (d - 1) 0 S_23 []) fun x25 S_26 =>
      some (x25, S_26)
    )
  ) else (
    some (0, S_3)
  )
def b_X12_tell_145 (n d : Nat) (rec : Nat → Nat → GS → List Int → Option (Int × GS)) (S : GS) (a1 : Int) (a2 : Int) (a6 : Int) : Option (Int × GS) :=
  gg (1 ≤ d) <|
  gc (f_X12_part n (d - 1) 0 S [a1, a2, 5]) fun x2 S_3 =>
  gg (inr a6) <|
  gg (inr x2) <|
  if x2 ≤ a6 then (
    gc (f_X12_onPaper n (d - 1) 0 S_3 []) fun x8 S_9 =>
    some (x8, S_9)
  ) else (
    gv (6 + a6) fun x11 =>
    gc (f_X12_part n (d - 1) 0 S_3 [a1, a2, x11]) fun x13 S_14 =>
    gc (f_X12_puts n (d - 1) 0 S_14 [0, x13]) fun x16 S_17 =>
    gv (a6 + 1) fun x19 =>
    rec d 145 S_17 [a1, a2, x19]
  )
def b_X12_tell_208 (n d : Nat) (rec : Nat → Nat → GS → List Int → Option (Int × GS)) (S : GS) (a1 : Int) (a2 : Int) (a6 : Int) : Option (Int × GS) :=
  gg (1 ≤ d) <|
  gc (f_X12_part n (d - 1) 0 S [a1, a2, 18]) fun x2 S_3 =>
  gg (inr a6) <|
  gg (inr x2) <|
  if x2 ≤ a6 then (
    gc (f_X12_onPaper n (d - 1) 0 S_3 []) fun x8 S_9 =>
    some (x8, S_9)
  ) else (
    gv (21 + a6) fun x11 =>
    gc (f_X12_part n (d - 1) 0 S_3 [a1, a2, x11]) fun x13 S_14 =>
    gc (f_X12_puts n (d - 1) 0 S_14 [0, x13]) fun x16 S_17 =>
    gv (a6 + 1) fun x19 =>
    rec d 208 S_17 [a1, a2, x19]
  )
def f_X12_tell : Nat → Nat → Nat → GS → List Int → Option (Int × GS)
  | 0, _, _, _, _ => none
  | n + 1, d, pc, S, x => match pc, x with
    | 0, [a1, a2, a3] => b_X12_tell_0 n d (f_X12_tell n) S a1 a2 a3
    | 63, [a1, a2, a3, a4, s0] => b_X12_tell_63 n d (f_X12_tell n) S a1 a2 a3 a4 s0
    | 81, [a1, a2, a3, a4, a5] => b_X12_tell_81 n d (f_X12_tell n) S a1 a2 a3 a4 a5
    | 92, [a1, a2, a3, a5] => b_X12_tell_92 n d (f_X12_tell n) S a1 a2 a3 a5
    | 107, [a1, a2, a3, s0] => b_X12_tell_107 n d (f_X12_tell n) S a1 a2 a3 s0
    | 145, [a1, a2, a6] => b_X12_tell_145 n d (f_X12_tell n) S a1 a2 a6
    | 208, [a1, a2, a6] => b_X12_tell_208 n d (f_X12_tell n) S a1 a2 a6
    | _, _ => none
theorem e_X12_tell_0 {n d : Nat} {S : GS} {a1 : Int} {a2 : Int} {a3 : Int} : f_X12_tell (n + 1) d 0 S [a1, a2, a3] = b_X12_tell_0 n d (f_X12_tell n) S a1 a2 a3 := rfl
theorem e_X12_tell_63 {n d : Nat} {S : GS} {a1 : Int} {a2 : Int} {a3 : Int} {a4 : Int} {s0 : Int} : f_X12_tell (n + 1) d 63 S [a1, a2, a3, a4, s0] = b_X12_tell_63 n d (f_X12_tell n) S a1 a2 a3 a4 s0 := rfl
theorem e_X12_tell_81 {n d : Nat} {S : GS} {a1 : Int} {a2 : Int} {a3 : Int} {a4 : Int} {a5 : Int} : f_X12_tell (n + 1) d 81 S [a1, a2, a3, a4, a5] = b_X12_tell_81 n d (f_X12_tell n) S a1 a2 a3 a4 a5 := rfl
theorem e_X12_tell_92 {n d : Nat} {S : GS} {a1 : Int} {a2 : Int} {a3 : Int} {a5 : Int} : f_X12_tell (n + 1) d 92 S [a1, a2, a3, a5] = b_X12_tell_92 n d (f_X12_tell n) S a1 a2 a3 a5 := rfl
theorem e_X12_tell_107 {n d : Nat} {S : GS} {a1 : Int} {a2 : Int} {a3 : Int} {s0 : Int} : f_X12_tell (n + 1) d 107 S [a1, a2, a3, s0] = b_X12_tell_107 n d (f_X12_tell n) S a1 a2 a3 s0 := rfl
theorem e_X12_tell_145 {n d : Nat} {S : GS} {a1 : Int} {a2 : Int} {a6 : Int} : f_X12_tell (n + 1) d 145 S [a1, a2, a6] = b_X12_tell_145 n d (f_X12_tell n) S a1 a2 a6 := rfl
theorem e_X12_tell_208 {n d : Nat} {S : GS} {a1 : Int} {a2 : Int} {a6 : Int} : f_X12_tell (n + 1) d 208 S [a1, a2, a6] = b_X12_tell_208 n d (f_X12_tell n) S a1 a2 a6 := rfl

def b_X12_thrown_0 (n d : Nat) (rec : Nat → Nat → GS → List Int → Option (Int × GS)) (S : GS) : Option (Int × GS) :=
  gv (S.1 500 0) fun x1 =>
  some (x1, S)
def f_X12_thrown : Nat → Nat → Nat → GS → List Int → Option (Int × GS)
  | 0, _, _, _, _ => none
  | n + 1, d, pc, S, x => match pc, x with
    | 0, [] => b_X12_thrown_0 n d (f_X12_thrown n) S 
    | _, _ => none
theorem e_X12_thrown_0 {n d : Nat} {S : GS} : f_X12_thrown (n + 1) d 0 S [] = b_X12_thrown_0 n d (f_X12_thrown n) S  := rfl

def b_X12_undoesPut_0 (n d : Nat) (rec : Nat → Nat → GS → List Int → Option (Int × GS)) (S : GS) (a1 : Int) : Option (Int × GS) :=
  gv (S.1 500 29) fun x1 =>
  gg (inr x1) <|
  if x1 ≠ 0 then (
    gv (S.1 500 29) fun x5 =>
    gg (1 ≤ d) <|
    gc (f_X12_plain n (d - 1) 0 S [a1, x5]) fun x8 S_9 =>
    rec d 20 S_9 [a1, x8]
  ) else (
    rec d 20 S [a1, 0]
  )
def b_X12_undoesPut_20 (n d : Nat) (rec : Nat → Nat → GS → List Int → Option (Int × GS)) (S : GS) (a1 : Int) (s0 : Int) : Option (Int × GS) :=
  gv (S.1 500 29) fun x1 =>
  gg (inr x1) <|
  if x1 ≠ 0 then (
    gg (1 ≤ d) <|
    gc (f_X12_lastStep n (d - 1) 0 S []) fun x6 S_7 =>
    rec d 36 S_7 [a1, s0, x6]
  ) else (
    rec d 36 S [a1, s0, 0]
  )
def b_X12_undoesPut_36 (n d : Nat) (rec : Nat → Nat → GS → List Int → Option (Int × GS)) (S : GS) (a1 : Int) (a2 : Int) (s0 : Int) : Option (Int × GS) :=
  gv (S.1 500 29) fun x1 =>
  gg (inr x1) <|
  if x1 ≠ 0 then (
    gg (1 ≤ d) <|
    gc (f_X12_plain n (d - 1) 0 S [a1, s0]) fun x6 S_7 =>
    rec d 54 S_7 [a1, a2, s0, x6]
  ) else (
    rec d 54 S [a1, a2, s0, (-1)]
  )
def b_X12_undoesPut_54 (n d : Nat) (rec : Nat → Nat → GS → List Int → Option (Int × GS)) (S : GS) (a1 : Int) (a2 : Int) (a3 : Int) (s0 : Int) : Option (Int × GS) :=
  gv (S.1 500 29) fun x1 =>
  gg (inr x1) <|
  if x1 = 0 then (
    gg (1 ≤ d) <|
    gc (f_X12_ordered n (d - 1) 0 S [41, 2, a1, a2]) fun x6 S_7 =>
    some (0, S_7)
  ) else (
    gg (1 ≤ d) <|
    gc (f_X12_kind n (d - 1) 0 S [a1, s0]) fun x10 S_11 =>
    gg (inr x10) <|
    if x10 ≠ 5 then (
      rec d 89 S_11 [a1, a3, s0]
    ) else (
      gg (inr a2) <|
      if a2 = (-1) then (
        rec d 89 S_11 [a1, a3, s0]
      ) else (
        gc (f_X12_ordered n (d - 1) 0 S_11 [41, 2, a1, a2]) fun x17 S_18 =>
        some (0, S_18)
      )
    )
  )
def b_X12_undoesPut_89 (n d : Nat) (rec : Nat → Nat → GS → List Int → Option (Int × GS)) (S : GS) (a1 : Int) (a3 : Int) (a4 : Int) : Option (Int × GS) :=
  gg (1 ≤ d) <|
  gc (f_X12_kind n (d - 1) 0 S [a1, a4]) fun x2 S_3 =>
  gg (inr x2) <|
  if x2 ≠ 4 then (
    gc (f_X12_ordered n (d - 1) 0 S_3 [41, 1, a1, (-1)]) fun x7 S_8 =>
    some (0, S_8)
  ) else (
    gv (S_3.1 500 29) fun x10 =>
    gv (a3 + 2) fun x12 =>
    gg (inr x10) <|
    gg (inr x12) <|
    if x10 ≠ x12 then (
      gc (f_X12_ordered n (d - 1) 0 S_3 [41, 1, a1, (-1)]) fun x17 S_18 =>
      some (0, S_18)
    ) else (
      gv (a3 + 1) fun x20 =>
      gg (0 ≤ x20 ∧ x20 < ((1000 : Nat) : Int) ∧ x20 < 2147483648) <|
      gv (S_3.1 518 (x20 : Int).toNat) fun x23 =>
      gg (inr x23) <|
      if x23 ≠ 45 then (
        gc (f_X12_ordered n (d - 1) 0 S_3 [41, 1, a1, (-1)]) fun x27 S_28 =>
        some (0, S_28)
      ) else (
        gv (gI S_3 500 29 a3) fun S_30 =>
        gc (f_X12_part n (d - 1) 0 S_30 [a1, a4, 3]) fun x32 S_33 =>
        gc (f_X12_addsPlace n (d - 1) 0 S_33 [x32]) fun x35 S_36 =>
        gc (f_X12_ordered n (d - 1) 0 S_36 [41, 1, a1, (-1)]) fun x38 S_39 =>
        some (0, S_39)
      )
    )
  )
def f_X12_undoesPut : Nat → Nat → Nat → GS → List Int → Option (Int × GS)
  | 0, _, _, _, _ => none
  | n + 1, d, pc, S, x => match pc, x with
    | 0, [a1] => b_X12_undoesPut_0 n d (f_X12_undoesPut n) S a1
    | 20, [a1, s0] => b_X12_undoesPut_20 n d (f_X12_undoesPut n) S a1 s0
    | 36, [a1, a2, s0] => b_X12_undoesPut_36 n d (f_X12_undoesPut n) S a1 a2 s0
    | 54, [a1, a2, a3, s0] => b_X12_undoesPut_54 n d (f_X12_undoesPut n) S a1 a2 a3 s0
    | 89, [a1, a3, a4] => b_X12_undoesPut_89 n d (f_X12_undoesPut n) S a1 a3 a4
    | _, _ => none
theorem e_X12_undoesPut_0 {n d : Nat} {S : GS} {a1 : Int} : f_X12_undoesPut (n + 1) d 0 S [a1] = b_X12_undoesPut_0 n d (f_X12_undoesPut n) S a1 := rfl
theorem e_X12_undoesPut_20 {n d : Nat} {S : GS} {a1 : Int} {s0 : Int} : f_X12_undoesPut (n + 1) d 20 S [a1, s0] = b_X12_undoesPut_20 n d (f_X12_undoesPut n) S a1 s0 := rfl
theorem e_X12_undoesPut_36 {n d : Nat} {S : GS} {a1 : Int} {a2 : Int} {s0 : Int} : f_X12_undoesPut (n + 1) d 36 S [a1, a2, s0] = b_X12_undoesPut_36 n d (f_X12_undoesPut n) S a1 a2 s0 := rfl
theorem e_X12_undoesPut_54 {n d : Nat} {S : GS} {a1 : Int} {a2 : Int} {a3 : Int} {s0 : Int} : f_X12_undoesPut (n + 1) d 54 S [a1, a2, a3, s0] = b_X12_undoesPut_54 n d (f_X12_undoesPut n) S a1 a2 a3 s0 := rfl
theorem e_X12_undoesPut_89 {n d : Nat} {S : GS} {a1 : Int} {a3 : Int} {a4 : Int} : f_X12_undoesPut (n + 1) d 89 S [a1, a3, a4] = b_X12_undoesPut_89 n d (f_X12_undoesPut n) S a1 a3 a4 := rfl

def b_X12_undoes_0 (n d : Nat) (rec : Nat → Nat → GS → List Int → Option (Int × GS)) (S : GS) (a1 : Int) (a2 : Int) : Option (Int × GS) :=
  gg (1 ≤ d) <|
  gc (f_X12_opOf n (d - 1) 0 S [a1, a2]) fun x2 S_3 =>
  gg (inr x2) <|
  if x2 ≠ 5 then (
    if x2 ≠ 3 then (
      gc (f_X12_pathNamed n (d - 1) 0 S_3 [a1, a2, 8097881595014283264]) fun x8 S_9 =>
      if x2 = 0 then (
        gc (f_X12_undoesPut n (d - 1) 0 S_9 [42]) fun x12 S_13 =>
        some (0, S_13)
      ) else (
        if x2 ≠ 4 then (
          if x2 ≠ 1 then (
            rec d 147 S_9 [2, 41]
          ) else (
            rec d 147 S_9 [0, 41]
          )
        ) else (
          gc (f_X12_undoesPut n (d - 1) 0 S_9 [42]) fun x17 S_18 =>
          some (0, S_18)
        )
      )
    ) else (
      gc (f_X12_pathNamed n (d - 1) 0 S_3 [a1, a2, 7382085253155782656]) fun x20 S_21 =>
      gc (f_X12_canCut n (d - 1) 0 S_21 [44, 42]) fun x23 S_24 =>
      gc (f_X12_pathNamed n (d - 1) 0 S_24 [a1, a2, 8097881595014283264]) fun x26 S_27 =>
      gc (f_X12_undoesPut n (d - 1) 0 S_27 [44]) fun x29 S_30 =>
      gc (f_X12_pathNamed n (d - 1) 0 S_30 [a1, a2, 7382085253155782656]) fun x32 S_33 =>
      gv (S_33.1 500 29) fun x35 =>
      gc (f_X12_plain n (d - 1) 0 S_33 [42, x35]) fun x37 S_38 =>
      gc (f_X12_ordered n (d - 1) 0 S_38 [41, 0, 42, x37]) fun x40 S_41 =>
      some (0, S_41)
    )
  ) else (
    gc (f_X12_pathNamed n (d - 1) 0 S_3 [a1, a2, 8097881595014283264]) fun x43 S_44 =>
    gc (f_X12_childNamed n (d - 1) 0 S_44 [a1, a2, 8530218420677902336]) fun x46 S_47 =>
    gc (f_X12_ordered n (d - 1) 0 S_47 [41, 5, a1, x46]) fun x49 S_50 =>
    some (0, S_50)
  )
def b_X12_undoes_147 (n d : Nat) (rec : Nat → Nat → GS → List Int → Option (Int × GS)) (S : GS) (s0 : Int) (s1 : Int) : Option (Int × GS) :=
  gv (S.1 500 29) fun x1 =>
  gg (1 ≤ d) <|
  gc (f_X12_plain n (d - 1) 0 S [42, x1]) fun x4 S_5 =>
  gc (f_X12_ordered n (d - 1) 0 S_5 [s1, s0, 42, x4]) fun x7 S_8 =>
  some (0, S_8)
def f_X12_undoes : Nat → Nat → Nat → GS → List Int → Option (Int × GS)
  | 0, _, _, _, _ => none
  | n + 1, d, pc, S, x => match pc, x with
    | 0, [a1, a2] => b_X12_undoes_0 n d (f_X12_undoes n) S a1 a2
    | 147, [s0, s1] => b_X12_undoes_147 n d (f_X12_undoes n) S s0 s1
    | _, _ => none
theorem e_X12_undoes_0 {n d : Nat} {S : GS} {a1 : Int} {a2 : Int} : f_X12_undoes (n + 1) d 0 S [a1, a2] = b_X12_undoes_0 n d (f_X12_undoes n) S a1 a2 := rfl
theorem e_X12_undoes_147 {n d : Nat} {S : GS} {s0 : Int} {s1 : Int} : f_X12_undoes (n + 1) d 147 S [s0, s1] = b_X12_undoes_147 n d (f_X12_undoes n) S s0 s1 := rfl

def b_X12_turn_0 (n d : Nat) (rec : Nat → Nat → GS → List Int → Option (Int × GS)) (S : GS) (a1 : Int) (a2 : Int) : Option (Int × GS) :=
  gg (1 ≤ d) <|
  gc (f_X12_isDoc n (d - 1) 0 S [a1]) fun x2 S_3 =>
  gg (inr x2) <|
  if x2 = 0 then (
    rec d 22 S_3 [a1, a2, 0]
  ) else (
    gc (f_X12_isDoc n (d - 1) 0 S_3 [a2]) fun x7 S_8 =>
    gg (inr x7) <|
    if x7 = 0 then (
      rec d 22 S_8 [a1, a2, 0]
    ) else (
      rec d 22 S_8 [a1, a2, 1]
    )
  )
def b_X12_turn_22 (n d : Nat) (rec : Nat → Nat → GS → List Int → Option (Int × GS)) (S : GS) (a1 : Int) (a2 : Int) (s0 : Int) : Option (Int × GS) :=
  gg (1 ≤ d) <|
  gc (f_X12_fails n (d - 1) 0 S [s0, 1]) fun x2 S_3 =>
  gg (inr x2) <|
  if x2 = 0 then (
    gc (f_X12_part n (d - 1) 0 S_3 [a2, 0, 3]) fun x7 S_8 =>
    gv (S_8.1 500 1) fun x10 =>
    gg (inr x10) <|
    if 40 ≤ x10 then (
      rec d 75 S_8 [a1, a2, x7, 0]
    ) else (
      gc (f_X12_kind n (d - 1) 0 S_8 [a2, 0]) fun x14 S_15 =>
      gg (inr x14) <|
      if x14 ≠ 4 then (
        rec d 75 S_15 [a1, a2, x7, 0]
      ) else (
        gc (f_X12_lays n (d - 1) 0 S_15 [a1, a2, x7]) fun x19 S_20 =>
        gg (inr x19) <|
        if x19 ≠ (-1) then (
          rec d 75 S_20 [a1, a2, x7, 0]
        ) else (
          rec d 75 S_20 [a1, a2, x7, 1]
        )
      )
    )
  ) else (
    some (0, S_3)
  )
def b_X12_turn_75 (n d : Nat) (rec : Nat → Nat → GS → List Int → Option (Int × GS)) (S : GS) (a1 : Int) (a2 : Int) (a3 : Int) (s0 : Int) : Option (Int × GS) :=
  gg (1 ≤ d) <|
  gc (f_X12_fails n (d - 1) 0 S [s0, 2]) fun x2 S_3 =>
  gg (inr x2) <|
  if x2 = 0 then (
    gc (f_X12_begin n (d - 1) 0 S_3 [41]) fun x7 S_8 =>
    gv (gB S_8 500 38 (decide ((0 : Int) = 1))) fun S_10 =>
    gc (f_X12_added n (d - 1) 0 S_10 [41, 4]) fun x12 S_13 =>
    gv (a3 - 1) fun x15 =>
    rec d 109 S_13 [a1, a2, x15]
  ) else (
    some (0, S_3)
  )
def b_X12_turn_109 (n d : Nat) (rec : Nat → Nat → GS → List Int → Option (Int × GS)) (S : GS) (a1 : Int) (a2 : Int) (a5 : Int) : Option (Int × GS) :=
  gg (inr a5) <|
  if a5 < 0 then (
    rec d 150 S []
  ) else (
    gv (bi (S.2.1 500 38)) fun x3 =>
    gg (inr x3) <|
    if x3 ≠ 0 then (
      rec d 150 S []
    ) else (
      gg (1 ≤ d) <|
      gc (f_X12_lays n (d - 1) 0 S [a1, a2, a5]) fun x8 S_9 =>
      gc (f_X12_childAt n (d - 1) 0 S_9 [a2, 0, a5]) fun x11 S_12 =>
      gc (f_X12_undoes n (d - 1) 0 S_12 [a2, x11]) fun x14 S_15 =>
      gv (a5 + (-1)) fun x17 =>
      rec d 109 S_15 [a1, a2, x17]
    )
  )
def b_X12_turn_150 (n d : Nat) (rec : Nat → Nat → GS → List Int → Option (Int × GS)) (S : GS) : Option (Int × GS) :=
  gv (bi (S.2.1 500 38)) fun x1 =>
  gg (x1 = 0 ∨ x1 = 1) <|
  gv (gB S 500 5 (decide ((x1 : Int) = 1))) fun S_4 =>
  gg (1 ≤ d) <|
  gc (f_X12_isWhole n (d - 1) 0 S_4 [41]) fun x7 S_8 =>
  gc (f_X12_fails n (d - 1) 0 S_8 [x7, 2]) fun x10 S_11 =>
  gg (inr x10) <|
  if x10 = 0 then (
    gc (f_X12_keeps n (d - 1) 0 S_11 [41]) fun x15 S_16 =>
    some (x15, S_16)
  ) else (
    some (0, S_11)
  )
def f_X12_turn : Nat → Nat → Nat → GS → List Int → Option (Int × GS)
  | 0, _, _, _, _ => none
  | n + 1, d, pc, S, x => match pc, x with
    | 0, [a1, a2] => b_X12_turn_0 n d (f_X12_turn n) S a1 a2
    | 22, [a1, a2, s0] => b_X12_turn_22 n d (f_X12_turn n) S a1 a2 s0
    | 75, [a1, a2, a3, s0] => b_X12_turn_75 n d (f_X12_turn n) S a1 a2 a3 s0
    | 109, [a1, a2, a5] => b_X12_turn_109 n d (f_X12_turn n) S a1 a2 a5
    | 150, [] => b_X12_turn_150 n d (f_X12_turn n) S 
    | _, _ => none
theorem e_X12_turn_0 {n d : Nat} {S : GS} {a1 : Int} {a2 : Int} : f_X12_turn (n + 1) d 0 S [a1, a2] = b_X12_turn_0 n d (f_X12_turn n) S a1 a2 := rfl
theorem e_X12_turn_22 {n d : Nat} {S : GS} {a1 : Int} {a2 : Int} {s0 : Int} : f_X12_turn (n + 1) d 22 S [a1, a2, s0] = b_X12_turn_22 n d (f_X12_turn n) S a1 a2 s0 := rfl
theorem e_X12_turn_75 {n d : Nat} {S : GS} {a1 : Int} {a2 : Int} {a3 : Int} {s0 : Int} : f_X12_turn (n + 1) d 75 S [a1, a2, a3, s0] = b_X12_turn_75 n d (f_X12_turn n) S a1 a2 a3 s0 := rfl
theorem e_X12_turn_109 {n d : Nat} {S : GS} {a1 : Int} {a2 : Int} {a5 : Int} : f_X12_turn (n + 1) d 109 S [a1, a2, a5] = b_X12_turn_109 n d (f_X12_turn n) S a1 a2 a5 := rfl
theorem e_X12_turn_150 {n d : Nat} {S : GS} : f_X12_turn (n + 1) d 150 S [] = b_X12_turn_150 n d (f_X12_turn n) S  := rfl

def b_X12_undo_0 (n d : Nat) (rec : Nat → Nat → GS → List Int → Option (Int × GS)) (S : GS) : Option (Int × GS) :=
  gv (S.1 500 1) fun x1 =>
  gg (inr x1) <|
  if x1 ≤ 0 then (
    rec d 13 S [0]
  ) else (
    rec d 13 S [1]
  )
def b_X12_undo_13 (n d : Nat) (rec : Nat → Nat → GS → List Int → Option (Int × GS)) (S : GS) (s0 : Int) : Option (Int × GS) :=
  gg (1 ≤ d) <|
  gc (f_X12_fails n (d - 1) 0 S [s0, 1]) fun x2 S_3 =>
  gg (inr x2) <|
  if x2 = 0 then (
    gv (S_3.1 500 1) fun x7 =>
    gv (x7 - 1) fun x9 =>
    gv (gI S_3 500 1 x9) fun S_11 =>
    gv (S_11.1 500 1) fun x13 =>
    some (x13, S_11)
  ) else (
    some (0, S_3)
  )
def f_X12_undo : Nat → Nat → Nat → GS → List Int → Option (Int × GS)
  | 0, _, _, _, _ => none
  | n + 1, d, pc, S, x => match pc, x with
    | 0, [] => b_X12_undo_0 n d (f_X12_undo n) S 
    | 13, [s0] => b_X12_undo_13 n d (f_X12_undo n) S s0
    | _, _ => none
theorem e_X12_undo_0 {n d : Nat} {S : GS} : f_X12_undo (n + 1) d 0 S [] = b_X12_undo_0 n d (f_X12_undo n) S  := rfl
theorem e_X12_undo_13 {n d : Nat} {S : GS} {s0 : Int} : f_X12_undo (n + 1) d 13 S [s0] = b_X12_undo_13 n d (f_X12_undo n) S s0 := rfl

def b_X12_vary_0 (n d : Nat) (rec : Nat → Nat → GS → List Int → Option (Int × GS)) (S : GS) (a1 : Int) (a2 : Int) : Option (Int × GS) :=
  gg (1 ≤ d) <|
  gc (f_X12_isDoc n (d - 1) 0 S [a1]) fun x2 S_3 =>
  gc (f_X12_fails n (d - 1) 0 S_3 [x2, 1]) fun x5 S_6 =>
  gg (inr x5) <|
  if x5 ≠ 0 then (
    some (0, S_6)
  ) else (
    gc (f_X12_in n (d - 1) 0 S_6 [a2, 0, 65535]) fun x10 S_11 =>
    gc (f_X12_fails n (d - 1) 0 S_11 [x10, 2]) fun x13 S_14 =>
    gg (inr x13) <|
    if x13 = 0 then (
      gv (gI S_14 500 83 a2) fun S_18 =>
      gg (0 ≤ a1 ∧ a1 < ((48 : Nat) : Int) ∧ a1 < 2147483648) <|
      gv (S_18.1 502 (a1 : Int).toNat) fun x21 =>
      gc (f_X12_draw n (d - 1) 0 S_18 [x21]) fun x23 S_24 =>
      gc (f_X12_grows n (d - 1) 0 S_24 [2, 2]) fun x26 S_27 =>
      gc (f_X12_replaced n (d - 1) 0 S_27 [43, a1, x23, 41, 0]) fun x29 S_30 =>
      gc (f_X12_isWhole n (d - 1) 0 S_30 [43]) fun x32 S_33 =>
      gg (inr x32) <|
      if x32 = 0 then (
        rec d 88 S_33 [0]
      ) else (
        gv (S_33.1 500 1) fun x37 =>
        gg (inr x37) <|
        if 40 ≤ x37 then (
          rec d 88 S_33 [0]
        ) else (
          rec d 88 S_33 [1]
        )
      )
    ) else (
      some (0, S_14)
    )
  )
def b_X12_vary_88 (n d : Nat) (rec : Nat → Nat → GS → List Int → Option (Int × GS)) (S : GS) (s0 : Int) : Option (Int × GS) :=
  gg (1 ≤ d) <|
  gc (f_X12_fails n (d - 1) 0 S [s0, 3]) fun x2 S_3 =>
  gg (inr x2) <|
  if x2 = 0 then (
    gc (f_X12_keeps n (d - 1) 0 S_3 [43]) fun x7 S_8 =>
    some (x7, S_8)
  ) else (
    some (0, S_3)
  )
def f_X12_vary : Nat → Nat → Nat → GS → List Int → Option (Int × GS)
  | 0, _, _, _, _ => none
  | n + 1, d, pc, S, x => match pc, x with
    | 0, [a1, a2] => b_X12_vary_0 n d (f_X12_vary n) S a1 a2
    | 88, [s0] => b_X12_vary_88 n d (f_X12_vary n) S s0
    | _, _ => none
theorem e_X12_vary_0 {n d : Nat} {S : GS} {a1 : Int} {a2 : Int} : f_X12_vary (n + 1) d 0 S [a1, a2] = b_X12_vary_0 n d (f_X12_vary n) S a1 a2 := rfl
theorem e_X12_vary_88 {n d : Nat} {S : GS} {s0 : Int} : f_X12_vary (n + 1) d 88 S [s0] = b_X12_vary_88 n d (f_X12_vary n) S s0 := rfl

def b_X12_wipe_0 (n d : Nat) (rec : Nat → Nat → GS → List Int → Option (Int × GS)) (S : GS) : Option (Int × GS) :=
  gv (gI S 500 0 0) fun S_1 =>
  gv (S_1.1 500 7) fun x3 =>
  gv (gI S_1 500 7 0) fun S_5 =>
  some (x3, S_5)
def f_X12_wipe : Nat → Nat → Nat → GS → List Int → Option (Int × GS)
  | 0, _, _, _, _ => none
  | n + 1, d, pc, S, x => match pc, x with
    | 0, [] => b_X12_wipe_0 n d (f_X12_wipe n) S 
    | _, _ => none
theorem e_X12_wipe_0 {n d : Nat} {S : GS} : f_X12_wipe (n + 1) d 0 S [] = b_X12_wipe_0 n d (f_X12_wipe n) S  := rfl

def b_X12_write_0 (n d : Nat) (rec : Nat → Nat → GS → List Int → Option (Int × GS)) (S : GS) (a1 : Int) (a2 : Int) : Option (Int × GS) :=
  gg (1 ≤ d) <|
  gc (f_X12_in n (d - 1) 0 S [a1, 1, 8]) fun x2 S_3 =>
  gg (inr x2) <|
  if x2 = 0 then (
    rec d 43 S_3 [a1, a2, 0, 0]
  ) else (
    gg (inl a2) <|
    gv (lsg a2 0) fun x8 =>
    gg (inr x8) <|
    if x8 < 0 then (
      rec d 43 S_3 [a1, a2, 0, 0]
    ) else (
      gg (inr a1) <|
      if a1 = 8 then (
        rec d 43 S_3 [a1, a2, 1, 0]
      ) else (
        gv (8 * a1) fun x14 =>
        gg (0 ≤ x14 ∧ x14 < 64) <|
        gv (a2 / ((2 ^ (x14 : Int).toNat : Nat) : Int)) fun x17 =>
        gg (inl x17) <|
        gv (lsg x17 0) fun x20 =>
        gg (inr x20) <|
        if x20 ≠ 0 then (
          rec d 43 S_3 [a1, a2, 0, 0]
        ) else (
          rec d 43 S_3 [a1, a2, 1, 0]
        )
      )
    )
  )
def b_X12_write_43 (n d : Nat) (rec : Nat → Nat → GS → List Int → Option (Int × GS)) (S : GS) (a1 : Int) (a2 : Int) (a4 : Int) (a5 : Int) : Option (Int × GS) :=
  gg (inr a5) <|
  gg (inr a1) <|
  if a1 ≤ a5 then (
    rec d 104 S [a1, a2, a4]
  ) else (
    gg (inr a4) <|
    if a4 = 0 then (
      rec d 104 S [a1, a2, a4]
    ) else (
      gv (a1 - 1) fun x6 =>
      gv (x6 - a5) fun x8 =>
      gv (8 * x8) fun x10 =>
      gg (0 ≤ x10 ∧ x10 < 64) <|
      gg (inl a2) <|
      gv (a2 / ((2 ^ (x10 : Int).toNat : Nat) : Int)) fun x14 =>
      gv (x14 % 256) fun x16 =>
      gg (inr x16) <|
      if x16 = 10 then (
        gv (a5 + 1) fun x20 =>
        rec d 43 S [a1, a2, 1, x20]
      ) else (
        gg (1 ≤ d) <|
        gc (f_X12_in n (d - 1) 0 S [x16, 32, 126]) fun x23 S_24 =>
        gg (inr x23) <|
        if x23 = 0 then (
          gv (a5 + 1) fun x28 =>
          rec d 43 S_24 [a1, a2, 0, x28]
        ) else (
          gv (a5 + 1) fun x30 =>
          rec d 43 S_24 [a1, a2, 1, x30]
        )
      )
    )
  )
def b_X12_write_104 (n d : Nat) (rec : Nat → Nat → GS → List Int → Option (Int × GS)) (S : GS) (a1 : Int) (a2 : Int) (a4 : Int) : Option (Int × GS) :=
  gg (1 ≤ d) <|
  gc (f_X12_fails n (d - 1) 0 S [a4, 1]) fun x2 S_3 =>
  gg (inr x2) <|
  if x2 ≠ 0 then (
    some (0, S_3)
  ) else (
    gv (S_3.1 500 7) fun x7 =>
    gv (x7 + a1) fun x9 =>
    gg (inr x9) <|
    if 400 < x9 then (
      gc (f_X12_fails n (d - 1) 0 S_3 [0, 2]) fun x13 S_14 =>
      gg (inr x13) <|
      if x13 = 0 then (
        rec d 144 S_14 [a1, a2, 0]
      ) else (
        some (0, S_14)
      )
    ) else (
      gc (f_X12_fails n (d - 1) 0 S_3 [1, 2]) fun x18 S_19 =>
      gg (inr x18) <|
      if x18 = 0 then (
        rec d 144 S_19 [a1, a2, 0]
      ) else (
        some (0, S_19)
      )
    )
  )
def b_X12_write_144 (n d : Nat) (rec : Nat → Nat → GS → List Int → Option (Int × GS)) (S : GS) (a1 : Int) (a2 : Int) (a5 : Int) : Option (Int × GS) :=
  gg (inr a5) <|
  gg (inr a1) <|
  if a1 ≤ a5 then (
    gv (S.1 500 7) fun x4 =>
    some (x4, S)
  ) else (
    gv (S.1 500 7) fun x6 =>
    gv (a1 - 1) fun x8 =>
    gv (x8 - a5) fun x10 =>
    gv (8 * x10) fun x12 =>
    gg (0 ≤ x12 ∧ x12 < 64) <|
    gg (inl a2) <|
    gv (a2 / ((2 ^ (x12 : Int).toNat : Nat) : Int)) fun x16 =>
    gv (x16 % 256) fun x18 =>
    gg (0 ≤ x6 ∧ x6 < ((400 : Nat) : Int) ∧ x6 < 2147483648) <|
    gv (gI S 503 (x6 : Int).toNat x18) fun S_21 =>
    gv (S_21.1 500 7) fun x23 =>
    gv (x23 + 1) fun x25 =>
    gv (gI S_21 500 7 x25) fun S_27 =>
    gv (a5 + 1) fun x29 =>
    rec d 144 S_27 [a1, a2, x29]
  )
def f_X12_write : Nat → Nat → Nat → GS → List Int → Option (Int × GS)
  | 0, _, _, _, _ => none
  | n + 1, d, pc, S, x => match pc, x with
    | 0, [a1, a2] => b_X12_write_0 n d (f_X12_write n) S a1 a2
    | 43, [a1, a2, a4, a5] => b_X12_write_43 n d (f_X12_write n) S a1 a2 a4 a5
    | 104, [a1, a2, a4] => b_X12_write_104 n d (f_X12_write n) S a1 a2 a4
    | 144, [a1, a2, a5] => b_X12_write_144 n d (f_X12_write n) S a1 a2 a5
    | _, _ => none
theorem e_X12_write_0 {n d : Nat} {S : GS} {a1 : Int} {a2 : Int} : f_X12_write (n + 1) d 0 S [a1, a2] = b_X12_write_0 n d (f_X12_write n) S a1 a2 := rfl
theorem e_X12_write_43 {n d : Nat} {S : GS} {a1 : Int} {a2 : Int} {a4 : Int} {a5 : Int} : f_X12_write (n + 1) d 43 S [a1, a2, a4, a5] = b_X12_write_43 n d (f_X12_write n) S a1 a2 a4 a5 := rfl
theorem e_X12_write_104 {n d : Nat} {S : GS} {a1 : Int} {a2 : Int} {a4 : Int} : f_X12_write (n + 1) d 104 S [a1, a2, a4] = b_X12_write_104 n d (f_X12_write n) S a1 a2 a4 := rfl
theorem e_X12_write_144 {n d : Nat} {S : GS} {a1 : Int} {a2 : Int} {a5 : Int} : f_X12_write (n + 1) d 144 S [a1, a2, a5] = b_X12_write_144 n d (f_X12_write n) S a1 a2 a5 := rfl

