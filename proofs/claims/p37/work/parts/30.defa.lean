def b_X0_begin_0 (n d : Nat) (rec : Nat → Nat → GS → List Int → Option (Int × GS)) (S : GS) (a1 : Nat) (a2 : Nat) (a3 : Int) : Option (Int × GS) :=
  gv (gR S 487 9 a1) fun S_1 =>
  gv (gR S_1 487 10 a2) fun S_3 =>
  gv (gI S_3 487 15 a3) fun S_5 =>
  gv (gI S_5 487 14 0) fun S_7 =>
  gv (gI S_7 487 13 0) fun S_9 =>
  gv (gI S_9 487 12 0) fun S_11 =>
  gv (gB S_11 487 16 (decide ((0 : Int) = 1))) fun S_13 =>
  some (0, S_13)
def f_X0_begin : Nat → Nat → Nat → GS → List Int → Option (Int × GS)
  | 0, _, _, _, _ => none
  | n + 1, d, pc, S, x => match pc, x with
    | 0, [a1, a2, a3] => b_X0_begin_0 n d (f_X0_begin n) S a1.toNat a2.toNat a3
    | _, _ => none
theorem e_X0_begin_0 {n d : Nat} {S : GS} {a1 : Nat} {a2 : Nat} {a3 : Int} : f_X0_begin (n + 1) d 0 S [((a1 : Nat) : Int), ((a2 : Nat) : Int), a3] = b_X0_begin_0 n d (f_X0_begin n) S a1 a2 a3 := rfl

def b_X10_is_0 (n d : Nat) (rec : Nat → Nat → GS → List Int → Option (Int × GS)) (S : GS) (a0 : Nat) (a1 : Int) (a2 : Int) : Option (Int × GS) :=
  gg (inr a1) <|
  if a1 < 0 then (
    some (0, S)
  ) else (
    gg (gT a0) <|
    gv (S.1 a0 7) fun x4 =>
    gg (inr x4) <|
    if x4 ≤ a1 then (
      some (0, S)
    ) else (
      if 100 ≤ a1 then (
        some (0, S)
      ) else (
        gg (0 ≤ a1 ∧ a1 < ((100 : Nat) : Int) ∧ a1 < 2147483648) <|
        gv (S.1 (a0 + 1) (a1 : Int).toNat) fun x10 =>
        gg (inr x10) <|
        gg (inr a2) <|
        if x10 ≠ a2 then (
          some (0, S)
        ) else (
          some (1, S)
        )
      )
    )
  )
def f_X10_is : Nat → Nat → Nat → GS → List Int → Option (Int × GS)
  | 0, _, _, _, _ => none
  | n + 1, d, pc, S, x => match pc, x with
    | 0, [a0, a1, a2] => b_X10_is_0 n d (f_X10_is n) S a0.toNat a1 a2
    | _, _ => none
theorem e_X10_is_0 {n d : Nat} {S : GS} {a0 : Nat} {a1 : Int} {a2 : Int} : f_X10_is (n + 1) d 0 S [((a0 : Nat) : Int), a1, a2] = b_X10_is_0 n d (f_X10_is n) S a0 a1 a2 := rfl

def b_X10_isTrue_0 (n d : Nat) (rec : Nat → Nat → GS → List Int → Option (Int × GS)) (S : GS) (a0 : Nat) (a1 : Int) : Option (Int × GS) :=
  gg (1 ≤ d) <|
  gg (gT a0) <|
  gc (f_X10_is n (d - 1) 0 S [((a0 : Nat) : Int), a1, 1]) fun x3 S_4 =>
  gg (inr x3) <|
  if x3 = 0 then (
    some (0, S_4)
  ) else (
    gg (0 ≤ a1 ∧ a1 < ((100 : Nat) : Int) ∧ a1 < 2147483648) <|
    gv (S_4.1 (a0 + 3) (a1 : Int).toNat) fun x9 =>
    gg (inr x9) <|
    if x9 ≠ 1 then (
      some (0, S_4)
    ) else (
      some (1, S_4)
    )
  )
def f_X10_isTrue : Nat → Nat → Nat → GS → List Int → Option (Int × GS)
  | 0, _, _, _, _ => none
  | n + 1, d, pc, S, x => match pc, x with
    | 0, [a0, a1] => b_X10_isTrue_0 n d (f_X10_isTrue n) S a0.toNat a1
    | _, _ => none
theorem e_X10_isTrue_0 {n d : Nat} {S : GS} {a0 : Nat} {a1 : Int} : f_X10_isTrue (n + 1) d 0 S [((a0 : Nat) : Int), a1] = b_X10_isTrue_0 n d (f_X10_isTrue n) S a0 a1 := rfl

def b_X0_complain_0 (n d : Nat) (rec : Nat → Nat → GS → List Int → Option (Int × GS)) (S : GS) (a1 : Int) (a2 : Int) (a3 : Int) : Option (Int × GS) :=
  gg (inr a3) <|
  if a3 = 0 then (
    gv (S.1 487 12) fun x3 =>
    gg (inr x3) <|
    if x3 < 0 then (
      gv (gB S 487 16 (decide ((1 : Int) = 1))) fun S_7 =>
      some (0, S_7)
    ) else (
      gv (S.1 487 12) fun x9 =>
      gg (inr x9) <|
      if x9 < 1000 then (
        gv (S.1 487 12) fun x13 =>
        gg (0 ≤ x13 ∧ x13 < ((1000 : Nat) : Int) ∧ x13 < 2147483648) <|
        gv (gI S 490 (x13 : Int).toNat a1) fun S_16 =>
        gv (S_16.1 487 12) fun x18 =>
        gg (0 ≤ x18 ∧ x18 < ((1000 : Nat) : Int) ∧ x18 < 2147483648) <|
        gv (gI S_16 491 (x18 : Int).toNat a2) fun S_21 =>
        gv (S_21.1 487 12) fun x23 =>
        gv (x23 + 1) fun x25 =>
        gv (gI S_21 487 12 x25) fun S_27 =>
        some (0, S_27)
      ) else (
        gv (gB S 487 16 (decide ((1 : Int) = 1))) fun S_29 =>
        some (0, S_29)
      )
    )
  ) else (
    some (0, S)
  )
def f_X0_complain : Nat → Nat → Nat → GS → List Int → Option (Int × GS)
  | 0, _, _, _, _ => none
  | n + 1, d, pc, S, x => match pc, x with
    | 0, [a1, a2, a3] => b_X0_complain_0 n d (f_X0_complain n) S a1 a2 a3
    | _, _ => none
theorem e_X0_complain_0 {n d : Nat} {S : GS} {a1 : Int} {a2 : Int} {a3 : Int} : f_X0_complain (n + 1) d 0 S [a1, a2, a3] = b_X0_complain_0 n d (f_X0_complain n) S a1 a2 a3 := rfl

def b_X0_wordOf_0 (n d : Nat) (rec : Nat → Nat → GS → List Int → Option (Int × GS)) (S : GS) (a0 : Int) : Option (Int × GS) :=
  gg (inr a0) <|
  if a0 = 1 then (
    some (((31 : Nat) : Int), S)
  ) else (
  if a0 = 2 then (
    some (((32 : Nat) : Int), S)
  ) else (
  if a0 = 3 then (
    some (((33 : Nat) : Int), S)
  ) else (
  if a0 = 4 then (
    some (((34 : Nat) : Int), S)
  ) else (
  if a0 = 5 then (
    some (((35 : Nat) : Int), S)
  ) else (
  if a0 = 6 then (
    some (((36 : Nat) : Int), S)
  ) else (
  if a0 = 7 then (
    some (((37 : Nat) : Int), S)
  ) else (
  if a0 = 8 then (
    some (((38 : Nat) : Int), S)
  ) else (
  if a0 = 9 then (
    some (((39 : Nat) : Int), S)
  ) else (
  if a0 = 10 then (
    some (((40 : Nat) : Int), S)
  ) else (
  if a0 = 11 then (
    some (((41 : Nat) : Int), S)
  ) else (
  if a0 = 12 then (
    some (((42 : Nat) : Int), S)
  ) else (
  if a0 = 13 then (
    some (((43 : Nat) : Int), S)
  ) else (
  if a0 = 14 then (
    some (((44 : Nat) : Int), S)
  ) else (
  some (((45 : Nat) : Int), S)
  ))))))))))))))
def f_X0_wordOf : Nat → Nat → Nat → GS → List Int → Option (Int × GS)
  | 0, _, _, _, _ => none
  | n + 1, d, pc, S, x => match pc, x with
    | 0, [a0] => b_X0_wordOf_0 n d (f_X0_wordOf n) S a0
    | _, _ => none
theorem e_X0_wordOf_0 {n d : Nat} {S : GS} {a0 : Int} : f_X0_wordOf (n + 1) d 0 S [a0] = b_X0_wordOf_0 n d (f_X0_wordOf n) S a0 := rfl

def b_X10_firstOfMap_0 (n d : Nat) (rec : Nat → Nat → GS → List Int → Option (Int × GS)) (S : GS) (a0 : Nat) (a1 : Int) : Option (Int × GS) :=
  gg (inr a1) <|
  if a1 < 0 then (
    rec d 25 S [((a0 : Nat) : Int), a1, 0]
  ) else (
    gg (gT a0) <|
    gv (S.1 a0 7) fun x4 =>
    gv (x4 - 1) fun x6 =>
    gg (inr x6) <|
    if x6 ≤ a1 then (
      rec d 25 S [((a0 : Nat) : Int), a1, 0]
    ) else (
      if 100 ≤ a1 then (
        rec d 25 S [((a0 : Nat) : Int), a1, 0]
      ) else (
        rec d 25 S [((a0 : Nat) : Int), a1, 1]
      )
    )
  )
def b_X10_firstOfMap_25 (n d : Nat) (rec : Nat → Nat → GS → List Int → Option (Int × GS)) (S : GS) (a0 : Nat) (a1 : Int) (s0 : Int) : Option (Int × GS) :=
  gg (inr s0) <|
  if s0 = 0 then (
    some ((-1), S)
  ) else (
    gg (gT a0) <|
    gg (0 ≤ a1 ∧ a1 < ((100 : Nat) : Int) ∧ a1 < 2147483648) <|
    gv (S.1 (a0 + 1) (a1 : Int).toNat) fun x5 =>
    gg (inr x5) <|
    if x5 ≠ 5 then (
      some ((-1), S)
    ) else (
      gv (S.1 (a0 + 2) (a1 : Int).toNat) fun x9 =>
      gg (inr x9) <|
      if x9 ≤ 1 then (
        some ((-1), S)
      ) else (
        gv (a1 + 1) fun x13 =>
        some (x13, S)
      )
    )
  )
def f_X10_firstOfMap : Nat → Nat → Nat → GS → List Int → Option (Int × GS)
  | 0, _, _, _, _ => none
  | n + 1, d, pc, S, x => match pc, x with
    | 0, [a0, a1] => b_X10_firstOfMap_0 n d (f_X10_firstOfMap n) S a0.toNat a1
    | 25, [a0, a1, s0] => b_X10_firstOfMap_25 n d (f_X10_firstOfMap n) S a0.toNat a1 s0
    | _, _ => none
theorem e_X10_firstOfMap_0 {n d : Nat} {S : GS} {a0 : Nat} {a1 : Int} : f_X10_firstOfMap (n + 1) d 0 S [((a0 : Nat) : Int), a1] = b_X10_firstOfMap_0 n d (f_X10_firstOfMap n) S a0 a1 := rfl
theorem e_X10_firstOfMap_25 {n d : Nat} {S : GS} {a0 : Nat} {a1 : Int} {s0 : Int} : f_X10_firstOfMap (n + 1) d 25 S [((a0 : Nat) : Int), a1, s0] = b_X10_firstOfMap_25 n d (f_X10_firstOfMap n) S a0 a1 s0 := rfl

def b_X10_keyLength_0 (n d : Nat) (rec : Nat → Nat → GS → List Int → Option (Int × GS)) (S : GS) (a0 : Nat) (a1 : Int) : Option (Int × GS) :=
  gg (inr a1) <|
  if a1 < 0 then (
    some (0, S)
  ) else (
    gg (gT a0) <|
    gv (S.1 a0 7) fun x4 =>
    gg (inr x4) <|
    if x4 ≤ a1 then (
      some (0, S)
    ) else (
      if 100 ≤ a1 then (
        some (0, S)
      ) else (
        gg (0 ≤ a1 ∧ a1 < ((100 : Nat) : Int) ∧ a1 < 2147483648) <|
        gv (S.1 (a0 + 6) (a1 : Int).toNat) fun x10 =>
        some (x10, S)
      )
    )
  )
def f_X10_keyLength : Nat → Nat → Nat → GS → List Int → Option (Int × GS)
  | 0, _, _, _, _ => none
  | n + 1, d, pc, S, x => match pc, x with
    | 0, [a0, a1] => b_X10_keyLength_0 n d (f_X10_keyLength n) S a0.toNat a1
    | _, _ => none
theorem e_X10_keyLength_0 {n d : Nat} {S : GS} {a0 : Nat} {a1 : Int} : f_X10_keyLength (n + 1) d 0 S [((a0 : Nat) : Int), a1] = b_X10_keyLength_0 n d (f_X10_keyLength n) S a0 a1 := rfl

def b_X10_keySign_0 (n d : Nat) (rec : Nat → Nat → GS → List Int → Option (Int × GS)) (S : GS) (a0 : Nat) (a1 : Int) (a2 : Int) : Option (Int × GS) :=
  gg (inr a1) <|
  if a1 < 0 then (
    rec d 33 S [((a0 : Nat) : Int), a1, a2, 0]
  ) else (
    gg (gT a0) <|
    gv (S.1 a0 7) fun x4 =>
    gg (inr x4) <|
    if x4 ≤ a1 then (
      rec d 33 S [((a0 : Nat) : Int), a1, a2, 0]
    ) else (
      if 100 ≤ a1 then (
        rec d 33 S [((a0 : Nat) : Int), a1, a2, 0]
      ) else (
        gg (inr a2) <|
        if a2 < 0 then (
          rec d 33 S [((a0 : Nat) : Int), a1, a2, 0]
        ) else (
          if 12 ≤ a2 then (
            rec d 33 S [((a0 : Nat) : Int), a1, a2, 0]
          ) else (
            rec d 33 S [((a0 : Nat) : Int), a1, a2, 1]
          )
        )
      )
    )
  )
def b_X10_keySign_33 (n d : Nat) (rec : Nat → Nat → GS → List Int → Option (Int × GS)) (S : GS) (a0 : Nat) (a1 : Int) (a2 : Int) (s0 : Int) : Option (Int × GS) :=
  gg (inr s0) <|
  if s0 = 0 then (
    some ((-1), S)
  ) else (
    gg (gT a0) <|
    gg (0 ≤ a1 ∧ a1 < ((100 : Nat) : Int) ∧ a1 < 2147483648) <|
    gv (S.1 (a0 + 6) (a1 : Int).toNat) fun x5 =>
    gg (inr a2) <|
    gg (inr x5) <|
    if x5 ≤ a2 then (
      some ((-1), S)
    ) else (
      gv (a1 * 12) fun x10 =>
      gv (x10 + a2) fun x12 =>
      gg (0 ≤ x12 ∧ x12 < ((1200 : Nat) : Int) ∧ x12 < 2147483648) <|
      gv (S.1 (a0 + 7) (x12 : Int).toNat) fun x15 =>
      some (x15, S)
    )
  )
def f_X10_keySign : Nat → Nat → Nat → GS → List Int → Option (Int × GS)
  | 0, _, _, _, _ => none
  | n + 1, d, pc, S, x => match pc, x with
    | 0, [a0, a1, a2] => b_X10_keySign_0 n d (f_X10_keySign n) S a0.toNat a1 a2
    | 33, [a0, a1, a2, s0] => b_X10_keySign_33 n d (f_X10_keySign n) S a0.toNat a1 a2 s0
    | _, _ => none
theorem e_X10_keySign_0 {n d : Nat} {S : GS} {a0 : Nat} {a1 : Int} {a2 : Int} : f_X10_keySign (n + 1) d 0 S [((a0 : Nat) : Int), a1, a2] = b_X10_keySign_0 n d (f_X10_keySign n) S a0 a1 a2 := rfl
theorem e_X10_keySign_33 {n d : Nat} {S : GS} {a0 : Nat} {a1 : Int} {a2 : Int} {s0 : Int} : f_X10_keySign (n + 1) d 33 S [((a0 : Nat) : Int), a1, a2, s0] = b_X10_keySign_33 n d (f_X10_keySign n) S a0 a1 a2 s0 := rfl

def b_X10_hasKeyWord_0 (n d : Nat) (rec : Nat → Nat → GS → List Int → Option (Int × GS)) (S : GS) (a0 : Nat) (a1 : Int) (a2 : Nat) : Option (Int × GS) :=
  gg (1 ≤ d) <|
  gg (gT a0) <|
  gc (f_X10_keyLength n (d - 1) 0 S [((a0 : Nat) : Int), a1]) fun x3 S_4 =>
  gg (a2 < 54) <|
  gg (2 ≤ d) <|
  gv (((xlen.getD a2 0 : Nat) : Int)) fun x8 =>
  gg (inr x3) <|
  gg (inr x8) <|
  if x3 ≠ x8 then (
    rec d 21 S_4 [((a0 : Nat) : Int), a1, ((a2 : Nat) : Int), 0, 0]
  ) else (
    rec d 21 S_4 [((a0 : Nat) : Int), a1, ((a2 : Nat) : Int), 1, 0]
  )
def b_X10_hasKeyWord_21 (n d : Nat) (rec : Nat → Nat → GS → List Int → Option (Int × GS)) (S : GS) (a0 : Nat) (a1 : Int) (a2 : Nat) (a3 : Int) (a4 : Int) : Option (Int × GS) :=
  gg (a2 < 54) <|
  gg (2 ≤ d) <|
  gv (((xlen.getD a2 0 : Nat) : Int)) fun x3 =>
  gg (inr a4) <|
  gg (inr x3) <|
  if x3 ≤ a4 then (
    gg (a3 = 0 ∨ a3 = 1) <|
    some (a3, S)
  ) else (
    gg (inr a3) <|
    if a3 = 0 then (
      gg (a3 = 0 ∨ a3 = 1) <|
      some (a3, S)
    ) else (
      gg (1 ≤ d) <|
      gg (gT a0) <|
      gc (f_X10_keySign n (d - 1) 0 S [((a0 : Nat) : Int), a1, a4]) fun x14 S_15 =>
      gg (4 ≤ d) <|
      gg (0 ≤ a4 ∧ a4 < ((xlen.getD a2 0 : Nat) : Int)) <|
      gv (xch a2 (a4 : Int).toNat) fun x19 =>
      gg (inr x14) <|
      gg (inr x19) <|
      if x14 ≠ x19 then (
        gv (a4 + 1) fun x24 =>
        rec d 21 S_15 [((a0 : Nat) : Int), a1, ((a2 : Nat) : Int), 0, x24]
      ) else (
        gv (a4 + 1) fun x26 =>
        rec d 21 S_15 [((a0 : Nat) : Int), a1, ((a2 : Nat) : Int), 1, x26]
      )
    )
  )
def f_X10_hasKeyWord : Nat → Nat → Nat → GS → List Int → Option (Int × GS)
  | 0, _, _, _, _ => none
  | n + 1, d, pc, S, x => match pc, x with
    | 0, [a0, a1, a2] => b_X10_hasKeyWord_0 n d (f_X10_hasKeyWord n) S a0.toNat a1 a2.toNat
    | 21, [a0, a1, a2, a3, a4] => b_X10_hasKeyWord_21 n d (f_X10_hasKeyWord n) S a0.toNat a1 a2.toNat a3 a4
    | _, _ => none
theorem e_X10_hasKeyWord_0 {n d : Nat} {S : GS} {a0 : Nat} {a1 : Int} {a2 : Nat} : f_X10_hasKeyWord (n + 1) d 0 S [((a0 : Nat) : Int), a1, ((a2 : Nat) : Int)] = b_X10_hasKeyWord_0 n d (f_X10_hasKeyWord n) S a0 a1 a2 := rfl
theorem e_X10_hasKeyWord_21 {n d : Nat} {S : GS} {a0 : Nat} {a1 : Int} {a2 : Nat} {a3 : Int} {a4 : Int} : f_X10_hasKeyWord (n + 1) d 21 S [((a0 : Nat) : Int), a1, ((a2 : Nat) : Int), a3, a4] = b_X10_hasKeyWord_21 n d (f_X10_hasKeyWord n) S a0 a1 a2 a3 a4 := rfl

def b_X10_next_0 (n d : Nat) (rec : Nat → Nat → GS → List Int → Option (Int × GS)) (S : GS) (a0 : Nat) (a1 : Int) (a2 : Int) : Option (Int × GS) :=
  gg (inr a1) <|
  if a1 < 0 then (
    some ((-1), S)
  ) else (
    gg (inr a2) <|
    if a2 ≤ a1 then (
      some ((-1), S)
    ) else (
      gg (gT a0) <|
      gv (S.1 a0 7) fun x6 =>
      gg (inr x6) <|
      if x6 ≤ a2 then (
        some ((-1), S)
      ) else (
        if a2 < 100 then (
          gg (0 ≤ a2 ∧ a2 < ((100 : Nat) : Int) ∧ a2 < 2147483648) <|
          gv (S.1 (a0 + 2) (a2 : Int).toNat) fun x12 =>
          gg (inr x12) <|
          gv (max 1 x12) fun x15 =>
          gv (a2 + x15) fun x17 =>
          gv (S.1 a0 7) fun x19 =>
          gg (inr x17) <|
          gg (inr x19) <|
          if x19 ≤ x17 then (
            some ((-1), S)
          ) else (
            gg (0 ≤ a1 ∧ a1 < ((100 : Nat) : Int) ∧ a1 < 2147483648) <|
            gv (S.1 (a0 + 2) (a1 : Int).toNat) fun x25 =>
            gv (a1 + x25) fun x27 =>
            gg (inr x27) <|
            if x27 ≤ x17 then (
              some ((-1), S)
            ) else (
              some (x17, S)
            )
          )
        ) else (
          some ((-1), S)
        )
      )
    )
  )
def f_X10_next : Nat → Nat → Nat → GS → List Int → Option (Int × GS)
  | 0, _, _, _, _ => none
  | n + 1, d, pc, S, x => match pc, x with
    | 0, [a0, a1, a2] => b_X10_next_0 n d (f_X10_next n) S a0.toNat a1 a2
    | _, _ => none
theorem e_X10_next_0 {n d : Nat} {S : GS} {a0 : Nat} {a1 : Int} {a2 : Int} : f_X10_next (n + 1) d 0 S [((a0 : Nat) : Int), a1, a2] = b_X10_next_0 n d (f_X10_next n) S a0 a1 a2 := rfl

def b_X10_valueNamed_0 (n d : Nat) (rec : Nat → Nat → GS → List Int → Option (Int × GS)) (S : GS) (a0 : Nat) (a1 : Int) (a2 : Nat) : Option (Int × GS) :=
  gg (1 ≤ d) <|
  gg (gT a0) <|
  gc (f_X10_firstOfMap n (d - 1) 0 S [((a0 : Nat) : Int), a1]) fun x3 S_4 =>
  rec d 9 S_4 [((a0 : Nat) : Int), a1, ((a2 : Nat) : Int), x3, 0]
def b_X10_valueNamed_9 (n d : Nat) (rec : Nat → Nat → GS → List Int → Option (Int × GS)) (S : GS) (a0 : Nat) (a1 : Int) (a2 : Nat) (a3 : Int) (a4 : Int) : Option (Int × GS) :=
  gg (inr a3) <|
  if a3 = (-1) then (
    some ((-1), S)
  ) else (
    gg (inr a4) <|
    if 100 ≤ a4 then (
      some ((-1), S)
    ) else (
      gg (1 ≤ d) <|
      gg (gT a0) <|
      gc (f_X10_hasKeyWord n (d - 1) 0 S [((a0 : Nat) : Int), a3, ((a2 : Nat) : Int)]) fun x7 S_8 =>
      gg (inr x7) <|
      if x7 = 0 then (
        gc (f_X10_next n (d - 1) 0 S_8 [((a0 : Nat) : Int), a1, a3]) fun x12 S_13 =>
        gv (a4 + 1) fun x15 =>
        rec d 9 S_13 [((a0 : Nat) : Int), a1, ((a2 : Nat) : Int), x12, x15]
      ) else (
        some (a3, S_8)
      )
    )
  )
def f_X10_valueNamed : Nat → Nat → Nat → GS → List Int → Option (Int × GS)
  | 0, _, _, _, _ => none
  | n + 1, d, pc, S, x => match pc, x with
    | 0, [a0, a1, a2] => b_X10_valueNamed_0 n d (f_X10_valueNamed n) S a0.toNat a1 a2.toNat
    | 9, [a0, a1, a2, a3, a4] => b_X10_valueNamed_9 n d (f_X10_valueNamed n) S a0.toNat a1 a2.toNat a3 a4
    | _, _ => none
theorem e_X10_valueNamed_0 {n d : Nat} {S : GS} {a0 : Nat} {a1 : Int} {a2 : Nat} : f_X10_valueNamed (n + 1) d 0 S [((a0 : Nat) : Int), a1, ((a2 : Nat) : Int)] = b_X10_valueNamed_0 n d (f_X10_valueNamed n) S a0 a1 a2 := rfl
theorem e_X10_valueNamed_9 {n d : Nat} {S : GS} {a0 : Nat} {a1 : Int} {a2 : Nat} {a3 : Int} {a4 : Int} : f_X10_valueNamed (n + 1) d 9 S [((a0 : Nat) : Int), a1, ((a2 : Nat) : Int), a3, a4] = b_X10_valueNamed_9 n d (f_X10_valueNamed n) S a0 a1 a2 a3 a4 := rfl

def b_X10_first_0 (n d : Nat) (rec : Nat → Nat → GS → List Int → Option (Int × GS)) (S : GS) (a0 : Nat) (a1 : Int) : Option (Int × GS) :=
  gg (inr a1) <|
  if a1 < 0 then (
    rec d 25 S [((a0 : Nat) : Int), a1, 0]
  ) else (
    gg (gT a0) <|
    gv (S.1 a0 7) fun x4 =>
    gv (x4 - 1) fun x6 =>
    gg (inr x6) <|
    if x6 ≤ a1 then (
      rec d 25 S [((a0 : Nat) : Int), a1, 0]
    ) else (
      if 100 ≤ a1 then (
        rec d 25 S [((a0 : Nat) : Int), a1, 0]
      ) else (
        rec d 25 S [((a0 : Nat) : Int), a1, 1]
      )
    )
  )
def b_X10_first_25 (n d : Nat) (rec : Nat → Nat → GS → List Int → Option (Int × GS)) (S : GS) (a0 : Nat) (a1 : Int) (s0 : Int) : Option (Int × GS) :=
  gg (inr s0) <|
  if s0 = 0 then (
    some ((-1), S)
  ) else (
    gg (gT a0) <|
    gg (0 ≤ a1 ∧ a1 < ((100 : Nat) : Int) ∧ a1 < 2147483648) <|
    gv (S.1 (a0 + 1) (a1 : Int).toNat) fun x5 =>
    gg (inr x5) <|
    if x5 < 4 then (
      some ((-1), S)
    ) else (
      gv (S.1 (a0 + 2) (a1 : Int).toNat) fun x9 =>
      gg (inr x9) <|
      if x9 ≤ 1 then (
        some ((-1), S)
      ) else (
        gv (a1 + 1) fun x13 =>
        some (x13, S)
      )
    )
  )
def f_X10_first : Nat → Nat → Nat → GS → List Int → Option (Int × GS)
  | 0, _, _, _, _ => none
  | n + 1, d, pc, S, x => match pc, x with
    | 0, [a0, a1] => b_X10_first_0 n d (f_X10_first n) S a0.toNat a1
    | 25, [a0, a1, s0] => b_X10_first_25 n d (f_X10_first n) S a0.toNat a1 s0
    | _, _ => none
theorem e_X10_first_0 {n d : Nat} {S : GS} {a0 : Nat} {a1 : Int} : f_X10_first (n + 1) d 0 S [((a0 : Nat) : Int), a1] = b_X10_first_0 n d (f_X10_first n) S a0 a1 := rfl
theorem e_X10_first_25 {n d : Nat} {S : GS} {a0 : Nat} {a1 : Int} {s0 : Int} : f_X10_first (n + 1) d 25 S [((a0 : Nat) : Int), a1, s0] = b_X10_first_25 n d (f_X10_first n) S a0 a1 s0 := rfl

def b_X9_clear_0 (n d : Nat) (rec : Nat → Nat → GS → List Int → Option (Int × GS)) (S : GS) (a0 : Nat) : Option (Int × GS) :=
  gg (gSh (a0)) <|
  gv (gI S a0 1 0) fun S_2 =>
  some (0, S_2)
def f_X9_clear : Nat → Nat → Nat → GS → List Int → Option (Int × GS)
  | 0, _, _, _, _ => none
  | n + 1, d, pc, S, x => match pc, x with
    | 0, [a0] => b_X9_clear_0 n d (f_X9_clear n) S a0.toNat
    | _, _ => none
theorem e_X9_clear_0 {n d : Nat} {S : GS} {a0 : Nat} : f_X9_clear (n + 1) d 0 S [((a0 : Nat) : Int)] = b_X9_clear_0 n d (f_X9_clear n) S a0 := rfl

def b_X10_lengthOf_0 (n d : Nat) (rec : Nat → Nat → GS → List Int → Option (Int × GS)) (S : GS) (a0 : Nat) (a1 : Int) : Option (Int × GS) :=
  gg (inr a1) <|
  if a1 < 0 then (
    some (0, S)
  ) else (
    gg (gT a0) <|
    gv (S.1 a0 7) fun x4 =>
    gg (inr x4) <|
    if x4 ≤ a1 then (
      some (0, S)
    ) else (
      if 100 ≤ a1 then (
        some (0, S)
      ) else (
        gg (0 ≤ a1 ∧ a1 < ((100 : Nat) : Int) ∧ a1 < 2147483648) <|
        gv (S.1 (a0 + 4) (a1 : Int).toNat) fun x10 =>
        some (x10, S)
      )
    )
  )
def f_X10_lengthOf : Nat → Nat → Nat → GS → List Int → Option (Int × GS)
  | 0, _, _, _, _ => none
  | n + 1, d, pc, S, x => match pc, x with
    | 0, [a0, a1] => b_X10_lengthOf_0 n d (f_X10_lengthOf n) S a0.toNat a1
    | _, _ => none
theorem e_X10_lengthOf_0 {n d : Nat} {S : GS} {a0 : Nat} {a1 : Int} : f_X10_lengthOf (n + 1) d 0 S [((a0 : Nat) : Int), a1] = b_X10_lengthOf_0 n d (f_X10_lengthOf n) S a0 a1 := rfl

def b_X10_signAt_0 (n d : Nat) (rec : Nat → Nat → GS → List Int → Option (Int × GS)) (S : GS) (a0 : Nat) (a1 : Int) (a2 : Int) : Option (Int × GS) :=
  gg (inr a1) <|
  if a1 < 0 then (
    rec d 33 S [((a0 : Nat) : Int), a1, a2, 0]
  ) else (
    gg (gT a0) <|
    gv (S.1 a0 7) fun x4 =>
    gg (inr x4) <|
    if x4 ≤ a1 then (
      rec d 33 S [((a0 : Nat) : Int), a1, a2, 0]
    ) else (
      if 100 ≤ a1 then (
        rec d 33 S [((a0 : Nat) : Int), a1, a2, 0]
      ) else (
        gg (inr a2) <|
        if a2 < 0 then (
          rec d 33 S [((a0 : Nat) : Int), a1, a2, 0]
        ) else (
          if 40 ≤ a2 then (
            rec d 33 S [((a0 : Nat) : Int), a1, a2, 0]
          ) else (
            rec d 33 S [((a0 : Nat) : Int), a1, a2, 1]
          )
        )
      )
    )
  )
def b_X10_signAt_33 (n d : Nat) (rec : Nat → Nat → GS → List Int → Option (Int × GS)) (S : GS) (a0 : Nat) (a1 : Int) (a2 : Int) (s0 : Int) : Option (Int × GS) :=
  gg (inr s0) <|
  if s0 = 0 then (
    some ((-1), S)
  ) else (
    gg (gT a0) <|
    gg (0 ≤ a1 ∧ a1 < ((100 : Nat) : Int) ∧ a1 < 2147483648) <|
    gv (S.1 (a0 + 4) (a1 : Int).toNat) fun x5 =>
    gg (inr a2) <|
    gg (inr x5) <|
    if x5 ≤ a2 then (
      some ((-1), S)
    ) else (
      gv (a1 * 40) fun x10 =>
      gv (x10 + a2) fun x12 =>
      gg (0 ≤ x12 ∧ x12 < ((4000 : Nat) : Int) ∧ x12 < 2147483648) <|
      gv (S.1 (a0 + 5) (x12 : Int).toNat) fun x15 =>
      some (x15, S)
    )
  )
def f_X10_signAt : Nat → Nat → Nat → GS → List Int → Option (Int × GS)
  | 0, _, _, _, _ => none
  | n + 1, d, pc, S, x => match pc, x with
    | 0, [a0, a1, a2] => b_X10_signAt_0 n d (f_X10_signAt n) S a0.toNat a1 a2
    | 33, [a0, a1, a2, s0] => b_X10_signAt_33 n d (f_X10_signAt n) S a0.toNat a1 a2 s0
    | _, _ => none
theorem e_X10_signAt_0 {n d : Nat} {S : GS} {a0 : Nat} {a1 : Int} {a2 : Int} : f_X10_signAt (n + 1) d 0 S [((a0 : Nat) : Int), a1, a2] = b_X10_signAt_0 n d (f_X10_signAt n) S a0 a1 a2 := rfl
theorem e_X10_signAt_33 {n d : Nat} {S : GS} {a0 : Nat} {a1 : Int} {a2 : Int} {s0 : Int} : f_X10_signAt (n + 1) d 33 S [((a0 : Nat) : Int), a1, a2, s0] = b_X10_signAt_33 n d (f_X10_signAt n) S a0 a1 a2 s0 := rfl

def b_X9_add_0 (n d : Nat) (rec : Nat → Nat → GS → List Int → Option (Int × GS)) (S : GS) (a0 : Nat) (a1 : Int) : Option (Int × GS) :=
  gg (gSh (a0)) <|
  gv (S.1 a0 1) fun x2 =>
  gg (inr x2) <|
  if x2 < 0 then (
    some (0, S)
  ) else (
    gv (S.1 a0 1) fun x6 =>
    gg (inr x6) <|
    gg (inr (((g_room (a0 + 1)) : Nat) : Int)) <|
    if (((g_room (a0 + 1)) : Nat) : Int) ≤ x6 then (
      some (0, S)
    ) else (
      gv (S.1 a0 1) fun x11 =>
      gg (0 ≤ a1 ∧ a1 < 65536) <|
      gg (0 ≤ x11 ∧ x11 < (((g_room (a0 + 1)) : Nat) : Int) ∧ x11 < 2147483648) <|
      gv (gI S (a0 + 1) (x11 : Int).toNat a1) fun S_15 =>
      gv (S_15.1 a0 1) fun x17 =>
      gv (x17 + 1) fun x19 =>
      gv (gI S_15 a0 1 x19) fun S_21 =>
      some (0, S_21)
    )
  )
def f_X9_add : Nat → Nat → Nat → GS → List Int → Option (Int × GS)
  | 0, _, _, _, _ => none
  | n + 1, d, pc, S, x => match pc, x with
    | 0, [a0, a1] => b_X9_add_0 n d (f_X9_add n) S a0.toNat a1
    | _, _ => none
theorem e_X9_add_0 {n d : Nat} {S : GS} {a0 : Nat} {a1 : Int} : f_X9_add (n + 1) d 0 S [((a0 : Nat) : Int), a1] = b_X9_add_0 n d (f_X9_add n) S a0 a1 := rfl

def b_X10_signsTo_0 (n d : Nat) (rec : Nat → Nat → GS → List Int → Option (Int × GS)) (S : GS) (a0 : Nat) (a1 : Int) (a2 : Nat) : Option (Int × GS) :=
  rec d 2 S [((a0 : Nat) : Int), a1, ((a2 : Nat) : Int), 0]
def b_X10_signsTo_2 (n d : Nat) (rec : Nat → Nat → GS → List Int → Option (Int × GS)) (S : GS) (a0 : Nat) (a1 : Int) (a2 : Nat) (a3 : Int) : Option (Int × GS) :=
  gg (1 ≤ d) <|
  gg (gT a0) <|
  gc (f_X10_lengthOf n (d - 1) 0 S [((a0 : Nat) : Int), a1]) fun x3 S_4 =>
  gg (inr a3) <|
  gg (inr x3) <|
  if x3 ≤ a3 then (
    some (0, S_4)
  ) else (
    gc (f_X10_signAt n (d - 1) 0 S_4 [((a0 : Nat) : Int), a1, a3]) fun x9 S_10 =>
    gg (gSh (a2)) <|
    gc (f_X9_add n (d - 1) 0 S_10 [((a2 : Nat) : Int), x9]) fun x13 S_14 =>
    gv (a3 + 1) fun x16 =>
    rec d 2 S_14 [((a0 : Nat) : Int), a1, ((a2 : Nat) : Int), x16]
  )
def f_X10_signsTo : Nat → Nat → Nat → GS → List Int → Option (Int × GS)
  | 0, _, _, _, _ => none
  | n + 1, d, pc, S, x => match pc, x with
    | 0, [a0, a1, a2] => b_X10_signsTo_0 n d (f_X10_signsTo n) S a0.toNat a1 a2.toNat
    | 2, [a0, a1, a2, a3] => b_X10_signsTo_2 n d (f_X10_signsTo n) S a0.toNat a1 a2.toNat a3
    | _, _ => none
theorem e_X10_signsTo_0 {n d : Nat} {S : GS} {a0 : Nat} {a1 : Int} {a2 : Nat} : f_X10_signsTo (n + 1) d 0 S [((a0 : Nat) : Int), a1, ((a2 : Nat) : Int)] = b_X10_signsTo_0 n d (f_X10_signsTo n) S a0 a1 a2 := rfl
theorem e_X10_signsTo_2 {n d : Nat} {S : GS} {a0 : Nat} {a1 : Int} {a2 : Nat} {a3 : Int} : f_X10_signsTo (n + 1) d 2 S [((a0 : Nat) : Int), a1, ((a2 : Nat) : Int), a3] = b_X10_signsTo_2 n d (f_X10_signsTo n) S a0 a1 a2 a3 := rfl

def b_X9_length_0 (n d : Nat) (rec : Nat → Nat → GS → List Int → Option (Int × GS)) (S : GS) (a0 : Nat) : Option (Int × GS) :=
  gg (gSh (a0)) <|
  gv (S.1 a0 1) fun x2 =>
  some (x2, S)
def f_X9_length : Nat → Nat → Nat → GS → List Int → Option (Int × GS)
  | 0, _, _, _, _ => none
  | n + 1, d, pc, S, x => match pc, x with
    | 0, [a0] => b_X9_length_0 n d (f_X9_length n) S a0.toNat
    | _, _ => none
theorem e_X9_length_0 {n d : Nat} {S : GS} {a0 : Nat} : f_X9_length (n + 1) d 0 S [((a0 : Nat) : Int)] = b_X9_length_0 n d (f_X9_length n) S a0 := rfl

def b_X9_at_0 (n d : Nat) (rec : Nat → Nat → GS → List Int → Option (Int × GS)) (S : GS) (a0 : Nat) (a1 : Int) : Option (Int × GS) :=
  gg (inr a1) <|
  if a1 < 0 then (
    some ((-1), S)
  ) else (
    gg (gSh (a0)) <|
    gv (S.1 a0 1) fun x4 =>
    gg (inr x4) <|
    if x4 ≤ a1 then (
      some ((-1), S)
    ) else (
      gg (inr (((g_room (a0 + 1)) : Nat) : Int)) <|
      if (((g_room (a0 + 1)) : Nat) : Int) ≤ a1 then (
        some ((-1), S)
      ) else (
        gg (0 ≤ a1 ∧ a1 < (((g_room (a0 + 1)) : Nat) : Int) ∧ a1 < 2147483648) <|
        gv (S.1 (a0 + 1) (a1 : Int).toNat) fun x11 =>
        some (x11, S)
      )
    )
  )
def f_X9_at : Nat → Nat → Nat → GS → List Int → Option (Int × GS)
  | 0, _, _, _, _ => none
  | n + 1, d, pc, S, x => match pc, x with
    | 0, [a0, a1] => b_X9_at_0 n d (f_X9_at n) S a0.toNat a1
    | _, _ => none
theorem e_X9_at_0 {n d : Nat} {S : GS} {a0 : Nat} {a1 : Int} : f_X9_at (n + 1) d 0 S [((a0 : Nat) : Int), a1] = b_X9_at_0 n d (f_X9_at n) S a0 a1 := rfl

def b_X10_hasKey_0 (n d : Nat) (rec : Nat → Nat → GS → List Int → Option (Int × GS)) (S : GS) (a0 : Nat) (a1 : Int) (a2 : Nat) : Option (Int × GS) :=
  gg (1 ≤ d) <|
  gg (gT a0) <|
  gc (f_X10_keyLength n (d - 1) 0 S [((a0 : Nat) : Int), a1]) fun x3 S_4 =>
  gg (gSh (a2)) <|
  gc (f_X9_length n (d - 1) 0 S_4 [((a2 : Nat) : Int)]) fun x7 S_8 =>
  gg (inr x3) <|
  gg (inr x7) <|
  if x3 ≠ x7 then (
    rec d 21 S_8 [((a0 : Nat) : Int), a1, ((a2 : Nat) : Int), 0, 0]
  ) else (
    rec d 21 S_8 [((a0 : Nat) : Int), a1, ((a2 : Nat) : Int), 1, 0]
  )
def b_X10_hasKey_21 (n d : Nat) (rec : Nat → Nat → GS → List Int → Option (Int × GS)) (S : GS) (a0 : Nat) (a1 : Int) (a2 : Nat) (a3 : Int) (a4 : Int) : Option (Int × GS) :=
  gg (1 ≤ d) <|
  gg (gSh (a2)) <|
  gc (f_X9_length n (d - 1) 0 S [((a2 : Nat) : Int)]) fun x3 S_4 =>
  gg (inr a4) <|
  gg (inr x3) <|
  if x3 ≤ a4 then (
    gg (a3 = 0 ∨ a3 = 1) <|
    some (a3, S_4)
  ) else (
    gg (inr a3) <|
    if a3 = 0 then (
      gg (a3 = 0 ∨ a3 = 1) <|
      some (a3, S_4)
    ) else (
      gg (gT a0) <|
      gc (f_X10_keySign n (d - 1) 0 S_4 [((a0 : Nat) : Int), a1, a4]) fun x14 S_15 =>
      gc (f_X9_at n (d - 1) 0 S_15 [((a2 : Nat) : Int), a4]) fun x17 S_18 =>
      gg (inr x14) <|
      gg (inr x17) <|
      if x14 ≠ x17 then (
        gv (a4 + 1) fun x23 =>
        rec d 21 S_18 [((a0 : Nat) : Int), a1, ((a2 : Nat) : Int), 0, x23]
      ) else (
        gv (a4 + 1) fun x25 =>
        rec d 21 S_18 [((a0 : Nat) : Int), a1, ((a2 : Nat) : Int), 1, x25]
      )
    )
  )
def f_X10_hasKey : Nat → Nat → Nat → GS → List Int → Option (Int × GS)
  | 0, _, _, _, _ => none
  | n + 1, d, pc, S, x => match pc, x with
    | 0, [a0, a1, a2] => b_X10_hasKey_0 n d (f_X10_hasKey n) S a0.toNat a1 a2.toNat
    | 21, [a0, a1, a2, a3, a4] => b_X10_hasKey_21 n d (f_X10_hasKey n) S a0.toNat a1 a2.toNat a3 a4
    | _, _ => none
theorem e_X10_hasKey_0 {n d : Nat} {S : GS} {a0 : Nat} {a1 : Int} {a2 : Nat} : f_X10_hasKey (n + 1) d 0 S [((a0 : Nat) : Int), a1, ((a2 : Nat) : Int)] = b_X10_hasKey_0 n d (f_X10_hasKey n) S a0 a1 a2 := rfl
theorem e_X10_hasKey_21 {n d : Nat} {S : GS} {a0 : Nat} {a1 : Int} {a2 : Nat} {a3 : Int} {a4 : Int} : f_X10_hasKey (n + 1) d 21 S [((a0 : Nat) : Int), a1, ((a2 : Nat) : Int), a3, a4] = b_X10_hasKey_21 n d (f_X10_hasKey n) S a0 a1 a2 a3 a4 := rfl

def b_X10_valueOf_0 (n d : Nat) (rec : Nat → Nat → GS → List Int → Option (Int × GS)) (S : GS) (a0 : Nat) (a1 : Int) (a2 : Nat) : Option (Int × GS) :=
  gg (1 ≤ d) <|
  gg (gT a0) <|
  gc (f_X10_firstOfMap n (d - 1) 0 S [((a0 : Nat) : Int), a1]) fun x3 S_4 =>
  rec d 9 S_4 [((a0 : Nat) : Int), a1, ((a2 : Nat) : Int), x3, 0]
def b_X10_valueOf_9 (n d : Nat) (rec : Nat → Nat → GS → List Int → Option (Int × GS)) (S : GS) (a0 : Nat) (a1 : Int) (a2 : Nat) (a3 : Int) (a4 : Int) : Option (Int × GS) :=
  gg (inr a3) <|
  if a3 = (-1) then (
    some ((-1), S)
  ) else (
    gg (inr a4) <|
    if 100 ≤ a4 then (
      some ((-1), S)
    ) else (
      gg (1 ≤ d) <|
      gg (gT a0) <|
      gc (f_X10_hasKey n (d - 1) 0 S [((a0 : Nat) : Int), a3, ((a2 : Nat) : Int)]) fun x7 S_8 =>
      gg (inr x7) <|
      if x7 = 0 then (
        gc (f_X10_next n (d - 1) 0 S_8 [((a0 : Nat) : Int), a1, a3]) fun x12 S_13 =>
        gv (a4 + 1) fun x15 =>
        rec d 9 S_13 [((a0 : Nat) : Int), a1, ((a2 : Nat) : Int), x12, x15]
      ) else (
        some (a3, S_8)
      )
    )
  )
def f_X10_valueOf : Nat → Nat → Nat → GS → List Int → Option (Int × GS)
  | 0, _, _, _, _ => none
  | n + 1, d, pc, S, x => match pc, x with
    | 0, [a0, a1, a2] => b_X10_valueOf_0 n d (f_X10_valueOf n) S a0.toNat a1 a2.toNat
    | 9, [a0, a1, a2, a3, a4] => b_X10_valueOf_9 n d (f_X10_valueOf n) S a0.toNat a1 a2.toNat a3 a4
    | _, _ => none
theorem e_X10_valueOf_0 {n d : Nat} {S : GS} {a0 : Nat} {a1 : Int} {a2 : Nat} : f_X10_valueOf (n + 1) d 0 S [((a0 : Nat) : Int), a1, ((a2 : Nat) : Int)] = b_X10_valueOf_0 n d (f_X10_valueOf n) S a0 a1 a2 := rfl
theorem e_X10_valueOf_9 {n d : Nat} {S : GS} {a0 : Nat} {a1 : Int} {a2 : Nat} {a3 : Int} {a4 : Int} : f_X10_valueOf (n + 1) d 9 S [((a0 : Nat) : Int), a1, ((a2 : Nat) : Int), a3, a4] = b_X10_valueOf_9 n d (f_X10_valueOf n) S a0 a1 a2 a3 a4 := rfl

def b_X0_hasAll_0 (n d : Nat) (rec : Nat → Nat → GS → List Int → Option (Int × GS)) (S : GS) (a1 : Int) (a2 : Int) (a3 : Int) : Option (Int × GS) :=
  gv (S.2.2 487 9) fun z1 =>
  gg (1 ≤ d) <|
  gg (gT z1) <|
  gc (f_X10_first n (d - 1) 0 S [((z1 : Nat) : Int), a1]) fun x5 S_6 =>
  rec d 16 S_6 [a1, a2, a3, 1, x5, 0]
def b_X0_hasAll_16 (n d : Nat) (rec : Nat → Nat → GS → List Int → Option (Int × GS)) (S : GS) (a1 : Int) (a2 : Int) (a3 : Int) (a4 : Int) (a5 : Int) (a6 : Int) : Option (Int × GS) :=
  gg (inr a5) <|
  if a5 = (-1) then (
    gg (a4 = 0 ∨ a4 = 1) <|
    some (a4, S)
  ) else (
    gg (inr a6) <|
    if 100 ≤ a6 then (
      gg (a4 = 0 ∨ a4 = 1) <|
      some (a4, S)
    ) else (
      gg (1 ≤ d) <|
      gc (f_X9_clear n (d - 1) 0 S [((460 : Nat) : Int)]) fun x8 S_9 =>
      gv (S_9.2.2 487 9) fun z11 =>
      gg (gT z11) <|
      gc (f_X10_signsTo n (d - 1) 0 S_9 [((z11 : Nat) : Int), a5, ((460 : Nat) : Int)]) fun x14 S_15 =>
      gv (S_15.2.2 487 10) fun z17 =>
      gg (gT z17) <|
      gc (f_X10_is n (d - 1) 0 S_15 [((z17 : Nat) : Int), a2, 5]) fun x20 S_21 =>
      gg (inr x20) <|
      if x20 = 0 then (
        rec d 88 S_21 [a1, a2, a3, a4, a5, a6]
      ) else (
        gv (S_21.2.2 487 10) fun z25 =>
        gg (gT z25) <|
        gc (f_X10_valueOf n (d - 1) 0 S_21 [((z25 : Nat) : Int), a2, ((460 : Nat) : Int)]) fun x28 S_29 =>
        gg (inr x28) <|
        if x28 ≠ (-1) then (
          rec d 88 S_29 [a1, a2, a3, a4, a5, a6]
        ) else (
          gc (f_X0_complain n (d - 1) 0 S_29 [a2, 6, a3]) fun x33 S_34 =>
          rec d 88 S_34 [a1, a2, a3, 0, a5, a6]
        )
      )
    )
  )
def b_X0_hasAll_88 (n d : Nat) (rec : Nat → Nat → GS → List Int → Option (Int × GS)) (S : GS) (a1 : Int) (a2 : Int) (a3 : Int) (a4 : Int) (a5 : Int) (a6 : Int) : Option (Int × GS) :=
  gv (S.2.2 487 9) fun z1 =>
  gg (1 ≤ d) <|
  gg (gT z1) <|
  gc (f_X10_next n (d - 1) 0 S [((z1 : Nat) : Int), a1, a5]) fun x5 S_6 =>
  gv (a6 + 1) fun x8 =>
  rec d 16 S_6 [a1, a2, a3, a4, x5, x8]
def f_X0_hasAll : Nat → Nat → Nat → GS → List Int → Option (Int × GS)
  | 0, _, _, _, _ => none
  | n + 1, d, pc, S, x => match pc, x with
    | 0, [a1, a2, a3] => b_X0_hasAll_0 n d (f_X0_hasAll n) S a1 a2 a3
    | 16, [a1, a2, a3, a4, a5, a6] => b_X0_hasAll_16 n d (f_X0_hasAll n) S a1 a2 a3 a4 a5 a6
    | 88, [a1, a2, a3, a4, a5, a6] => b_X0_hasAll_88 n d (f_X0_hasAll n) S a1 a2 a3 a4 a5 a6
    | _, _ => none
theorem e_X0_hasAll_0 {n d : Nat} {S : GS} {a1 : Int} {a2 : Int} {a3 : Int} : f_X0_hasAll (n + 1) d 0 S [a1, a2, a3] = b_X0_hasAll_0 n d (f_X0_hasAll n) S a1 a2 a3 := rfl
theorem e_X0_hasAll_16 {n d : Nat} {S : GS} {a1 : Int} {a2 : Int} {a3 : Int} {a4 : Int} {a5 : Int} {a6 : Int} : f_X0_hasAll (n + 1) d 16 S [a1, a2, a3, a4, a5, a6] = b_X0_hasAll_16 n d (f_X0_hasAll n) S a1 a2 a3 a4 a5 a6 := rfl
theorem e_X0_hasAll_88 {n d : Nat} {S : GS} {a1 : Int} {a2 : Int} {a3 : Int} {a4 : Int} {a5 : Int} {a6 : Int} : f_X0_hasAll (n + 1) d 88 S [a1, a2, a3, a4, a5, a6] = b_X0_hasAll_88 n d (f_X0_hasAll n) S a1 a2 a3 a4 a5 a6 := rfl

def b_X10_says_0 (n d : Nat) (rec : Nat → Nat → GS → List Int → Option (Int × GS)) (S : GS) (a0 : Nat) (a1 : Int) (a2 : Nat) : Option (Int × GS) :=
  gg (1 ≤ d) <|
  gg (gT a0) <|
  gc (f_X10_is n (d - 1) 0 S [((a0 : Nat) : Int), a1, 3]) fun x3 S_4 =>
  gg (inr x3) <|
  if x3 = 0 then (
    rec d 30 S_4 [((a0 : Nat) : Int), a1, ((a2 : Nat) : Int), 0, 0]
  ) else (
    gc (f_X10_lengthOf n (d - 1) 0 S_4 [((a0 : Nat) : Int), a1]) fun x8 S_9 =>
    gg (a2 < 54) <|
    gg (2 ≤ d) <|
    gv (((xlen.getD a2 0 : Nat) : Int)) fun x13 =>
    gg (inr x8) <|
    gg (inr x13) <|
    if x8 ≠ x13 then (
      rec d 30 S_9 [((a0 : Nat) : Int), a1, ((a2 : Nat) : Int), 0, 0]
    ) else (
      rec d 30 S_9 [((a0 : Nat) : Int), a1, ((a2 : Nat) : Int), 1, 0]
    )
  )
def b_X10_says_30 (n d : Nat) (rec : Nat → Nat → GS → List Int → Option (Int × GS)) (S : GS) (a0 : Nat) (a1 : Int) (a2 : Nat) (a3 : Int) (a4 : Int) : Option (Int × GS) :=
  gg (a2 < 54) <|
  gg (2 ≤ d) <|
  gv (((xlen.getD a2 0 : Nat) : Int)) fun x3 =>
  gg (inr a4) <|
  gg (inr x3) <|
  if x3 ≤ a4 then (
    gg (a3 = 0 ∨ a3 = 1) <|
    some (a3, S)
  ) else (
    gg (inr a3) <|
    if a3 = 0 then (
      gg (a3 = 0 ∨ a3 = 1) <|
      some (a3, S)
    ) else (
      gg (1 ≤ d) <|
      gg (gT a0) <|
      gc (f_X10_signAt n (d - 1) 0 S [((a0 : Nat) : Int), a1, a4]) fun x14 S_15 =>
      gg (4 ≤ d) <|
      gg (0 ≤ a4 ∧ a4 < ((xlen.getD a2 0 : Nat) : Int)) <|
      gv (xch a2 (a4 : Int).toNat) fun x19 =>
      gg (inr x14) <|
      gg (inr x19) <|
      if x14 ≠ x19 then (
        gv (a4 + 1) fun x24 =>
        rec d 30 S_15 [((a0 : Nat) : Int), a1, ((a2 : Nat) : Int), 0, x24]
      ) else (
        gv (a4 + 1) fun x26 =>
        rec d 30 S_15 [((a0 : Nat) : Int), a1, ((a2 : Nat) : Int), 1, x26]
      )
    )
  )
def f_X10_says : Nat → Nat → Nat → GS → List Int → Option (Int × GS)
  | 0, _, _, _, _ => none
  | n + 1, d, pc, S, x => match pc, x with
    | 0, [a0, a1, a2] => b_X10_says_0 n d (f_X10_says n) S a0.toNat a1 a2.toNat
    | 30, [a0, a1, a2, a3, a4] => b_X10_says_30 n d (f_X10_says n) S a0.toNat a1 a2.toNat a3 a4
    | _, _ => none
theorem e_X10_says_0 {n d : Nat} {S : GS} {a0 : Nat} {a1 : Int} {a2 : Nat} : f_X10_says (n + 1) d 0 S [((a0 : Nat) : Int), a1, ((a2 : Nat) : Int)] = b_X10_says_0 n d (f_X10_says n) S a0 a1 a2 := rfl
theorem e_X10_says_30 {n d : Nat} {S : GS} {a0 : Nat} {a1 : Int} {a2 : Nat} {a3 : Int} {a4 : Int} : f_X10_says (n + 1) d 30 S [((a0 : Nat) : Int), a1, ((a2 : Nat) : Int), a3, a4] = b_X10_says_30 n d (f_X10_says n) S a0 a1 a2 a3 a4 := rfl

def b_X10_power_0 (n d : Nat) (rec : Nat → Nat → GS → List Int → Option (Int × GS)) (S : GS) (a0 : Nat) (a1 : Int) : Option (Int × GS) :=
  gg (1 ≤ d) <|
  gg (gT a0) <|
  gc (f_X10_is n (d - 1) 0 S [((a0 : Nat) : Int), a1, 2]) fun x3 S_4 =>
  gg (inr x3) <|
  if x3 = 0 then (
    some (0, S_4)
  ) else (
    gg (0 ≤ a1 ∧ a1 < ((100 : Nat) : Int) ∧ a1 < 2147483648) <|
    gv (S_4.1 (a0 + 3) (a1 : Int).toNat) fun x9 =>
    some (x9, S_4)
  )
def f_X10_power : Nat → Nat → Nat → GS → List Int → Option (Int × GS)
  | 0, _, _, _, _ => none
  | n + 1, d, pc, S, x => match pc, x with
    | 0, [a0, a1] => b_X10_power_0 n d (f_X10_power n) S a0.toNat a1
    | _, _ => none
theorem e_X10_power_0 {n d : Nat} {S : GS} {a0 : Nat} {a1 : Int} : f_X10_power (n + 1) d 0 S [((a0 : Nat) : Int), a1] = b_X10_power_0 n d (f_X10_power n) S a0 a1 := rfl

def b_X10_kind_0 (n d : Nat) (rec : Nat → Nat → GS → List Int → Option (Int × GS)) (S : GS) (a0 : Nat) (a1 : Int) : Option (Int × GS) :=
  gg (inr a1) <|
  if a1 < 0 then (
    some ((-1), S)
  ) else (
    gg (gT a0) <|
    gv (S.1 a0 7) fun x4 =>
    gg (inr x4) <|
    if x4 ≤ a1 then (
      some ((-1), S)
    ) else (
      if 100 ≤ a1 then (
        some ((-1), S)
      ) else (
        gg (0 ≤ a1 ∧ a1 < ((100 : Nat) : Int) ∧ a1 < 2147483648) <|
        gv (S.1 (a0 + 1) (a1 : Int).toNat) fun x10 =>
        some (x10, S)
      )
    )
  )
def f_X10_kind : Nat → Nat → Nat → GS → List Int → Option (Int × GS)
  | 0, _, _, _, _ => none
  | n + 1, d, pc, S, x => match pc, x with
    | 0, [a0, a1] => b_X10_kind_0 n d (f_X10_kind n) S a0.toNat a1
    | _, _ => none
theorem e_X10_kind_0 {n d : Nat} {S : GS} {a0 : Nat} {a1 : Int} : f_X10_kind (n + 1) d 0 S [((a0 : Nat) : Int), a1] = b_X10_kind_0 n d (f_X10_kind n) S a0 a1 := rfl

def b_X0_kindOf_0 (n d : Nat) (rec : Nat → Nat → GS → List Int → Option (Int × GS)) (S : GS) (a0 : Int) : Option (Int × GS) :=
  gg (inr a0) <|
  if a0 = 0 then (
    some (((47 : Nat) : Int), S)
  ) else (
  if a0 = 1 then (
    some (((48 : Nat) : Int), S)
  ) else (
  if a0 = 2 then (
    some (((49 : Nat) : Int), S)
  ) else (
  if a0 = 3 then (
    some (((50 : Nat) : Int), S)
  ) else (
  if a0 = 4 then (
    some (((51 : Nat) : Int), S)
  ) else (
  some (((52 : Nat) : Int), S)
  )))))
def f_X0_kindOf : Nat → Nat → Nat → GS → List Int → Option (Int × GS)
  | 0, _, _, _, _ => none
  | n + 1, d, pc, S, x => match pc, x with
    | 0, [a0] => b_X0_kindOf_0 n d (f_X0_kindOf n) S a0
    | _, _ => none
theorem e_X0_kindOf_0 {n d : Nat} {S : GS} {a0 : Int} : f_X0_kindOf (n + 1) d 0 S [a0] = b_X0_kindOf_0 n d (f_X0_kindOf n) S a0 := rfl

def b_X0_isOfKind_0 (n d : Nat) (rec : Nat → Nat → GS → List Int → Option (Int × GS)) (S : GS) (a1 : Int) (a2 : Int) : Option (Int × GS) :=
  gv (S.2.2 487 9) fun z1 =>
  gg (1 ≤ d) <|
  gg (gT z1) <|
  gc (f_X10_says n (d - 1) 0 S [((z1 : Nat) : Int), a1, ((46 : Nat) : Int)]) fun x5 S_6 =>
  gg (inr x5) <|
  if x5 = 0 then (
    gv (S_6.2.2 487 9) fun z10 =>
    gv (S_6.2.2 487 10) fun z12 =>
    gg (gT z12) <|
    gc (f_X10_kind n (d - 1) 0 S_6 [((z12 : Nat) : Int), a2]) fun x15 S_16 =>
    gc (f_X0_kindOf n (d - 1) 0 S_16 [x15]) fun x18 S_19 =>
    gg (gT z10) <|
    gc (f_X10_says n (d - 1) 0 S_19 [((z10 : Nat) : Int), a1, ((x18.toNat : Nat) : Int)]) fun x22 S_23 =>
    gg (x22 = 0 ∨ x22 = 1) <|
    some (x22, S_23)
  ) else (
    gv (S_6.2.2 487 10) fun z26 =>
    gg (gT z26) <|
    gc (f_X10_is n (d - 1) 0 S_6 [((z26 : Nat) : Int), a2, 2]) fun x29 S_30 =>
    gg (inr x29) <|
    if x29 = 0 then (
      some (0, S_30)
    ) else (
      gv (S_30.2.2 487 10) fun z34 =>
      gg (gT z34) <|
      gc (f_X10_power n (d - 1) 0 S_30 [((z34 : Nat) : Int), a2]) fun x37 S_38 =>
      gg (inr x37) <|
      if x37 < 0 then (
        some (0, S_38)
      ) else (
        some (1, S_38)
      )
    )
  )
def f_X0_isOfKind : Nat → Nat → Nat → GS → List Int → Option (Int × GS)
  | 0, _, _, _, _ => none
  | n + 1, d, pc, S, x => match pc, x with
    | 0, [a1, a2] => b_X0_isOfKind_0 n d (f_X0_isOfKind n) S a1 a2
    | _, _ => none
theorem e_X0_isOfKind_0 {n d : Nat} {S : GS} {a1 : Int} {a2 : Int} : f_X0_isOfKind (n + 1) d 0 S [a1, a2] = b_X0_isOfKind_0 n d (f_X0_isOfKind n) S a1 a2 := rfl

def b_X0_isOfKinds_0 (n d : Nat) (rec : Nat → Nat → GS → List Int → Option (Int × GS)) (S : GS) (a1 : Int) (a2 : Int) : Option (Int × GS) :=
  gg (1 ≤ d) <|
  gc (f_X0_isOfKind n (d - 1) 0 S [a1, a2]) fun x2 S_3 =>
  gv (S_3.2.2 487 9) fun z5 =>
  gg (gT z5) <|
  gc (f_X10_first n (d - 1) 0 S_3 [((z5 : Nat) : Int), a1]) fun x8 S_9 =>
  rec d 20 S_9 [a1, a2, x2, x8, 0]
def b_X0_isOfKinds_20 (n d : Nat) (rec : Nat → Nat → GS → List Int → Option (Int × GS)) (S : GS) (a1 : Int) (a2 : Int) (a3 : Int) (a4 : Int) (a5 : Int) : Option (Int × GS) :=
  gg (inr a4) <|
  if a4 = (-1) then (
    gg (a3 = 0 ∨ a3 = 1) <|
    some (a3, S)
  ) else (
    gg (inr a5) <|
    if 100 ≤ a5 then (
      gg (a3 = 0 ∨ a3 = 1) <|
      some (a3, S)
    ) else (
      gg (inr a3) <|
      if a3 ≠ 0 then (
        rec d 52 S [a1, a2, a4, a5, 1]
      ) else (
        gg (1 ≤ d) <|
        gc (f_X0_isOfKind n (d - 1) 0 S [a4, a2]) fun x10 S_11 =>
        gg (inr x10) <|
        if x10 = 0 then (
          rec d 52 S_11 [a1, a2, a4, a5, 0]
        ) else (
          rec d 52 S_11 [a1, a2, a4, a5, 1]
        )
      )
    )
  )
def b_X0_isOfKinds_52 (n d : Nat) (rec : Nat → Nat → GS → List Int → Option (Int × GS)) (S : GS) (a1 : Int) (a2 : Int) (a4 : Int) (a5 : Int) (s0 : Int) : Option (Int × GS) :=
  gv (S.2.2 487 9) fun z1 =>
  gg (1 ≤ d) <|
  gg (gT z1) <|
  gc (f_X10_next n (d - 1) 0 S [((z1 : Nat) : Int), a1, a4]) fun x5 S_6 =>
  gv (a5 + 1) fun x8 =>
  rec d 20 S_6 [a1, a2, s0, x5, x8]
def f_X0_isOfKinds : Nat → Nat → Nat → GS → List Int → Option (Int × GS)
  | 0, _, _, _, _ => none
  | n + 1, d, pc, S, x => match pc, x with
    | 0, [a1, a2] => b_X0_isOfKinds_0 n d (f_X0_isOfKinds n) S a1 a2
    | 20, [a1, a2, a3, a4, a5] => b_X0_isOfKinds_20 n d (f_X0_isOfKinds n) S a1 a2 a3 a4 a5
    | 52, [a1, a2, a4, a5, s0] => b_X0_isOfKinds_52 n d (f_X0_isOfKinds n) S a1 a2 a4 a5 s0
    | _, _ => none
theorem e_X0_isOfKinds_0 {n d : Nat} {S : GS} {a1 : Int} {a2 : Int} : f_X0_isOfKinds (n + 1) d 0 S [a1, a2] = b_X0_isOfKinds_0 n d (f_X0_isOfKinds n) S a1 a2 := rfl
theorem e_X0_isOfKinds_20 {n d : Nat} {S : GS} {a1 : Int} {a2 : Int} {a3 : Int} {a4 : Int} {a5 : Int} : f_X0_isOfKinds (n + 1) d 20 S [a1, a2, a3, a4, a5] = b_X0_isOfKinds_20 n d (f_X0_isOfKinds n) S a1 a2 a3 a4 a5 := rfl
theorem e_X0_isOfKinds_52 {n d : Nat} {S : GS} {a1 : Int} {a2 : Int} {a4 : Int} {a5 : Int} {s0 : Int} : f_X0_isOfKinds (n + 1) d 52 S [a1, a2, a4, a5, s0] = b_X0_isOfKinds_52 n d (f_X0_isOfKinds n) S a1 a2 a4 a5 s0 := rfl

def b_X10_signOf_0 (n d : Nat) (rec : Nat → Nat → GS → List Int → Option (Int × GS)) (S : GS) (a0 : Nat) (a1 : Int) : Option (Int × GS) :=
  gg (1 ≤ d) <|
  gg (gT a0) <|
  gc (f_X10_signAt n (d - 1) 0 S [((a0 : Nat) : Int), a1, 0]) fun x3 S_4 =>
  gg (inr x3) <|
  if x3 ≠ 45 then (
    if x3 ≠ 48 then (
      some (1, S_4)
    ) else (
      some (0, S_4)
    )
  ) else (
    some ((-1), S_4)
  )
def f_X10_signOf : Nat → Nat → Nat → GS → List Int → Option (Int × GS)
  | 0, _, _, _, _ => none
  | n + 1, d, pc, S, x => match pc, x with
    | 0, [a0, a1] => b_X10_signOf_0 n d (f_X10_signOf n) S a0.toNat a1
    | _, _ => none
theorem e_X10_signOf_0 {n d : Nat} {S : GS} {a0 : Nat} {a1 : Int} : f_X10_signOf (n + 1) d 0 S [((a0 : Nat) : Int), a1] = b_X10_signOf_0 n d (f_X10_signOf n) S a0 a1 := rfl

def b_X10_order_0 (n d : Nat) (rec : Nat → Nat → GS → List Int → Option (Int × GS)) (S : GS) (a0 : Int) (a1 : Int) : Option (Int × GS) :=
  gv (a0 - a1) fun x1 =>
  gg (inr x1) <|
  gv (min 1 x1) fun x4 =>
  gg (inr x4) <|
  gv (max (-1) x4) fun x7 =>
  some (x7, S)
def f_X10_order : Nat → Nat → Nat → GS → List Int → Option (Int × GS)
  | 0, _, _, _, _ => none
  | n + 1, d, pc, S, x => match pc, x with
    | 0, [a0, a1] => b_X10_order_0 n d (f_X10_order n) S a0 a1
    | _, _ => none
theorem e_X10_order_0 {n d : Nat} {S : GS} {a0 : Int} {a1 : Int} : f_X10_order (n + 1) d 0 S [a0, a1] = b_X10_order_0 n d (f_X10_order n) S a0 a1 := rfl

def b_X10_figures_0 (n d : Nat) (rec : Nat → Nat → GS → List Int → Option (Int × GS)) (S : GS) (a0 : Nat) (a1 : Int) : Option (Int × GS) :=
  gg (1 ≤ d) <|
  gg (gT a0) <|
  gc (f_X10_is n (d - 1) 0 S [((a0 : Nat) : Int), a1, 2]) fun x3 S_4 =>
  gg (inr x3) <|
  if x3 ≠ 0 then (
    gg (0 ≤ a1 ∧ a1 < ((100 : Nat) : Int) ∧ a1 < 2147483648) <|
    gv (S_4.1 (a0 + 4) (a1 : Int).toNat) fun x9 =>
    gc (f_X10_signAt n (d - 1) 0 S_4 [((a0 : Nat) : Int), a1, 0]) fun x11 S_12 =>
    gg (inr x11) <|
    if x11 ≠ 45 then (
      gv (x9 - 0) fun x16 =>
      some (x16, S_12)
    ) else (
      gv (x9 - 1) fun x18 =>
      some (x18, S_12)
    )
  ) else (
    some (0, S_4)
  )
def f_X10_figures : Nat → Nat → Nat → GS → List Int → Option (Int × GS)
  | 0, _, _, _, _ => none
  | n + 1, d, pc, S, x => match pc, x with
    | 0, [a0, a1] => b_X10_figures_0 n d (f_X10_figures n) S a0.toNat a1
    | _, _ => none
theorem e_X10_figures_0 {n d : Nat} {S : GS} {a0 : Nat} {a1 : Int} : f_X10_figures (n + 1) d 0 S [((a0 : Nat) : Int), a1] = b_X10_figures_0 n d (f_X10_figures n) S a0 a1 := rfl

def b_X10_digit_0 (n d : Nat) (rec : Nat → Nat → GS → List Int → Option (Int × GS)) (S : GS) (a0 : Nat) (a1 : Int) (a2 : Int) : Option (Int × GS) :=
  gg (1 ≤ d) <|
  gg (gT a0) <|
  gc (f_X10_signAt n (d - 1) 0 S [((a0 : Nat) : Int), a1, 0]) fun x3 S_4 =>
  gg (inr x3) <|
  if x3 ≠ 45 then (
    rec d 17 S_4 [((a0 : Nat) : Int), a1, 0, a2]
  ) else (
    rec d 17 S_4 [((a0 : Nat) : Int), a1, 1, a2]
  )
def b_X10_digit_17 (n d : Nat) (rec : Nat → Nat → GS → List Int → Option (Int × GS)) (S : GS) (a0 : Nat) (a1 : Int) (s0 : Int) (s1 : Int) : Option (Int × GS) :=
  gv (s1 + s0) fun x1 =>
  gg (inr x1) <|
  if x1 < 0 then (
    some (48, S)
  ) else (
    gg (1 ≤ d) <|
    gg (gT a0) <|
    gc (f_X10_lengthOf n (d - 1) 0 S [((a0 : Nat) : Int), a1]) fun x7 S_8 =>
    gg (inr x7) <|
    if x7 ≤ x1 then (
      some (48, S_8)
    ) else (
      gc (f_X10_signAt n (d - 1) 0 S_8 [((a0 : Nat) : Int), a1, x1]) fun x12 S_13 =>
      some (x12, S_13)
    )
  )
def f_X10_digit : Nat → Nat → Nat → GS → List Int → Option (Int × GS)
  | 0, _, _, _, _ => none
  | n + 1, d, pc, S, x => match pc, x with
    | 0, [a0, a1, a2] => b_X10_digit_0 n d (f_X10_digit n) S a0.toNat a1 a2
    | 17, [a0, a1, s0, s1] => b_X10_digit_17 n d (f_X10_digit n) S a0.toNat a1 s0 s1
    | _, _ => none
theorem e_X10_digit_0 {n d : Nat} {S : GS} {a0 : Nat} {a1 : Int} {a2 : Int} : f_X10_digit (n + 1) d 0 S [((a0 : Nat) : Int), a1, a2] = b_X10_digit_0 n d (f_X10_digit n) S a0 a1 a2 := rfl
theorem e_X10_digit_17 {n d : Nat} {S : GS} {a0 : Nat} {a1 : Int} {s0 : Int} {s1 : Int} : f_X10_digit (n + 1) d 17 S [((a0 : Nat) : Int), a1, s0, s1] = b_X10_digit_17 n d (f_X10_digit n) S a0 a1 s0 s1 := rfl

def b_X10_orderOfNumbers_0 (n d : Nat) (rec : Nat → Nat → GS → List Int → Option (Int × GS)) (S : GS) (a0 : Nat) (a1 : Int) (a2 : Nat) (a3 : Int) : Option (Int × GS) :=
  gg (1 ≤ d) <|
  gg (gT a0) <|
  gc (f_X10_signOf n (d - 1) 0 S [((a0 : Nat) : Int), a1]) fun x3 S_4 =>
  gg (gT a2) <|
  gc (f_X10_signOf n (d - 1) 0 S_4 [((a2 : Nat) : Int), a3]) fun x7 S_8 =>
  gg (inr x3) <|
  gg (inr x7) <|
  if x3 ≠ x7 then (
    gc (f_X10_signOf n (d - 1) 0 S_8 [((a2 : Nat) : Int), a3]) fun x13 S_14 =>
    gc (f_X10_order n (d - 1) 0 S_14 [x3, x13]) fun x16 S_17 =>
    some (x16, S_17)
  ) else (
    if x3 ≠ 0 then (
      gc (f_X10_figures n (d - 1) 0 S_8 [((a0 : Nat) : Int), a1]) fun x20 S_21 =>
      gc (f_X10_power n (d - 1) 0 S_21 [((a0 : Nat) : Int), a1]) fun x23 S_24 =>
      gv (x20 + x23) fun x26 =>
      gc (f_X10_figures n (d - 1) 0 S_24 [((a2 : Nat) : Int), a3]) fun x28 S_29 =>
      gc (f_X10_power n (d - 1) 0 S_29 [((a2 : Nat) : Int), a3]) fun x31 S_32 =>
      gv (x28 + x31) fun x34 =>
      gc (f_X10_order n (d - 1) 0 S_32 [x26, x34]) fun x36 S_37 =>
      rec d 63 S_37 [((a0 : Nat) : Int), a1, ((a2 : Nat) : Int), a3, x3, x36, 0]
    ) else (
      gc (f_X10_signOf n (d - 1) 0 S_8 [((a2 : Nat) : Int), a3]) fun x39 S_40 =>
      gc (f_X10_order n (d - 1) 0 S_40 [x3, x39]) fun x42 S_43 =>
      some (x42, S_43)
    )
  )
def b_X10_orderOfNumbers_63 (n d : Nat) (rec : Nat → Nat → GS → List Int → Option (Int × GS)) (S : GS) (a0 : Nat) (a1 : Int) (a2 : Nat) (a3 : Int) (a4 : Int) (a5 : Int) (a6 : Int) : Option (Int × GS) :=
  gg (inr a6) <|
  if 24 ≤ a6 then (
    gv (a4 * a5) fun x3 =>
    some (x3, S)
  ) else (
    gg (inr a5) <|
    if a5 ≠ 0 then (
      gv (a4 * a5) fun x7 =>
      some (x7, S)
    ) else (
      gg (1 ≤ d) <|
      gg (gT a0) <|
      gc (f_X10_digit n (d - 1) 0 S [((a0 : Nat) : Int), a1, a6]) fun x11 S_12 =>
      gg (gT a2) <|
      gc (f_X10_digit n (d - 1) 0 S_12 [((a2 : Nat) : Int), a3, a6]) fun x15 S_16 =>
      gc (f_X10_order n (d - 1) 0 S_16 [x11, x15]) fun x18 S_19 =>
      gv (a6 + 1) fun x21 =>
      rec d 63 S_19 [((a0 : Nat) : Int), a1, ((a2 : Nat) : Int), a3, a4, x18, x21]
    )
  )
def f_X10_orderOfNumbers : Nat → Nat → Nat → GS → List Int → Option (Int × GS)
  | 0, _, _, _, _ => none
  | n + 1, d, pc, S, x => match pc, x with
    | 0, [a0, a1, a2, a3] => b_X10_orderOfNumbers_0 n d (f_X10_orderOfNumbers n) S a0.toNat a1 a2.toNat a3
    | 63, [a0, a1, a2, a3, a4, a5, a6] => b_X10_orderOfNumbers_63 n d (f_X10_orderOfNumbers n) S a0.toNat a1 a2.toNat a3 a4 a5 a6
    | _, _ => none
theorem e_X10_orderOfNumbers_0 {n d : Nat} {S : GS} {a0 : Nat} {a1 : Int} {a2 : Nat} {a3 : Int} : f_X10_orderOfNumbers (n + 1) d 0 S [((a0 : Nat) : Int), a1, ((a2 : Nat) : Int), a3] = b_X10_orderOfNumbers_0 n d (f_X10_orderOfNumbers n) S a0 a1 a2 a3 := rfl
theorem e_X10_orderOfNumbers_63 {n d : Nat} {S : GS} {a0 : Nat} {a1 : Int} {a2 : Nat} {a3 : Int} {a4 : Int} {a5 : Int} {a6 : Int} : f_X10_orderOfNumbers (n + 1) d 63 S [((a0 : Nat) : Int), a1, ((a2 : Nat) : Int), a3, a4, a5, a6] = b_X10_orderOfNumbers_63 n d (f_X10_orderOfNumbers n) S a0 a1 a2 a3 a4 a5 a6 := rfl

def b_X10_isGroup_0 (n d : Nat) (rec : Nat → Nat → GS → List Int → Option (Int × GS)) (S : GS) (a0 : Nat) (a1 : Int) : Option (Int × GS) :=
  gg (inr a1) <|
  if a1 < 0 then (
    some (0, S)
  ) else (
    gg (gT a0) <|
    gv (S.1 a0 7) fun x4 =>
    gg (inr x4) <|
    if x4 ≤ a1 then (
      some (0, S)
    ) else (
      if 100 ≤ a1 then (
        some (0, S)
      ) else (
        gg (0 ≤ a1 ∧ a1 < ((100 : Nat) : Int) ∧ a1 < 2147483648) <|
        gv (S.1 (a0 + 1) (a1 : Int).toNat) fun x10 =>
        gg (inr x10) <|
        if x10 = 4 then (
          some (1, S)
        ) else (
          gv (S.1 (a0 + 1) (a1 : Int).toNat) fun x14 =>
          gg (inr x14) <|
          if x14 ≠ 5 then (
            some (0, S)
          ) else (
            some (1, S)
          )
        )
      )
    )
  )
def f_X10_isGroup : Nat → Nat → Nat → GS → List Int → Option (Int × GS)
  | 0, _, _, _, _ => none
  | n + 1, d, pc, S, x => match pc, x with
    | 0, [a0, a1] => b_X10_isGroup_0 n d (f_X10_isGroup n) S a0.toNat a1
    | _, _ => none
theorem e_X10_isGroup_0 {n d : Nat} {S : GS} {a0 : Nat} {a1 : Int} : f_X10_isGroup (n + 1) d 0 S [((a0 : Nat) : Int), a1] = b_X10_isGroup_0 n d (f_X10_isGroup n) S a0 a1 := rfl

def b_X10_values_0 (n d : Nat) (rec : Nat → Nat → GS → List Int → Option (Int × GS)) (S : GS) (a0 : Nat) (a1 : Int) : Option (Int × GS) :=
  gg (1 ≤ d) <|
  gg (gT a0) <|
  gc (f_X10_first n (d - 1) 0 S [((a0 : Nat) : Int), a1]) fun x3 S_4 =>
  rec d 8 S_4 [((a0 : Nat) : Int), a1, 0, x3]
def b_X10_values_8 (n d : Nat) (rec : Nat → Nat → GS → List Int → Option (Int × GS)) (S : GS) (a0 : Nat) (a1 : Int) (a2 : Int) (a3 : Int) : Option (Int × GS) :=
  gg (inr a3) <|
  if a3 = (-1) then (
    some (a2, S)
  ) else (
    gg (inr a2) <|
    if 100 ≤ a2 then (
      some (a2, S)
    ) else (
      gv (a2 + 1) fun x5 =>
      gg (1 ≤ d) <|
      gg (gT a0) <|
      gc (f_X10_next n (d - 1) 0 S [((a0 : Nat) : Int), a1, a3]) fun x9 S_10 =>
      rec d 8 S_10 [((a0 : Nat) : Int), a1, x5, x9]
    )
  )
def f_X10_values : Nat → Nat → Nat → GS → List Int → Option (Int × GS)
  | 0, _, _, _, _ => none
  | n + 1, d, pc, S, x => match pc, x with
    | 0, [a0, a1] => b_X10_values_0 n d (f_X10_values n) S a0.toNat a1
    | 8, [a0, a1, a2, a3] => b_X10_values_8 n d (f_X10_values n) S a0.toNat a1 a2 a3
    | _, _ => none
theorem e_X10_values_0 {n d : Nat} {S : GS} {a0 : Nat} {a1 : Int} : f_X10_values (n + 1) d 0 S [((a0 : Nat) : Int), a1] = b_X10_values_0 n d (f_X10_values n) S a0 a1 := rfl
theorem e_X10_values_8 {n d : Nat} {S : GS} {a0 : Nat} {a1 : Int} {a2 : Int} {a3 : Int} : f_X10_values (n + 1) d 8 S [((a0 : Nat) : Int), a1, a2, a3] = b_X10_values_8 n d (f_X10_values n) S a0 a1 a2 a3 := rfl

def b_X10_length_0 (n d : Nat) (rec : Nat → Nat → GS → List Int → Option (Int × GS)) (S : GS) (a0 : Nat) (a1 : Int) : Option (Int × GS) :=
  gg (1 ≤ d) <|
  gg (gT a0) <|
  gc (f_X10_is n (d - 1) 0 S [((a0 : Nat) : Int), a1, 3]) fun x3 S_4 =>
  gg (inr x3) <|
  if x3 = 0 then (
    gc (f_X10_isGroup n (d - 1) 0 S_4 [((a0 : Nat) : Int), a1]) fun x8 S_9 =>
    gg (inr x8) <|
    if x8 = 0 then (
      some ((-1), S_9)
    ) else (
      gc (f_X10_values n (d - 1) 0 S_9 [((a0 : Nat) : Int), a1]) fun x13 S_14 =>
      some (x13, S_14)
    )
  ) else (
    gg (0 ≤ a1 ∧ a1 < ((100 : Nat) : Int) ∧ a1 < 2147483648) <|
    gv (S_4.1 (a0 + 4) (a1 : Int).toNat) fun x17 =>
    some (x17, S_4)
  )
def f_X10_length : Nat → Nat → Nat → GS → List Int → Option (Int × GS)
  | 0, _, _, _, _ => none
  | n + 1, d, pc, S, x => match pc, x with
    | 0, [a0, a1] => b_X10_length_0 n d (f_X10_length n) S a0.toNat a1
    | _, _ => none
theorem e_X10_length_0 {n d : Nat} {S : GS} {a0 : Nat} {a1 : Int} : f_X10_length (n + 1) d 0 S [((a0 : Nat) : Int), a1] = b_X10_length_0 n d (f_X10_length n) S a0 a1 := rfl

def b_X9_addNumber_0 (n d : Nat) (rec : Nat → Nat → GS → List Int → Option (Int × GS)) (S : GS) (a0 : Nat) (a1 : Int) : Option (Int × GS) :=
  gg (inr a1) <|
  gv (max a1 (-a1)) fun x2 =>
  if 0 ≤ a1 then (
    rec d 15 S [((a0 : Nat) : Int), x2]
  ) else (
    gg (1 ≤ d) <|
    gg (gSh (a0)) <|
    gc (f_X9_add n (d - 1) 0 S [((a0 : Nat) : Int), 45]) fun x7 S_8 =>
    rec d 15 S_8 [((a0 : Nat) : Int), x2]
  )
def b_X9_addNumber_15 (n d : Nat) (rec : Nat → Nat → GS → List Int → Option (Int × GS)) (S : GS) (a0 : Nat) (a2 : Int) : Option (Int × GS) :=
  gg (inr a2) <|
  if a2 ≤ 99 then (
    rec d 35 S [((a0 : Nat) : Int), a2]
  ) else (
    gg ((0 ≤ a2 ∧ a2 < 2147483648) ∧ ((0 : Int) < 100 ∧ (100 : Int) < 2147483648)) <|
    gv (a2 / 100) fun x4 =>
    gg ((0 ≤ x4 ∧ x4 < 2147483648) ∧ ((0 : Int) < 10 ∧ (10 : Int) < 2147483648)) <|
    gv (x4 % 10) fun x7 =>
    gv (48 + x7) fun x9 =>
    gg (1 ≤ d) <|
    gg (gSh (a0)) <|
    gc (f_X9_add n (d - 1) 0 S [((a0 : Nat) : Int), x9]) fun x13 S_14 =>
    rec d 35 S_14 [((a0 : Nat) : Int), a2]
  )
def b_X9_addNumber_35 (n d : Nat) (rec : Nat → Nat → GS → List Int → Option (Int × GS)) (S : GS) (a0 : Nat) (a2 : Int) : Option (Int × GS) :=
  gg (inr a2) <|
  if a2 ≤ 9 then (
    rec d 55 S [((a0 : Nat) : Int), a2]
  ) else (
    gg ((0 ≤ a2 ∧ a2 < 2147483648) ∧ ((0 : Int) < 10 ∧ (10 : Int) < 2147483648)) <|
    gv (a2 / 10) fun x4 =>
    gg ((0 ≤ x4 ∧ x4 < 2147483648) ∧ ((0 : Int) < 10 ∧ (10 : Int) < 2147483648)) <|
    gv (x4 % 10) fun x7 =>
    gv (48 + x7) fun x9 =>
    gg (1 ≤ d) <|
    gg (gSh (a0)) <|
    gc (f_X9_add n (d - 1) 0 S [((a0 : Nat) : Int), x9]) fun x13 S_14 =>
    rec d 55 S_14 [((a0 : Nat) : Int), a2]
  )
def b_X9_addNumber_55 (n d : Nat) (rec : Nat → Nat → GS → List Int → Option (Int × GS)) (S : GS) (a0 : Nat) (a2 : Int) : Option (Int × GS) :=
  gg ((0 ≤ a2 ∧ a2 < 2147483648) ∧ ((0 : Int) < 10 ∧ (10 : Int) < 2147483648)) <|
  gv (a2 % 10) fun x2 =>
  gv (48 + x2) fun x4 =>
  gg (1 ≤ d) <|
  gg (gSh (a0)) <|
  gc (f_X9_add n (d - 1) 0 S [((a0 : Nat) : Int), x4]) fun x8 S_9 =>
  some (0, S_9)
def f_X9_addNumber : Nat → Nat → Nat → GS → List Int → Option (Int × GS)
  | 0, _, _, _, _ => none
  | n + 1, d, pc, S, x => match pc, x with
    | 0, [a0, a1] => b_X9_addNumber_0 n d (f_X9_addNumber n) S a0.toNat a1
    | 15, [a0, a2] => b_X9_addNumber_15 n d (f_X9_addNumber n) S a0.toNat a2
    | 35, [a0, a2] => b_X9_addNumber_35 n d (f_X9_addNumber n) S a0.toNat a2
    | 55, [a0, a2] => b_X9_addNumber_55 n d (f_X9_addNumber n) S a0.toNat a2
    | _, _ => none
theorem e_X9_addNumber_0 {n d : Nat} {S : GS} {a0 : Nat} {a1 : Int} : f_X9_addNumber (n + 1) d 0 S [((a0 : Nat) : Int), a1] = b_X9_addNumber_0 n d (f_X9_addNumber n) S a0 a1 := rfl
theorem e_X9_addNumber_15 {n d : Nat} {S : GS} {a0 : Nat} {a2 : Int} : f_X9_addNumber (n + 1) d 15 S [((a0 : Nat) : Int), a2] = b_X9_addNumber_15 n d (f_X9_addNumber n) S a0 a2 := rfl
theorem e_X9_addNumber_35 {n d : Nat} {S : GS} {a0 : Nat} {a2 : Int} : f_X9_addNumber (n + 1) d 35 S [((a0 : Nat) : Int), a2] = b_X9_addNumber_35 n d (f_X9_addNumber n) S a0 a2 := rfl
theorem e_X9_addNumber_55 {n d : Nat} {S : GS} {a0 : Nat} {a2 : Int} : f_X9_addNumber (n + 1) d 55 S [((a0 : Nat) : Int), a2] = b_X9_addNumber_55 n d (f_X9_addNumber n) S a0 a2 := rfl

def b_X10_clear_0 (n d : Nat) (rec : Nat → Nat → GS → List Int → Option (Int × GS)) (S : GS) (a0 : Nat) : Option (Int × GS) :=
  gg (gT a0) <|
  gv (gI S a0 7 0) fun S_2 =>
  gv (gB S_2 a0 8 (decide ((0 : Int) = 1))) fun S_4 =>
  some (0, S_4)
def f_X10_clear : Nat → Nat → Nat → GS → List Int → Option (Int × GS)
  | 0, _, _, _, _ => none
  | n + 1, d, pc, S, x => match pc, x with
    | 0, [a0] => b_X10_clear_0 n d (f_X10_clear n) S a0.toNat
    | _, _ => none
theorem e_X10_clear_0 {n d : Nat} {S : GS} {a0 : Nat} : f_X10_clear (n + 1) d 0 S [((a0 : Nat) : Int)] = b_X10_clear_0 n d (f_X10_clear n) S a0 := rfl

def b_X10_add_0 (n d : Nat) (rec : Nat → Nat → GS → List Int → Option (Int × GS)) (S : GS) (a0 : Nat) (a1 : Int) : Option (Int × GS) :=
  gg (gT a0) <|
  gv (S.1 a0 7) fun x2 =>
  gg (inr x2) <|
  if x2 < 0 then (
    gv (gB S a0 8 (decide ((1 : Int) = 1))) fun S_6 =>
    some ((-1), S_6)
  ) else (
    gv (S.1 a0 7) fun x8 =>
    gg (inr x8) <|
    if x8 < 100 then (
      gv (S.1 a0 7) fun x12 =>
      gg (0 ≤ x12 ∧ x12 < ((100 : Nat) : Int) ∧ x12 < 2147483648) <|
      gv (gI S (a0 + 1) (x12 : Int).toNat a1) fun S_15 =>
      gv (S_15.1 a0 7) fun x17 =>
      gg (0 ≤ x17 ∧ x17 < ((100 : Nat) : Int) ∧ x17 < 2147483648) <|
      gv (gI S_15 (a0 + 2) (x17 : Int).toNat 1) fun S_20 =>
      gv (S_20.1 a0 7) fun x22 =>
      gg (0 ≤ x22 ∧ x22 < ((100 : Nat) : Int) ∧ x22 < 2147483648) <|
      gv (gI S_20 (a0 + 3) (x22 : Int).toNat 0) fun S_25 =>
      gv (S_25.1 a0 7) fun x27 =>
      gg (0 ≤ x27 ∧ x27 < ((100 : Nat) : Int) ∧ x27 < 2147483648) <|
      gv (gI S_25 (a0 + 4) (x27 : Int).toNat 0) fun S_30 =>
      gv (S_30.1 a0 7) fun x32 =>
      gg (0 ≤ x32 ∧ x32 < ((100 : Nat) : Int) ∧ x32 < 2147483648) <|
      gv (gI S_30 (a0 + 6) (x32 : Int).toNat 0) fun S_35 =>
      gv (S_35.1 a0 7) fun x37 =>
      gv (x37 + 1) fun x39 =>
      gv (gI S_35 a0 7 x39) fun S_41 =>
      gv (S_41.1 a0 7) fun x43 =>
      gv (x43 - 1) fun x45 =>
      some (x45, S_41)
    ) else (
      gv (gB S a0 8 (decide ((1 : Int) = 1))) fun S_47 =>
      some ((-1), S_47)
    )
  )
def f_X10_add : Nat → Nat → Nat → GS → List Int → Option (Int × GS)
  | 0, _, _, _, _ => none
  | n + 1, d, pc, S, x => match pc, x with
    | 0, [a0, a1] => b_X10_add_0 n d (f_X10_add n) S a0.toNat a1
    | _, _ => none
theorem e_X10_add_0 {n d : Nat} {S : GS} {a0 : Nat} {a1 : Int} : f_X10_add (n + 1) d 0 S [((a0 : Nat) : Int), a1] = b_X10_add_0 n d (f_X10_add n) S a0 a1 := rfl

def b_X10_has_0 (n d : Nat) (rec : Nat → Nat → GS → List Int → Option (Int × GS)) (S : GS) (a0 : Nat) (a1 : Int) : Option (Int × GS) :=
  gg (inr a1) <|
  if a1 < 0 then (
    some (0, S)
  ) else (
    gg (gT a0) <|
    gv (S.1 a0 7) fun x4 =>
    gg (inr x4) <|
    if x4 ≤ a1 then (
      some (0, S)
    ) else (
      if 100 ≤ a1 then (
        some (0, S)
      ) else (
        some (1, S)
      )
    )
  )
def f_X10_has : Nat → Nat → Nat → GS → List Int → Option (Int × GS)
  | 0, _, _, _, _ => none
  | n + 1, d, pc, S, x => match pc, x with
    | 0, [a0, a1] => b_X10_has_0 n d (f_X10_has n) S a0.toNat a1
    | _, _ => none
theorem e_X10_has_0 {n d : Nat} {S : GS} {a0 : Nat} {a1 : Int} : f_X10_has (n + 1) d 0 S [((a0 : Nat) : Int), a1] = b_X10_has_0 n d (f_X10_has n) S a0 a1 := rfl

def b_X10_addSign_0 (n d : Nat) (rec : Nat → Nat → GS → List Int → Option (Int × GS)) (S : GS) (a0 : Nat) (a1 : Int) (a2 : Int) : Option (Int × GS) :=
  gg (inr a1) <|
  if a1 < 0 then (
    rec d 32 S [((a0 : Nat) : Int), a1, a2, 0]
  ) else (
    gg (gT a0) <|
    gv (S.1 a0 7) fun x4 =>
    gg (inr x4) <|
    if x4 ≤ a1 then (
      rec d 32 S [((a0 : Nat) : Int), a1, a2, 0]
    ) else (
      if 100 ≤ a1 then (
        rec d 32 S [((a0 : Nat) : Int), a1, a2, 0]
      ) else (
        gg (0 ≤ a1 ∧ a1 < ((100 : Nat) : Int) ∧ a1 < 2147483648) <|
        gv (S.1 (a0 + 4) (a1 : Int).toNat) fun x10 =>
        gg (inr x10) <|
        if x10 < 0 then (
          rec d 32 S [((a0 : Nat) : Int), a1, a2, 0]
        ) else (
          rec d 32 S [((a0 : Nat) : Int), a1, a2, 1]
        )
      )
    )
  )
def b_X10_addSign_32 (n d : Nat) (rec : Nat → Nat → GS → List Int → Option (Int × GS)) (S : GS) (a0 : Nat) (a1 : Int) (a2 : Int) (s0 : Int) : Option (Int × GS) :=
  gg (inr s0) <|
  if s0 = 0 then (
    gg (gT a0) <|
    gv (gB S a0 8 (decide ((1 : Int) = 1))) fun S_4 =>
    some (0, S_4)
  ) else (
    gg (gT a0) <|
    gg (0 ≤ a1 ∧ a1 < ((100 : Nat) : Int) ∧ a1 < 2147483648) <|
    gv (S.1 (a0 + 4) (a1 : Int).toNat) fun x8 =>
    gg (inr x8) <|
    if 40 ≤ x8 then (
      gv (gB S a0 8 (decide ((1 : Int) = 1))) fun S_12 =>
      some (0, S_12)
    ) else (
      gv (a1 * 40) fun x14 =>
      gv (S.1 (a0 + 4) (a1 : Int).toNat) fun x16 =>
      gv (x14 + x16) fun x18 =>
      gg (0 ≤ a2 ∧ a2 < 65536) <|
      gg (0 ≤ x18 ∧ x18 < ((4000 : Nat) : Int) ∧ x18 < 2147483648) <|
      gv (gI S (a0 + 5) (x18 : Int).toNat a2) fun S_22 =>
      gv (S_22.1 (a0 + 4) (a1 : Int).toNat) fun x24 =>
      gv (x24 + 1) fun x26 =>
      gv (gI S_22 (a0 + 4) (a1 : Int).toNat x26) fun S_28 =>
      some (0, S_28)
    )
  )
def f_X10_addSign : Nat → Nat → Nat → GS → List Int → Option (Int × GS)
  | 0, _, _, _, _ => none
  | n + 1, d, pc, S, x => match pc, x with
    | 0, [a0, a1, a2] => b_X10_addSign_0 n d (f_X10_addSign n) S a0.toNat a1 a2
    | 32, [a0, a1, a2, s0] => b_X10_addSign_32 n d (f_X10_addSign n) S a0.toNat a1 a2 s0
    | _, _ => none
theorem e_X10_addSign_0 {n d : Nat} {S : GS} {a0 : Nat} {a1 : Int} {a2 : Int} : f_X10_addSign (n + 1) d 0 S [((a0 : Nat) : Int), a1, a2] = b_X10_addSign_0 n d (f_X10_addSign n) S a0 a1 a2 := rfl
theorem e_X10_addSign_32 {n d : Nat} {S : GS} {a0 : Nat} {a1 : Int} {a2 : Int} {s0 : Int} : f_X10_addSign (n + 1) d 32 S [((a0 : Nat) : Int), a1, a2, s0] = b_X10_addSign_32 n d (f_X10_addSign n) S a0 a1 a2 s0 := rfl

def b_X10_setNumber_0 (n d : Nat) (rec : Nat → Nat → GS → List Int → Option (Int × GS)) (S : GS) (a0 : Nat) (a1 : Int) (a2 : Int) (a3 : Nat) (a4 : Int) : Option (Int × GS) :=
  gg (1 ≤ d) <|
  gg (gT a0) <|
  gc (f_X10_has n (d - 1) 0 S [((a0 : Nat) : Int), a1]) fun x3 S_4 =>
  gg (inr x3) <|
  if x3 ≠ 0 then (
    gg (gSh (a3)) <|
    gc (f_X9_length n (d - 1) 0 S_4 [((a3 : Nat) : Int)]) fun x9 S_10 =>
    rec d 19 S_10 [((a0 : Nat) : Int), a1, a2, ((a3 : Nat) : Int), a4, 0, x9]
  ) else (
    some (0, S_4)
  )
def b_X10_setNumber_19 (n d : Nat) (rec : Nat → Nat → GS → List Int → Option (Int × GS)) (S : GS) (a0 : Nat) (a1 : Int) (a2 : Int) (a3 : Nat) (a4 : Int) (a5 : Int) (a6 : Int) : Option (Int × GS) :=
  gg (inr a5) <|
  gg (inr a6) <|
  if a6 ≤ a5 then (
    rec d 43 S [((a0 : Nat) : Int), a1, a2, ((a3 : Nat) : Int), a4, a5, a6]
  ) else (
    gg (1 ≤ d) <|
    gg (gSh (a3)) <|
    gc (f_X9_at n (d - 1) 0 S [((a3 : Nat) : Int), a5]) fun x6 S_7 =>
    gg (inr x6) <|
    if x6 ≠ 48 then (
      rec d 43 S_7 [((a0 : Nat) : Int), a1, a2, ((a3 : Nat) : Int), a4, a5, a6]
    ) else (
      gv (a5 + 1) fun x11 =>
      rec d 19 S_7 [((a0 : Nat) : Int), a1, a2, ((a3 : Nat) : Int), a4, x11, a6]
    )
  )
def b_X10_setNumber_43 (n d : Nat) (rec : Nat → Nat → GS → List Int → Option (Int × GS)) (S : GS) (a0 : Nat) (a1 : Int) (a2 : Int) (a3 : Nat) (a4 : Int) (a5 : Int) (a6 : Int) : Option (Int × GS) :=
  gg (inr a6) <|
  gg (inr a5) <|
  if a6 ≤ a5 then (
    rec d 69 S [((a0 : Nat) : Int), a1, a2, ((a3 : Nat) : Int), a4, a5, a6]
  ) else (
    gv (a6 - 1) fun x4 =>
    gg (1 ≤ d) <|
    gg (gSh (a3)) <|
    gc (f_X9_at n (d - 1) 0 S [((a3 : Nat) : Int), x4]) fun x8 S_9 =>
    gg (inr x8) <|
    if x8 ≠ 48 then (
      rec d 69 S_9 [((a0 : Nat) : Int), a1, a2, ((a3 : Nat) : Int), a4, a5, a6]
    ) else (
      gv (a6 + (-1)) fun x13 =>
      rec d 43 S_9 [((a0 : Nat) : Int), a1, a2, ((a3 : Nat) : Int), a4, a5, x13]
    )
  )
def b_X10_setNumber_69 (n d : Nat) (rec : Nat → Nat → GS → List Int → Option (Int × GS)) (S : GS) (a0 : Nat) (a1 : Int) (a2 : Int) (a3 : Nat) (a4 : Int) (a5 : Int) (a6 : Int) : Option (Int × GS) :=
  gg (gT a0) <|
  gg (0 ≤ a1 ∧ a1 < ((100 : Nat) : Int) ∧ a1 < 2147483648) <|
  gv (gI S (a0 + 4) (a1 : Int).toNat 0) fun S_3 =>
  gg (inr a5) <|
  gg (inr a6) <|
  if a5 ≠ a6 then (
    gg (inr a2) <|
    if a2 = 0 then (
      rec d 114 S_3 [((a0 : Nat) : Int), a1, ((a3 : Nat) : Int), a4, a6, a5]
    ) else (
      gg (1 ≤ d) <|
      gc (f_X10_addSign n (d - 1) 0 S_3 [((a0 : Nat) : Int), a1, 45]) fun x11 S_12 =>
      rec d 114 S_12 [((a0 : Nat) : Int), a1, ((a3 : Nat) : Int), a4, a6, a5]
    )
  ) else (
    gg (1 ≤ d) <|
    gc (f_X10_addSign n (d - 1) 0 S_3 [((a0 : Nat) : Int), a1, 48]) fun x15 S_16 =>
    gv (gI S_16 (a0 + 3) (a1 : Int).toNat 0) fun S_18 =>
    some (1, S_18)
  )
def b_X10_setNumber_114 (n d : Nat) (rec : Nat → Nat → GS → List Int → Option (Int × GS)) (S : GS) (a0 : Nat) (a1 : Int) (a3 : Nat) (a4 : Int) (a6 : Int) (a7 : Int) : Option (Int × GS) :=
  gg (inr a7) <|
  gg (inr a6) <|
  if a6 ≤ a7 then (
    gg (gT a0) <|
    gg (1 ≤ d) <|
    gg (gSh (a3)) <|
    gc (f_X9_length n (d - 1) 0 S [((a3 : Nat) : Int)]) fun x7 S_8 =>
    gv (a4 + x7) fun x10 =>
    gv (x10 - a6) fun x12 =>
    gg (0 ≤ a1 ∧ a1 < ((100 : Nat) : Int) ∧ a1 < 2147483648) <|
    gv (gI S_8 (a0 + 3) (a1 : Int).toNat x12) fun S_15 =>
    gv (S_15.1 (a0 + 3) (a1 : Int).toNat) fun x17 =>
    gg (inr x17) <|
    gv (max x17 (-x17)) fun x20 =>
    gg (inr x20) <|
    if 99 < x20 then (
      some (0, S_15)
    ) else (
      some (1, S_15)
    )
  ) else (
    gg (1 ≤ d) <|
    gg (gSh (a3)) <|
    gc (f_X9_at n (d - 1) 0 S [((a3 : Nat) : Int), a7]) fun x26 S_27 =>
    gg (gT a0) <|
    gc (f_X10_addSign n (d - 1) 0 S_27 [((a0 : Nat) : Int), a1, x26]) fun x30 S_31 =>
    gv (a7 + 1) fun x33 =>
    rec d 114 S_31 [((a0 : Nat) : Int), a1, ((a3 : Nat) : Int), a4, a6, x33]
  )
def f_X10_setNumber : Nat → Nat → Nat → GS → List Int → Option (Int × GS)
  | 0, _, _, _, _ => none
  | n + 1, d, pc, S, x => match pc, x with
    | 0, [a0, a1, a2, a3, a4] => b_X10_setNumber_0 n d (f_X10_setNumber n) S a0.toNat a1 a2 a3.toNat a4
    | 19, [a0, a1, a2, a3, a4, a5, a6] => b_X10_setNumber_19 n d (f_X10_setNumber n) S a0.toNat a1 a2 a3.toNat a4 a5 a6
    | 43, [a0, a1, a2, a3, a4, a5, a6] => b_X10_setNumber_43 n d (f_X10_setNumber n) S a0.toNat a1 a2 a3.toNat a4 a5 a6
    | 69, [a0, a1, a2, a3, a4, a5, a6] => b_X10_setNumber_69 n d (f_X10_setNumber n) S a0.toNat a1 a2 a3.toNat a4 a5 a6
    | 114, [a0, a1, a3, a4, a6, a7] => b_X10_setNumber_114 n d (f_X10_setNumber n) S a0.toNat a1 a3.toNat a4 a6 a7
    | _, _ => none
theorem e_X10_setNumber_0 {n d : Nat} {S : GS} {a0 : Nat} {a1 : Int} {a2 : Int} {a3 : Nat} {a4 : Int} : f_X10_setNumber (n + 1) d 0 S [((a0 : Nat) : Int), a1, a2, ((a3 : Nat) : Int), a4] = b_X10_setNumber_0 n d (f_X10_setNumber n) S a0 a1 a2 a3 a4 := rfl
theorem e_X10_setNumber_19 {n d : Nat} {S : GS} {a0 : Nat} {a1 : Int} {a2 : Int} {a3 : Nat} {a4 : Int} {a5 : Int} {a6 : Int} : f_X10_setNumber (n + 1) d 19 S [((a0 : Nat) : Int), a1, a2, ((a3 : Nat) : Int), a4, a5, a6] = b_X10_setNumber_19 n d (f_X10_setNumber n) S a0 a1 a2 a3 a4 a5 a6 := rfl
theorem e_X10_setNumber_43 {n d : Nat} {S : GS} {a0 : Nat} {a1 : Int} {a2 : Int} {a3 : Nat} {a4 : Int} {a5 : Int} {a6 : Int} : f_X10_setNumber (n + 1) d 43 S [((a0 : Nat) : Int), a1, a2, ((a3 : Nat) : Int), a4, a5, a6] = b_X10_setNumber_43 n d (f_X10_setNumber n) S a0 a1 a2 a3 a4 a5 a6 := rfl
theorem e_X10_setNumber_69 {n d : Nat} {S : GS} {a0 : Nat} {a1 : Int} {a2 : Int} {a3 : Nat} {a4 : Int} {a5 : Int} {a6 : Int} : f_X10_setNumber (n + 1) d 69 S [((a0 : Nat) : Int), a1, a2, ((a3 : Nat) : Int), a4, a5, a6] = b_X10_setNumber_69 n d (f_X10_setNumber n) S a0 a1 a2 a3 a4 a5 a6 := rfl
theorem e_X10_setNumber_114 {n d : Nat} {S : GS} {a0 : Nat} {a1 : Int} {a3 : Nat} {a4 : Int} {a6 : Int} {a7 : Int} : f_X10_setNumber (n + 1) d 114 S [((a0 : Nat) : Int), a1, ((a3 : Nat) : Int), a4, a6, a7] = b_X10_setNumber_114 n d (f_X10_setNumber n) S a0 a1 a3 a4 a6 a7 := rfl

def b_X0_orderOfLength_0 (n d : Nat) (rec : Nat → Nat → GS → List Int → Option (Int × GS)) (S : GS) (a1 : Int) (a2 : Int) : Option (Int × GS) :=
  gg (1 ≤ d) <|
  gc (f_X9_clear n (d - 1) 0 S [((462 : Nat) : Int)]) fun x2 S_3 =>
  gv (S_3.2.2 487 10) fun z5 =>
  gg (gT z5) <|
  gc (f_X10_length n (d - 1) 0 S_3 [((z5 : Nat) : Int), a1]) fun x8 S_9 =>
  gc (f_X9_addNumber n (d - 1) 0 S_9 [((462 : Nat) : Int), x8]) fun x11 S_12 =>
  gc (f_X10_clear n (d - 1) 0 S_12 [((400 : Nat) : Int)]) fun x14 S_15 =>
  gc (f_X10_add n (d - 1) 0 S_15 [((400 : Nat) : Int), 2]) fun x17 S_18 =>
  gc (f_X10_setNumber n (d - 1) 0 S_18 [((400 : Nat) : Int), x17, 0, ((462 : Nat) : Int), 0]) fun x20 S_21 =>
  gv (S_21.2.2 487 9) fun z23 =>
  gc (f_X10_orderOfNumbers n (d - 1) 0 S_21 [((400 : Nat) : Int), 0, ((z23 : Nat) : Int), a2]) fun x25 S_26 =>
  some (x25, S_26)
def f_X0_orderOfLength : Nat → Nat → Nat → GS → List Int → Option (Int × GS)
  | 0, _, _, _, _ => none
  | n + 1, d, pc, S, x => match pc, x with
    | 0, [a1, a2] => b_X0_orderOfLength_0 n d (f_X0_orderOfLength n) S a1 a2
    | _, _ => none
theorem e_X0_orderOfLength_0 {n d : Nat} {S : GS} {a1 : Int} {a2 : Int} : f_X0_orderOfLength (n + 1) d 0 S [a1, a2] = b_X0_orderOfLength_0 n d (f_X0_orderOfLength n) S a1 a2 := rfl

def b_X10_size_0 (n d : Nat) (rec : Nat → Nat → GS → List Int → Option (Int × GS)) (S : GS) (a0 : Nat) (a1 : Int) : Option (Int × GS) :=
  gg (inr a1) <|
  if a1 < 0 then (
    some (0, S)
  ) else (
    gg (gT a0) <|
    gv (S.1 a0 7) fun x4 =>
    gg (inr x4) <|
    if x4 ≤ a1 then (
      some (0, S)
    ) else (
      if 100 ≤ a1 then (
        some (0, S)
      ) else (
        gg (0 ≤ a1 ∧ a1 < ((100 : Nat) : Int) ∧ a1 < 2147483648) <|
        gv (S.1 (a0 + 2) (a1 : Int).toNat) fun x10 =>
        some (x10, S)
      )
    )
  )
def f_X10_size : Nat → Nat → Nat → GS → List Int → Option (Int × GS)
  | 0, _, _, _, _ => none
  | n + 1, d, pc, S, x => match pc, x with
    | 0, [a0, a1] => b_X10_size_0 n d (f_X10_size n) S a0.toNat a1
    | _, _ => none
theorem e_X10_size_0 {n d : Nat} {S : GS} {a0 : Nat} {a1 : Int} : f_X10_size (n + 1) d 0 S [((a0 : Nat) : Int), a1] = b_X10_size_0 n d (f_X10_size n) S a0 a1 := rfl

def b_X10_powerOrTruth_0 (n d : Nat) (rec : Nat → Nat → GS → List Int → Option (Int × GS)) (S : GS) (a0 : Nat) (a1 : Int) : Option (Int × GS) :=
  gg (inr a1) <|
  if a1 < 0 then (
    some (0, S)
  ) else (
    gg (gT a0) <|
    gv (S.1 a0 7) fun x4 =>
    gg (inr x4) <|
    if x4 ≤ a1 then (
      some (0, S)
    ) else (
      if 100 ≤ a1 then (
        some (0, S)
      ) else (
        gg (0 ≤ a1 ∧ a1 < ((100 : Nat) : Int) ∧ a1 < 2147483648) <|
        gv (S.1 (a0 + 3) (a1 : Int).toNat) fun x10 =>
        some (x10, S)
      )
    )
  )
def f_X10_powerOrTruth : Nat → Nat → Nat → GS → List Int → Option (Int × GS)
  | 0, _, _, _, _ => none
  | n + 1, d, pc, S, x => match pc, x with
    | 0, [a0, a1] => b_X10_powerOrTruth_0 n d (f_X10_powerOrTruth n) S a0.toNat a1
    | _, _ => none
theorem e_X10_powerOrTruth_0 {n d : Nat} {S : GS} {a0 : Nat} {a1 : Int} : f_X10_powerOrTruth (n + 1) d 0 S [((a0 : Nat) : Int), a1] = b_X10_powerOrTruth_0 n d (f_X10_powerOrTruth n) S a0 a1 := rfl

def b_X10_sameSigns_0 (n d : Nat) (rec : Nat → Nat → GS → List Int → Option (Int × GS)) (S : GS) (a0 : Nat) (a1 : Int) (a2 : Nat) (a3 : Int) : Option (Int × GS) :=
  gg (1 ≤ d) <|
  gg (gT a0) <|
  gc (f_X10_powerOrTruth n (d - 1) 0 S [((a0 : Nat) : Int), a1]) fun x3 S_4 =>
  gg (gT a2) <|
  gc (f_X10_powerOrTruth n (d - 1) 0 S_4 [((a2 : Nat) : Int), a3]) fun x7 S_8 =>
  gg (inr x3) <|
  gg (inr x7) <|
  if x3 ≠ x7 then (
    rec d 36 S_8 [((a0 : Nat) : Int), a1, ((a2 : Nat) : Int), a3, 0, 0]
  ) else (
    gc (f_X10_lengthOf n (d - 1) 0 S_8 [((a0 : Nat) : Int), a1]) fun x13 S_14 =>
    gc (f_X10_lengthOf n (d - 1) 0 S_14 [((a2 : Nat) : Int), a3]) fun x16 S_17 =>
    gg (inr x13) <|
    gg (inr x16) <|
    if x13 ≠ x16 then (
      rec d 36 S_17 [((a0 : Nat) : Int), a1, ((a2 : Nat) : Int), a3, 0, 0]
    ) else (
      rec d 36 S_17 [((a0 : Nat) : Int), a1, ((a2 : Nat) : Int), a3, 1, 0]
    )
  )
def b_X10_sameSigns_36 (n d : Nat) (rec : Nat → Nat → GS → List Int → Option (Int × GS)) (S : GS) (a0 : Nat) (a1 : Int) (a2 : Nat) (a3 : Int) (a4 : Int) (a5 : Int) : Option (Int × GS) :=
  gg (1 ≤ d) <|
  gg (gT a0) <|
  gc (f_X10_lengthOf n (d - 1) 0 S [((a0 : Nat) : Int), a1]) fun x3 S_4 =>
  gg (inr a5) <|
  gg (inr x3) <|
  if x3 ≤ a5 then (
    gg (a4 = 0 ∨ a4 = 1) <|
    some (a4, S_4)
  ) else (
    gg (inr a4) <|
    if a4 = 0 then (
      gg (a4 = 0 ∨ a4 = 1) <|
      some (a4, S_4)
    ) else (
      gc (f_X10_signAt n (d - 1) 0 S_4 [((a0 : Nat) : Int), a1, a5]) fun x13 S_14 =>
      gg (gT a2) <|
      gc (f_X10_signAt n (d - 1) 0 S_14 [((a2 : Nat) : Int), a3, a5]) fun x17 S_18 =>
      gg (inr x13) <|
      gg (inr x17) <|
      if x13 ≠ x17 then (
        gv (a5 + 1) fun x23 =>
        rec d 36 S_18 [((a0 : Nat) : Int), a1, ((a2 : Nat) : Int), a3, 0, x23]
      ) else (
        gv (a5 + 1) fun x25 =>
        rec d 36 S_18 [((a0 : Nat) : Int), a1, ((a2 : Nat) : Int), a3, 1, x25]
      )
    )
  )
def f_X10_sameSigns : Nat → Nat → Nat → GS → List Int → Option (Int × GS)
  | 0, _, _, _, _ => none
  | n + 1, d, pc, S, x => match pc, x with
    | 0, [a0, a1, a2, a3] => b_X10_sameSigns_0 n d (f_X10_sameSigns n) S a0.toNat a1 a2.toNat a3
    | 36, [a0, a1, a2, a3, a4, a5] => b_X10_sameSigns_36 n d (f_X10_sameSigns n) S a0.toNat a1 a2.toNat a3 a4 a5
    | _, _ => none
theorem e_X10_sameSigns_0 {n d : Nat} {S : GS} {a0 : Nat} {a1 : Int} {a2 : Nat} {a3 : Int} : f_X10_sameSigns (n + 1) d 0 S [((a0 : Nat) : Int), a1, ((a2 : Nat) : Int), a3] = b_X10_sameSigns_0 n d (f_X10_sameSigns n) S a0 a1 a2 a3 := rfl
theorem e_X10_sameSigns_36 {n d : Nat} {S : GS} {a0 : Nat} {a1 : Int} {a2 : Nat} {a3 : Int} {a4 : Int} {a5 : Int} : f_X10_sameSigns (n + 1) d 36 S [((a0 : Nat) : Int), a1, ((a2 : Nat) : Int), a3, a4, a5] = b_X10_sameSigns_36 n d (f_X10_sameSigns n) S a0 a1 a2 a3 a4 a5 := rfl

def b_X10_orderOfKeys_0 (n d : Nat) (rec : Nat → Nat → GS → List Int → Option (Int × GS)) (S : GS) (a0 : Nat) (a1 : Int) (a2 : Nat) (a3 : Int) : Option (Int × GS) :=
  gg (inr a1) <|
  if a1 < 0 then (
    some ((-1), S)
  ) else (
    if 100 ≤ a1 then (
      some ((-1), S)
    ) else (
      gg (inr a3) <|
      if a3 < 0 then (
        some ((-1), S)
      ) else (
        if a3 < 100 then (
          gg (gT a0) <|
          gg (0 ≤ a1 ∧ a1 < ((100 : Nat) : Int) ∧ a1 < 2147483648) <|
          gv (S.1 (a0 + 6) (a1 : Int).toNat) fun x9 =>
          gg (gT a2) <|
          gg (0 ≤ a3 ∧ a3 < ((100 : Nat) : Int) ∧ a3 < 2147483648) <|
          gv (S.1 (a2 + 6) (a3 : Int).toNat) fun x13 =>
          gg (inr x9) <|
          gg (inr x13) <|
          gv (min x9 x13) fun x17 =>
          gg (inr x17) <|
          gv (min x17 12) fun x20 =>
          rec d 47 S [((a0 : Nat) : Int), a1, ((a2 : Nat) : Int), a3, x20, 0]
        ) else (
          some ((-1), S)
        )
      )
    )
  )
def b_X10_orderOfKeys_47 (n d : Nat) (rec : Nat → Nat → GS → List Int → Option (Int × GS)) (S : GS) (a0 : Nat) (a1 : Int) (a2 : Nat) (a3 : Int) (a4 : Int) (a5 : Int) : Option (Int × GS) :=
  gg (inr a5) <|
  gg (inr a4) <|
  if a4 ≤ a5 then (
    gg (gT a0) <|
    gg (0 ≤ a1 ∧ a1 < ((100 : Nat) : Int) ∧ a1 < 2147483648) <|
    gv (S.1 (a0 + 6) (a1 : Int).toNat) fun x6 =>
    gg (gT a2) <|
    gg (0 ≤ a3 ∧ a3 < ((100 : Nat) : Int) ∧ a3 < 2147483648) <|
    gv (S.1 (a2 + 6) (a3 : Int).toNat) fun x10 =>
    gv (x6 - x10) fun x12 =>
    gg (inr x12) <|
    gv (min 1 x12) fun x15 =>
    gg (inr x15) <|
    gv (max (-1) x15) fun x18 =>
    some (x18, S)
  ) else (
    gg (gT a0) <|
    gv (a1 * 12) fun x21 =>
    gv (x21 + a5) fun x23 =>
    gg (0 ≤ x23 ∧ x23 < ((1200 : Nat) : Int) ∧ x23 < 2147483648) <|
    gv (S.1 (a0 + 7) (x23 : Int).toNat) fun x26 =>
    gg (gT a2) <|
    gv (a3 * 12) fun x29 =>
    gv (x29 + a5) fun x31 =>
    gg (0 ≤ x31 ∧ x31 < ((1200 : Nat) : Int) ∧ x31 < 2147483648) <|
    gv (S.1 (a2 + 7) (x31 : Int).toNat) fun x34 =>
    gv (x26 - x34) fun x36 =>
    gg (inr x36) <|
    if x36 = 0 then (
      gv (a5 + 1) fun x40 =>
      rec d 47 S [((a0 : Nat) : Int), a1, ((a2 : Nat) : Int), a3, a4, x40]
    ) else (
      if 0 ≤ x36 then (
        some (1, S)
      ) else (
        some ((-1), S)
      )
    )
  )
def f_X10_orderOfKeys : Nat → Nat → Nat → GS → List Int → Option (Int × GS)
  | 0, _, _, _, _ => none
  | n + 1, d, pc, S, x => match pc, x with
    | 0, [a0, a1, a2, a3] => b_X10_orderOfKeys_0 n d (f_X10_orderOfKeys n) S a0.toNat a1 a2.toNat a3
    | 47, [a0, a1, a2, a3, a4, a5] => b_X10_orderOfKeys_47 n d (f_X10_orderOfKeys n) S a0.toNat a1 a2.toNat a3 a4 a5
    | _, _ => none
theorem e_X10_orderOfKeys_0 {n d : Nat} {S : GS} {a0 : Nat} {a1 : Int} {a2 : Nat} {a3 : Int} : f_X10_orderOfKeys (n + 1) d 0 S [((a0 : Nat) : Int), a1, ((a2 : Nat) : Int), a3] = b_X10_orderOfKeys_0 n d (f_X10_orderOfKeys n) S a0 a1 a2 a3 := rfl
theorem e_X10_orderOfKeys_47 {n d : Nat} {S : GS} {a0 : Nat} {a1 : Int} {a2 : Nat} {a3 : Int} {a4 : Int} {a5 : Int} : f_X10_orderOfKeys (n + 1) d 47 S [((a0 : Nat) : Int), a1, ((a2 : Nat) : Int), a3, a4, a5] = b_X10_orderOfKeys_47 n d (f_X10_orderOfKeys n) S a0 a1 a2 a3 a4 a5 := rfl

def b_X10_valueLike_0 (n d : Nat) (rec : Nat → Nat → GS → List Int → Option (Int × GS)) (S : GS) (a0 : Nat) (a1 : Int) (a2 : Nat) (a3 : Int) : Option (Int × GS) :=
  gg (1 ≤ d) <|
  gg (gT a0) <|
  gc (f_X10_firstOfMap n (d - 1) 0 S [((a0 : Nat) : Int), a1]) fun x3 S_4 =>
  rec d 10 S_4 [((a0 : Nat) : Int), a1, ((a2 : Nat) : Int), a3, x3, 0]
def b_X10_valueLike_10 (n d : Nat) (rec : Nat → Nat → GS → List Int → Option (Int × GS)) (S : GS) (a0 : Nat) (a1 : Int) (a2 : Nat) (a3 : Int) (a4 : Int) (a5 : Int) : Option (Int × GS) :=
  gg (inr a4) <|
  if a4 = (-1) then (
    some ((-1), S)
  ) else (
    gg (inr a5) <|
    if 100 ≤ a5 then (
      some ((-1), S)
    ) else (
      gg (1 ≤ d) <|
      gg (gT a0) <|
      gc (f_X10_orderOfKeys n (d - 1) 0 S [((a0 : Nat) : Int), a4, ((a2 : Nat) : Int), a3]) fun x7 S_8 =>
      gg (inr x7) <|
      if x7 ≠ 0 then (
        gc (f_X10_next n (d - 1) 0 S_8 [((a0 : Nat) : Int), a1, a4]) fun x12 S_13 =>
        gv (a5 + 1) fun x15 =>
        rec d 10 S_13 [((a0 : Nat) : Int), a1, ((a2 : Nat) : Int), a3, x12, x15]
      ) else (
        some (a4, S_8)
      )
    )
  )
def f_X10_valueLike : Nat → Nat → Nat → GS → List Int → Option (Int × GS)
  | 0, _, _, _, _ => none
  | n + 1, d, pc, S, x => match pc, x with
    | 0, [a0, a1, a2, a3] => b_X10_valueLike_0 n d (f_X10_valueLike n) S a0.toNat a1 a2.toNat a3
    | 10, [a0, a1, a2, a3, a4, a5] => b_X10_valueLike_10 n d (f_X10_valueLike n) S a0.toNat a1 a2.toNat a3 a4 a5
    | _, _ => none
theorem e_X10_valueLike_0 {n d : Nat} {S : GS} {a0 : Nat} {a1 : Int} {a2 : Nat} {a3 : Int} : f_X10_valueLike (n + 1) d 0 S [((a0 : Nat) : Int), a1, ((a2 : Nat) : Int), a3] = b_X10_valueLike_0 n d (f_X10_valueLike n) S a0 a1 a2 a3 := rfl
theorem e_X10_valueLike_10 {n d : Nat} {S : GS} {a0 : Nat} {a1 : Int} {a2 : Nat} {a3 : Int} {a4 : Int} {a5 : Int} : f_X10_valueLike (n + 1) d 10 S [((a0 : Nat) : Int), a1, ((a2 : Nat) : Int), a3, a4, a5] = b_X10_valueLike_10 n d (f_X10_valueLike n) S a0 a1 a2 a3 a4 a5 := rfl

def b_X10_same_0 (n d : Nat) (rec : Nat → Nat → GS → List Int → Option (Int × GS)) (S : GS) (a0 : Nat) (a1 : Int) (a2 : Nat) (a3 : Int) (a4 : Int) : Option (Int × GS) :=
  gg (1 ≤ d) <|
  gg (gT a0) <|
  gc (f_X10_has n (d - 1) 0 S [((a0 : Nat) : Int), a1]) fun x3 S_4 =>
  gg (inr x3) <|
  if x3 = 0 then (
    some (0, S_4)
  ) else (
    gc (f_X10_kind n (d - 1) 0 S_4 [((a0 : Nat) : Int), a1]) fun x8 S_9 =>
    gg (gT a2) <|
    gc (f_X10_kind n (d - 1) 0 S_9 [((a2 : Nat) : Int), a3]) fun x12 S_13 =>
    gg (inr x8) <|
    gg (inr x12) <|
    if x8 ≠ x12 then (
      some (0, S_13)
    ) else (
      gc (f_X10_size n (d - 1) 0 S_13 [((a0 : Nat) : Int), a1]) fun x18 S_19 =>
      gc (f_X10_size n (d - 1) 0 S_19 [((a2 : Nat) : Int), a3]) fun x21 S_22 =>
      gg (inr x18) <|
      gg (inr x21) <|
      if x18 ≠ x21 then (
        some (0, S_22)
      ) else (
        gg (inr a4) <|
        if a4 ≤ 12 then (
          gc (f_X10_isGroup n (d - 1) 0 S_22 [((a0 : Nat) : Int), a1]) fun x29 S_30 =>
          gg (inr x29) <|
          if x29 ≠ 0 then (
            gc (f_X10_is n (d - 1) 0 S_30 [((a0 : Nat) : Int), a1, 4]) fun x34 S_35 =>
            gc (f_X10_values n (d - 1) 0 S_35 [((a0 : Nat) : Int), a1]) fun x37 S_38 =>
            gc (f_X10_values n (d - 1) 0 S_38 [((a2 : Nat) : Int), a3]) fun x40 S_41 =>
            gg (inr x37) <|
            gg (inr x40) <|
            if x37 ≠ x40 then (
              rec d 85 S_41 [((a0 : Nat) : Int), a1, ((a2 : Nat) : Int), a3, a4, x34, 0]
            ) else (
              rec d 85 S_41 [((a0 : Nat) : Int), a1, ((a2 : Nat) : Int), a3, a4, x34, 1]
            )
          ) else (
            gc (f_X10_sameSigns n (d - 1) 0 S_30 [((a0 : Nat) : Int), a1, ((a2 : Nat) : Int), a3]) fun x46 S_47 =>
            gg (x46 = 0 ∨ x46 = 1) <|
            some (x46, S_47)
          )
        ) else (
          some (0, S_22)
        )
      )
    )
  )
def b_X10_same_85 (n d : Nat) (rec : Nat → Nat → GS → List Int → Option (Int × GS)) (S : GS) (a0 : Nat) (a1 : Int) (a2 : Nat) (a3 : Int) (a4 : Int) (a5 : Int) (s0 : Int) : Option (Int × GS) :=
  gg (1 ≤ d) <|
  gg (gT a2) <|
  gc (f_X10_first n (d - 1) 0 S [((a2 : Nat) : Int), a3]) fun x3 S_4 =>
  gg (gT a0) <|
  gc (f_X10_first n (d - 1) 0 S_4 [((a0 : Nat) : Int), a1]) fun x7 S_8 =>
  rec d 104 S_8 [((a0 : Nat) : Int), a1, ((a2 : Nat) : Int), a3, a4, a5, s0, x3, x7, 0]
def b_X10_same_104 (n d : Nat) (rec : Nat → Nat → GS → List Int → Option (Int × GS)) (S : GS) (a0 : Nat) (a1 : Int) (a2 : Nat) (a3 : Int) (a4 : Int) (a5 : Int) (a6 : Int) (a7 : Int) (a8 : Int) (a9 : Int) : Option (Int × GS) :=
  gg (inr a8) <|
  if a8 = (-1) then (
    gg (a6 = 0 ∨ a6 = 1) <|
    some (a6, S)
  ) else (
    gg (inr a9) <|
    if 100 ≤ a9 then (
      gg (a6 = 0 ∨ a6 = 1) <|
      some (a6, S)
    ) else (
      gg (inr a6) <|
      if a6 = 0 then (
        gg (a6 = 0 ∨ a6 = 1) <|
        some (a6, S)
      ) else (
        gg (inr a5) <|
        if a5 = 0 then (
          gg (1 ≤ d) <|
          gg (gT a2) <|
          gc (f_X10_valueLike n (d - 1) 0 S [((a2 : Nat) : Int), a3, ((a0 : Nat) : Int), a8]) fun x14 S_15 =>
          rec d 144 S_15 [((a0 : Nat) : Int), a1, ((a2 : Nat) : Int), a3, a4, a5, a7, a8, a9, x14, ((a2 : Nat) : Int), a8, ((a0 : Nat) : Int)]
        ) else (
          rec d 144 S [((a0 : Nat) : Int), a1, ((a2 : Nat) : Int), a3, a4, a5, a7, a8, a9, a7, ((a2 : Nat) : Int), a8, ((a0 : Nat) : Int)]
        )
      )
    )
  )
def b_X10_same_144 (n d : Nat) (rec : Nat → Nat → GS → List Int → Option (Int × GS)) (S : GS) (a0 : Nat) (a1 : Int) (a2 : Nat) (a3 : Int) (a4 : Int) (a5 : Int) (a7 : Int) (a8 : Int) (a9 : Int) (s0 : Int) (s1 : Nat) (s2 : Int) (s3 : Nat) : Option (Int × GS) :=
  gv (a4 + 1) fun x1 =>
  gg (1 ≤ d) <|
  gg (gT s3) <|
  gc (rec (d - 1) 0 S [((s3 : Nat) : Int), s2, ((s1 : Nat) : Int), s0, x1]) fun x5 S_6 =>
  gg (gT a2) <|
  gc (f_X10_next n (d - 1) 0 S_6 [((a2 : Nat) : Int), a3, a7]) fun x9 S_10 =>
  gg (gT a0) <|
  gc (f_X10_next n (d - 1) 0 S_10 [((a0 : Nat) : Int), a1, a8]) fun x13 S_14 =>
  gv (a9 + 1) fun x16 =>
  rec d 104 S_14 [((a0 : Nat) : Int), a1, ((a2 : Nat) : Int), a3, a4, a5, x5, x9, x13, x16]
def f_X10_same : Nat → Nat → Nat → GS → List Int → Option (Int × GS)
  | 0, _, _, _, _ => none
  | n + 1, d, pc, S, x => match pc, x with
    | 0, [a0, a1, a2, a3, a4] => b_X10_same_0 n d (f_X10_same n) S a0.toNat a1 a2.toNat a3 a4
    | 85, [a0, a1, a2, a3, a4, a5, s0] => b_X10_same_85 n d (f_X10_same n) S a0.toNat a1 a2.toNat a3 a4 a5 s0
    | 104, [a0, a1, a2, a3, a4, a5, a6, a7, a8, a9] => b_X10_same_104 n d (f_X10_same n) S a0.toNat a1 a2.toNat a3 a4 a5 a6 a7 a8 a9
    | 144, [a0, a1, a2, a3, a4, a5, a7, a8, a9, s0, s1, s2, s3] => b_X10_same_144 n d (f_X10_same n) S a0.toNat a1 a2.toNat a3 a4 a5 a7 a8 a9 s0 s1.toNat s2 s3.toNat
    | _, _ => none
theorem e_X10_same_0 {n d : Nat} {S : GS} {a0 : Nat} {a1 : Int} {a2 : Nat} {a3 : Int} {a4 : Int} : f_X10_same (n + 1) d 0 S [((a0 : Nat) : Int), a1, ((a2 : Nat) : Int), a3, a4] = b_X10_same_0 n d (f_X10_same n) S a0 a1 a2 a3 a4 := rfl
theorem e_X10_same_85 {n d : Nat} {S : GS} {a0 : Nat} {a1 : Int} {a2 : Nat} {a3 : Int} {a4 : Int} {a5 : Int} {s0 : Int} : f_X10_same (n + 1) d 85 S [((a0 : Nat) : Int), a1, ((a2 : Nat) : Int), a3, a4, a5, s0] = b_X10_same_85 n d (f_X10_same n) S a0 a1 a2 a3 a4 a5 s0 := rfl
theorem e_X10_same_104 {n d : Nat} {S : GS} {a0 : Nat} {a1 : Int} {a2 : Nat} {a3 : Int} {a4 : Int} {a5 : Int} {a6 : Int} {a7 : Int} {a8 : Int} {a9 : Int} : f_X10_same (n + 1) d 104 S [((a0 : Nat) : Int), a1, ((a2 : Nat) : Int), a3, a4, a5, a6, a7, a8, a9] = b_X10_same_104 n d (f_X10_same n) S a0 a1 a2 a3 a4 a5 a6 a7 a8 a9 := rfl
theorem e_X10_same_144 {n d : Nat} {S : GS} {a0 : Nat} {a1 : Int} {a2 : Nat} {a3 : Int} {a4 : Int} {a5 : Int} {a7 : Int} {a8 : Int} {a9 : Int} {s0 : Int} {s1 : Nat} {s2 : Int} {s3 : Nat} : f_X10_same (n + 1) d 144 S [((a0 : Nat) : Int), a1, ((a2 : Nat) : Int), a3, a4, a5, a7, a8, a9, s0, ((s1 : Nat) : Int), s2, ((s3 : Nat) : Int)] = b_X10_same_144 n d (f_X10_same n) S a0 a1 a2 a3 a4 a5 a7 a8 a9 s0 s1 s2 s3 := rfl

def b_X0_isOneOf_0 (n d : Nat) (rec : Nat → Nat → GS → List Int → Option (Int × GS)) (S : GS) (a1 : Int) (a2 : Int) : Option (Int × GS) :=
  gv (S.2.2 487 9) fun z1 =>
  gg (1 ≤ d) <|
  gg (gT z1) <|
  gc (f_X10_first n (d - 1) 0 S [((z1 : Nat) : Int), a1]) fun x5 S_6 =>
  rec d 15 S_6 [a1, a2, 0, x5, 0]
def b_X0_isOneOf_15 (n d : Nat) (rec : Nat → Nat → GS → List Int → Option (Int × GS)) (S : GS) (a1 : Int) (a2 : Int) (a3 : Int) (a4 : Int) (a5 : Int) : Option (Int × GS) :=
  gg (inr a4) <|
  if a4 = (-1) then (
    gg (a3 = 0 ∨ a3 = 1) <|
    some (a3, S)
  ) else (
    gg (inr a5) <|
    if 100 ≤ a5 then (
      gg (a3 = 0 ∨ a3 = 1) <|
      some (a3, S)
    ) else (
      gg (inr a3) <|
      if a3 ≠ 0 then (
        rec d 55 S [a1, a2, a4, a5, 1]
      ) else (
        gv (S.2.2 487 9) fun z9 =>
        gv (S.2.2 487 10) fun z11 =>
        gg (1 ≤ d) <|
        gg (gT z9) <|
        gc (f_X10_same n (d - 1) 0 S [((z9 : Nat) : Int), a4, ((z11 : Nat) : Int), a2, 0]) fun x15 S_16 =>
        gg (inr x15) <|
        if x15 = 0 then (
          rec d 55 S_16 [a1, a2, a4, a5, 0]
        ) else (
          rec d 55 S_16 [a1, a2, a4, a5, 1]
        )
      )
    )
  )
def b_X0_isOneOf_55 (n d : Nat) (rec : Nat → Nat → GS → List Int → Option (Int × GS)) (S : GS) (a1 : Int) (a2 : Int) (a4 : Int) (a5 : Int) (s0 : Int) : Option (Int × GS) :=
  gv (S.2.2 487 9) fun z1 =>
  gg (1 ≤ d) <|
  gg (gT z1) <|
  gc (f_X10_next n (d - 1) 0 S [((z1 : Nat) : Int), a1, a4]) fun x5 S_6 =>
  gv (a5 + 1) fun x8 =>
  rec d 15 S_6 [a1, a2, s0, x5, x8]
def f_X0_isOneOf : Nat → Nat → Nat → GS → List Int → Option (Int × GS)
  | 0, _, _, _, _ => none
  | n + 1, d, pc, S, x => match pc, x with
    | 0, [a1, a2] => b_X0_isOneOf_0 n d (f_X0_isOneOf n) S a1 a2
    | 15, [a1, a2, a3, a4, a5] => b_X0_isOneOf_15 n d (f_X0_isOneOf n) S a1 a2 a3 a4 a5
    | 55, [a1, a2, a4, a5, s0] => b_X0_isOneOf_55 n d (f_X0_isOneOf n) S a1 a2 a4 a5 s0
    | _, _ => none
theorem e_X0_isOneOf_0 {n d : Nat} {S : GS} {a1 : Int} {a2 : Int} : f_X0_isOneOf (n + 1) d 0 S [a1, a2] = b_X0_isOneOf_0 n d (f_X0_isOneOf n) S a1 a2 := rfl
theorem e_X0_isOneOf_15 {n d : Nat} {S : GS} {a1 : Int} {a2 : Int} {a3 : Int} {a4 : Int} {a5 : Int} : f_X0_isOneOf (n + 1) d 15 S [a1, a2, a3, a4, a5] = b_X0_isOneOf_15 n d (f_X0_isOneOf n) S a1 a2 a3 a4 a5 := rfl
theorem e_X0_isOneOf_55 {n d : Nat} {S : GS} {a1 : Int} {a2 : Int} {a4 : Int} {a5 : Int} {s0 : Int} : f_X0_isOneOf (n + 1) d 55 S [a1, a2, a4, a5, s0] = b_X0_isOneOf_55 n d (f_X0_isOneOf n) S a1 a2 a4 a5 s0 := rfl

def b_X0_plainly_0 (n d : Nat) (rec : Nat → Nat → GS → List Int → Option (Int × GS)) (S : GS) (a1 : Int) (a2 : Int) (a3 : Int) (a4 : Int) : Option (Int × GS) :=
  gg (inr a1) <|
  if a1 ≠ 6 then (
    if a1 = 1 then (
      gg (1 ≤ d) <|
      gc (f_X0_isOfKinds n (d - 1) 0 S [a2, a3]) fun x5 S_6 =>
      rec d 209 S_6 [a1, a3, a4, x5]
    ) else (
    if a1 = 2 then (
      gv (S.2.2 487 10) fun z9 =>
      gg (1 ≤ d) <|
      gg (gT z9) <|
      gc (f_X10_is n (d - 1) 0 S [((z9 : Nat) : Int), a3, 2]) fun x13 S_14 =>
      gg (inr x13) <|
      if x13 = 0 then (
        rec d 209 S_14 [a1, a3, a4, 1]
      ) else (
        gv (S_14.2.2 487 10) fun z18 =>
        gv (S_14.2.2 487 9) fun z20 =>
        gg (gT z18) <|
        gc (f_X10_orderOfNumbers n (d - 1) 0 S_14 [((z18 : Nat) : Int), a3, ((z20 : Nat) : Int), a2]) fun x23 S_24 =>
        gg (inr x23) <|
        if x23 < 0 then (
          rec d 209 S_24 [a1, a3, a4, 0]
        ) else (
          rec d 209 S_24 [a1, a3, a4, 1]
        )
      )
    ) else (
    if a1 = 3 then (
      gv (S.2.2 487 10) fun z29 =>
      gg (1 ≤ d) <|
      gg (gT z29) <|
      gc (f_X10_is n (d - 1) 0 S [((z29 : Nat) : Int), a3, 2]) fun x33 S_34 =>
      gg (inr x33) <|
      if x33 = 0 then (
        rec d 209 S_34 [a1, a3, a4, 1]
      ) else (
        gv (S_34.2.2 487 10) fun z38 =>
        gv (S_34.2.2 487 9) fun z40 =>
        gg (gT z38) <|
        gc (f_X10_orderOfNumbers n (d - 1) 0 S_34 [((z38 : Nat) : Int), a3, ((z40 : Nat) : Int), a2]) fun x43 S_44 =>
        gg (inr x43) <|
        if 0 < x43 then (
          rec d 209 S_44 [a1, a3, a4, 0]
        ) else (
          rec d 209 S_44 [a1, a3, a4, 1]
        )
      )
    ) else (
    if a1 = 4 then (
      gv (S.2.2 487 10) fun z49 =>
      gg (1 ≤ d) <|
      gg (gT z49) <|
      gc (f_X10_length n (d - 1) 0 S [((z49 : Nat) : Int), a3]) fun x53 S_54 =>
      gg (inr x53) <|
      if x53 = (-1) then (
        rec d 209 S_54 [a1, a3, a4, 1]
      ) else (
        gc (f_X0_orderOfLength n (d - 1) 0 S_54 [a3, a2]) fun x58 S_59 =>
        gg (inr x58) <|
        if x58 < 0 then (
          rec d 209 S_59 [a1, a3, a4, 0]
        ) else (
          rec d 209 S_59 [a1, a3, a4, 1]
        )
      )
    ) else (
    if a1 = 5 then (
      gv (S.2.2 487 10) fun z64 =>
      gg (1 ≤ d) <|
      gg (gT z64) <|
      gc (f_X10_length n (d - 1) 0 S [((z64 : Nat) : Int), a3]) fun x68 S_69 =>
      gg (inr x68) <|
      if x68 = (-1) then (
        rec d 209 S_69 [a1, a3, a4, 1]
      ) else (
        gc (f_X0_orderOfLength n (d - 1) 0 S_69 [a3, a2]) fun x73 S_74 =>
        gg (inr x73) <|
        if 0 < x73 then (
          rec d 209 S_74 [a1, a3, a4, 0]
        ) else (
          rec d 209 S_74 [a1, a3, a4, 1]
        )
      )
    ) else (
    gg (1 ≤ d) <|
    gc (f_X0_isOneOf n (d - 1) 0 S [a2, a3]) fun x79 S_80 =>
    rec d 209 S_80 [a1, a3, a4, x79]
    )))))
  ) else (
    gg (1 ≤ d) <|
    gc (f_X0_hasAll n (d - 1) 0 S [a2, a3, a4]) fun x83 S_84 =>
    gg (x83 = 0 ∨ x83 = 1) <|
    some (x83, S_84)
  )
def b_X0_plainly_209 (n d : Nat) (rec : Nat → Nat → GS → List Int → Option (Int × GS)) (S : GS) (a1 : Int) (a3 : Int) (a4 : Int) (a5 : Int) : Option (Int × GS) :=
  gg (inr a5) <|
  if a5 ≠ 0 then (
    gg (a5 = 0 ∨ a5 = 1) <|
    some (a5, S)
  ) else (
    gg (1 ≤ d) <|
    gc (f_X0_complain n (d - 1) 0 S [a3, a1, a4]) fun x5 S_6 =>
    gg (a5 = 0 ∨ a5 = 1) <|
    some (a5, S_6)
  )
def f_X0_plainly : Nat → Nat → Nat → GS → List Int → Option (Int × GS)
  | 0, _, _, _, _ => none
  | n + 1, d, pc, S, x => match pc, x with
    | 0, [a1, a2, a3, a4] => b_X0_plainly_0 n d (f_X0_plainly n) S a1 a2 a3 a4
    | 209, [a1, a3, a4, a5] => b_X0_plainly_209 n d (f_X0_plainly n) S a1 a3 a4 a5
    | _, _ => none
theorem e_X0_plainly_0 {n d : Nat} {S : GS} {a1 : Int} {a2 : Int} {a3 : Int} {a4 : Int} : f_X0_plainly (n + 1) d 0 S [a1, a2, a3, a4] = b_X0_plainly_0 n d (f_X0_plainly n) S a1 a2 a3 a4 := rfl
theorem e_X0_plainly_209 {n d : Nat} {S : GS} {a1 : Int} {a3 : Int} {a4 : Int} {a5 : Int} : f_X0_plainly (n + 1) d 209 S [a1, a3, a4, a5] = b_X0_plainly_209 n d (f_X0_plainly n) S a1 a3 a4 a5 := rfl

def b_X0_target_0 (n d : Nat) (rec : Nat → Nat → GS → List Int → Option (Int × GS)) (S : GS) (a1 : Int) (a2 : Int) : Option (Int × GS) :=
  gg (1 ≤ d) <|
  gc (f_X9_clear n (d - 1) 0 S [((460 : Nat) : Int)]) fun x2 S_3 =>
  gv (S_3.2.2 487 9) fun z5 =>
  gg (gT z5) <|
  gc (f_X10_signsTo n (d - 1) 0 S_3 [((z5 : Nat) : Int), a1, ((460 : Nat) : Int)]) fun x8 S_9 =>
  gv (S_9.2.2 487 9) fun z11 =>
  gv (S_9.2.2 487 9) fun z13 =>
  gg (gT z13) <|
  gc (f_X10_valueNamed n (d - 1) 0 S_9 [((z13 : Nat) : Int), 0, ((53 : Nat) : Int)]) fun x16 S_17 =>
  gg (gT z11) <|
  gc (f_X10_valueOf n (d - 1) 0 S_17 [((z11 : Nat) : Int), x16, ((460 : Nat) : Int)]) fun x20 S_21 =>
  gg (inr x20) <|
  if x20 ≠ (-1) then (
    rec d 52 S_21 [a2, x20, 0]
  ) else (
    some ((-2), S_21)
  )
def b_X0_target_52 (n d : Nat) (rec : Nat → Nat → GS → List Int → Option (Int × GS)) (S : GS) (a2 : Int) (a3 : Int) (a4 : Int) : Option (Int × GS) :=
  gv (S.1 487 13) fun x1 =>
  gg (inr a4) <|
  gg (inr x1) <|
  if x1 ≤ a4 then (
    rec d 98 S [a3]
  ) else (
    if 13 ≤ a4 then (
      rec d 98 S [a3]
    ) else (
      gg (0 ≤ a4 ∧ a4 < ((13 : Nat) : Int) ∧ a4 < 2147483648) <|
      gv (S.1 488 (a4 : Int).toNat) fun x8 =>
      gg (inr x8) <|
      gg (inr a3) <|
      if x8 ≠ a3 then (
        gv (a4 + 1) fun x13 =>
        rec d 52 S [a2, a3, x13]
      ) else (
        gv (S.1 489 (a4 : Int).toNat) fun x15 =>
        gg (inr x15) <|
        gg (inr a2) <|
        if x15 ≠ a2 then (
          gv (a4 + 1) fun x20 =>
          rec d 52 S [a2, a3, x20]
        ) else (
          some ((-1), S)
        )
      )
    )
  )
def b_X0_target_98 (n d : Nat) (rec : Nat → Nat → GS → List Int → Option (Int × GS)) (S : GS) (a3 : Int) : Option (Int × GS) :=
  gv (S.1 487 13) fun x1 =>
  gg (inr x1) <|
  if x1 < 13 then (
    some (a3, S)
  ) else (
    some ((-2), S)
  )
def f_X0_target : Nat → Nat → Nat → GS → List Int → Option (Int × GS)
  | 0, _, _, _, _ => none
  | n + 1, d, pc, S, x => match pc, x with
    | 0, [a1, a2] => b_X0_target_0 n d (f_X0_target n) S a1 a2
    | 52, [a2, a3, a4] => b_X0_target_52 n d (f_X0_target n) S a2 a3 a4
    | 98, [a3] => b_X0_target_98 n d (f_X0_target n) S a3
    | _, _ => none
theorem e_X0_target_0 {n d : Nat} {S : GS} {a1 : Int} {a2 : Int} : f_X0_target (n + 1) d 0 S [a1, a2] = b_X0_target_0 n d (f_X0_target n) S a1 a2 := rfl
theorem e_X0_target_52 {n d : Nat} {S : GS} {a2 : Int} {a3 : Int} {a4 : Int} : f_X0_target (n + 1) d 52 S [a2, a3, a4] = b_X0_target_52 n d (f_X0_target n) S a2 a3 a4 := rfl
theorem e_X0_target_98 {n d : Nat} {S : GS} {a3 : Int} : f_X0_target (n + 1) d 98 S [a3] = b_X0_target_98 n d (f_X0_target n) S a3 := rfl

def b_X0_firstQuestion_0 (n d : Nat) (rec : Nat → Nat → GS → List Int → Option (Int × GS)) (S : GS) (a1 : Int) (a2 : Int) (a3 : Int) : Option (Int × GS) :=
  gg (inr a1) <|
  if a1 = 7 then (
    gv (S.2.2 487 10) fun z3 =>
    gg (1 ≤ d) <|
    gg (gT z3) <|
    gc (f_X10_firstOfMap n (d - 1) 0 S [((z3 : Nat) : Int), a3]) fun x7 S_8 =>
    some (x7, S_8)
  ) else (
  if a1 = 8 then (
    gv (S.2.2 487 10) fun z11 =>
    gg (1 ≤ d) <|
    gg (gT z11) <|
    gc (f_X10_firstOfMap n (d - 1) 0 S [((z11 : Nat) : Int), a3]) fun x15 S_16 =>
    some (x15, S_16)
  ) else (
  if a1 = 9 then (
    gv (S.2.2 487 10) fun z19 =>
    gg (1 ≤ d) <|
    gg (gT z19) <|
    gc (f_X10_is n (d - 1) 0 S [((z19 : Nat) : Int), a3, 4]) fun x23 S_24 =>
    gg (inr x23) <|
    if x23 = 0 then (
      some ((-1), S_24)
    ) else (
      gv (S_24.2.2 487 10) fun z28 =>
      gg (gT z28) <|
      gc (f_X10_first n (d - 1) 0 S_24 [((z28 : Nat) : Int), a3]) fun x31 S_32 =>
      some (x31, S_32)
    )
  ) else (
  if a1 = 10 then (
    gv (S.2.2 487 9) fun z35 =>
    gg (1 ≤ d) <|
    gg (gT z35) <|
    gc (f_X10_first n (d - 1) 0 S [((z35 : Nat) : Int), a2]) fun x39 S_40 =>
    some (x39, S_40)
  ) else (
  if a1 = 11 then (
    gv (S.2.2 487 9) fun z43 =>
    gg (1 ≤ d) <|
    gg (gT z43) <|
    gc (f_X10_first n (d - 1) 0 S [((z43 : Nat) : Int), a2]) fun x47 S_48 =>
    some (x47, S_48)
  ) else (
  if a1 = 12 then (
    gv (S.2.2 487 9) fun z51 =>
    gg (1 ≤ d) <|
    gg (gT z51) <|
    gc (f_X10_first n (d - 1) 0 S [((z51 : Nat) : Int), a2]) fun x55 S_56 =>
    some (x55, S_56)
  ) else (
  if a1 = 13 then (
    gv (S.2.2 487 9) fun z59 =>
    gg (1 ≤ d) <|
    gg (gT z59) <|
    gc (f_X10_first n (d - 1) 0 S [((z59 : Nat) : Int), a2]) fun x63 S_64 =>
    some (x63, S_64)
  ) else (
  if a1 = 14 then (
    some (a2, S)
  ) else (
  if a1 = 15 then (
    gg (1 ≤ d) <|
    gc (f_X0_target n (d - 1) 0 S [a2, a3]) fun x69 S_70 =>
    some (x69, S_70)
  ) else (
  gv (S.2.2 487 9) fun z72 =>
  gg (1 ≤ d) <|
  gg (gT z72) <|
  gc (f_X10_first n (d - 1) 0 S [((z72 : Nat) : Int), a2]) fun x76 S_77 =>
  some (x76, S_77)
  )))))))))
def f_X0_firstQuestion : Nat → Nat → Nat → GS → List Int → Option (Int × GS)
  | 0, _, _, _, _ => none
  | n + 1, d, pc, S, x => match pc, x with
    | 0, [a1, a2, a3] => b_X0_firstQuestion_0 n d (f_X0_firstQuestion n) S a1 a2 a3
    | _, _ => none
theorem e_X0_firstQuestion_0 {n d : Nat} {S : GS} {a1 : Int} {a2 : Int} {a3 : Int} : f_X0_firstQuestion (n + 1) d 0 S [a1, a2, a3] = b_X0_firstQuestion_0 n d (f_X0_firstQuestion n) S a1 a2 a3 := rfl

def b_X0_schemaOf_0 (n d : Nat) (rec : Nat → Nat → GS → List Int → Option (Int × GS)) (S : GS) (a1 : Int) (a2 : Int) (a3 : Int) (a4 : Int) : Option (Int × GS) :=
  gg (inr a1) <|
  if a1 = 7 then (
    gv (S.2.2 487 9) fun z3 =>
    gv (S.2.2 487 10) fun z5 =>
    gg (1 ≤ d) <|
    gg (gT z3) <|
    gc (f_X10_valueLike n (d - 1) 0 S [((z3 : Nat) : Int), a3, ((z5 : Nat) : Int), a4]) fun x9 S_10 =>
    some (x9, S_10)
  ) else (
  if a1 = 8 then (
    gv (S.2.2 487 9) fun z13 =>
    gv (S.2.2 487 9) fun z15 =>
    gg (1 ≤ d) <|
    gg (gT z15) <|
    gc (f_X10_valueNamed n (d - 1) 0 S [((z15 : Nat) : Int), a2, ((37 : Nat) : Int)]) fun x19 S_20 =>
    gv (S_20.2.2 487 10) fun z22 =>
    gg (gT z13) <|
    gc (f_X10_valueLike n (d - 1) 0 S_20 [((z13 : Nat) : Int), x19, ((z22 : Nat) : Int), a4]) fun x25 S_26 =>
    gg (inr x25) <|
    if x25 ≠ (-1) then (
      some ((-1), S_26)
    ) else (
      some (a3, S_26)
    )
  ) else (
  if a1 = 9 then (
    some (a3, S)
  ) else (
  some (a4, S)
  )))
def f_X0_schemaOf : Nat → Nat → Nat → GS → List Int → Option (Int × GS)
  | 0, _, _, _, _ => none
  | n + 1, d, pc, S, x => match pc, x with
    | 0, [a1, a2, a3, a4] => b_X0_schemaOf_0 n d (f_X0_schemaOf n) S a1 a2 a3 a4
    | _, _ => none
theorem e_X0_schemaOf_0 {n d : Nat} {S : GS} {a1 : Int} {a2 : Int} {a3 : Int} {a4 : Int} : f_X0_schemaOf (n + 1) d 0 S [a1, a2, a3, a4] = b_X0_schemaOf_0 n d (f_X0_schemaOf n) S a1 a2 a3 a4 := rfl

def b_X0_openRef_0 (n d : Nat) (rec : Nat → Nat → GS → List Int → Option (Int × GS)) (S : GS) (a1 : Int) (a2 : Int) (a3 : Int) : Option (Int × GS) :=
  gg (inr a1) <|
  if a1 ≠ 15 then (
    some (0, S)
  ) else (
    gv (S.1 487 13) fun x3 =>
    gg (inr x3) <|
    if x3 < 0 then (
      some (0, S)
    ) else (
      gv (S.1 487 13) fun x7 =>
      gg (inr x7) <|
      if 13 ≤ x7 then (
        some (0, S)
      ) else (
        gv (S.1 487 13) fun x11 =>
        gg (0 ≤ x11 ∧ x11 < ((13 : Nat) : Int) ∧ x11 < 2147483648) <|
        gv (gI S 488 (x11 : Int).toNat a2) fun S_14 =>
        gv (S_14.1 487 13) fun x16 =>
        gg (0 ≤ x16 ∧ x16 < ((13 : Nat) : Int) ∧ x16 < 2147483648) <|
        gv (gI S_14 489 (x16 : Int).toNat a3) fun S_19 =>
        gv (S_19.1 487 13) fun x21 =>
        gv (x21 + 1) fun x23 =>
        gv (gI S_19 487 13 x23) fun S_25 =>
        some (0, S_25)
      )
    )
  )
def f_X0_openRef : Nat → Nat → Nat → GS → List Int → Option (Int × GS)
  | 0, _, _, _, _ => none
  | n + 1, d, pc, S, x => match pc, x with
    | 0, [a1, a2, a3] => b_X0_openRef_0 n d (f_X0_openRef n) S a1 a2 a3
    | _, _ => none
theorem e_X0_openRef_0 {n d : Nat} {S : GS} {a1 : Int} {a2 : Int} {a3 : Int} : f_X0_openRef (n + 1) d 0 S [a1, a2, a3] = b_X0_openRef_0 n d (f_X0_openRef n) S a1 a2 a3 := rfl

def b_X0_closeRef_0 (n d : Nat) (rec : Nat → Nat → GS → List Int → Option (Int × GS)) (S : GS) (a1 : Int) : Option (Int × GS) :=
  gg (inr a1) <|
  if a1 ≠ 15 then (
    some (0, S)
  ) else (
    gv (S.1 487 13) fun x3 =>
    gg (inr x3) <|
    if x3 ≤ 0 then (
      some (0, S)
    ) else (
      gv (S.1 487 13) fun x7 =>
      gv (x7 - 1) fun x9 =>
      gv (gI S 487 13 x9) fun S_11 =>
      some (0, S_11)
    )
  )
def f_X0_closeRef : Nat → Nat → Nat → GS → List Int → Option (Int × GS)
  | 0, _, _, _, _ => none
  | n + 1, d, pc, S, x => match pc, x with
    | 0, [a1] => b_X0_closeRef_0 n d (f_X0_closeRef n) S a1
    | _, _ => none
theorem e_X0_closeRef_0 {n d : Nat} {S : GS} {a1 : Int} : f_X0_closeRef (n + 1) d 0 S [a1] = b_X0_closeRef_0 n d (f_X0_closeRef n) S a1 := rfl

def b_X0_nextQuestion_0 (n d : Nat) (rec : Nat → Nat → GS → List Int → Option (Int × GS)) (S : GS) (a1 : Int) (a2 : Int) (a3 : Int) (a4 : Int) : Option (Int × GS) :=
  gg (inr a1) <|
  if 10 ≤ a1 then (
    if 14 ≤ a1 then (
      some ((-1), S)
    ) else (
      gv (S.2.2 487 9) fun z4 =>
      gg (1 ≤ d) <|
      gg (gT z4) <|
      gc (f_X10_next n (d - 1) 0 S [((z4 : Nat) : Int), a2, a4]) fun x8 S_9 =>
      some (x8, S_9)
    )
  ) else (
    gv (S.2.2 487 10) fun z11 =>
    gg (1 ≤ d) <|
    gg (gT z11) <|
    gc (f_X10_next n (d - 1) 0 S [((z11 : Nat) : Int), a3, a4]) fun x15 S_16 =>
    some (x15, S_16)
  )
def f_X0_nextQuestion : Nat → Nat → Nat → GS → List Int → Option (Int × GS)
  | 0, _, _, _, _ => none
  | n + 1, d, pc, S, x => match pc, x with
    | 0, [a1, a2, a3, a4] => b_X0_nextQuestion_0 n d (f_X0_nextQuestion n) S a1 a2 a3 a4
    | _, _ => none
theorem e_X0_nextQuestion_0 {n d : Nat} {S : GS} {a1 : Int} {a2 : Int} {a3 : Int} {a4 : Int} : f_X0_nextQuestion (n + 1) d 0 S [a1, a2, a3, a4] = b_X0_nextQuestion_0 n d (f_X0_nextQuestion n) S a1 a2 a3 a4 := rfl

def b_X0_holds_0 (n d : Nat) (rec : Nat → Nat → GS → List Int → Option (Int × GS)) (S : GS) (a0 : Int) (a1 : Int) (a2 : Int) (a3 : Int) : Option (Int × GS) :=
  gg (inr a0) <|
  if a0 = 12 then (
    gg (inr a2) <|
    if a2 ≤ 0 then (
      some (0, S)
    ) else (
      some (1, S)
    )
  ) else (
  if a0 = 13 then (
    gg (inr a2) <|
    if a2 ≠ 1 then (
      some (0, S)
    ) else (
      some (1, S)
    )
  ) else (
  if a0 = 14 then (
    gg (inr a2) <|
    if a2 ≠ 0 then (
      some (0, S)
    ) else (
      some (1, S)
    )
  ) else (
  gg (inr a2) <|
  gg (inr a1) <|
  if a2 ≠ a1 then (
    some (0, S)
  ) else (
    gg (inr a3) <|
    if a3 = (-2) then (
      some (0, S)
    ) else (
      some (1, S)
    )
  )
  )))
def f_X0_holds : Nat → Nat → Nat → GS → List Int → Option (Int × GS)
  | 0, _, _, _, _ => none
  | n + 1, d, pc, S, x => match pc, x with
    | 0, [a0, a1, a2, a3] => b_X0_holds_0 n d (f_X0_holds n) S a0 a1 a2 a3
    | _, _ => none
theorem e_X0_holds_0 {n d : Nat} {S : GS} {a0 : Int} {a1 : Int} {a2 : Int} {a3 : Int} : f_X0_holds (n + 1) d 0 S [a0, a1, a2, a3] = b_X0_holds_0 n d (f_X0_holds n) S a0 a1 a2 a3 := rfl

def b_X0_holdsItself_0 (n d : Nat) (rec : Nat → Nat → GS → List Int → Option (Int × GS)) (S : GS) (a0 : Int) (a1 : Int) (a2 : Int) (a3 : Int) : Option (Int × GS) :=
  gg (inr a0) <|
  if 12 ≤ a0 then (
    if a0 ≠ 15 then (
      gg (1 ≤ d) <|
      gc (f_X0_holds n (d - 1) 0 S [a0, a1, a2, a3]) fun x5 S_6 =>
      gg (x5 = 0 ∨ x5 = 1) <|
      some (x5, S_6)
    ) else (
      gg (inr a3) <|
      if a3 = (-2) then (
        some (0, S)
      ) else (
        some (1, S)
      )
    )
  ) else (
    some (1, S)
  )
def f_X0_holdsItself : Nat → Nat → Nat → GS → List Int → Option (Int × GS)
  | 0, _, _, _, _ => none
  | n + 1, d, pc, S, x => match pc, x with
    | 0, [a0, a1, a2, a3] => b_X0_holdsItself_0 n d (f_X0_holdsItself n) S a0 a1 a2 a3
    | _, _ => none
theorem e_X0_holdsItself_0 {n d : Nat} {S : GS} {a0 : Int} {a1 : Int} {a2 : Int} {a3 : Int} : f_X0_holdsItself (n + 1) d 0 S [a0, a1, a2, a3] = b_X0_holdsItself_0 n d (f_X0_holdsItself n) S a0 a1 a2 a3 := rfl

def b_X0_ask_0 (n d : Nat) (rec : Nat → Nat → GS → List Int → Option (Int × GS)) (S : GS) (a1 : Int) (a2 : Int) (a3 : Int) (a4 : Int) : Option (Int × GS) :=
  gv (S.1 487 14) fun x1 =>
  gv (x1 + 1) fun x3 =>
  gv (gI S 487 14 x3) fun S_5 =>
  gv (bi (S_5.2.1 487 16)) fun x7 =>
  gg (inr x7) <|
  if x7 ≠ 0 then (
    rec d 42 S_5 [a1, a2, a3, a4, 1]
  ) else (
    gv (S_5.1 487 14) fun x11 =>
    gv (S_5.1 487 15) fun x13 =>
    gg (inr x11) <|
    gg (inr x13) <|
    if x13 < x11 then (
      rec d 42 S_5 [a1, a2, a3, a4, 1]
    ) else (
      gg (inr a4) <|
      if a4 ≤ 150 then (
        rec d 42 S_5 [a1, a2, a3, a4, 0]
      ) else (
        rec d 42 S_5 [a1, a2, a3, a4, 1]
      )
    )
  )
def b_X0_ask_42 (n d : Nat) (rec : Nat → Nat → GS → List Int → Option (Int × GS)) (S : GS) (a1 : Int) (a2 : Int) (a3 : Int) (a4 : Int) (s0 : Int) : Option (Int × GS) :=
  gg (s0 = 0 ∨ s0 = 1) <|
  gv (gB S 487 16 (decide ((s0 : Int) = 1))) fun S_2 =>
  gv (bi (S_2.2.1 487 16)) fun x4 =>
  gg (inr x4) <|
  if x4 = 0 then (
    gv (S_2.2.2 487 9) fun z8 =>
    gg (1 ≤ d) <|
    gg (gT z8) <|
    gc (f_X10_is n (d - 1) 0 S_2 [((z8 : Nat) : Int), a1, 5]) fun x12 S_13 =>
    gg (inr x12) <|
    if x12 ≠ 0 then (
      rec d 97 S_13 [a1, a2, a3, a4, 1, 1]
    ) else (
      gv (S_13.2.2 487 9) fun z17 =>
      gg (gT z17) <|
      gc (f_X10_isTrue n (d - 1) 0 S_13 [((z17 : Nat) : Int), a1]) fun x20 S_21 =>
      gg (inr x20) <|
      if x20 ≠ 0 then (
        gg (x20 = 0 ∨ x20 = 1) <|
        some (x20, S_21)
      ) else (
        gc (f_X0_complain n (d - 1) 0 S_21 [a2, 0, a3]) fun x26 S_27 =>
        gg (x20 = 0 ∨ x20 = 1) <|
        some (x20, S_27)
      )
    )
  ) else (
    some (0, S_2)
  )
def b_X0_ask_97 (n d : Nat) (rec : Nat → Nat → GS → List Int → Option (Int × GS)) (S : GS) (a1 : Int) (a2 : Int) (a3 : Int) (a4 : Int) (a5 : Int) (a6 : Int) : Option (Int × GS) :=
  gg (inr a6) <|
  if 15 < a6 then (
    gg (a5 = 0 ∨ a5 = 1) <|
    some (a5, S)
  ) else (
    gv (S.2.2 487 9) fun z4 =>
    gg (1 ≤ d) <|
    gc (f_X0_wordOf n (d - 1) 0 S [a6]) fun x7 S_8 =>
    gg (gT z4) <|
    gc (f_X10_valueNamed n (d - 1) 0 S_8 [((z4 : Nat) : Int), a1, ((x7.toNat : Nat) : Int)]) fun x11 S_12 =>
    gg (inr x11) <|
    if x11 = (-1) then (
      rec d 167 S_12 [a1, a2, a3, a4, a5, a6, x11]
    ) else (
      if a6 ≤ 6 then (
        rec d 139 S_12 [a1, a2, a3, a4, a5, a6, x11]
      ) else (
        if a6 ≠ 10 then (
          rec d 167 S_12 [a1, a2, a3, a4, a5, a6, x11]
        ) else (
          rec d 139 S_12 [a1, a2, a3, a4, a5, a6, x11]
        )
      )
    )
  )
def b_X0_ask_139 (n d : Nat) (rec : Nat → Nat → GS → List Int → Option (Int × GS)) (S : GS) (a1 : Int) (a2 : Int) (a3 : Int) (a4 : Int) (a5 : Int) (a6 : Int) (a7 : Int) : Option (Int × GS) :=
  gg (1 ≤ d) <|
  gc (f_X0_plainly n (d - 1) 0 S [a6, a7, a2, a3]) fun x2 S_3 =>
  gg (inr x2) <|
  if x2 = 0 then (
    gv (a6 + 1) fun x7 =>
    rec d 97 S_3 [a1, a2, a3, a4, 0, x7]
  ) else (
    gg (inr a5) <|
    if a5 = 0 then (
      gv (a6 + 1) fun x11 =>
      rec d 97 S_3 [a1, a2, a3, a4, 0, x11]
    ) else (
      gv (a6 + 1) fun x13 =>
      rec d 97 S_3 [a1, a2, a3, a4, 1, x13]
    )
  )
def b_X0_ask_167 (n d : Nat) (rec : Nat → Nat → GS → List Int → Option (Int × GS)) (S : GS) (a1 : Int) (a2 : Int) (a3 : Int) (a4 : Int) (a5 : Int) (a6 : Int) (a7 : Int) : Option (Int × GS) :=
  gg (inr a7) <|
  if a7 = (-1) then (
    gv (a6 + 1) fun x3 =>
    rec d 97 S [a1, a2, a3, a4, a5, x3]
  ) else (
    gg (1 ≤ d) <|
    gc (f_X0_firstQuestion n (d - 1) 0 S [a6, a7, a2]) fun x6 S_7 =>
    rec d 193 S_7 [a1, a2, a3, a4, a5, a6, a7, 0, 0, x6, 0]
  )
def b_X0_ask_193 (n d : Nat) (rec : Nat → Nat → GS → List Int → Option (Int × GS)) (S : GS) (a1 : Int) (a2 : Int) (a3 : Int) (a4 : Int) (a5 : Int) (a6 : Int) (a7 : Int) (a8 : Int) (a9 : Int) (a10 : Int) (a11 : Int) : Option (Int × GS) :=
  gg (inr a11) <|
  if 100 ≤ a11 then (
    rec d 331 S [a1, a2, a3, a4, a5, a6, a8, a9, a10]
  ) else (
    gg (inr a10) <|
    if a10 < 0 then (
      rec d 331 S [a1, a2, a3, a4, a5, a6, a8, a9, a10]
    ) else (
      gv (bi (S.2.1 487 16)) fun x5 =>
      gg (inr x5) <|
      if x5 ≠ 0 then (
        rec d 331 S [a1, a2, a3, a4, a5, a6, a8, a9, a10]
      ) else (
        gg (1 ≤ d) <|
        gc (f_X0_schemaOf n (d - 1) 0 S [a6, a1, a7, a10]) fun x10 S_11 =>
        gg (inr a3) <|
        if a3 ≠ 0 then (
          rec d 248 S_11 [a1, a2, a3, a4, a5, a6, a7, a8, a9, a10, a11, x10, 1]
        ) else (
          gg (inr a6) <|
          if a6 < 12 then (
            rec d 248 S_11 [a1, a2, a3, a4, a5, a6, a7, a8, a9, a10, a11, x10, 0]
          ) else (
            if 14 < a6 then (
              rec d 248 S_11 [a1, a2, a3, a4, a5, a6, a7, a8, a9, a10, a11, x10, 0]
            ) else (
              rec d 248 S_11 [a1, a2, a3, a4, a5, a6, a7, a8, a9, a10, a11, x10, 1]
            )
          )
        )
      )
    )
  )
def b_X0_ask_248 (n d : Nat) (rec : Nat → Nat → GS → List Int → Option (Int × GS)) (S : GS) (a1 : Int) (a2 : Int) (a3 : Int) (a4 : Int) (a5 : Int) (a6 : Int) (a7 : Int) (a8 : Int) (a9 : Int) (a10 : Int) (a11 : Int) (a12 : Int) (s0 : Int) : Option (Int × GS) :=
  gg (inr a12) <|
  if a12 = (-1) then (
    rec d 312 S [a1, a2, a3, a4, a5, a6, a7, a8, a9, a10, a11]
  ) else (
    gv (a8 + 1) fun x3 =>
    gg (1 ≤ d) <|
    gc (f_X0_openRef n (d - 1) 0 S [a6, a12, a2]) fun x6 S_7 =>
    gg (inr a6) <|
    if 10 ≤ a6 then (
      rec d 286 S_7 [a1, a2, a3, a4, a5, a6, a7, x3, a10, a11, s0, a2, a12, a9]
    ) else (
      rec d 286 S_7 [a1, a2, a3, a4, a5, a6, a7, x3, a10, a11, s0, a10, a12, a9]
    )
  )
def b_X0_ask_286 (n d : Nat) (rec : Nat → Nat → GS → List Int → Option (Int × GS)) (S : GS) (a1 : Int) (a2 : Int) (a3 : Int) (a4 : Int) (a5 : Int) (a6 : Int) (a7 : Int) (a8 : Int) (a10 : Int) (a11 : Int) (a13 : Int) (s0 : Int) (s1 : Int) (s3 : Int) : Option (Int × GS) :=
  gv (a4 + 1) fun x1 =>
  gg (1 ≤ d) <|
  gc (rec (d - 1) 0 S [s1, s0, a13, x1]) fun x4 S_5 =>
  gg (inr x4) <|
  if x4 = 0 then (
    gv (s3 + 0) fun x9 =>
    gc (f_X0_closeRef n (d - 1) 0 S_5 [a6]) fun x11 S_12 =>
    rec d 312 S_12 [a1, a2, a3, a4, a5, a6, a7, a8, x9, a10, a11]
  ) else (
    gv (s3 + 1) fun x14 =>
    gc (f_X0_closeRef n (d - 1) 0 S_5 [a6]) fun x16 S_17 =>
    rec d 312 S_17 [a1, a2, a3, a4, a5, a6, a7, a8, x14, a10, a11]
  )
def b_X0_ask_312 (n d : Nat) (rec : Nat → Nat → GS → List Int → Option (Int × GS)) (S : GS) (a1 : Int) (a2 : Int) (a3 : Int) (a4 : Int) (a5 : Int) (a6 : Int) (a7 : Int) (a8 : Int) (a9 : Int) (a10 : Int) (a11 : Int) : Option (Int × GS) :=
  gg (1 ≤ d) <|
  gc (f_X0_nextQuestion n (d - 1) 0 S [a6, a7, a2, a10]) fun x2 S_3 =>
  gv (a11 + 1) fun x5 =>
  rec d 193 S_3 [a1, a2, a3, a4, a5, a6, a7, a8, a9, x2, x5]
def b_X0_ask_331 (n d : Nat) (rec : Nat → Nat → GS → List Int → Option (Int × GS)) (S : GS) (a1 : Int) (a2 : Int) (a3 : Int) (a4 : Int) (a5 : Int) (a6 : Int) (a8 : Int) (a9 : Int) (a10 : Int) : Option (Int × GS) :=
  gg (1 ≤ d) <|
  gc (f_X0_holds n (d - 1) 0 S [a6, a8, a9, a10]) fun x2 S_3 =>
  gg (inr x2) <|
  if x2 = 0 then (
    rec d 355 S_3 [a1, a2, a3, a4, a6, a8, a9, a10, 0]
  ) else (
    gg (inr a5) <|
    if a5 = 0 then (
      rec d 355 S_3 [a1, a2, a3, a4, a6, a8, a9, a10, 0]
    ) else (
      rec d 355 S_3 [a1, a2, a3, a4, a6, a8, a9, a10, 1]
    )
  )
def b_X0_ask_355 (n d : Nat) (rec : Nat → Nat → GS → List Int → Option (Int × GS)) (S : GS) (a1 : Int) (a2 : Int) (a3 : Int) (a4 : Int) (a6 : Int) (a8 : Int) (a9 : Int) (a10 : Int) (s0 : Int) : Option (Int × GS) :=
  gg (1 ≤ d) <|
  gc (f_X0_holdsItself n (d - 1) 0 S [a6, a8, a9, a10]) fun x2 S_3 =>
  gg (inr x2) <|
  if x2 ≠ 0 then (
    gv (a6 + 1) fun x7 =>
    rec d 97 S_3 [a1, a2, a3, a4, s0, x7]
  ) else (
    gc (f_X0_complain n (d - 1) 0 S_3 [a2, a6, a3]) fun x9 S_10 =>
    gv (a6 + 1) fun x12 =>
    rec d 97 S_10 [a1, a2, a3, a4, s0, x12]
  )
def f_X0_ask : Nat → Nat → Nat → GS → List Int → Option (Int × GS)
  | 0, _, _, _, _ => none
  | n + 1, d, pc, S, x => match pc, x with
    | 0, [a1, a2, a3, a4] => b_X0_ask_0 n d (f_X0_ask n) S a1 a2 a3 a4
    | 42, [a1, a2, a3, a4, s0] => b_X0_ask_42 n d (f_X0_ask n) S a1 a2 a3 a4 s0
    | 97, [a1, a2, a3, a4, a5, a6] => b_X0_ask_97 n d (f_X0_ask n) S a1 a2 a3 a4 a5 a6
    | 139, [a1, a2, a3, a4, a5, a6, a7] => b_X0_ask_139 n d (f_X0_ask n) S a1 a2 a3 a4 a5 a6 a7
    | 167, [a1, a2, a3, a4, a5, a6, a7] => b_X0_ask_167 n d (f_X0_ask n) S a1 a2 a3 a4 a5 a6 a7
    | 193, [a1, a2, a3, a4, a5, a6, a7, a8, a9, a10, a11] => b_X0_ask_193 n d (f_X0_ask n) S a1 a2 a3 a4 a5 a6 a7 a8 a9 a10 a11
    | 248, [a1, a2, a3, a4, a5, a6, a7, a8, a9, a10, a11, a12, s0] => b_X0_ask_248 n d (f_X0_ask n) S a1 a2 a3 a4 a5 a6 a7 a8 a9 a10 a11 a12 s0
    | 286, [a1, a2, a3, a4, a5, a6, a7, a8, a10, a11, a13, s0, s1, s3] => b_X0_ask_286 n d (f_X0_ask n) S a1 a2 a3 a4 a5 a6 a7 a8 a10 a11 a13 s0 s1 s3
    | 312, [a1, a2, a3, a4, a5, a6, a7, a8, a9, a10, a11] => b_X0_ask_312 n d (f_X0_ask n) S a1 a2 a3 a4 a5 a6 a7 a8 a9 a10 a11
    | 331, [a1, a2, a3, a4, a5, a6, a8, a9, a10] => b_X0_ask_331 n d (f_X0_ask n) S a1 a2 a3 a4 a5 a6 a8 a9 a10
    | 355, [a1, a2, a3, a4, a6, a8, a9, a10, s0] => b_X0_ask_355 n d (f_X0_ask n) S a1 a2 a3 a4 a6 a8 a9 a10 s0
    | _, _ => none
theorem e_X0_ask_0 {n d : Nat} {S : GS} {a1 : Int} {a2 : Int} {a3 : Int} {a4 : Int} : f_X0_ask (n + 1) d 0 S [a1, a2, a3, a4] = b_X0_ask_0 n d (f_X0_ask n) S a1 a2 a3 a4 := rfl
theorem e_X0_ask_42 {n d : Nat} {S : GS} {a1 : Int} {a2 : Int} {a3 : Int} {a4 : Int} {s0 : Int} : f_X0_ask (n + 1) d 42 S [a1, a2, a3, a4, s0] = b_X0_ask_42 n d (f_X0_ask n) S a1 a2 a3 a4 s0 := rfl
theorem e_X0_ask_97 {n d : Nat} {S : GS} {a1 : Int} {a2 : Int} {a3 : Int} {a4 : Int} {a5 : Int} {a6 : Int} : f_X0_ask (n + 1) d 97 S [a1, a2, a3, a4, a5, a6] = b_X0_ask_97 n d (f_X0_ask n) S a1 a2 a3 a4 a5 a6 := rfl
theorem e_X0_ask_139 {n d : Nat} {S : GS} {a1 : Int} {a2 : Int} {a3 : Int} {a4 : Int} {a5 : Int} {a6 : Int} {a7 : Int} : f_X0_ask (n + 1) d 139 S [a1, a2, a3, a4, a5, a6, a7] = b_X0_ask_139 n d (f_X0_ask n) S a1 a2 a3 a4 a5 a6 a7 := rfl
theorem e_X0_ask_167 {n d : Nat} {S : GS} {a1 : Int} {a2 : Int} {a3 : Int} {a4 : Int} {a5 : Int} {a6 : Int} {a7 : Int} : f_X0_ask (n + 1) d 167 S [a1, a2, a3, a4, a5, a6, a7] = b_X0_ask_167 n d (f_X0_ask n) S a1 a2 a3 a4 a5 a6 a7 := rfl
theorem e_X0_ask_193 {n d : Nat} {S : GS} {a1 : Int} {a2 : Int} {a3 : Int} {a4 : Int} {a5 : Int} {a6 : Int} {a7 : Int} {a8 : Int} {a9 : Int} {a10 : Int} {a11 : Int} : f_X0_ask (n + 1) d 193 S [a1, a2, a3, a4, a5, a6, a7, a8, a9, a10, a11] = b_X0_ask_193 n d (f_X0_ask n) S a1 a2 a3 a4 a5 a6 a7 a8 a9 a10 a11 := rfl
theorem e_X0_ask_248 {n d : Nat} {S : GS} {a1 : Int} {a2 : Int} {a3 : Int} {a4 : Int} {a5 : Int} {a6 : Int} {a7 : Int} {a8 : Int} {a9 : Int} {a10 : Int} {a11 : Int} {a12 : Int} {s0 : Int} : f_X0_ask (n + 1) d 248 S [a1, a2, a3, a4, a5, a6, a7, a8, a9, a10, a11, a12, s0] = b_X0_ask_248 n d (f_X0_ask n) S a1 a2 a3 a4 a5 a6 a7 a8 a9 a10 a11 a12 s0 := rfl
theorem e_X0_ask_286 {n d : Nat} {S : GS} {a1 : Int} {a2 : Int} {a3 : Int} {a4 : Int} {a5 : Int} {a6 : Int} {a7 : Int} {a8 : Int} {a10 : Int} {a11 : Int} {a13 : Int} {s0 : Int} {s1 : Int} {s3 : Int} : f_X0_ask (n + 1) d 286 S [a1, a2, a3, a4, a5, a6, a7, a8, a10, a11, a13, s0, s1, s3] = b_X0_ask_286 n d (f_X0_ask n) S a1 a2 a3 a4 a5 a6 a7 a8 a10 a11 a13 s0 s1 s3 := rfl
theorem e_X0_ask_312 {n d : Nat} {S : GS} {a1 : Int} {a2 : Int} {a3 : Int} {a4 : Int} {a5 : Int} {a6 : Int} {a7 : Int} {a8 : Int} {a9 : Int} {a10 : Int} {a11 : Int} : f_X0_ask (n + 1) d 312 S [a1, a2, a3, a4, a5, a6, a7, a8, a9, a10, a11] = b_X0_ask_312 n d (f_X0_ask n) S a1 a2 a3 a4 a5 a6 a7 a8 a9 a10 a11 := rfl
theorem e_X0_ask_331 {n d : Nat} {S : GS} {a1 : Int} {a2 : Int} {a3 : Int} {a4 : Int} {a5 : Int} {a6 : Int} {a8 : Int} {a9 : Int} {a10 : Int} : f_X0_ask (n + 1) d 331 S [a1, a2, a3, a4, a5, a6, a8, a9, a10] = b_X0_ask_331 n d (f_X0_ask n) S a1 a2 a3 a4 a5 a6 a8 a9 a10 := rfl
theorem e_X0_ask_355 {n d : Nat} {S : GS} {a1 : Int} {a2 : Int} {a3 : Int} {a4 : Int} {a6 : Int} {a8 : Int} {a9 : Int} {a10 : Int} {s0 : Int} : f_X0_ask (n + 1) d 355 S [a1, a2, a3, a4, a6, a8, a9, a10, s0] = b_X0_ask_355 n d (f_X0_ask n) S a1 a2 a3 a4 a6 a8 a9 a10 s0 := rfl

def b_X0_agrees_0 (n d : Nat) (rec : Nat → Nat → GS → List Int → Option (Int × GS)) (S : GS) (a1 : Nat) (a2 : Nat) : Option (Int × GS) :=
  gg (1 ≤ d) <|
  gc (f_X0_begin n (d - 1) 0 S [((a1 : Nat) : Int), ((a2 : Nat) : Int), 1000000]) fun x2 S_3 =>
  gc (f_X0_ask n (d - 1) 0 S_3 [0, 0, 1, 0]) fun x5 S_6 =>
  gg (inr x5) <|
  if x5 = 0 then (
    some (0, S_6)
  ) else (
    gv (bi (S_6.2.1 487 16)) fun x10 =>
    gg (inr x10) <|
    if x10 ≠ 0 then (
      some (0, S_6)
    ) else (
      some (1, S_6)
    )
  )
def f_X0_agrees : Nat → Nat → Nat → GS → List Int → Option (Int × GS)
  | 0, _, _, _, _ => none
  | n + 1, d, pc, S, x => match pc, x with
    | 0, [a1, a2] => b_X0_agrees_0 n d (f_X0_agrees n) S a1.toNat a2.toNat
    | _, _ => none
theorem e_X0_agrees_0 {n d : Nat} {S : GS} {a1 : Nat} {a2 : Nat} : f_X0_agrees (n + 1) d 0 S [((a1 : Nat) : Int), ((a2 : Nat) : Int)] = b_X0_agrees_0 n d (f_X0_agrees n) S a1 a2 := rfl

def b_X0_count_0 (n d : Nat) (rec : Nat → Nat → GS → List Int → Option (Int × GS)) (S : GS) : Option (Int × GS) :=
  gv (S.1 487 11) fun x1 =>
  some (x1, S)
def f_X0_count : Nat → Nat → Nat → GS → List Int → Option (Int × GS)
  | 0, _, _, _, _ => none
  | n + 1, d, pc, S, x => match pc, x with
    | 0, [] => b_X0_count_0 n d (f_X0_count n) S 
    | _, _ => none
theorem e_X0_count_0 {n d : Nat} {S : GS} : f_X0_count (n + 1) d 0 S [] = b_X0_count_0 n d (f_X0_count n) S  := rfl

def b_X0_examine_0 (n d : Nat) (rec : Nat → Nat → GS → List Int → Option (Int × GS)) (S : GS) (a1 : Nat) (a2 : Nat) : Option (Int × GS) :=
  gg (1 ≤ d) <|
  gc (f_X0_begin n (d - 1) 0 S [((a1 : Nat) : Int), ((a2 : Nat) : Int), 2000]) fun x2 S_3 =>
  gc (f_X0_ask n (d - 1) 0 S_3 [0, 0, 0, 0]) fun x5 S_6 =>
  rec d 20 S_6 [0]
def b_X0_examine_20 (n d : Nat) (rec : Nat → Nat → GS → List Int → Option (Int × GS)) (S : GS) (a3 : Int) : Option (Int × GS) :=
  gv (S.1 487 12) fun x1 =>
  gg (inr a3) <|
  gg (inr x1) <|
  if x1 ≤ a3 then (
    rec d 79 S []
  ) else (
    if 1000 ≤ a3 then (
      rec d 79 S []
    ) else (
      gv (bi (S.2.1 487 16)) fun x7 =>
      gg (inr x7) <|
      if x7 ≠ 0 then (
        rec d 79 S []
      ) else (
        gg (0 ≤ a3 ∧ a3 < ((1000 : Nat) : Int) ∧ a3 < 2147483648) <|
        gv (S.1 490 (a3 : Int).toNat) fun x12 =>
        gv (gI S 492 (a3 : Int).toNat x12) fun S_14 =>
        gv (S_14.1 491 (a3 : Int).toNat) fun x16 =>
        gv (gI S_14 493 (a3 : Int).toNat x16) fun S_18 =>
        gv (a3 + 1) fun x20 =>
        gv (gI S_18 487 11 x20) fun S_22 =>
        gv (a3 + 1) fun x24 =>
        rec d 20 S_22 [x24]
      )
    )
  )
def b_X0_examine_79 (n d : Nat) (rec : Nat → Nat → GS → List Int → Option (Int × GS)) (S : GS) : Option (Int × GS) :=
  gv (S.1 487 12) fun x1 =>
  gg (inr x1) <|
  if x1 ≠ 0 then (
    gv (bi (S.2.1 487 16)) fun x5 =>
    gg (inr x5) <|
    if x5 ≠ 0 then (
      some (0, S)
    ) else (
      some (1, S)
    )
  ) else (
    gv (bi (S.2.1 487 16)) fun x9 =>
    gg (inr x9) <|
    if x9 ≠ 0 then (
      gv (bi (S.2.1 487 16)) fun x13 =>
      gg (inr x13) <|
      if x13 ≠ 0 then (
        some (0, S)
      ) else (
        some (1, S)
      )
    ) else (
      gv (gI S 487 11 0) fun S_17 =>
      gv (bi (S_17.2.1 487 16)) fun x19 =>
      gg (inr x19) <|
      if x19 ≠ 0 then (
        some (0, S_17)
      ) else (
        some (1, S_17)
      )
    )
  )
def f_X0_examine : Nat → Nat → Nat → GS → List Int → Option (Int × GS)
  | 0, _, _, _, _ => none
  | n + 1, d, pc, S, x => match pc, x with
    | 0, [a1, a2] => b_X0_examine_0 n d (f_X0_examine n) S a1.toNat a2.toNat
    | 20, [a3] => b_X0_examine_20 n d (f_X0_examine n) S a3
    | 79, [] => b_X0_examine_79 n d (f_X0_examine n) S 
    | _, _ => none
theorem e_X0_examine_0 {n d : Nat} {S : GS} {a1 : Nat} {a2 : Nat} : f_X0_examine (n + 1) d 0 S [((a1 : Nat) : Int), ((a2 : Nat) : Int)] = b_X0_examine_0 n d (f_X0_examine n) S a1 a2 := rfl
theorem e_X0_examine_20 {n d : Nat} {S : GS} {a3 : Int} : f_X0_examine (n + 1) d 20 S [a3] = b_X0_examine_20 n d (f_X0_examine n) S a3 := rfl
theorem e_X0_examine_79 {n d : Nat} {S : GS} : f_X0_examine (n + 1) d 79 S [] = b_X0_examine_79 n d (f_X0_examine n) S  := rfl

def b_X10_after_0 (n d : Nat) (rec : Nat → Nat → GS → List Int → Option (Int × GS)) (S : GS) (a0 : Nat) (a1 : Int) : Option (Int × GS) :=
  gg (inr a1) <|
  if a1 < 0 then (
    gv (a1 + 1) fun x3 =>
    some (x3, S)
  ) else (
    gg (gT a0) <|
    gv (S.1 a0 7) fun x6 =>
    gg (inr x6) <|
    if x6 ≤ a1 then (
      gv (a1 + 1) fun x10 =>
      some (x10, S)
    ) else (
      if 100 ≤ a1 then (
        gv (a1 + 1) fun x13 =>
        some (x13, S)
      ) else (
        gg (0 ≤ a1 ∧ a1 < ((100 : Nat) : Int) ∧ a1 < 2147483648) <|
        gv (S.1 (a0 + 2) (a1 : Int).toNat) fun x16 =>
        gg (inr x16) <|
        gv (max 1 x16) fun x19 =>
        gv (a1 + x19) fun x21 =>
        some (x21, S)
      )
    )
  )
def f_X10_after : Nat → Nat → Nat → GS → List Int → Option (Int × GS)
  | 0, _, _, _, _ => none
  | n + 1, d, pc, S, x => match pc, x with
    | 0, [a0, a1] => b_X10_after_0 n d (f_X10_after n) S a0.toNat a1
    | _, _ => none
theorem e_X10_after_0 {n d : Nat} {S : GS} {a0 : Nat} {a1 : Int} : f_X10_after (n + 1) d 0 S [((a0 : Nat) : Int), a1] = b_X10_after_0 n d (f_X10_after n) S a0 a1 := rfl

def b_X10_depth_0 (n d : Nat) (rec : Nat → Nat → GS → List Int → Option (Int × GS)) (S : GS) (a0 : Nat) (a1 : Int) (a2 : Int) : Option (Int × GS) :=
  gg (1 ≤ d) <|
  gg (gT a0) <|
  gc (f_X10_isGroup n (d - 1) 0 S [((a0 : Nat) : Int), a1]) fun x3 S_4 =>
  gg (inr x3) <|
  if x3 ≠ 0 then (
    gv (a1 + 1) fun x8 =>
    rec d 20 S_4 [((a0 : Nat) : Int), a1, a2, 0, x8, 0]
  ) else (
    some (0, S_4)
  )
def b_X10_depth_20 (n d : Nat) (rec : Nat → Nat → GS → List Int → Option (Int × GS)) (S : GS) (a0 : Nat) (a1 : Int) (a2 : Int) (a3 : Int) (a4 : Int) (a5 : Int) : Option (Int × GS) :=
  gg (1 ≤ d) <|
  gg (gT a0) <|
  gc (f_X10_after n (d - 1) 0 S [((a0 : Nat) : Int), a1]) fun x3 S_4 =>
  gg (inr a4) <|
  gg (inr x3) <|
  if x3 ≤ a4 then (
    gv (a3 + 1) fun x9 =>
    some (x9, S_4)
  ) else (
    gg (inr a5) <|
    if 100 ≤ a5 then (
      gv (a3 + 1) fun x13 =>
      some (x13, S_4)
    ) else (
      gg (inr a2) <|
      if 12 < a2 then (
        gv (a3 + 1) fun x17 =>
        some (x17, S_4)
      ) else (
        gv (a2 + 1) fun x19 =>
        gc (rec (d - 1) 0 S_4 [((a0 : Nat) : Int), a4, x19]) fun x21 S_22 =>
        gg (inr a3) <|
        gg (inr x21) <|
        gv (max a3 x21) fun x26 =>
        gc (f_X10_after n (d - 1) 0 S_22 [((a0 : Nat) : Int), a4]) fun x28 S_29 =>
        gv (a5 + 1) fun x31 =>
        rec d 20 S_29 [((a0 : Nat) : Int), a1, a2, x26, x28, x31]
      )
    )
  )
def f_X10_depth : Nat → Nat → Nat → GS → List Int → Option (Int × GS)
  | 0, _, _, _, _ => none
  | n + 1, d, pc, S, x => match pc, x with
    | 0, [a0, a1, a2] => b_X10_depth_0 n d (f_X10_depth n) S a0.toNat a1 a2
    | 20, [a0, a1, a2, a3, a4, a5] => b_X10_depth_20 n d (f_X10_depth n) S a0.toNat a1 a2 a3 a4 a5
    | _, _ => none
theorem e_X10_depth_0 {n d : Nat} {S : GS} {a0 : Nat} {a1 : Int} {a2 : Int} : f_X10_depth (n + 1) d 0 S [((a0 : Nat) : Int), a1, a2] = b_X10_depth_0 n d (f_X10_depth n) S a0 a1 a2 := rfl
theorem e_X10_depth_20 {n d : Nat} {S : GS} {a0 : Nat} {a1 : Int} {a2 : Int} {a3 : Int} {a4 : Int} {a5 : Int} : f_X10_depth (n + 1) d 20 S [((a0 : Nat) : Int), a1, a2, a3, a4, a5] = b_X10_depth_20 n d (f_X10_depth n) S a0 a1 a2 a3 a4 a5 := rfl

def b_X10_ownerOf_0 (n d : Nat) (rec : Nat → Nat → GS → List Int → Option (Int × GS)) (S : GS) (a0 : Nat) (a1 : Int) : Option (Int × GS) :=
  gg (gT a0) <|
  gv (S.1 a0 7) fun x2 =>
  gg (inr a1) <|
  gg (inr x2) <|
  gv (min a1 x2) fun x6 =>
  gv (x6 - 1) fun x8 =>
  rec d 11 S [((a0 : Nat) : Int), a1, x8]
def b_X10_ownerOf_11 (n d : Nat) (rec : Nat → Nat → GS → List Int → Option (Int × GS)) (S : GS) (a0 : Nat) (a1 : Int) (a2 : Int) : Option (Int × GS) :=
  gg (inr a2) <|
  if a2 < 0 then (
    some ((-1), S)
  ) else (
    gg (1 ≤ d) <|
    gg (gT a0) <|
    gc (f_X10_after n (d - 1) 0 S [((a0 : Nat) : Int), a2]) fun x5 S_6 =>
    gg (inr x5) <|
    gg (inr a1) <|
    if x5 ≤ a1 then (
      gv (a2 + (-1)) fun x11 =>
      rec d 11 S_6 [((a0 : Nat) : Int), a1, x11]
    ) else (
      some (a2, S_6)
    )
  )
def f_X10_ownerOf : Nat → Nat → Nat → GS → List Int → Option (Int × GS)
  | 0, _, _, _, _ => none
  | n + 1, d, pc, S, x => match pc, x with
    | 0, [a0, a1] => b_X10_ownerOf_0 n d (f_X10_ownerOf n) S a0.toNat a1
    | 11, [a0, a1, a2] => b_X10_ownerOf_11 n d (f_X10_ownerOf n) S a0.toNat a1 a2
    | _, _ => none
theorem e_X10_ownerOf_0 {n d : Nat} {S : GS} {a0 : Nat} {a1 : Int} : f_X10_ownerOf (n + 1) d 0 S [((a0 : Nat) : Int), a1] = b_X10_ownerOf_0 n d (f_X10_ownerOf n) S a0 a1 := rfl
theorem e_X10_ownerOf_11 {n d : Nat} {S : GS} {a0 : Nat} {a1 : Int} {a2 : Int} : f_X10_ownerOf (n + 1) d 11 S [((a0 : Nat) : Int), a1, a2] = b_X10_ownerOf_11 n d (f_X10_ownerOf n) S a0 a1 a2 := rfl

def b_X10_placeOf_0 (n d : Nat) (rec : Nat → Nat → GS → List Int → Option (Int × GS)) (S : GS) (a0 : Nat) (a1 : Int) : Option (Int × GS) :=
  gg (1 ≤ d) <|
  gg (gT a0) <|
  gc (f_X10_ownerOf n (d - 1) 0 S [((a0 : Nat) : Int), a1]) fun x3 S_4 =>
  gc (f_X10_first n (d - 1) 0 S_4 [((a0 : Nat) : Int), x3]) fun x6 S_7 =>
  rec d 15 S_7 [((a0 : Nat) : Int), a1, x3, x6, 0]
def b_X10_placeOf_15 (n d : Nat) (rec : Nat → Nat → GS → List Int → Option (Int × GS)) (S : GS) (a0 : Nat) (a1 : Int) (a2 : Int) (a3 : Int) (a4 : Int) : Option (Int × GS) :=
  gg (inr a3) <|
  if a3 = (-1) then (
    some ((-1), S)
  ) else (
    gg (inr a4) <|
    if 100 ≤ a4 then (
      some ((-1), S)
    ) else (
      gg (inr a1) <|
      if a3 ≠ a1 then (
        gg (1 ≤ d) <|
        gg (gT a0) <|
        gc (f_X10_next n (d - 1) 0 S [((a0 : Nat) : Int), a2, a3]) fun x9 S_10 =>
        gv (a4 + 1) fun x12 =>
        rec d 15 S_10 [((a0 : Nat) : Int), a1, a2, x9, x12]
      ) else (
        some (a4, S)
      )
    )
  )
def f_X10_placeOf : Nat → Nat → Nat → GS → List Int → Option (Int × GS)
  | 0, _, _, _, _ => none
  | n + 1, d, pc, S, x => match pc, x with
    | 0, [a0, a1] => b_X10_placeOf_0 n d (f_X10_placeOf n) S a0.toNat a1
    | 15, [a0, a1, a2, a3, a4] => b_X10_placeOf_15 n d (f_X10_placeOf n) S a0.toNat a1 a2 a3 a4
    | _, _ => none
theorem e_X10_placeOf_0 {n d : Nat} {S : GS} {a0 : Nat} {a1 : Int} : f_X10_placeOf (n + 1) d 0 S [((a0 : Nat) : Int), a1] = b_X10_placeOf_0 n d (f_X10_placeOf n) S a0 a1 := rfl
theorem e_X10_placeOf_15 {n d : Nat} {S : GS} {a0 : Nat} {a1 : Int} {a2 : Int} {a3 : Int} {a4 : Int} : f_X10_placeOf (n + 1) d 15 S [((a0 : Nat) : Int), a1, a2, a3, a4] = b_X10_placeOf_15 n d (f_X10_placeOf n) S a0 a1 a2 a3 a4 := rfl

def b_X10_about_0 (n d : Nat) (rec : Nat → Nat → GS → List Int → Option (Int × GS)) (S : GS) (a0 : Nat) (a1 : Int) (a2 : Int) : Option (Int × GS) :=
  gg (inr a2) <|
  if a2 = 0 then (
    gg (1 ≤ d) <|
    gg (gT a0) <|
    gc (f_X10_kind n (d - 1) 0 S [((a0 : Nat) : Int), a1]) fun x5 S_6 =>
    some (x5, S_6)
  ) else (
  if a2 = 1 then (
    gg (1 ≤ d) <|
    gg (gT a0) <|
    gc (f_X10_depth n (d - 1) 0 S [((a0 : Nat) : Int), a1, 0]) fun x11 S_12 =>
    some (x11, S_12)
  ) else (
  if a2 = 2 then (
    gg (1 ≤ d) <|
    gg (gT a0) <|
    gc (f_X10_size n (d - 1) 0 S [((a0 : Nat) : Int), a1]) fun x17 S_18 =>
    some (x17, S_18)
  ) else (
  if a2 = 3 then (
    gg (1 ≤ d) <|
    gg (gT a0) <|
    gc (f_X10_length n (d - 1) 0 S [((a0 : Nat) : Int), a1]) fun x23 S_24 =>
    some (x23, S_24)
  ) else (
  if a2 = 4 then (
    gg (1 ≤ d) <|
    gg (gT a0) <|
    gc (f_X10_is n (d - 1) 0 S [((a0 : Nat) : Int), a1, 1]) fun x29 S_30 =>
    gg (inr x29) <|
    if x29 = 0 then (
      some ((-1), S_30)
    ) else (
      gg (0 ≤ a1 ∧ a1 < ((100 : Nat) : Int) ∧ a1 < 2147483648) <|
      gv (S_30.1 (a0 + 3) (a1 : Int).toNat) fun x35 =>
      some (x35, S_30)
    )
  ) else (
  if a2 = 5 then (
    gg (1 ≤ d) <|
    gg (gT a0) <|
    gc (f_X10_power n (d - 1) 0 S [((a0 : Nat) : Int), a1]) fun x40 S_41 =>
    some (x40, S_41)
  ) else (
  if a2 = 6 then (
    gg (1 ≤ d) <|
    gg (gT a0) <|
    gc (f_X10_figures n (d - 1) 0 S [((a0 : Nat) : Int), a1]) fun x46 S_47 =>
    some (x46, S_47)
  ) else (
  if a2 = 7 then (
    gg (1 ≤ d) <|
    gg (gT a0) <|
    gc (f_X10_is n (d - 1) 0 S [((a0 : Nat) : Int), a1, 2]) fun x52 S_53 =>
    gg (inr x52) <|
    if x52 = 0 then (
      some ((-1), S_53)
    ) else (
      gc (f_X10_signOf n (d - 1) 0 S_53 [((a0 : Nat) : Int), a1]) fun x57 S_58 =>
      some (x57, S_58)
    )
  ) else (
  if a2 = 8 then (
    gg (1 ≤ d) <|
    gg (gT a0) <|
    gc (f_X10_ownerOf n (d - 1) 0 S [((a0 : Nat) : Int), a1]) fun x63 S_64 =>
    some (x63, S_64)
  ) else (
  gg (1 ≤ d) <|
  gg (gT a0) <|
  gc (f_X10_placeOf n (d - 1) 0 S [((a0 : Nat) : Int), a1]) fun x68 S_69 =>
  some (x68, S_69)
  )))))))))
def f_X10_about : Nat → Nat → Nat → GS → List Int → Option (Int × GS)
  | 0, _, _, _, _ => none
  | n + 1, d, pc, S, x => match pc, x with
    | 0, [a0, a1, a2] => b_X10_about_0 n d (f_X10_about n) S a0.toNat a1 a2
    | _, _ => none
theorem e_X10_about_0 {n d : Nat} {S : GS} {a0 : Nat} {a1 : Int} {a2 : Int} : f_X10_about (n + 1) d 0 S [((a0 : Nat) : Int), a1, a2] = b_X10_about_0 n d (f_X10_about n) S a0 a1 a2 := rfl

def b_X10_addKeySign_0 (n d : Nat) (rec : Nat → Nat → GS → List Int → Option (Int × GS)) (S : GS) (a0 : Nat) (a1 : Int) (a2 : Int) : Option (Int × GS) :=
  gg (inr a1) <|
  if a1 < 0 then (
    rec d 32 S [((a0 : Nat) : Int), a1, a2, 0]
  ) else (
    gg (gT a0) <|
    gv (S.1 a0 7) fun x4 =>
    gg (inr x4) <|
    if x4 ≤ a1 then (
      rec d 32 S [((a0 : Nat) : Int), a1, a2, 0]
    ) else (
      if 100 ≤ a1 then (
        rec d 32 S [((a0 : Nat) : Int), a1, a2, 0]
      ) else (
        gg (0 ≤ a1 ∧ a1 < ((100 : Nat) : Int) ∧ a1 < 2147483648) <|
        gv (S.1 (a0 + 6) (a1 : Int).toNat) fun x10 =>
        gg (inr x10) <|
        if x10 < 0 then (
          rec d 32 S [((a0 : Nat) : Int), a1, a2, 0]
        ) else (
          rec d 32 S [((a0 : Nat) : Int), a1, a2, 1]
        )
      )
    )
  )
def b_X10_addKeySign_32 (n d : Nat) (rec : Nat → Nat → GS → List Int → Option (Int × GS)) (S : GS) (a0 : Nat) (a1 : Int) (a2 : Int) (s0 : Int) : Option (Int × GS) :=
  gg (inr s0) <|
  if s0 = 0 then (
    gg (gT a0) <|
    gv (gB S a0 8 (decide ((1 : Int) = 1))) fun S_4 =>
    some (0, S_4)
  ) else (
    gg (gT a0) <|
    gg (0 ≤ a1 ∧ a1 < ((100 : Nat) : Int) ∧ a1 < 2147483648) <|
    gv (S.1 (a0 + 6) (a1 : Int).toNat) fun x8 =>
    gg (inr x8) <|
    if 12 ≤ x8 then (
      gv (gB S a0 8 (decide ((1 : Int) = 1))) fun S_12 =>
      some (0, S_12)
    ) else (
      gv (a1 * 12) fun x14 =>
      gv (S.1 (a0 + 6) (a1 : Int).toNat) fun x16 =>
      gv (x14 + x16) fun x18 =>
      gg (0 ≤ a2 ∧ a2 < 65536) <|
      gg (0 ≤ x18 ∧ x18 < ((1200 : Nat) : Int) ∧ x18 < 2147483648) <|
      gv (gI S (a0 + 7) (x18 : Int).toNat a2) fun S_22 =>
      gv (S_22.1 (a0 + 6) (a1 : Int).toNat) fun x24 =>
      gv (x24 + 1) fun x26 =>
      gv (gI S_22 (a0 + 6) (a1 : Int).toNat x26) fun S_28 =>
      some (0, S_28)
    )
  )
def f_X10_addKeySign : Nat → Nat → Nat → GS → List Int → Option (Int × GS)
  | 0, _, _, _, _ => none
  | n + 1, d, pc, S, x => match pc, x with
    | 0, [a0, a1, a2] => b_X10_addKeySign_0 n d (f_X10_addKeySign n) S a0.toNat a1 a2
    | 32, [a0, a1, a2, s0] => b_X10_addKeySign_32 n d (f_X10_addKeySign n) S a0.toNat a1 a2 s0
    | _, _ => none
theorem e_X10_addKeySign_0 {n d : Nat} {S : GS} {a0 : Nat} {a1 : Int} {a2 : Int} : f_X10_addKeySign (n + 1) d 0 S [((a0 : Nat) : Int), a1, a2] = b_X10_addKeySign_0 n d (f_X10_addKeySign n) S a0 a1 a2 := rfl
theorem e_X10_addKeySign_32 {n d : Nat} {S : GS} {a0 : Nat} {a1 : Int} {a2 : Int} {s0 : Int} : f_X10_addKeySign (n + 1) d 32 S [((a0 : Nat) : Int), a1, a2, s0] = b_X10_addKeySign_32 n d (f_X10_addKeySign n) S a0 a1 a2 s0 := rfl

def b_X10_addTruth_0 (n d : Nat) (rec : Nat → Nat → GS → List Int → Option (Int × GS)) (S : GS) (a0 : Nat) (a1 : Int) : Option (Int × GS) :=
  gg (1 ≤ d) <|
  gg (gT a0) <|
  gc (f_X10_add n (d - 1) 0 S [((a0 : Nat) : Int), 1]) fun x3 S_4 =>
  gc (f_X10_has n (d - 1) 0 S_4 [((a0 : Nat) : Int), x3]) fun x6 S_7 =>
  gg (inr x6) <|
  if x6 = 0 then (
    some (x3, S_7)
  ) else (
    gg (inr a1) <|
    if a1 = 0 then (
      some (x3, S_7)
    ) else (
      gg (0 ≤ x3 ∧ x3 < ((100 : Nat) : Int) ∧ x3 < 2147483648) <|
      gv (gI S_7 (a0 + 3) (x3 : Int).toNat 1) fun S_14 =>
      some (x3, S_14)
    )
  )
def f_X10_addTruth : Nat → Nat → Nat → GS → List Int → Option (Int × GS)
  | 0, _, _, _, _ => none
  | n + 1, d, pc, S, x => match pc, x with
    | 0, [a0, a1] => b_X10_addTruth_0 n d (f_X10_addTruth n) S a0.toNat a1
    | _, _ => none
theorem e_X10_addTruth_0 {n d : Nat} {S : GS} {a0 : Nat} {a1 : Int} : f_X10_addTruth (n + 1) d 0 S [((a0 : Nat) : Int), a1] = b_X10_addTruth_0 n d (f_X10_addTruth n) S a0 a1 := rfl

def b_X10_isOverfull_0 (n d : Nat) (rec : Nat → Nat → GS → List Int → Option (Int × GS)) (S : GS) (a0 : Nat) : Option (Int × GS) :=
  gg (gT a0) <|
  gv (bi (S.2.1 a0 8)) fun x2 =>
  gg (x2 = 0 ∨ x2 = 1) <|
  some (x2, S)
def f_X10_isOverfull : Nat → Nat → Nat → GS → List Int → Option (Int × GS)
  | 0, _, _, _, _ => none
  | n + 1, d, pc, S, x => match pc, x with
    | 0, [a0] => b_X10_isOverfull_0 n d (f_X10_isOverfull n) S a0.toNat
    | _, _ => none
theorem e_X10_isOverfull_0 {n d : Nat} {S : GS} {a0 : Nat} : f_X10_isOverfull (n + 1) d 0 S [((a0 : Nat) : Int)] = b_X10_isOverfull_0 n d (f_X10_isOverfull n) S a0 := rfl

def b_X10_copyNodes_0 (n d : Nat) (rec : Nat → Nat → GS → List Int → Option (Int × GS)) (S : GS) (a0 : Nat) (a1 : Int) (a2 : Nat) (a3 : Int) (a4 : Int) : Option (Int × GS) :=
  gg (inr a1) <|
  if a1 < 0 then (
    some (0, S)
  ) else (
    gg (inr a3) <|
    if a3 < 0 then (
      some (0, S)
    ) else (
      gg (inr a4) <|
      if a4 < 1 then (
        some (0, S)
      ) else (
        gv (a1 + a4) fun x7 =>
        gg (inr x7) <|
        if 100 < x7 then (
          some (0, S)
        ) else (
          gv (a3 + a4) fun x11 =>
          gg (inr x11) <|
          if x11 ≤ 100 then (
            gg (gT a2) <|
            gg (gT a0) <|
            gg ((0 : Int) ≤ a3 ∧ (0 : Int) ≤ a1 ∧ (0 : Int) ≤ a4 ∧ a3 + a4 ≤ ((100 : Nat) : Int) ∧ a1 + a4 ≤ ((100 : Nat) : Int) ∧ 100 < 2147483648 ∧ 100 < 2147483648) <|
            gv (gCp S (a0 + 1) (a2 + 1) a1 a3 a4) fun S_18 =>
            gg ((0 : Int) ≤ a3 ∧ (0 : Int) ≤ a1 ∧ (0 : Int) ≤ a4 ∧ a3 + a4 ≤ ((100 : Nat) : Int) ∧ a1 + a4 ≤ ((100 : Nat) : Int) ∧ 100 < 2147483648 ∧ 100 < 2147483648) <|
            gv (gCp S_18 (a0 + 2) (a2 + 2) a1 a3 a4) fun S_21 =>
            gg ((0 : Int) ≤ a3 ∧ (0 : Int) ≤ a1 ∧ (0 : Int) ≤ a4 ∧ a3 + a4 ≤ ((100 : Nat) : Int) ∧ a1 + a4 ≤ ((100 : Nat) : Int) ∧ 100 < 2147483648 ∧ 100 < 2147483648) <|
            gv (gCp S_21 (a0 + 3) (a2 + 3) a1 a3 a4) fun S_24 =>
            gg ((0 : Int) ≤ a3 ∧ (0 : Int) ≤ a1 ∧ (0 : Int) ≤ a4 ∧ a3 + a4 ≤ ((100 : Nat) : Int) ∧ a1 + a4 ≤ ((100 : Nat) : Int) ∧ 100 < 2147483648 ∧ 100 < 2147483648) <|
            gv (gCp S_24 (a0 + 4) (a2 + 4) a1 a3 a4) fun S_27 =>
            gv (a3 * 40) fun x29 =>
            gv (a1 * 40) fun x31 =>
            gv (a4 * 40) fun x33 =>
            gg ((0 : Int) ≤ x29 ∧ (0 : Int) ≤ x31 ∧ (0 : Int) ≤ x33 ∧ x29 + x33 ≤ ((4000 : Nat) : Int) ∧ x31 + x33 ≤ ((4000 : Nat) : Int) ∧ 4000 < 2147483648 ∧ 4000 < 2147483648) <|
            gg (∀ i, i < (x33 : Int).toNat → 0 ≤ S_27.1 (a2 + 5) ((x29 : Int).toNat + i) ∧ S_27.1 (a2 + 5) ((x29 : Int).toNat + i) < 65536) <|
            gv (gCp S_27 (a0 + 5) (a2 + 5) x31 x29 x33) fun S_37 =>
            gg ((0 : Int) ≤ a3 ∧ (0 : Int) ≤ a1 ∧ (0 : Int) ≤ a4 ∧ a3 + a4 ≤ ((100 : Nat) : Int) ∧ a1 + a4 ≤ ((100 : Nat) : Int) ∧ 100 < 2147483648 ∧ 100 < 2147483648) <|
            gv (gCp S_37 (a0 + 6) (a2 + 6) a1 a3 a4) fun S_40 =>
            gv (a3 * 12) fun x42 =>
            gv (a1 * 12) fun x44 =>
            gv (a4 * 12) fun x46 =>
            gg ((0 : Int) ≤ x42 ∧ (0 : Int) ≤ x44 ∧ (0 : Int) ≤ x46 ∧ x42 + x46 ≤ ((1200 : Nat) : Int) ∧ x44 + x46 ≤ ((1200 : Nat) : Int) ∧ 1200 < 2147483648 ∧ 1200 < 2147483648) <|
            gg (∀ i, i < (x46 : Int).toNat → 0 ≤ S_40.1 (a2 + 7) ((x42 : Int).toNat + i) ∧ S_40.1 (a2 + 7) ((x42 : Int).toNat + i) < 65536) <|
            gv (gCp S_40 (a0 + 7) (a2 + 7) x44 x42 x46) fun S_50 =>
            some (0, S_50)
          ) else (
            some (0, S)
          )
        )
      )
    )
  )
def f_X10_copyNodes : Nat → Nat → Nat → GS → List Int → Option (Int × GS)
  | 0, _, _, _, _ => none
  | n + 1, d, pc, S, x => match pc, x with
    | 0, [a0, a1, a2, a3, a4] => b_X10_copyNodes_0 n d (f_X10_copyNodes n) S a0.toNat a1 a2.toNat a3 a4
    | _, _ => none
theorem e_X10_copyNodes_0 {n d : Nat} {S : GS} {a0 : Nat} {a1 : Int} {a2 : Nat} {a3 : Int} {a4 : Int} : f_X10_copyNodes (n + 1) d 0 S [((a0 : Nat) : Int), a1, ((a2 : Nat) : Int), a3, a4] = b_X10_copyNodes_0 n d (f_X10_copyNodes n) S a0 a1 a2 a3 a4 := rfl

def b_X10_append_0 (n d : Nat) (rec : Nat → Nat → GS → List Int → Option (Int × GS)) (S : GS) (a0 : Nat) (a1 : Nat) (a2 : Int) : Option (Int × GS) :=
  gg (1 ≤ d) <|
  gg (gT a1) <|
  gc (f_X10_size n (d - 1) 0 S [((a1 : Nat) : Int), a2]) fun x3 S_4 =>
  gc (f_X10_isOverfull n (d - 1) 0 S_4 [((a1 : Nat) : Int)]) fun x6 S_7 =>
  gg (inr x6) <|
  if x6 ≠ 0 then (
    gg (gT a0) <|
    gv (gB S_7 a0 8 (decide ((1 : Int) = 1))) fun S_12 =>
    some ((-1), S_12)
  ) else (
    gg (inr x3) <|
    if x3 < 1 then (
      gg (gT a0) <|
      gv (gB S_7 a0 8 (decide ((1 : Int) = 1))) fun S_17 =>
      some ((-1), S_17)
    ) else (
      gg (gT a0) <|
      gv (S_7.1 a0 7) fun x20 =>
      gv (x20 + x3) fun x22 =>
      gg (inr x22) <|
      if x22 ≤ 100 then (
        gv (S_7.1 a0 7) fun x26 =>
        gc (f_X10_copyNodes n (d - 1) 0 S_7 [((a0 : Nat) : Int), x26, ((a1 : Nat) : Int), a2, x3]) fun x28 S_29 =>
        gv (S_29.1 a0 7) fun x31 =>
        gv (x31 + x3) fun x33 =>
        gv (gI S_29 a0 7 x33) fun S_35 =>
        gv (S_35.1 a0 7) fun x37 =>
        gv (x37 - x3) fun x39 =>
        some (x39, S_35)
      ) else (
        gv (gB S_7 a0 8 (decide ((1 : Int) = 1))) fun S_41 =>
        some ((-1), S_41)
      )
    )
  )
def f_X10_append : Nat → Nat → Nat → GS → List Int → Option (Int × GS)
  | 0, _, _, _, _ => none
  | n + 1, d, pc, S, x => match pc, x with
    | 0, [a0, a1, a2] => b_X10_append_0 n d (f_X10_append n) S a0.toNat a1.toNat a2
    | _, _ => none
theorem e_X10_append_0 {n d : Nat} {S : GS} {a0 : Nat} {a1 : Nat} {a2 : Int} : f_X10_append (n + 1) d 0 S [((a0 : Nat) : Int), ((a1 : Nat) : Int), a2] = b_X10_append_0 n d (f_X10_append n) S a0 a1 a2 := rfl

def b_X10_nextByKey_0 (n d : Nat) (rec : Nat → Nat → GS → List Int → Option (Int × GS)) (S : GS) (a0 : Nat) (a1 : Int) (a2 : Int) : Option (Int × GS) :=
  gg (1 ≤ d) <|
  gg (gT a0) <|
  gc (f_X10_firstOfMap n (d - 1) 0 S [((a0 : Nat) : Int), a1]) fun x3 S_4 =>
  rec d 12 S_4 [((a0 : Nat) : Int), a1, a2, (-1), x3, 0]
def b_X10_nextByKey_12 (n d : Nat) (rec : Nat → Nat → GS → List Int → Option (Int × GS)) (S : GS) (a0 : Nat) (a1 : Int) (a2 : Int) (a3 : Int) (a4 : Int) (a5 : Int) : Option (Int × GS) :=
  gg (inr a4) <|
  if a4 = (-1) then (
    some (a3, S)
  ) else (
    gg (inr a5) <|
    if 100 ≤ a5 then (
      some (a3, S)
    ) else (
      gg (inr a2) <|
      if a2 = (-1) then (
        rec d 46 S [((a0 : Nat) : Int), a1, a2, a3, a4, a5, 1]
      ) else (
        gg (1 ≤ d) <|
        gg (gT a0) <|
        gc (f_X10_orderOfKeys n (d - 1) 0 S [((a0 : Nat) : Int), a4, ((a0 : Nat) : Int), a2]) fun x9 S_10 =>
        gg (inr x9) <|
        if x9 ≤ 0 then (
          rec d 46 S_10 [((a0 : Nat) : Int), a1, a2, a3, a4, a5, 0]
        ) else (
          rec d 46 S_10 [((a0 : Nat) : Int), a1, a2, a3, a4, a5, 1]
        )
      )
    )
  )
def b_X10_nextByKey_46 (n d : Nat) (rec : Nat → Nat → GS → List Int → Option (Int × GS)) (S : GS) (a0 : Nat) (a1 : Int) (a2 : Int) (a3 : Int) (a4 : Int) (a5 : Int) (s0 : Int) : Option (Int × GS) :=
  gg (inr s0) <|
  if s0 = 0 then (
    gg (1 ≤ d) <|
    gg (gT a0) <|
    gc (f_X10_next n (d - 1) 0 S [((a0 : Nat) : Int), a1, a4]) fun x5 S_6 =>
    gv (a5 + 1) fun x8 =>
    rec d 12 S_6 [((a0 : Nat) : Int), a1, a2, a3, x5, x8]
  ) else (
    gg (inr a3) <|
    if a3 = (-1) then (
      rec d 69 S [((a0 : Nat) : Int), a1, a2, a4, a5]
    ) else (
      gg (1 ≤ d) <|
      gg (gT a0) <|
      gc (f_X10_orderOfKeys n (d - 1) 0 S [((a0 : Nat) : Int), a4, ((a0 : Nat) : Int), a3]) fun x14 S_15 =>
      gg (inr x14) <|
      if 0 ≤ x14 then (
        gc (f_X10_next n (d - 1) 0 S_15 [((a0 : Nat) : Int), a1, a4]) fun x19 S_20 =>
        gv (a5 + 1) fun x22 =>
        rec d 12 S_20 [((a0 : Nat) : Int), a1, a2, a3, x19, x22]
      ) else (
        rec d 69 S_15 [((a0 : Nat) : Int), a1, a2, a4, a5]
      )
    )
  )
def b_X10_nextByKey_69 (n d : Nat) (rec : Nat → Nat → GS → List Int → Option (Int × GS)) (S : GS) (a0 : Nat) (a1 : Int) (a2 : Int) (a4 : Int) (a5 : Int) : Option (Int × GS) :=
  gg (1 ≤ d) <|
  gg (gT a0) <|
  gc (f_X10_next n (d - 1) 0 S [((a0 : Nat) : Int), a1, a4]) fun x3 S_4 =>
  gv (a5 + 1) fun x6 =>
  rec d 12 S_4 [((a0 : Nat) : Int), a1, a2, a4, x3, x6]
def f_X10_nextByKey : Nat → Nat → Nat → GS → List Int → Option (Int × GS)
  | 0, _, _, _, _ => none
  | n + 1, d, pc, S, x => match pc, x with
    | 0, [a0, a1, a2] => b_X10_nextByKey_0 n d (f_X10_nextByKey n) S a0.toNat a1 a2
    | 12, [a0, a1, a2, a3, a4, a5] => b_X10_nextByKey_12 n d (f_X10_nextByKey n) S a0.toNat a1 a2 a3 a4 a5
    | 46, [a0, a1, a2, a3, a4, a5, s0] => b_X10_nextByKey_46 n d (f_X10_nextByKey n) S a0.toNat a1 a2 a3 a4 a5 s0
    | 69, [a0, a1, a2, a4, a5] => b_X10_nextByKey_69 n d (f_X10_nextByKey n) S a0.toNat a1 a2 a4 a5
    | _, _ => none
theorem e_X10_nextByKey_0 {n d : Nat} {S : GS} {a0 : Nat} {a1 : Int} {a2 : Int} : f_X10_nextByKey (n + 1) d 0 S [((a0 : Nat) : Int), a1, a2] = b_X10_nextByKey_0 n d (f_X10_nextByKey n) S a0 a1 a2 := rfl
theorem e_X10_nextByKey_12 {n d : Nat} {S : GS} {a0 : Nat} {a1 : Int} {a2 : Int} {a3 : Int} {a4 : Int} {a5 : Int} : f_X10_nextByKey (n + 1) d 12 S [((a0 : Nat) : Int), a1, a2, a3, a4, a5] = b_X10_nextByKey_12 n d (f_X10_nextByKey n) S a0 a1 a2 a3 a4 a5 := rfl
theorem e_X10_nextByKey_46 {n d : Nat} {S : GS} {a0 : Nat} {a1 : Int} {a2 : Int} {a3 : Int} {a4 : Int} {a5 : Int} {s0 : Int} : f_X10_nextByKey (n + 1) d 46 S [((a0 : Nat) : Int), a1, a2, a3, a4, a5, s0] = b_X10_nextByKey_46 n d (f_X10_nextByKey n) S a0 a1 a2 a3 a4 a5 s0 := rfl
theorem e_X10_nextByKey_69 {n d : Nat} {S : GS} {a0 : Nat} {a1 : Int} {a2 : Int} {a4 : Int} {a5 : Int} : f_X10_nextByKey (n + 1) d 69 S [((a0 : Nat) : Int), a1, a2, a4, a5] = b_X10_nextByKey_69 n d (f_X10_nextByKey n) S a0 a1 a2 a4 a5 := rfl

def b_X10_close_0 (n d : Nat) (rec : Nat → Nat → GS → List Int → Option (Int × GS)) (S : GS) (a0 : Nat) (a1 : Int) : Option (Int × GS) :=
  gg (1 ≤ d) <|
  gg (gT a0) <|
  gc (f_X10_has n (d - 1) 0 S [((a0 : Nat) : Int), a1]) fun x3 S_4 =>
  gg (inr x3) <|
  if x3 = 0 then (
    some (0, S_4)
  ) else (
    gv (S_4.1 a0 7) fun x8 =>
    gv (x8 - a1) fun x10 =>
    gg (0 ≤ a1 ∧ a1 < ((100 : Nat) : Int) ∧ a1 < 2147483648) <|
    gv (gI S_4 (a0 + 2) (a1 : Int).toNat x10) fun S_13 =>
    some (0, S_13)
  )
def f_X10_close : Nat → Nat → Nat → GS → List Int → Option (Int × GS)
  | 0, _, _, _, _ => none
  | n + 1, d, pc, S, x => match pc, x with
    | 0, [a0, a1] => b_X10_close_0 n d (f_X10_close n) S a0.toNat a1
    | _, _ => none
theorem e_X10_close_0 {n d : Nat} {S : GS} {a0 : Nat} {a1 : Int} : f_X10_close (n + 1) d 0 S [((a0 : Nat) : Int), a1] = b_X10_close_0 n d (f_X10_close n) S a0 a1 := rfl

def b_X10_appendInOrder_0 (n d : Nat) (rec : Nat → Nat → GS → List Int → Option (Int × GS)) (S : GS) (a0 : Nat) (a1 : Nat) (a2 : Int) (a3 : Int) : Option (Int × GS) :=
  gg (1 ≤ d) <|
  gg (gT a1) <|
  gc (f_X10_has n (d - 1) 0 S [((a1 : Nat) : Int), a2]) fun x3 S_4 =>
  gg (inr x3) <|
  if x3 = 0 then (
    gg (gT a0) <|
    gv (gB S_4 a0 8 (decide ((1 : Int) = 1))) fun S_9 =>
    some (0, S_9)
  ) else (
    gg (gT a0) <|
    gv (S_4.1 a0 7) fun x12 =>
    gg (inr x12) <|
    if 100 ≤ x12 then (
      gv (gB S_4 a0 8 (decide ((1 : Int) = 1))) fun S_16 =>
      some (0, S_16)
    ) else (
      gg (inr a3) <|
      if a3 ≤ 12 then (
        gv (S_4.1 a0 7) fun x20 =>
        gc (f_X10_copyNodes n (d - 1) 0 S_4 [((a0 : Nat) : Int), x20, ((a1 : Nat) : Int), a2, 1]) fun x22 S_23 =>
        gv (S_23.1 a0 7) fun x25 =>
        gv (x25 + 1) fun x27 =>
        gv (gI S_23 a0 7 x27) fun S_29 =>
        gc (f_X10_is n (d - 1) 0 S_29 [((a1 : Nat) : Int), a2, 4]) fun x31 S_32 =>
        gg (inr x31) <|
        if x31 = 0 then (
          gc (f_X10_nextByKey n (d - 1) 0 S_32 [((a1 : Nat) : Int), a2, (-1)]) fun x36 S_37 =>
          rec d 86 S_37 [((a0 : Nat) : Int), ((a1 : Nat) : Int), a2, a3, x20, x31, x36, 0]
        ) else (
          gc (f_X10_first n (d - 1) 0 S_32 [((a1 : Nat) : Int), a2]) fun x39 S_40 =>
          rec d 86 S_40 [((a0 : Nat) : Int), ((a1 : Nat) : Int), a2, a3, x20, x31, x39, 0]
        )
      ) else (
        gv (gB S_4 a0 8 (decide ((1 : Int) = 1))) fun S_42 =>
        some (0, S_42)
      )
    )
  )
def b_X10_appendInOrder_86 (n d : Nat) (rec : Nat → Nat → GS → List Int → Option (Int × GS)) (S : GS) (a0 : Nat) (a1 : Nat) (a2 : Int) (a3 : Int) (a4 : Int) (a5 : Int) (a6 : Int) (a7 : Int) : Option (Int × GS) :=
  gg (inr a7) <|
  if 100 ≤ a7 then (
    gg (1 ≤ d) <|
    gg (gT a0) <|
    gc (f_X10_close n (d - 1) 0 S [((a0 : Nat) : Int), a4]) fun x5 S_6 =>
    some (0, S_6)
  ) else (
    gg (inr a6) <|
    if a6 = (-1) then (
      gg (1 ≤ d) <|
      gg (gT a0) <|
      gc (f_X10_close n (d - 1) 0 S [((a0 : Nat) : Int), a4]) fun x12 S_13 =>
      some (0, S_13)
    ) else (
      gv (a3 + 1) fun x15 =>
      gg (1 ≤ d) <|
      gg (gT a0) <|
      gc (rec (d - 1) 0 S [((a0 : Nat) : Int), ((a1 : Nat) : Int), a6, x15]) fun x19 S_20 =>
      gg (inr a5) <|
      if a5 = 0 then (
        gg (gT a1) <|
        gc (f_X10_nextByKey n (d - 1) 0 S_20 [((a1 : Nat) : Int), a2, a6]) fun x25 S_26 =>
        gv (a7 + 1) fun x28 =>
        rec d 86 S_26 [((a0 : Nat) : Int), ((a1 : Nat) : Int), a2, a3, a4, a5, x25, x28]
      ) else (
        gg (gT a1) <|
        gc (f_X10_next n (d - 1) 0 S_20 [((a1 : Nat) : Int), a2, a6]) fun x31 S_32 =>
        gv (a7 + 1) fun x34 =>
        rec d 86 S_32 [((a0 : Nat) : Int), ((a1 : Nat) : Int), a2, a3, a4, a5, x31, x34]
      )
    )
  )
def f_X10_appendInOrder : Nat → Nat → Nat → GS → List Int → Option (Int × GS)
  | 0, _, _, _, _ => none
  | n + 1, d, pc, S, x => match pc, x with
    | 0, [a0, a1, a2, a3] => b_X10_appendInOrder_0 n d (f_X10_appendInOrder n) S a0.toNat a1.toNat a2 a3
    | 86, [a0, a1, a2, a3, a4, a5, a6, a7] => b_X10_appendInOrder_86 n d (f_X10_appendInOrder n) S a0.toNat a1.toNat a2 a3 a4 a5 a6 a7
    | _, _ => none
theorem e_X10_appendInOrder_0 {n d : Nat} {S : GS} {a0 : Nat} {a1 : Nat} {a2 : Int} {a3 : Int} : f_X10_appendInOrder (n + 1) d 0 S [((a0 : Nat) : Int), ((a1 : Nat) : Int), a2, a3] = b_X10_appendInOrder_0 n d (f_X10_appendInOrder n) S a0 a1 a2 a3 := rfl
theorem e_X10_appendInOrder_86 {n d : Nat} {S : GS} {a0 : Nat} {a1 : Nat} {a2 : Int} {a3 : Int} {a4 : Int} {a5 : Int} {a6 : Int} {a7 : Int} : f_X10_appendInOrder (n + 1) d 86 S [((a0 : Nat) : Int), ((a1 : Nat) : Int), a2, a3, a4, a5, a6, a7] = b_X10_appendInOrder_86 n d (f_X10_appendInOrder n) S a0 a1 a2 a3 a4 a5 a6 a7 := rfl

def b_X10_clearKey_0 (n d : Nat) (rec : Nat → Nat → GS → List Int → Option (Int × GS)) (S : GS) (a0 : Nat) (a1 : Int) : Option (Int × GS) :=
  gg (inr a1) <|
  if a1 < 0 then (
    some (0, S)
  ) else (
    gg (gT a0) <|
    gv (S.1 a0 7) fun x4 =>
    gg (inr x4) <|
    if x4 ≤ a1 then (
      some (0, S)
    ) else (
      if 100 ≤ a1 then (
        some (0, S)
      ) else (
        gg (0 ≤ a1 ∧ a1 < ((100 : Nat) : Int) ∧ a1 < 2147483648) <|
        gv (gI S (a0 + 6) (a1 : Int).toNat 0) fun S_10 =>
        some (0, S_10)
      )
    )
  )
def f_X10_clearKey : Nat → Nat → Nat → GS → List Int → Option (Int × GS)
  | 0, _, _, _, _ => none
  | n + 1, d, pc, S, x => match pc, x with
    | 0, [a0, a1] => b_X10_clearKey_0 n d (f_X10_clearKey n) S a0.toNat a1
    | _, _ => none
theorem e_X10_clearKey_0 {n d : Nat} {S : GS} {a0 : Nat} {a1 : Int} : f_X10_clearKey (n + 1) d 0 S [((a0 : Nat) : Int), a1] = b_X10_clearKey_0 n d (f_X10_clearKey n) S a0 a1 := rfl

def b_X10_copyOf_0 (n d : Nat) (rec : Nat → Nat → GS → List Int → Option (Int × GS)) (S : GS) (a0 : Nat) (a1 : Nat) (a2 : Int) : Option (Int × GS) :=
  gg (1 ≤ d) <|
  gg (gT a0) <|
  gc (f_X10_clear n (d - 1) 0 S [((a0 : Nat) : Int)]) fun x3 S_4 =>
  gc (f_X10_append n (d - 1) 0 S_4 [((a0 : Nat) : Int), ((a1 : Nat) : Int), a2]) fun x6 S_7 =>
  gc (f_X10_clearKey n (d - 1) 0 S_7 [((a0 : Nat) : Int), 0]) fun x9 S_10 =>
  some (0, S_10)
def f_X10_copyOf : Nat → Nat → Nat → GS → List Int → Option (Int × GS)
  | 0, _, _, _, _ => none
  | n + 1, d, pc, S, x => match pc, x with
    | 0, [a0, a1, a2] => b_X10_copyOf_0 n d (f_X10_copyOf n) S a0.toNat a1.toNat a2
    | _, _ => none
theorem e_X10_copyOf_0 {n d : Nat} {S : GS} {a0 : Nat} {a1 : Nat} {a2 : Int} : f_X10_copyOf (n + 1) d 0 S [((a0 : Nat) : Int), ((a1 : Nat) : Int), a2] = b_X10_copyOf_0 n d (f_X10_copyOf n) S a0 a1 a2 := rfl

def b_X10_count_0 (n d : Nat) (rec : Nat → Nat → GS → List Int → Option (Int × GS)) (S : GS) (a0 : Nat) : Option (Int × GS) :=
  gg (gT a0) <|
  gv (S.1 a0 7) fun x2 =>
  some (x2, S)
def f_X10_count : Nat → Nat → Nat → GS → List Int → Option (Int × GS)
  | 0, _, _, _, _ => none
  | n + 1, d, pc, S, x => match pc, x with
    | 0, [a0] => b_X10_count_0 n d (f_X10_count n) S a0.toNat
    | _, _ => none
theorem e_X10_count_0 {n d : Nat} {S : GS} {a0 : Nat} : f_X10_count (n + 1) d 0 S [((a0 : Nat) : Int)] = b_X10_count_0 n d (f_X10_count n) S a0 := rfl

def b_X10_dropFrom_0 (n d : Nat) (rec : Nat → Nat → GS → List Int → Option (Int × GS)) (S : GS) (a0 : Nat) (a1 : Int) : Option (Int × GS) :=
  gg (1 ≤ d) <|
  gg (gT a0) <|
  gc (f_X10_has n (d - 1) 0 S [((a0 : Nat) : Int), a1]) fun x3 S_4 =>
  gg (inr x3) <|
  if x3 = 0 then (
    some (0, S_4)
  ) else (
    gv (gI S_4 a0 7 a1) fun S_8 =>
    some (0, S_8)
  )
def f_X10_dropFrom : Nat → Nat → Nat → GS → List Int → Option (Int × GS)
  | 0, _, _, _, _ => none
  | n + 1, d, pc, S, x => match pc, x with
    | 0, [a0, a1] => b_X10_dropFrom_0 n d (f_X10_dropFrom n) S a0.toNat a1
    | _, _ => none
theorem e_X10_dropFrom_0 {n d : Nat} {S : GS} {a0 : Nat} {a1 : Int} : f_X10_dropFrom (n + 1) d 0 S [((a0 : Nat) : Int), a1] = b_X10_dropFrom_0 n d (f_X10_dropFrom n) S a0 a1 := rfl

def b_X10_hasSoundKeys_0 (n d : Nat) (rec : Nat → Nat → GS → List Int → Option (Int × GS)) (S : GS) (a0 : Nat) (a1 : Int) : Option (Int × GS) :=
  gg (1 ≤ d) <|
  gg (gT a0) <|
  gc (f_X10_firstOfMap n (d - 1) 0 S [((a0 : Nat) : Int), a1]) fun x3 S_4 =>
  rec d 11 S_4 [((a0 : Nat) : Int), a1, 1, x3, 0]
def b_X10_hasSoundKeys_11 (n d : Nat) (rec : Nat → Nat → GS → List Int → Option (Int × GS)) (S : GS) (a0 : Nat) (a1 : Int) (a2 : Int) (a3 : Int) (a4 : Int) : Option (Int × GS) :=
  gg (inr a3) <|
  if a3 = (-1) then (
    gg (a2 = 0 ∨ a2 = 1) <|
    some (a2, S)
  ) else (
    gg (inr a4) <|
    if 100 ≤ a4 then (
      gg (a2 = 0 ∨ a2 = 1) <|
      some (a2, S)
    ) else (
      gg (inr a2) <|
      if a2 = 0 then (
        gg (a2 = 0 ∨ a2 = 1) <|
        some (a2, S)
      ) else (
        gg (1 ≤ d) <|
        gg (gT a0) <|
        gc (f_X10_keyLength n (d - 1) 0 S [((a0 : Nat) : Int), a3]) fun x12 S_13 =>
        gg (inr x12) <|
        if 12 < x12 then (
          rec d 53 S_13 [((a0 : Nat) : Int), a1, a3, a4, 0]
        ) else (
          gc (f_X10_valueLike n (d - 1) 0 S_13 [((a0 : Nat) : Int), a1, ((a0 : Nat) : Int), a3]) fun x17 S_18 =>
          gg (inr x17) <|
          if x17 ≠ a3 then (
            rec d 53 S_18 [((a0 : Nat) : Int), a1, a3, a4, 0]
          ) else (
            rec d 53 S_18 [((a0 : Nat) : Int), a1, a3, a4, 1]
          )
        )
      )
    )
  )
def b_X10_hasSoundKeys_53 (n d : Nat) (rec : Nat → Nat → GS → List Int → Option (Int × GS)) (S : GS) (a0 : Nat) (a1 : Int) (a3 : Int) (a4 : Int) (s0 : Int) : Option (Int × GS) :=
  gg (1 ≤ d) <|
  gg (gT a0) <|
  gc (f_X10_next n (d - 1) 0 S [((a0 : Nat) : Int), a1, a3]) fun x3 S_4 =>
  gv (a4 + 1) fun x6 =>
  rec d 11 S_4 [((a0 : Nat) : Int), a1, s0, x3, x6]
def f_X10_hasSoundKeys : Nat → Nat → Nat → GS → List Int → Option (Int × GS)
  | 0, _, _, _, _ => none
  | n + 1, d, pc, S, x => match pc, x with
    | 0, [a0, a1] => b_X10_hasSoundKeys_0 n d (f_X10_hasSoundKeys n) S a0.toNat a1
    | 11, [a0, a1, a2, a3, a4] => b_X10_hasSoundKeys_11 n d (f_X10_hasSoundKeys n) S a0.toNat a1 a2 a3 a4
    | 53, [a0, a1, a3, a4, s0] => b_X10_hasSoundKeys_53 n d (f_X10_hasSoundKeys n) S a0.toNat a1 a3 a4 s0
    | _, _ => none
theorem e_X10_hasSoundKeys_0 {n d : Nat} {S : GS} {a0 : Nat} {a1 : Int} : f_X10_hasSoundKeys (n + 1) d 0 S [((a0 : Nat) : Int), a1] = b_X10_hasSoundKeys_0 n d (f_X10_hasSoundKeys n) S a0 a1 := rfl
theorem e_X10_hasSoundKeys_11 {n d : Nat} {S : GS} {a0 : Nat} {a1 : Int} {a2 : Int} {a3 : Int} {a4 : Int} : f_X10_hasSoundKeys (n + 1) d 11 S [((a0 : Nat) : Int), a1, a2, a3, a4] = b_X10_hasSoundKeys_11 n d (f_X10_hasSoundKeys n) S a0 a1 a2 a3 a4 := rfl
theorem e_X10_hasSoundKeys_53 {n d : Nat} {S : GS} {a0 : Nat} {a1 : Int} {a3 : Int} {a4 : Int} {s0 : Int} : f_X10_hasSoundKeys (n + 1) d 53 S [((a0 : Nat) : Int), a1, a3, a4, s0] = b_X10_hasSoundKeys_53 n d (f_X10_hasSoundKeys n) S a0 a1 a3 a4 s0 := rfl

def b_X10_hasSoundSigns_0 (n d : Nat) (rec : Nat → Nat → GS → List Int → Option (Int × GS)) (S : GS) (a0 : Nat) (a1 : Int) : Option (Int × GS) :=
  gg (1 ≤ d) <|
  gg (gT a0) <|
  gc (f_X10_has n (d - 1) 0 S [((a0 : Nat) : Int), a1]) fun x3 S_4 =>
  gg (inr x3) <|
  if x3 = 0 then (
    rec d 18 S_4 [((a0 : Nat) : Int), a1, (-1)]
  ) else (
    gg (0 ≤ a1 ∧ a1 < ((100 : Nat) : Int) ∧ a1 < 2147483648) <|
    gv (S_4.1 (a0 + 4) (a1 : Int).toNat) fun x9 =>
    rec d 18 S_4 [((a0 : Nat) : Int), a1, x9]
  )
def b_X10_hasSoundSigns_18 (n d : Nat) (rec : Nat → Nat → GS → List Int → Option (Int × GS)) (S : GS) (a0 : Nat) (a1 : Int) (s0 : Int) : Option (Int × GS) :=
  gg (1 ≤ d) <|
  gg (gT a0) <|
  gc (f_X10_is n (d - 1) 0 S [((a0 : Nat) : Int), a1, 3]) fun x3 S_4 =>
  gg (inr x3) <|
  if x3 = 0 then (
    gc (f_X10_is n (d - 1) 0 S_4 [((a0 : Nat) : Int), a1, 2]) fun x8 S_9 =>
    gg (inr x8) <|
    if x8 ≠ 0 then (
      gc (f_X10_signOf n (d - 1) 0 S_9 [((a0 : Nat) : Int), a1]) fun x13 S_14 =>
      gg (inr x13) <|
      if x13 ≠ 0 then (
        rec d 68 S_14 [((a0 : Nat) : Int), a1, 0]
      ) else (
        rec d 68 S_14 [((a0 : Nat) : Int), a1, 1]
      )
    ) else (
      some (1, S_9)
    )
  ) else (
    gg (inr s0) <|
    if s0 < 0 then (
      some (0, S_4)
    ) else (
      if 40 < s0 then (
        some (0, S_4)
      ) else (
        some (1, S_4)
      )
    )
  )
def b_X10_hasSoundSigns_68 (n d : Nat) (rec : Nat → Nat → GS → List Int → Option (Int × GS)) (S : GS) (a0 : Nat) (a1 : Int) (s0 : Int) : Option (Int × GS) :=
  gg (inr s0) <|
  if s0 = 0 then (
    gg (1 ≤ d) <|
    gg (gT a0) <|
    gc (f_X10_figures n (d - 1) 0 S [((a0 : Nat) : Int), a1]) fun x5 S_6 =>
    gv (x5 - 1) fun x8 =>
    gc (f_X10_digit n (d - 1) 0 S_6 [((a0 : Nat) : Int), a1, x8]) fun x10 S_11 =>
    gg (inr x10) <|
    if x10 = 48 then (
      rec d 120 S_11 [((a0 : Nat) : Int), a1, 0]
    ) else (
      rec d 120 S_11 [((a0 : Nat) : Int), a1, 1]
    )
  ) else (
    gg (1 ≤ d) <|
    gg (gT a0) <|
    gc (f_X10_power n (d - 1) 0 S [((a0 : Nat) : Int), a1]) fun x17 S_18 =>
    gg (inr x17) <|
    if x17 ≠ 0 then (
      rec d 120 S_18 [((a0 : Nat) : Int), a1, 0]
    ) else (
      gc (f_X10_figures n (d - 1) 0 S_18 [((a0 : Nat) : Int), a1]) fun x22 S_23 =>
      gg (inr x22) <|
      if x22 ≠ 1 then (
        rec d 120 S_23 [((a0 : Nat) : Int), a1, 0]
      ) else (
        rec d 120 S_23 [((a0 : Nat) : Int), a1, 1]
      )
    )
  )
def b_X10_hasSoundSigns_120 (n d : Nat) (rec : Nat → Nat → GS → List Int → Option (Int × GS)) (S : GS) (a0 : Nat) (a1 : Int) (s0 : Int) : Option (Int × GS) :=
  gg (inr s0) <|
  if s0 = 0 then (
    some (0, S)
  ) else (
    gg (1 ≤ d) <|
    gg (gT a0) <|
    gc (f_X10_figures n (d - 1) 0 S [((a0 : Nat) : Int), a1]) fun x5 S_6 =>
    gg (inr x5) <|
    if 24 < x5 then (
      some (0, S_6)
    ) else (
      gc (f_X10_power n (d - 1) 0 S_6 [((a0 : Nat) : Int), a1]) fun x10 S_11 =>
      gg (inr x10) <|
      gv (max x10 (-x10)) fun x14 =>
      gg (inr x14) <|
      if 99 < x14 then (
        some (0, S_11)
      ) else (
        some (1, S_11)
      )
    )
  )
def f_X10_hasSoundSigns : Nat → Nat → Nat → GS → List Int → Option (Int × GS)
  | 0, _, _, _, _ => none
  | n + 1, d, pc, S, x => match pc, x with
    | 0, [a0, a1] => b_X10_hasSoundSigns_0 n d (f_X10_hasSoundSigns n) S a0.toNat a1
    | 18, [a0, a1, s0] => b_X10_hasSoundSigns_18 n d (f_X10_hasSoundSigns n) S a0.toNat a1 s0
    | 68, [a0, a1, s0] => b_X10_hasSoundSigns_68 n d (f_X10_hasSoundSigns n) S a0.toNat a1 s0
    | 120, [a0, a1, s0] => b_X10_hasSoundSigns_120 n d (f_X10_hasSoundSigns n) S a0.toNat a1 s0
    | _, _ => none
theorem e_X10_hasSoundSigns_0 {n d : Nat} {S : GS} {a0 : Nat} {a1 : Int} : f_X10_hasSoundSigns (n + 1) d 0 S [((a0 : Nat) : Int), a1] = b_X10_hasSoundSigns_0 n d (f_X10_hasSoundSigns n) S a0 a1 := rfl
theorem e_X10_hasSoundSigns_18 {n d : Nat} {S : GS} {a0 : Nat} {a1 : Int} {s0 : Int} : f_X10_hasSoundSigns (n + 1) d 18 S [((a0 : Nat) : Int), a1, s0] = b_X10_hasSoundSigns_18 n d (f_X10_hasSoundSigns n) S a0 a1 s0 := rfl
theorem e_X10_hasSoundSigns_68 {n d : Nat} {S : GS} {a0 : Nat} {a1 : Int} {s0 : Int} : f_X10_hasSoundSigns (n + 1) d 68 S [((a0 : Nat) : Int), a1, s0] = b_X10_hasSoundSigns_68 n d (f_X10_hasSoundSigns n) S a0 a1 s0 := rfl
theorem e_X10_hasSoundSigns_120 {n d : Nat} {S : GS} {a0 : Nat} {a1 : Int} {s0 : Int} : f_X10_hasSoundSigns (n + 1) d 120 S [((a0 : Nat) : Int), a1, s0] = b_X10_hasSoundSigns_120 n d (f_X10_hasSoundSigns n) S a0 a1 s0 := rfl

def b_X10_splice_0 (n d : Nat) (rec : Nat → Nat → GS → List Int → Option (Int × GS)) (S : GS) (a0 : Nat) (a1 : Int) (a2 : Int) (a3 : Int) (a4 : Nat) (a5 : Int) (a6 : Int) : Option (Int × GS) :=
  gv (a2 + a3) fun x1 =>
  gg (1 ≤ d) <|
  gg (gT a0) <|
  gc (f_X10_has n (d - 1) 0 S [((a0 : Nat) : Int), a1]) fun x5 S_6 =>
  gg (inr x5) <|
  if x5 = 0 then (
    some (0, S_6)
  ) else (
    gg (inr a2) <|
    if a2 < 0 then (
      some (0, S_6)
    ) else (
      gg (inr a3) <|
      if a3 < 0 then (
        some (0, S_6)
      ) else (
        gg (inr a6) <|
        if a6 < 0 then (
          some (0, S_6)
        ) else (
          gv (S_6.1 a0 7) fun x16 =>
          gg (inr x1) <|
          gg (inr x16) <|
          if x1 ≤ x16 then (
            gg (gT a4) <|
            gc (f_X10_isOverfull n (d - 1) 0 S_6 [((a4 : Nat) : Int)]) fun x22 S_23 =>
            gg (inr x22) <|
            if x22 ≠ 0 then (
              gv (gB S_23 a0 8 (decide ((1 : Int) = 1))) fun S_27 =>
              some (0, S_27)
            ) else (
              gv (S_23.1 a0 7) fun x29 =>
              gv (x29 - a3) fun x31 =>
              gv (x31 + a6) fun x33 =>
              gg (inr x33) <|
              if x33 ≤ 100 then (
                gv (a2 + a6) fun x37 =>
                gv (S_23.1 a0 7) fun x39 =>
                gv (x39 - x1) fun x41 =>
                gc (f_X10_copyNodes n (d - 1) 0 S_23 [((a0 : Nat) : Int), x37, ((a0 : Nat) : Int), x1, x41]) fun x43 S_44 =>
                gc (f_X10_copyNodes n (d - 1) 0 S_44 [((a0 : Nat) : Int), a2, ((a4 : Nat) : Int), a5, a6]) fun x46 S_47 =>
                gv (S_47.1 a0 7) fun x49 =>
                gv (a6 - a3) fun x51 =>
                gv (x49 + x51) fun x53 =>
                gv (gI S_47 a0 7 x53) fun S_55 =>
                rec d 111 S_55 [((a0 : Nat) : Int), a1, a3, a6, 0]
              ) else (
                gv (gB S_23 a0 8 (decide ((1 : Int) = 1))) fun S_57 =>
                some (0, S_57)
              )
            )
          ) else (
            some (0, S_6)
          )
        )
      )
    )
  )
def b_X10_splice_111 (n d : Nat) (rec : Nat → Nat → GS → List Int → Option (Int × GS)) (S : GS) (a0 : Nat) (a1 : Int) (a3 : Int) (a6 : Int) (a8 : Int) : Option (Int × GS) :=
  gg (inr a8) <|
  gg (inr a1) <|
  if a1 < a8 then (
    some (1, S)
  ) else (
    gg (gT a0) <|
    gg (0 ≤ a8 ∧ a8 < ((100 : Nat) : Int) ∧ a8 < 2147483648) <|
    gv (S.1 (a0 + 2) (a8 : Int).toNat) fun x6 =>
    gv (a8 + x6) fun x8 =>
    gg (inr x8) <|
    if x8 ≤ a1 then (
      gv (a8 + 1) fun x12 =>
      rec d 111 S [((a0 : Nat) : Int), a1, a3, a6, x12]
    ) else (
      gv (S.1 (a0 + 2) (a8 : Int).toNat) fun x14 =>
      gv (a6 - a3) fun x16 =>
      gv (x14 + x16) fun x18 =>
      gv (gI S (a0 + 2) (a8 : Int).toNat x18) fun S_20 =>
      gv (a8 + 1) fun x22 =>
      rec d 111 S_20 [((a0 : Nat) : Int), a1, a3, a6, x22]
    )
  )
def f_X10_splice : Nat → Nat → Nat → GS → List Int → Option (Int × GS)
  | 0, _, _, _, _ => none
  | n + 1, d, pc, S, x => match pc, x with
    | 0, [a0, a1, a2, a3, a4, a5, a6] => b_X10_splice_0 n d (f_X10_splice n) S a0.toNat a1 a2 a3 a4.toNat a5 a6
    | 111, [a0, a1, a3, a6, a8] => b_X10_splice_111 n d (f_X10_splice n) S a0.toNat a1 a3 a6 a8
    | _, _ => none
theorem e_X10_splice_0 {n d : Nat} {S : GS} {a0 : Nat} {a1 : Int} {a2 : Int} {a3 : Int} {a4 : Nat} {a5 : Int} {a6 : Int} : f_X10_splice (n + 1) d 0 S [((a0 : Nat) : Int), a1, a2, a3, ((a4 : Nat) : Int), a5, a6] = b_X10_splice_0 n d (f_X10_splice n) S a0 a1 a2 a3 a4 a5 a6 := rfl
theorem e_X10_splice_111 {n d : Nat} {S : GS} {a0 : Nat} {a1 : Int} {a3 : Int} {a6 : Int} {a8 : Int} : f_X10_splice (n + 1) d 111 S [((a0 : Nat) : Int), a1, a3, a6, a8] = b_X10_splice_111 n d (f_X10_splice n) S a0 a1 a3 a6 a8 := rfl

def b_X10_insert_0 (n d : Nat) (rec : Nat → Nat → GS → List Int → Option (Int × GS)) (S : GS) (a0 : Nat) (a1 : Int) (a2 : Int) (a3 : Nat) (a4 : Int) : Option (Int × GS) :=
  gg (1 ≤ d) <|
  gg (gT a3) <|
  gc (f_X10_size n (d - 1) 0 S [((a3 : Nat) : Int), a4]) fun x3 S_4 =>
  gg (gT a0) <|
  gc (f_X10_splice n (d - 1) 0 S_4 [((a0 : Nat) : Int), a1, a2, 0, ((a3 : Nat) : Int), a4, x3]) fun x7 S_8 =>
  some (0, S_8)
def f_X10_insert : Nat → Nat → Nat → GS → List Int → Option (Int × GS)
  | 0, _, _, _, _ => none
  | n + 1, d, pc, S, x => match pc, x with
    | 0, [a0, a1, a2, a3, a4] => b_X10_insert_0 n d (f_X10_insert n) S a0.toNat a1 a2 a3.toNat a4
    | _, _ => none
theorem e_X10_insert_0 {n d : Nat} {S : GS} {a0 : Nat} {a1 : Int} {a2 : Int} {a3 : Nat} {a4 : Int} : f_X10_insert (n + 1) d 0 S [((a0 : Nat) : Int), a1, a2, ((a3 : Nat) : Int), a4] = b_X10_insert_0 n d (f_X10_insert n) S a0 a1 a2 a3 a4 := rfl

def b_X10_isDocument_0 (n d : Nat) (rec : Nat → Nat → GS → List Int → Option (Int × GS)) (S : GS) (a0 : Nat) : Option (Int × GS) :=
  gg (gT a0) <|
  gv (bi (S.2.1 a0 8)) fun x2 =>
  gg (inr x2) <|
  if x2 ≠ 0 then (
    some (0, S)
  ) else (
    gv (S.1 a0 7) fun x6 =>
    gg (inr x6) <|
    if x6 < 1 then (
      some (0, S)
    ) else (
      gv (S.1 a0 7) fun x10 =>
      gg (inr x10) <|
      if 100 < x10 then (
        some (0, S)
      ) else (
        gg (1 ≤ d) <|
        gc (f_X10_size n (d - 1) 0 S [((a0 : Nat) : Int), 0]) fun x15 S_16 =>
        gv (S_16.1 a0 7) fun x18 =>
        gg (inr x15) <|
        gg (inr x18) <|
        if x15 ≠ x18 then (
          some (0, S_16)
        ) else (
          gc (f_X10_depth n (d - 1) 0 S_16 [((a0 : Nat) : Int), 0, 0]) fun x23 S_24 =>
          gg (inr x23) <|
          if 12 < x23 then (
            some (0, S_24)
          ) else (
            some (1, S_24)
          )
        )
      )
    )
  )
def f_X10_isDocument : Nat → Nat → Nat → GS → List Int → Option (Int × GS)
  | 0, _, _, _, _ => none
  | n + 1, d, pc, S, x => match pc, x with
    | 0, [a0] => b_X10_isDocument_0 n d (f_X10_isDocument n) S a0.toNat
    | _, _ => none
theorem e_X10_isDocument_0 {n d : Nat} {S : GS} {a0 : Nat} : f_X10_isDocument (n + 1) d 0 S [((a0 : Nat) : Int)] = b_X10_isDocument_0 n d (f_X10_isDocument n) S a0 := rfl

def b_X10_isWithinBounds_0 (n d : Nat) (rec : Nat → Nat → GS → List Int → Option (Int × GS)) (S : GS) (a0 : Nat) : Option (Int × GS) :=
  rec d 4 S [((a0 : Nat) : Int), 1, 0]
def b_X10_isWithinBounds_4 (n d : Nat) (rec : Nat → Nat → GS → List Int → Option (Int × GS)) (S : GS) (a0 : Nat) (a1 : Int) (a2 : Int) : Option (Int × GS) :=
  gg (gT a0) <|
  gv (S.1 a0 7) fun x2 =>
  gg (inr a2) <|
  gg (inr x2) <|
  if x2 ≤ a2 then (
    gg (a1 = 0 ∨ a1 = 1) <|
    some (a1, S)
  ) else (
    gg (inr a1) <|
    if a1 = 0 then (
      gg (a1 = 0 ∨ a1 = 1) <|
      some (a1, S)
    ) else (
      gg (1 ≤ d) <|
      gc (f_X10_size n (d - 1) 0 S [((a0 : Nat) : Int), a2]) fun x12 S_13 =>
      gg (inr x12) <|
      if x12 < 1 then (
        gv (a2 + 1) fun x17 =>
        rec d 4 S_13 [((a0 : Nat) : Int), 0, x17]
      ) else (
        gc (f_X10_after n (d - 1) 0 S_13 [((a0 : Nat) : Int), a2]) fun x19 S_20 =>
        gv (S_20.1 a0 7) fun x22 =>
        gg (inr x19) <|
        gg (inr x22) <|
        if x22 < x19 then (
          gv (a2 + 1) fun x27 =>
          rec d 4 S_20 [((a0 : Nat) : Int), 0, x27]
        ) else (
          gc (f_X10_hasSoundSigns n (d - 1) 0 S_20 [((a0 : Nat) : Int), a2]) fun x29 S_30 =>
          gg (inr x29) <|
          if x29 = 0 then (
            gv (a2 + 1) fun x34 =>
            rec d 4 S_30 [((a0 : Nat) : Int), 0, x34]
          ) else (
            gc (f_X10_hasSoundKeys n (d - 1) 0 S_30 [((a0 : Nat) : Int), a2]) fun x36 S_37 =>
            gg (inr x36) <|
            if x36 = 0 then (
              gv (a2 + 1) fun x41 =>
              rec d 4 S_37 [((a0 : Nat) : Int), 0, x41]
            ) else (
              gv (a2 + 1) fun x43 =>
              rec d 4 S_37 [((a0 : Nat) : Int), 1, x43]
            )
          )
        )
      )
    )
  )
def f_X10_isWithinBounds : Nat → Nat → Nat → GS → List Int → Option (Int × GS)
  | 0, _, _, _, _ => none
  | n + 1, d, pc, S, x => match pc, x with
    | 0, [a0] => b_X10_isWithinBounds_0 n d (f_X10_isWithinBounds n) S a0.toNat
    | 4, [a0, a1, a2] => b_X10_isWithinBounds_4 n d (f_X10_isWithinBounds n) S a0.toNat a1 a2
    | _, _ => none
theorem e_X10_isWithinBounds_0 {n d : Nat} {S : GS} {a0 : Nat} : f_X10_isWithinBounds (n + 1) d 0 S [((a0 : Nat) : Int)] = b_X10_isWithinBounds_0 n d (f_X10_isWithinBounds n) S a0 := rfl
theorem e_X10_isWithinBounds_4 {n d : Nat} {S : GS} {a0 : Nat} {a1 : Int} {a2 : Int} : f_X10_isWithinBounds (n + 1) d 4 S [((a0 : Nat) : Int), a1, a2] = b_X10_isWithinBounds_4 n d (f_X10_isWithinBounds n) S a0 a1 a2 := rfl

def b_X10_keyTo_0 (n d : Nat) (rec : Nat → Nat → GS → List Int → Option (Int × GS)) (S : GS) (a0 : Nat) (a1 : Int) (a2 : Nat) : Option (Int × GS) :=
  rec d 2 S [((a0 : Nat) : Int), a1, ((a2 : Nat) : Int), 0]
def b_X10_keyTo_2 (n d : Nat) (rec : Nat → Nat → GS → List Int → Option (Int × GS)) (S : GS) (a0 : Nat) (a1 : Int) (a2 : Nat) (a3 : Int) : Option (Int × GS) :=
  gg (1 ≤ d) <|
  gg (gT a0) <|
  gc (f_X10_keyLength n (d - 1) 0 S [((a0 : Nat) : Int), a1]) fun x3 S_4 =>
  gg (inr a3) <|
  gg (inr x3) <|
  if x3 ≤ a3 then (
    some (0, S_4)
  ) else (
    gc (f_X10_keySign n (d - 1) 0 S_4 [((a0 : Nat) : Int), a1, a3]) fun x9 S_10 =>
    gg (gSh (a2)) <|
    gc (f_X9_add n (d - 1) 0 S_10 [((a2 : Nat) : Int), x9]) fun x13 S_14 =>
    gv (a3 + 1) fun x16 =>
    rec d 2 S_14 [((a0 : Nat) : Int), a1, ((a2 : Nat) : Int), x16]
  )
def f_X10_keyTo : Nat → Nat → Nat → GS → List Int → Option (Int × GS)
  | 0, _, _, _, _ => none
  | n + 1, d, pc, S, x => match pc, x with
    | 0, [a0, a1, a2] => b_X10_keyTo_0 n d (f_X10_keyTo n) S a0.toNat a1 a2.toNat
    | 2, [a0, a1, a2, a3] => b_X10_keyTo_2 n d (f_X10_keyTo n) S a0.toNat a1 a2.toNat a3
    | _, _ => none
theorem e_X10_keyTo_0 {n d : Nat} {S : GS} {a0 : Nat} {a1 : Int} {a2 : Nat} : f_X10_keyTo (n + 1) d 0 S [((a0 : Nat) : Int), a1, ((a2 : Nat) : Int)] = b_X10_keyTo_0 n d (f_X10_keyTo n) S a0 a1 a2 := rfl
theorem e_X10_keyTo_2 {n d : Nat} {S : GS} {a0 : Nat} {a1 : Int} {a2 : Nat} {a3 : Int} : f_X10_keyTo (n + 1) d 2 S [((a0 : Nat) : Int), a1, ((a2 : Nat) : Int), a3] = b_X10_keyTo_2 n d (f_X10_keyTo n) S a0 a1 a2 a3 := rfl

def b_X10_stepTo_0 (n d : Nat) (rec : Nat → Nat → GS → List Int → Option (Int × GS)) (S : GS) (a0 : Nat) (a1 : Int) (a2 : Nat) : Option (Int × GS) :=
  gg (1 ≤ d) <|
  gg (gSh (a2)) <|
  gc (f_X9_add n (d - 1) 0 S [((a2 : Nat) : Int), 47]) fun x3 S_4 =>
  gg (gT a0) <|
  gc (f_X10_ownerOf n (d - 1) 0 S_4 [((a0 : Nat) : Int), a1]) fun x7 S_8 =>
  gc (f_X10_is n (d - 1) 0 S_8 [((a0 : Nat) : Int), x7, 5]) fun x10 S_11 =>
  gg (inr x10) <|
  if x10 ≠ 0 then (
    rec d 35 S_11 [((a0 : Nat) : Int), a1, ((a2 : Nat) : Int), 0]
  ) else (
    gc (f_X10_placeOf n (d - 1) 0 S_11 [((a0 : Nat) : Int), a1]) fun x15 S_16 =>
    gg (inr x15) <|
    gv (max 0 x15) fun x19 =>
    gc (f_X9_addNumber n (d - 1) 0 S_16 [((a2 : Nat) : Int), x19]) fun x21 S_22 =>
    some (0, S_22)
  )
def b_X10_stepTo_35 (n d : Nat) (rec : Nat → Nat → GS → List Int → Option (Int × GS)) (S : GS) (a0 : Nat) (a1 : Int) (a2 : Nat) (a3 : Int) : Option (Int × GS) :=
  gg (1 ≤ d) <|
  gg (gT a0) <|
  gc (f_X10_keyLength n (d - 1) 0 S [((a0 : Nat) : Int), a1]) fun x3 S_4 =>
  gg (inr a3) <|
  gg (inr x3) <|
  if x3 ≤ a3 then (
    some (0, S_4)
  ) else (
    gc (f_X10_keySign n (d - 1) 0 S_4 [((a0 : Nat) : Int), a1, a3]) fun x9 S_10 =>
    gg (inr x9) <|
    if x9 = 126 then (
      rec d 66 S_10 [((a0 : Nat) : Int), a1, ((a2 : Nat) : Int), a3, x9]
    ) else (
      if x9 ≠ 47 then (
        gg (gSh (a2)) <|
        gc (f_X9_add n (d - 1) 0 S_10 [((a2 : Nat) : Int), x9]) fun x16 S_17 =>
        gv (a3 + 1) fun x19 =>
        rec d 35 S_17 [((a0 : Nat) : Int), a1, ((a2 : Nat) : Int), x19]
      ) else (
        rec d 66 S_10 [((a0 : Nat) : Int), a1, ((a2 : Nat) : Int), a3, x9]
      )
    )
  )
def b_X10_stepTo_66 (n d : Nat) (rec : Nat → Nat → GS → List Int → Option (Int × GS)) (S : GS) (a0 : Nat) (a1 : Int) (a2 : Nat) (a3 : Int) (a4 : Int) : Option (Int × GS) :=
  gg (1 ≤ d) <|
  gg (gSh (a2)) <|
  gc (f_X9_add n (d - 1) 0 S [((a2 : Nat) : Int), 126]) fun x3 S_4 =>
  gg (inr a4) <|
  if a4 ≠ 126 then (
    gc (f_X9_add n (d - 1) 0 S_4 [((a2 : Nat) : Int), 49]) fun x8 S_9 =>
    gv (a3 + 1) fun x11 =>
    rec d 35 S_9 [((a0 : Nat) : Int), a1, ((a2 : Nat) : Int), x11]
  ) else (
    gc (f_X9_add n (d - 1) 0 S_4 [((a2 : Nat) : Int), 48]) fun x13 S_14 =>
    gv (a3 + 1) fun x16 =>
    rec d 35 S_14 [((a0 : Nat) : Int), a1, ((a2 : Nat) : Int), x16]
  )
def f_X10_stepTo : Nat → Nat → Nat → GS → List Int → Option (Int × GS)
  | 0, _, _, _, _ => none
  | n + 1, d, pc, S, x => match pc, x with
    | 0, [a0, a1, a2] => b_X10_stepTo_0 n d (f_X10_stepTo n) S a0.toNat a1 a2.toNat
    | 35, [a0, a1, a2, a3] => b_X10_stepTo_35 n d (f_X10_stepTo n) S a0.toNat a1 a2.toNat a3
    | 66, [a0, a1, a2, a3, a4] => b_X10_stepTo_66 n d (f_X10_stepTo n) S a0.toNat a1 a2.toNat a3 a4
    | _, _ => none
theorem e_X10_stepTo_0 {n d : Nat} {S : GS} {a0 : Nat} {a1 : Int} {a2 : Nat} : f_X10_stepTo (n + 1) d 0 S [((a0 : Nat) : Int), a1, ((a2 : Nat) : Int)] = b_X10_stepTo_0 n d (f_X10_stepTo n) S a0 a1 a2 := rfl
theorem e_X10_stepTo_35 {n d : Nat} {S : GS} {a0 : Nat} {a1 : Int} {a2 : Nat} {a3 : Int} : f_X10_stepTo (n + 1) d 35 S [((a0 : Nat) : Int), a1, ((a2 : Nat) : Int), a3] = b_X10_stepTo_35 n d (f_X10_stepTo n) S a0 a1 a2 a3 := rfl
theorem e_X10_stepTo_66 {n d : Nat} {S : GS} {a0 : Nat} {a1 : Int} {a2 : Nat} {a3 : Int} {a4 : Int} : f_X10_stepTo (n + 1) d 66 S [((a0 : Nat) : Int), a1, ((a2 : Nat) : Int), a3, a4] = b_X10_stepTo_66 n d (f_X10_stepTo n) S a0 a1 a2 a3 a4 := rfl

def b_X10_pathTo_0 (n d : Nat) (rec : Nat → Nat → GS → List Int → Option (Int × GS)) (S : GS) (a0 : Nat) (a1 : Int) (a2 : Nat) : Option (Int × GS) :=
  rec d 2 S [((a0 : Nat) : Int), a1, ((a2 : Nat) : Int), 1]
def b_X10_pathTo_2 (n d : Nat) (rec : Nat → Nat → GS → List Int → Option (Int × GS)) (S : GS) (a0 : Nat) (a1 : Int) (a2 : Nat) (a3 : Int) : Option (Int × GS) :=
  gg (inr a3) <|
  gg (inr a1) <|
  if a1 < a3 then (
    some (0, S)
  ) else (
    gg (gT a0) <|
    gv (S.1 a0 7) fun x5 =>
    gg (inr x5) <|
    if x5 ≤ a3 then (
      some (0, S)
    ) else (
      gg (1 ≤ d) <|
      gc (f_X10_after n (d - 1) 0 S [((a0 : Nat) : Int), a3]) fun x10 S_11 =>
      gg (inr x10) <|
      if x10 ≤ a1 then (
        gv (a3 + 1) fun x15 =>
        rec d 2 S_11 [((a0 : Nat) : Int), a1, ((a2 : Nat) : Int), x15]
      ) else (
        gc (f_X10_stepTo n (d - 1) 0 S_11 [((a0 : Nat) : Int), a3, ((a2 : Nat) : Int)]) fun x17 S_18 =>
        gv (a3 + 1) fun x20 =>
        rec d 2 S_18 [((a0 : Nat) : Int), a1, ((a2 : Nat) : Int), x20]
      )
    )
  )
def f_X10_pathTo : Nat → Nat → Nat → GS → List Int → Option (Int × GS)
  | 0, _, _, _, _ => none
  | n + 1, d, pc, S, x => match pc, x with
    | 0, [a0, a1, a2] => b_X10_pathTo_0 n d (f_X10_pathTo n) S a0.toNat a1 a2.toNat
    | 2, [a0, a1, a2, a3] => b_X10_pathTo_2 n d (f_X10_pathTo n) S a0.toNat a1 a2.toNat a3
    | _, _ => none
theorem e_X10_pathTo_0 {n d : Nat} {S : GS} {a0 : Nat} {a1 : Int} {a2 : Nat} : f_X10_pathTo (n + 1) d 0 S [((a0 : Nat) : Int), a1, ((a2 : Nat) : Int)] = b_X10_pathTo_0 n d (f_X10_pathTo n) S a0 a1 a2 := rfl
theorem e_X10_pathTo_2 {n d : Nat} {S : GS} {a0 : Nat} {a1 : Int} {a2 : Nat} {a3 : Int} : f_X10_pathTo (n + 1) d 2 S [((a0 : Nat) : Int), a1, ((a2 : Nat) : Int), a3] = b_X10_pathTo_2 n d (f_X10_pathTo n) S a0 a1 a2 a3 := rfl

def b_X10_remove_0 (n d : Nat) (rec : Nat → Nat → GS → List Int → Option (Int × GS)) (S : GS) (a0 : Nat) (a1 : Int) : Option (Int × GS) :=
  gg (1 ≤ d) <|
  gg (gT a0) <|
  gc (f_X10_ownerOf n (d - 1) 0 S [((a0 : Nat) : Int), a1]) fun x3 S_4 =>
  gc (f_X10_size n (d - 1) 0 S_4 [((a0 : Nat) : Int), a1]) fun x6 S_7 =>
  gc (f_X10_splice n (d - 1) 0 S_7 [((a0 : Nat) : Int), x3, a1, x6, ((a0 : Nat) : Int), a1, 0]) fun x9 S_10 =>
  some (0, S_10)
def f_X10_remove : Nat → Nat → Nat → GS → List Int → Option (Int × GS)
  | 0, _, _, _, _ => none
  | n + 1, d, pc, S, x => match pc, x with
    | 0, [a0, a1] => b_X10_remove_0 n d (f_X10_remove n) S a0.toNat a1
    | _, _ => none
theorem e_X10_remove_0 {n d : Nat} {S : GS} {a0 : Nat} {a1 : Int} : f_X10_remove (n + 1) d 0 S [((a0 : Nat) : Int), a1] = b_X10_remove_0 n d (f_X10_remove n) S a0 a1 := rfl

def b_X10_replace_0 (n d : Nat) (rec : Nat → Nat → GS → List Int → Option (Int × GS)) (S : GS) (a0 : Nat) (a1 : Int) (a2 : Nat) (a3 : Int) : Option (Int × GS) :=
  gg (1 ≤ d) <|
  gg (gT a0) <|
  gc (f_X10_has n (d - 1) 0 S [((a0 : Nat) : Int), a1]) fun x3 S_4 =>
  gg (inr x3) <|
  if x3 = 0 then (
    gv (gB S_4 a0 8 (decide ((1 : Int) = 1))) fun S_8 =>
    some (0, S_8)
  ) else (
    gg (gT a2) <|
    gc (f_X10_has n (d - 1) 0 S_4 [((a2 : Nat) : Int), a3]) fun x11 S_12 =>
    gg (inr x11) <|
    if x11 ≠ 0 then (
      gv (a1 + 1) fun x16 =>
      gc (f_X10_size n (d - 1) 0 S_12 [((a0 : Nat) : Int), a1]) fun x18 S_19 =>
      gv (x18 - 1) fun x21 =>
      gv (a3 + 1) fun x23 =>
      gc (f_X10_size n (d - 1) 0 S_19 [((a2 : Nat) : Int), a3]) fun x25 S_26 =>
      gv (x25 - 1) fun x28 =>
      gc (f_X10_splice n (d - 1) 0 S_26 [((a0 : Nat) : Int), a1, x16, x21, ((a2 : Nat) : Int), x23, x28]) fun x30 S_31 =>
      gg (inr x30) <|
      if x30 = 0 then (
        some (0, S_31)
      ) else (
        gg (0 ≤ a3 ∧ a3 < ((100 : Nat) : Int) ∧ a3 < 2147483648) <|
        gv (S_31.1 (a2 + 1) (a3 : Int).toNat) fun x36 =>
        gg (0 ≤ a1 ∧ a1 < ((100 : Nat) : Int) ∧ a1 < 2147483648) <|
        gv (gI S_31 (a0 + 1) (a1 : Int).toNat x36) fun S_39 =>
        gv (S_39.1 (a2 + 3) (a3 : Int).toNat) fun x41 =>
        gv (gI S_39 (a0 + 3) (a1 : Int).toNat x41) fun S_43 =>
        gv (S_43.1 (a2 + 4) (a3 : Int).toNat) fun x45 =>
        gv (gI S_43 (a0 + 4) (a1 : Int).toNat x45) fun S_47 =>
        gv (a3 * 40) fun x49 =>
        gv (a1 * 40) fun x51 =>
        gg ((0 : Int) ≤ x49 ∧ (0 : Int) ≤ x51 ∧ (0 : Int) ≤ 40 ∧ x49 + 40 ≤ ((4000 : Nat) : Int) ∧ x51 + 40 ≤ ((4000 : Nat) : Int) ∧ 4000 < 2147483648 ∧ 4000 < 2147483648) <|
        gg (∀ i, i < (40 : Int).toNat → 0 ≤ S_47.1 (a2 + 5) ((x49 : Int).toNat + i) ∧ S_47.1 (a2 + 5) ((x49 : Int).toNat + i) < 65536) <|
        gv (gCp S_47 (a0 + 5) (a2 + 5) x51 x49 40) fun S_55 =>
        some (0, S_55)
      )
    ) else (
      gv (gB S_12 a0 8 (decide ((1 : Int) = 1))) fun S_57 =>
      some (0, S_57)
    )
  )
def f_X10_replace : Nat → Nat → Nat → GS → List Int → Option (Int × GS)
  | 0, _, _, _, _ => none
  | n + 1, d, pc, S, x => match pc, x with
    | 0, [a0, a1, a2, a3] => b_X10_replace_0 n d (f_X10_replace n) S a0.toNat a1 a2.toNat a3
    | _, _ => none
theorem e_X10_replace_0 {n d : Nat} {S : GS} {a0 : Nat} {a1 : Int} {a2 : Nat} {a3 : Int} : f_X10_replace (n + 1) d 0 S [((a0 : Nat) : Int), a1, ((a2 : Nat) : Int), a3] = b_X10_replace_0 n d (f_X10_replace n) S a0 a1 a2 a3 := rfl

def b_X10_replaceByLast_0 (n d : Nat) (rec : Nat → Nat → GS → List Int → Option (Int × GS)) (S : GS) (a0 : Nat) (a1 : Int) (a2 : Int) (a3 : Nat) : Option (Int × GS) :=
  gg (1 ≤ d) <|
  gg (gT a3) <|
  gc (f_X10_copyOf n (d - 1) 0 S [((a3 : Nat) : Int), ((a0 : Nat) : Int), a2]) fun x3 S_4 =>
  gg (gT a0) <|
  gc (f_X10_dropFrom n (d - 1) 0 S_4 [((a0 : Nat) : Int), a2]) fun x7 S_8 =>
  gc (f_X10_replace n (d - 1) 0 S_8 [((a0 : Nat) : Int), a1, ((a3 : Nat) : Int), 0]) fun x10 S_11 =>
  some (0, S_11)
def f_X10_replaceByLast : Nat → Nat → Nat → GS → List Int → Option (Int × GS)
  | 0, _, _, _, _ => none
  | n + 1, d, pc, S, x => match pc, x with
    | 0, [a0, a1, a2, a3] => b_X10_replaceByLast_0 n d (f_X10_replaceByLast n) S a0.toNat a1 a2 a3.toNat
    | _, _ => none
theorem e_X10_replaceByLast_0 {n d : Nat} {S : GS} {a0 : Nat} {a1 : Int} {a2 : Int} {a3 : Nat} : f_X10_replaceByLast (n + 1) d 0 S [((a0 : Nat) : Int), a1, a2, ((a3 : Nat) : Int)] = b_X10_replaceByLast_0 n d (f_X10_replaceByLast n) S a0 a1 a2 a3 := rfl

def b_X10_setKey_0 (n d : Nat) (rec : Nat → Nat → GS → List Int → Option (Int × GS)) (S : GS) (a0 : Nat) (a1 : Int) (a2 : Nat) : Option (Int × GS) :=
  gg (1 ≤ d) <|
  gg (gT a0) <|
  gc (f_X10_clearKey n (d - 1) 0 S [((a0 : Nat) : Int), a1]) fun x3 S_4 =>
  rec d 7 S_4 [((a0 : Nat) : Int), a1, ((a2 : Nat) : Int), 0]
def b_X10_setKey_7 (n d : Nat) (rec : Nat → Nat → GS → List Int → Option (Int × GS)) (S : GS) (a0 : Nat) (a1 : Int) (a2 : Nat) (a3 : Int) : Option (Int × GS) :=
  gg (1 ≤ d) <|
  gg (gSh (a2)) <|
  gc (f_X9_length n (d - 1) 0 S [((a2 : Nat) : Int)]) fun x3 S_4 =>
  gg (inr a3) <|
  gg (inr x3) <|
  if x3 ≤ a3 then (
    some (0, S_4)
  ) else (
    gc (f_X9_at n (d - 1) 0 S_4 [((a2 : Nat) : Int), a3]) fun x9 S_10 =>
    gg (gT a0) <|
    gc (f_X10_addKeySign n (d - 1) 0 S_10 [((a0 : Nat) : Int), a1, x9]) fun x13 S_14 =>
    gv (a3 + 1) fun x16 =>
    rec d 7 S_14 [((a0 : Nat) : Int), a1, ((a2 : Nat) : Int), x16]
  )
def f_X10_setKey : Nat → Nat → Nat → GS → List Int → Option (Int × GS)
  | 0, _, _, _, _ => none
  | n + 1, d, pc, S, x => match pc, x with
    | 0, [a0, a1, a2] => b_X10_setKey_0 n d (f_X10_setKey n) S a0.toNat a1 a2.toNat
    | 7, [a0, a1, a2, a3] => b_X10_setKey_7 n d (f_X10_setKey n) S a0.toNat a1 a2.toNat a3
    | _, _ => none
theorem e_X10_setKey_0 {n d : Nat} {S : GS} {a0 : Nat} {a1 : Int} {a2 : Nat} : f_X10_setKey (n + 1) d 0 S [((a0 : Nat) : Int), a1, ((a2 : Nat) : Int)] = b_X10_setKey_0 n d (f_X10_setKey n) S a0 a1 a2 := rfl
theorem e_X10_setKey_7 {n d : Nat} {S : GS} {a0 : Nat} {a1 : Int} {a2 : Nat} {a3 : Int} : f_X10_setKey (n + 1) d 7 S [((a0 : Nat) : Int), a1, ((a2 : Nat) : Int), a3] = b_X10_setKey_7 n d (f_X10_setKey n) S a0 a1 a2 a3 := rfl

def b_X10_setKeyLike_0 (n d : Nat) (rec : Nat → Nat → GS → List Int → Option (Int × GS)) (S : GS) (a0 : Nat) (a1 : Int) (a2 : Nat) (a3 : Int) : Option (Int × GS) :=
  gg (1 ≤ d) <|
  gg (gT a0) <|
  gc (f_X10_clearKey n (d - 1) 0 S [((a0 : Nat) : Int), a1]) fun x3 S_4 =>
  rec d 8 S_4 [((a0 : Nat) : Int), a1, ((a2 : Nat) : Int), a3, 0]
def b_X10_setKeyLike_8 (n d : Nat) (rec : Nat → Nat → GS → List Int → Option (Int × GS)) (S : GS) (a0 : Nat) (a1 : Int) (a2 : Nat) (a3 : Int) (a4 : Int) : Option (Int × GS) :=
  gg (1 ≤ d) <|
  gg (gT a2) <|
  gc (f_X10_keyLength n (d - 1) 0 S [((a2 : Nat) : Int), a3]) fun x3 S_4 =>
  gg (inr a4) <|
  gg (inr x3) <|
  if x3 ≤ a4 then (
    some (0, S_4)
  ) else (
    gc (f_X10_keySign n (d - 1) 0 S_4 [((a2 : Nat) : Int), a3, a4]) fun x9 S_10 =>
    gg (gT a0) <|
    gc (f_X10_addKeySign n (d - 1) 0 S_10 [((a0 : Nat) : Int), a1, x9]) fun x13 S_14 =>
    gv (a4 + 1) fun x16 =>
    rec d 8 S_14 [((a0 : Nat) : Int), a1, ((a2 : Nat) : Int), a3, x16]
  )
def f_X10_setKeyLike : Nat → Nat → Nat → GS → List Int → Option (Int × GS)
  | 0, _, _, _, _ => none
  | n + 1, d, pc, S, x => match pc, x with
    | 0, [a0, a1, a2, a3] => b_X10_setKeyLike_0 n d (f_X10_setKeyLike n) S a0.toNat a1 a2.toNat a3
    | 8, [a0, a1, a2, a3, a4] => b_X10_setKeyLike_8 n d (f_X10_setKeyLike n) S a0.toNat a1 a2.toNat a3 a4
    | _, _ => none
theorem e_X10_setKeyLike_0 {n d : Nat} {S : GS} {a0 : Nat} {a1 : Int} {a2 : Nat} {a3 : Int} : f_X10_setKeyLike (n + 1) d 0 S [((a0 : Nat) : Int), a1, ((a2 : Nat) : Int), a3] = b_X10_setKeyLike_0 n d (f_X10_setKeyLike n) S a0 a1 a2 a3 := rfl
theorem e_X10_setKeyLike_8 {n d : Nat} {S : GS} {a0 : Nat} {a1 : Int} {a2 : Nat} {a3 : Int} {a4 : Int} : f_X10_setKeyLike (n + 1) d 8 S [((a0 : Nat) : Int), a1, ((a2 : Nat) : Int), a3, a4] = b_X10_setKeyLike_8 n d (f_X10_setKeyLike n) S a0 a1 a2 a3 a4 := rfl

def b_X10_setKeyWord_0 (n d : Nat) (rec : Nat → Nat → GS → List Int → Option (Int × GS)) (S : GS) (a0 : Nat) (a1 : Int) (a2 : Nat) : Option (Int × GS) :=
  gg (1 ≤ d) <|
  gg (gT a0) <|
  gc (f_X10_clearKey n (d - 1) 0 S [((a0 : Nat) : Int), a1]) fun x3 S_4 =>
  rec d 7 S_4 [((a0 : Nat) : Int), a1, ((a2 : Nat) : Int), 0]
def b_X10_setKeyWord_7 (n d : Nat) (rec : Nat → Nat → GS → List Int → Option (Int × GS)) (S : GS) (a0 : Nat) (a1 : Int) (a2 : Nat) (a3 : Int) : Option (Int × GS) :=
  gg (a2 < 54) <|
  gg (2 ≤ d) <|
  gv (((xlen.getD a2 0 : Nat) : Int)) fun x3 =>
  gg (inr a3) <|
  gg (inr x3) <|
  if x3 ≤ a3 then (
    some (0, S)
  ) else (
    gg (4 ≤ d) <|
    gg (0 ≤ a3 ∧ a3 < ((xlen.getD a2 0 : Nat) : Int)) <|
    gv (xch a2 (a3 : Int).toNat) fun x10 =>
    gg (1 ≤ d) <|
    gg (gT a0) <|
    gc (f_X10_addKeySign n (d - 1) 0 S [((a0 : Nat) : Int), a1, x10]) fun x14 S_15 =>
    gv (a3 + 1) fun x17 =>
    rec d 7 S_15 [((a0 : Nat) : Int), a1, ((a2 : Nat) : Int), x17]
  )
def f_X10_setKeyWord : Nat → Nat → Nat → GS → List Int → Option (Int × GS)
  | 0, _, _, _, _ => none
  | n + 1, d, pc, S, x => match pc, x with
    | 0, [a0, a1, a2] => b_X10_setKeyWord_0 n d (f_X10_setKeyWord n) S a0.toNat a1 a2.toNat
    | 7, [a0, a1, a2, a3] => b_X10_setKeyWord_7 n d (f_X10_setKeyWord n) S a0.toNat a1 a2.toNat a3
    | _, _ => none
theorem e_X10_setKeyWord_0 {n d : Nat} {S : GS} {a0 : Nat} {a1 : Int} {a2 : Nat} : f_X10_setKeyWord (n + 1) d 0 S [((a0 : Nat) : Int), a1, ((a2 : Nat) : Int)] = b_X10_setKeyWord_0 n d (f_X10_setKeyWord n) S a0 a1 a2 := rfl
theorem e_X10_setKeyWord_7 {n d : Nat} {S : GS} {a0 : Nat} {a1 : Int} {a2 : Nat} {a3 : Int} : f_X10_setKeyWord (n + 1) d 7 S [((a0 : Nat) : Int), a1, ((a2 : Nat) : Int), a3] = b_X10_setKeyWord_7 n d (f_X10_setKeyWord n) S a0 a1 a2 a3 := rfl

def b_X10_valueAt_0 (n d : Nat) (rec : Nat → Nat → GS → List Int → Option (Int × GS)) (S : GS) (a0 : Nat) (a1 : Int) (a2 : Int) : Option (Int × GS) :=
  gg (1 ≤ d) <|
  gg (gT a0) <|
  gc (f_X10_first n (d - 1) 0 S [((a0 : Nat) : Int), a1]) fun x3 S_4 =>
  rec d 9 S_4 [((a0 : Nat) : Int), a1, a2, x3, 0]
def b_X10_valueAt_9 (n d : Nat) (rec : Nat → Nat → GS → List Int → Option (Int × GS)) (S : GS) (a0 : Nat) (a1 : Int) (a2 : Int) (a3 : Int) (a4 : Int) : Option (Int × GS) :=
  gg (inr a3) <|
  if a3 = (-1) then (
    some ((-1), S)
  ) else (
    gg (inr a4) <|
    if 100 ≤ a4 then (
      some ((-1), S)
    ) else (
      gg (inr a2) <|
      if a4 ≠ a2 then (
        gg (1 ≤ d) <|
        gg (gT a0) <|
        gc (f_X10_next n (d - 1) 0 S [((a0 : Nat) : Int), a1, a3]) fun x9 S_10 =>
        gv (a4 + 1) fun x12 =>
        rec d 9 S_10 [((a0 : Nat) : Int), a1, a2, x9, x12]
      ) else (
        some (a3, S)
      )
    )
  )
def f_X10_valueAt : Nat → Nat → Nat → GS → List Int → Option (Int × GS)
  | 0, _, _, _, _ => none
  | n + 1, d, pc, S, x => match pc, x with
    | 0, [a0, a1, a2] => b_X10_valueAt_0 n d (f_X10_valueAt n) S a0.toNat a1 a2
    | 9, [a0, a1, a2, a3, a4] => b_X10_valueAt_9 n d (f_X10_valueAt n) S a0.toNat a1 a2 a3 a4
    | _, _ => none
theorem e_X10_valueAt_0 {n d : Nat} {S : GS} {a0 : Nat} {a1 : Int} {a2 : Int} : f_X10_valueAt (n + 1) d 0 S [((a0 : Nat) : Int), a1, a2] = b_X10_valueAt_0 n d (f_X10_valueAt n) S a0 a1 a2 := rfl
theorem e_X10_valueAt_9 {n d : Nat} {S : GS} {a0 : Nat} {a1 : Int} {a2 : Int} {a3 : Int} {a4 : Int} : f_X10_valueAt (n + 1) d 9 S [((a0 : Nat) : Int), a1, a2, a3, a4] = b_X10_valueAt_9 n d (f_X10_valueAt n) S a0 a1 a2 a3 a4 := rfl

def b_X11_admit_0 (n d : Nat) (rec : Nat → Nat → GS → List Int → Option (Int × GS)) (S : GS) (a1 : Nat) : Option (Int × GS) :=
  gv (S.1 468 14) fun x1 =>
  gg (inr x1) <|
  if x1 < 0 then (
    some (exB + 2, S)
  ) else (
    gv (S.1 468 14) fun x5 =>
    gg (inr x5) <|
    gg (inr ((40 : Nat) : Int)) <|
    if ((40 : Nat) : Int) ≤ x5 then (
      some (exB + 2, S)
    ) else (
      gv (S.1 468 14) fun x10 =>
      gg (0 ≤ x10 ∧ x10 < 40) <|
      gg (1 ≤ d) <|
      gg (gT a1) <|
      gc (f_X10_isDocument n (d - 1) 0 S [((a1 : Nat) : Int)]) fun x15 S_16 =>
      gg (inr x15) <|
      if x15 ≠ 0 then (
        gg (gT (8 * (x10 : Int).toNat)) <|
        gc (f_X10_copyOf n (d - 1) 0 S_16 [(((8 * (x10 : Int).toNat) : Nat) : Int), ((a1 : Nat) : Int), 0]) fun x21 S_22 =>
        gv (S_22.1 468 14) fun x24 =>
        gv (x24 + 1) fun x26 =>
        gv (gI S_22 468 14 x26) fun S_28 =>
        gv (S_28.1 468 14) fun x30 =>
        gv (x30 - 1) fun x32 =>
        gg (x32 < exB) <|
        some (x32, S_28)
      ) else (
        some (exB + 2, S_16)
      )
    )
  )
def f_X11_admit : Nat → Nat → Nat → GS → List Int → Option (Int × GS)
  | 0, _, _, _, _ => none
  | n + 1, d, pc, S, x => match pc, x with
    | 0, [a1] => b_X11_admit_0 n d (f_X11_admit n) S a1.toNat
    | _, _ => none
theorem e_X11_admit_0 {n d : Nat} {S : GS} {a1 : Nat} : f_X11_admit (n + 1) d 0 S [((a1 : Nat) : Int)] = b_X11_admit_0 n d (f_X11_admit n) S a1 := rfl

def b_X11_document_0 (n d : Nat) (rec : Nat → Nat → GS → List Int → Option (Int × GS)) (S : GS) (a1 : Int) : Option (Int × GS) :=
  gg (inr a1) <|
  if a1 < 0 then (
    some (exB + 3, S)
  ) else (
    gv (S.1 468 14) fun x3 =>
    gg (inr x3) <|
    if x3 ≤ a1 then (
      some (exB + 3, S)
    ) else (
      gg (inr ((40 : Nat) : Int)) <|
      if ((40 : Nat) : Int) ≤ a1 then (
        some (exB + 3, S)
      ) else (
        gg (0 ≤ a1 ∧ a1 < 40) <|
        gg ((((8 * (a1 : Int).toNat) : Nat) : Int) < exB) <|
        some ((((8 * (a1 : Int).toNat) : Nat) : Int), S)
      )
    )
  )
def f_X11_document : Nat → Nat → Nat → GS → List Int → Option (Int × GS)
  | 0, _, _, _, _ => none
  | n + 1, d, pc, S, x => match pc, x with
    | 0, [a1] => b_X11_document_0 n d (f_X11_document n) S a1
    | _, _ => none
theorem e_X11_document_0 {n d : Nat} {S : GS} {a1 : Int} : f_X11_document (n + 1) d 0 S [a1] = b_X11_document_0 n d (f_X11_document n) S a1 := rfl

def b_X11_allNodes_0 (n d : Nat) (rec : Nat → Nat → GS → List Int → Option (Int × GS)) (S : GS) : Option (Int × GS) :=
  rec d 4 S [0, 0]
def b_X11_allNodes_4 (n d : Nat) (rec : Nat → Nat → GS → List Int → Option (Int × GS)) (S : GS) (a1 : Int) (a2 : Int) : Option (Int × GS) :=
  gv (S.1 468 14) fun x1 =>
  gg (inr a2) <|
  gg (inr x1) <|
  if x1 ≤ a2 then (
    gg (a1 < exB) <|
    some (a1, S)
  ) else (
    gg (1 ≤ d) <|
    gc (f_X11_document n (d - 1) 0 S [a2]) fun x8 S_9 =>
    if x8 < exB then (
    gg (gT (x8.toNat)) <|
    gc (f_X10_count n (d - 1) 0 S_9 [((x8.toNat : Nat) : Int)]) fun x13 S_14 =>
    gv (a1 + x13) fun x16 =>
    gv (a2 + 1) fun x18 =>
    rec d 4 S_14 [x16, x18]
    ) else some (x8, S_9)
  )
def f_X11_allNodes : Nat → Nat → Nat → GS → List Int → Option (Int × GS)
  | 0, _, _, _, _ => none
  | n + 1, d, pc, S, x => match pc, x with
    | 0, [] => b_X11_allNodes_0 n d (f_X11_allNodes n) S 
    | 4, [a1, a2] => b_X11_allNodes_4 n d (f_X11_allNodes n) S a1 a2
    | _, _ => none
theorem e_X11_allNodes_0 {n d : Nat} {S : GS} : f_X11_allNodes (n + 1) d 0 S [] = b_X11_allNodes_0 n d (f_X11_allNodes n) S  := rfl
theorem e_X11_allNodes_4 {n d : Nat} {S : GS} {a1 : Int} {a2 : Int} : f_X11_allNodes (n + 1) d 4 S [a1, a2] = b_X11_allNodes_4 n d (f_X11_allNodes n) S a1 a2 := rfl

def b_X11_letterAt_0 (n d : Nat) (rec : Nat → Nat → GS → List Int → Option (Int × GS)) (S : GS) (a0 : Int) (a2 : Int) : Option (Int × GS) :=
  gv (8 * a2) fun x1 =>
  gg (0 ≤ x1 ∧ x1 < 64) <|
  gv (a0 % 18446744073709551616 / ((2 ^ (x1 : Int).toNat : Nat) : Int)) fun x4 =>
  gv (x4 % 256) fun x6 =>
  some (x6, S)
def f_X11_letterAt : Nat → Nat → Nat → GS → List Int → Option (Int × GS)
  | 0, _, _, _, _ => none
  | n + 1, d, pc, S, x => match pc, x with
    | 0, [a0, a2] => b_X11_letterAt_0 n d (f_X11_letterAt n) S a0 a2
    | _, _ => none
theorem e_X11_letterAt_0 {n d : Nat} {S : GS} {a0 : Int} {a2 : Int} : f_X11_letterAt (n + 1) d 0 S [a0, a2] = b_X11_letterAt_0 n d (f_X11_letterAt n) S a0 a2 := rfl

def b_X11_areSigns_0 (n d : Nat) (rec : Nat → Nat → GS → List Int → Option (Int × GS)) (S : GS) (a0 : Int) (a1 : Int) : Option (Int × GS) :=
  gg (inr a0) <|
  if 8 ≤ a0 then (
    rec d 21 S [a0, a1, 0]
  ) else (
    gv (8 * a0) fun x3 =>
    gg (0 ≤ x3 ∧ x3 < 64) <|
    gv (a1 % 18446744073709551616 / ((2 ^ (x3 : Int).toNat : Nat) : Int)) fun x6 =>
    gg (inl x6) <|
    gv (lsg x6 0) fun x9 =>
    gg (inr x9) <|
    if x9 = 0 then (
      rec d 21 S [a0, a1, 0]
    ) else (
      some (0, S)
    )
  )
def b_X11_areSigns_21 (n d : Nat) (rec : Nat → Nat → GS → List Int → Option (Int × GS)) (S : GS) (a0 : Int) (a1 : Int) (a3 : Int) : Option (Int × GS) :=
  gg (inr a3) <|
  gg (inr a0) <|
  if a0 ≤ a3 then (
    some (1, S)
  ) else (
    gg (1 ≤ d) <|
    gc (f_X11_letterAt n (d - 1) 0 S [a1, a3]) fun x5 S_6 =>
    gg (inr x5) <|
    if x5 = 10 then (
      gv (a3 + 1) fun x10 =>
      rec d 21 S_6 [a0, a1, x10]
    ) else (
      if x5 < 32 then (
        some (0, S_6)
      ) else (
        if x5 ≤ 126 then (
          gv (a3 + 1) fun x14 =>
          rec d 21 S_6 [a0, a1, x14]
        ) else (
          some (0, S_6)
        )
      )
    )
  )
def f_X11_areSigns : Nat → Nat → Nat → GS → List Int → Option (Int × GS)
  | 0, _, _, _, _ => none
  | n + 1, d, pc, S, x => match pc, x with
    | 0, [a0, a1] => b_X11_areSigns_0 n d (f_X11_areSigns n) S a0 a1
    | 21, [a0, a1, a3] => b_X11_areSigns_21 n d (f_X11_areSigns n) S a0 a1 a3
    | _, _ => none
theorem e_X11_areSigns_0 {n d : Nat} {S : GS} {a0 : Int} {a1 : Int} : f_X11_areSigns (n + 1) d 0 S [a0, a1] = b_X11_areSigns_0 n d (f_X11_areSigns n) S a0 a1 := rfl
theorem e_X11_areSigns_21 {n d : Nat} {S : GS} {a0 : Int} {a1 : Int} {a3 : Int} : f_X11_areSigns (n + 1) d 21 S [a0, a1, a3] = b_X11_areSigns_21 n d (f_X11_areSigns n) S a0 a1 a3 := rfl

def b_X11_canTell_0 (n d : Nat) (rec : Nat → Nat → GS → List Int → Option (Int × GS)) (S : GS) (a0 : Nat) (a1 : Int) (a2 : Int) : Option (Int × GS) :=
  gg (inr a2) <|
  if a2 = 0 then (
    gg (1 ≤ d) <|
    gg (gT a0) <|
    gc (f_X10_is n (d - 1) 0 S [((a0 : Nat) : Int), a1, 3]) fun x5 S_6 =>
    gg (x5 = 0 ∨ x5 = 1) <|
    some (x5, S_6)
  ) else (
  if a2 = 1 then (
    gg (1 ≤ d) <|
    gg (gT a0) <|
    gc (f_X10_is n (d - 1) 0 S [((a0 : Nat) : Int), a1, 2]) fun x12 S_13 =>
    gg (x12 = 0 ∨ x12 = 1) <|
    some (x12, S_13)
  ) else (
  if a2 = 2 then (
    gg (1 ≤ d) <|
    gg (gT a0) <|
    gc (f_X10_ownerOf n (d - 1) 0 S [((a0 : Nat) : Int), a1]) fun x19 S_20 =>
    gc (f_X10_is n (d - 1) 0 S_20 [((a0 : Nat) : Int), x19, 5]) fun x22 S_23 =>
    gg (x22 = 0 ∨ x22 = 1) <|
    some (x22, S_23)
  ) else (
  some (1, S)
  )))
def f_X11_canTell : Nat → Nat → Nat → GS → List Int → Option (Int × GS)
  | 0, _, _, _, _ => none
  | n + 1, d, pc, S, x => match pc, x with
    | 0, [a0, a1, a2] => b_X11_canTell_0 n d (f_X11_canTell n) S a0.toNat a1 a2
    | _, _ => none
theorem e_X11_canTell_0 {n d : Nat} {S : GS} {a0 : Nat} {a1 : Int} {a2 : Int} : f_X11_canTell (n + 1) d 0 S [((a0 : Nat) : Int), a1, a2] = b_X11_canTell_0 n d (f_X11_canTell n) S a0 a1 a2 := rfl

def b_X11_check_0 (n d : Nat) (rec : Nat → Nat → GS → List Int → Option (Int × GS)) (S : GS) (a1 : Int) (a2 : Int) : Option (Int × GS) :=
  gg (1 ≤ d) <|
  gc (f_X11_document n (d - 1) 0 S [a1]) fun x2 S_3 =>
  if x2 < exB then (
  gc (f_X11_document n (d - 1) 0 S_3 [a2]) fun x6 S_7 =>
  if x6 < exB then (
  gc (f_X0_agrees n (d - 1) 0 S_7 [((328 : Nat) : Int), ((x2.toNat : Nat) : Int)]) fun x10 S_11 =>
  gg (inr x10) <|
  if x10 = 0 then (
    some (exB + 2, S_11)
  ) else (
    gc (f_X0_examine n (d - 1) 0 S_11 [((x2.toNat : Nat) : Int), ((x6.toNat : Nat) : Int)]) fun x15 S_16 =>
    gg (inr x15) <|
    if x15 ≠ 0 then (
      gc (f_X0_count n (d - 1) 0 S_16 []) fun x20 S_21 =>
      gg (x20 < exB) <|
      some (x20, S_21)
    ) else (
      some (exB + 2, S_16)
    )
  )
  ) else some (x6, S_7)
  ) else some (x2, S_3)
def f_X11_check : Nat → Nat → Nat → GS → List Int → Option (Int × GS)
  | 0, _, _, _, _ => none
  | n + 1, d, pc, S, x => match pc, x with
    | 0, [a1, a2] => b_X11_check_0 n d (f_X11_check n) S a1 a2
    | _, _ => none
theorem e_X11_check_0 {n d : Nat} {S : GS} {a1 : Int} {a2 : Int} : f_X11_check (n + 1) d 0 S [a1, a2] = b_X11_check_0 n d (f_X11_check n) S a1 a2 := rfl

def b_X11_documentWith_0 (n d : Nat) (rec : Nat → Nat → GS → List Int → Option (Int × GS)) (S : GS) (a1 : Int) (a2 : Int) : Option (Int × GS) :=
  gg (1 ≤ d) <|
  gc (f_X11_document n (d - 1) 0 S [a1]) fun x2 S_3 =>
  if x2 < exB then (
  gg (gT (x2.toNat)) <|
  gc (f_X10_has n (d - 1) 0 S_3 [((x2.toNat : Nat) : Int), a2]) fun x7 S_8 =>
  gg (inr x7) <|
  if x7 ≠ 0 then (
    gg (((x2.toNat : Nat) : Int) < exB) <|
    some (((x2.toNat : Nat) : Int), S_8)
  ) else (
    some (exB + 3, S_8)
  )
  ) else some (x2, S_3)
def f_X11_documentWith : Nat → Nat → Nat → GS → List Int → Option (Int × GS)
  | 0, _, _, _, _ => none
  | n + 1, d, pc, S, x => match pc, x with
    | 0, [a1, a2] => b_X11_documentWith_0 n d (f_X11_documentWith n) S a1 a2
    | _, _ => none
theorem e_X11_documentWith_0 {n d : Nat} {S : GS} {a1 : Int} {a2 : Int} : f_X11_documentWith (n + 1) d 0 S [a1, a2] = b_X11_documentWith_0 n d (f_X11_documentWith n) S a1 a2 := rfl

def b_X9_addAll_0 (n d : Nat) (rec : Nat → Nat → GS → List Int → Option (Int × GS)) (S : GS) (a0 : Nat) (a1 : Nat) : Option (Int × GS) :=
  rec d 2 S [((a0 : Nat) : Int), ((a1 : Nat) : Int), 0]
def b_X9_addAll_2 (n d : Nat) (rec : Nat → Nat → GS → List Int → Option (Int × GS)) (S : GS) (a0 : Nat) (a1 : Nat) (a2 : Int) : Option (Int × GS) :=
  gg (a1 < 54) <|
  gg (2 ≤ d) <|
  gv (((xlen.getD a1 0 : Nat) : Int)) fun x3 =>
  gg (inr a2) <|
  gg (inr x3) <|
  if x3 ≤ a2 then (
    some (0, S)
  ) else (
    gg (4 ≤ d) <|
    gg (0 ≤ a2 ∧ a2 < ((xlen.getD a1 0 : Nat) : Int)) <|
    gv (xch a1 (a2 : Int).toNat) fun x10 =>
    gg (1 ≤ d) <|
    gg (gSh (a0)) <|
    gc (f_X9_add n (d - 1) 0 S [((a0 : Nat) : Int), x10]) fun x14 S_15 =>
    gv (a2 + 1) fun x17 =>
    rec d 2 S_15 [((a0 : Nat) : Int), ((a1 : Nat) : Int), x17]
  )
def f_X9_addAll : Nat → Nat → Nat → GS → List Int → Option (Int × GS)
  | 0, _, _, _, _ => none
  | n + 1, d, pc, S, x => match pc, x with
    | 0, [a0, a1] => b_X9_addAll_0 n d (f_X9_addAll n) S a0.toNat a1.toNat
    | 2, [a0, a1, a2] => b_X9_addAll_2 n d (f_X9_addAll n) S a0.toNat a1.toNat a2
    | _, _ => none
theorem e_X9_addAll_0 {n d : Nat} {S : GS} {a0 : Nat} {a1 : Nat} : f_X9_addAll (n + 1) d 0 S [((a0 : Nat) : Int), ((a1 : Nat) : Int)] = b_X9_addAll_0 n d (f_X9_addAll n) S a0 a1 := rfl
theorem e_X9_addAll_2 {n d : Nat} {S : GS} {a0 : Nat} {a1 : Nat} {a2 : Int} : f_X9_addAll (n + 1) d 2 S [((a0 : Nat) : Int), ((a1 : Nat) : Int), a2] = b_X9_addAll_2 n d (f_X9_addAll n) S a0 a1 a2 := rfl

def b_X8_number_0 (n d : Nat) (rec : Nat → Nat → GS → List Int → Option (Int × GS)) (S : GS) (a0 : Nat) (a1 : Int) (a2 : Nat) : Option (Int × GS) :=
  gg (1 ≤ d) <|
  gg (gT a0) <|
  gc (f_X10_signsTo n (d - 1) 0 S [((a0 : Nat) : Int), a1, ((a2 : Nat) : Int)]) fun x3 S_4 =>
  gc (f_X10_power n (d - 1) 0 S_4 [((a0 : Nat) : Int), a1]) fun x6 S_7 =>
  gg (inr x6) <|
  if x6 = 0 then (
    some (0, S_7)
  ) else (
    gg (gSh (a2)) <|
    gc (f_X9_add n (d - 1) 0 S_7 [((a2 : Nat) : Int), 101]) fun x12 S_13 =>
    gc (f_X10_power n (d - 1) 0 S_13 [((a0 : Nat) : Int), a1]) fun x15 S_16 =>
    gc (f_X9_addNumber n (d - 1) 0 S_16 [((a2 : Nat) : Int), x15]) fun x18 S_19 =>
    some (0, S_19)
  )
def f_X8_number : Nat → Nat → Nat → GS → List Int → Option (Int × GS)
  | 0, _, _, _, _ => none
  | n + 1, d, pc, S, x => match pc, x with
    | 0, [a0, a1, a2] => b_X8_number_0 n d (f_X8_number n) S a0.toNat a1 a2.toNat
    | _, _ => none
theorem e_X8_number_0 {n d : Nat} {S : GS} {a0 : Nat} {a1 : Int} {a2 : Nat} : f_X8_number (n + 1) d 0 S [((a0 : Nat) : Int), a1, ((a2 : Nat) : Int)] = b_X8_number_0 n d (f_X8_number n) S a0 a1 a2 := rfl

def b_X9_addWritten_0 (n d : Nat) (rec : Nat → Nat → GS → List Int → Option (Int × GS)) (S : GS) (a0 : Nat) (a1 : Int) : Option (Int × GS) :=
  gg (inr a1) <|
  if a1 < 32 then (
    rec d 36 S [((a0 : Nat) : Int), a1]
  ) else (
    if 126 < a1 then (
      rec d 36 S [((a0 : Nat) : Int), a1]
    ) else (
      if a1 = 34 then (
        gg (1 ≤ d) <|
        gg (gSh (a0)) <|
        gc (f_X9_add n (d - 1) 0 S [((a0 : Nat) : Int), 92]) fun x7 S_8 =>
        gc (f_X9_add n (d - 1) 0 S_8 [((a0 : Nat) : Int), a1]) fun x10 S_11 =>
        some (0, S_11)
      ) else (
        if a1 ≠ 92 then (
          gg (1 ≤ d) <|
          gg (gSh (a0)) <|
          gc (f_X9_add n (d - 1) 0 S [((a0 : Nat) : Int), a1]) fun x16 S_17 =>
          some (0, S_17)
        ) else (
          gg (1 ≤ d) <|
          gg (gSh (a0)) <|
          gc (f_X9_add n (d - 1) 0 S [((a0 : Nat) : Int), 92]) fun x21 S_22 =>
          gc (f_X9_add n (d - 1) 0 S_22 [((a0 : Nat) : Int), a1]) fun x24 S_25 =>
          some (0, S_25)
        )
      )
    )
  )
def b_X9_addWritten_36 (n d : Nat) (rec : Nat → Nat → GS → List Int → Option (Int × GS)) (S : GS) (a0 : Nat) (a1 : Int) : Option (Int × GS) :=
  gg (1 ≤ d) <|
  gg (gSh (a0)) <|
  gc (f_X9_add n (d - 1) 0 S [((a0 : Nat) : Int), 92]) fun x3 S_4 =>
  gc (f_X9_add n (d - 1) 0 S_4 [((a0 : Nat) : Int), 117]) fun x6 S_7 =>
  gc (f_X9_add n (d - 1) 0 S_7 [((a0 : Nat) : Int), 48]) fun x9 S_10 =>
  gc (f_X9_add n (d - 1) 0 S_10 [((a0 : Nat) : Int), 48]) fun x12 S_13 =>
  gg ((0 ≤ a1 ∧ a1 < 2147483648) ∧ ((0 : Int) < 16 ∧ (16 : Int) < 2147483648)) <|
  gv (a1 / 16) fun x16 =>
  gg ((0 ≤ x16 ∧ x16 < 2147483648) ∧ ((0 : Int) < 16 ∧ (16 : Int) < 2147483648)) <|
  gv (x16 % 16) fun x19 =>
  gg (inr x19) <|
  if 10 ≤ x19 then (
    gg ((0 ≤ a1 ∧ a1 < 2147483648) ∧ ((0 : Int) < 16 ∧ (16 : Int) < 2147483648)) <|
    gv (a1 / 16) fun x24 =>
    gg ((0 ≤ x24 ∧ x24 < 2147483648) ∧ ((0 : Int) < 16 ∧ (16 : Int) < 2147483648)) <|
    gv (x24 % 16) fun x27 =>
    gv (87 + x27) fun x29 =>
    rec d 96 S_13 [((a0 : Nat) : Int), a1, x29, ((a0 : Nat) : Int)]
  ) else (
    gg ((0 ≤ a1 ∧ a1 < 2147483648) ∧ ((0 : Int) < 16 ∧ (16 : Int) < 2147483648)) <|
    gv (a1 / 16) fun x32 =>
    gg ((0 ≤ x32 ∧ x32 < 2147483648) ∧ ((0 : Int) < 16 ∧ (16 : Int) < 2147483648)) <|
    gv (x32 % 16) fun x35 =>
    gv (48 + x35) fun x37 =>
    rec d 96 S_13 [((a0 : Nat) : Int), a1, x37, ((a0 : Nat) : Int)]
  )
def b_X9_addWritten_96 (n d : Nat) (rec : Nat → Nat → GS → List Int → Option (Int × GS)) (S : GS) (a0 : Nat) (a1 : Int) (s0 : Int) (s1 : Nat) : Option (Int × GS) :=
  gg (1 ≤ d) <|
  gg (gSh (s1)) <|
  gc (f_X9_add n (d - 1) 0 S [((s1 : Nat) : Int), s0]) fun x3 S_4 =>
  gg ((0 ≤ a1 ∧ a1 < 2147483648) ∧ ((0 : Int) < 16 ∧ (16 : Int) < 2147483648)) <|
  gv (a1 % 16) fun x7 =>
  gg (inr x7) <|
  if 10 ≤ x7 then (
    gg ((0 ≤ a1 ∧ a1 < 2147483648) ∧ ((0 : Int) < 16 ∧ (16 : Int) < 2147483648)) <|
    gv (a1 % 16) fun x12 =>
    gv (87 + x12) fun x14 =>
    gg (gSh (a0)) <|
    gc (f_X9_add n (d - 1) 0 S_4 [((a0 : Nat) : Int), x14]) fun x17 S_18 =>
    some (0, S_18)
  ) else (
    gg ((0 ≤ a1 ∧ a1 < 2147483648) ∧ ((0 : Int) < 16 ∧ (16 : Int) < 2147483648)) <|
    gv (a1 % 16) fun x21 =>
    gv (48 + x21) fun x23 =>
    gg (gSh (a0)) <|
    gc (f_X9_add n (d - 1) 0 S_4 [((a0 : Nat) : Int), x23]) fun x26 S_27 =>
    some (0, S_27)
  )
def f_X9_addWritten : Nat → Nat → Nat → GS → List Int → Option (Int × GS)
  | 0, _, _, _, _ => none
  | n + 1, d, pc, S, x => match pc, x with
    | 0, [a0, a1] => b_X9_addWritten_0 n d (f_X9_addWritten n) S a0.toNat a1
    | 36, [a0, a1] => b_X9_addWritten_36 n d (f_X9_addWritten n) S a0.toNat a1
    | 96, [a0, a1, s0, s1] => b_X9_addWritten_96 n d (f_X9_addWritten n) S a0.toNat a1 s0 s1.toNat
    | _, _ => none
theorem e_X9_addWritten_0 {n d : Nat} {S : GS} {a0 : Nat} {a1 : Int} : f_X9_addWritten (n + 1) d 0 S [((a0 : Nat) : Int), a1] = b_X9_addWritten_0 n d (f_X9_addWritten n) S a0 a1 := rfl
theorem e_X9_addWritten_36 {n d : Nat} {S : GS} {a0 : Nat} {a1 : Int} : f_X9_addWritten (n + 1) d 36 S [((a0 : Nat) : Int), a1] = b_X9_addWritten_36 n d (f_X9_addWritten n) S a0 a1 := rfl
theorem e_X9_addWritten_96 {n d : Nat} {S : GS} {a0 : Nat} {a1 : Int} {s0 : Int} {s1 : Nat} : f_X9_addWritten (n + 1) d 96 S [((a0 : Nat) : Int), a1, s0, ((s1 : Nat) : Int)] = b_X9_addWritten_96 n d (f_X9_addWritten n) S a0 a1 s0 s1 := rfl

def b_X8_text_0 (n d : Nat) (rec : Nat → Nat → GS → List Int → Option (Int × GS)) (S : GS) (a0 : Nat) (a1 : Int) (a2 : Nat) : Option (Int × GS) :=
  gg (1 ≤ d) <|
  gg (gSh (a2)) <|
  gc (f_X9_add n (d - 1) 0 S [((a2 : Nat) : Int), 34]) fun x3 S_4 =>
  rec d 8 S_4 [((a0 : Nat) : Int), a1, ((a2 : Nat) : Int), 0]
def b_X8_text_8 (n d : Nat) (rec : Nat → Nat → GS → List Int → Option (Int × GS)) (S : GS) (a0 : Nat) (a1 : Int) (a2 : Nat) (a3 : Int) : Option (Int × GS) :=
  gg (1 ≤ d) <|
  gg (gT a0) <|
  gc (f_X10_lengthOf n (d - 1) 0 S [((a0 : Nat) : Int), a1]) fun x3 S_4 =>
  gg (inr a3) <|
  gg (inr x3) <|
  if x3 ≤ a3 then (
    gg (gSh (a2)) <|
    gc (f_X9_add n (d - 1) 0 S_4 [((a2 : Nat) : Int), 34]) fun x10 S_11 =>
    some (0, S_11)
  ) else (
    gc (f_X10_signAt n (d - 1) 0 S_4 [((a0 : Nat) : Int), a1, a3]) fun x13 S_14 =>
    gg (gSh (a2)) <|
    gc (f_X9_addWritten n (d - 1) 0 S_14 [((a2 : Nat) : Int), x13]) fun x17 S_18 =>
    gv (a3 + 1) fun x20 =>
    rec d 8 S_18 [((a0 : Nat) : Int), a1, ((a2 : Nat) : Int), x20]
  )
def f_X8_text : Nat → Nat → Nat → GS → List Int → Option (Int × GS)
  | 0, _, _, _, _ => none
  | n + 1, d, pc, S, x => match pc, x with
    | 0, [a0, a1, a2] => b_X8_text_0 n d (f_X8_text n) S a0.toNat a1 a2.toNat
    | 8, [a0, a1, a2, a3] => b_X8_text_8 n d (f_X8_text n) S a0.toNat a1 a2.toNat a3
    | _, _ => none
theorem e_X8_text_0 {n d : Nat} {S : GS} {a0 : Nat} {a1 : Int} {a2 : Nat} : f_X8_text (n + 1) d 0 S [((a0 : Nat) : Int), a1, ((a2 : Nat) : Int)] = b_X8_text_0 n d (f_X8_text n) S a0 a1 a2 := rfl
theorem e_X8_text_8 {n d : Nat} {S : GS} {a0 : Nat} {a1 : Int} {a2 : Nat} {a3 : Int} : f_X8_text (n + 1) d 8 S [((a0 : Nat) : Int), a1, ((a2 : Nat) : Int), a3] = b_X8_text_8 n d (f_X8_text n) S a0 a1 a2 a3 := rfl

def b_X8_line_0 (n d : Nat) (rec : Nat → Nat → GS → List Int → Option (Int × GS)) (S : GS) (a0 : Int) (a1 : Nat) : Option (Int × GS) :=
  gg (1 ≤ d) <|
  gg (gSh (a1)) <|
  gc (f_X9_add n (d - 1) 0 S [((a1 : Nat) : Int), 10]) fun x3 S_4 =>
  rec d 8 S_4 [a0, ((a1 : Nat) : Int), 0]
def b_X8_line_8 (n d : Nat) (rec : Nat → Nat → GS → List Int → Option (Int × GS)) (S : GS) (a0 : Int) (a1 : Nat) (a2 : Int) : Option (Int × GS) :=
  gg (inr a2) <|
  gg (inr a0) <|
  if a0 ≤ a2 then (
    some (0, S)
  ) else (
    gg (1 ≤ d) <|
    gg (gSh (a1)) <|
    gc (f_X9_addAll n (d - 1) 0 S [((a1 : Nat) : Int), ((15 : Nat) : Int)]) fun x6 S_7 =>
    gv (a2 + 1) fun x9 =>
    rec d 8 S_7 [a0, ((a1 : Nat) : Int), x9]
  )
def f_X8_line : Nat → Nat → Nat → GS → List Int → Option (Int × GS)
  | 0, _, _, _, _ => none
  | n + 1, d, pc, S, x => match pc, x with
    | 0, [a0, a1] => b_X8_line_0 n d (f_X8_line n) S a0 a1.toNat
    | 8, [a0, a1, a2] => b_X8_line_8 n d (f_X8_line n) S a0 a1.toNat a2
    | _, _ => none
theorem e_X8_line_0 {n d : Nat} {S : GS} {a0 : Int} {a1 : Nat} : f_X8_line (n + 1) d 0 S [a0, ((a1 : Nat) : Int)] = b_X8_line_0 n d (f_X8_line n) S a0 a1 := rfl
theorem e_X8_line_8 {n d : Nat} {S : GS} {a0 : Int} {a1 : Nat} {a2 : Int} : f_X8_line (n + 1) d 8 S [a0, ((a1 : Nat) : Int), a2] = b_X8_line_8 n d (f_X8_line n) S a0 a1 a2 := rfl

def b_X8_key_0 (n d : Nat) (rec : Nat → Nat → GS → List Int → Option (Int × GS)) (S : GS) (a0 : Nat) (a1 : Int) (a2 : Nat) : Option (Int × GS) :=
  gg (1 ≤ d) <|
  gg (gSh (a2)) <|
  gc (f_X9_add n (d - 1) 0 S [((a2 : Nat) : Int), 34]) fun x3 S_4 =>
  rec d 8 S_4 [((a0 : Nat) : Int), a1, ((a2 : Nat) : Int), 0]
def b_X8_key_8 (n d : Nat) (rec : Nat → Nat → GS → List Int → Option (Int × GS)) (S : GS) (a0 : Nat) (a1 : Int) (a2 : Nat) (a3 : Int) : Option (Int × GS) :=
  gg (1 ≤ d) <|
  gg (gT a0) <|
  gc (f_X10_keyLength n (d - 1) 0 S [((a0 : Nat) : Int), a1]) fun x3 S_4 =>
  gg (inr a3) <|
  gg (inr x3) <|
  if x3 ≤ a3 then (
    gg (gSh (a2)) <|
    gc (f_X9_add n (d - 1) 0 S_4 [((a2 : Nat) : Int), 34]) fun x10 S_11 =>
    some (0, S_11)
  ) else (
    gc (f_X10_keySign n (d - 1) 0 S_4 [((a0 : Nat) : Int), a1, a3]) fun x13 S_14 =>
    gg (gSh (a2)) <|
    gc (f_X9_addWritten n (d - 1) 0 S_14 [((a2 : Nat) : Int), x13]) fun x17 S_18 =>
    gv (a3 + 1) fun x20 =>
    rec d 8 S_18 [((a0 : Nat) : Int), a1, ((a2 : Nat) : Int), x20]
  )
def f_X8_key : Nat → Nat → Nat → GS → List Int → Option (Int × GS)
  | 0, _, _, _, _ => none
  | n + 1, d, pc, S, x => match pc, x with
    | 0, [a0, a1, a2] => b_X8_key_0 n d (f_X8_key n) S a0.toNat a1 a2.toNat
    | 8, [a0, a1, a2, a3] => b_X8_key_8 n d (f_X8_key n) S a0.toNat a1 a2.toNat a3
    | _, _ => none
theorem e_X8_key_0 {n d : Nat} {S : GS} {a0 : Nat} {a1 : Int} {a2 : Nat} : f_X8_key (n + 1) d 0 S [((a0 : Nat) : Int), a1, ((a2 : Nat) : Int)] = b_X8_key_0 n d (f_X8_key n) S a0 a1 a2 := rfl
theorem e_X8_key_8 {n d : Nat} {S : GS} {a0 : Nat} {a1 : Int} {a2 : Nat} {a3 : Int} : f_X8_key (n + 1) d 8 S [((a0 : Nat) : Int), a1, ((a2 : Nat) : Int), a3] = b_X8_key_8 n d (f_X8_key n) S a0 a1 a2 a3 := rfl

def b_X8_group_0 (n d : Nat) (rec : Nat → Nat → GS → List Int → Option (Int × GS)) (S : GS) (a0 : Nat) (a1 : Int) (a2 : Int) (a3 : Int) (a4 : Nat) : Option (Int × GS) :=
  gg (1 ≤ d) <|
  gg (gT a0) <|
  gc (f_X10_is n (d - 1) 0 S [((a0 : Nat) : Int), a1, 5]) fun x3 S_4 =>
  gg (inr x3) <|
  if x3 = 0 then (
    rec d 23 S_4 [((a0 : Nat) : Int), a1, a2, a3, ((a4 : Nat) : Int), x3, 0]
  ) else (
    gg (inr a2) <|
    if a2 ≠ 1 then (
      rec d 23 S_4 [((a0 : Nat) : Int), a1, a2, a3, ((a4 : Nat) : Int), x3, 0]
    ) else (
      rec d 23 S_4 [((a0 : Nat) : Int), a1, a2, a3, ((a4 : Nat) : Int), x3, 1]
    )
  )
def b_X8_group_23 (n d : Nat) (rec : Nat → Nat → GS → List Int → Option (Int × GS)) (S : GS) (a0 : Nat) (a1 : Int) (a2 : Int) (a3 : Int) (a4 : Nat) (a5 : Int) (s0 : Int) : Option (Int × GS) :=
  gg (inr a2) <|
  if a2 ≠ 2 then (
    rec d 43 S [((a0 : Nat) : Int), a1, a2, a3, ((a4 : Nat) : Int), a5, s0]
  ) else (
    gg (1 ≤ d) <|
    gg (gT a0) <|
    gc (f_X10_first n (d - 1) 0 S [((a0 : Nat) : Int), a1]) fun x5 S_6 =>
    gg (inr x5) <|
    if x5 = (-1) then (
      rec d 43 S_6 [((a0 : Nat) : Int), a1, a2, a3, ((a4 : Nat) : Int), a5, s0]
    ) else (
      gg (inr a5) <|
      if a5 = 0 then (
        rec d 60 S_6 [((a0 : Nat) : Int), a1, a2, a3, ((a4 : Nat) : Int), a5, s0, 1, 91, ((a4 : Nat) : Int)]
      ) else (
        rec d 60 S_6 [((a0 : Nat) : Int), a1, a2, a3, ((a4 : Nat) : Int), a5, s0, 1, 123, ((a4 : Nat) : Int)]
      )
    )
  )
def b_X8_group_43 (n d : Nat) (rec : Nat → Nat → GS → List Int → Option (Int × GS)) (S : GS) (a0 : Nat) (a1 : Int) (a2 : Int) (a3 : Int) (a4 : Nat) (a5 : Int) (a6 : Int) : Option (Int × GS) :=
  gg (inr a5) <|
  if a5 = 0 then (
    rec d 60 S [((a0 : Nat) : Int), a1, a2, a3, ((a4 : Nat) : Int), a5, a6, 0, 91, ((a4 : Nat) : Int)]
  ) else (
    rec d 60 S [((a0 : Nat) : Int), a1, a2, a3, ((a4 : Nat) : Int), a5, a6, 0, 123, ((a4 : Nat) : Int)]
  )
def b_X8_group_60 (n d : Nat) (rec : Nat → Nat → GS → List Int → Option (Int × GS)) (S : GS) (a0 : Nat) (a1 : Int) (a2 : Int) (a3 : Int) (a4 : Nat) (a5 : Int) (a6 : Int) (a7 : Int) (s0 : Int) (s1 : Nat) : Option (Int × GS) :=
  gg (1 ≤ d) <|
  gg (gSh (s1)) <|
  gc (f_X9_add n (d - 1) 0 S [((s1 : Nat) : Int), s0]) fun x3 S_4 =>
  gg (inr a6) <|
  if a6 = 0 then (
    gg (gT a0) <|
    gc (f_X10_first n (d - 1) 0 S_4 [((a0 : Nat) : Int), a1]) fun x9 S_10 =>
    rec d 87 S_10 [((a0 : Nat) : Int), a1, a2, a3, ((a4 : Nat) : Int), a5, a6, a7, x9, 0]
  ) else (
    gg (gT a0) <|
    gc (f_X10_nextByKey n (d - 1) 0 S_4 [((a0 : Nat) : Int), a1, (-1)]) fun x13 S_14 =>
    rec d 87 S_14 [((a0 : Nat) : Int), a1, a2, a3, ((a4 : Nat) : Int), a5, a6, a7, x13, 0]
  )
def b_X8_group_87 (n d : Nat) (rec : Nat → Nat → GS → List Int → Option (Int × GS)) (S : GS) (a0 : Nat) (a1 : Int) (a2 : Int) (a3 : Int) (a4 : Nat) (a5 : Int) (a6 : Int) (a7 : Int) (a8 : Int) (a9 : Int) : Option (Int × GS) :=
  gg (inr a9) <|
  if 100 ≤ a9 then (
    gg (inr a7) <|
    if a7 = 0 then (
      rec d 214 S [((a4 : Nat) : Int), a5]
    ) else (
      gg (1 ≤ d) <|
      gc (f_X8_line n (d - 1) 0 S [a3, ((a4 : Nat) : Int)]) fun x6 S_7 =>
      rec d 214 S_7 [((a4 : Nat) : Int), a5]
    )
  ) else (
    gg (inr a8) <|
    if a8 = (-1) then (
      gg (inr a7) <|
      if a7 = 0 then (
        rec d 214 S [((a4 : Nat) : Int), a5]
      ) else (
        gg (1 ≤ d) <|
        gc (f_X8_line n (d - 1) 0 S [a3, ((a4 : Nat) : Int)]) fun x14 S_15 =>
        rec d 214 S_15 [((a4 : Nat) : Int), a5]
      )
    ) else (
      gg (inr a3) <|
      if 12 < a3 then (
        gg (inr a7) <|
        if a7 = 0 then (
          rec d 214 S [((a4 : Nat) : Int), a5]
        ) else (
          gg (1 ≤ d) <|
          gc (f_X8_line n (d - 1) 0 S [a3, ((a4 : Nat) : Int)]) fun x22 S_23 =>
          rec d 214 S_23 [((a4 : Nat) : Int), a5]
        )
      ) else (
        if a9 ≤ 0 then (
          gg (inr a7) <|
          if a7 = 0 then (
            rec d 131 S [((a0 : Nat) : Int), a1, a2, a3, ((a4 : Nat) : Int), a5, a6, a7, a8, a9]
          ) else (
            gv (a3 + 1) fun x28 =>
            gg (1 ≤ d) <|
            gc (f_X8_line n (d - 1) 0 S [x28, ((a4 : Nat) : Int)]) fun x31 S_32 =>
            rec d 131 S_32 [((a0 : Nat) : Int), a1, a2, a3, ((a4 : Nat) : Int), a5, a6, a7, a8, a9]
          )
        ) else (
          gg (1 ≤ d) <|
          gg (gSh (a4)) <|
          gc (f_X9_add n (d - 1) 0 S [((a4 : Nat) : Int), 44]) fun x36 S_37 =>
          gg (inr a7) <|
          if a7 = 0 then (
            rec d 131 S_37 [((a0 : Nat) : Int), a1, a2, a3, ((a4 : Nat) : Int), a5, a6, a7, a8, a9]
          ) else (
            gv (a3 + 1) fun x41 =>
            gc (f_X8_line n (d - 1) 0 S_37 [x41, ((a4 : Nat) : Int)]) fun x43 S_44 =>
            rec d 131 S_44 [((a0 : Nat) : Int), a1, a2, a3, ((a4 : Nat) : Int), a5, a6, a7, a8, a9]
          )
        )
      )
    )
  )
def b_X8_group_131 (n d : Nat) (rec : Nat → Nat → GS → List Int → Option (Int × GS)) (S : GS) (a0 : Nat) (a1 : Int) (a2 : Int) (a3 : Int) (a4 : Nat) (a5 : Int) (a6 : Int) (a7 : Int) (a8 : Int) (a9 : Int) : Option (Int × GS) :=
  gg (inr a5) <|
  if a5 = 0 then (
    rec d 161 S [((a0 : Nat) : Int), a1, a2, a3, ((a4 : Nat) : Int), a5, a6, a7, a8, a9]
  ) else (
    gg (1 ≤ d) <|
    gc (f_X8_key n (d - 1) 0 S [((a0 : Nat) : Int), a8, ((a4 : Nat) : Int)]) fun x4 S_5 =>
    gg (inr a7) <|
    if a7 = 0 then (
      gg (gSh (a4)) <|
      gc (f_X9_addAll n (d - 1) 0 S_5 [((a4 : Nat) : Int), ((17 : Nat) : Int)]) fun x10 S_11 =>
      rec d 161 S_11 [((a0 : Nat) : Int), a1, a2, a3, ((a4 : Nat) : Int), a5, a6, a7, a8, a9]
    ) else (
      gg (gSh (a4)) <|
      gc (f_X9_addAll n (d - 1) 0 S_5 [((a4 : Nat) : Int), ((16 : Nat) : Int)]) fun x14 S_15 =>
      rec d 161 S_15 [((a0 : Nat) : Int), a1, a2, a3, ((a4 : Nat) : Int), a5, a6, a7, a8, a9]
    )
  )
def b_X8_group_161 (n d : Nat) (rec : Nat → Nat → GS → List Int → Option (Int × GS)) (S : GS) (a0 : Nat) (a1 : Int) (a2 : Int) (a3 : Int) (a4 : Nat) (a5 : Int) (a6 : Int) (a7 : Int) (a8 : Int) (a9 : Int) : Option (Int × GS) :=
  gv (a3 + 1) fun x1 =>
  gg (1 ≤ d) <|
  gc (rec (d - 1) 10000 S [((a0 : Nat) : Int), a8, a2, x1, ((a4 : Nat) : Int)]) fun x4 S_5 =>
  gg (inr a6) <|
  if a6 = 0 then (
    gg (gT a0) <|
    gc (f_X10_next n (d - 1) 0 S_5 [((a0 : Nat) : Int), a1, a8]) fun x10 S_11 =>
    gv (a9 + 1) fun x13 =>
    rec d 87 S_11 [((a0 : Nat) : Int), a1, a2, a3, ((a4 : Nat) : Int), a5, a6, a7, x10, x13]
  ) else (
    gg (gT a0) <|
    gc (f_X10_nextByKey n (d - 1) 0 S_5 [((a0 : Nat) : Int), a1, a8]) fun x16 S_17 =>
    gv (a9 + 1) fun x19 =>
    rec d 87 S_17 [((a0 : Nat) : Int), a1, a2, a3, ((a4 : Nat) : Int), a5, a6, a7, x16, x19]
  )
def b_X8_group_214 (n d : Nat) (rec : Nat → Nat → GS → List Int → Option (Int × GS)) (S : GS) (a4 : Nat) (a5 : Int) : Option (Int × GS) :=
  gg (inr a5) <|
  if a5 = 0 then (
    gg (1 ≤ d) <|
    gg (gSh (a4)) <|
    gc (f_X9_add n (d - 1) 0 S [((a4 : Nat) : Int), 93]) fun x5 S_6 =>
    some (0, S_6)
  ) else (
    gg (1 ≤ d) <|
    gg (gSh (a4)) <|
    gc (f_X9_add n (d - 1) 0 S [((a4 : Nat) : Int), 125]) fun x10 S_11 =>
    some (0, S_11)
  )
def b_X8_value_0 (n d : Nat) (rec : Nat → Nat → GS → List Int → Option (Int × GS)) (S : GS) (a0 : Nat) (a1 : Int) (a2 : Int) (a3 : Int) (a4 : Nat) : Option (Int × GS) :=
  gg (1 ≤ d) <|
  gg (gT a0) <|
  gc (f_X10_kind n (d - 1) 0 S [((a0 : Nat) : Int), a1]) fun x3 S_4 =>
  gg (inr x3) <|
  if x3 = 0 then (
    gg (gSh (a4)) <|
    gc (f_X9_addAll n (d - 1) 0 S_4 [((a4 : Nat) : Int), ((12 : Nat) : Int)]) fun x9 S_10 =>
    some (0, S_10)
  ) else (
  if x3 = 1 then (
    gc (f_X10_isTrue n (d - 1) 0 S_4 [((a0 : Nat) : Int), a1]) fun x13 S_14 =>
    gg (inr x13) <|
    if x13 = 0 then (
      gg (gSh (a4)) <|
      gc (f_X9_addAll n (d - 1) 0 S_14 [((a4 : Nat) : Int), ((14 : Nat) : Int)]) fun x19 S_20 =>
      some (0, S_20)
    ) else (
      gg (gSh (a4)) <|
      gc (f_X9_addAll n (d - 1) 0 S_14 [((a4 : Nat) : Int), ((13 : Nat) : Int)]) fun x23 S_24 =>
      some (0, S_24)
    )
  ) else (
  if x3 = 2 then (
    gc (f_X8_number n (d - 1) 0 S_4 [((a0 : Nat) : Int), a1, ((a4 : Nat) : Int)]) fun x27 S_28 =>
    some (0, S_28)
  ) else (
  if x3 = 3 then (
    gc (f_X8_text n (d - 1) 0 S_4 [((a0 : Nat) : Int), a1, ((a4 : Nat) : Int)]) fun x31 S_32 =>
    some (0, S_32)
  ) else (
  gc (rec (d - 1) 0 S_4 [((a0 : Nat) : Int), a1, a2, a3, ((a4 : Nat) : Int)]) fun x34 S_35 =>
  some (0, S_35)
  ))))
def f_X8_group : Nat → Nat → Nat → GS → List Int → Option (Int × GS)
  | 0, _, _, _, _ => none
  | n + 1, d, pc, S, x => match pc, x with
    | 0, [a0, a1, a2, a3, a4] => b_X8_group_0 n d (f_X8_group n) S a0.toNat a1 a2 a3 a4.toNat
    | 23, [a0, a1, a2, a3, a4, a5, s0] => b_X8_group_23 n d (f_X8_group n) S a0.toNat a1 a2 a3 a4.toNat a5 s0
    | 43, [a0, a1, a2, a3, a4, a5, a6] => b_X8_group_43 n d (f_X8_group n) S a0.toNat a1 a2 a3 a4.toNat a5 a6
    | 60, [a0, a1, a2, a3, a4, a5, a6, a7, s0, s1] => b_X8_group_60 n d (f_X8_group n) S a0.toNat a1 a2 a3 a4.toNat a5 a6 a7 s0 s1.toNat
    | 87, [a0, a1, a2, a3, a4, a5, a6, a7, a8, a9] => b_X8_group_87 n d (f_X8_group n) S a0.toNat a1 a2 a3 a4.toNat a5 a6 a7 a8 a9
    | 131, [a0, a1, a2, a3, a4, a5, a6, a7, a8, a9] => b_X8_group_131 n d (f_X8_group n) S a0.toNat a1 a2 a3 a4.toNat a5 a6 a7 a8 a9
    | 161, [a0, a1, a2, a3, a4, a5, a6, a7, a8, a9] => b_X8_group_161 n d (f_X8_group n) S a0.toNat a1 a2 a3 a4.toNat a5 a6 a7 a8 a9
    | 214, [a4, a5] => b_X8_group_214 n d (f_X8_group n) S a4.toNat a5
    | 10000, [a0, a1, a2, a3, a4] => b_X8_value_0 n d (f_X8_group n) S a0.toNat a1 a2 a3 a4.toNat
    | _, _ => none
theorem e_X8_group_0 {n d : Nat} {S : GS} {a0 : Nat} {a1 : Int} {a2 : Int} {a3 : Int} {a4 : Nat} : f_X8_group (n + 1) d 0 S [((a0 : Nat) : Int), a1, a2, a3, ((a4 : Nat) : Int)] = b_X8_group_0 n d (f_X8_group n) S a0 a1 a2 a3 a4 := rfl
theorem e_X8_group_23 {n d : Nat} {S : GS} {a0 : Nat} {a1 : Int} {a2 : Int} {a3 : Int} {a4 : Nat} {a5 : Int} {s0 : Int} : f_X8_group (n + 1) d 23 S [((a0 : Nat) : Int), a1, a2, a3, ((a4 : Nat) : Int), a5, s0] = b_X8_group_23 n d (f_X8_group n) S a0 a1 a2 a3 a4 a5 s0 := rfl
theorem e_X8_group_43 {n d : Nat} {S : GS} {a0 : Nat} {a1 : Int} {a2 : Int} {a3 : Int} {a4 : Nat} {a5 : Int} {a6 : Int} : f_X8_group (n + 1) d 43 S [((a0 : Nat) : Int), a1, a2, a3, ((a4 : Nat) : Int), a5, a6] = b_X8_group_43 n d (f_X8_group n) S a0 a1 a2 a3 a4 a5 a6 := rfl
theorem e_X8_group_60 {n d : Nat} {S : GS} {a0 : Nat} {a1 : Int} {a2 : Int} {a3 : Int} {a4 : Nat} {a5 : Int} {a6 : Int} {a7 : Int} {s0 : Int} {s1 : Nat} : f_X8_group (n + 1) d 60 S [((a0 : Nat) : Int), a1, a2, a3, ((a4 : Nat) : Int), a5, a6, a7, s0, ((s1 : Nat) : Int)] = b_X8_group_60 n d (f_X8_group n) S a0 a1 a2 a3 a4 a5 a6 a7 s0 s1 := rfl
theorem e_X8_group_87 {n d : Nat} {S : GS} {a0 : Nat} {a1 : Int} {a2 : Int} {a3 : Int} {a4 : Nat} {a5 : Int} {a6 : Int} {a7 : Int} {a8 : Int} {a9 : Int} : f_X8_group (n + 1) d 87 S [((a0 : Nat) : Int), a1, a2, a3, ((a4 : Nat) : Int), a5, a6, a7, a8, a9] = b_X8_group_87 n d (f_X8_group n) S a0 a1 a2 a3 a4 a5 a6 a7 a8 a9 := rfl
theorem e_X8_group_131 {n d : Nat} {S : GS} {a0 : Nat} {a1 : Int} {a2 : Int} {a3 : Int} {a4 : Nat} {a5 : Int} {a6 : Int} {a7 : Int} {a8 : Int} {a9 : Int} : f_X8_group (n + 1) d 131 S [((a0 : Nat) : Int), a1, a2, a3, ((a4 : Nat) : Int), a5, a6, a7, a8, a9] = b_X8_group_131 n d (f_X8_group n) S a0 a1 a2 a3 a4 a5 a6 a7 a8 a9 := rfl
theorem e_X8_group_161 {n d : Nat} {S : GS} {a0 : Nat} {a1 : Int} {a2 : Int} {a3 : Int} {a4 : Nat} {a5 : Int} {a6 : Int} {a7 : Int} {a8 : Int} {a9 : Int} : f_X8_group (n + 1) d 161 S [((a0 : Nat) : Int), a1, a2, a3, ((a4 : Nat) : Int), a5, a6, a7, a8, a9] = b_X8_group_161 n d (f_X8_group n) S a0 a1 a2 a3 a4 a5 a6 a7 a8 a9 := rfl
theorem e_X8_group_214 {n d : Nat} {S : GS} {a4 : Nat} {a5 : Int} : f_X8_group (n + 1) d 214 S [((a4 : Nat) : Int), a5] = b_X8_group_214 n d (f_X8_group n) S a4 a5 := rfl
theorem e_X8_value_0 {n d : Nat} {S : GS} {a0 : Nat} {a1 : Int} {a2 : Int} {a3 : Int} {a4 : Nat} : f_X8_group (n + 1) d 10000 S [((a0 : Nat) : Int), a1, a2, a3, ((a4 : Nat) : Int)] = b_X8_value_0 n d (f_X8_group n) S a0 a1 a2 a3 a4 := rfl

def b_X9_digestOf_0 (n d : Nat) (rec : Nat → Nat → GS → List Int → Option (Int × GS)) (S : GS) (a0 : Nat) : Option (Int × GS) :=
  rec d 5 S [((a0 : Nat) : Int), 7, 0]
def b_X9_digestOf_5 (n d : Nat) (rec : Nat → Nat → GS → List Int → Option (Int × GS)) (S : GS) (a0 : Nat) (a1 : Int) (a2 : Int) : Option (Int × GS) :=
  gg (gSh (a0)) <|
  gv (S.1 a0 1) fun x2 =>
  gg (inr a2) <|
  gg (inr x2) <|
  if x2 ≤ a2 then (
    some (a1, S)
  ) else (
    gv (257 * a1) fun x7 =>
    gg (1 ≤ d) <|
    gc (f_X9_at n (d - 1) 0 S [((a0 : Nat) : Int), a2]) fun x10 S_11 =>
    gv (x7 + x10) fun x13 =>
    gg ((0 ≤ x13 ∧ x13 < 2147483648) ∧ ((0 : Int) < 65521 ∧ (65521 : Int) < 2147483648)) <|
    gv (x13 % 65521) fun x16 =>
    gv (a2 + 1) fun x18 =>
    rec d 5 S_11 [((a0 : Nat) : Int), x16, x18]
  )
def f_X9_digestOf : Nat → Nat → Nat → GS → List Int → Option (Int × GS)
  | 0, _, _, _, _ => none
  | n + 1, d, pc, S, x => match pc, x with
    | 0, [a0] => b_X9_digestOf_0 n d (f_X9_digestOf n) S a0.toNat
    | 5, [a0, a1, a2] => b_X9_digestOf_5 n d (f_X9_digestOf n) S a0.toNat a1 a2
    | _, _ => none
theorem e_X9_digestOf_0 {n d : Nat} {S : GS} {a0 : Nat} : f_X9_digestOf (n + 1) d 0 S [((a0 : Nat) : Int)] = b_X9_digestOf_0 n d (f_X9_digestOf n) S a0 := rfl
theorem e_X9_digestOf_5 {n d : Nat} {S : GS} {a0 : Nat} {a1 : Int} {a2 : Int} : f_X9_digestOf (n + 1) d 5 S [((a0 : Nat) : Int), a1, a2] = b_X9_digestOf_5 n d (f_X9_digestOf n) S a0 a1 a2 := rfl

def b_X11_digest_0 (n d : Nat) (rec : Nat → Nat → GS → List Int → Option (Int × GS)) (S : GS) (a1 : Int) (a2 : Int) : Option (Int × GS) :=
  gg (1 ≤ d) <|
  gc (f_X11_documentWith n (d - 1) 0 S [a1, a2]) fun x2 S_3 =>
  if x2 < exB then (
  gc (f_X9_clear n (d - 1) 0 S_3 [((428 : Nat) : Int)]) fun x6 S_7 =>
  gc (f_X8_group n (d - 1) 10000 S_7 [((x2.toNat : Nat) : Int), a2, 1, 0, ((428 : Nat) : Int)]) fun x9 S_10 =>
  gc (f_X9_digestOf n (d - 1) 0 S_10 [((428 : Nat) : Int)]) fun x12 S_13 =>
  gg (x12 < exB) <|
  some (x12, S_13)
  ) else some (x2, S_3)
def f_X11_digest : Nat → Nat → Nat → GS → List Int → Option (Int × GS)
  | 0, _, _, _, _ => none
  | n + 1, d, pc, S, x => match pc, x with
    | 0, [a1, a2] => b_X11_digest_0 n d (f_X11_digest n) S a1 a2
    | _, _ => none
theorem e_X11_digest_0 {n d : Nat} {S : GS} {a1 : Int} {a2 : Int} : f_X11_digest (n + 1) d 0 S [a1, a2] = b_X11_digest_0 n d (f_X11_digest n) S a1 a2 := rfl

def b_X11_equal_0 (n d : Nat) (rec : Nat → Nat → GS → List Int → Option (Int × GS)) (S : GS) (a1 : Int) (a2 : Int) : Option (Int × GS) :=
  gg (1 ≤ d) <|
  gc (f_X11_document n (d - 1) 0 S [a1]) fun x2 S_3 =>
  if x2 < exB then (
  gc (f_X11_document n (d - 1) 0 S_3 [a2]) fun x6 S_7 =>
  if x6 < exB then (
  gg (gT (x2.toNat)) <|
  gc (f_X10_same n (d - 1) 0 S_7 [((x2.toNat : Nat) : Int), 0, ((x6.toNat : Nat) : Int), 0, 0]) fun x11 S_12 =>
  gg (x11 < exB) <|
  gg (x11 = 0 ∨ x11 = 1) <|
  some (x11, S_12)
  ) else some (x6, S_7)
  ) else some (x2, S_3)
def f_X11_equal : Nat → Nat → Nat → GS → List Int → Option (Int × GS)
  | 0, _, _, _, _ => none
  | n + 1, d, pc, S, x => match pc, x with
    | 0, [a1, a2] => b_X11_equal_0 n d (f_X11_equal n) S a1 a2
    | _, _ => none
theorem e_X11_equal_0 {n d : Nat} {S : GS} {a1 : Int} {a2 : Int} : f_X11_equal (n + 1) d 0 S [a1, a2] = b_X11_equal_0 n d (f_X11_equal n) S a1 a2 := rfl

def b_X2_count_0 (n d : Nat) (rec : Nat → Nat → GS → List Int → Option (Int × GS)) (S : GS) : Option (Int × GS) :=
  gv (S.1 473 6) fun x1 =>
  some (x1, S)
def f_X2_count : Nat → Nat → Nat → GS → List Int → Option (Int × GS)
  | 0, _, _, _, _ => none
  | n + 1, d, pc, S, x => match pc, x with
    | 0, [] => b_X2_count_0 n d (f_X2_count n) S 
    | _, _ => none
theorem e_X2_count_0 {n d : Nat} {S : GS} : f_X2_count (n + 1) d 0 S [] = b_X2_count_0 n d (f_X2_count n) S  := rfl

def b_X2_at_0 (n d : Nat) (rec : Nat → Nat → GS → List Int → Option (Int × GS)) (S : GS) (a1 : Int) : Option (Int × GS) :=
  gg (inr a1) <|
  if a1 < 0 then (
    some ((-1), S)
  ) else (
    gv (S.1 473 6) fun x3 =>
    gg (inr x3) <|
    if x3 ≤ a1 then (
      some ((-1), S)
    ) else (
      if 100 ≤ a1 then (
        some ((-1), S)
      ) else (
        gg (0 ≤ a1 ∧ a1 < ((100 : Nat) : Int) ∧ a1 < 2147483648) <|
        gv (S.1 474 (a1 : Int).toNat) fun x9 =>
        some (x9, S)
      )
    )
  )
def f_X2_at : Nat → Nat → Nat → GS → List Int → Option (Int × GS)
  | 0, _, _, _, _ => none
  | n + 1, d, pc, S, x => match pc, x with
    | 0, [a1] => b_X2_at_0 n d (f_X2_at n) S a1
    | _, _ => none
theorem e_X2_at_0 {n d : Nat} {S : GS} {a1 : Int} : f_X2_at (n + 1) d 0 S [a1] = b_X2_at_0 n d (f_X2_at n) S a1 := rfl

def b_X11_find_0 (n d : Nat) (rec : Nat → Nat → GS → List Int → Option (Int × GS)) (S : GS) (a1 : Int) : Option (Int × GS) :=
  gg (inr a1) <|
  if a1 < 0 then (
    some (exB + 3, S)
  ) else (
    gg (1 ≤ d) <|
    gc (f_X2_count n (d - 1) 0 S []) fun x4 S_5 =>
    gg (inr x4) <|
    if a1 < x4 then (
      gc (f_X2_at n (d - 1) 0 S_5 [a1]) fun x9 S_10 =>
      gg (x9 < exB) <|
      some (x9, S_10)
    ) else (
      some (exB + 3, S_5)
    )
  )
def f_X11_find : Nat → Nat → Nat → GS → List Int → Option (Int × GS)
  | 0, _, _, _, _ => none
  | n + 1, d, pc, S, x => match pc, x with
    | 0, [a1] => b_X11_find_0 n d (f_X11_find n) S a1
    | _, _ => none
theorem e_X11_find_0 {n d : Nat} {S : GS} {a1 : Int} : f_X11_find (n + 1) d 0 S [a1] = b_X11_find_0 n d (f_X11_find n) S a1 := rfl

def b_X3_begin_0 (n d : Nat) (rec : Nat → Nat → GS → List Int → Option (Int × GS)) (S : GS) (a1 : Int) : Option (Int × GS) :=
  gv (gI S 494 4 a1) fun S_1 =>
  gg (1 ≤ d) <|
  gc (f_X10_clear n (d - 1) 0 S_1 [((408 : Nat) : Int)]) fun x4 S_5 =>
  some (0, S_5)
def f_X3_begin : Nat → Nat → Nat → GS → List Int → Option (Int × GS)
  | 0, _, _, _, _ => none
  | n + 1, d, pc, S, x => match pc, x with
    | 0, [a1] => b_X3_begin_0 n d (f_X3_begin n) S a1
    | _, _ => none
theorem e_X3_begin_0 {n d : Nat} {S : GS} {a1 : Int} : f_X3_begin (n + 1) d 0 S [a1] = b_X3_begin_0 n d (f_X3_begin n) S a1 := rfl

def b_X3_draw_0 (n d : Nat) (rec : Nat → Nat → GS → List Int → Option (Int × GS)) (S : GS) (a1 : Int) : Option (Int × GS) :=
  gv (S.1 494 4) fun x1 =>
  gv (25173 * x1) fun x3 =>
  gv (x3 + 13849) fun x5 =>
  gg ((0 ≤ x5 ∧ x5 < 2147483648) ∧ ((0 : Int) < 65536 ∧ (65536 : Int) < 2147483648)) <|
  gv (x5 % 65536) fun x8 =>
  gv (gI S 494 4 x8) fun S_10 =>
  gg (inr a1) <|
  if a1 ≤ 0 then (
    some (0, S_10)
  ) else (
    gv (S_10.1 494 4) fun x14 =>
    gg ((0 ≤ x14 ∧ x14 < 2147483648) ∧ ((0 : Int) < 16 ∧ (16 : Int) < 2147483648)) <|
    gv (x14 / 16) fun x17 =>
    gg ((0 ≤ x17 ∧ x17 < 2147483648) ∧ ((0 : Int) < a1 ∧ (a1 : Int) < 2147483648)) <|
    gv (x17 % a1) fun x20 =>
    some (x20, S_10)
  )
def f_X3_draw : Nat → Nat → Nat → GS → List Int → Option (Int × GS)
  | 0, _, _, _, _ => none
  | n + 1, d, pc, S, x => match pc, x with
    | 0, [a1] => b_X3_draw_0 n d (f_X3_draw n) S a1
    | _, _ => none
theorem e_X3_draw_0 {n d : Nat} {S : GS} {a1 : Int} : f_X3_draw (n + 1) d 0 S [a1] = b_X3_draw_0 n d (f_X3_draw n) S a1 := rfl

def b_X3_number_0 (n d : Nat) (rec : Nat → Nat → GS → List Int → Option (Int × GS)) (S : GS) : Option (Int × GS) :=
  gg (1 ≤ d) <|
  gc (f_X10_add n (d - 1) 0 S [((408 : Nat) : Int), 2]) fun x2 S_3 =>
  gc (f_X9_clear n (d - 1) 0 S_3 [((464 : Nat) : Int)]) fun x5 S_6 =>
  gc (f_X3_draw n (d - 1) 0 S_6 [1000]) fun x8 S_9 =>
  gc (f_X9_addNumber n (d - 1) 0 S_9 [((464 : Nat) : Int), x8]) fun x11 S_12 =>
  gc (f_X3_draw n (d - 1) 0 S_12 [5]) fun x14 S_15 =>
  gv (x14 - 2) fun x17 =>
  gc (f_X10_setNumber n (d - 1) 0 S_15 [((408 : Nat) : Int), x2, 0, ((464 : Nat) : Int), x17]) fun x19 S_20 =>
  some (x2, S_20)
def f_X3_number : Nat → Nat → Nat → GS → List Int → Option (Int × GS)
  | 0, _, _, _, _ => none
  | n + 1, d, pc, S, x => match pc, x with
    | 0, [] => b_X3_number_0 n d (f_X3_number n) S 
    | _, _ => none
theorem e_X3_number_0 {n d : Nat} {S : GS} : f_X3_number (n + 1) d 0 S [] = b_X3_number_0 n d (f_X3_number n) S  := rfl

def b_X3_text_0 (n d : Nat) (rec : Nat → Nat → GS → List Int → Option (Int × GS)) (S : GS) : Option (Int × GS) :=
  gg (1 ≤ d) <|
  gc (f_X10_add n (d - 1) 0 S [((408 : Nat) : Int), 3]) fun x2 S_3 =>
  gc (f_X3_draw n (d - 1) 0 S_3 [4]) fun x5 S_6 =>
  rec d 17 S_6 [x2, x5, 0]
def b_X3_text_17 (n d : Nat) (rec : Nat → Nat → GS → List Int → Option (Int × GS)) (S : GS) (a1 : Int) (a2 : Int) (a3 : Int) : Option (Int × GS) :=
  gg (inr a3) <|
  gg (inr a2) <|
  if a2 ≤ a3 then (
    some (a1, S)
  ) else (
    gg (1 ≤ d) <|
    gc (f_X3_draw n (d - 1) 0 S [3]) fun x5 S_6 =>
    gv (97 + x5) fun x8 =>
    gc (f_X10_addSign n (d - 1) 0 S_6 [((408 : Nat) : Int), a1, x8]) fun x10 S_11 =>
    gv (a3 + 1) fun x13 =>
    rec d 17 S_11 [a1, a2, x13]
  )
def f_X3_text : Nat → Nat → Nat → GS → List Int → Option (Int × GS)
  | 0, _, _, _, _ => none
  | n + 1, d, pc, S, x => match pc, x with
    | 0, [] => b_X3_text_0 n d (f_X3_text n) S 
    | 17, [a1, a2, a3] => b_X3_text_17 n d (f_X3_text n) S a1 a2 a3
    | _, _ => none
theorem e_X3_text_0 {n d : Nat} {S : GS} : f_X3_text (n + 1) d 0 S [] = b_X3_text_0 n d (f_X3_text n) S  := rfl
theorem e_X3_text_17 {n d : Nat} {S : GS} {a1 : Int} {a2 : Int} {a3 : Int} : f_X3_text (n + 1) d 17 S [a1, a2, a3] = b_X3_text_17 n d (f_X3_text n) S a1 a2 a3 := rfl

def b_X3_entry_0 (n d : Nat) (rec : Nat → Nat → GS → List Int → Option (Int × GS)) (S : GS) (a1 : Int) (a2 : Int) (a3 : Int) : Option (Int × GS) :=
  gg (1 ≤ d) <|
  gc (f_X9_clear n (d - 1) 0 S [((466 : Nat) : Int)]) fun x2 S_3 =>
  gc (f_X3_draw n (d - 1) 0 S_3 [5]) fun x5 S_6 =>
  gv (97 + x5) fun x8 =>
  gc (f_X9_add n (d - 1) 0 S_6 [((466 : Nat) : Int), x8]) fun x10 S_11 =>
  gc (f_X10_close n (d - 1) 0 S_11 [((408 : Nat) : Int), a1]) fun x13 S_14 =>
  gc (f_X10_valueOf n (d - 1) 0 S_14 [((408 : Nat) : Int), a1, ((466 : Nat) : Int)]) fun x16 S_17 =>
  gc (f_X9_at n (d - 1) 0 S_17 [((466 : Nat) : Int), 0]) fun x19 S_20 =>
  gv (a2 + 1) fun x22 =>
  gc (rec (d - 1) 20000 S_20 [x22, a3]) fun x24 S_25 =>
  gg (inr x16) <|
  if x16 ≠ (-1) then (
    gc (f_X10_replaceByLast n (d - 1) 0 S_25 [((408 : Nat) : Int), x16, x24, ((416 : Nat) : Int)]) fun x29 S_30 =>
    some (0, S_30)
  ) else (
    gc (f_X10_addKeySign n (d - 1) 0 S_25 [((408 : Nat) : Int), x24, x19]) fun x32 S_33 =>
    some (0, S_33)
  )
def b_X3_group_0 (n d : Nat) (rec : Nat → Nat → GS → List Int → Option (Int × GS)) (S : GS) (a1 : Int) (a2 : Int) (a3 : Int) : Option (Int × GS) :=
  gg (1 ≤ d) <|
  gc (f_X10_add n (d - 1) 0 S [((408 : Nat) : Int), a1]) fun x2 S_3 =>
  gv (a3 + 1) fun x5 =>
  gc (f_X3_draw n (d - 1) 0 S_3 [x5]) fun x7 S_8 =>
  rec d 10022 S_8 [a1, a2, a3, x2, x7, 0]
def b_X3_group_22 (n d : Nat) (rec : Nat → Nat → GS → List Int → Option (Int × GS)) (S : GS) (a1 : Int) (a2 : Int) (a3 : Int) (a4 : Int) (a5 : Int) (a6 : Int) : Option (Int × GS) :=
  gg (inr a6) <|
  gg (inr a5) <|
  if a5 ≤ a6 then (
    gg (1 ≤ d) <|
    gc (f_X10_close n (d - 1) 0 S [((408 : Nat) : Int), a4]) fun x5 S_6 =>
    some (a4, S_6)
  ) else (
    gg (inr a2) <|
    if 3 ≤ a2 then (
      gg (1 ≤ d) <|
      gc (f_X10_close n (d - 1) 0 S [((408 : Nat) : Int), a4]) fun x11 S_12 =>
      some (a4, S_12)
    ) else (
      gg (inr a1) <|
      if a1 ≠ 4 then (
        gg (1 ≤ d) <|
        gc (rec (d - 1) 0 S [a4, a2, a3]) fun x17 S_18 =>
        gv (a6 + 1) fun x20 =>
        rec d 10022 S_18 [a1, a2, a3, a4, a5, x20]
      ) else (
        gv (a2 + 1) fun x22 =>
        gg (1 ≤ d) <|
        gc (rec (d - 1) 20000 S [x22, a3]) fun x25 S_26 =>
        gv (a6 + 1) fun x28 =>
        rec d 10022 S_26 [a1, a2, a3, a4, a5, x28]
      )
    )
  )
def b_X3_sprout_0 (n d : Nat) (rec : Nat → Nat → GS → List Int → Option (Int × GS)) (S : GS) (a1 : Int) (a2 : Int) : Option (Int × GS) :=
  gg (inr a1) <|
  if a1 = 0 then (
    rec d 20010 S [a1, a2]
  ) else (
    if a1 < 3 then (
      gg (1 ≤ d) <|
      gc (f_X3_draw n (d - 1) 0 S [8]) fun x5 S_6 =>
      if a1 ≠ 0 then (
        rec d 20028 S_6 [a1, a2, 0, x5]
      ) else (
        rec d 20028 S_6 [a1, a2, 4, x5]
      )
    ) else (
      rec d 20010 S [a1, a2]
    )
  )
def b_X3_sprout_10 (n d : Nat) (rec : Nat → Nat → GS → List Int → Option (Int × GS)) (S : GS) (a1 : Int) (a2 : Int) : Option (Int × GS) :=
  gg (1 ≤ d) <|
  gc (f_X3_draw n (d - 1) 0 S [4]) fun x2 S_3 =>
  gg (inr a1) <|
  if a1 ≠ 0 then (
    rec d 20028 S_3 [a1, a2, 0, x2]
  ) else (
    rec d 20028 S_3 [a1, a2, 4, x2]
  )
def b_X3_sprout_28 (n d : Nat) (rec : Nat → Nat → GS → List Int → Option (Int × GS)) (S : GS) (a1 : Int) (a2 : Int) (s0 : Int) (s1 : Int) : Option (Int × GS) :=
  gv (s1 + s0) fun x1 =>
  gg (inr x1) <|
  if x1 = 0 then (
    gg (1 ≤ d) <|
    gc (f_X10_add n (d - 1) 0 S [((408 : Nat) : Int), 0]) fun x6 S_7 =>
    some (x6, S_7)
  ) else (
  if x1 = 1 then (
    gg (1 ≤ d) <|
    gc (f_X3_draw n (d - 1) 0 S [2]) fun x11 S_12 =>
    gg (inr x11) <|
    if x11 ≠ 1 then (
      gc (f_X10_addTruth n (d - 1) 0 S_12 [((408 : Nat) : Int), 0]) fun x16 S_17 =>
      some (x16, S_17)
    ) else (
      gc (f_X10_addTruth n (d - 1) 0 S_12 [((408 : Nat) : Int), 1]) fun x19 S_20 =>
      some (x19, S_20)
    )
  ) else (
  if x1 = 2 then (
    gg (1 ≤ d) <|
    gc (f_X3_number n (d - 1) 0 S []) fun x24 S_25 =>
    some (x24, S_25)
  ) else (
  if x1 = 3 then (
    gg (1 ≤ d) <|
    gc (f_X3_text n (d - 1) 0 S []) fun x29 S_30 =>
    some (x29, S_30)
  ) else (
  if 6 ≤ x1 then (
    gg (1 ≤ d) <|
    gc (rec (d - 1) 10000 S [5, a1, a2]) fun x34 S_35 =>
    some (x34, S_35)
  ) else (
    gg (1 ≤ d) <|
    gc (rec (d - 1) 10000 S [4, a1, a2]) fun x38 S_39 =>
    some (x38, S_39)
  )
  ))))
def f_X3_entry : Nat → Nat → Nat → GS → List Int → Option (Int × GS)
  | 0, _, _, _, _ => none
  | n + 1, d, pc, S, x => match pc, x with
    | 0, [a1, a2, a3] => b_X3_entry_0 n d (f_X3_entry n) S a1 a2 a3
    | 10000, [a1, a2, a3] => b_X3_group_0 n d (f_X3_entry n) S a1 a2 a3
    | 10022, [a1, a2, a3, a4, a5, a6] => b_X3_group_22 n d (f_X3_entry n) S a1 a2 a3 a4 a5 a6
    | 20000, [a1, a2] => b_X3_sprout_0 n d (f_X3_entry n) S a1 a2
    | 20010, [a1, a2] => b_X3_sprout_10 n d (f_X3_entry n) S a1 a2
    | 20028, [a1, a2, s0, s1] => b_X3_sprout_28 n d (f_X3_entry n) S a1 a2 s0 s1
    | _, _ => none
theorem e_X3_entry_0 {n d : Nat} {S : GS} {a1 : Int} {a2 : Int} {a3 : Int} : f_X3_entry (n + 1) d 0 S [a1, a2, a3] = b_X3_entry_0 n d (f_X3_entry n) S a1 a2 a3 := rfl
theorem e_X3_group_0 {n d : Nat} {S : GS} {a1 : Int} {a2 : Int} {a3 : Int} : f_X3_entry (n + 1) d 10000 S [a1, a2, a3] = b_X3_group_0 n d (f_X3_entry n) S a1 a2 a3 := rfl
theorem e_X3_group_22 {n d : Nat} {S : GS} {a1 : Int} {a2 : Int} {a3 : Int} {a4 : Int} {a5 : Int} {a6 : Int} : f_X3_entry (n + 1) d 10022 S [a1, a2, a3, a4, a5, a6] = b_X3_group_22 n d (f_X3_entry n) S a1 a2 a3 a4 a5 a6 := rfl
theorem e_X3_sprout_0 {n d : Nat} {S : GS} {a1 : Int} {a2 : Int} : f_X3_entry (n + 1) d 20000 S [a1, a2] = b_X3_sprout_0 n d (f_X3_entry n) S a1 a2 := rfl
theorem e_X3_sprout_10 {n d : Nat} {S : GS} {a1 : Int} {a2 : Int} : f_X3_entry (n + 1) d 20010 S [a1, a2] = b_X3_sprout_10 n d (f_X3_entry n) S a1 a2 := rfl
theorem e_X3_sprout_28 {n d : Nat} {S : GS} {a1 : Int} {a2 : Int} {s0 : Int} {s1 : Int} : f_X3_entry (n + 1) d 20028 S [a1, a2, s0, s1] = b_X3_sprout_28 n d (f_X3_entry n) S a1 a2 s0 s1 := rfl

def b_X3_result_0 (n d : Nat) (rec : Nat → Nat → GS → List Int → Option (Int × GS)) (S : GS) : Option (Int × GS) :=
  some (((408 : Nat) : Int), S)
def f_X3_result : Nat → Nat → Nat → GS → List Int → Option (Int × GS)
  | 0, _, _, _, _ => none
  | n + 1, d, pc, S, x => match pc, x with
    | 0, [] => b_X3_result_0 n d (f_X3_result n) S 
    | _, _ => none
theorem e_X3_result_0 {n d : Nat} {S : GS} : f_X3_result (n + 1) d 0 S [] = b_X3_result_0 n d (f_X3_result n) S  := rfl

def b_X11_grow_0 (n d : Nat) (rec : Nat → Nat → GS → List Int → Option (Int × GS)) (S : GS) (a1 : Int) (a2 : Int) : Option (Int × GS) :=
  gg (inr a1) <|
  if a1 < 0 then (
    some (exB + 1, S)
  ) else (
    if 65536 ≤ a1 then (
      some (exB + 1, S)
    ) else (
      gg (inr a2) <|
      if a2 < 1 then (
        some (exB + 1, S)
      ) else (
        if a2 ≤ 3 then (
          gg (1 ≤ d) <|
          gc (f_X3_begin n (d - 1) 0 S [a1]) fun x8 S_9 =>
          gc (f_X3_entry n (d - 1) 20000 S_9 [0, a2]) fun x11 S_12 =>
          gc (f_X3_result n (d - 1) 0 S_12 []) fun x14 S_15 =>
          gc (f_X11_admit n (d - 1) 0 S_15 [((x14.toNat : Nat) : Int)]) fun x17 S_18 =>
          if x17 < exB then (
          gg (x17 < exB) <|
          some (x17, S_18)
          ) else some (x17, S_18)
        ) else (
          some (exB + 1, S)
        )
      )
    )
  )
def f_X11_grow : Nat → Nat → Nat → GS → List Int → Option (Int × GS)
  | 0, _, _, _, _ => none
  | n + 1, d, pc, S, x => match pc, x with
    | 0, [a1, a2] => b_X11_grow_0 n d (f_X11_grow n) S a1 a2
    | _, _ => none
theorem e_X11_grow_0 {n d : Nat} {S : GS} {a1 : Int} {a2 : Int} : f_X11_grow (n + 1) d 0 S [a1, a2] = b_X11_grow_0 n d (f_X11_grow n) S a1 a2 := rfl

def b_X6_here_0 (n d : Nat) (rec : Nat → Nat → GS → List Int → Option (Int × GS)) (S : GS) : Option (Int × GS) :=
  gv (S.2.2 470 5) fun z1 =>
  gv (S.1 470 7) fun x3 =>
  gg (1 ≤ d) <|
  gg (gSh (z1)) <|
  gc (f_X9_at n (d - 1) 0 S [((z1 : Nat) : Int), x3]) fun x7 S_8 =>
  some (x7, S_8)
def f_X6_here : Nat → Nat → Nat → GS → List Int → Option (Int × GS)
  | 0, _, _, _, _ => none
  | n + 1, d, pc, S, x => match pc, x with
    | 0, [] => b_X6_here_0 n d (f_X6_here n) S 
    | _, _ => none
theorem e_X6_here_0 {n d : Nat} {S : GS} : f_X6_here (n + 1) d 0 S [] = b_X6_here_0 n d (f_X6_here n) S  := rfl

def b_X6_skipBlanks_0 (n d : Nat) (rec : Nat → Nat → GS → List Int → Option (Int × GS)) (S : GS) : Option (Int × GS) :=
  gv (S.1 470 7) fun x1 =>
  gv (S.2.2 470 5) fun z3 =>
  gg (1 ≤ d) <|
  gg (gSh (z3)) <|
  gc (f_X9_length n (d - 1) 0 S [((z3 : Nat) : Int)]) fun x7 S_8 =>
  gg (inr x1) <|
  gg (inr x7) <|
  if x7 ≤ x1 then (
    some (0, S_8)
  ) else (
    gc (f_X6_here n (d - 1) 0 S_8 []) fun x13 S_14 =>
    gg (inr x13) <|
    if x13 = 32 then (
      gv (S_14.1 470 7) fun x18 =>
      gv (x18 + 1) fun x20 =>
      gv (gI S_14 470 7 x20) fun S_22 =>
      rec d 0 S_22 []
    ) else (
      gc (f_X6_here n (d - 1) 0 S_14 []) fun x24 S_25 =>
      gg (inr x24) <|
      if x24 ≠ 10 then (
        some (0, S_25)
      ) else (
        gv (S_25.1 470 7) fun x29 =>
        gv (x29 + 1) fun x31 =>
        gv (gI S_25 470 7 x31) fun S_33 =>
        rec d 0 S_33 []
      )
    )
  )
def f_X6_skipBlanks : Nat → Nat → Nat → GS → List Int → Option (Int × GS)
  | 0, _, _, _, _ => none
  | n + 1, d, pc, S, x => match pc, x with
    | 0, [] => b_X6_skipBlanks_0 n d (f_X6_skipBlanks n) S 
    | _, _ => none
theorem e_X6_skipBlanks_0 {n d : Nat} {S : GS} : f_X6_skipBlanks (n + 1) d 0 S [] = b_X6_skipBlanks_0 n d (f_X6_skipBlanks n) S  := rfl

def b_X6_fail_0 (n d : Nat) (rec : Nat → Nat → GS → List Int → Option (Int × GS)) (S : GS) (a1 : Int) : Option (Int × GS) :=
  gv (S.1 470 8) fun x1 =>
  gg (inr x1) <|
  if x1 ≠ (-1) then (
    some ((-1), S)
  ) else (
    gv (gI S 470 8 a1) fun S_5 =>
    some ((-1), S_5)
  )
def f_X6_fail : Nat → Nat → Nat → GS → List Int → Option (Int × GS)
  | 0, _, _, _, _ => none
  | n + 1, d, pc, S, x => match pc, x with
    | 0, [a1] => b_X6_fail_0 n d (f_X6_fail n) S a1
    | _, _ => none
theorem e_X6_fail_0 {n d : Nat} {S : GS} {a1 : Int} : f_X6_fail (n + 1) d 0 S [a1] = b_X6_fail_0 n d (f_X6_fail n) S a1 := rfl

def b_X6_begin_0 (n d : Nat) (rec : Nat → Nat → GS → List Int → Option (Int × GS)) (S : GS) (a1 : Int) : Option (Int × GS) :=
  gg (1 ≤ d) <|
  gc (f_X10_add n (d - 1) 0 S [((336 : Nat) : Int), a1]) fun x2 S_3 =>
  gc (f_X10_setKey n (d - 1) 0 S_3 [((336 : Nat) : Int), x2, ((430 : Nat) : Int)]) fun x5 S_6 =>
  some (x2, S_6)
def f_X6_begin : Nat → Nat → Nat → GS → List Int → Option (Int × GS)
  | 0, _, _, _, _ => none
  | n + 1, d, pc, S, x => match pc, x with
    | 0, [a1] => b_X6_begin_0 n d (f_X6_begin n) S a1
    | _, _ => none
theorem e_X6_begin_0 {n d : Nat} {S : GS} {a1 : Int} : f_X6_begin (n + 1) d 0 S [a1] = b_X6_begin_0 n d (f_X6_begin n) S a1 := rfl

def b_X6_goesOn_0 (n d : Nat) (rec : Nat → Nat → GS → List Int → Option (Int × GS)) (S : GS) : Option (Int × GS) :=
  gv (S.1 470 8) fun x1 =>
  gg (inr x1) <|
  if x1 ≠ (-1) then (
    some (0, S)
  ) else (
    some (1, S)
  )
def f_X6_goesOn : Nat → Nat → Nat → GS → List Int → Option (Int × GS)
  | 0, _, _, _, _ => none
  | n + 1, d, pc, S, x => match pc, x with
    | 0, [] => b_X6_goesOn_0 n d (f_X6_goesOn n) S 
    | _, _ => none
theorem e_X6_goesOn_0 {n d : Nat} {S : GS} : f_X6_goesOn (n + 1) d 0 S [] = b_X6_goesOn_0 n d (f_X6_goesOn n) S  := rfl

def b_X6_pass_0 (n d : Nat) (rec : Nat → Nat → GS → List Int → Option (Int × GS)) (S : GS) (a1 : Int) : Option (Int × GS) :=
  gv (S.2.2 470 5) fun z1 =>
  gv (S.1 470 7) fun x3 =>
  gg (1 ≤ d) <|
  gg (gSh (z1)) <|
  gc (f_X9_at n (d - 1) 0 S [((z1 : Nat) : Int), x3]) fun x7 S_8 =>
  gg (inr x7) <|
  gg (inr a1) <|
  if x7 ≠ a1 then (
    gv (S_8.1 470 7) fun x13 =>
    gc (f_X6_fail n (d - 1) 0 S_8 [x13]) fun x15 S_16 =>
    some (0, S_16)
  ) else (
    gv (S_8.1 470 7) fun x18 =>
    gv (x18 + 1) fun x20 =>
    gv (gI S_8 470 7 x20) fun S_22 =>
    some (0, S_22)
  )
def f_X6_pass : Nat → Nat → Nat → GS → List Int → Option (Int × GS)
  | 0, _, _, _, _ => none
  | n + 1, d, pc, S, x => match pc, x with
    | 0, [a1] => b_X6_pass_0 n d (f_X6_pass n) S a1
    | _, _ => none
theorem e_X6_pass_0 {n d : Nat} {S : GS} {a1 : Int} : f_X6_pass (n + 1) d 0 S [a1] = b_X6_pass_0 n d (f_X6_pass n) S a1 := rfl

def b_X6_isFigure_0 (n d : Nat) (rec : Nat → Nat → GS → List Int → Option (Int × GS)) (S : GS) (a0 : Int) : Option (Int × GS) :=
  gg (inr a0) <|
  if a0 < 48 then (
    some (0, S)
  ) else (
    if 57 < a0 then (
      some (0, S)
    ) else (
      some (1, S)
    )
  )
def f_X6_isFigure : Nat → Nat → Nat → GS → List Int → Option (Int × GS)
  | 0, _, _, _, _ => none
  | n + 1, d, pc, S, x => match pc, x with
    | 0, [a0] => b_X6_isFigure_0 n d (f_X6_isFigure n) S a0
    | _, _ => none
theorem e_X6_isFigure_0 {n d : Nat} {S : GS} {a0 : Int} : f_X6_isFigure (n + 1) d 0 S [a0] = b_X6_isFigure_0 n d (f_X6_isFigure n) S a0 := rfl

def b_X6_hexFigure_0 (n d : Nat) (rec : Nat → Nat → GS → List Int → Option (Int × GS)) (S : GS) : Option (Int × GS) :=
  gv (S.2.2 470 5) fun z1 =>
  gv (S.1 470 7) fun x3 =>
  gg (1 ≤ d) <|
  gg (gSh (z1)) <|
  gc (f_X9_at n (d - 1) 0 S [((z1 : Nat) : Int), x3]) fun x7 S_8 =>
  gc (f_X6_goesOn n (d - 1) 0 S_8 []) fun x10 S_11 =>
  gg (inr x10) <|
  if x10 = 0 then (
    rec d 41 S_11 [x7]
  ) else (
    gc (f_X6_isFigure n (d - 1) 0 S_11 [x7]) fun x15 S_16 =>
    gg (inr x15) <|
    if x15 = 0 then (
      rec d 41 S_16 [x7]
    ) else (
      gv (S_16.1 470 7) fun x20 =>
      gv (x20 + 1) fun x22 =>
      gv (gI S_16 470 7 x22) fun S_24 =>
      gv (x7 - 48) fun x26 =>
      some (x26, S_24)
    )
  )
def b_X6_hexFigure_41 (n d : Nat) (rec : Nat → Nat → GS → List Int → Option (Int × GS)) (S : GS) (a1 : Int) : Option (Int × GS) :=
  gg (1 ≤ d) <|
  gc (f_X6_goesOn n (d - 1) 0 S []) fun x2 S_3 =>
  gg (inr x2) <|
  if x2 = 0 then (
    gv (S_3.1 470 7) fun x7 =>
    gc (f_X6_fail n (d - 1) 0 S_3 [x7]) fun x9 S_10 =>
    some (0, S_10)
  ) else (
    gg (inr a1) <|
    if a1 < 97 then (
      rec d 60 S_3 [a1]
    ) else (
      if a1 ≤ 102 then (
        rec d 72 S_3 [a1]
      ) else (
        rec d 60 S_3 [a1]
      )
    )
  )
def b_X6_hexFigure_60 (n d : Nat) (rec : Nat → Nat → GS → List Int → Option (Int × GS)) (S : GS) (a1 : Int) : Option (Int × GS) :=
  gg (inr a1) <|
  if a1 < 65 then (
    gv (S.1 470 7) fun x3 =>
    gg (1 ≤ d) <|
    gc (f_X6_fail n (d - 1) 0 S [x3]) fun x6 S_7 =>
    some (0, S_7)
  ) else (
    if 70 < a1 then (
      gv (S.1 470 7) fun x10 =>
      gg (1 ≤ d) <|
      gc (f_X6_fail n (d - 1) 0 S [x10]) fun x13 S_14 =>
      some (0, S_14)
    ) else (
      rec d 72 S [a1]
    )
  )
def b_X6_hexFigure_72 (n d : Nat) (rec : Nat → Nat → GS → List Int → Option (Int × GS)) (S : GS) (a1 : Int) : Option (Int × GS) :=
  gv (S.1 470 7) fun x1 =>
  gv (x1 + 1) fun x3 =>
  gv (gI S 470 7 x3) fun S_5 =>
  gg (inr a1) <|
  if a1 < 97 then (
    gv (a1 - 65) fun x9 =>
    gv (x9 + 10) fun x11 =>
    some (x11, S_5)
  ) else (
    gv (a1 - 97) fun x13 =>
    gv (x13 + 10) fun x15 =>
    some (x15, S_5)
  )
def f_X6_hexFigure : Nat → Nat → Nat → GS → List Int → Option (Int × GS)
  | 0, _, _, _, _ => none
  | n + 1, d, pc, S, x => match pc, x with
    | 0, [] => b_X6_hexFigure_0 n d (f_X6_hexFigure n) S 
    | 41, [a1] => b_X6_hexFigure_41 n d (f_X6_hexFigure n) S a1
    | 60, [a1] => b_X6_hexFigure_60 n d (f_X6_hexFigure n) S a1
    | 72, [a1] => b_X6_hexFigure_72 n d (f_X6_hexFigure n) S a1
    | _, _ => none
theorem e_X6_hexFigure_0 {n d : Nat} {S : GS} : f_X6_hexFigure (n + 1) d 0 S [] = b_X6_hexFigure_0 n d (f_X6_hexFigure n) S  := rfl
theorem e_X6_hexFigure_41 {n d : Nat} {S : GS} {a1 : Int} : f_X6_hexFigure (n + 1) d 41 S [a1] = b_X6_hexFigure_41 n d (f_X6_hexFigure n) S a1 := rfl
theorem e_X6_hexFigure_60 {n d : Nat} {S : GS} {a1 : Int} : f_X6_hexFigure (n + 1) d 60 S [a1] = b_X6_hexFigure_60 n d (f_X6_hexFigure n) S a1 := rfl
theorem e_X6_hexFigure_72 {n d : Nat} {S : GS} {a1 : Int} : f_X6_hexFigure (n + 1) d 72 S [a1] = b_X6_hexFigure_72 n d (f_X6_hexFigure n) S a1 := rfl

def b_X6_escaped_0 (n d : Nat) (rec : Nat → Nat → GS → List Int → Option (Int × GS)) (S : GS) : Option (Int × GS) :=
  gg (1 ≤ d) <|
  gc (f_X6_here n (d - 1) 0 S []) fun x2 S_3 =>
  gv (S_3.1 470 7) fun x5 =>
  gv (x5 + 1) fun x7 =>
  gv (gI S_3 470 7 x7) fun S_9 =>
  gg (inr x2) <|
  if x2 = 34 then (
    some (x2, S_9)
  ) else (
  if x2 = 47 then (
    some (x2, S_9)
  ) else (
  if x2 = 92 then (
    some (x2, S_9)
  ) else (
  if x2 = 98 then (
    some (8, S_9)
  ) else (
  if x2 = 102 then (
    some (12, S_9)
  ) else (
  if x2 = 110 then (
    some (10, S_9)
  ) else (
  if x2 = 114 then (
    some (13, S_9)
  ) else (
  if x2 = 116 then (
    some (9, S_9)
  ) else (
  if x2 = 117 then (
    gc (f_X6_pass n (d - 1) 0 S_9 [48]) fun x21 S_22 =>
    gc (f_X6_pass n (d - 1) 0 S_22 [48]) fun x24 S_25 =>
    gc (f_X6_hexFigure n (d - 1) 0 S_25 []) fun x27 S_28 =>
    gv (16 * x27) fun x30 =>
    gc (f_X6_hexFigure n (d - 1) 0 S_28 []) fun x32 S_33 =>
    gv (x30 + x32) fun x35 =>
    some (x35, S_33)
  ) else (
  gv (S_9.1 470 7) fun x37 =>
  gv (x37 - 1) fun x39 =>
  gc (f_X6_fail n (d - 1) 0 S_9 [x39]) fun x41 S_42 =>
  some (x41, S_42)
  )))))))))
def f_X6_escaped : Nat → Nat → Nat → GS → List Int → Option (Int × GS)
  | 0, _, _, _, _ => none
  | n + 1, d, pc, S, x => match pc, x with
    | 0, [] => b_X6_escaped_0 n d (f_X6_escaped n) S 
    | _, _ => none
theorem e_X6_escaped_0 {n d : Nat} {S : GS} : f_X6_escaped (n + 1) d 0 S [] = b_X6_escaped_0 n d (f_X6_escaped n) S  := rfl

def b_X6_readSigns_0 (n d : Nat) (rec : Nat → Nat → GS → List Int → Option (Int × GS)) (S : GS) (a1 : Nat) (a2 : Int) : Option (Int × GS) :=
  gg (1 ≤ d) <|
  gg (gSh (a1)) <|
  gc (f_X9_clear n (d - 1) 0 S [((a1 : Nat) : Int)]) fun x3 S_4 =>
  gc (f_X6_pass n (d - 1) 0 S_4 [34]) fun x6 S_7 =>
  rec d 12 S_7 [((a1 : Nat) : Int), a2, 0]
def b_X6_readSigns_12 (n d : Nat) (rec : Nat → Nat → GS → List Int → Option (Int × GS)) (S : GS) (a1 : Nat) (a2 : Int) (a3 : Int) : Option (Int × GS) :=
  gg (inr a3) <|
  gg (inr a2) <|
  if a2 < a3 then (
    gg (1 ≤ d) <|
    gc (f_X6_pass n (d - 1) 0 S [34]) fun x5 S_6 =>
    some (0, S_6)
  ) else (
    gg (1 ≤ d) <|
    gc (f_X6_here n (d - 1) 0 S []) fun x9 S_10 =>
    gg (inr x9) <|
    if x9 = 34 then (
      gc (f_X6_pass n (d - 1) 0 S_10 [34]) fun x14 S_15 =>
      some (0, S_15)
    ) else (
      gc (f_X6_goesOn n (d - 1) 0 S_10 []) fun x17 S_18 =>
      gg (inr x17) <|
      if x17 = 0 then (
        gc (f_X6_pass n (d - 1) 0 S_18 [34]) fun x22 S_23 =>
        some (0, S_23)
      ) else (
        gg (gSh (a1)) <|
        gc (f_X9_length n (d - 1) 0 S_18 [((a1 : Nat) : Int)]) fun x26 S_27 =>
        gg (inr x26) <|
        if a2 ≤ x26 then (
          rec d 50 S_27 [((a1 : Nat) : Int), a2, a3]
        ) else (
          gc (f_X6_here n (d - 1) 0 S_27 []) fun x31 S_32 =>
          gg (inr x31) <|
          if 32 ≤ x31 then (
            gc (f_X6_here n (d - 1) 0 S_32 []) fun x36 S_37 =>
            gg (inr x36) <|
            if x36 ≠ 92 then (
              gc (f_X6_here n (d - 1) 0 S_37 []) fun x41 S_42 =>
              gc (f_X9_add n (d - 1) 0 S_42 [((a1 : Nat) : Int), x41]) fun x44 S_45 =>
              gv (S_45.1 470 7) fun x47 =>
              gv (x47 + 1) fun x49 =>
              gv (gI S_45 470 7 x49) fun S_51 =>
              gv (a3 + 1) fun x53 =>
              rec d 12 S_51 [((a1 : Nat) : Int), a2, x53]
            ) else (
              gv (S_37.1 470 7) fun x55 =>
              gv (x55 + 1) fun x57 =>
              gv (gI S_37 470 7 x57) fun S_59 =>
              gc (f_X6_escaped n (d - 1) 0 S_59 []) fun x61 S_62 =>
              gc (f_X6_goesOn n (d - 1) 0 S_62 []) fun x64 S_65 =>
              gg (inr x64) <|
              if x64 = 0 then (
                gv (a3 + 1) fun x69 =>
                rec d 12 S_65 [((a1 : Nat) : Int), a2, x69]
              ) else (
                gc (f_X9_add n (d - 1) 0 S_65 [((a1 : Nat) : Int), x61]) fun x71 S_72 =>
                gv (a3 + 1) fun x74 =>
                rec d 12 S_72 [((a1 : Nat) : Int), a2, x74]
              )
            )
          ) else (
            rec d 50 S_32 [((a1 : Nat) : Int), a2, a3]
          )
        )
      )
    )
  )
def b_X6_readSigns_50 (n d : Nat) (rec : Nat → Nat → GS → List Int → Option (Int × GS)) (S : GS) (a1 : Nat) (a2 : Int) (a3 : Int) : Option (Int × GS) :=
  gv (S.1 470 7) fun x1 =>
  gg (1 ≤ d) <|
  gc (f_X6_fail n (d - 1) 0 S [x1]) fun x4 S_5 =>
  gv (a3 + 1) fun x7 =>
  rec d 12 S_5 [((a1 : Nat) : Int), a2, x7]
def f_X6_readSigns : Nat → Nat → Nat → GS → List Int → Option (Int × GS)
  | 0, _, _, _, _ => none
  | n + 1, d, pc, S, x => match pc, x with
    | 0, [a1, a2] => b_X6_readSigns_0 n d (f_X6_readSigns n) S a1.toNat a2
    | 12, [a1, a2, a3] => b_X6_readSigns_12 n d (f_X6_readSigns n) S a1.toNat a2 a3
    | 50, [a1, a2, a3] => b_X6_readSigns_50 n d (f_X6_readSigns n) S a1.toNat a2 a3
    | _, _ => none
theorem e_X6_readSigns_0 {n d : Nat} {S : GS} {a1 : Nat} {a2 : Int} : f_X6_readSigns (n + 1) d 0 S [((a1 : Nat) : Int), a2] = b_X6_readSigns_0 n d (f_X6_readSigns n) S a1 a2 := rfl
theorem e_X6_readSigns_12 {n d : Nat} {S : GS} {a1 : Nat} {a2 : Int} {a3 : Int} : f_X6_readSigns (n + 1) d 12 S [((a1 : Nat) : Int), a2, a3] = b_X6_readSigns_12 n d (f_X6_readSigns n) S a1 a2 a3 := rfl
theorem e_X6_readSigns_50 {n d : Nat} {S : GS} {a1 : Nat} {a2 : Int} {a3 : Int} : f_X6_readSigns (n + 1) d 50 S [((a1 : Nat) : Int), a2, a3] = b_X6_readSigns_50 n d (f_X6_readSigns n) S a1 a2 a3 := rfl

def b_X6_text_0 (n d : Nat) (rec : Nat → Nat → GS → List Int → Option (Int × GS)) (S : GS) : Option (Int × GS) :=
  gg (1 ≤ d) <|
  gc (f_X6_begin n (d - 1) 0 S [3]) fun x2 S_3 =>
  gc (f_X6_readSigns n (d - 1) 0 S_3 [((432 : Nat) : Int), 40]) fun x5 S_6 =>
  rec d 18 S_6 [x2, 0]
def b_X6_text_18 (n d : Nat) (rec : Nat → Nat → GS → List Int → Option (Int × GS)) (S : GS) (a1 : Int) (a2 : Int) : Option (Int × GS) :=
  gg (1 ≤ d) <|
  gc (f_X9_length n (d - 1) 0 S [((432 : Nat) : Int)]) fun x2 S_3 =>
  gg (inr a2) <|
  gg (inr x2) <|
  if x2 ≤ a2 then (
    some (a1, S_3)
  ) else (
    gc (f_X6_goesOn n (d - 1) 0 S_3 []) fun x8 S_9 =>
    gg (inr x8) <|
    if x8 = 0 then (
      some (a1, S_9)
    ) else (
      gc (f_X9_at n (d - 1) 0 S_9 [((432 : Nat) : Int), a2]) fun x13 S_14 =>
      gc (f_X10_addSign n (d - 1) 0 S_14 [((336 : Nat) : Int), a1, x13]) fun x16 S_17 =>
      gv (a2 + 1) fun x19 =>
      rec d 18 S_17 [a1, x19]
    )
  )
def f_X6_text : Nat → Nat → Nat → GS → List Int → Option (Int × GS)
  | 0, _, _, _, _ => none
  | n + 1, d, pc, S, x => match pc, x with
    | 0, [] => b_X6_text_0 n d (f_X6_text n) S 
    | 18, [a1, a2] => b_X6_text_18 n d (f_X6_text n) S a1 a2
    | _, _ => none
theorem e_X6_text_0 {n d : Nat} {S : GS} : f_X6_text (n + 1) d 0 S [] = b_X6_text_0 n d (f_X6_text n) S  := rfl
theorem e_X6_text_18 {n d : Nat} {S : GS} {a1 : Int} {a2 : Int} : f_X6_text (n + 1) d 18 S [a1, a2] = b_X6_text_18 n d (f_X6_text n) S a1 a2 := rfl

def b_X6_readFigure_0 (n d : Nat) (rec : Nat → Nat → GS → List Int → Option (Int × GS)) (S : GS) : Option (Int × GS) :=
  gg (1 ≤ d) <|
  gc (f_X9_length n (d - 1) 0 S [((434 : Nat) : Int)]) fun x2 S_3 =>
  gg (inr x2) <|
  if x2 < 24 then (
    gc (f_X6_here n (d - 1) 0 S_3 []) fun x7 S_8 =>
    gc (f_X9_add n (d - 1) 0 S_8 [((434 : Nat) : Int), x7]) fun x10 S_11 =>
    gv (S_11.1 470 7) fun x13 =>
    gv (x13 + 1) fun x15 =>
    gv (gI S_11 470 7 x15) fun S_17 =>
    some (0, S_17)
  ) else (
    gv (S_3.1 470 7) fun x19 =>
    gc (f_X6_fail n (d - 1) 0 S_3 [x19]) fun x21 S_22 =>
    some (0, S_22)
  )
def f_X6_readFigure : Nat → Nat → Nat → GS → List Int → Option (Int × GS)
  | 0, _, _, _, _ => none
  | n + 1, d, pc, S, x => match pc, x with
    | 0, [] => b_X6_readFigure_0 n d (f_X6_readFigure n) S 
    | _, _ => none
theorem e_X6_readFigure_0 {n d : Nat} {S : GS} : f_X6_readFigure (n + 1) d 0 S [] = b_X6_readFigure_0 n d (f_X6_readFigure n) S  := rfl

def b_X6_readFigures_0 (n d : Nat) (rec : Nat → Nat → GS → List Int → Option (Int × GS)) (S : GS) : Option (Int × GS) :=
  gg (1 ≤ d) <|
  gc (f_X6_here n (d - 1) 0 S []) fun x2 S_3 =>
  gc (f_X6_isFigure n (d - 1) 0 S_3 [x2]) fun x5 S_6 =>
  gg (inr x5) <|
  if x5 ≠ 0 then (
    rec d 21 S_6 [0]
  ) else (
    gv (S_6.1 470 7) fun x10 =>
    gc (f_X6_fail n (d - 1) 0 S_6 [x10]) fun x12 S_13 =>
    rec d 21 S_13 [0]
  )
def b_X6_readFigures_21 (n d : Nat) (rec : Nat → Nat → GS → List Int → Option (Int × GS)) (S : GS) (a1 : Int) : Option (Int × GS) :=
  gg (inr a1) <|
  if 24 < a1 then (
    some (0, S)
  ) else (
    gg (1 ≤ d) <|
    gc (f_X6_here n (d - 1) 0 S []) fun x4 S_5 =>
    gc (f_X6_isFigure n (d - 1) 0 S_5 [x4]) fun x7 S_8 =>
    gg (inr x7) <|
    if x7 = 0 then (
      some (0, S_8)
    ) else (
      gc (f_X6_goesOn n (d - 1) 0 S_8 []) fun x12 S_13 =>
      gg (inr x12) <|
      if x12 = 0 then (
        some (0, S_13)
      ) else (
        gc (f_X6_readFigure n (d - 1) 0 S_13 []) fun x17 S_18 =>
        gv (a1 + 1) fun x20 =>
        rec d 21 S_18 [x20]
      )
    )
  )
def f_X6_readFigures : Nat → Nat → Nat → GS → List Int → Option (Int × GS)
  | 0, _, _, _, _ => none
  | n + 1, d, pc, S, x => match pc, x with
    | 0, [] => b_X6_readFigures_0 n d (f_X6_readFigures n) S 
    | 21, [a1] => b_X6_readFigures_21 n d (f_X6_readFigures n) S a1
    | _, _ => none
theorem e_X6_readFigures_0 {n d : Nat} {S : GS} : f_X6_readFigures (n + 1) d 0 S [] = b_X6_readFigures_0 n d (f_X6_readFigures n) S  := rfl
theorem e_X6_readFigures_21 {n d : Nat} {S : GS} {a1 : Int} : f_X6_readFigures (n + 1) d 21 S [a1] = b_X6_readFigures_21 n d (f_X6_readFigures n) S a1 := rfl

def b_X6_exponent_0 (n d : Nat) (rec : Nat → Nat → GS → List Int → Option (Int × GS)) (S : GS) : Option (Int × GS) :=
  gv (S.1 470 7) fun x1 =>
  gv (x1 + 1) fun x3 =>
  gv (gI S 470 7 x3) fun S_5 =>
  gg (1 ≤ d) <|
  gc (f_X6_here n (d - 1) 0 S_5 []) fun x8 S_9 =>
  gg (inr x8) <|
  if x8 ≠ 45 then (
    rec d 24 S_9 [0]
  ) else (
    rec d 24 S_9 [1]
  )
def b_X6_exponent_24 (n d : Nat) (rec : Nat → Nat → GS → List Int → Option (Int × GS)) (S : GS) (s0 : Int) : Option (Int × GS) :=
  gg (inr s0) <|
  if s0 ≠ 0 then (
    gv (S.1 470 7) fun x3 =>
    gv (x3 + 1) fun x5 =>
    gv (gI S 470 7 x5) fun S_7 =>
    rec d 48 S_7 [s0]
  ) else (
    gg (1 ≤ d) <|
    gc (f_X6_here n (d - 1) 0 S []) fun x10 S_11 =>
    gg (inr x10) <|
    if x10 ≠ 43 then (
      rec d 48 S_11 [s0]
    ) else (
      gv (S_11.1 470 7) fun x15 =>
      gv (x15 + 1) fun x17 =>
      gv (gI S_11 470 7 x17) fun S_19 =>
      rec d 48 S_19 [s0]
    )
  )
def b_X6_exponent_48 (n d : Nat) (rec : Nat → Nat → GS → List Int → Option (Int × GS)) (S : GS) (a1 : Int) : Option (Int × GS) :=
  gg (1 ≤ d) <|
  gc (f_X6_here n (d - 1) 0 S []) fun x2 S_3 =>
  gc (f_X6_isFigure n (d - 1) 0 S_3 [x2]) fun x5 S_6 =>
  gg (inr x5) <|
  if x5 ≠ 0 then (
    gc (f_X6_here n (d - 1) 0 S_6 []) fun x10 S_11 =>
    gv (x10 - 48) fun x13 =>
    gv (S_11.1 470 7) fun x15 =>
    gv (x15 + 1) fun x17 =>
    gv (gI S_11 470 7 x17) fun S_19 =>
    gc (f_X6_here n (d - 1) 0 S_19 []) fun x21 S_22 =>
    gc (f_X6_isFigure n (d - 1) 0 S_22 [x21]) fun x24 S_25 =>
    gg (inr x24) <|
    if x24 = 0 then (
      gg (inr a1) <|
      if a1 = 0 then (
        some (x13, S_25)
      ) else (
        gv (-x13) fun x31 =>
        some (x31, S_25)
      )
    ) else (
      gv (x13 * 10) fun x33 =>
      gc (f_X6_here n (d - 1) 0 S_25 []) fun x35 S_36 =>
      gv (x33 + x35) fun x38 =>
      gv (x38 - 48) fun x40 =>
      gv (S_36.1 470 7) fun x42 =>
      gv (x42 + 1) fun x44 =>
      gv (gI S_36 470 7 x44) fun S_46 =>
      gg (inr a1) <|
      if a1 = 0 then (
        some (x40, S_46)
      ) else (
        gv (-x40) fun x50 =>
        some (x50, S_46)
      )
    )
  ) else (
    gv (S_6.1 470 7) fun x52 =>
    gc (f_X6_fail n (d - 1) 0 S_6 [x52]) fun x54 S_55 =>
    some (0, S_55)
  )
def f_X6_exponent : Nat → Nat → Nat → GS → List Int → Option (Int × GS)
  | 0, _, _, _, _ => none
  | n + 1, d, pc, S, x => match pc, x with
    | 0, [] => b_X6_exponent_0 n d (f_X6_exponent n) S 
    | 24, [s0] => b_X6_exponent_24 n d (f_X6_exponent n) S s0
    | 48, [a1] => b_X6_exponent_48 n d (f_X6_exponent n) S a1
    | _, _ => none
theorem e_X6_exponent_0 {n d : Nat} {S : GS} : f_X6_exponent (n + 1) d 0 S [] = b_X6_exponent_0 n d (f_X6_exponent n) S  := rfl
theorem e_X6_exponent_24 {n d : Nat} {S : GS} {s0 : Int} : f_X6_exponent (n + 1) d 24 S [s0] = b_X6_exponent_24 n d (f_X6_exponent n) S s0 := rfl
theorem e_X6_exponent_48 {n d : Nat} {S : GS} {a1 : Int} : f_X6_exponent (n + 1) d 48 S [a1] = b_X6_exponent_48 n d (f_X6_exponent n) S a1 := rfl

def b_X6_number_0 (n d : Nat) (rec : Nat → Nat → GS → List Int → Option (Int × GS)) (S : GS) : Option (Int × GS) :=
  gv (S.1 470 7) fun x1 =>
  gg (1 ≤ d) <|
  gc (f_X9_clear n (d - 1) 0 S [((434 : Nat) : Int)]) fun x4 S_5 =>
  gc (f_X6_here n (d - 1) 0 S_5 []) fun x7 S_8 =>
  gg (inr x7) <|
  if x7 ≠ 45 then (
    rec d 26 S_8 [x1, 0]
  ) else (
    rec d 26 S_8 [x1, 1]
  )
def b_X6_number_26 (n d : Nat) (rec : Nat → Nat → GS → List Int → Option (Int × GS)) (S : GS) (a1 : Int) (s0 : Int) : Option (Int × GS) :=
  gg (inr s0) <|
  if s0 = 0 then (
    rec d 41 S [a1, s0]
  ) else (
    gv (S.1 470 7) fun x3 =>
    gv (x3 + 1) fun x5 =>
    gv (gI S 470 7 x5) fun S_7 =>
    rec d 41 S_7 [a1, s0]
  )
def b_X6_number_41 (n d : Nat) (rec : Nat → Nat → GS → List Int → Option (Int × GS)) (S : GS) (a1 : Int) (a2 : Int) : Option (Int × GS) :=
  gg (1 ≤ d) <|
  gc (f_X6_here n (d - 1) 0 S []) fun x2 S_3 =>
  gg (inr x2) <|
  if x2 ≠ 48 then (
    gc (f_X6_readFigures n (d - 1) 0 S_3 []) fun x7 S_8 =>
    rec d 61 S_8 [a1, a2]
  ) else (
    gc (f_X6_readFigure n (d - 1) 0 S_3 []) fun x10 S_11 =>
    rec d 61 S_11 [a1, a2]
  )
def b_X6_number_61 (n d : Nat) (rec : Nat → Nat → GS → List Int → Option (Int × GS)) (S : GS) (a1 : Int) (a2 : Int) : Option (Int × GS) :=
  gg (1 ≤ d) <|
  gc (f_X9_length n (d - 1) 0 S [((434 : Nat) : Int)]) fun x2 S_3 =>
  gc (f_X6_here n (d - 1) 0 S_3 []) fun x5 S_6 =>
  gg (inr x5) <|
  if x5 ≠ 46 then (
    rec d 99 S_6 [a1, a2, x2]
  ) else (
    gc (f_X6_goesOn n (d - 1) 0 S_6 []) fun x10 S_11 =>
    gg (inr x10) <|
    if x10 = 0 then (
      rec d 99 S_11 [a1, a2, x2]
    ) else (
      gv (S_11.1 470 7) fun x15 =>
      gv (x15 + 1) fun x17 =>
      gv (gI S_11 470 7 x17) fun S_19 =>
      gc (f_X6_readFigures n (d - 1) 0 S_19 []) fun x21 S_22 =>
      rec d 99 S_22 [a1, a2, x2]
    )
  )
def b_X6_number_99 (n d : Nat) (rec : Nat → Nat → GS → List Int → Option (Int × GS)) (S : GS) (a1 : Int) (a2 : Int) (a3 : Int) : Option (Int × GS) :=
  gg (1 ≤ d) <|
  gc (f_X9_length n (d - 1) 0 S [((434 : Nat) : Int)]) fun x2 S_3 =>
  gv (a3 - x2) fun x5 =>
  gc (f_X6_here n (d - 1) 0 S_3 []) fun x7 S_8 =>
  gg (inr x7) <|
  if x7 = 101 then (
    rec d 128 S_8 [a1, a2, x5]
  ) else (
    gc (f_X6_here n (d - 1) 0 S_8 []) fun x12 S_13 =>
    gg (inr x12) <|
    if x12 ≠ 69 then (
      rec d 144 S_13 [a1, a2, x5]
    ) else (
      rec d 128 S_13 [a1, a2, x5]
    )
  )
def b_X6_number_128 (n d : Nat) (rec : Nat → Nat → GS → List Int → Option (Int × GS)) (S : GS) (a1 : Int) (a2 : Int) (a4 : Int) : Option (Int × GS) :=
  gg (1 ≤ d) <|
  gc (f_X6_goesOn n (d - 1) 0 S []) fun x2 S_3 =>
  gg (inr x2) <|
  if x2 = 0 then (
    rec d 144 S_3 [a1, a2, a4]
  ) else (
    gc (f_X6_exponent n (d - 1) 0 S_3 []) fun x7 S_8 =>
    gv (a4 + x7) fun x10 =>
    rec d 144 S_8 [a1, a2, x10]
  )
def b_X6_number_144 (n d : Nat) (rec : Nat → Nat → GS → List Int → Option (Int × GS)) (S : GS) (a1 : Int) (a2 : Int) (a4 : Int) : Option (Int × GS) :=
  gg (1 ≤ d) <|
  gc (f_X6_begin n (d - 1) 0 S [2]) fun x2 S_3 =>
  gc (f_X6_goesOn n (d - 1) 0 S_3 []) fun x5 S_6 =>
  gg (inr x5) <|
  if x5 = 0 then (
    some (x2, S_6)
  ) else (
    gc (f_X10_setNumber n (d - 1) 0 S_6 [((336 : Nat) : Int), x2, a2, ((434 : Nat) : Int), a4]) fun x10 S_11 =>
    gg (inr x10) <|
    if x10 ≠ 0 then (
      some (x2, S_11)
    ) else (
      gc (f_X6_fail n (d - 1) 0 S_11 [a1]) fun x15 S_16 =>
      some (x2, S_16)
    )
  )
def f_X6_number : Nat → Nat → Nat → GS → List Int → Option (Int × GS)
  | 0, _, _, _, _ => none
  | n + 1, d, pc, S, x => match pc, x with
    | 0, [] => b_X6_number_0 n d (f_X6_number n) S 
    | 26, [a1, s0] => b_X6_number_26 n d (f_X6_number n) S a1 s0
    | 41, [a1, a2] => b_X6_number_41 n d (f_X6_number n) S a1 a2
    | 61, [a1, a2] => b_X6_number_61 n d (f_X6_number n) S a1 a2
    | 99, [a1, a2, a3] => b_X6_number_99 n d (f_X6_number n) S a1 a2 a3
    | 128, [a1, a2, a4] => b_X6_number_128 n d (f_X6_number n) S a1 a2 a4
    | 144, [a1, a2, a4] => b_X6_number_144 n d (f_X6_number n) S a1 a2 a4
    | _, _ => none
theorem e_X6_number_0 {n d : Nat} {S : GS} : f_X6_number (n + 1) d 0 S [] = b_X6_number_0 n d (f_X6_number n) S  := rfl
theorem e_X6_number_26 {n d : Nat} {S : GS} {a1 : Int} {s0 : Int} : f_X6_number (n + 1) d 26 S [a1, s0] = b_X6_number_26 n d (f_X6_number n) S a1 s0 := rfl
theorem e_X6_number_41 {n d : Nat} {S : GS} {a1 : Int} {a2 : Int} : f_X6_number (n + 1) d 41 S [a1, a2] = b_X6_number_41 n d (f_X6_number n) S a1 a2 := rfl
theorem e_X6_number_61 {n d : Nat} {S : GS} {a1 : Int} {a2 : Int} : f_X6_number (n + 1) d 61 S [a1, a2] = b_X6_number_61 n d (f_X6_number n) S a1 a2 := rfl
theorem e_X6_number_99 {n d : Nat} {S : GS} {a1 : Int} {a2 : Int} {a3 : Int} : f_X6_number (n + 1) d 99 S [a1, a2, a3] = b_X6_number_99 n d (f_X6_number n) S a1 a2 a3 := rfl
theorem e_X6_number_128 {n d : Nat} {S : GS} {a1 : Int} {a2 : Int} {a4 : Int} : f_X6_number (n + 1) d 128 S [a1, a2, a4] = b_X6_number_128 n d (f_X6_number n) S a1 a2 a4 := rfl
theorem e_X6_number_144 {n d : Nat} {S : GS} {a1 : Int} {a2 : Int} {a4 : Int} : f_X6_number (n + 1) d 144 S [a1, a2, a4] = b_X6_number_144 n d (f_X6_number n) S a1 a2 a4 := rfl

def b_X6_passAll_0 (n d : Nat) (rec : Nat → Nat → GS → List Int → Option (Int × GS)) (S : GS) (a1 : Nat) : Option (Int × GS) :=
  rec d 2 S [((a1 : Nat) : Int), 0]
def b_X6_passAll_2 (n d : Nat) (rec : Nat → Nat → GS → List Int → Option (Int × GS)) (S : GS) (a1 : Nat) (a2 : Int) : Option (Int × GS) :=
  gg (a1 < 54) <|
  gg (2 ≤ d) <|
  gv (((xlen.getD a1 0 : Nat) : Int)) fun x3 =>
  gg (inr a2) <|
  gg (inr x3) <|
  if x3 ≤ a2 then (
    some (0, S)
  ) else (
    gg (1 ≤ d) <|
    gc (f_X6_goesOn n (d - 1) 0 S []) fun x9 S_10 =>
    gg (inr x9) <|
    if x9 = 0 then (
      some (0, S_10)
    ) else (
      gg (4 ≤ d) <|
      gg (0 ≤ a2 ∧ a2 < ((xlen.getD a1 0 : Nat) : Int)) <|
      gv (xch a1 (a2 : Int).toNat) fun x16 =>
      gc (f_X6_pass n (d - 1) 0 S_10 [x16]) fun x18 S_19 =>
      gv (a2 + 1) fun x21 =>
      rec d 2 S_19 [((a1 : Nat) : Int), x21]
    )
  )
def f_X6_passAll : Nat → Nat → Nat → GS → List Int → Option (Int × GS)
  | 0, _, _, _, _ => none
  | n + 1, d, pc, S, x => match pc, x with
    | 0, [a1] => b_X6_passAll_0 n d (f_X6_passAll n) S a1.toNat
    | 2, [a1, a2] => b_X6_passAll_2 n d (f_X6_passAll n) S a1.toNat a2
    | _, _ => none
theorem e_X6_passAll_0 {n d : Nat} {S : GS} {a1 : Nat} : f_X6_passAll (n + 1) d 0 S [((a1 : Nat) : Int)] = b_X6_passAll_0 n d (f_X6_passAll n) S a1 := rfl
theorem e_X6_passAll_2 {n d : Nat} {S : GS} {a1 : Nat} {a2 : Int} : f_X6_passAll (n + 1) d 2 S [((a1 : Nat) : Int), a2] = b_X6_passAll_2 n d (f_X6_passAll n) S a1 a2 := rfl

def b_X6_constant_0 (n d : Nat) (rec : Nat → Nat → GS → List Int → Option (Int × GS)) (S : GS) (a1 : Int) : Option (Int × GS) :=
  gg (inr a1) <|
  if a1 ≠ 110 then (
    if a1 = 116 then (
      if a1 ≠ 116 then (
        rec d 53 S [a1, ((14 : Nat) : Int)]
      ) else (
        rec d 53 S [a1, ((13 : Nat) : Int)]
      )
    ) else (
      if a1 = 102 then (
        if a1 ≠ 116 then (
          rec d 53 S [a1, ((14 : Nat) : Int)]
        ) else (
          rec d 53 S [a1, ((13 : Nat) : Int)]
        )
      ) else (
        gv (S.1 470 7) fun x7 =>
        gg (1 ≤ d) <|
        gc (f_X6_fail n (d - 1) 0 S [x7]) fun x10 S_11 =>
        some (x10, S_11)
      )
    )
  ) else (
    gg (1 ≤ d) <|
    gc (f_X6_passAll n (d - 1) 0 S [((12 : Nat) : Int)]) fun x14 S_15 =>
    gc (f_X6_begin n (d - 1) 0 S_15 [0]) fun x17 S_18 =>
    some (x17, S_18)
  )
def b_X6_constant_53 (n d : Nat) (rec : Nat → Nat → GS → List Int → Option (Int × GS)) (S : GS) (a1 : Int) (s0 : Nat) : Option (Int × GS) :=
  gg (1 ≤ d) <|
  gc (f_X6_passAll n (d - 1) 0 S [((s0 : Nat) : Int)]) fun x2 S_3 =>
  gg (inr a1) <|
  if a1 ≠ 116 then (
    rec d 71 S_3 [0, ((336 : Nat) : Int)]
  ) else (
    rec d 71 S_3 [1, ((336 : Nat) : Int)]
  )
def b_X6_constant_71 (n d : Nat) (rec : Nat → Nat → GS → List Int → Option (Int × GS)) (S : GS) (s0 : Int) (s1 : Nat) : Option (Int × GS) :=
  gg (1 ≤ d) <|
  gg (gT s1) <|
  gc (f_X10_addTruth n (d - 1) 0 S [((s1 : Nat) : Int), s0]) fun x3 S_4 =>
  gc (f_X10_setKey n (d - 1) 0 S_4 [((336 : Nat) : Int), x3, ((430 : Nat) : Int)]) fun x6 S_7 =>
  some (x3, S_7)
def f_X6_constant : Nat → Nat → Nat → GS → List Int → Option (Int × GS)
  | 0, _, _, _, _ => none
  | n + 1, d, pc, S, x => match pc, x with
    | 0, [a1] => b_X6_constant_0 n d (f_X6_constant n) S a1
    | 53, [a1, s0] => b_X6_constant_53 n d (f_X6_constant n) S a1 s0.toNat
    | 71, [s0, s1] => b_X6_constant_71 n d (f_X6_constant n) S s0 s1.toNat
    | _, _ => none
theorem e_X6_constant_0 {n d : Nat} {S : GS} {a1 : Int} : f_X6_constant (n + 1) d 0 S [a1] = b_X6_constant_0 n d (f_X6_constant n) S a1 := rfl
theorem e_X6_constant_53 {n d : Nat} {S : GS} {a1 : Int} {s0 : Nat} : f_X6_constant (n + 1) d 53 S [a1, ((s0 : Nat) : Int)] = b_X6_constant_53 n d (f_X6_constant n) S a1 s0 := rfl
theorem e_X6_constant_71 {n d : Nat} {S : GS} {s0 : Int} {s1 : Nat} : f_X6_constant (n + 1) d 71 S [s0, ((s1 : Nat) : Int)] = b_X6_constant_71 n d (f_X6_constant n) S s0 s1 := rfl

def b_X6_entry_0 (n d : Nat) (rec : Nat → Nat → GS → List Int → Option (Int × GS)) (S : GS) (a1 : Int) (a2 : Int) : Option (Int × GS) :=
  gg (1 ≤ d) <|
  gc (f_X6_skipBlanks n (d - 1) 0 S []) fun x2 S_3 =>
  gc (f_X6_readSigns n (d - 1) 0 S_3 [((430 : Nat) : Int), 12]) fun x5 S_6 =>
  gc (f_X10_close n (d - 1) 0 S_6 [((336 : Nat) : Int), a1]) fun x8 S_9 =>
  gc (f_X10_valueOf n (d - 1) 0 S_9 [((336 : Nat) : Int), a1, ((430 : Nat) : Int)]) fun x11 S_12 =>
  gc (f_X6_goesOn n (d - 1) 0 S_12 []) fun x14 S_15 =>
  gg (inr x14) <|
  if x14 = 0 then (
    rec d 65 S_15 [a2, x11]
  ) else (
    gg (inr x11) <|
    if x11 = (-1) then (
      rec d 65 S_15 [a2, x11]
    ) else (
      gv (S_15.1 470 6) fun x21 =>
      gg (inr x21) <|
      if x21 ≠ 0 then (
        rec d 65 S_15 [a2, x11]
      ) else (
        gv (S_15.1 470 7) fun x25 =>
        gv (x25 - 1) fun x27 =>
        gc (f_X6_fail n (d - 1) 0 S_15 [x27]) fun x29 S_30 =>
        rec d 65 S_30 [a2, x11]
      )
    )
  )
def b_X6_entry_65 (n d : Nat) (rec : Nat → Nat → GS → List Int → Option (Int × GS)) (S : GS) (a2 : Int) (a3 : Int) : Option (Int × GS) :=
  gg (1 ≤ d) <|
  gc (f_X6_skipBlanks n (d - 1) 0 S []) fun x2 S_3 =>
  gc (f_X6_pass n (d - 1) 0 S_3 [58]) fun x5 S_6 =>
  gc (f_X6_goesOn n (d - 1) 0 S_6 []) fun x8 S_9 =>
  gg (inr x8) <|
  if x8 ≠ 0 then (
    gc (rec (d - 1) 20000 S_9 [a2]) fun x13 S_14 =>
    gc (f_X6_goesOn n (d - 1) 0 S_14 []) fun x16 S_17 =>
    gg (inr x16) <|
    if x16 = 0 then (
      rec d 122 S_17 [a3, x13]
    ) else (
      gg (inr a3) <|
      if a3 = (-1) then (
        rec d 122 S_17 [a3, x13]
      ) else (
        gv (S_17.1 470 6) fun x23 =>
        gg (inr x23) <|
        if x23 ≠ 1 then (
          rec d 122 S_17 [a3, x13]
        ) else (
          gc (f_X10_dropFrom n (d - 1) 0 S_17 [((336 : Nat) : Int), x13]) fun x27 S_28 =>
          some (0, S_28)
        )
      )
    )
  ) else (
    some (0, S_9)
  )
def b_X6_entry_122 (n d : Nat) (rec : Nat → Nat → GS → List Int → Option (Int × GS)) (S : GS) (a3 : Int) (a4 : Int) : Option (Int × GS) :=
  gg (1 ≤ d) <|
  gc (f_X6_goesOn n (d - 1) 0 S []) fun x2 S_3 =>
  gg (inr x2) <|
  if x2 = 0 then (
    some (0, S_3)
  ) else (
    gg (inr a3) <|
    if a3 = (-1) then (
      some (0, S_3)
    ) else (
      gc (f_X10_replaceByLast n (d - 1) 0 S_3 [((336 : Nat) : Int), a3, a4, ((344 : Nat) : Int)]) fun x9 S_10 =>
      some (0, S_10)
    )
  )
def b_X6_group_0 (n d : Nat) (rec : Nat → Nat → GS → List Int → Option (Int × GS)) (S : GS) (a1 : Int) (a2 : Int) : Option (Int × GS) :=
  gg (1 ≤ d) <|
  gc (f_X6_begin n (d - 1) 0 S [a1]) fun x2 S_3 =>
  gg (inr a1) <|
  if a1 ≠ 4 then (
    rec d 10018 S_3 [a1, a2, x2, 125]
  ) else (
    rec d 10018 S_3 [a1, a2, x2, 93]
  )
def b_X6_group_18 (n d : Nat) (rec : Nat → Nat → GS → List Int → Option (Int × GS)) (S : GS) (a1 : Int) (a2 : Int) (a3 : Int) (s0 : Int) : Option (Int × GS) :=
  gv (S.1 470 7) fun x1 =>
  gv (x1 + 1) fun x3 =>
  gv (gI S 470 7 x3) fun S_5 =>
  gg (1 ≤ d) <|
  gc (f_X6_skipBlanks n (d - 1) 0 S_5 []) fun x8 S_9 =>
  gc (f_X6_here n (d - 1) 0 S_9 []) fun x11 S_12 =>
  gg (inr x11) <|
  gg (inr s0) <|
  if x11 ≠ s0 then (
    rec d 10053 S_12 [a1, a2, a3, s0, 0, 0]
  ) else (
    rec d 10053 S_12 [a1, a2, a3, s0, 1, 0]
  )
def b_X6_group_53 (n d : Nat) (rec : Nat → Nat → GS → List Int → Option (Int × GS)) (S : GS) (a1 : Int) (a2 : Int) (a3 : Int) (a4 : Int) (a5 : Int) (a6 : Int) : Option (Int × GS) :=
  gg (inr a6) <|
  if 100 < a6 then (
    rec d 10136 S [a3, a4]
  ) else (
    gg (inr a5) <|
    if a5 ≠ 0 then (
      rec d 10136 S [a3, a4]
    ) else (
      gg (1 ≤ d) <|
      gc (f_X6_goesOn n (d - 1) 0 S []) fun x6 S_7 =>
      gg (inr x6) <|
      if x6 = 0 then (
        rec d 10136 S_7 [a3, a4]
      ) else (
        gg (inr a1) <|
        if a1 ≠ 4 then (
          gc (rec (d - 1) 0 S_7 [a3, a2]) fun x13 S_14 =>
          rec d 10099 S_14 [a1, a2, a3, a4, a6]
        ) else (
          gc (f_X9_clear n (d - 1) 0 S_7 [((430 : Nat) : Int)]) fun x16 S_17 =>
          gc (rec (d - 1) 20000 S_17 [a2]) fun x19 S_20 =>
          rec d 10099 S_20 [a1, a2, a3, a4, a6]
        )
      )
    )
  )
def b_X6_group_99 (n d : Nat) (rec : Nat → Nat → GS → List Int → Option (Int × GS)) (S : GS) (a1 : Int) (a2 : Int) (a3 : Int) (a4 : Int) (a6 : Int) : Option (Int × GS) :=
  gg (1 ≤ d) <|
  gc (f_X6_skipBlanks n (d - 1) 0 S []) fun x2 S_3 =>
  gc (f_X6_here n (d - 1) 0 S_3 []) fun x5 S_6 =>
  gg (inr x5) <|
  gg (inr a4) <|
  if x5 ≠ a4 then (
    rec d 10117 S_6 [a1, a2, a3, a4, a6, 0]
  ) else (
    rec d 10117 S_6 [a1, a2, a3, a4, a6, 1]
  )
def b_X6_group_117 (n d : Nat) (rec : Nat → Nat → GS → List Int → Option (Int × GS)) (S : GS) (a1 : Int) (a2 : Int) (a3 : Int) (a4 : Int) (a6 : Int) (s0 : Int) : Option (Int × GS) :=
  gg (inr s0) <|
  if s0 ≠ 0 then (
    gv (a6 + 1) fun x3 =>
    rec d 10053 S [a1, a2, a3, a4, s0, x3]
  ) else (
    gg (1 ≤ d) <|
    gc (f_X6_pass n (d - 1) 0 S [44]) fun x6 S_7 =>
    gv (a6 + 1) fun x9 =>
    rec d 10053 S_7 [a1, a2, a3, a4, s0, x9]
  )
def b_X6_group_136 (n d : Nat) (rec : Nat → Nat → GS → List Int → Option (Int × GS)) (S : GS) (a3 : Int) (a4 : Int) : Option (Int × GS) :=
  gg (1 ≤ d) <|
  gc (f_X6_pass n (d - 1) 0 S [a4]) fun x2 S_3 =>
  gc (f_X10_close n (d - 1) 0 S_3 [((336 : Nat) : Int), a3]) fun x5 S_6 =>
  some (a3, S_6)
def b_X6_value_0 (n d : Nat) (rec : Nat → Nat → GS → List Int → Option (Int × GS)) (S : GS) (a1 : Int) : Option (Int × GS) :=
  gg (1 ≤ d) <|
  gc (f_X6_skipBlanks n (d - 1) 0 S []) fun x2 S_3 =>
  gc (f_X6_here n (d - 1) 0 S_3 []) fun x5 S_6 =>
  gg (inr x5) <|
  if x5 = (-1) then (
    gv (S_6.1 470 7) fun x10 =>
    gc (f_X6_fail n (d - 1) 0 S_6 [x10]) fun x12 S_13 =>
    some (x12, S_13)
  ) else (
    gv (S_6.1 470 9) fun x15 =>
    gg (inr x15) <|
    if x15 < 100 then (
      gv (S_6.1 470 9) fun x19 =>
      gv (x19 + 1) fun x21 =>
      gv (gI S_6 470 9 x21) fun S_23 =>
      if x5 = 91 then (
        rec d 20054 S_23 [a1, x5]
      ) else (
        if x5 ≠ 123 then (
          if x5 ≠ 34 then (
            if x5 = 45 then (
              gc (f_X6_number n (d - 1) 0 S_23 []) fun x29 S_30 =>
              some (x29, S_30)
            ) else (
              gc (f_X6_isFigure n (d - 1) 0 S_23 [x5]) fun x32 S_33 =>
              gg (inr x32) <|
              if x32 = 0 then (
                gc (f_X6_constant n (d - 1) 0 S_33 [x5]) fun x37 S_38 =>
                some (x37, S_38)
              ) else (
                gc (f_X6_number n (d - 1) 0 S_33 []) fun x40 S_41 =>
                some (x40, S_41)
              )
            )
          ) else (
            gc (f_X6_text n (d - 1) 0 S_23 []) fun x43 S_44 =>
            some (x43, S_44)
          )
        ) else (
          rec d 20054 S_23 [a1, x5]
        )
      )
    ) else (
      gv (S_6.1 470 7) fun x46 =>
      gc (f_X6_fail n (d - 1) 0 S_6 [x46]) fun x48 S_49 =>
      some (x48, S_49)
    )
  )
def b_X6_value_54 (n d : Nat) (rec : Nat → Nat → GS → List Int → Option (Int × GS)) (S : GS) (a1 : Int) (a2 : Int) : Option (Int × GS) :=
  gg (inr a1) <|
  if a1 < 12 then (
    gg (inr a2) <|
    if a2 ≠ 91 then (
      gv (a1 + 1) fun x5 =>
      gg (1 ≤ d) <|
      gc (rec (d - 1) 10000 S [5, x5]) fun x8 S_9 =>
      some (x8, S_9)
    ) else (
      gv (a1 + 1) fun x11 =>
      gg (1 ≤ d) <|
      gc (rec (d - 1) 10000 S [4, x11]) fun x14 S_15 =>
      some (x14, S_15)
    )
  ) else (
    gv (S.1 470 7) fun x17 =>
    gg (1 ≤ d) <|
    gc (f_X6_fail n (d - 1) 0 S [x17]) fun x20 S_21 =>
    some (x20, S_21)
  )
def f_X6_entry : Nat → Nat → Nat → GS → List Int → Option (Int × GS)
  | 0, _, _, _, _ => none
  | n + 1, d, pc, S, x => match pc, x with
    | 0, [a1, a2] => b_X6_entry_0 n d (f_X6_entry n) S a1 a2
    | 65, [a2, a3] => b_X6_entry_65 n d (f_X6_entry n) S a2 a3
    | 122, [a3, a4] => b_X6_entry_122 n d (f_X6_entry n) S a3 a4
    | 10000, [a1, a2] => b_X6_group_0 n d (f_X6_entry n) S a1 a2
    | 10018, [a1, a2, a3, s0] => b_X6_group_18 n d (f_X6_entry n) S a1 a2 a3 s0
    | 10053, [a1, a2, a3, a4, a5, a6] => b_X6_group_53 n d (f_X6_entry n) S a1 a2 a3 a4 a5 a6
    | 10099, [a1, a2, a3, a4, a6] => b_X6_group_99 n d (f_X6_entry n) S a1 a2 a3 a4 a6
    | 10117, [a1, a2, a3, a4, a6, s0] => b_X6_group_117 n d (f_X6_entry n) S a1 a2 a3 a4 a6 s0
    | 10136, [a3, a4] => b_X6_group_136 n d (f_X6_entry n) S a3 a4
    | 20000, [a1] => b_X6_value_0 n d (f_X6_entry n) S a1
    | 20054, [a1, a2] => b_X6_value_54 n d (f_X6_entry n) S a1 a2
    | _, _ => none
theorem e_X6_entry_0 {n d : Nat} {S : GS} {a1 : Int} {a2 : Int} : f_X6_entry (n + 1) d 0 S [a1, a2] = b_X6_entry_0 n d (f_X6_entry n) S a1 a2 := rfl
theorem e_X6_entry_65 {n d : Nat} {S : GS} {a2 : Int} {a3 : Int} : f_X6_entry (n + 1) d 65 S [a2, a3] = b_X6_entry_65 n d (f_X6_entry n) S a2 a3 := rfl
theorem e_X6_entry_122 {n d : Nat} {S : GS} {a3 : Int} {a4 : Int} : f_X6_entry (n + 1) d 122 S [a3, a4] = b_X6_entry_122 n d (f_X6_entry n) S a3 a4 := rfl
theorem e_X6_group_0 {n d : Nat} {S : GS} {a1 : Int} {a2 : Int} : f_X6_entry (n + 1) d 10000 S [a1, a2] = b_X6_group_0 n d (f_X6_entry n) S a1 a2 := rfl
theorem e_X6_group_18 {n d : Nat} {S : GS} {a1 : Int} {a2 : Int} {a3 : Int} {s0 : Int} : f_X6_entry (n + 1) d 10018 S [a1, a2, a3, s0] = b_X6_group_18 n d (f_X6_entry n) S a1 a2 a3 s0 := rfl
theorem e_X6_group_53 {n d : Nat} {S : GS} {a1 : Int} {a2 : Int} {a3 : Int} {a4 : Int} {a5 : Int} {a6 : Int} : f_X6_entry (n + 1) d 10053 S [a1, a2, a3, a4, a5, a6] = b_X6_group_53 n d (f_X6_entry n) S a1 a2 a3 a4 a5 a6 := rfl
theorem e_X6_group_99 {n d : Nat} {S : GS} {a1 : Int} {a2 : Int} {a3 : Int} {a4 : Int} {a6 : Int} : f_X6_entry (n + 1) d 10099 S [a1, a2, a3, a4, a6] = b_X6_group_99 n d (f_X6_entry n) S a1 a2 a3 a4 a6 := rfl
theorem e_X6_group_117 {n d : Nat} {S : GS} {a1 : Int} {a2 : Int} {a3 : Int} {a4 : Int} {a6 : Int} {s0 : Int} : f_X6_entry (n + 1) d 10117 S [a1, a2, a3, a4, a6, s0] = b_X6_group_117 n d (f_X6_entry n) S a1 a2 a3 a4 a6 s0 := rfl
theorem e_X6_group_136 {n d : Nat} {S : GS} {a3 : Int} {a4 : Int} : f_X6_entry (n + 1) d 10136 S [a3, a4] = b_X6_group_136 n d (f_X6_entry n) S a3 a4 := rfl
theorem e_X6_value_0 {n d : Nat} {S : GS} {a1 : Int} : f_X6_entry (n + 1) d 20000 S [a1] = b_X6_value_0 n d (f_X6_entry n) S a1 := rfl
theorem e_X6_value_54 {n d : Nat} {S : GS} {a1 : Int} {a2 : Int} : f_X6_entry (n + 1) d 20054 S [a1, a2] = b_X6_value_54 n d (f_X6_entry n) S a1 a2 := rfl

def b_X6_parse_0 (n d : Nat) (rec : Nat → Nat → GS → List Int → Option (Int × GS)) (S : GS) (a1 : Nat) (a2 : Int) : Option (Int × GS) :=
  gv (gR S 470 5 a1) fun S_1 =>
  gv (gI S_1 470 6 a2) fun S_3 =>
  gv (gI S_3 470 7 0) fun S_5 =>
  gv (gI S_5 470 8 (-1)) fun S_7 =>
  gv (gI S_7 470 9 0) fun S_9 =>
  gg (1 ≤ d) <|
  gc (f_X10_clear n (d - 1) 0 S_9 [((336 : Nat) : Int)]) fun x12 S_13 =>
  gc (f_X9_clear n (d - 1) 0 S_13 [((430 : Nat) : Int)]) fun x15 S_16 =>
  gc (f_X6_entry n (d - 1) 20000 S_16 [0]) fun x18 S_19 =>
  gc (f_X6_skipBlanks n (d - 1) 0 S_19 []) fun x21 S_22 =>
  gc (f_X6_here n (d - 1) 0 S_22 []) fun x24 S_25 =>
  gg (inr x24) <|
  if x24 = (-1) then (
    gv (S_25.1 470 8) fun x29 =>
    some (x29, S_25)
  ) else (
    gv (S_25.1 470 7) fun x31 =>
    gc (f_X6_fail n (d - 1) 0 S_25 [x31]) fun x33 S_34 =>
    gv (S_34.1 470 8) fun x36 =>
    some (x36, S_34)
  )
def f_X6_parse : Nat → Nat → Nat → GS → List Int → Option (Int × GS)
  | 0, _, _, _, _ => none
  | n + 1, d, pc, S, x => match pc, x with
    | 0, [a1, a2] => b_X6_parse_0 n d (f_X6_parse n) S a1.toNat a2
    | _, _ => none
theorem e_X6_parse_0 {n d : Nat} {S : GS} {a1 : Nat} {a2 : Int} : f_X6_parse (n + 1) d 0 S [((a1 : Nat) : Int), a2] = b_X6_parse_0 n d (f_X6_parse n) S a1 a2 := rfl

def b_X6_result_0 (n d : Nat) (rec : Nat → Nat → GS → List Int → Option (Int × GS)) (S : GS) : Option (Int × GS) :=
  some (((336 : Nat) : Int), S)
def f_X6_result : Nat → Nat → Nat → GS → List Int → Option (Int × GS)
  | 0, _, _, _, _ => none
  | n + 1, d, pc, S, x => match pc, x with
    | 0, [] => b_X6_result_0 n d (f_X6_result n) S 
    | _, _ => none
theorem e_X6_result_0 {n d : Nat} {S : GS} : f_X6_result (n + 1) d 0 S [] = b_X6_result_0 n d (f_X6_result n) S  := rfl

def b_X11_isSound_0 (n d : Nat) (rec : Nat → Nat → GS → List Int → Option (Int × GS)) (S : GS) (a1 : Int) : Option (Int × GS) :=
  gg (1 ≤ d) <|
  gc (f_X11_document n (d - 1) 0 S [a1]) fun x2 S_3 =>
  if x2 < exB then (
  gg (gT (x2.toNat)) <|
  gc (f_X10_isDocument n (d - 1) 0 S_3 [((x2.toNat : Nat) : Int)]) fun x7 S_8 =>
  gg (inr x7) <|
  if x7 = 0 then (
    rec d 29 S_8 [((x2.toNat : Nat) : Int), 0, 0]
  ) else (
    gc (f_X10_isWithinBounds n (d - 1) 0 S_8 [((x2.toNat : Nat) : Int)]) fun x12 S_13 =>
    gg (inr x12) <|
    if x12 = 0 then (
      rec d 29 S_13 [((x2.toNat : Nat) : Int), 0, 0]
    ) else (
      rec d 29 S_13 [((x2.toNat : Nat) : Int), 1, 0]
    )
  )
  ) else some (x2, S_3)
def b_X11_isSound_29 (n d : Nat) (rec : Nat → Nat → GS → List Int → Option (Int × GS)) (S : GS) (a2 : Nat) (a3 : Int) (a4 : Int) : Option (Int × GS) :=
  gg (inr a4) <|
  if 2 < a4 then (
    gg (a3 < exB) <|
    gg (a3 = 0 ∨ a3 = 1) <|
    some (a3, S)
  ) else (
    gg (inr a3) <|
    if a3 = 0 then (
      gg (a3 < exB) <|
      gg (a3 = 0 ∨ a3 = 1) <|
      some (a3, S)
    ) else (
      gg (1 ≤ d) <|
      gc (f_X9_clear n (d - 1) 0 S [((428 : Nat) : Int)]) fun x10 S_11 =>
      gc (f_X8_group n (d - 1) 10000 S_11 [((a2 : Nat) : Int), 0, a4, 0, ((428 : Nat) : Int)]) fun x13 S_14 =>
      gc (f_X6_parse n (d - 1) 0 S_14 [((428 : Nat) : Int), 0]) fun x16 S_17 =>
      gg (inr x16) <|
      if x16 ≠ (-1) then (
        gv (a4 + 1) fun x21 =>
        rec d 29 S_17 [((a2 : Nat) : Int), 0, x21]
      ) else (
        gc (f_X6_result n (d - 1) 0 S_17 []) fun x23 S_24 =>
        gg (gT (x23.toNat)) <|
        gc (f_X10_same n (d - 1) 0 S_24 [((x23.toNat : Nat) : Int), 0, ((a2 : Nat) : Int), 0, 0]) fun x27 S_28 =>
        gg (inr x27) <|
        if x27 = 0 then (
          gv (a4 + 1) fun x32 =>
          rec d 29 S_28 [((a2 : Nat) : Int), 0, x32]
        ) else (
          gv (a4 + 1) fun x34 =>
          rec d 29 S_28 [((a2 : Nat) : Int), 1, x34]
        )
      )
    )
  )
def f_X11_isSound : Nat → Nat → Nat → GS → List Int → Option (Int × GS)
  | 0, _, _, _, _ => none
  | n + 1, d, pc, S, x => match pc, x with
    | 0, [a1] => b_X11_isSound_0 n d (f_X11_isSound n) S a1
    | 29, [a2, a3, a4] => b_X11_isSound_29 n d (f_X11_isSound n) S a2.toNat a3 a4
    | _, _ => none
theorem e_X11_isSound_0 {n d : Nat} {S : GS} {a1 : Int} : f_X11_isSound (n + 1) d 0 S [a1] = b_X11_isSound_0 n d (f_X11_isSound n) S a1 := rfl
theorem e_X11_isSound_29 {n d : Nat} {S : GS} {a2 : Nat} {a3 : Int} {a4 : Int} : f_X11_isSound (n + 1) d 29 S [((a2 : Nat) : Int), a3, a4] = b_X11_isSound_29 n d (f_X11_isSound n) S a2 a3 a4 := rfl

def b_X4_alike_0 (n d : Nat) (rec : Nat → Nat → GS → List Int → Option (Int × GS)) (S : GS) (a0 : Nat) (a1 : Int) (a2 : Nat) (a3 : Int) : Option (Int × GS) :=
  gg (inr a1) <|
  if a1 = (-1) then (
    rec d 10 S [a1, a3]
  ) else (
    gg (inr a3) <|
    if a3 ≠ (-1) then (
      gg (1 ≤ d) <|
      gg (gT a0) <|
      gc (f_X10_same n (d - 1) 0 S [((a0 : Nat) : Int), a1, ((a2 : Nat) : Int), a3, 0]) fun x7 S_8 =>
      gg (x7 = 0 ∨ x7 = 1) <|
      some (x7, S_8)
    ) else (
      rec d 10 S [a1, a3]
    )
  )
def b_X4_alike_10 (n d : Nat) (rec : Nat → Nat → GS → List Int → Option (Int × GS)) (S : GS) (a1 : Int) (a3 : Int) : Option (Int × GS) :=
  gg (inr a1) <|
  gg (inr a3) <|
  if a1 ≠ a3 then (
    some (0, S)
  ) else (
    some (1, S)
  )
def f_X4_alike : Nat → Nat → Nat → GS → List Int → Option (Int × GS)
  | 0, _, _, _, _ => none
  | n + 1, d, pc, S, x => match pc, x with
    | 0, [a0, a1, a2, a3] => b_X4_alike_0 n d (f_X4_alike n) S a0.toNat a1 a2.toNat a3
    | 10, [a1, a3] => b_X4_alike_10 n d (f_X4_alike n) S a1 a3
    | _, _ => none
theorem e_X4_alike_0 {n d : Nat} {S : GS} {a0 : Nat} {a1 : Int} {a2 : Nat} {a3 : Int} : f_X4_alike (n + 1) d 0 S [((a0 : Nat) : Int), a1, ((a2 : Nat) : Int), a3] = b_X4_alike_0 n d (f_X4_alike n) S a0 a1 a2 a3 := rfl
theorem e_X4_alike_10 {n d : Nat} {S : GS} {a1 : Int} {a3 : Int} : f_X4_alike (n + 1) d 10 S [a1, a3] = b_X4_alike_10 n d (f_X4_alike n) S a1 a3 := rfl

def b_X4_accept_0 (n d : Nat) (rec : Nat → Nat → GS → List Int → Option (Int × GS)) (S : GS) (a1 : Nat) (a2 : Int) : Option (Int × GS) :=
  gg (inr a2) <|
  if a2 = (-1) then (
    some (0, S)
  ) else (
    gg (1 ≤ d) <|
    gc (f_X10_append n (d - 1) 0 S [((392 : Nat) : Int), ((a1 : Nat) : Int), a2]) fun x4 S_5 =>
    some (0, S_5)
  )
def f_X4_accept : Nat → Nat → Nat → GS → List Int → Option (Int × GS)
  | 0, _, _, _, _ => none
  | n + 1, d, pc, S, x => match pc, x with
    | 0, [a1, a2] => b_X4_accept_0 n d (f_X4_accept n) S a1.toNat a2
    | _, _ => none
theorem e_X4_accept_0 {n d : Nat} {S : GS} {a1 : Nat} {a2 : Int} : f_X4_accept (n + 1) d 0 S [((a1 : Nat) : Int), a2] = b_X4_accept_0 n d (f_X4_accept n) S a1 a2 := rfl

def b_X9_shorten_0 (n d : Nat) (rec : Nat → Nat → GS → List Int → Option (Int × GS)) (S : GS) (a0 : Nat) (a1 : Int) : Option (Int × GS) :=
  gg (inr a1) <|
  if a1 < 0 then (
    some (0, S)
  ) else (
    gg (gSh (a0)) <|
    gv (S.1 a0 1) fun x4 =>
    gg (inr x4) <|
    if x4 ≤ a1 then (
      some (0, S)
    ) else (
      gv (gI S a0 1 a1) fun S_8 =>
      some (0, S_8)
    )
  )
def f_X9_shorten : Nat → Nat → Nat → GS → List Int → Option (Int × GS)
  | 0, _, _, _, _ => none
  | n + 1, d, pc, S, x => match pc, x with
    | 0, [a0, a1] => b_X9_shorten_0 n d (f_X9_shorten n) S a0.toNat a1
    | _, _ => none
theorem e_X9_shorten_0 {n d : Nat} {S : GS} {a0 : Nat} {a1 : Int} : f_X9_shorten (n + 1) d 0 S [((a0 : Nat) : Int), a1] = b_X9_shorten_0 n d (f_X9_shorten n) S a0 a1 := rfl

def b_X4_forget_0 (n d : Nat) (rec : Nat → Nat → GS → List Int → Option (Int × GS)) (S : GS) : Option (Int × GS) :=
  gv (gI S 485 7 0) fun S_1 =>
  gg (1 ≤ d) <|
  gc (f_X9_clear n (d - 1) 0 S_1 [((458 : Nat) : Int)]) fun x4 S_5 =>
  some (0, S_5)
def f_X4_forget : Nat → Nat → Nat → GS → List Int → Option (Int × GS)
  | 0, _, _, _, _ => none
  | n + 1, d, pc, S, x => match pc, x with
    | 0, [] => b_X4_forget_0 n d (f_X4_forget n) S 
    | _, _ => none
theorem e_X4_forget_0 {n d : Nat} {S : GS} : f_X4_forget (n + 1) d 0 S [] = b_X4_forget_0 n d (f_X4_forget n) S  := rfl

def b_X9_addPart_0 (n d : Nat) (rec : Nat → Nat → GS → List Int → Option (Int × GS)) (S : GS) (a0 : Nat) (a1 : Nat) (a2 : Int) (a3 : Int) : Option (Int × GS) :=
  gg (inr a2) <|
  gv (max 0 a2) fun x2 =>
  rec d 7 S [((a0 : Nat) : Int), ((a1 : Nat) : Int), a3, x2]
def b_X9_addPart_7 (n d : Nat) (rec : Nat → Nat → GS → List Int → Option (Int × GS)) (S : GS) (a0 : Nat) (a1 : Nat) (a3 : Int) (a4 : Int) : Option (Int × GS) :=
  gg (inr a4) <|
  gg (inr a3) <|
  if a3 ≤ a4 then (
    some (0, S)
  ) else (
    gg (1 ≤ d) <|
    gg (gSh (a1)) <|
    gc (f_X9_length n (d - 1) 0 S [((a1 : Nat) : Int)]) fun x6 S_7 =>
    gg (inr x6) <|
    if x6 ≤ a4 then (
      some (0, S_7)
    ) else (
      gc (f_X9_at n (d - 1) 0 S_7 [((a1 : Nat) : Int), a4]) fun x11 S_12 =>
      gg (gSh (a0)) <|
      gc (f_X9_add n (d - 1) 0 S_12 [((a0 : Nat) : Int), x11]) fun x15 S_16 =>
      gv (a4 + 1) fun x18 =>
      rec d 7 S_16 [((a0 : Nat) : Int), ((a1 : Nat) : Int), a3, x18]
    )
  )
def f_X9_addPart : Nat → Nat → Nat → GS → List Int → Option (Int × GS)
  | 0, _, _, _, _ => none
  | n + 1, d, pc, S, x => match pc, x with
    | 0, [a0, a1, a2, a3] => b_X9_addPart_0 n d (f_X9_addPart n) S a0.toNat a1.toNat a2 a3
    | 7, [a0, a1, a3, a4] => b_X9_addPart_7 n d (f_X9_addPart n) S a0.toNat a1.toNat a3 a4
    | _, _ => none
theorem e_X9_addPart_0 {n d : Nat} {S : GS} {a0 : Nat} {a1 : Nat} {a2 : Int} {a3 : Int} : f_X9_addPart (n + 1) d 0 S [((a0 : Nat) : Int), ((a1 : Nat) : Int), a2, a3] = b_X9_addPart_0 n d (f_X9_addPart n) S a0 a1 a2 a3 := rfl
theorem e_X9_addPart_7 {n d : Nat} {S : GS} {a0 : Nat} {a1 : Nat} {a3 : Int} {a4 : Int} : f_X9_addPart (n + 1) d 7 S [((a0 : Nat) : Int), ((a1 : Nat) : Int), a3, a4] = b_X9_addPart_7 n d (f_X9_addPart n) S a0 a1 a3 a4 := rfl

def b_X4_dispute_0 (n d : Nat) (rec : Nat → Nat → GS → List Int → Option (Int × GS)) (S : GS) : Option (Int × GS) :=
  gv (bi (S.2.1 485 8)) fun x1 =>
  gg (inr x1) <|
  if x1 ≠ 0 then (
    rec d 11 S []
  ) else (
    gg (1 ≤ d) <|
    gc (f_X4_forget n (d - 1) 0 S []) fun x6 S_7 =>
    rec d 11 S_7 []
  )
def b_X4_dispute_11 (n d : Nat) (rec : Nat → Nat → GS → List Int → Option (Int × GS)) (S : GS) : Option (Int × GS) :=
  gv (gB S 485 8 (decide ((1 : Int) = 1))) fun S_1 =>
  gv (S_1.1 485 7) fun x3 =>
  gg (inr x3) <|
  if x3 < 0 then (
    some (0, S_1)
  ) else (
    gv (S_1.1 485 7) fun x7 =>
    gg (inr x7) <|
    gg (inr ((200 : Nat) : Int)) <|
    if ((200 : Nat) : Int) ≤ x7 then (
      some (0, S_1)
    ) else (
      gg (1 ≤ d) <|
      gc (f_X9_length n (d - 1) 0 S_1 [((456 : Nat) : Int)]) fun x13 S_14 =>
      gc (f_X9_addPart n (d - 1) 0 S_14 [((458 : Nat) : Int), ((456 : Nat) : Int), 0, x13]) fun x16 S_17 =>
      gv (S_17.1 485 7) fun x19 =>
      gc (f_X9_length n (d - 1) 0 S_17 [((458 : Nat) : Int)]) fun x21 S_22 =>
      gg (0 ≤ x19 ∧ x19 < ((200 : Nat) : Int) ∧ x19 < 2147483648) <|
      gv (gI S_22 486 (x19 : Int).toNat x21) fun S_25 =>
      gv (S_25.1 485 7) fun x27 =>
      gv (x27 + 1) fun x29 =>
      gv (gI S_25 485 7 x29) fun S_31 =>
      some (0, S_31)
    )
  )
def f_X4_dispute : Nat → Nat → Nat → GS → List Int → Option (Int × GS)
  | 0, _, _, _, _ => none
  | n + 1, d, pc, S, x => match pc, x with
    | 0, [] => b_X4_dispute_0 n d (f_X4_dispute n) S 
    | 11, [] => b_X4_dispute_11 n d (f_X4_dispute n) S 
    | _, _ => none
theorem e_X4_dispute_0 {n d : Nat} {S : GS} : f_X4_dispute (n + 1) d 0 S [] = b_X4_dispute_0 n d (f_X4_dispute n) S  := rfl
theorem e_X4_dispute_11 {n d : Nat} {S : GS} : f_X4_dispute (n + 1) d 11 S [] = b_X4_dispute_11 n d (f_X4_dispute n) S  := rfl

def b_X4_uniteAt_0 (n d : Nat) (rec : Nat → Nat → GS → List Int → Option (Int × GS)) (S : GS) (a1 : Int) (a2 : Int) (a3 : Int) (a4 : Int) : Option (Int × GS) :=
  gv (S.2.2 485 5) fun z1 =>
  gv (S.2.2 485 6) fun z3 =>
  gg (1 ≤ d) <|
  gc (f_X4_alike n (d - 1) 0 S [((z1 : Nat) : Int), a2, ((z3 : Nat) : Int), a3]) fun x6 S_7 =>
  gg (inr x6) <|
  if x6 ≠ 0 then (
    gv (S_7.2.2 485 5) fun z11 =>
    gc (f_X4_accept n (d - 1) 0 S_7 [((z11 : Nat) : Int), a2]) fun x13 S_14 =>
    some (0, S_14)
  ) else (
    gv (S_7.2.2 485 6) fun z16 =>
    gv (S_7.2.2 485 4) fun z18 =>
    gc (f_X4_alike n (d - 1) 0 S_7 [((z16 : Nat) : Int), a3, ((z18 : Nat) : Int), a1]) fun x20 S_21 =>
    gg (inr x20) <|
    if x20 = 0 then (
      gv (S_21.2.2 485 5) fun z25 =>
      gv (S_21.2.2 485 4) fun z27 =>
      gc (f_X4_alike n (d - 1) 0 S_21 [((z25 : Nat) : Int), a2, ((z27 : Nat) : Int), a1]) fun x29 S_30 =>
      gg (inr x29) <|
      if x29 = 0 then (
        gv (S_30.2.2 485 5) fun z34 =>
        gg (gT z34) <|
        gc (f_X10_is n (d - 1) 0 S_30 [((z34 : Nat) : Int), a2, 5]) fun x37 S_38 =>
        gg (inr x37) <|
        if x37 = 0 then (
          gc (f_X4_dispute n (d - 1) 0 S_38 []) fun x42 S_43 =>
          some (0, S_43)
        ) else (
          gv (S_38.2.2 485 6) fun z45 =>
          gg (gT z45) <|
          gc (f_X10_is n (d - 1) 0 S_38 [((z45 : Nat) : Int), a3, 5]) fun x48 S_49 =>
          gg (inr x48) <|
          if x48 = 0 then (
            gc (f_X4_dispute n (d - 1) 0 S_49 []) fun x53 S_54 =>
            some (0, S_54)
          ) else (
            gg (inr a1) <|
            if a1 = (-1) then (
              rec d 113 S_49 [a1, a2, a3, a4]
            ) else (
              gv (S_49.2.2 485 4) fun z58 =>
              gg (gT z58) <|
              gc (f_X10_is n (d - 1) 0 S_49 [((z58 : Nat) : Int), a1, 5]) fun x61 S_62 =>
              gg (inr x61) <|
              if x61 = 0 then (
                gc (f_X4_dispute n (d - 1) 0 S_62 []) fun x66 S_67 =>
                some (0, S_67)
              ) else (
                rec d 113 S_62 [a1, a2, a3, a4]
              )
            )
          )
        )
      ) else (
        gv (S_30.2.2 485 6) fun z69 =>
        gc (f_X4_accept n (d - 1) 0 S_30 [((z69 : Nat) : Int), a3]) fun x71 S_72 =>
        some (0, S_72)
      )
    ) else (
      gv (S_21.2.2 485 5) fun z74 =>
      gc (f_X4_accept n (d - 1) 0 S_21 [((z74 : Nat) : Int), a2]) fun x76 S_77 =>
      some (0, S_77)
    )
  )
def b_X4_uniteAt_113 (n d : Nat) (rec : Nat → Nat → GS → List Int → Option (Int × GS)) (S : GS) (a1 : Int) (a2 : Int) (a3 : Int) (a4 : Int) : Option (Int × GS) :=
  gg (inr a4) <|
  if 12 < a4 then (
    gg (1 ≤ d) <|
    gc (f_X4_dispute n (d - 1) 0 S []) fun x4 S_5 =>
    some (0, S_5)
  ) else (
    gg (1 ≤ d) <|
    gc (rec (d - 1) 10000 S [a1, a2, a3, a4]) fun x8 S_9 =>
    some (0, S_9)
  )
def b_X4_uniteMaps_0 (n d : Nat) (rec : Nat → Nat → GS → List Int → Option (Int × GS)) (S : GS) (a1 : Int) (a2 : Int) (a3 : Int) (a4 : Int) : Option (Int × GS) :=
  gg (1 ≤ d) <|
  gc (f_X10_add n (d - 1) 0 S [((392 : Nat) : Int), 5]) fun x2 S_3 =>
  gv (S_3.2.2 485 5) fun z5 =>
  gc (f_X10_setKeyLike n (d - 1) 0 S_3 [((392 : Nat) : Int), x2, ((z5 : Nat) : Int), a2]) fun x7 S_8 =>
  gc (f_X9_length n (d - 1) 0 S_8 [((456 : Nat) : Int)]) fun x10 S_11 =>
  gv (S_11.2.2 485 4) fun z13 =>
  gg (gT z13) <|
  gc (f_X10_first n (d - 1) 0 S_11 [((z13 : Nat) : Int), a1]) fun x16 S_17 =>
  rec d 10046 S_17 [a1, a2, a3, a4, x2, x10, x16, 0]
def b_X4_uniteMaps_46 (n d : Nat) (rec : Nat → Nat → GS → List Int → Option (Int × GS)) (S : GS) (a1 : Int) (a2 : Int) (a3 : Int) (a4 : Int) (a5 : Int) (a6 : Int) (a7 : Int) (a8 : Int) : Option (Int × GS) :=
  gg (inr a7) <|
  if a7 = (-1) then (
    gv (S.2.2 485 5) fun z3 =>
    gg (1 ≤ d) <|
    gg (gT z3) <|
    gc (f_X10_first n (d - 1) 0 S [((z3 : Nat) : Int), a2]) fun x7 S_8 =>
    rec d 10150 S_8 [a1, a2, a3, a4, a5, a6, x7, 0]
  ) else (
    gg (inr a8) <|
    if 100 ≤ a8 then (
      gv (S.2.2 485 5) fun z12 =>
      gg (1 ≤ d) <|
      gg (gT z12) <|
      gc (f_X10_first n (d - 1) 0 S [((z12 : Nat) : Int), a2]) fun x16 S_17 =>
      rec d 10150 S_17 [a1, a2, a3, a4, a5, a6, x16, 0]
    ) else (
      gv (S.2.2 485 4) fun z19 =>
      gg (1 ≤ d) <|
      gg (gT z19) <|
      gc (f_X10_stepTo n (d - 1) 0 S [((z19 : Nat) : Int), a7, ((456 : Nat) : Int)]) fun x23 S_24 =>
      gv (S_24.2.2 485 5) fun z26 =>
      gv (S_24.2.2 485 4) fun z28 =>
      gg (gT z26) <|
      gc (f_X10_valueLike n (d - 1) 0 S_24 [((z26 : Nat) : Int), a2, ((z28 : Nat) : Int), a7]) fun x31 S_32 =>
      gv (S_32.2.2 485 6) fun z34 =>
      gv (S_32.2.2 485 4) fun z36 =>
      gg (gT z34) <|
      gc (f_X10_valueLike n (d - 1) 0 S_32 [((z34 : Nat) : Int), a3, ((z36 : Nat) : Int), a7]) fun x39 S_40 =>
      gv (a4 + 1) fun x42 =>
      gc (rec (d - 1) 0 S_40 [a7, x31, x39, x42]) fun x44 S_45 =>
      gc (f_X9_shorten n (d - 1) 0 S_45 [((456 : Nat) : Int), a6]) fun x47 S_48 =>
      gv (S_48.2.2 485 4) fun z50 =>
      gg (gT z50) <|
      gc (f_X10_next n (d - 1) 0 S_48 [((z50 : Nat) : Int), a1, a7]) fun x53 S_54 =>
      gv (a8 + 1) fun x56 =>
      rec d 10046 S_54 [a1, a2, a3, a4, a5, a6, x53, x56]
    )
  )
def b_X4_uniteMaps_150 (n d : Nat) (rec : Nat → Nat → GS → List Int → Option (Int × GS)) (S : GS) (a1 : Int) (a2 : Int) (a3 : Int) (a4 : Int) (a5 : Int) (a6 : Int) (a7 : Int) (a8 : Int) : Option (Int × GS) :=
  gg (inr a7) <|
  if a7 = (-1) then (
    gv (S.2.2 485 6) fun z3 =>
    gg (1 ≤ d) <|
    gg (gT z3) <|
    gc (f_X10_first n (d - 1) 0 S [((z3 : Nat) : Int), a3]) fun x7 S_8 =>
    rec d 10259 S_8 [a1, a2, a3, a5, x7, 0]
  ) else (
    gg (inr a8) <|
    if 100 ≤ a8 then (
      gv (S.2.2 485 6) fun z12 =>
      gg (1 ≤ d) <|
      gg (gT z12) <|
      gc (f_X10_first n (d - 1) 0 S [((z12 : Nat) : Int), a3]) fun x16 S_17 =>
      rec d 10259 S_17 [a1, a2, a3, a5, x16, 0]
    ) else (
      gv (S.2.2 485 4) fun z19 =>
      gv (S.2.2 485 5) fun z21 =>
      gg (1 ≤ d) <|
      gg (gT z19) <|
      gc (f_X10_valueLike n (d - 1) 0 S [((z19 : Nat) : Int), a1, ((z21 : Nat) : Int), a7]) fun x25 S_26 =>
      gg (inr x25) <|
      if x25 ≠ (-1) then (
        rec d 10228 S_26 [a1, a2, a3, a4, a5, a6, a7, a8]
      ) else (
        gv (S_26.2.2 485 5) fun z30 =>
        gg (gT z30) <|
        gc (f_X10_stepTo n (d - 1) 0 S_26 [((z30 : Nat) : Int), a7, ((456 : Nat) : Int)]) fun x33 S_34 =>
        gv (S_34.2.2 485 6) fun z36 =>
        gv (S_34.2.2 485 5) fun z38 =>
        gg (gT z36) <|
        gc (f_X10_valueLike n (d - 1) 0 S_34 [((z36 : Nat) : Int), a3, ((z38 : Nat) : Int), a7]) fun x41 S_42 =>
        gv (a4 + 1) fun x44 =>
        gc (rec (d - 1) 0 S_42 [(-1), a7, x41, x44]) fun x46 S_47 =>
        gc (f_X9_shorten n (d - 1) 0 S_47 [((456 : Nat) : Int), a6]) fun x49 S_50 =>
        rec d 10228 S_50 [a1, a2, a3, a4, a5, a6, a7, a8]
      )
    )
  )
def b_X4_uniteMaps_228 (n d : Nat) (rec : Nat → Nat → GS → List Int → Option (Int × GS)) (S : GS) (a1 : Int) (a2 : Int) (a3 : Int) (a4 : Int) (a5 : Int) (a6 : Int) (a7 : Int) (a8 : Int) : Option (Int × GS) :=
  gv (S.2.2 485 5) fun z1 =>
  gg (1 ≤ d) <|
  gg (gT z1) <|
  gc (f_X10_next n (d - 1) 0 S [((z1 : Nat) : Int), a2, a7]) fun x5 S_6 =>
  gv (a8 + 1) fun x8 =>
  rec d 10150 S_6 [a1, a2, a3, a4, a5, a6, x5, x8]
def b_X4_uniteMaps_259 (n d : Nat) (rec : Nat → Nat → GS → List Int → Option (Int × GS)) (S : GS) (a1 : Int) (a2 : Int) (a3 : Int) (a5 : Int) (a7 : Int) (a8 : Int) : Option (Int × GS) :=
  gg (inr a7) <|
  if a7 = (-1) then (
    gg (1 ≤ d) <|
    gc (f_X10_close n (d - 1) 0 S [((392 : Nat) : Int), a5]) fun x4 S_5 =>
    some (0, S_5)
  ) else (
    gg (inr a8) <|
    if 100 ≤ a8 then (
      gg (1 ≤ d) <|
      gc (f_X10_close n (d - 1) 0 S [((392 : Nat) : Int), a5]) fun x10 S_11 =>
      some (0, S_11)
    ) else (
      gv (S.2.2 485 4) fun z13 =>
      gv (S.2.2 485 6) fun z15 =>
      gg (1 ≤ d) <|
      gg (gT z13) <|
      gc (f_X10_valueLike n (d - 1) 0 S [((z13 : Nat) : Int), a1, ((z15 : Nat) : Int), a7]) fun x19 S_20 =>
      gg (inr x19) <|
      if x19 ≠ (-1) then (
        rec d 10318 S_20 [a1, a2, a3, a5, a7, a8]
      ) else (
        gv (S_20.2.2 485 5) fun z24 =>
        gv (S_20.2.2 485 6) fun z26 =>
        gg (gT z24) <|
        gc (f_X10_valueLike n (d - 1) 0 S_20 [((z24 : Nat) : Int), a2, ((z26 : Nat) : Int), a7]) fun x29 S_30 =>
        gg (inr x29) <|
        if x29 ≠ (-1) then (
          rec d 10318 S_30 [a1, a2, a3, a5, a7, a8]
        ) else (
          gv (S_30.2.2 485 6) fun z34 =>
          gc (f_X4_accept n (d - 1) 0 S_30 [((z34 : Nat) : Int), a7]) fun x36 S_37 =>
          rec d 10318 S_37 [a1, a2, a3, a5, a7, a8]
        )
      )
    )
  )
def b_X4_uniteMaps_318 (n d : Nat) (rec : Nat → Nat → GS → List Int → Option (Int × GS)) (S : GS) (a1 : Int) (a2 : Int) (a3 : Int) (a5 : Int) (a7 : Int) (a8 : Int) : Option (Int × GS) :=
  gv (S.2.2 485 6) fun z1 =>
  gg (1 ≤ d) <|
  gg (gT z1) <|
  gc (f_X10_next n (d - 1) 0 S [((z1 : Nat) : Int), a3, a7]) fun x5 S_6 =>
  gv (a8 + 1) fun x8 =>
  rec d 10259 S_6 [a1, a2, a3, a5, x5, x8]
def f_X4_uniteAt : Nat → Nat → Nat → GS → List Int → Option (Int × GS)
  | 0, _, _, _, _ => none
  | n + 1, d, pc, S, x => match pc, x with
    | 0, [a1, a2, a3, a4] => b_X4_uniteAt_0 n d (f_X4_uniteAt n) S a1 a2 a3 a4
    | 113, [a1, a2, a3, a4] => b_X4_uniteAt_113 n d (f_X4_uniteAt n) S a1 a2 a3 a4
    | 10000, [a1, a2, a3, a4] => b_X4_uniteMaps_0 n d (f_X4_uniteAt n) S a1 a2 a3 a4
    | 10046, [a1, a2, a3, a4, a5, a6, a7, a8] => b_X4_uniteMaps_46 n d (f_X4_uniteAt n) S a1 a2 a3 a4 a5 a6 a7 a8
    | 10150, [a1, a2, a3, a4, a5, a6, a7, a8] => b_X4_uniteMaps_150 n d (f_X4_uniteAt n) S a1 a2 a3 a4 a5 a6 a7 a8
    | 10228, [a1, a2, a3, a4, a5, a6, a7, a8] => b_X4_uniteMaps_228 n d (f_X4_uniteAt n) S a1 a2 a3 a4 a5 a6 a7 a8
    | 10259, [a1, a2, a3, a5, a7, a8] => b_X4_uniteMaps_259 n d (f_X4_uniteAt n) S a1 a2 a3 a5 a7 a8
    | 10318, [a1, a2, a3, a5, a7, a8] => b_X4_uniteMaps_318 n d (f_X4_uniteAt n) S a1 a2 a3 a5 a7 a8
    | _, _ => none
theorem e_X4_uniteAt_0 {n d : Nat} {S : GS} {a1 : Int} {a2 : Int} {a3 : Int} {a4 : Int} : f_X4_uniteAt (n + 1) d 0 S [a1, a2, a3, a4] = b_X4_uniteAt_0 n d (f_X4_uniteAt n) S a1 a2 a3 a4 := rfl
theorem e_X4_uniteAt_113 {n d : Nat} {S : GS} {a1 : Int} {a2 : Int} {a3 : Int} {a4 : Int} : f_X4_uniteAt (n + 1) d 113 S [a1, a2, a3, a4] = b_X4_uniteAt_113 n d (f_X4_uniteAt n) S a1 a2 a3 a4 := rfl
theorem e_X4_uniteMaps_0 {n d : Nat} {S : GS} {a1 : Int} {a2 : Int} {a3 : Int} {a4 : Int} : f_X4_uniteAt (n + 1) d 10000 S [a1, a2, a3, a4] = b_X4_uniteMaps_0 n d (f_X4_uniteAt n) S a1 a2 a3 a4 := rfl
theorem e_X4_uniteMaps_46 {n d : Nat} {S : GS} {a1 : Int} {a2 : Int} {a3 : Int} {a4 : Int} {a5 : Int} {a6 : Int} {a7 : Int} {a8 : Int} : f_X4_uniteAt (n + 1) d 10046 S [a1, a2, a3, a4, a5, a6, a7, a8] = b_X4_uniteMaps_46 n d (f_X4_uniteAt n) S a1 a2 a3 a4 a5 a6 a7 a8 := rfl
theorem e_X4_uniteMaps_150 {n d : Nat} {S : GS} {a1 : Int} {a2 : Int} {a3 : Int} {a4 : Int} {a5 : Int} {a6 : Int} {a7 : Int} {a8 : Int} : f_X4_uniteAt (n + 1) d 10150 S [a1, a2, a3, a4, a5, a6, a7, a8] = b_X4_uniteMaps_150 n d (f_X4_uniteAt n) S a1 a2 a3 a4 a5 a6 a7 a8 := rfl
theorem e_X4_uniteMaps_228 {n d : Nat} {S : GS} {a1 : Int} {a2 : Int} {a3 : Int} {a4 : Int} {a5 : Int} {a6 : Int} {a7 : Int} {a8 : Int} : f_X4_uniteAt (n + 1) d 10228 S [a1, a2, a3, a4, a5, a6, a7, a8] = b_X4_uniteMaps_228 n d (f_X4_uniteAt n) S a1 a2 a3 a4 a5 a6 a7 a8 := rfl
theorem e_X4_uniteMaps_259 {n d : Nat} {S : GS} {a1 : Int} {a2 : Int} {a3 : Int} {a5 : Int} {a7 : Int} {a8 : Int} : f_X4_uniteAt (n + 1) d 10259 S [a1, a2, a3, a5, a7, a8] = b_X4_uniteMaps_259 n d (f_X4_uniteAt n) S a1 a2 a3 a5 a7 a8 := rfl
theorem e_X4_uniteMaps_318 {n d : Nat} {S : GS} {a1 : Int} {a2 : Int} {a3 : Int} {a5 : Int} {a7 : Int} {a8 : Int} : f_X4_uniteAt (n + 1) d 10318 S [a1, a2, a3, a5, a7, a8] = b_X4_uniteMaps_318 n d (f_X4_uniteAt n) S a1 a2 a3 a5 a7 a8 := rfl

def b_X4_unite_0 (n d : Nat) (rec : Nat → Nat → GS → List Int → Option (Int × GS)) (S : GS) (a1 : Nat) (a2 : Nat) (a3 : Nat) : Option (Int × GS) :=
  gv (gR S 485 4 a1) fun S_1 =>
  gv (gR S_1 485 5 a2) fun S_3 =>
  gv (gR S_3 485 6 a3) fun S_5 =>
  gv (gB S_5 485 8 (decide ((0 : Int) = 1))) fun S_7 =>
  gg (1 ≤ d) <|
  gc (f_X10_clear n (d - 1) 0 S_7 [((392 : Nat) : Int)]) fun x10 S_11 =>
  gc (f_X9_clear n (d - 1) 0 S_11 [((456 : Nat) : Int)]) fun x13 S_14 =>
  gc (f_X4_uniteAt n (d - 1) 0 S_14 [0, 0, 0, 0]) fun x16 S_17 =>
  gv (bi (S_17.2.1 485 8)) fun x19 =>
  gg (inr x19) <|
  if x19 ≠ 0 then (
    some (0, S_17)
  ) else (
    some (1, S_17)
  )
def f_X4_unite : Nat → Nat → Nat → GS → List Int → Option (Int × GS)
  | 0, _, _, _, _ => none
  | n + 1, d, pc, S, x => match pc, x with
    | 0, [a1, a2, a3] => b_X4_unite_0 n d (f_X4_unite n) S a1.toNat a2.toNat a3.toNat
    | _, _ => none
theorem e_X4_unite_0 {n d : Nat} {S : GS} {a1 : Nat} {a2 : Nat} {a3 : Nat} : f_X4_unite (n + 1) d 0 S [((a1 : Nat) : Int), ((a2 : Nat) : Int), ((a3 : Nat) : Int)] = b_X4_unite_0 n d (f_X4_unite n) S a1 a2 a3 := rfl

def b_X4_result_0 (n d : Nat) (rec : Nat → Nat → GS → List Int → Option (Int × GS)) (S : GS) : Option (Int × GS) :=
  some (((392 : Nat) : Int), S)
def f_X4_result : Nat → Nat → Nat → GS → List Int → Option (Int × GS)
  | 0, _, _, _, _ => none
  | n + 1, d, pc, S, x => match pc, x with
    | 0, [] => b_X4_result_0 n d (f_X4_result n) S 
    | _, _ => none
theorem e_X4_result_0 {n d : Nat} {S : GS} : f_X4_result (n + 1) d 0 S [] = b_X4_result_0 n d (f_X4_result n) S  := rfl

def b_X11_join_0 (n d : Nat) (rec : Nat → Nat → GS → List Int → Option (Int × GS)) (S : GS) (a1 : Int) (a2 : Int) (a3 : Int) : Option (Int × GS) :=
  gg (1 ≤ d) <|
  gc (f_X11_document n (d - 1) 0 S [a1]) fun x2 S_3 =>
  if x2 < exB then (
  gc (f_X11_document n (d - 1) 0 S_3 [a2]) fun x6 S_7 =>
  if x6 < exB then (
  gc (f_X11_document n (d - 1) 0 S_7 [a3]) fun x10 S_11 =>
  if x10 < exB then (
  gc (f_X4_unite n (d - 1) 0 S_11 [((x2.toNat : Nat) : Int), ((x6.toNat : Nat) : Int), ((x10.toNat : Nat) : Int)]) fun x14 S_15 =>
  gg (inr x14) <|
  if x14 ≠ 0 then (
    gc (f_X4_result n (d - 1) 0 S_15 []) fun x19 S_20 =>
    gc (f_X11_admit n (d - 1) 0 S_20 [((x19.toNat : Nat) : Int)]) fun x22 S_23 =>
    if x22 < exB then (
    gc (f_X4_forget n (d - 1) 0 S_23 []) fun x26 S_27 =>
    gg (x22 < exB) <|
    some (x22, S_27)
    ) else some (x22, S_23)
  ) else (
    some ((-1), S_15)
  )
  ) else some (x10, S_11)
  ) else some (x6, S_7)
  ) else some (x2, S_3)
def f_X11_join : Nat → Nat → Nat → GS → List Int → Option (Int × GS)
  | 0, _, _, _, _ => none
  | n + 1, d, pc, S, x => match pc, x with
    | 0, [a1, a2, a3] => b_X11_join_0 n d (f_X11_join n) S a1 a2 a3
    | _, _ => none
theorem e_X11_join_0 {n d : Nat} {S : GS} {a1 : Int} {a2 : Int} {a3 : Int} : f_X11_join (n + 1) d 0 S [a1, a2, a3] = b_X11_join_0 n d (f_X11_join n) S a1 a2 a3 := rfl

def b_X1_begin_0 (n d : Nat) (rec : Nat → Nat → GS → List Int → Option (Int × GS)) (S : GS) (a1 : Nat) (a2 : Int) : Option (Int × GS) :=
  gg (1 ≤ d) <|
  gc (f_X10_copyOf n (d - 1) 0 S [((360 : Nat) : Int), ((a1 : Nat) : Int), 0]) fun x2 S_3 =>
  gg (a2 = 0 ∨ a2 = 1) <|
  gv (gB S_3 482 7 (decide ((a2 : Int) = 1))) fun S_6 =>
  gc (f_X10_clear n (d - 1) 0 S_6 [((384 : Nat) : Int)]) fun x8 S_9 =>
  gc (f_X10_add n (d - 1) 0 S_9 [((384 : Nat) : Int), 4]) fun x11 S_12 =>
  some (0, S_12)
def f_X1_begin : Nat → Nat → Nat → GS → List Int → Option (Int × GS)
  | 0, _, _, _, _ => none
  | n + 1, d, pc, S, x => match pc, x with
    | 0, [a1, a2] => b_X1_begin_0 n d (f_X1_begin n) S a1.toNat a2
    | _, _ => none
theorem e_X1_begin_0 {n d : Nat} {S : GS} {a1 : Nat} {a2 : Int} : f_X1_begin (n + 1) d 0 S [((a1 : Nat) : Int), a2] = b_X1_begin_0 n d (f_X1_begin n) S a1 a2 := rfl

def b_X7_divide_0 (n d : Nat) (rec : Nat → Nat → GS → List Int → Option (Int × GS)) (S : GS) (a0 : Nat) : Option (Int × GS) :=
  gg (gRo (a0)) <|
  gv (gI S a0 3 0) fun S_2 =>
  gg (1 ≤ d) <|
  gc (f_X9_length n (d - 1) 0 S_2 [(((rS a0) : Nat) : Int)]) fun x5 S_6 =>
  gg (inr x5) <|
  if x5 = 0 then (
    rec d 36 S_6 [((a0 : Nat) : Int), 1, 0]
  ) else (
    gc (f_X9_at n (d - 1) 0 S_6 [(((rS a0) : Nat) : Int), 0]) fun x10 S_11 =>
    gg (inr x10) <|
    if x10 ≠ 47 then (
      rec d 36 S_11 [((a0 : Nat) : Int), 0, 0]
    ) else (
      rec d 36 S_11 [((a0 : Nat) : Int), 1, 0]
    )
  )
def b_X7_divide_36 (n d : Nat) (rec : Nat → Nat → GS → List Int → Option (Int × GS)) (S : GS) (a0 : Nat) (a1 : Int) (a2 : Int) : Option (Int × GS) :=
  gg (gRo (a0)) <|
  gg (1 ≤ d) <|
  gc (f_X9_length n (d - 1) 0 S [(((rS a0) : Nat) : Int)]) fun x3 S_4 =>
  gg (inr a2) <|
  gg (inr x3) <|
  if x3 ≤ a2 then (
    gg (a1 = 0 ∨ a1 = 1) <|
    some (a1, S_4)
  ) else (
    gg (inr a1) <|
    if a1 = 0 then (
      gg (a1 = 0 ∨ a1 = 1) <|
      some (a1, S_4)
    ) else (
      gv (a2 + 1) fun x13 =>
      gc (f_X9_at n (d - 1) 0 S_4 [(((rS a0) : Nat) : Int), x13]) fun x15 S_16 =>
      gc (f_X9_at n (d - 1) 0 S_16 [(((rS a0) : Nat) : Int), a2]) fun x18 S_19 =>
      gg (inr x18) <|
      if x18 ≠ 126 then (
        gc (f_X9_at n (d - 1) 0 S_19 [(((rS a0) : Nat) : Int), a2]) fun x23 S_24 =>
        gg (inr x23) <|
        if x23 ≠ 47 then (
          gv (a2 + 1) fun x28 =>
          rec d 36 S_24 [((a0 : Nat) : Int), a1, x28]
        ) else (
          gv (S_24.1 a0 3) fun x30 =>
          gg (inr x30) <|
          if x30 < 0 then (
            gv (a2 + 1) fun x34 =>
            rec d 36 S_24 [((a0 : Nat) : Int), a1, x34]
          ) else (
            gv (S_24.1 a0 3) fun x36 =>
            gg (inr x36) <|
            gg (inr ((400 : Nat) : Int)) <|
            if ((400 : Nat) : Int) ≤ x36 then (
              gv (a2 + 1) fun x41 =>
              rec d 36 S_24 [((a0 : Nat) : Int), a1, x41]
            ) else (
              gv (S_24.1 a0 3) fun x43 =>
              gv (a2 + 1) fun x45 =>
              gg (0 ≤ x43 ∧ x43 < ((400 : Nat) : Int) ∧ x43 < 2147483648) <|
              gv (gI S_24 (a0 + 1) (x43 : Int).toNat x45) fun S_48 =>
              gv (S_48.1 a0 3) fun x50 =>
              gv (x50 + 1) fun x52 =>
              gv (gI S_48 a0 3 x52) fun S_54 =>
              gv (a2 + 1) fun x56 =>
              rec d 36 S_54 [((a0 : Nat) : Int), a1, x56]
            )
          )
        )
      ) else (
        gg (inr x15) <|
        if x15 = 48 then (
          gv (a2 + 1) fun x60 =>
          rec d 36 S_19 [((a0 : Nat) : Int), 1, x60]
        ) else (
          if x15 ≠ 49 then (
            gv (a2 + 1) fun x63 =>
            rec d 36 S_19 [((a0 : Nat) : Int), 0, x63]
          ) else (
            gv (a2 + 1) fun x65 =>
            rec d 36 S_19 [((a0 : Nat) : Int), 1, x65]
          )
        )
      )
    )
  )
def f_X7_divide : Nat → Nat → Nat → GS → List Int → Option (Int × GS)
  | 0, _, _, _, _ => none
  | n + 1, d, pc, S, x => match pc, x with
    | 0, [a0] => b_X7_divide_0 n d (f_X7_divide n) S a0.toNat
    | 36, [a0, a1, a2] => b_X7_divide_36 n d (f_X7_divide n) S a0.toNat a1 a2
    | _, _ => none
theorem e_X7_divide_0 {n d : Nat} {S : GS} {a0 : Nat} : f_X7_divide (n + 1) d 0 S [((a0 : Nat) : Int)] = b_X7_divide_0 n d (f_X7_divide n) S a0 := rfl
theorem e_X7_divide_36 {n d : Nat} {S : GS} {a0 : Nat} {a1 : Int} {a2 : Int} : f_X7_divide (n + 1) d 36 S [((a0 : Nat) : Int), a1, a2] = b_X7_divide_36 n d (f_X7_divide n) S a0 a1 a2 := rfl

def b_X7_loadText_0 (n d : Nat) (rec : Nat → Nat → GS → List Int → Option (Int × GS)) (S : GS) (a0 : Nat) (a1 : Nat) (a2 : Int) : Option (Int × GS) :=
  gg (gRo (a0)) <|
  gg (1 ≤ d) <|
  gc (f_X9_clear n (d - 1) 0 S [(((rS a0) : Nat) : Int)]) fun x3 S_4 =>
  gg (gT a1) <|
  gc (f_X10_signsTo n (d - 1) 0 S_4 [((a1 : Nat) : Int), a2, (((rS a0) : Nat) : Int)]) fun x7 S_8 =>
  gc (f_X10_is n (d - 1) 0 S_8 [((a1 : Nat) : Int), a2, 3]) fun x10 S_11 =>
  gg (inr x10) <|
  if x10 = 0 then (
    some (0, S_11)
  ) else (
    gc (f_X7_divide n (d - 1) 0 S_11 [((a0 : Nat) : Int)]) fun x15 S_16 =>
    gg (inr x15) <|
    if x15 = 0 then (
      some (0, S_16)
    ) else (
      some (1, S_16)
    )
  )
def f_X7_loadText : Nat → Nat → Nat → GS → List Int → Option (Int × GS)
  | 0, _, _, _, _ => none
  | n + 1, d, pc, S, x => match pc, x with
    | 0, [a0, a1, a2] => b_X7_loadText_0 n d (f_X7_loadText n) S a0.toNat a1.toNat a2
    | _, _ => none
theorem e_X7_loadText_0 {n d : Nat} {S : GS} {a0 : Nat} {a1 : Nat} {a2 : Int} : f_X7_loadText (n + 1) d 0 S [((a0 : Nat) : Int), ((a1 : Nat) : Int), a2] = b_X7_loadText_0 n d (f_X7_loadText n) S a0 a1 a2 := rfl

def b_X7_steps_0 (n d : Nat) (rec : Nat → Nat → GS → List Int → Option (Int × GS)) (S : GS) (a0 : Nat) : Option (Int × GS) :=
  gg (gRo (a0)) <|
  gv (S.1 a0 3) fun x2 =>
  some (x2, S)
def f_X7_steps : Nat → Nat → Nat → GS → List Int → Option (Int × GS)
  | 0, _, _, _, _ => none
  | n + 1, d, pc, S, x => match pc, x with
    | 0, [a0] => b_X7_steps_0 n d (f_X7_steps n) S a0.toNat
    | _, _ => none
theorem e_X7_steps_0 {n d : Nat} {S : GS} {a0 : Nat} : f_X7_steps (n + 1) d 0 S [((a0 : Nat) : Int)] = b_X7_steps_0 n d (f_X7_steps n) S a0 := rfl

def b_X7_startOf_0 (n d : Nat) (rec : Nat → Nat → GS → List Int → Option (Int × GS)) (S : GS) (a0 : Nat) (a1 : Int) : Option (Int × GS) :=
  gg (inr a1) <|
  if a1 < 0 then (
    gg (gRo (a0)) <|
    gg (1 ≤ d) <|
    gc (f_X9_length n (d - 1) 0 S [(((rS a0) : Nat) : Int)]) fun x5 S_6 =>
    gv (x5 + 1) fun x8 =>
    some (x8, S_6)
  ) else (
    gg (gRo (a0)) <|
    gv (S.1 a0 3) fun x11 =>
    gg (inr x11) <|
    if x11 ≤ a1 then (
      gg (1 ≤ d) <|
      gc (f_X9_length n (d - 1) 0 S [(((rS a0) : Nat) : Int)]) fun x16 S_17 =>
      gv (x16 + 1) fun x19 =>
      some (x19, S_17)
    ) else (
      gg (inr ((400 : Nat) : Int)) <|
      if ((400 : Nat) : Int) ≤ a1 then (
        gg (1 ≤ d) <|
        gc (f_X9_length n (d - 1) 0 S [(((rS a0) : Nat) : Int)]) fun x24 S_25 =>
        gv (x24 + 1) fun x27 =>
        some (x27, S_25)
      ) else (
        gg (0 ≤ a1 ∧ a1 < ((400 : Nat) : Int) ∧ a1 < 2147483648) <|
        gv (S.1 (a0 + 1) (a1 : Int).toNat) fun x30 =>
        some (x30, S)
      )
    )
  )
def f_X7_startOf : Nat → Nat → Nat → GS → List Int → Option (Int × GS)
  | 0, _, _, _, _ => none
  | n + 1, d, pc, S, x => match pc, x with
    | 0, [a0, a1] => b_X7_startOf_0 n d (f_X7_startOf n) S a0.toNat a1
    | _, _ => none
theorem e_X7_startOf_0 {n d : Nat} {S : GS} {a0 : Nat} {a1 : Int} : f_X7_startOf (n + 1) d 0 S [((a0 : Nat) : Int), a1] = b_X7_startOf_0 n d (f_X7_startOf n) S a0 a1 := rfl

def b_X7_wordTo_0 (n d : Nat) (rec : Nat → Nat → GS → List Int → Option (Int × GS)) (S : GS) (a0 : Nat) (a1 : Int) (a2 : Nat) : Option (Int × GS) :=
  gg (1 ≤ d) <|
  gg (gSh (a2)) <|
  gc (f_X9_clear n (d - 1) 0 S [((a2 : Nat) : Int)]) fun x3 S_4 =>
  gv (a1 + 1) fun x6 =>
  gg (gRo (a0)) <|
  gc (f_X7_startOf n (d - 1) 0 S_4 [((a0 : Nat) : Int), x6]) fun x9 S_10 =>
  gv (x9 - 1) fun x12 =>
  gc (f_X7_startOf n (d - 1) 0 S_10 [((a0 : Nat) : Int), a1]) fun x14 S_15 =>
  rec d 21 S_15 [((a0 : Nat) : Int), ((a2 : Nat) : Int), x12, x14]
def b_X7_wordTo_21 (n d : Nat) (rec : Nat → Nat → GS → List Int → Option (Int × GS)) (S : GS) (a0 : Nat) (a2 : Nat) (a3 : Int) (a4 : Int) : Option (Int × GS) :=
  gg (inr a4) <|
  gg (inr a3) <|
  if a3 ≤ a4 then (
    some (0, S)
  ) else (
    gg (gRo (a0)) <|
    gg (1 ≤ d) <|
    gc (f_X9_at n (d - 1) 0 S [(((rS a0) : Nat) : Int), a4]) fun x6 S_7 =>
    gg (inr x6) <|
    if x6 ≠ 126 then (
      gc (f_X9_at n (d - 1) 0 S_7 [(((rS a0) : Nat) : Int), a4]) fun x11 S_12 =>
      gg (gSh (a2)) <|
      gc (f_X9_add n (d - 1) 0 S_12 [((a2 : Nat) : Int), x11]) fun x15 S_16 =>
      gv (a4 + 1) fun x18 =>
      rec d 21 S_16 [((a0 : Nat) : Int), ((a2 : Nat) : Int), a3, x18]
    ) else (
      gv (a4 + 1) fun x20 =>
      gc (f_X9_at n (d - 1) 0 S_7 [(((rS a0) : Nat) : Int), x20]) fun x22 S_23 =>
      gg (inr x22) <|
      if x22 ≠ 48 then (
        gg (gSh (a2)) <|
        gc (f_X9_add n (d - 1) 0 S_23 [((a2 : Nat) : Int), 47]) fun x28 S_29 =>
        gv (x20 + 1) fun x31 =>
        rec d 21 S_29 [((a0 : Nat) : Int), ((a2 : Nat) : Int), a3, x31]
      ) else (
        gg (gSh (a2)) <|
        gc (f_X9_add n (d - 1) 0 S_23 [((a2 : Nat) : Int), 126]) fun x34 S_35 =>
        gv (x20 + 1) fun x37 =>
        rec d 21 S_35 [((a0 : Nat) : Int), ((a2 : Nat) : Int), a3, x37]
      )
    )
  )
def f_X7_wordTo : Nat → Nat → Nat → GS → List Int → Option (Int × GS)
  | 0, _, _, _, _ => none
  | n + 1, d, pc, S, x => match pc, x with
    | 0, [a0, a1, a2] => b_X7_wordTo_0 n d (f_X7_wordTo n) S a0.toNat a1 a2.toNat
    | 21, [a0, a2, a3, a4] => b_X7_wordTo_21 n d (f_X7_wordTo n) S a0.toNat a2.toNat a3 a4
    | _, _ => none
theorem e_X7_wordTo_0 {n d : Nat} {S : GS} {a0 : Nat} {a1 : Int} {a2 : Nat} : f_X7_wordTo (n + 1) d 0 S [((a0 : Nat) : Int), a1, ((a2 : Nat) : Int)] = b_X7_wordTo_0 n d (f_X7_wordTo n) S a0 a1 a2 := rfl
theorem e_X7_wordTo_21 {n d : Nat} {S : GS} {a0 : Nat} {a2 : Nat} {a3 : Int} {a4 : Int} : f_X7_wordTo (n + 1) d 21 S [((a0 : Nat) : Int), ((a2 : Nat) : Int), a3, a4] = b_X7_wordTo_21 n d (f_X7_wordTo n) S a0 a2 a3 a4 := rfl

def b_X7_placeIn_0 (n d : Nat) (rec : Nat → Nat → GS → List Int → Option (Int × GS)) (S : GS) (a0 : Nat) (a1 : Int) : Option (Int × GS) :=
  gg (1 ≤ d) <|
  gg (gSh (a0)) <|
  gc (f_X9_length n (d - 1) 0 S [((a0 : Nat) : Int)]) fun x3 S_4 =>
  gv (x3 - a1) fun x6 =>
  gg (inr x6) <|
  if x6 < 1 then (
    some ((-1), S_4)
  ) else (
    if 3 < x6 then (
      some ((-1), S_4)
    ) else (
      if x6 ≤ 1 then (
        rec d 39 S_4 [((a0 : Nat) : Int), 0, a1]
      ) else (
        gc (f_X9_at n (d - 1) 0 S_4 [((a0 : Nat) : Int), a1]) fun x12 S_13 =>
        gg (inr x12) <|
        if x12 ≠ 48 then (
          rec d 39 S_13 [((a0 : Nat) : Int), 0, a1]
        ) else (
          some ((-1), S_13)
        )
      )
    )
  )
def b_X7_placeIn_39 (n d : Nat) (rec : Nat → Nat → GS → List Int → Option (Int × GS)) (S : GS) (a0 : Nat) (a3 : Int) (a4 : Int) : Option (Int × GS) :=
  gg (1 ≤ d) <|
  gg (gSh (a0)) <|
  gc (f_X9_length n (d - 1) 0 S [((a0 : Nat) : Int)]) fun x3 S_4 =>
  gg (inr a4) <|
  gg (inr x3) <|
  if x3 ≤ a4 then (
    some (a3, S_4)
  ) else (
    gc (f_X9_at n (d - 1) 0 S_4 [((a0 : Nat) : Int), a4]) fun x9 S_10 =>
    gg (inr x9) <|
    if x9 < 48 then (
      some ((-1), S_10)
    ) else (
      if x9 ≤ 57 then (
        gv (a3 * 10) fun x15 =>
        gv (x15 + x9) fun x17 =>
        gv (x17 - 48) fun x19 =>
        gv (a4 + 1) fun x21 =>
        rec d 39 S_10 [((a0 : Nat) : Int), x19, x21]
      ) else (
        some ((-1), S_10)
      )
    )
  )
def f_X7_placeIn : Nat → Nat → Nat → GS → List Int → Option (Int × GS)
  | 0, _, _, _, _ => none
  | n + 1, d, pc, S, x => match pc, x with
    | 0, [a0, a1] => b_X7_placeIn_0 n d (f_X7_placeIn n) S a0.toNat a1
    | 39, [a0, a3, a4] => b_X7_placeIn_39 n d (f_X7_placeIn n) S a0.toNat a3 a4
    | _, _ => none
theorem e_X7_placeIn_0 {n d : Nat} {S : GS} {a0 : Nat} {a1 : Int} : f_X7_placeIn (n + 1) d 0 S [((a0 : Nat) : Int), a1] = b_X7_placeIn_0 n d (f_X7_placeIn n) S a0 a1 := rfl
theorem e_X7_placeIn_39 {n d : Nat} {S : GS} {a0 : Nat} {a3 : Int} {a4 : Int} : f_X7_placeIn (n + 1) d 39 S [((a0 : Nat) : Int), a3, a4] = b_X7_placeIn_39 n d (f_X7_placeIn n) S a0 a3 a4 := rfl

def b_X7_leadsTo_0 (n d : Nat) (rec : Nat → Nat → GS → List Int → Option (Int × GS)) (S : GS) (a0 : Nat) (a1 : Nat) (a2 : Int) : Option (Int × GS) :=
  rec d 5 S [((a0 : Nat) : Int), ((a1 : Nat) : Int), a2, 0, 0]
def b_X7_leadsTo_5 (n d : Nat) (rec : Nat → Nat → GS → List Int → Option (Int × GS)) (S : GS) (a0 : Nat) (a1 : Nat) (a2 : Int) (a3 : Int) (a4 : Int) : Option (Int × GS) :=
  gg (inr a4) <|
  gg (inr a2) <|
  if a2 ≤ a4 then (
    some (a3, S)
  ) else (
    gg (gRo (a0)) <|
    gv (S.1 a0 3) fun x5 =>
    gg (inr x5) <|
    if x5 ≤ a4 then (
      some (a3, S)
    ) else (
      gg (inr a3) <|
      if a3 = (-1) then (
        some (a3, S)
      ) else (
        gg (1 ≤ d) <|
        gc (f_X7_wordTo n (d - 1) 0 S [((a0 : Nat) : Int), a4, (((rW a0) : Nat) : Int)]) fun x12 S_13 =>
        gg (gT a1) <|
        gc (f_X10_is n (d - 1) 0 S_13 [((a1 : Nat) : Int), a3, 4]) fun x16 S_17 =>
        gg (inr x16) <|
        if x16 = 0 then (
          gc (f_X10_valueOf n (d - 1) 0 S_17 [((a1 : Nat) : Int), a3, (((rW a0) : Nat) : Int)]) fun x21 S_22 =>
          gv (a4 + 1) fun x24 =>
          rec d 5 S_22 [((a0 : Nat) : Int), ((a1 : Nat) : Int), a2, x21, x24]
        ) else (
          gc (f_X7_placeIn n (d - 1) 0 S_17 [(((rW a0) : Nat) : Int), 0]) fun x26 S_27 =>
          gc (f_X10_valueAt n (d - 1) 0 S_27 [((a1 : Nat) : Int), a3, x26]) fun x29 S_30 =>
          gv (a4 + 1) fun x32 =>
          rec d 5 S_30 [((a0 : Nat) : Int), ((a1 : Nat) : Int), a2, x29, x32]
        )
      )
    )
  )
def f_X7_leadsTo : Nat → Nat → Nat → GS → List Int → Option (Int × GS)
  | 0, _, _, _, _ => none
  | n + 1, d, pc, S, x => match pc, x with
    | 0, [a0, a1, a2] => b_X7_leadsTo_0 n d (f_X7_leadsTo n) S a0.toNat a1.toNat a2
    | 5, [a0, a1, a2, a3, a4] => b_X7_leadsTo_5 n d (f_X7_leadsTo n) S a0.toNat a1.toNat a2 a3 a4
    | _, _ => none
theorem e_X7_leadsTo_0 {n d : Nat} {S : GS} {a0 : Nat} {a1 : Nat} {a2 : Int} : f_X7_leadsTo (n + 1) d 0 S [((a0 : Nat) : Int), ((a1 : Nat) : Int), a2] = b_X7_leadsTo_0 n d (f_X7_leadsTo n) S a0 a1 a2 := rfl
theorem e_X7_leadsTo_5 {n d : Nat} {S : GS} {a0 : Nat} {a1 : Nat} {a2 : Int} {a3 : Int} {a4 : Int} : f_X7_leadsTo (n + 1) d 5 S [((a0 : Nat) : Int), ((a1 : Nat) : Int), a2, a3, a4] = b_X7_leadsTo_5 n d (f_X7_leadsTo n) S a0 a1 a2 a3 a4 := rfl

def b_X7_textTo_0 (n d : Nat) (rec : Nat → Nat → GS → List Int → Option (Int × GS)) (S : GS) (a0 : Nat) (a1 : Nat) : Option (Int × GS) :=
  gg (1 ≤ d) <|
  gg (gSh (a1)) <|
  gc (f_X9_clear n (d - 1) 0 S [((a1 : Nat) : Int)]) fun x3 S_4 =>
  gg (gRo (a0)) <|
  gc (f_X9_length n (d - 1) 0 S_4 [(((rS a0) : Nat) : Int)]) fun x7 S_8 =>
  gc (f_X9_addPart n (d - 1) 0 S_8 [((a1 : Nat) : Int), (((rS a0) : Nat) : Int), 0, x7]) fun x10 S_11 =>
  some (0, S_11)
def f_X7_textTo : Nat → Nat → Nat → GS → List Int → Option (Int × GS)
  | 0, _, _, _, _ => none
  | n + 1, d, pc, S, x => match pc, x with
    | 0, [a0, a1] => b_X7_textTo_0 n d (f_X7_textTo n) S a0.toNat a1.toNat
    | _, _ => none
theorem e_X7_textTo_0 {n d : Nat} {S : GS} {a0 : Nat} {a1 : Nat} : f_X7_textTo (n + 1) d 0 S [((a0 : Nat) : Int), ((a1 : Nat) : Int)] = b_X7_textTo_0 n d (f_X7_textTo n) S a0 a1 := rfl

def b_X5_add_0 (n d : Nat) (rec : Nat → Nat → GS → List Int → Option (Int × GS)) (S : GS) (a0 : Nat) (a1 : Nat) (a2 : Nat) (a3 : Nat) (a4 : Int) : Option (Int × GS) :=
  gg (1 ≤ d) <|
  gg (gT a0) <|
  gc (f_X10_add n (d - 1) 0 S [((a0 : Nat) : Int), 5]) fun x3 S_4 =>
  gc (f_X10_add n (d - 1) 0 S_4 [((a0 : Nat) : Int), 3]) fun x6 S_7 =>
  gc (f_X10_setKeyWord n (d - 1) 0 S_7 [((a0 : Nat) : Int), x6, ((22 : Nat) : Int)]) fun x9 S_10 =>
  rec d 25 S_10 [((a0 : Nat) : Int), ((a1 : Nat) : Int), ((a2 : Nat) : Int), ((a3 : Nat) : Int), a4, x3, x6, 0]
def b_X5_add_25 (n d : Nat) (rec : Nat → Nat → GS → List Int → Option (Int × GS)) (S : GS) (a0 : Nat) (a1 : Nat) (a2 : Nat) (a3 : Nat) (a4 : Int) (a5 : Int) (a6 : Int) (a7 : Int) : Option (Int × GS) :=
  gg (a1 < 54) <|
  gg (2 ≤ d) <|
  gv (((xlen.getD a1 0 : Nat) : Int)) fun x3 =>
  gg (inr a7) <|
  gg (inr x3) <|
  if x3 ≤ a7 then (
    gg (1 ≤ d) <|
    gg (gT a0) <|
    gc (f_X10_add n (d - 1) 0 S [((a0 : Nat) : Int), 3]) fun x10 S_11 =>
    gc (f_X10_setKeyWord n (d - 1) 0 S_11 [((a0 : Nat) : Int), x10, ((23 : Nat) : Int)]) fun x13 S_14 =>
    rec d 70 S_14 [((a0 : Nat) : Int), ((a2 : Nat) : Int), ((a3 : Nat) : Int), a4, a5, x10, 0]
  ) else (
    gg (4 ≤ d) <|
    gg (0 ≤ a7 ∧ a7 < ((xlen.getD a1 0 : Nat) : Int)) <|
    gv (xch a1 (a7 : Int).toNat) fun x18 =>
    gg (1 ≤ d) <|
    gg (gT a0) <|
    gc (f_X10_addSign n (d - 1) 0 S [((a0 : Nat) : Int), a6, x18]) fun x22 S_23 =>
    gv (a7 + 1) fun x25 =>
    rec d 25 S_23 [((a0 : Nat) : Int), ((a1 : Nat) : Int), ((a2 : Nat) : Int), ((a3 : Nat) : Int), a4, a5, a6, x25]
  )
def b_X5_add_70 (n d : Nat) (rec : Nat → Nat → GS → List Int → Option (Int × GS)) (S : GS) (a0 : Nat) (a2 : Nat) (a3 : Nat) (a4 : Int) (a5 : Int) (a7 : Int) (a8 : Int) : Option (Int × GS) :=
  gg (1 ≤ d) <|
  gg (gSh (a2)) <|
  gc (f_X9_length n (d - 1) 0 S [((a2 : Nat) : Int)]) fun x3 S_4 =>
  gg (inr a8) <|
  gg (inr x3) <|
  if x3 ≤ a8 then (
    gg (inr a4) <|
    if a4 = (-1) then (
      gg (gT a0) <|
      gc (f_X10_close n (d - 1) 0 S_4 [((a0 : Nat) : Int), a5]) fun x12 S_13 =>
      some (0, S_13)
    ) else (
      gg (gT a0) <|
      gc (f_X10_append n (d - 1) 0 S_4 [((a0 : Nat) : Int), ((a3 : Nat) : Int), a4]) fun x16 S_17 =>
      gc (f_X10_setKeyWord n (d - 1) 0 S_17 [((a0 : Nat) : Int), x16, ((24 : Nat) : Int)]) fun x19 S_20 =>
      gc (f_X10_close n (d - 1) 0 S_20 [((a0 : Nat) : Int), a5]) fun x22 S_23 =>
      some (0, S_23)
    )
  ) else (
    gc (f_X9_at n (d - 1) 0 S_4 [((a2 : Nat) : Int), a8]) fun x25 S_26 =>
    gg (gT a0) <|
    gc (f_X10_addSign n (d - 1) 0 S_26 [((a0 : Nat) : Int), a7, x25]) fun x29 S_30 =>
    gv (a8 + 1) fun x32 =>
    rec d 70 S_30 [((a0 : Nat) : Int), ((a2 : Nat) : Int), ((a3 : Nat) : Int), a4, a5, a7, x32]
  )
def f_X5_add : Nat → Nat → Nat → GS → List Int → Option (Int × GS)
  | 0, _, _, _, _ => none
  | n + 1, d, pc, S, x => match pc, x with
    | 0, [a0, a1, a2, a3, a4] => b_X5_add_0 n d (f_X5_add n) S a0.toNat a1.toNat a2.toNat a3.toNat a4
    | 25, [a0, a1, a2, a3, a4, a5, a6, a7] => b_X5_add_25 n d (f_X5_add n) S a0.toNat a1.toNat a2.toNat a3.toNat a4 a5 a6 a7
    | 70, [a0, a2, a3, a4, a5, a7, a8] => b_X5_add_70 n d (f_X5_add n) S a0.toNat a2.toNat a3.toNat a4 a5 a7 a8
    | _, _ => none
theorem e_X5_add_0 {n d : Nat} {S : GS} {a0 : Nat} {a1 : Nat} {a2 : Nat} {a3 : Nat} {a4 : Int} : f_X5_add (n + 1) d 0 S [((a0 : Nat) : Int), ((a1 : Nat) : Int), ((a2 : Nat) : Int), ((a3 : Nat) : Int), a4] = b_X5_add_0 n d (f_X5_add n) S a0 a1 a2 a3 a4 := rfl
theorem e_X5_add_25 {n d : Nat} {S : GS} {a0 : Nat} {a1 : Nat} {a2 : Nat} {a3 : Nat} {a4 : Int} {a5 : Int} {a6 : Int} {a7 : Int} : f_X5_add (n + 1) d 25 S [((a0 : Nat) : Int), ((a1 : Nat) : Int), ((a2 : Nat) : Int), ((a3 : Nat) : Int), a4, a5, a6, a7] = b_X5_add_25 n d (f_X5_add n) S a0 a1 a2 a3 a4 a5 a6 a7 := rfl
theorem e_X5_add_70 {n d : Nat} {S : GS} {a0 : Nat} {a2 : Nat} {a3 : Nat} {a4 : Int} {a5 : Int} {a7 : Int} {a8 : Int} : f_X5_add (n + 1) d 70 S [((a0 : Nat) : Int), ((a2 : Nat) : Int), ((a3 : Nat) : Int), a4, a5, a7, a8] = b_X5_add_70 n d (f_X5_add n) S a0 a2 a3 a4 a5 a7 a8 := rfl

def b_X1_record_0 (n d : Nat) (rec : Nat → Nat → GS → List Int → Option (Int × GS)) (S : GS) (a1 : Nat) (a2 : Nat) (a3 : Int) : Option (Int × GS) :=
  gg (1 ≤ d) <|
  gc (f_X10_clear n (d - 1) 0 S [((376 : Nat) : Int)]) fun x2 S_3 =>
  gc (f_X5_add n (d - 1) 0 S_3 [((376 : Nat) : Int), ((a1 : Nat) : Int), ((454 : Nat) : Int), ((a2 : Nat) : Int), a3]) fun x5 S_6 =>
  gc (f_X10_insert n (d - 1) 0 S_6 [((384 : Nat) : Int), 0, 1, ((376 : Nat) : Int), 0]) fun x8 S_9 =>
  some (0, S_9)
def f_X1_record : Nat → Nat → Nat → GS → List Int → Option (Int × GS)
  | 0, _, _, _, _ => none
  | n + 1, d, pc, S, x => match pc, x with
    | 0, [a1, a2, a3] => b_X1_record_0 n d (f_X1_record n) S a1.toNat a2.toNat a3
    | _, _ => none
theorem e_X1_record_0 {n d : Nat} {S : GS} {a1 : Nat} {a2 : Nat} {a3 : Int} : f_X1_record (n + 1) d 0 S [((a1 : Nat) : Int), ((a2 : Nat) : Int), a3] = b_X1_record_0 n d (f_X1_record n) S a1 a2 a3 := rfl

def b_X1_cutOut_0 (n d : Nat) (rec : Nat → Nat → GS → List Int → Option (Int × GS)) (S : GS) (a1 : Nat) : Option (Int × GS) :=
  gg (1 ≤ d) <|
  gg (gRo (a1)) <|
  gc (f_X7_steps n (d - 1) 0 S [((a1 : Nat) : Int)]) fun x3 S_4 =>
  gc (f_X7_leadsTo n (d - 1) 0 S_4 [((a1 : Nat) : Int), ((360 : Nat) : Int), x3]) fun x6 S_7 =>
  gg (inr x6) <|
  if x6 = (-1) then (
    some (0, S_7)
  ) else (
    gc (f_X7_steps n (d - 1) 0 S_7 [((a1 : Nat) : Int)]) fun x11 S_12 =>
    gg (inr x11) <|
    if x11 ≠ 0 then (
      gv (bi (S_12.2.1 482 7)) fun x16 =>
      gg (inr x16) <|
      if x16 = 0 then (
        gc (f_X10_remove n (d - 1) 0 S_12 [((360 : Nat) : Int), x6]) fun x20 S_21 =>
        some (1, S_21)
      ) else (
        gc (f_X7_textTo n (d - 1) 0 S_12 [((a1 : Nat) : Int), ((454 : Nat) : Int)]) fun x23 S_24 =>
        gc (f_X1_record n (d - 1) 0 S_24 [((26 : Nat) : Int), ((360 : Nat) : Int), x6]) fun x26 S_27 =>
        gc (f_X10_remove n (d - 1) 0 S_27 [((360 : Nat) : Int), x6]) fun x29 S_30 =>
        some (1, S_30)
      )
    ) else (
      some (0, S_12)
    )
  )
def f_X1_cutOut : Nat → Nat → Nat → GS → List Int → Option (Int × GS)
  | 0, _, _, _, _ => none
  | n + 1, d, pc, S, x => match pc, x with
    | 0, [a1] => b_X1_cutOut_0 n d (f_X1_cutOut n) S a1.toNat
    | _, _ => none
theorem e_X1_cutOut_0 {n d : Nat} {S : GS} {a1 : Nat} : f_X1_cutOut (n + 1) d 0 S [((a1 : Nat) : Int)] = b_X1_cutOut_0 n d (f_X1_cutOut n) S a1 := rfl

def b_X1_holdAt_0 (n d : Nat) (rec : Nat → Nat → GS → List Int → Option (Int × GS)) (S : GS) (a1 : Nat) (a2 : Int) : Option (Int × GS) :=
  gg (1 ≤ d) <|
  gc (f_X7_loadText n (d - 1) 0 S [((483 : Nat) : Int), ((a1 : Nat) : Int), a2]) fun x2 S_3 =>
  gg (inr x2) <|
  if x2 ≠ 0 then (
    gc (f_X7_steps n (d - 1) 0 S_3 [((483 : Nat) : Int)]) fun x7 S_8 =>
    gc (f_X7_leadsTo n (d - 1) 0 S_8 [((483 : Nat) : Int), ((360 : Nat) : Int), x7]) fun x10 S_11 =>
    gc (f_X10_copyOf n (d - 1) 0 S_11 [((368 : Nat) : Int), ((360 : Nat) : Int), x10]) fun x13 S_14 =>
    gg (inr x10) <|
    if x10 = (-1) then (
      some (0, S_14)
    ) else (
      some (1, S_14)
    )
  ) else (
    some (0, S_3)
  )
def f_X1_holdAt : Nat → Nat → Nat → GS → List Int → Option (Int × GS)
  | 0, _, _, _, _ => none
  | n + 1, d, pc, S, x => match pc, x with
    | 0, [a1, a2] => b_X1_holdAt_0 n d (f_X1_holdAt n) S a1.toNat a2
    | _, _ => none
theorem e_X1_holdAt_0 {n d : Nat} {S : GS} {a1 : Nat} {a2 : Int} : f_X1_holdAt (n + 1) d 0 S [((a1 : Nat) : Int), a2] = b_X1_holdAt_0 n d (f_X1_holdAt n) S a1 a2 := rfl

def b_X9_says_0 (n d : Nat) (rec : Nat → Nat → GS → List Int → Option (Int × GS)) (S : GS) (a0 : Nat) (a1 : Nat) : Option (Int × GS) :=
  gg (gSh (a0)) <|
  gv (S.1 a0 1) fun x2 =>
  gg (a1 < 54) <|
  gg (2 ≤ d) <|
  gv (((xlen.getD a1 0 : Nat) : Int)) fun x6 =>
  gg (inr x2) <|
  gg (inr x6) <|
  if x2 ≠ x6 then (
    rec d 19 S [((a0 : Nat) : Int), ((a1 : Nat) : Int), 0, 0]
  ) else (
    rec d 19 S [((a0 : Nat) : Int), ((a1 : Nat) : Int), 1, 0]
  )
def b_X9_says_19 (n d : Nat) (rec : Nat → Nat → GS → List Int → Option (Int × GS)) (S : GS) (a0 : Nat) (a1 : Nat) (a2 : Int) (a3 : Int) : Option (Int × GS) :=
  gg (gSh (a0)) <|
  gv (S.1 a0 1) fun x2 =>
  gg (inr a3) <|
  gg (inr x2) <|
  if x2 ≤ a3 then (
    gg (a2 = 0 ∨ a2 = 1) <|
    some (a2, S)
  ) else (
    gg (inr a2) <|
    if a2 = 0 then (
      gg (a2 = 0 ∨ a2 = 1) <|
      some (a2, S)
    ) else (
      gg (1 ≤ d) <|
      gc (f_X9_at n (d - 1) 0 S [((a0 : Nat) : Int), a3]) fun x12 S_13 =>
      gg (a1 < 54) <|
      gg (4 ≤ d) <|
      gg (0 ≤ a3 ∧ a3 < ((xlen.getD a1 0 : Nat) : Int)) <|
      gv (xch a1 (a3 : Int).toNat) fun x18 =>
      gg (inr x12) <|
      gg (inr x18) <|
      if x12 ≠ x18 then (
        gv (a3 + 1) fun x23 =>
        rec d 19 S_13 [((a0 : Nat) : Int), ((a1 : Nat) : Int), 0, x23]
      ) else (
        gv (a3 + 1) fun x25 =>
        rec d 19 S_13 [((a0 : Nat) : Int), ((a1 : Nat) : Int), 1, x25]
      )
    )
  )
def f_X9_says : Nat → Nat → Nat → GS → List Int → Option (Int × GS)
  | 0, _, _, _, _ => none
  | n + 1, d, pc, S, x => match pc, x with
    | 0, [a0, a1] => b_X9_says_0 n d (f_X9_says n) S a0.toNat a1.toNat
    | 19, [a0, a1, a2, a3] => b_X9_says_19 n d (f_X9_says n) S a0.toNat a1.toNat a2 a3
    | _, _ => none
theorem e_X9_says_0 {n d : Nat} {S : GS} {a0 : Nat} {a1 : Nat} : f_X9_says (n + 1) d 0 S [((a0 : Nat) : Int), ((a1 : Nat) : Int)] = b_X9_says_0 n d (f_X9_says n) S a0 a1 := rfl
theorem e_X9_says_19 {n d : Nat} {S : GS} {a0 : Nat} {a1 : Nat} {a2 : Int} {a3 : Int} : f_X9_says (n + 1) d 19 S [((a0 : Nat) : Int), ((a1 : Nat) : Int), a2, a3] = b_X9_says_19 n d (f_X9_says n) S a0 a1 a2 a3 := rfl

def b_X1_aim_0 (n d : Nat) (rec : Nat → Nat → GS → List Int → Option (Int × GS)) (S : GS) (a1 : Nat) : Option (Int × GS) :=
  gv (gI S 482 10 0) fun S_1 =>
  gg (1 ≤ d) <|
  gg (gRo (a1)) <|
  gc (f_X7_steps n (d - 1) 0 S_1 [((a1 : Nat) : Int)]) fun x5 S_6 =>
  gg (inr x5) <|
  if x5 ≠ 0 then (
    rec d 18 S_6 [((a1 : Nat) : Int), 0]
  ) else (
    rec d 18 S_6 [((a1 : Nat) : Int), 1]
  )
def b_X1_aim_18 (n d : Nat) (rec : Nat → Nat → GS → List Int → Option (Int × GS)) (S : GS) (a1 : Nat) (s0 : Int) : Option (Int × GS) :=
  gg (s0 = 0 ∨ s0 = 1) <|
  gv (gB S 482 11 (decide ((s0 : Int) = 1))) fun S_2 =>
  gv (bi (S_2.2.1 482 11)) fun x4 =>
  gg (inr x4) <|
  if x4 = 0 then (
    gg (1 ≤ d) <|
    gg (gRo (a1)) <|
    gc (f_X7_steps n (d - 1) 0 S_2 [((a1 : Nat) : Int)]) fun x10 S_11 =>
    gv (x10 - 1) fun x13 =>
    gc (f_X7_wordTo n (d - 1) 0 S_11 [((a1 : Nat) : Int), x13, ((452 : Nat) : Int)]) fun x15 S_16 =>
    gv (S_16.1 482 8) fun x18 =>
    gc (f_X10_is n (d - 1) 0 S_16 [((360 : Nat) : Int), x18, 5]) fun x20 S_21 =>
    gg (inr x20) <|
    if x20 = 0 then (
      gv (S_21.1 482 8) fun x25 =>
      gc (f_X10_is n (d - 1) 0 S_21 [((360 : Nat) : Int), x25, 4]) fun x27 S_28 =>
      gg (inr x27) <|
      if x27 ≠ 0 then (
        gv (S_28.1 482 8) fun x32 =>
        gc (f_X10_values n (d - 1) 0 S_28 [((360 : Nat) : Int), x32]) fun x34 S_35 =>
        gc (f_X9_says n (d - 1) 0 S_35 [((452 : Nat) : Int), ((20 : Nat) : Int)]) fun x37 S_38 =>
        gg (inr x37) <|
        if x37 = 0 then (
          gc (f_X7_placeIn n (d - 1) 0 S_38 [((452 : Nat) : Int), 0]) fun x42 S_43 =>
          rec d 196 S_43 [x34, x42]
        ) else (
          rec d 196 S_38 [x34, x34]
        )
      ) else (
        some (0, S_28)
      )
    ) else (
      gv (S_21.1 482 8) fun x45 =>
      gc (f_X10_valueOf n (d - 1) 0 S_21 [((360 : Nat) : Int), x45, ((452 : Nat) : Int)]) fun x47 S_48 =>
      gv (gI S_48 482 10 x47) fun S_50 =>
      gv (S_50.1 482 10) fun x52 =>
      gg (inr x52) <|
      if x52 = (-1) then (
        rec d 92 S_50 [0]
      ) else (
        rec d 92 S_50 [1]
      )
    )
  ) else (
    some (1, S_2)
  )
def b_X1_aim_92 (n d : Nat) (rec : Nat → Nat → GS → List Int → Option (Int × GS)) (S : GS) (s0 : Int) : Option (Int × GS) :=
  gg (s0 = 0 ∨ s0 = 1) <|
  gv (gB S 482 11 (decide ((s0 : Int) = 1))) fun S_2 =>
  gv (bi (S_2.2.1 482 11)) fun x4 =>
  gg (inr x4) <|
  if x4 = 0 then (
    gv (S_2.1 482 8) fun x8 =>
    gg (1 ≤ d) <|
    gc (f_X10_after n (d - 1) 0 S_2 [((360 : Nat) : Int), x8]) fun x11 S_12 =>
    rec d 121 S_12 [x11]
  ) else (
    gv (S_2.1 482 10) fun x14 =>
    rec d 121 S_2 [x14]
  )
def b_X1_aim_121 (n d : Nat) (rec : Nat → Nat → GS → List Int → Option (Int × GS)) (S : GS) (s0 : Int) : Option (Int × GS) :=
  gv (gI S 482 10 s0) fun S_1 =>
  gg (1 ≤ d) <|
  gc (f_X9_length n (d - 1) 0 S_1 [((452 : Nat) : Int)]) fun x4 S_5 =>
  gg (inr x4) <|
  if 12 < x4 then (
    some (0, S_5)
  ) else (
    some (1, S_5)
  )
def b_X1_aim_196 (n d : Nat) (rec : Nat → Nat → GS → List Int → Option (Int × GS)) (S : GS) (a2 : Int) (s0 : Int) : Option (Int × GS) :=
  gv (gI S 482 9 s0) fun S_1 =>
  gv (S_1.1 482 9) fun x3 =>
  gg (inr x3) <|
  gg (inr a2) <|
  if a2 ≤ x3 then (
    gv (S_1.1 482 8) fun x8 =>
    gg (1 ≤ d) <|
    gc (f_X10_after n (d - 1) 0 S_1 [((360 : Nat) : Int), x8]) fun x11 S_12 =>
    rec d 237 S_12 [a2, x11]
  ) else (
    gv (S_1.1 482 8) fun x14 =>
    gv (S_1.1 482 9) fun x16 =>
    gg (1 ≤ d) <|
    gc (f_X10_valueAt n (d - 1) 0 S_1 [((360 : Nat) : Int), x14, x16]) fun x19 S_20 =>
    rec d 237 S_20 [a2, x19]
  )
def b_X1_aim_237 (n d : Nat) (rec : Nat → Nat → GS → List Int → Option (Int × GS)) (S : GS) (a2 : Int) (s0 : Int) : Option (Int × GS) :=
  gv (gI S 482 10 s0) fun S_1 =>
  gv (S_1.1 482 9) fun x3 =>
  gg (inr x3) <|
  if x3 < 0 then (
    some (0, S_1)
  ) else (
    gv (S_1.1 482 9) fun x7 =>
    gg (inr x7) <|
    gg (inr a2) <|
    if a2 < x7 then (
      some (0, S_1)
    ) else (
      some (1, S_1)
    )
  )
def f_X1_aim : Nat → Nat → Nat → GS → List Int → Option (Int × GS)
  | 0, _, _, _, _ => none
  | n + 1, d, pc, S, x => match pc, x with
    | 0, [a1] => b_X1_aim_0 n d (f_X1_aim n) S a1.toNat
    | 18, [a1, s0] => b_X1_aim_18 n d (f_X1_aim n) S a1.toNat s0
    | 92, [s0] => b_X1_aim_92 n d (f_X1_aim n) S s0
    | 121, [s0] => b_X1_aim_121 n d (f_X1_aim n) S s0
    | 196, [a2, s0] => b_X1_aim_196 n d (f_X1_aim n) S a2 s0
    | 237, [a2, s0] => b_X1_aim_237 n d (f_X1_aim n) S a2 s0
    | _, _ => none
theorem e_X1_aim_0 {n d : Nat} {S : GS} {a1 : Nat} : f_X1_aim (n + 1) d 0 S [((a1 : Nat) : Int)] = b_X1_aim_0 n d (f_X1_aim n) S a1 := rfl
theorem e_X1_aim_18 {n d : Nat} {S : GS} {a1 : Nat} {s0 : Int} : f_X1_aim (n + 1) d 18 S [((a1 : Nat) : Int), s0] = b_X1_aim_18 n d (f_X1_aim n) S a1 s0 := rfl
theorem e_X1_aim_92 {n d : Nat} {S : GS} {s0 : Int} : f_X1_aim (n + 1) d 92 S [s0] = b_X1_aim_92 n d (f_X1_aim n) S s0 := rfl
theorem e_X1_aim_121 {n d : Nat} {S : GS} {s0 : Int} : f_X1_aim (n + 1) d 121 S [s0] = b_X1_aim_121 n d (f_X1_aim n) S s0 := rfl
theorem e_X1_aim_196 {n d : Nat} {S : GS} {a2 : Int} {s0 : Int} : f_X1_aim (n + 1) d 196 S [a2, s0] = b_X1_aim_196 n d (f_X1_aim n) S a2 s0 := rfl
theorem e_X1_aim_237 {n d : Nat} {S : GS} {a2 : Int} {s0 : Int} : f_X1_aim (n + 1) d 237 S [a2, s0] = b_X1_aim_237 n d (f_X1_aim n) S a2 s0 := rfl

def b_X7_textWithPlace_0 (n d : Nat) (rec : Nat → Nat → GS → List Int → Option (Int × GS)) (S : GS) (a0 : Nat) (a1 : Int) (a2 : Nat) : Option (Int × GS) :=
  gg (1 ≤ d) <|
  gg (gSh (a2)) <|
  gc (f_X9_clear n (d - 1) 0 S [((a2 : Nat) : Int)]) fun x3 S_4 =>
  gg (gRo (a0)) <|
  gv (S_4.1 a0 3) fun x7 =>
  gv (x7 - 1) fun x9 =>
  gc (f_X7_startOf n (d - 1) 0 S_4 [((a0 : Nat) : Int), x9]) fun x11 S_12 =>
  gc (f_X9_addPart n (d - 1) 0 S_12 [((a2 : Nat) : Int), (((rS a0) : Nat) : Int), 0, x11]) fun x14 S_15 =>
  gc (f_X9_addNumber n (d - 1) 0 S_15 [((a2 : Nat) : Int), a1]) fun x17 S_18 =>
  some (0, S_18)
def f_X7_textWithPlace : Nat → Nat → Nat → GS → List Int → Option (Int × GS)
  | 0, _, _, _, _ => none
  | n + 1, d, pc, S, x => match pc, x with
    | 0, [a0, a1, a2] => b_X7_textWithPlace_0 n d (f_X7_textWithPlace n) S a0.toNat a1 a2.toNat
    | _, _ => none
theorem e_X7_textWithPlace_0 {n d : Nat} {S : GS} {a0 : Nat} {a1 : Int} {a2 : Nat} : f_X7_textWithPlace (n + 1) d 0 S [((a0 : Nat) : Int), a1, ((a2 : Nat) : Int)] = b_X7_textWithPlace_0 n d (f_X7_textWithPlace n) S a0 a1 a2 := rfl

def b_X1_aimedPathTo_0 (n d : Nat) (rec : Nat → Nat → GS → List Int → Option (Int × GS)) (S : GS) (a1 : Nat) : Option (Int × GS) :=
  gv (S.1 482 8) fun x1 =>
  gg (1 ≤ d) <|
  gc (f_X10_is n (d - 1) 0 S [((360 : Nat) : Int), x1, 4]) fun x4 S_5 =>
  gg (inr x4) <|
  if x4 = 0 then (
    gg (gRo (a1)) <|
    gc (f_X7_textTo n (d - 1) 0 S_5 [((a1 : Nat) : Int), ((454 : Nat) : Int)]) fun x10 S_11 =>
    some (0, S_11)
  ) else (
    gv (S_5.1 482 9) fun x13 =>
    gg (gRo (a1)) <|
    gc (f_X7_textWithPlace n (d - 1) 0 S_5 [((a1 : Nat) : Int), x13, ((454 : Nat) : Int)]) fun x16 S_17 =>
    some (0, S_17)
  )
def f_X1_aimedPathTo : Nat → Nat → Nat → GS → List Int → Option (Int × GS)
  | 0, _, _, _, _ => none
  | n + 1, d, pc, S, x => match pc, x with
    | 0, [a1] => b_X1_aimedPathTo_0 n d (f_X1_aimedPathTo n) S a1.toNat
    | _, _ => none
theorem e_X1_aimedPathTo_0 {n d : Nat} {S : GS} {a1 : Nat} : f_X1_aimedPathTo (n + 1) d 0 S [((a1 : Nat) : Int)] = b_X1_aimedPathTo_0 n d (f_X1_aimedPathTo n) S a1 := rfl

def b_X1_putIn_0 (n d : Nat) (rec : Nat → Nat → GS → List Int → Option (Int × GS)) (S : GS) (a1 : Nat) (a2 : Nat) (a3 : Int) : Option (Int × GS) :=
  gg (1 ≤ d) <|
  gg (gRo (a1)) <|
  gc (f_X7_steps n (d - 1) 0 S [((a1 : Nat) : Int)]) fun x3 S_4 =>
  gv (x3 - 1) fun x6 =>
  gc (f_X7_leadsTo n (d - 1) 0 S_4 [((a1 : Nat) : Int), ((360 : Nat) : Int), x6]) fun x8 S_9 =>
  gv (gI S_9 482 8 x8) fun S_11 =>
  gc (f_X1_aim n (d - 1) 0 S_11 [((a1 : Nat) : Int)]) fun x13 S_14 =>
  gg (inr x13) <|
  if x13 ≠ 0 then (
    gv (bi (S_14.2.1 482 7)) fun x18 =>
    gg (inr x18) <|
    if x18 = 0 then (
      rec d 67 S_14 [((a1 : Nat) : Int), ((a2 : Nat) : Int), a3]
    ) else (
      gv (bi (S_14.2.1 482 11)) fun x22 =>
      gg (inr x22) <|
      if x22 = 0 then (
        rec d 67 S_14 [((a1 : Nat) : Int), ((a2 : Nat) : Int), a3]
      ) else (
        gc (f_X7_textTo n (d - 1) 0 S_14 [((a1 : Nat) : Int), ((454 : Nat) : Int)]) fun x26 S_27 =>
        gv (S_27.1 482 10) fun x29 =>
        gc (f_X1_record n (d - 1) 0 S_27 [((21 : Nat) : Int), ((360 : Nat) : Int), x29]) fun x31 S_32 =>
        rec d 90 S_32 [((a2 : Nat) : Int), a3]
      )
    )
  ) else (
    some (0, S_14)
  )
def b_X1_putIn_67 (n d : Nat) (rec : Nat → Nat → GS → List Int → Option (Int × GS)) (S : GS) (a1 : Nat) (a2 : Nat) (a3 : Int) : Option (Int × GS) :=
  gv (bi (S.2.1 482 7)) fun x1 =>
  gg (inr x1) <|
  if x1 = 0 then (
    rec d 90 S [((a2 : Nat) : Int), a3]
  ) else (
    gg (1 ≤ d) <|
    gc (f_X1_aimedPathTo n (d - 1) 0 S [((a1 : Nat) : Int)]) fun x6 S_7 =>
    gc (f_X1_record n (d - 1) 0 S_7 [((25 : Nat) : Int), ((360 : Nat) : Int), (-1)]) fun x9 S_10 =>
    rec d 90 S_10 [((a2 : Nat) : Int), a3]
  )
def b_X1_putIn_90 (n d : Nat) (rec : Nat → Nat → GS → List Int → Option (Int × GS)) (S : GS) (a2 : Nat) (a3 : Int) : Option (Int × GS) :=
  gv (bi (S.2.1 482 11)) fun x1 =>
  gg (inr x1) <|
  if x1 = 0 then (
    gv (S.1 482 8) fun x5 =>
    gv (S.1 482 10) fun x7 =>
    gg (1 ≤ d) <|
    gc (f_X10_insert n (d - 1) 0 S [((360 : Nat) : Int), x5, x7, ((a2 : Nat) : Int), a3]) fun x10 S_11 =>
    gv (S_11.1 482 10) fun x13 =>
    gc (f_X10_clearKey n (d - 1) 0 S_11 [((360 : Nat) : Int), x13]) fun x15 S_16 =>
    gv (S_16.1 482 8) fun x18 =>
    gc (f_X10_is n (d - 1) 0 S_16 [((360 : Nat) : Int), x18, 5]) fun x20 S_21 =>
    gg (inr x20) <|
    if x20 = 0 then (
      gc (f_X10_isDocument n (d - 1) 0 S_21 [((360 : Nat) : Int)]) fun x25 S_26 =>
      gg (x25 = 0 ∨ x25 = 1) <|
      some (x25, S_26)
    ) else (
      gv (S_21.1 482 10) fun x29 =>
      gc (f_X10_setKey n (d - 1) 0 S_21 [((360 : Nat) : Int), x29, ((452 : Nat) : Int)]) fun x31 S_32 =>
      gc (f_X10_isDocument n (d - 1) 0 S_32 [((360 : Nat) : Int)]) fun x34 S_35 =>
      gg (x34 = 0 ∨ x34 = 1) <|
      some (x34, S_35)
    )
  ) else (
    gv (S.1 482 10) fun x38 =>
    gg (1 ≤ d) <|
    gc (f_X10_replace n (d - 1) 0 S [((360 : Nat) : Int), x38, ((a2 : Nat) : Int), a3]) fun x41 S_42 =>
    gc (f_X10_isDocument n (d - 1) 0 S_42 [((360 : Nat) : Int)]) fun x44 S_45 =>
    gg (x44 = 0 ∨ x44 = 1) <|
    some (x44, S_45)
  )
def f_X1_putIn : Nat → Nat → Nat → GS → List Int → Option (Int × GS)
  | 0, _, _, _, _ => none
  | n + 1, d, pc, S, x => match pc, x with
    | 0, [a1, a2, a3] => b_X1_putIn_0 n d (f_X1_putIn n) S a1.toNat a2.toNat a3
    | 67, [a1, a2, a3] => b_X1_putIn_67 n d (f_X1_putIn n) S a1.toNat a2.toNat a3
    | 90, [a2, a3] => b_X1_putIn_90 n d (f_X1_putIn n) S a2.toNat a3
    | _, _ => none
theorem e_X1_putIn_0 {n d : Nat} {S : GS} {a1 : Nat} {a2 : Nat} {a3 : Int} : f_X1_putIn (n + 1) d 0 S [((a1 : Nat) : Int), ((a2 : Nat) : Int), a3] = b_X1_putIn_0 n d (f_X1_putIn n) S a1 a2 a3 := rfl
theorem e_X1_putIn_67 {n d : Nat} {S : GS} {a1 : Nat} {a2 : Nat} {a3 : Int} : f_X1_putIn (n + 1) d 67 S [((a1 : Nat) : Int), ((a2 : Nat) : Int), a3] = b_X1_putIn_67 n d (f_X1_putIn n) S a1 a2 a3 := rfl
theorem e_X1_putIn_90 {n d : Nat} {S : GS} {a2 : Nat} {a3 : Int} : f_X1_putIn (n + 1) d 90 S [((a2 : Nat) : Int), a3] = b_X1_putIn_90 n d (f_X1_putIn n) S a2 a3 := rfl

def b_X1_exchange_0 (n d : Nat) (rec : Nat → Nat → GS → List Int → Option (Int × GS)) (S : GS) (a1 : Nat) (a2 : Int) : Option (Int × GS) :=
  gg (1 ≤ d) <|
  gc (f_X7_steps n (d - 1) 0 S [((483 : Nat) : Int)]) fun x2 S_3 =>
  gc (f_X7_leadsTo n (d - 1) 0 S_3 [((483 : Nat) : Int), ((360 : Nat) : Int), x2]) fun x5 S_6 =>
  gg (inr x5) <|
  if x5 ≠ (-1) then (
    gv (bi (S_6.2.1 482 7)) fun x10 =>
    gg (inr x10) <|
    if x10 = 0 then (
      rec d 55 S_6 [((a1 : Nat) : Int), a2, x5]
    ) else (
      gc (f_X7_textTo n (d - 1) 0 S_6 [((483 : Nat) : Int), ((454 : Nat) : Int)]) fun x14 S_15 =>
      gc (f_X1_record n (d - 1) 0 S_15 [((21 : Nat) : Int), ((360 : Nat) : Int), x5]) fun x17 S_18 =>
      rec d 55 S_18 [((a1 : Nat) : Int), a2, x5]
    )
  ) else (
    some (0, S_6)
  )
def b_X1_exchange_55 (n d : Nat) (rec : Nat → Nat → GS → List Int → Option (Int × GS)) (S : GS) (a1 : Nat) (a2 : Int) (a3 : Int) : Option (Int × GS) :=
  gg (1 ≤ d) <|
  gc (f_X10_replace n (d - 1) 0 S [((360 : Nat) : Int), a3, ((a1 : Nat) : Int), a2]) fun x2 S_3 =>
  some (1, S_3)
def f_X1_exchange : Nat → Nat → Nat → GS → List Int → Option (Int × GS)
  | 0, _, _, _, _ => none
  | n + 1, d, pc, S, x => match pc, x with
    | 0, [a1, a2] => b_X1_exchange_0 n d (f_X1_exchange n) S a1.toNat a2
    | 55, [a1, a2, a3] => b_X1_exchange_55 n d (f_X1_exchange n) S a1.toNat a2 a3
    | _, _ => none
theorem e_X1_exchange_0 {n d : Nat} {S : GS} {a1 : Nat} {a2 : Int} : f_X1_exchange (n + 1) d 0 S [((a1 : Nat) : Int), a2] = b_X1_exchange_0 n d (f_X1_exchange n) S a1 a2 := rfl
theorem e_X1_exchange_55 {n d : Nat} {S : GS} {a1 : Nat} {a2 : Int} {a3 : Int} : f_X1_exchange (n + 1) d 55 S [((a1 : Nat) : Int), a2, a3] = b_X1_exchange_55 n d (f_X1_exchange n) S a1 a2 a3 := rfl

def b_X1_isThere_0 (n d : Nat) (rec : Nat → Nat → GS → List Int → Option (Int × GS)) (S : GS) (a1 : Nat) (a2 : Int) : Option (Int × GS) :=
  gg (1 ≤ d) <|
  gc (f_X7_steps n (d - 1) 0 S [((483 : Nat) : Int)]) fun x2 S_3 =>
  gc (f_X7_leadsTo n (d - 1) 0 S_3 [((483 : Nat) : Int), ((360 : Nat) : Int), x2]) fun x5 S_6 =>
  gg (inr x5) <|
  if x5 = (-1) then (
    some (0, S_6)
  ) else (
    gc (f_X10_same n (d - 1) 0 S_6 [((360 : Nat) : Int), x5, ((a1 : Nat) : Int), a2, 0]) fun x10 S_11 =>
    gg (inr x10) <|
    if x10 ≠ 0 then (
      gv (bi (S_11.2.1 482 7)) fun x15 =>
      gg (inr x15) <|
      if x15 = 0 then (
        some (1, S_11)
      ) else (
        gc (f_X7_textTo n (d - 1) 0 S_11 [((483 : Nat) : Int), ((454 : Nat) : Int)]) fun x19 S_20 =>
        gc (f_X1_record n (d - 1) 0 S_20 [((30 : Nat) : Int), ((a1 : Nat) : Int), a2]) fun x22 S_23 =>
        some (1, S_23)
      )
    ) else (
      some (0, S_11)
    )
  )
def f_X1_isThere : Nat → Nat → Nat → GS → List Int → Option (Int × GS)
  | 0, _, _, _, _ => none
  | n + 1, d, pc, S, x => match pc, x with
    | 0, [a1, a2] => b_X1_isThere_0 n d (f_X1_isThere n) S a1.toNat a2
    | _, _ => none
theorem e_X1_isThere_0 {n d : Nat} {S : GS} {a1 : Nat} {a2 : Int} : f_X1_isThere (n + 1) d 0 S [((a1 : Nat) : Int), a2] = b_X1_isThere_0 n d (f_X1_isThere n) S a1 a2 := rfl

def b_X1_layOne_0 (n d : Nat) (rec : Nat → Nat → GS → List Int → Option (Int × GS)) (S : GS) (a1 : Nat) (a2 : Int) : Option (Int × GS) :=
  gg (1 ≤ d) <|
  gg (gT a1) <|
  gc (f_X10_valueNamed n (d - 1) 0 S [((a1 : Nat) : Int), a2, ((22 : Nat) : Int)]) fun x3 S_4 =>
  gc (f_X10_valueNamed n (d - 1) 0 S_4 [((a1 : Nat) : Int), a2, ((23 : Nat) : Int)]) fun x6 S_7 =>
  gc (f_X10_valueNamed n (d - 1) 0 S_7 [((a1 : Nat) : Int), a2, ((27 : Nat) : Int)]) fun x9 S_10 =>
  gc (f_X10_valueNamed n (d - 1) 0 S_10 [((a1 : Nat) : Int), a2, ((24 : Nat) : Int)]) fun x12 S_13 =>
  gc (f_X10_is n (d - 1) 0 S_13 [((a1 : Nat) : Int), x3, 3]) fun x15 S_16 =>
  gg (inr x15) <|
  if x15 = 0 then (
    some (0, S_16)
  ) else (
    gc (f_X7_loadText n (d - 1) 0 S_16 [((483 : Nat) : Int), ((a1 : Nat) : Int), x6]) fun x20 S_21 =>
    gg (inr x20) <|
    if x20 ≠ 0 then (
      gc (f_X10_says n (d - 1) 0 S_21 [((a1 : Nat) : Int), x3, ((25 : Nat) : Int)]) fun x25 S_26 =>
      gg (inr x25) <|
      if x25 = 0 then (
        gc (f_X10_says n (d - 1) 0 S_26 [((a1 : Nat) : Int), x3, ((28 : Nat) : Int)]) fun x30 S_31 =>
        gg (inr x30) <|
        if x30 = 0 then (
          gc (f_X10_says n (d - 1) 0 S_31 [((a1 : Nat) : Int), x3, ((29 : Nat) : Int)]) fun x35 S_36 =>
          gg (inr x35) <|
          if x35 = 0 then (
            gg (inr x12) <|
            if x12 ≠ (-1) then (
              gc (f_X10_says n (d - 1) 0 S_36 [((a1 : Nat) : Int), x3, ((26 : Nat) : Int)]) fun x42 S_43 =>
              gg (inr x42) <|
              if x42 = 0 then (
                gc (f_X10_says n (d - 1) 0 S_43 [((a1 : Nat) : Int), x3, ((21 : Nat) : Int)]) fun x47 S_48 =>
                gg (inr x47) <|
                if x47 = 0 then (
                  gc (f_X10_says n (d - 1) 0 S_48 [((a1 : Nat) : Int), x3, ((30 : Nat) : Int)]) fun x52 S_53 =>
                  gg (inr x52) <|
                  if x52 = 0 then (
                    some (0, S_53)
                  ) else (
                    gc (f_X1_isThere n (d - 1) 0 S_53 [((a1 : Nat) : Int), x12]) fun x57 S_58 =>
                    gg (inr x57) <|
                    if x57 = 0 then (
                      some (0, S_58)
                    ) else (
                      some (1, S_58)
                    )
                  )
                ) else (
                  gc (f_X1_exchange n (d - 1) 0 S_48 [((a1 : Nat) : Int), x12]) fun x62 S_63 =>
                  gg (x62 = 0 ∨ x62 = 1) <|
                  some (x62, S_63)
                )
              ) else (
                gc (f_X1_putIn n (d - 1) 0 S_43 [((483 : Nat) : Int), ((a1 : Nat) : Int), x12]) fun x66 S_67 =>
                gg (x66 = 0 ∨ x66 = 1) <|
                some (x66, S_67)
              )
            ) else (
              some (0, S_36)
            )
          ) else (
            gc (f_X1_holdAt n (d - 1) 0 S_36 [((a1 : Nat) : Int), x9]) fun x70 S_71 =>
            gg (inr x70) <|
            if x70 = 0 then (
              some (0, S_71)
            ) else (
              gc (f_X7_loadText n (d - 1) 0 S_71 [((483 : Nat) : Int), ((a1 : Nat) : Int), x6]) fun x75 S_76 =>
              gg (inr x75) <|
              if x75 = 0 then (
                some (0, S_76)
              ) else (
                gc (f_X1_putIn n (d - 1) 0 S_76 [((483 : Nat) : Int), ((368 : Nat) : Int), 0]) fun x80 S_81 =>
                gg (inr x80) <|
                if x80 = 0 then (
                  some (0, S_81)
                ) else (
                  some (1, S_81)
                )
              )
            )
          )
        ) else (
          gc (f_X1_holdAt n (d - 1) 0 S_31 [((a1 : Nat) : Int), x9]) fun x85 S_86 =>
          gg (inr x85) <|
          if x85 = 0 then (
            some (0, S_86)
          ) else (
            gc (f_X1_cutOut n (d - 1) 0 S_86 [((483 : Nat) : Int)]) fun x90 S_91 =>
            gg (inr x90) <|
            if x90 = 0 then (
              some (0, S_91)
            ) else (
              gc (f_X7_loadText n (d - 1) 0 S_91 [((483 : Nat) : Int), ((a1 : Nat) : Int), x6]) fun x95 S_96 =>
              gg (inr x95) <|
              if x95 = 0 then (
                some (0, S_96)
              ) else (
                gc (f_X1_putIn n (d - 1) 0 S_96 [((483 : Nat) : Int), ((368 : Nat) : Int), 0]) fun x100 S_101 =>
                gg (inr x100) <|
                if x100 = 0 then (
                  some (0, S_101)
                ) else (
                  some (1, S_101)
                )
              )
            )
          )
        )
      ) else (
        gc (f_X1_cutOut n (d - 1) 0 S_26 [((483 : Nat) : Int)]) fun x105 S_106 =>
        gg (x105 = 0 ∨ x105 = 1) <|
        some (x105, S_106)
      )
    ) else (
      some (0, S_21)
    )
  )
def f_X1_layOne : Nat → Nat → Nat → GS → List Int → Option (Int × GS)
  | 0, _, _, _, _ => none
  | n + 1, d, pc, S, x => match pc, x with
    | 0, [a1, a2] => b_X1_layOne_0 n d (f_X1_layOne n) S a1.toNat a2
    | _, _ => none
theorem e_X1_layOne_0 {n d : Nat} {S : GS} {a1 : Nat} {a2 : Int} : f_X1_layOne (n + 1) d 0 S [((a1 : Nat) : Int), a2] = b_X1_layOne_0 n d (f_X1_layOne n) S a1 a2 := rfl

def b_X1_layAll_0 (n d : Nat) (rec : Nat → Nat → GS → List Int → Option (Int × GS)) (S : GS) (a1 : Nat) : Option (Int × GS) :=
  gg (1 ≤ d) <|
  gg (gT a1) <|
  gc (f_X10_first n (d - 1) 0 S [((a1 : Nat) : Int), 0]) fun x3 S_4 =>
  rec d 8 S_4 [((a1 : Nat) : Int), x3, 0]
def b_X1_layAll_8 (n d : Nat) (rec : Nat → Nat → GS → List Int → Option (Int × GS)) (S : GS) (a1 : Nat) (a2 : Int) (a3 : Int) : Option (Int × GS) :=
  gg (inr a2) <|
  if a2 = (-1) then (
    some ((-1), S)
  ) else (
    gg (inr a3) <|
    if 100 ≤ a3 then (
      some ((-1), S)
    ) else (
      gg (1 ≤ d) <|
      gc (f_X1_layOne n (d - 1) 0 S [((a1 : Nat) : Int), a2]) fun x6 S_7 =>
      gg (inr x6) <|
      if x6 = 0 then (
        some (a3, S_7)
      ) else (
        gc (f_X10_isDocument n (d - 1) 0 S_7 [((360 : Nat) : Int)]) fun x11 S_12 =>
        gg (inr x11) <|
        if x11 ≠ 0 then (
          gg (gT a1) <|
          gc (f_X10_next n (d - 1) 0 S_12 [((a1 : Nat) : Int), 0, a2]) fun x17 S_18 =>
          gv (a3 + 1) fun x20 =>
          rec d 8 S_18 [((a1 : Nat) : Int), x17, x20]
        ) else (
          some (a3, S_12)
        )
      )
    )
  )
def f_X1_layAll : Nat → Nat → Nat → GS → List Int → Option (Int × GS)
  | 0, _, _, _, _ => none
  | n + 1, d, pc, S, x => match pc, x with
    | 0, [a1] => b_X1_layAll_0 n d (f_X1_layAll n) S a1.toNat
    | 8, [a1, a2, a3] => b_X1_layAll_8 n d (f_X1_layAll n) S a1.toNat a2 a3
    | _, _ => none
theorem e_X1_layAll_0 {n d : Nat} {S : GS} {a1 : Nat} : f_X1_layAll (n + 1) d 0 S [((a1 : Nat) : Int)] = b_X1_layAll_0 n d (f_X1_layAll n) S a1 := rfl
theorem e_X1_layAll_8 {n d : Nat} {S : GS} {a1 : Nat} {a2 : Int} {a3 : Int} : f_X1_layAll (n + 1) d 8 S [((a1 : Nat) : Int), a2, a3] = b_X1_layAll_8 n d (f_X1_layAll n) S a1 a2 a3 := rfl

def b_X1_result_0 (n d : Nat) (rec : Nat → Nat → GS → List Int → Option (Int × GS)) (S : GS) : Option (Int × GS) :=
  some (((360 : Nat) : Int), S)
def f_X1_result : Nat → Nat → Nat → GS → List Int → Option (Int × GS)
  | 0, _, _, _, _ => none
  | n + 1, d, pc, S, x => match pc, x with
    | 0, [] => b_X1_result_0 n d (f_X1_result n) S 
    | _, _ => none
theorem e_X1_result_0 {n d : Nat} {S : GS} : f_X1_result (n + 1) d 0 S [] = b_X1_result_0 n d (f_X1_result n) S  := rfl

def b_X11_lay_0 (n d : Nat) (rec : Nat → Nat → GS → List Int → Option (Int × GS)) (S : GS) (a1 : Int) (a2 : Int) : Option (Int × GS) :=
  gg (1 ≤ d) <|
  gc (f_X11_document n (d - 1) 0 S [a1]) fun x2 S_3 =>
  if x2 < exB then (
  gc (f_X11_document n (d - 1) 0 S_3 [a2]) fun x6 S_7 =>
  if x6 < exB then (
  gg (gT (x6.toNat)) <|
  gc (f_X10_is n (d - 1) 0 S_7 [((x6.toNat : Nat) : Int), 0, 4]) fun x11 S_12 =>
  gg (inr x11) <|
  if x11 ≠ 0 then (
    gc (f_X1_begin n (d - 1) 0 S_12 [((x2.toNat : Nat) : Int), 0]) fun x16 S_17 =>
    gc (f_X1_layAll n (d - 1) 0 S_17 [((x6.toNat : Nat) : Int)]) fun x19 S_20 =>
    gg (inr x19) <|
    if x19 = (-1) then (
      gc (f_X1_result n (d - 1) 0 S_20 []) fun x24 S_25 =>
      gc (f_X11_admit n (d - 1) 0 S_25 [((x24.toNat : Nat) : Int)]) fun x27 S_28 =>
      if x27 < exB then (
      gg (x27 < exB) <|
      some (x27, S_28)
      ) else some (x27, S_28)
    ) else (
      gv ((-2) - x19) fun x32 =>
      gg (x32 < exB) <|
      some (x32, S_20)
    )
  ) else (
    some ((-1), S_12)
  )
  ) else some (x6, S_7)
  ) else some (x2, S_3)
def f_X11_lay : Nat → Nat → Nat → GS → List Int → Option (Int × GS)
  | 0, _, _, _, _ => none
  | n + 1, d, pc, S, x => match pc, x with
    | 0, [a1, a2] => b_X11_lay_0 n d (f_X11_lay n) S a1 a2
    | _, _ => none
theorem e_X11_lay_0 {n d : Nat} {S : GS} {a1 : Int} {a2 : Int} : f_X11_lay (n + 1) d 0 S [a1, a2] = b_X11_lay_0 n d (f_X11_lay n) S a1 a2 := rfl

def b_X7_load_0 (n d : Nat) (rec : Nat → Nat → GS → List Int → Option (Int × GS)) (S : GS) (a0 : Nat) (a1 : Nat) : Option (Int × GS) :=
  gg (gRo (a0)) <|
  gg (1 ≤ d) <|
  gc (f_X9_clear n (d - 1) 0 S [(((rS a0) : Nat) : Int)]) fun x3 S_4 =>
  gg (gSh (a1)) <|
  gc (f_X9_length n (d - 1) 0 S_4 [((a1 : Nat) : Int)]) fun x7 S_8 =>
  gc (f_X9_addPart n (d - 1) 0 S_8 [(((rS a0) : Nat) : Int), ((a1 : Nat) : Int), 0, x7]) fun x10 S_11 =>
  gc (f_X7_divide n (d - 1) 0 S_11 [((a0 : Nat) : Int)]) fun x13 S_14 =>
  gg (x13 = 0 ∨ x13 = 1) <|
  some (x13, S_14)
def f_X7_load : Nat → Nat → Nat → GS → List Int → Option (Int × GS)
  | 0, _, _, _, _ => none
  | n + 1, d, pc, S, x => match pc, x with
    | 0, [a0, a1] => b_X7_load_0 n d (f_X7_load n) S a0.toNat a1.toNat
    | _, _ => none
theorem e_X7_load_0 {n d : Nat} {S : GS} {a0 : Nat} {a1 : Nat} : f_X7_load (n + 1) d 0 S [((a0 : Nat) : Int), ((a1 : Nat) : Int)] = b_X7_load_0 n d (f_X7_load n) S a0 a1 := rfl

def b_X11_loadPage_0 (n d : Nat) (rec : Nat → Nat → GS → List Int → Option (Int × GS)) (S : GS) : Option (Int × GS) :=
  gg (1 ≤ d) <|
  gc (f_X7_load n (d - 1) 0 S [((471 : Nat) : Int), ((424 : Nat) : Int)]) fun x2 S_3 =>
  gg (inr x2) <|
  if x2 ≠ 0 then (
    some (0, S_3)
  ) else (
    some (exB + 2, S_3)
  )
def f_X11_loadPage : Nat → Nat → Nat → GS → List Int → Option (Int × GS)
  | 0, _, _, _, _ => none
  | n + 1, d, pc, S, x => match pc, x with
    | 0, [] => b_X11_loadPage_0 n d (f_X11_loadPage n) S 
    | _, _ => none
theorem e_X11_loadPage_0 {n d : Nat} {S : GS} : f_X11_loadPage (n + 1) d 0 S [] = b_X11_loadPage_0 n d (f_X11_loadPage n) S  := rfl

def b_X11_node_0 (n d : Nat) (rec : Nat → Nat → GS → List Int → Option (Int × GS)) (S : GS) (a1 : Int) (a2 : Int) (a3 : Int) : Option (Int × GS) :=
  gg (1 ≤ d) <|
  gc (f_X11_documentWith n (d - 1) 0 S [a1, a2]) fun x2 S_3 =>
  if x2 < exB then (
  gg (inr a3) <|
  if a3 < 0 then (
    some (exB + 1, S_3)
  ) else (
    if a3 ≤ 9 then (
      gg (gT (x2.toNat)) <|
      gc (f_X10_about n (d - 1) 0 S_3 [((x2.toNat : Nat) : Int), a2, a3]) fun x10 S_11 =>
      gg (x10 < exB) <|
      some (x10, S_11)
    ) else (
      some (exB + 1, S_3)
    )
  )
  ) else some (x2, S_3)
def f_X11_node : Nat → Nat → Nat → GS → List Int → Option (Int × GS)
  | 0, _, _, _, _ => none
  | n + 1, d, pc, S, x => match pc, x with
    | 0, [a1, a2, a3] => b_X11_node_0 n d (f_X11_node n) S a1 a2 a3
    | _, _ => none
theorem e_X11_node_0 {n d : Nat} {S : GS} {a1 : Int} {a2 : Int} {a3 : Int} : f_X11_node (n + 1) d 0 S [a1, a2, a3] = b_X11_node_0 n d (f_X11_node n) S a1 a2 a3 := rfl

def b_X11_paper_0 (n d : Nat) (rec : Nat → Nat → GS → List Int → Option (Int × GS)) (S : GS) (a1 : Int) (a2 : Int) : Option (Int × GS) :=
  gg (inr a1) <|
  if a1 < 0 then (
    some (exB + 3, S)
  ) else (
    gg (1 ≤ d) <|
    gc (f_X9_length n (d - 1) 0 S [((426 : Nat) : Int)]) fun x4 S_5 =>
    gg (inr x4) <|
    if a1 < x4 then (
      gg (inr a2) <|
      if a2 < 1 then (
        some (exB + 1, S_5)
      ) else (
        if 7 < a2 then (
          some (exB + 1, S_5)
        ) else (
          gc (f_X9_length n (d - 1) 0 S_5 [((426 : Nat) : Int)]) fun x12 S_13 =>
          gv (x12 - a1) fun x15 =>
          gg (inr x15) <|
          if a2 ≤ x15 then (
            rec d 60 S_13 [a1, a2, 0, 0]
          ) else (
            some (exB + 1, S_13)
          )
        )
      )
    ) else (
      some (exB + 3, S_5)
    )
  )
def b_X11_paper_60 (n d : Nat) (rec : Nat → Nat → GS → List Int → Option (Int × GS)) (S : GS) (a1 : Int) (a2 : Int) (a3 : Int) (a5 : Int) : Option (Int × GS) :=
  gg (inr a5) <|
  gg (inr a2) <|
  if a2 ≤ a5 then (
    gg (a3 < exB) <|
    some (a3, S)
  ) else (
    gv ((a3 : Int) * 256) fun x5 =>
    gv (a1 + a5) fun x7 =>
    gg (1 ≤ d) <|
    gc (f_X9_at n (d - 1) 0 S [((426 : Nat) : Int), x7]) fun x10 S_11 =>
    gg (inr x10) <|
    gv ((x5 : Int) + x10) fun x14 =>
    gv (a5 + 1) fun x16 =>
    rec d 60 S_11 [a1, a2, x14, x16]
  )
def f_X11_paper : Nat → Nat → Nat → GS → List Int → Option (Int × GS)
  | 0, _, _, _, _ => none
  | n + 1, d, pc, S, x => match pc, x with
    | 0, [a1, a2] => b_X11_paper_0 n d (f_X11_paper n) S a1 a2
    | 60, [a1, a2, a3, a5] => b_X11_paper_60 n d (f_X11_paper n) S a1 a2 a3 a5
    | _, _ => none
theorem e_X11_paper_0 {n d : Nat} {S : GS} {a1 : Int} {a2 : Int} : f_X11_paper (n + 1) d 0 S [a1, a2] = b_X11_paper_0 n d (f_X11_paper n) S a1 a2 := rfl
theorem e_X11_paper_60 {n d : Nat} {S : GS} {a1 : Int} {a2 : Int} {a3 : Int} {a5 : Int} : f_X11_paper (n + 1) d 60 S [a1, a2, a3, a5] = b_X11_paper_60 n d (f_X11_paper n) S a1 a2 a3 a5 := rfl

def b_X5_gather_0 (n d : Nat) (rec : Nat → Nat → GS → List Int → Option (Int × GS)) (S : GS) (a0 : Nat) (a1 : Int) (a2 : Nat) : Option (Int × GS) :=
  gg (1 ≤ d) <|
  gg (gT a0) <|
  gc (f_X10_first n (d - 1) 0 S [((a0 : Nat) : Int), a1]) fun x3 S_4 =>
  rec d 9 S_4 [((a0 : Nat) : Int), a1, ((a2 : Nat) : Int), 0, x3]
def b_X5_gather_9 (n d : Nat) (rec : Nat → Nat → GS → List Int → Option (Int × GS)) (S : GS) (a0 : Nat) (a1 : Int) (a2 : Nat) (a3 : Int) (a4 : Int) : Option (Int × GS) :=
  gg (inr a4) <|
  if a4 = (-1) then (
    some (a3, S)
  ) else (
    gg (a2 = 480 ∨ a2 = 481) <|
    gg (inr a3) <|
    gg (inr ((100 : Nat) : Int)) <|
    if ((100 : Nat) : Int) ≤ a3 then (
      some (a3, S)
    ) else (
      gg (0 ≤ a3 ∧ a3 < ((100 : Nat) : Int) ∧ a3 < 2147483648) <|
      gv (gI S a2 (a3 : Int).toNat a4) fun S_8 =>
      gv (a3 + 1) fun x10 =>
      gg (1 ≤ d) <|
      gg (gT a0) <|
      gc (f_X10_next n (d - 1) 0 S_8 [((a0 : Nat) : Int), a1, a4]) fun x14 S_15 =>
      rec d 9 S_15 [((a0 : Nat) : Int), a1, ((a2 : Nat) : Int), x10, x14]
    )
  )
def f_X5_gather : Nat → Nat → Nat → GS → List Int → Option (Int × GS)
  | 0, _, _, _, _ => none
  | n + 1, d, pc, S, x => match pc, x with
    | 0, [a0, a1, a2] => b_X5_gather_0 n d (f_X5_gather n) S a0.toNat a1 a2.toNat
    | 9, [a0, a1, a2, a3, a4] => b_X5_gather_9 n d (f_X5_gather n) S a0.toNat a1 a2.toNat a3 a4
    | _, _ => none
theorem e_X5_gather_0 {n d : Nat} {S : GS} {a0 : Nat} {a1 : Int} {a2 : Nat} : f_X5_gather (n + 1) d 0 S [((a0 : Nat) : Int), a1, ((a2 : Nat) : Int)] = b_X5_gather_0 n d (f_X5_gather n) S a0 a1 a2 := rfl
theorem e_X5_gather_9 {n d : Nat} {S : GS} {a0 : Nat} {a1 : Int} {a2 : Nat} {a3 : Int} {a4 : Int} : f_X5_gather (n + 1) d 9 S [((a0 : Nat) : Int), a1, ((a2 : Nat) : Int), a3, a4] = b_X5_gather_9 n d (f_X5_gather n) S a0 a1 a2 a3 a4 := rfl

def b_X5_matchAll_0 (n d : Nat) (rec : Nat → Nat → GS → List Int → Option (Int × GS)) (S : GS) (a1 : Int) (a2 : Int) : Option (Int × GS) :=
  rec d 2 S [a1, a2, 0]
def b_X5_matchAll_2 (n d : Nat) (rec : Nat → Nat → GS → List Int → Option (Int × GS)) (S : GS) (a1 : Int) (a2 : Int) (a3 : Int) : Option (Int × GS) :=
  gg (inr a3) <|
  gg (inr a1) <|
  if a1 ≤ a3 then (
    some (0, S)
  ) else (
    if 100 ≤ a3 then (
      some (0, S)
    ) else (
      rec d 16 S [a1, a2, a3, 0]
    )
  )
def b_X5_matchAll_16 (n d : Nat) (rec : Nat → Nat → GS → List Int → Option (Int × GS)) (S : GS) (a1 : Int) (a2 : Int) (a3 : Int) (a4 : Int) : Option (Int × GS) :=
  gg (inr a4) <|
  gg (inr a2) <|
  if a2 ≤ a4 then (
    gv (a3 + 1) fun x4 =>
    rec d 2 S [a1, a2, x4]
  ) else (
    if 100 ≤ a4 then (
      gv (a3 + 1) fun x7 =>
      rec d 2 S [a1, a2, x7]
    ) else (
      gv (a3 * 100) fun x9 =>
      gv (x9 + a4) fun x11 =>
      gv (S.2.2 477 6) fun z13 =>
      gg (0 ≤ a3 ∧ a3 < ((100 : Nat) : Int) ∧ a3 < 2147483648) <|
      gv (S.1 480 (a3 : Int).toNat) fun x16 =>
      gv (S.2.2 477 7) fun z18 =>
      gg (0 ≤ a4 ∧ a4 < ((100 : Nat) : Int) ∧ a4 < 2147483648) <|
      gv (S.1 481 (a4 : Int).toNat) fun x21 =>
      gg (1 ≤ d) <|
      gg (gT z13) <|
      gc (f_X10_same n (d - 1) 0 S [((z13 : Nat) : Int), x16, ((z18 : Nat) : Int), x21, 0]) fun x25 S_26 =>
      gg (0 ≤ x11 ∧ x11 < ((10000 : Nat) : Int) ∧ x11 < 2147483648) <|
      gg (x25 = 0 ∨ x25 = 1) <|
      gv (gB S_26 478 (x11 : Int).toNat (decide ((x25 : Int) = 1))) fun S_30 =>
      gv (a4 + 1) fun x32 =>
      rec d 16 S_30 [a1, a2, a3, x32]
    )
  )
def f_X5_matchAll : Nat → Nat → Nat → GS → List Int → Option (Int × GS)
  | 0, _, _, _, _ => none
  | n + 1, d, pc, S, x => match pc, x with
    | 0, [a1, a2] => b_X5_matchAll_0 n d (f_X5_matchAll n) S a1 a2
    | 2, [a1, a2, a3] => b_X5_matchAll_2 n d (f_X5_matchAll n) S a1 a2 a3
    | 16, [a1, a2, a3, a4] => b_X5_matchAll_16 n d (f_X5_matchAll n) S a1 a2 a3 a4
    | _, _ => none
theorem e_X5_matchAll_0 {n d : Nat} {S : GS} {a1 : Int} {a2 : Int} : f_X5_matchAll (n + 1) d 0 S [a1, a2] = b_X5_matchAll_0 n d (f_X5_matchAll n) S a1 a2 := rfl
theorem e_X5_matchAll_2 {n d : Nat} {S : GS} {a1 : Int} {a2 : Int} {a3 : Int} : f_X5_matchAll (n + 1) d 2 S [a1, a2, a3] = b_X5_matchAll_2 n d (f_X5_matchAll n) S a1 a2 a3 := rfl
theorem e_X5_matchAll_16 {n d : Nat} {S : GS} {a1 : Int} {a2 : Int} {a3 : Int} {a4 : Int} : f_X5_matchAll (n + 1) d 16 S [a1, a2, a3, a4] = b_X5_matchAll_16 n d (f_X5_matchAll n) S a1 a2 a3 a4 := rfl

def b_X5_pairsFrom_0 (n d : Nat) (rec : Nat → Nat → GS → List Int → Option (Int × GS)) (S : GS) (a1 : Int) (a2 : Int) : Option (Int × GS) :=
  gg (inr a1) <|
  if a1 < 0 then (
    some (0, S)
  ) else (
    if 100 ≤ a1 then (
      some (0, S)
    ) else (
      gg (inr a2) <|
      if a2 < 0 then (
        some (0, S)
      ) else (
        if 100 ≤ a2 then (
          some (0, S)
        ) else (
          gv (a1 * 100) fun x7 =>
          gv (x7 + a2) fun x9 =>
          gg (0 ≤ x9 ∧ x9 < ((10000 : Nat) : Int) ∧ x9 < 2147483648) <|
          gv (S.1 479 (x9 : Int).toNat) fun x12 =>
          some (x12, S)
        )
      )
    )
  )
def f_X5_pairsFrom : Nat → Nat → Nat → GS → List Int → Option (Int × GS)
  | 0, _, _, _, _ => none
  | n + 1, d, pc, S, x => match pc, x with
    | 0, [a1, a2] => b_X5_pairsFrom_0 n d (f_X5_pairsFrom n) S a1 a2
    | _, _ => none
theorem e_X5_pairsFrom_0 {n d : Nat} {S : GS} {a1 : Int} {a2 : Int} : f_X5_pairsFrom (n + 1) d 0 S [a1, a2] = b_X5_pairsFrom_0 n d (f_X5_pairsFrom n) S a1 a2 := rfl

def b_X5_countPairs_0 (n d : Nat) (rec : Nat → Nat → GS → List Int → Option (Int × GS)) (S : GS) (a1 : Int) (a2 : Int) : Option (Int × GS) :=
  gg (inr a1) <|
  gv (min a1 99) fun x2 =>
  rec d 7 S [a1, a2, x2]
def b_X5_countPairs_7 (n d : Nat) (rec : Nat → Nat → GS → List Int → Option (Int × GS)) (S : GS) (a1 : Int) (a2 : Int) (a3 : Int) : Option (Int × GS) :=
  gg (inr a3) <|
  if a3 < 0 then (
    some (0, S)
  ) else (
    gg (inr a2) <|
    gv (min a2 99) fun x4 =>
    rec d 19 S [a1, a2, a3, x4]
  )
def b_X5_countPairs_19 (n d : Nat) (rec : Nat → Nat → GS → List Int → Option (Int × GS)) (S : GS) (a1 : Int) (a2 : Int) (a3 : Int) (a4 : Int) : Option (Int × GS) :=
  gg (inr a4) <|
  if a4 < 0 then (
    gv (a3 + (-1)) fun x3 =>
    rec d 7 S [a1, a2, x3]
  ) else (
    gv (a3 + 1) fun x5 =>
    gg (1 ≤ d) <|
    gc (f_X5_pairsFrom n (d - 1) 0 S [x5, a4]) fun x8 S_9 =>
    gv (a4 + 1) fun x11 =>
    gc (f_X5_pairsFrom n (d - 1) 0 S_9 [a3, x11]) fun x13 S_14 =>
    gg (inr x8) <|
    gg (inr x13) <|
    gv (max x8 x13) fun x18 =>
    gg (inr a3) <|
    gg (inr a1) <|
    if a3 = a1 then (
      rec d 94 S_14 [a1, a2, a3, a4, 0]
    ) else (
      gg (inr a2) <|
      if a4 ≠ a2 then (
        gv (a3 * 100) fun x25 =>
        gv (x25 + a4) fun x27 =>
        gg (0 ≤ x27 ∧ x27 < ((10000 : Nat) : Int) ∧ x27 < 2147483648) <|
        gv (bi (S_14.2.1 478 (x27 : Int).toNat)) fun x30 =>
        gg (inr x30) <|
        if x30 = 0 then (
          rec d 94 S_14 [a1, a2, a3, a4, x18]
        ) else (
          gv (a3 + 1) fun x34 =>
          gv (a4 + 1) fun x36 =>
          gc (f_X5_pairsFrom n (d - 1) 0 S_14 [x34, x36]) fun x38 S_39 =>
          gv (x38 + 1) fun x41 =>
          rec d 94 S_39 [a1, a2, a3, a4, x41]
        )
      ) else (
        rec d 94 S_14 [a1, a2, a3, a4, 0]
      )
    )
  )
def b_X5_countPairs_94 (n d : Nat) (rec : Nat → Nat → GS → List Int → Option (Int × GS)) (S : GS) (a1 : Int) (a2 : Int) (a3 : Int) (a4 : Int) (a5 : Int) : Option (Int × GS) :=
  gv (a3 * 100) fun x1 =>
  gv (x1 + a4) fun x3 =>
  gg (0 ≤ x3 ∧ x3 < ((10000 : Nat) : Int) ∧ x3 < 2147483648) <|
  gv (gI S 479 (x3 : Int).toNat a5) fun S_6 =>
  gv (a4 + (-1)) fun x8 =>
  rec d 19 S_6 [a1, a2, a3, x8]
def f_X5_countPairs : Nat → Nat → Nat → GS → List Int → Option (Int × GS)
  | 0, _, _, _, _ => none
  | n + 1, d, pc, S, x => match pc, x with
    | 0, [a1, a2] => b_X5_countPairs_0 n d (f_X5_countPairs n) S a1 a2
    | 7, [a1, a2, a3] => b_X5_countPairs_7 n d (f_X5_countPairs n) S a1 a2 a3
    | 19, [a1, a2, a3, a4] => b_X5_countPairs_19 n d (f_X5_countPairs n) S a1 a2 a3 a4
    | 94, [a1, a2, a3, a4, a5] => b_X5_countPairs_94 n d (f_X5_countPairs n) S a1 a2 a3 a4 a5
    | _, _ => none
theorem e_X5_countPairs_0 {n d : Nat} {S : GS} {a1 : Int} {a2 : Int} : f_X5_countPairs (n + 1) d 0 S [a1, a2] = b_X5_countPairs_0 n d (f_X5_countPairs n) S a1 a2 := rfl
theorem e_X5_countPairs_7 {n d : Nat} {S : GS} {a1 : Int} {a2 : Int} {a3 : Int} : f_X5_countPairs (n + 1) d 7 S [a1, a2, a3] = b_X5_countPairs_7 n d (f_X5_countPairs n) S a1 a2 a3 := rfl
theorem e_X5_countPairs_19 {n d : Nat} {S : GS} {a1 : Int} {a2 : Int} {a3 : Int} {a4 : Int} : f_X5_countPairs (n + 1) d 19 S [a1, a2, a3, a4] = b_X5_countPairs_19 n d (f_X5_countPairs n) S a1 a2 a3 a4 := rfl
theorem e_X5_countPairs_94 {n d : Nat} {S : GS} {a1 : Int} {a2 : Int} {a3 : Int} {a4 : Int} {a5 : Int} : f_X5_countPairs (n + 1) d 94 S [a1, a2, a3, a4, a5] = b_X5_countPairs_94 n d (f_X5_countPairs n) S a1 a2 a3 a4 a5 := rfl

def b_X5_markPairs_0 (n d : Nat) (rec : Nat → Nat → GS → List Int → Option (Int × GS)) (S : GS) (a1 : Int) (a2 : Int) : Option (Int × GS) :=
  rec d 8 S [a1, a2, 0, 0, 0]
def b_X5_markPairs_8 (n d : Nat) (rec : Nat → Nat → GS → List Int → Option (Int × GS)) (S : GS) (a1 : Int) (a2 : Int) (a3 : Int) (a4 : Int) (a5 : Int) : Option (Int × GS) :=
  gg (inr a5) <|
  if 200 ≤ a5 then (
    some (0, S)
  ) else (
    gg (inr a3) <|
    gg (inr a1) <|
    if a1 ≤ a3 then (
      some (0, S)
    ) else (
      gg (inr a4) <|
      gg (inr a2) <|
      if a2 ≤ a4 then (
        some (0, S)
      ) else (
        if 100 ≤ a3 then (
          some (0, S)
        ) else (
          if 100 ≤ a4 then (
            some (0, S)
          ) else (
            gv (a3 * 100) fun x11 =>
            gv (x11 + a4) fun x13 =>
            gg (0 ≤ x13 ∧ x13 < ((10000 : Nat) : Int) ∧ x13 < 2147483648) <|
            gv (bi (S.2.1 478 (x13 : Int).toNat)) fun x16 =>
            gg (inr x16) <|
            if x16 = 0 then (
              gv (a3 + 1) fun x20 =>
              gg (1 ≤ d) <|
              gc (f_X5_pairsFrom n (d - 1) 0 S [x20, a4]) fun x23 S_24 =>
              gc (f_X5_pairsFrom n (d - 1) 0 S_24 [a3, a4]) fun x26 S_27 =>
              gg (inr x23) <|
              gg (inr x26) <|
              if x23 ≠ x26 then (
                gv (a4 + 1) fun x32 =>
                gv (a5 + 1) fun x34 =>
                rec d 8 S_27 [a1, a2, a3, x32, x34]
              ) else (
                gv (a3 + 1) fun x36 =>
                gv (a5 + 1) fun x38 =>
                rec d 8 S_27 [a1, a2, x36, a4, x38]
              )
            ) else (
              gg (0 ≤ a3 ∧ a3 < ((100 : Nat) : Int) ∧ a3 < 2147483648) <|
              gv (gI S 480 (a3 : Int).toNat (-1)) fun S_41 =>
              gg (0 ≤ a4 ∧ a4 < ((100 : Nat) : Int) ∧ a4 < 2147483648) <|
              gv (gI S_41 481 (a4 : Int).toNat (-1)) fun S_44 =>
              gv (a3 + 1) fun x46 =>
              gv (a4 + 1) fun x48 =>
              gv (a5 + 1) fun x50 =>
              rec d 8 S_44 [a1, a2, x46, x48, x50]
            )
          )
        )
      )
    )
  )
def f_X5_markPairs : Nat → Nat → Nat → GS → List Int → Option (Int × GS)
  | 0, _, _, _, _ => none
  | n + 1, d, pc, S, x => match pc, x with
    | 0, [a1, a2] => b_X5_markPairs_0 n d (f_X5_markPairs n) S a1 a2
    | 8, [a1, a2, a3, a4, a5] => b_X5_markPairs_8 n d (f_X5_markPairs n) S a1 a2 a3 a4 a5
    | _, _ => none
theorem e_X5_markPairs_0 {n d : Nat} {S : GS} {a1 : Int} {a2 : Int} : f_X5_markPairs (n + 1) d 0 S [a1, a2] = b_X5_markPairs_0 n d (f_X5_markPairs n) S a1 a2 := rfl
theorem e_X5_markPairs_8 {n d : Nat} {S : GS} {a1 : Int} {a2 : Int} {a3 : Int} {a4 : Int} {a5 : Int} : f_X5_markPairs (n + 1) d 8 S [a1, a2, a3, a4, a5] = b_X5_markPairs_8 n d (f_X5_markPairs n) S a1 a2 a3 a4 a5 := rfl

def b_X5_addAtPlace_0 (n d : Nat) (rec : Nat → Nat → GS → List Int → Option (Int × GS)) (S : GS) (a1 : Nat) (a2 : Int) (a3 : Int) : Option (Int × GS) :=
  gg (1 ≤ d) <|
  gc (f_X9_add n (d - 1) 0 S [((446 : Nat) : Int), 47]) fun x2 S_3 =>
  gc (f_X9_addNumber n (d - 1) 0 S_3 [((446 : Nat) : Int), a2]) fun x5 S_6 =>
  gv (S_6.2.2 477 5) fun z8 =>
  gv (S_6.2.2 477 7) fun z10 =>
  gc (f_X5_add n (d - 1) 0 S_6 [((z8 : Nat) : Int), ((a1 : Nat) : Int), ((446 : Nat) : Int), ((z10 : Nat) : Int), a3]) fun x12 S_13 =>
  some (0, S_13)
def f_X5_addAtPlace : Nat → Nat → Nat → GS → List Int → Option (Int × GS)
  | 0, _, _, _, _ => none
  | n + 1, d, pc, S, x => match pc, x with
    | 0, [a1, a2, a3] => b_X5_addAtPlace_0 n d (f_X5_addAtPlace n) S a1.toNat a2 a3
    | _, _ => none
theorem e_X5_addAtPlace_0 {n d : Nat} {S : GS} {a1 : Nat} {a2 : Int} {a3 : Int} : f_X5_addAtPlace (n + 1) d 0 S [((a1 : Nat) : Int), a2, a3] = b_X5_addAtPlace_0 n d (f_X5_addAtPlace n) S a1 a2 a3 := rfl

def b_X5_betweenRows_0 (n d : Nat) (rec : Nat → Nat → GS → List Int → Option (Int × GS)) (S : GS) (a1 : Int) (a2 : Int) : Option (Int × GS) :=
  gv (S.2.2 477 6) fun z1 =>
  gg (1 ≤ d) <|
  gc (f_X5_gather n (d - 1) 0 S [((z1 : Nat) : Int), a1, ((480 : Nat) : Int)]) fun x4 S_5 =>
  gv (S_5.2.2 477 7) fun z7 =>
  gc (f_X5_gather n (d - 1) 0 S_5 [((z7 : Nat) : Int), a2, ((481 : Nat) : Int)]) fun x9 S_10 =>
  gc (f_X5_matchAll n (d - 1) 0 S_10 [x4, x9]) fun x12 S_13 =>
  gc (f_X5_countPairs n (d - 1) 0 S_13 [x4, x9]) fun x15 S_16 =>
  gc (f_X5_markPairs n (d - 1) 0 S_16 [x4, x9]) fun x18 S_19 =>
  gc (f_X9_length n (d - 1) 0 S_19 [((446 : Nat) : Int)]) fun x21 S_22 =>
  gv (x4 - 1) fun x24 =>
  rec d 62 S_22 [x9, x21, x24]
def b_X5_betweenRows_62 (n d : Nat) (rec : Nat → Nat → GS → List Int → Option (Int × GS)) (S : GS) (a4 : Int) (a5 : Int) (a6 : Int) : Option (Int × GS) :=
  gg (inr a6) <|
  if a6 < 0 then (
    rec d 112 S [a4, a5, 0]
  ) else (
    if 100 ≤ a6 then (
      rec d 112 S [a4, a5, 0]
    ) else (
      gg (0 ≤ a6 ∧ a6 < ((100 : Nat) : Int) ∧ a6 < 2147483648) <|
      gv (S.1 480 (a6 : Int).toNat) fun x5 =>
      gg (inr x5) <|
      if x5 = (-1) then (
        gv (a6 + (-1)) fun x9 =>
        rec d 62 S [a4, a5, x9]
      ) else (
        gg (1 ≤ d) <|
        gc (f_X5_addAtPlace n (d - 1) 0 S [((25 : Nat) : Int), a6, (-1)]) fun x12 S_13 =>
        gc (f_X9_shorten n (d - 1) 0 S_13 [((446 : Nat) : Int), a5]) fun x15 S_16 =>
        gv (a6 + (-1)) fun x18 =>
        rec d 62 S_16 [a4, a5, x18]
      )
    )
  )
def b_X5_betweenRows_112 (n d : Nat) (rec : Nat → Nat → GS → List Int → Option (Int × GS)) (S : GS) (a4 : Int) (a5 : Int) (a6 : Int) : Option (Int × GS) :=
  gg (inr a6) <|
  gg (inr a4) <|
  if a4 ≤ a6 then (
    some (0, S)
  ) else (
    if 100 ≤ a6 then (
      some (0, S)
    ) else (
      gg (0 ≤ a6 ∧ a6 < ((100 : Nat) : Int) ∧ a6 < 2147483648) <|
      gv (S.1 481 (a6 : Int).toNat) fun x6 =>
      gg (inr x6) <|
      if x6 = (-1) then (
        gv (a6 + 1) fun x10 =>
        rec d 112 S [a4, a5, x10]
      ) else (
        gv (S.1 481 (a6 : Int).toNat) fun x12 =>
        gg (1 ≤ d) <|
        gc (f_X5_addAtPlace n (d - 1) 0 S [((26 : Nat) : Int), a6, x12]) fun x15 S_16 =>
        gc (f_X9_shorten n (d - 1) 0 S_16 [((446 : Nat) : Int), a5]) fun x18 S_19 =>
        gv (a6 + 1) fun x21 =>
        rec d 112 S_19 [a4, a5, x21]
      )
    )
  )
def f_X5_betweenRows : Nat → Nat → Nat → GS → List Int → Option (Int × GS)
  | 0, _, _, _, _ => none
  | n + 1, d, pc, S, x => match pc, x with
    | 0, [a1, a2] => b_X5_betweenRows_0 n d (f_X5_betweenRows n) S a1 a2
    | 62, [a4, a5, a6] => b_X5_betweenRows_62 n d (f_X5_betweenRows n) S a4 a5 a6
    | 112, [a4, a5, a6] => b_X5_betweenRows_112 n d (f_X5_betweenRows n) S a4 a5 a6
    | _, _ => none
theorem e_X5_betweenRows_0 {n d : Nat} {S : GS} {a1 : Int} {a2 : Int} : f_X5_betweenRows (n + 1) d 0 S [a1, a2] = b_X5_betweenRows_0 n d (f_X5_betweenRows n) S a1 a2 := rfl
theorem e_X5_betweenRows_62 {n d : Nat} {S : GS} {a4 : Int} {a5 : Int} {a6 : Int} : f_X5_betweenRows (n + 1) d 62 S [a4, a5, a6] = b_X5_betweenRows_62 n d (f_X5_betweenRows n) S a4 a5 a6 := rfl
theorem e_X5_betweenRows_112 {n d : Nat} {S : GS} {a4 : Int} {a5 : Int} {a6 : Int} : f_X5_betweenRows (n + 1) d 112 S [a4, a5, a6] = b_X5_betweenRows_112 n d (f_X5_betweenRows n) S a4 a5 a6 := rfl

def b_X5_between_0 (n d : Nat) (rec : Nat → Nat → GS → List Int → Option (Int × GS)) (S : GS) (a1 : Int) (a2 : Int) (a3 : Int) : Option (Int × GS) :=
  gv (S.2.2 477 6) fun z1 =>
  gv (S.2.2 477 7) fun z3 =>
  gg (1 ≤ d) <|
  gg (gT z1) <|
  gc (f_X10_same n (d - 1) 0 S [((z1 : Nat) : Int), a1, ((z3 : Nat) : Int), a2, 0]) fun x7 S_8 =>
  gg (inr x7) <|
  if x7 ≠ 0 then (
    some (0, S_8)
  ) else (
    gg (inr a3) <|
    if a3 ≤ 12 then (
      gv (S_8.2.2 477 6) fun z14 =>
      gg (gT z14) <|
      gc (f_X10_is n (d - 1) 0 S_8 [((z14 : Nat) : Int), a1, 5]) fun x17 S_18 =>
      gg (inr x17) <|
      if x17 = 0 then (
        rec d 58 S_18 [a1, a2]
      ) else (
        gv (S_18.2.2 477 7) fun z22 =>
        gg (gT z22) <|
        gc (f_X10_is n (d - 1) 0 S_18 [((z22 : Nat) : Int), a2, 5]) fun x25 S_26 =>
        gg (inr x25) <|
        if x25 = 0 then (
          rec d 58 S_26 [a1, a2]
        ) else (
          gc (rec (d - 1) 10000 S_26 [a1, a2, a3]) fun x30 S_31 =>
          some (0, S_31)
        )
      )
    ) else (
      some (0, S_8)
    )
  )
def b_X5_between_58 (n d : Nat) (rec : Nat → Nat → GS → List Int → Option (Int × GS)) (S : GS) (a1 : Int) (a2 : Int) : Option (Int × GS) :=
  gv (S.2.2 477 6) fun z1 =>
  gg (1 ≤ d) <|
  gg (gT z1) <|
  gc (f_X10_is n (d - 1) 0 S [((z1 : Nat) : Int), a1, 4]) fun x5 S_6 =>
  gg (inr x5) <|
  if x5 = 0 then (
    rec d 91 S_6 [a2]
  ) else (
    gv (S_6.2.2 477 7) fun z10 =>
    gg (gT z10) <|
    gc (f_X10_is n (d - 1) 0 S_6 [((z10 : Nat) : Int), a2, 4]) fun x13 S_14 =>
    gg (inr x13) <|
    if x13 = 0 then (
      rec d 91 S_14 [a2]
    ) else (
      gc (f_X5_betweenRows n (d - 1) 0 S_14 [a1, a2]) fun x18 S_19 =>
      some (0, S_19)
    )
  )
def b_X5_between_91 (n d : Nat) (rec : Nat → Nat → GS → List Int → Option (Int × GS)) (S : GS) (a2 : Int) : Option (Int × GS) :=
  gv (S.2.2 477 5) fun z1 =>
  gv (S.2.2 477 7) fun z3 =>
  gg (1 ≤ d) <|
  gc (f_X5_add n (d - 1) 0 S [((z1 : Nat) : Int), ((21 : Nat) : Int), ((446 : Nat) : Int), ((z3 : Nat) : Int), a2]) fun x6 S_7 =>
  some (0, S_7)
def b_X5_betweenMaps_0 (n d : Nat) (rec : Nat → Nat → GS → List Int → Option (Int × GS)) (S : GS) (a1 : Int) (a2 : Int) (a3 : Int) : Option (Int × GS) :=
  gg (1 ≤ d) <|
  gc (f_X9_length n (d - 1) 0 S [((446 : Nat) : Int)]) fun x2 S_3 =>
  gv (S_3.2.2 477 6) fun z5 =>
  gg (gT z5) <|
  gc (f_X10_first n (d - 1) 0 S_3 [((z5 : Nat) : Int), a1]) fun x8 S_9 =>
  rec d 10022 S_9 [a1, a2, a3, x2, x8, 0]
def b_X5_betweenMaps_22 (n d : Nat) (rec : Nat → Nat → GS → List Int → Option (Int × GS)) (S : GS) (a1 : Int) (a2 : Int) (a3 : Int) (a4 : Int) (a5 : Int) (a6 : Int) : Option (Int × GS) :=
  gg (inr a5) <|
  if a5 = (-1) then (
    gv (S.2.2 477 6) fun z3 =>
    gg (1 ≤ d) <|
    gg (gT z3) <|
    gc (f_X10_first n (d - 1) 0 S [((z3 : Nat) : Int), a1]) fun x7 S_8 =>
    rec d 10124 S_8 [a1, a2, a3, a4, x7, 0]
  ) else (
    gg (inr a6) <|
    if 100 ≤ a6 then (
      gv (S.2.2 477 6) fun z12 =>
      gg (1 ≤ d) <|
      gg (gT z12) <|
      gc (f_X10_first n (d - 1) 0 S [((z12 : Nat) : Int), a1]) fun x16 S_17 =>
      rec d 10124 S_17 [a1, a2, a3, a4, x16, 0]
    ) else (
      gv (S.2.2 477 7) fun z19 =>
      gv (S.2.2 477 6) fun z21 =>
      gg (1 ≤ d) <|
      gg (gT z19) <|
      gc (f_X10_valueLike n (d - 1) 0 S [((z19 : Nat) : Int), a2, ((z21 : Nat) : Int), a5]) fun x25 S_26 =>
      gg (inr x25) <|
      if x25 ≠ (-1) then (
        rec d 10093 S_26 [a1, a2, a3, a4, a5, a6]
      ) else (
        gv (S_26.2.2 477 6) fun z30 =>
        gg (gT z30) <|
        gc (f_X10_stepTo n (d - 1) 0 S_26 [((z30 : Nat) : Int), a5, ((446 : Nat) : Int)]) fun x33 S_34 =>
        gv (S_34.2.2 477 5) fun z36 =>
        gv (S_34.2.2 477 6) fun z38 =>
        gc (f_X5_add n (d - 1) 0 S_34 [((z36 : Nat) : Int), ((25 : Nat) : Int), ((446 : Nat) : Int), ((z38 : Nat) : Int), (-1)]) fun x40 S_41 =>
        gc (f_X9_shorten n (d - 1) 0 S_41 [((446 : Nat) : Int), a4]) fun x43 S_44 =>
        rec d 10093 S_44 [a1, a2, a3, a4, a5, a6]
      )
    )
  )
def b_X5_betweenMaps_93 (n d : Nat) (rec : Nat → Nat → GS → List Int → Option (Int × GS)) (S : GS) (a1 : Int) (a2 : Int) (a3 : Int) (a4 : Int) (a5 : Int) (a6 : Int) : Option (Int × GS) :=
  gv (S.2.2 477 6) fun z1 =>
  gg (1 ≤ d) <|
  gg (gT z1) <|
  gc (f_X10_next n (d - 1) 0 S [((z1 : Nat) : Int), a1, a5]) fun x5 S_6 =>
  gv (a6 + 1) fun x8 =>
  rec d 10022 S_6 [a1, a2, a3, a4, x5, x8]
def b_X5_betweenMaps_124 (n d : Nat) (rec : Nat → Nat → GS → List Int → Option (Int × GS)) (S : GS) (a1 : Int) (a2 : Int) (a3 : Int) (a4 : Int) (a5 : Int) (a6 : Int) : Option (Int × GS) :=
  gg (inr a5) <|
  if a5 = (-1) then (
    gv (S.2.2 477 7) fun z3 =>
    gg (1 ≤ d) <|
    gg (gT z3) <|
    gc (f_X10_first n (d - 1) 0 S [((z3 : Nat) : Int), a2]) fun x7 S_8 =>
    rec d 10223 S_8 [a1, a2, a4, x7, 0]
  ) else (
    gg (inr a6) <|
    if 100 ≤ a6 then (
      gv (S.2.2 477 7) fun z12 =>
      gg (1 ≤ d) <|
      gg (gT z12) <|
      gc (f_X10_first n (d - 1) 0 S [((z12 : Nat) : Int), a2]) fun x16 S_17 =>
      rec d 10223 S_17 [a1, a2, a4, x16, 0]
    ) else (
      gv (S.2.2 477 7) fun z19 =>
      gv (S.2.2 477 6) fun z21 =>
      gg (1 ≤ d) <|
      gg (gT z19) <|
      gc (f_X10_valueLike n (d - 1) 0 S [((z19 : Nat) : Int), a2, ((z21 : Nat) : Int), a5]) fun x25 S_26 =>
      gg (inr x25) <|
      if x25 = (-1) then (
        rec d 10192 S_26 [a1, a2, a3, a4, a5, a6]
      ) else (
        gv (S_26.2.2 477 6) fun z30 =>
        gg (gT z30) <|
        gc (f_X10_stepTo n (d - 1) 0 S_26 [((z30 : Nat) : Int), a5, ((446 : Nat) : Int)]) fun x33 S_34 =>
        gv (a3 + 1) fun x36 =>
        gc (rec (d - 1) 0 S_34 [a5, x25, x36]) fun x38 S_39 =>
        gc (f_X9_shorten n (d - 1) 0 S_39 [((446 : Nat) : Int), a4]) fun x41 S_42 =>
        rec d 10192 S_42 [a1, a2, a3, a4, a5, a6]
      )
    )
  )
def b_X5_betweenMaps_192 (n d : Nat) (rec : Nat → Nat → GS → List Int → Option (Int × GS)) (S : GS) (a1 : Int) (a2 : Int) (a3 : Int) (a4 : Int) (a5 : Int) (a6 : Int) : Option (Int × GS) :=
  gv (S.2.2 477 6) fun z1 =>
  gg (1 ≤ d) <|
  gg (gT z1) <|
  gc (f_X10_next n (d - 1) 0 S [((z1 : Nat) : Int), a1, a5]) fun x5 S_6 =>
  gv (a6 + 1) fun x8 =>
  rec d 10124 S_6 [a1, a2, a3, a4, x5, x8]
def b_X5_betweenMaps_223 (n d : Nat) (rec : Nat → Nat → GS → List Int → Option (Int × GS)) (S : GS) (a1 : Int) (a2 : Int) (a4 : Int) (a5 : Int) (a6 : Int) : Option (Int × GS) :=
  gg (inr a5) <|
  if a5 = (-1) then (
    some (0, S)
  ) else (
    gg (inr a6) <|
    if 100 ≤ a6 then (
      some (0, S)
    ) else (
      gv (S.2.2 477 6) fun z5 =>
      gv (S.2.2 477 7) fun z7 =>
      gg (1 ≤ d) <|
      gg (gT z5) <|
      gc (f_X10_valueLike n (d - 1) 0 S [((z5 : Nat) : Int), a1, ((z7 : Nat) : Int), a5]) fun x11 S_12 =>
      gg (inr x11) <|
      if x11 ≠ (-1) then (
        rec d 10295 S_12 [a1, a2, a4, a5, a6]
      ) else (
        gv (S_12.2.2 477 7) fun z16 =>
        gg (gT z16) <|
        gc (f_X10_stepTo n (d - 1) 0 S_12 [((z16 : Nat) : Int), a5, ((446 : Nat) : Int)]) fun x19 S_20 =>
        gv (S_20.2.2 477 5) fun z22 =>
        gv (S_20.2.2 477 7) fun z24 =>
        gc (f_X5_add n (d - 1) 0 S_20 [((z22 : Nat) : Int), ((26 : Nat) : Int), ((446 : Nat) : Int), ((z24 : Nat) : Int), a5]) fun x26 S_27 =>
        gc (f_X9_shorten n (d - 1) 0 S_27 [((446 : Nat) : Int), a4]) fun x29 S_30 =>
        rec d 10295 S_30 [a1, a2, a4, a5, a6]
      )
    )
  )
def b_X5_betweenMaps_295 (n d : Nat) (rec : Nat → Nat → GS → List Int → Option (Int × GS)) (S : GS) (a1 : Int) (a2 : Int) (a4 : Int) (a5 : Int) (a6 : Int) : Option (Int × GS) :=
  gv (S.2.2 477 7) fun z1 =>
  gg (1 ≤ d) <|
  gg (gT z1) <|
  gc (f_X10_next n (d - 1) 0 S [((z1 : Nat) : Int), a2, a5]) fun x5 S_6 =>
  gv (a6 + 1) fun x8 =>
  rec d 10223 S_6 [a1, a2, a4, x5, x8]
def f_X5_between : Nat → Nat → Nat → GS → List Int → Option (Int × GS)
  | 0, _, _, _, _ => none
  | n + 1, d, pc, S, x => match pc, x with
    | 0, [a1, a2, a3] => b_X5_between_0 n d (f_X5_between n) S a1 a2 a3
    | 58, [a1, a2] => b_X5_between_58 n d (f_X5_between n) S a1 a2
    | 91, [a2] => b_X5_between_91 n d (f_X5_between n) S a2
    | 10000, [a1, a2, a3] => b_X5_betweenMaps_0 n d (f_X5_between n) S a1 a2 a3
    | 10022, [a1, a2, a3, a4, a5, a6] => b_X5_betweenMaps_22 n d (f_X5_between n) S a1 a2 a3 a4 a5 a6
    | 10093, [a1, a2, a3, a4, a5, a6] => b_X5_betweenMaps_93 n d (f_X5_between n) S a1 a2 a3 a4 a5 a6
    | 10124, [a1, a2, a3, a4, a5, a6] => b_X5_betweenMaps_124 n d (f_X5_between n) S a1 a2 a3 a4 a5 a6
    | 10192, [a1, a2, a3, a4, a5, a6] => b_X5_betweenMaps_192 n d (f_X5_between n) S a1 a2 a3 a4 a5 a6
    | 10223, [a1, a2, a4, a5, a6] => b_X5_betweenMaps_223 n d (f_X5_between n) S a1 a2 a4 a5 a6
    | 10295, [a1, a2, a4, a5, a6] => b_X5_betweenMaps_295 n d (f_X5_between n) S a1 a2 a4 a5 a6
    | _, _ => none
theorem e_X5_between_0 {n d : Nat} {S : GS} {a1 : Int} {a2 : Int} {a3 : Int} : f_X5_between (n + 1) d 0 S [a1, a2, a3] = b_X5_between_0 n d (f_X5_between n) S a1 a2 a3 := rfl
theorem e_X5_between_58 {n d : Nat} {S : GS} {a1 : Int} {a2 : Int} : f_X5_between (n + 1) d 58 S [a1, a2] = b_X5_between_58 n d (f_X5_between n) S a1 a2 := rfl
theorem e_X5_between_91 {n d : Nat} {S : GS} {a2 : Int} : f_X5_between (n + 1) d 91 S [a2] = b_X5_between_91 n d (f_X5_between n) S a2 := rfl
theorem e_X5_betweenMaps_0 {n d : Nat} {S : GS} {a1 : Int} {a2 : Int} {a3 : Int} : f_X5_between (n + 1) d 10000 S [a1, a2, a3] = b_X5_betweenMaps_0 n d (f_X5_between n) S a1 a2 a3 := rfl
theorem e_X5_betweenMaps_22 {n d : Nat} {S : GS} {a1 : Int} {a2 : Int} {a3 : Int} {a4 : Int} {a5 : Int} {a6 : Int} : f_X5_between (n + 1) d 10022 S [a1, a2, a3, a4, a5, a6] = b_X5_betweenMaps_22 n d (f_X5_between n) S a1 a2 a3 a4 a5 a6 := rfl
theorem e_X5_betweenMaps_93 {n d : Nat} {S : GS} {a1 : Int} {a2 : Int} {a3 : Int} {a4 : Int} {a5 : Int} {a6 : Int} : f_X5_between (n + 1) d 10093 S [a1, a2, a3, a4, a5, a6] = b_X5_betweenMaps_93 n d (f_X5_between n) S a1 a2 a3 a4 a5 a6 := rfl
theorem e_X5_betweenMaps_124 {n d : Nat} {S : GS} {a1 : Int} {a2 : Int} {a3 : Int} {a4 : Int} {a5 : Int} {a6 : Int} : f_X5_between (n + 1) d 10124 S [a1, a2, a3, a4, a5, a6] = b_X5_betweenMaps_124 n d (f_X5_between n) S a1 a2 a3 a4 a5 a6 := rfl
theorem e_X5_betweenMaps_192 {n d : Nat} {S : GS} {a1 : Int} {a2 : Int} {a3 : Int} {a4 : Int} {a5 : Int} {a6 : Int} : f_X5_between (n + 1) d 10192 S [a1, a2, a3, a4, a5, a6] = b_X5_betweenMaps_192 n d (f_X5_between n) S a1 a2 a3 a4 a5 a6 := rfl
theorem e_X5_betweenMaps_223 {n d : Nat} {S : GS} {a1 : Int} {a2 : Int} {a4 : Int} {a5 : Int} {a6 : Int} : f_X5_between (n + 1) d 10223 S [a1, a2, a4, a5, a6] = b_X5_betweenMaps_223 n d (f_X5_between n) S a1 a2 a4 a5 a6 := rfl
theorem e_X5_betweenMaps_295 {n d : Nat} {S : GS} {a1 : Int} {a2 : Int} {a4 : Int} {a5 : Int} {a6 : Int} : f_X5_between (n + 1) d 10295 S [a1, a2, a4, a5, a6] = b_X5_betweenMaps_295 n d (f_X5_between n) S a1 a2 a4 a5 a6 := rfl

def b_X5_listTo_0 (n d : Nat) (rec : Nat → Nat → GS → List Int → Option (Int × GS)) (S : GS) (a1 : Nat) (a2 : Nat) (a3 : Nat) : Option (Int × GS) :=
  gv (gR S 477 6 a1) fun S_1 =>
  gv (gR S_1 477 7 a2) fun S_3 =>
  gv (gR S_3 477 5 a3) fun S_5 =>
  gg (1 ≤ d) <|
  gc (f_X9_clear n (d - 1) 0 S_5 [((446 : Nat) : Int)]) fun x8 S_9 =>
  gv (S_9.2.2 477 5) fun z11 =>
  gg (gT z11) <|
  gc (f_X10_clear n (d - 1) 0 S_9 [((z11 : Nat) : Int)]) fun x14 S_15 =>
  gv (S_15.2.2 477 5) fun z17 =>
  gg (gT z17) <|
  gc (f_X10_add n (d - 1) 0 S_15 [((z17 : Nat) : Int), 4]) fun x20 S_21 =>
  gc (f_X5_between n (d - 1) 0 S_21 [0, 0, 0]) fun x23 S_24 =>
  gv (S_24.2.2 477 5) fun z26 =>
  gg (gT z26) <|
  gc (f_X10_close n (d - 1) 0 S_24 [((z26 : Nat) : Int), x20]) fun x29 S_30 =>
  some (0, S_30)
def f_X5_listTo : Nat → Nat → Nat → GS → List Int → Option (Int × GS)
  | 0, _, _, _, _ => none
  | n + 1, d, pc, S, x => match pc, x with
    | 0, [a1, a2, a3] => b_X5_listTo_0 n d (f_X5_listTo n) S a1.toNat a2.toNat a3.toNat
    | _, _ => none
theorem e_X5_listTo_0 {n d : Nat} {S : GS} {a1 : Nat} {a2 : Nat} {a3 : Nat} : f_X5_listTo (n + 1) d 0 S [((a1 : Nat) : Int), ((a2 : Nat) : Int), ((a3 : Nat) : Int)] = b_X5_listTo_0 n d (f_X5_listTo n) S a1 a2 a3 := rfl

def b_X11_patch_0 (n d : Nat) (rec : Nat → Nat → GS → List Int → Option (Int × GS)) (S : GS) (a1 : Int) (a2 : Int) : Option (Int × GS) :=
  gg (1 ≤ d) <|
  gc (f_X11_document n (d - 1) 0 S [a1]) fun x2 S_3 =>
  if x2 < exB then (
  gc (f_X11_document n (d - 1) 0 S_3 [a2]) fun x6 S_7 =>
  if x6 < exB then (
  gc (f_X5_listTo n (d - 1) 0 S_7 [((x2.toNat : Nat) : Int), ((x6.toNat : Nat) : Int), ((320 : Nat) : Int)]) fun x10 S_11 =>
  gc (f_X11_admit n (d - 1) 0 S_11 [((320 : Nat) : Int)]) fun x13 S_14 =>
  if x13 < exB then (
  gg (x13 < exB) <|
  some (x13, S_14)
  ) else some (x13, S_14)
  ) else some (x6, S_7)
  ) else some (x2, S_3)
def f_X11_patch : Nat → Nat → Nat → GS → List Int → Option (Int × GS)
  | 0, _, _, _, _ => none
  | n + 1, d, pc, S, x => match pc, x with
    | 0, [a1, a2] => b_X11_patch_0 n d (f_X11_patch n) S a1 a2
    | _, _ => none
theorem e_X11_patch_0 {n d : Nat} {S : GS} {a1 : Int} {a2 : Int} : f_X11_patch (n + 1) d 0 S [a1, a2] = b_X11_patch_0 n d (f_X11_patch n) S a1 a2 := rfl

def b_X11_print_0 (n d : Nat) (rec : Nat → Nat → GS → List Int → Option (Int × GS)) (S : GS) (a1 : Int) (a2 : Int) : Option (Int × GS) :=
  gg (1 ≤ d) <|
  gc (f_X11_document n (d - 1) 0 S [a1]) fun x2 S_3 =>
  if x2 < exB then (
  gg (inr a2) <|
  if a2 < 0 then (
    some (exB + 1, S_3)
  ) else (
    if a2 ≤ 2 then (
      gc (f_X9_clear n (d - 1) 0 S_3 [((426 : Nat) : Int)]) fun x9 S_10 =>
      gc (f_X8_group n (d - 1) 10000 S_10 [((x2.toNat : Nat) : Int), 0, a2, 0, ((426 : Nat) : Int)]) fun x12 S_13 =>
      gc (f_X9_length n (d - 1) 0 S_13 [((426 : Nat) : Int)]) fun x15 S_16 =>
      gg (x15 < exB) <|
      some (x15, S_16)
    ) else (
      some (exB + 1, S_3)
    )
  )
  ) else some (x2, S_3)
def f_X11_print : Nat → Nat → Nat → GS → List Int → Option (Int × GS)
  | 0, _, _, _, _ => none
  | n + 1, d, pc, S, x => match pc, x with
    | 0, [a1, a2] => b_X11_print_0 n d (f_X11_print n) S a1 a2
    | _, _ => none
theorem e_X11_print_0 {n d : Nat} {S : GS} {a1 : Int} {a2 : Int} : f_X11_print (n + 1) d 0 S [a1, a2] = b_X11_print_0 n d (f_X11_print n) S a1 a2 := rfl

def b_X4_count_0 (n d : Nat) (rec : Nat → Nat → GS → List Int → Option (Int × GS)) (S : GS) : Option (Int × GS) :=
  gv (S.1 485 7) fun x1 =>
  some (x1, S)
def f_X4_count : Nat → Nat → Nat → GS → List Int → Option (Int × GS)
  | 0, _, _, _, _ => none
  | n + 1, d, pc, S, x => match pc, x with
    | 0, [] => b_X4_count_0 n d (f_X4_count n) S 
    | _, _ => none
theorem e_X4_count_0 {n d : Nat} {S : GS} : f_X4_count (n + 1) d 0 S [] = b_X4_count_0 n d (f_X4_count n) S  := rfl

def b_X11_quarrels_0 (n d : Nat) (rec : Nat → Nat → GS → List Int → Option (Int × GS)) (S : GS) : Option (Int × GS) :=
  gg (1 ≤ d) <|
  gc (f_X4_count n (d - 1) 0 S []) fun x2 S_3 =>
  some (x2, S_3)
def f_X11_quarrels : Nat → Nat → Nat → GS → List Int → Option (Int × GS)
  | 0, _, _, _, _ => none
  | n + 1, d, pc, S, x => match pc, x with
    | 0, [] => b_X11_quarrels_0 n d (f_X11_quarrels n) S 
    | _, _ => none
theorem e_X11_quarrels_0 {n d : Nat} {S : GS} : f_X11_quarrels (n + 1) d 0 S [] = b_X11_quarrels_0 n d (f_X11_quarrels n) S  := rfl

def b_X11_read_0 (n d : Nat) (rec : Nat → Nat → GS → List Int → Option (Int × GS)) (S : GS) : Option (Int × GS) :=
  gv (S.1 468 14) fun x1 =>
  gg (inr x1) <|
  if x1 < 40 then (
    gv (S.1 468 15) fun x5 =>
    gg (1 ≤ d) <|
    gc (f_X6_parse n (d - 1) 0 S [((424 : Nat) : Int), x5]) fun x8 S_9 =>
    gc (f_X9_clear n (d - 1) 0 S_9 [((424 : Nat) : Int)]) fun x11 S_12 =>
    gg (inr x8) <|
    if x8 = (-1) then (
      gc (f_X6_result n (d - 1) 0 S_12 []) fun x16 S_17 =>
      gc (f_X11_admit n (d - 1) 0 S_17 [((x16.toNat : Nat) : Int)]) fun x19 S_20 =>
      if x19 < exB then (
      gg (x19 < exB) <|
      some (x19, S_20)
      ) else some (x19, S_20)
    ) else (
      gv ((-2) - x8) fun x24 =>
      gg (x24 < exB) <|
      some (x24, S_12)
    )
  ) else (
    some (exB + 2, S)
  )
def f_X11_read : Nat → Nat → Nat → GS → List Int → Option (Int × GS)
  | 0, _, _, _, _ => none
  | n + 1, d, pc, S, x => match pc, x with
    | 0, [] => b_X11_read_0 n d (f_X11_read n) S 
    | _, _ => none
theorem e_X11_read_0 {n d : Nat} {S : GS} : f_X11_read (n + 1) d 0 S [] = b_X11_read_0 n d (f_X11_read n) S  := rfl

def b_X2_begin_0 (n d : Nat) (rec : Nat → Nat → GS → List Int → Option (Int × GS)) (S : GS) : Option (Int × GS) :=
  gv (gI S 473 6 0) fun S_1 =>
  rec d 7 S_1 [0]
def b_X2_begin_7 (n d : Nat) (rec : Nat → Nat → GS → List Int → Option (Int × GS)) (S : GS) (a1 : Int) : Option (Int × GS) :=
  gg (inr a1) <|
  if 100 ≤ a1 then (
    some (0, S)
  ) else (
    gg (0 ≤ a1 ∧ a1 < ((100 : Nat) : Int) ∧ a1 < 2147483648) <|
    gv (gB S 476 (a1 : Int).toNat (decide ((0 : Int) = 1))) fun S_4 =>
    gv (a1 + 1) fun x6 =>
    rec d 7 S_4 [x6]
  )
def f_X2_begin : Nat → Nat → Nat → GS → List Int → Option (Int × GS)
  | 0, _, _, _, _ => none
  | n + 1, d, pc, S, x => match pc, x with
    | 0, [] => b_X2_begin_0 n d (f_X2_begin n) S 
    | 7, [a1] => b_X2_begin_7 n d (f_X2_begin n) S a1
    | _, _ => none
theorem e_X2_begin_0 {n d : Nat} {S : GS} : f_X2_begin (n + 1) d 0 S [] = b_X2_begin_0 n d (f_X2_begin n) S  := rfl
theorem e_X2_begin_7 {n d : Nat} {S : GS} {a1 : Int} : f_X2_begin (n + 1) d 7 S [a1] = b_X2_begin_7 n d (f_X2_begin n) S a1 := rfl

def b_X2_meet_0 (n d : Nat) (rec : Nat → Nat → GS → List Int → Option (Int × GS)) (S : GS) (a1 : Int) : Option (Int × GS) :=
  gg (inr a1) <|
  if a1 < 0 then (
    some (0, S)
  ) else (
    if 100 ≤ a1 then (
      some (0, S)
    ) else (
      gv (S.1 473 6) fun x4 =>
      gg (inr x4) <|
      if x4 < 0 then (
        some (0, S)
      ) else (
        gv (S.1 473 6) fun x8 =>
        gg (inr x8) <|
        if 100 ≤ x8 then (
          some (0, S)
        ) else (
          gg (0 ≤ a1 ∧ a1 < ((100 : Nat) : Int) ∧ a1 < 2147483648) <|
          gv (bi (S.2.1 476 (a1 : Int).toNat)) fun x13 =>
          gg (inr x13) <|
          if x13 ≠ 0 then (
            some (0, S)
          ) else (
            gv (gB S 476 (a1 : Int).toNat (decide ((1 : Int) = 1))) fun S_17 =>
            gv (S_17.1 473 6) fun x19 =>
            gg (0 ≤ x19 ∧ x19 < ((100 : Nat) : Int) ∧ x19 < 2147483648) <|
            gv (gI S_17 474 (x19 : Int).toNat a1) fun S_22 =>
            gv (S_22.1 473 6) fun x24 =>
            gv (x24 + 1) fun x26 =>
            gv (gI S_22 473 6 x26) fun S_28 =>
            some (0, S_28)
          )
        )
      )
    )
  )
def f_X2_meet : Nat → Nat → Nat → GS → List Int → Option (Int × GS)
  | 0, _, _, _, _ => none
  | n + 1, d, pc, S, x => match pc, x with
    | 0, [a1] => b_X2_meet_0 n d (f_X2_meet n) S a1
    | _, _ => none
theorem e_X2_meet_0 {n d : Nat} {S : GS} {a1 : Int} : f_X2_meet (n + 1) d 0 S [a1] = b_X2_meet_0 n d (f_X2_meet n) S a1 := rfl

def b_X9_placeOf_0 (n d : Nat) (rec : Nat → Nat → GS → List Int → Option (Int × GS)) (S : GS) (a0 : Nat) (a1 : Int) : Option (Int × GS) :=
  rec d 2 S [((a0 : Nat) : Int), a1, 0]
def b_X9_placeOf_2 (n d : Nat) (rec : Nat → Nat → GS → List Int → Option (Int × GS)) (S : GS) (a0 : Nat) (a1 : Int) (a2 : Int) : Option (Int × GS) :=
  gg (gSh (a0)) <|
  gv (S.1 a0 1) fun x2 =>
  gg (inr a2) <|
  gg (inr x2) <|
  if x2 ≤ a2 then (
    some ((-1), S)
  ) else (
    gg (1 ≤ d) <|
    gc (f_X9_at n (d - 1) 0 S [((a0 : Nat) : Int), a2]) fun x8 S_9 =>
    gg (inr x8) <|
    gg (inr a1) <|
    if x8 ≠ a1 then (
      gv (a2 + 1) fun x14 =>
      rec d 2 S_9 [((a0 : Nat) : Int), a1, x14]
    ) else (
      some (a2, S_9)
    )
  )
def f_X9_placeOf : Nat → Nat → Nat → GS → List Int → Option (Int × GS)
  | 0, _, _, _, _ => none
  | n + 1, d, pc, S, x => match pc, x with
    | 0, [a0, a1] => b_X9_placeOf_0 n d (f_X9_placeOf n) S a0.toNat a1
    | 2, [a0, a1, a2] => b_X9_placeOf_2 n d (f_X9_placeOf n) S a0.toNat a1 a2
    | _, _ => none
theorem e_X9_placeOf_0 {n d : Nat} {S : GS} {a0 : Nat} {a1 : Int} : f_X9_placeOf (n + 1) d 0 S [((a0 : Nat) : Int), a1] = b_X9_placeOf_0 n d (f_X9_placeOf n) S a0 a1 := rfl
theorem e_X9_placeOf_2 {n d : Nat} {S : GS} {a0 : Nat} {a1 : Int} {a2 : Int} : f_X9_placeOf (n + 1) d 2 S [((a0 : Nat) : Int), a1, a2] = b_X9_placeOf_2 n d (f_X9_placeOf n) S a0 a1 a2 := rfl

def b_X9_endsWith_0 (n d : Nat) (rec : Nat → Nat → GS → List Int → Option (Int × GS)) (S : GS) (a0 : Nat) (a1 : Nat) (a2 : Int) : Option (Int × GS) :=
  gg (gSh (a0)) <|
  gv (S.1 a0 1) fun x2 =>
  gv (x2 - a2) fun x4 =>
  gg (1 ≤ d) <|
  gg (gSh (a1)) <|
  gc (f_X9_length n (d - 1) 0 S [((a1 : Nat) : Int)]) fun x8 S_9 =>
  gg (inr x4) <|
  gg (inr x8) <|
  if x4 ≠ x8 then (
    rec d 22 S_9 [((a0 : Nat) : Int), ((a1 : Nat) : Int), a2, 0, 0]
  ) else (
    rec d 22 S_9 [((a0 : Nat) : Int), ((a1 : Nat) : Int), a2, 1, 0]
  )
def b_X9_endsWith_22 (n d : Nat) (rec : Nat → Nat → GS → List Int → Option (Int × GS)) (S : GS) (a0 : Nat) (a1 : Nat) (a2 : Int) (a3 : Int) (a4 : Int) : Option (Int × GS) :=
  gg (1 ≤ d) <|
  gg (gSh (a1)) <|
  gc (f_X9_length n (d - 1) 0 S [((a1 : Nat) : Int)]) fun x3 S_4 =>
  gg (inr a4) <|
  gg (inr x3) <|
  if x3 ≤ a4 then (
    gg (a3 = 0 ∨ a3 = 1) <|
    some (a3, S_4)
  ) else (
    gg (inr a3) <|
    if a3 = 0 then (
      gg (a3 = 0 ∨ a3 = 1) <|
      some (a3, S_4)
    ) else (
      gv (a2 + a4) fun x13 =>
      gg (gSh (a0)) <|
      gc (f_X9_at n (d - 1) 0 S_4 [((a0 : Nat) : Int), x13]) fun x16 S_17 =>
      gc (f_X9_at n (d - 1) 0 S_17 [((a1 : Nat) : Int), a4]) fun x19 S_20 =>
      gg (inr x16) <|
      gg (inr x19) <|
      if x16 ≠ x19 then (
        gv (a4 + 1) fun x25 =>
        rec d 22 S_20 [((a0 : Nat) : Int), ((a1 : Nat) : Int), a2, 0, x25]
      ) else (
        gv (a4 + 1) fun x27 =>
        rec d 22 S_20 [((a0 : Nat) : Int), ((a1 : Nat) : Int), a2, 1, x27]
      )
    )
  )
def f_X9_endsWith : Nat → Nat → Nat → GS → List Int → Option (Int × GS)
  | 0, _, _, _, _ => none
  | n + 1, d, pc, S, x => match pc, x with
    | 0, [a0, a1, a2] => b_X9_endsWith_0 n d (f_X9_endsWith n) S a0.toNat a1.toNat a2
    | 22, [a0, a1, a2, a3, a4] => b_X9_endsWith_22 n d (f_X9_endsWith n) S a0.toNat a1.toNat a2 a3 a4
    | _, _ => none
theorem e_X9_endsWith_0 {n d : Nat} {S : GS} {a0 : Nat} {a1 : Nat} {a2 : Int} : f_X9_endsWith (n + 1) d 0 S [((a0 : Nat) : Int), ((a1 : Nat) : Int), a2] = b_X9_endsWith_0 n d (f_X9_endsWith n) S a0 a1 a2 := rfl
theorem e_X9_endsWith_22 {n d : Nat} {S : GS} {a0 : Nat} {a1 : Nat} {a2 : Int} {a3 : Int} {a4 : Int} : f_X9_endsWith (n + 1) d 22 S [((a0 : Nat) : Int), ((a1 : Nat) : Int), a2, a3, a4] = b_X9_endsWith_22 n d (f_X9_endsWith n) S a0 a1 a2 a3 a4 := rfl

def b_X2_meetMatches_0 (n d : Nat) (rec : Nat → Nat → GS → List Int → Option (Int × GS)) (S : GS) (a1 : Nat) (a2 : Int) : Option (Int × GS) :=
  gg (1 ≤ d) <|
  gc (f_X9_placeOf n (d - 1) 0 S [((440 : Nat) : Int), 61]) fun x2 S_3 =>
  gc (f_X9_clear n (d - 1) 0 S_3 [((442 : Nat) : Int)]) fun x5 S_6 =>
  gc (f_X9_addPart n (d - 1) 0 S_6 [((442 : Nat) : Int), ((440 : Nat) : Int), 1, x2]) fun x8 S_9 =>
  gg (gT a1) <|
  gc (f_X10_first n (d - 1) 0 S_9 [((a1 : Nat) : Int), a2]) fun x12 S_13 =>
  rec d 40 S_13 [((a1 : Nat) : Int), a2, x2, x12, 0]
def b_X2_meetMatches_40 (n d : Nat) (rec : Nat → Nat → GS → List Int → Option (Int × GS)) (S : GS) (a1 : Nat) (a2 : Int) (a3 : Int) (a4 : Int) (a5 : Int) : Option (Int × GS) :=
  gg (inr a4) <|
  if a4 = (-1) then (
    some (0, S)
  ) else (
    gg (inr a5) <|
    if 100 ≤ a5 then (
      some (0, S)
    ) else (
      gg (inr a3) <|
      if a3 = (-1) then (
        some (0, S)
      ) else (
        gg (1 ≤ d) <|
        gg (gT a1) <|
        gc (f_X10_valueOf n (d - 1) 0 S [((a1 : Nat) : Int), a4, ((442 : Nat) : Int)]) fun x9 S_10 =>
        gg (inr x9) <|
        if x9 = (-1) then (
          gc (f_X10_next n (d - 1) 0 S_10 [((a1 : Nat) : Int), a2, a4]) fun x14 S_15 =>
          gv (a5 + 1) fun x17 =>
          rec d 40 S_15 [((a1 : Nat) : Int), a2, a3, x14, x17]
        ) else (
          gc (f_X9_clear n (d - 1) 0 S_10 [((444 : Nat) : Int)]) fun x19 S_20 =>
          gc (f_X8_group n (d - 1) 10000 S_20 [((a1 : Nat) : Int), x9, 0, 0, ((444 : Nat) : Int)]) fun x22 S_23 =>
          gv (a3 + 1) fun x25 =>
          gc (f_X9_endsWith n (d - 1) 0 S_23 [((440 : Nat) : Int), ((444 : Nat) : Int), x25]) fun x27 S_28 =>
          gg (inr x27) <|
          if x27 = 0 then (
            gc (f_X10_next n (d - 1) 0 S_28 [((a1 : Nat) : Int), a2, a4]) fun x32 S_33 =>
            gv (a5 + 1) fun x35 =>
            rec d 40 S_33 [((a1 : Nat) : Int), a2, a3, x32, x35]
          ) else (
            gc (f_X2_meet n (d - 1) 0 S_28 [a4]) fun x37 S_38 =>
            gc (f_X10_next n (d - 1) 0 S_38 [((a1 : Nat) : Int), a2, a4]) fun x40 S_41 =>
            gv (a5 + 1) fun x43 =>
            rec d 40 S_41 [((a1 : Nat) : Int), a2, a3, x40, x43]
          )
        )
      )
    )
  )
def f_X2_meetMatches : Nat → Nat → Nat → GS → List Int → Option (Int × GS)
  | 0, _, _, _, _ => none
  | n + 1, d, pc, S, x => match pc, x with
    | 0, [a1, a2] => b_X2_meetMatches_0 n d (f_X2_meetMatches n) S a1.toNat a2
    | 40, [a1, a2, a3, a4, a5] => b_X2_meetMatches_40 n d (f_X2_meetMatches n) S a1.toNat a2 a3 a4 a5
    | _, _ => none
theorem e_X2_meetMatches_0 {n d : Nat} {S : GS} {a1 : Nat} {a2 : Int} : f_X2_meetMatches (n + 1) d 0 S [((a1 : Nat) : Int), a2] = b_X2_meetMatches_0 n d (f_X2_meetMatches n) S a1 a2 := rfl
theorem e_X2_meetMatches_40 {n d : Nat} {S : GS} {a1 : Nat} {a2 : Int} {a3 : Int} {a4 : Int} {a5 : Int} : f_X2_meetMatches (n + 1) d 40 S [((a1 : Nat) : Int), a2, a3, a4, a5] = b_X2_meetMatches_40 n d (f_X2_meetMatches n) S a1 a2 a3 a4 a5 := rfl

def b_X2_placeIn_0 (n d : Nat) (rec : Nat → Nat → GS → List Int → Option (Int × GS)) (S : GS) (a1 : Nat) (a2 : Int) : Option (Int × GS) :=
  gg (1 ≤ d) <|
  gc (f_X9_at n (d - 1) 0 S [((440 : Nat) : Int), 0]) fun x2 S_3 =>
  gg (inr x2) <|
  if x2 = 45 then (
    gc (f_X7_placeIn n (d - 1) 0 S_3 [((440 : Nat) : Int), 1]) fun x7 S_8 =>
    gg (inr x7) <|
    if x7 ≤ 0 then (
      some ((-1), S_8)
    ) else (
      gg (gT a1) <|
      gc (f_X10_values n (d - 1) 0 S_8 [((a1 : Nat) : Int), a2]) fun x13 S_14 =>
      gv (x13 - x7) fun x16 =>
      some (x16, S_14)
    )
  ) else (
    gc (f_X7_placeIn n (d - 1) 0 S_3 [((440 : Nat) : Int), 0]) fun x18 S_19 =>
    some (x18, S_19)
  )
def f_X2_placeIn : Nat → Nat → Nat → GS → List Int → Option (Int × GS)
  | 0, _, _, _, _ => none
  | n + 1, d, pc, S, x => match pc, x with
    | 0, [a1, a2] => b_X2_placeIn_0 n d (f_X2_placeIn n) S a1.toNat a2
    | _, _ => none
theorem e_X2_placeIn_0 {n d : Nat} {S : GS} {a1 : Nat} {a2 : Int} : f_X2_placeIn (n + 1) d 0 S [((a1 : Nat) : Int), a2] = b_X2_placeIn_0 n d (f_X2_placeIn n) S a1 a2 := rfl

def b_X2_stepFrom_0 (n d : Nat) (rec : Nat → Nat → GS → List Int → Option (Int × GS)) (S : GS) (a1 : Nat) (a2 : Int) : Option (Int × GS) :=
  gg (1 ≤ d) <|
  gc (f_X9_says n (d - 1) 0 S [((440 : Nat) : Int), ((18 : Nat) : Int)]) fun x2 S_3 =>
  gg (inr x2) <|
  if x2 = 0 then (
    gc (f_X9_says n (d - 1) 0 S_3 [((440 : Nat) : Int), ((19 : Nat) : Int)]) fun x7 S_8 =>
    gg (inr x7) <|
    if x7 = 0 then (
      gc (f_X9_at n (d - 1) 0 S_8 [((440 : Nat) : Int), 0]) fun x12 S_13 =>
      gg (inr x12) <|
      if x12 ≠ 63 then (
        gg (gT a1) <|
        gc (f_X10_is n (d - 1) 0 S_13 [((a1 : Nat) : Int), a2, 4]) fun x18 S_19 =>
        gg (inr x18) <|
        if x18 = 0 then (
          gc (f_X10_valueOf n (d - 1) 0 S_19 [((a1 : Nat) : Int), a2, ((440 : Nat) : Int)]) fun x23 S_24 =>
          gc (f_X2_meet n (d - 1) 0 S_24 [x23]) fun x26 S_27 =>
          some (0, S_27)
        ) else (
          gc (f_X2_placeIn n (d - 1) 0 S_19 [((a1 : Nat) : Int), a2]) fun x29 S_30 =>
          gc (f_X10_valueAt n (d - 1) 0 S_30 [((a1 : Nat) : Int), a2, x29]) fun x32 S_33 =>
          gc (f_X2_meet n (d - 1) 0 S_33 [x32]) fun x35 S_36 =>
          some (0, S_36)
        )
      ) else (
        gc (f_X2_meetMatches n (d - 1) 0 S_13 [((a1 : Nat) : Int), a2]) fun x38 S_39 =>
        some (0, S_39)
      )
    ) else (
      gg (gT a1) <|
      gc (f_X10_first n (d - 1) 0 S_8 [((a1 : Nat) : Int), a2]) fun x42 S_43 =>
      rec d 58 S_43 [((a1 : Nat) : Int), a2, x42, 0]
    )
  ) else (
    rec d 14 S_3 [((a1 : Nat) : Int), a2, a2]
  )
def b_X2_stepFrom_14 (n d : Nat) (rec : Nat → Nat → GS → List Int → Option (Int × GS)) (S : GS) (a1 : Nat) (a2 : Int) (a3 : Int) : Option (Int × GS) :=
  gg (1 ≤ d) <|
  gg (gT a1) <|
  gc (f_X10_after n (d - 1) 0 S [((a1 : Nat) : Int), a2]) fun x3 S_4 =>
  gg (inr a3) <|
  gg (inr x3) <|
  if x3 ≤ a3 then (
    some (0, S_4)
  ) else (
    gc (f_X2_meet n (d - 1) 0 S_4 [a3]) fun x9 S_10 =>
    gv (a3 + 1) fun x12 =>
    rec d 14 S_10 [((a1 : Nat) : Int), a2, x12]
  )
def b_X2_stepFrom_58 (n d : Nat) (rec : Nat → Nat → GS → List Int → Option (Int × GS)) (S : GS) (a1 : Nat) (a2 : Int) (a3 : Int) (a4 : Int) : Option (Int × GS) :=
  gg (inr a3) <|
  if a3 = (-1) then (
    some (0, S)
  ) else (
    gg (inr a4) <|
    if 100 ≤ a4 then (
      some (0, S)
    ) else (
      gg (1 ≤ d) <|
      gc (f_X2_meet n (d - 1) 0 S [a3]) fun x6 S_7 =>
      gg (gT a1) <|
      gc (f_X10_next n (d - 1) 0 S_7 [((a1 : Nat) : Int), a2, a3]) fun x10 S_11 =>
      gv (a4 + 1) fun x13 =>
      rec d 58 S_11 [((a1 : Nat) : Int), a2, x10, x13]
    )
  )
def f_X2_stepFrom : Nat → Nat → Nat → GS → List Int → Option (Int × GS)
  | 0, _, _, _, _ => none
  | n + 1, d, pc, S, x => match pc, x with
    | 0, [a1, a2] => b_X2_stepFrom_0 n d (f_X2_stepFrom n) S a1.toNat a2
    | 14, [a1, a2, a3] => b_X2_stepFrom_14 n d (f_X2_stepFrom n) S a1.toNat a2 a3
    | 58, [a1, a2, a3, a4] => b_X2_stepFrom_58 n d (f_X2_stepFrom n) S a1.toNat a2 a3 a4
    | _, _ => none
theorem e_X2_stepFrom_0 {n d : Nat} {S : GS} {a1 : Nat} {a2 : Int} : f_X2_stepFrom (n + 1) d 0 S [((a1 : Nat) : Int), a2] = b_X2_stepFrom_0 n d (f_X2_stepFrom n) S a1 a2 := rfl
theorem e_X2_stepFrom_14 {n d : Nat} {S : GS} {a1 : Nat} {a2 : Int} {a3 : Int} : f_X2_stepFrom (n + 1) d 14 S [((a1 : Nat) : Int), a2, a3] = b_X2_stepFrom_14 n d (f_X2_stepFrom n) S a1 a2 a3 := rfl
theorem e_X2_stepFrom_58 {n d : Nat} {S : GS} {a1 : Nat} {a2 : Int} {a3 : Int} {a4 : Int} : f_X2_stepFrom (n + 1) d 58 S [((a1 : Nat) : Int), a2, a3, a4] = b_X2_stepFrom_58 n d (f_X2_stepFrom n) S a1 a2 a3 a4 := rfl

def b_X2_seek_0 (n d : Nat) (rec : Nat → Nat → GS → List Int → Option (Int × GS)) (S : GS) (a1 : Nat) (a2 : Nat) : Option (Int × GS) :=
  gg (1 ≤ d) <|
  gc (f_X2_begin n (d - 1) 0 S []) fun x2 S_3 =>
  gc (f_X2_meet n (d - 1) 0 S_3 [0]) fun x5 S_6 =>
  rec d 11 S_6 [((a1 : Nat) : Int), ((a2 : Nat) : Int), 0]
def b_X2_seek_11 (n d : Nat) (rec : Nat → Nat → GS → List Int → Option (Int × GS)) (S : GS) (a1 : Nat) (a2 : Nat) (a3 : Int) : Option (Int × GS) :=
  gg (1 ≤ d) <|
  gg (gRo (a2)) <|
  gc (f_X7_steps n (d - 1) 0 S [((a2 : Nat) : Int)]) fun x3 S_4 =>
  gg (inr a3) <|
  gg (inr x3) <|
  if x3 ≤ a3 then (
    some (0, S_4)
  ) else (
    gc (f_X7_wordTo n (d - 1) 0 S_4 [((a2 : Nat) : Int), a3, ((440 : Nat) : Int)]) fun x9 S_10 =>
    gv (S_10.1 473 6) fun x12 =>
    gg (inr x12) <|
    gv (min x12 100) fun x15 =>
    rec d 42 S_10 [((a1 : Nat) : Int), ((a2 : Nat) : Int), a3, x15, 0]
  )
def b_X2_seek_42 (n d : Nat) (rec : Nat → Nat → GS → List Int → Option (Int × GS)) (S : GS) (a1 : Nat) (a2 : Nat) (a3 : Int) (a4 : Int) (a5 : Int) : Option (Int × GS) :=
  gg (inr a5) <|
  gg (inr a4) <|
  if a4 ≤ a5 then (
    gg (1 ≤ d) <|
    gc (f_X2_begin n (d - 1) 0 S []) fun x5 S_6 =>
    rec d 76 S_6 [((a1 : Nat) : Int), ((a2 : Nat) : Int), a3, a4, 0]
  ) else (
    gg (0 ≤ a5 ∧ a5 < ((100 : Nat) : Int) ∧ a5 < 2147483648) <|
    gv (S.1 474 (a5 : Int).toNat) fun x9 =>
    gv (gI S 475 (a5 : Int).toNat x9) fun S_11 =>
    gv (a5 + 1) fun x13 =>
    rec d 42 S_11 [((a1 : Nat) : Int), ((a2 : Nat) : Int), a3, a4, x13]
  )
def b_X2_seek_76 (n d : Nat) (rec : Nat → Nat → GS → List Int → Option (Int × GS)) (S : GS) (a1 : Nat) (a2 : Nat) (a3 : Int) (a4 : Int) (a5 : Int) : Option (Int × GS) :=
  gg (inr a5) <|
  gg (inr a4) <|
  if a4 ≤ a5 then (
    gv (a3 + 1) fun x4 =>
    rec d 11 S [((a1 : Nat) : Int), ((a2 : Nat) : Int), x4]
  ) else (
    gg (0 ≤ a5 ∧ a5 < ((100 : Nat) : Int) ∧ a5 < 2147483648) <|
    gv (S.1 475 (a5 : Int).toNat) fun x7 =>
    gg (1 ≤ d) <|
    gc (f_X2_stepFrom n (d - 1) 0 S [((a1 : Nat) : Int), x7]) fun x10 S_11 =>
    gv (a5 + 1) fun x13 =>
    rec d 76 S_11 [((a1 : Nat) : Int), ((a2 : Nat) : Int), a3, a4, x13]
  )
def f_X2_seek : Nat → Nat → Nat → GS → List Int → Option (Int × GS)
  | 0, _, _, _, _ => none
  | n + 1, d, pc, S, x => match pc, x with
    | 0, [a1, a2] => b_X2_seek_0 n d (f_X2_seek n) S a1.toNat a2.toNat
    | 11, [a1, a2, a3] => b_X2_seek_11 n d (f_X2_seek n) S a1.toNat a2.toNat a3
    | 42, [a1, a2, a3, a4, a5] => b_X2_seek_42 n d (f_X2_seek n) S a1.toNat a2.toNat a3 a4 a5
    | 76, [a1, a2, a3, a4, a5] => b_X2_seek_76 n d (f_X2_seek n) S a1.toNat a2.toNat a3 a4 a5
    | _, _ => none
theorem e_X2_seek_0 {n d : Nat} {S : GS} {a1 : Nat} {a2 : Nat} : f_X2_seek (n + 1) d 0 S [((a1 : Nat) : Int), ((a2 : Nat) : Int)] = b_X2_seek_0 n d (f_X2_seek n) S a1 a2 := rfl
theorem e_X2_seek_11 {n d : Nat} {S : GS} {a1 : Nat} {a2 : Nat} {a3 : Int} : f_X2_seek (n + 1) d 11 S [((a1 : Nat) : Int), ((a2 : Nat) : Int), a3] = b_X2_seek_11 n d (f_X2_seek n) S a1 a2 a3 := rfl
theorem e_X2_seek_42 {n d : Nat} {S : GS} {a1 : Nat} {a2 : Nat} {a3 : Int} {a4 : Int} {a5 : Int} : f_X2_seek (n + 1) d 42 S [((a1 : Nat) : Int), ((a2 : Nat) : Int), a3, a4, a5] = b_X2_seek_42 n d (f_X2_seek n) S a1 a2 a3 a4 a5 := rfl
theorem e_X2_seek_76 {n d : Nat} {S : GS} {a1 : Nat} {a2 : Nat} {a3 : Int} {a4 : Int} {a5 : Int} : f_X2_seek (n + 1) d 76 S [((a1 : Nat) : Int), ((a2 : Nat) : Int), a3, a4, a5] = b_X2_seek_76 n d (f_X2_seek n) S a1 a2 a3 a4 a5 := rfl

def b_X11_select_0 (n d : Nat) (rec : Nat → Nat → GS → List Int → Option (Int × GS)) (S : GS) (a1 : Int) : Option (Int × GS) :=
  gg (1 ≤ d) <|
  gc (f_X11_document n (d - 1) 0 S [a1]) fun x2 S_3 =>
  if x2 < exB then (
  gc (f_X11_loadPage n (d - 1) 0 S_3 []) fun x6 S_7 =>
  if x6 < exB then (
  gc (f_X9_clear n (d - 1) 0 S_7 [((424 : Nat) : Int)]) fun x10 S_11 =>
  gc (f_X2_seek n (d - 1) 0 S_11 [((x2.toNat : Nat) : Int), ((471 : Nat) : Int)]) fun x13 S_14 =>
  gc (f_X2_count n (d - 1) 0 S_14 []) fun x16 S_17 =>
  gg (x16 < exB) <|
  some (x16, S_17)
  ) else some (x6, S_7)
  ) else some (x2, S_3)
def f_X11_select : Nat → Nat → Nat → GS → List Int → Option (Int × GS)
  | 0, _, _, _, _ => none
  | n + 1, d, pc, S, x => match pc, x with
    | 0, [a1] => b_X11_select_0 n d (f_X11_select n) S a1
    | _, _ => none
theorem e_X11_select_0 {n d : Nat} {S : GS} {a1 : Int} : f_X11_select (n + 1) d 0 S [a1] = b_X11_select_0 n d (f_X11_select n) S a1 := rfl

def b_X11_sorted_0 (n d : Nat) (rec : Nat → Nat → GS → List Int → Option (Int × GS)) (S : GS) (a1 : Int) : Option (Int × GS) :=
  gg (1 ≤ d) <|
  gc (f_X11_document n (d - 1) 0 S [a1]) fun x2 S_3 =>
  if x2 < exB then (
  gc (f_X10_clear n (d - 1) 0 S_3 [((320 : Nat) : Int)]) fun x6 S_7 =>
  gc (f_X10_appendInOrder n (d - 1) 0 S_7 [((320 : Nat) : Int), ((x2.toNat : Nat) : Int), 0, 0]) fun x9 S_10 =>
  gc (f_X11_admit n (d - 1) 0 S_10 [((320 : Nat) : Int)]) fun x12 S_13 =>
  if x12 < exB then (
  gg (x12 < exB) <|
  some (x12, S_13)
  ) else some (x12, S_13)
  ) else some (x2, S_3)
def f_X11_sorted : Nat → Nat → Nat → GS → List Int → Option (Int × GS)
  | 0, _, _, _, _ => none
  | n + 1, d, pc, S, x => match pc, x with
    | 0, [a1] => b_X11_sorted_0 n d (f_X11_sorted n) S a1
    | _, _ => none
theorem e_X11_sorted_0 {n d : Nat} {S : GS} {a1 : Int} : f_X11_sorted (n + 1) d 0 S [a1] = b_X11_sorted_0 n d (f_X11_sorted n) S a1 := rfl

def b_X11_standard_0 (n d : Nat) (rec : Nat → Nat → GS → List Int → Option (Int × GS)) (S : GS) : Option (Int × GS) :=
  gg (1 ≤ d) <|
  gc (f_X11_admit n (d - 1) 0 S [((328 : Nat) : Int)]) fun x2 S_3 =>
  if x2 < exB then (
  gg (x2 < exB) <|
  some (x2, S_3)
  ) else some (x2, S_3)
def f_X11_standard : Nat → Nat → Nat → GS → List Int → Option (Int × GS)
  | 0, _, _, _, _ => none
  | n + 1, d, pc, S, x => match pc, x with
    | 0, [] => b_X11_standard_0 n d (f_X11_standard n) S 
    | _, _ => none
theorem e_X11_standard_0 {n d : Nat} {S : GS} : f_X11_standard (n + 1) d 0 S [] = b_X11_standard_0 n d (f_X11_standard n) S  := rfl

def b_X11_sum_0 (n d : Nat) (rec : Nat → Nat → GS → List Int → Option (Int × GS)) (S : GS) (a1 : Int) : Option (Int × GS) :=
  gg (inr a1) <|
  if a1 < 0 then (
    some (exB + 1, S)
  ) else (
    if a1 ≤ 6 then (
      if a1 = 0 then (
        gv (S.1 468 14) fun x5 =>
        gg (x5 < exB) <|
        some (x5, S)
      ) else (
      if a1 = 1 then (
        gg (1 ≤ d) <|
        gc (f_X9_length n (d - 1) 0 S [((424 : Nat) : Int)]) fun x10 S_11 =>
        gg (x10 < exB) <|
        some (x10, S_11)
      ) else (
      if a1 = 2 then (
        gg (1 ≤ d) <|
        gc (f_X9_length n (d - 1) 0 S [((426 : Nat) : Int)]) fun x16 S_17 =>
        gg (x16 < exB) <|
        some (x16, S_17)
      ) else (
      if a1 = 3 then (
        gv (S.1 468 15) fun x21 =>
        gg (x21 < exB) <|
        some (x21, S)
      ) else (
      if a1 = 4 then (
        gg (1 ≤ d) <|
        gc (f_X2_count n (d - 1) 0 S []) fun x26 S_27 =>
        gg (x26 < exB) <|
        some (x26, S_27)
      ) else (
      if a1 = 5 then (
        gg (1 ≤ d) <|
        gc (f_X0_count n (d - 1) 0 S []) fun x32 S_33 =>
        gg (x32 < exB) <|
        some (x32, S_33)
      ) else (
      gg (1 ≤ d) <|
      gc (f_X11_allNodes n (d - 1) 0 S []) fun x37 S_38 =>
      if x37 < exB then (
      gg (x37 < exB) <|
      some (x37, S_38)
      ) else some (x37, S_38)
      ))))))
    ) else (
      some (exB + 1, S)
    )
  )
def f_X11_sum : Nat → Nat → Nat → GS → List Int → Option (Int × GS)
  | 0, _, _, _, _ => none
  | n + 1, d, pc, S, x => match pc, x with
    | 0, [a1] => b_X11_sum_0 n d (f_X11_sum n) S a1
    | _, _ => none
theorem e_X11_sum_0 {n d : Nat} {S : GS} {a1 : Int} : f_X11_sum (n + 1) d 0 S [a1] = b_X11_sum_0 n d (f_X11_sum n) S a1 := rfl

def b_X11_take_0 (n d : Nat) (rec : Nat → Nat → GS → List Int → Option (Int × GS)) (S : GS) (a1 : Int) (a2 : Int) : Option (Int × GS) :=
  gg (1 ≤ d) <|
  gc (f_X11_documentWith n (d - 1) 0 S [a1, a2]) fun x2 S_3 =>
  if x2 < exB then (
  gc (f_X10_copyOf n (d - 1) 0 S_3 [((320 : Nat) : Int), ((x2.toNat : Nat) : Int), a2]) fun x6 S_7 =>
  gc (f_X11_admit n (d - 1) 0 S_7 [((320 : Nat) : Int)]) fun x9 S_10 =>
  if x9 < exB then (
  gg (x9 < exB) <|
  some (x9, S_10)
  ) else some (x9, S_10)
  ) else some (x2, S_3)
def f_X11_take : Nat → Nat → Nat → GS → List Int → Option (Int × GS)
  | 0, _, _, _, _ => none
  | n + 1, d, pc, S, x => match pc, x with
    | 0, [a1, a2] => b_X11_take_0 n d (f_X11_take n) S a1 a2
    | _, _ => none
theorem e_X11_take_0 {n d : Nat} {S : GS} {a1 : Int} {a2 : Int} : f_X11_take (n + 1) d 0 S [a1, a2] = b_X11_take_0 n d (f_X11_take n) S a1 a2 := rfl

def b_X11_tell_0 (n d : Nat) (rec : Nat → Nat → GS → List Int → Option (Int × GS)) (S : GS) (a1 : Int) (a2 : Int) (a3 : Int) : Option (Int × GS) :=
  gg (1 ≤ d) <|
  gc (f_X11_documentWith n (d - 1) 0 S [a1, a2]) fun x2 S_3 =>
  if x2 < exB then (
  gg (inr a3) <|
  if a3 < 0 then (
    some (exB + 1, S_3)
  ) else (
    if a3 ≤ 3 then (
      gc (f_X11_canTell n (d - 1) 0 S_3 [((x2.toNat : Nat) : Int), a2, a3]) fun x9 S_10 =>
      gg (inr x9) <|
      if x9 ≠ 0 then (
        gc (f_X9_clear n (d - 1) 0 S_10 [((426 : Nat) : Int)]) fun x14 S_15 =>
        if 2 ≤ a3 then (
          if a3 ≠ 2 then (
            gg (gT (x2.toNat)) <|
            gc (f_X10_pathTo n (d - 1) 0 S_15 [((x2.toNat : Nat) : Int), a2, ((426 : Nat) : Int)]) fun x20 S_21 =>
            gc (f_X9_length n (d - 1) 0 S_21 [((426 : Nat) : Int)]) fun x23 S_24 =>
            gg (x23 < exB) <|
            some (x23, S_24)
          ) else (
            gg (gT (x2.toNat)) <|
            gc (f_X10_keyTo n (d - 1) 0 S_15 [((x2.toNat : Nat) : Int), a2, ((426 : Nat) : Int)]) fun x28 S_29 =>
            gc (f_X9_length n (d - 1) 0 S_29 [((426 : Nat) : Int)]) fun x31 S_32 =>
            gg (x31 < exB) <|
            some (x31, S_32)
          )
        ) else (
          gg (gT (x2.toNat)) <|
          gc (f_X10_signsTo n (d - 1) 0 S_15 [((x2.toNat : Nat) : Int), a2, ((426 : Nat) : Int)]) fun x36 S_37 =>
          gc (f_X9_length n (d - 1) 0 S_37 [((426 : Nat) : Int)]) fun x39 S_40 =>
          gg (x39 < exB) <|
          some (x39, S_40)
        )
      ) else (
        some (exB + 2, S_10)
      )
    ) else (
      some (exB + 1, S_3)
    )
  )
  ) else some (x2, S_3)
def f_X11_tell : Nat → Nat → Nat → GS → List Int → Option (Int × GS)
  | 0, _, _, _, _ => none
  | n + 1, d, pc, S, x => match pc, x with
    | 0, [a1, a2, a3] => b_X11_tell_0 n d (f_X11_tell n) S a1 a2 a3
    | _, _ => none
theorem e_X11_tell_0 {n d : Nat} {S : GS} {a1 : Int} {a2 : Int} {a3 : Int} : f_X11_tell (n + 1) d 0 S [a1, a2, a3] = b_X11_tell_0 n d (f_X11_tell n) S a1 a2 a3 := rfl

def b_X1_wayBack_0 (n d : Nat) (rec : Nat → Nat → GS → List Int → Option (Int × GS)) (S : GS) : Option (Int × GS) :=
  some (((384 : Nat) : Int), S)
def f_X1_wayBack : Nat → Nat → Nat → GS → List Int → Option (Int × GS)
  | 0, _, _, _, _ => none
  | n + 1, d, pc, S, x => match pc, x with
    | 0, [] => b_X1_wayBack_0 n d (f_X1_wayBack n) S 
    | _, _ => none
theorem e_X1_wayBack_0 {n d : Nat} {S : GS} : f_X1_wayBack (n + 1) d 0 S [] = b_X1_wayBack_0 n d (f_X1_wayBack n) S  := rfl

def b_X11_turn_0 (n d : Nat) (rec : Nat → Nat → GS → List Int → Option (Int × GS)) (S : GS) (a1 : Int) (a2 : Int) : Option (Int × GS) :=
  gg (1 ≤ d) <|
  gc (f_X11_document n (d - 1) 0 S [a1]) fun x2 S_3 =>
  if x2 < exB then (
  gc (f_X11_document n (d - 1) 0 S_3 [a2]) fun x6 S_7 =>
  if x6 < exB then (
  gg (gT (x6.toNat)) <|
  gc (f_X10_is n (d - 1) 0 S_7 [((x6.toNat : Nat) : Int), 0, 4]) fun x11 S_12 =>
  gg (inr x11) <|
  if x11 ≠ 0 then (
    gc (f_X1_begin n (d - 1) 0 S_12 [((x2.toNat : Nat) : Int), 1]) fun x16 S_17 =>
    gc (f_X1_layAll n (d - 1) 0 S_17 [((x6.toNat : Nat) : Int)]) fun x19 S_20 =>
    gg (inr x19) <|
    if x19 = (-1) then (
      gc (f_X1_wayBack n (d - 1) 0 S_20 []) fun x24 S_25 =>
      gc (f_X11_admit n (d - 1) 0 S_25 [((x24.toNat : Nat) : Int)]) fun x27 S_28 =>
      if x27 < exB then (
      gg (x27 < exB) <|
      some (x27, S_28)
      ) else some (x27, S_28)
    ) else (
      some (exB + 2, S_20)
    )
  ) else (
    some (exB + 2, S_12)
  )
  ) else some (x6, S_7)
  ) else some (x2, S_3)
def f_X11_turn : Nat → Nat → Nat → GS → List Int → Option (Int × GS)
  | 0, _, _, _, _ => none
  | n + 1, d, pc, S, x => match pc, x with
    | 0, [a1, a2] => b_X11_turn_0 n d (f_X11_turn n) S a1 a2
    | _, _ => none
theorem e_X11_turn_0 {n d : Nat} {S : GS} {a1 : Int} {a2 : Int} : f_X11_turn (n + 1) d 0 S [a1, a2] = b_X11_turn_0 n d (f_X11_turn n) S a1 a2 := rfl

def b_X11_undo_0 (n d : Nat) (rec : Nat → Nat → GS → List Int → Option (Int × GS)) (S : GS) : Option (Int × GS) :=
  gv (S.1 468 14) fun x1 =>
  gg (inr x1) <|
  if 1 ≤ x1 then (
    gv (S.1 468 14) fun x5 =>
    gv (x5 - 1) fun x7 =>
    gv (gI S 468 14 x7) fun S_9 =>
    gv (S_9.1 468 14) fun x11 =>
    gg (x11 < exB) <|
    some (x11, S_9)
  ) else (
    some (exB + 2, S)
  )
def f_X11_undo : Nat → Nat → Nat → GS → List Int → Option (Int × GS)
  | 0, _, _, _, _ => none
  | n + 1, d, pc, S, x => match pc, x with
    | 0, [] => b_X11_undo_0 n d (f_X11_undo n) S 
    | _, _ => none
theorem e_X11_undo_0 {n d : Nat} {S : GS} : f_X11_undo (n + 1) d 0 S [] = b_X11_undo_0 n d (f_X11_undo n) S  := rfl

def b_X11_vary_0 (n d : Nat) (rec : Nat → Nat → GS → List Int → Option (Int × GS)) (S : GS) (a1 : Int) (a2 : Int) : Option (Int × GS) :=
  gg (1 ≤ d) <|
  gc (f_X11_document n (d - 1) 0 S [a1]) fun x2 S_3 =>
  if x2 < exB then (
  gg (inr a2) <|
  if a2 < 0 then (
    some (exB + 1, S_3)
  ) else (
    if a2 < 65536 then (
      gc (f_X3_begin n (d - 1) 0 S_3 [a2]) fun x9 S_10 =>
      gg (gT (x2.toNat)) <|
      gc (f_X10_count n (d - 1) 0 S_10 [((x2.toNat : Nat) : Int)]) fun x13 S_14 =>
      gc (f_X3_draw n (d - 1) 0 S_14 [x13]) fun x16 S_17 =>
      gc (f_X3_entry n (d - 1) 20000 S_17 [2, 2]) fun x19 S_20 =>
      gc (f_X10_copyOf n (d - 1) 0 S_20 [((320 : Nat) : Int), ((x2.toNat : Nat) : Int), 0]) fun x22 S_23 =>
      gc (f_X3_result n (d - 1) 0 S_23 []) fun x25 S_26 =>
      gc (f_X10_replace n (d - 1) 0 S_26 [((320 : Nat) : Int), x16, ((x25.toNat : Nat) : Int), 0]) fun x28 S_29 =>
      gc (f_X11_admit n (d - 1) 0 S_29 [((320 : Nat) : Int)]) fun x31 S_32 =>
      if x31 < exB then (
      gg (x31 < exB) <|
      some (x31, S_32)
      ) else some (x31, S_32)
    ) else (
      some (exB + 1, S_3)
    )
  )
  ) else some (x2, S_3)
def f_X11_vary : Nat → Nat → Nat → GS → List Int → Option (Int × GS)
  | 0, _, _, _, _ => none
  | n + 1, d, pc, S, x => match pc, x with
    | 0, [a1, a2] => b_X11_vary_0 n d (f_X11_vary n) S a1 a2
    | _, _ => none
theorem e_X11_vary_0 {n d : Nat} {S : GS} {a1 : Int} {a2 : Int} : f_X11_vary (n + 1) d 0 S [a1, a2] = b_X11_vary_0 n d (f_X11_vary n) S a1 a2 := rfl

def b_X11_wipe_0 (n d : Nat) (rec : Nat → Nat → GS → List Int → Option (Int × GS)) (S : GS) : Option (Int × GS) :=
  gg (1 ≤ d) <|
  gc (f_X9_length n (d - 1) 0 S [((424 : Nat) : Int)]) fun x2 S_3 =>
  gc (f_X9_clear n (d - 1) 0 S_3 [((424 : Nat) : Int)]) fun x5 S_6 =>
  some (x2, S_6)
def f_X11_wipe : Nat → Nat → Nat → GS → List Int → Option (Int × GS)
  | 0, _, _, _, _ => none
  | n + 1, d, pc, S, x => match pc, x with
    | 0, [] => b_X11_wipe_0 n d (f_X11_wipe n) S 
    | _, _ => none
theorem e_X11_wipe_0 {n d : Nat} {S : GS} : f_X11_wipe (n + 1) d 0 S [] = b_X11_wipe_0 n d (f_X11_wipe n) S  := rfl

def b_X11_write_0 (n d : Nat) (rec : Nat → Nat → GS → List Int → Option (Int × GS)) (S : GS) (a1 : Int) (a2 : Int) : Option (Int × GS) :=
  gg (inr a1) <|
  if a1 < 1 then (
    some (exB + 1, S)
  ) else (
    if 8 < a1 then (
      some (exB + 1, S)
    ) else (
      gg (1 ≤ d) <|
      gc (f_X11_areSigns n (d - 1) 0 S [a1, a2]) fun x5 S_6 =>
      gg (inr x5) <|
      if x5 ≠ 0 then (
        gc (f_X9_length n (d - 1) 0 S_6 [((424 : Nat) : Int)]) fun x10 S_11 =>
        gv (x10 + a1) fun x13 =>
        gg (inr x13) <|
        if x13 ≤ 400 then (
          gv (a1 - 1) fun x17 =>
          rec d 55 S_11 [a2, x17]
        ) else (
          some (exB + 2, S_11)
        )
      ) else (
        some (exB + 1, S_6)
      )
    )
  )
def b_X11_write_55 (n d : Nat) (rec : Nat → Nat → GS → List Int → Option (Int × GS)) (S : GS) (a2 : Int) (a4 : Int) : Option (Int × GS) :=
  gg (inr a4) <|
  if a4 < 0 then (
    gg (1 ≤ d) <|
    gc (f_X9_length n (d - 1) 0 S [((424 : Nat) : Int)]) fun x4 S_5 =>
    gg (x4 < exB) <|
    some (x4, S_5)
  ) else (
    gg (1 ≤ d) <|
    gc (f_X11_letterAt n (d - 1) 0 S [a2, a4]) fun x9 S_10 =>
    gc (f_X9_add n (d - 1) 0 S_10 [((424 : Nat) : Int), x9]) fun x12 S_13 =>
    gv (a4 + (-1)) fun x15 =>
    rec d 55 S_13 [a2, x15]
  )
def f_X11_write : Nat → Nat → Nat → GS → List Int → Option (Int × GS)
  | 0, _, _, _, _ => none
  | n + 1, d, pc, S, x => match pc, x with
    | 0, [a1, a2] => b_X11_write_0 n d (f_X11_write n) S a1 a2
    | 55, [a2, a4] => b_X11_write_55 n d (f_X11_write n) S a2 a4
    | _, _ => none
theorem e_X11_write_0 {n d : Nat} {S : GS} {a1 : Int} {a2 : Int} : f_X11_write (n + 1) d 0 S [a1, a2] = b_X11_write_0 n d (f_X11_write n) S a1 a2 := rfl
theorem e_X11_write_55 {n d : Nat} {S : GS} {a2 : Int} {a4 : Int} : f_X11_write (n + 1) d 55 S [a2, a4] = b_X11_write_55 n d (f_X11_write n) S a2 a4 := rfl

def b_X8_standardTo_0 (n d : Nat) (rec : Nat → Nat → GS → List Int → Option (Int × GS)) (S : GS) (a0 : Nat) : Option (Int × GS) :=
  gg (1 ≤ d) <|
  gg (gSh (a0)) <|
  gc (f_X9_clear n (d - 1) 0 S [((a0 : Nat) : Int)]) fun x3 S_4 =>
  gc (f_X9_addAll n (d - 1) 0 S_4 [((a0 : Nat) : Int), ((0 : Nat) : Int)]) fun x6 S_7 =>
  gc (f_X9_addAll n (d - 1) 0 S_7 [((a0 : Nat) : Int), ((1 : Nat) : Int)]) fun x9 S_10 =>
  gc (f_X9_addAll n (d - 1) 0 S_10 [((a0 : Nat) : Int), ((2 : Nat) : Int)]) fun x12 S_13 =>
  gc (f_X9_addAll n (d - 1) 0 S_13 [((a0 : Nat) : Int), ((3 : Nat) : Int)]) fun x15 S_16 =>
  gc (f_X9_addAll n (d - 1) 0 S_16 [((a0 : Nat) : Int), ((4 : Nat) : Int)]) fun x18 S_19 =>
  gc (f_X9_addAll n (d - 1) 0 S_19 [((a0 : Nat) : Int), ((5 : Nat) : Int)]) fun x21 S_22 =>
  gc (f_X9_addAll n (d - 1) 0 S_22 [((a0 : Nat) : Int), ((6 : Nat) : Int)]) fun x24 S_25 =>
  gc (f_X9_addAll n (d - 1) 0 S_25 [((a0 : Nat) : Int), ((7 : Nat) : Int)]) fun x27 S_28 =>
  gc (f_X9_addAll n (d - 1) 0 S_28 [((a0 : Nat) : Int), ((8 : Nat) : Int)]) fun x30 S_31 =>
  gc (f_X9_addAll n (d - 1) 0 S_31 [((a0 : Nat) : Int), ((9 : Nat) : Int)]) fun x33 S_34 =>
  gc (f_X9_addAll n (d - 1) 0 S_34 [((a0 : Nat) : Int), ((10 : Nat) : Int)]) fun x36 S_37 =>
  gc (f_X9_addAll n (d - 1) 0 S_37 [((a0 : Nat) : Int), ((11 : Nat) : Int)]) fun x39 S_40 =>
  some (0, S_40)
def f_X8_standardTo : Nat → Nat → Nat → GS → List Int → Option (Int × GS)
  | 0, _, _, _, _ => none
  | n + 1, d, pc, S, x => match pc, x with
    | 0, [a0] => b_X8_standardTo_0 n d (f_X8_standardTo n) S a0.toNat
    | _, _ => none
theorem e_X8_standardTo_0 {n d : Nat} {S : GS} {a0 : Nat} : f_X8_standardTo (n + 1) d 0 S [((a0 : Nat) : Int)] = b_X8_standardTo_0 n d (f_X8_standardTo n) S a0 := rfl

