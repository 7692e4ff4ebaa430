def b_L_cell_0 (XL : Nat) (XS : Nat → Int) (n d : Nat) (rec : Nat → Nat → GS → List Int → Option (Int × GS)) (S : GS) (a1 : Int) : Option (Int × GS) :=
  gg (inr a1) <|
  gg (inr ((XL : Nat) : Int)) <|
  if ((XL : Nat) : Int) ≤ a1 then (
    gv (41010301 * a1) fun x4 =>
    gv (x4 + 45007) fun x6 =>
    some (x6, S)
  ) else (
    gg (0 ≤ a1 ∧ a1 < ((XL : Nat) : Int) ∧ a1 < 2147483648) <|
    gv (XS (a1 : Int).toNat) fun x9 =>
    some (x9, S)
  )
def f_L_cell (XL : Nat) (XS : Nat → Int) : Nat → Nat → Nat → GS → List Int → Option (Int × GS)
  | 0, _, _, _, _ => none
  | n + 1, d, pc, S, x => match pc, x with
    | 0, [a1] => b_L_cell_0 XL XS n d (f_L_cell XL XS n) S a1
    | _, _ => none
theorem e_L_cell_0 {XL : Nat} {XS : Nat → Int} {n d : Nat} {S : GS} {a1 : Int} : f_L_cell XL XS (n + 1) d 0 S [a1] = b_L_cell_0 XL XS n d (f_L_cell XL XS n) S a1 := rfl
def b_L_low_0 (XL : Nat) (XS : Nat → Int) (n d : Nat) (rec : Nat → Nat → GS → List Int → Option (Int × GS)) (S : GS) (a0 : Int) (a1 : Int) : Option (Int × GS) :=
  gv (a0 % 2147483648) fun x1 =>
  gg ((0 ≤ x1 ∧ x1 < 2147483648) ∧ ((0 : Int) < a1 ∧ (a1 : Int) < 2147483648)) <|
  gv (x1 % a1) fun x4 =>
  some (x4, S)
def f_L_low (XL : Nat) (XS : Nat → Int) : Nat → Nat → Nat → GS → List Int → Option (Int × GS)
  | 0, _, _, _, _ => none
  | n + 1, d, pc, S, x => match pc, x with
    | 0, [a0, a1] => b_L_low_0 XL XS n d (f_L_low XL XS n) S a0 a1
    | _, _ => none
theorem e_L_low_0 {XL : Nat} {XS : Nat → Int} {n d : Nat} {S : GS} {a0 : Int} {a1 : Int} : f_L_low XL XS (n + 1) d 0 S [a0, a1] = b_L_low_0 XL XS n d (f_L_low XL XS n) S a0 a1 := rfl
def f_L_tryPatch (_XL : Nat) (_XS : Nat → Int) (n d pc : Nat) (S : GS) (x : List Int) : Option (Int × GS) := match x with
  | [a1, a2] => gg (1 ≤ d) <| gc (f_X11_patch n (d - 1) 0 S [a1, a2]) fun x1 S1 =>
    if x1 < exB then some (x1, S1)
    else if x1 = exB + 2 then some (-1, S1)
    else none
  | _ => none
def f_L_tryTurn (_XL : Nat) (_XS : Nat → Int) (n d pc : Nat) (S : GS) (x : List Int) : Option (Int × GS) := match x with
  | [a1, a2] => gg (1 ≤ d) <| gc (f_X11_turn n (d - 1) 0 S [a1, a2]) fun x1 S1 =>
    if x1 < exB then some (x1, S1)
    else if x1 = exB + 2 then some (-1, S1)
    else none
  | _ => none
def f_L_tryVary (_XL : Nat) (_XS : Nat → Int) (n d pc : Nat) (S : GS) (x : List Int) : Option (Int × GS) := match x with
  | [a1, a2] => gg (1 ≤ d) <| gc (f_X11_vary n (d - 1) 0 S [a1, a2]) fun x1 S1 =>
    if x1 < exB then some (x1, S1)
    else if x1 = exB + 2 then some (-1, S1)
    else none
  | _ => none
def f_L_tryJoin (_XL : Nat) (_XS : Nat → Int) (n d pc : Nat) (S : GS) (x : List Int) : Option (Int × GS) := match x with
  | [a1, a2, a3] => gg (1 ≤ d) <| gc (f_X11_join n (d - 1) 0 S [a1, a2, a3]) fun x1 S1 =>
    if x1 < exB then some (x1, S1)
    else if x1 = exB + 2 then some (-2, S1)
    else none
  | _ => none
def b_L_retyped_0 (XL : Nat) (XS : Nat → Int) (n d : Nat) (rec : Nat → Nat → GS → List Int → Option (Int × GS)) (S : GS) : Option (Int × GS) :=
  gg (1 ≤ d) <|
  gc (f_X11_sum n (d - 1) 0 S [2]) fun x2 S_3 =>
  if x2 < exB then (
  gg (inr x2) <|
  if x2 ≤ 400 then (
    gc (f_X11_wipe n (d - 1) 0 S_3 []) fun x8 S_9 =>
    rec d 22 S_9 [x2, 0]
  ) else (
    some (0, S_3)
  )
  ) else none
def b_L_retyped_22 (XL : Nat) (XS : Nat → Int) (n d : Nat) (rec : Nat → Nat → GS → List Int → Option (Int × GS)) (S : GS) (a1 : Int) (a3 : Int) : Option (Int × GS) :=
  gg (inr a3) <|
  gg (inr a1) <|
  if a1 ≤ a3 then (
    gg (1 ≤ d) <|
    gc (f_X11_sum n (d - 1) 0 S [1]) fun x5 S_6 =>
    if x5 < exB then (
    gg (inr x5) <|
    if x5 ≠ a1 then (
      some (0, S_6)
    ) else (
      some (1, S_6)
    )
    ) else none
  ) else (
    gv (a1 - a3) fun x11 =>
    gg (inr x11) <|
    if 7 ≤ x11 then (
      rec d 43 S [a1, a3, 7]
    ) else (
      gv (a1 - a3) fun x15 =>
      rec d 43 S [a1, a3, x15]
    )
  )
def b_L_retyped_43 (XL : Nat) (XS : Nat → Int) (n d : Nat) (rec : Nat → Nat → GS → List Int → Option (Int × GS)) (S : GS) (a1 : Int) (a3 : Int) (s0 : Int) : Option (Int × GS) :=
  gg (1 ≤ d) <|
  gc (f_X11_paper n (d - 1) 0 S [a3, s0]) fun x2 S_3 =>
  if x2 < exB then (
  gc (f_X11_write n (d - 1) 0 S_3 [s0, x2]) fun x6 S_7 =>
  if x6 < exB then (
  gv (a3 + 7) fun x10 =>
  rec d 22 S_7 [a1, x10]
  ) else none
  ) else none
def f_L_retyped (XL : Nat) (XS : Nat → Int) : Nat → Nat → Nat → GS → List Int → Option (Int × GS)
  | 0, _, _, _, _ => none
  | n + 1, d, pc, S, x => match pc, x with
    | 0, [] => b_L_retyped_0 XL XS n d (f_L_retyped XL XS n) S 
    | 22, [a1, a3] => b_L_retyped_22 XL XS n d (f_L_retyped XL XS n) S a1 a3
    | 43, [a1, a3, s0] => b_L_retyped_43 XL XS n d (f_L_retyped XL XS n) S a1 a3 s0
    | _, _ => none
theorem e_L_retyped_0 {XL : Nat} {XS : Nat → Int} {n d : Nat} {S : GS} : f_L_retyped XL XS (n + 1) d 0 S [] = b_L_retyped_0 XL XS n d (f_L_retyped XL XS n) S  := rfl
theorem e_L_retyped_22 {XL : Nat} {XS : Nat → Int} {n d : Nat} {S : GS} {a1 : Int} {a3 : Int} : f_L_retyped XL XS (n + 1) d 22 S [a1, a3] = b_L_retyped_22 XL XS n d (f_L_retyped XL XS n) S a1 a3 := rfl
theorem e_L_retyped_43 {XL : Nat} {XS : Nat → Int} {n d : Nat} {S : GS} {a1 : Int} {a3 : Int} {s0 : Int} : f_L_retyped XL XS (n + 1) d 43 S [a1, a3, s0] = b_L_retyped_43 XL XS n d (f_L_retyped XL XS n) S a1 a3 s0 := rfl
def b_L_rereads_0 (XL : Nat) (XS : Nat → Int) (n d : Nat) (rec : Nat → Nat → GS → List Int → Option (Int × GS)) (S : GS) (a1 : Int) : Option (Int × GS) :=
  rec d 4 S [a1, 1, 0]
def b_L_rereads_4 (XL : Nat) (XS : Nat → Int) (n d : Nat) (rec : Nat → Nat → GS → List Int → Option (Int × GS)) (S : GS) (a1 : Int) (a2 : Int) (a3 : Int) : Option (Int × GS) :=
  gg (inr a3) <|
  if 3 ≤ a3 then (
    rec d 169 S [a1, a2]
  ) else (
    gg (inr a2) <|
    if a2 = 0 then (
      rec d 169 S [a1, a2]
    ) else (
      gg (1 ≤ d) <|
      gc (f_X11_print n (d - 1) 0 S [a1, a3]) fun x6 S_7 =>
      if x6 < exB then (
      gc (f_X11_sum n (d - 1) 0 S_7 [2]) fun x10 S_11 =>
      if x10 < exB then (
      gg (inr x6) <|
      gg (inr x10) <|
      if x6 ≠ x10 then (
        rec d 36 S_11 [a1, a3, 0]
      ) else (
        rec d 36 S_11 [a1, a3, 1]
      )
      ) else none
      ) else none
    )
  )
def b_L_rereads_36 (XL : Nat) (XS : Nat → Int) (n d : Nat) (rec : Nat → Nat → GS → List Int → Option (Int × GS)) (S : GS) (a1 : Int) (a3 : Int) (s0 : Int) : Option (Int × GS) :=
  gg (1 ≤ d) <|
  gc (f_L_retyped XL XS n (d - 1) 0 S []) fun x2 S_3 =>
  gg (inr x2) <|
  if x2 = 0 then (
    gv (a3 + 1) fun x7 =>
    rec d 4 S_3 [a1, s0, x7]
  ) else (
    gc (f_X11_read n (d - 1) 0 S_3 []) fun x9 S_10 =>
    if x9 < exB then (
    gg (inr s0) <|
    if s0 = 0 then (
      rec d 107 S_10 [a1, a3, x9, 0]
    ) else (
      gc (f_X11_sum n (d - 1) 0 S_10 [0]) fun x15 S_16 =>
      if x15 < exB then (
      gv (x15 - 1) fun x19 =>
      gg (inr x9) <|
      gg (inr x19) <|
      if x9 ≠ x19 then (
        rec d 107 S_16 [a1, a3, x9, 0]
      ) else (
        gc (f_X11_equal n (d - 1) 0 S_16 [a1, x9]) fun x24 S_25 =>
        if x24 < exB then (
        gg (inr x24) <|
        if x24 = 0 then (
          rec d 107 S_25 [a1, a3, x9, 0]
        ) else (
          gc (f_X11_equal n (d - 1) 0 S_25 [x9, a1]) fun x30 S_31 =>
          if x30 < exB then (
          gg (inr x30) <|
          if x30 = 0 then (
            rec d 107 S_31 [a1, a3, x9, 0]
          ) else (
            gc (f_X11_digest n (d - 1) 0 S_31 [x9, 0]) fun x36 S_37 =>
            if x36 < exB then (
            gc (f_X11_digest n (d - 1) 0 S_37 [a1, 0]) fun x40 S_41 =>
            if x40 < exB then (
            gg (inr x36) <|
            gg (inr x40) <|
            if x36 ≠ x40 then (
              rec d 107 S_41 [a1, a3, x9, 0]
            ) else (
              rec d 107 S_41 [a1, a3, x9, 1]
            )
            ) else none
            ) else none
          )
          ) else none
        )
        ) else none
      )
      ) else none
    )
    ) else none
  )
def b_L_rereads_107 (XL : Nat) (XS : Nat → Int) (n d : Nat) (rec : Nat → Nat → GS → List Int → Option (Int × GS)) (S : GS) (a1 : Int) (a3 : Int) (a5 : Int) (s0 : Int) : Option (Int × GS) :=
  gg (inr s0) <|
  if s0 = 0 then (
    gv (a3 + 1) fun x3 =>
    rec d 4 S [a1, 0, x3]
  ) else (
    gg (1 ≤ d) <|
    gc (f_X11_node n (d - 1) 0 S [a5, 0, 2]) fun x6 S_7 =>
    if x6 < exB then (
    gc (f_X11_node n (d - 1) 0 S_7 [a1, 0, 2]) fun x10 S_11 =>
    if x10 < exB then (
    gg (inr x6) <|
    gg (inr x10) <|
    if x6 ≠ x10 then (
      gv (a3 + 1) fun x17 =>
      rec d 4 S_11 [a1, 0, x17]
    ) else (
      gc (f_X11_node n (d - 1) 0 S_11 [a5, 0, 1]) fun x19 S_20 =>
      if x19 < exB then (
      gc (f_X11_node n (d - 1) 0 S_20 [a1, 0, 1]) fun x23 S_24 =>
      if x23 < exB then (
      gg (inr x19) <|
      gg (inr x23) <|
      if x19 ≠ x23 then (
        gv (a3 + 1) fun x30 =>
        rec d 4 S_24 [a1, 0, x30]
      ) else (
        gc (f_X11_undo n (d - 1) 0 S_24 []) fun x32 S_33 =>
        if x32 < exB then (
        gg (inr x32) <|
        gg (inr a5) <|
        if x32 ≠ a5 then (
          gv (a3 + 1) fun x39 =>
          rec d 4 S_33 [a1, 0, x39]
        ) else (
          gv (a3 + 1) fun x41 =>
          rec d 4 S_33 [a1, 1, x41]
        )
        ) else none
      )
      ) else none
      ) else none
    )
    ) else none
    ) else none
  )
def b_L_rereads_169 (XL : Nat) (XS : Nat → Int) (n d : Nat) (rec : Nat → Nat → GS → List Int → Option (Int × GS)) (S : GS) (a1 : Int) (a2 : Int) : Option (Int × GS) :=
  gg (1 ≤ d) <|
  gc (f_X11_sorted n (d - 1) 0 S [a1]) fun x2 S_3 =>
  if x2 < exB then (
  gg (inr a2) <|
  if a2 = 0 then (
    some (0, S_3)
  ) else (
    gc (f_X11_equal n (d - 1) 0 S_3 [x2, a1]) fun x8 S_9 =>
    if x8 < exB then (
    gg (inr x8) <|
    if x8 = 0 then (
      some (0, S_9)
    ) else (
      gc (f_X11_print n (d - 1) 0 S_9 [x2, 0]) fun x14 S_15 =>
      if x14 < exB then (
      gc (f_X11_print n (d - 1) 0 S_15 [a1, 1]) fun x18 S_19 =>
      if x18 < exB then (
      gg (inr x14) <|
      gg (inr x18) <|
      if x14 ≠ x18 then (
        some (0, S_19)
      ) else (
        gc (f_X11_undo n (d - 1) 0 S_19 []) fun x25 S_26 =>
        if x25 < exB then (
        gg (inr x25) <|
        gg (inr x2) <|
        if x25 ≠ x2 then (
          some (0, S_26)
        ) else (
          some (1, S_26)
        )
        ) else none
      )
      ) else none
      ) else none
    )
    ) else none
  )
  ) else none
def f_L_rereads (XL : Nat) (XS : Nat → Int) : Nat → Nat → Nat → GS → List Int → Option (Int × GS)
  | 0, _, _, _, _ => none
  | n + 1, d, pc, S, x => match pc, x with
    | 0, [a1] => b_L_rereads_0 XL XS n d (f_L_rereads XL XS n) S a1
    | 4, [a1, a2, a3] => b_L_rereads_4 XL XS n d (f_L_rereads XL XS n) S a1 a2 a3
    | 36, [a1, a3, s0] => b_L_rereads_36 XL XS n d (f_L_rereads XL XS n) S a1 a3 s0
    | 107, [a1, a3, a5, s0] => b_L_rereads_107 XL XS n d (f_L_rereads XL XS n) S a1 a3 a5 s0
    | 169, [a1, a2] => b_L_rereads_169 XL XS n d (f_L_rereads XL XS n) S a1 a2
    | _, _ => none
theorem e_L_rereads_0 {XL : Nat} {XS : Nat → Int} {n d : Nat} {S : GS} {a1 : Int} : f_L_rereads XL XS (n + 1) d 0 S [a1] = b_L_rereads_0 XL XS n d (f_L_rereads XL XS n) S a1 := rfl
theorem e_L_rereads_4 {XL : Nat} {XS : Nat → Int} {n d : Nat} {S : GS} {a1 : Int} {a2 : Int} {a3 : Int} : f_L_rereads XL XS (n + 1) d 4 S [a1, a2, a3] = b_L_rereads_4 XL XS n d (f_L_rereads XL XS n) S a1 a2 a3 := rfl
theorem e_L_rereads_36 {XL : Nat} {XS : Nat → Int} {n d : Nat} {S : GS} {a1 : Int} {a3 : Int} {s0 : Int} : f_L_rereads XL XS (n + 1) d 36 S [a1, a3, s0] = b_L_rereads_36 XL XS n d (f_L_rereads XL XS n) S a1 a3 s0 := rfl
theorem e_L_rereads_107 {XL : Nat} {XS : Nat → Int} {n d : Nat} {S : GS} {a1 : Int} {a3 : Int} {a5 : Int} {s0 : Int} : f_L_rereads XL XS (n + 1) d 107 S [a1, a3, a5, s0] = b_L_rereads_107 XL XS n d (f_L_rereads XL XS n) S a1 a3 a5 s0 := rfl
theorem e_L_rereads_169 {XL : Nat} {XS : Nat → Int} {n d : Nat} {S : GS} {a1 : Int} {a2 : Int} : f_L_rereads XL XS (n + 1) d 169 S [a1, a2] = b_L_rereads_169 XL XS n d (f_L_rereads XL XS n) S a1 a2 := rfl
def b_L_patches_0 (XL : Nat) (XS : Nat → Int) (n d : Nat) (rec : Nat → Nat → GS → List Int → Option (Int × GS)) (S : GS) (a1 : Int) (a2 : Int) : Option (Int × GS) :=
  gg (1 ≤ d) <|
  gc (f_X11_sum n (d - 1) 0 S [0]) fun x2 S_3 =>
  if x2 < exB then (
  gc (f_L_tryPatch XL XS n (d - 1) 0 S_3 [a1, a2]) fun x6 S_7 =>
  gg (inr x6) <|
  if x6 < 0 then (
    rec d 154 S_7 [x2, 1]
  ) else (
    gc (f_X11_lay n (d - 1) 0 S_7 [a1, x6]) fun x11 S_12 =>
    if x11 < exB then (
    gv (x2 + 1) fun x15 =>
    gg (inr x11) <|
    gg (inr x15) <|
    if x11 ≠ x15 then (
      rec d 79 S_12 [a1, x2, x6, x11, 0]
    ) else (
      gc (f_X11_equal n (d - 1) 0 S_12 [x11, a2]) fun x20 S_21 =>
      if x20 < exB then (
      gg (inr x20) <|
      if x20 = 0 then (
        rec d 79 S_21 [a1, x2, x6, x11, 0]
      ) else (
        gc (f_X11_node n (d - 1) 0 S_21 [x6, 0, 3]) fun x26 S_27 =>
        if x26 < exB then (
        gg (inr x26) <|
        if x26 ≠ 0 then (
          rec d 65 S_27 [a1, a2, x2, x6, x11, 0]
        ) else (
          rec d 65 S_27 [a1, a2, x2, x6, x11, 1]
        )
        ) else none
      )
      ) else none
    )
    ) else none
  )
  ) else none
def b_L_patches_65 (XL : Nat) (XS : Nat → Int) (n d : Nat) (rec : Nat → Nat → GS → List Int → Option (Int × GS)) (S : GS) (a1 : Int) (a2 : Int) (a3 : Int) (a4 : Int) (a6 : Int) (s0 : Int) : Option (Int × GS) :=
  gg (1 ≤ d) <|
  gc (f_X11_equal n (d - 1) 0 S [a1, a2]) fun x2 S_3 =>
  if x2 < exB then (
  gg (inr s0) <|
  gg (inr x2) <|
  if s0 ≠ x2 then (
    rec d 79 S_3 [a1, a3, a4, a6, 0]
  ) else (
    rec d 79 S_3 [a1, a3, a4, a6, 1]
  )
  ) else none
def b_L_patches_79 (XL : Nat) (XS : Nat → Int) (n d : Nat) (rec : Nat → Nat → GS → List Int → Option (Int × GS)) (S : GS) (a1 : Int) (a3 : Int) (a4 : Int) (a6 : Int) (s0 : Int) : Option (Int × GS) :=
  gg (1 ≤ d) <|
  gc (f_L_tryTurn XL XS n (d - 1) 0 S [a1, a4]) fun x2 S_3 =>
  gg (inr x2) <|
  if x2 < 0 then (
    rec d 154 S_3 [a3, s0]
  ) else (
    gc (f_X11_lay n (d - 1) 0 S_3 [a6, x2]) fun x7 S_8 =>
    if x7 < exB then (
    gg (inr s0) <|
    if s0 = 0 then (
      rec d 154 S_8 [a3, 0]
    ) else (
      gv (a3 + 3) fun x13 =>
      gg (inr x7) <|
      gg (inr x13) <|
      if x7 ≠ x13 then (
        rec d 154 S_8 [a3, 0]
      ) else (
        gc (f_X11_equal n (d - 1) 0 S_8 [x7, a1]) fun x18 S_19 =>
        if x18 < exB then (
        gg (inr x18) <|
        if x18 = 0 then (
          rec d 154 S_19 [a3, 0]
        ) else (
          gc (f_X11_node n (d - 1) 0 S_19 [x2, 0, 3]) fun x24 S_25 =>
          if x24 < exB then (
          gc (f_X11_node n (d - 1) 0 S_25 [a4, 0, 3]) fun x28 S_29 =>
          if x28 < exB then (
          gg (inr x24) <|
          gg (inr x28) <|
          if x24 ≠ x28 then (
            rec d 154 S_29 [a3, 0]
          ) else (
            rec d 154 S_29 [a3, 1]
          )
          ) else none
          ) else none
        )
        ) else none
      )
    )
    ) else none
  )
def b_L_patches_154 (XL : Nat) (XS : Nat → Int) (n d : Nat) (rec : Nat → Nat → GS → List Int → Option (Int × GS)) (S : GS) (a3 : Int) (a5 : Int) : Option (Int × GS) :=
  gg (1 ≤ d) <|
  gc (f_X11_sum n (d - 1) 0 S [0]) fun x2 S_3 =>
  if x2 < exB then (
  gg (inr x2) <|
  gg (inr a3) <|
  if x2 ≤ a3 then (
    gg (a5 = 0 ∨ a5 = 1) <|
    some (a5, S_3)
  ) else (
    gc (f_X11_undo n (d - 1) 0 S_3 []) fun x10 S_11 =>
    if x10 < exB then (
    rec d 154 S_11 [a3, a5]
    ) else none
  )
  ) else none
def f_L_patches (XL : Nat) (XS : Nat → Int) : Nat → Nat → Nat → GS → List Int → Option (Int × GS)
  | 0, _, _, _, _ => none
  | n + 1, d, pc, S, x => match pc, x with
    | 0, [a1, a2] => b_L_patches_0 XL XS n d (f_L_patches XL XS n) S a1 a2
    | 65, [a1, a2, a3, a4, a6, s0] => b_L_patches_65 XL XS n d (f_L_patches XL XS n) S a1 a2 a3 a4 a6 s0
    | 79, [a1, a3, a4, a6, s0] => b_L_patches_79 XL XS n d (f_L_patches XL XS n) S a1 a3 a4 a6 s0
    | 154, [a3, a5] => b_L_patches_154 XL XS n d (f_L_patches XL XS n) S a3 a5
    | _, _ => none
theorem e_L_patches_0 {XL : Nat} {XS : Nat → Int} {n d : Nat} {S : GS} {a1 : Int} {a2 : Int} : f_L_patches XL XS (n + 1) d 0 S [a1, a2] = b_L_patches_0 XL XS n d (f_L_patches XL XS n) S a1 a2 := rfl
theorem e_L_patches_65 {XL : Nat} {XS : Nat → Int} {n d : Nat} {S : GS} {a1 : Int} {a2 : Int} {a3 : Int} {a4 : Int} {a6 : Int} {s0 : Int} : f_L_patches XL XS (n + 1) d 65 S [a1, a2, a3, a4, a6, s0] = b_L_patches_65 XL XS n d (f_L_patches XL XS n) S a1 a2 a3 a4 a6 s0 := rfl
theorem e_L_patches_79 {XL : Nat} {XS : Nat → Int} {n d : Nat} {S : GS} {a1 : Int} {a3 : Int} {a4 : Int} {a6 : Int} {s0 : Int} : f_L_patches XL XS (n + 1) d 79 S [a1, a3, a4, a6, s0] = b_L_patches_79 XL XS n d (f_L_patches XL XS n) S a1 a3 a4 a6 s0 := rfl
theorem e_L_patches_154 {XL : Nat} {XS : Nat → Int} {n d : Nat} {S : GS} {a3 : Int} {a5 : Int} : f_L_patches XL XS (n + 1) d 154 S [a3, a5] = b_L_patches_154 XL XS n d (f_L_patches XL XS n) S a3 a5 := rfl
def b_L_joins_0 (XL : Nat) (XS : Nat → Int) (n d : Nat) (rec : Nat → Nat → GS → List Int → Option (Int × GS)) (S : GS) (a1 : Int) (a2 : Int) (a3 : Int) : Option (Int × GS) :=
  gg (1 ≤ d) <|
  gc (f_X11_sum n (d - 1) 0 S [0]) fun x2 S_3 =>
  if x2 < exB then (
  gc (f_L_tryJoin XL XS n (d - 1) 0 S_3 [a1, a2, a3]) fun x6 S_7 =>
  gg (inr x6) <|
  if x6 ≠ (-2) then (
    gc (f_X11_quarrels n (d - 1) 0 S_7 []) fun x11 S_12 =>
    rec d 31 S_12 [a1, a2, a3, x2, x6, x11]
  ) else (
    rec d 31 S_7 [a1, a2, a3, x2, x6, 0]
  )
  ) else none
def b_L_joins_31 (XL : Nat) (XS : Nat → Int) (n d : Nat) (rec : Nat → Nat → GS → List Int → Option (Int × GS)) (S : GS) (a1 : Int) (a2 : Int) (a3 : Int) (a4 : Int) (a5 : Int) (s0 : Int) : Option (Int × GS) :=
  gg (1 ≤ d) <|
  gc (f_L_tryJoin XL XS n (d - 1) 0 S [a1, a3, a2]) fun x2 S_3 =>
  gg (inr a5) <|
  if a5 ≠ (-1) then (
    gg (inr x2) <|
    if x2 ≠ (-1) then (
      rec d 64 S_3 [a1, a2, a3, a4, a5, s0, x2, 0, 0]
    ) else (
      rec d 64 S_3 [a1, a2, a3, a4, a5, s0, x2, 1, 0]
    )
  ) else (
    gg (inr x2) <|
    if x2 ≠ (-1) then (
      rec d 64 S_3 [a1, a2, a3, a4, a5, s0, x2, 0, 1]
    ) else (
      rec d 64 S_3 [a1, a2, a3, a4, a5, s0, x2, 1, 1]
    )
  )
def b_L_joins_64 (XL : Nat) (XS : Nat → Int) (n d : Nat) (rec : Nat → Nat → GS → List Int → Option (Int × GS)) (S : GS) (a1 : Int) (a2 : Int) (a3 : Int) (a4 : Int) (a5 : Int) (a6 : Int) (a7 : Int) (s0 : Int) (s1 : Int) : Option (Int × GS) :=
  gg (inr s1) <|
  gg (inr s0) <|
  if s1 ≠ s0 then (
    rec d 119 S [a1, a2, a3, a4, 0]
  ) else (
    gg (inr a5) <|
    if a5 < 0 then (
      rec d 92 S [a1, a2, a3, a4, a5, a6]
    ) else (
      gv (a5 + 1) fun x6 =>
      gg (inr a7) <|
      gg (inr x6) <|
      if a7 ≠ x6 then (
        rec d 119 S [a1, a2, a3, a4, 0]
      ) else (
        gg (1 ≤ d) <|
        gc (f_X11_equal n (d - 1) 0 S [a5, a7]) fun x12 S_13 =>
        if x12 < exB then (
        gg (inr x12) <|
        if x12 = 0 then (
          rec d 119 S_13 [a1, a2, a3, a4, 0]
        ) else (
          rec d 92 S_13 [a1, a2, a3, a4, a5, a6]
        )
        ) else none
      )
    )
  )
def b_L_joins_92 (XL : Nat) (XS : Nat → Int) (n d : Nat) (rec : Nat → Nat → GS → List Int → Option (Int × GS)) (S : GS) (a1 : Int) (a2 : Int) (a3 : Int) (a4 : Int) (a5 : Int) (a6 : Int) : Option (Int × GS) :=
  gg (inr a5) <|
  if a5 ≠ (-1) then (
    rec d 119 S [a1, a2, a3, a4, 1]
  ) else (
    gg (inr a6) <|
    if a6 ≤ 0 then (
      rec d 119 S [a1, a2, a3, a4, 0]
    ) else (
      gg (1 ≤ d) <|
      gc (f_X11_quarrels n (d - 1) 0 S []) fun x6 S_7 =>
      gg (inr x6) <|
      if x6 ≠ a6 then (
        rec d 119 S_7 [a1, a2, a3, a4, 0]
      ) else (
        rec d 119 S_7 [a1, a2, a3, a4, 1]
      )
    )
  )
def b_L_joins_119 (XL : Nat) (XS : Nat → Int) (n d : Nat) (rec : Nat → Nat → GS → List Int → Option (Int × GS)) (S : GS) (a1 : Int) (a2 : Int) (a3 : Int) (a4 : Int) (a8 : Int) : Option (Int × GS) :=
  gg (1 ≤ d) <|
  gc (f_X11_sum n (d - 1) 0 S [0]) fun x2 S_3 =>
  if x2 < exB then (
  gg (inr x2) <|
  gg (inr a4) <|
  if x2 ≤ a4 then (
    gc (f_L_tryJoin XL XS n (d - 1) 0 S_3 [a1, a1, a3]) fun x9 S_10 =>
    gg (inr a8) <|
    if a8 = 0 then (
      rec d 183 S_10 [a1, a2, a4, 0]
    ) else (
      gg (inr x9) <|
      if x9 ≠ a4 then (
        rec d 183 S_10 [a1, a2, a4, 0]
      ) else (
        gc (f_X11_equal n (d - 1) 0 S_10 [x9, a3]) fun x16 S_17 =>
        if x16 < exB then (
        gg (inr x16) <|
        if x16 = 0 then (
          rec d 183 S_17 [a1, a2, a4, 0]
        ) else (
          gc (f_X11_undo n (d - 1) 0 S_17 []) fun x22 S_23 =>
          if x22 < exB then (
          gg (inr x22) <|
          if x22 ≠ a4 then (
            rec d 183 S_23 [a1, a2, a4, 0]
          ) else (
            rec d 183 S_23 [a1, a2, a4, 1]
          )
          ) else none
        )
        ) else none
      )
    )
  ) else (
    gc (f_X11_undo n (d - 1) 0 S_3 []) fun x28 S_29 =>
    if x28 < exB then (
    rec d 119 S_29 [a1, a2, a3, a4, a8]
    ) else none
  )
  ) else none
def b_L_joins_183 (XL : Nat) (XS : Nat → Int) (n d : Nat) (rec : Nat → Nat → GS → List Int → Option (Int × GS)) (S : GS) (a1 : Int) (a2 : Int) (a4 : Int) (s0 : Int) : Option (Int × GS) :=
  gg (1 ≤ d) <|
  gc (f_L_tryJoin XL XS n (d - 1) 0 S [a1, a2, a2]) fun x2 S_3 =>
  gg (inr s0) <|
  if s0 = 0 then (
    some (0, S_3)
  ) else (
    gg (inr x2) <|
    gg (inr a4) <|
    if x2 ≠ a4 then (
      some (0, S_3)
    ) else (
      gc (f_X11_equal n (d - 1) 0 S_3 [x2, a2]) fun x10 S_11 =>
      if x10 < exB then (
      gg (inr x10) <|
      if x10 = 0 then (
        some (0, S_11)
      ) else (
        gc (f_X11_undo n (d - 1) 0 S_11 []) fun x16 S_17 =>
        if x16 < exB then (
        gg (inr x16) <|
        if x16 ≠ a4 then (
          some (0, S_17)
        ) else (
          some (1, S_17)
        )
        ) else none
      )
      ) else none
    )
  )
def f_L_joins (XL : Nat) (XS : Nat → Int) : Nat → Nat → Nat → GS → List Int → Option (Int × GS)
  | 0, _, _, _, _ => none
  | n + 1, d, pc, S, x => match pc, x with
    | 0, [a1, a2, a3] => b_L_joins_0 XL XS n d (f_L_joins XL XS n) S a1 a2 a3
    | 31, [a1, a2, a3, a4, a5, s0] => b_L_joins_31 XL XS n d (f_L_joins XL XS n) S a1 a2 a3 a4 a5 s0
    | 64, [a1, a2, a3, a4, a5, a6, a7, s0, s1] => b_L_joins_64 XL XS n d (f_L_joins XL XS n) S a1 a2 a3 a4 a5 a6 a7 s0 s1
    | 92, [a1, a2, a3, a4, a5, a6] => b_L_joins_92 XL XS n d (f_L_joins XL XS n) S a1 a2 a3 a4 a5 a6
    | 119, [a1, a2, a3, a4, a8] => b_L_joins_119 XL XS n d (f_L_joins XL XS n) S a1 a2 a3 a4 a8
    | 183, [a1, a2, a4, s0] => b_L_joins_183 XL XS n d (f_L_joins XL XS n) S a1 a2 a4 s0
    | _, _ => none
theorem e_L_joins_0 {XL : Nat} {XS : Nat → Int} {n d : Nat} {S : GS} {a1 : Int} {a2 : Int} {a3 : Int} : f_L_joins XL XS (n + 1) d 0 S [a1, a2, a3] = b_L_joins_0 XL XS n d (f_L_joins XL XS n) S a1 a2 a3 := rfl
theorem e_L_joins_31 {XL : Nat} {XS : Nat → Int} {n d : Nat} {S : GS} {a1 : Int} {a2 : Int} {a3 : Int} {a4 : Int} {a5 : Int} {s0 : Int} : f_L_joins XL XS (n + 1) d 31 S [a1, a2, a3, a4, a5, s0] = b_L_joins_31 XL XS n d (f_L_joins XL XS n) S a1 a2 a3 a4 a5 s0 := rfl
theorem e_L_joins_64 {XL : Nat} {XS : Nat → Int} {n d : Nat} {S : GS} {a1 : Int} {a2 : Int} {a3 : Int} {a4 : Int} {a5 : Int} {a6 : Int} {a7 : Int} {s0 : Int} {s1 : Int} : f_L_joins XL XS (n + 1) d 64 S [a1, a2, a3, a4, a5, a6, a7, s0, s1] = b_L_joins_64 XL XS n d (f_L_joins XL XS n) S a1 a2 a3 a4 a5 a6 a7 s0 s1 := rfl
theorem e_L_joins_92 {XL : Nat} {XS : Nat → Int} {n d : Nat} {S : GS} {a1 : Int} {a2 : Int} {a3 : Int} {a4 : Int} {a5 : Int} {a6 : Int} : f_L_joins XL XS (n + 1) d 92 S [a1, a2, a3, a4, a5, a6] = b_L_joins_92 XL XS n d (f_L_joins XL XS n) S a1 a2 a3 a4 a5 a6 := rfl
theorem e_L_joins_119 {XL : Nat} {XS : Nat → Int} {n d : Nat} {S : GS} {a1 : Int} {a2 : Int} {a3 : Int} {a4 : Int} {a8 : Int} : f_L_joins XL XS (n + 1) d 119 S [a1, a2, a3, a4, a8] = b_L_joins_119 XL XS n d (f_L_joins XL XS n) S a1 a2 a3 a4 a8 := rfl
theorem e_L_joins_183 {XL : Nat} {XS : Nat → Int} {n d : Nat} {S : GS} {a1 : Int} {a2 : Int} {a4 : Int} {s0 : Int} : f_L_joins XL XS (n + 1) d 183 S [a1, a2, a4, s0] = b_L_joins_183 XL XS n d (f_L_joins XL XS n) S a1 a2 a4 s0 := rfl
def b_L_finds_0 (XL : Nat) (XS : Nat → Int) (n d : Nat) (rec : Nat → Nat → GS → List Int → Option (Int × GS)) (S : GS) (a1 : Int) (a2 : Int) : Option (Int × GS) :=
  gg (1 ≤ d) <|
  gc (f_X11_tell n (d - 1) 0 S [a1, a2, 3]) fun x2 S_3 =>
  if x2 < exB then (
  gc (f_L_retyped XL XS n (d - 1) 0 S_3 []) fun x6 S_7 =>
  gg (inr x6) <|
  if x6 = 0 then (
    rec d 51 S_7 [a1, a2, 1]
  ) else (
    gc (f_X11_select n (d - 1) 0 S_7 [a1]) fun x11 S_12 =>
    if x11 < exB then (
    gg (inr x11) <|
    if x11 ≠ 1 then (
      rec d 51 S_12 [a1, a2, 0]
    ) else (
      gc (f_X11_find n (d - 1) 0 S_12 [0]) fun x17 S_18 =>
      if x17 < exB then (
      gg (inr x17) <|
      gg (inr a2) <|
      if x17 ≠ a2 then (
        rec d 51 S_18 [a1, a2, 0]
      ) else (
        gc (f_X11_sum n (d - 1) 0 S_18 [1]) fun x24 S_25 =>
        if x24 < exB then (
        gg (inr x24) <|
        if x24 ≠ 0 then (
          rec d 51 S_25 [a1, a2, 0]
        ) else (
          rec d 51 S_25 [a1, a2, 1]
        )
        ) else none
      )
      ) else none
    )
    ) else none
  )
  ) else none
def b_L_finds_51 (XL : Nat) (XS : Nat → Int) (n d : Nat) (rec : Nat → Nat → GS → List Int → Option (Int × GS)) (S : GS) (a1 : Int) (a2 : Int) (a4 : Int) : Option (Int × GS) :=
  gg (1 ≤ d) <|
  gc (f_X11_take n (d - 1) 0 S [a1, a2]) fun x2 S_3 =>
  if x2 < exB then (
  gg (inr a4) <|
  if a4 = 0 then (
    some (0, S_3)
  ) else (
    gc (f_X11_digest n (d - 1) 0 S_3 [x2, 0]) fun x8 S_9 =>
    if x8 < exB then (
    gc (f_X11_digest n (d - 1) 0 S_9 [a1, a2]) fun x12 S_13 =>
    if x12 < exB then (
    gg (inr x8) <|
    gg (inr x12) <|
    if x8 ≠ x12 then (
      some (0, S_13)
    ) else (
      gc (f_X11_node n (d - 1) 0 S_13 [x2, 0, 2]) fun x19 S_20 =>
      if x19 < exB then (
      gc (f_X11_node n (d - 1) 0 S_20 [a1, a2, 2]) fun x23 S_24 =>
      if x23 < exB then (
      gg (inr x19) <|
      gg (inr x23) <|
      if x19 ≠ x23 then (
        some (0, S_24)
      ) else (
        gc (f_X11_undo n (d - 1) 0 S_24 []) fun x30 S_31 =>
        if x30 < exB then (
        gg (inr x30) <|
        gg (inr x2) <|
        if x30 ≠ x2 then (
          some (0, S_31)
        ) else (
          some (1, S_31)
        )
        ) else none
      )
      ) else none
      ) else none
    )
    ) else none
    ) else none
  )
  ) else none
def f_L_finds (XL : Nat) (XS : Nat → Int) : Nat → Nat → Nat → GS → List Int → Option (Int × GS)
  | 0, _, _, _, _ => none
  | n + 1, d, pc, S, x => match pc, x with
    | 0, [a1, a2] => b_L_finds_0 XL XS n d (f_L_finds XL XS n) S a1 a2
    | 51, [a1, a2, a4] => b_L_finds_51 XL XS n d (f_L_finds XL XS n) S a1 a2 a4
    | _, _ => none
theorem e_L_finds_0 {XL : Nat} {XS : Nat → Int} {n d : Nat} {S : GS} {a1 : Int} {a2 : Int} : f_L_finds XL XS (n + 1) d 0 S [a1, a2] = b_L_finds_0 XL XS n d (f_L_finds XL XS n) S a1 a2 := rfl
theorem e_L_finds_51 {XL : Nat} {XS : Nat → Int} {n d : Nat} {S : GS} {a1 : Int} {a2 : Int} {a4 : Int} : f_L_finds XL XS (n + 1) d 51 S [a1, a2, a4] = b_L_finds_51 XL XS n d (f_L_finds XL XS n) S a1 a2 a4 := rfl
def b_L_law_15 (XL : Nat) (XS : Nat → Int) (n d : Nat) (rec : Nat → Nat → GS → List Int → Option (Int × GS)) (S : GS) (a2 : Int) (a3 : Int) (a4 : Int) : Option (Int × GS) :=
  gg (inr a4) <|
  if 5 ≤ a4 then (
    rec d 367 S [a2]
  ) else (
    gg (inr a2) <|
    if a2 = 0 then (
      rec d 367 S [a2]
    ) else (
      gg (1 ≤ d) <|
      gc (f_X11_sum n (d - 1) 0 S [0]) fun x6 S_7 =>
      if x6 < exB then (
      gc (f_L_cell XL XS n (d - 1) 0 S_7 [a3]) fun x10 S_11 =>
      gc (f_L_low XL XS n (d - 1) 0 S_11 [x10, 65536]) fun x13 S_14 =>
      gv (a3 + 1) fun x16 =>
      gc (f_L_cell XL XS n (d - 1) 0 S_14 [x16]) fun x18 S_19 =>
      gc (f_L_low XL XS n (d - 1) 0 S_19 [x18, 3]) fun x21 S_22 =>
      gv (1 + x21) fun x24 =>
      gc (f_X11_grow n (d - 1) 0 S_22 [x13, x24]) fun x26 S_27 =>
      if x26 < exB then (
      gv (a3 + 2) fun x30 =>
      gc (f_L_cell XL XS n (d - 1) 0 S_27 [x30]) fun x32 S_33 =>
      gc (f_L_low XL XS n (d - 1) 0 S_33 [x32, 65536]) fun x35 S_36 =>
      gc (f_L_tryVary XL XS n (d - 1) 0 S_36 [x26, x35]) fun x38 S_39 =>
      gv (a3 + 3) fun x41 =>
      gc (f_L_cell XL XS n (d - 1) 0 S_39 [x41]) fun x43 S_44 =>
      gc (f_L_low XL XS n (d - 1) 0 S_44 [x43, 65536]) fun x46 S_47 =>
      gc (f_L_tryVary XL XS n (d - 1) 0 S_47 [x26, x46]) fun x49 S_50 =>
      gg (inr x26) <|
      gg (inr x6) <|
      if x26 ≠ x6 then (
        rec d 143 S_50 [a3, a4, x26, x38, x49, 0]
      ) else (
        gv (x26 + 1) fun x55 =>
        gg (inr x38) <|
        gg (inr x55) <|
        if x38 ≠ x55 then (
          rec d 143 S_50 [a3, a4, x26, x38, x49, 0]
        ) else (
          gv (x38 + 1) fun x60 =>
          gg (inr x49) <|
          gg (inr x60) <|
          if x49 ≠ x60 then (
            rec d 143 S_50 [a3, a4, x26, x38, x49, 0]
          ) else (
            gc (f_X11_sum n (d - 1) 0 S_50 [0]) fun x65 S_66 =>
            if x65 < exB then (
            gv (x6 + 3) fun x69 =>
            gg (inr x65) <|
            gg (inr x69) <|
            if x65 ≠ x69 then (
              rec d 143 S_66 [a3, a4, x26, x38, x49, 0]
            ) else (
              rec d 143 S_66 [a3, a4, x26, x38, x49, 1]
            )
            ) else none
          )
        )
      )
      ) else none
      ) else none
    )
  )
def b_L_law_143 (XL : Nat) (XS : Nat → Int) (n d : Nat) (rec : Nat → Nat → GS → List Int → Option (Int × GS)) (S : GS) (a3 : Int) (a4 : Int) (a6 : Int) (a7 : Int) (a8 : Int) (s0 : Int) : Option (Int × GS) :=
  gg (inr s0) <|
  if s0 = 0 then (
    rec d 217 S [a3, a4, a6, a7, a8, 0]
  ) else (
    gg (1 ≤ d) <|
    gc (f_L_rereads XL XS n (d - 1) 0 S [a6]) fun x4 S_5 =>
    gg (inr x4) <|
    if x4 = 0 then (
      rec d 217 S_5 [a3, a4, a6, a7, a8, 0]
    ) else (
      gc (f_L_rereads XL XS n (d - 1) 0 S_5 [a7]) fun x9 S_10 =>
      gg (inr x9) <|
      if x9 = 0 then (
        rec d 217 S_10 [a3, a4, a6, a7, a8, 0]
      ) else (
        gc (f_L_patches XL XS n (d - 1) 0 S_10 [a6, a7]) fun x14 S_15 =>
        gg (inr x14) <|
        if x14 = 0 then (
          rec d 217 S_15 [a3, a4, a6, a7, a8, 0]
        ) else (
          gc (f_L_patches XL XS n (d - 1) 0 S_15 [a7, a8]) fun x19 S_20 =>
          gg (inr x19) <|
          if x19 = 0 then (
            rec d 217 S_20 [a3, a4, a6, a7, a8, 0]
          ) else (
            gc (f_L_patches XL XS n (d - 1) 0 S_20 [a8, a8]) fun x24 S_25 =>
            gg (inr x24) <|
            if x24 = 0 then (
              rec d 217 S_25 [a3, a4, a6, a7, a8, 0]
            ) else (
              gc (f_L_joins XL XS n (d - 1) 0 S_25 [a6, a7, a8]) fun x29 S_30 =>
              gg (inr x29) <|
              if x29 = 0 then (
                rec d 217 S_30 [a3, a4, a6, a7, a8, 0]
              ) else (
                rec d 217 S_30 [a3, a4, a6, a7, a8, 1]
              )
            )
          )
        )
      )
    )
  )
def b_L_law_217 (XL : Nat) (XS : Nat → Int) (n d : Nat) (rec : Nat → Nat → GS → List Int → Option (Int × GS)) (S : GS) (a3 : Int) (a4 : Int) (a6 : Int) (a7 : Int) (a8 : Int) (s0 : Int) : Option (Int × GS) :=
  gg (inr s0) <|
  if s0 = 0 then (
    rec d 281 S [a3, a4, a6, a7, a8, 0]
  ) else (
    gv (a3 + 4) fun x3 =>
    gg (1 ≤ d) <|
    gc (f_L_cell XL XS n (d - 1) 0 S [x3]) fun x6 S_7 =>
    gc (f_X11_node n (d - 1) 0 S_7 [a6, 0, 2]) fun x9 S_10 =>
    if x9 < exB then (
    gc (f_L_low XL XS n (d - 1) 0 S_10 [x6, x9]) fun x13 S_14 =>
    gc (f_L_finds XL XS n (d - 1) 0 S_14 [a6, x13]) fun x16 S_17 =>
    gg (inr x16) <|
    if x16 = 0 then (
      rec d 281 S_17 [a3, a4, a6, a7, a8, 0]
    ) else (
      gv (a3 + 5) fun x21 =>
      gc (f_L_cell XL XS n (d - 1) 0 S_17 [x21]) fun x23 S_24 =>
      gc (f_X11_node n (d - 1) 0 S_24 [a8, 0, 2]) fun x26 S_27 =>
      if x26 < exB then (
      gc (f_L_low XL XS n (d - 1) 0 S_27 [x23, x26]) fun x30 S_31 =>
      gc (f_L_finds XL XS n (d - 1) 0 S_31 [a8, x30]) fun x33 S_34 =>
      gg (inr x33) <|
      if x33 = 0 then (
        rec d 281 S_34 [a3, a4, a6, a7, a8, 0]
      ) else (
        rec d 281 S_34 [a3, a4, a6, a7, a8, 1]
      )
      ) else none
    )
    ) else none
  )
def b_L_law_281 (XL : Nat) (XS : Nat → Int) (n d : Nat) (rec : Nat → Nat → GS → List Int → Option (Int × GS)) (S : GS) (a3 : Int) (a4 : Int) (a6 : Int) (a7 : Int) (a8 : Int) (s0 : Int) : Option (Int × GS) :=
  gg (inr s0) <|
  if s0 = 0 then (
    gv (a3 + 6) fun x3 =>
    gv (a4 + 1) fun x5 =>
    rec d 15 S [0, x3, x5]
  ) else (
    gg (1 ≤ d) <|
    gc (f_X11_equal n (d - 1) 0 S [a6, a6]) fun x8 S_9 =>
    if x8 < exB then (
    gg (inr x8) <|
    if x8 = 0 then (
      gv (a3 + 6) fun x14 =>
      gv (a4 + 1) fun x16 =>
      rec d 15 S_9 [0, x14, x16]
    ) else (
      gc (f_X11_digest n (d - 1) 0 S_9 [a6, 0]) fun x18 S_19 =>
      if x18 < exB then (
      gc (f_X11_digest n (d - 1) 0 S_19 [a7, 0]) fun x22 S_23 =>
      if x22 < exB then (
      gg (inr x18) <|
      gg (inr x22) <|
      if x18 = x22 then (
        rec d 325 S_23 [a3, a4, a6, a7, a8]
      ) else (
        gc (f_X11_equal n (d - 1) 0 S_23 [a6, a7]) fun x29 S_30 =>
        if x29 < exB then (
        gg (inr x29) <|
        if x29 ≠ 0 then (
          gv (a3 + 6) fun x35 =>
          gv (a4 + 1) fun x37 =>
          rec d 15 S_30 [0, x35, x37]
        ) else (
          rec d 325 S_30 [a3, a4, a6, a7, a8]
        )
        ) else none
      )
      ) else none
      ) else none
    )
    ) else none
  )
def b_L_law_325 (XL : Nat) (XS : Nat → Int) (n d : Nat) (rec : Nat → Nat → GS → List Int → Option (Int × GS)) (S : GS) (a3 : Int) (a4 : Int) (a6 : Int) (a7 : Int) (a8 : Int) : Option (Int × GS) :=
  gg (1 ≤ d) <|
  gc (f_X11_isSound n (d - 1) 0 S [a6]) fun x2 S_3 =>
  if x2 < exB then (
  gg (inr x2) <|
  if x2 = 0 then (
    gv (a3 + 6) fun x8 =>
    gv (a4 + 1) fun x10 =>
    rec d 15 S_3 [0, x8, x10]
  ) else (
    gc (f_X11_isSound n (d - 1) 0 S_3 [a7]) fun x12 S_13 =>
    if x12 < exB then (
    gg (inr x12) <|
    if x12 = 0 then (
      gv (a3 + 6) fun x18 =>
      gv (a4 + 1) fun x20 =>
      rec d 15 S_13 [0, x18, x20]
    ) else (
      gc (f_X11_isSound n (d - 1) 0 S_13 [a8]) fun x22 S_23 =>
      if x22 < exB then (
      gg (inr x22) <|
      if x22 = 0 then (
        gv (a3 + 6) fun x28 =>
        gv (a4 + 1) fun x30 =>
        rec d 15 S_23 [0, x28, x30]
      ) else (
        gv (a3 + 6) fun x32 =>
        gv (a4 + 1) fun x34 =>
        rec d 15 S_23 [1, x32, x34]
      )
      ) else none
    )
    ) else none
  )
  ) else none
def b_L_law_367 (XL : Nat) (XS : Nat → Int) (n d : Nat) (rec : Nat → Nat → GS → List Int → Option (Int × GS)) (S : GS) (a2 : Int) : Option (Int × GS) :=
  gg (1 ≤ d) <|
  gc (f_X11_standard n (d - 1) 0 S []) fun x2 S_3 =>
  if x2 < exB then (
  gg (inr a2) <|
  if a2 = 0 then (
    some (0, S_3)
  ) else (
    gc (f_X11_check n (d - 1) 0 S_3 [x2, x2]) fun x8 S_9 =>
    if x8 < exB then (
    gg (inr x8) <|
    if x8 ≠ 0 then (
      some (0, S_9)
    ) else (
      gc (f_X11_check n (d - 1) 0 S_9 [x2, 0]) fun x14 S_15 =>
      if x14 < exB then (
      gg (inr x14) <|
      if x14 < 0 then (
        some (0, S_15)
      ) else (
        gc (f_X11_isSound n (d - 1) 0 S_15 [x2]) fun x20 S_21 =>
        if x20 < exB then (
        gg (inr x20) <|
        if x20 = 0 then (
          some (0, S_21)
        ) else (
          some (1, S_21)
        )
        ) else none
      )
      ) else none
    )
    ) else none
  )
  ) else none
def f_L_law (XL : Nat) (XS : Nat → Int) : Nat → Nat → Nat → GS → List Int → Option (Int × GS)
  | 0, _, _, _, _ => none
  | n + 1, d, pc, S, x => match pc, x with
    | 15, [a2, a3, a4] => b_L_law_15 XL XS n d (f_L_law XL XS n) S a2 a3 a4
    | 143, [a3, a4, a6, a7, a8, s0] => b_L_law_143 XL XS n d (f_L_law XL XS n) S a3 a4 a6 a7 a8 s0
    | 217, [a3, a4, a6, a7, a8, s0] => b_L_law_217 XL XS n d (f_L_law XL XS n) S a3 a4 a6 a7 a8 s0
    | 281, [a3, a4, a6, a7, a8, s0] => b_L_law_281 XL XS n d (f_L_law XL XS n) S a3 a4 a6 a7 a8 s0
    | 325, [a3, a4, a6, a7, a8] => b_L_law_325 XL XS n d (f_L_law XL XS n) S a3 a4 a6 a7 a8
    | 367, [a2] => b_L_law_367 XL XS n d (f_L_law XL XS n) S a2
    | _, _ => none
theorem e_L_law_15 {XL : Nat} {XS : Nat → Int} {n d : Nat} {S : GS} {a2 : Int} {a3 : Int} {a4 : Int} : f_L_law XL XS (n + 1) d 15 S [a2, a3, a4] = b_L_law_15 XL XS n d (f_L_law XL XS n) S a2 a3 a4 := rfl
theorem e_L_law_143 {XL : Nat} {XS : Nat → Int} {n d : Nat} {S : GS} {a3 : Int} {a4 : Int} {a6 : Int} {a7 : Int} {a8 : Int} {s0 : Int} : f_L_law XL XS (n + 1) d 143 S [a3, a4, a6, a7, a8, s0] = b_L_law_143 XL XS n d (f_L_law XL XS n) S a3 a4 a6 a7 a8 s0 := rfl
theorem e_L_law_217 {XL : Nat} {XS : Nat → Int} {n d : Nat} {S : GS} {a3 : Int} {a4 : Int} {a6 : Int} {a7 : Int} {a8 : Int} {s0 : Int} : f_L_law XL XS (n + 1) d 217 S [a3, a4, a6, a7, a8, s0] = b_L_law_217 XL XS n d (f_L_law XL XS n) S a3 a4 a6 a7 a8 s0 := rfl
theorem e_L_law_281 {XL : Nat} {XS : Nat → Int} {n d : Nat} {S : GS} {a3 : Int} {a4 : Int} {a6 : Int} {a7 : Int} {a8 : Int} {s0 : Int} : f_L_law XL XS (n + 1) d 281 S [a3, a4, a6, a7, a8, s0] = b_L_law_281 XL XS n d (f_L_law XL XS n) S a3 a4 a6 a7 a8 s0 := rfl
theorem e_L_law_325 {XL : Nat} {XS : Nat → Int} {n d : Nat} {S : GS} {a3 : Int} {a4 : Int} {a6 : Int} {a7 : Int} {a8 : Int} : f_L_law XL XS (n + 1) d 325 S [a3, a4, a6, a7, a8] = b_L_law_325 XL XS n d (f_L_law XL XS n) S a3 a4 a6 a7 a8 := rfl
theorem e_L_law_367 {XL : Nat} {XS : Nat → Int} {n d : Nat} {S : GS} {a2 : Int} : f_L_law XL XS (n + 1) d 367 S [a2] = b_L_law_367 XL XS n d (f_L_law XL XS n) S a2 := rfl
