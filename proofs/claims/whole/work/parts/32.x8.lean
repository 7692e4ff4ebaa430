def b_X8_standardTo_0 (n d : Nat) (rec : Nat → Nat → GS → List Int → Option (Int × GS)) (S : GS) (a0 : Int) : Option (Int × GS) :=
  gg (1 ≤ d) <|
  gg (gSh (a0.toNat)) <|
  gc (f_X9_clear n (d - 1) 0 S [((a0.toNat : Nat) : Int)]) fun x3 S_4 =>
  gc (f_X9_addAll n (d - 1) 0 S_4 [((a0.toNat : Nat) : Int), ((0 : Nat) : Int)]) fun x6 S_7 =>
  gc (f_X9_addAll n (d - 1) 0 S_7 [((a0.toNat : Nat) : Int), ((1 : Nat) : Int)]) fun x9 S_10 =>
  gc (f_X9_addAll n (d - 1) 0 S_10 [((a0.toNat : Nat) : Int), ((2 : Nat) : Int)]) fun x12 S_13 =>
  gc (f_X9_addAll n (d - 1) 0 S_13 [((a0.toNat : Nat) : Int), ((3 : Nat) : Int)]) fun x15 S_16 =>
  gc (f_X9_addAll n (d - 1) 0 S_16 [((a0.toNat : Nat) : Int), ((4 : Nat) : Int)]) fun x18 S_19 =>
  gc (f_X9_addAll n (d - 1) 0 S_19 [((a0.toNat : Nat) : Int), ((5 : Nat) : Int)]) fun x21 S_22 =>
  gc (f_X9_addAll n (d - 1) 0 S_22 [((a0.toNat : Nat) : Int), ((6 : Nat) : Int)]) fun x24 S_25 =>
  gc (f_X9_addAll n (d - 1) 0 S_25 [((a0.toNat : Nat) : Int), ((7 : Nat) : Int)]) fun x27 S_28 =>
  gc (f_X9_addAll n (d - 1) 0 S_28 [((a0.toNat : Nat) : Int), ((8 : Nat) : Int)]) fun x30 S_31 =>
  gc (f_X9_addAll n (d - 1) 0 S_31 [((a0.toNat : Nat) : Int), ((9 : Nat) : Int)]) fun x33 S_34 =>
  gc (f_X9_addAll n (d - 1) 0 S_34 [((a0.toNat : Nat) : Int), ((10 : Nat) : Int)]) fun x36 S_37 =>
  gc (f_X9_addAll n (d - 1) 0 S_37 [((a0.toNat : Nat) : Int), ((11 : Nat) : Int)]) fun x39 S_40 =>
  some (0, S_40)
def f_X8_standardTo : Nat → Nat → Nat → GS → List Int → Option (Int × GS)
  | 0, _, _, _, _ => none
  | n + 1, d, pc, S, x => match pc, x with
    | 0, [a0] => b_X8_standardTo_0 n d (f_X8_standardTo n) S a0
    | _, _ => none
def P_X8_standardTo_0 (l : Launch) (Z : XZ) (L : Nat → Nat) (n : Nat) : Prop := ∀ (d : Nat) (S : GS) (a0 : Int) (x : Int) (S1 : GS), f_X8_standardTo n d 0 S [a0] = some (x, S1) → GA l Z L yX8_standardTo cX8_standardTo 1 none [] d 0 0 (fun v S' => v = none ∧ S1 = S') (fun _ _ => False) 0 (gl [(0, .ref (L a0.toNat))]) [] S 0 0
set_option maxHeartbeats 4000000 in
set_option maxRecDepth 20000 in
theorem t_X8_standardTo_0 {l : Launch} {Z : XZ} {L : Nat → Nat} (n : Nat) (ih_X8_standardTo_0 : P_X8_standardTo_0 l Z L n) : P_X8_standardTo_0 l Z L (n + 1) := by
  intro d S a0 x S1 H
  have H : b_X8_standardTo_0 n d (f_X8_standardTo n) S a0 = some (x, S1) := H
  unfold b_X8_standardTo_0 at H
  refine GA.aload_n dX8_standardTo_0 rfl ?_
  obtain ⟨hg1, H⟩ := gg_e H
  obtain ⟨hg2, H⟩ := gg_e H
  obtain ⟨x3, S_4, hc5, H⟩ := gc_e H
  refine GA.callV (m_X9_clear hc5) xs_X8_102 dX8_standardTo_1 (gsS hg2) (by omega) rfl rfl (by omega) (by decide) rfl (Nat.le_of_ble_eq_true rfl) (by omega) (by omega) rfl (fun E S9 hx => hx.elim) (fun v S9 hq => ?_)
  obtain ⟨rfl, rfl⟩ := hq
  refine GA.aload_n dX8_standardTo_4 rfl ?_
  refine GA.ldcS (i := 0) (tx := "{\"names\":{\"s\":{\"some\":[{\"kind\":\"truth\"},{\"kind\":\"map\",\"keys\":{") (by decide +kernel) dX8_standardTo_5 ?_
  obtain ⟨x6, S_7, hc8, H⟩ := gc_e H
  refine GA.callV (m_X9_addAll hc8) xs_X8_17 dX8_standardTo_7 (gsS hg2) (by omega) rfl rfl (by omega) (by decide) rfl (Nat.le_of_ble_eq_true rfl) (by omega) (by omega) rfl (fun E S9 hx => hx.elim) (fun v S9 hq => ?_)
  obtain ⟨rfl, rfl⟩ := hq
  refine GA.aload_n dX8_standardTo_10 rfl ?_
  refine GA.ldcS (i := 1) (tx := "\"kind\":{\"some\":[{\"ref\":\"k\"},{\"kind\":\"row\",\"items\":{\"ref\":\"k\"}}]},") (by decide +kernel) dX8_standardTo_11 ?_
  obtain ⟨x9, S_10, hc11, H⟩ := gc_e H
  refine GA.callV (m_X9_addAll hc11) xs_X8_17 dX8_standardTo_13 (gsS hg2) (by omega) rfl rfl (by omega) (by decide) rfl (Nat.le_of_ble_eq_true rfl) (by omega) (by omega) rfl (fun E S9 hx => hx.elim) (fun v S9 hq => ?_)
  obtain ⟨rfl, rfl⟩ := hq
  refine GA.aload_n dX8_standardTo_16 rfl ?_
  refine GA.ldcS (i := 2) (tx := "\"least\":{\"kind\":\"number\"},\"most\":{\"kind\":\"number\"},") (by decide +kernel) dX8_standardTo_17 ?_
  obtain ⟨x12, S_13, hc14, H⟩ := gc_e H
  refine GA.callV (m_X9_addAll hc14) xs_X8_17 dX8_standardTo_19 (gsS hg2) (by omega) rfl rfl (by omega) (by decide) rfl (Nat.le_of_ble_eq_true rfl) (by omega) (by omega) rfl (fun E S9 hx => hx.elim) (fun v S9 hq => ?_)
  obtain ⟨rfl, rfl⟩ := hq
  refine GA.aload_n dX8_standardTo_22 rfl ?_
  refine GA.ldcS (i := 3) (tx := "\"shortest\":{\"kind\":\"number\"},\"longest\":{\"kind\":\"number\"},") (by decide +kernel) dX8_standardTo_23 ?_
  obtain ⟨x15, S_16, hc17, H⟩ := gc_e H
  refine GA.callV (m_X9_addAll hc17) xs_X8_17 dX8_standardTo_25 (gsS hg2) (by omega) rfl rfl (by omega) (by decide) rfl (Nat.le_of_ble_eq_true rfl) (by omega) (by omega) rfl (fun E S9 hx => hx.elim) (fun v S9 hq => ?_)
  obtain ⟨rfl, rfl⟩ := hq
  refine GA.aload_n dX8_standardTo_28 rfl ?_
  refine GA.ldcS (i := 4) (tx := "\"needs\":{\"kind\":\"row\",\"items\":{\"kind\":\"text\"}},") (by decide +kernel) dX8_standardTo_29 ?_
  obtain ⟨x18, S_19, hc20, H⟩ := gc_e H
  refine GA.callV (m_X9_addAll hc20) xs_X8_17 dX8_standardTo_31 (gsS hg2) (by omega) rfl rfl (by omega) (by decide) rfl (Nat.le_of_ble_eq_true rfl) (by omega) (by omega) rfl (fun E S9 hx => hx.elim) (fun v S9 hq => ?_)
  obtain ⟨rfl, rfl⟩ := hq
  refine GA.aload_n dX8_standardTo_34 rfl ?_
  refine GA.ldcS (i := 5) (tx := "\"keys\":{\"ref\":\"m\"},\"others\":{\"ref\":\"s\"},\"items\":{\"ref\":\"s\"},") (by decide +kernel) dX8_standardTo_35 ?_
  obtain ⟨x21, S_22, hc23, H⟩ := gc_e H
  refine GA.callV (m_X9_addAll hc23) xs_X8_17 dX8_standardTo_37 (gsS hg2) (by omega) rfl rfl (by omega) (by decide) rfl (Nat.le_of_ble_eq_true rfl) (by omega) (by omega) rfl (fun E S9 hx => hx.elim) (fun v S9 hq => ?_)
  obtain ⟨rfl, rfl⟩ := hq
  refine GA.aload_n dX8_standardTo_40 rfl ?_
  refine GA.ldcS (i := 6) (tx := "\"only\":{\"kind\":\"row\"},\"all\":{\"ref\":\"r\"},\"some\":{\"ref\":\"r\"},") (by decide +kernel) dX8_standardTo_41 ?_
  obtain ⟨x24, S_25, hc26, H⟩ := gc_e H
  refine GA.callV (m_X9_addAll hc26) xs_X8_17 dX8_standardTo_43 (gsS hg2) (by omega) rfl rfl (by omega) (by decide) rfl (Nat.le_of_ble_eq_true rfl) (by omega) (by omega) rfl (fun E S9 hx => hx.elim) (fun v S9 hq => ?_)
  obtain ⟨rfl, rfl⟩ := hq
  refine GA.aload_n dX8_standardTo_46 rfl ?_
  refine GA.ldcS (i := 7) (tx := "\"one\":{\"ref\":\"r\"},\"not\":{\"ref\":\"s\"},") (by decide +kernel) dX8_standardTo_47 ?_
  obtain ⟨x27, S_28, hc29, H⟩ := gc_e H
  refine GA.callV (m_X9_addAll hc29) xs_X8_17 dX8_standardTo_49 (gsS hg2) (by omega) rfl rfl (by omega) (by decide) rfl (Nat.le_of_ble_eq_true rfl) (by omega) (by omega) rfl (fun E S9 hx => hx.elim) (fun v S9 hq => ?_)
  obtain ⟨rfl, rfl⟩ := hq
  refine GA.aload_n dX8_standardTo_52 rfl ?_
  refine GA.ldcS (i := 8) (tx := "\"ref\":{\"kind\":\"text\"},\"names\":{\"ref\":\"m\"}}}]},") (by decide +kernel) dX8_standardTo_53 ?_
  obtain ⟨x30, S_31, hc32, H⟩ := gc_e H
  refine GA.callV (m_X9_addAll hc32) xs_X8_17 dX8_standardTo_55 (gsS hg2) (by omega) rfl rfl (by omega) (by decide) rfl (Nat.le_of_ble_eq_true rfl) (by omega) (by omega) rfl (fun E S9 hx => hx.elim) (fun v S9 hq => ?_)
  obtain ⟨rfl, rfl⟩ := hq
  refine GA.aload_n dX8_standardTo_58 rfl ?_
  refine GA.ldcS (i := 9) (tx := "\"k\":{\"only\":[\"nothing\",\"truth\",\"number\",\"text\",\"row\",\"map\",\"whole\"]},") (by decide +kernel) dX8_standardTo_59 ?_
  obtain ⟨x33, S_34, hc35, H⟩ := gc_e H
  refine GA.callV (m_X9_addAll hc35) xs_X8_17 dX8_standardTo_61 (gsS hg2) (by omega) rfl rfl (by omega) (by decide) rfl (Nat.le_of_ble_eq_true rfl) (by omega) (by omega) rfl (fun E S9 hx => hx.elim) (fun v S9 hq => ?_)
  obtain ⟨rfl, rfl⟩ := hq
  refine GA.aload_n dX8_standardTo_64 rfl ?_
  refine GA.ldcS (i := 10) (tx := "\"m\":{\"kind\":\"map\",\"others\":{\"ref\":\"s\"}},") (by decide +kernel) dX8_standardTo_65 ?_
  obtain ⟨x36, S_37, hc38, H⟩ := gc_e H
  refine GA.callV (m_X9_addAll hc38) xs_X8_17 dX8_standardTo_67 (gsS hg2) (by omega) rfl rfl (by omega) (by decide) rfl (Nat.le_of_ble_eq_true rfl) (by omega) (by omega) rfl (fun E S9 hx => hx.elim) (fun v S9 hq => ?_)
  obtain ⟨rfl, rfl⟩ := hq
  refine GA.aload_n dX8_standardTo_70 rfl ?_
  refine GA.ldcS (i := 11) (tx := "\"r\":{\"kind\":\"row\",\"items\":{\"ref\":\"s\"}}},\"ref\":\"s\"}") (by decide +kernel) dX8_standardTo_71 ?_
  obtain ⟨x39, S_40, hc41, H⟩ := gc_e H
  refine GA.callV (m_X9_addAll hc41) xs_X8_17 dX8_standardTo_73 (gsS hg2) (by omega) rfl rfl (by omega) (by decide) rfl (Nat.le_of_ble_eq_true rfl) (by omega) (by omega) rfl (fun E S9 hx => hx.elim) (fun v S9 hq => ?_)
  obtain ⟨rfl, rfl⟩ := hq
  cases H
  exact GA.vret rfl dX8_standardTo_76 (by omega) (by omega) ⟨rfl, rfl⟩
theorem g_X8_standardTo {l : Launch} {Z : XZ} {L : Nat → Nat} : ∀ n, P_X8_standardTo_0 l Z L n
  | 0 => fun _ _ _ _ _ H => no_e H
  | n + 1 => t_X8_standardTo_0 n (g_X8_standardTo n)
theorem m_X8_standardTo {l : Launch} {Z : XZ} {L : Nat → Nat} {n d : Nat} {S : GS} {a0 : Int} {x : Int} {S1 : GS} (H : f_X8_standardTo n d 0 S [a0] = some (x, S1)) : GM l Z L yX8_standardTo cX8_standardTo 1 none [] d 0 0 [.ref (L a0.toNat)] S (fun v S' => v = none ∧ S1 = S') (fun _ _ => False) := GM.of (by decide) (Nat.le_of_ble_eq_true rfl) ((g_X8_standardTo n) _ _ _ _ _ H)

def b_X8_number_0 (n d : Nat) (rec : Nat → Nat → GS → List Int → Option (Int × GS)) (S : GS) (a0 : Int) (a1 : Int) (a2 : Int) : Option (Int × GS) :=
  gg (1 ≤ d) <|
  gg (gT (a0.toNat)) <|
  gc (f_X10_signsTo n (d - 1) 0 S [((a0.toNat : Nat) : Int), a1, ((a2.toNat : Nat) : Int)]) fun x3 S_4 =>
  gc (f_X10_power n (d - 1) 0 S_4 [((a0.toNat : Nat) : Int), a1]) fun x6 S_7 =>
  gg (inr x6) <|
  if x6 = 0 then (
    some (0, S_7)
  ) else (
    gg (gSh (a2.toNat)) <|
    gc (f_X9_add n (d - 1) 0 S_7 [((a2.toNat : Nat) : Int), 101]) fun x12 S_13 =>
    gc (f_X10_power n (d - 1) 0 S_13 [((a0.toNat : Nat) : Int), a1]) fun x15 S_16 =>
    gc (f_X9_addNumber n (d - 1) 0 S_16 [((a2.toNat : Nat) : Int), x15]) fun x18 S_19 =>
    some (0, S_19)
  )
def f_X8_number : Nat → Nat → Nat → GS → List Int → Option (Int × GS)
  | 0, _, _, _, _ => none
  | n + 1, d, pc, S, x => match pc, x with
    | 0, [a0, a1, a2] => b_X8_number_0 n d (f_X8_number n) S a0 a1 a2
    | _, _ => none
def P_X8_number_0 (l : Launch) (Z : XZ) (L : Nat → Nat) (n : Nat) : Prop := ∀ (d : Nat) (S : GS) (a0 : Int) (a1 : Int) (a2 : Int) (x : Int) (S1 : GS), f_X8_number n d 0 S [a0, a1, a2] = some (x, S1) → GA l Z L yX8_number cX8_number 3 none [] d 0 0 (fun v S' => v = none ∧ S1 = S') (fun _ _ => False) 0 (gl [(0, .ref (L a0.toNat)), (1, .int (J a1)), (2, .ref (L a2.toNat))]) [] S 0 0
set_option maxHeartbeats 4000000 in
set_option maxRecDepth 20000 in
theorem t_X8_number_0 {l : Launch} {Z : XZ} {L : Nat → Nat} (n : Nat) (ih_X8_number_0 : P_X8_number_0 l Z L n) : P_X8_number_0 l Z L (n + 1) := by
  intro d S a0 a1 a2 x S1 H
  have H : b_X8_number_0 n d (f_X8_number n) S a0 a1 a2 = some (x, S1) := H
  unfold b_X8_number_0 at H
  refine GA.aload_n dX8_number_0 rfl ?_
  refine GA.iload_n dX8_number_1 rfl ?_
  refine GA.aload_n dX8_number_2 rfl ?_
  obtain ⟨hg1, H⟩ := gg_e H
  obtain ⟨hg2, H⟩ := gg_e H
  obtain ⟨x3, S_4, hc5, H⟩ := gc_e H
  refine GA.callV (m_X10_signsTo hc5) xs_X8_44 dX8_number_3 (gsT hg2) (by omega) rfl rfl (by omega) (by decide) rfl (Nat.le_of_ble_eq_true rfl) (by omega) (by omega) rfl (fun E S9 hx => hx.elim) (fun v S9 hq => ?_)
  obtain ⟨rfl, rfl⟩ := hq
  refine GA.aload_n dX8_number_6 rfl ?_
  refine GA.iload_n dX8_number_7 rfl ?_
  obtain ⟨x6, S_7, hc8, H⟩ := gc_e H
  refine GA.callV (m_X10_power hc8) xs_X8_48 dX8_number_8 (gsT hg2) (by omega) rfl rfl (by omega) (by decide) rfl (Nat.le_of_ble_eq_true rfl) (by omega) (by omega) rfl (fun E S9 hx => hx.elim) (fun v S9 hq => ?_)
  obtain ⟨rfl, rfl⟩ := hq
  obtain ⟨hg9, H⟩ := gg_e H
  refine GV.if_eq (tgt := 29) hg9 dX8_number_11 (by decide) (fun c10 => ?_) (fun c10 => ?_)
  · have H := it_t H c10
    cases H
    exact GA.vret rfl dX8_number_29 (by omega) (by omega) ⟨rfl, rfl⟩
  · have H := it_f H c10
    refine GA.aload_n dX8_number_14 rfl ?_
    refine GA.bipush dX8_number_15 rfl ?_
    obtain ⟨hg11, H⟩ := gg_e H
    obtain ⟨x12, S_13, hc14, H⟩ := gc_e H
    refine GA.callV (m_X9_add hc14) xs_X8_51 dX8_number_17 (gsS hg11) (by omega) rfl rfl (by omega) (by decide) rfl (Nat.le_of_ble_eq_true rfl) (by omega) (by omega) rfl (fun E S9 hx => hx.elim) (fun v S9 hq => ?_)
    obtain ⟨rfl, rfl⟩ := hq
    refine GA.aload_n dX8_number_20 rfl ?_
    refine GA.aload_n dX8_number_21 rfl ?_
    refine GA.iload_n dX8_number_22 rfl ?_
    obtain ⟨x15, S_16, hc17, H⟩ := gc_e H
    refine GA.callV (m_X10_power hc17) xs_X8_48 dX8_number_23 (gsT hg2) (by omega) rfl rfl (by omega) (by decide) rfl (Nat.le_of_ble_eq_true rfl) (by omega) (by omega) rfl (fun E S9 hx => hx.elim) (fun v S9 hq => ?_)
    obtain ⟨rfl, rfl⟩ := hq
    obtain ⟨x18, S_19, hc20, H⟩ := gc_e H
    refine GA.callV (m_X9_addNumber hc20) xs_X8_55 dX8_number_26 (gsS hg11) (by omega) rfl rfl (by omega) (by decide) rfl (Nat.le_of_ble_eq_true rfl) (by omega) (by omega) rfl (fun E S9 hx => hx.elim) (fun v S9 hq => ?_)
    obtain ⟨rfl, rfl⟩ := hq
    cases H
    exact GA.vret rfl dX8_number_29 (by omega) (by omega) ⟨rfl, rfl⟩
theorem g_X8_number {l : Launch} {Z : XZ} {L : Nat → Nat} : ∀ n, P_X8_number_0 l Z L n
  | 0 => fun _ _ _ _ _ _ _ H => no_e H
  | n + 1 => t_X8_number_0 n (g_X8_number n)
theorem m_X8_number {l : Launch} {Z : XZ} {L : Nat → Nat} {n d : Nat} {S : GS} {a0 : Int} {a1 : Int} {a2 : Int} {x : Int} {S1 : GS} (H : f_X8_number n d 0 S [a0, a1, a2] = some (x, S1)) : GM l Z L yX8_number cX8_number 3 none [] d 0 0 [.ref (L a0.toNat), .int (J a1), .ref (L a2.toNat)] S (fun v S' => v = none ∧ S1 = S') (fun _ _ => False) := GM.of (by decide) (Nat.le_of_ble_eq_true rfl) ((g_X8_number n) _ _ _ _ _ _ _ H)

def b_X8_text_0 (n d : Nat) (rec : Nat → Nat → GS → List Int → Option (Int × GS)) (S : GS) (a0 : Int) (a1 : Int) (a2 : Int) : Option (Int × GS) :=
  gg (1 ≤ d) <|
  gg (gSh (a2.toNat)) <|
  gc (f_X9_add n (d - 1) 0 S [((a2.toNat : Nat) : Int), 34]) fun x3 S_4 =>
  rec d 8 S_4 [((a0.toNat : Nat) : Int), a1, ((a2.toNat : Nat) : Int), 0]
def b_X8_text_8 (n d : Nat) (rec : Nat → Nat → GS → List Int → Option (Int × GS)) (S : GS) (a0 : Int) (a1 : Int) (a2 : Int) (a3 : Int) : Option (Int × GS) :=
  gg (1 ≤ d) <|
  gg (gT (a0.toNat)) <|
  gc (f_X10_lengthOf n (d - 1) 0 S [((a0.toNat : Nat) : Int), a1]) fun x3 S_4 =>
  gg (inr a3) <|
  gg (inr x3) <|
  if x3 ≤ a3 then (
    gg (gSh (a2.toNat)) <|
    gc (f_X9_add n (d - 1) 0 S_4 [((a2.toNat : Nat) : Int), 34]) fun x10 S_11 =>
    some (0, S_11)
  ) else (
    gc (f_X10_signAt n (d - 1) 0 S_4 [((a0.toNat : Nat) : Int), a1, a3]) fun x13 S_14 =>
    gg (gSh (a2.toNat)) <|
    gc (f_X9_addWritten n (d - 1) 0 S_14 [((a2.toNat : Nat) : Int), x13]) fun x17 S_18 =>
    gv (a3 + 1) fun x20 =>
    rec d 8 S_18 [((a0.toNat : Nat) : Int), a1, ((a2.toNat : Nat) : Int), x20]
  )
def f_X8_text : Nat → Nat → Nat → GS → List Int → Option (Int × GS)
  | 0, _, _, _, _ => none
  | n + 1, d, pc, S, x => match pc, x with
    | 0, [a0, a1, a2] => b_X8_text_0 n d (f_X8_text n) S a0 a1 a2
    | 8, [a0, a1, a2, a3] => b_X8_text_8 n d (f_X8_text n) S a0 a1 a2 a3
    | _, _ => none
def P_X8_text_0 (l : Launch) (Z : XZ) (L : Nat → Nat) (n : Nat) : Prop := ∀ (d : Nat) (S : GS) (a0 : Int) (a1 : Int) (a2 : Int) (x : Int) (S1 : GS), f_X8_text n d 0 S [a0, a1, a2] = some (x, S1) → GA l Z L yX8_text cX8_text 4 none [] d 0 0 (fun v S' => v = none ∧ S1 = S') (fun _ _ => False) 0 (gl [(0, .ref (L a0.toNat)), (1, .int (J a1)), (2, .ref (L a2.toNat))]) [] S 0 0
def P_X8_text_8 (l : Launch) (Z : XZ) (L : Nat → Nat) (n : Nat) : Prop := ∀ (d : Nat) (S : GS) (a0 : Int) (a1 : Int) (a2 : Int) (a3 : Int) (x : Int) (S1 : GS), f_X8_text n d 8 S [a0, a1, a2, a3] = some (x, S1) → GA l Z L yX8_text cX8_text 4 none [] d 0 0 (fun v S' => v = none ∧ S1 = S') (fun _ _ => False) 8 (gl [(0, .ref (L a0.toNat)), (1, .int (J a1)), (2, .ref (L a2.toNat)), (3, .int (J a3))]) [] S 0 0
set_option maxHeartbeats 4000000 in
set_option maxRecDepth 20000 in
theorem t_X8_text_0 {l : Launch} {Z : XZ} {L : Nat → Nat} (n : Nat) (ih_X8_text_0 : P_X8_text_0 l Z L n) (ih_X8_text_8 : P_X8_text_8 l Z L n) : P_X8_text_0 l Z L (n + 1) := by
  intro d S a0 a1 a2 x S1 H
  have H : b_X8_text_0 n d (f_X8_text n) S a0 a1 a2 = some (x, S1) := H
  unfold b_X8_text_0 at H
  refine GA.aload_n dX8_text_0 rfl ?_
  refine GA.bipush dX8_text_1 rfl ?_
  obtain ⟨hg1, H⟩ := gg_e H
  obtain ⟨hg2, H⟩ := gg_e H
  obtain ⟨x3, S_4, hc5, H⟩ := gc_e H
  refine GA.callV (m_X9_add hc5) xs_X8_51 dX8_text_3 (gsS hg2) (by omega) rfl rfl (by omega) (by decide) rfl (Nat.le_of_ble_eq_true rfl) (by omega) (by omega) rfl (fun E S9 hx => hx.elim) (fun v S9 hq => ?_)
  obtain ⟨rfl, rfl⟩ := hq
  refine GA.iconst dX8_text_6 ?_
  refine GA.istore_n dX8_text_7 (by decide) ?_
  refine GA.locals [(0, .ref (L ((a0.toNat : Nat) : Int).toNat)), (1, .int (J a1)), (2, .ref (L ((a2.toNat : Nat) : Int).toNat)), (3, .int (J 0))] ⟨rfl, rfl, rfl, rfl, trivial⟩ ?_
  exact ih_X8_text_8 _ _ (((a0.toNat : Nat) : Int)) (a1) (((a2.toNat : Nat) : Int)) (0) _ _ H
set_option maxHeartbeats 4000000 in
set_option maxRecDepth 20000 in
theorem t_X8_text_8 {l : Launch} {Z : XZ} {L : Nat → Nat} (n : Nat) (ih_X8_text_0 : P_X8_text_0 l Z L n) (ih_X8_text_8 : P_X8_text_8 l Z L n) : P_X8_text_8 l Z L (n + 1) := by
  intro d S a0 a1 a2 a3 x S1 H
  have H : b_X8_text_8 n d (f_X8_text n) S a0 a1 a2 a3 = some (x, S1) := H
  unfold b_X8_text_8 at H
  refine GA.iload_n dX8_text_8 rfl ?_
  refine GA.aload_n dX8_text_9 rfl ?_
  refine GA.iload_n dX8_text_10 rfl ?_
  obtain ⟨hg1, H⟩ := gg_e H
  obtain ⟨hg2, H⟩ := gg_e H
  obtain ⟨x3, S_4, hc5, H⟩ := gc_e H
  refine GA.callV (m_X10_lengthOf hc5) xs_X8_58 dX8_text_11 (gsT hg2) (by omega) rfl rfl (by omega) (by decide) rfl (Nat.le_of_ble_eq_true rfl) (by omega) (by omega) rfl (fun E S9 hx => hx.elim) (fun v S9 hq => ?_)
  obtain ⟨rfl, rfl⟩ := hq
  obtain ⟨hg6, H⟩ := gg_e H
  obtain ⟨hg7, H⟩ := gg_e H
  refine GV.icmp_ge (tgt := 33) hg6 hg7 dX8_text_14 (by decide) (fun c8 => ?_) (fun c8 => ?_)
  · have H := it_t H c8
    refine GA.aload_n dX8_text_33 rfl ?_
    refine GA.bipush dX8_text_34 rfl ?_
    obtain ⟨hg9, H⟩ := gg_e H
    obtain ⟨x10, S_11, hc12, H⟩ := gc_e H
    refine GA.callV (m_X9_add hc12) xs_X8_51 dX8_text_36 (gsS hg9) (by omega) rfl rfl (by omega) (by decide) rfl (Nat.le_of_ble_eq_true rfl) (by omega) (by omega) rfl (fun E S9 hx => hx.elim) (fun v S9 hq => ?_)
    obtain ⟨rfl, rfl⟩ := hq
    cases H
    exact GA.vret rfl dX8_text_39 (by omega) (by omega) ⟨rfl, rfl⟩
  · have H := it_f H c8
    refine GA.aload_n dX8_text_17 rfl ?_
    refine GA.aload_n dX8_text_18 rfl ?_
    refine GA.iload_n dX8_text_19 rfl ?_
    refine GA.iload_n dX8_text_20 rfl ?_
    obtain ⟨x13, S_14, hc15, H⟩ := gc_e H
    refine GA.callV (m_X10_signAt hc15) xs_X8_61 dX8_text_21 (gsT hg2) (by omega) rfl rfl (by omega) (by decide) rfl (Nat.le_of_ble_eq_true rfl) (by omega) (by omega) rfl (fun E S9 hx => hx.elim) (fun v S9 hq => ?_)
    obtain ⟨rfl, rfl⟩ := hq
    obtain ⟨hg16, H⟩ := gg_e H
    obtain ⟨x17, S_18, hc19, H⟩ := gc_e H
    refine GA.callV (m_X9_addWritten hc19) xs_X8_65 dX8_text_24 (gsS hg16) (by omega) rfl rfl (by omega) (by decide) rfl (Nat.le_of_ble_eq_true rfl) (by omega) (by omega) rfl (fun E S9 hx => hx.elim) (fun v S9 hq => ?_)
    obtain ⟨rfl, rfl⟩ := hq
    obtain ⟨x20, hx21, H⟩ := gv_e H
    refine GV.iinc hx21 dX8_text_27 rfl (by decide) ?_
    refine GA.goto (tgt := 8) dX8_text_30 (by decide) ?_
    refine GA.locals [(0, .ref (L ((a0.toNat : Nat) : Int).toNat)), (1, .int (J a1)), (2, .ref (L ((a2.toNat : Nat) : Int).toNat)), (3, .int (J x20))] ⟨rfl, rfl, rfl, rfl, trivial⟩ ?_
    exact ih_X8_text_8 _ _ (((a0.toNat : Nat) : Int)) (a1) (((a2.toNat : Nat) : Int)) (x20) _ _ H
theorem g_X8_text {l : Launch} {Z : XZ} {L : Nat → Nat} : ∀ n, P_X8_text_0 l Z L n ∧ P_X8_text_8 l Z L n
  | 0 => ⟨fun _ _ _ _ _ _ _ H => no_e H, fun _ _ _ _ _ _ _ _ H => no_e H⟩
  | n + 1 => have ⟨h0, h1⟩ := g_X8_text (l := l) (Z := Z) (L := L) n
    ⟨t_X8_text_0 n h0 h1, t_X8_text_8 n h0 h1⟩
theorem m_X8_text {l : Launch} {Z : XZ} {L : Nat → Nat} {n d : Nat} {S : GS} {a0 : Int} {a1 : Int} {a2 : Int} {x : Int} {S1 : GS} (H : f_X8_text n d 0 S [a0, a1, a2] = some (x, S1)) : GM l Z L yX8_text cX8_text 4 none [] d 0 0 [.ref (L a0.toNat), .int (J a1), .ref (L a2.toNat)] S (fun v S' => v = none ∧ S1 = S') (fun _ _ => False) := GM.of (by decide) (Nat.le_of_ble_eq_true rfl) ((g_X8_text n).1 _ _ _ _ _ _ _ H)

def b_X8_line_0 (n d : Nat) (rec : Nat → Nat → GS → List Int → Option (Int × GS)) (S : GS) (a0 : Int) (a1 : Int) : Option (Int × GS) :=
  gg (1 ≤ d) <|
  gg (gSh (a1.toNat)) <|
  gc (f_X9_add n (d - 1) 0 S [((a1.toNat : Nat) : Int), 10]) fun x3 S_4 =>
  rec d 8 S_4 [a0, ((a1.toNat : Nat) : Int), 0]
def b_X8_line_8 (n d : Nat) (rec : Nat → Nat → GS → List Int → Option (Int × GS)) (S : GS) (a0 : Int) (a1 : Int) (a2 : Int) : Option (Int × GS) :=
  gg (inr a2) <|
  gg (inr a0) <|
  if a0 ≤ a2 then (
    some (0, S)
  ) else (
    gg (1 ≤ d) <|
    gg (gSh (a1.toNat)) <|
    gc (f_X9_addAll n (d - 1) 0 S [((a1.toNat : Nat) : Int), ((15 : Nat) : Int)]) fun x6 S_7 =>
    gv (a2 + 1) fun x9 =>
    rec d 8 S_7 [a0, ((a1.toNat : Nat) : Int), x9]
  )
def f_X8_line : Nat → Nat → Nat → GS → List Int → Option (Int × GS)
  | 0, _, _, _, _ => none
  | n + 1, d, pc, S, x => match pc, x with
    | 0, [a0, a1] => b_X8_line_0 n d (f_X8_line n) S a0 a1
    | 8, [a0, a1, a2] => b_X8_line_8 n d (f_X8_line n) S a0 a1 a2
    | _, _ => none
def P_X8_line_0 (l : Launch) (Z : XZ) (L : Nat → Nat) (n : Nat) : Prop := ∀ (d : Nat) (S : GS) (a0 : Int) (a1 : Int) (x : Int) (S1 : GS), f_X8_line n d 0 S [a0, a1] = some (x, S1) → GA l Z L yX8_line cX8_line 3 none [] d 0 0 (fun v S' => v = none ∧ S1 = S') (fun _ _ => False) 0 (gl [(0, .int (J a0)), (1, .ref (L a1.toNat))]) [] S 0 0
def P_X8_line_8 (l : Launch) (Z : XZ) (L : Nat → Nat) (n : Nat) : Prop := ∀ (d : Nat) (S : GS) (a0 : Int) (a1 : Int) (a2 : Int) (x : Int) (S1 : GS), f_X8_line n d 8 S [a0, a1, a2] = some (x, S1) → GA l Z L yX8_line cX8_line 3 none [] d 0 0 (fun v S' => v = none ∧ S1 = S') (fun _ _ => False) 8 (gl [(0, .int (J a0)), (1, .ref (L a1.toNat)), (2, .int (J a2))]) [] S 0 0
set_option maxHeartbeats 4000000 in
set_option maxRecDepth 20000 in
theorem t_X8_line_0 {l : Launch} {Z : XZ} {L : Nat → Nat} (n : Nat) (ih_X8_line_0 : P_X8_line_0 l Z L n) (ih_X8_line_8 : P_X8_line_8 l Z L n) : P_X8_line_0 l Z L (n + 1) := by
  intro d S a0 a1 x S1 H
  have H : b_X8_line_0 n d (f_X8_line n) S a0 a1 = some (x, S1) := H
  unfold b_X8_line_0 at H
  refine GA.aload_n dX8_line_0 rfl ?_
  refine GA.bipush dX8_line_1 rfl ?_
  obtain ⟨hg1, H⟩ := gg_e H
  obtain ⟨hg2, H⟩ := gg_e H
  obtain ⟨x3, S_4, hc5, H⟩ := gc_e H
  refine GA.callV (m_X9_add hc5) xs_X8_51 dX8_line_3 (gsS hg2) (by omega) rfl rfl (by omega) (by decide) rfl (Nat.le_of_ble_eq_true rfl) (by omega) (by omega) rfl (fun E S9 hx => hx.elim) (fun v S9 hq => ?_)
  obtain ⟨rfl, rfl⟩ := hq
  refine GA.iconst dX8_line_6 ?_
  refine GA.istore_n dX8_line_7 (by decide) ?_
  refine GA.locals [(0, .int (J a0)), (1, .ref (L ((a1.toNat : Nat) : Int).toNat)), (2, .int (J 0))] ⟨rfl, rfl, rfl, trivial⟩ ?_
  exact ih_X8_line_8 _ _ (a0) (((a1.toNat : Nat) : Int)) (0) _ _ H
set_option maxHeartbeats 4000000 in
set_option maxRecDepth 20000 in
theorem t_X8_line_8 {l : Launch} {Z : XZ} {L : Nat → Nat} (n : Nat) (ih_X8_line_0 : P_X8_line_0 l Z L n) (ih_X8_line_8 : P_X8_line_8 l Z L n) : P_X8_line_8 l Z L (n + 1) := by
  intro d S a0 a1 a2 x S1 H
  have H : b_X8_line_8 n d (f_X8_line n) S a0 a1 a2 = some (x, S1) := H
  unfold b_X8_line_8 at H
  refine GA.iload_n dX8_line_8 rfl ?_
  refine GA.iload_n dX8_line_9 rfl ?_
  obtain ⟨hg1, H⟩ := gg_e H
  obtain ⟨hg2, H⟩ := gg_e H
  refine GV.icmp_ge (tgt := 25) hg1 hg2 dX8_line_10 (by decide) (fun c3 => ?_) (fun c3 => ?_)
  · have H := it_t H c3
    cases H
    exact GA.vret rfl dX8_line_25 (by omega) (by omega) ⟨rfl, rfl⟩
  · have H := it_f H c3
    refine GA.aload_n dX8_line_13 rfl ?_
    refine GA.ldcS (i := 15) (tx := "  ") (by decide +kernel) dX8_line_14 ?_
    obtain ⟨hg4, H⟩ := gg_e H
    obtain ⟨hg5, H⟩ := gg_e H
    obtain ⟨x6, S_7, hc8, H⟩ := gc_e H
    refine GA.callV (m_X9_addAll hc8) xs_X8_17 dX8_line_16 (gsS hg5) (by omega) rfl rfl (by omega) (by decide) rfl (Nat.le_of_ble_eq_true rfl) (by omega) (by omega) rfl (fun E S9 hx => hx.elim) (fun v S9 hq => ?_)
    obtain ⟨rfl, rfl⟩ := hq
    obtain ⟨x9, hx10, H⟩ := gv_e H
    refine GV.iinc hx10 dX8_line_19 rfl (by decide) ?_
    refine GA.goto (tgt := 8) dX8_line_22 (by decide) ?_
    refine GA.locals [(0, .int (J a0)), (1, .ref (L ((a1.toNat : Nat) : Int).toNat)), (2, .int (J x9))] ⟨rfl, rfl, rfl, trivial⟩ ?_
    exact ih_X8_line_8 _ _ (a0) (((a1.toNat : Nat) : Int)) (x9) _ _ H
theorem g_X8_line {l : Launch} {Z : XZ} {L : Nat → Nat} : ∀ n, P_X8_line_0 l Z L n ∧ P_X8_line_8 l Z L n
  | 0 => ⟨fun _ _ _ _ _ _ H => no_e H, fun _ _ _ _ _ _ _ H => no_e H⟩
  | n + 1 => have ⟨h0, h1⟩ := g_X8_line (l := l) (Z := Z) (L := L) n
    ⟨t_X8_line_0 n h0 h1, t_X8_line_8 n h0 h1⟩
theorem m_X8_line {l : Launch} {Z : XZ} {L : Nat → Nat} {n d : Nat} {S : GS} {a0 : Int} {a1 : Int} {x : Int} {S1 : GS} (H : f_X8_line n d 0 S [a0, a1] = some (x, S1)) : GM l Z L yX8_line cX8_line 3 none [] d 0 0 [.int (J a0), .ref (L a1.toNat)] S (fun v S' => v = none ∧ S1 = S') (fun _ _ => False) := GM.of (by decide) (Nat.le_of_ble_eq_true rfl) ((g_X8_line n).1 _ _ _ _ _ _ H)

def b_X8_key_0 (n d : Nat) (rec : Nat → Nat → GS → List Int → Option (Int × GS)) (S : GS) (a0 : Int) (a1 : Int) (a2 : Int) : Option (Int × GS) :=
  gg (1 ≤ d) <|
  gg (gSh (a2.toNat)) <|
  gc (f_X9_add n (d - 1) 0 S [((a2.toNat : Nat) : Int), 34]) fun x3 S_4 =>
  rec d 8 S_4 [((a0.toNat : Nat) : Int), a1, ((a2.toNat : Nat) : Int), 0]
def b_X8_key_8 (n d : Nat) (rec : Nat → Nat → GS → List Int → Option (Int × GS)) (S : GS) (a0 : Int) (a1 : Int) (a2 : Int) (a3 : Int) : Option (Int × GS) :=
  gg (1 ≤ d) <|
  gg (gT (a0.toNat)) <|
  gc (f_X10_keyLength n (d - 1) 0 S [((a0.toNat : Nat) : Int), a1]) fun x3 S_4 =>
  gg (inr a3) <|
  gg (inr x3) <|
  if x3 ≤ a3 then (
    gg (gSh (a2.toNat)) <|
    gc (f_X9_add n (d - 1) 0 S_4 [((a2.toNat : Nat) : Int), 34]) fun x10 S_11 =>
    some (0, S_11)
  ) else (
    gc (f_X10_keySign n (d - 1) 0 S_4 [((a0.toNat : Nat) : Int), a1, a3]) fun x13 S_14 =>
    gg (gSh (a2.toNat)) <|
    gc (f_X9_addWritten n (d - 1) 0 S_14 [((a2.toNat : Nat) : Int), x13]) fun x17 S_18 =>
    gv (a3 + 1) fun x20 =>
    rec d 8 S_18 [((a0.toNat : Nat) : Int), a1, ((a2.toNat : Nat) : Int), x20]
  )
def f_X8_key : Nat → Nat → Nat → GS → List Int → Option (Int × GS)
  | 0, _, _, _, _ => none
  | n + 1, d, pc, S, x => match pc, x with
    | 0, [a0, a1, a2] => b_X8_key_0 n d (f_X8_key n) S a0 a1 a2
    | 8, [a0, a1, a2, a3] => b_X8_key_8 n d (f_X8_key n) S a0 a1 a2 a3
    | _, _ => none
def P_X8_key_0 (l : Launch) (Z : XZ) (L : Nat → Nat) (n : Nat) : Prop := ∀ (d : Nat) (S : GS) (a0 : Int) (a1 : Int) (a2 : Int) (x : Int) (S1 : GS), f_X8_key n d 0 S [a0, a1, a2] = some (x, S1) → GA l Z L yX8_key cX8_key 4 none [] d 0 0 (fun v S' => v = none ∧ S1 = S') (fun _ _ => False) 0 (gl [(0, .ref (L a0.toNat)), (1, .int (J a1)), (2, .ref (L a2.toNat))]) [] S 0 0
def P_X8_key_8 (l : Launch) (Z : XZ) (L : Nat → Nat) (n : Nat) : Prop := ∀ (d : Nat) (S : GS) (a0 : Int) (a1 : Int) (a2 : Int) (a3 : Int) (x : Int) (S1 : GS), f_X8_key n d 8 S [a0, a1, a2, a3] = some (x, S1) → GA l Z L yX8_key cX8_key 4 none [] d 0 0 (fun v S' => v = none ∧ S1 = S') (fun _ _ => False) 8 (gl [(0, .ref (L a0.toNat)), (1, .int (J a1)), (2, .ref (L a2.toNat)), (3, .int (J a3))]) [] S 0 0
set_option maxHeartbeats 4000000 in
set_option maxRecDepth 20000 in
theorem t_X8_key_0 {l : Launch} {Z : XZ} {L : Nat → Nat} (n : Nat) (ih_X8_key_0 : P_X8_key_0 l Z L n) (ih_X8_key_8 : P_X8_key_8 l Z L n) : P_X8_key_0 l Z L (n + 1) := by
  intro d S a0 a1 a2 x S1 H
  have H : b_X8_key_0 n d (f_X8_key n) S a0 a1 a2 = some (x, S1) := H
  unfold b_X8_key_0 at H
  refine GA.aload_n dX8_key_0 rfl ?_
  refine GA.bipush dX8_key_1 rfl ?_
  obtain ⟨hg1, H⟩ := gg_e H
  obtain ⟨hg2, H⟩ := gg_e H
  obtain ⟨x3, S_4, hc5, H⟩ := gc_e H
  refine GA.callV (m_X9_add hc5) xs_X8_51 dX8_key_3 (gsS hg2) (by omega) rfl rfl (by omega) (by decide) rfl (Nat.le_of_ble_eq_true rfl) (by omega) (by omega) rfl (fun E S9 hx => hx.elim) (fun v S9 hq => ?_)
  obtain ⟨rfl, rfl⟩ := hq
  refine GA.iconst dX8_key_6 ?_
  refine GA.istore_n dX8_key_7 (by decide) ?_
  refine GA.locals [(0, .ref (L ((a0.toNat : Nat) : Int).toNat)), (1, .int (J a1)), (2, .ref (L ((a2.toNat : Nat) : Int).toNat)), (3, .int (J 0))] ⟨rfl, rfl, rfl, rfl, trivial⟩ ?_
  exact ih_X8_key_8 _ _ (((a0.toNat : Nat) : Int)) (a1) (((a2.toNat : Nat) : Int)) (0) _ _ H
set_option maxHeartbeats 4000000 in
set_option maxRecDepth 20000 in
theorem t_X8_key_8 {l : Launch} {Z : XZ} {L : Nat → Nat} (n : Nat) (ih_X8_key_0 : P_X8_key_0 l Z L n) (ih_X8_key_8 : P_X8_key_8 l Z L n) : P_X8_key_8 l Z L (n + 1) := by
  intro d S a0 a1 a2 a3 x S1 H
  have H : b_X8_key_8 n d (f_X8_key n) S a0 a1 a2 a3 = some (x, S1) := H
  unfold b_X8_key_8 at H
  refine GA.iload_n dX8_key_8 rfl ?_
  refine GA.aload_n dX8_key_9 rfl ?_
  refine GA.iload_n dX8_key_10 rfl ?_
  obtain ⟨hg1, H⟩ := gg_e H
  obtain ⟨hg2, H⟩ := gg_e H
  obtain ⟨x3, S_4, hc5, H⟩ := gc_e H
  refine GA.callV (m_X10_keyLength hc5) xs_X8_68 dX8_key_11 (gsT hg2) (by omega) rfl rfl (by omega) (by decide) rfl (Nat.le_of_ble_eq_true rfl) (by omega) (by omega) rfl (fun E S9 hx => hx.elim) (fun v S9 hq => ?_)
  obtain ⟨rfl, rfl⟩ := hq
  obtain ⟨hg6, H⟩ := gg_e H
  obtain ⟨hg7, H⟩ := gg_e H
  refine GV.icmp_ge (tgt := 33) hg6 hg7 dX8_key_14 (by decide) (fun c8 => ?_) (fun c8 => ?_)
  · have H := it_t H c8
    refine GA.aload_n dX8_key_33 rfl ?_
    refine GA.bipush dX8_key_34 rfl ?_
    obtain ⟨hg9, H⟩ := gg_e H
    obtain ⟨x10, S_11, hc12, H⟩ := gc_e H
    refine GA.callV (m_X9_add hc12) xs_X8_51 dX8_key_36 (gsS hg9) (by omega) rfl rfl (by omega) (by decide) rfl (Nat.le_of_ble_eq_true rfl) (by omega) (by omega) rfl (fun E S9 hx => hx.elim) (fun v S9 hq => ?_)
    obtain ⟨rfl, rfl⟩ := hq
    cases H
    exact GA.vret rfl dX8_key_39 (by omega) (by omega) ⟨rfl, rfl⟩
  · have H := it_f H c8
    refine GA.aload_n dX8_key_17 rfl ?_
    refine GA.aload_n dX8_key_18 rfl ?_
    refine GA.iload_n dX8_key_19 rfl ?_
    refine GA.iload_n dX8_key_20 rfl ?_
    obtain ⟨x13, S_14, hc15, H⟩ := gc_e H
    refine GA.callV (m_X10_keySign hc15) xs_X8_71 dX8_key_21 (gsT hg2) (by omega) rfl rfl (by omega) (by decide) rfl (Nat.le_of_ble_eq_true rfl) (by omega) (by omega) rfl (fun E S9 hx => hx.elim) (fun v S9 hq => ?_)
    obtain ⟨rfl, rfl⟩ := hq
    obtain ⟨hg16, H⟩ := gg_e H
    obtain ⟨x17, S_18, hc19, H⟩ := gc_e H
    refine GA.callV (m_X9_addWritten hc19) xs_X8_65 dX8_key_24 (gsS hg16) (by omega) rfl rfl (by omega) (by decide) rfl (Nat.le_of_ble_eq_true rfl) (by omega) (by omega) rfl (fun E S9 hx => hx.elim) (fun v S9 hq => ?_)
    obtain ⟨rfl, rfl⟩ := hq
    obtain ⟨x20, hx21, H⟩ := gv_e H
    refine GV.iinc hx21 dX8_key_27 rfl (by decide) ?_
    refine GA.goto (tgt := 8) dX8_key_30 (by decide) ?_
    refine GA.locals [(0, .ref (L ((a0.toNat : Nat) : Int).toNat)), (1, .int (J a1)), (2, .ref (L ((a2.toNat : Nat) : Int).toNat)), (3, .int (J x20))] ⟨rfl, rfl, rfl, rfl, trivial⟩ ?_
    exact ih_X8_key_8 _ _ (((a0.toNat : Nat) : Int)) (a1) (((a2.toNat : Nat) : Int)) (x20) _ _ H
theorem g_X8_key {l : Launch} {Z : XZ} {L : Nat → Nat} : ∀ n, P_X8_key_0 l Z L n ∧ P_X8_key_8 l Z L n
  | 0 => ⟨fun _ _ _ _ _ _ _ H => no_e H, fun _ _ _ _ _ _ _ _ H => no_e H⟩
  | n + 1 => have ⟨h0, h1⟩ := g_X8_key (l := l) (Z := Z) (L := L) n
    ⟨t_X8_key_0 n h0 h1, t_X8_key_8 n h0 h1⟩
theorem m_X8_key {l : Launch} {Z : XZ} {L : Nat → Nat} {n d : Nat} {S : GS} {a0 : Int} {a1 : Int} {a2 : Int} {x : Int} {S1 : GS} (H : f_X8_key n d 0 S [a0, a1, a2] = some (x, S1)) : GM l Z L yX8_key cX8_key 4 none [] d 0 0 [.ref (L a0.toNat), .int (J a1), .ref (L a2.toNat)] S (fun v S' => v = none ∧ S1 = S') (fun _ _ => False) := GM.of (by decide) (Nat.le_of_ble_eq_true rfl) ((g_X8_key n).1 _ _ _ _ _ _ _ H)

def b_X8_group_0 (n d : Nat) (rec : Nat → Nat → GS → List Int → Option (Int × GS)) (S : GS) (a0 : Int) (a1 : Int) (a2 : Int) (a3 : Int) (a4 : Int) : Option (Int × GS) :=
  gg (1 ≤ d) <|
  gg (gT (a0.toNat)) <|
  gc (f_X10_is n (d - 1) 0 S [((a0.toNat : Nat) : Int), a1, 5]) fun x3 S_4 =>
  gg (inr x3) <|
  if x3 = 0 then (
    rec d 23 S_4 [((a0.toNat : Nat) : Int), a1, a2, a3, ((a4.toNat : Nat) : Int), x3, 0]
  ) else (
    gg (inr a2) <|
    if a2 ≠ 1 then (
      rec d 23 S_4 [((a0.toNat : Nat) : Int), a1, a2, a3, ((a4.toNat : Nat) : Int), x3, 0]
    ) else (
      rec d 23 S_4 [((a0.toNat : Nat) : Int), a1, a2, a3, ((a4.toNat : Nat) : Int), x3, 1]
    )
  )
def b_X8_group_23 (n d : Nat) (rec : Nat → Nat → GS → List Int → Option (Int × GS)) (S : GS) (a0 : Int) (a1 : Int) (a2 : Int) (a3 : Int) (a4 : Int) (a5 : Int) (s0 : Int) : Option (Int × GS) :=
  gg (inr a2) <|
  if a2 ≠ 2 then (
    rec d 43 S [((a0.toNat : Nat) : Int), a1, a2, a3, ((a4.toNat : Nat) : Int), a5, s0]
  ) else (
    gg (1 ≤ d) <|
    gg (gT (a0.toNat)) <|
    gc (f_X10_first n (d - 1) 0 S [((a0.toNat : Nat) : Int), a1]) fun x5 S_6 =>
    gg (inr x5) <|
    if x5 = (-1) then (
      rec d 43 S_6 [((a0.toNat : Nat) : Int), a1, a2, a3, ((a4.toNat : Nat) : Int), a5, s0]
    ) else (
      gg (inr a5) <|
      if a5 = 0 then (
        rec d 60 S_6 [((a0.toNat : Nat) : Int), a1, a2, a3, ((a4.toNat : Nat) : Int), a5, s0, 1, 91, ((a4.toNat : Nat) : Int)]
      ) else (
        rec d 60 S_6 [((a0.toNat : Nat) : Int), a1, a2, a3, ((a4.toNat : Nat) : Int), a5, s0, 1, 123, ((a4.toNat : Nat) : Int)]
      )
    )
  )
def b_X8_group_43 (n d : Nat) (rec : Nat → Nat → GS → List Int → Option (Int × GS)) (S : GS) (a0 : Int) (a1 : Int) (a2 : Int) (a3 : Int) (a4 : Int) (a5 : Int) (a6 : Int) : Option (Int × GS) :=
  gg (inr a5) <|
  if a5 = 0 then (
    rec d 60 S [((a0.toNat : Nat) : Int), a1, a2, a3, ((a4.toNat : Nat) : Int), a5, a6, 0, 91, ((a4.toNat : Nat) : Int)]
  ) else (
    rec d 60 S [((a0.toNat : Nat) : Int), a1, a2, a3, ((a4.toNat : Nat) : Int), a5, a6, 0, 123, ((a4.toNat : Nat) : Int)]
  )
def b_X8_group_60 (n d : Nat) (rec : Nat → Nat → GS → List Int → Option (Int × GS)) (S : GS) (a0 : Int) (a1 : Int) (a2 : Int) (a3 : Int) (a4 : Int) (a5 : Int) (a6 : Int) (a7 : Int) (s0 : Int) (s1 : Int) : Option (Int × GS) :=
  gg (1 ≤ d) <|
  gg (gSh (s1.toNat)) <|
  gc (f_X9_add n (d - 1) 0 S [((s1.toNat : Nat) : Int), s0]) fun x3 S_4 =>
  gg (inr a6) <|
  if a6 = 0 then (
    gg (gT (a0.toNat)) <|
    gc (f_X10_first n (d - 1) 0 S_4 [((a0.toNat : Nat) : Int), a1]) fun x9 S_10 =>
    rec d 87 S_10 [((a0.toNat : Nat) : Int), a1, a2, a3, ((a4.toNat : Nat) : Int), a5, a6, a7, x9, 0]
  ) else (
    gg (gT (a0.toNat)) <|
    gc (f_X10_nextByKey n (d - 1) 0 S_4 [((a0.toNat : Nat) : Int), a1, (-1)]) fun x13 S_14 =>
    rec d 87 S_14 [((a0.toNat : Nat) : Int), a1, a2, a3, ((a4.toNat : Nat) : Int), a5, a6, a7, x13, 0]
  )
def b_X8_group_87 (n d : Nat) (rec : Nat → Nat → GS → List Int → Option (Int × GS)) (S : GS) (a0 : Int) (a1 : Int) (a2 : Int) (a3 : Int) (a4 : Int) (a5 : Int) (a6 : Int) (a7 : Int) (a8 : Int) (a9 : Int) : Option (Int × GS) :=
  gg (inr a9) <|
  if 100 ≤ a9 then (
    gg (inr a7) <|
    if a7 = 0 then (
      rec d 214 S [((a4.toNat : Nat) : Int), a5]
    ) else (
      gg (1 ≤ d) <|
      gc (f_X8_line n (d - 1) 0 S [a3, ((a4.toNat : Nat) : Int)]) fun x6 S_7 =>
      rec d 214 S_7 [((a4.toNat : Nat) : Int), a5]
    )
  ) else (
    gg (inr a8) <|
    if a8 = (-1) then (
      gg (inr a7) <|
      if a7 = 0 then (
        rec d 214 S [((a4.toNat : Nat) : Int), a5]
      ) else (
        gg (1 ≤ d) <|
        gc (f_X8_line n (d - 1) 0 S [a3, ((a4.toNat : Nat) : Int)]) fun x14 S_15 =>
        rec d 214 S_15 [((a4.toNat : Nat) : Int), a5]
      )
    ) else (
      gg (inr a3) <|
      if 12 < a3 then (
        gg (inr a7) <|
        if a7 = 0 then (
          rec d 214 S [((a4.toNat : Nat) : Int), a5]
        ) else (
          gg (1 ≤ d) <|
          gc (f_X8_line n (d - 1) 0 S [a3, ((a4.toNat : Nat) : Int)]) fun x22 S_23 =>
          rec d 214 S_23 [((a4.toNat : Nat) : Int), a5]
        )
      ) else (
        if a9 ≤ 0 then (
          gg (inr a7) <|
          if a7 = 0 then (
            rec d 131 S [((a0.toNat : Nat) : Int), a1, a2, a3, ((a4.toNat : Nat) : Int), a5, a6, a7, a8, a9]
          ) else (
            gv (a3 + 1) fun x28 =>
            gg (1 ≤ d) <|
            gc (f_X8_line n (d - 1) 0 S [x28, ((a4.toNat : Nat) : Int)]) fun x31 S_32 =>
            rec d 131 S_32 [((a0.toNat : Nat) : Int), a1, a2, a3, ((a4.toNat : Nat) : Int), a5, a6, a7, a8, a9]
          )
        ) else (
          gg (1 ≤ d) <|
          gg (gSh (a4.toNat)) <|
          gc (f_X9_add n (d - 1) 0 S [((a4.toNat : Nat) : Int), 44]) fun x36 S_37 =>
          gg (inr a7) <|
          if a7 = 0 then (
            rec d 131 S_37 [((a0.toNat : Nat) : Int), a1, a2, a3, ((a4.toNat : Nat) : Int), a5, a6, a7, a8, a9]
          ) else (
            gv (a3 + 1) fun x41 =>
            gc (f_X8_line n (d - 1) 0 S_37 [x41, ((a4.toNat : Nat) : Int)]) fun x43 S_44 =>
            rec d 131 S_44 [((a0.toNat : Nat) : Int), a1, a2, a3, ((a4.toNat : Nat) : Int), a5, a6, a7, a8, a9]
          )
        )
      )
    )
  )
def b_X8_group_131 (n d : Nat) (rec : Nat → Nat → GS → List Int → Option (Int × GS)) (S : GS) (a0 : Int) (a1 : Int) (a2 : Int) (a3 : Int) (a4 : Int) (a5 : Int) (a6 : Int) (a7 : Int) (a8 : Int) (a9 : Int) : Option (Int × GS) :=
  gg (inr a5) <|
  if a5 = 0 then (
    rec d 161 S [((a0.toNat : Nat) : Int), a1, a2, a3, ((a4.toNat : Nat) : Int), a5, a6, a7, a8, a9]
  ) else (
    gg (1 ≤ d) <|
    gc (f_X8_key n (d - 1) 0 S [((a0.toNat : Nat) : Int), a8, ((a4.toNat : Nat) : Int)]) fun x4 S_5 =>
    gg (inr a7) <|
    if a7 = 0 then (
      gg (gSh (a4.toNat)) <|
      gc (f_X9_addAll n (d - 1) 0 S_5 [((a4.toNat : Nat) : Int), ((17 : Nat) : Int)]) fun x10 S_11 =>
      rec d 161 S_11 [((a0.toNat : Nat) : Int), a1, a2, a3, ((a4.toNat : Nat) : Int), a5, a6, a7, a8, a9]
    ) else (
      gg (gSh (a4.toNat)) <|
      gc (f_X9_addAll n (d - 1) 0 S_5 [((a4.toNat : Nat) : Int), ((16 : Nat) : Int)]) fun x14 S_15 =>
      rec d 161 S_15 [((a0.toNat : Nat) : Int), a1, a2, a3, ((a4.toNat : Nat) : Int), a5, a6, a7, a8, a9]
    )
  )
def b_X8_group_161 (n d : Nat) (rec : Nat → Nat → GS → List Int → Option (Int × GS)) (S : GS) (a0 : Int) (a1 : Int) (a2 : Int) (a3 : Int) (a4 : Int) (a5 : Int) (a6 : Int) (a7 : Int) (a8 : Int) (a9 : Int) : Option (Int × GS) :=
  gv (a3 + 1) fun x1 =>
  gg (1 ≤ d) <|
  gc (rec (d - 1) 10000 S [((a0.toNat : Nat) : Int), a8, a2, x1, ((a4.toNat : Nat) : Int)]) fun x4 S_5 =>
  gg (inr a6) <|
  if a6 = 0 then (
    gg (gT (a0.toNat)) <|
    gc (f_X10_next n (d - 1) 0 S_5 [((a0.toNat : Nat) : Int), a1, a8]) fun x10 S_11 =>
    gv (a9 + 1) fun x13 =>
    rec d 87 S_11 [((a0.toNat : Nat) : Int), a1, a2, a3, ((a4.toNat : Nat) : Int), a5, a6, a7, x10, x13]
  ) else (
    gg (gT (a0.toNat)) <|
    gc (f_X10_nextByKey n (d - 1) 0 S_5 [((a0.toNat : Nat) : Int), a1, a8]) fun x16 S_17 =>
    gv (a9 + 1) fun x19 =>
    rec d 87 S_17 [((a0.toNat : Nat) : Int), a1, a2, a3, ((a4.toNat : Nat) : Int), a5, a6, a7, x16, x19]
  )
def b_X8_group_214 (n d : Nat) (rec : Nat → Nat → GS → List Int → Option (Int × GS)) (S : GS) (a4 : Int) (a5 : Int) : Option (Int × GS) :=
  gg (inr a5) <|
  if a5 = 0 then (
    gg (1 ≤ d) <|
    gg (gSh (a4.toNat)) <|
    gc (f_X9_add n (d - 1) 0 S [((a4.toNat : Nat) : Int), 93]) fun x5 S_6 =>
    some (0, S_6)
  ) else (
    gg (1 ≤ d) <|
    gg (gSh (a4.toNat)) <|
    gc (f_X9_add n (d - 1) 0 S [((a4.toNat : Nat) : Int), 125]) fun x10 S_11 =>
    some (0, S_11)
  )
def b_X8_value_0 (n d : Nat) (rec : Nat → Nat → GS → List Int → Option (Int × GS)) (S : GS) (a0 : Int) (a1 : Int) (a2 : Int) (a3 : Int) (a4 : Int) : Option (Int × GS) :=
  gg (1 ≤ d) <|
  gg (gT (a0.toNat)) <|
  gc (f_X10_kind n (d - 1) 0 S [((a0.toNat : Nat) : Int), a1]) fun x3 S_4 =>
  gg (inr x3) <|
  if x3 = 0 then (
    gg (gSh (a4.toNat)) <|
    gc (f_X9_addAll n (d - 1) 0 S_4 [((a4.toNat : Nat) : Int), ((12 : Nat) : Int)]) fun x9 S_10 =>
    some (0, S_10)
  ) else (
  if x3 = 1 then (
    gc (f_X10_isTrue n (d - 1) 0 S_4 [((a0.toNat : Nat) : Int), a1]) fun x13 S_14 =>
    gg (inr x13) <|
    if x13 = 0 then (
      gg (gSh (a4.toNat)) <|
      gc (f_X9_addAll n (d - 1) 0 S_14 [((a4.toNat : Nat) : Int), ((14 : Nat) : Int)]) fun x19 S_20 =>
      some (0, S_20)
    ) else (
      gg (gSh (a4.toNat)) <|
      gc (f_X9_addAll n (d - 1) 0 S_14 [((a4.toNat : Nat) : Int), ((13 : Nat) : Int)]) fun x23 S_24 =>
      some (0, S_24)
    )
  ) else (
  if x3 = 2 then (
    gc (f_X8_number n (d - 1) 0 S_4 [((a0.toNat : Nat) : Int), a1, ((a4.toNat : Nat) : Int)]) fun x27 S_28 =>
    some (0, S_28)
  ) else (
  if x3 = 3 then (
    gc (f_X8_text n (d - 1) 0 S_4 [((a0.toNat : Nat) : Int), a1, ((a4.toNat : Nat) : Int)]) fun x31 S_32 =>
    some (0, S_32)
  ) else (
  gc (rec (d - 1) 0 S_4 [((a0.toNat : Nat) : Int), a1, a2, a3, ((a4.toNat : Nat) : Int)]) fun x34 S_35 =>
  some (0, S_35)
  ))))
def f_X8_group : Nat → Nat → Nat → GS → List Int → Option (Int × GS)
  | 0, _, _, _, _ => none
  | n + 1, d, pc, S, x => match pc, x with
    | 0, [a0, a1, a2, a3, a4] => b_X8_group_0 n d (f_X8_group n) S a0 a1 a2 a3 a4
    | 23, [a0, a1, a2, a3, a4, a5, s0] => b_X8_group_23 n d (f_X8_group n) S a0 a1 a2 a3 a4 a5 s0
    | 43, [a0, a1, a2, a3, a4, a5, a6] => b_X8_group_43 n d (f_X8_group n) S a0 a1 a2 a3 a4 a5 a6
    | 60, [a0, a1, a2, a3, a4, a5, a6, a7, s0, s1] => b_X8_group_60 n d (f_X8_group n) S a0 a1 a2 a3 a4 a5 a6 a7 s0 s1
    | 87, [a0, a1, a2, a3, a4, a5, a6, a7, a8, a9] => b_X8_group_87 n d (f_X8_group n) S a0 a1 a2 a3 a4 a5 a6 a7 a8 a9
    | 131, [a0, a1, a2, a3, a4, a5, a6, a7, a8, a9] => b_X8_group_131 n d (f_X8_group n) S a0 a1 a2 a3 a4 a5 a6 a7 a8 a9
    | 161, [a0, a1, a2, a3, a4, a5, a6, a7, a8, a9] => b_X8_group_161 n d (f_X8_group n) S a0 a1 a2 a3 a4 a5 a6 a7 a8 a9
    | 214, [a4, a5] => b_X8_group_214 n d (f_X8_group n) S a4 a5
    | 10000, [a0, a1, a2, a3, a4] => b_X8_value_0 n d (f_X8_group n) S a0 a1 a2 a3 a4
    | _, _ => none
def P_X8_group_0 (l : Launch) (Z : XZ) (L : Nat → Nat) (n : Nat) : Prop := ∀ (d : Nat) (S : GS) (a0 : Int) (a1 : Int) (a2 : Int) (a3 : Int) (a4 : Int) (x : Int) (S1 : GS), f_X8_group n d 0 S [a0, a1, a2, a3, a4] = some (x, S1) → GA l Z L yX8_group cX8_group 10 none [] d 0 0 (fun v S' => v = none ∧ S1 = S') (fun _ _ => False) 0 (gl [(0, .ref (L a0.toNat)), (1, .int (J a1)), (2, .int (J a2)), (3, .int (J a3)), (4, .ref (L a4.toNat))]) [] S 0 0
def P_X8_group_23 (l : Launch) (Z : XZ) (L : Nat → Nat) (n : Nat) : Prop := ∀ (d : Nat) (S : GS) (a0 : Int) (a1 : Int) (a2 : Int) (a3 : Int) (a4 : Int) (a5 : Int) (s0 : Int) (x : Int) (S1 : GS), f_X8_group n d 23 S [a0, a1, a2, a3, a4, a5, s0] = some (x, S1) → GA l Z L yX8_group cX8_group 10 none [] d 0 0 (fun v S' => v = none ∧ S1 = S') (fun _ _ => False) 23 (gl [(0, .ref (L a0.toNat)), (1, .int (J a1)), (2, .int (J a2)), (3, .int (J a3)), (4, .ref (L a4.toNat)), (5, .int (J a5))]) [.int (J s0)] S 0 0
def P_X8_group_43 (l : Launch) (Z : XZ) (L : Nat → Nat) (n : Nat) : Prop := ∀ (d : Nat) (S : GS) (a0 : Int) (a1 : Int) (a2 : Int) (a3 : Int) (a4 : Int) (a5 : Int) (a6 : Int) (x : Int) (S1 : GS), f_X8_group n d 43 S [a0, a1, a2, a3, a4, a5, a6] = some (x, S1) → GA l Z L yX8_group cX8_group 10 none [] d 0 0 (fun v S' => v = none ∧ S1 = S') (fun _ _ => False) 43 (gl [(0, .ref (L a0.toNat)), (1, .int (J a1)), (2, .int (J a2)), (3, .int (J a3)), (4, .ref (L a4.toNat)), (5, .int (J a5)), (6, .int (J a6))]) [] S 0 0
def P_X8_group_60 (l : Launch) (Z : XZ) (L : Nat → Nat) (n : Nat) : Prop := ∀ (d : Nat) (S : GS) (a0 : Int) (a1 : Int) (a2 : Int) (a3 : Int) (a4 : Int) (a5 : Int) (a6 : Int) (a7 : Int) (s0 : Int) (s1 : Int) (x : Int) (S1 : GS), f_X8_group n d 60 S [a0, a1, a2, a3, a4, a5, a6, a7, s0, s1] = some (x, S1) → GA l Z L yX8_group cX8_group 10 none [] d 0 0 (fun v S' => v = none ∧ S1 = S') (fun _ _ => False) 60 (gl [(0, .ref (L a0.toNat)), (1, .int (J a1)), (2, .int (J a2)), (3, .int (J a3)), (4, .ref (L a4.toNat)), (5, .int (J a5)), (6, .int (J a6)), (7, .int (J a7))]) [.int (J s0), .ref (L s1.toNat)] S 0 0
def P_X8_group_87 (l : Launch) (Z : XZ) (L : Nat → Nat) (n : Nat) : Prop := ∀ (d : Nat) (S : GS) (a0 : Int) (a1 : Int) (a2 : Int) (a3 : Int) (a4 : Int) (a5 : Int) (a6 : Int) (a7 : Int) (a8 : Int) (a9 : Int) (x : Int) (S1 : GS), f_X8_group n d 87 S [a0, a1, a2, a3, a4, a5, a6, a7, a8, a9] = some (x, S1) → GA l Z L yX8_group cX8_group 10 none [] d 0 0 (fun v S' => v = none ∧ S1 = S') (fun _ _ => False) 87 (gl [(0, .ref (L a0.toNat)), (1, .int (J a1)), (2, .int (J a2)), (3, .int (J a3)), (4, .ref (L a4.toNat)), (5, .int (J a5)), (6, .int (J a6)), (7, .int (J a7)), (8, .int (J a8)), (9, .int (J a9))]) [] S 0 0
def P_X8_group_131 (l : Launch) (Z : XZ) (L : Nat → Nat) (n : Nat) : Prop := ∀ (d : Nat) (S : GS) (a0 : Int) (a1 : Int) (a2 : Int) (a3 : Int) (a4 : Int) (a5 : Int) (a6 : Int) (a7 : Int) (a8 : Int) (a9 : Int) (x : Int) (S1 : GS), f_X8_group n d 131 S [a0, a1, a2, a3, a4, a5, a6, a7, a8, a9] = some (x, S1) → GA l Z L yX8_group cX8_group 10 none [] d 0 0 (fun v S' => v = none ∧ S1 = S') (fun _ _ => False) 131 (gl [(0, .ref (L a0.toNat)), (1, .int (J a1)), (2, .int (J a2)), (3, .int (J a3)), (4, .ref (L a4.toNat)), (5, .int (J a5)), (6, .int (J a6)), (7, .int (J a7)), (8, .int (J a8)), (9, .int (J a9))]) [] S 0 0
def P_X8_group_161 (l : Launch) (Z : XZ) (L : Nat → Nat) (n : Nat) : Prop := ∀ (d : Nat) (S : GS) (a0 : Int) (a1 : Int) (a2 : Int) (a3 : Int) (a4 : Int) (a5 : Int) (a6 : Int) (a7 : Int) (a8 : Int) (a9 : Int) (x : Int) (S1 : GS), f_X8_group n d 161 S [a0, a1, a2, a3, a4, a5, a6, a7, a8, a9] = some (x, S1) → GA l Z L yX8_group cX8_group 10 none [] d 0 0 (fun v S' => v = none ∧ S1 = S') (fun _ _ => False) 161 (gl [(0, .ref (L a0.toNat)), (1, .int (J a1)), (2, .int (J a2)), (3, .int (J a3)), (4, .ref (L a4.toNat)), (5, .int (J a5)), (6, .int (J a6)), (7, .int (J a7)), (8, .int (J a8)), (9, .int (J a9))]) [] S 0 0
def P_X8_group_214 (l : Launch) (Z : XZ) (L : Nat → Nat) (n : Nat) : Prop := ∀ (d : Nat) (S : GS) (a4 : Int) (a5 : Int) (x : Int) (S1 : GS), f_X8_group n d 214 S [a4, a5] = some (x, S1) → GA l Z L yX8_group cX8_group 10 none [] d 0 0 (fun v S' => v = none ∧ S1 = S') (fun _ _ => False) 214 (gl [(4, .ref (L a4.toNat)), (5, .int (J a5))]) [] S 0 0
def P_X8_value_0 (l : Launch) (Z : XZ) (L : Nat → Nat) (n : Nat) : Prop := ∀ (d : Nat) (S : GS) (a0 : Int) (a1 : Int) (a2 : Int) (a3 : Int) (a4 : Int) (x : Int) (S1 : GS), f_X8_group n d 10000 S [a0, a1, a2, a3, a4] = some (x, S1) → GA l Z L yX8_value cX8_value 5 none [] d 0 0 (fun v S' => v = none ∧ S1 = S') (fun _ _ => False) 0 (gl [(0, .ref (L a0.toNat)), (1, .int (J a1)), (2, .int (J a2)), (3, .int (J a3)), (4, .ref (L a4.toNat))]) [] S 0 0
set_option maxHeartbeats 4000000 in
set_option maxRecDepth 20000 in
theorem t_X8_group_0 {l : Launch} {Z : XZ} {L : Nat → Nat} (n : Nat) (ih_X8_group_0 : P_X8_group_0 l Z L n) (ih_X8_group_23 : P_X8_group_23 l Z L n) (ih_X8_group_43 : P_X8_group_43 l Z L n) (ih_X8_group_60 : P_X8_group_60 l Z L n) (ih_X8_group_87 : P_X8_group_87 l Z L n) (ih_X8_group_131 : P_X8_group_131 l Z L n) (ih_X8_group_161 : P_X8_group_161 l Z L n) (ih_X8_group_214 : P_X8_group_214 l Z L n) (ih_X8_value_0 : P_X8_value_0 l Z L n) : P_X8_group_0 l Z L (n + 1) := by
  intro d S a0 a1 a2 a3 a4 x S1 H
  have H : b_X8_group_0 n d (f_X8_group n) S a0 a1 a2 a3 a4 = some (x, S1) := H
  unfold b_X8_group_0 at H
  refine GA.aload_n dX8_group_0 rfl ?_
  refine GA.iload_n dX8_group_1 rfl ?_
  refine GA.iconst dX8_group_2 ?_
  obtain ⟨hg1, H⟩ := gg_e H
  obtain ⟨hg2, H⟩ := gg_e H
  obtain ⟨x3, S_4, hc5, H⟩ := gc_e H
  refine GA.callV (m_X10_is hc5) xs_X8_74 dX8_group_3 (gsT hg2) (by omega) rfl rfl (by omega) (by decide) rfl (Nat.le_of_ble_eq_true rfl) (by omega) (by omega) rfl (fun E S9 hx => hx.elim) (fun v S9 hq => ?_)
  obtain ⟨rfl, rfl⟩ := hq
  refine GA.istore dX8_group_6 (by decide) ?_
  refine GA.iload dX8_group_8 rfl ?_
  obtain ⟨hg6, H⟩ := gg_e H
  refine GV.if_eq (tgt := 22) hg6 dX8_group_10 (by decide) (fun c7 => ?_) (fun c7 => ?_)
  · have H := it_t H c7
    refine GA.iconst dX8_group_22 ?_
    refine GA.locals [(0, .ref (L ((a0.toNat : Nat) : Int).toNat)), (1, .int (J a1)), (2, .int (J a2)), (3, .int (J a3)), (4, .ref (L ((a4.toNat : Nat) : Int).toNat)), (5, .int (J x3))] ⟨rfl, rfl, rfl, rfl, rfl, rfl, trivial⟩ ?_
    exact ih_X8_group_23 _ _ (((a0.toNat : Nat) : Int)) (a1) (a2) (a3) (((a4.toNat : Nat) : Int)) (x3) (0) _ _ H
  · have H := it_f H c7
    refine GA.iload_n dX8_group_13 rfl ?_
    refine GA.iconst dX8_group_14 ?_
    obtain ⟨hg8, H⟩ := gg_e H
    refine GV.icmp_ne (tgt := 22) hg8 (by decide) dX8_group_15 (by decide) (fun c9 => ?_) (fun c9 => ?_)
    · have H := it_t H c9
      refine GA.iconst dX8_group_22 ?_
      refine GA.locals [(0, .ref (L ((a0.toNat : Nat) : Int).toNat)), (1, .int (J a1)), (2, .int (J a2)), (3, .int (J a3)), (4, .ref (L ((a4.toNat : Nat) : Int).toNat)), (5, .int (J x3))] ⟨rfl, rfl, rfl, rfl, rfl, rfl, trivial⟩ ?_
      exact ih_X8_group_23 _ _ (((a0.toNat : Nat) : Int)) (a1) (a2) (a3) (((a4.toNat : Nat) : Int)) (x3) (0) _ _ H
    · have H := it_f H c9
      refine GA.iconst dX8_group_18 ?_
      refine GA.goto (tgt := 23) dX8_group_19 (by decide) ?_
      refine GA.locals [(0, .ref (L ((a0.toNat : Nat) : Int).toNat)), (1, .int (J a1)), (2, .int (J a2)), (3, .int (J a3)), (4, .ref (L ((a4.toNat : Nat) : Int).toNat)), (5, .int (J x3))] ⟨rfl, rfl, rfl, rfl, rfl, rfl, trivial⟩ ?_
      exact ih_X8_group_23 _ _ (((a0.toNat : Nat) : Int)) (a1) (a2) (a3) (((a4.toNat : Nat) : Int)) (x3) (1) _ _ H
set_option maxHeartbeats 4000000 in
set_option maxRecDepth 20000 in
theorem t_X8_group_23 {l : Launch} {Z : XZ} {L : Nat → Nat} (n : Nat) (ih_X8_group_0 : P_X8_group_0 l Z L n) (ih_X8_group_23 : P_X8_group_23 l Z L n) (ih_X8_group_43 : P_X8_group_43 l Z L n) (ih_X8_group_60 : P_X8_group_60 l Z L n) (ih_X8_group_87 : P_X8_group_87 l Z L n) (ih_X8_group_131 : P_X8_group_131 l Z L n) (ih_X8_group_161 : P_X8_group_161 l Z L n) (ih_X8_group_214 : P_X8_group_214 l Z L n) (ih_X8_value_0 : P_X8_value_0 l Z L n) : P_X8_group_23 l Z L (n + 1) := by
  intro d S a0 a1 a2 a3 a4 a5 s0 x S1 H
  have H : b_X8_group_23 n d (f_X8_group n) S a0 a1 a2 a3 a4 a5 s0 = some (x, S1) := H
  unfold b_X8_group_23 at H
  refine GA.istore dX8_group_23 (by decide) ?_
  refine GA.iload_n dX8_group_25 rfl ?_
  refine GA.iconst dX8_group_26 ?_
  obtain ⟨hg1, H⟩ := gg_e H
  refine GV.icmp_ne (tgt := 43) hg1 (by decide) dX8_group_27 (by decide) (fun c2 => ?_) (fun c2 => ?_)
  · have H := it_t H c2
    refine GA.locals [(0, .ref (L ((a0.toNat : Nat) : Int).toNat)), (1, .int (J a1)), (2, .int (J a2)), (3, .int (J a3)), (4, .ref (L ((a4.toNat : Nat) : Int).toNat)), (5, .int (J a5)), (6, .int (J s0))] ⟨rfl, rfl, rfl, rfl, rfl, rfl, rfl, trivial⟩ ?_
    exact ih_X8_group_43 _ _ (((a0.toNat : Nat) : Int)) (a1) (a2) (a3) (((a4.toNat : Nat) : Int)) (a5) (s0) _ _ H
  · have H := it_f H c2
    refine GA.aload_n dX8_group_30 rfl ?_
    refine GA.iload_n dX8_group_31 rfl ?_
    obtain ⟨hg3, H⟩ := gg_e H
    obtain ⟨hg4, H⟩ := gg_e H
    obtain ⟨x5, S_6, hc7, H⟩ := gc_e H
    refine GA.callV (m_X10_first hc7) xs_X8_78 dX8_group_32 (gsT hg4) (by omega) rfl rfl (by omega) (by decide) rfl (Nat.le_of_ble_eq_true rfl) (by omega) (by omega) rfl (fun E S9 hx => hx.elim) (fun v S9 hq => ?_)
    obtain ⟨rfl, rfl⟩ := hq
    refine GA.iconst dX8_group_35 ?_
    obtain ⟨hg8, H⟩ := gg_e H
    refine GV.icmp_eq (tgt := 43) hg8 (by decide) dX8_group_36 (by decide) (fun c9 => ?_) (fun c9 => ?_)
    · have H := it_t H c9
      refine GA.locals [(0, .ref (L ((a0.toNat : Nat) : Int).toNat)), (1, .int (J a1)), (2, .int (J a2)), (3, .int (J a3)), (4, .ref (L ((a4.toNat : Nat) : Int).toNat)), (5, .int (J a5)), (6, .int (J s0))] ⟨rfl, rfl, rfl, rfl, rfl, rfl, rfl, trivial⟩ ?_
      exact ih_X8_group_43 _ _ (((a0.toNat : Nat) : Int)) (a1) (a2) (a3) (((a4.toNat : Nat) : Int)) (a5) (s0) _ _ H
    · have H := it_f H c9
      refine GA.iconst dX8_group_39 ?_
      refine GA.goto (tgt := 44) dX8_group_40 (by decide) ?_
      refine GA.istore dX8_group_44 (by decide) ?_
      refine GA.aload dX8_group_46 rfl ?_
      refine GA.iload dX8_group_48 rfl ?_
      obtain ⟨hg10, H⟩ := gg_e H
      refine GV.if_eq (tgt := 58) hg10 dX8_group_50 (by decide) (fun c11 => ?_) (fun c11 => ?_)
      · have H := it_t H c11
        refine GA.bipush dX8_group_58 rfl ?_
        refine GA.locals [(0, .ref (L ((a0.toNat : Nat) : Int).toNat)), (1, .int (J a1)), (2, .int (J a2)), (3, .int (J a3)), (4, .ref (L ((a4.toNat : Nat) : Int).toNat)), (5, .int (J a5)), (6, .int (J s0)), (7, .int (J 1))] ⟨rfl, rfl, rfl, rfl, rfl, rfl, rfl, rfl, trivial⟩ ?_
        exact ih_X8_group_60 _ _ (((a0.toNat : Nat) : Int)) (a1) (a2) (a3) (((a4.toNat : Nat) : Int)) (a5) (s0) (1) (91) (((a4.toNat : Nat) : Int)) _ _ H
      · have H := it_f H c11
        refine GA.bipush dX8_group_53 rfl ?_
        refine GA.goto (tgt := 60) dX8_group_55 (by decide) ?_
        refine GA.locals [(0, .ref (L ((a0.toNat : Nat) : Int).toNat)), (1, .int (J a1)), (2, .int (J a2)), (3, .int (J a3)), (4, .ref (L ((a4.toNat : Nat) : Int).toNat)), (5, .int (J a5)), (6, .int (J s0)), (7, .int (J 1))] ⟨rfl, rfl, rfl, rfl, rfl, rfl, rfl, rfl, trivial⟩ ?_
        exact ih_X8_group_60 _ _ (((a0.toNat : Nat) : Int)) (a1) (a2) (a3) (((a4.toNat : Nat) : Int)) (a5) (s0) (1) (123) (((a4.toNat : Nat) : Int)) _ _ H
set_option maxHeartbeats 4000000 in
set_option maxRecDepth 20000 in
theorem t_X8_group_43 {l : Launch} {Z : XZ} {L : Nat → Nat} (n : Nat) (ih_X8_group_0 : P_X8_group_0 l Z L n) (ih_X8_group_23 : P_X8_group_23 l Z L n) (ih_X8_group_43 : P_X8_group_43 l Z L n) (ih_X8_group_60 : P_X8_group_60 l Z L n) (ih_X8_group_87 : P_X8_group_87 l Z L n) (ih_X8_group_131 : P_X8_group_131 l Z L n) (ih_X8_group_161 : P_X8_group_161 l Z L n) (ih_X8_group_214 : P_X8_group_214 l Z L n) (ih_X8_value_0 : P_X8_value_0 l Z L n) : P_X8_group_43 l Z L (n + 1) := by
  intro d S a0 a1 a2 a3 a4 a5 a6 x S1 H
  have H : b_X8_group_43 n d (f_X8_group n) S a0 a1 a2 a3 a4 a5 a6 = some (x, S1) := H
  unfold b_X8_group_43 at H
  refine GA.iconst dX8_group_43 ?_
  refine GA.istore dX8_group_44 (by decide) ?_
  refine GA.aload dX8_group_46 rfl ?_
  refine GA.iload dX8_group_48 rfl ?_
  obtain ⟨hg1, H⟩ := gg_e H
  refine GV.if_eq (tgt := 58) hg1 dX8_group_50 (by decide) (fun c2 => ?_) (fun c2 => ?_)
  · have H := it_t H c2
    refine GA.bipush dX8_group_58 rfl ?_
    refine GA.locals [(0, .ref (L ((a0.toNat : Nat) : Int).toNat)), (1, .int (J a1)), (2, .int (J a2)), (3, .int (J a3)), (4, .ref (L ((a4.toNat : Nat) : Int).toNat)), (5, .int (J a5)), (6, .int (J a6)), (7, .int (J 0))] ⟨rfl, rfl, rfl, rfl, rfl, rfl, rfl, rfl, trivial⟩ ?_
    exact ih_X8_group_60 _ _ (((a0.toNat : Nat) : Int)) (a1) (a2) (a3) (((a4.toNat : Nat) : Int)) (a5) (a6) (0) (91) (((a4.toNat : Nat) : Int)) _ _ H
  · have H := it_f H c2
    refine GA.bipush dX8_group_53 rfl ?_
    refine GA.goto (tgt := 60) dX8_group_55 (by decide) ?_
    refine GA.locals [(0, .ref (L ((a0.toNat : Nat) : Int).toNat)), (1, .int (J a1)), (2, .int (J a2)), (3, .int (J a3)), (4, .ref (L ((a4.toNat : Nat) : Int).toNat)), (5, .int (J a5)), (6, .int (J a6)), (7, .int (J 0))] ⟨rfl, rfl, rfl, rfl, rfl, rfl, rfl, rfl, trivial⟩ ?_
    exact ih_X8_group_60 _ _ (((a0.toNat : Nat) : Int)) (a1) (a2) (a3) (((a4.toNat : Nat) : Int)) (a5) (a6) (0) (123) (((a4.toNat : Nat) : Int)) _ _ H
set_option maxHeartbeats 4000000 in
set_option maxRecDepth 20000 in
theorem t_X8_group_60 {l : Launch} {Z : XZ} {L : Nat → Nat} (n : Nat) (ih_X8_group_0 : P_X8_group_0 l Z L n) (ih_X8_group_23 : P_X8_group_23 l Z L n) (ih_X8_group_43 : P_X8_group_43 l Z L n) (ih_X8_group_60 : P_X8_group_60 l Z L n) (ih_X8_group_87 : P_X8_group_87 l Z L n) (ih_X8_group_131 : P_X8_group_131 l Z L n) (ih_X8_group_161 : P_X8_group_161 l Z L n) (ih_X8_group_214 : P_X8_group_214 l Z L n) (ih_X8_value_0 : P_X8_value_0 l Z L n) : P_X8_group_60 l Z L (n + 1) := by
  intro d S a0 a1 a2 a3 a4 a5 a6 a7 s0 s1 x S1 H
  have H : b_X8_group_60 n d (f_X8_group n) S a0 a1 a2 a3 a4 a5 a6 a7 s0 s1 = some (x, S1) := H
  unfold b_X8_group_60 at H
  obtain ⟨hg1, H⟩ := gg_e H
  obtain ⟨hg2, H⟩ := gg_e H
  obtain ⟨x3, S_4, hc5, H⟩ := gc_e H
  refine GA.callV (m_X9_add hc5) xs_X8_51 dX8_group_60 (gsS hg2) (by omega) rfl rfl (by omega) (by decide) rfl (Nat.le_of_ble_eq_true rfl) (by omega) (by omega) rfl (fun E S9 hx => hx.elim) (fun v S9 hq => ?_)
  obtain ⟨rfl, rfl⟩ := hq
  refine GA.iload dX8_group_63 rfl ?_
  obtain ⟨hg6, H⟩ := gg_e H
  refine GV.if_eq (tgt := 77) hg6 dX8_group_65 (by decide) (fun c7 => ?_) (fun c7 => ?_)
  · have H := it_t H c7
    refine GA.aload_n dX8_group_77 rfl ?_
    refine GA.iload_n dX8_group_78 rfl ?_
    obtain ⟨hg8, H⟩ := gg_e H
    obtain ⟨x9, S_10, hc11, H⟩ := gc_e H
    refine GA.callV (m_X10_first hc11) xs_X8_78 dX8_group_79 (gsT hg8) (by omega) rfl rfl (by omega) (by decide) rfl (Nat.le_of_ble_eq_true rfl) (by omega) (by omega) rfl (fun E S9 hx => hx.elim) (fun v S9 hq => ?_)
    obtain ⟨rfl, rfl⟩ := hq
    refine GA.istore dX8_group_82 (by decide) ?_
    refine GA.iconst dX8_group_84 ?_
    refine GA.istore dX8_group_85 (by decide) ?_
    refine GA.locals [(0, .ref (L ((a0.toNat : Nat) : Int).toNat)), (1, .int (J a1)), (2, .int (J a2)), (3, .int (J a3)), (4, .ref (L ((a4.toNat : Nat) : Int).toNat)), (5, .int (J a5)), (6, .int (J a6)), (7, .int (J a7)), (8, .int (J x9)), (9, .int (J 0))] ⟨rfl, rfl, rfl, rfl, rfl, rfl, rfl, rfl, rfl, rfl, trivial⟩ ?_
    exact ih_X8_group_87 _ _ (((a0.toNat : Nat) : Int)) (a1) (a2) (a3) (((a4.toNat : Nat) : Int)) (a5) (a6) (a7) (x9) (0) _ _ H
  · have H := it_f H c7
    refine GA.aload_n dX8_group_68 rfl ?_
    refine GA.iload_n dX8_group_69 rfl ?_
    refine GA.iconst dX8_group_70 ?_
    obtain ⟨hg12, H⟩ := gg_e H
    obtain ⟨x13, S_14, hc15, H⟩ := gc_e H
    refine GA.callV (m_X10_nextByKey hc15) xs_X8_81 dX8_group_71 (gsT hg12) (by omega) rfl rfl (by omega) (by decide) rfl (Nat.le_of_ble_eq_true rfl) (by omega) (by omega) rfl (fun E S9 hx => hx.elim) (fun v S9 hq => ?_)
    obtain ⟨rfl, rfl⟩ := hq
    refine GA.goto (tgt := 82) dX8_group_74 (by decide) ?_
    refine GA.istore dX8_group_82 (by decide) ?_
    refine GA.iconst dX8_group_84 ?_
    refine GA.istore dX8_group_85 (by decide) ?_
    refine GA.locals [(0, .ref (L ((a0.toNat : Nat) : Int).toNat)), (1, .int (J a1)), (2, .int (J a2)), (3, .int (J a3)), (4, .ref (L ((a4.toNat : Nat) : Int).toNat)), (5, .int (J a5)), (6, .int (J a6)), (7, .int (J a7)), (8, .int (J x13)), (9, .int (J 0))] ⟨rfl, rfl, rfl, rfl, rfl, rfl, rfl, rfl, rfl, rfl, trivial⟩ ?_
    exact ih_X8_group_87 _ _ (((a0.toNat : Nat) : Int)) (a1) (a2) (a3) (((a4.toNat : Nat) : Int)) (a5) (a6) (a7) (x13) (0) _ _ H
set_option maxHeartbeats 4000000 in
set_option maxRecDepth 20000 in
theorem t_X8_group_87 {l : Launch} {Z : XZ} {L : Nat → Nat} (n : Nat) (ih_X8_group_0 : P_X8_group_0 l Z L n) (ih_X8_group_23 : P_X8_group_23 l Z L n) (ih_X8_group_43 : P_X8_group_43 l Z L n) (ih_X8_group_60 : P_X8_group_60 l Z L n) (ih_X8_group_87 : P_X8_group_87 l Z L n) (ih_X8_group_131 : P_X8_group_131 l Z L n) (ih_X8_group_161 : P_X8_group_161 l Z L n) (ih_X8_group_214 : P_X8_group_214 l Z L n) (ih_X8_value_0 : P_X8_value_0 l Z L n) : P_X8_group_87 l Z L (n + 1) := by
  intro d S a0 a1 a2 a3 a4 a5 a6 a7 a8 a9 x S1 H
  have H : b_X8_group_87 n d (f_X8_group n) S a0 a1 a2 a3 a4 a5 a6 a7 a8 a9 = some (x, S1) := H
  unfold b_X8_group_87 at H
  refine GA.iload dX8_group_87 rfl ?_
  refine GA.bipush dX8_group_89 rfl ?_
  obtain ⟨hg1, H⟩ := gg_e H
  refine GV.icmp_ge (tgt := 203) hg1 (by decide) dX8_group_91 (by decide) (fun c2 => ?_) (fun c2 => ?_)
  · have H := it_t H c2
    refine GA.iload dX8_group_203 rfl ?_
    obtain ⟨hg3, H⟩ := gg_e H
    refine GV.if_eq (tgt := 214) hg3 dX8_group_205 (by decide) (fun c4 => ?_) (fun c4 => ?_)
    · have H := it_t H c4
      refine GA.locals [(4, .ref (L ((a4.toNat : Nat) : Int).toNat)), (5, .int (J a5))] ⟨rfl, rfl, trivial⟩ ?_
      exact ih_X8_group_214 _ _ (((a4.toNat : Nat) : Int)) (a5) _ _ H
    · have H := it_f H c4
      refine GA.iload_n dX8_group_208 rfl ?_
      refine GA.aload dX8_group_209 rfl ?_
      obtain ⟨hg5, H⟩ := gg_e H
      obtain ⟨x6, S_7, hc8, H⟩ := gc_e H
      refine GA.callS (m_X8_line hc8) xs_X8_84 dX8_group_211 rfl (by omega) (by decide) rfl (Nat.le_of_ble_eq_true rfl) (by omega) (by omega) rfl (fun E S9 hx => hx.elim) (fun v S9 hq => ?_)
      obtain ⟨rfl, rfl⟩ := hq
      refine GA.locals [(4, .ref (L ((a4.toNat : Nat) : Int).toNat)), (5, .int (J a5))] ⟨rfl, rfl, trivial⟩ ?_
      exact ih_X8_group_214 _ _ (((a4.toNat : Nat) : Int)) (a5) _ _ H
  · have H := it_f H c2
    refine GA.iload dX8_group_94 rfl ?_
    refine GA.iconst dX8_group_96 ?_
    obtain ⟨hg9, H⟩ := gg_e H
    refine GV.icmp_eq (tgt := 203) hg9 (by decide) dX8_group_97 (by decide) (fun c10 => ?_) (fun c10 => ?_)
    · have H := it_t H c10
      refine GA.iload dX8_group_203 rfl ?_
      obtain ⟨hg11, H⟩ := gg_e H
      refine GV.if_eq (tgt := 214) hg11 dX8_group_205 (by decide) (fun c12 => ?_) (fun c12 => ?_)
      · have H := it_t H c12
        refine GA.locals [(4, .ref (L ((a4.toNat : Nat) : Int).toNat)), (5, .int (J a5))] ⟨rfl, rfl, trivial⟩ ?_
        exact ih_X8_group_214 _ _ (((a4.toNat : Nat) : Int)) (a5) _ _ H
      · have H := it_f H c12
        refine GA.iload_n dX8_group_208 rfl ?_
        refine GA.aload dX8_group_209 rfl ?_
        obtain ⟨hg13, H⟩ := gg_e H
        obtain ⟨x14, S_15, hc16, H⟩ := gc_e H
        refine GA.callS (m_X8_line hc16) xs_X8_84 dX8_group_211 rfl (by omega) (by decide) rfl (Nat.le_of_ble_eq_true rfl) (by omega) (by omega) rfl (fun E S9 hx => hx.elim) (fun v S9 hq => ?_)
        obtain ⟨rfl, rfl⟩ := hq
        refine GA.locals [(4, .ref (L ((a4.toNat : Nat) : Int).toNat)), (5, .int (J a5))] ⟨rfl, rfl, trivial⟩ ?_
        exact ih_X8_group_214 _ _ (((a4.toNat : Nat) : Int)) (a5) _ _ H
    · have H := it_f H c10
      refine GA.iload_n dX8_group_100 rfl ?_
      refine GA.bipush dX8_group_101 rfl ?_
      obtain ⟨hg17, H⟩ := gg_e H
      refine GV.icmp_gt (tgt := 203) hg17 (by decide) dX8_group_103 (by decide) (fun c18 => ?_) (fun c18 => ?_)
      · have H := it_t H c18
        refine GA.iload dX8_group_203 rfl ?_
        obtain ⟨hg19, H⟩ := gg_e H
        refine GV.if_eq (tgt := 214) hg19 dX8_group_205 (by decide) (fun c20 => ?_) (fun c20 => ?_)
        · have H := it_t H c20
          refine GA.locals [(4, .ref (L ((a4.toNat : Nat) : Int).toNat)), (5, .int (J a5))] ⟨rfl, rfl, trivial⟩ ?_
          exact ih_X8_group_214 _ _ (((a4.toNat : Nat) : Int)) (a5) _ _ H
        · have H := it_f H c20
          refine GA.iload_n dX8_group_208 rfl ?_
          refine GA.aload dX8_group_209 rfl ?_
          obtain ⟨hg21, H⟩ := gg_e H
          obtain ⟨x22, S_23, hc24, H⟩ := gc_e H
          refine GA.callS (m_X8_line hc24) xs_X8_84 dX8_group_211 rfl (by omega) (by decide) rfl (Nat.le_of_ble_eq_true rfl) (by omega) (by omega) rfl (fun E S9 hx => hx.elim) (fun v S9 hq => ?_)
          obtain ⟨rfl, rfl⟩ := hq
          refine GA.locals [(4, .ref (L ((a4.toNat : Nat) : Int).toNat)), (5, .int (J a5))] ⟨rfl, rfl, trivial⟩ ?_
          exact ih_X8_group_214 _ _ (((a4.toNat : Nat) : Int)) (a5) _ _ H
      · have H := it_f H c18
        refine GA.iload dX8_group_106 rfl ?_
        refine GV.if_le (tgt := 118) hg1 dX8_group_108 (by decide) (fun c25 => ?_) (fun c25 => ?_)
        · have H := it_t H c25
          refine GA.iload dX8_group_118 rfl ?_
          obtain ⟨hg26, H⟩ := gg_e H
          refine GV.if_eq (tgt := 131) hg26 dX8_group_120 (by decide) (fun c27 => ?_) (fun c27 => ?_)
          · have H := it_t H c27
            refine GA.locals [(0, .ref (L ((a0.toNat : Nat) : Int).toNat)), (1, .int (J a1)), (2, .int (J a2)), (3, .int (J a3)), (4, .ref (L ((a4.toNat : Nat) : Int).toNat)), (5, .int (J a5)), (6, .int (J a6)), (7, .int (J a7)), (8, .int (J a8)), (9, .int (J a9))] ⟨rfl, rfl, rfl, rfl, rfl, rfl, rfl, rfl, rfl, rfl, trivial⟩ ?_
            exact ih_X8_group_131 _ _ (((a0.toNat : Nat) : Int)) (a1) (a2) (a3) (((a4.toNat : Nat) : Int)) (a5) (a6) (a7) (a8) (a9) _ _ H
          · have H := it_f H c27
            refine GA.iload_n dX8_group_123 rfl ?_
            refine GA.iconst dX8_group_124 ?_
            obtain ⟨x28, hx29, H⟩ := gv_e H
            refine GV.iadd hx29 dX8_group_125 ?_
            refine GA.aload dX8_group_126 rfl ?_
            obtain ⟨hg30, H⟩ := gg_e H
            obtain ⟨x31, S_32, hc33, H⟩ := gc_e H
            refine GA.callS (m_X8_line hc33) xs_X8_84 dX8_group_128 rfl (by omega) (by decide) rfl (Nat.le_of_ble_eq_true rfl) (by omega) (by omega) rfl (fun E S9 hx => hx.elim) (fun v S9 hq => ?_)
            obtain ⟨rfl, rfl⟩ := hq
            refine GA.locals [(0, .ref (L ((a0.toNat : Nat) : Int).toNat)), (1, .int (J a1)), (2, .int (J a2)), (3, .int (J a3)), (4, .ref (L ((a4.toNat : Nat) : Int).toNat)), (5, .int (J a5)), (6, .int (J a6)), (7, .int (J a7)), (8, .int (J a8)), (9, .int (J a9))] ⟨rfl, rfl, rfl, rfl, rfl, rfl, rfl, rfl, rfl, rfl, trivial⟩ ?_
            exact ih_X8_group_131 _ _ (((a0.toNat : Nat) : Int)) (a1) (a2) (a3) (((a4.toNat : Nat) : Int)) (a5) (a6) (a7) (a8) (a9) _ _ H
        · have H := it_f H c25
          refine GA.aload dX8_group_111 rfl ?_
          refine GA.bipush dX8_group_113 rfl ?_
          obtain ⟨hg34, H⟩ := gg_e H
          obtain ⟨hg35, H⟩ := gg_e H
          obtain ⟨x36, S_37, hc38, H⟩ := gc_e H
          refine GA.callV (m_X9_add hc38) xs_X8_51 dX8_group_115 (gsS hg35) (by omega) rfl rfl (by omega) (by decide) rfl (Nat.le_of_ble_eq_true rfl) (by omega) (by omega) rfl (fun E S9 hx => hx.elim) (fun v S9 hq => ?_)
          obtain ⟨rfl, rfl⟩ := hq
          refine GA.iload dX8_group_118 rfl ?_
          obtain ⟨hg39, H⟩ := gg_e H
          refine GV.if_eq (tgt := 131) hg39 dX8_group_120 (by decide) (fun c40 => ?_) (fun c40 => ?_)
          · have H := it_t H c40
            refine GA.locals [(0, .ref (L ((a0.toNat : Nat) : Int).toNat)), (1, .int (J a1)), (2, .int (J a2)), (3, .int (J a3)), (4, .ref (L ((a4.toNat : Nat) : Int).toNat)), (5, .int (J a5)), (6, .int (J a6)), (7, .int (J a7)), (8, .int (J a8)), (9, .int (J a9))] ⟨rfl, rfl, rfl, rfl, rfl, rfl, rfl, rfl, rfl, rfl, trivial⟩ ?_
            exact ih_X8_group_131 _ _ (((a0.toNat : Nat) : Int)) (a1) (a2) (a3) (((a4.toNat : Nat) : Int)) (a5) (a6) (a7) (a8) (a9) _ _ H
          · have H := it_f H c40
            refine GA.iload_n dX8_group_123 rfl ?_
            refine GA.iconst dX8_group_124 ?_
            obtain ⟨x41, hx42, H⟩ := gv_e H
            refine GV.iadd hx42 dX8_group_125 ?_
            refine GA.aload dX8_group_126 rfl ?_
            obtain ⟨x43, S_44, hc45, H⟩ := gc_e H
            refine GA.callS (m_X8_line hc45) xs_X8_84 dX8_group_128 rfl (by omega) (by decide) rfl (Nat.le_of_ble_eq_true rfl) (by omega) (by omega) rfl (fun E S9 hx => hx.elim) (fun v S9 hq => ?_)
            obtain ⟨rfl, rfl⟩ := hq
            refine GA.locals [(0, .ref (L ((a0.toNat : Nat) : Int).toNat)), (1, .int (J a1)), (2, .int (J a2)), (3, .int (J a3)), (4, .ref (L ((a4.toNat : Nat) : Int).toNat)), (5, .int (J a5)), (6, .int (J a6)), (7, .int (J a7)), (8, .int (J a8)), (9, .int (J a9))] ⟨rfl, rfl, rfl, rfl, rfl, rfl, rfl, rfl, rfl, rfl, trivial⟩ ?_
            exact ih_X8_group_131 _ _ (((a0.toNat : Nat) : Int)) (a1) (a2) (a3) (((a4.toNat : Nat) : Int)) (a5) (a6) (a7) (a8) (a9) _ _ H
set_option maxHeartbeats 4000000 in
set_option maxRecDepth 20000 in
theorem t_X8_group_131 {l : Launch} {Z : XZ} {L : Nat → Nat} (n : Nat) (ih_X8_group_0 : P_X8_group_0 l Z L n) (ih_X8_group_23 : P_X8_group_23 l Z L n) (ih_X8_group_43 : P_X8_group_43 l Z L n) (ih_X8_group_60 : P_X8_group_60 l Z L n) (ih_X8_group_87 : P_X8_group_87 l Z L n) (ih_X8_group_131 : P_X8_group_131 l Z L n) (ih_X8_group_161 : P_X8_group_161 l Z L n) (ih_X8_group_214 : P_X8_group_214 l Z L n) (ih_X8_value_0 : P_X8_value_0 l Z L n) : P_X8_group_131 l Z L (n + 1) := by
  intro d S a0 a1 a2 a3 a4 a5 a6 a7 a8 a9 x S1 H
  have H : b_X8_group_131 n d (f_X8_group n) S a0 a1 a2 a3 a4 a5 a6 a7 a8 a9 = some (x, S1) := H
  unfold b_X8_group_131 at H
  refine GA.iload dX8_group_131 rfl ?_
  obtain ⟨hg1, H⟩ := gg_e H
  refine GV.if_eq (tgt := 161) hg1 dX8_group_133 (by decide) (fun c2 => ?_) (fun c2 => ?_)
  · have H := it_t H c2
    refine GA.locals [(0, .ref (L ((a0.toNat : Nat) : Int).toNat)), (1, .int (J a1)), (2, .int (J a2)), (3, .int (J a3)), (4, .ref (L ((a4.toNat : Nat) : Int).toNat)), (5, .int (J a5)), (6, .int (J a6)), (7, .int (J a7)), (8, .int (J a8)), (9, .int (J a9))] ⟨rfl, rfl, rfl, rfl, rfl, rfl, rfl, rfl, rfl, rfl, trivial⟩ ?_
    exact ih_X8_group_161 _ _ (((a0.toNat : Nat) : Int)) (a1) (a2) (a3) (((a4.toNat : Nat) : Int)) (a5) (a6) (a7) (a8) (a9) _ _ H
  · have H := it_f H c2
    refine GA.aload_n dX8_group_136 rfl ?_
    refine GA.iload dX8_group_137 rfl ?_
    refine GA.aload dX8_group_139 rfl ?_
    obtain ⟨hg3, H⟩ := gg_e H
    obtain ⟨x4, S_5, hc6, H⟩ := gc_e H
    refine GA.callS (m_X8_key hc6) xs_X8_87 dX8_group_141 rfl (by omega) (by decide) rfl (Nat.le_of_ble_eq_true rfl) (by omega) (by omega) rfl (fun E S9 hx => hx.elim) (fun v S9 hq => ?_)
    obtain ⟨rfl, rfl⟩ := hq
    refine GA.aload dX8_group_144 rfl ?_
    refine GA.iload dX8_group_146 rfl ?_
    obtain ⟨hg7, H⟩ := gg_e H
    refine GV.if_eq (tgt := 156) hg7 dX8_group_148 (by decide) (fun c8 => ?_) (fun c8 => ?_)
    · have H := it_t H c8
      refine GA.ldcS (i := 17) (tx := ":") (by decide +kernel) dX8_group_156 ?_
      obtain ⟨hg9, H⟩ := gg_e H
      obtain ⟨x10, S_11, hc12, H⟩ := gc_e H
      refine GA.callV (m_X9_addAll hc12) xs_X8_17 dX8_group_158 (gsS hg9) (by omega) rfl rfl (by omega) (by decide) rfl (Nat.le_of_ble_eq_true rfl) (by omega) (by omega) rfl (fun E S9 hx => hx.elim) (fun v S9 hq => ?_)
      obtain ⟨rfl, rfl⟩ := hq
      refine GA.locals [(0, .ref (L ((a0.toNat : Nat) : Int).toNat)), (1, .int (J a1)), (2, .int (J a2)), (3, .int (J a3)), (4, .ref (L ((a4.toNat : Nat) : Int).toNat)), (5, .int (J a5)), (6, .int (J a6)), (7, .int (J a7)), (8, .int (J a8)), (9, .int (J a9))] ⟨rfl, rfl, rfl, rfl, rfl, rfl, rfl, rfl, rfl, rfl, trivial⟩ ?_
      exact ih_X8_group_161 _ _ (((a0.toNat : Nat) : Int)) (a1) (a2) (a3) (((a4.toNat : Nat) : Int)) (a5) (a6) (a7) (a8) (a9) _ _ H
    · have H := it_f H c8
      refine GA.ldcS (i := 16) (tx := ": ") (by decide +kernel) dX8_group_151 ?_
      refine GA.goto (tgt := 158) dX8_group_153 (by decide) ?_
      obtain ⟨hg13, H⟩ := gg_e H
      obtain ⟨x14, S_15, hc16, H⟩ := gc_e H
      refine GA.callV (m_X9_addAll hc16) xs_X8_17 dX8_group_158 (gsS hg13) (by omega) rfl rfl (by omega) (by decide) rfl (Nat.le_of_ble_eq_true rfl) (by omega) (by omega) rfl (fun E S9 hx => hx.elim) (fun v S9 hq => ?_)
      obtain ⟨rfl, rfl⟩ := hq
      refine GA.locals [(0, .ref (L ((a0.toNat : Nat) : Int).toNat)), (1, .int (J a1)), (2, .int (J a2)), (3, .int (J a3)), (4, .ref (L ((a4.toNat : Nat) : Int).toNat)), (5, .int (J a5)), (6, .int (J a6)), (7, .int (J a7)), (8, .int (J a8)), (9, .int (J a9))] ⟨rfl, rfl, rfl, rfl, rfl, rfl, rfl, rfl, rfl, rfl, trivial⟩ ?_
      exact ih_X8_group_161 _ _ (((a0.toNat : Nat) : Int)) (a1) (a2) (a3) (((a4.toNat : Nat) : Int)) (a5) (a6) (a7) (a8) (a9) _ _ H
set_option maxHeartbeats 4000000 in
set_option maxRecDepth 20000 in
theorem t_X8_group_161 {l : Launch} {Z : XZ} {L : Nat → Nat} (n : Nat) (ih_X8_group_0 : P_X8_group_0 l Z L n) (ih_X8_group_23 : P_X8_group_23 l Z L n) (ih_X8_group_43 : P_X8_group_43 l Z L n) (ih_X8_group_60 : P_X8_group_60 l Z L n) (ih_X8_group_87 : P_X8_group_87 l Z L n) (ih_X8_group_131 : P_X8_group_131 l Z L n) (ih_X8_group_161 : P_X8_group_161 l Z L n) (ih_X8_group_214 : P_X8_group_214 l Z L n) (ih_X8_value_0 : P_X8_value_0 l Z L n) : P_X8_group_161 l Z L (n + 1) := by
  intro d S a0 a1 a2 a3 a4 a5 a6 a7 a8 a9 x S1 H
  have H : b_X8_group_161 n d (f_X8_group n) S a0 a1 a2 a3 a4 a5 a6 a7 a8 a9 = some (x, S1) := H
  unfold b_X8_group_161 at H
  refine GA.aload_n dX8_group_161 rfl ?_
  refine GA.iload dX8_group_162 rfl ?_
  refine GA.iload_n dX8_group_164 rfl ?_
  refine GA.iload_n dX8_group_165 rfl ?_
  refine GA.iconst dX8_group_166 ?_
  obtain ⟨x1, hx2, H⟩ := gv_e H
  refine GV.iadd hx2 dX8_group_167 ?_
  refine GA.aload dX8_group_168 rfl ?_
  obtain ⟨hg3, H⟩ := gg_e H
  obtain ⟨x4, S_5, hc6, H⟩ := gc_e H
  refine GA.callS (GM.of (by decide) (Nat.le_of_ble_eq_true rfl) (ih_X8_value_0 _ _ _ _ _ _ _ _ _ hc6)) xs_X8_94 dX8_group_170 rfl (by omega) (by decide) rfl (Nat.le_of_ble_eq_true rfl) (by omega) (by omega) rfl (fun E S9 hx => hx.elim) (fun v S9 hq => ?_)
  obtain ⟨rfl, rfl⟩ := hq
  refine GA.iload dX8_group_173 rfl ?_
  obtain ⟨hg7, H⟩ := gg_e H
  refine GV.if_eq (tgt := 188) hg7 dX8_group_175 (by decide) (fun c8 => ?_) (fun c8 => ?_)
  · have H := it_t H c8
    refine GA.aload_n dX8_group_188 rfl ?_
    refine GA.iload_n dX8_group_189 rfl ?_
    refine GA.iload dX8_group_190 rfl ?_
    obtain ⟨hg9, H⟩ := gg_e H
    obtain ⟨x10, S_11, hc12, H⟩ := gc_e H
    refine GA.callV (m_X10_next hc12) xs_X8_97 dX8_group_192 (gsT hg9) (by omega) rfl rfl (by omega) (by decide) rfl (Nat.le_of_ble_eq_true rfl) (by omega) (by omega) rfl (fun E S9 hx => hx.elim) (fun v S9 hq => ?_)
    obtain ⟨rfl, rfl⟩ := hq
    refine GA.istore dX8_group_195 (by decide) ?_
    obtain ⟨x13, hx14, H⟩ := gv_e H
    refine GV.iinc hx14 dX8_group_197 rfl (by decide) ?_
    refine GA.goto (tgt := 87) dX8_group_200 (by decide) ?_
    refine GA.locals [(0, .ref (L ((a0.toNat : Nat) : Int).toNat)), (1, .int (J a1)), (2, .int (J a2)), (3, .int (J a3)), (4, .ref (L ((a4.toNat : Nat) : Int).toNat)), (5, .int (J a5)), (6, .int (J a6)), (7, .int (J a7)), (8, .int (J x10)), (9, .int (J x13))] ⟨rfl, rfl, rfl, rfl, rfl, rfl, rfl, rfl, rfl, rfl, trivial⟩ ?_
    exact ih_X8_group_87 _ _ (((a0.toNat : Nat) : Int)) (a1) (a2) (a3) (((a4.toNat : Nat) : Int)) (a5) (a6) (a7) (x10) (x13) _ _ H
  · have H := it_f H c8
    refine GA.aload_n dX8_group_178 rfl ?_
    refine GA.iload_n dX8_group_179 rfl ?_
    refine GA.iload dX8_group_180 rfl ?_
    obtain ⟨hg15, H⟩ := gg_e H
    obtain ⟨x16, S_17, hc18, H⟩ := gc_e H
    refine GA.callV (m_X10_nextByKey hc18) xs_X8_81 dX8_group_182 (gsT hg15) (by omega) rfl rfl (by omega) (by decide) rfl (Nat.le_of_ble_eq_true rfl) (by omega) (by omega) rfl (fun E S9 hx => hx.elim) (fun v S9 hq => ?_)
    obtain ⟨rfl, rfl⟩ := hq
    refine GA.goto (tgt := 195) dX8_group_185 (by decide) ?_
    refine GA.istore dX8_group_195 (by decide) ?_
    obtain ⟨x19, hx20, H⟩ := gv_e H
    refine GV.iinc hx20 dX8_group_197 rfl (by decide) ?_
    refine GA.goto (tgt := 87) dX8_group_200 (by decide) ?_
    refine GA.locals [(0, .ref (L ((a0.toNat : Nat) : Int).toNat)), (1, .int (J a1)), (2, .int (J a2)), (3, .int (J a3)), (4, .ref (L ((a4.toNat : Nat) : Int).toNat)), (5, .int (J a5)), (6, .int (J a6)), (7, .int (J a7)), (8, .int (J x16)), (9, .int (J x19))] ⟨rfl, rfl, rfl, rfl, rfl, rfl, rfl, rfl, rfl, rfl, trivial⟩ ?_
    exact ih_X8_group_87 _ _ (((a0.toNat : Nat) : Int)) (a1) (a2) (a3) (((a4.toNat : Nat) : Int)) (a5) (a6) (a7) (x16) (x19) _ _ H
set_option maxHeartbeats 4000000 in
set_option maxRecDepth 20000 in
theorem t_X8_group_214 {l : Launch} {Z : XZ} {L : Nat → Nat} (n : Nat) (ih_X8_group_0 : P_X8_group_0 l Z L n) (ih_X8_group_23 : P_X8_group_23 l Z L n) (ih_X8_group_43 : P_X8_group_43 l Z L n) (ih_X8_group_60 : P_X8_group_60 l Z L n) (ih_X8_group_87 : P_X8_group_87 l Z L n) (ih_X8_group_131 : P_X8_group_131 l Z L n) (ih_X8_group_161 : P_X8_group_161 l Z L n) (ih_X8_group_214 : P_X8_group_214 l Z L n) (ih_X8_value_0 : P_X8_value_0 l Z L n) : P_X8_group_214 l Z L (n + 1) := by
  intro d S a4 a5 x S1 H
  have H : b_X8_group_214 n d (f_X8_group n) S a4 a5 = some (x, S1) := H
  unfold b_X8_group_214 at H
  refine GA.aload dX8_group_214 rfl ?_
  refine GA.iload dX8_group_216 rfl ?_
  obtain ⟨hg1, H⟩ := gg_e H
  refine GV.if_eq (tgt := 226) hg1 dX8_group_218 (by decide) (fun c2 => ?_) (fun c2 => ?_)
  · have H := it_t H c2
    refine GA.bipush dX8_group_226 rfl ?_
    obtain ⟨hg3, H⟩ := gg_e H
    obtain ⟨hg4, H⟩ := gg_e H
    obtain ⟨x5, S_6, hc7, H⟩ := gc_e H
    refine GA.callV (m_X9_add hc7) xs_X8_51 dX8_group_228 (gsS hg4) (by omega) rfl rfl (by omega) (by decide) rfl (Nat.le_of_ble_eq_true rfl) (by omega) (by omega) rfl (fun E S9 hx => hx.elim) (fun v S9 hq => ?_)
    obtain ⟨rfl, rfl⟩ := hq
    cases H
    exact GA.vret rfl dX8_group_231 (by omega) (by omega) ⟨rfl, rfl⟩
  · have H := it_f H c2
    refine GA.bipush dX8_group_221 rfl ?_
    refine GA.goto (tgt := 228) dX8_group_223 (by decide) ?_
    obtain ⟨hg8, H⟩ := gg_e H
    obtain ⟨hg9, H⟩ := gg_e H
    obtain ⟨x10, S_11, hc12, H⟩ := gc_e H
    refine GA.callV (m_X9_add hc12) xs_X8_51 dX8_group_228 (gsS hg9) (by omega) rfl rfl (by omega) (by decide) rfl (Nat.le_of_ble_eq_true rfl) (by omega) (by omega) rfl (fun E S9 hx => hx.elim) (fun v S9 hq => ?_)
    obtain ⟨rfl, rfl⟩ := hq
    cases H
    exact GA.vret rfl dX8_group_231 (by omega) (by omega) ⟨rfl, rfl⟩
set_option maxHeartbeats 4000000 in
set_option maxRecDepth 20000 in
theorem t_X8_value_0 {l : Launch} {Z : XZ} {L : Nat → Nat} (n : Nat) (ih_X8_group_0 : P_X8_group_0 l Z L n) (ih_X8_group_23 : P_X8_group_23 l Z L n) (ih_X8_group_43 : P_X8_group_43 l Z L n) (ih_X8_group_60 : P_X8_group_60 l Z L n) (ih_X8_group_87 : P_X8_group_87 l Z L n) (ih_X8_group_131 : P_X8_group_131 l Z L n) (ih_X8_group_161 : P_X8_group_161 l Z L n) (ih_X8_group_214 : P_X8_group_214 l Z L n) (ih_X8_value_0 : P_X8_value_0 l Z L n) : P_X8_value_0 l Z L (n + 1) := by
  intro d S a0 a1 a2 a3 a4 x S1 H
  have H : b_X8_value_0 n d (f_X8_group n) S a0 a1 a2 a3 a4 = some (x, S1) := H
  unfold b_X8_value_0 at H
  refine GA.aload_n dX8_value_0 rfl ?_
  refine GA.iload_n dX8_value_1 rfl ?_
  obtain ⟨hg1, H⟩ := gg_e H
  obtain ⟨hg2, H⟩ := gg_e H
  obtain ⟨x3, S_4, hc5, H⟩ := gc_e H
  refine GA.callV (m_X10_kind hc5) xs_X8_9 dX8_value_2 (gsT hg2) (by omega) rfl rfl (by omega) (by decide) rfl (Nat.le_of_ble_eq_true rfl) (by omega) (by omega) rfl (fun E S9 hx => hx.elim) (fun v S9 hq => ?_)
  obtain ⟨rfl, rfl⟩ := hq
  obtain ⟨hg6, H⟩ := gg_e H
  by_cases c7 : x3 = 0
  · have H := it_t H c7
    refine GA.tableIn (tgt := 36) dX8_value_5 hg6 (by omega) (by omega) (by rw [c7]; rfl) (by decide) ?_
    refine GA.aload dX8_value_36 rfl ?_
    refine GA.ldcS (i := 12) (tx := "null") (by decide +kernel) dX8_value_38 ?_
    obtain ⟨hg8, H⟩ := gg_e H
    obtain ⟨x9, S_10, hc11, H⟩ := gc_e H
    refine GA.callV (m_X9_addAll hc11) xs_X8_17 dX8_value_40 (gsS hg8) (by omega) rfl rfl (by omega) (by decide) rfl (Nat.le_of_ble_eq_true rfl) (by omega) (by omega) rfl (fun E S9 hx => hx.elim) (fun v S9 hq => ?_)
    obtain ⟨rfl, rfl⟩ := hq
    refine GA.goto (tgt := 98) dX8_value_43 (by decide) ?_
    cases H
    exact GA.vret rfl dX8_value_98 (by omega) (by omega) ⟨rfl, rfl⟩
  have H := it_f H c7
  by_cases c12 : x3 = 1
  · have H := it_t H c12
    refine GA.tableIn (tgt := 46) dX8_value_5 hg6 (by omega) (by omega) (by rw [c12]; rfl) (by decide) ?_
    refine GA.aload dX8_value_46 rfl ?_
    refine GA.aload_n dX8_value_48 rfl ?_
    refine GA.iload_n dX8_value_49 rfl ?_
    obtain ⟨x13, S_14, hc15, H⟩ := gc_e H
    refine GA.callV (m_X10_isTrue hc15) xs_X8_23 dX8_value_50 (gsT hg2) (by omega) rfl rfl (by omega) (by decide) rfl (Nat.le_of_ble_eq_true rfl) (by omega) (by omega) rfl (fun E S9 hx => hx.elim) (fun v S9 hq => ?_)
    obtain ⟨rfl, rfl⟩ := hq
    obtain ⟨hg16, H⟩ := gg_e H
    refine GV.if_eq (tgt := 61) hg16 dX8_value_53 (by decide) (fun c17 => ?_) (fun c17 => ?_)
    · have H := it_t H c17
      refine GA.ldcS (i := 14) (tx := "false") (by decide +kernel) dX8_value_61 ?_
      obtain ⟨hg18, H⟩ := gg_e H
      obtain ⟨x19, S_20, hc21, H⟩ := gc_e H
      refine GA.callV (m_X9_addAll hc21) xs_X8_17 dX8_value_63 (gsS hg18) (by omega) rfl rfl (by omega) (by decide) rfl (Nat.le_of_ble_eq_true rfl) (by omega) (by omega) rfl (fun E S9 hx => hx.elim) (fun v S9 hq => ?_)
      obtain ⟨rfl, rfl⟩ := hq
      refine GA.goto (tgt := 98) dX8_value_66 (by decide) ?_
      cases H
      exact GA.vret rfl dX8_value_98 (by omega) (by omega) ⟨rfl, rfl⟩
    · have H := it_f H c17
      refine GA.ldcS (i := 13) (tx := "true") (by decide +kernel) dX8_value_56 ?_
      refine GA.goto (tgt := 63) dX8_value_58 (by decide) ?_
      obtain ⟨hg22, H⟩ := gg_e H
      obtain ⟨x23, S_24, hc25, H⟩ := gc_e H
      refine GA.callV (m_X9_addAll hc25) xs_X8_17 dX8_value_63 (gsS hg22) (by omega) rfl rfl (by omega) (by decide) rfl (Nat.le_of_ble_eq_true rfl) (by omega) (by omega) rfl (fun E S9 hx => hx.elim) (fun v S9 hq => ?_)
      obtain ⟨rfl, rfl⟩ := hq
      refine GA.goto (tgt := 98) dX8_value_66 (by decide) ?_
      cases H
      exact GA.vret rfl dX8_value_98 (by omega) (by omega) ⟨rfl, rfl⟩
  have H := it_f H c12
  by_cases c26 : x3 = 2
  · have H := it_t H c26
    refine GA.tableIn (tgt := 69) dX8_value_5 hg6 (by omega) (by omega) (by rw [c26]; rfl) (by decide) ?_
    refine GA.aload_n dX8_value_69 rfl ?_
    refine GA.iload_n dX8_value_70 rfl ?_
    refine GA.aload dX8_value_71 rfl ?_
    obtain ⟨x27, S_28, hc29, H⟩ := gc_e H
    refine GA.callS (m_X8_number hc29) xs_X8_31 dX8_value_73 rfl (by omega) (by decide) rfl (Nat.le_of_ble_eq_true rfl) (by omega) (by omega) rfl (fun E S9 hx => hx.elim) (fun v S9 hq => ?_)
    obtain ⟨rfl, rfl⟩ := hq
    refine GA.goto (tgt := 98) dX8_value_76 (by decide) ?_
    cases H
    exact GA.vret rfl dX8_value_98 (by omega) (by omega) ⟨rfl, rfl⟩
  have H := it_f H c26
  by_cases c30 : x3 = 3
  · have H := it_t H c30
    refine GA.tableIn (tgt := 79) dX8_value_5 hg6 (by omega) (by omega) (by rw [c30]; rfl) (by decide) ?_
    refine GA.aload_n dX8_value_79 rfl ?_
    refine GA.iload_n dX8_value_80 rfl ?_
    refine GA.aload dX8_value_81 rfl ?_
    obtain ⟨x31, S_32, hc33, H⟩ := gc_e H
    refine GA.callS (m_X8_text hc33) xs_X8_37 dX8_value_83 rfl (by omega) (by decide) rfl (Nat.le_of_ble_eq_true rfl) (by omega) (by omega) rfl (fun E S9 hx => hx.elim) (fun v S9 hq => ?_)
    obtain ⟨rfl, rfl⟩ := hq
    refine GA.goto (tgt := 98) dX8_value_86 (by decide) ?_
    cases H
    exact GA.vret rfl dX8_value_98 (by omega) (by omega) ⟨rfl, rfl⟩
  have H := it_f H c30
  refine GA.tableOut (tgt := 89) dX8_value_5 hg6 (by omega) (by decide) ?_
  refine GA.aload_n dX8_value_89 rfl ?_
  refine GA.iload_n dX8_value_90 rfl ?_
  refine GA.iload_n dX8_value_91 rfl ?_
  refine GA.iload_n dX8_value_92 rfl ?_
  refine GA.aload dX8_value_93 rfl ?_
  obtain ⟨x34, S_35, hc36, H⟩ := gc_e H
  refine GA.callS (GM.of (by decide) (Nat.le_of_ble_eq_true rfl) (ih_X8_group_0 _ _ _ _ _ _ _ _ _ hc36)) xs_X8_40 dX8_value_95 rfl (by omega) (by decide) rfl (Nat.le_of_ble_eq_true rfl) (by omega) (by omega) rfl (fun E S9 hx => hx.elim) (fun v S9 hq => ?_)
  obtain ⟨rfl, rfl⟩ := hq
  cases H
  exact GA.vret rfl dX8_value_98 (by omega) (by omega) ⟨rfl, rfl⟩
theorem g_X8_group {l : Launch} {Z : XZ} {L : Nat → Nat} : ∀ n, P_X8_group_0 l Z L n ∧ P_X8_group_23 l Z L n ∧ P_X8_group_43 l Z L n ∧ P_X8_group_60 l Z L n ∧ P_X8_group_87 l Z L n ∧ P_X8_group_131 l Z L n ∧ P_X8_group_161 l Z L n ∧ P_X8_group_214 l Z L n ∧ P_X8_value_0 l Z L n
  | 0 => ⟨fun _ _ _ _ _ _ _ _ _ H => no_e H, fun _ _ _ _ _ _ _ _ _ _ _ H => no_e H, fun _ _ _ _ _ _ _ _ _ _ _ H => no_e H, fun _ _ _ _ _ _ _ _ _ _ _ _ _ _ H => no_e H, fun _ _ _ _ _ _ _ _ _ _ _ _ _ _ H => no_e H, fun _ _ _ _ _ _ _ _ _ _ _ _ _ _ H => no_e H, fun _ _ _ _ _ _ _ _ _ _ _ _ _ _ H => no_e H, fun _ _ _ _ _ _ H => no_e H, fun _ _ _ _ _ _ _ _ _ H => no_e H⟩
  | n + 1 => have ⟨h0, h1, h2, h3, h4, h5, h6, h7, h8⟩ := g_X8_group (l := l) (Z := Z) (L := L) n
    ⟨t_X8_group_0 n h0 h1 h2 h3 h4 h5 h6 h7 h8, t_X8_group_23 n h0 h1 h2 h3 h4 h5 h6 h7 h8, t_X8_group_43 n h0 h1 h2 h3 h4 h5 h6 h7 h8, t_X8_group_60 n h0 h1 h2 h3 h4 h5 h6 h7 h8, t_X8_group_87 n h0 h1 h2 h3 h4 h5 h6 h7 h8, t_X8_group_131 n h0 h1 h2 h3 h4 h5 h6 h7 h8, t_X8_group_161 n h0 h1 h2 h3 h4 h5 h6 h7 h8, t_X8_group_214 n h0 h1 h2 h3 h4 h5 h6 h7 h8, t_X8_value_0 n h0 h1 h2 h3 h4 h5 h6 h7 h8⟩
theorem m_X8_group {l : Launch} {Z : XZ} {L : Nat → Nat} {n d : Nat} {S : GS} {a0 : Int} {a1 : Int} {a2 : Int} {a3 : Int} {a4 : Int} {x : Int} {S1 : GS} (H : f_X8_group n d 0 S [a0, a1, a2, a3, a4] = some (x, S1)) : GM l Z L yX8_group cX8_group 10 none [] d 0 0 [.ref (L a0.toNat), .int (J a1), .int (J a2), .int (J a3), .ref (L a4.toNat)] S (fun v S' => v = none ∧ S1 = S') (fun _ _ => False) := GM.of (by decide) (Nat.le_of_ble_eq_true rfl) ((g_X8_group n).1 _ _ _ _ _ _ _ _ _ H)
theorem m_X8_value {l : Launch} {Z : XZ} {L : Nat → Nat} {n d : Nat} {S : GS} {a0 : Int} {a1 : Int} {a2 : Int} {a3 : Int} {a4 : Int} {x : Int} {S1 : GS} (H : f_X8_group n d 10000 S [a0, a1, a2, a3, a4] = some (x, S1)) : GM l Z L yX8_value cX8_value 5 none [] d 0 0 [.ref (L a0.toNat), .int (J a1), .int (J a2), .int (J a3), .ref (L a4.toNat)] S (fun v S' => v = none ∧ S1 = S') (fun _ _ => False) := GM.of (by decide) (Nat.le_of_ble_eq_true rfl) ((g_X8_group n).2.2.2.2.2.2.2.2 _ _ _ _ _ _ _ _ _ H)

