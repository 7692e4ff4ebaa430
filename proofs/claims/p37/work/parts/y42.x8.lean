def P_X8_number_0 (l : Launch) (Z : XZ) (L : Nat → Nat) (n : Nat) : Prop := ∀ (d : Nat) (S : GS) (a0 : Nat) (a1 : Int) (a2 : Nat) (x : Int) (S1 : GS), f_X8_number n d 0 S [((a0 : Nat) : Int), a1, ((a2 : Nat) : Int)] = some (x, S1) → GA l Z L yX8_number cX8_number 3 none [] d 0 0 (fun v S' => v = none ∧ S1 = S') (fun _ _ => False) 0 (gl [(0, .ref (L a0)), (1, .int (J a1)), (2, .ref (L a2))]) [] S 0 0
theorem i_X8_number {l : Launch} {Z : XZ} {L : Nat → Nat} {n : Nat} (ih : P_X8_number_0 l Z L n) {d : Nat} {S : GS} {a0 : Nat} {a1 : Int} {a2 : Nat} {x : Int} {S1 : GS} (H : f_X8_number n d 0 S [((a0 : Nat) : Int), a1, ((a2 : Nat) : Int)] = some (x, S1)) : GM l Z L yX8_number cX8_number 3 none [] d 0 0 [.ref (L a0), .int (J a1), .ref (L a2)] S (fun v S' => v = none ∧ S1 = S') (fun _ _ => False) := GM.of (by decide) (Nat.le_of_ble_eq_true rfl) (ih _ _ _ _ _ _ _ H)
set_option maxHeartbeats 4000000 in
set_option maxRecDepth 20000 in
theorem t_X8_number_0 {l : Launch} {Z : XZ} {L : Nat → Nat} (n : Nat) (ih_X8_number_0 : P_X8_number_0 l Z L n) : P_X8_number_0 l Z L (n + 1) := by
  intro d S a0 a1 a2 x S1 H
  have H : b_X8_number_0 n d (f_X8_number n) S a0 a1 a2 = some (x, S1) := H
  unfold b_X8_number_0 at H
  refine GA.aload_n dX8_number_0 rfl ?_
  refine GA.iload_n dX8_number_1 rfl ?_
  refine GA.aload_n dX8_number_2 rfl ?_
  obtain ⟨hg1, H⟩ := gg_e H
  obtain ⟨hg2, H⟩ := gg_e H
  obtain ⟨x3, S_4, hc5, H⟩ := gc_e H
  refine GA.callV (m_X10_signsTo hc5) xs_X8_44 dX8_number_3 (gsT hg2) (by omega) rfl rfl (by omega) (by decide) rfl (Nat.le_of_ble_eq_true rfl) (by omega) (by omega) rfl (fun E S9 hx => hx.elim) (fun v S9 hq => ?_)
  obtain ⟨rfl, rfl⟩ := hq
  refine GA.aload_n dX8_number_6 rfl ?_
  refine GA.iload_n dX8_number_7 rfl ?_
  obtain ⟨x6, S_7, hc8, H⟩ := gc_e H
  refine GA.callV (m_X10_power hc8) xs_X8_48 dX8_number_8 (gsT hg2) (by omega) rfl rfl (by omega) (by decide) rfl (Nat.le_of_ble_eq_true rfl) (by omega) (by omega) rfl (fun E S9 hx => hx.elim) (fun v S9 hq => ?_)
  obtain ⟨rfl, rfl⟩ := hq
  obtain ⟨hg9, H⟩ := gg_e H
  refine GV.if_eq (tgt := 29) hg9 dX8_number_11 (by decide) (fun c10 => ?_) (fun c10 => ?_)
  · have H := it_t H c10
    cases H
    exact GA.vret rfl dX8_number_29 (by omega) (by omega) ⟨rfl, rfl⟩
  · have H := it_f H c10
    refine GA.aload_n dX8_number_14 rfl ?_
    refine GA.bipush dX8_number_15 rfl ?_
    obtain ⟨hg11, H⟩ := gg_e H
    obtain ⟨x12, S_13, hc14, H⟩ := gc_e H
    refine GA.callV (m_X9_add hc14) xs_X8_51 dX8_number_17 (gsS hg11) (by omega) rfl rfl (by omega) (by decide) rfl (Nat.le_of_ble_eq_true rfl) (by omega) (by omega) rfl (fun E S9 hx => hx.elim) (fun v S9 hq => ?_)
    obtain ⟨rfl, rfl⟩ := hq
    refine GA.aload_n dX8_number_20 rfl ?_
    refine GA.aload_n dX8_number_21 rfl ?_
    refine GA.iload_n dX8_number_22 rfl ?_
    obtain ⟨x15, S_16, hc17, H⟩ := gc_e H
    refine GA.callV (m_X10_power hc17) xs_X8_48 dX8_number_23 (gsT hg2) (by omega) rfl rfl (by omega) (by decide) rfl (Nat.le_of_ble_eq_true rfl) (by omega) (by omega) rfl (fun E S9 hx => hx.elim) (fun v S9 hq => ?_)
    obtain ⟨rfl, rfl⟩ := hq
    obtain ⟨x18, S_19, hc20, H⟩ := gc_e H
    refine GA.callV (m_X9_addNumber hc20) xs_X8_55 dX8_number_26 (gsS hg11) (by omega) rfl rfl (by omega) (by decide) rfl (Nat.le_of_ble_eq_true rfl) (by omega) (by omega) rfl (fun E S9 hx => hx.elim) (fun v S9 hq => ?_)
    obtain ⟨rfl, rfl⟩ := hq
    cases H
    exact GA.vret rfl dX8_number_29 (by omega) (by omega) ⟨rfl, rfl⟩
theorem g_X8_number {l : Launch} {Z : XZ} {L : Nat → Nat} : ∀ n, P_X8_number_0 l Z L n
  | 0 => fun _ _ _ _ _ _ _ H => no_e H
  | n + 1 => t_X8_number_0 n (g_X8_number n)
theorem m_X8_number {l : Launch} {Z : XZ} {L : Nat → Nat} {n d : Nat} {S : GS} {a0 : Nat} {a1 : Int} {a2 : Nat} {x : Int} {S1 : GS} (H : f_X8_number n d 0 S [((a0 : Nat) : Int), a1, ((a2 : Nat) : Int)] = some (x, S1)) : GM l Z L yX8_number cX8_number 3 none [] d 0 0 [.ref (L a0), .int (J a1), .ref (L a2)] S (fun v S' => v = none ∧ S1 = S') (fun _ _ => False) := GM.of (by decide) (Nat.le_of_ble_eq_true rfl) ((g_X8_number n) _ _ _ _ _ _ _ H)

def P_X8_text_0 (l : Launch) (Z : XZ) (L : Nat → Nat) (n : Nat) : Prop := ∀ (d : Nat) (S : GS) (a0 : Nat) (a1 : Int) (a2 : Nat) (x : Int) (S1 : GS), f_X8_text n d 0 S [((a0 : Nat) : Int), a1, ((a2 : Nat) : Int)] = some (x, S1) → GA l Z L yX8_text cX8_text 4 none [] d 0 0 (fun v S' => v = none ∧ S1 = S') (fun _ _ => False) 0 (gl [(0, .ref (L a0)), (1, .int (J a1)), (2, .ref (L a2))]) [] S 0 0
def P_X8_text_8 (l : Launch) (Z : XZ) (L : Nat → Nat) (n : Nat) : Prop := ∀ (d : Nat) (S : GS) (a0 : Nat) (a1 : Int) (a2 : Nat) (a3 : Int) (x : Int) (S1 : GS), f_X8_text n d 8 S [((a0 : Nat) : Int), a1, ((a2 : Nat) : Int), a3] = some (x, S1) → GA l Z L yX8_text cX8_text 4 none [] d 0 0 (fun v S' => v = none ∧ S1 = S') (fun _ _ => False) 8 (gl [(0, .ref (L a0)), (1, .int (J a1)), (2, .ref (L a2)), (3, .int (J a3))]) [] S 0 0
theorem i_X8_text {l : Launch} {Z : XZ} {L : Nat → Nat} {n : Nat} (ih : P_X8_text_0 l Z L n) {d : Nat} {S : GS} {a0 : Nat} {a1 : Int} {a2 : Nat} {x : Int} {S1 : GS} (H : f_X8_text n d 0 S [((a0 : Nat) : Int), a1, ((a2 : Nat) : Int)] = some (x, S1)) : GM l Z L yX8_text cX8_text 4 none [] d 0 0 [.ref (L a0), .int (J a1), .ref (L a2)] S (fun v S' => v = none ∧ S1 = S') (fun _ _ => False) := GM.of (by decide) (Nat.le_of_ble_eq_true rfl) (ih _ _ _ _ _ _ _ H)
set_option maxHeartbeats 4000000 in
set_option maxRecDepth 20000 in
theorem t_X8_text_0 {l : Launch} {Z : XZ} {L : Nat → Nat} (n : Nat) (ih_X8_text_0 : P_X8_text_0 l Z L n) (ih_X8_text_8 : P_X8_text_8 l Z L n) : P_X8_text_0 l Z L (n + 1) := by
  intro d S a0 a1 a2 x S1 H
  have H : b_X8_text_0 n d (f_X8_text n) S a0 a1 a2 = some (x, S1) := H
  unfold b_X8_text_0 at H
  refine GA.aload_n dX8_text_0 rfl ?_
  refine GA.bipush dX8_text_1 rfl ?_
  obtain ⟨hg1, H⟩ := gg_e H
  obtain ⟨hg2, H⟩ := gg_e H
  obtain ⟨x3, S_4, hc5, H⟩ := gc_e H
  refine GA.callV (m_X9_add hc5) xs_X8_51 dX8_text_3 (gsS hg2) (by omega) rfl rfl (by omega) (by decide) rfl (Nat.le_of_ble_eq_true rfl) (by omega) (by omega) rfl (fun E S9 hx => hx.elim) (fun v S9 hq => ?_)
  obtain ⟨rfl, rfl⟩ := hq
  refine GA.iconst dX8_text_6 ?_
  refine GA.istore_n dX8_text_7 (by decide) ?_
  refine GA.locals [(0, .ref (L a0)), (1, .int (J a1)), (2, .ref (L a2)), (3, .int (J 0))] ⟨rfl, rfl, rfl, rfl, trivial⟩ ?_
  exact ih_X8_text_8 _ _ (a0) (a1) (a2) (0) _ _ H
set_option maxHeartbeats 4000000 in
set_option maxRecDepth 20000 in
theorem t_X8_text_8 {l : Launch} {Z : XZ} {L : Nat → Nat} (n : Nat) (ih_X8_text_0 : P_X8_text_0 l Z L n) (ih_X8_text_8 : P_X8_text_8 l Z L n) : P_X8_text_8 l Z L (n + 1) := by
  intro d S a0 a1 a2 a3 x S1 H
  have H : b_X8_text_8 n d (f_X8_text n) S a0 a1 a2 a3 = some (x, S1) := H
  unfold b_X8_text_8 at H
  refine GA.iload_n dX8_text_8 rfl ?_
  refine GA.aload_n dX8_text_9 rfl ?_
  refine GA.iload_n dX8_text_10 rfl ?_
  obtain ⟨hg1, H⟩ := gg_e H
  obtain ⟨hg2, H⟩ := gg_e H
  obtain ⟨x3, S_4, hc5, H⟩ := gc_e H
  refine GA.callV (m_X10_lengthOf hc5) xs_X8_58 dX8_text_11 (gsT hg2) (by omega) rfl rfl (by omega) (by decide) rfl (Nat.le_of_ble_eq_true rfl) (by omega) (by omega) rfl (fun E S9 hx => hx.elim) (fun v S9 hq => ?_)
  obtain ⟨rfl, rfl⟩ := hq
  obtain ⟨hg6, H⟩ := gg_e H
  obtain ⟨hg7, H⟩ := gg_e H
  refine GV.icmp_ge (tgt := 33) hg6 hg7 dX8_text_14 (by decide) (fun c8 => ?_) (fun c8 => ?_)
  · have H := it_t H c8
    refine GA.aload_n dX8_text_33 rfl ?_
    refine GA.bipush dX8_text_34 rfl ?_
    obtain ⟨hg9, H⟩ := gg_e H
    obtain ⟨x10, S_11, hc12, H⟩ := gc_e H
    refine GA.callV (m_X9_add hc12) xs_X8_51 dX8_text_36 (gsS hg9) (by omega) rfl rfl (by omega) (by decide) rfl (Nat.le_of_ble_eq_true rfl) (by omega) (by omega) rfl (fun E S9 hx => hx.elim) (fun v S9 hq => ?_)
    obtain ⟨rfl, rfl⟩ := hq
    cases H
    exact GA.vret rfl dX8_text_39 (by omega) (by omega) ⟨rfl, rfl⟩
  · have H := it_f H c8
    refine GA.aload_n dX8_text_17 rfl ?_
    refine GA.aload_n dX8_text_18 rfl ?_
    refine GA.iload_n dX8_text_19 rfl ?_
    refine GA.iload_n dX8_text_20 rfl ?_
    obtain ⟨x13, S_14, hc15, H⟩ := gc_e H
    refine GA.callV (m_X10_signAt hc15) xs_X8_61 dX8_text_21 (gsT hg2) (by omega) rfl rfl (by omega) (by decide) rfl (Nat.le_of_ble_eq_true rfl) (by omega) (by omega) rfl (fun E S9 hx => hx.elim) (fun v S9 hq => ?_)
    obtain ⟨rfl, rfl⟩ := hq
    obtain ⟨hg16, H⟩ := gg_e H
    obtain ⟨x17, S_18, hc19, H⟩ := gc_e H
    refine GA.callV (m_X9_addWritten hc19) xs_X8_65 dX8_text_24 (gsS hg16) (by omega) rfl rfl (by omega) (by decide) rfl (Nat.le_of_ble_eq_true rfl) (by omega) (by omega) rfl (fun E S9 hx => hx.elim) (fun v S9 hq => ?_)
    obtain ⟨rfl, rfl⟩ := hq
    obtain ⟨x20, hx21, H⟩ := gv_e H
    refine GV.iinc hx21 dX8_text_27 rfl (by decide) ?_
    refine GA.goto (tgt := 8) dX8_text_30 (by decide) ?_
    refine GA.locals [(0, .ref (L a0)), (1, .int (J a1)), (2, .ref (L a2)), (3, .int (J x20))] ⟨rfl, rfl, rfl, rfl, trivial⟩ ?_
    exact ih_X8_text_8 _ _ (a0) (a1) (a2) (x20) _ _ H
theorem g_X8_text {l : Launch} {Z : XZ} {L : Nat → Nat} : ∀ n, P_X8_text_0 l Z L n ∧ P_X8_text_8 l Z L n
  | 0 => ⟨fun _ _ _ _ _ _ _ H => no_e H, fun _ _ _ _ _ _ _ _ H => no_e H⟩
  | n + 1 => have ⟨h0, h1⟩ := g_X8_text (l := l) (Z := Z) (L := L) n
    ⟨t_X8_text_0 n h0 h1, t_X8_text_8 n h0 h1⟩
theorem m_X8_text {l : Launch} {Z : XZ} {L : Nat → Nat} {n d : Nat} {S : GS} {a0 : Nat} {a1 : Int} {a2 : Nat} {x : Int} {S1 : GS} (H : f_X8_text n d 0 S [((a0 : Nat) : Int), a1, ((a2 : Nat) : Int)] = some (x, S1)) : GM l Z L yX8_text cX8_text 4 none [] d 0 0 [.ref (L a0), .int (J a1), .ref (L a2)] S (fun v S' => v = none ∧ S1 = S') (fun _ _ => False) := GM.of (by decide) (Nat.le_of_ble_eq_true rfl) ((g_X8_text n).1 _ _ _ _ _ _ _ H)

def P_X8_line_0 (l : Launch) (Z : XZ) (L : Nat → Nat) (n : Nat) : Prop := ∀ (d : Nat) (S : GS) (a0 : Int) (a1 : Nat) (x : Int) (S1 : GS), f_X8_line n d 0 S [a0, ((a1 : Nat) : Int)] = some (x, S1) → GA l Z L yX8_line cX8_line 3 none [] d 0 0 (fun v S' => v = none ∧ S1 = S') (fun _ _ => False) 0 (gl [(0, .int (J a0)), (1, .ref (L a1))]) [] S 0 0
def P_X8_line_8 (l : Launch) (Z : XZ) (L : Nat → Nat) (n : Nat) : Prop := ∀ (d : Nat) (S : GS) (a0 : Int) (a1 : Nat) (a2 : Int) (x : Int) (S1 : GS), f_X8_line n d 8 S [a0, ((a1 : Nat) : Int), a2] = some (x, S1) → GA l Z L yX8_line cX8_line 3 none [] d 0 0 (fun v S' => v = none ∧ S1 = S') (fun _ _ => False) 8 (gl [(0, .int (J a0)), (1, .ref (L a1)), (2, .int (J a2))]) [] S 0 0
theorem i_X8_line {l : Launch} {Z : XZ} {L : Nat → Nat} {n : Nat} (ih : P_X8_line_0 l Z L n) {d : Nat} {S : GS} {a0 : Int} {a1 : Nat} {x : Int} {S1 : GS} (H : f_X8_line n d 0 S [a0, ((a1 : Nat) : Int)] = some (x, S1)) : GM l Z L yX8_line cX8_line 3 none [] d 0 0 [.int (J a0), .ref (L a1)] S (fun v S' => v = none ∧ S1 = S') (fun _ _ => False) := GM.of (by decide) (Nat.le_of_ble_eq_true rfl) (ih _ _ _ _ _ _ H)
set_option maxHeartbeats 4000000 in
set_option maxRecDepth 20000 in
theorem t_X8_line_0 {l : Launch} {Z : XZ} {L : Nat → Nat} (n : Nat) (ih_X8_line_0 : P_X8_line_0 l Z L n) (ih_X8_line_8 : P_X8_line_8 l Z L n) : P_X8_line_0 l Z L (n + 1) := by
  intro d S a0 a1 x S1 H
  have H : b_X8_line_0 n d (f_X8_line n) S a0 a1 = some (x, S1) := H
  unfold b_X8_line_0 at H
  refine GA.aload_n dX8_line_0 rfl ?_
  refine GA.bipush dX8_line_1 rfl ?_
  obtain ⟨hg1, H⟩ := gg_e H
  obtain ⟨hg2, H⟩ := gg_e H
  obtain ⟨x3, S_4, hc5, H⟩ := gc_e H
  refine GA.callV (m_X9_add hc5) xs_X8_51 dX8_line_3 (gsS hg2) (by omega) rfl rfl (by omega) (by decide) rfl (Nat.le_of_ble_eq_true rfl) (by omega) (by omega) rfl (fun E S9 hx => hx.elim) (fun v S9 hq => ?_)
  obtain ⟨rfl, rfl⟩ := hq
  refine GA.iconst dX8_line_6 ?_
  refine GA.istore_n dX8_line_7 (by decide) ?_
  refine GA.locals [(0, .int (J a0)), (1, .ref (L a1)), (2, .int (J 0))] ⟨rfl, rfl, rfl, trivial⟩ ?_
  exact ih_X8_line_8 _ _ (a0) (a1) (0) _ _ H
set_option maxHeartbeats 4000000 in
set_option maxRecDepth 20000 in
theorem t_X8_line_8 {l : Launch} {Z : XZ} {L : Nat → Nat} (n : Nat) (ih_X8_line_0 : P_X8_line_0 l Z L n) (ih_X8_line_8 : P_X8_line_8 l Z L n) : P_X8_line_8 l Z L (n + 1) := by
  intro d S a0 a1 a2 x S1 H
  have H : b_X8_line_8 n d (f_X8_line n) S a0 a1 a2 = some (x, S1) := H
  unfold b_X8_line_8 at H
  refine GA.iload_n dX8_line_8 rfl ?_
  refine GA.iload_n dX8_line_9 rfl ?_
  obtain ⟨hg1, H⟩ := gg_e H
  obtain ⟨hg2, H⟩ := gg_e H
  refine GV.icmp_ge (tgt := 25) hg1 hg2 dX8_line_10 (by decide) (fun c3 => ?_) (fun c3 => ?_)
  · have H := it_t H c3
    cases H
    exact GA.vret rfl dX8_line_25 (by omega) (by omega) ⟨rfl, rfl⟩
  · have H := it_f H c3
    refine GA.aload_n dX8_line_13 rfl ?_
    refine GA.ldcS (i := 15) (tx := "  ") (by decide +kernel) dX8_line_14 ?_
    obtain ⟨hg4, H⟩ := gg_e H
    obtain ⟨hg5, H⟩ := gg_e H
    obtain ⟨x6, S_7, hc8, H⟩ := gc_e H
    refine GA.callV (m_X9_addAll hc8) xs_X8_17 dX8_line_16 (gsS hg5) (by omega) rfl rfl (by omega) (by decide) rfl (Nat.le_of_ble_eq_true rfl) (by omega) (by omega) rfl (fun E S9 hx => hx.elim) (fun v S9 hq => ?_)
    obtain ⟨rfl, rfl⟩ := hq
    obtain ⟨x9, hx10, H⟩ := gv_e H
    refine GV.iinc hx10 dX8_line_19 rfl (by decide) ?_
    refine GA.goto (tgt := 8) dX8_line_22 (by decide) ?_
    refine GA.locals [(0, .int (J a0)), (1, .ref (L a1)), (2, .int (J x9))] ⟨rfl, rfl, rfl, trivial⟩ ?_
    exact ih_X8_line_8 _ _ (a0) (a1) (x9) _ _ H
theorem g_X8_line {l : Launch} {Z : XZ} {L : Nat → Nat} : ∀ n, P_X8_line_0 l Z L n ∧ P_X8_line_8 l Z L n
  | 0 => ⟨fun _ _ _ _ _ _ H => no_e H, fun _ _ _ _ _ _ _ H => no_e H⟩
  | n + 1 => have ⟨h0, h1⟩ := g_X8_line (l := l) (Z := Z) (L := L) n
    ⟨t_X8_line_0 n h0 h1, t_X8_line_8 n h0 h1⟩
theorem m_X8_line {l : Launch} {Z : XZ} {L : Nat → Nat} {n d : Nat} {S : GS} {a0 : Int} {a1 : Nat} {x : Int} {S1 : GS} (H : f_X8_line n d 0 S [a0, ((a1 : Nat) : Int)] = some (x, S1)) : GM l Z L yX8_line cX8_line 3 none [] d 0 0 [.int (J a0), .ref (L a1)] S (fun v S' => v = none ∧ S1 = S') (fun _ _ => False) := GM.of (by decide) (Nat.le_of_ble_eq_true rfl) ((g_X8_line n).1 _ _ _ _ _ _ H)

def P_X8_key_0 (l : Launch) (Z : XZ) (L : Nat → Nat) (n : Nat) : Prop := ∀ (d : Nat) (S : GS) (a0 : Nat) (a1 : Int) (a2 : Nat) (x : Int) (S1 : GS), f_X8_key n d 0 S [((a0 : Nat) : Int), a1, ((a2 : Nat) : Int)] = some (x, S1) → GA l Z L yX8_key cX8_key 4 none [] d 0 0 (fun v S' => v = none ∧ S1 = S') (fun _ _ => False) 0 (gl [(0, .ref (L a0)), (1, .int (J a1)), (2, .ref (L a2))]) [] S 0 0
def P_X8_key_8 (l : Launch) (Z : XZ) (L : Nat → Nat) (n : Nat) : Prop := ∀ (d : Nat) (S : GS) (a0 : Nat) (a1 : Int) (a2 : Nat) (a3 : Int) (x : Int) (S1 : GS), f_X8_key n d 8 S [((a0 : Nat) : Int), a1, ((a2 : Nat) : Int), a3] = some (x, S1) → GA l Z L yX8_key cX8_key 4 none [] d 0 0 (fun v S' => v = none ∧ S1 = S') (fun _ _ => False) 8 (gl [(0, .ref (L a0)), (1, .int (J a1)), (2, .ref (L a2)), (3, .int (J a3))]) [] S 0 0
theorem i_X8_key {l : Launch} {Z : XZ} {L : Nat → Nat} {n : Nat} (ih : P_X8_key_0 l Z L n) {d : Nat} {S : GS} {a0 : Nat} {a1 : Int} {a2 : Nat} {x : Int} {S1 : GS} (H : f_X8_key n d 0 S [((a0 : Nat) : Int), a1, ((a2 : Nat) : Int)] = some (x, S1)) : GM l Z L yX8_key cX8_key 4 none [] d 0 0 [.ref (L a0), .int (J a1), .ref (L a2)] S (fun v S' => v = none ∧ S1 = S') (fun _ _ => False) := GM.of (by decide) (Nat.le_of_ble_eq_true rfl) (ih _ _ _ _ _ _ _ H)
set_option maxHeartbeats 4000000 in
set_option maxRecDepth 20000 in
theorem t_X8_key_0 {l : Launch} {Z : XZ} {L : Nat → Nat} (n : Nat) (ih_X8_key_0 : P_X8_key_0 l Z L n) (ih_X8_key_8 : P_X8_key_8 l Z L n) : P_X8_key_0 l Z L (n + 1) := by
  intro d S a0 a1 a2 x S1 H
  have H : b_X8_key_0 n d (f_X8_key n) S a0 a1 a2 = some (x, S1) := H
  unfold b_X8_key_0 at H
  refine GA.aload_n dX8_key_0 rfl ?_
  refine GA.bipush dX8_key_1 rfl ?_
  obtain ⟨hg1, H⟩ := gg_e H
  obtain ⟨hg2, H⟩ := gg_e H
  obtain ⟨x3, S_4, hc5, H⟩ := gc_e H
  refine GA.callV (m_X9_add hc5) xs_X8_51 dX8_key_3 (gsS hg2) (by omega) rfl rfl (by omega) (by decide) rfl (Nat.le_of_ble_eq_true rfl) (by omega) (by omega) rfl (fun E S9 hx => hx.elim) (fun v S9 hq => ?_)
  obtain ⟨rfl, rfl⟩ := hq
  refine GA.iconst dX8_key_6 ?_
  refine GA.istore_n dX8_key_7 (by decide) ?_
  refine GA.locals [(0, .ref (L a0)), (1, .int (J a1)), (2, .ref (L a2)), (3, .int (J 0))] ⟨rfl, rfl, rfl, rfl, trivial⟩ ?_
  exact ih_X8_key_8 _ _ (a0) (a1) (a2) (0) _ _ H
set_option maxHeartbeats 4000000 in
set_option maxRecDepth 20000 in
theorem t_X8_key_8 {l : Launch} {Z : XZ} {L : Nat → Nat} (n : Nat) (ih_X8_key_0 : P_X8_key_0 l Z L n) (ih_X8_key_8 : P_X8_key_8 l Z L n) : P_X8_key_8 l Z L (n + 1) := by
  intro d S a0 a1 a2 a3 x S1 H
  have H : b_X8_key_8 n d (f_X8_key n) S a0 a1 a2 a3 = some (x, S1) := H
  unfold b_X8_key_8 at H
  refine GA.iload_n dX8_key_8 rfl ?_
  refine GA.aload_n dX8_key_9 rfl ?_
  refine GA.iload_n dX8_key_10 rfl ?_
  obtain ⟨hg1, H⟩ := gg_e H
  obtain ⟨hg2, H⟩ := gg_e H
  obtain ⟨x3, S_4, hc5, H⟩ := gc_e H
  refine GA.callV (m_X10_keyLength hc5) xs_X8_68 dX8_key_11 (gsT hg2) (by omega) rfl rfl (by omega) (by decide) rfl (Nat.le_of_ble_eq_true rfl) (by omega) (by omega) rfl (fun E S9 hx => hx.elim) (fun v S9 hq => ?_)
  obtain ⟨rfl, rfl⟩ := hq
  obtain ⟨hg6, H⟩ := gg_e H
  obtain ⟨hg7, H⟩ := gg_e H
  refine GV.icmp_ge (tgt := 33) hg6 hg7 dX8_key_14 (by decide) (fun c8 => ?_) (fun c8 => ?_)
  · have H := it_t H c8
    refine GA.aload_n dX8_key_33 rfl ?_
    refine GA.bipush dX8_key_34 rfl ?_
    obtain ⟨hg9, H⟩ := gg_e H
    obtain ⟨x10, S_11, hc12, H⟩ := gc_e H
    refine GA.callV (m_X9_add hc12) xs_X8_51 dX8_key_36 (gsS hg9) (by omega) rfl rfl (by omega) (by decide) rfl (Nat.le_of_ble_eq_true rfl) (by omega) (by omega) rfl (fun E S9 hx => hx.elim) (fun v S9 hq => ?_)
    obtain ⟨rfl, rfl⟩ := hq
    cases H
    exact GA.vret rfl dX8_key_39 (by omega) (by omega) ⟨rfl, rfl⟩
  · have H := it_f H c8
    refine GA.aload_n dX8_key_17 rfl ?_
    refine GA.aload_n dX8_key_18 rfl ?_
    refine GA.iload_n dX8_key_19 rfl ?_
    refine GA.iload_n dX8_key_20 rfl ?_
    obtain ⟨x13, S_14, hc15, H⟩ := gc_e H
    refine GA.callV (m_X10_keySign hc15) xs_X8_71 dX8_key_21 (gsT hg2) (by omega) rfl rfl (by omega) (by decide) rfl (Nat.le_of_ble_eq_true rfl) (by omega) (by omega) rfl (fun E S9 hx => hx.elim) (fun v S9 hq => ?_)
    obtain ⟨rfl, rfl⟩ := hq
    obtain ⟨hg16, H⟩ := gg_e H
    obtain ⟨x17, S_18, hc19, H⟩ := gc_e H
    refine GA.callV (m_X9_addWritten hc19) xs_X8_65 dX8_key_24 (gsS hg16) (by omega) rfl rfl (by omega) (by decide) rfl (Nat.le_of_ble_eq_true rfl) (by omega) (by omega) rfl (fun E S9 hx => hx.elim) (fun v S9 hq => ?_)
    obtain ⟨rfl, rfl⟩ := hq
    obtain ⟨x20, hx21, H⟩ := gv_e H
    refine GV.iinc hx21 dX8_key_27 rfl (by decide) ?_
    refine GA.goto (tgt := 8) dX8_key_30 (by decide) ?_
    refine GA.locals [(0, .ref (L a0)), (1, .int (J a1)), (2, .ref (L a2)), (3, .int (J x20))] ⟨rfl, rfl, rfl, rfl, trivial⟩ ?_
    exact ih_X8_key_8 _ _ (a0) (a1) (a2) (x20) _ _ H
theorem g_X8_key {l : Launch} {Z : XZ} {L : Nat → Nat} : ∀ n, P_X8_key_0 l Z L n ∧ P_X8_key_8 l Z L n
  | 0 => ⟨fun _ _ _ _ _ _ _ H => no_e H, fun _ _ _ _ _ _ _ _ H => no_e H⟩
  | n + 1 => have ⟨h0, h1⟩ := g_X8_key (l := l) (Z := Z) (L := L) n
    ⟨t_X8_key_0 n h0 h1, t_X8_key_8 n h0 h1⟩
theorem m_X8_key {l : Launch} {Z : XZ} {L : Nat → Nat} {n d : Nat} {S : GS} {a0 : Nat} {a1 : Int} {a2 : Nat} {x : Int} {S1 : GS} (H : f_X8_key n d 0 S [((a0 : Nat) : Int), a1, ((a2 : Nat) : Int)] = some (x, S1)) : GM l Z L yX8_key cX8_key 4 none [] d 0 0 [.ref (L a0), .int (J a1), .ref (L a2)] S (fun v S' => v = none ∧ S1 = S') (fun _ _ => False) := GM.of (by decide) (Nat.le_of_ble_eq_true rfl) ((g_X8_key n).1 _ _ _ _ _ _ _ H)

def P_X8_group_0 (l : Launch) (Z : XZ) (L : Nat → Nat) (n : Nat) : Prop := ∀ (d : Nat) (S : GS) (a0 : Nat) (a1 : Int) (a2 : Int) (a3 : Int) (a4 : Nat) (x : Int) (S1 : GS), f_X8_group n d 0 S [((a0 : Nat) : Int), a1, a2, a3, ((a4 : Nat) : Int)] = some (x, S1) → GA l Z L yX8_group cX8_group 10 none [] d 0 0 (fun v S' => v = none ∧ S1 = S') (fun _ _ => False) 0 (gl [(0, .ref (L a0)), (1, .int (J a1)), (2, .int (J a2)), (3, .int (J a3)), (4, .ref (L a4))]) [] S 0 0
def P_X8_group_23 (l : Launch) (Z : XZ) (L : Nat → Nat) (n : Nat) : Prop := ∀ (d : Nat) (S : GS) (a0 : Nat) (a1 : Int) (a2 : Int) (a3 : Int) (a4 : Nat) (a5 : Int) (s0 : Int) (x : Int) (S1 : GS), f_X8_group n d 23 S [((a0 : Nat) : Int), a1, a2, a3, ((a4 : Nat) : Int), a5, s0] = some (x, S1) → GA l Z L yX8_group cX8_group 10 none [] d 0 0 (fun v S' => v = none ∧ S1 = S') (fun _ _ => False) 23 (gl [(0, .ref (L a0)), (1, .int (J a1)), (2, .int (J a2)), (3, .int (J a3)), (4, .ref (L a4)), (5, .int (J a5))]) [.int (J s0)] S 0 0
def P_X8_group_43 (l : Launch) (Z : XZ) (L : Nat → Nat) (n : Nat) : Prop := ∀ (d : Nat) (S : GS) (a0 : Nat) (a1 : Int) (a2 : Int) (a3 : Int) (a4 : Nat) (a5 : Int) (a6 : Int) (x : Int) (S1 : GS), f_X8_group n d 43 S [((a0 : Nat) : Int), a1, a2, a3, ((a4 : Nat) : Int), a5, a6] = some (x, S1) → GA l Z L yX8_group cX8_group 10 none [] d 0 0 (fun v S' => v = none ∧ S1 = S') (fun _ _ => False) 43 (gl [(0, .ref (L a0)), (1, .int (J a1)), (2, .int (J a2)), (3, .int (J a3)), (4, .ref (L a4)), (5, .int (J a5)), (6, .int (J a6))]) [] S 0 0
def P_X8_group_60 (l : Launch) (Z : XZ) (L : Nat → Nat) (n : Nat) : Prop := ∀ (d : Nat) (S : GS) (a0 : Nat) (a1 : Int) (a2 : Int) (a3 : Int) (a4 : Nat) (a5 : Int) (a6 : Int) (a7 : Int) (s0 : Int) (s1 : Nat) (x : Int) (S1 : GS), f_X8_group n d 60 S [((a0 : Nat) : Int), a1, a2, a3, ((a4 : Nat) : Int), a5, a6, a7, s0, ((s1 : Nat) : Int)] = some (x, S1) → GA l Z L yX8_group cX8_group 10 none [] d 0 0 (fun v S' => v = none ∧ S1 = S') (fun _ _ => False) 60 (gl [(0, .ref (L a0)), (1, .int (J a1)), (2, .int (J a2)), (3, .int (J a3)), (4, .ref (L a4)), (5, .int (J a5)), (6, .int (J a6)), (7, .int (J a7))]) [.int (J s0), .ref (L s1)] S 0 0
def P_X8_group_87 (l : Launch) (Z : XZ) (L : Nat → Nat) (n : Nat) : Prop := ∀ (d : Nat) (S : GS) (a0 : Nat) (a1 : Int) (a2 : Int) (a3 : Int) (a4 : Nat) (a5 : Int) (a6 : Int) (a7 : Int) (a8 : Int) (a9 : Int) (x : Int) (S1 : GS), f_X8_group n d 87 S [((a0 : Nat) : Int), a1, a2, a3, ((a4 : Nat) : Int), a5, a6, a7, a8, a9] = some (x, S1) → GA l Z L yX8_group cX8_group 10 none [] d 0 0 (fun v S' => v = none ∧ S1 = S') (fun _ _ => False) 87 (gl [(0, .ref (L a0)), (1, .int (J a1)), (2, .int (J a2)), (3, .int (J a3)), (4, .ref (L a4)), (5, .int (J a5)), (6, .int (J a6)), (7, .int (J a7)), (8, .int (J a8)), (9, .int (J a9))]) [] S 0 0
def P_X8_group_131 (l : Launch) (Z : XZ) (L : Nat → Nat) (n : Nat) : Prop := ∀ (d : Nat) (S : GS) (a0 : Nat) (a1 : Int) (a2 : Int) (a3 : Int) (a4 : Nat) (a5 : Int) (a6 : Int) (a7 : Int) (a8 : Int) (a9 : Int) (x : Int) (S1 : GS), f_X8_group n d 131 S [((a0 : Nat) : Int), a1, a2, a3, ((a4 : Nat) : Int), a5, a6, a7, a8, a9] = some (x, S1) → GA l Z L yX8_group cX8_group 10 none [] d 0 0 (fun v S' => v = none ∧ S1 = S') (fun _ _ => False) 131 (gl [(0, .ref (L a0)), (1, .int (J a1)), (2, .int (J a2)), (3, .int (J a3)), (4, .ref (L a4)), (5, .int (J a5)), (6, .int (J a6)), (7, .int (J a7)), (8, .int (J a8)), (9, .int (J a9))]) [] S 0 0
def P_X8_group_161 (l : Launch) (Z : XZ) (L : Nat → Nat) (n : Nat) : Prop := ∀ (d : Nat) (S : GS) (a0 : Nat) (a1 : Int) (a2 : Int) (a3 : Int) (a4 : Nat) (a5 : Int) (a6 : Int) (a7 : Int) (a8 : Int) (a9 : Int) (x : Int) (S1 : GS), f_X8_group n d 161 S [((a0 : Nat) : Int), a1, a2, a3, ((a4 : Nat) : Int), a5, a6, a7, a8, a9] = some (x, S1) → GA l Z L yX8_group cX8_group 10 none [] d 0 0 (fun v S' => v = none ∧ S1 = S') (fun _ _ => False) 161 (gl [(0, .ref (L a0)), (1, .int (J a1)), (2, .int (J a2)), (3, .int (J a3)), (4, .ref (L a4)), (5, .int (J a5)), (6, .int (J a6)), (7, .int (J a7)), (8, .int (J a8)), (9, .int (J a9))]) [] S 0 0
def P_X8_group_214 (l : Launch) (Z : XZ) (L : Nat → Nat) (n : Nat) : Prop := ∀ (d : Nat) (S : GS) (a4 : Nat) (a5 : Int) (x : Int) (S1 : GS), f_X8_group n d 214 S [((a4 : Nat) : Int), a5] = some (x, S1) → GA l Z L yX8_group cX8_group 10 none [] d 0 0 (fun v S' => v = none ∧ S1 = S') (fun _ _ => False) 214 (gl [(4, .ref (L a4)), (5, .int (J a5))]) [] S 0 0
def P_X8_value_0 (l : Launch) (Z : XZ) (L : Nat → Nat) (n : Nat) : Prop := ∀ (d : Nat) (S : GS) (a0 : Nat) (a1 : Int) (a2 : Int) (a3 : Int) (a4 : Nat) (x : Int) (S1 : GS), f_X8_group n d 10000 S [((a0 : Nat) : Int), a1, a2, a3, ((a4 : Nat) : Int)] = some (x, S1) → GA l Z L yX8_value cX8_value 5 none [] d 0 0 (fun v S' => v = none ∧ S1 = S') (fun _ _ => False) 0 (gl [(0, .ref (L a0)), (1, .int (J a1)), (2, .int (J a2)), (3, .int (J a3)), (4, .ref (L a4))]) [] S 0 0
theorem i_X8_group {l : Launch} {Z : XZ} {L : Nat → Nat} {n : Nat} (ih : P_X8_group_0 l Z L n) {d : Nat} {S : GS} {a0 : Nat} {a1 : Int} {a2 : Int} {a3 : Int} {a4 : Nat} {x : Int} {S1 : GS} (H : f_X8_group n d 0 S [((a0 : Nat) : Int), a1, a2, a3, ((a4 : Nat) : Int)] = some (x, S1)) : GM l Z L yX8_group cX8_group 10 none [] d 0 0 [.ref (L a0), .int (J a1), .int (J a2), .int (J a3), .ref (L a4)] S (fun v S' => v = none ∧ S1 = S') (fun _ _ => False) := GM.of (by decide) (Nat.le_of_ble_eq_true rfl) (ih _ _ _ _ _ _ _ _ _ H)
theorem i_X8_value {l : Launch} {Z : XZ} {L : Nat → Nat} {n : Nat} (ih : P_X8_value_0 l Z L n) {d : Nat} {S : GS} {a0 : Nat} {a1 : Int} {a2 : Int} {a3 : Int} {a4 : Nat} {x : Int} {S1 : GS} (H : f_X8_group n d 10000 S [((a0 : Nat) : Int), a1, a2, a3, ((a4 : Nat) : Int)] = some (x, S1)) : GM l Z L yX8_value cX8_value 5 none [] d 0 0 [.ref (L a0), .int (J a1), .int (J a2), .int (J a3), .ref (L a4)] S (fun v S' => v = none ∧ S1 = S') (fun _ _ => False) := GM.of (by decide) (Nat.le_of_ble_eq_true rfl) (ih _ _ _ _ _ _ _ _ _ H)
set_option maxHeartbeats 4000000 in
set_option maxRecDepth 20000 in
theorem t_X8_group_0 {l : Launch} {Z : XZ} {L : Nat → Nat} (n : Nat) (ih_X8_group_0 : P_X8_group_0 l Z L n) (ih_X8_group_23 : P_X8_group_23 l Z L n) (ih_X8_group_43 : P_X8_group_43 l Z L n) (ih_X8_group_60 : P_X8_group_60 l Z L n) (ih_X8_group_87 : P_X8_group_87 l Z L n) (ih_X8_group_131 : P_X8_group_131 l Z L n) (ih_X8_group_161 : P_X8_group_161 l Z L n) (ih_X8_group_214 : P_X8_group_214 l Z L n) (ih_X8_value_0 : P_X8_value_0 l Z L n) : P_X8_group_0 l Z L (n + 1) := by
  intro d S a0 a1 a2 a3 a4 x S1 H
  have H : b_X8_group_0 n d (f_X8_group n) S a0 a1 a2 a3 a4 = some (x, S1) := H
  unfold b_X8_group_0 at H
  refine GA.aload_n dX8_group_0 rfl ?_
  refine GA.iload_n dX8_group_1 rfl ?_
  refine GA.iconst dX8_group_2 ?_
  obtain ⟨hg1, H⟩ := gg_e H
  obtain ⟨hg2, H⟩ := gg_e H
  obtain ⟨x3, S_4, hc5, H⟩ := gc_e H
  refine GA.callV (m_X10_is hc5) xs_X8_74 dX8_group_3 (gsT hg2) (by omega) rfl rfl (by omega) (by decide) rfl (Nat.le_of_ble_eq_true rfl) (by omega) (by omega) rfl (fun E S9 hx => hx.elim) (fun v S9 hq => ?_)
  obtain ⟨rfl, rfl⟩ := hq
  refine GA.istore dX8_group_6 (by decide) ?_
  refine GA.iload dX8_group_8 rfl ?_
  obtain ⟨hg6, H⟩ := gg_e H
  refine GV.if_eq (tgt := 22) hg6 dX8_group_10 (by decide) (fun c7 => ?_) (fun c7 => ?_)
  · have H := it_t H c7
    refine GA.iconst dX8_group_22 ?_
    refine GA.locals [(0, .ref (L a0)), (1, .int (J a1)), (2, .int (J a2)), (3, .int (J a3)), (4, .ref (L a4)), (5, .int (J x3))] ⟨rfl, rfl, rfl, rfl, rfl, rfl, trivial⟩ ?_
    exact ih_X8_group_23 _ _ (a0) (a1) (a2) (a3) (a4) (x3) (0) _ _ H
  · have H := it_f H c7
    refine GA.iload_n dX8_group_13 rfl ?_
    refine GA.iconst dX8_group_14 ?_
    obtain ⟨hg8, H⟩ := gg_e H
    refine GV.icmp_ne (tgt := 22) hg8 (by decide) dX8_group_15 (by decide) (fun c9 => ?_) (fun c9 => ?_)
    · have H := it_t H c9
      refine GA.iconst dX8_group_22 ?_
      refine GA.locals [(0, .ref (L a0)), (1, .int (J a1)), (2, .int (J a2)), (3, .int (J a3)), (4, .ref (L a4)), (5, .int (J x3))] ⟨rfl, rfl, rfl, rfl, rfl, rfl, trivial⟩ ?_
      exact ih_X8_group_23 _ _ (a0) (a1) (a2) (a3) (a4) (x3) (0) _ _ H
    · have H := it_f H c9
      refine GA.iconst dX8_group_18 ?_
      refine GA.goto (tgt := 23) dX8_group_19 (by decide) ?_
      refine GA.locals [(0, .ref (L a0)), (1, .int (J a1)), (2, .int (J a2)), (3, .int (J a3)), (4, .ref (L a4)), (5, .int (J x3))] ⟨rfl, rfl, rfl, rfl, rfl, rfl, trivial⟩ ?_
      exact ih_X8_group_23 _ _ (a0) (a1) (a2) (a3) (a4) (x3) (1) _ _ H
set_option maxHeartbeats 4000000 in
set_option maxRecDepth 20000 in
theorem t_X8_group_23 {l : Launch} {Z : XZ} {L : Nat → Nat} (n : Nat) (ih_X8_group_0 : P_X8_group_0 l Z L n) (ih_X8_group_23 : P_X8_group_23 l Z L n) (ih_X8_group_43 : P_X8_group_43 l Z L n) (ih_X8_group_60 : P_X8_group_60 l Z L n) (ih_X8_group_87 : P_X8_group_87 l Z L n) (ih_X8_group_131 : P_X8_group_131 l Z L n) (ih_X8_group_161 : P_X8_group_161 l Z L n) (ih_X8_group_214 : P_X8_group_214 l Z L n) (ih_X8_value_0 : P_X8_value_0 l Z L n) : P_X8_group_23 l Z L (n + 1) := by
  intro d S a0 a1 a2 a3 a4 a5 s0 x S1 H
  have H : b_X8_group_23 n d (f_X8_group n) S a0 a1 a2 a3 a4 a5 s0 = some (x, S1) := H
  unfold b_X8_group_23 at H
  refine GA.istore dX8_group_23 (by decide) ?_
  refine GA.iload_n dX8_group_25 rfl ?_
  refine GA.iconst dX8_group_26 ?_
  obtain ⟨hg1, H⟩ := gg_e H
  refine GV.icmp_ne (tgt := 43) hg1 (by decide) dX8_group_27 (by decide) (fun c2 => ?_) (fun c2 => ?_)
  · have H := it_t H c2
    refine GA.locals [(0, .ref (L a0)), (1, .int (J a1)), (2, .int (J a2)), (3, .int (J a3)), (4, .ref (L a4)), (5, .int (J a5)), (6, .int (J s0))] ⟨rfl, rfl, rfl, rfl, rfl, rfl, rfl, trivial⟩ ?_
    exact ih_X8_group_43 _ _ (a0) (a1) (a2) (a3) (a4) (a5) (s0) _ _ H
  · have H := it_f H c2
    refine GA.aload_n dX8_group_30 rfl ?_
    refine GA.iload_n dX8_group_31 rfl ?_
    obtain ⟨hg3, H⟩ := gg_e H
    obtain ⟨hg4, H⟩ := gg_e H
    obtain ⟨x5, S_6, hc7, H⟩ := gc_e H
    refine GA.callV (m_X10_first hc7) xs_X8_78 dX8_group_32 (gsT hg4) (by omega) rfl rfl (by omega) (by decide) rfl (Nat.le_of_ble_eq_true rfl) (by omega) (by omega) rfl (fun E S9 hx => hx.elim) (fun v S9 hq => ?_)
    obtain ⟨rfl, rfl⟩ := hq
    refine GA.iconst dX8_group_35 ?_
    obtain ⟨hg8, H⟩ := gg_e H
    refine GV.icmp_eq (tgt := 43) hg8 (by decide) dX8_group_36 (by decide) (fun c9 => ?_) (fun c9 => ?_)
    · have H := it_t H c9
      refine GA.locals [(0, .ref (L a0)), (1, .int (J a1)), (2, .int (J a2)), (3, .int (J a3)), (4, .ref (L a4)), (5, .int (J a5)), (6, .int (J s0))] ⟨rfl, rfl, rfl, rfl, rfl, rfl, rfl, trivial⟩ ?_
      exact ih_X8_group_43 _ _ (a0) (a1) (a2) (a3) (a4) (a5) (s0) _ _ H
    · have H := it_f H c9
      refine GA.iconst dX8_group_39 ?_
      refine GA.goto (tgt := 44) dX8_group_40 (by decide) ?_
      refine GA.istore dX8_group_44 (by decide) ?_
      refine GA.aload dX8_group_46 rfl ?_
      refine GA.iload dX8_group_48 rfl ?_
      obtain ⟨hg10, H⟩ := gg_e H
      refine GV.if_eq (tgt := 58) hg10 dX8_group_50 (by decide) (fun c11 => ?_) (fun c11 => ?_)
      · have H := it_t H c11
        refine GA.bipush dX8_group_58 rfl ?_
        refine GA.locals [(0, .ref (L a0)), (1, .int (J a1)), (2, .int (J a2)), (3, .int (J a3)), (4, .ref (L a4)), (5, .int (J a5)), (6, .int (J s0)), (7, .int (J 1))] ⟨rfl, rfl, rfl, rfl, rfl, rfl, rfl, rfl, trivial⟩ ?_
        exact ih_X8_group_60 _ _ (a0) (a1) (a2) (a3) (a4) (a5) (s0) (1) (91) (a4) _ _ H
      · have H := it_f H c11
        refine GA.bipush dX8_group_53 rfl ?_
        refine GA.goto (tgt := 60) dX8_group_55 (by decide) ?_
        refine GA.locals [(0, .ref (L a0)), (1, .int (J a1)), (2, .int (J a2)), (3, .int (J a3)), (4, .ref (L a4)), (5, .int (J a5)), (6, .int (J s0)), (7, .int (J 1))] ⟨rfl, rfl, rfl, rfl, rfl, rfl, rfl, rfl, trivial⟩ ?_
        exact ih_X8_group_60 _ _ (a0) (a1) (a2) (a3) (a4) (a5) (s0) (1) (123) (a4) _ _ H
set_option maxHeartbeats 4000000 in
set_option maxRecDepth 20000 in
theorem t_X8_group_43 {l : Launch} {Z : XZ} {L : Nat → Nat} (n : Nat) (ih_X8_group_0 : P_X8_group_0 l Z L n) (ih_X8_group_23 : P_X8_group_23 l Z L n) (ih_X8_group_43 : P_X8_group_43 l Z L n) (ih_X8_group_60 : P_X8_group_60 l Z L n) (ih_X8_group_87 : P_X8_group_87 l Z L n) (ih_X8_group_131 : P_X8_group_131 l Z L n) (ih_X8_group_161 : P_X8_group_161 l Z L n) (ih_X8_group_214 : P_X8_group_214 l Z L n) (ih_X8_value_0 : P_X8_value_0 l Z L n) : P_X8_group_43 l Z L (n + 1) := by
  intro d S a0 a1 a2 a3 a4 a5 a6 x S1 H
  have H : b_X8_group_43 n d (f_X8_group n) S a0 a1 a2 a3 a4 a5 a6 = some (x, S1) := H
  unfold b_X8_group_43 at H
  refine GA.iconst dX8_group_43 ?_
  refine GA.istore dX8_group_44 (by decide) ?_
  refine GA.aload dX8_group_46 rfl ?_
  refine GA.iload dX8_group_48 rfl ?_
  obtain ⟨hg1, H⟩ := gg_e H
  refine GV.if_eq (tgt := 58) hg1 dX8_group_50 (by decide) (fun c2 => ?_) (fun c2 => ?_)
  · have H := it_t H c2
    refine GA.bipush dX8_group_58 rfl ?_
    refine GA.locals [(0, .ref (L a0)), (1, .int (J a1)), (2, .int (J a2)), (3, .int (J a3)), (4, .ref (L a4)), (5, .int (J a5)), (6, .int (J a6)), (7, .int (J 0))] ⟨rfl, rfl, rfl, rfl, rfl, rfl, rfl, rfl, trivial⟩ ?_
    exact ih_X8_group_60 _ _ (a0) (a1) (a2) (a3) (a4) (a5) (a6) (0) (91) (a4) _ _ H
  · have H := it_f H c2
    refine GA.bipush dX8_group_53 rfl ?_
    refine GA.goto (tgt := 60) dX8_group_55 (by decide) ?_
    refine GA.locals [(0, .ref (L a0)), (1, .int (J a1)), (2, .int (J a2)), (3, .int (J a3)), (4, .ref (L a4)), (5, .int (J a5)), (6, .int (J a6)), (7, .int (J 0))] ⟨rfl, rfl, rfl, rfl, rfl, rfl, rfl, rfl, trivial⟩ ?_
    exact ih_X8_group_60 _ _ (a0) (a1) (a2) (a3) (a4) (a5) (a6) (0) (123) (a4) _ _ H
set_option maxHeartbeats 4000000 in
set_option maxRecDepth 20000 in
theorem t_X8_group_60 {l : Launch} {Z : XZ} {L : Nat → Nat} (n : Nat) (ih_X8_group_0 : P_X8_group_0 l Z L n) (ih_X8_group_23 : P_X8_group_23 l Z L n) (ih_X8_group_43 : P_X8_group_43 l Z L n) (ih_X8_group_60 : P_X8_group_60 l Z L n) (ih_X8_group_87 : P_X8_group_87 l Z L n) (ih_X8_group_131 : P_X8_group_131 l Z L n) (ih_X8_group_161 : P_X8_group_161 l Z L n) (ih_X8_group_214 : P_X8_group_214 l Z L n) (ih_X8_value_0 : P_X8_value_0 l Z L n) : P_X8_group_60 l Z L (n + 1) := by
  intro d S a0 a1 a2 a3 a4 a5 a6 a7 s0 s1 x S1 H
  have H : b_X8_group_60 n d (f_X8_group n) S a0 a1 a2 a3 a4 a5 a6 a7 s0 s1 = some (x, S1) := H
  unfold b_X8_group_60 at H
  obtain ⟨hg1, H⟩ := gg_e H
  obtain ⟨hg2, H⟩ := gg_e H
  obtain ⟨x3, S_4, hc5, H⟩ := gc_e H
  refine GA.callV (m_X9_add hc5) xs_X8_51 dX8_group_60 (gsS hg2) (by omega) rfl rfl (by omega) (by decide) rfl (Nat.le_of_ble_eq_true rfl) (by omega) (by omega) rfl (fun E S9 hx => hx.elim) (fun v S9 hq => ?_)
  obtain ⟨rfl, rfl⟩ := hq
  refine GA.iload dX8_group_63 rfl ?_
  obtain ⟨hg6, H⟩ := gg_e H
  refine GV.if_eq (tgt := 77) hg6 dX8_group_65 (by decide) (fun c7 => ?_) (fun c7 => ?_)
  · have H := it_t H c7
    refine GA.aload_n dX8_group_77 rfl ?_
    refine GA.iload_n dX8_group_78 rfl ?_
    obtain ⟨hg8, H⟩ := gg_e H
    obtain ⟨x9, S_10, hc11, H⟩ := gc_e H
    refine GA.callV (m_X10_first hc11) xs_X8_78 dX8_group_79 (gsT hg8) (by omega) rfl rfl (by omega) (by decide) rfl (Nat.le_of_ble_eq_true rfl) (by omega) (by omega) rfl (fun E S9 hx => hx.elim) (fun v S9 hq => ?_)
    obtain ⟨rfl, rfl⟩ := hq
    refine GA.istore dX8_group_82 (by decide) ?_
    refine GA.iconst dX8_group_84 ?_
    refine GA.istore dX8_group_85 (by decide) ?_
    refine GA.locals [(0, .ref (L a0)), (1, .int (J a1)), (2, .int (J a2)), (3, .int (J a3)), (4, .ref (L a4)), (5, .int (J a5)), (6, .int (J a6)), (7, .int (J a7)), (8, .int (J x9)), (9, .int (J 0))] ⟨rfl, rfl, rfl, rfl, rfl, rfl, rfl, rfl, rfl, rfl, trivial⟩ ?_
    exact ih_X8_group_87 _ _ (a0) (a1) (a2) (a3) (a4) (a5) (a6) (a7) (x9) (0) _ _ H
  · have H := it_f H c7
    refine GA.aload_n dX8_group_68 rfl ?_
    refine GA.iload_n dX8_group_69 rfl ?_
    refine GA.iconst dX8_group_70 ?_
    obtain ⟨hg12, H⟩ := gg_e H
    obtain ⟨x13, S_14, hc15, H⟩ := gc_e H
    refine GA.callV (m_X10_nextByKey hc15) xs_X8_81 dX8_group_71 (gsT hg12) (by omega) rfl rfl (by omega) (by decide) rfl (Nat.le_of_ble_eq_true rfl) (by omega) (by omega) rfl (fun E S9 hx => hx.elim) (fun v S9 hq => ?_)
    obtain ⟨rfl, rfl⟩ := hq
    refine GA.goto (tgt := 82) dX8_group_74 (by decide) ?_
    refine GA.istore dX8_group_82 (by decide) ?_
    refine GA.iconst dX8_group_84 ?_
    refine GA.istore dX8_group_85 (by decide) ?_
    refine GA.locals [(0, .ref (L a0)), (1, .int (J a1)), (2, .int (J a2)), (3, .int (J a3)), (4, .ref (L a4)), (5, .int (J a5)), (6, .int (J a6)), (7, .int (J a7)), (8, .int (J x13)), (9, .int (J 0))] ⟨rfl, rfl, rfl, rfl, rfl, rfl, rfl, rfl, rfl, rfl, trivial⟩ ?_
    exact ih_X8_group_87 _ _ (a0) (a1) (a2) (a3) (a4) (a5) (a6) (a7) (x13) (0) _ _ H
set_option maxHeartbeats 4000000 in
set_option maxRecDepth 20000 in
theorem t_X8_group_87 {l : Launch} {Z : XZ} {L : Nat → Nat} (n : Nat) (ih_X8_group_0 : P_X8_group_0 l Z L n) (ih_X8_group_23 : P_X8_group_23 l Z L n) (ih_X8_group_43 : P_X8_group_43 l Z L n) (ih_X8_group_60 : P_X8_group_60 l Z L n) (ih_X8_group_87 : P_X8_group_87 l Z L n) (ih_X8_group_131 : P_X8_group_131 l Z L n) (ih_X8_group_161 : P_X8_group_161 l Z L n) (ih_X8_group_214 : P_X8_group_214 l Z L n) (ih_X8_value_0 : P_X8_value_0 l Z L n) : P_X8_group_87 l Z L (n + 1) := by
  intro d S a0 a1 a2 a3 a4 a5 a6 a7 a8 a9 x S1 H
  have H : b_X8_group_87 n d (f_X8_group n) S a0 a1 a2 a3 a4 a5 a6 a7 a8 a9 = some (x, S1) := H
  unfold b_X8_group_87 at H
  refine GA.iload dX8_group_87 rfl ?_
  refine GA.bipush dX8_group_89 rfl ?_
  obtain ⟨hg1, H⟩ := gg_e H
  refine GV.icmp_ge (tgt := 203) hg1 (by decide) dX8_group_91 (by decide) (fun c2 => ?_) (fun c2 => ?_)
  · have H := it_t H c2
    refine GA.iload dX8_group_203 rfl ?_
    obtain ⟨hg3, H⟩ := gg_e H
    refine GV.if_eq (tgt := 214) hg3 dX8_group_205 (by decide) (fun c4 => ?_) (fun c4 => ?_)
    · have H := it_t H c4
      refine GA.locals [(4, .ref (L a4)), (5, .int (J a5))] ⟨rfl, rfl, trivial⟩ ?_
      exact ih_X8_group_214 _ _ (a4) (a5) _ _ H
    · have H := it_f H c4
      refine GA.iload_n dX8_group_208 rfl ?_
      refine GA.aload dX8_group_209 rfl ?_
      obtain ⟨hg5, H⟩ := gg_e H
      obtain ⟨x6, S_7, hc8, H⟩ := gc_e H
      refine GA.callS (m_X8_line hc8) xs_X8_84 dX8_group_211 rfl (by omega) (by decide) rfl (Nat.le_of_ble_eq_true rfl) (by omega) (by omega) rfl (fun E S9 hx => hx.elim) (fun v S9 hq => ?_)
      obtain ⟨rfl, rfl⟩ := hq
      refine GA.locals [(4, .ref (L a4)), (5, .int (J a5))] ⟨rfl, rfl, trivial⟩ ?_
      exact ih_X8_group_214 _ _ (a4) (a5) _ _ H
  · have H := it_f H c2
    refine GA.iload dX8_group_94 rfl ?_
    refine GA.iconst dX8_group_96 ?_
    obtain ⟨hg9, H⟩ := gg_e H
    refine GV.icmp_eq (tgt := 203) hg9 (by decide) dX8_group_97 (by decide) (fun c10 => ?_) (fun c10 => ?_)
    · have H := it_t H c10
      refine GA.iload dX8_group_203 rfl ?_
      obtain ⟨hg11, H⟩ := gg_e H
      refine GV.if_eq (tgt := 214) hg11 dX8_group_205 (by decide) (fun c12 => ?_) (fun c12 => ?_)
      · have H := it_t H c12
        refine GA.locals [(4, .ref (L a4)), (5, .int (J a5))] ⟨rfl, rfl, trivial⟩ ?_
        exact ih_X8_group_214 _ _ (a4) (a5) _ _ H
      · have H := it_f H c12
        refine GA.iload_n dX8_group_208 rfl ?_
        refine GA.aload dX8_group_209 rfl ?_
        obtain ⟨hg13, H⟩ := gg_e H
        obtain ⟨x14, S_15, hc16, H⟩ := gc_e H
        refine GA.callS (m_X8_line hc16) xs_X8_84 dX8_group_211 rfl (by omega) (by decide) rfl (Nat.le_of_ble_eq_true rfl) (by omega) (by omega) rfl (fun E S9 hx => hx.elim) (fun v S9 hq => ?_)
        obtain ⟨rfl, rfl⟩ := hq
        refine GA.locals [(4, .ref (L a4)), (5, .int (J a5))] ⟨rfl, rfl, trivial⟩ ?_
        exact ih_X8_group_214 _ _ (a4) (a5) _ _ H
    · have H := it_f H c10
      refine GA.iload_n dX8_group_100 rfl ?_
      refine GA.bipush dX8_group_101 rfl ?_
      obtain ⟨hg17, H⟩ := gg_e H
      refine GV.icmp_gt (tgt := 203) hg17 (by decide) dX8_group_103 (by decide) (fun c18 => ?_) (fun c18 => ?_)
      · have H := it_t H c18
        refine GA.iload dX8_group_203 rfl ?_
        obtain ⟨hg19, H⟩ := gg_e H
        refine GV.if_eq (tgt := 214) hg19 dX8_group_205 (by decide) (fun c20 => ?_) (fun c20 => ?_)
        · have H := it_t H c20
          refine GA.locals [(4, .ref (L a4)), (5, .int (J a5))] ⟨rfl, rfl, trivial⟩ ?_
          exact ih_X8_group_214 _ _ (a4) (a5) _ _ H
        · have H := it_f H c20
          refine GA.iload_n dX8_group_208 rfl ?_
          refine GA.aload dX8_group_209 rfl ?_
          obtain ⟨hg21, H⟩ := gg_e H
          obtain ⟨x22, S_23, hc24, H⟩ := gc_e H
          refine GA.callS (m_X8_line hc24) xs_X8_84 dX8_group_211 rfl (by omega) (by decide) rfl (Nat.le_of_ble_eq_true rfl) (by omega) (by omega) rfl (fun E S9 hx => hx.elim) (fun v S9 hq => ?_)
          obtain ⟨rfl, rfl⟩ := hq
          refine GA.locals [(4, .ref (L a4)), (5, .int (J a5))] ⟨rfl, rfl, trivial⟩ ?_
          exact ih_X8_group_214 _ _ (a4) (a5) _ _ H
      · have H := it_f H c18
        refine GA.iload dX8_group_106 rfl ?_
        refine GV.if_le (tgt := 118) hg1 dX8_group_108 (by decide) (fun c25 => ?_) (fun c25 => ?_)
        · have H := it_t H c25
          refine GA.iload dX8_group_118 rfl ?_
          obtain ⟨hg26, H⟩ := gg_e H
          refine GV.if_eq (tgt := 131) hg26 dX8_group_120 (by decide) (fun c27 => ?_) (fun c27 => ?_)
          · have H := it_t H c27
            refine GA.locals [(0, .ref (L a0)), (1, .int (J a1)), (2, .int (J a2)), (3, .int (J a3)), (4, .ref (L a4)), (5, .int (J a5)), (6, .int (J a6)), (7, .int (J a7)), (8, .int (J a8)), (9, .int (J a9))] ⟨rfl, rfl, rfl, rfl, rfl, rfl, rfl, rfl, rfl, rfl, trivial⟩ ?_
            exact ih_X8_group_131 _ _ (a0) (a1) (a2) (a3) (a4) (a5) (a6) (a7) (a8) (a9) _ _ H
          · have H := it_f H c27
            refine GA.iload_n dX8_group_123 rfl ?_
            refine GA.iconst dX8_group_124 ?_
            obtain ⟨x28, hx29, H⟩ := gv_e H
            refine GV.iadd hx29 dX8_group_125 ?_
            refine GA.aload dX8_group_126 rfl ?_
            obtain ⟨hg30, H⟩ := gg_e H
            obtain ⟨x31, S_32, hc33, H⟩ := gc_e H
            refine GA.callS (m_X8_line hc33) xs_X8_84 dX8_group_128 rfl (by omega) (by decide) rfl (Nat.le_of_ble_eq_true rfl) (by omega) (by omega) rfl (fun E S9 hx => hx.elim) (fun v S9 hq => ?_)
            obtain ⟨rfl, rfl⟩ := hq
            refine GA.locals [(0, .ref (L a0)), (1, .int (J a1)), (2, .int (J a2)), (3, .int (J a3)), (4, .ref (L a4)), (5, .int (J a5)), (6, .int (J a6)), (7, .int (J a7)), (8, .int (J a8)), (9, .int (J a9))] ⟨rfl, rfl, rfl, rfl, rfl, rfl, rfl, rfl, rfl, rfl, trivial⟩ ?_
            exact ih_X8_group_131 _ _ (a0) (a1) (a2) (a3) (a4) (a5) (a6) (a7) (a8) (a9) _ _ H
        · have H := it_f H c25
          refine GA.aload dX8_group_111 rfl ?_
          refine GA.bipush dX8_group_113 rfl ?_
          obtain ⟨hg34, H⟩ := gg_e H
          obtain ⟨hg35, H⟩ := gg_e H
          obtain ⟨x36, S_37, hc38, H⟩ := gc_e H
          refine GA.callV (m_X9_add hc38) xs_X8_51 dX8_group_115 (gsS hg35) (by omega) rfl rfl (by omega) (by decide) rfl (Nat.le_of_ble_eq_true rfl) (by omega) (by omega) rfl (fun E S9 hx => hx.elim) (fun v S9 hq => ?_)
          obtain ⟨rfl, rfl⟩ := hq
          refine GA.iload dX8_group_118 rfl ?_
          obtain ⟨hg39, H⟩ := gg_e H
          refine GV.if_eq (tgt := 131) hg39 dX8_group_120 (by decide) (fun c40 => ?_) (fun c40 => ?_)
          · have H := it_t H c40
            refine GA.locals [(0, .ref (L a0)), (1, .int (J a1)), (2, .int (J a2)), (3, .int (J a3)), (4, .ref (L a4)), (5, .int (J a5)), (6, .int (J a6)), (7, .int (J a7)), (8, .int (J a8)), (9, .int (J a9))] ⟨rfl, rfl, rfl, rfl, rfl, rfl, rfl, rfl, rfl, rfl, trivial⟩ ?_
            exact ih_X8_group_131 _ _ (a0) (a1) (a2) (a3) (a4) (a5) (a6) (a7) (a8) (a9) _ _ H
          · have H := it_f H c40
            refine GA.iload_n dX8_group_123 rfl ?_
            refine GA.iconst dX8_group_124 ?_
            obtain ⟨x41, hx42, H⟩ := gv_e H
            refine GV.iadd hx42 dX8_group_125 ?_
            refine GA.aload dX8_group_126 rfl ?_
            obtain ⟨x43, S_44, hc45, H⟩ := gc_e H
            refine GA.callS (m_X8_line hc45) xs_X8_84 dX8_group_128 rfl (by omega) (by decide) rfl (Nat.le_of_ble_eq_true rfl) (by omega) (by omega) rfl (fun E S9 hx => hx.elim) (fun v S9 hq => ?_)
            obtain ⟨rfl, rfl⟩ := hq
            refine GA.locals [(0, .ref (L a0)), (1, .int (J a1)), (2, .int (J a2)), (3, .int (J a3)), (4, .ref (L a4)), (5, .int (J a5)), (6, .int (J a6)), (7, .int (J a7)), (8, .int (J a8)), (9, .int (J a9))] ⟨rfl, rfl, rfl, rfl, rfl, rfl, rfl, rfl, rfl, rfl, trivial⟩ ?_
            exact ih_X8_group_131 _ _ (a0) (a1) (a2) (a3) (a4) (a5) (a6) (a7) (a8) (a9) _ _ H
set_option maxHeartbeats 4000000 in
set_option maxRecDepth 20000 in
theorem t_X8_group_131 {l : Launch} {Z : XZ} {L : Nat → Nat} (n : Nat) (ih_X8_group_0 : P_X8_group_0 l Z L n) (ih_X8_group_23 : P_X8_group_23 l Z L n) (ih_X8_group_43 : P_X8_group_43 l Z L n) (ih_X8_group_60 : P_X8_group_60 l Z L n) (ih_X8_group_87 : P_X8_group_87 l Z L n) (ih_X8_group_131 : P_X8_group_131 l Z L n) (ih_X8_group_161 : P_X8_group_161 l Z L n) (ih_X8_group_214 : P_X8_group_214 l Z L n) (ih_X8_value_0 : P_X8_value_0 l Z L n) : P_X8_group_131 l Z L (n + 1) := by
  intro d S a0 a1 a2 a3 a4 a5 a6 a7 a8 a9 x S1 H
  have H : b_X8_group_131 n d (f_X8_group n) S a0 a1 a2 a3 a4 a5 a6 a7 a8 a9 = some (x, S1) := H
  unfold b_X8_group_131 at H
  refine GA.iload dX8_group_131 rfl ?_
  obtain ⟨hg1, H⟩ := gg_e H
  refine GV.if_eq (tgt := 161) hg1 dX8_group_133 (by decide) (fun c2 => ?_) (fun c2 => ?_)
  · have H := it_t H c2
    refine GA.locals [(0, .ref (L a0)), (1, .int (J a1)), (2, .int (J a2)), (3, .int (J a3)), (4, .ref (L a4)), (5, .int (J a5)), (6, .int (J a6)), (7, .int (J a7)), (8, .int (J a8)), (9, .int (J a9))] ⟨rfl, rfl, rfl, rfl, rfl, rfl, rfl, rfl, rfl, rfl, trivial⟩ ?_
    exact ih_X8_group_161 _ _ (a0) (a1) (a2) (a3) (a4) (a5) (a6) (a7) (a8) (a9) _ _ H
  · have H := it_f H c2
    refine GA.aload_n dX8_group_136 rfl ?_
    refine GA.iload dX8_group_137 rfl ?_
    refine GA.aload dX8_group_139 rfl ?_
    obtain ⟨hg3, H⟩ := gg_e H
    obtain ⟨x4, S_5, hc6, H⟩ := gc_e H
    refine GA.callS (m_X8_key hc6) xs_X8_87 dX8_group_141 rfl (by omega) (by decide) rfl (Nat.le_of_ble_eq_true rfl) (by omega) (by omega) rfl (fun E S9 hx => hx.elim) (fun v S9 hq => ?_)
    obtain ⟨rfl, rfl⟩ := hq
    refine GA.aload dX8_group_144 rfl ?_
    refine GA.iload dX8_group_146 rfl ?_
    obtain ⟨hg7, H⟩ := gg_e H
    refine GV.if_eq (tgt := 156) hg7 dX8_group_148 (by decide) (fun c8 => ?_) (fun c8 => ?_)
    · have H := it_t H c8
      refine GA.ldcS (i := 17) (tx := ":") (by decide +kernel) dX8_group_156 ?_
      obtain ⟨hg9, H⟩ := gg_e H
      obtain ⟨x10, S_11, hc12, H⟩ := gc_e H
      refine GA.callV (m_X9_addAll hc12) xs_X8_17 dX8_group_158 (gsS hg9) (by omega) rfl rfl (by omega) (by decide) rfl (Nat.le_of_ble_eq_true rfl) (by omega) (by omega) rfl (fun E S9 hx => hx.elim) (fun v S9 hq => ?_)
      obtain ⟨rfl, rfl⟩ := hq
      refine GA.locals [(0, .ref (L a0)), (1, .int (J a1)), (2, .int (J a2)), (3, .int (J a3)), (4, .ref (L a4)), (5, .int (J a5)), (6, .int (J a6)), (7, .int (J a7)), (8, .int (J a8)), (9, .int (J a9))] ⟨rfl, rfl, rfl, rfl, rfl, rfl, rfl, rfl, rfl, rfl, trivial⟩ ?_
      exact ih_X8_group_161 _ _ (a0) (a1) (a2) (a3) (a4) (a5) (a6) (a7) (a8) (a9) _ _ H
    · have H := it_f H c8
      refine GA.ldcS (i := 16) (tx := ": ") (by decide +kernel) dX8_group_151 ?_
      refine GA.goto (tgt := 158) dX8_group_153 (by decide) ?_
      obtain ⟨hg13, H⟩ := gg_e H
      obtain ⟨x14, S_15, hc16, H⟩ := gc_e H
      refine GA.callV (m_X9_addAll hc16) xs_X8_17 dX8_group_158 (gsS hg13) (by omega) rfl rfl (by omega) (by decide) rfl (Nat.le_of_ble_eq_true rfl) (by omega) (by omega) rfl (fun E S9 hx => hx.elim) (fun v S9 hq => ?_)
      obtain ⟨rfl, rfl⟩ := hq
      refine GA.locals [(0, .ref (L a0)), (1, .int (J a1)), (2, .int (J a2)), (3, .int (J a3)), (4, .ref (L a4)), (5, .int (J a5)), (6, .int (J a6)), (7, .int (J a7)), (8, .int (J a8)), (9, .int (J a9))] ⟨rfl, rfl, rfl, rfl, rfl, rfl, rfl, rfl, rfl, rfl, trivial⟩ ?_
      exact ih_X8_group_161 _ _ (a0) (a1) (a2) (a3) (a4) (a5) (a6) (a7) (a8) (a9) _ _ H
set_option maxHeartbeats 4000000 in
set_option maxRecDepth 20000 in
theorem t_X8_group_161 {l : Launch} {Z : XZ} {L : Nat → Nat} (n : Nat) (ih_X8_group_0 : P_X8_group_0 l Z L n) (ih_X8_group_23 : P_X8_group_23 l Z L n) (ih_X8_group_43 : P_X8_group_43 l Z L n) (ih_X8_group_60 : P_X8_group_60 l Z L n) (ih_X8_group_87 : P_X8_group_87 l Z L n) (ih_X8_group_131 : P_X8_group_131 l Z L n) (ih_X8_group_161 : P_X8_group_161 l Z L n) (ih_X8_group_214 : P_X8_group_214 l Z L n) (ih_X8_value_0 : P_X8_value_0 l Z L n) : P_X8_group_161 l Z L (n + 1) := by
  intro d S a0 a1 a2 a3 a4 a5 a6 a7 a8 a9 x S1 H
  have H : b_X8_group_161 n d (f_X8_group n) S a0 a1 a2 a3 a4 a5 a6 a7 a8 a9 = some (x, S1) := H
  unfold b_X8_group_161 at H
  refine GA.aload_n dX8_group_161 rfl ?_
  refine GA.iload dX8_group_162 rfl ?_
  refine GA.iload_n dX8_group_164 rfl ?_
  refine GA.iload_n dX8_group_165 rfl ?_
  refine GA.iconst dX8_group_166 ?_
  obtain ⟨x1, hx2, H⟩ := gv_e H
  refine GV.iadd hx2 dX8_group_167 ?_
  refine GA.aload dX8_group_168 rfl ?_
  obtain ⟨hg3, H⟩ := gg_e H
  obtain ⟨x4, S_5, hc6, H⟩ := gc_e H
  refine GA.callS (i_X8_value ih_X8_value_0 hc6) xs_X8_94 dX8_group_170 rfl (by omega) (by decide) rfl (Nat.le_of_ble_eq_true rfl) (by omega) (by omega) rfl (fun E S9 hx => hx.elim) (fun v S9 hq => ?_)
  obtain ⟨rfl, rfl⟩ := hq
  refine GA.iload dX8_group_173 rfl ?_
  obtain ⟨hg7, H⟩ := gg_e H
  refine GV.if_eq (tgt := 188) hg7 dX8_group_175 (by decide) (fun c8 => ?_) (fun c8 => ?_)
  · have H := it_t H c8
    refine GA.aload_n dX8_group_188 rfl ?_
    refine GA.iload_n dX8_group_189 rfl ?_
    refine GA.iload dX8_group_190 rfl ?_
    obtain ⟨hg9, H⟩ := gg_e H
    obtain ⟨x10, S_11, hc12, H⟩ := gc_e H
    refine GA.callV (m_X10_next hc12) xs_X8_97 dX8_group_192 (gsT hg9) (by omega) rfl rfl (by omega) (by decide) rfl (Nat.le_of_ble_eq_true rfl) (by omega) (by omega) rfl (fun E S9 hx => hx.elim) (fun v S9 hq => ?_)
    obtain ⟨rfl, rfl⟩ := hq
    refine GA.istore dX8_group_195 (by decide) ?_
    obtain ⟨x13, hx14, H⟩ := gv_e H
    refine GV.iinc hx14 dX8_group_197 rfl (by decide) ?_
    refine GA.goto (tgt := 87) dX8_group_200 (by decide) ?_
    refine GA.locals [(0, .ref (L a0)), (1, .int (J a1)), (2, .int (J a2)), (3, .int (J a3)), (4, .ref (L a4)), (5, .int (J a5)), (6, .int (J a6)), (7, .int (J a7)), (8, .int (J x10)), (9, .int (J x13))] ⟨rfl, rfl, rfl, rfl, rfl, rfl, rfl, rfl, rfl, rfl, trivial⟩ ?_
    exact ih_X8_group_87 _ _ (a0) (a1) (a2) (a3) (a4) (a5) (a6) (a7) (x10) (x13) _ _ H
  · have H := it_f H c8
    refine GA.aload_n dX8_group_178 rfl ?_
    refine GA.iload_n dX8_group_179 rfl ?_
    refine GA.iload dX8_group_180 rfl ?_
    obtain ⟨hg15, H⟩ := gg_e H
    obtain ⟨x16, S_17, hc18, H⟩ := gc_e H
    refine GA.callV (m_X10_nextByKey hc18) xs_X8_81 dX8_group_182 (gsT hg15) (by omega) rfl rfl (by omega) (by decide) rfl (Nat.le_of_ble_eq_true rfl) (by omega) (by omega) rfl (fun E S9 hx => hx.elim) (fun v S9 hq => ?_)
    obtain ⟨rfl, rfl⟩ := hq
    refine GA.goto (tgt := 195) dX8_group_185 (by decide) ?_
    refine GA.istore dX8_group_195 (by decide) ?_
    obtain ⟨x19, hx20, H⟩ := gv_e H
    refine GV.iinc hx20 dX8_group_197 rfl (by decide) ?_
    refine GA.goto (tgt := 87) dX8_group_200 (by decide) ?_
    refine GA.locals [(0, .ref (L a0)), (1, .int (J a1)), (2, .int (J a2)), (3, .int (J a3)), (4, .ref (L a4)), (5, .int (J a5)), (6, .int (J a6)), (7, .int (J a7)), (8, .int (J x16)), (9, .int (J x19))] ⟨rfl, rfl, rfl, rfl, rfl, rfl, rfl, rfl, rfl, rfl, trivial⟩ ?_
    exact ih_X8_group_87 _ _ (a0) (a1) (a2) (a3) (a4) (a5) (a6) (a7) (x16) (x19) _ _ H
set_option maxHeartbeats 4000000 in
set_option maxRecDepth 20000 in
theorem t_X8_group_214 {l : Launch} {Z : XZ} {L : Nat → Nat} (n : Nat) (ih_X8_group_0 : P_X8_group_0 l Z L n) (ih_X8_group_23 : P_X8_group_23 l Z L n) (ih_X8_group_43 : P_X8_group_43 l Z L n) (ih_X8_group_60 : P_X8_group_60 l Z L n) (ih_X8_group_87 : P_X8_group_87 l Z L n) (ih_X8_group_131 : P_X8_group_131 l Z L n) (ih_X8_group_161 : P_X8_group_161 l Z L n) (ih_X8_group_214 : P_X8_group_214 l Z L n) (ih_X8_value_0 : P_X8_value_0 l Z L n) : P_X8_group_214 l Z L (n + 1) := by
  intro d S a4 a5 x S1 H
  have H : b_X8_group_214 n d (f_X8_group n) S a4 a5 = some (x, S1) := H
  unfold b_X8_group_214 at H
  refine GA.aload dX8_group_214 rfl ?_
  refine GA.iload dX8_group_216 rfl ?_
  obtain ⟨hg1, H⟩ := gg_e H
  refine GV.if_eq (tgt := 226) hg1 dX8_group_218 (by decide) (fun c2 => ?_) (fun c2 => ?_)
  · have H := it_t H c2
    refine GA.bipush dX8_group_226 rfl ?_
    obtain ⟨hg3, H⟩ := gg_e H
    obtain ⟨hg4, H⟩ := gg_e H
    obtain ⟨x5, S_6, hc7, H⟩ := gc_e H
    refine GA.callV (m_X9_add hc7) xs_X8_51 dX8_group_228 (gsS hg4) (by omega) rfl rfl (by omega) (by decide) rfl (Nat.le_of_ble_eq_true rfl) (by omega) (by omega) rfl (fun E S9 hx => hx.elim) (fun v S9 hq => ?_)
    obtain ⟨rfl, rfl⟩ := hq
    cases H
    exact GA.vret rfl dX8_group_231 (by omega) (by omega) ⟨rfl, rfl⟩
  · have H := it_f H c2
    refine GA.bipush dX8_group_221 rfl ?_
    refine GA.goto (tgt := 228) dX8_group_223 (by decide) ?_
    obtain ⟨hg8, H⟩ := gg_e H
    obtain ⟨hg9, H⟩ := gg_e H
    obtain ⟨x10, S_11, hc12, H⟩ := gc_e H
    refine GA.callV (m_X9_add hc12) xs_X8_51 dX8_group_228 (gsS hg9) (by omega) rfl rfl (by omega) (by decide) rfl (Nat.le_of_ble_eq_true rfl) (by omega) (by omega) rfl (fun E S9 hx => hx.elim) (fun v S9 hq => ?_)
    obtain ⟨rfl, rfl⟩ := hq
    cases H
    exact GA.vret rfl dX8_group_231 (by omega) (by omega) ⟨rfl, rfl⟩
set_option maxHeartbeats 4000000 in
set_option maxRecDepth 20000 in
theorem t_X8_value_0 {l : Launch} {Z : XZ} {L : Nat → Nat} (n : Nat) (ih_X8_group_0 : P_X8_group_0 l Z L n) (ih_X8_group_23 : P_X8_group_23 l Z L n) (ih_X8_group_43 : P_X8_group_43 l Z L n) (ih_X8_group_60 : P_X8_group_60 l Z L n) (ih_X8_group_87 : P_X8_group_87 l Z L n) (ih_X8_group_131 : P_X8_group_131 l Z L n) (ih_X8_group_161 : P_X8_group_161 l Z L n) (ih_X8_group_214 : P_X8_group_214 l Z L n) (ih_X8_value_0 : P_X8_value_0 l Z L n) : P_X8_value_0 l Z L (n + 1) := by
  intro d S a0 a1 a2 a3 a4 x S1 H
  have H : b_X8_value_0 n d (f_X8_group n) S a0 a1 a2 a3 a4 = some (x, S1) := H
  unfold b_X8_value_0 at H
  refine GA.aload_n dX8_value_0 rfl ?_
  refine GA.iload_n dX8_value_1 rfl ?_
  obtain ⟨hg1, H⟩ := gg_e H
  obtain ⟨hg2, H⟩ := gg_e H
  obtain ⟨x3, S_4, hc5, H⟩ := gc_e H
  refine GA.callV (m_X10_kind hc5) xs_X8_9 dX8_value_2 (gsT hg2) (by omega) rfl rfl (by omega) (by decide) rfl (Nat.le_of_ble_eq_true rfl) (by omega) (by omega) rfl (fun E S9 hx => hx.elim) (fun v S9 hq => ?_)
  obtain ⟨rfl, rfl⟩ := hq
  obtain ⟨hg6, H⟩ := gg_e H
  by_cases c7 : x3 = 0
  · have H := it_t H c7
    refine GA.tableIn (tgt := 36) dX8_value_5 hg6 (by omega) (by omega) (by rw [c7] <;> rfl) (by decide) ?_
    refine GA.aload dX8_value_36 rfl ?_
    refine GA.ldcS (i := 12) (tx := "null") (by decide +kernel) dX8_value_38 ?_
    obtain ⟨hg8, H⟩ := gg_e H
    obtain ⟨x9, S_10, hc11, H⟩ := gc_e H
    refine GA.callV (m_X9_addAll hc11) xs_X8_17 dX8_value_40 (gsS hg8) (by omega) rfl rfl (by omega) (by decide) rfl (Nat.le_of_ble_eq_true rfl) (by omega) (by omega) rfl (fun E S9 hx => hx.elim) (fun v S9 hq => ?_)
    obtain ⟨rfl, rfl⟩ := hq
    refine GA.goto (tgt := 98) dX8_value_43 (by decide) ?_
    cases H
    exact GA.vret rfl dX8_value_98 (by omega) (by omega) ⟨rfl, rfl⟩
  have H := it_f H c7
  by_cases c12 : x3 = 1
  · have H := it_t H c12
    refine GA.tableIn (tgt := 46) dX8_value_5 hg6 (by omega) (by omega) (by rw [c12] <;> rfl) (by decide) ?_
    refine GA.aload dX8_value_46 rfl ?_
    refine GA.aload_n dX8_value_48 rfl ?_
    refine GA.iload_n dX8_value_49 rfl ?_
    obtain ⟨x13, S_14, hc15, H⟩ := gc_e H
    refine GA.callV (m_X10_isTrue hc15) xs_X8_23 dX8_value_50 (gsT hg2) (by omega) rfl rfl (by omega) (by decide) rfl (Nat.le_of_ble_eq_true rfl) (by omega) (by omega) rfl (fun E S9 hx => hx.elim) (fun v S9 hq => ?_)
    obtain ⟨rfl, rfl⟩ := hq
    obtain ⟨hg16, H⟩ := gg_e H
    refine GV.if_eq (tgt := 61) hg16 dX8_value_53 (by decide) (fun c17 => ?_) (fun c17 => ?_)
    · have H := it_t H c17
      refine GA.ldcS (i := 14) (tx := "false") (by decide +kernel) dX8_value_61 ?_
      obtain ⟨hg18, H⟩ := gg_e H
      obtain ⟨x19, S_20, hc21, H⟩ := gc_e H
      refine GA.callV (m_X9_addAll hc21) xs_X8_17 dX8_value_63 (gsS hg18) (by omega) rfl rfl (by omega) (by decide) rfl (Nat.le_of_ble_eq_true rfl) (by omega) (by omega) rfl (fun E S9 hx => hx.elim) (fun v S9 hq => ?_)
      obtain ⟨rfl, rfl⟩ := hq
      refine GA.goto (tgt := 98) dX8_value_66 (by decide) ?_
      cases H
      exact GA.vret rfl dX8_value_98 (by omega) (by omega) ⟨rfl, rfl⟩
    · have H := it_f H c17
      refine GA.ldcS (i := 13) (tx := "true") (by decide +kernel) dX8_value_56 ?_
      refine GA.goto (tgt := 63) dX8_value_58 (by decide) ?_
      obtain ⟨hg22, H⟩ := gg_e H
      obtain ⟨x23, S_24, hc25, H⟩ := gc_e H
      refine GA.callV (m_X9_addAll hc25) xs_X8_17 dX8_value_63 (gsS hg22) (by omega) rfl rfl (by omega) (by decide) rfl (Nat.le_of_ble_eq_true rfl) (by omega) (by omega) rfl (fun E S9 hx => hx.elim) (fun v S9 hq => ?_)
      obtain ⟨rfl, rfl⟩ := hq
      refine GA.goto (tgt := 98) dX8_value_66 (by decide) ?_
      cases H
      exact GA.vret rfl dX8_value_98 (by omega) (by omega) ⟨rfl, rfl⟩
  have H := it_f H c12
  by_cases c26 : x3 = 2
  · have H := it_t H c26
    refine GA.tableIn (tgt := 69) dX8_value_5 hg6 (by omega) (by omega) (by rw [c26] <;> rfl) (by decide) ?_
    refine GA.aload_n dX8_value_69 rfl ?_
    refine GA.iload_n dX8_value_70 rfl ?_
    refine GA.aload dX8_value_71 rfl ?_
    obtain ⟨x27, S_28, hc29, H⟩ := gc_e H
    refine GA.callS (m_X8_number hc29) xs_X8_31 dX8_value_73 rfl (by omega) (by decide) rfl (Nat.le_of_ble_eq_true rfl) (by omega) (by omega) rfl (fun E S9 hx => hx.elim) (fun v S9 hq => ?_)
    obtain ⟨rfl, rfl⟩ := hq
    refine GA.goto (tgt := 98) dX8_value_76 (by decide) ?_
    cases H
    exact GA.vret rfl dX8_value_98 (by omega) (by omega) ⟨rfl, rfl⟩
  have H := it_f H c26
  by_cases c30 : x3 = 3
  · have H := it_t H c30
    refine GA.tableIn (tgt := 79) dX8_value_5 hg6 (by omega) (by omega) (by rw [c30] <;> rfl) (by decide) ?_
    refine GA.aload_n dX8_value_79 rfl ?_
    refine GA.iload_n dX8_value_80 rfl ?_
    refine GA.aload dX8_value_81 rfl ?_
    obtain ⟨x31, S_32, hc33, H⟩ := gc_e H
    refine GA.callS (m_X8_text hc33) xs_X8_37 dX8_value_83 rfl (by omega) (by decide) rfl (Nat.le_of_ble_eq_true rfl) (by omega) (by omega) rfl (fun E S9 hx => hx.elim) (fun v S9 hq => ?_)
    obtain ⟨rfl, rfl⟩ := hq
    refine GA.goto (tgt := 98) dX8_value_86 (by decide) ?_
    cases H
    exact GA.vret rfl dX8_value_98 (by omega) (by omega) ⟨rfl, rfl⟩
  have H := it_f H c30
  refine GA.tableOut (tgt := 89) dX8_value_5 hg6 (by omega) (by decide) ?_
  refine GA.aload_n dX8_value_89 rfl ?_
  refine GA.iload_n dX8_value_90 rfl ?_
  refine GA.iload_n dX8_value_91 rfl ?_
  refine GA.iload_n dX8_value_92 rfl ?_
  refine GA.aload dX8_value_93 rfl ?_
  obtain ⟨x34, S_35, hc36, H⟩ := gc_e H
  refine GA.callS (i_X8_group ih_X8_group_0 hc36) xs_X8_40 dX8_value_95 rfl (by omega) (by decide) rfl (Nat.le_of_ble_eq_true rfl) (by omega) (by omega) rfl (fun E S9 hx => hx.elim) (fun v S9 hq => ?_)
  obtain ⟨rfl, rfl⟩ := hq
  cases H
  exact GA.vret rfl dX8_value_98 (by omega) (by omega) ⟨rfl, rfl⟩
theorem g_X8_group {l : Launch} {Z : XZ} {L : Nat → Nat} : ∀ n, P_X8_group_0 l Z L n ∧ P_X8_group_23 l Z L n ∧ P_X8_group_43 l Z L n ∧ P_X8_group_60 l Z L n ∧ P_X8_group_87 l Z L n ∧ P_X8_group_131 l Z L n ∧ P_X8_group_161 l Z L n ∧ P_X8_group_214 l Z L n ∧ P_X8_value_0 l Z L n
  | 0 => ⟨fun _ _ _ _ _ _ _ _ _ H => no_e H, fun _ _ _ _ _ _ _ _ _ _ _ H => no_e H, fun _ _ _ _ _ _ _ _ _ _ _ H => no_e H, fun _ _ _ _ _ _ _ _ _ _ _ _ _ _ H => no_e H, fun _ _ _ _ _ _ _ _ _ _ _ _ _ _ H => no_e H, fun _ _ _ _ _ _ _ _ _ _ _ _ _ _ H => no_e H, fun _ _ _ _ _ _ _ _ _ _ _ _ _ _ H => no_e H, fun _ _ _ _ _ _ H => no_e H, fun _ _ _ _ _ _ _ _ _ H => no_e H⟩
  | n + 1 => have ⟨h0, h1, h2, h3, h4, h5, h6, h7, h8⟩ := g_X8_group (l := l) (Z := Z) (L := L) n
    ⟨t_X8_group_0 n h0 h1 h2 h3 h4 h5 h6 h7 h8, t_X8_group_23 n h0 h1 h2 h3 h4 h5 h6 h7 h8, t_X8_group_43 n h0 h1 h2 h3 h4 h5 h6 h7 h8, t_X8_group_60 n h0 h1 h2 h3 h4 h5 h6 h7 h8, t_X8_group_87 n h0 h1 h2 h3 h4 h5 h6 h7 h8, t_X8_group_131 n h0 h1 h2 h3 h4 h5 h6 h7 h8, t_X8_group_161 n h0 h1 h2 h3 h4 h5 h6 h7 h8, t_X8_group_214 n h0 h1 h2 h3 h4 h5 h6 h7 h8, t_X8_value_0 n h0 h1 h2 h3 h4 h5 h6 h7 h8⟩
theorem m_X8_group {l : Launch} {Z : XZ} {L : Nat → Nat} {n d : Nat} {S : GS} {a0 : Nat} {a1 : Int} {a2 : Int} {a3 : Int} {a4 : Nat} {x : Int} {S1 : GS} (H : f_X8_group n d 0 S [((a0 : Nat) : Int), a1, a2, a3, ((a4 : Nat) : Int)] = some (x, S1)) : GM l Z L yX8_group cX8_group 10 none [] d 0 0 [.ref (L a0), .int (J a1), .int (J a2), .int (J a3), .ref (L a4)] S (fun v S' => v = none ∧ S1 = S') (fun _ _ => False) := GM.of (by decide) (Nat.le_of_ble_eq_true rfl) ((g_X8_group n).1 _ _ _ _ _ _ _ _ _ H)
theorem m_X8_value {l : Launch} {Z : XZ} {L : Nat → Nat} {n d : Nat} {S : GS} {a0 : Nat} {a1 : Int} {a2 : Int} {a3 : Int} {a4 : Nat} {x : Int} {S1 : GS} (H : f_X8_group n d 10000 S [((a0 : Nat) : Int), a1, a2, a3, ((a4 : Nat) : Int)] = some (x, S1)) : GM l Z L yX8_value cX8_value 5 none [] d 0 0 [.ref (L a0), .int (J a1), .int (J a2), .int (J a3), .ref (L a4)] S (fun v S' => v = none ∧ S1 = S') (fun _ _ => False) := GM.of (by decide) (Nat.le_of_ble_eq_true rfl) ((g_X8_group n).2.2.2.2.2.2.2.2 _ _ _ _ _ _ _ _ _ H)

def P_X7_divide_0 (l : Launch) (Z : XZ) (L : Nat → Nat) (n : Nat) : Prop := ∀ (d : Nat) (S : GS) (a0 : Nat) (x : Int) (S1 : GS), f_X7_divide n d 0 S [((a0 : Nat) : Int)] = some (x, S1) → GA l Z L yX7_divide cX7_divide 4 (some .boolean) [] d 0 0 (fun v S' => v = some (.int (J x)) ∧ S1 = S') (fun _ _ => False) 0 (gl [(0, .ref (L a0))]) [] S 0 0
def P_X7_divide_36 (l : Launch) (Z : XZ) (L : Nat → Nat) (n : Nat) : Prop := ∀ (d : Nat) (S : GS) (a0 : Nat) (a1 : Int) (a2 : Int) (x : Int) (S1 : GS), f_X7_divide n d 36 S [((a0 : Nat) : Int), a1, a2] = some (x, S1) → GA l Z L yX7_divide cX7_divide 4 (some .boolean) [] d 0 0 (fun v S' => v = some (.int (J x)) ∧ S1 = S') (fun _ _ => False) 36 (gl [(0, .ref (L a0)), (1, .int (J a1)), (2, .int (J a2))]) [] S 0 0
theorem i_X7_divide {l : Launch} {Z : XZ} {L : Nat → Nat} {n : Nat} (ih : P_X7_divide_0 l Z L n) {d : Nat} {S : GS} {a0 : Nat} {x : Int} {S1 : GS} (H : f_X7_divide n d 0 S [((a0 : Nat) : Int)] = some (x, S1)) : GM l Z L yX7_divide cX7_divide 4 (some .boolean) [] d 0 0 [.ref (L a0)] S (fun v S' => v = some (.int (J x)) ∧ S1 = S') (fun _ _ => False) := GM.of (by decide) (Nat.le_of_ble_eq_true rfl) (ih _ _ _ _ _ H)
set_option maxHeartbeats 4000000 in
set_option maxRecDepth 20000 in
theorem t_X7_divide_0 {l : Launch} {Z : XZ} {L : Nat → Nat} (n : Nat) (ih_X7_divide_0 : P_X7_divide_0 l Z L n) (ih_X7_divide_36 : P_X7_divide_36 l Z L n) : P_X7_divide_0 l Z L (n + 1) := by
  intro d S a0 x S1 H
  have H : b_X7_divide_0 n d (f_X7_divide n) S a0 = some (x, S1) := H
  unfold b_X7_divide_0 at H
  refine GA.aload_n dX7_divide_0 rfl ?_
  refine GA.iconst dX7_divide_1 ?_
  obtain ⟨hg1, H⟩ := gg_e H
  obtain ⟨S_2, hx3, H⟩ := gv_e H
  refine GV.putI hx3 (xp_X7_27 _) dX7_divide_2 (gsR hg1) (by omega) (Nat.le_of_ble_eq_true rfl) (gsR hg1) ?_
  refine GA.aload_n dX7_divide_5 rfl ?_
  refine GA.get xf_X7_14 dX7_divide_6 (gsR hg1) (by omega) rfl ?_
  obtain ⟨hg4, H⟩ := gg_e H
  obtain ⟨x5, S_6, hc7, H⟩ := gc_e H
  refine GA.callV (m_X9_length hc7) xs_X7_34 dX7_divide_9 (gsS (rS_s hg1)) (Nat.lt_trans (rS_s hg1).2.2 (by decide)) rfl rfl (by omega) (by decide) rfl (Nat.le_of_ble_eq_true rfl) (by omega) (by omega) rfl (fun E S9 hx => hx.elim) (fun v S9 hq => ?_)
  obtain ⟨rfl, rfl⟩ := hq
  obtain ⟨hg8, H⟩ := gg_e H
  refine GV.if_eq (tgt := 28) hg8 dX7_divide_12 (by decide) (fun c9 => ?_) (fun c9 => ?_)
  · have H := it_t H c9
    refine GA.iconst dX7_divide_28 ?_
    refine GA.goto (tgt := 33) dX7_divide_29 (by decide) ?_
    refine GA.istore_n dX7_divide_33 (by decide) ?_
    refine GA.iconst dX7_divide_34 ?_
    refine GA.istore_n dX7_divide_35 (by decide) ?_
    refine GA.locals [(0, .ref (L a0)), (1, .int (J 1)), (2, .int (J 0))] ⟨rfl, rfl, rfl, trivial⟩ ?_
    exact ih_X7_divide_36 _ _ (a0) (1) (0) _ _ H
  · have H := it_f H c9
    refine GA.aload_n dX7_divide_15 rfl ?_
    refine GA.get xf_X7_14 dX7_divide_16 (gsR hg1) (by omega) rfl ?_
    refine GA.iconst dX7_divide_19 ?_
    obtain ⟨x10, S_11, hc12, H⟩ := gc_e H
    refine GA.callV (m_X9_at hc12) xs_X7_56 dX7_divide_20 (gsS (rS_s hg1)) (Nat.lt_trans (rS_s hg1).2.2 (by decide)) rfl rfl (by omega) (by decide) rfl (Nat.le_of_ble_eq_true rfl) (by omega) (by omega) rfl (fun E S9 hx => hx.elim) (fun v S9 hq => ?_)
    obtain ⟨rfl, rfl⟩ := hq
    refine GA.bipush dX7_divide_23 rfl ?_
    obtain ⟨hg13, H⟩ := gg_e H
    refine GV.icmp_ne (tgt := 32) hg13 (by decide) dX7_divide_25 (by decide) (fun c14 => ?_) (fun c14 => ?_)
    · have H := it_t H c14
      refine GA.iconst dX7_divide_32 ?_
      refine GA.istore_n dX7_divide_33 (by decide) ?_
      refine GA.iconst dX7_divide_34 ?_
      refine GA.istore_n dX7_divide_35 (by decide) ?_
      refine GA.locals [(0, .ref (L a0)), (1, .int (J 0)), (2, .int (J 0))] ⟨rfl, rfl, rfl, trivial⟩ ?_
      exact ih_X7_divide_36 _ _ (a0) (0) (0) _ _ H
    · have H := it_f H c14
      refine GA.iconst dX7_divide_28 ?_
      refine GA.goto (tgt := 33) dX7_divide_29 (by decide) ?_
      refine GA.istore_n dX7_divide_33 (by decide) ?_
      refine GA.iconst dX7_divide_34 ?_
      refine GA.istore_n dX7_divide_35 (by decide) ?_
      refine GA.locals [(0, .ref (L a0)), (1, .int (J 1)), (2, .int (J 0))] ⟨rfl, rfl, rfl, trivial⟩ ?_
      exact ih_X7_divide_36 _ _ (a0) (1) (0) _ _ H
set_option maxHeartbeats 4000000 in
set_option maxRecDepth 20000 in
theorem t_X7_divide_36 {l : Launch} {Z : XZ} {L : Nat → Nat} (n : Nat) (ih_X7_divide_0 : P_X7_divide_0 l Z L n) (ih_X7_divide_36 : P_X7_divide_36 l Z L n) : P_X7_divide_36 l Z L (n + 1) := by
  intro d S a0 a1 a2 x S1 H
  have H : b_X7_divide_36 n d (f_X7_divide n) S a0 a1 a2 = some (x, S1) := H
  unfold b_X7_divide_36 at H
  refine GA.iload_n dX7_divide_36 rfl ?_
  refine GA.aload_n dX7_divide_37 rfl ?_
  obtain ⟨hg1, H⟩ := gg_e H
  refine GA.get xf_X7_14 dX7_divide_38 (gsR hg1) (by omega) rfl ?_
  obtain ⟨hg2, H⟩ := gg_e H
  obtain ⟨x3, S_4, hc5, H⟩ := gc_e H
  refine GA.callV (m_X9_length hc5) xs_X7_34 dX7_divide_41 (gsS (rS_s hg1)) (Nat.lt_trans (rS_s hg1).2.2 (by decide)) rfl rfl (by omega) (by decide) rfl (Nat.le_of_ble_eq_true rfl) (by omega) (by omega) rfl (fun E S9 hx => hx.elim) (fun v S9 hq => ?_)
  obtain ⟨rfl, rfl⟩ := hq
  obtain ⟨hg6, H⟩ := gg_e H
  obtain ⟨hg7, H⟩ := gg_e H
  refine GV.icmp_ge (tgt := 156) hg6 hg7 dX7_divide_44 (by decide) (fun c8 => ?_) (fun c8 => ?_)
  · have H := it_t H c8
    refine GA.iload_n dX7_divide_156 rfl ?_
    obtain ⟨hg9, H⟩ := gg_e H
    cases H
    exact GV.zret hg9 rfl dX7_divide_157 (by omega) (by omega) ⟨rfl, rfl⟩
  · have H := it_f H c8
    refine GA.iload_n dX7_divide_47 rfl ?_
    obtain ⟨hg10, H⟩ := gg_e H
    refine GV.if_eq (tgt := 156) hg10 dX7_divide_48 (by decide) (fun c11 => ?_) (fun c11 => ?_)
    · have H := it_t H c11
      refine GA.iload_n dX7_divide_156 rfl ?_
      obtain ⟨hg12, H⟩ := gg_e H
      cases H
      exact GV.zret hg12 rfl dX7_divide_157 (by omega) (by omega) ⟨rfl, rfl⟩
    · have H := it_f H c11
      refine GA.aload_n dX7_divide_51 rfl ?_
      refine GA.get xf_X7_14 dX7_divide_52 (gsR hg1) (by omega) rfl ?_
      refine GA.iload_n dX7_divide_55 rfl ?_
      refine GA.iconst dX7_divide_56 ?_
      obtain ⟨x13, hx14, H⟩ := gv_e H
      refine GV.iadd hx14 dX7_divide_57 ?_
      obtain ⟨x15, S_16, hc17, H⟩ := gc_e H
      refine GA.callV (m_X9_at hc17) xs_X7_56 dX7_divide_58 (gsS (rS_s hg1)) (Nat.lt_trans (rS_s hg1).2.2 (by decide)) rfl rfl (by omega) (by decide) rfl (Nat.le_of_ble_eq_true rfl) (by omega) (by omega) rfl (fun E S9 hx => hx.elim) (fun v S9 hq => ?_)
      obtain ⟨rfl, rfl⟩ := hq
      refine GA.istore_n dX7_divide_61 (by decide) ?_
      refine GA.aload_n dX7_divide_62 rfl ?_
      refine GA.get xf_X7_14 dX7_divide_63 (gsR hg1) (by omega) rfl ?_
      refine GA.iload_n dX7_divide_66 rfl ?_
      obtain ⟨x18, S_19, hc20, H⟩ := gc_e H
      refine GA.callV (m_X9_at hc20) xs_X7_56 dX7_divide_67 (gsS (rS_s hg1)) (Nat.lt_trans (rS_s hg1).2.2 (by decide)) rfl rfl (by omega) (by decide) rfl (Nat.le_of_ble_eq_true rfl) (by omega) (by omega) rfl (fun E S9 hx => hx.elim) (fun v S9 hq => ?_)
      obtain ⟨rfl, rfl⟩ := hq
      refine GA.bipush dX7_divide_70 rfl ?_
      obtain ⟨hg21, H⟩ := gg_e H
      refine GV.icmp_ne (tgt := 96) hg21 (by decide) dX7_divide_72 (by decide) (fun c22 => ?_) (fun c22 => ?_)
      · have H := it_t H c22
        refine GA.aload_n dX7_divide_96 rfl ?_
        refine GA.get xf_X7_14 dX7_divide_97 (gsR hg1) (by omega) rfl ?_
        refine GA.iload_n dX7_divide_100 rfl ?_
        obtain ⟨x23, S_24, hc25, H⟩ := gc_e H
        refine GA.callV (m_X9_at hc25) xs_X7_56 dX7_divide_101 (gsS (rS_s hg1)) (Nat.lt_trans (rS_s hg1).2.2 (by decide)) rfl rfl (by omega) (by decide) rfl (Nat.le_of_ble_eq_true rfl) (by omega) (by omega) rfl (fun E S9 hx => hx.elim) (fun v S9 hq => ?_)
        obtain ⟨rfl, rfl⟩ := hq
        refine GA.bipush dX7_divide_104 rfl ?_
        obtain ⟨hg26, H⟩ := gg_e H
        refine GV.icmp_ne (tgt := 150) hg26 (by decide) dX7_divide_106 (by decide) (fun c27 => ?_) (fun c27 => ?_)
        · have H := it_t H c27
          obtain ⟨x28, hx29, H⟩ := gv_e H
          refine GV.iinc hx29 dX7_divide_150 rfl (by decide) ?_
          refine GA.goto (tgt := 36) dX7_divide_153 (by decide) ?_
          refine GA.locals [(0, .ref (L a0)), (1, .int (J a1)), (2, .int (J x28))] ⟨rfl, rfl, rfl, trivial⟩ ?_
          exact ih_X7_divide_36 _ _ (a0) (a1) (x28) _ _ H
        · have H := it_f H c27
          refine GA.aload_n dX7_divide_109 rfl ?_
          obtain ⟨x30, hx31, H⟩ := gv_e H
          refine GV.getI hx31 xf_X7_27 dX7_divide_110 (gsR hg1) (by omega) rfl ?_
          obtain ⟨hg32, H⟩ := gg_e H
          refine GV.if_lt (tgt := 150) hg32 dX7_divide_113 (by decide) (fun c33 => ?_) (fun c33 => ?_)
          · have H := it_t H c33
            obtain ⟨x34, hx35, H⟩ := gv_e H
            refine GV.iinc hx35 dX7_divide_150 rfl (by decide) ?_
            refine GA.goto (tgt := 36) dX7_divide_153 (by decide) ?_
            refine GA.locals [(0, .ref (L a0)), (1, .int (J a1)), (2, .int (J x34))] ⟨rfl, rfl, rfl, trivial⟩ ?_
            exact ih_X7_divide_36 _ _ (a0) (a1) (x34) _ _ H
          · have H := it_f H c33
            refine GA.aload_n dX7_divide_116 rfl ?_
            obtain ⟨x36, hx37, H⟩ := gv_e H
            refine GV.getI hx37 xf_X7_27 dX7_divide_117 (gsR hg1) (by omega) rfl ?_
            refine GA.aload_n dX7_divide_120 rfl ?_
            refine GA.get xf_X7_23 dX7_divide_121 (gsR hg1) (by omega) rfl ?_
            refine GA.alen (by decide) dX7_divide_124 (gsR3 hg1) (by omega) ?_
            obtain ⟨hg38, H⟩ := gg_e H
            obtain ⟨hg39, H⟩ := gg_e H
            refine GV.icmp_ge (tgt := 150) hg38 hg39 dX7_divide_125 (by decide) (fun c40 => ?_) (fun c40 => ?_)
            · have H := it_t H c40
              obtain ⟨x41, hx42, H⟩ := gv_e H
              refine GV.iinc hx42 dX7_divide_150 rfl (by decide) ?_
              refine GA.goto (tgt := 36) dX7_divide_153 (by decide) ?_
              refine GA.locals [(0, .ref (L a0)), (1, .int (J a1)), (2, .int (J x41))] ⟨rfl, rfl, rfl, trivial⟩ ?_
              exact ih_X7_divide_36 _ _ (a0) (a1) (x41) _ _ H
            · have H := it_f H c40
              refine GA.aload_n dX7_divide_128 rfl ?_
              refine GA.get xf_X7_23 dX7_divide_129 (gsR hg1) (by omega) rfl ?_
              refine GA.aload_n dX7_divide_132 rfl ?_
              obtain ⟨x43, hx44, H⟩ := gv_e H
              refine GV.getI hx44 xf_X7_27 dX7_divide_133 (gsR hg1) (by omega) rfl ?_
              refine GA.iload_n dX7_divide_136 rfl ?_
              refine GA.iconst dX7_divide_137 ?_
              obtain ⟨x45, hx46, H⟩ := gv_e H
              refine GV.iadd hx46 dX7_divide_138 ?_
              obtain ⟨hg47, H⟩ := gg_e H
              obtain ⟨S_48, hx49, H⟩ := gv_e H
              refine GV.iast hg47 hx49 dX7_divide_139 (fun _ => (gsR3 hg1)) (by omega) ?_
              refine GA.aload_n dX7_divide_140 rfl ?_
              refine GA.dup dX7_divide_141 rfl ?_
              obtain ⟨x50, hx51, H⟩ := gv_e H
              refine GV.getI hx51 xf_X7_27 dX7_divide_142 (gsR hg1) (by omega) rfl ?_
              refine GA.iconst dX7_divide_145 ?_
              obtain ⟨x52, hx53, H⟩ := gv_e H
              refine GV.iadd hx53 dX7_divide_146 ?_
              obtain ⟨S_54, hx55, H⟩ := gv_e H
              refine GV.putI hx55 (xp_X7_27 _) dX7_divide_147 (gsR hg1) (by omega) (Nat.le_of_ble_eq_true rfl) (gsR hg1) ?_
              obtain ⟨x56, hx57, H⟩ := gv_e H
              refine GV.iinc hx57 dX7_divide_150 rfl (by decide) ?_
              refine GA.goto (tgt := 36) dX7_divide_153 (by decide) ?_
              refine GA.locals [(0, .ref (L a0)), (1, .int (J a1)), (2, .int (J x56))] ⟨rfl, rfl, rfl, trivial⟩ ?_
              exact ih_X7_divide_36 _ _ (a0) (a1) (x56) _ _ H
      · have H := it_f H c22
        refine GA.iload_n dX7_divide_75 rfl ?_
        refine GA.bipush dX7_divide_76 rfl ?_
        obtain ⟨hg58, H⟩ := gg_e H
        refine GV.icmp_eq (tgt := 87) hg58 (by decide) dX7_divide_78 (by decide) (fun c59 => ?_) (fun c59 => ?_)
        · have H := it_t H c59
          refine GA.iconst dX7_divide_87 ?_
          refine GA.goto (tgt := 92) dX7_divide_88 (by decide) ?_
          refine GA.istore_n dX7_divide_92 (by decide) ?_
          refine GA.goto (tgt := 150) dX7_divide_93 (by decide) ?_
          obtain ⟨x60, hx61, H⟩ := gv_e H
          refine GV.iinc hx61 dX7_divide_150 rfl (by decide) ?_
          refine GA.goto (tgt := 36) dX7_divide_153 (by decide) ?_
          refine GA.locals [(0, .ref (L a0)), (1, .int (J 1)), (2, .int (J x60))] ⟨rfl, rfl, rfl, trivial⟩ ?_
          exact ih_X7_divide_36 _ _ (a0) (1) (x60) _ _ H
        · have H := it_f H c59
          refine GA.iload_n dX7_divide_81 rfl ?_
          refine GA.bipush dX7_divide_82 rfl ?_
          refine GV.icmp_ne (tgt := 91) hg58 (by decide) dX7_divide_84 (by decide) (fun c62 => ?_) (fun c62 => ?_)
          · have H := it_t H c62
            refine GA.iconst dX7_divide_91 ?_
            refine GA.istore_n dX7_divide_92 (by decide) ?_
            refine GA.goto (tgt := 150) dX7_divide_93 (by decide) ?_
            obtain ⟨x63, hx64, H⟩ := gv_e H
            refine GV.iinc hx64 dX7_divide_150 rfl (by decide) ?_
            refine GA.goto (tgt := 36) dX7_divide_153 (by decide) ?_
            refine GA.locals [(0, .ref (L a0)), (1, .int (J 0)), (2, .int (J x63))] ⟨rfl, rfl, rfl, trivial⟩ ?_
            exact ih_X7_divide_36 _ _ (a0) (0) (x63) _ _ H
          · have H := it_f H c62
            refine GA.iconst dX7_divide_87 ?_
            refine GA.goto (tgt := 92) dX7_divide_88 (by decide) ?_
            refine GA.istore_n dX7_divide_92 (by decide) ?_
            refine GA.goto (tgt := 150) dX7_divide_93 (by decide) ?_
            obtain ⟨x65, hx66, H⟩ := gv_e H
            refine GV.iinc hx66 dX7_divide_150 rfl (by decide) ?_
            refine GA.goto (tgt := 36) dX7_divide_153 (by decide) ?_
            refine GA.locals [(0, .ref (L a0)), (1, .int (J 1)), (2, .int (J x65))] ⟨rfl, rfl, rfl, trivial⟩ ?_
            exact ih_X7_divide_36 _ _ (a0) (1) (x65) _ _ H
theorem g_X7_divide {l : Launch} {Z : XZ} {L : Nat → Nat} : ∀ n, P_X7_divide_0 l Z L n ∧ P_X7_divide_36 l Z L n
  | 0 => ⟨fun _ _ _ _ _ H => no_e H, fun _ _ _ _ _ _ _ H => no_e H⟩
  | n + 1 => have ⟨h0, h1⟩ := g_X7_divide (l := l) (Z := Z) (L := L) n
    ⟨t_X7_divide_0 n h0 h1, t_X7_divide_36 n h0 h1⟩
theorem m_X7_divide {l : Launch} {Z : XZ} {L : Nat → Nat} {n d : Nat} {S : GS} {a0 : Nat} {x : Int} {S1 : GS} (H : f_X7_divide n d 0 S [((a0 : Nat) : Int)] = some (x, S1)) : GM l Z L yX7_divide cX7_divide 4 (some .boolean) [] d 0 0 [.ref (L a0)] S (fun v S' => v = some (.int (J x)) ∧ S1 = S') (fun _ _ => False) := GM.of (by decide) (Nat.le_of_ble_eq_true rfl) ((g_X7_divide n).1 _ _ _ _ _ H)

def P_X7_loadText_0 (l : Launch) (Z : XZ) (L : Nat → Nat) (n : Nat) : Prop := ∀ (d : Nat) (S : GS) (a0 : Nat) (a1 : Nat) (a2 : Int) (x : Int) (S1 : GS), f_X7_loadText n d 0 S [((a0 : Nat) : Int), ((a1 : Nat) : Int), a2] = some (x, S1) → GA l Z L yX7_loadText cX7_loadText 3 (some .boolean) [] d 0 0 (fun v S' => v = some (.int (J x)) ∧ S1 = S') (fun _ _ => False) 0 (gl [(0, .ref (L a0)), (1, .ref (L a1)), (2, .int (J a2))]) [] S 0 0
theorem i_X7_loadText {l : Launch} {Z : XZ} {L : Nat → Nat} {n : Nat} (ih : P_X7_loadText_0 l Z L n) {d : Nat} {S : GS} {a0 : Nat} {a1 : Nat} {a2 : Int} {x : Int} {S1 : GS} (H : f_X7_loadText n d 0 S [((a0 : Nat) : Int), ((a1 : Nat) : Int), a2] = some (x, S1)) : GM l Z L yX7_loadText cX7_loadText 3 (some .boolean) [] d 0 0 [.ref (L a0), .ref (L a1), .int (J a2)] S (fun v S' => v = some (.int (J x)) ∧ S1 = S') (fun _ _ => False) := GM.of (by decide) (Nat.le_of_ble_eq_true rfl) (ih _ _ _ _ _ _ _ H)
set_option maxHeartbeats 4000000 in
set_option maxRecDepth 20000 in
theorem t_X7_loadText_0 {l : Launch} {Z : XZ} {L : Nat → Nat} (n : Nat) (ih_X7_loadText_0 : P_X7_loadText_0 l Z L n) : P_X7_loadText_0 l Z L (n + 1) := by
  intro d S a0 a1 a2 x S1 H
  have H : b_X7_loadText_0 n d (f_X7_loadText n) S a0 a1 a2 = some (x, S1) := H
  unfold b_X7_loadText_0 at H
  refine GA.aload_n dX7_loadText_0 rfl ?_
  obtain ⟨hg1, H⟩ := gg_e H
  refine GA.get xf_X7_14 dX7_loadText_1 (gsR hg1) (by omega) rfl ?_
  obtain ⟨hg2, H⟩ := gg_e H
  obtain ⟨x3, S_4, hc5, H⟩ := gc_e H
  refine GA.callV (m_X9_clear hc5) xs_X7_31 dX7_loadText_4 (gsS (rS_s hg1)) (Nat.lt_trans (rS_s hg1).2.2 (by decide)) rfl rfl (by omega) (by decide) rfl (Nat.le_of_ble_eq_true rfl) (by omega) (by omega) rfl (fun E S9 hx => hx.elim) (fun v S9 hq => ?_)
  obtain ⟨rfl, rfl⟩ := hq
  refine GA.aload_n dX7_loadText_7 rfl ?_
  refine GA.iload_n dX7_loadText_8 rfl ?_
  refine GA.aload_n dX7_loadText_9 rfl ?_
  refine GA.get xf_X7_14 dX7_loadText_10 (gsR hg1) (by omega) rfl ?_
  obtain ⟨hg6, H⟩ := gg_e H
  obtain ⟨x7, S_8, hc9, H⟩ := gc_e H
  refine GA.callV (m_X10_signsTo hc9) xs_X7_46 dX7_loadText_13 (gsT hg6) (by omega) rfl rfl (by omega) (by decide) rfl (Nat.le_of_ble_eq_true rfl) (by omega) (by omega) rfl (fun E S9 hx => hx.elim) (fun v S9 hq => ?_)
  obtain ⟨rfl, rfl⟩ := hq
  refine GA.aload_n dX7_loadText_16 rfl ?_
  refine GA.iload_n dX7_loadText_17 rfl ?_
  refine GA.iconst dX7_loadText_18 ?_
  obtain ⟨x10, S_11, hc12, H⟩ := gc_e H
  refine GA.callV (m_X10_is hc12) xs_X7_52 dX7_loadText_19 (gsT hg6) (by omega) rfl rfl (by omega) (by decide) rfl (Nat.le_of_ble_eq_true rfl) (by omega) (by omega) rfl (fun E S9 hx => hx.elim) (fun v S9 hq => ?_)
  obtain ⟨rfl, rfl⟩ := hq
  obtain ⟨hg13, H⟩ := gg_e H
  refine GV.if_eq (tgt := 36) hg13 dX7_loadText_22 (by decide) (fun c14 => ?_) (fun c14 => ?_)
  · have H := it_t H c14
    refine GA.iconst dX7_loadText_36 ?_
    cases H
    exact GV.zret (by decide) rfl dX7_loadText_37 (by omega) (by omega) ⟨rfl, rfl⟩
  · have H := it_f H c14
    refine GA.aload_n dX7_loadText_25 rfl ?_
    obtain ⟨x15, S_16, hc17, H⟩ := gc_e H
    refine GA.callV (m_X7_divide hc17) xs_X7_42 dX7_loadText_26 (gsR hg1) (by omega) rfl rfl (by omega) (by decide) rfl (Nat.le_of_ble_eq_true rfl) (by omega) (by omega) rfl (fun E S9 hx => hx.elim) (fun v S9 hq => ?_)
    obtain ⟨rfl, rfl⟩ := hq
    obtain ⟨hg18, H⟩ := gg_e H
    refine GV.if_eq (tgt := 36) hg18 dX7_loadText_29 (by decide) (fun c19 => ?_) (fun c19 => ?_)
    · have H := it_t H c19
      refine GA.iconst dX7_loadText_36 ?_
      cases H
      exact GV.zret (by decide) rfl dX7_loadText_37 (by omega) (by omega) ⟨rfl, rfl⟩
    · have H := it_f H c19
      refine GA.iconst dX7_loadText_32 ?_
      refine GA.goto (tgt := 37) dX7_loadText_33 (by decide) ?_
      cases H
      exact GV.zret (by decide) rfl dX7_loadText_37 (by omega) (by omega) ⟨rfl, rfl⟩
theorem g_X7_loadText {l : Launch} {Z : XZ} {L : Nat → Nat} : ∀ n, P_X7_loadText_0 l Z L n
  | 0 => fun _ _ _ _ _ _ _ H => no_e H
  | n + 1 => t_X7_loadText_0 n (g_X7_loadText n)
theorem m_X7_loadText {l : Launch} {Z : XZ} {L : Nat → Nat} {n d : Nat} {S : GS} {a0 : Nat} {a1 : Nat} {a2 : Int} {x : Int} {S1 : GS} (H : f_X7_loadText n d 0 S [((a0 : Nat) : Int), ((a1 : Nat) : Int), a2] = some (x, S1)) : GM l Z L yX7_loadText cX7_loadText 3 (some .boolean) [] d 0 0 [.ref (L a0), .ref (L a1), .int (J a2)] S (fun v S' => v = some (.int (J x)) ∧ S1 = S') (fun _ _ => False) := GM.of (by decide) (Nat.le_of_ble_eq_true rfl) ((g_X7_loadText n) _ _ _ _ _ _ _ H)

def P_X7_steps_0 (l : Launch) (Z : XZ) (L : Nat → Nat) (n : Nat) : Prop := ∀ (d : Nat) (S : GS) (a0 : Nat) (x : Int) (S1 : GS), f_X7_steps n d 0 S [((a0 : Nat) : Int)] = some (x, S1) → GA l Z L yX7_steps cX7_steps 1 (some .int) [] d 0 0 (fun v S' => v = some (.int (J x)) ∧ S1 = S') (fun _ _ => False) 0 (gl [(0, .ref (L a0))]) [] S 0 0
theorem i_X7_steps {l : Launch} {Z : XZ} {L : Nat → Nat} {n : Nat} (ih : P_X7_steps_0 l Z L n) {d : Nat} {S : GS} {a0 : Nat} {x : Int} {S1 : GS} (H : f_X7_steps n d 0 S [((a0 : Nat) : Int)] = some (x, S1)) : GM l Z L yX7_steps cX7_steps 1 (some .int) [] d 0 0 [.ref (L a0)] S (fun v S' => v = some (.int (J x)) ∧ S1 = S') (fun _ _ => False) := GM.of (by decide) (Nat.le_of_ble_eq_true rfl) (ih _ _ _ _ _ H)
set_option maxHeartbeats 4000000 in
set_option maxRecDepth 20000 in
theorem t_X7_steps_0 {l : Launch} {Z : XZ} {L : Nat → Nat} (n : Nat) (ih_X7_steps_0 : P_X7_steps_0 l Z L n) : P_X7_steps_0 l Z L (n + 1) := by
  intro d S a0 x S1 H
  have H : b_X7_steps_0 n d (f_X7_steps n) S a0 = some (x, S1) := H
  unfold b_X7_steps_0 at H
  refine GA.aload_n dX7_steps_0 rfl ?_
  obtain ⟨hg1, H⟩ := gg_e H
  obtain ⟨x2, hx3, H⟩ := gv_e H
  refine GV.getI hx3 xf_X7_27 dX7_steps_1 (gsR hg1) (by omega) rfl ?_
  cases H
  exact GA.iret rfl dX7_steps_4 (by omega) (by omega) ⟨rfl, rfl⟩
theorem g_X7_steps {l : Launch} {Z : XZ} {L : Nat → Nat} : ∀ n, P_X7_steps_0 l Z L n
  | 0 => fun _ _ _ _ _ H => no_e H
  | n + 1 => t_X7_steps_0 n (g_X7_steps n)
theorem m_X7_steps {l : Launch} {Z : XZ} {L : Nat → Nat} {n d : Nat} {S : GS} {a0 : Nat} {x : Int} {S1 : GS} (H : f_X7_steps n d 0 S [((a0 : Nat) : Int)] = some (x, S1)) : GM l Z L yX7_steps cX7_steps 1 (some .int) [] d 0 0 [.ref (L a0)] S (fun v S' => v = some (.int (J x)) ∧ S1 = S') (fun _ _ => False) := GM.of (by decide) (Nat.le_of_ble_eq_true rfl) ((g_X7_steps n) _ _ _ _ _ H)

def P_X7_startOf_0 (l : Launch) (Z : XZ) (L : Nat → Nat) (n : Nat) : Prop := ∀ (d : Nat) (S : GS) (a0 : Nat) (a1 : Int) (x : Int) (S1 : GS), f_X7_startOf n d 0 S [((a0 : Nat) : Int), a1] = some (x, S1) → GA l Z L yX7_startOf cX7_startOf 2 (some .int) [] d 0 0 (fun v S' => v = some (.int (J x)) ∧ S1 = S') (fun _ _ => False) 0 (gl [(0, .ref (L a0)), (1, .int (J a1))]) [] S 0 0
theorem i_X7_startOf {l : Launch} {Z : XZ} {L : Nat → Nat} {n : Nat} (ih : P_X7_startOf_0 l Z L n) {d : Nat} {S : GS} {a0 : Nat} {a1 : Int} {x : Int} {S1 : GS} (H : f_X7_startOf n d 0 S [((a0 : Nat) : Int), a1] = some (x, S1)) : GM l Z L yX7_startOf cX7_startOf 2 (some .int) [] d 0 0 [.ref (L a0), .int (J a1)] S (fun v S' => v = some (.int (J x)) ∧ S1 = S') (fun _ _ => False) := GM.of (by decide) (Nat.le_of_ble_eq_true rfl) (ih _ _ _ _ _ _ H)
set_option maxHeartbeats 4000000 in
set_option maxRecDepth 20000 in
theorem t_X7_startOf_0 {l : Launch} {Z : XZ} {L : Nat → Nat} (n : Nat) (ih_X7_startOf_0 : P_X7_startOf_0 l Z L n) : P_X7_startOf_0 l Z L (n + 1) := by
  intro d S a0 a1 x S1 H
  have H : b_X7_startOf_0 n d (f_X7_startOf n) S a0 a1 = some (x, S1) := H
  unfold b_X7_startOf_0 at H
  refine GA.iload_n dX7_startOf_0 rfl ?_
  obtain ⟨hg1, H⟩ := gg_e H
  refine GV.if_lt (tgt := 30) hg1 dX7_startOf_1 (by decide) (fun c2 => ?_) (fun c2 => ?_)
  · have H := it_t H c2
    refine GA.aload_n dX7_startOf_30 rfl ?_
    obtain ⟨hg3, H⟩ := gg_e H
    refine GA.get xf_X7_14 dX7_startOf_31 (gsR hg3) (by omega) rfl ?_
    obtain ⟨hg4, H⟩ := gg_e H
    obtain ⟨x5, S_6, hc7, H⟩ := gc_e H
    refine GA.callV (m_X9_length hc7) xs_X7_34 dX7_startOf_34 (gsS (rS_s hg3)) (Nat.lt_trans (rS_s hg3).2.2 (by decide)) rfl rfl (by omega) (by decide) rfl (Nat.le_of_ble_eq_true rfl) (by omega) (by omega) rfl (fun E S9 hx => hx.elim) (fun v S9 hq => ?_)
    obtain ⟨rfl, rfl⟩ := hq
    refine GA.iconst dX7_startOf_37 ?_
    obtain ⟨x8, hx9, H⟩ := gv_e H
    refine GV.iadd hx9 dX7_startOf_38 ?_
    cases H
    exact GA.iret rfl dX7_startOf_39 (by omega) (by omega) ⟨rfl, rfl⟩
  · have H := it_f H c2
    refine GA.iload_n dX7_startOf_4 rfl ?_
    refine GA.aload_n dX7_startOf_5 rfl ?_
    obtain ⟨hg10, H⟩ := gg_e H
    obtain ⟨x11, hx12, H⟩ := gv_e H
    refine GV.getI hx12 xf_X7_27 dX7_startOf_6 (gsR hg10) (by omega) rfl ?_
    obtain ⟨hg13, H⟩ := gg_e H
    refine GV.icmp_ge (tgt := 30) hg1 hg13 dX7_startOf_9 (by decide) (fun c14 => ?_) (fun c14 => ?_)
    · have H := it_t H c14
      refine GA.aload_n dX7_startOf_30 rfl ?_
      refine GA.get xf_X7_14 dX7_startOf_31 (gsR hg10) (by omega) rfl ?_
      obtain ⟨hg15, H⟩ := gg_e H
      obtain ⟨x16, S_17, hc18, H⟩ := gc_e H
      refine GA.callV (m_X9_length hc18) xs_X7_34 dX7_startOf_34 (gsS (rS_s hg10)) (Nat.lt_trans (rS_s hg10).2.2 (by decide)) rfl rfl (by omega) (by decide) rfl (Nat.le_of_ble_eq_true rfl) (by omega) (by omega) rfl (fun E S9 hx => hx.elim) (fun v S9 hq => ?_)
      obtain ⟨rfl, rfl⟩ := hq
      refine GA.iconst dX7_startOf_37 ?_
      obtain ⟨x19, hx20, H⟩ := gv_e H
      refine GV.iadd hx20 dX7_startOf_38 ?_
      cases H
      exact GA.iret rfl dX7_startOf_39 (by omega) (by omega) ⟨rfl, rfl⟩
    · have H := it_f H c14
      refine GA.iload_n dX7_startOf_12 rfl ?_
      refine GA.aload_n dX7_startOf_13 rfl ?_
      refine GA.get xf_X7_23 dX7_startOf_14 (gsR hg10) (by omega) rfl ?_
      refine GA.alen (by decide) dX7_startOf_17 (gsR3 hg10) (by omega) ?_
      obtain ⟨hg21, H⟩ := gg_e H
      refine GV.icmp_ge (tgt := 30) hg1 hg21 dX7_startOf_18 (by decide) (fun c22 => ?_) (fun c22 => ?_)
      · have H := it_t H c22
        refine GA.aload_n dX7_startOf_30 rfl ?_
        refine GA.get xf_X7_14 dX7_startOf_31 (gsR hg10) (by omega) rfl ?_
        obtain ⟨hg23, H⟩ := gg_e H
        obtain ⟨x24, S_25, hc26, H⟩ := gc_e H
        refine GA.callV (m_X9_length hc26) xs_X7_34 dX7_startOf_34 (gsS (rS_s hg10)) (Nat.lt_trans (rS_s hg10).2.2 (by decide)) rfl rfl (by omega) (by decide) rfl (Nat.le_of_ble_eq_true rfl) (by omega) (by omega) rfl (fun E S9 hx => hx.elim) (fun v S9 hq => ?_)
        obtain ⟨rfl, rfl⟩ := hq
        refine GA.iconst dX7_startOf_37 ?_
        obtain ⟨x27, hx28, H⟩ := gv_e H
        refine GV.iadd hx28 dX7_startOf_38 ?_
        cases H
        exact GA.iret rfl dX7_startOf_39 (by omega) (by omega) ⟨rfl, rfl⟩
      · have H := it_f H c22
        refine GA.aload_n dX7_startOf_21 rfl ?_
        refine GA.get xf_X7_23 dX7_startOf_22 (gsR hg10) (by omega) rfl ?_
        refine GA.iload_n dX7_startOf_25 rfl ?_
        obtain ⟨hg29, H⟩ := gg_e H
        obtain ⟨x30, hx31, H⟩ := gv_e H
        refine GV.iald hg29 hx31 dX7_startOf_26 (gsR3 hg10) (by omega) ?_
        refine GA.goto (tgt := 39) dX7_startOf_27 (by decide) ?_
        cases H
        exact GA.iret rfl dX7_startOf_39 (by omega) (by omega) ⟨rfl, rfl⟩
theorem g_X7_startOf {l : Launch} {Z : XZ} {L : Nat → Nat} : ∀ n, P_X7_startOf_0 l Z L n
  | 0 => fun _ _ _ _ _ _ H => no_e H
  | n + 1 => t_X7_startOf_0 n (g_X7_startOf n)
theorem m_X7_startOf {l : Launch} {Z : XZ} {L : Nat → Nat} {n d : Nat} {S : GS} {a0 : Nat} {a1 : Int} {x : Int} {S1 : GS} (H : f_X7_startOf n d 0 S [((a0 : Nat) : Int), a1] = some (x, S1)) : GM l Z L yX7_startOf cX7_startOf 2 (some .int) [] d 0 0 [.ref (L a0), .int (J a1)] S (fun v S' => v = some (.int (J x)) ∧ S1 = S') (fun _ _ => False) := GM.of (by decide) (Nat.le_of_ble_eq_true rfl) ((g_X7_startOf n) _ _ _ _ _ _ H)

def P_X7_wordTo_0 (l : Launch) (Z : XZ) (L : Nat → Nat) (n : Nat) : Prop := ∀ (d : Nat) (S : GS) (a0 : Nat) (a1 : Int) (a2 : Nat) (x : Int) (S1 : GS), f_X7_wordTo n d 0 S [((a0 : Nat) : Int), a1, ((a2 : Nat) : Int)] = some (x, S1) → GA l Z L yX7_wordTo cX7_wordTo 5 none [] d 0 0 (fun v S' => v = none ∧ S1 = S') (fun _ _ => False) 0 (gl [(0, .ref (L a0)), (1, .int (J a1)), (2, .ref (L a2))]) [] S 0 0
def P_X7_wordTo_21 (l : Launch) (Z : XZ) (L : Nat → Nat) (n : Nat) : Prop := ∀ (d : Nat) (S : GS) (a0 : Nat) (a2 : Nat) (a3 : Int) (a4 : Int) (x : Int) (S1 : GS), f_X7_wordTo n d 21 S [((a0 : Nat) : Int), ((a2 : Nat) : Int), a3, a4] = some (x, S1) → GA l Z L yX7_wordTo cX7_wordTo 5 none [] d 0 0 (fun v S' => v = none ∧ S1 = S') (fun _ _ => False) 21 (gl [(0, .ref (L a0)), (2, .ref (L a2)), (3, .int (J a3)), (4, .int (J a4))]) [] S 0 0
theorem i_X7_wordTo {l : Launch} {Z : XZ} {L : Nat → Nat} {n : Nat} (ih : P_X7_wordTo_0 l Z L n) {d : Nat} {S : GS} {a0 : Nat} {a1 : Int} {a2 : Nat} {x : Int} {S1 : GS} (H : f_X7_wordTo n d 0 S [((a0 : Nat) : Int), a1, ((a2 : Nat) : Int)] = some (x, S1)) : GM l Z L yX7_wordTo cX7_wordTo 5 none [] d 0 0 [.ref (L a0), .int (J a1), .ref (L a2)] S (fun v S' => v = none ∧ S1 = S') (fun _ _ => False) := GM.of (by decide) (Nat.le_of_ble_eq_true rfl) (ih _ _ _ _ _ _ _ H)
set_option maxHeartbeats 4000000 in
set_option maxRecDepth 20000 in
theorem t_X7_wordTo_0 {l : Launch} {Z : XZ} {L : Nat → Nat} (n : Nat) (ih_X7_wordTo_0 : P_X7_wordTo_0 l Z L n) (ih_X7_wordTo_21 : P_X7_wordTo_21 l Z L n) : P_X7_wordTo_0 l Z L (n + 1) := by
  intro d S a0 a1 a2 x S1 H
  have H : b_X7_wordTo_0 n d (f_X7_wordTo n) S a0 a1 a2 = some (x, S1) := H
  unfold b_X7_wordTo_0 at H
  refine GA.aload_n dX7_wordTo_0 rfl ?_
  obtain ⟨hg1, H⟩ := gg_e H
  obtain ⟨hg2, H⟩ := gg_e H
  obtain ⟨x3, S_4, hc5, H⟩ := gc_e H
  refine GA.callV (m_X9_clear hc5) xs_X7_31 dX7_wordTo_1 (gsS hg2) (by omega) rfl rfl (by omega) (by decide) rfl (Nat.le_of_ble_eq_true rfl) (by omega) (by omega) rfl (fun E S9 hx => hx.elim) (fun v S9 hq => ?_)
  obtain ⟨rfl, rfl⟩ := hq
  refine GA.aload_n dX7_wordTo_4 rfl ?_
  refine GA.iload_n dX7_wordTo_5 rfl ?_
  refine GA.iconst dX7_wordTo_6 ?_
  obtain ⟨x6, hx7, H⟩ := gv_e H
  refine GV.iadd hx7 dX7_wordTo_7 ?_
  obtain ⟨hg8, H⟩ := gg_e H
  obtain ⟨x9, S_10, hc11, H⟩ := gc_e H
  refine GA.callV (m_X7_startOf hc11) xs_X7_60 dX7_wordTo_8 (gsR hg8) (by omega) rfl rfl (by omega) (by decide) rfl (Nat.le_of_ble_eq_true rfl) (by omega) (by omega) rfl (fun E S9 hx => hx.elim) (fun v S9 hq => ?_)
  obtain ⟨rfl, rfl⟩ := hq
  refine GA.iconst dX7_wordTo_11 ?_
  obtain ⟨x12, hx13, H⟩ := gv_e H
  refine GV.isub hx13 dX7_wordTo_12 ?_
  refine GA.istore_n dX7_wordTo_13 (by decide) ?_
  refine GA.aload_n dX7_wordTo_14 rfl ?_
  refine GA.iload_n dX7_wordTo_15 rfl ?_
  obtain ⟨x14, S_15, hc16, H⟩ := gc_e H
  refine GA.callV (m_X7_startOf hc16) xs_X7_60 dX7_wordTo_16 (gsR hg8) (by omega) rfl rfl (by omega) (by decide) rfl (Nat.le_of_ble_eq_true rfl) (by omega) (by omega) rfl (fun E S9 hx => hx.elim) (fun v S9 hq => ?_)
  obtain ⟨rfl, rfl⟩ := hq
  refine GA.istore dX7_wordTo_19 (by decide) ?_
  refine GA.locals [(0, .ref (L a0)), (2, .ref (L a2)), (3, .int (J x12)), (4, .int (J x14))] ⟨rfl, rfl, rfl, rfl, trivial⟩ ?_
  exact ih_X7_wordTo_21 _ _ (a0) (a2) (x12) (x14) _ _ H
set_option maxHeartbeats 4000000 in
set_option maxRecDepth 20000 in
theorem t_X7_wordTo_21 {l : Launch} {Z : XZ} {L : Nat → Nat} (n : Nat) (ih_X7_wordTo_0 : P_X7_wordTo_0 l Z L n) (ih_X7_wordTo_21 : P_X7_wordTo_21 l Z L n) : P_X7_wordTo_21 l Z L (n + 1) := by
  intro d S a0 a2 a3 a4 x S1 H
  have H : b_X7_wordTo_21 n d (f_X7_wordTo n) S a0 a2 a3 a4 = some (x, S1) := H
  unfold b_X7_wordTo_21 at H
  refine GA.iload dX7_wordTo_21 rfl ?_
  refine GA.iload_n dX7_wordTo_23 rfl ?_
  obtain ⟨hg1, H⟩ := gg_e H
  obtain ⟨hg2, H⟩ := gg_e H
  refine GV.icmp_ge (tgt := 91) hg1 hg2 dX7_wordTo_24 (by decide) (fun c3 => ?_) (fun c3 => ?_)
  · have H := it_t H c3
    cases H
    exact GA.vret rfl dX7_wordTo_91 (by omega) (by omega) ⟨rfl, rfl⟩
  · have H := it_f H c3
    refine GA.aload_n dX7_wordTo_27 rfl ?_
    obtain ⟨hg4, H⟩ := gg_e H
    refine GA.get xf_X7_14 dX7_wordTo_28 (gsR hg4) (by omega) rfl ?_
    refine GA.iload dX7_wordTo_31 rfl ?_
    obtain ⟨hg5, H⟩ := gg_e H
    obtain ⟨x6, S_7, hc8, H⟩ := gc_e H
    refine GA.callV (m_X9_at hc8) xs_X7_56 dX7_wordTo_33 (gsS (rS_s hg4)) (Nat.lt_trans (rS_s hg4).2.2 (by decide)) rfl rfl (by omega) (by decide) rfl (Nat.le_of_ble_eq_true rfl) (by omega) (by omega) rfl (fun E S9 hx => hx.elim) (fun v S9 hq => ?_)
    obtain ⟨rfl, rfl⟩ := hq
    refine GA.bipush dX7_wordTo_36 rfl ?_
    obtain ⟨hg9, H⟩ := gg_e H
    refine GV.icmp_ne (tgt := 72) hg9 (by decide) dX7_wordTo_38 (by decide) (fun c10 => ?_) (fun c10 => ?_)
    · have H := it_t H c10
      refine GA.aload_n dX7_wordTo_72 rfl ?_
      refine GA.aload_n dX7_wordTo_73 rfl ?_
      refine GA.get xf_X7_14 dX7_wordTo_74 (gsR hg4) (by omega) rfl ?_
      refine GA.iload dX7_wordTo_77 rfl ?_
      obtain ⟨x11, S_12, hc13, H⟩ := gc_e H
      refine GA.callV (m_X9_at hc13) xs_X7_56 dX7_wordTo_79 (gsS (rS_s hg4)) (Nat.lt_trans (rS_s hg4).2.2 (by decide)) rfl rfl (by omega) (by decide) rfl (Nat.le_of_ble_eq_true rfl) (by omega) (by omega) rfl (fun E S9 hx => hx.elim) (fun v S9 hq => ?_)
      obtain ⟨rfl, rfl⟩ := hq
      obtain ⟨hg14, H⟩ := gg_e H
      obtain ⟨x15, S_16, hc17, H⟩ := gc_e H
      refine GA.callV (m_X9_add hc17) xs_X7_63 dX7_wordTo_82 (gsS hg14) (by omega) rfl rfl (by omega) (by decide) rfl (Nat.le_of_ble_eq_true rfl) (by omega) (by omega) rfl (fun E S9 hx => hx.elim) (fun v S9 hq => ?_)
      obtain ⟨rfl, rfl⟩ := hq
      obtain ⟨x18, hx19, H⟩ := gv_e H
      refine GV.iinc hx19 dX7_wordTo_85 rfl (by decide) ?_
      refine GA.goto (tgt := 21) dX7_wordTo_88 (by decide) ?_
      refine GA.locals [(0, .ref (L a0)), (2, .ref (L a2)), (3, .int (J a3)), (4, .int (J x18))] ⟨rfl, rfl, rfl, rfl, trivial⟩ ?_
      exact ih_X7_wordTo_21 _ _ (a0) (a2) (a3) (x18) _ _ H
    · have H := it_f H c10
      obtain ⟨x20, hx21, H⟩ := gv_e H
      refine GV.iinc hx21 dX7_wordTo_41 rfl (by decide) ?_
      refine GA.aload_n dX7_wordTo_44 rfl ?_
      refine GA.aload_n dX7_wordTo_45 rfl ?_
      refine GA.get xf_X7_14 dX7_wordTo_46 (gsR hg4) (by omega) rfl ?_
      refine GA.iload dX7_wordTo_49 rfl ?_
      obtain ⟨x22, S_23, hc24, H⟩ := gc_e H
      refine GA.callV (m_X9_at hc24) xs_X7_56 dX7_wordTo_51 (gsS (rS_s hg4)) (Nat.lt_trans (rS_s hg4).2.2 (by decide)) rfl rfl (by omega) (by decide) rfl (Nat.le_of_ble_eq_true rfl) (by omega) (by omega) rfl (fun E S9 hx => hx.elim) (fun v S9 hq => ?_)
      obtain ⟨rfl, rfl⟩ := hq
      refine GA.bipush dX7_wordTo_54 rfl ?_
      obtain ⟨hg25, H⟩ := gg_e H
      refine GV.icmp_ne (tgt := 64) hg25 (by decide) dX7_wordTo_56 (by decide) (fun c26 => ?_) (fun c26 => ?_)
      · have H := it_t H c26
        refine GA.bipush dX7_wordTo_64 rfl ?_
        obtain ⟨hg27, H⟩ := gg_e H
        obtain ⟨x28, S_29, hc30, H⟩ := gc_e H
        refine GA.callV (m_X9_add hc30) xs_X7_63 dX7_wordTo_66 (gsS hg27) (by omega) rfl rfl (by omega) (by decide) rfl (Nat.le_of_ble_eq_true rfl) (by omega) (by omega) rfl (fun E S9 hx => hx.elim) (fun v S9 hq => ?_)
        obtain ⟨rfl, rfl⟩ := hq
        refine GA.goto (tgt := 85) dX7_wordTo_69 (by decide) ?_
        obtain ⟨x31, hx32, H⟩ := gv_e H
        refine GV.iinc hx32 dX7_wordTo_85 rfl (by decide) ?_
        refine GA.goto (tgt := 21) dX7_wordTo_88 (by decide) ?_
        refine GA.locals [(0, .ref (L a0)), (2, .ref (L a2)), (3, .int (J a3)), (4, .int (J x31))] ⟨rfl, rfl, rfl, rfl, trivial⟩ ?_
        exact ih_X7_wordTo_21 _ _ (a0) (a2) (a3) (x31) _ _ H
      · have H := it_f H c26
        refine GA.bipush dX7_wordTo_59 rfl ?_
        refine GA.goto (tgt := 66) dX7_wordTo_61 (by decide) ?_
        obtain ⟨hg33, H⟩ := gg_e H
        obtain ⟨x34, S_35, hc36, H⟩ := gc_e H
        refine GA.callV (m_X9_add hc36) xs_X7_63 dX7_wordTo_66 (gsS hg33) (by omega) rfl rfl (by omega) (by decide) rfl (Nat.le_of_ble_eq_true rfl) (by omega) (by omega) rfl (fun E S9 hx => hx.elim) (fun v S9 hq => ?_)
        obtain ⟨rfl, rfl⟩ := hq
        refine GA.goto (tgt := 85) dX7_wordTo_69 (by decide) ?_
        obtain ⟨x37, hx38, H⟩ := gv_e H
        refine GV.iinc hx38 dX7_wordTo_85 rfl (by decide) ?_
        refine GA.goto (tgt := 21) dX7_wordTo_88 (by decide) ?_
        refine GA.locals [(0, .ref (L a0)), (2, .ref (L a2)), (3, .int (J a3)), (4, .int (J x37))] ⟨rfl, rfl, rfl, rfl, trivial⟩ ?_
        exact ih_X7_wordTo_21 _ _ (a0) (a2) (a3) (x37) _ _ H
theorem g_X7_wordTo {l : Launch} {Z : XZ} {L : Nat → Nat} : ∀ n, P_X7_wordTo_0 l Z L n ∧ P_X7_wordTo_21 l Z L n
  | 0 => ⟨fun _ _ _ _ _ _ _ H => no_e H, fun _ _ _ _ _ _ _ _ H => no_e H⟩
  | n + 1 => have ⟨h0, h1⟩ := g_X7_wordTo (l := l) (Z := Z) (L := L) n
    ⟨t_X7_wordTo_0 n h0 h1, t_X7_wordTo_21 n h0 h1⟩
theorem m_X7_wordTo {l : Launch} {Z : XZ} {L : Nat → Nat} {n d : Nat} {S : GS} {a0 : Nat} {a1 : Int} {a2 : Nat} {x : Int} {S1 : GS} (H : f_X7_wordTo n d 0 S [((a0 : Nat) : Int), a1, ((a2 : Nat) : Int)] = some (x, S1)) : GM l Z L yX7_wordTo cX7_wordTo 5 none [] d 0 0 [.ref (L a0), .int (J a1), .ref (L a2)] S (fun v S' => v = none ∧ S1 = S') (fun _ _ => False) := GM.of (by decide) (Nat.le_of_ble_eq_true rfl) ((g_X7_wordTo n).1 _ _ _ _ _ _ _ H)

def P_X7_placeIn_0 (l : Launch) (Z : XZ) (L : Nat → Nat) (n : Nat) : Prop := ∀ (d : Nat) (S : GS) (a0 : Nat) (a1 : Int) (x : Int) (S1 : GS), f_X7_placeIn n d 0 S [((a0 : Nat) : Int), a1] = some (x, S1) → GA l Z L yX7_placeIn cX7_placeIn 6 (some .int) [] d 0 0 (fun v S' => v = some (.int (J x)) ∧ S1 = S') (fun _ _ => False) 0 (gl [(0, .ref (L a0)), (1, .int (J a1))]) [] S 0 0
def P_X7_placeIn_39 (l : Launch) (Z : XZ) (L : Nat → Nat) (n : Nat) : Prop := ∀ (d : Nat) (S : GS) (a0 : Nat) (a3 : Int) (a4 : Int) (x : Int) (S1 : GS), f_X7_placeIn n d 39 S [((a0 : Nat) : Int), a3, a4] = some (x, S1) → GA l Z L yX7_placeIn cX7_placeIn 6 (some .int) [] d 0 0 (fun v S' => v = some (.int (J x)) ∧ S1 = S') (fun _ _ => False) 39 (gl [(0, .ref (L a0)), (3, .int (J a3)), (4, .int (J a4))]) [] S 0 0
theorem i_X7_placeIn {l : Launch} {Z : XZ} {L : Nat → Nat} {n : Nat} (ih : P_X7_placeIn_0 l Z L n) {d : Nat} {S : GS} {a0 : Nat} {a1 : Int} {x : Int} {S1 : GS} (H : f_X7_placeIn n d 0 S [((a0 : Nat) : Int), a1] = some (x, S1)) : GM l Z L yX7_placeIn cX7_placeIn 6 (some .int) [] d 0 0 [.ref (L a0), .int (J a1)] S (fun v S' => v = some (.int (J x)) ∧ S1 = S') (fun _ _ => False) := GM.of (by decide) (Nat.le_of_ble_eq_true rfl) (ih _ _ _ _ _ _ H)
set_option maxHeartbeats 4000000 in
set_option maxRecDepth 20000 in
theorem t_X7_placeIn_0 {l : Launch} {Z : XZ} {L : Nat → Nat} (n : Nat) (ih_X7_placeIn_0 : P_X7_placeIn_0 l Z L n) (ih_X7_placeIn_39 : P_X7_placeIn_39 l Z L n) : P_X7_placeIn_0 l Z L (n + 1) := by
  intro d S a0 a1 x S1 H
  have H : b_X7_placeIn_0 n d (f_X7_placeIn n) S a0 a1 = some (x, S1) := H
  unfold b_X7_placeIn_0 at H
  refine GA.aload_n dX7_placeIn_0 rfl ?_
  obtain ⟨hg1, H⟩ := gg_e H
  obtain ⟨hg2, H⟩ := gg_e H
  obtain ⟨x3, S_4, hc5, H⟩ := gc_e H
  refine GA.callV (m_X9_length hc5) xs_X7_34 dX7_placeIn_1 (gsS hg2) (by omega) rfl rfl (by omega) (by decide) rfl (Nat.le_of_ble_eq_true rfl) (by omega) (by omega) rfl (fun E S9 hx => hx.elim) (fun v S9 hq => ?_)
  obtain ⟨rfl, rfl⟩ := hq
  refine GA.iload_n dX7_placeIn_4 rfl ?_
  obtain ⟨x6, hx7, H⟩ := gv_e H
  refine GV.isub hx7 dX7_placeIn_5 ?_
  refine GA.istore_n dX7_placeIn_6 (by decide) ?_
  refine GA.iload_n dX7_placeIn_7 rfl ?_
  refine GA.iconst dX7_placeIn_8 ?_
  obtain ⟨hg8, H⟩ := gg_e H
  refine GV.icmp_lt (tgt := 32) hg8 (by decide) dX7_placeIn_9 (by decide) (fun c9 => ?_) (fun c9 => ?_)
  · have H := it_t H c9
    refine GA.iconst dX7_placeIn_32 ?_
    cases H
    exact GA.iret rfl dX7_placeIn_33 (by omega) (by omega) ⟨rfl, rfl⟩
  · have H := it_f H c9
    refine GA.iload_n dX7_placeIn_12 rfl ?_
    refine GA.iconst dX7_placeIn_13 ?_
    refine GV.icmp_gt (tgt := 32) hg8 (by decide) dX7_placeIn_14 (by decide) (fun c10 => ?_) (fun c10 => ?_)
    · have H := it_t H c10
      refine GA.iconst dX7_placeIn_32 ?_
      cases H
      exact GA.iret rfl dX7_placeIn_33 (by omega) (by omega) ⟨rfl, rfl⟩
    · have H := it_f H c10
      refine GA.iload_n dX7_placeIn_17 rfl ?_
      refine GA.iconst dX7_placeIn_18 ?_
      refine GV.icmp_le (tgt := 34) hg8 (by decide) dX7_placeIn_19 (by decide) (fun c11 => ?_) (fun c11 => ?_)
      · have H := it_t H c11
        refine GA.iconst dX7_placeIn_34 ?_
        refine GA.istore_n dX7_placeIn_35 (by decide) ?_
        refine GA.iload_n dX7_placeIn_36 rfl ?_
        refine GA.istore dX7_placeIn_37 (by decide) ?_
        refine GA.locals [(0, .ref (L a0)), (3, .int (J 0)), (4, .int (J a1))] ⟨rfl, rfl, rfl, trivial⟩ ?_
        exact ih_X7_placeIn_39 _ _ (a0) (0) (a1) _ _ H
      · have H := it_f H c11
        refine GA.aload_n dX7_placeIn_22 rfl ?_
        refine GA.iload_n dX7_placeIn_23 rfl ?_
        obtain ⟨x12, S_13, hc14, H⟩ := gc_e H
        refine GA.callV (m_X9_at hc14) xs_X7_56 dX7_placeIn_24 (gsS hg2) (by omega) rfl rfl (by omega) (by decide) rfl (Nat.le_of_ble_eq_true rfl) (by omega) (by omega) rfl (fun E S9 hx => hx.elim) (fun v S9 hq => ?_)
        obtain ⟨rfl, rfl⟩ := hq
        refine GA.bipush dX7_placeIn_27 rfl ?_
        obtain ⟨hg15, H⟩ := gg_e H
        refine GV.icmp_ne (tgt := 34) hg15 (by decide) dX7_placeIn_29 (by decide) (fun c16 => ?_) (fun c16 => ?_)
        · have H := it_t H c16
          refine GA.iconst dX7_placeIn_34 ?_
          refine GA.istore_n dX7_placeIn_35 (by decide) ?_
          refine GA.iload_n dX7_placeIn_36 rfl ?_
          refine GA.istore dX7_placeIn_37 (by decide) ?_
          refine GA.locals [(0, .ref (L a0)), (3, .int (J 0)), (4, .int (J a1))] ⟨rfl, rfl, rfl, trivial⟩ ?_
          exact ih_X7_placeIn_39 _ _ (a0) (0) (a1) _ _ H
        · have H := it_f H c16
          refine GA.iconst dX7_placeIn_32 ?_
          cases H
          exact GA.iret rfl dX7_placeIn_33 (by omega) (by omega) ⟨rfl, rfl⟩
set_option maxHeartbeats 4000000 in
set_option maxRecDepth 20000 in
theorem t_X7_placeIn_39 {l : Launch} {Z : XZ} {L : Nat → Nat} (n : Nat) (ih_X7_placeIn_0 : P_X7_placeIn_0 l Z L n) (ih_X7_placeIn_39 : P_X7_placeIn_39 l Z L n) : P_X7_placeIn_39 l Z L (n + 1) := by
  intro d S a0 a3 a4 x S1 H
  have H : b_X7_placeIn_39 n d (f_X7_placeIn n) S a0 a3 a4 = some (x, S1) := H
  unfold b_X7_placeIn_39 at H
  refine GA.iload dX7_placeIn_39 rfl ?_
  refine GA.aload_n dX7_placeIn_41 rfl ?_
  obtain ⟨hg1, H⟩ := gg_e H
  obtain ⟨hg2, H⟩ := gg_e H
  obtain ⟨x3, S_4, hc5, H⟩ := gc_e H
  refine GA.callV (m_X9_length hc5) xs_X7_34 dX7_placeIn_42 (gsS hg2) (by omega) rfl rfl (by omega) (by decide) rfl (Nat.le_of_ble_eq_true rfl) (by omega) (by omega) rfl (fun E S9 hx => hx.elim) (fun v S9 hq => ?_)
  obtain ⟨rfl, rfl⟩ := hq
  obtain ⟨hg6, H⟩ := gg_e H
  obtain ⟨hg7, H⟩ := gg_e H
  refine GV.icmp_ge (tgt := 89) hg6 hg7 dX7_placeIn_45 (by decide) (fun c8 => ?_) (fun c8 => ?_)
  · have H := it_t H c8
    refine GA.iload_n dX7_placeIn_89 rfl ?_
    cases H
    exact GA.iret rfl dX7_placeIn_90 (by omega) (by omega) ⟨rfl, rfl⟩
  · have H := it_f H c8
    refine GA.aload_n dX7_placeIn_48 rfl ?_
    refine GA.iload dX7_placeIn_49 rfl ?_
    obtain ⟨x9, S_10, hc11, H⟩ := gc_e H
    refine GA.callV (m_X9_at hc11) xs_X7_56 dX7_placeIn_51 (gsS hg2) (by omega) rfl rfl (by omega) (by decide) rfl (Nat.le_of_ble_eq_true rfl) (by omega) (by omega) rfl (fun E S9 hx => hx.elim) (fun v S9 hq => ?_)
    obtain ⟨rfl, rfl⟩ := hq
    refine GA.istore dX7_placeIn_54 (by decide) ?_
    refine GA.iload dX7_placeIn_56 rfl ?_
    refine GA.bipush dX7_placeIn_58 rfl ?_
    obtain ⟨hg12, H⟩ := gg_e H
    refine GV.icmp_lt (tgt := 70) hg12 (by decide) dX7_placeIn_60 (by decide) (fun c13 => ?_) (fun c13 => ?_)
    · have H := it_t H c13
      refine GA.iconst dX7_placeIn_70 ?_
      cases H
      exact GA.iret rfl dX7_placeIn_71 (by omega) (by omega) ⟨rfl, rfl⟩
    · have H := it_f H c13
      refine GA.iload dX7_placeIn_63 rfl ?_
      refine GA.bipush dX7_placeIn_65 rfl ?_
      refine GV.icmp_le (tgt := 72) hg12 (by decide) dX7_placeIn_67 (by decide) (fun c14 => ?_) (fun c14 => ?_)
      · have H := it_t H c14
        refine GA.iload_n dX7_placeIn_72 rfl ?_
        refine GA.bipush dX7_placeIn_73 rfl ?_
        obtain ⟨x15, hx16, H⟩ := gv_e H
        refine GV.imul hx16 dX7_placeIn_75 ?_
        refine GA.iload dX7_placeIn_76 rfl ?_
        obtain ⟨x17, hx18, H⟩ := gv_e H
        refine GV.iadd hx18 dX7_placeIn_78 ?_
        refine GA.bipush dX7_placeIn_79 rfl ?_
        obtain ⟨x19, hx20, H⟩ := gv_e H
        refine GV.isub hx20 dX7_placeIn_81 ?_
        refine GA.istore_n dX7_placeIn_82 (by decide) ?_
        obtain ⟨x21, hx22, H⟩ := gv_e H
        refine GV.iinc hx22 dX7_placeIn_83 rfl (by decide) ?_
        refine GA.goto (tgt := 39) dX7_placeIn_86 (by decide) ?_
        refine GA.locals [(0, .ref (L a0)), (3, .int (J x19)), (4, .int (J x21))] ⟨rfl, rfl, rfl, trivial⟩ ?_
        exact ih_X7_placeIn_39 _ _ (a0) (x19) (x21) _ _ H
      · have H := it_f H c14
        refine GA.iconst dX7_placeIn_70 ?_
        cases H
        exact GA.iret rfl dX7_placeIn_71 (by omega) (by omega) ⟨rfl, rfl⟩
theorem g_X7_placeIn {l : Launch} {Z : XZ} {L : Nat → Nat} : ∀ n, P_X7_placeIn_0 l Z L n ∧ P_X7_placeIn_39 l Z L n
  | 0 => ⟨fun _ _ _ _ _ _ H => no_e H, fun _ _ _ _ _ _ _ H => no_e H⟩
  | n + 1 => have ⟨h0, h1⟩ := g_X7_placeIn (l := l) (Z := Z) (L := L) n
    ⟨t_X7_placeIn_0 n h0 h1, t_X7_placeIn_39 n h0 h1⟩
theorem m_X7_placeIn {l : Launch} {Z : XZ} {L : Nat → Nat} {n d : Nat} {S : GS} {a0 : Nat} {a1 : Int} {x : Int} {S1 : GS} (H : f_X7_placeIn n d 0 S [((a0 : Nat) : Int), a1] = some (x, S1)) : GM l Z L yX7_placeIn cX7_placeIn 6 (some .int) [] d 0 0 [.ref (L a0), .int (J a1)] S (fun v S' => v = some (.int (J x)) ∧ S1 = S') (fun _ _ => False) := GM.of (by decide) (Nat.le_of_ble_eq_true rfl) ((g_X7_placeIn n).1 _ _ _ _ _ _ H)

def P_X7_leadsTo_0 (l : Launch) (Z : XZ) (L : Nat → Nat) (n : Nat) : Prop := ∀ (d : Nat) (S : GS) (a0 : Nat) (a1 : Nat) (a2 : Int) (x : Int) (S1 : GS), f_X7_leadsTo n d 0 S [((a0 : Nat) : Int), ((a1 : Nat) : Int), a2] = some (x, S1) → GA l Z L yX7_leadsTo cX7_leadsTo 5 (some .int) [] d 0 0 (fun v S' => v = some (.int (J x)) ∧ S1 = S') (fun _ _ => False) 0 (gl [(0, .ref (L a0)), (1, .ref (L a1)), (2, .int (J a2))]) [] S 0 0
def P_X7_leadsTo_5 (l : Launch) (Z : XZ) (L : Nat → Nat) (n : Nat) : Prop := ∀ (d : Nat) (S : GS) (a0 : Nat) (a1 : Nat) (a2 : Int) (a3 : Int) (a4 : Int) (x : Int) (S1 : GS), f_X7_leadsTo n d 5 S [((a0 : Nat) : Int), ((a1 : Nat) : Int), a2, a3, a4] = some (x, S1) → GA l Z L yX7_leadsTo cX7_leadsTo 5 (some .int) [] d 0 0 (fun v S' => v = some (.int (J x)) ∧ S1 = S') (fun _ _ => False) 5 (gl [(0, .ref (L a0)), (1, .ref (L a1)), (2, .int (J a2)), (3, .int (J a3)), (4, .int (J a4))]) [] S 0 0
theorem i_X7_leadsTo {l : Launch} {Z : XZ} {L : Nat → Nat} {n : Nat} (ih : P_X7_leadsTo_0 l Z L n) {d : Nat} {S : GS} {a0 : Nat} {a1 : Nat} {a2 : Int} {x : Int} {S1 : GS} (H : f_X7_leadsTo n d 0 S [((a0 : Nat) : Int), ((a1 : Nat) : Int), a2] = some (x, S1)) : GM l Z L yX7_leadsTo cX7_leadsTo 5 (some .int) [] d 0 0 [.ref (L a0), .ref (L a1), .int (J a2)] S (fun v S' => v = some (.int (J x)) ∧ S1 = S') (fun _ _ => False) := GM.of (by decide) (Nat.le_of_ble_eq_true rfl) (ih _ _ _ _ _ _ _ H)
set_option maxHeartbeats 4000000 in
set_option maxRecDepth 20000 in
theorem t_X7_leadsTo_0 {l : Launch} {Z : XZ} {L : Nat → Nat} (n : Nat) (ih_X7_leadsTo_0 : P_X7_leadsTo_0 l Z L n) (ih_X7_leadsTo_5 : P_X7_leadsTo_5 l Z L n) : P_X7_leadsTo_0 l Z L (n + 1) := by
  intro d S a0 a1 a2 x S1 H
  have H : b_X7_leadsTo_0 n d (f_X7_leadsTo n) S a0 a1 a2 = some (x, S1) := H
  unfold b_X7_leadsTo_0 at H
  refine GA.iconst dX7_leadsTo_0 ?_
  refine GA.istore_n dX7_leadsTo_1 (by decide) ?_
  refine GA.iconst dX7_leadsTo_2 ?_
  refine GA.istore dX7_leadsTo_3 (by decide) ?_
  refine GA.locals [(0, .ref (L a0)), (1, .ref (L a1)), (2, .int (J a2)), (3, .int (J 0)), (4, .int (J 0))] ⟨rfl, rfl, rfl, rfl, rfl, trivial⟩ ?_
  exact ih_X7_leadsTo_5 _ _ (a0) (a1) (a2) (0) (0) _ _ H
set_option maxHeartbeats 4000000 in
set_option maxRecDepth 20000 in
theorem t_X7_leadsTo_5 {l : Launch} {Z : XZ} {L : Nat → Nat} (n : Nat) (ih_X7_leadsTo_0 : P_X7_leadsTo_0 l Z L n) (ih_X7_leadsTo_5 : P_X7_leadsTo_5 l Z L n) : P_X7_leadsTo_5 l Z L (n + 1) := by
  intro d S a0 a1 a2 a3 a4 x S1 H
  have H : b_X7_leadsTo_5 n d (f_X7_leadsTo n) S a0 a1 a2 a3 a4 = some (x, S1) := H
  unfold b_X7_leadsTo_5 at H
  refine GA.iload dX7_leadsTo_5 rfl ?_
  refine GA.iload_n dX7_leadsTo_7 rfl ?_
  obtain ⟨hg1, H⟩ := gg_e H
  obtain ⟨hg2, H⟩ := gg_e H
  refine GV.icmp_ge (tgt := 76) hg1 hg2 dX7_leadsTo_8 (by decide) (fun c3 => ?_) (fun c3 => ?_)
  · have H := it_t H c3
    refine GA.iload_n dX7_leadsTo_76 rfl ?_
    cases H
    exact GA.iret rfl dX7_leadsTo_77 (by omega) (by omega) ⟨rfl, rfl⟩
  · have H := it_f H c3
    refine GA.iload dX7_leadsTo_11 rfl ?_
    refine GA.aload_n dX7_leadsTo_13 rfl ?_
    obtain ⟨hg4, H⟩ := gg_e H
    obtain ⟨x5, hx6, H⟩ := gv_e H
    refine GV.getI hx6 xf_X7_27 dX7_leadsTo_14 (gsR hg4) (by omega) rfl ?_
    obtain ⟨hg7, H⟩ := gg_e H
    refine GV.icmp_ge (tgt := 76) hg1 hg7 dX7_leadsTo_17 (by decide) (fun c8 => ?_) (fun c8 => ?_)
    · have H := it_t H c8
      refine GA.iload_n dX7_leadsTo_76 rfl ?_
      cases H
      exact GA.iret rfl dX7_leadsTo_77 (by omega) (by omega) ⟨rfl, rfl⟩
    · have H := it_f H c8
      refine GA.iload_n dX7_leadsTo_20 rfl ?_
      refine GA.iconst dX7_leadsTo_21 ?_
      obtain ⟨hg9, H⟩ := gg_e H
      refine GV.icmp_eq (tgt := 76) hg9 (by decide) dX7_leadsTo_22 (by decide) (fun c10 => ?_) (fun c10 => ?_)
      · have H := it_t H c10
        refine GA.iload_n dX7_leadsTo_76 rfl ?_
        cases H
        exact GA.iret rfl dX7_leadsTo_77 (by omega) (by omega) ⟨rfl, rfl⟩
      · have H := it_f H c10
        refine GA.aload_n dX7_leadsTo_25 rfl ?_
        refine GA.iload dX7_leadsTo_26 rfl ?_
        refine GA.aload_n dX7_leadsTo_28 rfl ?_
        refine GA.get xf_X7_20 dX7_leadsTo_29 (gsR hg4) (by omega) rfl ?_
        obtain ⟨hg11, H⟩ := gg_e H
        obtain ⟨x12, S_13, hc14, H⟩ := gc_e H
        refine GA.callV (m_X7_wordTo hc14) xs_X7_69 dX7_leadsTo_32 (gsR hg4) (by omega) rfl rfl (by omega) (by decide) rfl (Nat.le_of_ble_eq_true rfl) (by omega) (by omega) rfl (fun E S9 hx => hx.elim) (fun v S9 hq => ?_)
        obtain ⟨rfl, rfl⟩ := hq
        refine GA.aload_n dX7_leadsTo_35 rfl ?_
        refine GA.iload_n dX7_leadsTo_36 rfl ?_
        refine GA.iconst dX7_leadsTo_37 ?_
        obtain ⟨hg15, H⟩ := gg_e H
        obtain ⟨x16, S_17, hc18, H⟩ := gc_e H
        refine GA.callV (m_X10_is hc18) xs_X7_52 dX7_leadsTo_38 (gsT hg15) (by omega) rfl rfl (by omega) (by decide) rfl (Nat.le_of_ble_eq_true rfl) (by omega) (by omega) rfl (fun E S9 hx => hx.elim) (fun v S9 hq => ?_)
        obtain ⟨rfl, rfl⟩ := hq
        obtain ⟨hg19, H⟩ := gg_e H
        refine GV.if_eq (tgt := 60) hg19 dX7_leadsTo_41 (by decide) (fun c20 => ?_) (fun c20 => ?_)
        · have H := it_t H c20
          refine GA.aload_n dX7_leadsTo_60 rfl ?_
          refine GA.iload_n dX7_leadsTo_61 rfl ?_
          refine GA.aload_n dX7_leadsTo_62 rfl ?_
          refine GA.get xf_X7_20 dX7_leadsTo_63 (gsR hg4) (by omega) rfl ?_
          obtain ⟨x21, S_22, hc23, H⟩ := gc_e H
          refine GA.callV (m_X10_valueOf hc23) xs_X7_80 dX7_leadsTo_66 (gsT hg15) (by omega) rfl rfl (by omega) (by decide) rfl (Nat.le_of_ble_eq_true rfl) (by omega) (by omega) rfl (fun E S9 hx => hx.elim) (fun v S9 hq => ?_)
          obtain ⟨rfl, rfl⟩ := hq
          refine GA.istore_n dX7_leadsTo_69 (by decide) ?_
          obtain ⟨x24, hx25, H⟩ := gv_e H
          refine GV.iinc hx25 dX7_leadsTo_70 rfl (by decide) ?_
          refine GA.goto (tgt := 5) dX7_leadsTo_73 (by decide) ?_
          refine GA.locals [(0, .ref (L a0)), (1, .ref (L a1)), (2, .int (J a2)), (3, .int (J x21)), (4, .int (J x24))] ⟨rfl, rfl, rfl, rfl, rfl, trivial⟩ ?_
          exact ih_X7_leadsTo_5 _ _ (a0) (a1) (a2) (x21) (x24) _ _ H
        · have H := it_f H c20
          refine GA.aload_n dX7_leadsTo_44 rfl ?_
          refine GA.iload_n dX7_leadsTo_45 rfl ?_
          refine GA.aload_n dX7_leadsTo_46 rfl ?_
          refine GA.get xf_X7_20 dX7_leadsTo_47 (gsR hg4) (by omega) rfl ?_
          refine GA.iconst dX7_leadsTo_50 ?_
          obtain ⟨x26, S_27, hc28, H⟩ := gc_e H
          refine GA.callS (m_X7_placeIn hc28) xs_X7_72 dX7_leadsTo_51 rfl (by omega) (by decide) rfl (Nat.le_of_ble_eq_true rfl) (by omega) (by omega) rfl (fun E S9 hx => hx.elim) (fun v S9 hq => ?_)
          obtain ⟨rfl, rfl⟩ := hq
          obtain ⟨x29, S_30, hc31, H⟩ := gc_e H
          refine GA.callV (m_X10_valueAt hc31) xs_X7_76 dX7_leadsTo_54 (gsT hg15) (by omega) rfl rfl (by omega) (by decide) rfl (Nat.le_of_ble_eq_true rfl) (by omega) (by omega) rfl (fun E S9 hx => hx.elim) (fun v S9 hq => ?_)
          obtain ⟨rfl, rfl⟩ := hq
          refine GA.goto (tgt := 69) dX7_leadsTo_57 (by decide) ?_
          refine GA.istore_n dX7_leadsTo_69 (by decide) ?_
          obtain ⟨x32, hx33, H⟩ := gv_e H
          refine GV.iinc hx33 dX7_leadsTo_70 rfl (by decide) ?_
          refine GA.goto (tgt := 5) dX7_leadsTo_73 (by decide) ?_
          refine GA.locals [(0, .ref (L a0)), (1, .ref (L a1)), (2, .int (J a2)), (3, .int (J x29)), (4, .int (J x32))] ⟨rfl, rfl, rfl, rfl, rfl, trivial⟩ ?_
          exact ih_X7_leadsTo_5 _ _ (a0) (a1) (a2) (x29) (x32) _ _ H
theorem g_X7_leadsTo {l : Launch} {Z : XZ} {L : Nat → Nat} : ∀ n, P_X7_leadsTo_0 l Z L n ∧ P_X7_leadsTo_5 l Z L n
  | 0 => ⟨fun _ _ _ _ _ _ _ H => no_e H, fun _ _ _ _ _ _ _ _ _ H => no_e H⟩
  | n + 1 => have ⟨h0, h1⟩ := g_X7_leadsTo (l := l) (Z := Z) (L := L) n
    ⟨t_X7_leadsTo_0 n h0 h1, t_X7_leadsTo_5 n h0 h1⟩
theorem m_X7_leadsTo {l : Launch} {Z : XZ} {L : Nat → Nat} {n d : Nat} {S : GS} {a0 : Nat} {a1 : Nat} {a2 : Int} {x : Int} {S1 : GS} (H : f_X7_leadsTo n d 0 S [((a0 : Nat) : Int), ((a1 : Nat) : Int), a2] = some (x, S1)) : GM l Z L yX7_leadsTo cX7_leadsTo 5 (some .int) [] d 0 0 [.ref (L a0), .ref (L a1), .int (J a2)] S (fun v S' => v = some (.int (J x)) ∧ S1 = S') (fun _ _ => False) := GM.of (by decide) (Nat.le_of_ble_eq_true rfl) ((g_X7_leadsTo n).1 _ _ _ _ _ _ _ H)

def P_X7_textTo_0 (l : Launch) (Z : XZ) (L : Nat → Nat) (n : Nat) : Prop := ∀ (d : Nat) (S : GS) (a0 : Nat) (a1 : Nat) (x : Int) (S1 : GS), f_X7_textTo n d 0 S [((a0 : Nat) : Int), ((a1 : Nat) : Int)] = some (x, S1) → GA l Z L yX7_textTo cX7_textTo 2 none [] d 0 0 (fun v S' => v = none ∧ S1 = S') (fun _ _ => False) 0 (gl [(0, .ref (L a0)), (1, .ref (L a1))]) [] S 0 0
theorem i_X7_textTo {l : Launch} {Z : XZ} {L : Nat → Nat} {n : Nat} (ih : P_X7_textTo_0 l Z L n) {d : Nat} {S : GS} {a0 : Nat} {a1 : Nat} {x : Int} {S1 : GS} (H : f_X7_textTo n d 0 S [((a0 : Nat) : Int), ((a1 : Nat) : Int)] = some (x, S1)) : GM l Z L yX7_textTo cX7_textTo 2 none [] d 0 0 [.ref (L a0), .ref (L a1)] S (fun v S' => v = none ∧ S1 = S') (fun _ _ => False) := GM.of (by decide) (Nat.le_of_ble_eq_true rfl) (ih _ _ _ _ _ _ H)
set_option maxHeartbeats 4000000 in
set_option maxRecDepth 20000 in
theorem t_X7_textTo_0 {l : Launch} {Z : XZ} {L : Nat → Nat} (n : Nat) (ih_X7_textTo_0 : P_X7_textTo_0 l Z L n) : P_X7_textTo_0 l Z L (n + 1) := by
  intro d S a0 a1 x S1 H
  have H : b_X7_textTo_0 n d (f_X7_textTo n) S a0 a1 = some (x, S1) := H
  unfold b_X7_textTo_0 at H
  refine GA.aload_n dX7_textTo_0 rfl ?_
  obtain ⟨hg1, H⟩ := gg_e H
  obtain ⟨hg2, H⟩ := gg_e H
  obtain ⟨x3, S_4, hc5, H⟩ := gc_e H
  refine GA.callV (m_X9_clear hc5) xs_X7_31 dX7_textTo_1 (gsS hg2) (by omega) rfl rfl (by omega) (by decide) rfl (Nat.le_of_ble_eq_true rfl) (by omega) (by omega) rfl (fun E S9 hx => hx.elim) (fun v S9 hq => ?_)
  obtain ⟨rfl, rfl⟩ := hq
  refine GA.aload_n dX7_textTo_4 rfl ?_
  refine GA.aload_n dX7_textTo_5 rfl ?_
  obtain ⟨hg6, H⟩ := gg_e H
  refine GA.get xf_X7_14 dX7_textTo_6 (gsR hg6) (by omega) rfl ?_
  refine GA.iconst dX7_textTo_9 ?_
  refine GA.aload_n dX7_textTo_10 rfl ?_
  refine GA.get xf_X7_14 dX7_textTo_11 (gsR hg6) (by omega) rfl ?_
  obtain ⟨x7, S_8, hc9, H⟩ := gc_e H
  refine GA.callV (m_X9_length hc9) xs_X7_34 dX7_textTo_14 (gsS (rS_s hg6)) (Nat.lt_trans (rS_s hg6).2.2 (by decide)) rfl rfl (by omega) (by decide) rfl (Nat.le_of_ble_eq_true rfl) (by omega) (by omega) rfl (fun E S9 hx => hx.elim) (fun v S9 hq => ?_)
  obtain ⟨rfl, rfl⟩ := hq
  obtain ⟨x10, S_11, hc12, H⟩ := gc_e H
  refine GA.callV (m_X9_addPart hc12) xs_X7_38 dX7_textTo_17 (gsS hg2) (by omega) rfl rfl (by omega) (by decide) rfl (Nat.le_of_ble_eq_true rfl) (by omega) (by omega) rfl (fun E S9 hx => hx.elim) (fun v S9 hq => ?_)
  obtain ⟨rfl, rfl⟩ := hq
  cases H
  exact GA.vret rfl dX7_textTo_20 (by omega) (by omega) ⟨rfl, rfl⟩
theorem g_X7_textTo {l : Launch} {Z : XZ} {L : Nat → Nat} : ∀ n, P_X7_textTo_0 l Z L n
  | 0 => fun _ _ _ _ _ _ H => no_e H
  | n + 1 => t_X7_textTo_0 n (g_X7_textTo n)
theorem m_X7_textTo {l : Launch} {Z : XZ} {L : Nat → Nat} {n d : Nat} {S : GS} {a0 : Nat} {a1 : Nat} {x : Int} {S1 : GS} (H : f_X7_textTo n d 0 S [((a0 : Nat) : Int), ((a1 : Nat) : Int)] = some (x, S1)) : GM l Z L yX7_textTo cX7_textTo 2 none [] d 0 0 [.ref (L a0), .ref (L a1)] S (fun v S' => v = none ∧ S1 = S') (fun _ _ => False) := GM.of (by decide) (Nat.le_of_ble_eq_true rfl) ((g_X7_textTo n) _ _ _ _ _ _ H)

def P_X7_textWithPlace_0 (l : Launch) (Z : XZ) (L : Nat → Nat) (n : Nat) : Prop := ∀ (d : Nat) (S : GS) (a0 : Nat) (a1 : Int) (a2 : Nat) (x : Int) (S1 : GS), f_X7_textWithPlace n d 0 S [((a0 : Nat) : Int), a1, ((a2 : Nat) : Int)] = some (x, S1) → GA l Z L yX7_textWithPlace cX7_textWithPlace 3 none [] d 0 0 (fun v S' => v = none ∧ S1 = S') (fun _ _ => False) 0 (gl [(0, .ref (L a0)), (1, .int (J a1)), (2, .ref (L a2))]) [] S 0 0
theorem i_X7_textWithPlace {l : Launch} {Z : XZ} {L : Nat → Nat} {n : Nat} (ih : P_X7_textWithPlace_0 l Z L n) {d : Nat} {S : GS} {a0 : Nat} {a1 : Int} {a2 : Nat} {x : Int} {S1 : GS} (H : f_X7_textWithPlace n d 0 S [((a0 : Nat) : Int), a1, ((a2 : Nat) : Int)] = some (x, S1)) : GM l Z L yX7_textWithPlace cX7_textWithPlace 3 none [] d 0 0 [.ref (L a0), .int (J a1), .ref (L a2)] S (fun v S' => v = none ∧ S1 = S') (fun _ _ => False) := GM.of (by decide) (Nat.le_of_ble_eq_true rfl) (ih _ _ _ _ _ _ _ H)
set_option maxHeartbeats 4000000 in
set_option maxRecDepth 20000 in
theorem t_X7_textWithPlace_0 {l : Launch} {Z : XZ} {L : Nat → Nat} (n : Nat) (ih_X7_textWithPlace_0 : P_X7_textWithPlace_0 l Z L n) : P_X7_textWithPlace_0 l Z L (n + 1) := by
  intro d S a0 a1 a2 x S1 H
  have H : b_X7_textWithPlace_0 n d (f_X7_textWithPlace n) S a0 a1 a2 = some (x, S1) := H
  unfold b_X7_textWithPlace_0 at H
  refine GA.aload_n dX7_textWithPlace_0 rfl ?_
  obtain ⟨hg1, H⟩ := gg_e H
  obtain ⟨hg2, H⟩ := gg_e H
  obtain ⟨x3, S_4, hc5, H⟩ := gc_e H
  refine GA.callV (m_X9_clear hc5) xs_X7_31 dX7_textWithPlace_1 (gsS hg2) (by omega) rfl rfl (by omega) (by decide) rfl (Nat.le_of_ble_eq_true rfl) (by omega) (by omega) rfl (fun E S9 hx => hx.elim) (fun v S9 hq => ?_)
  obtain ⟨rfl, rfl⟩ := hq
  refine GA.aload_n dX7_textWithPlace_4 rfl ?_
  refine GA.aload_n dX7_textWithPlace_5 rfl ?_
  obtain ⟨hg6, H⟩ := gg_e H
  refine GA.get xf_X7_14 dX7_textWithPlace_6 (gsR hg6) (by omega) rfl ?_
  refine GA.iconst dX7_textWithPlace_9 ?_
  refine GA.aload_n dX7_textWithPlace_10 rfl ?_
  refine GA.aload_n dX7_textWithPlace_11 rfl ?_
  obtain ⟨x7, hx8, H⟩ := gv_e H
  refine GV.getI hx8 xf_X7_27 dX7_textWithPlace_12 (gsR hg6) (by omega) rfl ?_
  refine GA.iconst dX7_textWithPlace_15 ?_
  obtain ⟨x9, hx10, H⟩ := gv_e H
  refine GV.isub hx10 dX7_textWithPlace_16 ?_
  obtain ⟨x11, S_12, hc13, H⟩ := gc_e H
  refine GA.callV (m_X7_startOf hc13) xs_X7_60 dX7_textWithPlace_17 (gsR hg6) (by omega) rfl rfl (by omega) (by decide) rfl (Nat.le_of_ble_eq_true rfl) (by omega) (by omega) rfl (fun E S9 hx => hx.elim) (fun v S9 hq => ?_)
  obtain ⟨rfl, rfl⟩ := hq
  obtain ⟨x14, S_15, hc16, H⟩ := gc_e H
  refine GA.callV (m_X9_addPart hc16) xs_X7_38 dX7_textWithPlace_20 (gsS hg2) (by omega) rfl rfl (by omega) (by decide) rfl (Nat.le_of_ble_eq_true rfl) (by omega) (by omega) rfl (fun E S9 hx => hx.elim) (fun v S9 hq => ?_)
  obtain ⟨rfl, rfl⟩ := hq
  refine GA.aload_n dX7_textWithPlace_23 rfl ?_
  refine GA.iload_n dX7_textWithPlace_24 rfl ?_
  obtain ⟨x17, S_18, hc19, H⟩ := gc_e H
  refine GA.callV (m_X9_addNumber hc19) xs_X7_66 dX7_textWithPlace_25 (gsS hg2) (by omega) rfl rfl (by omega) (by decide) rfl (Nat.le_of_ble_eq_true rfl) (by omega) (by omega) rfl (fun E S9 hx => hx.elim) (fun v S9 hq => ?_)
  obtain ⟨rfl, rfl⟩ := hq
  cases H
  exact GA.vret rfl dX7_textWithPlace_28 (by omega) (by omega) ⟨rfl, rfl⟩
theorem g_X7_textWithPlace {l : Launch} {Z : XZ} {L : Nat → Nat} : ∀ n, P_X7_textWithPlace_0 l Z L n
  | 0 => fun _ _ _ _ _ _ _ H => no_e H
  | n + 1 => t_X7_textWithPlace_0 n (g_X7_textWithPlace n)
theorem m_X7_textWithPlace {l : Launch} {Z : XZ} {L : Nat → Nat} {n d : Nat} {S : GS} {a0 : Nat} {a1 : Int} {a2 : Nat} {x : Int} {S1 : GS} (H : f_X7_textWithPlace n d 0 S [((a0 : Nat) : Int), a1, ((a2 : Nat) : Int)] = some (x, S1)) : GM l Z L yX7_textWithPlace cX7_textWithPlace 3 none [] d 0 0 [.ref (L a0), .int (J a1), .ref (L a2)] S (fun v S' => v = none ∧ S1 = S') (fun _ _ => False) := GM.of (by decide) (Nat.le_of_ble_eq_true rfl) ((g_X7_textWithPlace n) _ _ _ _ _ _ _ H)

def P_X7_load_0 (l : Launch) (Z : XZ) (L : Nat → Nat) (n : Nat) : Prop := ∀ (d : Nat) (S : GS) (a0 : Nat) (a1 : Nat) (x : Int) (S1 : GS), f_X7_load n d 0 S [((a0 : Nat) : Int), ((a1 : Nat) : Int)] = some (x, S1) → GA l Z L yX7_load cX7_load 2 (some .boolean) [] d 0 0 (fun v S' => v = some (.int (J x)) ∧ S1 = S') (fun _ _ => False) 0 (gl [(0, .ref (L a0)), (1, .ref (L a1))]) [] S 0 0
theorem i_X7_load {l : Launch} {Z : XZ} {L : Nat → Nat} {n : Nat} (ih : P_X7_load_0 l Z L n) {d : Nat} {S : GS} {a0 : Nat} {a1 : Nat} {x : Int} {S1 : GS} (H : f_X7_load n d 0 S [((a0 : Nat) : Int), ((a1 : Nat) : Int)] = some (x, S1)) : GM l Z L yX7_load cX7_load 2 (some .boolean) [] d 0 0 [.ref (L a0), .ref (L a1)] S (fun v S' => v = some (.int (J x)) ∧ S1 = S') (fun _ _ => False) := GM.of (by decide) (Nat.le_of_ble_eq_true rfl) (ih _ _ _ _ _ _ H)
set_option maxHeartbeats 4000000 in
set_option maxRecDepth 20000 in
theorem t_X7_load_0 {l : Launch} {Z : XZ} {L : Nat → Nat} (n : Nat) (ih_X7_load_0 : P_X7_load_0 l Z L n) : P_X7_load_0 l Z L (n + 1) := by
  intro d S a0 a1 x S1 H
  have H : b_X7_load_0 n d (f_X7_load n) S a0 a1 = some (x, S1) := H
  unfold b_X7_load_0 at H
  refine GA.aload_n dX7_load_0 rfl ?_
  obtain ⟨hg1, H⟩ := gg_e H
  refine GA.get xf_X7_14 dX7_load_1 (gsR hg1) (by omega) rfl ?_
  obtain ⟨hg2, H⟩ := gg_e H
  obtain ⟨x3, S_4, hc5, H⟩ := gc_e H
  refine GA.callV (m_X9_clear hc5) xs_X7_31 dX7_load_4 (gsS (rS_s hg1)) (Nat.lt_trans (rS_s hg1).2.2 (by decide)) rfl rfl (by omega) (by decide) rfl (Nat.le_of_ble_eq_true rfl) (by omega) (by omega) rfl (fun E S9 hx => hx.elim) (fun v S9 hq => ?_)
  obtain ⟨rfl, rfl⟩ := hq
  refine GA.aload_n dX7_load_7 rfl ?_
  refine GA.get xf_X7_14 dX7_load_8 (gsR hg1) (by omega) rfl ?_
  refine GA.aload_n dX7_load_11 rfl ?_
  refine GA.iconst dX7_load_12 ?_
  refine GA.aload_n dX7_load_13 rfl ?_
  obtain ⟨hg6, H⟩ := gg_e H
  obtain ⟨x7, S_8, hc9, H⟩ := gc_e H
  refine GA.callV (m_X9_length hc9) xs_X7_34 dX7_load_14 (gsS hg6) (by omega) rfl rfl (by omega) (by decide) rfl (Nat.le_of_ble_eq_true rfl) (by omega) (by omega) rfl (fun E S9 hx => hx.elim) (fun v S9 hq => ?_)
  obtain ⟨rfl, rfl⟩ := hq
  obtain ⟨x10, S_11, hc12, H⟩ := gc_e H
  refine GA.callV (m_X9_addPart hc12) xs_X7_38 dX7_load_17 (gsS (rS_s hg1)) (Nat.lt_trans (rS_s hg1).2.2 (by decide)) rfl rfl (by omega) (by decide) rfl (Nat.le_of_ble_eq_true rfl) (by omega) (by omega) rfl (fun E S9 hx => hx.elim) (fun v S9 hq => ?_)
  obtain ⟨rfl, rfl⟩ := hq
  refine GA.aload_n dX7_load_20 rfl ?_
  obtain ⟨x13, S_14, hc15, H⟩ := gc_e H
  refine GA.callV (m_X7_divide hc15) xs_X7_42 dX7_load_21 (gsR hg1) (by omega) rfl rfl (by omega) (by decide) rfl (Nat.le_of_ble_eq_true rfl) (by omega) (by omega) rfl (fun E S9 hx => hx.elim) (fun v S9 hq => ?_)
  obtain ⟨rfl, rfl⟩ := hq
  obtain ⟨hg16, H⟩ := gg_e H
  cases H
  exact GV.zret hg16 rfl dX7_load_24 (by omega) (by omega) ⟨rfl, rfl⟩
theorem g_X7_load {l : Launch} {Z : XZ} {L : Nat → Nat} : ∀ n, P_X7_load_0 l Z L n
  | 0 => fun _ _ _ _ _ _ H => no_e H
  | n + 1 => t_X7_load_0 n (g_X7_load n)
theorem m_X7_load {l : Launch} {Z : XZ} {L : Nat → Nat} {n d : Nat} {S : GS} {a0 : Nat} {a1 : Nat} {x : Int} {S1 : GS} (H : f_X7_load n d 0 S [((a0 : Nat) : Int), ((a1 : Nat) : Int)] = some (x, S1)) : GM l Z L yX7_load cX7_load 2 (some .boolean) [] d 0 0 [.ref (L a0), .ref (L a1)] S (fun v S' => v = some (.int (J x)) ∧ S1 = S') (fun _ _ => False) := GM.of (by decide) (Nat.le_of_ble_eq_true rfl) ((g_X7_load n) _ _ _ _ _ _ H)

def P_X8_standardTo_0 (l : Launch) (Z : XZ) (L : Nat → Nat) (n : Nat) : Prop := ∀ (d : Nat) (S : GS) (a0 : Nat) (x : Int) (S1 : GS), f_X8_standardTo n d 0 S [((a0 : Nat) : Int)] = some (x, S1) → GA l Z L yX8_standardTo cX8_standardTo 1 none [] d 0 0 (fun v S' => v = none ∧ S1 = S') (fun _ _ => False) 0 (gl [(0, .ref (L a0))]) [] S 0 0
theorem i_X8_standardTo {l : Launch} {Z : XZ} {L : Nat → Nat} {n : Nat} (ih : P_X8_standardTo_0 l Z L n) {d : Nat} {S : GS} {a0 : Nat} {x : Int} {S1 : GS} (H : f_X8_standardTo n d 0 S [((a0 : Nat) : Int)] = some (x, S1)) : GM l Z L yX8_standardTo cX8_standardTo 1 none [] d 0 0 [.ref (L a0)] S (fun v S' => v = none ∧ S1 = S') (fun _ _ => False) := GM.of (by decide) (Nat.le_of_ble_eq_true rfl) (ih _ _ _ _ _ H)
set_option maxHeartbeats 4000000 in
set_option maxRecDepth 20000 in
theorem t_X8_standardTo_0 {l : Launch} {Z : XZ} {L : Nat → Nat} (n : Nat) (ih_X8_standardTo_0 : P_X8_standardTo_0 l Z L n) : P_X8_standardTo_0 l Z L (n + 1) := by
  intro d S a0 x S1 H
  have H : b_X8_standardTo_0 n d (f_X8_standardTo n) S a0 = some (x, S1) := H
  unfold b_X8_standardTo_0 at H
  refine GA.aload_n dX8_standardTo_0 rfl ?_
  obtain ⟨hg1, H⟩ := gg_e H
  obtain ⟨hg2, H⟩ := gg_e H
  obtain ⟨x3, S_4, hc5, H⟩ := gc_e H
  refine GA.callV (m_X9_clear hc5) xs_X8_102 dX8_standardTo_1 (gsS hg2) (by omega) rfl rfl (by omega) (by decide) rfl (Nat.le_of_ble_eq_true rfl) (by omega) (by omega) rfl (fun E S9 hx => hx.elim) (fun v S9 hq => ?_)
  obtain ⟨rfl, rfl⟩ := hq
  refine GA.aload_n dX8_standardTo_4 rfl ?_
  refine GA.ldcS (i := 0) (tx := "{\"names\":{\"s\":{\"some\":[{\"kind\":\"truth\"},{\"kind\":\"map\",\"keys\":{") (by decide +kernel) dX8_standardTo_5 ?_
  obtain ⟨x6, S_7, hc8, H⟩ := gc_e H
  refine GA.callV (m_X9_addAll hc8) xs_X8_17 dX8_standardTo_7 (gsS hg2) (by omega) rfl rfl (by omega) (by decide) rfl (Nat.le_of_ble_eq_true rfl) (by omega) (by omega) rfl (fun E S9 hx => hx.elim) (fun v S9 hq => ?_)
  obtain ⟨rfl, rfl⟩ := hq
  refine GA.aload_n dX8_standardTo_10 rfl ?_
  refine GA.ldcS (i := 1) (tx := "\"kind\":{\"some\":[{\"ref\":\"k\"},{\"kind\":\"row\",\"items\":{\"ref\":\"k\"}}]},") (by decide +kernel) dX8_standardTo_11 ?_
  obtain ⟨x9, S_10, hc11, H⟩ := gc_e H
  refine GA.callV (m_X9_addAll hc11) xs_X8_17 dX8_standardTo_13 (gsS hg2) (by omega) rfl rfl (by omega) (by decide) rfl (Nat.le_of_ble_eq_true rfl) (by omega) (by omega) rfl (fun E S9 hx => hx.elim) (fun v S9 hq => ?_)
  obtain ⟨rfl, rfl⟩ := hq
  refine GA.aload_n dX8_standardTo_16 rfl ?_
  refine GA.ldcS (i := 2) (tx := "\"least\":{\"kind\":\"number\"},\"most\":{\"kind\":\"number\"},") (by decide +kernel) dX8_standardTo_17 ?_
  obtain ⟨x12, S_13, hc14, H⟩ := gc_e H
  refine GA.callV (m_X9_addAll hc14) xs_X8_17 dX8_standardTo_19 (gsS hg2) (by omega) rfl rfl (by omega) (by decide) rfl (Nat.le_of_ble_eq_true rfl) (by omega) (by omega) rfl (fun E S9 hx => hx.elim) (fun v S9 hq => ?_)
  obtain ⟨rfl, rfl⟩ := hq
  refine GA.aload_n dX8_standardTo_22 rfl ?_
  refine GA.ldcS (i := 3) (tx := "\"shortest\":{\"kind\":\"number\"},\"longest\":{\"kind\":\"number\"},") (by decide +kernel) dX8_standardTo_23 ?_
  obtain ⟨x15, S_16, hc17, H⟩ := gc_e H
  refine GA.callV (m_X9_addAll hc17) xs_X8_17 dX8_standardTo_25 (gsS hg2) (by omega) rfl rfl (by omega) (by decide) rfl (Nat.le_of_ble_eq_true rfl) (by omega) (by omega) rfl (fun E S9 hx => hx.elim) (fun v S9 hq => ?_)
  obtain ⟨rfl, rfl⟩ := hq
  refine GA.aload_n dX8_standardTo_28 rfl ?_
  refine GA.ldcS (i := 4) (tx := "\"needs\":{\"kind\":\"row\",\"items\":{\"kind\":\"text\"}},") (by decide +kernel) dX8_standardTo_29 ?_
  obtain ⟨x18, S_19, hc20, H⟩ := gc_e H
  refine GA.callV (m_X9_addAll hc20) xs_X8_17 dX8_standardTo_31 (gsS hg2) (by omega) rfl rfl (by omega) (by decide) rfl (Nat.le_of_ble_eq_true rfl) (by omega) (by omega) rfl (fun E S9 hx => hx.elim) (fun v S9 hq => ?_)
  obtain ⟨rfl, rfl⟩ := hq
  refine GA.aload_n dX8_standardTo_34 rfl ?_
  refine GA.ldcS (i := 5) (tx := "\"keys\":{\"ref\":\"m\"},\"others\":{\"ref\":\"s\"},\"items\":{\"ref\":\"s\"},") (by decide +kernel) dX8_standardTo_35 ?_
  obtain ⟨x21, S_22, hc23, H⟩ := gc_e H
  refine GA.callV (m_X9_addAll hc23) xs_X8_17 dX8_standardTo_37 (gsS hg2) (by omega) rfl rfl (by omega) (by decide) rfl (Nat.le_of_ble_eq_true rfl) (by omega) (by omega) rfl (fun E S9 hx => hx.elim) (fun v S9 hq => ?_)
  obtain ⟨rfl, rfl⟩ := hq
  refine GA.aload_n dX8_standardTo_40 rfl ?_
  refine GA.ldcS (i := 6) (tx := "\"only\":{\"kind\":\"row\"},\"all\":{\"ref\":\"r\"},\"some\":{\"ref\":\"r\"},") (by decide +kernel) dX8_standardTo_41 ?_
  obtain ⟨x24, S_25, hc26, H⟩ := gc_e H
  refine GA.callV (m_X9_addAll hc26) xs_X8_17 dX8_standardTo_43 (gsS hg2) (by omega) rfl rfl (by omega) (by decide) rfl (Nat.le_of_ble_eq_true rfl) (by omega) (by omega) rfl (fun E S9 hx => hx.elim) (fun v S9 hq => ?_)
  obtain ⟨rfl, rfl⟩ := hq
  refine GA.aload_n dX8_standardTo_46 rfl ?_
  refine GA.ldcS (i := 7) (tx := "\"one\":{\"ref\":\"r\"},\"not\":{\"ref\":\"s\"},") (by decide +kernel) dX8_standardTo_47 ?_
  obtain ⟨x27, S_28, hc29, H⟩ := gc_e H
  refine GA.callV (m_X9_addAll hc29) xs_X8_17 dX8_standardTo_49 (gsS hg2) (by omega) rfl rfl (by omega) (by decide) rfl (Nat.le_of_ble_eq_true rfl) (by omega) (by omega) rfl (fun E S9 hx => hx.elim) (fun v S9 hq => ?_)
  obtain ⟨rfl, rfl⟩ := hq
  refine GA.aload_n dX8_standardTo_52 rfl ?_
  refine GA.ldcS (i := 8) (tx := "\"ref\":{\"kind\":\"text\"},\"names\":{\"ref\":\"m\"}}}]},") (by decide +kernel) dX8_standardTo_53 ?_
  obtain ⟨x30, S_31, hc32, H⟩ := gc_e H
  refine GA.callV (m_X9_addAll hc32) xs_X8_17 dX8_standardTo_55 (gsS hg2) (by omega) rfl rfl (by omega) (by decide) rfl (Nat.le_of_ble_eq_true rfl) (by omega) (by omega) rfl (fun E S9 hx => hx.elim) (fun v S9 hq => ?_)
  obtain ⟨rfl, rfl⟩ := hq
  refine GA.aload_n dX8_standardTo_58 rfl ?_
  refine GA.ldcS (i := 9) (tx := "\"k\":{\"only\":[\"nothing\",\"truth\",\"number\",\"text\",\"row\",\"map\",\"whole\"]},") (by decide +kernel) dX8_standardTo_59 ?_
  obtain ⟨x33, S_34, hc35, H⟩ := gc_e H
  refine GA.callV (m_X9_addAll hc35) xs_X8_17 dX8_standardTo_61 (gsS hg2) (by omega) rfl rfl (by omega) (by decide) rfl (Nat.le_of_ble_eq_true rfl) (by omega) (by omega) rfl (fun E S9 hx => hx.elim) (fun v S9 hq => ?_)
  obtain ⟨rfl, rfl⟩ := hq
  refine GA.aload_n dX8_standardTo_64 rfl ?_
  refine GA.ldcS (i := 10) (tx := "\"m\":{\"kind\":\"map\",\"others\":{\"ref\":\"s\"}},") (by decide +kernel) dX8_standardTo_65 ?_
  obtain ⟨x36, S_37, hc38, H⟩ := gc_e H
  refine GA.callV (m_X9_addAll hc38) xs_X8_17 dX8_standardTo_67 (gsS hg2) (by omega) rfl rfl (by omega) (by decide) rfl (Nat.le_of_ble_eq_true rfl) (by omega) (by omega) rfl (fun E S9 hx => hx.elim) (fun v S9 hq => ?_)
  obtain ⟨rfl, rfl⟩ := hq
  refine GA.aload_n dX8_standardTo_70 rfl ?_
  refine GA.ldcS (i := 11) (tx := "\"r\":{\"kind\":\"row\",\"items\":{\"ref\":\"s\"}}},\"ref\":\"s\"}") (by decide +kernel) dX8_standardTo_71 ?_
  obtain ⟨x39, S_40, hc41, H⟩ := gc_e H
  refine GA.callV (m_X9_addAll hc41) xs_X8_17 dX8_standardTo_73 (gsS hg2) (by omega) rfl rfl (by omega) (by decide) rfl (Nat.le_of_ble_eq_true rfl) (by omega) (by omega) rfl (fun E S9 hx => hx.elim) (fun v S9 hq => ?_)
  obtain ⟨rfl, rfl⟩ := hq
  cases H
  exact GA.vret rfl dX8_standardTo_76 (by omega) (by omega) ⟨rfl, rfl⟩
theorem g_X8_standardTo {l : Launch} {Z : XZ} {L : Nat → Nat} : ∀ n, P_X8_standardTo_0 l Z L n
  | 0 => fun _ _ _ _ _ H => no_e H
  | n + 1 => t_X8_standardTo_0 n (g_X8_standardTo n)
theorem m_X8_standardTo {l : Launch} {Z : XZ} {L : Nat → Nat} {n d : Nat} {S : GS} {a0 : Nat} {x : Int} {S1 : GS} (H : f_X8_standardTo n d 0 S [((a0 : Nat) : Int)] = some (x, S1)) : GM l Z L yX8_standardTo cX8_standardTo 1 none [] d 0 0 [.ref (L a0)] S (fun v S' => v = none ∧ S1 = S') (fun _ _ => False) := GM.of (by decide) (Nat.le_of_ble_eq_true rfl) ((g_X8_standardTo n) _ _ _ _ _ H)

