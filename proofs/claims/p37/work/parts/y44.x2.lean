def P_X2_count_0 (l : Launch) (Z : XZ) (L : Nat → Nat) (n : Nat) : Prop := ∀ (d : Nat) (S : GS) (x : Int) (S1 : GS), f_X2_count n d 0 S [] = some (x, S1) → GA l Z L yX2_count cX2_count 1 (some .int) [] d 0 0 (fun v S' => v = some (.int (J x)) ∧ S1 = S') (fun _ _ => False) 0 (gl [(0, .ref (L 473))]) [] S 0 0
theorem i_X2_count {l : Launch} {Z : XZ} {L : Nat → Nat} {n : Nat} (ih : P_X2_count_0 l Z L n) {d : Nat} {S : GS} {x : Int} {S1 : GS} (H : f_X2_count n d 0 S [] = some (x, S1)) : GM l Z L yX2_count cX2_count 1 (some .int) [] d 0 0 [.ref (L 473)] S (fun v S' => v = some (.int (J x)) ∧ S1 = S') (fun _ _ => False) := GM.of (by decide) (Nat.le_of_ble_eq_true rfl) (ih _ _ _ _ H)
set_option maxHeartbeats 4000000 in
set_option maxRecDepth 20000 in
theorem t_X2_count_0 {l : Launch} {Z : XZ} {L : Nat → Nat} (n : Nat) (ih_X2_count_0 : P_X2_count_0 l Z L n) : P_X2_count_0 l Z L (n + 1) := by
  intro d S  x S1 H
  have H : b_X2_count_0 n d (f_X2_count n) S  = some (x, S1) := H
  unfold b_X2_count_0 at H
  refine GA.aload_n dX2_count_0 rfl ?_
  obtain ⟨x1, hx2, H⟩ := gv_e H
  refine GV.getI hx2 xf_X2_38 dX2_count_1 gs_473 (by decide) rfl ?_
  cases H
  exact GA.iret rfl dX2_count_4 (by omega) (by omega) ⟨rfl, rfl⟩
theorem g_X2_count {l : Launch} {Z : XZ} {L : Nat → Nat} : ∀ n, P_X2_count_0 l Z L n
  | 0 => fun _ _ _ _ H => no_e H
  | n + 1 => t_X2_count_0 n (g_X2_count n)
theorem m_X2_count {l : Launch} {Z : XZ} {L : Nat → Nat} {n d : Nat} {S : GS} {x : Int} {S1 : GS} (H : f_X2_count n d 0 S [] = some (x, S1)) : GM l Z L yX2_count cX2_count 1 (some .int) [] d 0 0 [.ref (L 473)] S (fun v S' => v = some (.int (J x)) ∧ S1 = S') (fun _ _ => False) := GM.of (by decide) (Nat.le_of_ble_eq_true rfl) ((g_X2_count n) _ _ _ _ H)

def P_X2_at_0 (l : Launch) (Z : XZ) (L : Nat → Nat) (n : Nat) : Prop := ∀ (d : Nat) (S : GS) (a1 : Int) (x : Int) (S1 : GS), f_X2_at n d 0 S [a1] = some (x, S1) → GA l Z L yX2_at cX2_at 2 (some .int) [] d 0 0 (fun v S' => v = some (.int (J x)) ∧ S1 = S') (fun _ _ => False) 0 (gl [(0, .ref (L 473)), (1, .int (J a1))]) [] S 0 0
theorem i_X2_at {l : Launch} {Z : XZ} {L : Nat → Nat} {n : Nat} (ih : P_X2_at_0 l Z L n) {d : Nat} {S : GS} {a1 : Int} {x : Int} {S1 : GS} (H : f_X2_at n d 0 S [a1] = some (x, S1)) : GM l Z L yX2_at cX2_at 2 (some .int) [] d 0 0 [.ref (L 473), .int (J a1)] S (fun v S' => v = some (.int (J x)) ∧ S1 = S') (fun _ _ => False) := GM.of (by decide) (Nat.le_of_ble_eq_true rfl) (ih _ _ _ _ _ H)
set_option maxHeartbeats 4000000 in
set_option maxRecDepth 20000 in
theorem t_X2_at_0 {l : Launch} {Z : XZ} {L : Nat → Nat} (n : Nat) (ih_X2_at_0 : P_X2_at_0 l Z L n) : P_X2_at_0 l Z L (n + 1) := by
  intro d S a1 x S1 H
  have H : b_X2_at_0 n d (f_X2_at n) S a1 = some (x, S1) := H
  unfold b_X2_at_0 at H
  refine GA.iload_n dX2_at_0 rfl ?_
  obtain ⟨hg1, H⟩ := gg_e H
  refine GV.if_lt (tgt := 27) hg1 dX2_at_1 (by decide) (fun c2 => ?_) (fun c2 => ?_)
  · have H := it_t H c2
    refine GA.iconst dX2_at_27 ?_
    cases H
    exact GA.iret rfl dX2_at_28 (by omega) (by omega) ⟨rfl, rfl⟩
  · have H := it_f H c2
    refine GA.iload_n dX2_at_4 rfl ?_
    refine GA.aload_n dX2_at_5 rfl ?_
    obtain ⟨x3, hx4, H⟩ := gv_e H
    refine GV.getI hx4 xf_X2_38 dX2_at_6 gs_473 (by decide) rfl ?_
    obtain ⟨hg5, H⟩ := gg_e H
    refine GV.icmp_ge (tgt := 27) hg1 hg5 dX2_at_9 (by decide) (fun c6 => ?_) (fun c6 => ?_)
    · have H := it_t H c6
      refine GA.iconst dX2_at_27 ?_
      cases H
      exact GA.iret rfl dX2_at_28 (by omega) (by omega) ⟨rfl, rfl⟩
    · have H := it_f H c6
      refine GA.iload_n dX2_at_12 rfl ?_
      refine GA.bipush dX2_at_13 rfl ?_
      refine GV.icmp_ge (tgt := 27) hg1 (by decide) dX2_at_15 (by decide) (fun c7 => ?_) (fun c7 => ?_)
      · have H := it_t H c7
        refine GA.iconst dX2_at_27 ?_
        cases H
        exact GA.iret rfl dX2_at_28 (by omega) (by omega) ⟨rfl, rfl⟩
      · have H := it_f H c7
        refine GA.aload_n dX2_at_18 rfl ?_
        refine GA.get xf_X2_27 dX2_at_19 gs_473 (by decide) rfl ?_
        refine GA.iload_n dX2_at_22 rfl ?_
        obtain ⟨hg8, H⟩ := gg_e H
        obtain ⟨x9, hx10, H⟩ := gv_e H
        refine GV.iald hg8 hx10 dX2_at_23 gs_474 (by decide) ?_
        refine GA.goto (tgt := 28) dX2_at_24 (by decide) ?_
        cases H
        exact GA.iret rfl dX2_at_28 (by omega) (by omega) ⟨rfl, rfl⟩
theorem g_X2_at {l : Launch} {Z : XZ} {L : Nat → Nat} : ∀ n, P_X2_at_0 l Z L n
  | 0 => fun _ _ _ _ _ H => no_e H
  | n + 1 => t_X2_at_0 n (g_X2_at n)
theorem m_X2_at {l : Launch} {Z : XZ} {L : Nat → Nat} {n d : Nat} {S : GS} {a1 : Int} {x : Int} {S1 : GS} (H : f_X2_at n d 0 S [a1] = some (x, S1)) : GM l Z L yX2_at cX2_at 2 (some .int) [] d 0 0 [.ref (L 473), .int (J a1)] S (fun v S' => v = some (.int (J x)) ∧ S1 = S') (fun _ _ => False) := GM.of (by decide) (Nat.le_of_ble_eq_true rfl) ((g_X2_at n) _ _ _ _ _ H)

def P_X5_add_0 (l : Launch) (Z : XZ) (L : Nat → Nat) (n : Nat) : Prop := ∀ (d : Nat) (S : GS) (a0 : Nat) (a1 : Nat) (a2 : Nat) (a3 : Nat) (a4 : Int) (x : Int) (S1 : GS), f_X5_add n d 0 S [((a0 : Nat) : Int), ((a1 : Nat) : Int), ((a2 : Nat) : Int), ((a3 : Nat) : Int), a4] = some (x, S1) → GA l Z L yX5_add cX5_add 9 none [] d 0 0 (fun v S' => v = none ∧ S1 = S') (fun _ _ => False) 0 (gl [(0, .ref (L a0)), (1, .ref (Z.2.1 a1)), (2, .ref (L a2)), (3, .ref (L a3)), (4, .int (J a4))]) [] S 0 0
def P_X5_add_25 (l : Launch) (Z : XZ) (L : Nat → Nat) (n : Nat) : Prop := ∀ (d : Nat) (S : GS) (a0 : Nat) (a1 : Nat) (a2 : Nat) (a3 : Nat) (a4 : Int) (a5 : Int) (a6 : Int) (a7 : Int) (x : Int) (S1 : GS), f_X5_add n d 25 S [((a0 : Nat) : Int), ((a1 : Nat) : Int), ((a2 : Nat) : Int), ((a3 : Nat) : Int), a4, a5, a6, a7] = some (x, S1) → GA l Z L yX5_add cX5_add 9 none [] d 0 0 (fun v S' => v = none ∧ S1 = S') (fun _ _ => False) 25 (gl [(0, .ref (L a0)), (1, .ref (Z.2.1 a1)), (2, .ref (L a2)), (3, .ref (L a3)), (4, .int (J a4)), (5, .int (J a5)), (6, .int (J a6)), (7, .int (J a7))]) [] S 0 0
def P_X5_add_70 (l : Launch) (Z : XZ) (L : Nat → Nat) (n : Nat) : Prop := ∀ (d : Nat) (S : GS) (a0 : Nat) (a2 : Nat) (a3 : Nat) (a4 : Int) (a5 : Int) (a7 : Int) (a8 : Int) (x : Int) (S1 : GS), f_X5_add n d 70 S [((a0 : Nat) : Int), ((a2 : Nat) : Int), ((a3 : Nat) : Int), a4, a5, a7, a8] = some (x, S1) → GA l Z L yX5_add cX5_add 9 none [] d 0 0 (fun v S' => v = none ∧ S1 = S') (fun _ _ => False) 70 (gl [(0, .ref (L a0)), (2, .ref (L a2)), (3, .ref (L a3)), (4, .int (J a4)), (5, .int (J a5)), (7, .int (J a7)), (8, .int (J a8))]) [] S 0 0
theorem i_X5_add {l : Launch} {Z : XZ} {L : Nat → Nat} {n : Nat} (ih : P_X5_add_0 l Z L n) {d : Nat} {S : GS} {a0 : Nat} {a1 : Nat} {a2 : Nat} {a3 : Nat} {a4 : Int} {x : Int} {S1 : GS} (H : f_X5_add n d 0 S [((a0 : Nat) : Int), ((a1 : Nat) : Int), ((a2 : Nat) : Int), ((a3 : Nat) : Int), a4] = some (x, S1)) : GM l Z L yX5_add cX5_add 9 none [] d 0 0 [.ref (L a0), .ref (Z.2.1 a1), .ref (L a2), .ref (L a3), .int (J a4)] S (fun v S' => v = none ∧ S1 = S') (fun _ _ => False) := GM.of (by decide) (Nat.le_of_ble_eq_true rfl) (ih _ _ _ _ _ _ _ _ _ H)
set_option maxHeartbeats 4000000 in
set_option maxRecDepth 20000 in
theorem t_X5_add_0 {l : Launch} {Z : XZ} {L : Nat → Nat} (n : Nat) (ih_X5_add_0 : P_X5_add_0 l Z L n) (ih_X5_add_25 : P_X5_add_25 l Z L n) (ih_X5_add_70 : P_X5_add_70 l Z L n) : P_X5_add_0 l Z L (n + 1) := by
  intro d S a0 a1 a2 a3 a4 x S1 H
  have H : b_X5_add_0 n d (f_X5_add n) S a0 a1 a2 a3 a4 = some (x, S1) := H
  unfold b_X5_add_0 at H
  refine GA.aload_n dX5_add_0 rfl ?_
  refine GA.iconst dX5_add_1 ?_
  obtain ⟨hg1, H⟩ := gg_e H
  obtain ⟨hg2, H⟩ := gg_e H
  obtain ⟨x3, S_4, hc5, H⟩ := gc_e H
  refine GA.callV (m_X10_add hc5) xs_X5_51 dX5_add_2 (gsT hg2) (by omega) rfl rfl (by omega) (by decide) rfl (Nat.le_of_ble_eq_true rfl) (by omega) (by omega) rfl (fun E S9 hx => hx.elim) (fun v S9 hq => ?_)
  obtain ⟨rfl, rfl⟩ := hq
  refine GA.istore dX5_add_5 (by decide) ?_
  refine GA.aload_n dX5_add_7 rfl ?_
  refine GA.iconst dX5_add_8 ?_
  obtain ⟨x6, S_7, hc8, H⟩ := gc_e H
  refine GA.callV (m_X10_add hc8) xs_X5_51 dX5_add_9 (gsT hg2) (by omega) rfl rfl (by omega) (by decide) rfl (Nat.le_of_ble_eq_true rfl) (by omega) (by omega) rfl (fun E S9 hx => hx.elim) (fun v S9 hq => ?_)
  obtain ⟨rfl, rfl⟩ := hq
  refine GA.istore dX5_add_12 (by decide) ?_
  refine GA.aload_n dX5_add_14 rfl ?_
  refine GA.iload dX5_add_15 rfl ?_
  refine GA.ldcS (i := 22) (tx := "op") (by decide +kernel) dX5_add_17 ?_
  obtain ⟨x9, S_10, hc11, H⟩ := gc_e H
  refine GA.callV (m_X10_setKeyWord hc11) xs_X5_142 dX5_add_19 (gsT hg2) (by omega) rfl rfl (by omega) (by decide) rfl (Nat.le_of_ble_eq_true rfl) (by omega) (by omega) rfl (fun E S9 hx => hx.elim) (fun v S9 hq => ?_)
  obtain ⟨rfl, rfl⟩ := hq
  refine GA.iconst dX5_add_22 ?_
  refine GA.istore dX5_add_23 (by decide) ?_
  refine GA.locals [(0, .ref (L a0)), (1, .ref (Z.2.1 a1)), (2, .ref (L a2)), (3, .ref (L a3)), (4, .int (J a4)), (5, .int (J x3)), (6, .int (J x6)), (7, .int (J 0))] ⟨rfl, rfl, rfl, rfl, rfl, rfl, rfl, rfl, trivial⟩ ?_
  exact ih_X5_add_25 _ _ (a0) (a1) (a2) (a3) (a4) (x3) (x6) (0) _ _ H
set_option maxHeartbeats 4000000 in
set_option maxRecDepth 20000 in
theorem t_X5_add_25 {l : Launch} {Z : XZ} {L : Nat → Nat} (n : Nat) (ih_X5_add_0 : P_X5_add_0 l Z L n) (ih_X5_add_25 : P_X5_add_25 l Z L n) (ih_X5_add_70 : P_X5_add_70 l Z L n) : P_X5_add_25 l Z L (n + 1) := by
  intro d S a0 a1 a2 a3 a4 a5 a6 a7 x S1 H
  have H : b_X5_add_25 n d (f_X5_add n) S a0 a1 a2 a3 a4 a5 a6 a7 = some (x, S1) := H
  unfold b_X5_add_25 at H
  refine GA.iload dX5_add_25 rfl ?_
  refine GA.aload_n dX5_add_27 rfl ?_
  obtain ⟨hg1, H⟩ := gg_e H
  obtain ⟨hg2, H⟩ := gg_e H
  obtain ⟨x3, hx4, H⟩ := gv_e H
  refine GV.strLen hg1 hx4 xs_X5_146 dX5_add_28 hg2 (Nat.le_of_ble_eq_true rfl) (by omega) (by omega) ?_
  obtain ⟨hg5, H⟩ := gg_e H
  obtain ⟨hg6, H⟩ := gg_e H
  refine GV.icmp_ge (tgt := 52) hg5 hg6 dX5_add_31 (by decide) (fun c7 => ?_) (fun c7 => ?_)
  · have H := it_t H c7
    refine GA.aload_n dX5_add_52 rfl ?_
    refine GA.iconst dX5_add_53 ?_
    obtain ⟨hg8, H⟩ := gg_e H
    obtain ⟨hg9, H⟩ := gg_e H
    obtain ⟨x10, S_11, hc12, H⟩ := gc_e H
    refine GA.callV (m_X10_add hc12) xs_X5_51 dX5_add_54 (gsT hg9) (by omega) rfl rfl (by omega) (by decide) rfl (Nat.le_of_ble_eq_true rfl) (by omega) (by omega) rfl (fun E S9 hx => hx.elim) (fun v S9 hq => ?_)
    obtain ⟨rfl, rfl⟩ := hq
    refine GA.istore dX5_add_57 (by decide) ?_
    refine GA.aload_n dX5_add_59 rfl ?_
    refine GA.iload dX5_add_60 rfl ?_
    refine GA.ldcS (i := 23) (tx := "path") (by decide +kernel) dX5_add_62 ?_
    obtain ⟨x13, S_14, hc15, H⟩ := gc_e H
    refine GA.callV (m_X10_setKeyWord hc15) xs_X5_142 dX5_add_64 (gsT hg9) (by omega) rfl rfl (by omega) (by decide) rfl (Nat.le_of_ble_eq_true rfl) (by omega) (by omega) rfl (fun E S9 hx => hx.elim) (fun v S9 hq => ?_)
    obtain ⟨rfl, rfl⟩ := hq
    refine GA.iconst dX5_add_67 ?_
    refine GA.istore dX5_add_68 (by decide) ?_
    refine GA.locals [(0, .ref (L a0)), (2, .ref (L a2)), (3, .ref (L a3)), (4, .int (J a4)), (5, .int (J a5)), (7, .int (J x10)), (8, .int (J 0))] ⟨rfl, rfl, rfl, rfl, rfl, rfl, rfl, trivial⟩ ?_
    exact ih_X5_add_70 _ _ (a0) (a2) (a3) (a4) (a5) (x10) (0) _ _ H
  · have H := it_f H c7
    refine GA.aload_n dX5_add_34 rfl ?_
    refine GA.iload dX5_add_35 rfl ?_
    refine GA.aload_n dX5_add_37 rfl ?_
    refine GA.iload dX5_add_38 rfl ?_
    obtain ⟨hg16, H⟩ := gg_e H
    obtain ⟨hg17, H⟩ := gg_e H
    obtain ⟨x18, hx19, H⟩ := gv_e H
    refine GV.strChar hg1 hg17 hx19 xs_X5_149 dX5_add_40 hg16 (Nat.le_of_ble_eq_true rfl) (by omega) (by omega) ?_
    obtain ⟨hg20, H⟩ := gg_e H
    obtain ⟨hg21, H⟩ := gg_e H
    obtain ⟨x22, S_23, hc24, H⟩ := gc_e H
    refine GA.callV (m_X10_addSign hc24) xs_X5_153 dX5_add_43 (gsT hg21) (by omega) rfl rfl (by omega) (by decide) rfl (Nat.le_of_ble_eq_true rfl) (by omega) (by omega) rfl (fun E S9 hx => hx.elim) (fun v S9 hq => ?_)
    obtain ⟨rfl, rfl⟩ := hq
    obtain ⟨x25, hx26, H⟩ := gv_e H
    refine GV.iinc hx26 dX5_add_46 rfl (by decide) ?_
    refine GA.goto (tgt := 25) dX5_add_49 (by decide) ?_
    refine GA.locals [(0, .ref (L a0)), (1, .ref (Z.2.1 a1)), (2, .ref (L a2)), (3, .ref (L a3)), (4, .int (J a4)), (5, .int (J a5)), (6, .int (J a6)), (7, .int (J x25))] ⟨rfl, rfl, rfl, rfl, rfl, rfl, rfl, rfl, trivial⟩ ?_
    exact ih_X5_add_25 _ _ (a0) (a1) (a2) (a3) (a4) (a5) (a6) (x25) _ _ H
set_option maxHeartbeats 4000000 in
set_option maxRecDepth 20000 in
theorem t_X5_add_70 {l : Launch} {Z : XZ} {L : Nat → Nat} (n : Nat) (ih_X5_add_0 : P_X5_add_0 l Z L n) (ih_X5_add_25 : P_X5_add_25 l Z L n) (ih_X5_add_70 : P_X5_add_70 l Z L n) : P_X5_add_70 l Z L (n + 1) := by
  intro d S a0 a2 a3 a4 a5 a7 a8 x S1 H
  have H : b_X5_add_70 n d (f_X5_add n) S a0 a2 a3 a4 a5 a7 a8 = some (x, S1) := H
  unfold b_X5_add_70 at H
  refine GA.iload dX5_add_70 rfl ?_
  refine GA.aload_n dX5_add_72 rfl ?_
  obtain ⟨hg1, H⟩ := gg_e H
  obtain ⟨hg2, H⟩ := gg_e H
  obtain ⟨x3, S_4, hc5, H⟩ := gc_e H
  refine GA.callV (m_X9_length hc5) xs_X5_82 dX5_add_73 (gsS hg2) (by omega) rfl rfl (by omega) (by decide) rfl (Nat.le_of_ble_eq_true rfl) (by omega) (by omega) rfl (fun E S9 hx => hx.elim) (fun v S9 hq => ?_)
  obtain ⟨rfl, rfl⟩ := hq
  obtain ⟨hg6, H⟩ := gg_e H
  obtain ⟨hg7, H⟩ := gg_e H
  refine GV.icmp_ge (tgt := 97) hg6 hg7 dX5_add_76 (by decide) (fun c8 => ?_) (fun c8 => ?_)
  · have H := it_t H c8
    refine GA.iload dX5_add_97 rfl ?_
    refine GA.iconst dX5_add_99 ?_
    obtain ⟨hg9, H⟩ := gg_e H
    refine GV.icmp_eq (tgt := 116) hg9 (by decide) dX5_add_100 (by decide) (fun c10 => ?_) (fun c10 => ?_)
    · have H := it_t H c10
      refine GA.aload_n dX5_add_116 rfl ?_
      refine GA.iload dX5_add_117 rfl ?_
      obtain ⟨hg11, H⟩ := gg_e H
      obtain ⟨x12, S_13, hc14, H⟩ := gc_e H
      refine GA.callV (m_X10_close hc14) xs_X5_59 dX5_add_119 (gsT hg11) (by omega) rfl rfl (by omega) (by decide) rfl (Nat.le_of_ble_eq_true rfl) (by omega) (by omega) rfl (fun E S9 hx => hx.elim) (fun v S9 hq => ?_)
      obtain ⟨rfl, rfl⟩ := hq
      cases H
      exact GA.vret rfl dX5_add_122 (by omega) (by omega) ⟨rfl, rfl⟩
    · have H := it_f H c10
      refine GA.aload_n dX5_add_103 rfl ?_
      refine GA.aload_n dX5_add_104 rfl ?_
      refine GA.aload_n dX5_add_105 rfl ?_
      refine GA.iload dX5_add_106 rfl ?_
      obtain ⟨hg15, H⟩ := gg_e H
      obtain ⟨x16, S_17, hc18, H⟩ := gc_e H
      refine GA.callV (m_X10_append hc18) xs_X5_160 dX5_add_108 (gsT hg15) (by omega) rfl rfl (by omega) (by decide) rfl (Nat.le_of_ble_eq_true rfl) (by omega) (by omega) rfl (fun E S9 hx => hx.elim) (fun v S9 hq => ?_)
      obtain ⟨rfl, rfl⟩ := hq
      refine GA.ldcS (i := 24) (tx := "value") (by decide +kernel) dX5_add_111 ?_
      obtain ⟨x19, S_20, hc21, H⟩ := gc_e H
      refine GA.callV (m_X10_setKeyWord hc21) xs_X5_142 dX5_add_113 (gsT hg15) (by omega) rfl rfl (by omega) (by decide) rfl (Nat.le_of_ble_eq_true rfl) (by omega) (by omega) rfl (fun E S9 hx => hx.elim) (fun v S9 hq => ?_)
      obtain ⟨rfl, rfl⟩ := hq
      refine GA.aload_n dX5_add_116 rfl ?_
      refine GA.iload dX5_add_117 rfl ?_
      obtain ⟨x22, S_23, hc24, H⟩ := gc_e H
      refine GA.callV (m_X10_close hc24) xs_X5_59 dX5_add_119 (gsT hg15) (by omega) rfl rfl (by omega) (by decide) rfl (Nat.le_of_ble_eq_true rfl) (by omega) (by omega) rfl (fun E S9 hx => hx.elim) (fun v S9 hq => ?_)
      obtain ⟨rfl, rfl⟩ := hq
      cases H
      exact GA.vret rfl dX5_add_122 (by omega) (by omega) ⟨rfl, rfl⟩
  · have H := it_f H c8
    refine GA.aload_n dX5_add_79 rfl ?_
    refine GA.iload dX5_add_80 rfl ?_
    refine GA.aload_n dX5_add_82 rfl ?_
    refine GA.iload dX5_add_83 rfl ?_
    obtain ⟨x25, S_26, hc27, H⟩ := gc_e H
    refine GA.callV (m_X9_at hc27) xs_X5_157 dX5_add_85 (gsS hg2) (by omega) rfl rfl (by omega) (by decide) rfl (Nat.le_of_ble_eq_true rfl) (by omega) (by omega) rfl (fun E S9 hx => hx.elim) (fun v S9 hq => ?_)
    obtain ⟨rfl, rfl⟩ := hq
    obtain ⟨hg28, H⟩ := gg_e H
    obtain ⟨x29, S_30, hc31, H⟩ := gc_e H
    refine GA.callV (m_X10_addSign hc31) xs_X5_153 dX5_add_88 (gsT hg28) (by omega) rfl rfl (by omega) (by decide) rfl (Nat.le_of_ble_eq_true rfl) (by omega) (by omega) rfl (fun E S9 hx => hx.elim) (fun v S9 hq => ?_)
    obtain ⟨rfl, rfl⟩ := hq
    obtain ⟨x32, hx33, H⟩ := gv_e H
    refine GV.iinc hx33 dX5_add_91 rfl (by decide) ?_
    refine GA.goto (tgt := 70) dX5_add_94 (by decide) ?_
    refine GA.locals [(0, .ref (L a0)), (2, .ref (L a2)), (3, .ref (L a3)), (4, .int (J a4)), (5, .int (J a5)), (7, .int (J a7)), (8, .int (J x32))] ⟨rfl, rfl, rfl, rfl, rfl, rfl, rfl, trivial⟩ ?_
    exact ih_X5_add_70 _ _ (a0) (a2) (a3) (a4) (a5) (a7) (x32) _ _ H
theorem g_X5_add {l : Launch} {Z : XZ} {L : Nat → Nat} : ∀ n, P_X5_add_0 l Z L n ∧ P_X5_add_25 l Z L n ∧ P_X5_add_70 l Z L n
  | 0 => ⟨fun _ _ _ _ _ _ _ _ _ H => no_e H, fun _ _ _ _ _ _ _ _ _ _ _ _ H => no_e H, fun _ _ _ _ _ _ _ _ _ _ _ H => no_e H⟩
  | n + 1 => have ⟨h0, h1, h2⟩ := g_X5_add (l := l) (Z := Z) (L := L) n
    ⟨t_X5_add_0 n h0 h1 h2, t_X5_add_25 n h0 h1 h2, t_X5_add_70 n h0 h1 h2⟩
theorem m_X5_add {l : Launch} {Z : XZ} {L : Nat → Nat} {n d : Nat} {S : GS} {a0 : Nat} {a1 : Nat} {a2 : Nat} {a3 : Nat} {a4 : Int} {x : Int} {S1 : GS} (H : f_X5_add n d 0 S [((a0 : Nat) : Int), ((a1 : Nat) : Int), ((a2 : Nat) : Int), ((a3 : Nat) : Int), a4] = some (x, S1)) : GM l Z L yX5_add cX5_add 9 none [] d 0 0 [.ref (L a0), .ref (Z.2.1 a1), .ref (L a2), .ref (L a3), .int (J a4)] S (fun v S' => v = none ∧ S1 = S') (fun _ _ => False) := GM.of (by decide) (Nat.le_of_ble_eq_true rfl) ((g_X5_add n).1 _ _ _ _ _ _ _ _ _ H)

def P_X5_gather_0 (l : Launch) (Z : XZ) (L : Nat → Nat) (n : Nat) : Prop := ∀ (d : Nat) (S : GS) (a0 : Nat) (a1 : Int) (a2 : Nat) (x : Int) (S1 : GS), f_X5_gather n d 0 S [((a0 : Nat) : Int), a1, ((a2 : Nat) : Int)] = some (x, S1) → GA l Z L yX5_gather cX5_gather 5 (some .int) [] d 0 0 (fun v S' => v = some (.int (J x)) ∧ S1 = S') (fun _ _ => False) 0 (gl [(0, .ref (L a0)), (1, .int (J a1)), (2, .ref (L a2))]) [] S 0 0
def P_X5_gather_9 (l : Launch) (Z : XZ) (L : Nat → Nat) (n : Nat) : Prop := ∀ (d : Nat) (S : GS) (a0 : Nat) (a1 : Int) (a2 : Nat) (a3 : Int) (a4 : Int) (x : Int) (S1 : GS), f_X5_gather n d 9 S [((a0 : Nat) : Int), a1, ((a2 : Nat) : Int), a3, a4] = some (x, S1) → GA l Z L yX5_gather cX5_gather 5 (some .int) [] d 0 0 (fun v S' => v = some (.int (J x)) ∧ S1 = S') (fun _ _ => False) 9 (gl [(0, .ref (L a0)), (1, .int (J a1)), (2, .ref (L a2)), (3, .int (J a3)), (4, .int (J a4))]) [] S 0 0
theorem i_X5_gather {l : Launch} {Z : XZ} {L : Nat → Nat} {n : Nat} (ih : P_X5_gather_0 l Z L n) {d : Nat} {S : GS} {a0 : Nat} {a1 : Int} {a2 : Nat} {x : Int} {S1 : GS} (H : f_X5_gather n d 0 S [((a0 : Nat) : Int), a1, ((a2 : Nat) : Int)] = some (x, S1)) : GM l Z L yX5_gather cX5_gather 5 (some .int) [] d 0 0 [.ref (L a0), .int (J a1), .ref (L a2)] S (fun v S' => v = some (.int (J x)) ∧ S1 = S') (fun _ _ => False) := GM.of (by decide) (Nat.le_of_ble_eq_true rfl) (ih _ _ _ _ _ _ _ H)
set_option maxHeartbeats 4000000 in
set_option maxRecDepth 20000 in
theorem t_X5_gather_0 {l : Launch} {Z : XZ} {L : Nat → Nat} (n : Nat) (ih_X5_gather_0 : P_X5_gather_0 l Z L n) (ih_X5_gather_9 : P_X5_gather_9 l Z L n) : P_X5_gather_0 l Z L (n + 1) := by
  intro d S a0 a1 a2 x S1 H
  have H : b_X5_gather_0 n d (f_X5_gather n) S a0 a1 a2 = some (x, S1) := H
  unfold b_X5_gather_0 at H
  refine GA.iconst dX5_gather_0 ?_
  refine GA.istore_n dX5_gather_1 (by decide) ?_
  refine GA.aload_n dX5_gather_2 rfl ?_
  refine GA.iload_n dX5_gather_3 rfl ?_
  obtain ⟨hg1, H⟩ := gg_e H
  obtain ⟨hg2, H⟩ := gg_e H
  obtain ⟨x3, S_4, hc5, H⟩ := gc_e H
  refine GA.callV (m_X10_first hc5) xs_X5_86 dX5_gather_4 (gsT hg2) (by omega) rfl rfl (by omega) (by decide) rfl (Nat.le_of_ble_eq_true rfl) (by omega) (by omega) rfl (fun E S9 hx => hx.elim) (fun v S9 hq => ?_)
  obtain ⟨rfl, rfl⟩ := hq
  refine GA.istore dX5_gather_7 (by decide) ?_
  refine GA.locals [(0, .ref (L a0)), (1, .int (J a1)), (2, .ref (L a2)), (3, .int (J 0)), (4, .int (J x3))] ⟨rfl, rfl, rfl, rfl, rfl, trivial⟩ ?_
  exact ih_X5_gather_9 _ _ (a0) (a1) (a2) (0) (x3) _ _ H
set_option maxHeartbeats 4000000 in
set_option maxRecDepth 20000 in
theorem t_X5_gather_9 {l : Launch} {Z : XZ} {L : Nat → Nat} (n : Nat) (ih_X5_gather_0 : P_X5_gather_0 l Z L n) (ih_X5_gather_9 : P_X5_gather_9 l Z L n) : P_X5_gather_9 l Z L (n + 1) := by
  intro d S a0 a1 a2 a3 a4 x S1 H
  have H : b_X5_gather_9 n d (f_X5_gather n) S a0 a1 a2 a3 a4 = some (x, S1) := H
  unfold b_X5_gather_9 at H
  refine GA.iload dX5_gather_9 rfl ?_
  refine GA.iconst dX5_gather_11 ?_
  obtain ⟨hg1, H⟩ := gg_e H
  refine GV.icmp_eq (tgt := 41) hg1 (by decide) dX5_gather_12 (by decide) (fun c2 => ?_) (fun c2 => ?_)
  · have H := it_t H c2
    refine GA.iload_n dX5_gather_41 rfl ?_
    cases H
    exact GA.iret rfl dX5_gather_42 (by omega) (by omega) ⟨rfl, rfl⟩
  · have H := it_f H c2
    refine GA.iload_n dX5_gather_15 rfl ?_
    refine GA.aload_n dX5_gather_16 rfl ?_
    obtain ⟨hg3, H⟩ := gg_e H
    refine GA.alen (by decide) dX5_gather_17 (gsG hg3) (by omega) ?_
    obtain ⟨hg4, H⟩ := gg_e H
    obtain ⟨hg5, H⟩ := gg_e H
    refine GV.icmp_ge (tgt := 41) hg4 hg5 dX5_gather_18 (by decide) (fun c6 => ?_) (fun c6 => ?_)
    · have H := it_t H c6
      refine GA.iload_n dX5_gather_41 rfl ?_
      cases H
      exact GA.iret rfl dX5_gather_42 (by omega) (by omega) ⟨rfl, rfl⟩
    · have H := it_f H c6
      refine GA.aload_n dX5_gather_21 rfl ?_
      refine GA.iload_n dX5_gather_22 rfl ?_
      refine GA.iload dX5_gather_23 rfl ?_
      obtain ⟨hg7, H⟩ := gg_e H
      obtain ⟨S_8, hx9, H⟩ := gv_e H
      refine GV.iast hg7 hx9 dX5_gather_25 (fun _ => (gsG hg3)) (by omega) ?_
      obtain ⟨x10, hx11, H⟩ := gv_e H
      refine GV.iinc hx11 dX5_gather_26 rfl (by decide) ?_
      refine GA.aload_n dX5_gather_29 rfl ?_
      refine GA.iload_n dX5_gather_30 rfl ?_
      refine GA.iload dX5_gather_31 rfl ?_
      obtain ⟨hg12, H⟩ := gg_e H
      obtain ⟨hg13, H⟩ := gg_e H
      obtain ⟨x14, S_15, hc16, H⟩ := gc_e H
      refine GA.callV (m_X10_next hc16) xs_X5_102 dX5_gather_33 (gsT hg13) (by omega) rfl rfl (by omega) (by decide) rfl (Nat.le_of_ble_eq_true rfl) (by omega) (by omega) rfl (fun E S9 hx => hx.elim) (fun v S9 hq => ?_)
      obtain ⟨rfl, rfl⟩ := hq
      refine GA.istore dX5_gather_36 (by decide) ?_
      refine GA.goto (tgt := 9) dX5_gather_38 (by decide) ?_
      refine GA.locals [(0, .ref (L a0)), (1, .int (J a1)), (2, .ref (L a2)), (3, .int (J x10)), (4, .int (J x14))] ⟨rfl, rfl, rfl, rfl, rfl, trivial⟩ ?_
      exact ih_X5_gather_9 _ _ (a0) (a1) (a2) (x10) (x14) _ _ H
theorem g_X5_gather {l : Launch} {Z : XZ} {L : Nat → Nat} : ∀ n, P_X5_gather_0 l Z L n ∧ P_X5_gather_9 l Z L n
  | 0 => ⟨fun _ _ _ _ _ _ _ H => no_e H, fun _ _ _ _ _ _ _ _ _ H => no_e H⟩
  | n + 1 => have ⟨h0, h1⟩ := g_X5_gather (l := l) (Z := Z) (L := L) n
    ⟨t_X5_gather_0 n h0 h1, t_X5_gather_9 n h0 h1⟩
theorem m_X5_gather {l : Launch} {Z : XZ} {L : Nat → Nat} {n d : Nat} {S : GS} {a0 : Nat} {a1 : Int} {a2 : Nat} {x : Int} {S1 : GS} (H : f_X5_gather n d 0 S [((a0 : Nat) : Int), a1, ((a2 : Nat) : Int)] = some (x, S1)) : GM l Z L yX5_gather cX5_gather 5 (some .int) [] d 0 0 [.ref (L a0), .int (J a1), .ref (L a2)] S (fun v S' => v = some (.int (J x)) ∧ S1 = S') (fun _ _ => False) := GM.of (by decide) (Nat.le_of_ble_eq_true rfl) ((g_X5_gather n).1 _ _ _ _ _ _ _ H)

def P_X5_matchAll_0 (l : Launch) (Z : XZ) (L : Nat → Nat) (n : Nat) : Prop := ∀ (d : Nat) (S : GS) (a1 : Int) (a2 : Int) (x : Int) (S1 : GS), f_X5_matchAll n d 0 S [a1, a2] = some (x, S1) → GA l Z L yX5_matchAll cX5_matchAll 5 none [] d 0 0 (fun v S' => v = none ∧ S1 = S') (fun _ _ => False) 0 (gl [(0, .ref (L 477)), (1, .int (J a1)), (2, .int (J a2))]) [] S 0 0
def P_X5_matchAll_2 (l : Launch) (Z : XZ) (L : Nat → Nat) (n : Nat) : Prop := ∀ (d : Nat) (S : GS) (a1 : Int) (a2 : Int) (a3 : Int) (x : Int) (S1 : GS), f_X5_matchAll n d 2 S [a1, a2, a3] = some (x, S1) → GA l Z L yX5_matchAll cX5_matchAll 5 none [] d 0 0 (fun v S' => v = none ∧ S1 = S') (fun _ _ => False) 2 (gl [(0, .ref (L 477)), (1, .int (J a1)), (2, .int (J a2)), (3, .int (J a3))]) [] S 0 0
def P_X5_matchAll_16 (l : Launch) (Z : XZ) (L : Nat → Nat) (n : Nat) : Prop := ∀ (d : Nat) (S : GS) (a1 : Int) (a2 : Int) (a3 : Int) (a4 : Int) (x : Int) (S1 : GS), f_X5_matchAll n d 16 S [a1, a2, a3, a4] = some (x, S1) → GA l Z L yX5_matchAll cX5_matchAll 5 none [] d 0 0 (fun v S' => v = none ∧ S1 = S') (fun _ _ => False) 16 (gl [(0, .ref (L 477)), (1, .int (J a1)), (2, .int (J a2)), (3, .int (J a3)), (4, .int (J a4))]) [] S 0 0
theorem i_X5_matchAll {l : Launch} {Z : XZ} {L : Nat → Nat} {n : Nat} (ih : P_X5_matchAll_0 l Z L n) {d : Nat} {S : GS} {a1 : Int} {a2 : Int} {x : Int} {S1 : GS} (H : f_X5_matchAll n d 0 S [a1, a2] = some (x, S1)) : GM l Z L yX5_matchAll cX5_matchAll 5 none [] d 0 0 [.ref (L 477), .int (J a1), .int (J a2)] S (fun v S' => v = none ∧ S1 = S') (fun _ _ => False) := GM.of (by decide) (Nat.le_of_ble_eq_true rfl) (ih _ _ _ _ _ _ H)
set_option maxHeartbeats 4000000 in
set_option maxRecDepth 20000 in
theorem t_X5_matchAll_0 {l : Launch} {Z : XZ} {L : Nat → Nat} (n : Nat) (ih_X5_matchAll_0 : P_X5_matchAll_0 l Z L n) (ih_X5_matchAll_2 : P_X5_matchAll_2 l Z L n) (ih_X5_matchAll_16 : P_X5_matchAll_16 l Z L n) : P_X5_matchAll_0 l Z L (n + 1) := by
  intro d S a1 a2 x S1 H
  have H : b_X5_matchAll_0 n d (f_X5_matchAll n) S a1 a2 = some (x, S1) := H
  unfold b_X5_matchAll_0 at H
  refine GA.iconst dX5_matchAll_0 ?_
  refine GA.istore_n dX5_matchAll_1 (by decide) ?_
  refine GA.locals [(0, .ref (L 477)), (1, .int (J a1)), (2, .int (J a2)), (3, .int (J 0))] ⟨rfl, rfl, rfl, rfl, trivial⟩ ?_
  exact ih_X5_matchAll_2 _ _ (a1) (a2) (0) _ _ H
set_option maxHeartbeats 4000000 in
set_option maxRecDepth 20000 in
theorem t_X5_matchAll_2 {l : Launch} {Z : XZ} {L : Nat → Nat} (n : Nat) (ih_X5_matchAll_0 : P_X5_matchAll_0 l Z L n) (ih_X5_matchAll_2 : P_X5_matchAll_2 l Z L n) (ih_X5_matchAll_16 : P_X5_matchAll_16 l Z L n) : P_X5_matchAll_2 l Z L (n + 1) := by
  intro d S a1 a2 a3 x S1 H
  have H : b_X5_matchAll_2 n d (f_X5_matchAll n) S a1 a2 a3 = some (x, S1) := H
  unfold b_X5_matchAll_2 at H
  refine GA.iload_n dX5_matchAll_2 rfl ?_
  refine GA.iload_n dX5_matchAll_3 rfl ?_
  obtain ⟨hg1, H⟩ := gg_e H
  obtain ⟨hg2, H⟩ := gg_e H
  refine GV.icmp_ge (tgt := 78) hg1 hg2 dX5_matchAll_4 (by decide) (fun c3 => ?_) (fun c3 => ?_)
  · have H := it_t H c3
    cases H
    exact GA.vret rfl dX5_matchAll_78 (by omega) (by omega) ⟨rfl, rfl⟩
  · have H := it_f H c3
    refine GA.iload_n dX5_matchAll_7 rfl ?_
    refine GA.bipush dX5_matchAll_8 rfl ?_
    refine GV.icmp_ge (tgt := 78) hg1 (by decide) dX5_matchAll_10 (by decide) (fun c4 => ?_) (fun c4 => ?_)
    · have H := it_t H c4
      cases H
      exact GA.vret rfl dX5_matchAll_78 (by omega) (by omega) ⟨rfl, rfl⟩
    · have H := it_f H c4
      refine GA.iconst dX5_matchAll_13 ?_
      refine GA.istore dX5_matchAll_14 (by decide) ?_
      refine GA.locals [(0, .ref (L 477)), (1, .int (J a1)), (2, .int (J a2)), (3, .int (J a3)), (4, .int (J 0))] ⟨rfl, rfl, rfl, rfl, rfl, trivial⟩ ?_
      exact ih_X5_matchAll_16 _ _ (a1) (a2) (a3) (0) _ _ H
set_option maxHeartbeats 4000000 in
set_option maxRecDepth 20000 in
theorem t_X5_matchAll_16 {l : Launch} {Z : XZ} {L : Nat → Nat} (n : Nat) (ih_X5_matchAll_0 : P_X5_matchAll_0 l Z L n) (ih_X5_matchAll_2 : P_X5_matchAll_2 l Z L n) (ih_X5_matchAll_16 : P_X5_matchAll_16 l Z L n) : P_X5_matchAll_16 l Z L (n + 1) := by
  intro d S a1 a2 a3 a4 x S1 H
  have H : b_X5_matchAll_16 n d (f_X5_matchAll n) S a1 a2 a3 a4 = some (x, S1) := H
  unfold b_X5_matchAll_16 at H
  refine GA.iload dX5_matchAll_16 rfl ?_
  refine GA.iload_n dX5_matchAll_18 rfl ?_
  obtain ⟨hg1, H⟩ := gg_e H
  obtain ⟨hg2, H⟩ := gg_e H
  refine GV.icmp_ge (tgt := 72) hg1 hg2 dX5_matchAll_19 (by decide) (fun c3 => ?_) (fun c3 => ?_)
  · have H := it_t H c3
    obtain ⟨x4, hx5, H⟩ := gv_e H
    refine GV.iinc hx5 dX5_matchAll_72 rfl (by decide) ?_
    refine GA.goto (tgt := 2) dX5_matchAll_75 (by decide) ?_
    refine GA.locals [(0, .ref (L 477)), (1, .int (J a1)), (2, .int (J a2)), (3, .int (J x4))] ⟨rfl, rfl, rfl, rfl, trivial⟩ ?_
    exact ih_X5_matchAll_2 _ _ (a1) (a2) (x4) _ _ H
  · have H := it_f H c3
    refine GA.iload dX5_matchAll_22 rfl ?_
    refine GA.bipush dX5_matchAll_24 rfl ?_
    refine GV.icmp_ge (tgt := 72) hg1 (by decide) dX5_matchAll_26 (by decide) (fun c6 => ?_) (fun c6 => ?_)
    · have H := it_t H c6
      obtain ⟨x7, hx8, H⟩ := gv_e H
      refine GV.iinc hx8 dX5_matchAll_72 rfl (by decide) ?_
      refine GA.goto (tgt := 2) dX5_matchAll_75 (by decide) ?_
      refine GA.locals [(0, .ref (L 477)), (1, .int (J a1)), (2, .int (J a2)), (3, .int (J x7))] ⟨rfl, rfl, rfl, rfl, trivial⟩ ?_
      exact ih_X5_matchAll_2 _ _ (a1) (a2) (x7) _ _ H
    · have H := it_f H c6
      refine GA.aload_n dX5_matchAll_29 rfl ?_
      refine GA.get xf_X5_20 dX5_matchAll_30 gs_477 (by decide) rfl ?_
      refine GA.iload_n dX5_matchAll_33 rfl ?_
      refine GA.bipush dX5_matchAll_34 rfl ?_
      obtain ⟨x9, hx10, H⟩ := gv_e H
      refine GV.imul hx10 dX5_matchAll_36 ?_
      refine GA.iload dX5_matchAll_37 rfl ?_
      obtain ⟨x11, hx12, H⟩ := gv_e H
      refine GV.iadd hx12 dX5_matchAll_39 ?_
      refine GA.aload_n dX5_matchAll_40 rfl ?_
      obtain ⟨z13, hx14, H⟩ := gv_e H
      refine GV.getR hx14 xf_X5_41 dX5_matchAll_41 gs_477 (by decide) rfl ?_
      refine GA.aload_n dX5_matchAll_44 rfl ?_
      refine GA.get xf_X5_28 dX5_matchAll_45 gs_477 (by decide) rfl ?_
      refine GA.iload_n dX5_matchAll_48 rfl ?_
      obtain ⟨hg15, H⟩ := gg_e H
      obtain ⟨x16, hx17, H⟩ := gv_e H
      refine GV.iald hg15 hx17 dX5_matchAll_49 gs_480 (by decide) ?_
      refine GA.aload_n dX5_matchAll_50 rfl ?_
      obtain ⟨z18, hx19, H⟩ := gv_e H
      refine GV.getR hx19 xf_X5_44 dX5_matchAll_51 gs_477 (by decide) rfl ?_
      refine GA.aload_n dX5_matchAll_54 rfl ?_
      refine GA.get xf_X5_31 dX5_matchAll_55 gs_477 (by decide) rfl ?_
      refine GA.iload dX5_matchAll_58 rfl ?_
      obtain ⟨hg20, H⟩ := gg_e H
      obtain ⟨x21, hx22, H⟩ := gv_e H
      refine GV.iald hg20 hx22 dX5_matchAll_60 gs_481 (by decide) ?_
      refine GA.iconst dX5_matchAll_61 ?_
      obtain ⟨hg23, H⟩ := gg_e H
      obtain ⟨hg24, H⟩ := gg_e H
      obtain ⟨x25, S_26, hc27, H⟩ := gc_e H
      refine GA.callN (m_X10_same hc27) xs_X5_62 dX5_matchAll_62 (gsT hg24) (by omega) rfl rfl (by omega) (by decide) rfl (Nat.le_of_ble_eq_true rfl) (by omega) (by omega) rfl (fun E S9 hx => hx.elim) (fun v S9 hq => ?_)
      obtain ⟨rfl, rfl⟩ := hq
      obtain ⟨hg28, H⟩ := gg_e H
      obtain ⟨hg29, H⟩ := gg_e H
      obtain ⟨S_30, hx31, H⟩ := gv_e H
      refine GV.zast hg28 hg29 hx31 dX5_matchAll_65 (fun _ => gs_478) (by decide) ?_
      obtain ⟨x32, hx33, H⟩ := gv_e H
      refine GV.iinc hx33 dX5_matchAll_66 rfl (by decide) ?_
      refine GA.goto (tgt := 16) dX5_matchAll_69 (by decide) ?_
      refine GA.locals [(0, .ref (L 477)), (1, .int (J a1)), (2, .int (J a2)), (3, .int (J a3)), (4, .int (J x32))] ⟨rfl, rfl, rfl, rfl, rfl, trivial⟩ ?_
      exact ih_X5_matchAll_16 _ _ (a1) (a2) (a3) (x32) _ _ H
theorem g_X5_matchAll {l : Launch} {Z : XZ} {L : Nat → Nat} : ∀ n, P_X5_matchAll_0 l Z L n ∧ P_X5_matchAll_2 l Z L n ∧ P_X5_matchAll_16 l Z L n
  | 0 => ⟨fun _ _ _ _ _ _ H => no_e H, fun _ _ _ _ _ _ _ H => no_e H, fun _ _ _ _ _ _ _ _ H => no_e H⟩
  | n + 1 => have ⟨h0, h1, h2⟩ := g_X5_matchAll (l := l) (Z := Z) (L := L) n
    ⟨t_X5_matchAll_0 n h0 h1 h2, t_X5_matchAll_2 n h0 h1 h2, t_X5_matchAll_16 n h0 h1 h2⟩
theorem m_X5_matchAll {l : Launch} {Z : XZ} {L : Nat → Nat} {n d : Nat} {S : GS} {a1 : Int} {a2 : Int} {x : Int} {S1 : GS} (H : f_X5_matchAll n d 0 S [a1, a2] = some (x, S1)) : GM l Z L yX5_matchAll cX5_matchAll 5 none [] d 0 0 [.ref (L 477), .int (J a1), .int (J a2)] S (fun v S' => v = none ∧ S1 = S') (fun _ _ => False) := GM.of (by decide) (Nat.le_of_ble_eq_true rfl) ((g_X5_matchAll n).1 _ _ _ _ _ _ H)

def P_X5_pairsFrom_0 (l : Launch) (Z : XZ) (L : Nat → Nat) (n : Nat) : Prop := ∀ (d : Nat) (S : GS) (a1 : Int) (a2 : Int) (x : Int) (S1 : GS), f_X5_pairsFrom n d 0 S [a1, a2] = some (x, S1) → GA l Z L yX5_pairsFrom cX5_pairsFrom 3 (some .int) [] d 0 0 (fun v S' => v = some (.int (J x)) ∧ S1 = S') (fun _ _ => False) 0 (gl [(0, .ref (L 477)), (1, .int (J a1)), (2, .int (J a2))]) [] S 0 0
theorem i_X5_pairsFrom {l : Launch} {Z : XZ} {L : Nat → Nat} {n : Nat} (ih : P_X5_pairsFrom_0 l Z L n) {d : Nat} {S : GS} {a1 : Int} {a2 : Int} {x : Int} {S1 : GS} (H : f_X5_pairsFrom n d 0 S [a1, a2] = some (x, S1)) : GM l Z L yX5_pairsFrom cX5_pairsFrom 3 (some .int) [] d 0 0 [.ref (L 477), .int (J a1), .int (J a2)] S (fun v S' => v = some (.int (J x)) ∧ S1 = S') (fun _ _ => False) := GM.of (by decide) (Nat.le_of_ble_eq_true rfl) (ih _ _ _ _ _ _ H)
set_option maxHeartbeats 4000000 in
set_option maxRecDepth 20000 in
theorem t_X5_pairsFrom_0 {l : Launch} {Z : XZ} {L : Nat → Nat} (n : Nat) (ih_X5_pairsFrom_0 : P_X5_pairsFrom_0 l Z L n) : P_X5_pairsFrom_0 l Z L (n + 1) := by
  intro d S a1 a2 x S1 H
  have H : b_X5_pairsFrom_0 n d (f_X5_pairsFrom n) S a1 a2 = some (x, S1) := H
  unfold b_X5_pairsFrom_0 at H
  refine GA.iload_n dX5_pairsFrom_0 rfl ?_
  obtain ⟨hg1, H⟩ := gg_e H
  refine GV.if_lt (tgt := 34) hg1 dX5_pairsFrom_1 (by decide) (fun c2 => ?_) (fun c2 => ?_)
  · have H := it_t H c2
    refine GA.iconst dX5_pairsFrom_34 ?_
    cases H
    exact GA.iret rfl dX5_pairsFrom_35 (by omega) (by omega) ⟨rfl, rfl⟩
  · have H := it_f H c2
    refine GA.iload_n dX5_pairsFrom_4 rfl ?_
    refine GA.bipush dX5_pairsFrom_5 rfl ?_
    refine GV.icmp_ge (tgt := 34) hg1 (by decide) dX5_pairsFrom_7 (by decide) (fun c3 => ?_) (fun c3 => ?_)
    · have H := it_t H c3
      refine GA.iconst dX5_pairsFrom_34 ?_
      cases H
      exact GA.iret rfl dX5_pairsFrom_35 (by omega) (by omega) ⟨rfl, rfl⟩
    · have H := it_f H c3
      refine GA.iload_n dX5_pairsFrom_10 rfl ?_
      obtain ⟨hg4, H⟩ := gg_e H
      refine GV.if_lt (tgt := 34) hg4 dX5_pairsFrom_11 (by decide) (fun c5 => ?_) (fun c5 => ?_)
      · have H := it_t H c5
        refine GA.iconst dX5_pairsFrom_34 ?_
        cases H
        exact GA.iret rfl dX5_pairsFrom_35 (by omega) (by omega) ⟨rfl, rfl⟩
      · have H := it_f H c5
        refine GA.iload_n dX5_pairsFrom_14 rfl ?_
        refine GA.bipush dX5_pairsFrom_15 rfl ?_
        refine GV.icmp_ge (tgt := 34) hg4 (by decide) dX5_pairsFrom_17 (by decide) (fun c6 => ?_) (fun c6 => ?_)
        · have H := it_t H c6
          refine GA.iconst dX5_pairsFrom_34 ?_
          cases H
          exact GA.iret rfl dX5_pairsFrom_35 (by omega) (by omega) ⟨rfl, rfl⟩
        · have H := it_f H c6
          refine GA.aload_n dX5_pairsFrom_20 rfl ?_
          refine GA.get xf_X5_24 dX5_pairsFrom_21 gs_477 (by decide) rfl ?_
          refine GA.iload_n dX5_pairsFrom_24 rfl ?_
          refine GA.bipush dX5_pairsFrom_25 rfl ?_
          obtain ⟨x7, hx8, H⟩ := gv_e H
          refine GV.imul hx8 dX5_pairsFrom_27 ?_
          refine GA.iload_n dX5_pairsFrom_28 rfl ?_
          obtain ⟨x9, hx10, H⟩ := gv_e H
          refine GV.iadd hx10 dX5_pairsFrom_29 ?_
          obtain ⟨hg11, H⟩ := gg_e H
          obtain ⟨x12, hx13, H⟩ := gv_e H
          refine GV.iald hg11 hx13 dX5_pairsFrom_30 gs_479 (by decide) ?_
          refine GA.goto (tgt := 35) dX5_pairsFrom_31 (by decide) ?_
          cases H
          exact GA.iret rfl dX5_pairsFrom_35 (by omega) (by omega) ⟨rfl, rfl⟩
theorem g_X5_pairsFrom {l : Launch} {Z : XZ} {L : Nat → Nat} : ∀ n, P_X5_pairsFrom_0 l Z L n
  | 0 => fun _ _ _ _ _ _ H => no_e H
  | n + 1 => t_X5_pairsFrom_0 n (g_X5_pairsFrom n)
theorem m_X5_pairsFrom {l : Launch} {Z : XZ} {L : Nat → Nat} {n d : Nat} {S : GS} {a1 : Int} {a2 : Int} {x : Int} {S1 : GS} (H : f_X5_pairsFrom n d 0 S [a1, a2] = some (x, S1)) : GM l Z L yX5_pairsFrom cX5_pairsFrom 3 (some .int) [] d 0 0 [.ref (L 477), .int (J a1), .int (J a2)] S (fun v S' => v = some (.int (J x)) ∧ S1 = S') (fun _ _ => False) := GM.of (by decide) (Nat.le_of_ble_eq_true rfl) ((g_X5_pairsFrom n) _ _ _ _ _ _ H)

def P_X5_countPairs_0 (l : Launch) (Z : XZ) (L : Nat → Nat) (n : Nat) : Prop := ∀ (d : Nat) (S : GS) (a1 : Int) (a2 : Int) (x : Int) (S1 : GS), f_X5_countPairs n d 0 S [a1, a2] = some (x, S1) → GA l Z L yX5_countPairs cX5_countPairs 6 none [] d 0 0 (fun v S' => v = none ∧ S1 = S') (fun _ _ => False) 0 (gl [(0, .ref (L 477)), (1, .int (J a1)), (2, .int (J a2))]) [] S 0 0
def P_X5_countPairs_7 (l : Launch) (Z : XZ) (L : Nat → Nat) (n : Nat) : Prop := ∀ (d : Nat) (S : GS) (a1 : Int) (a2 : Int) (a3 : Int) (x : Int) (S1 : GS), f_X5_countPairs n d 7 S [a1, a2, a3] = some (x, S1) → GA l Z L yX5_countPairs cX5_countPairs 6 none [] d 0 0 (fun v S' => v = none ∧ S1 = S') (fun _ _ => False) 7 (gl [(0, .ref (L 477)), (1, .int (J a1)), (2, .int (J a2)), (3, .int (J a3))]) [] S 0 0
def P_X5_countPairs_19 (l : Launch) (Z : XZ) (L : Nat → Nat) (n : Nat) : Prop := ∀ (d : Nat) (S : GS) (a1 : Int) (a2 : Int) (a3 : Int) (a4 : Int) (x : Int) (S1 : GS), f_X5_countPairs n d 19 S [a1, a2, a3, a4] = some (x, S1) → GA l Z L yX5_countPairs cX5_countPairs 6 none [] d 0 0 (fun v S' => v = none ∧ S1 = S') (fun _ _ => False) 19 (gl [(0, .ref (L 477)), (1, .int (J a1)), (2, .int (J a2)), (3, .int (J a3)), (4, .int (J a4))]) [] S 0 0
def P_X5_countPairs_94 (l : Launch) (Z : XZ) (L : Nat → Nat) (n : Nat) : Prop := ∀ (d : Nat) (S : GS) (a1 : Int) (a2 : Int) (a3 : Int) (a4 : Int) (a5 : Int) (x : Int) (S1 : GS), f_X5_countPairs n d 94 S [a1, a2, a3, a4, a5] = some (x, S1) → GA l Z L yX5_countPairs cX5_countPairs 6 none [] d 0 0 (fun v S' => v = none ∧ S1 = S') (fun _ _ => False) 94 (gl [(0, .ref (L 477)), (1, .int (J a1)), (2, .int (J a2)), (3, .int (J a3)), (4, .int (J a4)), (5, .int (J a5))]) [] S 0 0
theorem i_X5_countPairs {l : Launch} {Z : XZ} {L : Nat → Nat} {n : Nat} (ih : P_X5_countPairs_0 l Z L n) {d : Nat} {S : GS} {a1 : Int} {a2 : Int} {x : Int} {S1 : GS} (H : f_X5_countPairs n d 0 S [a1, a2] = some (x, S1)) : GM l Z L yX5_countPairs cX5_countPairs 6 none [] d 0 0 [.ref (L 477), .int (J a1), .int (J a2)] S (fun v S' => v = none ∧ S1 = S') (fun _ _ => False) := GM.of (by decide) (Nat.le_of_ble_eq_true rfl) (ih _ _ _ _ _ _ H)
set_option maxHeartbeats 4000000 in
set_option maxRecDepth 20000 in
theorem t_X5_countPairs_0 {l : Launch} {Z : XZ} {L : Nat → Nat} (n : Nat) (ih_X5_countPairs_0 : P_X5_countPairs_0 l Z L n) (ih_X5_countPairs_7 : P_X5_countPairs_7 l Z L n) (ih_X5_countPairs_19 : P_X5_countPairs_19 l Z L n) (ih_X5_countPairs_94 : P_X5_countPairs_94 l Z L n) : P_X5_countPairs_0 l Z L (n + 1) := by
  intro d S a1 a2 x S1 H
  have H : b_X5_countPairs_0 n d (f_X5_countPairs n) S a1 a2 = some (x, S1) := H
  unfold b_X5_countPairs_0 at H
  refine GA.iload_n dX5_countPairs_0 rfl ?_
  refine GA.bipush dX5_countPairs_1 rfl ?_
  obtain ⟨hg1, H⟩ := gg_e H
  obtain ⟨x2, hx3, H⟩ := gv_e H
  refine GV.mmin hg1 (by decide) hx3 xs_X5_129 dX5_countPairs_3 (Nat.le_of_ble_eq_true rfl) (by omega) (by omega) ?_
  refine GA.istore_n dX5_countPairs_6 (by decide) ?_
  refine GA.locals [(0, .ref (L 477)), (1, .int (J a1)), (2, .int (J a2)), (3, .int (J x2))] ⟨rfl, rfl, rfl, rfl, trivial⟩ ?_
  exact ih_X5_countPairs_7 _ _ (a1) (a2) (x2) _ _ H
set_option maxHeartbeats 4000000 in
set_option maxRecDepth 20000 in
theorem t_X5_countPairs_7 {l : Launch} {Z : XZ} {L : Nat → Nat} (n : Nat) (ih_X5_countPairs_0 : P_X5_countPairs_0 l Z L n) (ih_X5_countPairs_7 : P_X5_countPairs_7 l Z L n) (ih_X5_countPairs_19 : P_X5_countPairs_19 l Z L n) (ih_X5_countPairs_94 : P_X5_countPairs_94 l Z L n) : P_X5_countPairs_7 l Z L (n + 1) := by
  intro d S a1 a2 a3 x S1 H
  have H : b_X5_countPairs_7 n d (f_X5_countPairs n) S a1 a2 a3 = some (x, S1) := H
  unfold b_X5_countPairs_7 at H
  refine GA.iload_n dX5_countPairs_7 rfl ?_
  obtain ⟨hg1, H⟩ := gg_e H
  refine GV.if_lt (tgt := 120) hg1 dX5_countPairs_8 (by decide) (fun c2 => ?_) (fun c2 => ?_)
  · have H := it_t H c2
    cases H
    exact GA.vret rfl dX5_countPairs_120 (by omega) (by omega) ⟨rfl, rfl⟩
  · have H := it_f H c2
    refine GA.iload_n dX5_countPairs_11 rfl ?_
    refine GA.bipush dX5_countPairs_12 rfl ?_
    obtain ⟨hg3, H⟩ := gg_e H
    obtain ⟨x4, hx5, H⟩ := gv_e H
    refine GV.mmin hg3 (by decide) hx5 xs_X5_129 dX5_countPairs_14 (Nat.le_of_ble_eq_true rfl) (by omega) (by omega) ?_
    refine GA.istore dX5_countPairs_17 (by decide) ?_
    refine GA.locals [(0, .ref (L 477)), (1, .int (J a1)), (2, .int (J a2)), (3, .int (J a3)), (4, .int (J x4))] ⟨rfl, rfl, rfl, rfl, rfl, trivial⟩ ?_
    exact ih_X5_countPairs_19 _ _ (a1) (a2) (a3) (x4) _ _ H
set_option maxHeartbeats 4000000 in
set_option maxRecDepth 20000 in
theorem t_X5_countPairs_19 {l : Launch} {Z : XZ} {L : Nat → Nat} (n : Nat) (ih_X5_countPairs_0 : P_X5_countPairs_0 l Z L n) (ih_X5_countPairs_7 : P_X5_countPairs_7 l Z L n) (ih_X5_countPairs_19 : P_X5_countPairs_19 l Z L n) (ih_X5_countPairs_94 : P_X5_countPairs_94 l Z L n) : P_X5_countPairs_19 l Z L (n + 1) := by
  intro d S a1 a2 a3 a4 x S1 H
  have H : b_X5_countPairs_19 n d (f_X5_countPairs n) S a1 a2 a3 a4 = some (x, S1) := H
  unfold b_X5_countPairs_19 at H
  refine GA.iload dX5_countPairs_19 rfl ?_
  obtain ⟨hg1, H⟩ := gg_e H
  refine GV.if_lt (tgt := 114) hg1 dX5_countPairs_21 (by decide) (fun c2 => ?_) (fun c2 => ?_)
  · have H := it_t H c2
    obtain ⟨x3, hx4, H⟩ := gv_e H
    refine GV.iinc hx4 dX5_countPairs_114 rfl (by decide) ?_
    refine GA.goto (tgt := 7) dX5_countPairs_117 (by decide) ?_
    refine GA.locals [(0, .ref (L 477)), (1, .int (J a1)), (2, .int (J a2)), (3, .int (J x3))] ⟨rfl, rfl, rfl, rfl, trivial⟩ ?_
    exact ih_X5_countPairs_7 _ _ (a1) (a2) (x3) _ _ H
  · have H := it_f H c2
    refine GA.aload_n dX5_countPairs_24 rfl ?_
    refine GA.iload_n dX5_countPairs_25 rfl ?_
    refine GA.iconst dX5_countPairs_26 ?_
    obtain ⟨x5, hx6, H⟩ := gv_e H
    refine GV.iadd hx6 dX5_countPairs_27 ?_
    refine GA.iload dX5_countPairs_28 rfl ?_
    obtain ⟨hg7, H⟩ := gg_e H
    obtain ⟨x8, S_9, hc10, H⟩ := gc_e H
    refine GA.callV (m_X5_pairsFrom hc10) xs_X5_134 dX5_countPairs_30 gs_477 (by decide) rfl rfl (by omega) (by decide) rfl (Nat.le_of_ble_eq_true rfl) (by omega) (by omega) rfl (fun E S9 hx => hx.elim) (fun v S9 hq => ?_)
    obtain ⟨rfl, rfl⟩ := hq
    refine GA.aload_n dX5_countPairs_33 rfl ?_
    refine GA.iload_n dX5_countPairs_34 rfl ?_
    refine GA.iload dX5_countPairs_35 rfl ?_
    refine GA.iconst dX5_countPairs_37 ?_
    obtain ⟨x11, hx12, H⟩ := gv_e H
    refine GV.iadd hx12 dX5_countPairs_38 ?_
    obtain ⟨x13, S_14, hc15, H⟩ := gc_e H
    refine GA.callV (m_X5_pairsFrom hc15) xs_X5_134 dX5_countPairs_39 gs_477 (by decide) rfl rfl (by omega) (by decide) rfl (Nat.le_of_ble_eq_true rfl) (by omega) (by omega) rfl (fun E S9 hx => hx.elim) (fun v S9 hq => ?_)
    obtain ⟨rfl, rfl⟩ := hq
    obtain ⟨hg16, H⟩ := gg_e H
    obtain ⟨hg17, H⟩ := gg_e H
    obtain ⟨x18, hx19, H⟩ := gv_e H
    refine GV.mmax hg16 hg17 hx19 xs_X5_137 dX5_countPairs_42 (Nat.le_of_ble_eq_true rfl) (by omega) (by omega) ?_
    refine GA.istore dX5_countPairs_45 (by decide) ?_
    refine GA.iload_n dX5_countPairs_47 rfl ?_
    refine GA.iload_n dX5_countPairs_48 rfl ?_
    obtain ⟨hg20, H⟩ := gg_e H
    obtain ⟨hg21, H⟩ := gg_e H
    refine GV.icmp_eq (tgt := 58) hg20 hg21 dX5_countPairs_49 (by decide) (fun c22 => ?_) (fun c22 => ?_)
    · have H := it_t H c22
      refine GA.iconst dX5_countPairs_58 ?_
      refine GA.istore dX5_countPairs_59 (by decide) ?_
      refine GA.goto (tgt := 94) dX5_countPairs_61 (by decide) ?_
      refine GA.locals [(0, .ref (L 477)), (1, .int (J a1)), (2, .int (J a2)), (3, .int (J a3)), (4, .int (J a4)), (5, .int (J 0))] ⟨rfl, rfl, rfl, rfl, rfl, rfl, trivial⟩ ?_
      exact ih_X5_countPairs_94 _ _ (a1) (a2) (a3) (a4) (0) _ _ H
    · have H := it_f H c22
      refine GA.iload dX5_countPairs_52 rfl ?_
      refine GA.iload_n dX5_countPairs_54 rfl ?_
      obtain ⟨hg23, H⟩ := gg_e H
      refine GV.icmp_ne (tgt := 64) hg1 hg23 dX5_countPairs_55 (by decide) (fun c24 => ?_) (fun c24 => ?_)
      · have H := it_t H c24
        refine GA.aload_n dX5_countPairs_64 rfl ?_
        refine GA.get xf_X5_20 dX5_countPairs_65 gs_477 (by decide) rfl ?_
        refine GA.iload_n dX5_countPairs_68 rfl ?_
        refine GA.bipush dX5_countPairs_69 rfl ?_
        obtain ⟨x25, hx26, H⟩ := gv_e H
        refine GV.imul hx26 dX5_countPairs_71 ?_
        refine GA.iload dX5_countPairs_72 rfl ?_
        obtain ⟨x27, hx28, H⟩ := gv_e H
        refine GV.iadd hx28 dX5_countPairs_74 ?_
        obtain ⟨hg29, H⟩ := gg_e H
        obtain ⟨x30, hx31, H⟩ := gv_e H
        refine GV.zald hg29 hx31 dX5_countPairs_75 gs_478 (by decide) ?_
        obtain ⟨hg32, H⟩ := gg_e H
        refine GV.if_eq (tgt := 94) hg32 dX5_countPairs_76 (by decide) (fun c33 => ?_) (fun c33 => ?_)
        · have H := it_t H c33
          refine GA.locals [(0, .ref (L 477)), (1, .int (J a1)), (2, .int (J a2)), (3, .int (J a3)), (4, .int (J a4)), (5, .int (J x18))] ⟨rfl, rfl, rfl, rfl, rfl, rfl, trivial⟩ ?_
          exact ih_X5_countPairs_94 _ _ (a1) (a2) (a3) (a4) (x18) _ _ H
        · have H := it_f H c33
          refine GA.aload_n dX5_countPairs_79 rfl ?_
          refine GA.iload_n dX5_countPairs_80 rfl ?_
          refine GA.iconst dX5_countPairs_81 ?_
          obtain ⟨x34, hx35, H⟩ := gv_e H
          refine GV.iadd hx35 dX5_countPairs_82 ?_
          refine GA.iload dX5_countPairs_83 rfl ?_
          refine GA.iconst dX5_countPairs_85 ?_
          obtain ⟨x36, hx37, H⟩ := gv_e H
          refine GV.iadd hx37 dX5_countPairs_86 ?_
          obtain ⟨x38, S_39, hc40, H⟩ := gc_e H
          refine GA.callV (m_X5_pairsFrom hc40) xs_X5_134 dX5_countPairs_87 gs_477 (by decide) rfl rfl (by omega) (by decide) rfl (Nat.le_of_ble_eq_true rfl) (by omega) (by omega) rfl (fun E S9 hx => hx.elim) (fun v S9 hq => ?_)
          obtain ⟨rfl, rfl⟩ := hq
          refine GA.iconst dX5_countPairs_90 ?_
          obtain ⟨x41, hx42, H⟩ := gv_e H
          refine GV.iadd hx42 dX5_countPairs_91 ?_
          refine GA.istore dX5_countPairs_92 (by decide) ?_
          refine GA.locals [(0, .ref (L 477)), (1, .int (J a1)), (2, .int (J a2)), (3, .int (J a3)), (4, .int (J a4)), (5, .int (J x41))] ⟨rfl, rfl, rfl, rfl, rfl, rfl, trivial⟩ ?_
          exact ih_X5_countPairs_94 _ _ (a1) (a2) (a3) (a4) (x41) _ _ H
      · have H := it_f H c24
        refine GA.iconst dX5_countPairs_58 ?_
        refine GA.istore dX5_countPairs_59 (by decide) ?_
        refine GA.goto (tgt := 94) dX5_countPairs_61 (by decide) ?_
        refine GA.locals [(0, .ref (L 477)), (1, .int (J a1)), (2, .int (J a2)), (3, .int (J a3)), (4, .int (J a4)), (5, .int (J 0))] ⟨rfl, rfl, rfl, rfl, rfl, rfl, trivial⟩ ?_
        exact ih_X5_countPairs_94 _ _ (a1) (a2) (a3) (a4) (0) _ _ H
set_option maxHeartbeats 4000000 in
set_option maxRecDepth 20000 in
theorem t_X5_countPairs_94 {l : Launch} {Z : XZ} {L : Nat → Nat} (n : Nat) (ih_X5_countPairs_0 : P_X5_countPairs_0 l Z L n) (ih_X5_countPairs_7 : P_X5_countPairs_7 l Z L n) (ih_X5_countPairs_19 : P_X5_countPairs_19 l Z L n) (ih_X5_countPairs_94 : P_X5_countPairs_94 l Z L n) : P_X5_countPairs_94 l Z L (n + 1) := by
  intro d S a1 a2 a3 a4 a5 x S1 H
  have H : b_X5_countPairs_94 n d (f_X5_countPairs n) S a1 a2 a3 a4 a5 = some (x, S1) := H
  unfold b_X5_countPairs_94 at H
  refine GA.aload_n dX5_countPairs_94 rfl ?_
  refine GA.get xf_X5_24 dX5_countPairs_95 gs_477 (by decide) rfl ?_
  refine GA.iload_n dX5_countPairs_98 rfl ?_
  refine GA.bipush dX5_countPairs_99 rfl ?_
  obtain ⟨x1, hx2, H⟩ := gv_e H
  refine GV.imul hx2 dX5_countPairs_101 ?_
  refine GA.iload dX5_countPairs_102 rfl ?_
  obtain ⟨x3, hx4, H⟩ := gv_e H
  refine GV.iadd hx4 dX5_countPairs_104 ?_
  refine GA.iload dX5_countPairs_105 rfl ?_
  obtain ⟨hg5, H⟩ := gg_e H
  obtain ⟨S_6, hx7, H⟩ := gv_e H
  refine GV.iast hg5 hx7 dX5_countPairs_107 (fun _ => gs_479) (by decide) ?_
  obtain ⟨x8, hx9, H⟩ := gv_e H
  refine GV.iinc hx9 dX5_countPairs_108 rfl (by decide) ?_
  refine GA.goto (tgt := 19) dX5_countPairs_111 (by decide) ?_
  refine GA.locals [(0, .ref (L 477)), (1, .int (J a1)), (2, .int (J a2)), (3, .int (J a3)), (4, .int (J x8))] ⟨rfl, rfl, rfl, rfl, rfl, trivial⟩ ?_
  exact ih_X5_countPairs_19 _ _ (a1) (a2) (a3) (x8) _ _ H
theorem g_X5_countPairs {l : Launch} {Z : XZ} {L : Nat → Nat} : ∀ n, P_X5_countPairs_0 l Z L n ∧ P_X5_countPairs_7 l Z L n ∧ P_X5_countPairs_19 l Z L n ∧ P_X5_countPairs_94 l Z L n
  | 0 => ⟨fun _ _ _ _ _ _ H => no_e H, fun _ _ _ _ _ _ _ H => no_e H, fun _ _ _ _ _ _ _ _ H => no_e H, fun _ _ _ _ _ _ _ _ _ H => no_e H⟩
  | n + 1 => have ⟨h0, h1, h2, h3⟩ := g_X5_countPairs (l := l) (Z := Z) (L := L) n
    ⟨t_X5_countPairs_0 n h0 h1 h2 h3, t_X5_countPairs_7 n h0 h1 h2 h3, t_X5_countPairs_19 n h0 h1 h2 h3, t_X5_countPairs_94 n h0 h1 h2 h3⟩
theorem m_X5_countPairs {l : Launch} {Z : XZ} {L : Nat → Nat} {n d : Nat} {S : GS} {a1 : Int} {a2 : Int} {x : Int} {S1 : GS} (H : f_X5_countPairs n d 0 S [a1, a2] = some (x, S1)) : GM l Z L yX5_countPairs cX5_countPairs 6 none [] d 0 0 [.ref (L 477), .int (J a1), .int (J a2)] S (fun v S' => v = none ∧ S1 = S') (fun _ _ => False) := GM.of (by decide) (Nat.le_of_ble_eq_true rfl) ((g_X5_countPairs n).1 _ _ _ _ _ _ H)

def P_X5_markPairs_0 (l : Launch) (Z : XZ) (L : Nat → Nat) (n : Nat) : Prop := ∀ (d : Nat) (S : GS) (a1 : Int) (a2 : Int) (x : Int) (S1 : GS), f_X5_markPairs n d 0 S [a1, a2] = some (x, S1) → GA l Z L yX5_markPairs cX5_markPairs 6 none [] d 0 0 (fun v S' => v = none ∧ S1 = S') (fun _ _ => False) 0 (gl [(0, .ref (L 477)), (1, .int (J a1)), (2, .int (J a2))]) [] S 0 0
def P_X5_markPairs_8 (l : Launch) (Z : XZ) (L : Nat → Nat) (n : Nat) : Prop := ∀ (d : Nat) (S : GS) (a1 : Int) (a2 : Int) (a3 : Int) (a4 : Int) (a5 : Int) (x : Int) (S1 : GS), f_X5_markPairs n d 8 S [a1, a2, a3, a4, a5] = some (x, S1) → GA l Z L yX5_markPairs cX5_markPairs 6 none [] d 0 0 (fun v S' => v = none ∧ S1 = S') (fun _ _ => False) 8 (gl [(0, .ref (L 477)), (1, .int (J a1)), (2, .int (J a2)), (3, .int (J a3)), (4, .int (J a4)), (5, .int (J a5))]) [] S 0 0
theorem i_X5_markPairs {l : Launch} {Z : XZ} {L : Nat → Nat} {n : Nat} (ih : P_X5_markPairs_0 l Z L n) {d : Nat} {S : GS} {a1 : Int} {a2 : Int} {x : Int} {S1 : GS} (H : f_X5_markPairs n d 0 S [a1, a2] = some (x, S1)) : GM l Z L yX5_markPairs cX5_markPairs 6 none [] d 0 0 [.ref (L 477), .int (J a1), .int (J a2)] S (fun v S' => v = none ∧ S1 = S') (fun _ _ => False) := GM.of (by decide) (Nat.le_of_ble_eq_true rfl) (ih _ _ _ _ _ _ H)
set_option maxHeartbeats 4000000 in
set_option maxRecDepth 20000 in
theorem t_X5_markPairs_0 {l : Launch} {Z : XZ} {L : Nat → Nat} (n : Nat) (ih_X5_markPairs_0 : P_X5_markPairs_0 l Z L n) (ih_X5_markPairs_8 : P_X5_markPairs_8 l Z L n) : P_X5_markPairs_0 l Z L (n + 1) := by
  intro d S a1 a2 x S1 H
  have H : b_X5_markPairs_0 n d (f_X5_markPairs n) S a1 a2 = some (x, S1) := H
  unfold b_X5_markPairs_0 at H
  refine GA.iconst dX5_markPairs_0 ?_
  refine GA.istore_n dX5_markPairs_1 (by decide) ?_
  refine GA.iconst dX5_markPairs_2 ?_
  refine GA.istore dX5_markPairs_3 (by decide) ?_
  refine GA.iconst dX5_markPairs_5 ?_
  refine GA.istore dX5_markPairs_6 (by decide) ?_
  refine GA.locals [(0, .ref (L 477)), (1, .int (J a1)), (2, .int (J a2)), (3, .int (J 0)), (4, .int (J 0)), (5, .int (J 0))] ⟨rfl, rfl, rfl, rfl, rfl, rfl, trivial⟩ ?_
  exact ih_X5_markPairs_8 _ _ (a1) (a2) (0) (0) (0) _ _ H
set_option maxHeartbeats 4000000 in
set_option maxRecDepth 20000 in
theorem t_X5_markPairs_8 {l : Launch} {Z : XZ} {L : Nat → Nat} (n : Nat) (ih_X5_markPairs_0 : P_X5_markPairs_0 l Z L n) (ih_X5_markPairs_8 : P_X5_markPairs_8 l Z L n) : P_X5_markPairs_8 l Z L (n + 1) := by
  intro d S a1 a2 a3 a4 a5 x S1 H
  have H : b_X5_markPairs_8 n d (f_X5_markPairs n) S a1 a2 a3 a4 a5 = some (x, S1) := H
  unfold b_X5_markPairs_8 at H
  refine GA.iload dX5_markPairs_8 rfl ?_
  refine GA.sipush dX5_markPairs_10 rfl ?_
  obtain ⟨hg1, H⟩ := gg_e H
  refine GV.icmp_ge (tgt := 113) hg1 (by decide) dX5_markPairs_13 (by decide) (fun c2 => ?_) (fun c2 => ?_)
  · have H := it_t H c2
    cases H
    exact GA.vret rfl dX5_markPairs_113 (by omega) (by omega) ⟨rfl, rfl⟩
  · have H := it_f H c2
    refine GA.iload_n dX5_markPairs_16 rfl ?_
    refine GA.iload_n dX5_markPairs_17 rfl ?_
    obtain ⟨hg3, H⟩ := gg_e H
    obtain ⟨hg4, H⟩ := gg_e H
    refine GV.icmp_ge (tgt := 113) hg3 hg4 dX5_markPairs_18 (by decide) (fun c5 => ?_) (fun c5 => ?_)
    · have H := it_t H c5
      cases H
      exact GA.vret rfl dX5_markPairs_113 (by omega) (by omega) ⟨rfl, rfl⟩
    · have H := it_f H c5
      refine GA.iload dX5_markPairs_21 rfl ?_
      refine GA.iload_n dX5_markPairs_23 rfl ?_
      obtain ⟨hg6, H⟩ := gg_e H
      obtain ⟨hg7, H⟩ := gg_e H
      refine GV.icmp_ge (tgt := 113) hg6 hg7 dX5_markPairs_24 (by decide) (fun c8 => ?_) (fun c8 => ?_)
      · have H := it_t H c8
        cases H
        exact GA.vret rfl dX5_markPairs_113 (by omega) (by omega) ⟨rfl, rfl⟩
      · have H := it_f H c8
        refine GA.iload_n dX5_markPairs_27 rfl ?_
        refine GA.bipush dX5_markPairs_28 rfl ?_
        refine GV.icmp_ge (tgt := 113) hg3 (by decide) dX5_markPairs_30 (by decide) (fun c9 => ?_) (fun c9 => ?_)
        · have H := it_t H c9
          cases H
          exact GA.vret rfl dX5_markPairs_113 (by omega) (by omega) ⟨rfl, rfl⟩
        · have H := it_f H c9
          refine GA.iload dX5_markPairs_33 rfl ?_
          refine GA.bipush dX5_markPairs_35 rfl ?_
          refine GV.icmp_ge (tgt := 113) hg6 (by decide) dX5_markPairs_37 (by decide) (fun c10 => ?_) (fun c10 => ?_)
          · have H := it_t H c10
            cases H
            exact GA.vret rfl dX5_markPairs_113 (by omega) (by omega) ⟨rfl, rfl⟩
          · have H := it_f H c10
            refine GA.aload_n dX5_markPairs_40 rfl ?_
            refine GA.get xf_X5_20 dX5_markPairs_41 gs_477 (by decide) rfl ?_
            refine GA.iload_n dX5_markPairs_44 rfl ?_
            refine GA.bipush dX5_markPairs_45 rfl ?_
            obtain ⟨x11, hx12, H⟩ := gv_e H
            refine GV.imul hx12 dX5_markPairs_47 ?_
            refine GA.iload dX5_markPairs_48 rfl ?_
            obtain ⟨x13, hx14, H⟩ := gv_e H
            refine GV.iadd hx14 dX5_markPairs_50 ?_
            obtain ⟨hg15, H⟩ := gg_e H
            obtain ⟨x16, hx17, H⟩ := gv_e H
            refine GV.zald hg15 hx17 dX5_markPairs_51 gs_478 (by decide) ?_
            obtain ⟨hg18, H⟩ := gg_e H
            refine GV.if_eq (tgt := 79) hg18 dX5_markPairs_52 (by decide) (fun c19 => ?_) (fun c19 => ?_)
            · have H := it_t H c19
              refine GA.aload_n dX5_markPairs_79 rfl ?_
              refine GA.iload_n dX5_markPairs_80 rfl ?_
              refine GA.iconst dX5_markPairs_81 ?_
              obtain ⟨x20, hx21, H⟩ := gv_e H
              refine GV.iadd hx21 dX5_markPairs_82 ?_
              refine GA.iload dX5_markPairs_83 rfl ?_
              obtain ⟨hg22, H⟩ := gg_e H
              obtain ⟨x23, S_24, hc25, H⟩ := gc_e H
              refine GA.callV (m_X5_pairsFrom hc25) xs_X5_134 dX5_markPairs_85 gs_477 (by decide) rfl rfl (by omega) (by decide) rfl (Nat.le_of_ble_eq_true rfl) (by omega) (by omega) rfl (fun E S9 hx => hx.elim) (fun v S9 hq => ?_)
              obtain ⟨rfl, rfl⟩ := hq
              refine GA.aload_n dX5_markPairs_88 rfl ?_
              refine GA.iload_n dX5_markPairs_89 rfl ?_
              refine GA.iload dX5_markPairs_90 rfl ?_
              obtain ⟨x26, S_27, hc28, H⟩ := gc_e H
              refine GA.callV (m_X5_pairsFrom hc28) xs_X5_134 dX5_markPairs_92 gs_477 (by decide) rfl rfl (by omega) (by decide) rfl (Nat.le_of_ble_eq_true rfl) (by omega) (by omega) rfl (fun E S9 hx => hx.elim) (fun v S9 hq => ?_)
              obtain ⟨rfl, rfl⟩ := hq
              obtain ⟨hg29, H⟩ := gg_e H
              obtain ⟨hg30, H⟩ := gg_e H
              refine GV.icmp_ne (tgt := 104) hg29 hg30 dX5_markPairs_95 (by decide) (fun c31 => ?_) (fun c31 => ?_)
              · have H := it_t H c31
                obtain ⟨x32, hx33, H⟩ := gv_e H
                refine GV.iinc hx33 dX5_markPairs_104 rfl (by decide) ?_
                obtain ⟨x34, hx35, H⟩ := gv_e H
                refine GV.iinc hx35 dX5_markPairs_107 rfl (by decide) ?_
                refine GA.goto (tgt := 8) dX5_markPairs_110 (by decide) ?_
                refine GA.locals [(0, .ref (L 477)), (1, .int (J a1)), (2, .int (J a2)), (3, .int (J a3)), (4, .int (J x32)), (5, .int (J x34))] ⟨rfl, rfl, rfl, rfl, rfl, rfl, trivial⟩ ?_
                exact ih_X5_markPairs_8 _ _ (a1) (a2) (a3) (x32) (x34) _ _ H
              · have H := it_f H c31
                obtain ⟨x36, hx37, H⟩ := gv_e H
                refine GV.iinc hx37 dX5_markPairs_98 rfl (by decide) ?_
                refine GA.goto (tgt := 107) dX5_markPairs_101 (by decide) ?_
                obtain ⟨x38, hx39, H⟩ := gv_e H
                refine GV.iinc hx39 dX5_markPairs_107 rfl (by decide) ?_
                refine GA.goto (tgt := 8) dX5_markPairs_110 (by decide) ?_
                refine GA.locals [(0, .ref (L 477)), (1, .int (J a1)), (2, .int (J a2)), (3, .int (J x36)), (4, .int (J a4)), (5, .int (J x38))] ⟨rfl, rfl, rfl, rfl, rfl, rfl, trivial⟩ ?_
                exact ih_X5_markPairs_8 _ _ (a1) (a2) (x36) (a4) (x38) _ _ H
            · have H := it_f H c19
              refine GA.aload_n dX5_markPairs_55 rfl ?_
              refine GA.get xf_X5_28 dX5_markPairs_56 gs_477 (by decide) rfl ?_
              refine GA.iload_n dX5_markPairs_59 rfl ?_
              refine GA.iconst dX5_markPairs_60 ?_
              obtain ⟨hg40, H⟩ := gg_e H
              obtain ⟨S_41, hx42, H⟩ := gv_e H
              refine GV.iast hg40 hx42 dX5_markPairs_61 (fun _ => gs_480) (by decide) ?_
              refine GA.aload_n dX5_markPairs_62 rfl ?_
              refine GA.get xf_X5_31 dX5_markPairs_63 gs_477 (by decide) rfl ?_
              refine GA.iload dX5_markPairs_66 rfl ?_
              refine GA.iconst dX5_markPairs_68 ?_
              obtain ⟨hg43, H⟩ := gg_e H
              obtain ⟨S_44, hx45, H⟩ := gv_e H
              refine GV.iast hg43 hx45 dX5_markPairs_69 (fun _ => gs_481) (by decide) ?_
              obtain ⟨x46, hx47, H⟩ := gv_e H
              refine GV.iinc hx47 dX5_markPairs_70 rfl (by decide) ?_
              obtain ⟨x48, hx49, H⟩ := gv_e H
              refine GV.iinc hx49 dX5_markPairs_73 rfl (by decide) ?_
              refine GA.goto (tgt := 107) dX5_markPairs_76 (by decide) ?_
              obtain ⟨x50, hx51, H⟩ := gv_e H
              refine GV.iinc hx51 dX5_markPairs_107 rfl (by decide) ?_
              refine GA.goto (tgt := 8) dX5_markPairs_110 (by decide) ?_
              refine GA.locals [(0, .ref (L 477)), (1, .int (J a1)), (2, .int (J a2)), (3, .int (J x46)), (4, .int (J x48)), (5, .int (J x50))] ⟨rfl, rfl, rfl, rfl, rfl, rfl, trivial⟩ ?_
              exact ih_X5_markPairs_8 _ _ (a1) (a2) (x46) (x48) (x50) _ _ H
theorem g_X5_markPairs {l : Launch} {Z : XZ} {L : Nat → Nat} : ∀ n, P_X5_markPairs_0 l Z L n ∧ P_X5_markPairs_8 l Z L n
  | 0 => ⟨fun _ _ _ _ _ _ H => no_e H, fun _ _ _ _ _ _ _ _ _ H => no_e H⟩
  | n + 1 => have ⟨h0, h1⟩ := g_X5_markPairs (l := l) (Z := Z) (L := L) n
    ⟨t_X5_markPairs_0 n h0 h1, t_X5_markPairs_8 n h0 h1⟩
theorem m_X5_markPairs {l : Launch} {Z : XZ} {L : Nat → Nat} {n d : Nat} {S : GS} {a1 : Int} {a2 : Int} {x : Int} {S1 : GS} (H : f_X5_markPairs n d 0 S [a1, a2] = some (x, S1)) : GM l Z L yX5_markPairs cX5_markPairs 6 none [] d 0 0 [.ref (L 477), .int (J a1), .int (J a2)] S (fun v S' => v = none ∧ S1 = S') (fun _ _ => False) := GM.of (by decide) (Nat.le_of_ble_eq_true rfl) ((g_X5_markPairs n).1 _ _ _ _ _ _ H)

def P_X5_addAtPlace_0 (l : Launch) (Z : XZ) (L : Nat → Nat) (n : Nat) : Prop := ∀ (d : Nat) (S : GS) (a1 : Nat) (a2 : Int) (a3 : Int) (x : Int) (S1 : GS), f_X5_addAtPlace n d 0 S [((a1 : Nat) : Int), a2, a3] = some (x, S1) → GA l Z L yX5_addAtPlace cX5_addAtPlace 4 none [] d 0 0 (fun v S' => v = none ∧ S1 = S') (fun _ _ => False) 0 (gl [(0, .ref (L 477)), (1, .ref (Z.2.1 a1)), (2, .int (J a2)), (3, .int (J a3))]) [] S 0 0
theorem i_X5_addAtPlace {l : Launch} {Z : XZ} {L : Nat → Nat} {n : Nat} (ih : P_X5_addAtPlace_0 l Z L n) {d : Nat} {S : GS} {a1 : Nat} {a2 : Int} {a3 : Int} {x : Int} {S1 : GS} (H : f_X5_addAtPlace n d 0 S [((a1 : Nat) : Int), a2, a3] = some (x, S1)) : GM l Z L yX5_addAtPlace cX5_addAtPlace 4 none [] d 0 0 [.ref (L 477), .ref (Z.2.1 a1), .int (J a2), .int (J a3)] S (fun v S' => v = none ∧ S1 = S') (fun _ _ => False) := GM.of (by decide) (Nat.le_of_ble_eq_true rfl) (ih _ _ _ _ _ _ _ H)
set_option maxHeartbeats 4000000 in
set_option maxRecDepth 20000 in
theorem t_X5_addAtPlace_0 {l : Launch} {Z : XZ} {L : Nat → Nat} (n : Nat) (ih_X5_addAtPlace_0 : P_X5_addAtPlace_0 l Z L n) : P_X5_addAtPlace_0 l Z L (n + 1) := by
  intro d S a1 a2 a3 x S1 H
  have H : b_X5_addAtPlace_0 n d (f_X5_addAtPlace n) S a1 a2 a3 = some (x, S1) := H
  unfold b_X5_addAtPlace_0 at H
  refine GA.aload_n dX5_addAtPlace_0 rfl ?_
  refine GA.get xf_X5_14 dX5_addAtPlace_1 gs_477 (by decide) rfl ?_
  refine GA.bipush dX5_addAtPlace_4 rfl ?_
  obtain ⟨hg1, H⟩ := gg_e H
  obtain ⟨x2, S_3, hc4, H⟩ := gc_e H
  refine GA.callV (m_X9_add hc4) xs_X5_124 dX5_addAtPlace_6 (gsS (by decide)) (by decide) rfl rfl (by omega) (by decide) rfl (Nat.le_of_ble_eq_true rfl) (by omega) (by omega) rfl (fun E S9 hx => hx.elim) (fun v S9 hq => ?_)
  obtain ⟨rfl, rfl⟩ := hq
  refine GA.aload_n dX5_addAtPlace_9 rfl ?_
  refine GA.get xf_X5_14 dX5_addAtPlace_10 gs_477 (by decide) rfl ?_
  refine GA.iload_n dX5_addAtPlace_13 rfl ?_
  obtain ⟨x5, S_6, hc7, H⟩ := gc_e H
  refine GA.callV (m_X9_addNumber hc7) xs_X5_126 dX5_addAtPlace_14 (gsS (by decide)) (by decide) rfl rfl (by omega) (by decide) rfl (Nat.le_of_ble_eq_true rfl) (by omega) (by omega) rfl (fun E S9 hx => hx.elim) (fun v S9 hq => ?_)
  obtain ⟨rfl, rfl⟩ := hq
  refine GA.aload_n dX5_addAtPlace_17 rfl ?_
  obtain ⟨z8, hx9, H⟩ := gv_e H
  refine GV.getR hx9 xf_X5_37 dX5_addAtPlace_18 gs_477 (by decide) rfl ?_
  refine GA.aload_n dX5_addAtPlace_21 rfl ?_
  refine GA.aload_n dX5_addAtPlace_22 rfl ?_
  refine GA.get xf_X5_14 dX5_addAtPlace_23 gs_477 (by decide) rfl ?_
  refine GA.aload_n dX5_addAtPlace_26 rfl ?_
  obtain ⟨z10, hx11, H⟩ := gv_e H
  refine GV.getR hx11 xf_X5_44 dX5_addAtPlace_27 gs_477 (by decide) rfl ?_
  refine GA.iload_n dX5_addAtPlace_30 rfl ?_
  obtain ⟨x12, S_13, hc14, H⟩ := gc_e H
  refine GA.callS (m_X5_add hc14) xs_X5_79 dX5_addAtPlace_31 rfl (by omega) (by decide) rfl (Nat.le_of_ble_eq_true rfl) (by omega) (by omega) rfl (fun E S9 hx => hx.elim) (fun v S9 hq => ?_)
  obtain ⟨rfl, rfl⟩ := hq
  cases H
  exact GA.vret rfl dX5_addAtPlace_34 (by omega) (by omega) ⟨rfl, rfl⟩
theorem g_X5_addAtPlace {l : Launch} {Z : XZ} {L : Nat → Nat} : ∀ n, P_X5_addAtPlace_0 l Z L n
  | 0 => fun _ _ _ _ _ _ _ H => no_e H
  | n + 1 => t_X5_addAtPlace_0 n (g_X5_addAtPlace n)
theorem m_X5_addAtPlace {l : Launch} {Z : XZ} {L : Nat → Nat} {n d : Nat} {S : GS} {a1 : Nat} {a2 : Int} {a3 : Int} {x : Int} {S1 : GS} (H : f_X5_addAtPlace n d 0 S [((a1 : Nat) : Int), a2, a3] = some (x, S1)) : GM l Z L yX5_addAtPlace cX5_addAtPlace 4 none [] d 0 0 [.ref (L 477), .ref (Z.2.1 a1), .int (J a2), .int (J a3)] S (fun v S' => v = none ∧ S1 = S') (fun _ _ => False) := GM.of (by decide) (Nat.le_of_ble_eq_true rfl) ((g_X5_addAtPlace n) _ _ _ _ _ _ _ H)

def P_X5_betweenRows_0 (l : Launch) (Z : XZ) (L : Nat → Nat) (n : Nat) : Prop := ∀ (d : Nat) (S : GS) (a1 : Int) (a2 : Int) (x : Int) (S1 : GS), f_X5_betweenRows n d 0 S [a1, a2] = some (x, S1) → GA l Z L yX5_betweenRows cX5_betweenRows 7 none [] d 0 0 (fun v S' => v = none ∧ S1 = S') (fun _ _ => False) 0 (gl [(0, .ref (L 477)), (1, .int (J a1)), (2, .int (J a2))]) [] S 0 0
def P_X5_betweenRows_62 (l : Launch) (Z : XZ) (L : Nat → Nat) (n : Nat) : Prop := ∀ (d : Nat) (S : GS) (a4 : Int) (a5 : Int) (a6 : Int) (x : Int) (S1 : GS), f_X5_betweenRows n d 62 S [a4, a5, a6] = some (x, S1) → GA l Z L yX5_betweenRows cX5_betweenRows 7 none [] d 0 0 (fun v S' => v = none ∧ S1 = S') (fun _ _ => False) 62 (gl [(0, .ref (L 477)), (4, .int (J a4)), (5, .int (J a5)), (6, .int (J a6))]) [] S 0 0
def P_X5_betweenRows_112 (l : Launch) (Z : XZ) (L : Nat → Nat) (n : Nat) : Prop := ∀ (d : Nat) (S : GS) (a4 : Int) (a5 : Int) (a6 : Int) (x : Int) (S1 : GS), f_X5_betweenRows n d 112 S [a4, a5, a6] = some (x, S1) → GA l Z L yX5_betweenRows cX5_betweenRows 7 none [] d 0 0 (fun v S' => v = none ∧ S1 = S') (fun _ _ => False) 112 (gl [(0, .ref (L 477)), (4, .int (J a4)), (5, .int (J a5)), (6, .int (J a6))]) [] S 0 0
theorem i_X5_betweenRows {l : Launch} {Z : XZ} {L : Nat → Nat} {n : Nat} (ih : P_X5_betweenRows_0 l Z L n) {d : Nat} {S : GS} {a1 : Int} {a2 : Int} {x : Int} {S1 : GS} (H : f_X5_betweenRows n d 0 S [a1, a2] = some (x, S1)) : GM l Z L yX5_betweenRows cX5_betweenRows 7 none [] d 0 0 [.ref (L 477), .int (J a1), .int (J a2)] S (fun v S' => v = none ∧ S1 = S') (fun _ _ => False) := GM.of (by decide) (Nat.le_of_ble_eq_true rfl) (ih _ _ _ _ _ _ H)
set_option maxHeartbeats 4000000 in
set_option maxRecDepth 20000 in
theorem t_X5_betweenRows_0 {l : Launch} {Z : XZ} {L : Nat → Nat} (n : Nat) (ih_X5_betweenRows_0 : P_X5_betweenRows_0 l Z L n) (ih_X5_betweenRows_62 : P_X5_betweenRows_62 l Z L n) (ih_X5_betweenRows_112 : P_X5_betweenRows_112 l Z L n) : P_X5_betweenRows_0 l Z L (n + 1) := by
  intro d S a1 a2 x S1 H
  have H : b_X5_betweenRows_0 n d (f_X5_betweenRows n) S a1 a2 = some (x, S1) := H
  unfold b_X5_betweenRows_0 at H
  refine GA.aload_n dX5_betweenRows_0 rfl ?_
  obtain ⟨z1, hx2, H⟩ := gv_e H
  refine GV.getR hx2 xf_X5_41 dX5_betweenRows_1 gs_477 (by decide) rfl ?_
  refine GA.iload_n dX5_betweenRows_4 rfl ?_
  refine GA.aload_n dX5_betweenRows_5 rfl ?_
  refine GA.get xf_X5_28 dX5_betweenRows_6 gs_477 (by decide) rfl ?_
  obtain ⟨hg3, H⟩ := gg_e H
  obtain ⟨x4, S_5, hc6, H⟩ := gc_e H
  refine GA.callS (m_X5_gather hc6) xs_X5_107 dX5_betweenRows_9 rfl (by omega) (by decide) rfl (Nat.le_of_ble_eq_true rfl) (by omega) (by omega) rfl (fun E S9 hx => hx.elim) (fun v S9 hq => ?_)
  obtain ⟨rfl, rfl⟩ := hq
  refine GA.istore_n dX5_betweenRows_12 (by decide) ?_
  refine GA.aload_n dX5_betweenRows_13 rfl ?_
  obtain ⟨z7, hx8, H⟩ := gv_e H
  refine GV.getR hx8 xf_X5_44 dX5_betweenRows_14 gs_477 (by decide) rfl ?_
  refine GA.iload_n dX5_betweenRows_17 rfl ?_
  refine GA.aload_n dX5_betweenRows_18 rfl ?_
  refine GA.get xf_X5_31 dX5_betweenRows_19 gs_477 (by decide) rfl ?_
  obtain ⟨x9, S_10, hc11, H⟩ := gc_e H
  refine GA.callS (m_X5_gather hc11) xs_X5_107 dX5_betweenRows_22 rfl (by omega) (by decide) rfl (Nat.le_of_ble_eq_true rfl) (by omega) (by omega) rfl (fun E S9 hx => hx.elim) (fun v S9 hq => ?_)
  obtain ⟨rfl, rfl⟩ := hq
  refine GA.istore dX5_betweenRows_25 (by decide) ?_
  refine GA.aload_n dX5_betweenRows_27 rfl ?_
  refine GA.iload_n dX5_betweenRows_28 rfl ?_
  refine GA.iload dX5_betweenRows_29 rfl ?_
  obtain ⟨x12, S_13, hc14, H⟩ := gc_e H
  refine GA.callV (m_X5_matchAll hc14) xs_X5_111 dX5_betweenRows_31 gs_477 (by decide) rfl rfl (by omega) (by decide) rfl (Nat.le_of_ble_eq_true rfl) (by omega) (by omega) rfl (fun E S9 hx => hx.elim) (fun v S9 hq => ?_)
  obtain ⟨rfl, rfl⟩ := hq
  refine GA.aload_n dX5_betweenRows_34 rfl ?_
  refine GA.iload_n dX5_betweenRows_35 rfl ?_
  refine GA.iload dX5_betweenRows_36 rfl ?_
  obtain ⟨x15, S_16, hc17, H⟩ := gc_e H
  refine GA.callV (m_X5_countPairs hc17) xs_X5_114 dX5_betweenRows_38 gs_477 (by decide) rfl rfl (by omega) (by decide) rfl (Nat.le_of_ble_eq_true rfl) (by omega) (by omega) rfl (fun E S9 hx => hx.elim) (fun v S9 hq => ?_)
  obtain ⟨rfl, rfl⟩ := hq
  refine GA.aload_n dX5_betweenRows_41 rfl ?_
  refine GA.iload_n dX5_betweenRows_42 rfl ?_
  refine GA.iload dX5_betweenRows_43 rfl ?_
  obtain ⟨x18, S_19, hc20, H⟩ := gc_e H
  refine GA.callV (m_X5_markPairs hc20) xs_X5_117 dX5_betweenRows_45 gs_477 (by decide) rfl rfl (by omega) (by decide) rfl (Nat.le_of_ble_eq_true rfl) (by omega) (by omega) rfl (fun E S9 hx => hx.elim) (fun v S9 hq => ?_)
  obtain ⟨rfl, rfl⟩ := hq
  refine GA.aload_n dX5_betweenRows_48 rfl ?_
  refine GA.get xf_X5_14 dX5_betweenRows_49 gs_477 (by decide) rfl ?_
  obtain ⟨x21, S_22, hc23, H⟩ := gc_e H
  refine GA.callV (m_X9_length hc23) xs_X5_82 dX5_betweenRows_52 (gsS (by decide)) (by decide) rfl rfl (by omega) (by decide) rfl (Nat.le_of_ble_eq_true rfl) (by omega) (by omega) rfl (fun E S9 hx => hx.elim) (fun v S9 hq => ?_)
  obtain ⟨rfl, rfl⟩ := hq
  refine GA.istore dX5_betweenRows_55 (by decide) ?_
  refine GA.iload_n dX5_betweenRows_57 rfl ?_
  refine GA.iconst dX5_betweenRows_58 ?_
  obtain ⟨x24, hx25, H⟩ := gv_e H
  refine GV.isub hx25 dX5_betweenRows_59 ?_
  refine GA.istore dX5_betweenRows_60 (by decide) ?_
  refine GA.locals [(0, .ref (L 477)), (4, .int (J x9)), (5, .int (J x21)), (6, .int (J x24))] ⟨rfl, rfl, rfl, rfl, trivial⟩ ?_
  exact ih_X5_betweenRows_62 _ _ (x9) (x21) (x24) _ _ H
set_option maxHeartbeats 4000000 in
set_option maxRecDepth 20000 in
theorem t_X5_betweenRows_62 {l : Launch} {Z : XZ} {L : Nat → Nat} (n : Nat) (ih_X5_betweenRows_0 : P_X5_betweenRows_0 l Z L n) (ih_X5_betweenRows_62 : P_X5_betweenRows_62 l Z L n) (ih_X5_betweenRows_112 : P_X5_betweenRows_112 l Z L n) : P_X5_betweenRows_62 l Z L (n + 1) := by
  intro d S a4 a5 a6 x S1 H
  have H : b_X5_betweenRows_62 n d (f_X5_betweenRows n) S a4 a5 a6 = some (x, S1) := H
  unfold b_X5_betweenRows_62 at H
  refine GA.iload dX5_betweenRows_62 rfl ?_
  obtain ⟨hg1, H⟩ := gg_e H
  refine GV.if_lt (tgt := 109) hg1 dX5_betweenRows_64 (by decide) (fun c2 => ?_) (fun c2 => ?_)
  · have H := it_t H c2
    refine GA.iconst dX5_betweenRows_109 ?_
    refine GA.istore dX5_betweenRows_110 (by decide) ?_
    refine GA.locals [(0, .ref (L 477)), (4, .int (J a4)), (5, .int (J a5)), (6, .int (J 0))] ⟨rfl, rfl, rfl, rfl, trivial⟩ ?_
    exact ih_X5_betweenRows_112 _ _ (a4) (a5) (0) _ _ H
  · have H := it_f H c2
    refine GA.iload dX5_betweenRows_67 rfl ?_
    refine GA.bipush dX5_betweenRows_69 rfl ?_
    refine GV.icmp_ge (tgt := 109) hg1 (by decide) dX5_betweenRows_71 (by decide) (fun c3 => ?_) (fun c3 => ?_)
    · have H := it_t H c3
      refine GA.iconst dX5_betweenRows_109 ?_
      refine GA.istore dX5_betweenRows_110 (by decide) ?_
      refine GA.locals [(0, .ref (L 477)), (4, .int (J a4)), (5, .int (J a5)), (6, .int (J 0))] ⟨rfl, rfl, rfl, rfl, trivial⟩ ?_
      exact ih_X5_betweenRows_112 _ _ (a4) (a5) (0) _ _ H
    · have H := it_f H c3
      refine GA.aload_n dX5_betweenRows_74 rfl ?_
      refine GA.get xf_X5_28 dX5_betweenRows_75 gs_477 (by decide) rfl ?_
      refine GA.iload dX5_betweenRows_78 rfl ?_
      obtain ⟨hg4, H⟩ := gg_e H
      obtain ⟨x5, hx6, H⟩ := gv_e H
      refine GV.iald hg4 hx6 dX5_betweenRows_80 gs_480 (by decide) ?_
      refine GA.iconst dX5_betweenRows_81 ?_
      obtain ⟨hg7, H⟩ := gg_e H
      refine GV.icmp_eq (tgt := 103) hg7 (by decide) dX5_betweenRows_82 (by decide) (fun c8 => ?_) (fun c8 => ?_)
      · have H := it_t H c8
        obtain ⟨x9, hx10, H⟩ := gv_e H
        refine GV.iinc hx10 dX5_betweenRows_103 rfl (by decide) ?_
        refine GA.goto (tgt := 62) dX5_betweenRows_106 (by decide) ?_
        refine GA.locals [(0, .ref (L 477)), (4, .int (J a4)), (5, .int (J a5)), (6, .int (J x9))] ⟨rfl, rfl, rfl, rfl, trivial⟩ ?_
        exact ih_X5_betweenRows_62 _ _ (a4) (a5) (x9) _ _ H
      · have H := it_f H c8
        refine GA.aload_n dX5_betweenRows_85 rfl ?_
        refine GA.ldcS (i := 25) (tx := "remove") (by decide +kernel) dX5_betweenRows_86 ?_
        refine GA.iload dX5_betweenRows_88 rfl ?_
        refine GA.iconst dX5_betweenRows_90 ?_
        obtain ⟨hg11, H⟩ := gg_e H
        obtain ⟨x12, S_13, hc14, H⟩ := gc_e H
        refine GA.callV (m_X5_addAtPlace hc14) xs_X5_120 dX5_betweenRows_91 gs_477 (by decide) rfl rfl (by omega) (by decide) rfl (Nat.le_of_ble_eq_true rfl) (by omega) (by omega) rfl (fun E S9 hx => hx.elim) (fun v S9 hq => ?_)
        obtain ⟨rfl, rfl⟩ := hq
        refine GA.aload_n dX5_betweenRows_94 rfl ?_
        refine GA.get xf_X5_14 dX5_betweenRows_95 gs_477 (by decide) rfl ?_
        refine GA.iload dX5_betweenRows_98 rfl ?_
        obtain ⟨x15, S_16, hc17, H⟩ := gc_e H
        refine GA.callV (m_X9_shorten hc17) xs_X5_99 dX5_betweenRows_100 (gsS (by decide)) (by decide) rfl rfl (by omega) (by decide) rfl (Nat.le_of_ble_eq_true rfl) (by omega) (by omega) rfl (fun E S9 hx => hx.elim) (fun v S9 hq => ?_)
        obtain ⟨rfl, rfl⟩ := hq
        obtain ⟨x18, hx19, H⟩ := gv_e H
        refine GV.iinc hx19 dX5_betweenRows_103 rfl (by decide) ?_
        refine GA.goto (tgt := 62) dX5_betweenRows_106 (by decide) ?_
        refine GA.locals [(0, .ref (L 477)), (4, .int (J a4)), (5, .int (J a5)), (6, .int (J x18))] ⟨rfl, rfl, rfl, rfl, trivial⟩ ?_
        exact ih_X5_betweenRows_62 _ _ (a4) (a5) (x18) _ _ H
set_option maxHeartbeats 4000000 in
set_option maxRecDepth 20000 in
theorem t_X5_betweenRows_112 {l : Launch} {Z : XZ} {L : Nat → Nat} (n : Nat) (ih_X5_betweenRows_0 : P_X5_betweenRows_0 l Z L n) (ih_X5_betweenRows_62 : P_X5_betweenRows_62 l Z L n) (ih_X5_betweenRows_112 : P_X5_betweenRows_112 l Z L n) : P_X5_betweenRows_112 l Z L (n + 1) := by
  intro d S a4 a5 a6 x S1 H
  have H : b_X5_betweenRows_112 n d (f_X5_betweenRows n) S a4 a5 a6 = some (x, S1) := H
  unfold b_X5_betweenRows_112 at H
  refine GA.iload dX5_betweenRows_112 rfl ?_
  refine GA.iload dX5_betweenRows_114 rfl ?_
  obtain ⟨hg1, H⟩ := gg_e H
  obtain ⟨hg2, H⟩ := gg_e H
  refine GV.icmp_ge (tgt := 167) hg1 hg2 dX5_betweenRows_116 (by decide) (fun c3 => ?_) (fun c3 => ?_)
  · have H := it_t H c3
    cases H
    exact GA.vret rfl dX5_betweenRows_167 (by omega) (by omega) ⟨rfl, rfl⟩
  · have H := it_f H c3
    refine GA.iload dX5_betweenRows_119 rfl ?_
    refine GA.bipush dX5_betweenRows_121 rfl ?_
    refine GV.icmp_ge (tgt := 167) hg1 (by decide) dX5_betweenRows_123 (by decide) (fun c4 => ?_) (fun c4 => ?_)
    · have H := it_t H c4
      cases H
      exact GA.vret rfl dX5_betweenRows_167 (by omega) (by omega) ⟨rfl, rfl⟩
    · have H := it_f H c4
      refine GA.aload_n dX5_betweenRows_126 rfl ?_
      refine GA.get xf_X5_31 dX5_betweenRows_127 gs_477 (by decide) rfl ?_
      refine GA.iload dX5_betweenRows_130 rfl ?_
      obtain ⟨hg5, H⟩ := gg_e H
      obtain ⟨x6, hx7, H⟩ := gv_e H
      refine GV.iald hg5 hx7 dX5_betweenRows_132 gs_481 (by decide) ?_
      refine GA.iconst dX5_betweenRows_133 ?_
      obtain ⟨hg8, H⟩ := gg_e H
      refine GV.icmp_eq (tgt := 161) hg8 (by decide) dX5_betweenRows_134 (by decide) (fun c9 => ?_) (fun c9 => ?_)
      · have H := it_t H c9
        obtain ⟨x10, hx11, H⟩ := gv_e H
        refine GV.iinc hx11 dX5_betweenRows_161 rfl (by decide) ?_
        refine GA.goto (tgt := 112) dX5_betweenRows_164 (by decide) ?_
        refine GA.locals [(0, .ref (L 477)), (4, .int (J a4)), (5, .int (J a5)), (6, .int (J x10))] ⟨rfl, rfl, rfl, rfl, trivial⟩ ?_
        exact ih_X5_betweenRows_112 _ _ (a4) (a5) (x10) _ _ H
      · have H := it_f H c9
        refine GA.aload_n dX5_betweenRows_137 rfl ?_
        refine GA.ldcS (i := 26) (tx := "add") (by decide +kernel) dX5_betweenRows_138 ?_
        refine GA.iload dX5_betweenRows_140 rfl ?_
        refine GA.aload_n dX5_betweenRows_142 rfl ?_
        refine GA.get xf_X5_31 dX5_betweenRows_143 gs_477 (by decide) rfl ?_
        refine GA.iload dX5_betweenRows_146 rfl ?_
        obtain ⟨x12, hx13, H⟩ := gv_e H
        refine GV.iald hg5 hx13 dX5_betweenRows_148 gs_481 (by decide) ?_
        obtain ⟨hg14, H⟩ := gg_e H
        obtain ⟨x15, S_16, hc17, H⟩ := gc_e H
        refine GA.callV (m_X5_addAtPlace hc17) xs_X5_120 dX5_betweenRows_149 gs_477 (by decide) rfl rfl (by omega) (by decide) rfl (Nat.le_of_ble_eq_true rfl) (by omega) (by omega) rfl (fun E S9 hx => hx.elim) (fun v S9 hq => ?_)
        obtain ⟨rfl, rfl⟩ := hq
        refine GA.aload_n dX5_betweenRows_152 rfl ?_
        refine GA.get xf_X5_14 dX5_betweenRows_153 gs_477 (by decide) rfl ?_
        refine GA.iload dX5_betweenRows_156 rfl ?_
        obtain ⟨x18, S_19, hc20, H⟩ := gc_e H
        refine GA.callV (m_X9_shorten hc20) xs_X5_99 dX5_betweenRows_158 (gsS (by decide)) (by decide) rfl rfl (by omega) (by decide) rfl (Nat.le_of_ble_eq_true rfl) (by omega) (by omega) rfl (fun E S9 hx => hx.elim) (fun v S9 hq => ?_)
        obtain ⟨rfl, rfl⟩ := hq
        obtain ⟨x21, hx22, H⟩ := gv_e H
        refine GV.iinc hx22 dX5_betweenRows_161 rfl (by decide) ?_
        refine GA.goto (tgt := 112) dX5_betweenRows_164 (by decide) ?_
        refine GA.locals [(0, .ref (L 477)), (4, .int (J a4)), (5, .int (J a5)), (6, .int (J x21))] ⟨rfl, rfl, rfl, rfl, trivial⟩ ?_
        exact ih_X5_betweenRows_112 _ _ (a4) (a5) (x21) _ _ H
theorem g_X5_betweenRows {l : Launch} {Z : XZ} {L : Nat → Nat} : ∀ n, P_X5_betweenRows_0 l Z L n ∧ P_X5_betweenRows_62 l Z L n ∧ P_X5_betweenRows_112 l Z L n
  | 0 => ⟨fun _ _ _ _ _ _ H => no_e H, fun _ _ _ _ _ _ _ H => no_e H, fun _ _ _ _ _ _ _ H => no_e H⟩
  | n + 1 => have ⟨h0, h1, h2⟩ := g_X5_betweenRows (l := l) (Z := Z) (L := L) n
    ⟨t_X5_betweenRows_0 n h0 h1 h2, t_X5_betweenRows_62 n h0 h1 h2, t_X5_betweenRows_112 n h0 h1 h2⟩
theorem m_X5_betweenRows {l : Launch} {Z : XZ} {L : Nat → Nat} {n d : Nat} {S : GS} {a1 : Int} {a2 : Int} {x : Int} {S1 : GS} (H : f_X5_betweenRows n d 0 S [a1, a2] = some (x, S1)) : GM l Z L yX5_betweenRows cX5_betweenRows 7 none [] d 0 0 [.ref (L 477), .int (J a1), .int (J a2)] S (fun v S' => v = none ∧ S1 = S') (fun _ _ => False) := GM.of (by decide) (Nat.le_of_ble_eq_true rfl) ((g_X5_betweenRows n).1 _ _ _ _ _ _ H)

def P_X5_between_0 (l : Launch) (Z : XZ) (L : Nat → Nat) (n : Nat) : Prop := ∀ (d : Nat) (S : GS) (a1 : Int) (a2 : Int) (a3 : Int) (x : Int) (S1 : GS), f_X5_between n d 0 S [a1, a2, a3] = some (x, S1) → GA l Z L yX5_between cX5_between 4 none [] d 0 0 (fun v S' => v = none ∧ S1 = S') (fun _ _ => False) 0 (gl [(0, .ref (L 477)), (1, .int (J a1)), (2, .int (J a2)), (3, .int (J a3))]) [] S 0 0
def P_X5_between_58 (l : Launch) (Z : XZ) (L : Nat → Nat) (n : Nat) : Prop := ∀ (d : Nat) (S : GS) (a1 : Int) (a2 : Int) (x : Int) (S1 : GS), f_X5_between n d 58 S [a1, a2] = some (x, S1) → GA l Z L yX5_between cX5_between 4 none [] d 0 0 (fun v S' => v = none ∧ S1 = S') (fun _ _ => False) 58 (gl [(0, .ref (L 477)), (1, .int (J a1)), (2, .int (J a2))]) [] S 0 0
def P_X5_between_91 (l : Launch) (Z : XZ) (L : Nat → Nat) (n : Nat) : Prop := ∀ (d : Nat) (S : GS) (a2 : Int) (x : Int) (S1 : GS), f_X5_between n d 91 S [a2] = some (x, S1) → GA l Z L yX5_between cX5_between 4 none [] d 0 0 (fun v S' => v = none ∧ S1 = S') (fun _ _ => False) 91 (gl [(0, .ref (L 477)), (2, .int (J a2))]) [] S 0 0
def P_X5_betweenMaps_0 (l : Launch) (Z : XZ) (L : Nat → Nat) (n : Nat) : Prop := ∀ (d : Nat) (S : GS) (a1 : Int) (a2 : Int) (a3 : Int) (x : Int) (S1 : GS), f_X5_between n d 10000 S [a1, a2, a3] = some (x, S1) → GA l Z L yX5_betweenMaps cX5_betweenMaps 8 none [] d 0 0 (fun v S' => v = none ∧ S1 = S') (fun _ _ => False) 0 (gl [(0, .ref (L 477)), (1, .int (J a1)), (2, .int (J a2)), (3, .int (J a3))]) [] S 0 0
def P_X5_betweenMaps_22 (l : Launch) (Z : XZ) (L : Nat → Nat) (n : Nat) : Prop := ∀ (d : Nat) (S : GS) (a1 : Int) (a2 : Int) (a3 : Int) (a4 : Int) (a5 : Int) (a6 : Int) (x : Int) (S1 : GS), f_X5_between n d 10022 S [a1, a2, a3, a4, a5, a6] = some (x, S1) → GA l Z L yX5_betweenMaps cX5_betweenMaps 8 none [] d 0 0 (fun v S' => v = none ∧ S1 = S') (fun _ _ => False) 22 (gl [(0, .ref (L 477)), (1, .int (J a1)), (2, .int (J a2)), (3, .int (J a3)), (4, .int (J a4)), (5, .int (J a5)), (6, .int (J a6))]) [] S 0 0
def P_X5_betweenMaps_93 (l : Launch) (Z : XZ) (L : Nat → Nat) (n : Nat) : Prop := ∀ (d : Nat) (S : GS) (a1 : Int) (a2 : Int) (a3 : Int) (a4 : Int) (a5 : Int) (a6 : Int) (x : Int) (S1 : GS), f_X5_between n d 10093 S [a1, a2, a3, a4, a5, a6] = some (x, S1) → GA l Z L yX5_betweenMaps cX5_betweenMaps 8 none [] d 0 0 (fun v S' => v = none ∧ S1 = S') (fun _ _ => False) 93 (gl [(0, .ref (L 477)), (1, .int (J a1)), (2, .int (J a2)), (3, .int (J a3)), (4, .int (J a4)), (5, .int (J a5)), (6, .int (J a6))]) [] S 0 0
def P_X5_betweenMaps_124 (l : Launch) (Z : XZ) (L : Nat → Nat) (n : Nat) : Prop := ∀ (d : Nat) (S : GS) (a1 : Int) (a2 : Int) (a3 : Int) (a4 : Int) (a5 : Int) (a6 : Int) (x : Int) (S1 : GS), f_X5_between n d 10124 S [a1, a2, a3, a4, a5, a6] = some (x, S1) → GA l Z L yX5_betweenMaps cX5_betweenMaps 8 none [] d 0 0 (fun v S' => v = none ∧ S1 = S') (fun _ _ => False) 124 (gl [(0, .ref (L 477)), (1, .int (J a1)), (2, .int (J a2)), (3, .int (J a3)), (4, .int (J a4)), (5, .int (J a5)), (6, .int (J a6))]) [] S 0 0
def P_X5_betweenMaps_192 (l : Launch) (Z : XZ) (L : Nat → Nat) (n : Nat) : Prop := ∀ (d : Nat) (S : GS) (a1 : Int) (a2 : Int) (a3 : Int) (a4 : Int) (a5 : Int) (a6 : Int) (x : Int) (S1 : GS), f_X5_between n d 10192 S [a1, a2, a3, a4, a5, a6] = some (x, S1) → GA l Z L yX5_betweenMaps cX5_betweenMaps 8 none [] d 0 0 (fun v S' => v = none ∧ S1 = S') (fun _ _ => False) 192 (gl [(0, .ref (L 477)), (1, .int (J a1)), (2, .int (J a2)), (3, .int (J a3)), (4, .int (J a4)), (5, .int (J a5)), (6, .int (J a6))]) [] S 0 0
def P_X5_betweenMaps_223 (l : Launch) (Z : XZ) (L : Nat → Nat) (n : Nat) : Prop := ∀ (d : Nat) (S : GS) (a1 : Int) (a2 : Int) (a4 : Int) (a5 : Int) (a6 : Int) (x : Int) (S1 : GS), f_X5_between n d 10223 S [a1, a2, a4, a5, a6] = some (x, S1) → GA l Z L yX5_betweenMaps cX5_betweenMaps 8 none [] d 0 0 (fun v S' => v = none ∧ S1 = S') (fun _ _ => False) 223 (gl [(0, .ref (L 477)), (1, .int (J a1)), (2, .int (J a2)), (4, .int (J a4)), (5, .int (J a5)), (6, .int (J a6))]) [] S 0 0
def P_X5_betweenMaps_295 (l : Launch) (Z : XZ) (L : Nat → Nat) (n : Nat) : Prop := ∀ (d : Nat) (S : GS) (a1 : Int) (a2 : Int) (a4 : Int) (a5 : Int) (a6 : Int) (x : Int) (S1 : GS), f_X5_between n d 10295 S [a1, a2, a4, a5, a6] = some (x, S1) → GA l Z L yX5_betweenMaps cX5_betweenMaps 8 none [] d 0 0 (fun v S' => v = none ∧ S1 = S') (fun _ _ => False) 295 (gl [(0, .ref (L 477)), (1, .int (J a1)), (2, .int (J a2)), (4, .int (J a4)), (5, .int (J a5)), (6, .int (J a6))]) [] S 0 0
theorem i_X5_between {l : Launch} {Z : XZ} {L : Nat → Nat} {n : Nat} (ih : P_X5_between_0 l Z L n) {d : Nat} {S : GS} {a1 : Int} {a2 : Int} {a3 : Int} {x : Int} {S1 : GS} (H : f_X5_between n d 0 S [a1, a2, a3] = some (x, S1)) : GM l Z L yX5_between cX5_between 4 none [] d 0 0 [.ref (L 477), .int (J a1), .int (J a2), .int (J a3)] S (fun v S' => v = none ∧ S1 = S') (fun _ _ => False) := GM.of (by decide) (Nat.le_of_ble_eq_true rfl) (ih _ _ _ _ _ _ _ H)
theorem i_X5_betweenMaps {l : Launch} {Z : XZ} {L : Nat → Nat} {n : Nat} (ih : P_X5_betweenMaps_0 l Z L n) {d : Nat} {S : GS} {a1 : Int} {a2 : Int} {a3 : Int} {x : Int} {S1 : GS} (H : f_X5_between n d 10000 S [a1, a2, a3] = some (x, S1)) : GM l Z L yX5_betweenMaps cX5_betweenMaps 8 none [] d 0 0 [.ref (L 477), .int (J a1), .int (J a2), .int (J a3)] S (fun v S' => v = none ∧ S1 = S') (fun _ _ => False) := GM.of (by decide) (Nat.le_of_ble_eq_true rfl) (ih _ _ _ _ _ _ _ H)
set_option maxHeartbeats 4000000 in
set_option maxRecDepth 20000 in
theorem t_X5_between_0 {l : Launch} {Z : XZ} {L : Nat → Nat} (n : Nat) (ih_X5_between_0 : P_X5_between_0 l Z L n) (ih_X5_between_58 : P_X5_between_58 l Z L n) (ih_X5_between_91 : P_X5_between_91 l Z L n) (ih_X5_betweenMaps_0 : P_X5_betweenMaps_0 l Z L n) (ih_X5_betweenMaps_22 : P_X5_betweenMaps_22 l Z L n) (ih_X5_betweenMaps_93 : P_X5_betweenMaps_93 l Z L n) (ih_X5_betweenMaps_124 : P_X5_betweenMaps_124 l Z L n) (ih_X5_betweenMaps_192 : P_X5_betweenMaps_192 l Z L n) (ih_X5_betweenMaps_223 : P_X5_betweenMaps_223 l Z L n) (ih_X5_betweenMaps_295 : P_X5_betweenMaps_295 l Z L n) : P_X5_between_0 l Z L (n + 1) := by
  intro d S a1 a2 a3 x S1 H
  have H : b_X5_between_0 n d (f_X5_between n) S a1 a2 a3 = some (x, S1) := H
  unfold b_X5_between_0 at H
  refine GA.aload_n dX5_between_0 rfl ?_
  obtain ⟨z1, hx2, H⟩ := gv_e H
  refine GV.getR hx2 xf_X5_41 dX5_between_1 gs_477 (by decide) rfl ?_
  refine GA.iload_n dX5_between_4 rfl ?_
  refine GA.aload_n dX5_between_5 rfl ?_
  obtain ⟨z3, hx4, H⟩ := gv_e H
  refine GV.getR hx4 xf_X5_44 dX5_between_6 gs_477 (by decide) rfl ?_
  refine GA.iload_n dX5_between_9 rfl ?_
  refine GA.iconst dX5_between_10 ?_
  obtain ⟨hg5, H⟩ := gg_e H
  obtain ⟨hg6, H⟩ := gg_e H
  obtain ⟨x7, S_8, hc9, H⟩ := gc_e H
  refine GA.callN (m_X10_same hc9) xs_X5_62 dX5_between_11 (gsT hg6) (by omega) rfl rfl (by omega) (by decide) rfl (Nat.le_of_ble_eq_true rfl) (by omega) (by omega) rfl (fun E S9 hx => hx.elim) (fun v S9 hq => ?_)
  obtain ⟨rfl, rfl⟩ := hq
  obtain ⟨hg10, H⟩ := gg_e H
  refine GV.if_ne (tgt := 23) hg10 dX5_between_14 (by decide) (fun c11 => ?_) (fun c11 => ?_)
  · have H := it_t H c11
    cases H
    exact GA.vret rfl dX5_between_23 (by omega) (by omega) ⟨rfl, rfl⟩
  · have H := it_f H c11
    refine GA.iload_n dX5_between_17 rfl ?_
    refine GA.bipush dX5_between_18 rfl ?_
    obtain ⟨hg12, H⟩ := gg_e H
    refine GV.icmp_le (tgt := 24) hg12 (by decide) dX5_between_20 (by decide) (fun c13 => ?_) (fun c13 => ?_)
    · have H := it_t H c13
      refine GA.aload_n dX5_between_24 rfl ?_
      obtain ⟨z14, hx15, H⟩ := gv_e H
      refine GV.getR hx15 xf_X5_41 dX5_between_25 gs_477 (by decide) rfl ?_
      refine GA.iload_n dX5_between_28 rfl ?_
      refine GA.iconst dX5_between_29 ?_
      obtain ⟨hg16, H⟩ := gg_e H
      obtain ⟨x17, S_18, hc19, H⟩ := gc_e H
      refine GA.callV (m_X10_is hc19) xs_X5_66 dX5_between_30 (gsT hg16) (by omega) rfl rfl (by omega) (by decide) rfl (Nat.le_of_ble_eq_true rfl) (by omega) (by omega) rfl (fun E S9 hx => hx.elim) (fun v S9 hq => ?_)
      obtain ⟨rfl, rfl⟩ := hq
      obtain ⟨hg20, H⟩ := gg_e H
      refine GV.if_eq (tgt := 58) hg20 dX5_between_33 (by decide) (fun c21 => ?_) (fun c21 => ?_)
      · have H := it_t H c21
        refine GA.locals [(0, .ref (L 477)), (1, .int (J a1)), (2, .int (J a2))] ⟨rfl, rfl, rfl, trivial⟩ ?_
        exact ih_X5_between_58 _ _ (a1) (a2) _ _ H
      · have H := it_f H c21
        refine GA.aload_n dX5_between_36 rfl ?_
        obtain ⟨z22, hx23, H⟩ := gv_e H
        refine GV.getR hx23 xf_X5_44 dX5_between_37 gs_477 (by decide) rfl ?_
        refine GA.iload_n dX5_between_40 rfl ?_
        refine GA.iconst dX5_between_41 ?_
        obtain ⟨hg24, H⟩ := gg_e H
        obtain ⟨x25, S_26, hc27, H⟩ := gc_e H
        refine GA.callV (m_X10_is hc27) xs_X5_66 dX5_between_42 (gsT hg24) (by omega) rfl rfl (by omega) (by decide) rfl (Nat.le_of_ble_eq_true rfl) (by omega) (by omega) rfl (fun E S9 hx => hx.elim) (fun v S9 hq => ?_)
        obtain ⟨rfl, rfl⟩ := hq
        obtain ⟨hg28, H⟩ := gg_e H
        refine GV.if_eq (tgt := 58) hg28 dX5_between_45 (by decide) (fun c29 => ?_) (fun c29 => ?_)
        · have H := it_t H c29
          refine GA.locals [(0, .ref (L 477)), (1, .int (J a1)), (2, .int (J a2))] ⟨rfl, rfl, rfl, trivial⟩ ?_
          exact ih_X5_between_58 _ _ (a1) (a2) _ _ H
        · have H := it_f H c29
          refine GA.aload_n dX5_between_48 rfl ?_
          refine GA.iload_n dX5_between_49 rfl ?_
          refine GA.iload_n dX5_between_50 rfl ?_
          refine GA.iload_n dX5_between_51 rfl ?_
          obtain ⟨x30, S_31, hc32, H⟩ := gc_e H
          refine GA.callV (i_X5_betweenMaps ih_X5_betweenMaps_0 hc32) xs_X5_70 dX5_between_52 gs_477 (by decide) rfl rfl (by omega) (by decide) rfl (Nat.le_of_ble_eq_true rfl) (by omega) (by omega) rfl (fun E S9 hx => hx.elim) (fun v S9 hq => ?_)
          obtain ⟨rfl, rfl⟩ := hq
          refine GA.goto (tgt := 109) dX5_between_55 (by decide) ?_
          cases H
          exact GA.vret rfl dX5_between_109 (by omega) (by omega) ⟨rfl, rfl⟩
    · have H := it_f H c13
      cases H
      exact GA.vret rfl dX5_between_23 (by omega) (by omega) ⟨rfl, rfl⟩
set_option maxHeartbeats 4000000 in
set_option maxRecDepth 20000 in
theorem t_X5_between_58 {l : Launch} {Z : XZ} {L : Nat → Nat} (n : Nat) (ih_X5_between_0 : P_X5_between_0 l Z L n) (ih_X5_between_58 : P_X5_between_58 l Z L n) (ih_X5_between_91 : P_X5_between_91 l Z L n) (ih_X5_betweenMaps_0 : P_X5_betweenMaps_0 l Z L n) (ih_X5_betweenMaps_22 : P_X5_betweenMaps_22 l Z L n) (ih_X5_betweenMaps_93 : P_X5_betweenMaps_93 l Z L n) (ih_X5_betweenMaps_124 : P_X5_betweenMaps_124 l Z L n) (ih_X5_betweenMaps_192 : P_X5_betweenMaps_192 l Z L n) (ih_X5_betweenMaps_223 : P_X5_betweenMaps_223 l Z L n) (ih_X5_betweenMaps_295 : P_X5_betweenMaps_295 l Z L n) : P_X5_between_58 l Z L (n + 1) := by
  intro d S a1 a2 x S1 H
  have H : b_X5_between_58 n d (f_X5_between n) S a1 a2 = some (x, S1) := H
  unfold b_X5_between_58 at H
  refine GA.aload_n dX5_between_58 rfl ?_
  obtain ⟨z1, hx2, H⟩ := gv_e H
  refine GV.getR hx2 xf_X5_41 dX5_between_59 gs_477 (by decide) rfl ?_
  refine GA.iload_n dX5_between_62 rfl ?_
  refine GA.iconst dX5_between_63 ?_
  obtain ⟨hg3, H⟩ := gg_e H
  obtain ⟨hg4, H⟩ := gg_e H
  obtain ⟨x5, S_6, hc7, H⟩ := gc_e H
  refine GA.callV (m_X10_is hc7) xs_X5_66 dX5_between_64 (gsT hg4) (by omega) rfl rfl (by omega) (by decide) rfl (Nat.le_of_ble_eq_true rfl) (by omega) (by omega) rfl (fun E S9 hx => hx.elim) (fun v S9 hq => ?_)
  obtain ⟨rfl, rfl⟩ := hq
  obtain ⟨hg8, H⟩ := gg_e H
  refine GV.if_eq (tgt := 91) hg8 dX5_between_67 (by decide) (fun c9 => ?_) (fun c9 => ?_)
  · have H := it_t H c9
    refine GA.locals [(0, .ref (L 477)), (2, .int (J a2))] ⟨rfl, rfl, trivial⟩ ?_
    exact ih_X5_between_91 _ _ (a2) _ _ H
  · have H := it_f H c9
    refine GA.aload_n dX5_between_70 rfl ?_
    obtain ⟨z10, hx11, H⟩ := gv_e H
    refine GV.getR hx11 xf_X5_44 dX5_between_71 gs_477 (by decide) rfl ?_
    refine GA.iload_n dX5_between_74 rfl ?_
    refine GA.iconst dX5_between_75 ?_
    obtain ⟨hg12, H⟩ := gg_e H
    obtain ⟨x13, S_14, hc15, H⟩ := gc_e H
    refine GA.callV (m_X10_is hc15) xs_X5_66 dX5_between_76 (gsT hg12) (by omega) rfl rfl (by omega) (by decide) rfl (Nat.le_of_ble_eq_true rfl) (by omega) (by omega) rfl (fun E S9 hx => hx.elim) (fun v S9 hq => ?_)
    obtain ⟨rfl, rfl⟩ := hq
    obtain ⟨hg16, H⟩ := gg_e H
    refine GV.if_eq (tgt := 91) hg16 dX5_between_79 (by decide) (fun c17 => ?_) (fun c17 => ?_)
    · have H := it_t H c17
      refine GA.locals [(0, .ref (L 477)), (2, .int (J a2))] ⟨rfl, rfl, trivial⟩ ?_
      exact ih_X5_between_91 _ _ (a2) _ _ H
    · have H := it_f H c17
      refine GA.aload_n dX5_between_82 rfl ?_
      refine GA.iload_n dX5_between_83 rfl ?_
      refine GA.iload_n dX5_between_84 rfl ?_
      obtain ⟨x18, S_19, hc20, H⟩ := gc_e H
      refine GA.callV (m_X5_betweenRows hc20) xs_X5_73 dX5_between_85 gs_477 (by decide) rfl rfl (by omega) (by decide) rfl (Nat.le_of_ble_eq_true rfl) (by omega) (by omega) rfl (fun E S9 hx => hx.elim) (fun v S9 hq => ?_)
      obtain ⟨rfl, rfl⟩ := hq
      refine GA.goto (tgt := 109) dX5_between_88 (by decide) ?_
      cases H
      exact GA.vret rfl dX5_between_109 (by omega) (by omega) ⟨rfl, rfl⟩
set_option maxHeartbeats 4000000 in
set_option maxRecDepth 20000 in
theorem t_X5_between_91 {l : Launch} {Z : XZ} {L : Nat → Nat} (n : Nat) (ih_X5_between_0 : P_X5_between_0 l Z L n) (ih_X5_between_58 : P_X5_between_58 l Z L n) (ih_X5_between_91 : P_X5_between_91 l Z L n) (ih_X5_betweenMaps_0 : P_X5_betweenMaps_0 l Z L n) (ih_X5_betweenMaps_22 : P_X5_betweenMaps_22 l Z L n) (ih_X5_betweenMaps_93 : P_X5_betweenMaps_93 l Z L n) (ih_X5_betweenMaps_124 : P_X5_betweenMaps_124 l Z L n) (ih_X5_betweenMaps_192 : P_X5_betweenMaps_192 l Z L n) (ih_X5_betweenMaps_223 : P_X5_betweenMaps_223 l Z L n) (ih_X5_betweenMaps_295 : P_X5_betweenMaps_295 l Z L n) : P_X5_between_91 l Z L (n + 1) := by
  intro d S a2 x S1 H
  have H : b_X5_between_91 n d (f_X5_between n) S a2 = some (x, S1) := H
  unfold b_X5_between_91 at H
  refine GA.aload_n dX5_between_91 rfl ?_
  obtain ⟨z1, hx2, H⟩ := gv_e H
  refine GV.getR hx2 xf_X5_37 dX5_between_92 gs_477 (by decide) rfl ?_
  refine GA.ldcS (i := 21) (tx := "replace") (by decide +kernel) dX5_between_95 ?_
  refine GA.aload_n dX5_between_97 rfl ?_
  refine GA.get xf_X5_14 dX5_between_98 gs_477 (by decide) rfl ?_
  refine GA.aload_n dX5_between_101 rfl ?_
  obtain ⟨z3, hx4, H⟩ := gv_e H
  refine GV.getR hx4 xf_X5_44 dX5_between_102 gs_477 (by decide) rfl ?_
  refine GA.iload_n dX5_between_105 rfl ?_
  obtain ⟨hg5, H⟩ := gg_e H
  obtain ⟨x6, S_7, hc8, H⟩ := gc_e H
  refine GA.callS (m_X5_add hc8) xs_X5_79 dX5_between_106 rfl (by omega) (by decide) rfl (Nat.le_of_ble_eq_true rfl) (by omega) (by omega) rfl (fun E S9 hx => hx.elim) (fun v S9 hq => ?_)
  obtain ⟨rfl, rfl⟩ := hq
  cases H
  exact GA.vret rfl dX5_between_109 (by omega) (by omega) ⟨rfl, rfl⟩
set_option maxHeartbeats 4000000 in
set_option maxRecDepth 20000 in
theorem t_X5_betweenMaps_0 {l : Launch} {Z : XZ} {L : Nat → Nat} (n : Nat) (ih_X5_between_0 : P_X5_between_0 l Z L n) (ih_X5_between_58 : P_X5_between_58 l Z L n) (ih_X5_between_91 : P_X5_between_91 l Z L n) (ih_X5_betweenMaps_0 : P_X5_betweenMaps_0 l Z L n) (ih_X5_betweenMaps_22 : P_X5_betweenMaps_22 l Z L n) (ih_X5_betweenMaps_93 : P_X5_betweenMaps_93 l Z L n) (ih_X5_betweenMaps_124 : P_X5_betweenMaps_124 l Z L n) (ih_X5_betweenMaps_192 : P_X5_betweenMaps_192 l Z L n) (ih_X5_betweenMaps_223 : P_X5_betweenMaps_223 l Z L n) (ih_X5_betweenMaps_295 : P_X5_betweenMaps_295 l Z L n) : P_X5_betweenMaps_0 l Z L (n + 1) := by
  intro d S a1 a2 a3 x S1 H
  have H : b_X5_betweenMaps_0 n d (f_X5_between n) S a1 a2 a3 = some (x, S1) := H
  unfold b_X5_betweenMaps_0 at H
  refine GA.aload_n dX5_betweenMaps_0 rfl ?_
  refine GA.get xf_X5_14 dX5_betweenMaps_1 gs_477 (by decide) rfl ?_
  obtain ⟨hg1, H⟩ := gg_e H
  obtain ⟨x2, S_3, hc4, H⟩ := gc_e H
  refine GA.callV (m_X9_length hc4) xs_X5_82 dX5_betweenMaps_4 (gsS (by decide)) (by decide) rfl rfl (by omega) (by decide) rfl (Nat.le_of_ble_eq_true rfl) (by omega) (by omega) rfl (fun E S9 hx => hx.elim) (fun v S9 hq => ?_)
  obtain ⟨rfl, rfl⟩ := hq
  refine GA.istore dX5_betweenMaps_7 (by decide) ?_
  refine GA.aload_n dX5_betweenMaps_9 rfl ?_
  obtain ⟨z5, hx6, H⟩ := gv_e H
  refine GV.getR hx6 xf_X5_41 dX5_betweenMaps_10 gs_477 (by decide) rfl ?_
  refine GA.iload_n dX5_betweenMaps_13 rfl ?_
  obtain ⟨hg7, H⟩ := gg_e H
  obtain ⟨x8, S_9, hc10, H⟩ := gc_e H
  refine GA.callV (m_X10_first hc10) xs_X5_86 dX5_betweenMaps_14 (gsT hg7) (by omega) rfl rfl (by omega) (by decide) rfl (Nat.le_of_ble_eq_true rfl) (by omega) (by omega) rfl (fun E S9 hx => hx.elim) (fun v S9 hq => ?_)
  obtain ⟨rfl, rfl⟩ := hq
  refine GA.istore dX5_betweenMaps_17 (by decide) ?_
  refine GA.iconst dX5_betweenMaps_19 ?_
  refine GA.istore dX5_betweenMaps_20 (by decide) ?_
  refine GA.locals [(0, .ref (L 477)), (1, .int (J a1)), (2, .int (J a2)), (3, .int (J a3)), (4, .int (J x2)), (5, .int (J x8)), (6, .int (J 0))] ⟨rfl, rfl, rfl, rfl, rfl, rfl, rfl, trivial⟩ ?_
  exact ih_X5_betweenMaps_22 _ _ (a1) (a2) (a3) (x2) (x8) (0) _ _ H
set_option maxHeartbeats 4000000 in
set_option maxRecDepth 20000 in
theorem t_X5_betweenMaps_22 {l : Launch} {Z : XZ} {L : Nat → Nat} (n : Nat) (ih_X5_between_0 : P_X5_between_0 l Z L n) (ih_X5_between_58 : P_X5_between_58 l Z L n) (ih_X5_between_91 : P_X5_between_91 l Z L n) (ih_X5_betweenMaps_0 : P_X5_betweenMaps_0 l Z L n) (ih_X5_betweenMaps_22 : P_X5_betweenMaps_22 l Z L n) (ih_X5_betweenMaps_93 : P_X5_betweenMaps_93 l Z L n) (ih_X5_betweenMaps_124 : P_X5_betweenMaps_124 l Z L n) (ih_X5_betweenMaps_192 : P_X5_betweenMaps_192 l Z L n) (ih_X5_betweenMaps_223 : P_X5_betweenMaps_223 l Z L n) (ih_X5_betweenMaps_295 : P_X5_betweenMaps_295 l Z L n) : P_X5_betweenMaps_22 l Z L (n + 1) := by
  intro d S a1 a2 a3 a4 a5 a6 x S1 H
  have H : b_X5_betweenMaps_22 n d (f_X5_between n) S a1 a2 a3 a4 a5 a6 = some (x, S1) := H
  unfold b_X5_betweenMaps_22 at H
  refine GA.iload dX5_betweenMaps_22 rfl ?_
  refine GA.iconst dX5_betweenMaps_24 ?_
  obtain ⟨hg1, H⟩ := gg_e H
  refine GV.icmp_eq (tgt := 111) hg1 (by decide) dX5_betweenMaps_25 (by decide) (fun c2 => ?_) (fun c2 => ?_)
  · have H := it_t H c2
    refine GA.aload_n dX5_betweenMaps_111 rfl ?_
    obtain ⟨z3, hx4, H⟩ := gv_e H
    refine GV.getR hx4 xf_X5_41 dX5_betweenMaps_112 gs_477 (by decide) rfl ?_
    refine GA.iload_n dX5_betweenMaps_115 rfl ?_
    obtain ⟨hg5, H⟩ := gg_e H
    obtain ⟨hg6, H⟩ := gg_e H
    obtain ⟨x7, S_8, hc9, H⟩ := gc_e H
    refine GA.callV (m_X10_first hc9) xs_X5_86 dX5_betweenMaps_116 (gsT hg6) (by omega) rfl rfl (by omega) (by decide) rfl (Nat.le_of_ble_eq_true rfl) (by omega) (by omega) rfl (fun E S9 hx => hx.elim) (fun v S9 hq => ?_)
    obtain ⟨rfl, rfl⟩ := hq
    refine GA.istore dX5_betweenMaps_119 (by decide) ?_
    refine GA.iconst dX5_betweenMaps_121 ?_
    refine GA.istore dX5_betweenMaps_122 (by decide) ?_
    refine GA.locals [(0, .ref (L 477)), (1, .int (J a1)), (2, .int (J a2)), (3, .int (J a3)), (4, .int (J a4)), (5, .int (J x7)), (6, .int (J 0))] ⟨rfl, rfl, rfl, rfl, rfl, rfl, rfl, trivial⟩ ?_
    exact ih_X5_betweenMaps_124 _ _ (a1) (a2) (a3) (a4) (x7) (0) _ _ H
  · have H := it_f H c2
    refine GA.iload dX5_betweenMaps_28 rfl ?_
    refine GA.bipush dX5_betweenMaps_30 rfl ?_
    obtain ⟨hg10, H⟩ := gg_e H
    refine GV.icmp_ge (tgt := 111) hg10 (by decide) dX5_betweenMaps_32 (by decide) (fun c11 => ?_) (fun c11 => ?_)
    · have H := it_t H c11
      refine GA.aload_n dX5_betweenMaps_111 rfl ?_
      obtain ⟨z12, hx13, H⟩ := gv_e H
      refine GV.getR hx13 xf_X5_41 dX5_betweenMaps_112 gs_477 (by decide) rfl ?_
      refine GA.iload_n dX5_betweenMaps_115 rfl ?_
      obtain ⟨hg14, H⟩ := gg_e H
      obtain ⟨hg15, H⟩ := gg_e H
      obtain ⟨x16, S_17, hc18, H⟩ := gc_e H
      refine GA.callV (m_X10_first hc18) xs_X5_86 dX5_betweenMaps_116 (gsT hg15) (by omega) rfl rfl (by omega) (by decide) rfl (Nat.le_of_ble_eq_true rfl) (by omega) (by omega) rfl (fun E S9 hx => hx.elim) (fun v S9 hq => ?_)
      obtain ⟨rfl, rfl⟩ := hq
      refine GA.istore dX5_betweenMaps_119 (by decide) ?_
      refine GA.iconst dX5_betweenMaps_121 ?_
      refine GA.istore dX5_betweenMaps_122 (by decide) ?_
      refine GA.locals [(0, .ref (L 477)), (1, .int (J a1)), (2, .int (J a2)), (3, .int (J a3)), (4, .int (J a4)), (5, .int (J x16)), (6, .int (J 0))] ⟨rfl, rfl, rfl, rfl, rfl, rfl, rfl, trivial⟩ ?_
      exact ih_X5_betweenMaps_124 _ _ (a1) (a2) (a3) (a4) (x16) (0) _ _ H
    · have H := it_f H c11
      refine GA.aload_n dX5_betweenMaps_35 rfl ?_
      obtain ⟨z19, hx20, H⟩ := gv_e H
      refine GV.getR hx20 xf_X5_44 dX5_betweenMaps_36 gs_477 (by decide) rfl ?_
      refine GA.iload_n dX5_betweenMaps_39 rfl ?_
      refine GA.aload_n dX5_betweenMaps_40 rfl ?_
      obtain ⟨z21, hx22, H⟩ := gv_e H
      refine GV.getR hx22 xf_X5_41 dX5_betweenMaps_41 gs_477 (by decide) rfl ?_
      refine GA.iload dX5_betweenMaps_44 rfl ?_
      obtain ⟨hg23, H⟩ := gg_e H
      obtain ⟨hg24, H⟩ := gg_e H
      obtain ⟨x25, S_26, hc27, H⟩ := gc_e H
      refine GA.callV (m_X10_valueLike hc27) xs_X5_89 dX5_betweenMaps_46 (gsT hg24) (by omega) rfl rfl (by omega) (by decide) rfl (Nat.le_of_ble_eq_true rfl) (by omega) (by omega) rfl (fun E S9 hx => hx.elim) (fun v S9 hq => ?_)
      obtain ⟨rfl, rfl⟩ := hq
      refine GA.iconst dX5_betweenMaps_49 ?_
      obtain ⟨hg28, H⟩ := gg_e H
      refine GV.icmp_ne (tgt := 93) hg28 (by decide) dX5_betweenMaps_50 (by decide) (fun c29 => ?_) (fun c29 => ?_)
      · have H := it_t H c29
        refine GA.locals [(0, .ref (L 477)), (1, .int (J a1)), (2, .int (J a2)), (3, .int (J a3)), (4, .int (J a4)), (5, .int (J a5)), (6, .int (J a6))] ⟨rfl, rfl, rfl, rfl, rfl, rfl, rfl, trivial⟩ ?_
        exact ih_X5_betweenMaps_93 _ _ (a1) (a2) (a3) (a4) (a5) (a6) _ _ H
      · have H := it_f H c29
        refine GA.aload_n dX5_betweenMaps_53 rfl ?_
        obtain ⟨z30, hx31, H⟩ := gv_e H
        refine GV.getR hx31 xf_X5_41 dX5_betweenMaps_54 gs_477 (by decide) rfl ?_
        refine GA.iload dX5_betweenMaps_57 rfl ?_
        refine GA.aload_n dX5_betweenMaps_59 rfl ?_
        refine GA.get xf_X5_14 dX5_betweenMaps_60 gs_477 (by decide) rfl ?_
        obtain ⟨hg32, H⟩ := gg_e H
        obtain ⟨x33, S_34, hc35, H⟩ := gc_e H
        refine GA.callV (m_X10_stepTo hc35) xs_X5_93 dX5_betweenMaps_63 (gsT hg32) (by omega) rfl rfl (by omega) (by decide) rfl (Nat.le_of_ble_eq_true rfl) (by omega) (by omega) rfl (fun E S9 hx => hx.elim) (fun v S9 hq => ?_)
        obtain ⟨rfl, rfl⟩ := hq
        refine GA.aload_n dX5_betweenMaps_66 rfl ?_
        obtain ⟨z36, hx37, H⟩ := gv_e H
        refine GV.getR hx37 xf_X5_37 dX5_betweenMaps_67 gs_477 (by decide) rfl ?_
        refine GA.ldcS (i := 25) (tx := "remove") (by decide +kernel) dX5_betweenMaps_70 ?_
        refine GA.aload_n dX5_betweenMaps_72 rfl ?_
        refine GA.get xf_X5_14 dX5_betweenMaps_73 gs_477 (by decide) rfl ?_
        refine GA.aload_n dX5_betweenMaps_76 rfl ?_
        obtain ⟨z38, hx39, H⟩ := gv_e H
        refine GV.getR hx39 xf_X5_41 dX5_betweenMaps_77 gs_477 (by decide) rfl ?_
        refine GA.iconst dX5_betweenMaps_80 ?_
        obtain ⟨x40, S_41, hc42, H⟩ := gc_e H
        refine GA.callS (m_X5_add hc42) xs_X5_79 dX5_betweenMaps_81 rfl (by omega) (by decide) rfl (Nat.le_of_ble_eq_true rfl) (by omega) (by omega) rfl (fun E S9 hx => hx.elim) (fun v S9 hq => ?_)
        obtain ⟨rfl, rfl⟩ := hq
        refine GA.aload_n dX5_betweenMaps_84 rfl ?_
        refine GA.get xf_X5_14 dX5_betweenMaps_85 gs_477 (by decide) rfl ?_
        refine GA.iload dX5_betweenMaps_88 rfl ?_
        obtain ⟨x43, S_44, hc45, H⟩ := gc_e H
        refine GA.callV (m_X9_shorten hc45) xs_X5_99 dX5_betweenMaps_90 (gsS (by decide)) (by decide) rfl rfl (by omega) (by decide) rfl (Nat.le_of_ble_eq_true rfl) (by omega) (by omega) rfl (fun E S9 hx => hx.elim) (fun v S9 hq => ?_)
        obtain ⟨rfl, rfl⟩ := hq
        refine GA.locals [(0, .ref (L 477)), (1, .int (J a1)), (2, .int (J a2)), (3, .int (J a3)), (4, .int (J a4)), (5, .int (J a5)), (6, .int (J a6))] ⟨rfl, rfl, rfl, rfl, rfl, rfl, rfl, trivial⟩ ?_
        exact ih_X5_betweenMaps_93 _ _ (a1) (a2) (a3) (a4) (a5) (a6) _ _ H
set_option maxHeartbeats 4000000 in
set_option maxRecDepth 20000 in
theorem t_X5_betweenMaps_93 {l : Launch} {Z : XZ} {L : Nat → Nat} (n : Nat) (ih_X5_between_0 : P_X5_between_0 l Z L n) (ih_X5_between_58 : P_X5_between_58 l Z L n) (ih_X5_between_91 : P_X5_between_91 l Z L n) (ih_X5_betweenMaps_0 : P_X5_betweenMaps_0 l Z L n) (ih_X5_betweenMaps_22 : P_X5_betweenMaps_22 l Z L n) (ih_X5_betweenMaps_93 : P_X5_betweenMaps_93 l Z L n) (ih_X5_betweenMaps_124 : P_X5_betweenMaps_124 l Z L n) (ih_X5_betweenMaps_192 : P_X5_betweenMaps_192 l Z L n) (ih_X5_betweenMaps_223 : P_X5_betweenMaps_223 l Z L n) (ih_X5_betweenMaps_295 : P_X5_betweenMaps_295 l Z L n) : P_X5_betweenMaps_93 l Z L (n + 1) := by
  intro d S a1 a2 a3 a4 a5 a6 x S1 H
  have H : b_X5_betweenMaps_93 n d (f_X5_between n) S a1 a2 a3 a4 a5 a6 = some (x, S1) := H
  unfold b_X5_betweenMaps_93 at H
  refine GA.aload_n dX5_betweenMaps_93 rfl ?_
  obtain ⟨z1, hx2, H⟩ := gv_e H
  refine GV.getR hx2 xf_X5_41 dX5_betweenMaps_94 gs_477 (by decide) rfl ?_
  refine GA.iload_n dX5_betweenMaps_97 rfl ?_
  refine GA.iload dX5_betweenMaps_98 rfl ?_
  obtain ⟨hg3, H⟩ := gg_e H
  obtain ⟨hg4, H⟩ := gg_e H
  obtain ⟨x5, S_6, hc7, H⟩ := gc_e H
  refine GA.callV (m_X10_next hc7) xs_X5_102 dX5_betweenMaps_100 (gsT hg4) (by omega) rfl rfl (by omega) (by decide) rfl (Nat.le_of_ble_eq_true rfl) (by omega) (by omega) rfl (fun E S9 hx => hx.elim) (fun v S9 hq => ?_)
  obtain ⟨rfl, rfl⟩ := hq
  refine GA.istore dX5_betweenMaps_103 (by decide) ?_
  obtain ⟨x8, hx9, H⟩ := gv_e H
  refine GV.iinc hx9 dX5_betweenMaps_105 rfl (by decide) ?_
  refine GA.goto (tgt := 22) dX5_betweenMaps_108 (by decide) ?_
  refine GA.locals [(0, .ref (L 477)), (1, .int (J a1)), (2, .int (J a2)), (3, .int (J a3)), (4, .int (J a4)), (5, .int (J x5)), (6, .int (J x8))] ⟨rfl, rfl, rfl, rfl, rfl, rfl, rfl, trivial⟩ ?_
  exact ih_X5_betweenMaps_22 _ _ (a1) (a2) (a3) (a4) (x5) (x8) _ _ H
set_option maxHeartbeats 4000000 in
set_option maxRecDepth 20000 in
theorem t_X5_betweenMaps_124 {l : Launch} {Z : XZ} {L : Nat → Nat} (n : Nat) (ih_X5_between_0 : P_X5_between_0 l Z L n) (ih_X5_between_58 : P_X5_between_58 l Z L n) (ih_X5_between_91 : P_X5_between_91 l Z L n) (ih_X5_betweenMaps_0 : P_X5_betweenMaps_0 l Z L n) (ih_X5_betweenMaps_22 : P_X5_betweenMaps_22 l Z L n) (ih_X5_betweenMaps_93 : P_X5_betweenMaps_93 l Z L n) (ih_X5_betweenMaps_124 : P_X5_betweenMaps_124 l Z L n) (ih_X5_betweenMaps_192 : P_X5_betweenMaps_192 l Z L n) (ih_X5_betweenMaps_223 : P_X5_betweenMaps_223 l Z L n) (ih_X5_betweenMaps_295 : P_X5_betweenMaps_295 l Z L n) : P_X5_betweenMaps_124 l Z L (n + 1) := by
  intro d S a1 a2 a3 a4 a5 a6 x S1 H
  have H : b_X5_betweenMaps_124 n d (f_X5_between n) S a1 a2 a3 a4 a5 a6 = some (x, S1) := H
  unfold b_X5_betweenMaps_124 at H
  refine GA.iload dX5_betweenMaps_124 rfl ?_
  refine GA.iconst dX5_betweenMaps_126 ?_
  obtain ⟨hg1, H⟩ := gg_e H
  refine GV.icmp_eq (tgt := 210) hg1 (by decide) dX5_betweenMaps_127 (by decide) (fun c2 => ?_) (fun c2 => ?_)
  · have H := it_t H c2
    refine GA.aload_n dX5_betweenMaps_210 rfl ?_
    obtain ⟨z3, hx4, H⟩ := gv_e H
    refine GV.getR hx4 xf_X5_44 dX5_betweenMaps_211 gs_477 (by decide) rfl ?_
    refine GA.iload_n dX5_betweenMaps_214 rfl ?_
    obtain ⟨hg5, H⟩ := gg_e H
    obtain ⟨hg6, H⟩ := gg_e H
    obtain ⟨x7, S_8, hc9, H⟩ := gc_e H
    refine GA.callV (m_X10_first hc9) xs_X5_86 dX5_betweenMaps_215 (gsT hg6) (by omega) rfl rfl (by omega) (by decide) rfl (Nat.le_of_ble_eq_true rfl) (by omega) (by omega) rfl (fun E S9 hx => hx.elim) (fun v S9 hq => ?_)
    obtain ⟨rfl, rfl⟩ := hq
    refine GA.istore dX5_betweenMaps_218 (by decide) ?_
    refine GA.iconst dX5_betweenMaps_220 ?_
    refine GA.istore dX5_betweenMaps_221 (by decide) ?_
    refine GA.locals [(0, .ref (L 477)), (1, .int (J a1)), (2, .int (J a2)), (4, .int (J a4)), (5, .int (J x7)), (6, .int (J 0))] ⟨rfl, rfl, rfl, rfl, rfl, rfl, trivial⟩ ?_
    exact ih_X5_betweenMaps_223 _ _ (a1) (a2) (a4) (x7) (0) _ _ H
  · have H := it_f H c2
    refine GA.iload dX5_betweenMaps_130 rfl ?_
    refine GA.bipush dX5_betweenMaps_132 rfl ?_
    obtain ⟨hg10, H⟩ := gg_e H
    refine GV.icmp_ge (tgt := 210) hg10 (by decide) dX5_betweenMaps_134 (by decide) (fun c11 => ?_) (fun c11 => ?_)
    · have H := it_t H c11
      refine GA.aload_n dX5_betweenMaps_210 rfl ?_
      obtain ⟨z12, hx13, H⟩ := gv_e H
      refine GV.getR hx13 xf_X5_44 dX5_betweenMaps_211 gs_477 (by decide) rfl ?_
      refine GA.iload_n dX5_betweenMaps_214 rfl ?_
      obtain ⟨hg14, H⟩ := gg_e H
      obtain ⟨hg15, H⟩ := gg_e H
      obtain ⟨x16, S_17, hc18, H⟩ := gc_e H
      refine GA.callV (m_X10_first hc18) xs_X5_86 dX5_betweenMaps_215 (gsT hg15) (by omega) rfl rfl (by omega) (by decide) rfl (Nat.le_of_ble_eq_true rfl) (by omega) (by omega) rfl (fun E S9 hx => hx.elim) (fun v S9 hq => ?_)
      obtain ⟨rfl, rfl⟩ := hq
      refine GA.istore dX5_betweenMaps_218 (by decide) ?_
      refine GA.iconst dX5_betweenMaps_220 ?_
      refine GA.istore dX5_betweenMaps_221 (by decide) ?_
      refine GA.locals [(0, .ref (L 477)), (1, .int (J a1)), (2, .int (J a2)), (4, .int (J a4)), (5, .int (J x16)), (6, .int (J 0))] ⟨rfl, rfl, rfl, rfl, rfl, rfl, trivial⟩ ?_
      exact ih_X5_betweenMaps_223 _ _ (a1) (a2) (a4) (x16) (0) _ _ H
    · have H := it_f H c11
      refine GA.aload_n dX5_betweenMaps_137 rfl ?_
      obtain ⟨z19, hx20, H⟩ := gv_e H
      refine GV.getR hx20 xf_X5_44 dX5_betweenMaps_138 gs_477 (by decide) rfl ?_
      refine GA.iload_n dX5_betweenMaps_141 rfl ?_
      refine GA.aload_n dX5_betweenMaps_142 rfl ?_
      obtain ⟨z21, hx22, H⟩ := gv_e H
      refine GV.getR hx22 xf_X5_41 dX5_betweenMaps_143 gs_477 (by decide) rfl ?_
      refine GA.iload dX5_betweenMaps_146 rfl ?_
      obtain ⟨hg23, H⟩ := gg_e H
      obtain ⟨hg24, H⟩ := gg_e H
      obtain ⟨x25, S_26, hc27, H⟩ := gc_e H
      refine GA.callV (m_X10_valueLike hc27) xs_X5_89 dX5_betweenMaps_148 (gsT hg24) (by omega) rfl rfl (by omega) (by decide) rfl (Nat.le_of_ble_eq_true rfl) (by omega) (by omega) rfl (fun E S9 hx => hx.elim) (fun v S9 hq => ?_)
      obtain ⟨rfl, rfl⟩ := hq
      refine GA.istore dX5_betweenMaps_151 (by decide) ?_
      refine GA.iload dX5_betweenMaps_153 rfl ?_
      refine GA.iconst dX5_betweenMaps_155 ?_
      obtain ⟨hg28, H⟩ := gg_e H
      refine GV.icmp_eq (tgt := 192) hg28 (by decide) dX5_betweenMaps_156 (by decide) (fun c29 => ?_) (fun c29 => ?_)
      · have H := it_t H c29
        refine GA.locals [(0, .ref (L 477)), (1, .int (J a1)), (2, .int (J a2)), (3, .int (J a3)), (4, .int (J a4)), (5, .int (J a5)), (6, .int (J a6))] ⟨rfl, rfl, rfl, rfl, rfl, rfl, rfl, trivial⟩ ?_
        exact ih_X5_betweenMaps_192 _ _ (a1) (a2) (a3) (a4) (a5) (a6) _ _ H
      · have H := it_f H c29
        refine GA.aload_n dX5_betweenMaps_159 rfl ?_
        obtain ⟨z30, hx31, H⟩ := gv_e H
        refine GV.getR hx31 xf_X5_41 dX5_betweenMaps_160 gs_477 (by decide) rfl ?_
        refine GA.iload dX5_betweenMaps_163 rfl ?_
        refine GA.aload_n dX5_betweenMaps_165 rfl ?_
        refine GA.get xf_X5_14 dX5_betweenMaps_166 gs_477 (by decide) rfl ?_
        obtain ⟨hg32, H⟩ := gg_e H
        obtain ⟨x33, S_34, hc35, H⟩ := gc_e H
        refine GA.callV (m_X10_stepTo hc35) xs_X5_93 dX5_betweenMaps_169 (gsT hg32) (by omega) rfl rfl (by omega) (by decide) rfl (Nat.le_of_ble_eq_true rfl) (by omega) (by omega) rfl (fun E S9 hx => hx.elim) (fun v S9 hq => ?_)
        obtain ⟨rfl, rfl⟩ := hq
        refine GA.aload_n dX5_betweenMaps_172 rfl ?_
        refine GA.iload dX5_betweenMaps_173 rfl ?_
        refine GA.iload dX5_betweenMaps_175 rfl ?_
        refine GA.iload_n dX5_betweenMaps_177 rfl ?_
        refine GA.iconst dX5_betweenMaps_178 ?_
        obtain ⟨x36, hx37, H⟩ := gv_e H
        refine GV.iadd hx37 dX5_betweenMaps_179 ?_
        obtain ⟨x38, S_39, hc40, H⟩ := gc_e H
        refine GA.callV (i_X5_between ih_X5_between_0 hc40) xs_X5_55 dX5_betweenMaps_180 gs_477 (by decide) rfl rfl (by omega) (by decide) rfl (Nat.le_of_ble_eq_true rfl) (by omega) (by omega) rfl (fun E S9 hx => hx.elim) (fun v S9 hq => ?_)
        obtain ⟨rfl, rfl⟩ := hq
        refine GA.aload_n dX5_betweenMaps_183 rfl ?_
        refine GA.get xf_X5_14 dX5_betweenMaps_184 gs_477 (by decide) rfl ?_
        refine GA.iload dX5_betweenMaps_187 rfl ?_
        obtain ⟨x41, S_42, hc43, H⟩ := gc_e H
        refine GA.callV (m_X9_shorten hc43) xs_X5_99 dX5_betweenMaps_189 (gsS (by decide)) (by decide) rfl rfl (by omega) (by decide) rfl (Nat.le_of_ble_eq_true rfl) (by omega) (by omega) rfl (fun E S9 hx => hx.elim) (fun v S9 hq => ?_)
        obtain ⟨rfl, rfl⟩ := hq
        refine GA.locals [(0, .ref (L 477)), (1, .int (J a1)), (2, .int (J a2)), (3, .int (J a3)), (4, .int (J a4)), (5, .int (J a5)), (6, .int (J a6))] ⟨rfl, rfl, rfl, rfl, rfl, rfl, rfl, trivial⟩ ?_
        exact ih_X5_betweenMaps_192 _ _ (a1) (a2) (a3) (a4) (a5) (a6) _ _ H
set_option maxHeartbeats 4000000 in
set_option maxRecDepth 20000 in
theorem t_X5_betweenMaps_192 {l : Launch} {Z : XZ} {L : Nat → Nat} (n : Nat) (ih_X5_between_0 : P_X5_between_0 l Z L n) (ih_X5_between_58 : P_X5_between_58 l Z L n) (ih_X5_between_91 : P_X5_between_91 l Z L n) (ih_X5_betweenMaps_0 : P_X5_betweenMaps_0 l Z L n) (ih_X5_betweenMaps_22 : P_X5_betweenMaps_22 l Z L n) (ih_X5_betweenMaps_93 : P_X5_betweenMaps_93 l Z L n) (ih_X5_betweenMaps_124 : P_X5_betweenMaps_124 l Z L n) (ih_X5_betweenMaps_192 : P_X5_betweenMaps_192 l Z L n) (ih_X5_betweenMaps_223 : P_X5_betweenMaps_223 l Z L n) (ih_X5_betweenMaps_295 : P_X5_betweenMaps_295 l Z L n) : P_X5_betweenMaps_192 l Z L (n + 1) := by
  intro d S a1 a2 a3 a4 a5 a6 x S1 H
  have H : b_X5_betweenMaps_192 n d (f_X5_between n) S a1 a2 a3 a4 a5 a6 = some (x, S1) := H
  unfold b_X5_betweenMaps_192 at H
  refine GA.aload_n dX5_betweenMaps_192 rfl ?_
  obtain ⟨z1, hx2, H⟩ := gv_e H
  refine GV.getR hx2 xf_X5_41 dX5_betweenMaps_193 gs_477 (by decide) rfl ?_
  refine GA.iload_n dX5_betweenMaps_196 rfl ?_
  refine GA.iload dX5_betweenMaps_197 rfl ?_
  obtain ⟨hg3, H⟩ := gg_e H
  obtain ⟨hg4, H⟩ := gg_e H
  obtain ⟨x5, S_6, hc7, H⟩ := gc_e H
  refine GA.callV (m_X10_next hc7) xs_X5_102 dX5_betweenMaps_199 (gsT hg4) (by omega) rfl rfl (by omega) (by decide) rfl (Nat.le_of_ble_eq_true rfl) (by omega) (by omega) rfl (fun E S9 hx => hx.elim) (fun v S9 hq => ?_)
  obtain ⟨rfl, rfl⟩ := hq
  refine GA.istore dX5_betweenMaps_202 (by decide) ?_
  obtain ⟨x8, hx9, H⟩ := gv_e H
  refine GV.iinc hx9 dX5_betweenMaps_204 rfl (by decide) ?_
  refine GA.goto (tgt := 124) dX5_betweenMaps_207 (by decide) ?_
  refine GA.locals [(0, .ref (L 477)), (1, .int (J a1)), (2, .int (J a2)), (3, .int (J a3)), (4, .int (J a4)), (5, .int (J x5)), (6, .int (J x8))] ⟨rfl, rfl, rfl, rfl, rfl, rfl, rfl, trivial⟩ ?_
  exact ih_X5_betweenMaps_124 _ _ (a1) (a2) (a3) (a4) (x5) (x8) _ _ H
set_option maxHeartbeats 4000000 in
set_option maxRecDepth 20000 in
theorem t_X5_betweenMaps_223 {l : Launch} {Z : XZ} {L : Nat → Nat} (n : Nat) (ih_X5_between_0 : P_X5_between_0 l Z L n) (ih_X5_between_58 : P_X5_between_58 l Z L n) (ih_X5_between_91 : P_X5_between_91 l Z L n) (ih_X5_betweenMaps_0 : P_X5_betweenMaps_0 l Z L n) (ih_X5_betweenMaps_22 : P_X5_betweenMaps_22 l Z L n) (ih_X5_betweenMaps_93 : P_X5_betweenMaps_93 l Z L n) (ih_X5_betweenMaps_124 : P_X5_betweenMaps_124 l Z L n) (ih_X5_betweenMaps_192 : P_X5_betweenMaps_192 l Z L n) (ih_X5_betweenMaps_223 : P_X5_betweenMaps_223 l Z L n) (ih_X5_betweenMaps_295 : P_X5_betweenMaps_295 l Z L n) : P_X5_betweenMaps_223 l Z L (n + 1) := by
  intro d S a1 a2 a4 a5 a6 x S1 H
  have H : b_X5_betweenMaps_223 n d (f_X5_between n) S a1 a2 a4 a5 a6 = some (x, S1) := H
  unfold b_X5_betweenMaps_223 at H
  refine GA.iload dX5_betweenMaps_223 rfl ?_
  refine GA.iconst dX5_betweenMaps_225 ?_
  obtain ⟨hg1, H⟩ := gg_e H
  refine GV.icmp_eq (tgt := 313) hg1 (by decide) dX5_betweenMaps_226 (by decide) (fun c2 => ?_) (fun c2 => ?_)
  · have H := it_t H c2
    cases H
    exact GA.vret rfl dX5_betweenMaps_313 (by omega) (by omega) ⟨rfl, rfl⟩
  · have H := it_f H c2
    refine GA.iload dX5_betweenMaps_229 rfl ?_
    refine GA.bipush dX5_betweenMaps_231 rfl ?_
    obtain ⟨hg3, H⟩ := gg_e H
    refine GV.icmp_ge (tgt := 313) hg3 (by decide) dX5_betweenMaps_233 (by decide) (fun c4 => ?_) (fun c4 => ?_)
    · have H := it_t H c4
      cases H
      exact GA.vret rfl dX5_betweenMaps_313 (by omega) (by omega) ⟨rfl, rfl⟩
    · have H := it_f H c4
      refine GA.aload_n dX5_betweenMaps_236 rfl ?_
      obtain ⟨z5, hx6, H⟩ := gv_e H
      refine GV.getR hx6 xf_X5_41 dX5_betweenMaps_237 gs_477 (by decide) rfl ?_
      refine GA.iload_n dX5_betweenMaps_240 rfl ?_
      refine GA.aload_n dX5_betweenMaps_241 rfl ?_
      obtain ⟨z7, hx8, H⟩ := gv_e H
      refine GV.getR hx8 xf_X5_44 dX5_betweenMaps_242 gs_477 (by decide) rfl ?_
      refine GA.iload dX5_betweenMaps_245 rfl ?_
      obtain ⟨hg9, H⟩ := gg_e H
      obtain ⟨hg10, H⟩ := gg_e H
      obtain ⟨x11, S_12, hc13, H⟩ := gc_e H
      refine GA.callV (m_X10_valueLike hc13) xs_X5_89 dX5_betweenMaps_247 (gsT hg10) (by omega) rfl rfl (by omega) (by decide) rfl (Nat.le_of_ble_eq_true rfl) (by omega) (by omega) rfl (fun E S9 hx => hx.elim) (fun v S9 hq => ?_)
      obtain ⟨rfl, rfl⟩ := hq
      refine GA.iconst dX5_betweenMaps_250 ?_
      obtain ⟨hg14, H⟩ := gg_e H
      refine GV.icmp_ne (tgt := 295) hg14 (by decide) dX5_betweenMaps_251 (by decide) (fun c15 => ?_) (fun c15 => ?_)
      · have H := it_t H c15
        refine GA.locals [(0, .ref (L 477)), (1, .int (J a1)), (2, .int (J a2)), (4, .int (J a4)), (5, .int (J a5)), (6, .int (J a6))] ⟨rfl, rfl, rfl, rfl, rfl, rfl, trivial⟩ ?_
        exact ih_X5_betweenMaps_295 _ _ (a1) (a2) (a4) (a5) (a6) _ _ H
      · have H := it_f H c15
        refine GA.aload_n dX5_betweenMaps_254 rfl ?_
        obtain ⟨z16, hx17, H⟩ := gv_e H
        refine GV.getR hx17 xf_X5_44 dX5_betweenMaps_255 gs_477 (by decide) rfl ?_
        refine GA.iload dX5_betweenMaps_258 rfl ?_
        refine GA.aload_n dX5_betweenMaps_260 rfl ?_
        refine GA.get xf_X5_14 dX5_betweenMaps_261 gs_477 (by decide) rfl ?_
        obtain ⟨hg18, H⟩ := gg_e H
        obtain ⟨x19, S_20, hc21, H⟩ := gc_e H
        refine GA.callV (m_X10_stepTo hc21) xs_X5_93 dX5_betweenMaps_264 (gsT hg18) (by omega) rfl rfl (by omega) (by decide) rfl (Nat.le_of_ble_eq_true rfl) (by omega) (by omega) rfl (fun E S9 hx => hx.elim) (fun v S9 hq => ?_)
        obtain ⟨rfl, rfl⟩ := hq
        refine GA.aload_n dX5_betweenMaps_267 rfl ?_
        obtain ⟨z22, hx23, H⟩ := gv_e H
        refine GV.getR hx23 xf_X5_37 dX5_betweenMaps_268 gs_477 (by decide) rfl ?_
        refine GA.ldcS (i := 26) (tx := "add") (by decide +kernel) dX5_betweenMaps_271 ?_
        refine GA.aload_n dX5_betweenMaps_273 rfl ?_
        refine GA.get xf_X5_14 dX5_betweenMaps_274 gs_477 (by decide) rfl ?_
        refine GA.aload_n dX5_betweenMaps_277 rfl ?_
        obtain ⟨z24, hx25, H⟩ := gv_e H
        refine GV.getR hx25 xf_X5_44 dX5_betweenMaps_278 gs_477 (by decide) rfl ?_
        refine GA.iload dX5_betweenMaps_281 rfl ?_
        obtain ⟨x26, S_27, hc28, H⟩ := gc_e H
        refine GA.callS (m_X5_add hc28) xs_X5_79 dX5_betweenMaps_283 rfl (by omega) (by decide) rfl (Nat.le_of_ble_eq_true rfl) (by omega) (by omega) rfl (fun E S9 hx => hx.elim) (fun v S9 hq => ?_)
        obtain ⟨rfl, rfl⟩ := hq
        refine GA.aload_n dX5_betweenMaps_286 rfl ?_
        refine GA.get xf_X5_14 dX5_betweenMaps_287 gs_477 (by decide) rfl ?_
        refine GA.iload dX5_betweenMaps_290 rfl ?_
        obtain ⟨x29, S_30, hc31, H⟩ := gc_e H
        refine GA.callV (m_X9_shorten hc31) xs_X5_99 dX5_betweenMaps_292 (gsS (by decide)) (by decide) rfl rfl (by omega) (by decide) rfl (Nat.le_of_ble_eq_true rfl) (by omega) (by omega) rfl (fun E S9 hx => hx.elim) (fun v S9 hq => ?_)
        obtain ⟨rfl, rfl⟩ := hq
        refine GA.locals [(0, .ref (L 477)), (1, .int (J a1)), (2, .int (J a2)), (4, .int (J a4)), (5, .int (J a5)), (6, .int (J a6))] ⟨rfl, rfl, rfl, rfl, rfl, rfl, trivial⟩ ?_
        exact ih_X5_betweenMaps_295 _ _ (a1) (a2) (a4) (a5) (a6) _ _ H
set_option maxHeartbeats 4000000 in
set_option maxRecDepth 20000 in
theorem t_X5_betweenMaps_295 {l : Launch} {Z : XZ} {L : Nat → Nat} (n : Nat) (ih_X5_between_0 : P_X5_between_0 l Z L n) (ih_X5_between_58 : P_X5_between_58 l Z L n) (ih_X5_between_91 : P_X5_between_91 l Z L n) (ih_X5_betweenMaps_0 : P_X5_betweenMaps_0 l Z L n) (ih_X5_betweenMaps_22 : P_X5_betweenMaps_22 l Z L n) (ih_X5_betweenMaps_93 : P_X5_betweenMaps_93 l Z L n) (ih_X5_betweenMaps_124 : P_X5_betweenMaps_124 l Z L n) (ih_X5_betweenMaps_192 : P_X5_betweenMaps_192 l Z L n) (ih_X5_betweenMaps_223 : P_X5_betweenMaps_223 l Z L n) (ih_X5_betweenMaps_295 : P_X5_betweenMaps_295 l Z L n) : P_X5_betweenMaps_295 l Z L (n + 1) := by
  intro d S a1 a2 a4 a5 a6 x S1 H
  have H : b_X5_betweenMaps_295 n d (f_X5_between n) S a1 a2 a4 a5 a6 = some (x, S1) := H
  unfold b_X5_betweenMaps_295 at H
  refine GA.aload_n dX5_betweenMaps_295 rfl ?_
  obtain ⟨z1, hx2, H⟩ := gv_e H
  refine GV.getR hx2 xf_X5_44 dX5_betweenMaps_296 gs_477 (by decide) rfl ?_
  refine GA.iload_n dX5_betweenMaps_299 rfl ?_
  refine GA.iload dX5_betweenMaps_300 rfl ?_
  obtain ⟨hg3, H⟩ := gg_e H
  obtain ⟨hg4, H⟩ := gg_e H
  obtain ⟨x5, S_6, hc7, H⟩ := gc_e H
  refine GA.callV (m_X10_next hc7) xs_X5_102 dX5_betweenMaps_302 (gsT hg4) (by omega) rfl rfl (by omega) (by decide) rfl (Nat.le_of_ble_eq_true rfl) (by omega) (by omega) rfl (fun E S9 hx => hx.elim) (fun v S9 hq => ?_)
  obtain ⟨rfl, rfl⟩ := hq
  refine GA.istore dX5_betweenMaps_305 (by decide) ?_
  obtain ⟨x8, hx9, H⟩ := gv_e H
  refine GV.iinc hx9 dX5_betweenMaps_307 rfl (by decide) ?_
  refine GA.goto (tgt := 223) dX5_betweenMaps_310 (by decide) ?_
  refine GA.locals [(0, .ref (L 477)), (1, .int (J a1)), (2, .int (J a2)), (4, .int (J a4)), (5, .int (J x5)), (6, .int (J x8))] ⟨rfl, rfl, rfl, rfl, rfl, rfl, trivial⟩ ?_
  exact ih_X5_betweenMaps_223 _ _ (a1) (a2) (a4) (x5) (x8) _ _ H
theorem g_X5_between {l : Launch} {Z : XZ} {L : Nat → Nat} : ∀ n, P_X5_between_0 l Z L n ∧ P_X5_between_58 l Z L n ∧ P_X5_between_91 l Z L n ∧ P_X5_betweenMaps_0 l Z L n ∧ P_X5_betweenMaps_22 l Z L n ∧ P_X5_betweenMaps_93 l Z L n ∧ P_X5_betweenMaps_124 l Z L n ∧ P_X5_betweenMaps_192 l Z L n ∧ P_X5_betweenMaps_223 l Z L n ∧ P_X5_betweenMaps_295 l Z L n
  | 0 => ⟨fun _ _ _ _ _ _ _ H => no_e H, fun _ _ _ _ _ _ H => no_e H, fun _ _ _ _ _ H => no_e H, fun _ _ _ _ _ _ _ H => no_e H, fun _ _ _ _ _ _ _ _ _ _ H => no_e H, fun _ _ _ _ _ _ _ _ _ _ H => no_e H, fun _ _ _ _ _ _ _ _ _ _ H => no_e H, fun _ _ _ _ _ _ _ _ _ _ H => no_e H, fun _ _ _ _ _ _ _ _ _ H => no_e H, fun _ _ _ _ _ _ _ _ _ H => no_e H⟩
  | n + 1 => have ⟨h0, h1, h2, h3, h4, h5, h6, h7, h8, h9⟩ := g_X5_between (l := l) (Z := Z) (L := L) n
    ⟨t_X5_between_0 n h0 h1 h2 h3 h4 h5 h6 h7 h8 h9, t_X5_between_58 n h0 h1 h2 h3 h4 h5 h6 h7 h8 h9, t_X5_between_91 n h0 h1 h2 h3 h4 h5 h6 h7 h8 h9, t_X5_betweenMaps_0 n h0 h1 h2 h3 h4 h5 h6 h7 h8 h9, t_X5_betweenMaps_22 n h0 h1 h2 h3 h4 h5 h6 h7 h8 h9, t_X5_betweenMaps_93 n h0 h1 h2 h3 h4 h5 h6 h7 h8 h9, t_X5_betweenMaps_124 n h0 h1 h2 h3 h4 h5 h6 h7 h8 h9, t_X5_betweenMaps_192 n h0 h1 h2 h3 h4 h5 h6 h7 h8 h9, t_X5_betweenMaps_223 n h0 h1 h2 h3 h4 h5 h6 h7 h8 h9, t_X5_betweenMaps_295 n h0 h1 h2 h3 h4 h5 h6 h7 h8 h9⟩
theorem m_X5_between {l : Launch} {Z : XZ} {L : Nat → Nat} {n d : Nat} {S : GS} {a1 : Int} {a2 : Int} {a3 : Int} {x : Int} {S1 : GS} (H : f_X5_between n d 0 S [a1, a2, a3] = some (x, S1)) : GM l Z L yX5_between cX5_between 4 none [] d 0 0 [.ref (L 477), .int (J a1), .int (J a2), .int (J a3)] S (fun v S' => v = none ∧ S1 = S') (fun _ _ => False) := GM.of (by decide) (Nat.le_of_ble_eq_true rfl) ((g_X5_between n).1 _ _ _ _ _ _ _ H)
theorem m_X5_betweenMaps {l : Launch} {Z : XZ} {L : Nat → Nat} {n d : Nat} {S : GS} {a1 : Int} {a2 : Int} {a3 : Int} {x : Int} {S1 : GS} (H : f_X5_between n d 10000 S [a1, a2, a3] = some (x, S1)) : GM l Z L yX5_betweenMaps cX5_betweenMaps 8 none [] d 0 0 [.ref (L 477), .int (J a1), .int (J a2), .int (J a3)] S (fun v S' => v = none ∧ S1 = S') (fun _ _ => False) := GM.of (by decide) (Nat.le_of_ble_eq_true rfl) ((g_X5_between n).2.2.2.1 _ _ _ _ _ _ _ H)

def P_X5_listTo_0 (l : Launch) (Z : XZ) (L : Nat → Nat) (n : Nat) : Prop := ∀ (d : Nat) (S : GS) (a1 : Nat) (a2 : Nat) (a3 : Nat) (x : Int) (S1 : GS), f_X5_listTo n d 0 S [((a1 : Nat) : Int), ((a2 : Nat) : Int), ((a3 : Nat) : Int)] = some (x, S1) → GA l Z L yX5_listTo cX5_listTo 5 none [] d 0 0 (fun v S' => v = none ∧ S1 = S') (fun _ _ => False) 0 (gl [(0, .ref (L 477)), (1, .ref (L a1)), (2, .ref (L a2)), (3, .ref (L a3))]) [] S 0 0
theorem i_X5_listTo {l : Launch} {Z : XZ} {L : Nat → Nat} {n : Nat} (ih : P_X5_listTo_0 l Z L n) {d : Nat} {S : GS} {a1 : Nat} {a2 : Nat} {a3 : Nat} {x : Int} {S1 : GS} (H : f_X5_listTo n d 0 S [((a1 : Nat) : Int), ((a2 : Nat) : Int), ((a3 : Nat) : Int)] = some (x, S1)) : GM l Z L yX5_listTo cX5_listTo 5 none [] d 0 0 [.ref (L 477), .ref (L a1), .ref (L a2), .ref (L a3)] S (fun v S' => v = none ∧ S1 = S') (fun _ _ => False) := GM.of (by decide) (Nat.le_of_ble_eq_true rfl) (ih _ _ _ _ _ _ _ H)
set_option maxHeartbeats 4000000 in
set_option maxRecDepth 20000 in
theorem t_X5_listTo_0 {l : Launch} {Z : XZ} {L : Nat → Nat} (n : Nat) (ih_X5_listTo_0 : P_X5_listTo_0 l Z L n) : P_X5_listTo_0 l Z L (n + 1) := by
  intro d S a1 a2 a3 x S1 H
  have H : b_X5_listTo_0 n d (f_X5_listTo n) S a1 a2 a3 = some (x, S1) := H
  unfold b_X5_listTo_0 at H
  refine GA.aload_n dX5_listTo_0 rfl ?_
  refine GA.aload_n dX5_listTo_1 rfl ?_
  obtain ⟨S_1, hx2, H⟩ := gv_e H
  refine GV.putR hx2 (xp_X5_41 _) dX5_listTo_2 gs_477 (by decide) (Nat.le_of_ble_eq_true rfl) gs_477 ?_
  refine GA.aload_n dX5_listTo_5 rfl ?_
  refine GA.aload_n dX5_listTo_6 rfl ?_
  obtain ⟨S_3, hx4, H⟩ := gv_e H
  refine GV.putR hx4 (xp_X5_44 _) dX5_listTo_7 gs_477 (by decide) (Nat.le_of_ble_eq_true rfl) gs_477 ?_
  refine GA.aload_n dX5_listTo_10 rfl ?_
  refine GA.aload_n dX5_listTo_11 rfl ?_
  obtain ⟨S_5, hx6, H⟩ := gv_e H
  refine GV.putR hx6 (xp_X5_37 _) dX5_listTo_12 gs_477 (by decide) (Nat.le_of_ble_eq_true rfl) gs_477 ?_
  refine GA.aload_n dX5_listTo_15 rfl ?_
  refine GA.get xf_X5_14 dX5_listTo_16 gs_477 (by decide) rfl ?_
  obtain ⟨hg7, H⟩ := gg_e H
  obtain ⟨x8, S_9, hc10, H⟩ := gc_e H
  refine GA.callV (m_X9_clear hc10) xs_X5_47 dX5_listTo_19 (gsS (by decide)) (by decide) rfl rfl (by omega) (by decide) rfl (Nat.le_of_ble_eq_true rfl) (by omega) (by omega) rfl (fun E S9 hx => hx.elim) (fun v S9 hq => ?_)
  obtain ⟨rfl, rfl⟩ := hq
  refine GA.aload_n dX5_listTo_22 rfl ?_
  obtain ⟨z11, hx12, H⟩ := gv_e H
  refine GV.getR hx12 xf_X5_37 dX5_listTo_23 gs_477 (by decide) rfl ?_
  obtain ⟨hg13, H⟩ := gg_e H
  obtain ⟨x14, S_15, hc16, H⟩ := gc_e H
  refine GA.callV (m_X10_clear hc16) xs_X5_50 dX5_listTo_26 (gsT hg13) (by omega) rfl rfl (by omega) (by decide) rfl (Nat.le_of_ble_eq_true rfl) (by omega) (by omega) rfl (fun E S9 hx => hx.elim) (fun v S9 hq => ?_)
  obtain ⟨rfl, rfl⟩ := hq
  refine GA.aload_n dX5_listTo_29 rfl ?_
  obtain ⟨z17, hx18, H⟩ := gv_e H
  refine GV.getR hx18 xf_X5_37 dX5_listTo_30 gs_477 (by decide) rfl ?_
  refine GA.iconst dX5_listTo_33 ?_
  obtain ⟨hg19, H⟩ := gg_e H
  obtain ⟨x20, S_21, hc22, H⟩ := gc_e H
  refine GA.callV (m_X10_add hc22) xs_X5_51 dX5_listTo_34 (gsT hg19) (by omega) rfl rfl (by omega) (by decide) rfl (Nat.le_of_ble_eq_true rfl) (by omega) (by omega) rfl (fun E S9 hx => hx.elim) (fun v S9 hq => ?_)
  obtain ⟨rfl, rfl⟩ := hq
  refine GA.istore dX5_listTo_37 (by decide) ?_
  refine GA.aload_n dX5_listTo_39 rfl ?_
  refine GA.iconst dX5_listTo_40 ?_
  refine GA.iconst dX5_listTo_41 ?_
  refine GA.iconst dX5_listTo_42 ?_
  obtain ⟨x23, S_24, hc25, H⟩ := gc_e H
  refine GA.callV (m_X5_between hc25) xs_X5_55 dX5_listTo_43 gs_477 (by decide) rfl rfl (by omega) (by decide) rfl (Nat.le_of_ble_eq_true rfl) (by omega) (by omega) rfl (fun E S9 hx => hx.elim) (fun v S9 hq => ?_)
  obtain ⟨rfl, rfl⟩ := hq
  refine GA.aload_n dX5_listTo_46 rfl ?_
  obtain ⟨z26, hx27, H⟩ := gv_e H
  refine GV.getR hx27 xf_X5_37 dX5_listTo_47 gs_477 (by decide) rfl ?_
  refine GA.iload dX5_listTo_50 rfl ?_
  obtain ⟨hg28, H⟩ := gg_e H
  obtain ⟨x29, S_30, hc31, H⟩ := gc_e H
  refine GA.callV (m_X10_close hc31) xs_X5_59 dX5_listTo_52 (gsT hg28) (by omega) rfl rfl (by omega) (by decide) rfl (Nat.le_of_ble_eq_true rfl) (by omega) (by omega) rfl (fun E S9 hx => hx.elim) (fun v S9 hq => ?_)
  obtain ⟨rfl, rfl⟩ := hq
  cases H
  exact GA.vret rfl dX5_listTo_55 (by omega) (by omega) ⟨rfl, rfl⟩
theorem g_X5_listTo {l : Launch} {Z : XZ} {L : Nat → Nat} : ∀ n, P_X5_listTo_0 l Z L n
  | 0 => fun _ _ _ _ _ _ _ H => no_e H
  | n + 1 => t_X5_listTo_0 n (g_X5_listTo n)
theorem m_X5_listTo {l : Launch} {Z : XZ} {L : Nat → Nat} {n d : Nat} {S : GS} {a1 : Nat} {a2 : Nat} {a3 : Nat} {x : Int} {S1 : GS} (H : f_X5_listTo n d 0 S [((a1 : Nat) : Int), ((a2 : Nat) : Int), ((a3 : Nat) : Int)] = some (x, S1)) : GM l Z L yX5_listTo cX5_listTo 5 none [] d 0 0 [.ref (L 477), .ref (L a1), .ref (L a2), .ref (L a3)] S (fun v S' => v = none ∧ S1 = S') (fun _ _ => False) := GM.of (by decide) (Nat.le_of_ble_eq_true rfl) ((g_X5_listTo n) _ _ _ _ _ _ _ H)

def P_X2_begin_0 (l : Launch) (Z : XZ) (L : Nat → Nat) (n : Nat) : Prop := ∀ (d : Nat) (S : GS) (x : Int) (S1 : GS), f_X2_begin n d 0 S [] = some (x, S1) → GA l Z L yX2_begin cX2_begin 2 none [] d 0 0 (fun v S' => v = none ∧ S1 = S') (fun _ _ => False) 0 (gl [(0, .ref (L 473))]) [] S 0 0
def P_X2_begin_7 (l : Launch) (Z : XZ) (L : Nat → Nat) (n : Nat) : Prop := ∀ (d : Nat) (S : GS) (a1 : Int) (x : Int) (S1 : GS), f_X2_begin n d 7 S [a1] = some (x, S1) → GA l Z L yX2_begin cX2_begin 2 none [] d 0 0 (fun v S' => v = none ∧ S1 = S') (fun _ _ => False) 7 (gl [(0, .ref (L 473)), (1, .int (J a1))]) [] S 0 0
theorem i_X2_begin {l : Launch} {Z : XZ} {L : Nat → Nat} {n : Nat} (ih : P_X2_begin_0 l Z L n) {d : Nat} {S : GS} {x : Int} {S1 : GS} (H : f_X2_begin n d 0 S [] = some (x, S1)) : GM l Z L yX2_begin cX2_begin 2 none [] d 0 0 [.ref (L 473)] S (fun v S' => v = none ∧ S1 = S') (fun _ _ => False) := GM.of (by decide) (Nat.le_of_ble_eq_true rfl) (ih _ _ _ _ H)
set_option maxHeartbeats 4000000 in
set_option maxRecDepth 20000 in
theorem t_X2_begin_0 {l : Launch} {Z : XZ} {L : Nat → Nat} (n : Nat) (ih_X2_begin_0 : P_X2_begin_0 l Z L n) (ih_X2_begin_7 : P_X2_begin_7 l Z L n) : P_X2_begin_0 l Z L (n + 1) := by
  intro d S  x S1 H
  have H : b_X2_begin_0 n d (f_X2_begin n) S  = some (x, S1) := H
  unfold b_X2_begin_0 at H
  refine GA.aload_n dX2_begin_0 rfl ?_
  refine GA.iconst dX2_begin_1 ?_
  obtain ⟨S_1, hx2, H⟩ := gv_e H
  refine GV.putI hx2 (xp_X2_38 _) dX2_begin_2 gs_473 (by decide) (Nat.le_of_ble_eq_true rfl) gs_473 ?_
  refine GA.iconst dX2_begin_5 ?_
  refine GA.istore_n dX2_begin_6 (by decide) ?_
  refine GA.locals [(0, .ref (L 473)), (1, .int (J 0))] ⟨rfl, rfl, trivial⟩ ?_
  exact ih_X2_begin_7 _ _ (0) _ _ H
set_option maxHeartbeats 4000000 in
set_option maxRecDepth 20000 in
theorem t_X2_begin_7 {l : Launch} {Z : XZ} {L : Nat → Nat} (n : Nat) (ih_X2_begin_0 : P_X2_begin_0 l Z L n) (ih_X2_begin_7 : P_X2_begin_7 l Z L n) : P_X2_begin_7 l Z L (n + 1) := by
  intro d S a1 x S1 H
  have H : b_X2_begin_7 n d (f_X2_begin n) S a1 = some (x, S1) := H
  unfold b_X2_begin_7 at H
  refine GA.iload_n dX2_begin_7 rfl ?_
  refine GA.bipush dX2_begin_8 rfl ?_
  obtain ⟨hg1, H⟩ := gg_e H
  refine GV.icmp_ge (tgt := 26) hg1 (by decide) dX2_begin_10 (by decide) (fun c2 => ?_) (fun c2 => ?_)
  · have H := it_t H c2
    cases H
    exact GA.vret rfl dX2_begin_26 (by omega) (by omega) ⟨rfl, rfl⟩
  · have H := it_f H c2
    refine GA.aload_n dX2_begin_13 rfl ?_
    refine GA.get xf_X2_34 dX2_begin_14 gs_473 (by decide) rfl ?_
    refine GA.iload_n dX2_begin_17 rfl ?_
    refine GA.iconst dX2_begin_18 ?_
    obtain ⟨hg3, H⟩ := gg_e H
    obtain ⟨S_4, hx5, H⟩ := gv_e H
    refine GV.zast hg3 (by decide) hx5 dX2_begin_19 (fun _ => gs_476) (by decide) ?_
    obtain ⟨x6, hx7, H⟩ := gv_e H
    refine GV.iinc hx7 dX2_begin_20 rfl (by decide) ?_
    refine GA.goto (tgt := 7) dX2_begin_23 (by decide) ?_
    refine GA.locals [(0, .ref (L 473)), (1, .int (J x6))] ⟨rfl, rfl, trivial⟩ ?_
    exact ih_X2_begin_7 _ _ (x6) _ _ H
theorem g_X2_begin {l : Launch} {Z : XZ} {L : Nat → Nat} : ∀ n, P_X2_begin_0 l Z L n ∧ P_X2_begin_7 l Z L n
  | 0 => ⟨fun _ _ _ _ H => no_e H, fun _ _ _ _ _ H => no_e H⟩
  | n + 1 => have ⟨h0, h1⟩ := g_X2_begin (l := l) (Z := Z) (L := L) n
    ⟨t_X2_begin_0 n h0 h1, t_X2_begin_7 n h0 h1⟩
theorem m_X2_begin {l : Launch} {Z : XZ} {L : Nat → Nat} {n d : Nat} {S : GS} {x : Int} {S1 : GS} (H : f_X2_begin n d 0 S [] = some (x, S1)) : GM l Z L yX2_begin cX2_begin 2 none [] d 0 0 [.ref (L 473)] S (fun v S' => v = none ∧ S1 = S') (fun _ _ => False) := GM.of (by decide) (Nat.le_of_ble_eq_true rfl) ((g_X2_begin n).1 _ _ _ _ H)

def P_X2_meet_0 (l : Launch) (Z : XZ) (L : Nat → Nat) (n : Nat) : Prop := ∀ (d : Nat) (S : GS) (a1 : Int) (x : Int) (S1 : GS), f_X2_meet n d 0 S [a1] = some (x, S1) → GA l Z L yX2_meet cX2_meet 2 none [] d 0 0 (fun v S' => v = none ∧ S1 = S') (fun _ _ => False) 0 (gl [(0, .ref (L 473)), (1, .int (J a1))]) [] S 0 0
theorem i_X2_meet {l : Launch} {Z : XZ} {L : Nat → Nat} {n : Nat} (ih : P_X2_meet_0 l Z L n) {d : Nat} {S : GS} {a1 : Int} {x : Int} {S1 : GS} (H : f_X2_meet n d 0 S [a1] = some (x, S1)) : GM l Z L yX2_meet cX2_meet 2 none [] d 0 0 [.ref (L 473), .int (J a1)] S (fun v S' => v = none ∧ S1 = S') (fun _ _ => False) := GM.of (by decide) (Nat.le_of_ble_eq_true rfl) (ih _ _ _ _ _ H)
set_option maxHeartbeats 4000000 in
set_option maxRecDepth 20000 in
theorem t_X2_meet_0 {l : Launch} {Z : XZ} {L : Nat → Nat} (n : Nat) (ih_X2_meet_0 : P_X2_meet_0 l Z L n) : P_X2_meet_0 l Z L (n + 1) := by
  intro d S a1 x S1 H
  have H : b_X2_meet_0 n d (f_X2_meet n) S a1 = some (x, S1) := H
  unfold b_X2_meet_0 at H
  refine GA.iload_n dX2_meet_0 rfl ?_
  obtain ⟨hg1, H⟩ := gg_e H
  refine GV.if_lt (tgt := 62) hg1 dX2_meet_1 (by decide) (fun c2 => ?_) (fun c2 => ?_)
  · have H := it_t H c2
    cases H
    exact GA.vret rfl dX2_meet_62 (by omega) (by omega) ⟨rfl, rfl⟩
  · have H := it_f H c2
    refine GA.iload_n dX2_meet_4 rfl ?_
    refine GA.bipush dX2_meet_5 rfl ?_
    refine GV.icmp_ge (tgt := 62) hg1 (by decide) dX2_meet_7 (by decide) (fun c3 => ?_) (fun c3 => ?_)
    · have H := it_t H c3
      cases H
      exact GA.vret rfl dX2_meet_62 (by omega) (by omega) ⟨rfl, rfl⟩
    · have H := it_f H c3
      refine GA.aload_n dX2_meet_10 rfl ?_
      obtain ⟨x4, hx5, H⟩ := gv_e H
      refine GV.getI hx5 xf_X2_38 dX2_meet_11 gs_473 (by decide) rfl ?_
      obtain ⟨hg6, H⟩ := gg_e H
      refine GV.if_lt (tgt := 62) hg6 dX2_meet_14 (by decide) (fun c7 => ?_) (fun c7 => ?_)
      · have H := it_t H c7
        cases H
        exact GA.vret rfl dX2_meet_62 (by omega) (by omega) ⟨rfl, rfl⟩
      · have H := it_f H c7
        refine GA.aload_n dX2_meet_17 rfl ?_
        obtain ⟨x8, hx9, H⟩ := gv_e H
        refine GV.getI hx9 xf_X2_38 dX2_meet_18 gs_473 (by decide) rfl ?_
        refine GA.bipush dX2_meet_21 rfl ?_
        obtain ⟨hg10, H⟩ := gg_e H
        refine GV.icmp_ge (tgt := 62) hg10 (by decide) dX2_meet_23 (by decide) (fun c11 => ?_) (fun c11 => ?_)
        · have H := it_t H c11
          cases H
          exact GA.vret rfl dX2_meet_62 (by omega) (by omega) ⟨rfl, rfl⟩
        · have H := it_f H c11
          refine GA.aload_n dX2_meet_26 rfl ?_
          refine GA.get xf_X2_34 dX2_meet_27 gs_473 (by decide) rfl ?_
          refine GA.iload_n dX2_meet_30 rfl ?_
          obtain ⟨hg12, H⟩ := gg_e H
          obtain ⟨x13, hx14, H⟩ := gv_e H
          refine GV.zald hg12 hx14 dX2_meet_31 gs_476 (by decide) ?_
          obtain ⟨hg15, H⟩ := gg_e H
          refine GV.if_ne (tgt := 62) hg15 dX2_meet_32 (by decide) (fun c16 => ?_) (fun c16 => ?_)
          · have H := it_t H c16
            cases H
            exact GA.vret rfl dX2_meet_62 (by omega) (by omega) ⟨rfl, rfl⟩
          · have H := it_f H c16
            refine GA.aload_n dX2_meet_35 rfl ?_
            refine GA.get xf_X2_34 dX2_meet_36 gs_473 (by decide) rfl ?_
            refine GA.iload_n dX2_meet_39 rfl ?_
            refine GA.iconst dX2_meet_40 ?_
            obtain ⟨S_17, hx18, H⟩ := gv_e H
            refine GV.zast hg12 (by decide) hx18 dX2_meet_41 (fun _ => gs_476) (by decide) ?_
            refine GA.aload_n dX2_meet_42 rfl ?_
            refine GA.get xf_X2_27 dX2_meet_43 gs_473 (by decide) rfl ?_
            refine GA.aload_n dX2_meet_46 rfl ?_
            obtain ⟨x19, hx20, H⟩ := gv_e H
            refine GV.getI hx20 xf_X2_38 dX2_meet_47 gs_473 (by decide) rfl ?_
            refine GA.iload_n dX2_meet_50 rfl ?_
            obtain ⟨hg21, H⟩ := gg_e H
            obtain ⟨S_22, hx23, H⟩ := gv_e H
            refine GV.iast hg21 hx23 dX2_meet_51 (fun _ => gs_474) (by decide) ?_
            refine GA.aload_n dX2_meet_52 rfl ?_
            refine GA.dup dX2_meet_53 rfl ?_
            obtain ⟨x24, hx25, H⟩ := gv_e H
            refine GV.getI hx25 xf_X2_38 dX2_meet_54 gs_473 (by decide) rfl ?_
            refine GA.iconst dX2_meet_57 ?_
            obtain ⟨x26, hx27, H⟩ := gv_e H
            refine GV.iadd hx27 dX2_meet_58 ?_
            obtain ⟨S_28, hx29, H⟩ := gv_e H
            refine GV.putI hx29 (xp_X2_38 _) dX2_meet_59 gs_473 (by decide) (Nat.le_of_ble_eq_true rfl) gs_473 ?_
            cases H
            exact GA.vret rfl dX2_meet_62 (by omega) (by omega) ⟨rfl, rfl⟩
theorem g_X2_meet {l : Launch} {Z : XZ} {L : Nat → Nat} : ∀ n, P_X2_meet_0 l Z L n
  | 0 => fun _ _ _ _ _ H => no_e H
  | n + 1 => t_X2_meet_0 n (g_X2_meet n)
theorem m_X2_meet {l : Launch} {Z : XZ} {L : Nat → Nat} {n d : Nat} {S : GS} {a1 : Int} {x : Int} {S1 : GS} (H : f_X2_meet n d 0 S [a1] = some (x, S1)) : GM l Z L yX2_meet cX2_meet 2 none [] d 0 0 [.ref (L 473), .int (J a1)] S (fun v S' => v = none ∧ S1 = S') (fun _ _ => False) := GM.of (by decide) (Nat.le_of_ble_eq_true rfl) ((g_X2_meet n) _ _ _ _ _ H)

def P_X2_meetMatches_0 (l : Launch) (Z : XZ) (L : Nat → Nat) (n : Nat) : Prop := ∀ (d : Nat) (S : GS) (a1 : Nat) (a2 : Int) (x : Int) (S1 : GS), f_X2_meetMatches n d 0 S [((a1 : Nat) : Int), a2] = some (x, S1) → GA l Z L yX2_meetMatches cX2_meetMatches 7 none [] d 0 0 (fun v S' => v = none ∧ S1 = S') (fun _ _ => False) 0 (gl [(0, .ref (L 473)), (1, .ref (L a1)), (2, .int (J a2))]) [] S 0 0
def P_X2_meetMatches_40 (l : Launch) (Z : XZ) (L : Nat → Nat) (n : Nat) : Prop := ∀ (d : Nat) (S : GS) (a1 : Nat) (a2 : Int) (a3 : Int) (a4 : Int) (a5 : Int) (x : Int) (S1 : GS), f_X2_meetMatches n d 40 S [((a1 : Nat) : Int), a2, a3, a4, a5] = some (x, S1) → GA l Z L yX2_meetMatches cX2_meetMatches 7 none [] d 0 0 (fun v S' => v = none ∧ S1 = S') (fun _ _ => False) 40 (gl [(0, .ref (L 473)), (1, .ref (L a1)), (2, .int (J a2)), (3, .int (J a3)), (4, .int (J a4)), (5, .int (J a5))]) [] S 0 0
theorem i_X2_meetMatches {l : Launch} {Z : XZ} {L : Nat → Nat} {n : Nat} (ih : P_X2_meetMatches_0 l Z L n) {d : Nat} {S : GS} {a1 : Nat} {a2 : Int} {x : Int} {S1 : GS} (H : f_X2_meetMatches n d 0 S [((a1 : Nat) : Int), a2] = some (x, S1)) : GM l Z L yX2_meetMatches cX2_meetMatches 7 none [] d 0 0 [.ref (L 473), .ref (L a1), .int (J a2)] S (fun v S' => v = none ∧ S1 = S') (fun _ _ => False) := GM.of (by decide) (Nat.le_of_ble_eq_true rfl) (ih _ _ _ _ _ _ H)
set_option maxHeartbeats 4000000 in
set_option maxRecDepth 20000 in
theorem t_X2_meetMatches_0 {l : Launch} {Z : XZ} {L : Nat → Nat} (n : Nat) (ih_X2_meetMatches_0 : P_X2_meetMatches_0 l Z L n) (ih_X2_meetMatches_40 : P_X2_meetMatches_40 l Z L n) : P_X2_meetMatches_0 l Z L (n + 1) := by
  intro d S a1 a2 x S1 H
  have H : b_X2_meetMatches_0 n d (f_X2_meetMatches n) S a1 a2 = some (x, S1) := H
  unfold b_X2_meetMatches_0 at H
  refine GA.aload_n dX2_meetMatches_0 rfl ?_
  refine GA.get xf_X2_14 dX2_meetMatches_1 gs_473 (by decide) rfl ?_
  refine GA.bipush dX2_meetMatches_4 rfl ?_
  obtain ⟨hg1, H⟩ := gg_e H
  obtain ⟨x2, S_3, hc4, H⟩ := gc_e H
  refine GA.callV (m_X9_placeOf hc4) xs_X2_115 dX2_meetMatches_6 (gsS (by decide)) (by decide) rfl rfl (by omega) (by decide) rfl (Nat.le_of_ble_eq_true rfl) (by omega) (by omega) rfl (fun E S9 hx => hx.elim) (fun v S9 hq => ?_)
  obtain ⟨rfl, rfl⟩ := hq
  refine GA.istore_n dX2_meetMatches_9 (by decide) ?_
  refine GA.aload_n dX2_meetMatches_10 rfl ?_
  refine GA.get xf_X2_20 dX2_meetMatches_11 gs_473 (by decide) rfl ?_
  obtain ⟨x5, S_6, hc7, H⟩ := gc_e H
  refine GA.callV (m_X9_clear hc7) xs_X2_118 dX2_meetMatches_14 (gsS (by decide)) (by decide) rfl rfl (by omega) (by decide) rfl (Nat.le_of_ble_eq_true rfl) (by omega) (by omega) rfl (fun E S9 hx => hx.elim) (fun v S9 hq => ?_)
  obtain ⟨rfl, rfl⟩ := hq
  refine GA.aload_n dX2_meetMatches_17 rfl ?_
  refine GA.get xf_X2_20 dX2_meetMatches_18 gs_473 (by decide) rfl ?_
  refine GA.aload_n dX2_meetMatches_21 rfl ?_
  refine GA.get xf_X2_14 dX2_meetMatches_22 gs_473 (by decide) rfl ?_
  refine GA.iconst dX2_meetMatches_25 ?_
  refine GA.iload_n dX2_meetMatches_26 rfl ?_
  obtain ⟨x8, S_9, hc10, H⟩ := gc_e H
  refine GA.callV (m_X9_addPart hc10) xs_X2_121 dX2_meetMatches_27 (gsS (by decide)) (by decide) rfl rfl (by omega) (by decide) rfl (Nat.le_of_ble_eq_true rfl) (by omega) (by omega) rfl (fun E S9 hx => hx.elim) (fun v S9 hq => ?_)
  obtain ⟨rfl, rfl⟩ := hq
  refine GA.aload_n dX2_meetMatches_30 rfl ?_
  refine GA.iload_n dX2_meetMatches_31 rfl ?_
  obtain ⟨hg11, H⟩ := gg_e H
  obtain ⟨x12, S_13, hc14, H⟩ := gc_e H
  refine GA.callV (m_X10_first hc14) xs_X2_82 dX2_meetMatches_32 (gsT hg11) (by omega) rfl rfl (by omega) (by decide) rfl (Nat.le_of_ble_eq_true rfl) (by omega) (by omega) rfl (fun E S9 hx => hx.elim) (fun v S9 hq => ?_)
  obtain ⟨rfl, rfl⟩ := hq
  refine GA.istore dX2_meetMatches_35 (by decide) ?_
  refine GA.iconst dX2_meetMatches_37 ?_
  refine GA.istore dX2_meetMatches_38 (by decide) ?_
  refine GA.locals [(0, .ref (L 473)), (1, .ref (L a1)), (2, .int (J a2)), (3, .int (J x2)), (4, .int (J x12)), (5, .int (J 0))] ⟨rfl, rfl, rfl, rfl, rfl, rfl, trivial⟩ ?_
  exact ih_X2_meetMatches_40 _ _ (a1) (a2) (x2) (x12) (0) _ _ H
set_option maxHeartbeats 4000000 in
set_option maxRecDepth 20000 in
theorem t_X2_meetMatches_40 {l : Launch} {Z : XZ} {L : Nat → Nat} (n : Nat) (ih_X2_meetMatches_0 : P_X2_meetMatches_0 l Z L n) (ih_X2_meetMatches_40 : P_X2_meetMatches_40 l Z L n) : P_X2_meetMatches_40 l Z L (n + 1) := by
  intro d S a1 a2 a3 a4 a5 x S1 H
  have H : b_X2_meetMatches_40 n d (f_X2_meetMatches n) S a1 a2 a3 a4 a5 = some (x, S1) := H
  unfold b_X2_meetMatches_40 at H
  refine GA.iload dX2_meetMatches_40 rfl ?_
  refine GA.iconst dX2_meetMatches_42 ?_
  obtain ⟨hg1, H⟩ := gg_e H
  refine GV.icmp_eq (tgt := 133) hg1 (by decide) dX2_meetMatches_43 (by decide) (fun c2 => ?_) (fun c2 => ?_)
  · have H := it_t H c2
    cases H
    exact GA.vret rfl dX2_meetMatches_133 (by omega) (by omega) ⟨rfl, rfl⟩
  · have H := it_f H c2
    refine GA.iload dX2_meetMatches_46 rfl ?_
    refine GA.bipush dX2_meetMatches_48 rfl ?_
    obtain ⟨hg3, H⟩ := gg_e H
    refine GV.icmp_ge (tgt := 133) hg3 (by decide) dX2_meetMatches_50 (by decide) (fun c4 => ?_) (fun c4 => ?_)
    · have H := it_t H c4
      cases H
      exact GA.vret rfl dX2_meetMatches_133 (by omega) (by omega) ⟨rfl, rfl⟩
    · have H := it_f H c4
      refine GA.iload_n dX2_meetMatches_53 rfl ?_
      refine GA.iconst dX2_meetMatches_54 ?_
      obtain ⟨hg5, H⟩ := gg_e H
      refine GV.icmp_eq (tgt := 133) hg5 (by decide) dX2_meetMatches_55 (by decide) (fun c6 => ?_) (fun c6 => ?_)
      · have H := it_t H c6
        cases H
        exact GA.vret rfl dX2_meetMatches_133 (by omega) (by omega) ⟨rfl, rfl⟩
      · have H := it_f H c6
        refine GA.aload_n dX2_meetMatches_58 rfl ?_
        refine GA.iload dX2_meetMatches_59 rfl ?_
        refine GA.aload_n dX2_meetMatches_61 rfl ?_
        refine GA.get xf_X2_20 dX2_meetMatches_62 gs_473 (by decide) rfl ?_
        obtain ⟨hg7, H⟩ := gg_e H
        obtain ⟨hg8, H⟩ := gg_e H
        obtain ⟨x9, S_10, hc11, H⟩ := gc_e H
        refine GA.callV (m_X10_valueOf hc11) xs_X2_105 dX2_meetMatches_65 (gsT hg8) (by omega) rfl rfl (by omega) (by decide) rfl (Nat.le_of_ble_eq_true rfl) (by omega) (by omega) rfl (fun E S9 hx => hx.elim) (fun v S9 hq => ?_)
        obtain ⟨rfl, rfl⟩ := hq
        refine GA.istore dX2_meetMatches_68 (by decide) ?_
        refine GA.iload dX2_meetMatches_70 rfl ?_
        refine GA.iconst dX2_meetMatches_72 ?_
        obtain ⟨hg12, H⟩ := gg_e H
        refine GV.icmp_eq (tgt := 118) hg12 (by decide) dX2_meetMatches_73 (by decide) (fun c13 => ?_) (fun c13 => ?_)
        · have H := it_t H c13
          refine GA.aload_n dX2_meetMatches_118 rfl ?_
          refine GA.iload_n dX2_meetMatches_119 rfl ?_
          refine GA.iload dX2_meetMatches_120 rfl ?_
          obtain ⟨x14, S_15, hc16, H⟩ := gc_e H
          refine GA.callV (m_X10_next hc16) xs_X2_85 dX2_meetMatches_122 (gsT hg8) (by omega) rfl rfl (by omega) (by decide) rfl (Nat.le_of_ble_eq_true rfl) (by omega) (by omega) rfl (fun E S9 hx => hx.elim) (fun v S9 hq => ?_)
          obtain ⟨rfl, rfl⟩ := hq
          refine GA.istore dX2_meetMatches_125 (by decide) ?_
          obtain ⟨x17, hx18, H⟩ := gv_e H
          refine GV.iinc hx18 dX2_meetMatches_127 rfl (by decide) ?_
          refine GA.goto (tgt := 40) dX2_meetMatches_130 (by decide) ?_
          refine GA.locals [(0, .ref (L 473)), (1, .ref (L a1)), (2, .int (J a2)), (3, .int (J a3)), (4, .int (J x14)), (5, .int (J x17))] ⟨rfl, rfl, rfl, rfl, rfl, rfl, trivial⟩ ?_
          exact ih_X2_meetMatches_40 _ _ (a1) (a2) (a3) (x14) (x17) _ _ H
        · have H := it_f H c13
          refine GA.aload_n dX2_meetMatches_76 rfl ?_
          refine GA.get xf_X2_24 dX2_meetMatches_77 gs_473 (by decide) rfl ?_
          obtain ⟨x19, S_20, hc21, H⟩ := gc_e H
          refine GA.callV (m_X9_clear hc21) xs_X2_118 dX2_meetMatches_80 (gsS (by decide)) (by decide) rfl rfl (by omega) (by decide) rfl (Nat.le_of_ble_eq_true rfl) (by omega) (by omega) rfl (fun E S9 hx => hx.elim) (fun v S9 hq => ?_)
          obtain ⟨rfl, rfl⟩ := hq
          refine GA.aload_n dX2_meetMatches_83 rfl ?_
          refine GA.iload dX2_meetMatches_84 rfl ?_
          refine GA.iconst dX2_meetMatches_86 ?_
          refine GA.iconst dX2_meetMatches_87 ?_
          refine GA.aload_n dX2_meetMatches_88 rfl ?_
          refine GA.get xf_X2_24 dX2_meetMatches_89 gs_473 (by decide) rfl ?_
          obtain ⟨x22, S_23, hc24, H⟩ := gc_e H
          refine GA.callSN (m_X8_value hc24) xs_X2_125 dX2_meetMatches_92 rfl (by omega) (by decide) rfl (Nat.le_of_ble_eq_true rfl) (by omega) (by omega) rfl (fun E S9 hx => hx.elim) (fun v S9 hq => ?_)
          obtain ⟨rfl, rfl⟩ := hq
          refine GA.aload_n dX2_meetMatches_95 rfl ?_
          refine GA.get xf_X2_14 dX2_meetMatches_96 gs_473 (by decide) rfl ?_
          refine GA.aload_n dX2_meetMatches_99 rfl ?_
          refine GA.get xf_X2_24 dX2_meetMatches_100 gs_473 (by decide) rfl ?_
          refine GA.iload_n dX2_meetMatches_103 rfl ?_
          refine GA.iconst dX2_meetMatches_104 ?_
          obtain ⟨x25, hx26, H⟩ := gv_e H
          refine GV.iadd hx26 dX2_meetMatches_105 ?_
          obtain ⟨x27, S_28, hc29, H⟩ := gc_e H
          refine GA.callV (m_X9_endsWith hc29) xs_X2_131 dX2_meetMatches_106 (gsS (by decide)) (by decide) rfl rfl (by omega) (by decide) rfl (Nat.le_of_ble_eq_true rfl) (by omega) (by omega) rfl (fun E S9 hx => hx.elim) (fun v S9 hq => ?_)
          obtain ⟨rfl, rfl⟩ := hq
          obtain ⟨hg30, H⟩ := gg_e H
          refine GV.if_eq (tgt := 118) hg30 dX2_meetMatches_109 (by decide) (fun c31 => ?_) (fun c31 => ?_)
          · have H := it_t H c31
            refine GA.aload_n dX2_meetMatches_118 rfl ?_
            refine GA.iload_n dX2_meetMatches_119 rfl ?_
            refine GA.iload dX2_meetMatches_120 rfl ?_
            obtain ⟨x32, S_33, hc34, H⟩ := gc_e H
            refine GA.callV (m_X10_next hc34) xs_X2_85 dX2_meetMatches_122 (gsT hg8) (by omega) rfl rfl (by omega) (by decide) rfl (Nat.le_of_ble_eq_true rfl) (by omega) (by omega) rfl (fun E S9 hx => hx.elim) (fun v S9 hq => ?_)
            obtain ⟨rfl, rfl⟩ := hq
            refine GA.istore dX2_meetMatches_125 (by decide) ?_
            obtain ⟨x35, hx36, H⟩ := gv_e H
            refine GV.iinc hx36 dX2_meetMatches_127 rfl (by decide) ?_
            refine GA.goto (tgt := 40) dX2_meetMatches_130 (by decide) ?_
            refine GA.locals [(0, .ref (L 473)), (1, .ref (L a1)), (2, .int (J a2)), (3, .int (J a3)), (4, .int (J x32)), (5, .int (J x35))] ⟨rfl, rfl, rfl, rfl, rfl, rfl, trivial⟩ ?_
            exact ih_X2_meetMatches_40 _ _ (a1) (a2) (a3) (x32) (x35) _ _ H
          · have H := it_f H c31
            refine GA.aload_n dX2_meetMatches_112 rfl ?_
            refine GA.iload dX2_meetMatches_113 rfl ?_
            obtain ⟨x37, S_38, hc39, H⟩ := gc_e H
            refine GA.callV (m_X2_meet hc39) xs_X2_45 dX2_meetMatches_115 gs_473 (by decide) rfl rfl (by omega) (by decide) rfl (Nat.le_of_ble_eq_true rfl) (by omega) (by omega) rfl (fun E S9 hx => hx.elim) (fun v S9 hq => ?_)
            obtain ⟨rfl, rfl⟩ := hq
            refine GA.aload_n dX2_meetMatches_118 rfl ?_
            refine GA.iload_n dX2_meetMatches_119 rfl ?_
            refine GA.iload dX2_meetMatches_120 rfl ?_
            obtain ⟨x40, S_41, hc42, H⟩ := gc_e H
            refine GA.callV (m_X10_next hc42) xs_X2_85 dX2_meetMatches_122 (gsT hg8) (by omega) rfl rfl (by omega) (by decide) rfl (Nat.le_of_ble_eq_true rfl) (by omega) (by omega) rfl (fun E S9 hx => hx.elim) (fun v S9 hq => ?_)
            obtain ⟨rfl, rfl⟩ := hq
            refine GA.istore dX2_meetMatches_125 (by decide) ?_
            obtain ⟨x43, hx44, H⟩ := gv_e H
            refine GV.iinc hx44 dX2_meetMatches_127 rfl (by decide) ?_
            refine GA.goto (tgt := 40) dX2_meetMatches_130 (by decide) ?_
            refine GA.locals [(0, .ref (L 473)), (1, .ref (L a1)), (2, .int (J a2)), (3, .int (J a3)), (4, .int (J x40)), (5, .int (J x43))] ⟨rfl, rfl, rfl, rfl, rfl, rfl, trivial⟩ ?_
            exact ih_X2_meetMatches_40 _ _ (a1) (a2) (a3) (x40) (x43) _ _ H
theorem g_X2_meetMatches {l : Launch} {Z : XZ} {L : Nat → Nat} : ∀ n, P_X2_meetMatches_0 l Z L n ∧ P_X2_meetMatches_40 l Z L n
  | 0 => ⟨fun _ _ _ _ _ _ H => no_e H, fun _ _ _ _ _ _ _ _ _ H => no_e H⟩
  | n + 1 => have ⟨h0, h1⟩ := g_X2_meetMatches (l := l) (Z := Z) (L := L) n
    ⟨t_X2_meetMatches_0 n h0 h1, t_X2_meetMatches_40 n h0 h1⟩
theorem m_X2_meetMatches {l : Launch} {Z : XZ} {L : Nat → Nat} {n d : Nat} {S : GS} {a1 : Nat} {a2 : Int} {x : Int} {S1 : GS} (H : f_X2_meetMatches n d 0 S [((a1 : Nat) : Int), a2] = some (x, S1)) : GM l Z L yX2_meetMatches cX2_meetMatches 7 none [] d 0 0 [.ref (L 473), .ref (L a1), .int (J a2)] S (fun v S' => v = none ∧ S1 = S') (fun _ _ => False) := GM.of (by decide) (Nat.le_of_ble_eq_true rfl) ((g_X2_meetMatches n).1 _ _ _ _ _ _ H)

def P_X2_placeIn_0 (l : Launch) (Z : XZ) (L : Nat → Nat) (n : Nat) : Prop := ∀ (d : Nat) (S : GS) (a1 : Nat) (a2 : Int) (x : Int) (S1 : GS), f_X2_placeIn n d 0 S [((a1 : Nat) : Int), a2] = some (x, S1) → GA l Z L yX2_placeIn cX2_placeIn 4 (some .int) [] d 0 0 (fun v S' => v = some (.int (J x)) ∧ S1 = S') (fun _ _ => False) 0 (gl [(0, .ref (L 473)), (1, .ref (L a1)), (2, .int (J a2))]) [] S 0 0
theorem i_X2_placeIn {l : Launch} {Z : XZ} {L : Nat → Nat} {n : Nat} (ih : P_X2_placeIn_0 l Z L n) {d : Nat} {S : GS} {a1 : Nat} {a2 : Int} {x : Int} {S1 : GS} (H : f_X2_placeIn n d 0 S [((a1 : Nat) : Int), a2] = some (x, S1)) : GM l Z L yX2_placeIn cX2_placeIn 4 (some .int) [] d 0 0 [.ref (L 473), .ref (L a1), .int (J a2)] S (fun v S' => v = some (.int (J x)) ∧ S1 = S') (fun _ _ => False) := GM.of (by decide) (Nat.le_of_ble_eq_true rfl) (ih _ _ _ _ _ _ H)
set_option maxHeartbeats 4000000 in
set_option maxRecDepth 20000 in
theorem t_X2_placeIn_0 {l : Launch} {Z : XZ} {L : Nat → Nat} (n : Nat) (ih_X2_placeIn_0 : P_X2_placeIn_0 l Z L n) : P_X2_placeIn_0 l Z L (n + 1) := by
  intro d S a1 a2 x S1 H
  have H : b_X2_placeIn_0 n d (f_X2_placeIn n) S a1 a2 = some (x, S1) := H
  unfold b_X2_placeIn_0 at H
  refine GA.aload_n dX2_placeIn_0 rfl ?_
  refine GA.get xf_X2_14 dX2_placeIn_1 gs_473 (by decide) rfl ?_
  refine GA.iconst dX2_placeIn_4 ?_
  obtain ⟨hg1, H⟩ := gg_e H
  obtain ⟨x2, S_3, hc4, H⟩ := gc_e H
  refine GA.callV (m_X9_at hc4) xs_X2_88 dX2_placeIn_5 (gsS (by decide)) (by decide) rfl rfl (by omega) (by decide) rfl (Nat.le_of_ble_eq_true rfl) (by omega) (by omega) rfl (fun E S9 hx => hx.elim) (fun v S9 hq => ?_)
  obtain ⟨rfl, rfl⟩ := hq
  refine GA.bipush dX2_placeIn_8 rfl ?_
  obtain ⟨hg5, H⟩ := gg_e H
  refine GV.icmp_eq (tgt := 22) hg5 (by decide) dX2_placeIn_10 (by decide) (fun c6 => ?_) (fun c6 => ?_)
  · have H := it_t H c6
    refine GA.aload_n dX2_placeIn_22 rfl ?_
    refine GA.get xf_X2_14 dX2_placeIn_23 gs_473 (by decide) rfl ?_
    refine GA.iconst dX2_placeIn_26 ?_
    obtain ⟨x7, S_8, hc9, H⟩ := gc_e H
    refine GA.callS (m_X7_placeIn hc9) xs_X2_109 dX2_placeIn_27 rfl (by omega) (by decide) rfl (Nat.le_of_ble_eq_true rfl) (by omega) (by omega) rfl (fun E S9 hx => hx.elim) (fun v S9 hq => ?_)
    obtain ⟨rfl, rfl⟩ := hq
    refine GA.istore_n dX2_placeIn_30 (by decide) ?_
    refine GA.iload_n dX2_placeIn_31 rfl ?_
    obtain ⟨hg10, H⟩ := gg_e H
    refine GV.if_le (tgt := 45) hg10 dX2_placeIn_32 (by decide) (fun c11 => ?_) (fun c11 => ?_)
    · have H := it_t H c11
      refine GA.iconst dX2_placeIn_45 ?_
      cases H
      exact GA.iret rfl dX2_placeIn_46 (by omega) (by omega) ⟨rfl, rfl⟩
    · have H := it_f H c11
      refine GA.aload_n dX2_placeIn_35 rfl ?_
      refine GA.iload_n dX2_placeIn_36 rfl ?_
      obtain ⟨hg12, H⟩ := gg_e H
      obtain ⟨x13, S_14, hc15, H⟩ := gc_e H
      refine GA.callV (m_X10_values hc15) xs_X2_112 dX2_placeIn_37 (gsT hg12) (by omega) rfl rfl (by omega) (by decide) rfl (Nat.le_of_ble_eq_true rfl) (by omega) (by omega) rfl (fun E S9 hx => hx.elim) (fun v S9 hq => ?_)
      obtain ⟨rfl, rfl⟩ := hq
      refine GA.iload_n dX2_placeIn_40 rfl ?_
      obtain ⟨x16, hx17, H⟩ := gv_e H
      refine GV.isub hx17 dX2_placeIn_41 ?_
      refine GA.goto (tgt := 46) dX2_placeIn_42 (by decide) ?_
      cases H
      exact GA.iret rfl dX2_placeIn_46 (by omega) (by omega) ⟨rfl, rfl⟩
  · have H := it_f H c6
    refine GA.aload_n dX2_placeIn_13 rfl ?_
    refine GA.get xf_X2_14 dX2_placeIn_14 gs_473 (by decide) rfl ?_
    refine GA.iconst dX2_placeIn_17 ?_
    obtain ⟨x18, S_19, hc20, H⟩ := gc_e H
    refine GA.callS (m_X7_placeIn hc20) xs_X2_109 dX2_placeIn_18 rfl (by omega) (by decide) rfl (Nat.le_of_ble_eq_true rfl) (by omega) (by omega) rfl (fun E S9 hx => hx.elim) (fun v S9 hq => ?_)
    obtain ⟨rfl, rfl⟩ := hq
    cases H
    exact GA.iret rfl dX2_placeIn_21 (by omega) (by omega) ⟨rfl, rfl⟩
theorem g_X2_placeIn {l : Launch} {Z : XZ} {L : Nat → Nat} : ∀ n, P_X2_placeIn_0 l Z L n
  | 0 => fun _ _ _ _ _ _ H => no_e H
  | n + 1 => t_X2_placeIn_0 n (g_X2_placeIn n)
theorem m_X2_placeIn {l : Launch} {Z : XZ} {L : Nat → Nat} {n d : Nat} {S : GS} {a1 : Nat} {a2 : Int} {x : Int} {S1 : GS} (H : f_X2_placeIn n d 0 S [((a1 : Nat) : Int), a2] = some (x, S1)) : GM l Z L yX2_placeIn cX2_placeIn 4 (some .int) [] d 0 0 [.ref (L 473), .ref (L a1), .int (J a2)] S (fun v S' => v = some (.int (J x)) ∧ S1 = S') (fun _ _ => False) := GM.of (by decide) (Nat.le_of_ble_eq_true rfl) ((g_X2_placeIn n) _ _ _ _ _ _ H)

def P_X2_stepFrom_0 (l : Launch) (Z : XZ) (L : Nat → Nat) (n : Nat) : Prop := ∀ (d : Nat) (S : GS) (a1 : Nat) (a2 : Int) (x : Int) (S1 : GS), f_X2_stepFrom n d 0 S [((a1 : Nat) : Int), a2] = some (x, S1) → GA l Z L yX2_stepFrom cX2_stepFrom 5 none [] d 0 0 (fun v S' => v = none ∧ S1 = S') (fun _ _ => False) 0 (gl [(0, .ref (L 473)), (1, .ref (L a1)), (2, .int (J a2))]) [] S 0 0
def P_X2_stepFrom_14 (l : Launch) (Z : XZ) (L : Nat → Nat) (n : Nat) : Prop := ∀ (d : Nat) (S : GS) (a1 : Nat) (a2 : Int) (a3 : Int) (x : Int) (S1 : GS), f_X2_stepFrom n d 14 S [((a1 : Nat) : Int), a2, a3] = some (x, S1) → GA l Z L yX2_stepFrom cX2_stepFrom 5 none [] d 0 0 (fun v S' => v = none ∧ S1 = S') (fun _ _ => False) 14 (gl [(0, .ref (L 473)), (1, .ref (L a1)), (2, .int (J a2)), (3, .int (J a3))]) [] S 0 0
def P_X2_stepFrom_58 (l : Launch) (Z : XZ) (L : Nat → Nat) (n : Nat) : Prop := ∀ (d : Nat) (S : GS) (a1 : Nat) (a2 : Int) (a3 : Int) (a4 : Int) (x : Int) (S1 : GS), f_X2_stepFrom n d 58 S [((a1 : Nat) : Int), a2, a3, a4] = some (x, S1) → GA l Z L yX2_stepFrom cX2_stepFrom 5 none [] d 0 0 (fun v S' => v = none ∧ S1 = S') (fun _ _ => False) 58 (gl [(0, .ref (L 473)), (1, .ref (L a1)), (2, .int (J a2)), (3, .int (J a3)), (4, .int (J a4))]) [] S 0 0
theorem i_X2_stepFrom {l : Launch} {Z : XZ} {L : Nat → Nat} {n : Nat} (ih : P_X2_stepFrom_0 l Z L n) {d : Nat} {S : GS} {a1 : Nat} {a2 : Int} {x : Int} {S1 : GS} (H : f_X2_stepFrom n d 0 S [((a1 : Nat) : Int), a2] = some (x, S1)) : GM l Z L yX2_stepFrom cX2_stepFrom 5 none [] d 0 0 [.ref (L 473), .ref (L a1), .int (J a2)] S (fun v S' => v = none ∧ S1 = S') (fun _ _ => False) := GM.of (by decide) (Nat.le_of_ble_eq_true rfl) (ih _ _ _ _ _ _ H)
set_option maxHeartbeats 4000000 in
set_option maxRecDepth 20000 in
theorem t_X2_stepFrom_0 {l : Launch} {Z : XZ} {L : Nat → Nat} (n : Nat) (ih_X2_stepFrom_0 : P_X2_stepFrom_0 l Z L n) (ih_X2_stepFrom_14 : P_X2_stepFrom_14 l Z L n) (ih_X2_stepFrom_58 : P_X2_stepFrom_58 l Z L n) : P_X2_stepFrom_0 l Z L (n + 1) := by
  intro d S a1 a2 x S1 H
  have H : b_X2_stepFrom_0 n d (f_X2_stepFrom n) S a1 a2 = some (x, S1) := H
  unfold b_X2_stepFrom_0 at H
  refine GA.aload_n dX2_stepFrom_0 rfl ?_
  refine GA.get xf_X2_14 dX2_stepFrom_1 gs_473 (by decide) rfl ?_
  refine GA.ldcS (i := 18) (tx := "**") (by decide +kernel) dX2_stepFrom_4 ?_
  obtain ⟨hg1, H⟩ := gg_e H
  obtain ⟨x2, S_3, hc4, H⟩ := gc_e H
  refine GA.callV (m_X9_says hc4) xs_X2_70 dX2_stepFrom_6 (gsS (by decide)) (by decide) rfl rfl (by omega) (by decide) rfl (Nat.le_of_ble_eq_true rfl) (by omega) (by omega) rfl (fun E S9 hx => hx.elim) (fun v S9 hq => ?_)
  obtain ⟨rfl, rfl⟩ := hq
  obtain ⟨hg5, H⟩ := gg_e H
  refine GV.if_eq (tgt := 37) hg5 dX2_stepFrom_9 (by decide) (fun c6 => ?_) (fun c6 => ?_)
  · have H := it_t H c6
    refine GA.aload_n dX2_stepFrom_37 rfl ?_
    refine GA.get xf_X2_14 dX2_stepFrom_38 gs_473 (by decide) rfl ?_
    refine GA.ldcS (i := 19) (tx := "*") (by decide +kernel) dX2_stepFrom_41 ?_
    obtain ⟨x7, S_8, hc9, H⟩ := gc_e H
    refine GA.callV (m_X9_says hc9) xs_X2_70 dX2_stepFrom_43 (gsS (by decide)) (by decide) rfl rfl (by omega) (by decide) rfl (Nat.le_of_ble_eq_true rfl) (by omega) (by omega) rfl (fun E S9 hx => hx.elim) (fun v S9 hq => ?_)
    obtain ⟨rfl, rfl⟩ := hq
    obtain ⟨hg10, H⟩ := gg_e H
    refine GV.if_eq (tgt := 91) hg10 dX2_stepFrom_46 (by decide) (fun c11 => ?_) (fun c11 => ?_)
    · have H := it_t H c11
      refine GA.aload_n dX2_stepFrom_91 rfl ?_
      refine GA.get xf_X2_14 dX2_stepFrom_92 gs_473 (by decide) rfl ?_
      refine GA.iconst dX2_stepFrom_95 ?_
      obtain ⟨x12, S_13, hc14, H⟩ := gc_e H
      refine GA.callV (m_X9_at hc14) xs_X2_88 dX2_stepFrom_96 (gsS (by decide)) (by decide) rfl rfl (by omega) (by decide) rfl (Nat.le_of_ble_eq_true rfl) (by omega) (by omega) rfl (fun E S9 hx => hx.elim) (fun v S9 hq => ?_)
      obtain ⟨rfl, rfl⟩ := hq
      refine GA.bipush dX2_stepFrom_99 rfl ?_
      obtain ⟨hg15, H⟩ := gg_e H
      refine GV.icmp_ne (tgt := 113) hg15 (by decide) dX2_stepFrom_101 (by decide) (fun c16 => ?_) (fun c16 => ?_)
      · have H := it_t H c16
        refine GA.aload_n dX2_stepFrom_113 rfl ?_
        refine GA.iload_n dX2_stepFrom_114 rfl ?_
        refine GA.iconst dX2_stepFrom_115 ?_
        obtain ⟨hg17, H⟩ := gg_e H
        obtain ⟨x18, S_19, hc20, H⟩ := gc_e H
        refine GA.callV (m_X10_is hc20) xs_X2_94 dX2_stepFrom_116 (gsT hg17) (by omega) rfl rfl (by omega) (by decide) rfl (Nat.le_of_ble_eq_true rfl) (by omega) (by omega) rfl (fun E S9 hx => hx.elim) (fun v S9 hq => ?_)
        obtain ⟨rfl, rfl⟩ := hq
        obtain ⟨hg21, H⟩ := gg_e H
        refine GV.if_eq (tgt := 140) hg21 dX2_stepFrom_119 (by decide) (fun c22 => ?_) (fun c22 => ?_)
        · have H := it_t H c22
          refine GA.aload_n dX2_stepFrom_140 rfl ?_
          refine GA.aload_n dX2_stepFrom_141 rfl ?_
          refine GA.iload_n dX2_stepFrom_142 rfl ?_
          refine GA.aload_n dX2_stepFrom_143 rfl ?_
          refine GA.get xf_X2_14 dX2_stepFrom_144 gs_473 (by decide) rfl ?_
          obtain ⟨x23, S_24, hc25, H⟩ := gc_e H
          refine GA.callV (m_X10_valueOf hc25) xs_X2_105 dX2_stepFrom_147 (gsT hg17) (by omega) rfl rfl (by omega) (by decide) rfl (Nat.le_of_ble_eq_true rfl) (by omega) (by omega) rfl (fun E S9 hx => hx.elim) (fun v S9 hq => ?_)
          obtain ⟨rfl, rfl⟩ := hq
          obtain ⟨x26, S_27, hc28, H⟩ := gc_e H
          refine GA.callV (m_X2_meet hc28) xs_X2_45 dX2_stepFrom_150 gs_473 (by decide) rfl rfl (by omega) (by decide) rfl (Nat.le_of_ble_eq_true rfl) (by omega) (by omega) rfl (fun E S9 hx => hx.elim) (fun v S9 hq => ?_)
          obtain ⟨rfl, rfl⟩ := hq
          cases H
          exact GA.vret rfl dX2_stepFrom_153 (by omega) (by omega) ⟨rfl, rfl⟩
        · have H := it_f H c22
          refine GA.aload_n dX2_stepFrom_122 rfl ?_
          refine GA.aload_n dX2_stepFrom_123 rfl ?_
          refine GA.iload_n dX2_stepFrom_124 rfl ?_
          refine GA.aload_n dX2_stepFrom_125 rfl ?_
          refine GA.aload_n dX2_stepFrom_126 rfl ?_
          refine GA.iload_n dX2_stepFrom_127 rfl ?_
          obtain ⟨x29, S_30, hc31, H⟩ := gc_e H
          refine GA.callV (m_X2_placeIn hc31) xs_X2_98 dX2_stepFrom_128 gs_473 (by decide) rfl rfl (by omega) (by decide) rfl (Nat.le_of_ble_eq_true rfl) (by omega) (by omega) rfl (fun E S9 hx => hx.elim) (fun v S9 hq => ?_)
          obtain ⟨rfl, rfl⟩ := hq
          obtain ⟨x32, S_33, hc34, H⟩ := gc_e H
          refine GA.callV (m_X10_valueAt hc34) xs_X2_102 dX2_stepFrom_131 (gsT hg17) (by omega) rfl rfl (by omega) (by decide) rfl (Nat.le_of_ble_eq_true rfl) (by omega) (by omega) rfl (fun E S9 hx => hx.elim) (fun v S9 hq => ?_)
          obtain ⟨rfl, rfl⟩ := hq
          obtain ⟨x35, S_36, hc37, H⟩ := gc_e H
          refine GA.callV (m_X2_meet hc37) xs_X2_45 dX2_stepFrom_134 gs_473 (by decide) rfl rfl (by omega) (by decide) rfl (Nat.le_of_ble_eq_true rfl) (by omega) (by omega) rfl (fun E S9 hx => hx.elim) (fun v S9 hq => ?_)
          obtain ⟨rfl, rfl⟩ := hq
          refine GA.goto (tgt := 153) dX2_stepFrom_137 (by decide) ?_
          cases H
          exact GA.vret rfl dX2_stepFrom_153 (by omega) (by omega) ⟨rfl, rfl⟩
      · have H := it_f H c16
        refine GA.aload_n dX2_stepFrom_104 rfl ?_
        refine GA.aload_n dX2_stepFrom_105 rfl ?_
        refine GA.iload_n dX2_stepFrom_106 rfl ?_
        obtain ⟨x38, S_39, hc40, H⟩ := gc_e H
        refine GA.callV (m_X2_meetMatches hc40) xs_X2_91 dX2_stepFrom_107 gs_473 (by decide) rfl rfl (by omega) (by decide) rfl (Nat.le_of_ble_eq_true rfl) (by omega) (by omega) rfl (fun E S9 hx => hx.elim) (fun v S9 hq => ?_)
        obtain ⟨rfl, rfl⟩ := hq
        refine GA.goto (tgt := 153) dX2_stepFrom_110 (by decide) ?_
        cases H
        exact GA.vret rfl dX2_stepFrom_153 (by omega) (by omega) ⟨rfl, rfl⟩
    · have H := it_f H c11
      refine GA.aload_n dX2_stepFrom_49 rfl ?_
      refine GA.iload_n dX2_stepFrom_50 rfl ?_
      obtain ⟨hg41, H⟩ := gg_e H
      obtain ⟨x42, S_43, hc44, H⟩ := gc_e H
      refine GA.callV (m_X10_first hc44) xs_X2_82 dX2_stepFrom_51 (gsT hg41) (by omega) rfl rfl (by omega) (by decide) rfl (Nat.le_of_ble_eq_true rfl) (by omega) (by omega) rfl (fun E S9 hx => hx.elim) (fun v S9 hq => ?_)
      obtain ⟨rfl, rfl⟩ := hq
      refine GA.istore_n dX2_stepFrom_54 (by decide) ?_
      refine GA.iconst dX2_stepFrom_55 ?_
      refine GA.istore dX2_stepFrom_56 (by decide) ?_
      refine GA.locals [(0, .ref (L 473)), (1, .ref (L a1)), (2, .int (J a2)), (3, .int (J x42)), (4, .int (J 0))] ⟨rfl, rfl, rfl, rfl, rfl, trivial⟩ ?_
      exact ih_X2_stepFrom_58 _ _ (a1) (a2) (x42) (0) _ _ H
  · have H := it_f H c6
    refine GA.iload_n dX2_stepFrom_12 rfl ?_
    refine GA.istore_n dX2_stepFrom_13 (by decide) ?_
    refine GA.locals [(0, .ref (L 473)), (1, .ref (L a1)), (2, .int (J a2)), (3, .int (J a2))] ⟨rfl, rfl, rfl, rfl, trivial⟩ ?_
    exact ih_X2_stepFrom_14 _ _ (a1) (a2) (a2) _ _ H
set_option maxHeartbeats 4000000 in
set_option maxRecDepth 20000 in
theorem t_X2_stepFrom_14 {l : Launch} {Z : XZ} {L : Nat → Nat} (n : Nat) (ih_X2_stepFrom_0 : P_X2_stepFrom_0 l Z L n) (ih_X2_stepFrom_14 : P_X2_stepFrom_14 l Z L n) (ih_X2_stepFrom_58 : P_X2_stepFrom_58 l Z L n) : P_X2_stepFrom_14 l Z L (n + 1) := by
  intro d S a1 a2 a3 x S1 H
  have H : b_X2_stepFrom_14 n d (f_X2_stepFrom n) S a1 a2 a3 = some (x, S1) := H
  unfold b_X2_stepFrom_14 at H
  refine GA.iload_n dX2_stepFrom_14 rfl ?_
  refine GA.aload_n dX2_stepFrom_15 rfl ?_
  refine GA.iload_n dX2_stepFrom_16 rfl ?_
  obtain ⟨hg1, H⟩ := gg_e H
  obtain ⟨hg2, H⟩ := gg_e H
  obtain ⟨x3, S_4, hc5, H⟩ := gc_e H
  refine GA.callV (m_X10_after hc5) xs_X2_74 dX2_stepFrom_17 (gsT hg2) (by omega) rfl rfl (by omega) (by decide) rfl (Nat.le_of_ble_eq_true rfl) (by omega) (by omega) rfl (fun E S9 hx => hx.elim) (fun v S9 hq => ?_)
  obtain ⟨rfl, rfl⟩ := hq
  obtain ⟨hg6, H⟩ := gg_e H
  obtain ⟨hg7, H⟩ := gg_e H
  refine GV.icmp_ge (tgt := 34) hg6 hg7 dX2_stepFrom_20 (by decide) (fun c8 => ?_) (fun c8 => ?_)
  · have H := it_t H c8
    refine GA.goto (tgt := 153) dX2_stepFrom_34 (by decide) ?_
    cases H
    exact GA.vret rfl dX2_stepFrom_153 (by omega) (by omega) ⟨rfl, rfl⟩
  · have H := it_f H c8
    refine GA.aload_n dX2_stepFrom_23 rfl ?_
    refine GA.iload_n dX2_stepFrom_24 rfl ?_
    obtain ⟨x9, S_10, hc11, H⟩ := gc_e H
    refine GA.callV (m_X2_meet hc11) xs_X2_45 dX2_stepFrom_25 gs_473 (by decide) rfl rfl (by omega) (by decide) rfl (Nat.le_of_ble_eq_true rfl) (by omega) (by omega) rfl (fun E S9 hx => hx.elim) (fun v S9 hq => ?_)
    obtain ⟨rfl, rfl⟩ := hq
    obtain ⟨x12, hx13, H⟩ := gv_e H
    refine GV.iinc hx13 dX2_stepFrom_28 rfl (by decide) ?_
    refine GA.goto (tgt := 14) dX2_stepFrom_31 (by decide) ?_
    refine GA.locals [(0, .ref (L 473)), (1, .ref (L a1)), (2, .int (J a2)), (3, .int (J x12))] ⟨rfl, rfl, rfl, rfl, trivial⟩ ?_
    exact ih_X2_stepFrom_14 _ _ (a1) (a2) (x12) _ _ H
set_option maxHeartbeats 4000000 in
set_option maxRecDepth 20000 in
theorem t_X2_stepFrom_58 {l : Launch} {Z : XZ} {L : Nat → Nat} (n : Nat) (ih_X2_stepFrom_0 : P_X2_stepFrom_0 l Z L n) (ih_X2_stepFrom_14 : P_X2_stepFrom_14 l Z L n) (ih_X2_stepFrom_58 : P_X2_stepFrom_58 l Z L n) : P_X2_stepFrom_58 l Z L (n + 1) := by
  intro d S a1 a2 a3 a4 x S1 H
  have H : b_X2_stepFrom_58 n d (f_X2_stepFrom n) S a1 a2 a3 a4 = some (x, S1) := H
  unfold b_X2_stepFrom_58 at H
  refine GA.iload_n dX2_stepFrom_58 rfl ?_
  refine GA.iconst dX2_stepFrom_59 ?_
  obtain ⟨hg1, H⟩ := gg_e H
  refine GV.icmp_eq (tgt := 88) hg1 (by decide) dX2_stepFrom_60 (by decide) (fun c2 => ?_) (fun c2 => ?_)
  · have H := it_t H c2
    refine GA.goto (tgt := 153) dX2_stepFrom_88 (by decide) ?_
    cases H
    exact GA.vret rfl dX2_stepFrom_153 (by omega) (by omega) ⟨rfl, rfl⟩
  · have H := it_f H c2
    refine GA.iload dX2_stepFrom_63 rfl ?_
    refine GA.bipush dX2_stepFrom_65 rfl ?_
    obtain ⟨hg3, H⟩ := gg_e H
    refine GV.icmp_ge (tgt := 88) hg3 (by decide) dX2_stepFrom_67 (by decide) (fun c4 => ?_) (fun c4 => ?_)
    · have H := it_t H c4
      refine GA.goto (tgt := 153) dX2_stepFrom_88 (by decide) ?_
      cases H
      exact GA.vret rfl dX2_stepFrom_153 (by omega) (by omega) ⟨rfl, rfl⟩
    · have H := it_f H c4
      refine GA.aload_n dX2_stepFrom_70 rfl ?_
      refine GA.iload_n dX2_stepFrom_71 rfl ?_
      obtain ⟨hg5, H⟩ := gg_e H
      obtain ⟨x6, S_7, hc8, H⟩ := gc_e H
      refine GA.callV (m_X2_meet hc8) xs_X2_45 dX2_stepFrom_72 gs_473 (by decide) rfl rfl (by omega) (by decide) rfl (Nat.le_of_ble_eq_true rfl) (by omega) (by omega) rfl (fun E S9 hx => hx.elim) (fun v S9 hq => ?_)
      obtain ⟨rfl, rfl⟩ := hq
      refine GA.aload_n dX2_stepFrom_75 rfl ?_
      refine GA.iload_n dX2_stepFrom_76 rfl ?_
      refine GA.iload_n dX2_stepFrom_77 rfl ?_
      obtain ⟨hg9, H⟩ := gg_e H
      obtain ⟨x10, S_11, hc12, H⟩ := gc_e H
      refine GA.callV (m_X10_next hc12) xs_X2_85 dX2_stepFrom_78 (gsT hg9) (by omega) rfl rfl (by omega) (by decide) rfl (Nat.le_of_ble_eq_true rfl) (by omega) (by omega) rfl (fun E S9 hx => hx.elim) (fun v S9 hq => ?_)
      obtain ⟨rfl, rfl⟩ := hq
      refine GA.istore_n dX2_stepFrom_81 (by decide) ?_
      obtain ⟨x13, hx14, H⟩ := gv_e H
      refine GV.iinc hx14 dX2_stepFrom_82 rfl (by decide) ?_
      refine GA.goto (tgt := 58) dX2_stepFrom_85 (by decide) ?_
      refine GA.locals [(0, .ref (L 473)), (1, .ref (L a1)), (2, .int (J a2)), (3, .int (J x10)), (4, .int (J x13))] ⟨rfl, rfl, rfl, rfl, rfl, trivial⟩ ?_
      exact ih_X2_stepFrom_58 _ _ (a1) (a2) (x10) (x13) _ _ H
theorem g_X2_stepFrom {l : Launch} {Z : XZ} {L : Nat → Nat} : ∀ n, P_X2_stepFrom_0 l Z L n ∧ P_X2_stepFrom_14 l Z L n ∧ P_X2_stepFrom_58 l Z L n
  | 0 => ⟨fun _ _ _ _ _ _ H => no_e H, fun _ _ _ _ _ _ _ H => no_e H, fun _ _ _ _ _ _ _ _ H => no_e H⟩
  | n + 1 => have ⟨h0, h1, h2⟩ := g_X2_stepFrom (l := l) (Z := Z) (L := L) n
    ⟨t_X2_stepFrom_0 n h0 h1 h2, t_X2_stepFrom_14 n h0 h1 h2, t_X2_stepFrom_58 n h0 h1 h2⟩
theorem m_X2_stepFrom {l : Launch} {Z : XZ} {L : Nat → Nat} {n d : Nat} {S : GS} {a1 : Nat} {a2 : Int} {x : Int} {S1 : GS} (H : f_X2_stepFrom n d 0 S [((a1 : Nat) : Int), a2] = some (x, S1)) : GM l Z L yX2_stepFrom cX2_stepFrom 5 none [] d 0 0 [.ref (L 473), .ref (L a1), .int (J a2)] S (fun v S' => v = none ∧ S1 = S') (fun _ _ => False) := GM.of (by decide) (Nat.le_of_ble_eq_true rfl) ((g_X2_stepFrom n).1 _ _ _ _ _ _ H)

def P_X2_seek_0 (l : Launch) (Z : XZ) (L : Nat → Nat) (n : Nat) : Prop := ∀ (d : Nat) (S : GS) (a1 : Nat) (a2 : Nat) (x : Int) (S1 : GS), f_X2_seek n d 0 S [((a1 : Nat) : Int), ((a2 : Nat) : Int)] = some (x, S1) → GA l Z L yX2_seek cX2_seek 6 none [] d 0 0 (fun v S' => v = none ∧ S1 = S') (fun _ _ => False) 0 (gl [(0, .ref (L 473)), (1, .ref (L a1)), (2, .ref (L a2))]) [] S 0 0
def P_X2_seek_11 (l : Launch) (Z : XZ) (L : Nat → Nat) (n : Nat) : Prop := ∀ (d : Nat) (S : GS) (a1 : Nat) (a2 : Nat) (a3 : Int) (x : Int) (S1 : GS), f_X2_seek n d 11 S [((a1 : Nat) : Int), ((a2 : Nat) : Int), a3] = some (x, S1) → GA l Z L yX2_seek cX2_seek 6 none [] d 0 0 (fun v S' => v = none ∧ S1 = S') (fun _ _ => False) 11 (gl [(0, .ref (L 473)), (1, .ref (L a1)), (2, .ref (L a2)), (3, .int (J a3))]) [] S 0 0
def P_X2_seek_42 (l : Launch) (Z : XZ) (L : Nat → Nat) (n : Nat) : Prop := ∀ (d : Nat) (S : GS) (a1 : Nat) (a2 : Nat) (a3 : Int) (a4 : Int) (a5 : Int) (x : Int) (S1 : GS), f_X2_seek n d 42 S [((a1 : Nat) : Int), ((a2 : Nat) : Int), a3, a4, a5] = some (x, S1) → GA l Z L yX2_seek cX2_seek 6 none [] d 0 0 (fun v S' => v = none ∧ S1 = S') (fun _ _ => False) 42 (gl [(0, .ref (L 473)), (1, .ref (L a1)), (2, .ref (L a2)), (3, .int (J a3)), (4, .int (J a4)), (5, .int (J a5))]) [] S 0 0
def P_X2_seek_76 (l : Launch) (Z : XZ) (L : Nat → Nat) (n : Nat) : Prop := ∀ (d : Nat) (S : GS) (a1 : Nat) (a2 : Nat) (a3 : Int) (a4 : Int) (a5 : Int) (x : Int) (S1 : GS), f_X2_seek n d 76 S [((a1 : Nat) : Int), ((a2 : Nat) : Int), a3, a4, a5] = some (x, S1) → GA l Z L yX2_seek cX2_seek 6 none [] d 0 0 (fun v S' => v = none ∧ S1 = S') (fun _ _ => False) 76 (gl [(0, .ref (L 473)), (1, .ref (L a1)), (2, .ref (L a2)), (3, .int (J a3)), (4, .int (J a4)), (5, .int (J a5))]) [] S 0 0
theorem i_X2_seek {l : Launch} {Z : XZ} {L : Nat → Nat} {n : Nat} (ih : P_X2_seek_0 l Z L n) {d : Nat} {S : GS} {a1 : Nat} {a2 : Nat} {x : Int} {S1 : GS} (H : f_X2_seek n d 0 S [((a1 : Nat) : Int), ((a2 : Nat) : Int)] = some (x, S1)) : GM l Z L yX2_seek cX2_seek 6 none [] d 0 0 [.ref (L 473), .ref (L a1), .ref (L a2)] S (fun v S' => v = none ∧ S1 = S') (fun _ _ => False) := GM.of (by decide) (Nat.le_of_ble_eq_true rfl) (ih _ _ _ _ _ _ H)
set_option maxHeartbeats 4000000 in
set_option maxRecDepth 20000 in
theorem t_X2_seek_0 {l : Launch} {Z : XZ} {L : Nat → Nat} (n : Nat) (ih_X2_seek_0 : P_X2_seek_0 l Z L n) (ih_X2_seek_11 : P_X2_seek_11 l Z L n) (ih_X2_seek_42 : P_X2_seek_42 l Z L n) (ih_X2_seek_76 : P_X2_seek_76 l Z L n) : P_X2_seek_0 l Z L (n + 1) := by
  intro d S a1 a2 x S1 H
  have H : b_X2_seek_0 n d (f_X2_seek n) S a1 a2 = some (x, S1) := H
  unfold b_X2_seek_0 at H
  refine GA.aload_n dX2_seek_0 rfl ?_
  obtain ⟨hg1, H⟩ := gg_e H
  obtain ⟨x2, S_3, hc4, H⟩ := gc_e H
  refine GA.callV (m_X2_begin hc4) xs_X2_42 dX2_seek_1 gs_473 (by decide) rfl rfl (by omega) (by decide) rfl (Nat.le_of_ble_eq_true rfl) (by omega) (by omega) rfl (fun E S9 hx => hx.elim) (fun v S9 hq => ?_)
  obtain ⟨rfl, rfl⟩ := hq
  refine GA.aload_n dX2_seek_4 rfl ?_
  refine GA.iconst dX2_seek_5 ?_
  obtain ⟨x5, S_6, hc7, H⟩ := gc_e H
  refine GA.callV (m_X2_meet hc7) xs_X2_45 dX2_seek_6 gs_473 (by decide) rfl rfl (by omega) (by decide) rfl (Nat.le_of_ble_eq_true rfl) (by omega) (by omega) rfl (fun E S9 hx => hx.elim) (fun v S9 hq => ?_)
  obtain ⟨rfl, rfl⟩ := hq
  refine GA.iconst dX2_seek_9 ?_
  refine GA.istore_n dX2_seek_10 (by decide) ?_
  refine GA.locals [(0, .ref (L 473)), (1, .ref (L a1)), (2, .ref (L a2)), (3, .int (J 0))] ⟨rfl, rfl, rfl, rfl, trivial⟩ ?_
  exact ih_X2_seek_11 _ _ (a1) (a2) (0) _ _ H
set_option maxHeartbeats 4000000 in
set_option maxRecDepth 20000 in
theorem t_X2_seek_11 {l : Launch} {Z : XZ} {L : Nat → Nat} (n : Nat) (ih_X2_seek_0 : P_X2_seek_0 l Z L n) (ih_X2_seek_11 : P_X2_seek_11 l Z L n) (ih_X2_seek_42 : P_X2_seek_42 l Z L n) (ih_X2_seek_76 : P_X2_seek_76 l Z L n) : P_X2_seek_11 l Z L (n + 1) := by
  intro d S a1 a2 a3 x S1 H
  have H : b_X2_seek_11 n d (f_X2_seek n) S a1 a2 a3 = some (x, S1) := H
  unfold b_X2_seek_11 at H
  refine GA.iload_n dX2_seek_11 rfl ?_
  refine GA.aload_n dX2_seek_12 rfl ?_
  obtain ⟨hg1, H⟩ := gg_e H
  obtain ⟨hg2, H⟩ := gg_e H
  obtain ⟨x3, S_4, hc5, H⟩ := gc_e H
  refine GA.callV (m_X7_steps hc5) xs_X2_48 dX2_seek_13 (gsR hg2) (by omega) rfl rfl (by omega) (by decide) rfl (Nat.le_of_ble_eq_true rfl) (by omega) (by omega) rfl (fun E S9 hx => hx.elim) (fun v S9 hq => ?_)
  obtain ⟨rfl, rfl⟩ := hq
  obtain ⟨hg6, H⟩ := gg_e H
  obtain ⟨hg7, H⟩ := gg_e H
  refine GV.icmp_ge (tgt := 107) hg6 hg7 dX2_seek_16 (by decide) (fun c8 => ?_) (fun c8 => ?_)
  · have H := it_t H c8
    cases H
    exact GA.vret rfl dX2_seek_107 (by omega) (by omega) ⟨rfl, rfl⟩
  · have H := it_f H c8
    refine GA.aload_n dX2_seek_19 rfl ?_
    refine GA.iload_n dX2_seek_20 rfl ?_
    refine GA.aload_n dX2_seek_21 rfl ?_
    refine GA.get xf_X2_14 dX2_seek_22 gs_473 (by decide) rfl ?_
    obtain ⟨x9, S_10, hc11, H⟩ := gc_e H
    refine GA.callV (m_X7_wordTo hc11) xs_X2_54 dX2_seek_25 (gsR hg2) (by omega) rfl rfl (by omega) (by decide) rfl (Nat.le_of_ble_eq_true rfl) (by omega) (by omega) rfl (fun E S9 hx => hx.elim) (fun v S9 hq => ?_)
    obtain ⟨rfl, rfl⟩ := hq
    refine GA.aload_n dX2_seek_28 rfl ?_
    obtain ⟨x12, hx13, H⟩ := gv_e H
    refine GV.getI hx13 xf_X2_38 dX2_seek_29 gs_473 (by decide) rfl ?_
    refine GA.bipush dX2_seek_32 rfl ?_
    obtain ⟨hg14, H⟩ := gg_e H
    obtain ⟨x15, hx16, H⟩ := gv_e H
    refine GV.mmin hg14 (by decide) hx16 xs_X2_58 dX2_seek_34 (Nat.le_of_ble_eq_true rfl) (by omega) (by omega) ?_
    refine GA.istore dX2_seek_37 (by decide) ?_
    refine GA.iconst dX2_seek_39 ?_
    refine GA.istore dX2_seek_40 (by decide) ?_
    refine GA.locals [(0, .ref (L 473)), (1, .ref (L a1)), (2, .ref (L a2)), (3, .int (J a3)), (4, .int (J x15)), (5, .int (J 0))] ⟨rfl, rfl, rfl, rfl, rfl, rfl, trivial⟩ ?_
    exact ih_X2_seek_42 _ _ (a1) (a2) (a3) (x15) (0) _ _ H
set_option maxHeartbeats 4000000 in
set_option maxRecDepth 20000 in
theorem t_X2_seek_42 {l : Launch} {Z : XZ} {L : Nat → Nat} (n : Nat) (ih_X2_seek_0 : P_X2_seek_0 l Z L n) (ih_X2_seek_11 : P_X2_seek_11 l Z L n) (ih_X2_seek_42 : P_X2_seek_42 l Z L n) (ih_X2_seek_76 : P_X2_seek_76 l Z L n) : P_X2_seek_42 l Z L (n + 1) := by
  intro d S a1 a2 a3 a4 a5 x S1 H
  have H : b_X2_seek_42 n d (f_X2_seek n) S a1 a2 a3 a4 a5 = some (x, S1) := H
  unfold b_X2_seek_42 at H
  refine GA.iload dX2_seek_42 rfl ?_
  refine GA.iload dX2_seek_44 rfl ?_
  obtain ⟨hg1, H⟩ := gg_e H
  obtain ⟨hg2, H⟩ := gg_e H
  refine GV.icmp_ge (tgt := 69) hg1 hg2 dX2_seek_46 (by decide) (fun c3 => ?_) (fun c3 => ?_)
  · have H := it_t H c3
    refine GA.aload_n dX2_seek_69 rfl ?_
    obtain ⟨hg4, H⟩ := gg_e H
    obtain ⟨x5, S_6, hc7, H⟩ := gc_e H
    refine GA.callV (m_X2_begin hc7) xs_X2_42 dX2_seek_70 gs_473 (by decide) rfl rfl (by omega) (by decide) rfl (Nat.le_of_ble_eq_true rfl) (by omega) (by omega) rfl (fun E S9 hx => hx.elim) (fun v S9 hq => ?_)
    obtain ⟨rfl, rfl⟩ := hq
    refine GA.iconst dX2_seek_73 ?_
    refine GA.istore dX2_seek_74 (by decide) ?_
    refine GA.locals [(0, .ref (L 473)), (1, .ref (L a1)), (2, .ref (L a2)), (3, .int (J a3)), (4, .int (J a4)), (5, .int (J 0))] ⟨rfl, rfl, rfl, rfl, rfl, rfl, trivial⟩ ?_
    exact ih_X2_seek_76 _ _ (a1) (a2) (a3) (a4) (0) _ _ H
  · have H := it_f H c3
    refine GA.aload_n dX2_seek_49 rfl ?_
    refine GA.get xf_X2_31 dX2_seek_50 gs_473 (by decide) rfl ?_
    refine GA.iload dX2_seek_53 rfl ?_
    refine GA.aload_n dX2_seek_55 rfl ?_
    refine GA.get xf_X2_27 dX2_seek_56 gs_473 (by decide) rfl ?_
    refine GA.iload dX2_seek_59 rfl ?_
    obtain ⟨hg8, H⟩ := gg_e H
    obtain ⟨x9, hx10, H⟩ := gv_e H
    refine GV.iald hg8 hx10 dX2_seek_61 gs_474 (by decide) ?_
    obtain ⟨S_11, hx12, H⟩ := gv_e H
    refine GV.iast hg8 hx12 dX2_seek_62 (fun _ => gs_475) (by decide) ?_
    obtain ⟨x13, hx14, H⟩ := gv_e H
    refine GV.iinc hx14 dX2_seek_63 rfl (by decide) ?_
    refine GA.goto (tgt := 42) dX2_seek_66 (by decide) ?_
    refine GA.locals [(0, .ref (L 473)), (1, .ref (L a1)), (2, .ref (L a2)), (3, .int (J a3)), (4, .int (J a4)), (5, .int (J x13))] ⟨rfl, rfl, rfl, rfl, rfl, rfl, trivial⟩ ?_
    exact ih_X2_seek_42 _ _ (a1) (a2) (a3) (a4) (x13) _ _ H
set_option maxHeartbeats 4000000 in
set_option maxRecDepth 20000 in
theorem t_X2_seek_76 {l : Launch} {Z : XZ} {L : Nat → Nat} (n : Nat) (ih_X2_seek_0 : P_X2_seek_0 l Z L n) (ih_X2_seek_11 : P_X2_seek_11 l Z L n) (ih_X2_seek_42 : P_X2_seek_42 l Z L n) (ih_X2_seek_76 : P_X2_seek_76 l Z L n) : P_X2_seek_76 l Z L (n + 1) := by
  intro d S a1 a2 a3 a4 a5 x S1 H
  have H : b_X2_seek_76 n d (f_X2_seek n) S a1 a2 a3 a4 a5 = some (x, S1) := H
  unfold b_X2_seek_76 at H
  refine GA.iload dX2_seek_76 rfl ?_
  refine GA.iload dX2_seek_78 rfl ?_
  obtain ⟨hg1, H⟩ := gg_e H
  obtain ⟨hg2, H⟩ := gg_e H
  refine GV.icmp_ge (tgt := 101) hg1 hg2 dX2_seek_80 (by decide) (fun c3 => ?_) (fun c3 => ?_)
  · have H := it_t H c3
    obtain ⟨x4, hx5, H⟩ := gv_e H
    refine GV.iinc hx5 dX2_seek_101 rfl (by decide) ?_
    refine GA.goto (tgt := 11) dX2_seek_104 (by decide) ?_
    refine GA.locals [(0, .ref (L 473)), (1, .ref (L a1)), (2, .ref (L a2)), (3, .int (J x4))] ⟨rfl, rfl, rfl, rfl, trivial⟩ ?_
    exact ih_X2_seek_11 _ _ (a1) (a2) (x4) _ _ H
  · have H := it_f H c3
    refine GA.aload_n dX2_seek_83 rfl ?_
    refine GA.aload_n dX2_seek_84 rfl ?_
    refine GA.aload_n dX2_seek_85 rfl ?_
    refine GA.get xf_X2_31 dX2_seek_86 gs_473 (by decide) rfl ?_
    refine GA.iload dX2_seek_89 rfl ?_
    obtain ⟨hg6, H⟩ := gg_e H
    obtain ⟨x7, hx8, H⟩ := gv_e H
    refine GV.iald hg6 hx8 dX2_seek_91 gs_475 (by decide) ?_
    obtain ⟨hg9, H⟩ := gg_e H
    obtain ⟨x10, S_11, hc12, H⟩ := gc_e H
    refine GA.callV (m_X2_stepFrom hc12) xs_X2_64 dX2_seek_92 gs_473 (by decide) rfl rfl (by omega) (by decide) rfl (Nat.le_of_ble_eq_true rfl) (by omega) (by omega) rfl (fun E S9 hx => hx.elim) (fun v S9 hq => ?_)
    obtain ⟨rfl, rfl⟩ := hq
    obtain ⟨x13, hx14, H⟩ := gv_e H
    refine GV.iinc hx14 dX2_seek_95 rfl (by decide) ?_
    refine GA.goto (tgt := 76) dX2_seek_98 (by decide) ?_
    refine GA.locals [(0, .ref (L 473)), (1, .ref (L a1)), (2, .ref (L a2)), (3, .int (J a3)), (4, .int (J a4)), (5, .int (J x13))] ⟨rfl, rfl, rfl, rfl, rfl, rfl, trivial⟩ ?_
    exact ih_X2_seek_76 _ _ (a1) (a2) (a3) (a4) (x13) _ _ H
theorem g_X2_seek {l : Launch} {Z : XZ} {L : Nat → Nat} : ∀ n, P_X2_seek_0 l Z L n ∧ P_X2_seek_11 l Z L n ∧ P_X2_seek_42 l Z L n ∧ P_X2_seek_76 l Z L n
  | 0 => ⟨fun _ _ _ _ _ _ H => no_e H, fun _ _ _ _ _ _ _ H => no_e H, fun _ _ _ _ _ _ _ _ _ H => no_e H, fun _ _ _ _ _ _ _ _ _ H => no_e H⟩
  | n + 1 => have ⟨h0, h1, h2, h3⟩ := g_X2_seek (l := l) (Z := Z) (L := L) n
    ⟨t_X2_seek_0 n h0 h1 h2 h3, t_X2_seek_11 n h0 h1 h2 h3, t_X2_seek_42 n h0 h1 h2 h3, t_X2_seek_76 n h0 h1 h2 h3⟩
theorem m_X2_seek {l : Launch} {Z : XZ} {L : Nat → Nat} {n d : Nat} {S : GS} {a1 : Nat} {a2 : Nat} {x : Int} {S1 : GS} (H : f_X2_seek n d 0 S [((a1 : Nat) : Int), ((a2 : Nat) : Int)] = some (x, S1)) : GM l Z L yX2_seek cX2_seek 6 none [] d 0 0 [.ref (L 473), .ref (L a1), .ref (L a2)] S (fun v S' => v = none ∧ S1 = S') (fun _ _ => False) := GM.of (by decide) (Nat.le_of_ble_eq_true rfl) ((g_X2_seek n).1 _ _ _ _ _ _ H)

