def P_X12_plain_0 (l : Launch) (Z : XZ) (L : Nat → Nat) (n : Nat) : Prop := ∀ (hL : L 700 = 1), ∀ (d : Nat) (S : GS) (a1 : Int) (a2 : Int) (x : Int) (S1 : GS), f_X12_plain n d 0 S [a1, a2] = some (x, S1) → GA l Z L yX12_plain cX12_plain 5 (some .int) [] d 0 0 (fun v S' => v = some (.int (J x)) ∧ S1 = S') (fun _ _ => False) 0 (gl [(0, .ref (L 500)), (1, .int (J a1)), (2, .int (J a2))]) [] S 0 0
def P_X12_plain_5 (l : Launch) (Z : XZ) (L : Nat → Nat) (n : Nat) : Prop := ∀ (hL : L 700 = 1), ∀ (d : Nat) (S : GS) (a1 : Int) (a2 : Int) (a3 : Int) (a4 : Int) (x : Int) (S1 : GS), f_X12_plain n d 5 S [a1, a2, a3, a4] = some (x, S1) → GA l Z L yX12_plain cX12_plain 5 (some .int) [] d 0 0 (fun v S' => v = some (.int (J x)) ∧ S1 = S') (fun _ _ => False) 5 (gl [(0, .ref (L 500)), (1, .int (J a1)), (2, .int (J a2)), (3, .int (J a3)), (4, .int (J a4))]) [] S 0 0
theorem i_X12_plain {l : Launch} {Z : XZ} {L : Nat → Nat} (hL : L 700 = 1) {n : Nat} (ih : P_X12_plain_0 l Z L n) {d : Nat} {S : GS} {a1 : Int} {a2 : Int} {x : Int} {S1 : GS} (H : f_X12_plain n d 0 S [a1, a2] = some (x, S1)) : GM l Z L yX12_plain cX12_plain 5 (some .int) [] d 0 0 [.ref (L 500), .int (J a1), .int (J a2)] S (fun v S' => v = some (.int (J x)) ∧ S1 = S') (fun _ _ => False) := GM.of (by decide) (Nat.le_of_ble_eq_true rfl) (ih hL _ _ _ _ _ _ H)
set_option maxHeartbeats 4000000 in
set_option maxRecDepth 20000 in
theorem t_X12_plain_0 {l : Launch} {Z : XZ} {L : Nat → Nat} (n : Nat) (ih_X12_plain_0 : P_X12_plain_0 l Z L n) (ih_X12_plain_5 : P_X12_plain_5 l Z L n) : P_X12_plain_0 l Z L (n + 1) := by
  intro hL d S a1 a2 x S1 H
  have H : b_X12_plain_0 n d (f_X12_plain n) S a1 a2 = some (x, S1) := H
  unfold b_X12_plain_0 at H
  refine GA.iconst dX12_plain_0 ?_
  refine GA.istore_n dX12_plain_1 (by decide) ?_
  refine GA.iconst dX12_plain_2 ?_
  refine GA.istore dX12_plain_3 (by decide) ?_
  refine GA.locals [(0, .ref (L 500)), (1, .int (J a1)), (2, .int (J a2)), (3, .int (J 0)), (4, .int (J 0))] ⟨rfl, rfl, rfl, rfl, rfl, trivial⟩ ?_
  exact ih_X12_plain_5 hL _ _ (a1) (a2) (0) (0) _ _ H
set_option maxHeartbeats 4000000 in
set_option maxRecDepth 20000 in
theorem t_X12_plain_5 {l : Launch} {Z : XZ} {L : Nat → Nat} (n : Nat) (ih_X12_plain_0 : P_X12_plain_0 l Z L n) (ih_X12_plain_5 : P_X12_plain_5 l Z L n) : P_X12_plain_5 l Z L (n + 1) := by
  intro hL d S a1 a2 a3 a4 x S1 H
  have H : b_X12_plain_5 n d (f_X12_plain n) S a1 a2 a3 a4 = some (x, S1) := H
  unfold b_X12_plain_5 at H
  refine GA.iload dX12_plain_5 rfl ?_
  refine GA.iload_n dX12_plain_7 rfl ?_
  obtain ⟨hg1, H⟩ := gg_e H
  obtain ⟨hg2, H⟩ := gg_e H
  refine GV.icmp_ge (tgt := 51) hg1 hg2 dX12_plain_8 (by decide) (fun c3 => ?_) (fun c3 => ?_)
  · have H := it_t H c3
    refine GA.iload_n dX12_plain_51 rfl ?_
    cases H
    exact GA.iret rfl dX12_plain_52 (by omega) (by omega) ⟨rfl, rfl⟩
  · have H := it_f H c3
    refine GA.iload_n dX12_plain_11 rfl ?_
    refine GA.iconst dX12_plain_12 ?_
    obtain ⟨hg4, H⟩ := gg_e H
    refine GV.icmp_eq (tgt := 51) hg4 (by decide) dX12_plain_13 (by decide) (fun c5 => ?_) (fun c5 => ?_)
    · have H := it_t H c5
      refine GA.iload_n dX12_plain_51 rfl ?_
      cases H
      exact GA.iret rfl dX12_plain_52 (by omega) (by omega) ⟨rfl, rfl⟩
    · have H := it_f H c5
      refine GA.aload_n dX12_plain_16 rfl ?_
      refine GA.iload dX12_plain_17 rfl ?_
      obtain ⟨hg6, H⟩ := gg_e H
      obtain ⟨x7, S_8, hc9, H⟩ := gc_e H
      refine GA.callV (m_X12_step hL hc9) xs_X12_619 dX12_plain_19 (gs_500 hL) (by decide) rfl rfl (by omega) (by decide) rfl (Nat.le_of_ble_eq_true rfl) (by omega) (by omega) rfl (fun E S9 hx => hx.elim) (fun v S9 hq => ?_)
      obtain ⟨rfl, rfl⟩ := hq
      refine GA.aload_n dX12_plain_22 rfl ?_
      refine GA.aload_n dX12_plain_23 rfl ?_
      obtain ⟨x10, hx11, H⟩ := gv_e H
      refine GV.getI hx11 xf_X12_607 dX12_plain_24 (gs_500 hL) (by decide) rfl ?_
      refine GA.aload_n dX12_plain_27 rfl ?_
      obtain ⟨x12, hx13, H⟩ := gv_e H
      refine GV.getI hx13 xf_X12_610 dX12_plain_28 (gs_500 hL) (by decide) rfl ?_
      obtain ⟨x14, S_15, hc16, H⟩ := gc_e H
      refine GA.callV (m_X12_wordOf hL hc16) xs_X12_622 dX12_plain_31 (gs_500 hL) (by decide) rfl rfl (by omega) (by decide) rfl (Nat.le_of_ble_eq_true rfl) (by omega) (by omega) rfl (fun E S9 hx => hx.elim) (fun v S9 hq => ?_)
      obtain ⟨rfl, rfl⟩ := hq
      refine GA.aload_n dX12_plain_34 rfl ?_
      refine GA.iload_n dX12_plain_35 rfl ?_
      refine GA.iload_n dX12_plain_36 rfl ?_
      refine GA.iconst dX12_plain_37 ?_
      obtain ⟨x17, S_18, hc19, H⟩ := gc_e H
      refine GA.callV (m_X12_stepped hL hc19) xs_X12_625 dX12_plain_38 (gs_500 hL) (by decide) rfl rfl (by omega) (by decide) rfl (Nat.le_of_ble_eq_true rfl) (by omega) (by omega) rfl (fun E S9 hx => hx.elim) (fun v S9 hq => ?_)
      obtain ⟨rfl, rfl⟩ := hq
      refine GA.istore_n dX12_plain_41 (by decide) ?_
      refine GA.aload_n dX12_plain_42 rfl ?_
      obtain ⟨x20, hx21, H⟩ := gv_e H
      refine GV.getI hx21 xf_X12_610 dX12_plain_43 (gs_500 hL) (by decide) rfl ?_
      refine GA.istore dX12_plain_46 (by decide) ?_
      refine GA.goto (tgt := 5) dX12_plain_48 (by decide) ?_
      refine GA.locals [(0, .ref (L 500)), (1, .int (J a1)), (2, .int (J a2)), (3, .int (J x17)), (4, .int (J x20))] ⟨rfl, rfl, rfl, rfl, rfl, trivial⟩ ?_
      exact ih_X12_plain_5 hL _ _ (a1) (a2) (x17) (x20) _ _ H
theorem g_X12_plain {l : Launch} {Z : XZ} {L : Nat → Nat} : ∀ n, P_X12_plain_0 l Z L n ∧ P_X12_plain_5 l Z L n
  | 0 => ⟨fun _ _ _ _ _ _ _ H => no_e H, fun _ _ _ _ _ _ _ _ _ H => no_e H⟩
  | n + 1 => have ⟨h0, h1⟩ := g_X12_plain (l := l) (Z := Z) (L := L) n
    ⟨t_X12_plain_0 n h0 h1, t_X12_plain_5 n h0 h1⟩
theorem m_X12_plain {l : Launch} {Z : XZ} {L : Nat → Nat} (hL : L 700 = 1) {n d : Nat} {S : GS} {a1 : Int} {a2 : Int} {x : Int} {S1 : GS} (H : f_X12_plain n d 0 S [a1, a2] = some (x, S1)) : GM l Z L yX12_plain cX12_plain 5 (some .int) [] d 0 0 [.ref (L 500), .int (J a1), .int (J a2)] S (fun v S' => v = some (.int (J x)) ∧ S1 = S') (fun _ _ => False) := GM.of (by decide) (Nat.le_of_ble_eq_true rfl) ((g_X12_plain n).1 hL _ _ _ _ _ _ H)

def P_X12_taken_0 (l : Launch) (Z : XZ) (L : Nat → Nat) (n : Nat) : Prop := ∀ (hL : L 700 = 1), ∀ (d : Nat) (S : GS) (a1 : Int) (a2 : Int) (a3 : Int) (x : Int) (S1 : GS), f_X12_taken n d 0 S [a1, a2, a3] = some (x, S1) → GA l Z L yX12_taken cX12_taken 4 none [] d 0 0 (fun v S' => v = none ∧ S1 = S') (fun _ _ => False) 0 (gl [(0, .ref (L 500)), (1, .int (J a1)), (2, .int (J a2)), (3, .int (J a3))]) [] S 0 0
theorem i_X12_taken {l : Launch} {Z : XZ} {L : Nat → Nat} (hL : L 700 = 1) {n : Nat} (ih : P_X12_taken_0 l Z L n) {d : Nat} {S : GS} {a1 : Int} {a2 : Int} {a3 : Int} {x : Int} {S1 : GS} (H : f_X12_taken n d 0 S [a1, a2, a3] = some (x, S1)) : GM l Z L yX12_taken cX12_taken 4 none [] d 0 0 [.ref (L 500), .int (J a1), .int (J a2), .int (J a3)] S (fun v S' => v = none ∧ S1 = S') (fun _ _ => False) := GM.of (by decide) (Nat.le_of_ble_eq_true rfl) (ih hL _ _ _ _ _ _ _ H)
set_option maxHeartbeats 4000000 in
set_option maxRecDepth 20000 in
theorem t_X12_taken_0 {l : Launch} {Z : XZ} {L : Nat → Nat} (n : Nat) (ih_X12_taken_0 : P_X12_taken_0 l Z L n) : P_X12_taken_0 l Z L (n + 1) := by
  intro hL d S a1 a2 a3 x S1 H
  have H : b_X12_taken_0 n d (f_X12_taken n) S a1 a2 a3 = some (x, S1) := H
  unfold b_X12_taken_0 at H
  refine GA.aload_n dX12_taken_0 rfl ?_
  refine GA.iload_n dX12_taken_1 rfl ?_
  obtain ⟨hg1, H⟩ := gg_e H
  obtain ⟨x2, S_3, hc4, H⟩ := gc_e H
  refine GA.callV (m_X12_begin hL hc4) xs_X12_517 dX12_taken_2 (gs_500 hL) (by decide) rfl rfl (by omega) (by decide) rfl (Nat.le_of_ble_eq_true rfl) (by omega) (by omega) rfl (fun E S9 hx => hx.elim) (fun v S9 hq => ?_)
  obtain ⟨rfl, rfl⟩ := hq
  refine GA.aload_n dX12_taken_5 rfl ?_
  refine GA.iload_n dX12_taken_6 rfl ?_
  refine GA.iload_n dX12_taken_7 rfl ?_
  refine GA.iconst dX12_taken_8 ?_
  refine GA.iload_n dX12_taken_9 rfl ?_
  obtain ⟨x5, S_6, hc7, H⟩ := gc_e H
  refine GA.callV (m_X12_copies hL hc7) xs_X12_598 dX12_taken_10 (gs_500 hL) (by decide) rfl rfl (by omega) (by decide) rfl (Nat.le_of_ble_eq_true rfl) (by omega) (by omega) rfl (fun E S9 hx => hx.elim) (fun v S9 hq => ?_)
  obtain ⟨rfl, rfl⟩ := hq
  refine GA.aload_n dX12_taken_13 rfl ?_
  refine GA.iload_n dX12_taken_14 rfl ?_
  refine GA.iload_n dX12_taken_15 rfl ?_
  refine GA.aload_n dX12_taken_16 rfl ?_
  refine GA.iload_n dX12_taken_17 rfl ?_
  refine GA.iload_n dX12_taken_18 rfl ?_
  obtain ⟨x8, S_9, hc10, H⟩ := gc_e H
  refine GA.callV (m_X12_endOf hL hc10) xs_X12_49 dX12_taken_19 (gs_500 hL) (by decide) rfl rfl (by omega) (by decide) rfl (Nat.le_of_ble_eq_true rfl) (by omega) (by omega) rfl (fun E S9 hx => hx.elim) (fun v S9 hq => ?_)
  obtain ⟨rfl, rfl⟩ := hq
  refine GA.aload_n dX12_taken_22 rfl ?_
  refine GA.get xf_X12_26 dX12_taken_23 (gs_500 hL) (by decide) rfl ?_
  refine GA.iload_n dX12_taken_26 rfl ?_
  obtain ⟨hg11, H⟩ := gg_e H
  obtain ⟨x12, hx13, H⟩ := gv_e H
  refine GV.iald hg11 hx13 dX12_taken_27 (gs_502 hL) (by decide) ?_
  obtain ⟨x14, S_15, hc16, H⟩ := gc_e H
  refine GA.callV (m_X12_copies hL hc16) xs_X12_598 dX12_taken_28 (gs_500 hL) (by decide) rfl rfl (by omega) (by decide) rfl (Nat.le_of_ble_eq_true rfl) (by omega) (by omega) rfl (fun E S9 hx => hx.elim) (fun v S9 hq => ?_)
  obtain ⟨rfl, rfl⟩ := hq
  refine GA.aload_n dX12_taken_31 rfl ?_
  refine GA.get xf_X12_7 dX12_taken_32 (gs_500 hL) (by decide) rfl ?_
  refine GA.iload_n dX12_taken_35 rfl ?_
  refine GA.aload_n dX12_taken_36 rfl ?_
  refine GA.iload_n dX12_taken_37 rfl ?_
  refine GA.iload_n dX12_taken_38 rfl ?_
  refine GA.iconst dX12_taken_39 ?_
  obtain ⟨x17, S_18, hc19, H⟩ := gc_e H
  refine GA.callV (m_X12_part hL hc19) xs_X12_36 dX12_taken_40 (gs_500 hL) (by decide) rfl rfl (by omega) (by decide) rfl (Nat.le_of_ble_eq_true rfl) (by omega) (by omega) rfl (fun E S9 hx => hx.elim) (fun v S9 hq => ?_)
  obtain ⟨rfl, rfl⟩ := hq
  obtain ⟨x20, S_21, hc22, H⟩ := gc_e H
  refine GA.callS (m_X12_at hL hc22) xs_X12_11 dX12_taken_43 rfl (by omega) (by decide) rfl (Nat.le_of_ble_eq_true rfl) (by omega) (by omega) rfl (fun E S9 hx => hx.elim) (fun v S9 hq => ?_)
  obtain ⟨rfl, rfl⟩ := hq
  refine GA.iconst dX12_taken_46 ?_
  obtain ⟨x23, hx24, H⟩ := gv_e H
  refine GV.iadd hx24 dX12_taken_47 ?_
  refine GA.dup2 dX12_taken_48 rfl rfl ?_
  obtain ⟨hg25, H⟩ := gg_e H
  obtain ⟨x26, hx27, H⟩ := gv_e H
  refine GV.iald hg25 hx27 dX12_taken_49 (gs_501 hL) (by decide) ?_
  refine GA.iconst dX12_taken_50 ?_
  obtain ⟨x28, hx29, H⟩ := gv_e H
  refine GV.isub hx29 dX12_taken_51 ?_
  obtain ⟨S_30, hx31, H⟩ := gv_e H
  refine GV.iast hg25 hx31 dX12_taken_52 (fun _ => (gs_501 hL)) (by decide) ?_
  cases H
  exact GA.vret rfl dX12_taken_53 (by omega) (by omega) ⟨rfl, rfl⟩
theorem g_X12_taken {l : Launch} {Z : XZ} {L : Nat → Nat} : ∀ n, P_X12_taken_0 l Z L n
  | 0 => fun _ _ _ _ _ _ _ _ H => no_e H
  | n + 1 => t_X12_taken_0 n (g_X12_taken n)
theorem m_X12_taken {l : Launch} {Z : XZ} {L : Nat → Nat} (hL : L 700 = 1) {n d : Nat} {S : GS} {a1 : Int} {a2 : Int} {a3 : Int} {x : Int} {S1 : GS} (H : f_X12_taken n d 0 S [a1, a2, a3] = some (x, S1)) : GM l Z L yX12_taken cX12_taken 4 none [] d 0 0 [.ref (L 500), .int (J a1), .int (J a2), .int (J a3)] S (fun v S' => v = none ∧ S1 = S') (fun _ _ => False) := GM.of (by decide) (Nat.le_of_ble_eq_true rfl) ((g_X12_taken n) hL _ _ _ _ _ _ _ H)

def P_X12_canCut_0 (l : Launch) (Z : XZ) (L : Nat → Nat) (n : Nat) : Prop := ∀ (hL : L 700 = 1), ∀ (d : Nat) (S : GS) (a1 : Int) (a2 : Int) (x : Int) (S1 : GS), f_X12_canCut n d 0 S [a1, a2] = some (x, S1) → GA l Z L yX12_canCut cX12_canCut 4 (some .boolean) [] d 0 0 (fun v S' => v = some (.int (J x)) ∧ S1 = S') (fun _ _ => False) 0 (gl [(0, .ref (L 500)), (1, .int (J a1)), (2, .int (J a2))]) [] S 0 0
theorem i_X12_canCut {l : Launch} {Z : XZ} {L : Nat → Nat} (hL : L 700 = 1) {n : Nat} (ih : P_X12_canCut_0 l Z L n) {d : Nat} {S : GS} {a1 : Int} {a2 : Int} {x : Int} {S1 : GS} (H : f_X12_canCut n d 0 S [a1, a2] = some (x, S1)) : GM l Z L yX12_canCut cX12_canCut 4 (some .boolean) [] d 0 0 [.ref (L 500), .int (J a1), .int (J a2)] S (fun v S' => v = some (.int (J x)) ∧ S1 = S') (fun _ _ => False) := GM.of (by decide) (Nat.le_of_ble_eq_true rfl) (ih hL _ _ _ _ _ _ H)
set_option maxHeartbeats 4000000 in
set_option maxRecDepth 20000 in
theorem t_X12_canCut_0 {l : Launch} {Z : XZ} {L : Nat → Nat} (n : Nat) (ih_X12_canCut_0 : P_X12_canCut_0 l Z L n) : P_X12_canCut_0 l Z L (n + 1) := by
  intro hL d S a1 a2 x S1 H
  have H : b_X12_canCut_0 n d (f_X12_canCut n) S a1 a2 = some (x, S1) := H
  unfold b_X12_canCut_0 at H
  refine GA.aload_n dX12_canCut_0 rfl ?_
  obtain ⟨x1, hx2, H⟩ := gv_e H
  refine GV.getI hx2 xf_X12_604 dX12_canCut_1 (gs_500 hL) (by decide) rfl ?_
  obtain ⟨hg3, H⟩ := gg_e H
  refine GV.if_ne (tgt := 9) hg3 dX12_canCut_4 (by decide) (fun c4 => ?_) (fun c4 => ?_)
  · have H := it_t H c4
    refine GA.aload_n dX12_canCut_9 rfl ?_
    refine GA.iload_n dX12_canCut_10 rfl ?_
    refine GA.aload_n dX12_canCut_11 rfl ?_
    obtain ⟨x5, hx6, H⟩ := gv_e H
    refine GV.getI hx6 xf_X12_604 dX12_canCut_12 (gs_500 hL) (by decide) rfl ?_
    obtain ⟨hg7, H⟩ := gg_e H
    obtain ⟨x8, S_9, hc10, H⟩ := gc_e H
    refine GA.callV (m_X12_plain hL hc10) xs_X12_663 dX12_canCut_15 (gs_500 hL) (by decide) rfl rfl (by omega) (by decide) rfl (Nat.le_of_ble_eq_true rfl) (by omega) (by omega) rfl (fun E S9 hx => hx.elim) (fun v S9 hq => ?_)
    obtain ⟨rfl, rfl⟩ := hq
    refine GA.istore_n dX12_canCut_18 (by decide) ?_
    refine GA.iload_n dX12_canCut_19 rfl ?_
    refine GA.iconst dX12_canCut_20 ?_
    obtain ⟨hg11, H⟩ := gg_e H
    refine GV.icmp_ne (tgt := 26) hg11 (by decide) dX12_canCut_21 (by decide) (fun c12 => ?_) (fun c12 => ?_)
    · have H := it_t H c12
      refine GA.aload_n dX12_canCut_26 rfl ?_
      refine GA.iload_n dX12_canCut_27 rfl ?_
      refine GA.iload_n dX12_canCut_28 rfl ?_
      refine GA.iload_n dX12_canCut_29 rfl ?_
      obtain ⟨x13, S_14, hc15, H⟩ := gc_e H
      refine GA.callV (m_X12_taken hL hc15) xs_X12_670 dX12_canCut_30 (gs_500 hL) (by decide) rfl rfl (by omega) (by decide) rfl (Nat.le_of_ble_eq_true rfl) (by omega) (by omega) rfl (fun E S9 hx => hx.elim) (fun v S9 hq => ?_)
      obtain ⟨rfl, rfl⟩ := hq
      refine GA.aload_n dX12_canCut_33 rfl ?_
      refine GA.iload_n dX12_canCut_34 rfl ?_
      obtain ⟨x16, S_17, hc18, H⟩ := gc_e H
      refine GA.callV (m_X12_link hL hc18) xs_X12_55 dX12_canCut_35 (gs_500 hL) (by decide) rfl rfl (by omega) (by decide) rfl (Nat.le_of_ble_eq_true rfl) (by omega) (by omega) rfl (fun E S9 hx => hx.elim) (fun v S9 hq => ?_)
      obtain ⟨rfl, rfl⟩ := hq
      refine GA.iconst dX12_canCut_38 ?_
      cases H
      exact GV.zret (by decide) rfl dX12_canCut_39 (by omega) (by omega) ⟨rfl, rfl⟩
    · have H := it_f H c12
      refine GA.iconst dX12_canCut_24 ?_
      cases H
      exact GV.zret (by decide) rfl dX12_canCut_25 (by omega) (by omega) ⟨rfl, rfl⟩
  · have H := it_f H c4
    refine GA.iconst dX12_canCut_7 ?_
    cases H
    exact GV.zret (by decide) rfl dX12_canCut_8 (by omega) (by omega) ⟨rfl, rfl⟩
theorem g_X12_canCut {l : Launch} {Z : XZ} {L : Nat → Nat} : ∀ n, P_X12_canCut_0 l Z L n
  | 0 => fun _ _ _ _ _ _ _ H => no_e H
  | n + 1 => t_X12_canCut_0 n (g_X12_canCut n)
theorem m_X12_canCut {l : Launch} {Z : XZ} {L : Nat → Nat} (hL : L 700 = 1) {n d : Nat} {S : GS} {a1 : Int} {a2 : Int} {x : Int} {S1 : GS} (H : f_X12_canCut n d 0 S [a1, a2] = some (x, S1)) : GM l Z L yX12_canCut cX12_canCut 4 (some .boolean) [] d 0 0 [.ref (L 500), .int (J a1), .int (J a2)] S (fun v S' => v = some (.int (J x)) ∧ S1 = S') (fun _ _ => False) := GM.of (by decide) (Nat.le_of_ble_eq_true rfl) ((g_X12_canCut n) hL _ _ _ _ _ _ H)

def P_X12_lastStep_0 (l : Launch) (Z : XZ) (L : Nat → Nat) (n : Nat) : Prop := ∀ (hL : L 700 = 1), ∀ (d : Nat) (S : GS) (x : Int) (S1 : GS), f_X12_lastStep n d 0 S [] = some (x, S1) → GA l Z L yX12_lastStep cX12_lastStep 2 (some .int) [] d 0 0 (fun v S' => v = some (.int (J x)) ∧ S1 = S') (fun _ _ => False) 0 (gl [(0, .ref (L 500))]) [] S 0 0
def P_X12_lastStep_7 (l : Launch) (Z : XZ) (L : Nat → Nat) (n : Nat) : Prop := ∀ (hL : L 700 = 1), ∀ (d : Nat) (S : GS) (a1 : Int) (x : Int) (S1 : GS), f_X12_lastStep n d 7 S [a1] = some (x, S1) → GA l Z L yX12_lastStep cX12_lastStep 2 (some .int) [] d 0 0 (fun v S' => v = some (.int (J x)) ∧ S1 = S') (fun _ _ => False) 7 (gl [(0, .ref (L 500)), (1, .int (J a1))]) [] S 0 0
theorem i_X12_lastStep {l : Launch} {Z : XZ} {L : Nat → Nat} (hL : L 700 = 1) {n : Nat} (ih : P_X12_lastStep_0 l Z L n) {d : Nat} {S : GS} {x : Int} {S1 : GS} (H : f_X12_lastStep n d 0 S [] = some (x, S1)) : GM l Z L yX12_lastStep cX12_lastStep 2 (some .int) [] d 0 0 [.ref (L 500)] S (fun v S' => v = some (.int (J x)) ∧ S1 = S') (fun _ _ => False) := GM.of (by decide) (Nat.le_of_ble_eq_true rfl) (ih hL _ _ _ _ H)
set_option maxHeartbeats 4000000 in
set_option maxRecDepth 20000 in
theorem t_X12_lastStep_0 {l : Launch} {Z : XZ} {L : Nat → Nat} (n : Nat) (ih_X12_lastStep_0 : P_X12_lastStep_0 l Z L n) (ih_X12_lastStep_7 : P_X12_lastStep_7 l Z L n) : P_X12_lastStep_0 l Z L (n + 1) := by
  intro hL d S  x S1 H
  have H : b_X12_lastStep_0 n d (f_X12_lastStep n) S  = some (x, S1) := H
  unfold b_X12_lastStep_0 at H
  refine GA.aload_n dX12_lastStep_0 rfl ?_
  obtain ⟨x1, hx2, H⟩ := gv_e H
  refine GV.getI hx2 xf_X12_604 dX12_lastStep_1 (gs_500 hL) (by decide) rfl ?_
  refine GA.iconst dX12_lastStep_4 ?_
  obtain ⟨x3, hx4, H⟩ := gv_e H
  refine GV.isub hx4 dX12_lastStep_5 ?_
  refine GA.istore_n dX12_lastStep_6 (by decide) ?_
  refine GA.locals [(0, .ref (L 500)), (1, .int (J x3))] ⟨rfl, rfl, trivial⟩ ?_
  exact ih_X12_lastStep_7 hL _ _ (x3) _ _ H
set_option maxHeartbeats 4000000 in
set_option maxRecDepth 20000 in
theorem t_X12_lastStep_7 {l : Launch} {Z : XZ} {L : Nat → Nat} (n : Nat) (ih_X12_lastStep_0 : P_X12_lastStep_0 l Z L n) (ih_X12_lastStep_7 : P_X12_lastStep_7 l Z L n) : P_X12_lastStep_7 l Z L (n + 1) := by
  intro hL d S a1 x S1 H
  have H : b_X12_lastStep_7 n d (f_X12_lastStep n) S a1 = some (x, S1) := H
  unfold b_X12_lastStep_7 at H
  refine GA.aload_n dX12_lastStep_7 rfl ?_
  refine GA.get xf_X12_275 dX12_lastStep_8 (gs_500 hL) (by decide) rfl ?_
  refine GA.iload_n dX12_lastStep_11 rfl ?_
  obtain ⟨hg1, H⟩ := gg_e H
  obtain ⟨x2, hx3, H⟩ := gv_e H
  refine GV.iald hg1 hx3 dX12_lastStep_12 (gs_518 hL) (by decide) ?_
  refine GA.bipush dX12_lastStep_13 rfl ?_
  obtain ⟨hg4, H⟩ := gg_e H
  refine GV.icmp_eq (tgt := 24) hg4 (by decide) dX12_lastStep_15 (by decide) (fun c5 => ?_) (fun c5 => ?_)
  · have H := it_t H c5
    refine GA.iload_n dX12_lastStep_24 rfl ?_
    cases H
    exact GA.iret rfl dX12_lastStep_25 (by omega) (by omega) ⟨rfl, rfl⟩
  · have H := it_f H c5
    obtain ⟨x6, hx7, H⟩ := gv_e H
    refine GV.iinc hx7 dX12_lastStep_18 rfl (by decide) ?_
    refine GA.goto (tgt := 7) dX12_lastStep_21 (by decide) ?_
    refine GA.locals [(0, .ref (L 500)), (1, .int (J x6))] ⟨rfl, rfl, trivial⟩ ?_
    exact ih_X12_lastStep_7 hL _ _ (x6) _ _ H
theorem g_X12_lastStep {l : Launch} {Z : XZ} {L : Nat → Nat} : ∀ n, P_X12_lastStep_0 l Z L n ∧ P_X12_lastStep_7 l Z L n
  | 0 => ⟨fun _ _ _ _ _ H => no_e H, fun _ _ _ _ _ _ H => no_e H⟩
  | n + 1 => have ⟨h0, h1⟩ := g_X12_lastStep (l := l) (Z := Z) (L := L) n
    ⟨t_X12_lastStep_0 n h0 h1, t_X12_lastStep_7 n h0 h1⟩
theorem m_X12_lastStep {l : Launch} {Z : XZ} {L : Nat → Nat} (hL : L 700 = 1) {n d : Nat} {S : GS} {x : Int} {S1 : GS} (H : f_X12_lastStep n d 0 S [] = some (x, S1)) : GM l Z L yX12_lastStep cX12_lastStep 2 (some .int) [] d 0 0 [.ref (L 500)] S (fun v S' => v = some (.int (J x)) ∧ S1 = S') (fun _ _ => False) := GM.of (by decide) (Nat.le_of_ble_eq_true rfl) ((g_X12_lastStep n).1 hL _ _ _ _ H)

def P_X12_wordOfKey_0 (l : Launch) (Z : XZ) (L : Nat → Nat) (n : Nat) : Prop := ∀ (hL : L 700 = 1), ∀ (d : Nat) (S : GS) (a1 : Int) (a2 : Int) (x : Int) (S1 : GS), f_X12_wordOfKey n d 0 S [a1, a2] = some (x, S1) → GA l Z L yX12_wordOfKey cX12_wordOfKey 4 none [] d 0 0 (fun v S' => v = none ∧ S1 = S') (fun _ _ => False) 0 (gl [(0, .ref (L 500)), (1, .int (J a1)), (2, .int (J a2))]) [] S 0 0
def P_X12_wordOfKey_13 (l : Launch) (Z : XZ) (L : Nat → Nat) (n : Nat) : Prop := ∀ (hL : L 700 = 1), ∀ (d : Nat) (S : GS) (a1 : Int) (a2 : Int) (a3 : Int) (x : Int) (S1 : GS), f_X12_wordOfKey n d 13 S [a1, a2, a3] = some (x, S1) → GA l Z L yX12_wordOfKey cX12_wordOfKey 4 none [] d 0 0 (fun v S' => v = none ∧ S1 = S') (fun _ _ => False) 13 (gl [(0, .ref (L 500)), (1, .int (J a1)), (2, .int (J a2)), (3, .int (J a3))]) [] S 0 0
theorem i_X12_wordOfKey {l : Launch} {Z : XZ} {L : Nat → Nat} (hL : L 700 = 1) {n : Nat} (ih : P_X12_wordOfKey_0 l Z L n) {d : Nat} {S : GS} {a1 : Int} {a2 : Int} {x : Int} {S1 : GS} (H : f_X12_wordOfKey n d 0 S [a1, a2] = some (x, S1)) : GM l Z L yX12_wordOfKey cX12_wordOfKey 4 none [] d 0 0 [.ref (L 500), .int (J a1), .int (J a2)] S (fun v S' => v = none ∧ S1 = S') (fun _ _ => False) := GM.of (by decide) (Nat.le_of_ble_eq_true rfl) (ih hL _ _ _ _ _ _ H)
set_option maxHeartbeats 4000000 in
set_option maxRecDepth 20000 in
theorem t_X12_wordOfKey_0 {l : Launch} {Z : XZ} {L : Nat → Nat} (n : Nat) (ih_X12_wordOfKey_0 : P_X12_wordOfKey_0 l Z L n) (ih_X12_wordOfKey_13 : P_X12_wordOfKey_13 l Z L n) : P_X12_wordOfKey_0 l Z L (n + 1) := by
  intro hL d S a1 a2 x S1 H
  have H : b_X12_wordOfKey_0 n d (f_X12_wordOfKey n) S a1 a2 = some (x, S1) := H
  unfold b_X12_wordOfKey_0 at H
  refine GA.aload_n dX12_wordOfKey_0 rfl ?_
  refine GA.aload_n dX12_wordOfKey_1 rfl ?_
  refine GA.iload_n dX12_wordOfKey_2 rfl ?_
  refine GA.iload_n dX12_wordOfKey_3 rfl ?_
  refine GA.iconst dX12_wordOfKey_4 ?_
  obtain ⟨hg1, H⟩ := gg_e H
  obtain ⟨x2, S_3, hc4, H⟩ := gc_e H
  refine GA.callV (m_X12_part hL hc4) xs_X12_36 dX12_wordOfKey_5 (gs_500 hL) (by decide) rfl rfl (by omega) (by decide) rfl (Nat.le_of_ble_eq_true rfl) (by omega) (by omega) rfl (fun E S9 hx => hx.elim) (fun v S9 hq => ?_)
  obtain ⟨rfl, rfl⟩ := hq
  obtain ⟨S_5, hx6, H⟩ := gv_e H
  refine GV.putI hx6 (xp_X12_66 _) dX12_wordOfKey_8 (gs_500 hL) (by decide) (Nat.le_of_ble_eq_true rfl) (gs_500 hL) ?_
  refine GA.iconst dX12_wordOfKey_11 ?_
  refine GA.istore_n dX12_wordOfKey_12 (by decide) ?_
  refine GA.locals [(0, .ref (L 500)), (1, .int (J a1)), (2, .int (J a2)), (3, .int (J 0))] ⟨rfl, rfl, rfl, rfl, trivial⟩ ?_
  exact ih_X12_wordOfKey_13 hL _ _ (a1) (a2) (0) _ _ H
set_option maxHeartbeats 4000000 in
set_option maxRecDepth 20000 in
theorem t_X12_wordOfKey_13 {l : Launch} {Z : XZ} {L : Nat → Nat} (n : Nat) (ih_X12_wordOfKey_0 : P_X12_wordOfKey_0 l Z L n) (ih_X12_wordOfKey_13 : P_X12_wordOfKey_13 l Z L n) : P_X12_wordOfKey_13 l Z L (n + 1) := by
  intro hL d S a1 a2 a3 x S1 H
  have H : b_X12_wordOfKey_13 n d (f_X12_wordOfKey n) S a1 a2 a3 = some (x, S1) := H
  unfold b_X12_wordOfKey_13 at H
  refine GA.iload_n dX12_wordOfKey_13 rfl ?_
  refine GA.aload_n dX12_wordOfKey_14 rfl ?_
  obtain ⟨x1, hx2, H⟩ := gv_e H
  refine GV.getI hx2 xf_X12_66 dX12_wordOfKey_15 (gs_500 hL) (by decide) rfl ?_
  obtain ⟨hg3, H⟩ := gg_e H
  obtain ⟨hg4, H⟩ := gg_e H
  refine GV.icmp_ge (tgt := 43) hg3 hg4 dX12_wordOfKey_18 (by decide) (fun c5 => ?_) (fun c5 => ?_)
  · have H := it_t H c5
    cases H
    exact GA.vret rfl dX12_wordOfKey_43 (by omega) (by omega) ⟨rfl, rfl⟩
  · have H := it_f H c5
    refine GA.aload_n dX12_wordOfKey_21 rfl ?_
    refine GA.get xf_X12_69 dX12_wordOfKey_22 (gs_500 hL) (by decide) rfl ?_
    refine GA.iload_n dX12_wordOfKey_25 rfl ?_
    refine GA.aload_n dX12_wordOfKey_26 rfl ?_
    refine GA.iload_n dX12_wordOfKey_27 rfl ?_
    refine GA.iload_n dX12_wordOfKey_28 rfl ?_
    refine GA.bipush dX12_wordOfKey_29 rfl ?_
    refine GA.iload_n dX12_wordOfKey_31 rfl ?_
    obtain ⟨x6, hx7, H⟩ := gv_e H
    refine GV.iadd hx7 dX12_wordOfKey_32 ?_
    obtain ⟨hg8, H⟩ := gg_e H
    obtain ⟨x9, S_10, hc11, H⟩ := gc_e H
    refine GA.callV (m_X12_part hL hc11) xs_X12_36 dX12_wordOfKey_33 (gs_500 hL) (by decide) rfl rfl (by omega) (by decide) rfl (Nat.le_of_ble_eq_true rfl) (by omega) (by omega) rfl (fun E S9 hx => hx.elim) (fun v S9 hq => ?_)
    obtain ⟨rfl, rfl⟩ := hq
    obtain ⟨hg12, H⟩ := gg_e H
    obtain ⟨S_13, hx14, H⟩ := gv_e H
    refine GV.iast hg12 hx14 dX12_wordOfKey_36 (fun _ => (gs_507 hL)) (by decide) ?_
    obtain ⟨x15, hx16, H⟩ := gv_e H
    refine GV.iinc hx16 dX12_wordOfKey_37 rfl (by decide) ?_
    refine GA.goto (tgt := 13) dX12_wordOfKey_40 (by decide) ?_
    refine GA.locals [(0, .ref (L 500)), (1, .int (J a1)), (2, .int (J a2)), (3, .int (J x15))] ⟨rfl, rfl, rfl, rfl, trivial⟩ ?_
    exact ih_X12_wordOfKey_13 hL _ _ (a1) (a2) (x15) _ _ H
theorem g_X12_wordOfKey {l : Launch} {Z : XZ} {L : Nat → Nat} : ∀ n, P_X12_wordOfKey_0 l Z L n ∧ P_X12_wordOfKey_13 l Z L n
  | 0 => ⟨fun _ _ _ _ _ _ _ H => no_e H, fun _ _ _ _ _ _ _ _ H => no_e H⟩
  | n + 1 => have ⟨h0, h1⟩ := g_X12_wordOfKey (l := l) (Z := Z) (L := L) n
    ⟨t_X12_wordOfKey_0 n h0 h1, t_X12_wordOfKey_13 n h0 h1⟩
theorem m_X12_wordOfKey {l : Launch} {Z : XZ} {L : Nat → Nat} (hL : L 700 = 1) {n d : Nat} {S : GS} {a1 : Int} {a2 : Int} {x : Int} {S1 : GS} (H : f_X12_wordOfKey n d 0 S [a1, a2] = some (x, S1)) : GM l Z L yX12_wordOfKey cX12_wordOfKey 4 none [] d 0 0 [.ref (L 500), .int (J a1), .int (J a2)] S (fun v S' => v = none ∧ S1 = S') (fun _ _ => False) := GM.of (by decide) (Nat.le_of_ble_eq_true rfl) ((g_X12_wordOfKey n).1 hL _ _ _ _ _ _ H)

def P_X12_replaced_0 (l : Launch) (Z : XZ) (L : Nat → Nat) (n : Nat) : Prop := ∀ (hL : L 700 = 1), ∀ (d : Nat) (S : GS) (a1 : Int) (a2 : Int) (a3 : Int) (a4 : Int) (a5 : Int) (x : Int) (S1 : GS), f_X12_replaced n d 0 S [a1, a2, a3, a4, a5] = some (x, S1) → GA l Z L yX12_replaced cX12_replaced 6 none [] d 0 0 (fun v S' => v = none ∧ S1 = S') (fun _ _ => False) 0 (gl [(0, .ref (L 500)), (1, .int (J a1)), (2, .int (J a2)), (3, .int (J a3)), (4, .int (J a4)), (5, .int (J a5))]) [] S 0 0
def P_X12_replaced_60 (l : Launch) (Z : XZ) (L : Nat → Nat) (n : Nat) : Prop := ∀ (hL : L 700 = 1), ∀ (d : Nat) (S : GS) (a1 : Int) (a2 : Int) (a3 : Int) (s0 : Int) (s1 : Int) (s2 : Int) (s3 : Int) (x : Int) (S1 : GS), f_X12_replaced n d 60 S [a1, a2, a3, s0, s1, s2, s3] = some (x, S1) → GA l Z L yX12_replaced cX12_replaced 6 none [] d 0 0 (fun v S' => v = none ∧ S1 = S') (fun _ _ => False) 60 (gl [(0, .ref (L 500)), (1, .int (J a1)), (2, .int (J a2)), (3, .int (J a3))]) [.int (J s0), .int (J s1), .int (J s2), .int (J s3), .ref (L 500)] S 0 0
theorem i_X12_replaced {l : Launch} {Z : XZ} {L : Nat → Nat} (hL : L 700 = 1) {n : Nat} (ih : P_X12_replaced_0 l Z L n) {d : Nat} {S : GS} {a1 : Int} {a2 : Int} {a3 : Int} {a4 : Int} {a5 : Int} {x : Int} {S1 : GS} (H : f_X12_replaced n d 0 S [a1, a2, a3, a4, a5] = some (x, S1)) : GM l Z L yX12_replaced cX12_replaced 6 none [] d 0 0 [.ref (L 500), .int (J a1), .int (J a2), .int (J a3), .int (J a4), .int (J a5)] S (fun v S' => v = none ∧ S1 = S') (fun _ _ => False) := GM.of (by decide) (Nat.le_of_ble_eq_true rfl) (ih hL _ _ _ _ _ _ _ _ _ H)
set_option maxHeartbeats 4000000 in
set_option maxRecDepth 20000 in
theorem t_X12_replaced_0 {l : Launch} {Z : XZ} {L : Nat → Nat} (n : Nat) (ih_X12_replaced_0 : P_X12_replaced_0 l Z L n) (ih_X12_replaced_60 : P_X12_replaced_60 l Z L n) : P_X12_replaced_0 l Z L (n + 1) := by
  intro hL d S a1 a2 a3 a4 a5 x S1 H
  have H : b_X12_replaced_0 n d (f_X12_replaced n) S a1 a2 a3 a4 a5 = some (x, S1) := H
  unfold b_X12_replaced_0 at H
  refine GA.aload_n dX12_replaced_0 rfl ?_
  refine GA.iload_n dX12_replaced_1 rfl ?_
  refine GA.iload_n dX12_replaced_2 rfl ?_
  obtain ⟨hg1, H⟩ := gg_e H
  obtain ⟨x2, S_3, hc4, H⟩ := gc_e H
  refine GA.callV (m_X12_wordOfKey hL hc4) xs_X12_653 dX12_replaced_3 (gs_500 hL) (by decide) rfl rfl (by omega) (by decide) rfl (Nat.le_of_ble_eq_true rfl) (by omega) (by omega) rfl (fun E S9 hx => hx.elim) (fun v S9 hq => ?_)
  obtain ⟨rfl, rfl⟩ := hq
  refine GA.aload_n dX12_replaced_6 rfl ?_
  refine GA.iload_n dX12_replaced_7 rfl ?_
  obtain ⟨x5, S_6, hc7, H⟩ := gc_e H
  refine GA.callV (m_X12_begin hL hc7) xs_X12_517 dX12_replaced_8 (gs_500 hL) (by decide) rfl rfl (by omega) (by decide) rfl (Nat.le_of_ble_eq_true rfl) (by omega) (by omega) rfl (fun E S9 hx => hx.elim) (fun v S9 hq => ?_)
  obtain ⟨rfl, rfl⟩ := hq
  refine GA.aload_n dX12_replaced_11 rfl ?_
  refine GA.iload_n dX12_replaced_12 rfl ?_
  refine GA.iload_n dX12_replaced_13 rfl ?_
  refine GA.iconst dX12_replaced_14 ?_
  refine GA.iload_n dX12_replaced_15 rfl ?_
  obtain ⟨x8, S_9, hc10, H⟩ := gc_e H
  refine GA.callV (m_X12_copies hL hc10) xs_X12_598 dX12_replaced_16 (gs_500 hL) (by decide) rfl rfl (by omega) (by decide) rfl (Nat.le_of_ble_eq_true rfl) (by omega) (by omega) rfl (fun E S9 hx => hx.elim) (fun v S9 hq => ?_)
  obtain ⟨rfl, rfl⟩ := hq
  refine GA.aload_n dX12_replaced_19 rfl ?_
  refine GA.iload_n dX12_replaced_20 rfl ?_
  refine GA.iload dX12_replaced_21 rfl ?_
  refine GA.iload dX12_replaced_23 rfl ?_
  refine GA.aload_n dX12_replaced_25 rfl ?_
  refine GA.iload_n dX12_replaced_26 rfl ?_
  refine GA.iload_n dX12_replaced_27 rfl ?_
  refine GA.iconst dX12_replaced_28 ?_
  obtain ⟨x11, S_12, hc13, H⟩ := gc_e H
  refine GA.callV (m_X12_part hL hc13) xs_X12_36 dX12_replaced_29 (gs_500 hL) (by decide) rfl rfl (by omega) (by decide) rfl (Nat.le_of_ble_eq_true rfl) (by omega) (by omega) rfl (fun E S9 hx => hx.elim) (fun v S9 hq => ?_)
  obtain ⟨rfl, rfl⟩ := hq
  obtain ⟨hg14, H⟩ := gg_e H
  refine GV.if_gt (tgt := 55) hg14 dX12_replaced_32 (by decide) (fun c15 => ?_) (fun c15 => ?_)
  · have H := it_t H c15
    refine GA.iconst dX12_replaced_55 ?_
    refine GA.goto (tgt := 60) dX12_replaced_56 (by decide) ?_
    refine GA.locals [(0, .ref (L 500)), (1, .int (J a1)), (2, .int (J a2)), (3, .int (J a3))] ⟨rfl, rfl, rfl, rfl, trivial⟩ ?_
    exact ih_X12_replaced_60 hL _ _ (a1) (a2) (a3) (1) (a5) (a4) (a1) _ _ H
  · have H := it_f H c15
    refine GA.iload_n dX12_replaced_35 rfl ?_
    obtain ⟨hg16, H⟩ := gg_e H
    refine GV.if_le (tgt := 59) hg16 dX12_replaced_36 (by decide) (fun c17 => ?_) (fun c17 => ?_)
    · have H := it_t H c17
      refine GA.iconst dX12_replaced_59 ?_
      refine GA.locals [(0, .ref (L 500)), (1, .int (J a1)), (2, .int (J a2)), (3, .int (J a3))] ⟨rfl, rfl, rfl, rfl, trivial⟩ ?_
      exact ih_X12_replaced_60 hL _ _ (a1) (a2) (a3) (0) (a5) (a4) (a1) _ _ H
    · have H := it_f H c17
      refine GA.aload_n dX12_replaced_39 rfl ?_
      refine GA.iload_n dX12_replaced_40 rfl ?_
      refine GA.aload_n dX12_replaced_41 rfl ?_
      refine GA.iload_n dX12_replaced_42 rfl ?_
      refine GA.iload_n dX12_replaced_43 rfl ?_
      refine GA.iconst dX12_replaced_44 ?_
      obtain ⟨x18, S_19, hc20, H⟩ := gc_e H
      refine GA.callV (m_X12_part hL hc20) xs_X12_36 dX12_replaced_45 (gs_500 hL) (by decide) rfl rfl (by omega) (by decide) rfl (Nat.le_of_ble_eq_true rfl) (by omega) (by omega) rfl (fun E S9 hx => hx.elim) (fun v S9 hq => ?_)
      obtain ⟨rfl, rfl⟩ := hq
      obtain ⟨x21, S_22, hc23, H⟩ := gc_e H
      refine GA.callV (m_X12_kind hL hc23) xs_X12_52 dX12_replaced_48 (gs_500 hL) (by decide) rfl rfl (by omega) (by decide) rfl (Nat.le_of_ble_eq_true rfl) (by omega) (by omega) rfl (fun E S9 hx => hx.elim) (fun v S9 hq => ?_)
      obtain ⟨rfl, rfl⟩ := hq
      refine GA.iconst dX12_replaced_51 ?_
      obtain ⟨hg24, H⟩ := gg_e H
      refine GV.icmp_ne (tgt := 59) hg24 (by decide) dX12_replaced_52 (by decide) (fun c25 => ?_) (fun c25 => ?_)
      · have H := it_t H c25
        refine GA.iconst dX12_replaced_59 ?_
        refine GA.locals [(0, .ref (L 500)), (1, .int (J a1)), (2, .int (J a2)), (3, .int (J a3))] ⟨rfl, rfl, rfl, rfl, trivial⟩ ?_
        exact ih_X12_replaced_60 hL _ _ (a1) (a2) (a3) (0) (a5) (a4) (a1) _ _ H
      · have H := it_f H c25
        refine GA.iconst dX12_replaced_55 ?_
        refine GA.goto (tgt := 60) dX12_replaced_56 (by decide) ?_
        refine GA.locals [(0, .ref (L 500)), (1, .int (J a1)), (2, .int (J a2)), (3, .int (J a3))] ⟨rfl, rfl, rfl, rfl, trivial⟩ ?_
        exact ih_X12_replaced_60 hL _ _ (a1) (a2) (a3) (1) (a5) (a4) (a1) _ _ H
set_option maxHeartbeats 4000000 in
set_option maxRecDepth 20000 in
theorem t_X12_replaced_60 {l : Launch} {Z : XZ} {L : Nat → Nat} (n : Nat) (ih_X12_replaced_0 : P_X12_replaced_0 l Z L n) (ih_X12_replaced_60 : P_X12_replaced_60 l Z L n) : P_X12_replaced_60 l Z L (n + 1) := by
  intro hL d S a1 a2 a3 s0 s1 s2 s3 x S1 H
  have H : b_X12_replaced_60 n d (f_X12_replaced n) S a1 a2 a3 s0 s1 s2 s3 = some (x, S1) := H
  unfold b_X12_replaced_60 at H
  obtain ⟨hg1, H⟩ := gg_e H
  obtain ⟨x2, S_3, hc4, H⟩ := gc_e H
  refine GA.callV (m_X12_brings hL hc4) xs_X12_656 dX12_replaced_60 (gs_500 hL) (by decide) rfl rfl (by omega) (by decide) rfl (Nat.le_of_ble_eq_true rfl) (by omega) (by omega) rfl (fun E S9 hx => hx.elim) (fun v S9 hq => ?_)
  obtain ⟨rfl, rfl⟩ := hq
  refine GA.aload_n dX12_replaced_63 rfl ?_
  refine GA.iload_n dX12_replaced_64 rfl ?_
  refine GA.iload_n dX12_replaced_65 rfl ?_
  refine GA.aload_n dX12_replaced_66 rfl ?_
  refine GA.iload_n dX12_replaced_67 rfl ?_
  refine GA.iload_n dX12_replaced_68 rfl ?_
  obtain ⟨x5, S_6, hc7, H⟩ := gc_e H
  refine GA.callV (m_X12_endOf hL hc7) xs_X12_49 dX12_replaced_69 (gs_500 hL) (by decide) rfl rfl (by omega) (by decide) rfl (Nat.le_of_ble_eq_true rfl) (by omega) (by omega) rfl (fun E S9 hx => hx.elim) (fun v S9 hq => ?_)
  obtain ⟨rfl, rfl⟩ := hq
  refine GA.aload_n dX12_replaced_72 rfl ?_
  refine GA.get xf_X12_26 dX12_replaced_73 (gs_500 hL) (by decide) rfl ?_
  refine GA.iload_n dX12_replaced_76 rfl ?_
  obtain ⟨hg8, H⟩ := gg_e H
  obtain ⟨x9, hx10, H⟩ := gv_e H
  refine GV.iald hg8 hx10 dX12_replaced_77 (gs_502 hL) (by decide) ?_
  obtain ⟨x11, S_12, hc13, H⟩ := gc_e H
  refine GA.callV (m_X12_copies hL hc13) xs_X12_598 dX12_replaced_78 (gs_500 hL) (by decide) rfl rfl (by omega) (by decide) rfl (Nat.le_of_ble_eq_true rfl) (by omega) (by omega) rfl (fun E S9 hx => hx.elim) (fun v S9 hq => ?_)
  obtain ⟨rfl, rfl⟩ := hq
  cases H
  exact GA.vret rfl dX12_replaced_81 (by omega) (by omega) ⟨rfl, rfl⟩
theorem g_X12_replaced {l : Launch} {Z : XZ} {L : Nat → Nat} : ∀ n, P_X12_replaced_0 l Z L n ∧ P_X12_replaced_60 l Z L n
  | 0 => ⟨fun _ _ _ _ _ _ _ _ _ _ H => no_e H, fun _ _ _ _ _ _ _ _ _ _ _ _ H => no_e H⟩
  | n + 1 => have ⟨h0, h1⟩ := g_X12_replaced (l := l) (Z := Z) (L := L) n
    ⟨t_X12_replaced_0 n h0 h1, t_X12_replaced_60 n h0 h1⟩
theorem m_X12_replaced {l : Launch} {Z : XZ} {L : Nat → Nat} (hL : L 700 = 1) {n d : Nat} {S : GS} {a1 : Int} {a2 : Int} {a3 : Int} {a4 : Int} {a5 : Int} {x : Int} {S1 : GS} (H : f_X12_replaced n d 0 S [a1, a2, a3, a4, a5] = some (x, S1)) : GM l Z L yX12_replaced cX12_replaced 6 none [] d 0 0 [.ref (L 500), .int (J a1), .int (J a2), .int (J a3), .int (J a4), .int (J a5)] S (fun v S' => v = none ∧ S1 = S') (fun _ _ => False) := GM.of (by decide) (Nat.le_of_ble_eq_true rfl) ((g_X12_replaced n).1 hL _ _ _ _ _ _ _ _ _ H)

def P_X12_canPut_0 (l : Launch) (Z : XZ) (L : Nat → Nat) (n : Nat) : Prop := ∀ (hL : L 700 = 1), ∀ (d : Nat) (S : GS) (a1 : Int) (a2 : Int) (a3 : Int) (a4 : Int) (x : Int) (S1 : GS), f_X12_canPut n d 0 S [a1, a2, a3, a4] = some (x, S1) → GA l Z L yX12_canPut cX12_canPut 10 (some .boolean) [] d 0 0 (fun v S' => v = some (.int (J x)) ∧ S1 = S') (fun _ _ => False) 0 (gl [(0, .ref (L 500)), (1, .int (J a1)), (2, .int (J a2)), (3, .int (J a3)), (4, .int (J a4))]) [] S 0 0
def P_X12_canPut_133 (l : Launch) (Z : XZ) (L : Nat → Nat) (n : Nat) : Prop := ∀ (hL : L 700 = 1), ∀ (d : Nat) (S : GS) (a1 : Int) (a2 : Int) (a3 : Int) (a4 : Int) (a6 : Int) (x : Int) (S1 : GS), f_X12_canPut n d 133 S [a1, a2, a3, a4, a6] = some (x, S1) → GA l Z L yX12_canPut cX12_canPut 10 (some .boolean) [] d 0 0 (fun v S' => v = some (.int (J x)) ∧ S1 = S') (fun _ _ => False) 133 (gl [(0, .ref (L 500)), (1, .int (J a1)), (2, .int (J a2)), (3, .int (J a3)), (4, .int (J a4)), (6, .int (J a6))]) [] S 0 0
def P_X12_canPut_177 (l : Launch) (Z : XZ) (L : Nat → Nat) (n : Nat) : Prop := ∀ (hL : L 700 = 1), ∀ (d : Nat) (S : GS) (a1 : Int) (a2 : Int) (a3 : Int) (a4 : Int) (a6 : Int) (a7 : Int) (x : Int) (S1 : GS), f_X12_canPut n d 177 S [a1, a2, a3, a4, a6, a7] = some (x, S1) → GA l Z L yX12_canPut cX12_canPut 10 (some .boolean) [] d 0 0 (fun v S' => v = some (.int (J x)) ∧ S1 = S') (fun _ _ => False) 177 (gl [(0, .ref (L 500)), (1, .int (J a1)), (2, .int (J a2)), (3, .int (J a3)), (4, .int (J a4)), (6, .int (J a6)), (7, .int (J a7))]) [] S 0 0
def P_X12_canPut_197 (l : Launch) (Z : XZ) (L : Nat → Nat) (n : Nat) : Prop := ∀ (hL : L 700 = 1), ∀ (d : Nat) (S : GS) (a1 : Int) (a2 : Int) (a3 : Int) (a4 : Int) (a6 : Int) (a8 : Int) (x : Int) (S1 : GS), f_X12_canPut n d 197 S [a1, a2, a3, a4, a6, a8] = some (x, S1) → GA l Z L yX12_canPut cX12_canPut 10 (some .boolean) [] d 0 0 (fun v S' => v = some (.int (J x)) ∧ S1 = S') (fun _ _ => False) 197 (gl [(0, .ref (L 500)), (1, .int (J a1)), (2, .int (J a2)), (3, .int (J a3)), (4, .int (J a4)), (6, .int (J a6)), (8, .int (J a8))]) [] S 0 0
def P_X12_canPut_243 (l : Launch) (Z : XZ) (L : Nat → Nat) (n : Nat) : Prop := ∀ (hL : L 700 = 1), ∀ (d : Nat) (S : GS) (a1 : Int) (a2 : Int) (a6 : Int) (a9 : Int) (s0 : Int) (s1 : Int) (s2 : Int) (s3 : Int) (x : Int) (S1 : GS), f_X12_canPut n d 243 S [a1, a2, a6, a9, s0, s1, s2, s3] = some (x, S1) → GA l Z L yX12_canPut cX12_canPut 10 (some .boolean) [] d 0 0 (fun v S' => v = some (.int (J x)) ∧ S1 = S') (fun _ _ => False) 243 (gl [(0, .ref (L 500)), (1, .int (J a1)), (2, .int (J a2)), (6, .int (J a6)), (9, .int (J a9))]) [.int (J s0), .int (J s1), .int (J s2), .int (J s3), .ref (L 500)] S 0 0
theorem i_X12_canPut {l : Launch} {Z : XZ} {L : Nat → Nat} (hL : L 700 = 1) {n : Nat} (ih : P_X12_canPut_0 l Z L n) {d : Nat} {S : GS} {a1 : Int} {a2 : Int} {a3 : Int} {a4 : Int} {x : Int} {S1 : GS} (H : f_X12_canPut n d 0 S [a1, a2, a3, a4] = some (x, S1)) : GM l Z L yX12_canPut cX12_canPut 10 (some .boolean) [] d 0 0 [.ref (L 500), .int (J a1), .int (J a2), .int (J a3), .int (J a4)] S (fun v S' => v = some (.int (J x)) ∧ S1 = S') (fun _ _ => False) := GM.of (by decide) (Nat.le_of_ble_eq_true rfl) (ih hL _ _ _ _ _ _ _ _ H)
set_option maxHeartbeats 4000000 in
set_option maxRecDepth 20000 in
theorem t_X12_canPut_0 {l : Launch} {Z : XZ} {L : Nat → Nat} (n : Nat) (ih_X12_canPut_0 : P_X12_canPut_0 l Z L n) (ih_X12_canPut_133 : P_X12_canPut_133 l Z L n) (ih_X12_canPut_177 : P_X12_canPut_177 l Z L n) (ih_X12_canPut_197 : P_X12_canPut_197 l Z L n) (ih_X12_canPut_243 : P_X12_canPut_243 l Z L n) : P_X12_canPut_0 l Z L (n + 1) := by
  intro hL d S a1 a2 a3 a4 x S1 H
  have H : b_X12_canPut_0 n d (f_X12_canPut n) S a1 a2 a3 a4 = some (x, S1) := H
  unfold b_X12_canPut_0 at H
  refine GA.aload_n dX12_canPut_0 rfl ?_
  obtain ⟨x1, hx2, H⟩ := gv_e H
  refine GV.getI hx2 xf_X12_604 dX12_canPut_1 (gs_500 hL) (by decide) rfl ?_
  obtain ⟨hg3, H⟩ := gg_e H
  refine GV.if_ne (tgt := 27) hg3 dX12_canPut_4 (by decide) (fun c4 => ?_) (fun c4 => ?_)
  · have H := it_t H c4
    refine GA.aload_n dX12_canPut_27 rfl ?_
    obtain ⟨hg5, H⟩ := gg_e H
    obtain ⟨x6, S_7, hc8, H⟩ := gc_e H
    refine GA.callV (m_X12_lastStep hL hc8) xs_X12_660 dX12_canPut_28 (gs_500 hL) (by decide) rfl rfl (by omega) (by decide) rfl (Nat.le_of_ble_eq_true rfl) (by omega) (by omega) rfl (fun E S9 hx => hx.elim) (fun v S9 hq => ?_)
    obtain ⟨rfl, rfl⟩ := hq
    refine GA.istore dX12_canPut_31 (by decide) ?_
    refine GA.aload_n dX12_canPut_33 rfl ?_
    refine GA.iload_n dX12_canPut_34 rfl ?_
    refine GA.iload dX12_canPut_35 rfl ?_
    obtain ⟨x9, S_10, hc11, H⟩ := gc_e H
    refine GA.callV (m_X12_plain hL hc11) xs_X12_663 dX12_canPut_37 (gs_500 hL) (by decide) rfl rfl (by omega) (by decide) rfl (Nat.le_of_ble_eq_true rfl) (by omega) (by omega) rfl (fun E S9 hx => hx.elim) (fun v S9 hq => ?_)
    obtain ⟨rfl, rfl⟩ := hq
    refine GA.istore dX12_canPut_40 (by decide) ?_
    refine GA.iload dX12_canPut_42 rfl ?_
    refine GA.iconst dX12_canPut_44 ?_
    obtain ⟨hg12, H⟩ := gg_e H
    refine GV.icmp_eq (tgt := 59) hg12 (by decide) dX12_canPut_45 (by decide) (fun c13 => ?_) (fun c13 => ?_)
    · have H := it_t H c13
      refine GA.iconst dX12_canPut_59 ?_
      cases H
      exact GV.zret (by decide) rfl dX12_canPut_60 (by omega) (by omega) ⟨rfl, rfl⟩
    · have H := it_f H c13
      refine GA.aload_n dX12_canPut_48 rfl ?_
      refine GA.iload_n dX12_canPut_49 rfl ?_
      refine GA.iload dX12_canPut_50 rfl ?_
      obtain ⟨x14, S_15, hc16, H⟩ := gc_e H
      refine GA.callV (m_X12_kind hL hc16) xs_X12_52 dX12_canPut_52 (gs_500 hL) (by decide) rfl rfl (by omega) (by decide) rfl (Nat.le_of_ble_eq_true rfl) (by omega) (by omega) rfl (fun E S9 hx => hx.elim) (fun v S9 hq => ?_)
      obtain ⟨rfl, rfl⟩ := hq
      refine GA.iconst dX12_canPut_55 ?_
      obtain ⟨hg17, H⟩ := gg_e H
      refine GV.icmp_ge (tgt := 61) hg17 (by decide) dX12_canPut_56 (by decide) (fun c18 => ?_) (fun c18 => ?_)
      · have H := it_t H c18
        refine GA.aload_n dX12_canPut_61 rfl ?_
        refine GA.iload dX12_canPut_62 rfl ?_
        obtain ⟨x19, S_20, hc21, H⟩ := gc_e H
        refine GA.callV (m_X12_step hL hc21) xs_X12_619 dX12_canPut_64 (gs_500 hL) (by decide) rfl rfl (by omega) (by decide) rfl (Nat.le_of_ble_eq_true rfl) (by omega) (by omega) rfl (fun E S9 hx => hx.elim) (fun v S9 hq => ?_)
        obtain ⟨rfl, rfl⟩ := hq
        refine GA.aload_n dX12_canPut_67 rfl ?_
        refine GA.aload_n dX12_canPut_68 rfl ?_
        obtain ⟨x22, hx23, H⟩ := gv_e H
        refine GV.getI hx23 xf_X12_607 dX12_canPut_69 (gs_500 hL) (by decide) rfl ?_
        refine GA.aload_n dX12_canPut_72 rfl ?_
        obtain ⟨x24, hx25, H⟩ := gv_e H
        refine GV.getI hx25 xf_X12_610 dX12_canPut_73 (gs_500 hL) (by decide) rfl ?_
        obtain ⟨x26, S_27, hc28, H⟩ := gc_e H
        refine GA.callV (m_X12_wordOf hL hc28) xs_X12_622 dX12_canPut_76 (gs_500 hL) (by decide) rfl rfl (by omega) (by decide) rfl (Nat.le_of_ble_eq_true rfl) (by omega) (by omega) rfl (fun E S9 hx => hx.elim) (fun v S9 hq => ?_)
        obtain ⟨rfl, rfl⟩ := hq
        refine GA.aload_n dX12_canPut_79 rfl ?_
        refine GA.iload_n dX12_canPut_80 rfl ?_
        refine GA.iload dX12_canPut_81 rfl ?_
        obtain ⟨x29, S_30, hc31, H⟩ := gc_e H
        refine GA.callV (m_X12_kind hL hc31) xs_X12_52 dX12_canPut_83 (gs_500 hL) (by decide) rfl rfl (by omega) (by decide) rfl (Nat.le_of_ble_eq_true rfl) (by omega) (by omega) rfl (fun E S9 hx => hx.elim) (fun v S9 hq => ?_)
        obtain ⟨rfl, rfl⟩ := hq
        refine GA.iconst dX12_canPut_86 ?_
        obtain ⟨hg32, H⟩ := gg_e H
        refine GV.icmp_ne (tgt := 133) hg32 (by decide) dX12_canPut_87 (by decide) (fun c33 => ?_) (fun c33 => ?_)
        · have H := it_t H c33
          refine GA.locals [(0, .ref (L 500)), (1, .int (J a1)), (2, .int (J a2)), (3, .int (J a3)), (4, .int (J a4)), (6, .int (J x9))] ⟨rfl, rfl, rfl, rfl, rfl, rfl, trivial⟩ ?_
          exact ih_X12_canPut_133 hL _ _ (a1) (a2) (a3) (a4) (x9) _ _ H
        · have H := it_f H c33
          refine GA.aload_n dX12_canPut_90 rfl ?_
          refine GA.iload_n dX12_canPut_91 rfl ?_
          refine GA.iload dX12_canPut_92 rfl ?_
          obtain ⟨x34, S_35, hc36, H⟩ := gc_e H
          refine GA.callV (m_X12_childByWord hL hc36) xs_X12_78 dX12_canPut_94 (gs_500 hL) (by decide) rfl rfl (by omega) (by decide) rfl (Nat.le_of_ble_eq_true rfl) (by omega) (by omega) rfl (fun E S9 hx => hx.elim) (fun v S9 hq => ?_)
          obtain ⟨rfl, rfl⟩ := hq
          refine GA.istore dX12_canPut_97 (by decide) ?_
          refine GA.iload dX12_canPut_99 rfl ?_
          refine GA.iconst dX12_canPut_101 ?_
          obtain ⟨hg37, H⟩ := gg_e H
          refine GV.icmp_eq (tgt := 122) hg37 (by decide) dX12_canPut_102 (by decide) (fun c38 => ?_) (fun c38 => ?_)
          · have H := it_t H c38
            refine GA.aload_n dX12_canPut_122 rfl ?_
            obtain ⟨x39, hx40, H⟩ := gv_e H
            refine GV.getI hx40 xf_X12_66 dX12_canPut_123 (gs_500 hL) (by decide) rfl ?_
            refine GA.bipush dX12_canPut_126 rfl ?_
            obtain ⟨hg41, H⟩ := gg_e H
            refine GV.icmp_le (tgt := 133) hg41 (by decide) dX12_canPut_128 (by decide) (fun c42 => ?_) (fun c42 => ?_)
            · have H := it_t H c42
              refine GA.locals [(0, .ref (L 500)), (1, .int (J a1)), (2, .int (J a2)), (3, .int (J a3)), (4, .int (J a4)), (6, .int (J x9))] ⟨rfl, rfl, rfl, rfl, rfl, rfl, trivial⟩ ?_
              exact ih_X12_canPut_133 hL _ _ (a1) (a2) (a3) (a4) (x9) _ _ H
            · have H := it_f H c42
              refine GA.iconst dX12_canPut_131 ?_
              cases H
              exact GV.zret (by decide) rfl dX12_canPut_132 (by omega) (by omega) ⟨rfl, rfl⟩
          · have H := it_f H c38
            refine GA.aload_n dX12_canPut_105 rfl ?_
            refine GA.iload_n dX12_canPut_106 rfl ?_
            refine GA.iload_n dX12_canPut_107 rfl ?_
            refine GA.iload dX12_canPut_108 rfl ?_
            refine GA.iload_n dX12_canPut_110 rfl ?_
            refine GA.iload dX12_canPut_111 rfl ?_
            obtain ⟨x43, S_44, hc45, H⟩ := gc_e H
            refine GA.callV (m_X12_replaced hL hc45) xs_X12_666 dX12_canPut_113 (gs_500 hL) (by decide) rfl rfl (by omega) (by decide) rfl (Nat.le_of_ble_eq_true rfl) (by omega) (by omega) rfl (fun E S9 hx => hx.elim) (fun v S9 hq => ?_)
            obtain ⟨rfl, rfl⟩ := hq
            refine GA.aload_n dX12_canPut_116 rfl ?_
            refine GA.iload_n dX12_canPut_117 rfl ?_
            obtain ⟨x46, S_47, hc48, H⟩ := gc_e H
            refine GA.callV (m_X12_isWhole hL hc48) xs_X12_601 dX12_canPut_118 (gs_500 hL) (by decide) rfl rfl (by omega) (by decide) rfl (Nat.le_of_ble_eq_true rfl) (by omega) (by omega) rfl (fun E S9 hx => hx.elim) (fun v S9 hq => ?_)
            obtain ⟨rfl, rfl⟩ := hq
            obtain ⟨hg49, H⟩ := gg_e H
            cases H
            exact GV.zret hg49 rfl dX12_canPut_121 (by omega) (by omega) ⟨rfl, rfl⟩
      · have H := it_f H c18
        refine GA.iconst dX12_canPut_59 ?_
        cases H
        exact GV.zret (by decide) rfl dX12_canPut_60 (by omega) (by omega) ⟨rfl, rfl⟩
  · have H := it_f H c4
    refine GA.aload_n dX12_canPut_7 rfl ?_
    refine GA.iload_n dX12_canPut_8 rfl ?_
    obtain ⟨hg50, H⟩ := gg_e H
    obtain ⟨x51, S_52, hc53, H⟩ := gc_e H
    refine GA.callV (m_X12_begin hL hc53) xs_X12_517 dX12_canPut_9 (gs_500 hL) (by decide) rfl rfl (by omega) (by decide) rfl (Nat.le_of_ble_eq_true rfl) (by omega) (by omega) rfl (fun E S9 hx => hx.elim) (fun v S9 hq => ?_)
    obtain ⟨rfl, rfl⟩ := hq
    refine GA.aload_n dX12_canPut_12 rfl ?_
    refine GA.iload_n dX12_canPut_13 rfl ?_
    refine GA.iload_n dX12_canPut_14 rfl ?_
    refine GA.iload dX12_canPut_15 rfl ?_
    refine GA.iconst dX12_canPut_17 ?_
    obtain ⟨x54, S_55, hc56, H⟩ := gc_e H
    refine GA.callV (m_X12_brings hL hc56) xs_X12_656 dX12_canPut_18 (gs_500 hL) (by decide) rfl rfl (by omega) (by decide) rfl (Nat.le_of_ble_eq_true rfl) (by omega) (by omega) rfl (fun E S9 hx => hx.elim) (fun v S9 hq => ?_)
    obtain ⟨rfl, rfl⟩ := hq
    refine GA.aload_n dX12_canPut_21 rfl ?_
    refine GA.iload_n dX12_canPut_22 rfl ?_
    obtain ⟨x57, S_58, hc59, H⟩ := gc_e H
    refine GA.callV (m_X12_isWhole hL hc59) xs_X12_601 dX12_canPut_23 (gs_500 hL) (by decide) rfl rfl (by omega) (by decide) rfl (Nat.le_of_ble_eq_true rfl) (by omega) (by omega) rfl (fun E S9 hx => hx.elim) (fun v S9 hq => ?_)
    obtain ⟨rfl, rfl⟩ := hq
    obtain ⟨hg60, H⟩ := gg_e H
    cases H
    exact GV.zret hg60 rfl dX12_canPut_26 (by omega) (by omega) ⟨rfl, rfl⟩
set_option maxHeartbeats 4000000 in
set_option maxRecDepth 20000 in
theorem t_X12_canPut_133 {l : Launch} {Z : XZ} {L : Nat → Nat} (n : Nat) (ih_X12_canPut_0 : P_X12_canPut_0 l Z L n) (ih_X12_canPut_133 : P_X12_canPut_133 l Z L n) (ih_X12_canPut_177 : P_X12_canPut_177 l Z L n) (ih_X12_canPut_197 : P_X12_canPut_197 l Z L n) (ih_X12_canPut_243 : P_X12_canPut_243 l Z L n) : P_X12_canPut_133 l Z L (n + 1) := by
  intro hL d S a1 a2 a3 a4 a6 x S1 H
  have H : b_X12_canPut_133 n d (f_X12_canPut n) S a1 a2 a3 a4 a6 = some (x, S1) := H
  unfold b_X12_canPut_133 at H
  refine GA.aload_n dX12_canPut_133 rfl ?_
  refine GA.iload_n dX12_canPut_134 rfl ?_
  refine GA.iload dX12_canPut_135 rfl ?_
  refine GA.iconst dX12_canPut_137 ?_
  obtain ⟨hg1, H⟩ := gg_e H
  obtain ⟨x2, S_3, hc4, H⟩ := gc_e H
  refine GA.callV (m_X12_part hL hc4) xs_X12_36 dX12_canPut_138 (gs_500 hL) (by decide) rfl rfl (by omega) (by decide) rfl (Nat.le_of_ble_eq_true rfl) (by omega) (by omega) rfl (fun E S9 hx => hx.elim) (fun v S9 hq => ?_)
  obtain ⟨rfl, rfl⟩ := hq
  refine GA.istore dX12_canPut_141 (by decide) ?_
  refine GA.iload dX12_canPut_143 rfl ?_
  refine GA.istore dX12_canPut_145 (by decide) ?_
  refine GA.aload_n dX12_canPut_147 rfl ?_
  refine GA.iload_n dX12_canPut_148 rfl ?_
  refine GA.iload dX12_canPut_149 rfl ?_
  obtain ⟨x5, S_6, hc7, H⟩ := gc_e H
  refine GA.callV (m_X12_kind hL hc7) xs_X12_52 dX12_canPut_151 (gs_500 hL) (by decide) rfl rfl (by omega) (by decide) rfl (Nat.le_of_ble_eq_true rfl) (by omega) (by omega) rfl (fun E S9 hx => hx.elim) (fun v S9 hq => ?_)
  obtain ⟨rfl, rfl⟩ := hq
  refine GA.iconst dX12_canPut_154 ?_
  obtain ⟨hg8, H⟩ := gg_e H
  refine GV.icmp_ne (tgt := 197) hg8 (by decide) dX12_canPut_155 (by decide) (fun c9 => ?_) (fun c9 => ?_)
  · have H := it_t H c9
    refine GA.locals [(0, .ref (L 500)), (1, .int (J a1)), (2, .int (J a2)), (3, .int (J a3)), (4, .int (J a4)), (6, .int (J a6)), (8, .int (J x2))] ⟨rfl, rfl, rfl, rfl, rfl, rfl, rfl, trivial⟩ ?_
    exact ih_X12_canPut_197 hL _ _ (a1) (a2) (a3) (a4) (a6) (x2) _ _ H
  · have H := it_f H c9
    refine GA.aload_n dX12_canPut_158 rfl ?_
    obtain ⟨x10, hx11, H⟩ := gv_e H
    refine GV.getI hx11 xf_X12_66 dX12_canPut_159 (gs_500 hL) (by decide) rfl ?_
    refine GA.iconst dX12_canPut_162 ?_
    obtain ⟨hg12, H⟩ := gg_e H
    refine GV.icmp_ne (tgt := 177) hg12 (by decide) dX12_canPut_163 (by decide) (fun c13 => ?_) (fun c13 => ?_)
    · have H := it_t H c13
      refine GA.locals [(0, .ref (L 500)), (1, .int (J a1)), (2, .int (J a2)), (3, .int (J a3)), (4, .int (J a4)), (6, .int (J a6)), (7, .int (J x2))] ⟨rfl, rfl, rfl, rfl, rfl, rfl, rfl, trivial⟩ ?_
      exact ih_X12_canPut_177 hL _ _ (a1) (a2) (a3) (a4) (a6) (x2) _ _ H
    · have H := it_f H c13
      refine GA.aload_n dX12_canPut_166 rfl ?_
      refine GA.get xf_X12_69 dX12_canPut_167 (gs_500 hL) (by decide) rfl ?_
      refine GA.iconst dX12_canPut_170 ?_
      obtain ⟨hg14, H⟩ := gg_e H
      obtain ⟨x15, hx16, H⟩ := gv_e H
      refine GV.iald hg14 hx16 dX12_canPut_171 (gs_507 hL) (by decide) ?_
      refine GA.bipush dX12_canPut_172 rfl ?_
      obtain ⟨hg17, H⟩ := gg_e H
      refine GV.icmp_eq (tgt := 197) hg17 (by decide) dX12_canPut_174 (by decide) (fun c18 => ?_) (fun c18 => ?_)
      · have H := it_t H c18
        refine GA.locals [(0, .ref (L 500)), (1, .int (J a1)), (2, .int (J a2)), (3, .int (J a3)), (4, .int (J a4)), (6, .int (J a6)), (8, .int (J x2))] ⟨rfl, rfl, rfl, rfl, rfl, rfl, rfl, trivial⟩ ?_
        exact ih_X12_canPut_197 hL _ _ (a1) (a2) (a3) (a4) (a6) (x2) _ _ H
      · have H := it_f H c18
        refine GA.locals [(0, .ref (L 500)), (1, .int (J a1)), (2, .int (J a2)), (3, .int (J a3)), (4, .int (J a4)), (6, .int (J a6)), (7, .int (J x2))] ⟨rfl, rfl, rfl, rfl, rfl, rfl, rfl, trivial⟩ ?_
        exact ih_X12_canPut_177 hL _ _ (a1) (a2) (a3) (a4) (a6) (x2) _ _ H
set_option maxHeartbeats 4000000 in
set_option maxRecDepth 20000 in
theorem t_X12_canPut_177 {l : Launch} {Z : XZ} {L : Nat → Nat} (n : Nat) (ih_X12_canPut_0 : P_X12_canPut_0 l Z L n) (ih_X12_canPut_133 : P_X12_canPut_133 l Z L n) (ih_X12_canPut_177 : P_X12_canPut_177 l Z L n) (ih_X12_canPut_197 : P_X12_canPut_197 l Z L n) (ih_X12_canPut_243 : P_X12_canPut_243 l Z L n) : P_X12_canPut_177 l Z L (n + 1) := by
  intro hL d S a1 a2 a3 a4 a6 a7 x S1 H
  have H : b_X12_canPut_177 n d (f_X12_canPut n) S a1 a2 a3 a4 a6 a7 = some (x, S1) := H
  unfold b_X12_canPut_177 at H
  refine GA.aload_n dX12_canPut_177 rfl ?_
  refine GA.iconst dX12_canPut_178 ?_
  obtain ⟨hg1, H⟩ := gg_e H
  obtain ⟨x2, S_3, hc4, H⟩ := gc_e H
  refine GA.callV (m_X12_figured hL hc4) xs_X12_613 dX12_canPut_179 (gs_500 hL) (by decide) rfl rfl (by omega) (by decide) rfl (Nat.le_of_ble_eq_true rfl) (by omega) (by omega) rfl (fun E S9 hx => hx.elim) (fun v S9 hq => ?_)
  obtain ⟨rfl, rfl⟩ := hq
  refine GA.istore dX12_canPut_182 (by decide) ?_
  refine GA.iload dX12_canPut_184 rfl ?_
  refine GA.iconst dX12_canPut_186 ?_
  refine GA.iload dX12_canPut_187 rfl ?_
  obtain ⟨x5, S_6, hc7, H⟩ := gc_e H
  refine GA.callS (m_X12_in hL hc7) xs_X12_18 dX12_canPut_189 rfl (by omega) (by decide) rfl (Nat.le_of_ble_eq_true rfl) (by omega) (by omega) rfl (fun E S9 hx => hx.elim) (fun v S9 hq => ?_)
  obtain ⟨rfl, rfl⟩ := hq
  obtain ⟨hg8, H⟩ := gg_e H
  refine GV.if_ne (tgt := 197) hg8 dX12_canPut_192 (by decide) (fun c9 => ?_) (fun c9 => ?_)
  · have H := it_t H c9
    refine GA.locals [(0, .ref (L 500)), (1, .int (J a1)), (2, .int (J a2)), (3, .int (J a3)), (4, .int (J a4)), (6, .int (J a6)), (8, .int (J x2))] ⟨rfl, rfl, rfl, rfl, rfl, rfl, rfl, trivial⟩ ?_
    exact ih_X12_canPut_197 hL _ _ (a1) (a2) (a3) (a4) (a6) (x2) _ _ H
  · have H := it_f H c9
    refine GA.iconst dX12_canPut_195 ?_
    cases H
    exact GV.zret (by decide) rfl dX12_canPut_196 (by omega) (by omega) ⟨rfl, rfl⟩
set_option maxHeartbeats 4000000 in
set_option maxRecDepth 20000 in
theorem t_X12_canPut_197 {l : Launch} {Z : XZ} {L : Nat → Nat} (n : Nat) (ih_X12_canPut_0 : P_X12_canPut_0 l Z L n) (ih_X12_canPut_133 : P_X12_canPut_133 l Z L n) (ih_X12_canPut_177 : P_X12_canPut_177 l Z L n) (ih_X12_canPut_197 : P_X12_canPut_197 l Z L n) (ih_X12_canPut_243 : P_X12_canPut_243 l Z L n) : P_X12_canPut_197 l Z L (n + 1) := by
  intro hL d S a1 a2 a3 a4 a6 a8 x S1 H
  have H : b_X12_canPut_197 n d (f_X12_canPut n) S a1 a2 a3 a4 a6 a8 = some (x, S1) := H
  unfold b_X12_canPut_197 at H
  refine GA.aload_n dX12_canPut_197 rfl ?_
  refine GA.iload_n dX12_canPut_198 rfl ?_
  refine GA.iload dX12_canPut_199 rfl ?_
  refine GA.iload dX12_canPut_201 rfl ?_
  obtain ⟨hg1, H⟩ := gg_e H
  obtain ⟨x2, S_3, hc4, H⟩ := gc_e H
  refine GA.callV (m_X12_childAt hL hc4) xs_X12_616 dX12_canPut_203 (gs_500 hL) (by decide) rfl rfl (by omega) (by decide) rfl (Nat.le_of_ble_eq_true rfl) (by omega) (by omega) rfl (fun E S9 hx => hx.elim) (fun v S9 hq => ?_)
  obtain ⟨rfl, rfl⟩ := hq
  refine GA.istore dX12_canPut_206 (by decide) ?_
  refine GA.aload_n dX12_canPut_208 rfl ?_
  refine GA.iload_n dX12_canPut_209 rfl ?_
  obtain ⟨x5, S_6, hc7, H⟩ := gc_e H
  refine GA.callV (m_X12_begin hL hc7) xs_X12_517 dX12_canPut_210 (gs_500 hL) (by decide) rfl rfl (by omega) (by decide) rfl (Nat.le_of_ble_eq_true rfl) (by omega) (by omega) rfl (fun E S9 hx => hx.elim) (fun v S9 hq => ?_)
  obtain ⟨rfl, rfl⟩ := hq
  refine GA.aload_n dX12_canPut_213 rfl ?_
  refine GA.iload_n dX12_canPut_214 rfl ?_
  refine GA.iload_n dX12_canPut_215 rfl ?_
  refine GA.iconst dX12_canPut_216 ?_
  refine GA.iload dX12_canPut_217 rfl ?_
  obtain ⟨x8, S_9, hc10, H⟩ := gc_e H
  refine GA.callV (m_X12_copies hL hc10) xs_X12_598 dX12_canPut_219 (gs_500 hL) (by decide) rfl rfl (by omega) (by decide) rfl (Nat.le_of_ble_eq_true rfl) (by omega) (by omega) rfl (fun E S9 hx => hx.elim) (fun v S9 hq => ?_)
  obtain ⟨rfl, rfl⟩ := hq
  refine GA.aload_n dX12_canPut_222 rfl ?_
  refine GA.iload_n dX12_canPut_223 rfl ?_
  refine GA.iload_n dX12_canPut_224 rfl ?_
  refine GA.iload dX12_canPut_225 rfl ?_
  refine GA.aload_n dX12_canPut_227 rfl ?_
  refine GA.iload_n dX12_canPut_228 rfl ?_
  refine GA.iload dX12_canPut_229 rfl ?_
  obtain ⟨x11, S_12, hc13, H⟩ := gc_e H
  refine GA.callV (m_X12_kind hL hc13) xs_X12_52 dX12_canPut_231 (gs_500 hL) (by decide) rfl rfl (by omega) (by decide) rfl (Nat.le_of_ble_eq_true rfl) (by omega) (by omega) rfl (fun E S9 hx => hx.elim) (fun v S9 hq => ?_)
  obtain ⟨rfl, rfl⟩ := hq
  refine GA.iconst dX12_canPut_234 ?_
  obtain ⟨hg14, H⟩ := gg_e H
  refine GV.icmp_ne (tgt := 242) hg14 (by decide) dX12_canPut_235 (by decide) (fun c15 => ?_) (fun c15 => ?_)
  · have H := it_t H c15
    refine GA.iconst dX12_canPut_242 ?_
    refine GA.locals [(0, .ref (L 500)), (1, .int (J a1)), (2, .int (J a2)), (6, .int (J a6)), (9, .int (J x2))] ⟨rfl, rfl, rfl, rfl, rfl, trivial⟩ ?_
    exact ih_X12_canPut_243 hL _ _ (a1) (a2) (a6) (x2) (0) (a4) (a3) (a1) _ _ H
  · have H := it_f H c15
    refine GA.iconst dX12_canPut_238 ?_
    refine GA.goto (tgt := 243) dX12_canPut_239 (by decide) ?_
    refine GA.locals [(0, .ref (L 500)), (1, .int (J a1)), (2, .int (J a2)), (6, .int (J a6)), (9, .int (J x2))] ⟨rfl, rfl, rfl, rfl, rfl, trivial⟩ ?_
    exact ih_X12_canPut_243 hL _ _ (a1) (a2) (a6) (x2) (1) (a4) (a3) (a1) _ _ H
set_option maxHeartbeats 4000000 in
set_option maxRecDepth 20000 in
theorem t_X12_canPut_243 {l : Launch} {Z : XZ} {L : Nat → Nat} (n : Nat) (ih_X12_canPut_0 : P_X12_canPut_0 l Z L n) (ih_X12_canPut_133 : P_X12_canPut_133 l Z L n) (ih_X12_canPut_177 : P_X12_canPut_177 l Z L n) (ih_X12_canPut_197 : P_X12_canPut_197 l Z L n) (ih_X12_canPut_243 : P_X12_canPut_243 l Z L n) : P_X12_canPut_243 l Z L (n + 1) := by
  intro hL d S a1 a2 a6 a9 s0 s1 s2 s3 x S1 H
  have H : b_X12_canPut_243 n d (f_X12_canPut n) S a1 a2 a6 a9 s0 s1 s2 s3 = some (x, S1) := H
  unfold b_X12_canPut_243 at H
  obtain ⟨hg1, H⟩ := gg_e H
  obtain ⟨x2, S_3, hc4, H⟩ := gc_e H
  refine GA.callV (m_X12_brings hL hc4) xs_X12_656 dX12_canPut_243 (gs_500 hL) (by decide) rfl rfl (by omega) (by decide) rfl (Nat.le_of_ble_eq_true rfl) (by omega) (by omega) rfl (fun E S9 hx => hx.elim) (fun v S9 hq => ?_)
  obtain ⟨rfl, rfl⟩ := hq
  refine GA.aload_n dX12_canPut_246 rfl ?_
  refine GA.iload_n dX12_canPut_247 rfl ?_
  refine GA.iload_n dX12_canPut_248 rfl ?_
  refine GA.iload dX12_canPut_249 rfl ?_
  refine GA.aload_n dX12_canPut_251 rfl ?_
  refine GA.get xf_X12_26 dX12_canPut_252 (gs_500 hL) (by decide) rfl ?_
  refine GA.iload_n dX12_canPut_255 rfl ?_
  obtain ⟨hg5, H⟩ := gg_e H
  obtain ⟨x6, hx7, H⟩ := gv_e H
  refine GV.iald hg5 hx7 dX12_canPut_256 (gs_502 hL) (by decide) ?_
  obtain ⟨x8, S_9, hc10, H⟩ := gc_e H
  refine GA.callV (m_X12_copies hL hc10) xs_X12_598 dX12_canPut_257 (gs_500 hL) (by decide) rfl rfl (by omega) (by decide) rfl (Nat.le_of_ble_eq_true rfl) (by omega) (by omega) rfl (fun E S9 hx => hx.elim) (fun v S9 hq => ?_)
  obtain ⟨rfl, rfl⟩ := hq
  refine GA.aload_n dX12_canPut_260 rfl ?_
  refine GA.get xf_X12_7 dX12_canPut_261 (gs_500 hL) (by decide) rfl ?_
  refine GA.iload_n dX12_canPut_264 rfl ?_
  refine GA.iload dX12_canPut_265 rfl ?_
  obtain ⟨x11, S_12, hc13, H⟩ := gc_e H
  refine GA.callS (m_X12_at hL hc13) xs_X12_11 dX12_canPut_267 rfl (by omega) (by decide) rfl (Nat.le_of_ble_eq_true rfl) (by omega) (by omega) rfl (fun E S9 hx => hx.elim) (fun v S9 hq => ?_)
  obtain ⟨rfl, rfl⟩ := hq
  refine GA.iconst dX12_canPut_270 ?_
  obtain ⟨x14, hx15, H⟩ := gv_e H
  refine GV.iadd hx15 dX12_canPut_271 ?_
  refine GA.dup2 dX12_canPut_272 rfl rfl ?_
  obtain ⟨hg16, H⟩ := gg_e H
  obtain ⟨x17, hx18, H⟩ := gv_e H
  refine GV.iald hg16 hx18 dX12_canPut_273 (gs_501 hL) (by decide) ?_
  refine GA.iconst dX12_canPut_274 ?_
  obtain ⟨x19, hx20, H⟩ := gv_e H
  refine GV.iadd hx20 dX12_canPut_275 ?_
  obtain ⟨S_21, hx22, H⟩ := gv_e H
  refine GV.iast hg16 hx22 dX12_canPut_276 (fun _ => (gs_501 hL)) (by decide) ?_
  refine GA.aload_n dX12_canPut_277 rfl ?_
  refine GA.iload_n dX12_canPut_278 rfl ?_
  obtain ⟨x23, S_24, hc25, H⟩ := gc_e H
  refine GA.callV (m_X12_isWhole hL hc25) xs_X12_601 dX12_canPut_279 (gs_500 hL) (by decide) rfl rfl (by omega) (by decide) rfl (Nat.le_of_ble_eq_true rfl) (by omega) (by omega) rfl (fun E S9 hx => hx.elim) (fun v S9 hq => ?_)
  obtain ⟨rfl, rfl⟩ := hq
  obtain ⟨hg26, H⟩ := gg_e H
  cases H
  exact GV.zret hg26 rfl dX12_canPut_282 (by omega) (by omega) ⟨rfl, rfl⟩
theorem g_X12_canPut {l : Launch} {Z : XZ} {L : Nat → Nat} : ∀ n, P_X12_canPut_0 l Z L n ∧ P_X12_canPut_133 l Z L n ∧ P_X12_canPut_177 l Z L n ∧ P_X12_canPut_197 l Z L n ∧ P_X12_canPut_243 l Z L n
  | 0 => ⟨fun _ _ _ _ _ _ _ _ _ H => no_e H, fun _ _ _ _ _ _ _ _ _ _ H => no_e H, fun _ _ _ _ _ _ _ _ _ _ _ H => no_e H, fun _ _ _ _ _ _ _ _ _ _ _ H => no_e H, fun _ _ _ _ _ _ _ _ _ _ _ _ _ H => no_e H⟩
  | n + 1 => have ⟨h0, h1, h2, h3, h4⟩ := g_X12_canPut (l := l) (Z := Z) (L := L) n
    ⟨t_X12_canPut_0 n h0 h1 h2 h3 h4, t_X12_canPut_133 n h0 h1 h2 h3 h4, t_X12_canPut_177 n h0 h1 h2 h3 h4, t_X12_canPut_197 n h0 h1 h2 h3 h4, t_X12_canPut_243 n h0 h1 h2 h3 h4⟩
theorem m_X12_canPut {l : Launch} {Z : XZ} {L : Nat → Nat} (hL : L 700 = 1) {n d : Nat} {S : GS} {a1 : Int} {a2 : Int} {a3 : Int} {a4 : Int} {x : Int} {S1 : GS} (H : f_X12_canPut n d 0 S [a1, a2, a3, a4] = some (x, S1)) : GM l Z L yX12_canPut cX12_canPut 10 (some .boolean) [] d 0 0 [.ref (L 500), .int (J a1), .int (J a2), .int (J a3), .int (J a4)] S (fun v S' => v = some (.int (J x)) ∧ S1 = S') (fun _ _ => False) := GM.of (by decide) (Nat.le_of_ble_eq_true rfl) ((g_X12_canPut n).1 hL _ _ _ _ _ _ _ _ H)

def P_X12_check_0 (l : Launch) (Z : XZ) (L : Nat → Nat) (n : Nat) : Prop := ∀ (hL : L 700 = 1), ∀ (d : Nat) (S : GS) (a1 : Int) (a2 : Int) (x : Int) (S1 : GS), f_X12_check n d 0 S [a1, a2] = some (x, S1) → GA l Z L yX12_check cX12_check 4 (some .int) [] d 0 0 (fun v S' => v = some (.int (J x)) ∧ S1 = S') (fun _ _ => False) 0 (gl [(0, .ref (L 500)), (1, .int (J a1)), (2, .int (J a2))]) [] S 0 0
def P_X12_check_22 (l : Launch) (Z : XZ) (L : Nat → Nat) (n : Nat) : Prop := ∀ (hL : L 700 = 1), ∀ (d : Nat) (S : GS) (a1 : Int) (a2 : Int) (s0 : Int) (x : Int) (S1 : GS), f_X12_check n d 22 S [a1, a2, s0] = some (x, S1) → GA l Z L yX12_check cX12_check 4 (some .int) [] d 0 0 (fun v S' => v = some (.int (J x)) ∧ S1 = S') (fun _ _ => False) 22 (gl [(0, .ref (L 500)), (1, .int (J a1)), (2, .int (J a2))]) [.int (J s0), .ref (L 500)] S 0 0
def P_X12_check_54 (l : Launch) (Z : XZ) (L : Nat → Nat) (n : Nat) : Prop := ∀ (hL : L 700 = 1), ∀ (d : Nat) (S : GS) (a1 : Int) (a2 : Int) (s0 : Int) (x : Int) (S1 : GS), f_X12_check n d 54 S [a1, a2, s0] = some (x, S1) → GA l Z L yX12_check cX12_check 4 (some .int) [] d 0 0 (fun v S' => v = some (.int (J x)) ∧ S1 = S') (fun _ _ => False) 54 (gl [(0, .ref (L 500)), (1, .int (J a1)), (2, .int (J a2))]) [.int (J s0), .ref (L 500)] S 0 0
def P_X12_check_95 (l : Launch) (Z : XZ) (L : Nat → Nat) (n : Nat) : Prop := ∀ (hL : L 700 = 1), ∀ (d : Nat) (S : GS) (s0 : Int) (x : Int) (S1 : GS), f_X12_check n d 95 S [s0] = some (x, S1) → GA l Z L yX12_check cX12_check 4 (some .int) [] d 0 0 (fun v S' => v = some (.int (J x)) ∧ S1 = S') (fun _ _ => False) 95 (gl [(0, .ref (L 500))]) [.int (J s0), .ref (L 500)] S 0 0
def P_X12_check_114 (l : Launch) (Z : XZ) (L : Nat → Nat) (n : Nat) : Prop := ∀ (hL : L 700 = 1), ∀ (d : Nat) (S : GS) (a3 : Int) (x : Int) (S1 : GS), f_X12_check n d 114 S [a3] = some (x, S1) → GA l Z L yX12_check cX12_check 4 (some .int) [] d 0 0 (fun v S' => v = some (.int (J x)) ∧ S1 = S') (fun _ _ => False) 114 (gl [(0, .ref (L 500)), (3, .int (J a3))]) [] S 0 0
theorem i_X12_check {l : Launch} {Z : XZ} {L : Nat → Nat} (hL : L 700 = 1) {n : Nat} (ih : P_X12_check_0 l Z L n) {d : Nat} {S : GS} {a1 : Int} {a2 : Int} {x : Int} {S1 : GS} (H : f_X12_check n d 0 S [a1, a2] = some (x, S1)) : GM l Z L yX12_check cX12_check 4 (some .int) [] d 0 0 [.ref (L 500), .int (J a1), .int (J a2)] S (fun v S' => v = some (.int (J x)) ∧ S1 = S') (fun _ _ => False) := GM.of (by decide) (Nat.le_of_ble_eq_true rfl) (ih hL _ _ _ _ _ _ H)
set_option maxHeartbeats 4000000 in
set_option maxRecDepth 20000 in
theorem t_X12_check_0 {l : Launch} {Z : XZ} {L : Nat → Nat} (n : Nat) (ih_X12_check_0 : P_X12_check_0 l Z L n) (ih_X12_check_22 : P_X12_check_22 l Z L n) (ih_X12_check_54 : P_X12_check_54 l Z L n) (ih_X12_check_95 : P_X12_check_95 l Z L n) (ih_X12_check_114 : P_X12_check_114 l Z L n) : P_X12_check_0 l Z L (n + 1) := by
  intro hL d S a1 a2 x S1 H
  have H : b_X12_check_0 n d (f_X12_check n) S a1 a2 = some (x, S1) := H
  unfold b_X12_check_0 at H
  refine GA.aload_n dX12_check_0 rfl ?_
  refine GA.aload_n dX12_check_1 rfl ?_
  refine GA.iload_n dX12_check_2 rfl ?_
  obtain ⟨hg1, H⟩ := gg_e H
  obtain ⟨x2, S_3, hc4, H⟩ := gc_e H
  refine GA.callV (m_X12_isDoc hL hc4) xs_X12_22 dX12_check_3 (gs_500 hL) (by decide) rfl rfl (by omega) (by decide) rfl (Nat.le_of_ble_eq_true rfl) (by omega) (by omega) rfl (fun E S9 hx => hx.elim) (fun v S9 hq => ?_)
  obtain ⟨rfl, rfl⟩ := hq
  obtain ⟨hg5, H⟩ := gg_e H
  refine GV.if_eq (tgt := 21) hg5 dX12_check_6 (by decide) (fun c6 => ?_) (fun c6 => ?_)
  · have H := it_t H c6
    refine GA.iconst dX12_check_21 ?_
    refine GA.locals [(0, .ref (L 500)), (1, .int (J a1)), (2, .int (J a2))] ⟨rfl, rfl, rfl, trivial⟩ ?_
    exact ih_X12_check_22 hL _ _ (a1) (a2) (0) _ _ H
  · have H := it_f H c6
    refine GA.aload_n dX12_check_9 rfl ?_
    refine GA.iload_n dX12_check_10 rfl ?_
    obtain ⟨x7, S_8, hc9, H⟩ := gc_e H
    refine GA.callV (m_X12_isDoc hL hc9) xs_X12_22 dX12_check_11 (gs_500 hL) (by decide) rfl rfl (by omega) (by decide) rfl (Nat.le_of_ble_eq_true rfl) (by omega) (by omega) rfl (fun E S9 hx => hx.elim) (fun v S9 hq => ?_)
    obtain ⟨rfl, rfl⟩ := hq
    obtain ⟨hg10, H⟩ := gg_e H
    refine GV.if_eq (tgt := 21) hg10 dX12_check_14 (by decide) (fun c11 => ?_) (fun c11 => ?_)
    · have H := it_t H c11
      refine GA.iconst dX12_check_21 ?_
      refine GA.locals [(0, .ref (L 500)), (1, .int (J a1)), (2, .int (J a2))] ⟨rfl, rfl, rfl, trivial⟩ ?_
      exact ih_X12_check_22 hL _ _ (a1) (a2) (0) _ _ H
    · have H := it_f H c11
      refine GA.iconst dX12_check_17 ?_
      refine GA.goto (tgt := 22) dX12_check_18 (by decide) ?_
      refine GA.locals [(0, .ref (L 500)), (1, .int (J a1)), (2, .int (J a2))] ⟨rfl, rfl, rfl, trivial⟩ ?_
      exact ih_X12_check_22 hL _ _ (a1) (a2) (1) _ _ H
set_option maxHeartbeats 4000000 in
set_option maxRecDepth 20000 in
theorem t_X12_check_22 {l : Launch} {Z : XZ} {L : Nat → Nat} (n : Nat) (ih_X12_check_0 : P_X12_check_0 l Z L n) (ih_X12_check_22 : P_X12_check_22 l Z L n) (ih_X12_check_54 : P_X12_check_54 l Z L n) (ih_X12_check_95 : P_X12_check_95 l Z L n) (ih_X12_check_114 : P_X12_check_114 l Z L n) : P_X12_check_22 l Z L (n + 1) := by
  intro hL d S a1 a2 s0 x S1 H
  have H : b_X12_check_22 n d (f_X12_check n) S a1 a2 s0 = some (x, S1) := H
  unfold b_X12_check_22 at H
  refine GA.iconst dX12_check_22 ?_
  obtain ⟨hg1, H⟩ := gg_e H
  obtain ⟨x2, S_3, hc4, H⟩ := gc_e H
  refine GA.callV (m_X12_fails hL hc4) xs_X12_456 dX12_check_23 (gs_500 hL) (by decide) rfl rfl (by omega) (by decide) rfl (Nat.le_of_ble_eq_true rfl) (by omega) (by omega) rfl (fun E S9 hx => hx.elim) (fun v S9 hq => ?_)
  obtain ⟨rfl, rfl⟩ := hq
  obtain ⟨hg5, H⟩ := gg_e H
  refine GV.if_eq (tgt := 31) hg5 dX12_check_26 (by decide) (fun c6 => ?_) (fun c6 => ?_)
  · have H := it_t H c6
    refine GA.aload_n dX12_check_31 rfl ?_
    refine GA.bipush dX12_check_32 rfl ?_
    refine GA.iload_n dX12_check_34 rfl ?_
    refine GA.ldcw (v := 1000000000) xc_X12_848 dX12_check_35 ?_
    obtain ⟨x7, S_8, hc9, H⟩ := gc_e H
    refine GA.callV (m_X12_asksWhole hL hc9) xs_X12_849 dX12_check_38 (gs_500 hL) (by decide) rfl rfl (by omega) (by decide) rfl (Nat.le_of_ble_eq_true rfl) (by omega) (by omega) rfl (fun E S9 hx => hx.elim) (fun v S9 hq => ?_)
    obtain ⟨rfl, rfl⟩ := hq
    refine GA.aload_n dX12_check_41 rfl ?_
    refine GA.aload_n dX12_check_42 rfl ?_
    obtain ⟨x10, hx11, H⟩ := gv_e H
    refine GV.getI hx11 xf_X12_793 dX12_check_43 (gs_500 hL) (by decide) rfl ?_
    obtain ⟨hg12, H⟩ := gg_e H
    refine GV.if_ne (tgt := 53) hg12 dX12_check_46 (by decide) (fun c13 => ?_) (fun c13 => ?_)
    · have H := it_t H c13
      refine GA.iconst dX12_check_53 ?_
      refine GA.locals [(0, .ref (L 500)), (1, .int (J a1)), (2, .int (J a2))] ⟨rfl, rfl, rfl, trivial⟩ ?_
      exact ih_X12_check_54 hL _ _ (a1) (a2) (0) _ _ H
    · have H := it_f H c13
      refine GA.iconst dX12_check_49 ?_
      refine GA.goto (tgt := 54) dX12_check_50 (by decide) ?_
      refine GA.locals [(0, .ref (L 500)), (1, .int (J a1)), (2, .int (J a2))] ⟨rfl, rfl, rfl, trivial⟩ ?_
      exact ih_X12_check_54 hL _ _ (a1) (a2) (1) _ _ H
  · have H := it_f H c6
    refine GA.iconst dX12_check_29 ?_
    cases H
    exact GA.iret rfl dX12_check_30 (by omega) (by omega) ⟨rfl, rfl⟩
set_option maxHeartbeats 4000000 in
set_option maxRecDepth 20000 in
theorem t_X12_check_54 {l : Launch} {Z : XZ} {L : Nat → Nat} (n : Nat) (ih_X12_check_0 : P_X12_check_0 l Z L n) (ih_X12_check_22 : P_X12_check_22 l Z L n) (ih_X12_check_54 : P_X12_check_54 l Z L n) (ih_X12_check_95 : P_X12_check_95 l Z L n) (ih_X12_check_114 : P_X12_check_114 l Z L n) : P_X12_check_54 l Z L (n + 1) := by
  intro hL d S a1 a2 s0 x S1 H
  have H : b_X12_check_54 n d (f_X12_check n) S a1 a2 s0 = some (x, S1) := H
  unfold b_X12_check_54 at H
  refine GA.iconst dX12_check_54 ?_
  obtain ⟨hg1, H⟩ := gg_e H
  obtain ⟨x2, S_3, hc4, H⟩ := gc_e H
  refine GA.callV (m_X12_fails hL hc4) xs_X12_456 dX12_check_55 (gs_500 hL) (by decide) rfl rfl (by omega) (by decide) rfl (Nat.le_of_ble_eq_true rfl) (by omega) (by omega) rfl (fun E S9 hx => hx.elim) (fun v S9 hq => ?_)
  obtain ⟨rfl, rfl⟩ := hq
  obtain ⟨hg5, H⟩ := gg_e H
  refine GV.if_eq (tgt := 63) hg5 dX12_check_58 (by decide) (fun c6 => ?_) (fun c6 => ?_)
  · have H := it_t H c6
    refine GA.aload_n dX12_check_63 rfl ?_
    refine GA.iload_n dX12_check_64 rfl ?_
    refine GA.iload_n dX12_check_65 rfl ?_
    refine GA.sipush dX12_check_66 rfl ?_
    obtain ⟨x7, S_8, hc9, H⟩ := gc_e H
    refine GA.callV (m_X12_asksWhole hL hc9) xs_X12_849 dX12_check_69 (gs_500 hL) (by decide) rfl rfl (by omega) (by decide) rfl (Nat.le_of_ble_eq_true rfl) (by omega) (by omega) rfl (fun E S9 hx => hx.elim) (fun v S9 hq => ?_)
    obtain ⟨rfl, rfl⟩ := hq
    refine GA.aload_n dX12_check_72 rfl ?_
    refine GA.aload_n dX12_check_73 rfl ?_
    obtain ⟨x10, hx11, H⟩ := gv_e H
    refine GV.getB hx11 xf_X12_845 dX12_check_74 (gs_500 hL) (by decide) rfl ?_
    obtain ⟨hg12, H⟩ := gg_e H
    refine GV.if_ne (tgt := 94) hg12 dX12_check_77 (by decide) (fun c13 => ?_) (fun c13 => ?_)
    · have H := it_t H c13
      refine GA.iconst dX12_check_94 ?_
      refine GA.locals [(0, .ref (L 500))] ⟨rfl, trivial⟩ ?_
      exact ih_X12_check_95 hL _ _ (0) _ _ H
    · have H := it_f H c13
      refine GA.aload_n dX12_check_80 rfl ?_
      obtain ⟨x14, hx15, H⟩ := gv_e H
      refine GV.getI hx15 xf_X12_793 dX12_check_81 (gs_500 hL) (by decide) rfl ?_
      refine GA.sipush dX12_check_84 rfl ?_
      obtain ⟨hg16, H⟩ := gg_e H
      refine GV.icmp_gt (tgt := 94) hg16 (by decide) dX12_check_87 (by decide) (fun c17 => ?_) (fun c17 => ?_)
      · have H := it_t H c17
        refine GA.iconst dX12_check_94 ?_
        refine GA.locals [(0, .ref (L 500))] ⟨rfl, trivial⟩ ?_
        exact ih_X12_check_95 hL _ _ (0) _ _ H
      · have H := it_f H c17
        refine GA.iconst dX12_check_90 ?_
        refine GA.goto (tgt := 95) dX12_check_91 (by decide) ?_
        refine GA.locals [(0, .ref (L 500))] ⟨rfl, trivial⟩ ?_
        exact ih_X12_check_95 hL _ _ (1) _ _ H
  · have H := it_f H c6
    refine GA.iconst dX12_check_61 ?_
    cases H
    exact GA.iret rfl dX12_check_62 (by omega) (by omega) ⟨rfl, rfl⟩
set_option maxHeartbeats 4000000 in
set_option maxRecDepth 20000 in
theorem t_X12_check_95 {l : Launch} {Z : XZ} {L : Nat → Nat} (n : Nat) (ih_X12_check_0 : P_X12_check_0 l Z L n) (ih_X12_check_22 : P_X12_check_22 l Z L n) (ih_X12_check_54 : P_X12_check_54 l Z L n) (ih_X12_check_95 : P_X12_check_95 l Z L n) (ih_X12_check_114 : P_X12_check_114 l Z L n) : P_X12_check_95 l Z L (n + 1) := by
  intro hL d S s0 x S1 H
  have H : b_X12_check_95 n d (f_X12_check n) S s0 = some (x, S1) := H
  unfold b_X12_check_95 at H
  refine GA.iconst dX12_check_95 ?_
  obtain ⟨hg1, H⟩ := gg_e H
  obtain ⟨x2, S_3, hc4, H⟩ := gc_e H
  refine GA.callV (m_X12_fails hL hc4) xs_X12_456 dX12_check_96 (gs_500 hL) (by decide) rfl rfl (by omega) (by decide) rfl (Nat.le_of_ble_eq_true rfl) (by omega) (by omega) rfl (fun E S9 hx => hx.elim) (fun v S9 hq => ?_)
  obtain ⟨rfl, rfl⟩ := hq
  obtain ⟨hg5, H⟩ := gg_e H
  refine GV.if_eq (tgt := 104) hg5 dX12_check_99 (by decide) (fun c6 => ?_) (fun c6 => ?_)
  · have H := it_t H c6
    refine GA.aload_n dX12_check_104 rfl ?_
    refine GA.aload_n dX12_check_105 rfl ?_
    obtain ⟨x7, hx8, H⟩ := gv_e H
    refine GV.getI hx8 xf_X12_793 dX12_check_106 (gs_500 hL) (by decide) rfl ?_
    obtain ⟨S_9, hx10, H⟩ := gv_e H
    refine GV.putI hx10 (xp_X12_852 _) dX12_check_109 (gs_500 hL) (by decide) (Nat.le_of_ble_eq_true rfl) (gs_500 hL) ?_
    refine GA.iconst dX12_check_112 ?_
    refine GA.istore_n dX12_check_113 (by decide) ?_
    refine GA.locals [(0, .ref (L 500)), (3, .int (J 0))] ⟨rfl, rfl, trivial⟩ ?_
    exact ih_X12_check_114 hL _ _ (0) _ _ H
  · have H := it_f H c6
    refine GA.iconst dX12_check_102 ?_
    cases H
    exact GA.iret rfl dX12_check_103 (by omega) (by omega) ⟨rfl, rfl⟩
set_option maxHeartbeats 4000000 in
set_option maxRecDepth 20000 in
theorem t_X12_check_114 {l : Launch} {Z : XZ} {L : Nat → Nat} (n : Nat) (ih_X12_check_0 : P_X12_check_0 l Z L n) (ih_X12_check_22 : P_X12_check_22 l Z L n) (ih_X12_check_54 : P_X12_check_54 l Z L n) (ih_X12_check_95 : P_X12_check_95 l Z L n) (ih_X12_check_114 : P_X12_check_114 l Z L n) : P_X12_check_114 l Z L (n + 1) := by
  intro hL d S a3 x S1 H
  have H : b_X12_check_114 n d (f_X12_check n) S a3 = some (x, S1) := H
  unfold b_X12_check_114 at H
  refine GA.iload_n dX12_check_114 rfl ?_
  refine GA.aload_n dX12_check_115 rfl ?_
  obtain ⟨x1, hx2, H⟩ := gv_e H
  refine GV.getI hx2 xf_X12_793 dX12_check_116 (gs_500 hL) (by decide) rfl ?_
  obtain ⟨hg3, H⟩ := gg_e H
  obtain ⟨hg4, H⟩ := gg_e H
  refine GV.icmp_ge (tgt := 140) hg3 hg4 dX12_check_119 (by decide) (fun c5 => ?_) (fun c5 => ?_)
  · have H := it_t H c5
    refine GA.aload_n dX12_check_140 rfl ?_
    obtain ⟨x6, hx7, H⟩ := gv_e H
    refine GV.getI hx7 xf_X12_852 dX12_check_141 (gs_500 hL) (by decide) rfl ?_
    cases H
    exact GA.iret rfl dX12_check_144 (by omega) (by omega) ⟨rfl, rfl⟩
  · have H := it_f H c5
    refine GA.aload_n dX12_check_122 rfl ?_
    refine GA.get xf_X12_436 dX12_check_123 (gs_500 hL) (by decide) rfl ?_
    refine GA.iload_n dX12_check_126 rfl ?_
    refine GA.aload_n dX12_check_127 rfl ?_
    refine GA.get xf_X12_433 dX12_check_128 (gs_500 hL) (by decide) rfl ?_
    refine GA.iload_n dX12_check_131 rfl ?_
    obtain ⟨hg8, H⟩ := gg_e H
    obtain ⟨x9, hx10, H⟩ := gv_e H
    refine GV.iald hg8 hx10 dX12_check_132 (gs_551 hL) (by decide) ?_
    obtain ⟨hg11, H⟩ := gg_e H
    obtain ⟨S_12, hx13, H⟩ := gv_e H
    refine GV.iast hg11 hx13 dX12_check_133 (fun _ => (gs_552 hL)) (by decide) ?_
    obtain ⟨x14, hx15, H⟩ := gv_e H
    refine GV.iinc hx15 dX12_check_134 rfl (by decide) ?_
    refine GA.goto (tgt := 114) dX12_check_137 (by decide) ?_
    refine GA.locals [(0, .ref (L 500)), (3, .int (J x14))] ⟨rfl, rfl, trivial⟩ ?_
    exact ih_X12_check_114 hL _ _ (x14) _ _ H
theorem g_X12_check {l : Launch} {Z : XZ} {L : Nat → Nat} : ∀ n, P_X12_check_0 l Z L n ∧ P_X12_check_22 l Z L n ∧ P_X12_check_54 l Z L n ∧ P_X12_check_95 l Z L n ∧ P_X12_check_114 l Z L n
  | 0 => ⟨fun _ _ _ _ _ _ _ H => no_e H, fun _ _ _ _ _ _ _ _ H => no_e H, fun _ _ _ _ _ _ _ _ H => no_e H, fun _ _ _ _ _ _ H => no_e H, fun _ _ _ _ _ _ H => no_e H⟩
  | n + 1 => have ⟨h0, h1, h2, h3, h4⟩ := g_X12_check (l := l) (Z := Z) (L := L) n
    ⟨t_X12_check_0 n h0 h1 h2 h3 h4, t_X12_check_22 n h0 h1 h2 h3 h4, t_X12_check_54 n h0 h1 h2 h3 h4, t_X12_check_95 n h0 h1 h2 h3 h4, t_X12_check_114 n h0 h1 h2 h3 h4⟩
theorem m_X12_check {l : Launch} {Z : XZ} {L : Nat → Nat} (hL : L 700 = 1) {n d : Nat} {S : GS} {a1 : Int} {a2 : Int} {x : Int} {S1 : GS} (H : f_X12_check n d 0 S [a1, a2] = some (x, S1)) : GM l Z L yX12_check cX12_check 4 (some .int) [] d 0 0 [.ref (L 500), .int (J a1), .int (J a2)] S (fun v S' => v = some (.int (J x)) ∧ S1 = S') (fun _ _ => False) := GM.of (by decide) (Nat.le_of_ble_eq_true rfl) ((g_X12_check n).1 hL _ _ _ _ _ _ H)

def P_X12_lastLike_0 (l : Launch) (Z : XZ) (L : Nat → Nat) (n : Nat) : Prop := ∀ (hL : L 700 = 1), ∀ (d : Nat) (S : GS) (a1 : Int) (a2 : Int) (a3 : Int) (x : Int) (S1 : GS), f_X12_lastLike n d 0 S [a1, a2, a3] = some (x, S1) → GA l Z L yX12_lastLike cX12_lastLike 6 (some .int) [] d 0 0 (fun v S' => v = some (.int (J x)) ∧ S1 = S') (fun _ _ => False) 0 (gl [(0, .ref (L 500)), (1, .int (J a1)), (2, .int (J a2)), (3, .int (J a3))]) [] S 0 0
def P_X12_lastLike_8 (l : Launch) (Z : XZ) (L : Nat → Nat) (n : Nat) : Prop := ∀ (hL : L 700 = 1), ∀ (d : Nat) (S : GS) (a1 : Int) (a2 : Int) (a3 : Int) (a4 : Int) (a5 : Int) (x : Int) (S1 : GS), f_X12_lastLike n d 8 S [a1, a2, a3, a4, a5] = some (x, S1) → GA l Z L yX12_lastLike cX12_lastLike 6 (some .int) [] d 0 0 (fun v S' => v = some (.int (J x)) ∧ S1 = S') (fun _ _ => False) 8 (gl [(0, .ref (L 500)), (1, .int (J a1)), (2, .int (J a2)), (3, .int (J a3)), (4, .int (J a4)), (5, .int (J a5))]) [] S 0 0
theorem i_X12_lastLike {l : Launch} {Z : XZ} {L : Nat → Nat} (hL : L 700 = 1) {n : Nat} (ih : P_X12_lastLike_0 l Z L n) {d : Nat} {S : GS} {a1 : Int} {a2 : Int} {a3 : Int} {x : Int} {S1 : GS} (H : f_X12_lastLike n d 0 S [a1, a2, a3] = some (x, S1)) : GM l Z L yX12_lastLike cX12_lastLike 6 (some .int) [] d 0 0 [.ref (L 500), .int (J a1), .int (J a2), .int (J a3)] S (fun v S' => v = some (.int (J x)) ∧ S1 = S') (fun _ _ => False) := GM.of (by decide) (Nat.le_of_ble_eq_true rfl) (ih hL _ _ _ _ _ _ _ H)
set_option maxHeartbeats 4000000 in
set_option maxRecDepth 20000 in
theorem t_X12_lastLike_0 {l : Launch} {Z : XZ} {L : Nat → Nat} (n : Nat) (ih_X12_lastLike_0 : P_X12_lastLike_0 l Z L n) (ih_X12_lastLike_8 : P_X12_lastLike_8 l Z L n) : P_X12_lastLike_0 l Z L (n + 1) := by
  intro hL d S a1 a2 a3 x S1 H
  have H : b_X12_lastLike_0 n d (f_X12_lastLike n) S a1 a2 a3 = some (x, S1) := H
  unfold b_X12_lastLike_0 at H
  refine GA.iload_n dX12_lastLike_0 rfl ?_
  refine GA.istore dX12_lastLike_1 (by decide) ?_
  refine GA.iload_n dX12_lastLike_3 rfl ?_
  refine GA.iconst dX12_lastLike_4 ?_
  obtain ⟨x1, hx2, H⟩ := gv_e H
  refine GV.iadd hx2 dX12_lastLike_5 ?_
  refine GA.istore dX12_lastLike_6 (by decide) ?_
  refine GA.locals [(0, .ref (L 500)), (1, .int (J a1)), (2, .int (J a2)), (3, .int (J a3)), (4, .int (J a3)), (5, .int (J x1))] ⟨rfl, rfl, rfl, rfl, rfl, rfl, trivial⟩ ?_
  exact ih_X12_lastLike_8 hL _ _ (a1) (a2) (a3) (a3) (x1) _ _ H
set_option maxHeartbeats 4000000 in
set_option maxRecDepth 20000 in
theorem t_X12_lastLike_8 {l : Launch} {Z : XZ} {L : Nat → Nat} (n : Nat) (ih_X12_lastLike_0 : P_X12_lastLike_0 l Z L n) (ih_X12_lastLike_8 : P_X12_lastLike_8 l Z L n) : P_X12_lastLike_8 l Z L (n + 1) := by
  intro hL d S a1 a2 a3 a4 a5 x S1 H
  have H : b_X12_lastLike_8 n d (f_X12_lastLike n) S a1 a2 a3 a4 a5 = some (x, S1) := H
  unfold b_X12_lastLike_8 at H
  refine GA.iload dX12_lastLike_8 rfl ?_
  refine GA.aload_n dX12_lastLike_10 rfl ?_
  refine GA.iload_n dX12_lastLike_11 rfl ?_
  refine GA.iload_n dX12_lastLike_12 rfl ?_
  obtain ⟨hg1, H⟩ := gg_e H
  obtain ⟨x2, S_3, hc4, H⟩ := gc_e H
  refine GA.callV (m_X12_endOf hL hc4) xs_X12_49 dX12_lastLike_13 (gs_500 hL) (by decide) rfl rfl (by omega) (by decide) rfl (Nat.le_of_ble_eq_true rfl) (by omega) (by omega) rfl (fun E S9 hx => hx.elim) (fun v S9 hq => ?_)
  obtain ⟨rfl, rfl⟩ := hq
  obtain ⟨hg5, H⟩ := gg_e H
  obtain ⟨hg6, H⟩ := gg_e H
  refine GV.icmp_ge (tgt := 52) hg5 hg6 dX12_lastLike_16 (by decide) (fun c7 => ?_) (fun c7 => ?_)
  · have H := it_t H c7
    refine GA.iload dX12_lastLike_52 rfl ?_
    cases H
    exact GA.iret rfl dX12_lastLike_54 (by omega) (by omega) ⟨rfl, rfl⟩
  · have H := it_f H c7
    refine GA.aload_n dX12_lastLike_19 rfl ?_
    refine GA.iload_n dX12_lastLike_20 rfl ?_
    refine GA.iload dX12_lastLike_21 rfl ?_
    refine GA.iload_n dX12_lastLike_23 rfl ?_
    refine GA.iload_n dX12_lastLike_24 rfl ?_
    obtain ⟨x8, S_9, hc10, H⟩ := gc_e H
    refine GA.callV (m_X12_byKeys hL hc10) xs_X12_62 dX12_lastLike_25 (gs_500 hL) (by decide) rfl rfl (by omega) (by decide) rfl (Nat.le_of_ble_eq_true rfl) (by omega) (by omega) rfl (fun E S9 hx => hx.elim) (fun v S9 hq => ?_)
    obtain ⟨rfl, rfl⟩ := hq
    obtain ⟨hg11, H⟩ := gg_e H
    refine GV.if_ne (tgt := 36) hg11 dX12_lastLike_28 (by decide) (fun c12 => ?_) (fun c12 => ?_)
    · have H := it_t H c12
      refine GA.iload dX12_lastLike_36 rfl ?_
      refine GA.istore dX12_lastLike_38 (by decide) ?_
      refine GA.aload_n dX12_lastLike_40 rfl ?_
      refine GA.iload_n dX12_lastLike_41 rfl ?_
      refine GA.iload dX12_lastLike_42 rfl ?_
      obtain ⟨x13, S_14, hc15, H⟩ := gc_e H
      refine GA.callV (m_X12_endOf hL hc15) xs_X12_49 dX12_lastLike_44 (gs_500 hL) (by decide) rfl rfl (by omega) (by decide) rfl (Nat.le_of_ble_eq_true rfl) (by omega) (by omega) rfl (fun E S9 hx => hx.elim) (fun v S9 hq => ?_)
      obtain ⟨rfl, rfl⟩ := hq
      refine GA.istore dX12_lastLike_47 (by decide) ?_
      refine GA.goto (tgt := 8) dX12_lastLike_49 (by decide) ?_
      refine GA.locals [(0, .ref (L 500)), (1, .int (J a1)), (2, .int (J a2)), (3, .int (J a3)), (4, .int (J a4)), (5, .int (J x13))] ⟨rfl, rfl, rfl, rfl, rfl, rfl, trivial⟩ ?_
      exact ih_X12_lastLike_8 hL _ _ (a1) (a2) (a3) (a4) (x13) _ _ H
    · have H := it_f H c12
      refine GA.iload dX12_lastLike_31 rfl ?_
      refine GA.goto (tgt := 38) dX12_lastLike_33 (by decide) ?_
      refine GA.istore dX12_lastLike_38 (by decide) ?_
      refine GA.aload_n dX12_lastLike_40 rfl ?_
      refine GA.iload_n dX12_lastLike_41 rfl ?_
      refine GA.iload dX12_lastLike_42 rfl ?_
      obtain ⟨x16, S_17, hc18, H⟩ := gc_e H
      refine GA.callV (m_X12_endOf hL hc18) xs_X12_49 dX12_lastLike_44 (gs_500 hL) (by decide) rfl rfl (by omega) (by decide) rfl (Nat.le_of_ble_eq_true rfl) (by omega) (by omega) rfl (fun E S9 hx => hx.elim) (fun v S9 hq => ?_)
      obtain ⟨rfl, rfl⟩ := hq
      refine GA.istore dX12_lastLike_47 (by decide) ?_
      refine GA.goto (tgt := 8) dX12_lastLike_49 (by decide) ?_
      refine GA.locals [(0, .ref (L 500)), (1, .int (J a1)), (2, .int (J a2)), (3, .int (J a3)), (4, .int (J a5)), (5, .int (J x16))] ⟨rfl, rfl, rfl, rfl, rfl, rfl, trivial⟩ ?_
      exact ih_X12_lastLike_8 hL _ _ (a1) (a2) (a3) (a5) (x16) _ _ H
theorem g_X12_lastLike {l : Launch} {Z : XZ} {L : Nat → Nat} : ∀ n, P_X12_lastLike_0 l Z L n ∧ P_X12_lastLike_8 l Z L n
  | 0 => ⟨fun _ _ _ _ _ _ _ _ H => no_e H, fun _ _ _ _ _ _ _ _ _ _ H => no_e H⟩
  | n + 1 => have ⟨h0, h1⟩ := g_X12_lastLike (l := l) (Z := Z) (L := L) n
    ⟨t_X12_lastLike_0 n h0 h1, t_X12_lastLike_8 n h0 h1⟩
theorem m_X12_lastLike {l : Launch} {Z : XZ} {L : Nat → Nat} (hL : L 700 = 1) {n d : Nat} {S : GS} {a1 : Int} {a2 : Int} {a3 : Int} {x : Int} {S1 : GS} (H : f_X12_lastLike n d 0 S [a1, a2, a3] = some (x, S1)) : GM l Z L yX12_lastLike cX12_lastLike 6 (some .int) [] d 0 0 [.ref (L 500), .int (J a1), .int (J a2), .int (J a3)] S (fun v S' => v = some (.int (J x)) ∧ S1 = S') (fun _ _ => False) := GM.of (by decide) (Nat.le_of_ble_eq_true rfl) ((g_X12_lastLike n).1 hL _ _ _ _ _ _ _ H)

def P_X12_choose_0 (l : Launch) (Z : XZ) (L : Nat → Nat) (n : Nat) : Prop := ∀ (hL : L 700 = 1), ∀ (d : Nat) (S : GS) (a1 : Int) (a2 : Int) (a3 : Int) (a4 : Int) (x : Int) (S1 : GS), f_X12_choose n d 0 S [a1, a2, a3, a4] = some (x, S1) → GA l Z L yX12_choose cX12_choose 10 none [] d 0 0 (fun v S' => v = none ∧ S1 = S') (fun _ _ => False) 0 (gl [(0, .ref (L 500)), (1, .int (J a1)), (2, .int (J a2)), (3, .int (J a3)), (4, .int (J a4))]) [] S 0 0
def P_X12_choose_49 (l : Launch) (Z : XZ) (L : Nat → Nat) (n : Nat) : Prop := ∀ (hL : L 700 = 1), ∀ (d : Nat) (S : GS) (a1 : Int) (a3 : Int) (a4 : Int) (a5 : Int) (x : Int) (S1 : GS), f_X12_choose n d 49 S [a1, a3, a4, a5] = some (x, S1) → GA l Z L yX12_choose cX12_choose 10 none [] d 0 0 (fun v S' => v = none ∧ S1 = S') (fun _ _ => False) 49 (gl [(0, .ref (L 500)), (1, .int (J a1)), (3, .int (J a3)), (4, .int (J a4)), (5, .int (J a5))]) [] S 0 0
def P_X12_choose_98 (l : Launch) (Z : XZ) (L : Nat → Nat) (n : Nat) : Prop := ∀ (hL : L 700 = 1), ∀ (d : Nat) (S : GS) (a1 : Int) (a3 : Int) (a4 : Int) (a5 : Int) (a7 : Int) (s0 : Int) (x : Int) (S1 : GS), f_X12_choose n d 98 S [a1, a3, a4, a5, a7, s0] = some (x, S1) → GA l Z L yX12_choose cX12_choose 10 none [] d 0 0 (fun v S' => v = none ∧ S1 = S') (fun _ _ => False) 98 (gl [(0, .ref (L 500)), (1, .int (J a1)), (3, .int (J a3)), (4, .int (J a4)), (5, .int (J a5)), (7, .int (J a7))]) [.int (J s0)] S 0 0
def P_X12_choose_154 (l : Launch) (Z : XZ) (L : Nat → Nat) (n : Nat) : Prop := ∀ (hL : L 700 = 1), ∀ (d : Nat) (S : GS) (a1 : Int) (a3 : Int) (a4 : Int) (a5 : Int) (s0 : Int) (x : Int) (S1 : GS), f_X12_choose n d 154 S [a1, a3, a4, a5, s0] = some (x, S1) → GA l Z L yX12_choose cX12_choose 10 none [] d 0 0 (fun v S' => v = none ∧ S1 = S') (fun _ _ => False) 154 (gl [(0, .ref (L 500)), (1, .int (J a1)), (3, .int (J a3)), (4, .int (J a4)), (5, .int (J a5))]) [.int (J s0)] S 0 0
theorem i_X12_choose {l : Launch} {Z : XZ} {L : Nat → Nat} (hL : L 700 = 1) {n : Nat} (ih : P_X12_choose_0 l Z L n) {d : Nat} {S : GS} {a1 : Int} {a2 : Int} {a3 : Int} {a4 : Int} {x : Int} {S1 : GS} (H : f_X12_choose n d 0 S [a1, a2, a3, a4] = some (x, S1)) : GM l Z L yX12_choose cX12_choose 10 none [] d 0 0 [.ref (L 500), .int (J a1), .int (J a2), .int (J a3), .int (J a4)] S (fun v S' => v = none ∧ S1 = S') (fun _ _ => False) := GM.of (by decide) (Nat.le_of_ble_eq_true rfl) (ih hL _ _ _ _ _ _ _ _ H)
set_option maxHeartbeats 4000000 in
set_option maxRecDepth 20000 in
theorem t_X12_choose_0 {l : Launch} {Z : XZ} {L : Nat → Nat} (n : Nat) (ih_X12_choose_0 : P_X12_choose_0 l Z L n) (ih_X12_choose_49 : P_X12_choose_49 l Z L n) (ih_X12_choose_98 : P_X12_choose_98 l Z L n) (ih_X12_choose_154 : P_X12_choose_154 l Z L n) : P_X12_choose_0 l Z L (n + 1) := by
  intro hL d S a1 a2 a3 a4 x S1 H
  have H : b_X12_choose_0 n d (f_X12_choose n) S a1 a2 a3 a4 = some (x, S1) := H
  unfold b_X12_choose_0 at H
  refine GA.aload_n dX12_choose_0 rfl ?_
  refine GA.iload_n dX12_choose_1 rfl ?_
  obtain ⟨hg1, H⟩ := gg_e H
  obtain ⟨x2, S_3, hc4, H⟩ := gc_e H
  refine GA.callV (m_X12_begin hL hc4) xs_X12_517 dX12_choose_2 (gs_500 hL) (by decide) rfl rfl (by omega) (by decide) rfl (Nat.le_of_ble_eq_true rfl) (by omega) (by omega) rfl (fun E S9 hx => hx.elim) (fun v S9 hq => ?_)
  obtain ⟨rfl, rfl⟩ := hq
  refine GA.iconst dX12_choose_5 ?_
  refine GA.istore dX12_choose_6 (by decide) ?_
  refine GA.aload_n dX12_choose_8 rfl ?_
  refine GA.iload_n dX12_choose_9 rfl ?_
  refine GA.iload_n dX12_choose_10 rfl ?_
  refine GA.iload_n dX12_choose_11 rfl ?_
  obtain ⟨x5, S_6, hc7, H⟩ := gc_e H
  refine GA.callV (m_X12_like hL hc7) xs_X12_40 dX12_choose_12 (gs_500 hL) (by decide) rfl rfl (by omega) (by decide) rfl (Nat.le_of_ble_eq_true rfl) (by omega) (by omega) rfl (fun E S9 hx => hx.elim) (fun v S9 hq => ?_)
  obtain ⟨rfl, rfl⟩ := hq
  refine GA.istore dX12_choose_15 (by decide) ?_
  refine GA.aload_n dX12_choose_17 rfl ?_
  refine GA.iload_n dX12_choose_18 rfl ?_
  refine GA.iload dX12_choose_19 rfl ?_
  obtain ⟨x8, S_9, hc10, H⟩ := gc_e H
  refine GA.callV (m_X12_noKey hL hc10) xs_X12_542 dX12_choose_21 (gs_500 hL) (by decide) rfl rfl (by omega) (by decide) rfl (Nat.le_of_ble_eq_true rfl) (by omega) (by omega) rfl (fun E S9 hx => hx.elim) (fun v S9 hq => ?_)
  obtain ⟨rfl, rfl⟩ := hq
  refine GA.aload_n dX12_choose_24 rfl ?_
  refine GA.get xf_X12_259 dX12_choose_25 (gs_500 hL) (by decide) rfl ?_
  refine GA.iconst dX12_choose_28 ?_
  refine GA.iload_n dX12_choose_29 rfl ?_
  obtain ⟨hg11, H⟩ := gg_e H
  obtain ⟨S_12, hx13, H⟩ := gv_e H
  refine GV.iast hg11 hx13 dX12_choose_30 (fun _ => (gs_513 hL)) (by decide) ?_
  refine GA.aload_n dX12_choose_31 rfl ?_
  refine GA.get xf_X12_262 dX12_choose_32 (gs_500 hL) (by decide) rfl ?_
  refine GA.iconst dX12_choose_35 ?_
  refine GA.iload dX12_choose_36 rfl ?_
  obtain ⟨S_14, hx15, H⟩ := gv_e H
  refine GV.iast hg11 hx15 dX12_choose_38 (fun _ => (gs_514 hL)) (by decide) ?_
  refine GA.aload_n dX12_choose_39 rfl ?_
  refine GA.get xf_X12_265 dX12_choose_40 (gs_500 hL) (by decide) rfl ?_
  refine GA.iconst dX12_choose_43 ?_
  refine GA.iconst dX12_choose_44 ?_
  obtain ⟨S_16, hx17, H⟩ := gv_e H
  refine GV.iast hg11 hx17 dX12_choose_45 (fun _ => (gs_515 hL)) (by decide) ?_
  refine GA.iconst dX12_choose_46 ?_
  refine GA.istore dX12_choose_47 (by decide) ?_
  refine GA.locals [(0, .ref (L 500)), (1, .int (J a1)), (3, .int (J a3)), (4, .int (J a4)), (5, .int (J 1))] ⟨rfl, rfl, rfl, rfl, rfl, trivial⟩ ?_
  exact ih_X12_choose_49 hL _ _ (a1) (a3) (a4) (1) _ _ H
set_option maxHeartbeats 4000000 in
set_option maxRecDepth 20000 in
theorem t_X12_choose_49 {l : Launch} {Z : XZ} {L : Nat → Nat} (n : Nat) (ih_X12_choose_0 : P_X12_choose_0 l Z L n) (ih_X12_choose_49 : P_X12_choose_49 l Z L n) (ih_X12_choose_98 : P_X12_choose_98 l Z L n) (ih_X12_choose_154 : P_X12_choose_154 l Z L n) : P_X12_choose_49 l Z L (n + 1) := by
  intro hL d S a1 a3 a4 a5 x S1 H
  have H : b_X12_choose_49 n d (f_X12_choose n) S a1 a3 a4 a5 = some (x, S1) := H
  unfold b_X12_choose_49 at H
  refine GA.iload dX12_choose_49 rfl ?_
  obtain ⟨hg1, H⟩ := gg_e H
  refine GV.if_le (tgt := 233) hg1 dX12_choose_51 (by decide) (fun c2 => ?_) (fun c2 => ?_)
  · have H := it_t H c2
    cases H
    exact GA.vret rfl dX12_choose_233 (by omega) (by omega) ⟨rfl, rfl⟩
  · have H := it_f H c2
    refine GA.aload_n dX12_choose_54 rfl ?_
    refine GA.get xf_X12_259 dX12_choose_55 (gs_500 hL) (by decide) rfl ?_
    refine GA.iload dX12_choose_58 rfl ?_
    refine GA.iconst dX12_choose_60 ?_
    obtain ⟨x3, hx4, H⟩ := gv_e H
    refine GV.isub hx4 dX12_choose_61 ?_
    obtain ⟨hg5, H⟩ := gg_e H
    obtain ⟨x6, hx7, H⟩ := gv_e H
    refine GV.iald hg5 hx7 dX12_choose_62 (gs_513 hL) (by decide) ?_
    refine GA.istore dX12_choose_63 (by decide) ?_
    refine GA.aload_n dX12_choose_65 rfl ?_
    refine GA.iload_n dX12_choose_66 rfl ?_
    refine GA.iload dX12_choose_67 rfl ?_
    refine GA.iconst dX12_choose_69 ?_
    obtain ⟨hg8, H⟩ := gg_e H
    obtain ⟨x9, S_10, hc11, H⟩ := gc_e H
    refine GA.callV (m_X12_part hL hc11) xs_X12_36 dX12_choose_70 (gs_500 hL) (by decide) rfl rfl (by omega) (by decide) rfl (Nat.le_of_ble_eq_true rfl) (by omega) (by omega) rfl (fun E S9 hx => hx.elim) (fun v S9 hq => ?_)
    obtain ⟨rfl, rfl⟩ := hq
    obtain ⟨hg12, H⟩ := gg_e H
    refine GV.if_ne (tgt := 80) hg12 dX12_choose_73 (by decide) (fun c13 => ?_) (fun c13 => ?_)
    · have H := it_t H c13
      refine GA.aload_n dX12_choose_80 rfl ?_
      refine GA.iload_n dX12_choose_81 rfl ?_
      refine GA.iload dX12_choose_82 rfl ?_
      refine GA.aload_n dX12_choose_84 rfl ?_
      refine GA.get xf_X12_265 dX12_choose_85 (gs_500 hL) (by decide) rfl ?_
      refine GA.iload dX12_choose_88 rfl ?_
      refine GA.iconst dX12_choose_90 ?_
      obtain ⟨x14, hx15, H⟩ := gv_e H
      refine GV.isub hx15 dX12_choose_91 ?_
      obtain ⟨hg16, H⟩ := gg_e H
      obtain ⟨x17, hx18, H⟩ := gv_e H
      refine GV.iald hg16 hx18 dX12_choose_92 (gs_515 hL) (by decide) ?_
      refine GA.iload dX12_choose_93 rfl ?_
      obtain ⟨x19, S_20, hc21, H⟩ := gc_e H
      refine GA.callV (m_X12_nextChild hL hc21) xs_X12_545 dX12_choose_95 (gs_500 hL) (by decide) rfl rfl (by omega) (by decide) rfl (Nat.le_of_ble_eq_true rfl) (by omega) (by omega) rfl (fun E S9 hx => hx.elim) (fun v S9 hq => ?_)
      obtain ⟨rfl, rfl⟩ := hq
      refine GA.locals [(0, .ref (L 500)), (1, .int (J a1)), (3, .int (J a3)), (4, .int (J a4)), (5, .int (J a5)), (7, .int (J x6))] ⟨rfl, rfl, rfl, rfl, rfl, rfl, trivial⟩ ?_
      exact ih_X12_choose_98 hL _ _ (a1) (a3) (a4) (a5) (x6) (x19) _ _ H
    · have H := it_f H c13
      refine GA.iconst dX12_choose_76 ?_
      refine GA.goto (tgt := 98) dX12_choose_77 (by decide) ?_
      refine GA.locals [(0, .ref (L 500)), (1, .int (J a1)), (3, .int (J a3)), (4, .int (J a4)), (5, .int (J a5)), (7, .int (J x6))] ⟨rfl, rfl, rfl, rfl, rfl, rfl, trivial⟩ ?_
      exact ih_X12_choose_98 hL _ _ (a1) (a3) (a4) (a5) (x6) ((-1)) _ _ H
set_option maxHeartbeats 4000000 in
set_option maxRecDepth 20000 in
theorem t_X12_choose_98 {l : Launch} {Z : XZ} {L : Nat → Nat} (n : Nat) (ih_X12_choose_0 : P_X12_choose_0 l Z L n) (ih_X12_choose_49 : P_X12_choose_49 l Z L n) (ih_X12_choose_98 : P_X12_choose_98 l Z L n) (ih_X12_choose_154 : P_X12_choose_154 l Z L n) : P_X12_choose_98 l Z L (n + 1) := by
  intro hL d S a1 a3 a4 a5 a7 s0 x S1 H
  have H : b_X12_choose_98 n d (f_X12_choose n) S a1 a3 a4 a5 a7 s0 = some (x, S1) := H
  unfold b_X12_choose_98 at H
  refine GA.istore dX12_choose_98 (by decide) ?_
  refine GA.iload dX12_choose_100 rfl ?_
  refine GA.iconst dX12_choose_102 ?_
  obtain ⟨hg1, H⟩ := gg_e H
  refine GV.icmp_ne (tgt := 112) hg1 (by decide) dX12_choose_103 (by decide) (fun c2 => ?_) (fun c2 => ?_)
  · have H := it_t H c2
    refine GA.aload_n dX12_choose_112 rfl ?_
    refine GA.get xf_X12_265 dX12_choose_113 (gs_500 hL) (by decide) rfl ?_
    refine GA.iload dX12_choose_116 rfl ?_
    refine GA.iconst dX12_choose_118 ?_
    obtain ⟨x3, hx4, H⟩ := gv_e H
    refine GV.isub hx4 dX12_choose_119 ?_
    refine GA.iload dX12_choose_120 rfl ?_
    obtain ⟨hg5, H⟩ := gg_e H
    obtain ⟨S_6, hx7, H⟩ := gv_e H
    refine GV.iast hg5 hx7 dX12_choose_122 (fun _ => (gs_515 hL)) (by decide) ?_
    refine GA.iload dX12_choose_123 rfl ?_
    refine GA.iconst dX12_choose_125 ?_
    obtain ⟨hg8, H⟩ := gg_e H
    refine GV.icmp_ne (tgt := 152) hg8 (by decide) dX12_choose_126 (by decide) (fun c9 => ?_) (fun c9 => ?_)
    · have H := it_t H c9
      refine GA.iload dX12_choose_152 rfl ?_
      refine GA.locals [(0, .ref (L 500)), (1, .int (J a1)), (3, .int (J a3)), (4, .int (J a4)), (5, .int (J a5))] ⟨rfl, rfl, rfl, rfl, rfl, trivial⟩ ?_
      exact ih_X12_choose_154 hL _ _ (a1) (a3) (a4) (a5) (s0) _ _ H
    · have H := it_f H c9
      refine GA.aload_n dX12_choose_129 rfl ?_
      refine GA.iload_n dX12_choose_130 rfl ?_
      refine GA.iload dX12_choose_131 rfl ?_
      obtain ⟨hg10, H⟩ := gg_e H
      obtain ⟨x11, S_12, hc13, H⟩ := gc_e H
      refine GA.callV (m_X12_kind hL hc13) xs_X12_52 dX12_choose_133 (gs_500 hL) (by decide) rfl rfl (by omega) (by decide) rfl (Nat.le_of_ble_eq_true rfl) (by omega) (by omega) rfl (fun E S9 hx => hx.elim) (fun v S9 hq => ?_)
      obtain ⟨rfl, rfl⟩ := hq
      refine GA.iconst dX12_choose_136 ?_
      obtain ⟨hg14, H⟩ := gg_e H
      refine GV.icmp_ne (tgt := 152) hg14 (by decide) dX12_choose_137 (by decide) (fun c15 => ?_) (fun c15 => ?_)
      · have H := it_t H c15
        refine GA.iload dX12_choose_152 rfl ?_
        refine GA.locals [(0, .ref (L 500)), (1, .int (J a1)), (3, .int (J a3)), (4, .int (J a4)), (5, .int (J a5))] ⟨rfl, rfl, rfl, rfl, rfl, trivial⟩ ?_
        exact ih_X12_choose_154 hL _ _ (a1) (a3) (a4) (a5) (s0) _ _ H
      · have H := it_f H c15
        refine GA.aload_n dX12_choose_140 rfl ?_
        refine GA.iload_n dX12_choose_141 rfl ?_
        refine GA.iload dX12_choose_142 rfl ?_
        refine GA.iload dX12_choose_144 rfl ?_
        obtain ⟨x16, S_17, hc18, H⟩ := gc_e H
        refine GA.callV (m_X12_lastLike hL hc18) xs_X12_548 dX12_choose_146 (gs_500 hL) (by decide) rfl rfl (by omega) (by decide) rfl (Nat.le_of_ble_eq_true rfl) (by omega) (by omega) rfl (fun E S9 hx => hx.elim) (fun v S9 hq => ?_)
        obtain ⟨rfl, rfl⟩ := hq
        refine GA.goto (tgt := 154) dX12_choose_149 (by decide) ?_
        refine GA.locals [(0, .ref (L 500)), (1, .int (J a1)), (3, .int (J a3)), (4, .int (J a4)), (5, .int (J a5))] ⟨rfl, rfl, rfl, rfl, rfl, trivial⟩ ?_
        exact ih_X12_choose_154 hL _ _ (a1) (a3) (a4) (a5) (x16) _ _ H
  · have H := it_f H c2
    obtain ⟨x19, hx20, H⟩ := gv_e H
    refine GV.iinc hx20 dX12_choose_106 rfl (by decide) ?_
    refine GA.goto (tgt := 230) dX12_choose_109 (by decide) ?_
    refine GA.goto (tgt := 49) dX12_choose_230 (by decide) ?_
    refine GA.locals [(0, .ref (L 500)), (1, .int (J a1)), (3, .int (J a3)), (4, .int (J a4)), (5, .int (J x19))] ⟨rfl, rfl, rfl, rfl, rfl, trivial⟩ ?_
    exact ih_X12_choose_49 hL _ _ (a1) (a3) (a4) (x19) _ _ H
set_option maxHeartbeats 4000000 in
set_option maxRecDepth 20000 in
theorem t_X12_choose_154 {l : Launch} {Z : XZ} {L : Nat → Nat} (n : Nat) (ih_X12_choose_0 : P_X12_choose_0 l Z L n) (ih_X12_choose_49 : P_X12_choose_49 l Z L n) (ih_X12_choose_98 : P_X12_choose_98 l Z L n) (ih_X12_choose_154 : P_X12_choose_154 l Z L n) : P_X12_choose_154 l Z L (n + 1) := by
  intro hL d S a1 a3 a4 a5 s0 x S1 H
  have H : b_X12_choose_154 n d (f_X12_choose n) S a1 a3 a4 a5 s0 = some (x, S1) := H
  unfold b_X12_choose_154 at H
  refine GA.istore dX12_choose_154 (by decide) ?_
  refine GA.aload_n dX12_choose_156 rfl ?_
  refine GA.iload_n dX12_choose_157 rfl ?_
  refine GA.iload_n dX12_choose_158 rfl ?_
  refine GA.iload dX12_choose_159 rfl ?_
  obtain ⟨hg1, H⟩ := gg_e H
  obtain ⟨x2, S_3, hc4, H⟩ := gc_e H
  refine GA.callV (m_X12_like hL hc4) xs_X12_40 dX12_choose_161 (gs_500 hL) (by decide) rfl rfl (by omega) (by decide) rfl (Nat.le_of_ble_eq_true rfl) (by omega) (by omega) rfl (fun E S9 hx => hx.elim) (fun v S9 hq => ?_)
  obtain ⟨rfl, rfl⟩ := hq
  refine GA.istore dX12_choose_164 (by decide) ?_
  refine GA.aload_n dX12_choose_166 rfl ?_
  refine GA.get xf_X12_7 dX12_choose_167 (gs_500 hL) (by decide) rfl ?_
  refine GA.iload_n dX12_choose_170 rfl ?_
  refine GA.aload_n dX12_choose_171 rfl ?_
  refine GA.get xf_X12_262 dX12_choose_172 (gs_500 hL) (by decide) rfl ?_
  refine GA.iload dX12_choose_175 rfl ?_
  refine GA.iconst dX12_choose_177 ?_
  obtain ⟨x5, hx6, H⟩ := gv_e H
  refine GV.isub hx6 dX12_choose_178 ?_
  obtain ⟨hg7, H⟩ := gg_e H
  obtain ⟨x8, hx9, H⟩ := gv_e H
  refine GV.iald hg7 hx9 dX12_choose_179 (gs_514 hL) (by decide) ?_
  obtain ⟨x10, S_11, hc12, H⟩ := gc_e H
  refine GA.callS (m_X12_at hL hc12) xs_X12_11 dX12_choose_180 rfl (by omega) (by decide) rfl (Nat.le_of_ble_eq_true rfl) (by omega) (by omega) rfl (fun E S9 hx => hx.elim) (fun v S9 hq => ?_)
  obtain ⟨rfl, rfl⟩ := hq
  refine GA.iconst dX12_choose_183 ?_
  obtain ⟨x13, hx14, H⟩ := gv_e H
  refine GV.iadd hx14 dX12_choose_184 ?_
  refine GA.dup2 dX12_choose_185 rfl rfl ?_
  obtain ⟨hg15, H⟩ := gg_e H
  obtain ⟨x16, hx17, H⟩ := gv_e H
  refine GV.iald hg15 hx17 dX12_choose_186 (gs_501 hL) (by decide) ?_
  refine GA.iconst dX12_choose_187 ?_
  obtain ⟨x18, hx19, H⟩ := gv_e H
  refine GV.iadd hx19 dX12_choose_188 ?_
  obtain ⟨S_20, hx21, H⟩ := gv_e H
  refine GV.iast hg15 hx21 dX12_choose_189 (fun _ => (gs_501 hL)) (by decide) ?_
  refine GA.aload_n dX12_choose_190 rfl ?_
  refine GA.iload_n dX12_choose_191 rfl ?_
  refine GA.iload dX12_choose_192 rfl ?_
  refine GA.iconst dX12_choose_194 ?_
  obtain ⟨x22, S_23, hc24, H⟩ := gc_e H
  refine GA.callV (m_X12_part hL hc24) xs_X12_36 dX12_choose_195 (gs_500 hL) (by decide) rfl rfl (by omega) (by decide) rfl (Nat.le_of_ble_eq_true rfl) (by omega) (by omega) rfl (fun E S9 hx => hx.elim) (fun v S9 hq => ?_)
  obtain ⟨rfl, rfl⟩ := hq
  obtain ⟨hg25, H⟩ := gg_e H
  refine GV.if_le (tgt := 230) hg25 dX12_choose_198 (by decide) (fun c26 => ?_) (fun c26 => ?_)
  · have H := it_t H c26
    refine GA.goto (tgt := 49) dX12_choose_230 (by decide) ?_
    refine GA.locals [(0, .ref (L 500)), (1, .int (J a1)), (3, .int (J a3)), (4, .int (J a4)), (5, .int (J a5))] ⟨rfl, rfl, rfl, rfl, rfl, trivial⟩ ?_
    exact ih_X12_choose_49 hL _ _ (a1) (a3) (a4) (a5) _ _ H
  · have H := it_f H c26
    refine GA.aload_n dX12_choose_201 rfl ?_
    refine GA.get xf_X12_259 dX12_choose_202 (gs_500 hL) (by decide) rfl ?_
    refine GA.iload dX12_choose_205 rfl ?_
    refine GA.iload dX12_choose_207 rfl ?_
    obtain ⟨hg27, H⟩ := gg_e H
    obtain ⟨S_28, hx29, H⟩ := gv_e H
    refine GV.iast hg27 hx29 dX12_choose_209 (fun _ => (gs_513 hL)) (by decide) ?_
    refine GA.aload_n dX12_choose_210 rfl ?_
    refine GA.get xf_X12_262 dX12_choose_211 (gs_500 hL) (by decide) rfl ?_
    refine GA.iload dX12_choose_214 rfl ?_
    refine GA.iload dX12_choose_216 rfl ?_
    obtain ⟨S_30, hx31, H⟩ := gv_e H
    refine GV.iast hg27 hx31 dX12_choose_218 (fun _ => (gs_514 hL)) (by decide) ?_
    refine GA.aload_n dX12_choose_219 rfl ?_
    refine GA.get xf_X12_265 dX12_choose_220 (gs_500 hL) (by decide) rfl ?_
    refine GA.iload dX12_choose_223 rfl ?_
    refine GA.iconst dX12_choose_225 ?_
    obtain ⟨S_32, hx33, H⟩ := gv_e H
    refine GV.iast hg27 hx33 dX12_choose_226 (fun _ => (gs_515 hL)) (by decide) ?_
    obtain ⟨x34, hx35, H⟩ := gv_e H
    refine GV.iinc hx35 dX12_choose_227 rfl (by decide) ?_
    refine GA.goto (tgt := 49) dX12_choose_230 (by decide) ?_
    refine GA.locals [(0, .ref (L 500)), (1, .int (J a1)), (3, .int (J a3)), (4, .int (J a4)), (5, .int (J x34))] ⟨rfl, rfl, rfl, rfl, rfl, trivial⟩ ?_
    exact ih_X12_choose_49 hL _ _ (a1) (a3) (a4) (x34) _ _ H
theorem g_X12_choose {l : Launch} {Z : XZ} {L : Nat → Nat} : ∀ n, P_X12_choose_0 l Z L n ∧ P_X12_choose_49 l Z L n ∧ P_X12_choose_98 l Z L n ∧ P_X12_choose_154 l Z L n
  | 0 => ⟨fun _ _ _ _ _ _ _ _ _ H => no_e H, fun _ _ _ _ _ _ _ _ _ H => no_e H, fun _ _ _ _ _ _ _ _ _ _ _ H => no_e H, fun _ _ _ _ _ _ _ _ _ _ H => no_e H⟩
  | n + 1 => have ⟨h0, h1, h2, h3⟩ := g_X12_choose (l := l) (Z := Z) (L := L) n
    ⟨t_X12_choose_0 n h0 h1 h2 h3, t_X12_choose_49 n h0 h1 h2 h3, t_X12_choose_98 n h0 h1 h2 h3, t_X12_choose_154 n h0 h1 h2 h3⟩
theorem m_X12_choose {l : Launch} {Z : XZ} {L : Nat → Nat} (hL : L 700 = 1) {n d : Nat} {S : GS} {a1 : Int} {a2 : Int} {a3 : Int} {a4 : Int} {x : Int} {S1 : GS} (H : f_X12_choose n d 0 S [a1, a2, a3, a4] = some (x, S1)) : GM l Z L yX12_choose cX12_choose 10 none [] d 0 0 [.ref (L 500), .int (J a1), .int (J a2), .int (J a3), .int (J a4)] S (fun v S' => v = none ∧ S1 = S') (fun _ _ => False) := GM.of (by decide) (Nat.le_of_ble_eq_true rfl) ((g_X12_choose n).1 hL _ _ _ _ _ _ _ _ H)

def P_X12_isNewKey_0 (l : Launch) (Z : XZ) (L : Nat → Nat) (n : Nat) : Prop := ∀ (hL : L 700 = 1), ∀ (d : Nat) (S : GS) (a1 : Int) (a2 : Int) (a3 : Int) (x : Int) (S1 : GS), f_X12_isNewKey n d 0 S [a1, a2, a3] = some (x, S1) → GA l Z L yX12_isNewKey cX12_isNewKey 5 (some .boolean) [] d 0 0 (fun v S' => v = some (.int (J x)) ∧ S1 = S') (fun _ _ => False) 0 (gl [(0, .ref (L 500)), (1, .int (J a1)), (2, .int (J a2)), (3, .int (J a3))]) [] S 0 0
def P_X12_isNewKey_3 (l : Launch) (Z : XZ) (L : Nat → Nat) (n : Nat) : Prop := ∀ (hL : L 700 = 1), ∀ (d : Nat) (S : GS) (a1 : Int) (a2 : Int) (a3 : Int) (a4 : Int) (x : Int) (S1 : GS), f_X12_isNewKey n d 3 S [a1, a2, a3, a4] = some (x, S1) → GA l Z L yX12_isNewKey cX12_isNewKey 5 (some .boolean) [] d 0 0 (fun v S' => v = some (.int (J x)) ∧ S1 = S') (fun _ _ => False) 3 (gl [(0, .ref (L 500)), (1, .int (J a1)), (2, .int (J a2)), (3, .int (J a3)), (4, .int (J a4))]) [] S 0 0
theorem i_X12_isNewKey {l : Launch} {Z : XZ} {L : Nat → Nat} (hL : L 700 = 1) {n : Nat} (ih : P_X12_isNewKey_0 l Z L n) {d : Nat} {S : GS} {a1 : Int} {a2 : Int} {a3 : Int} {x : Int} {S1 : GS} (H : f_X12_isNewKey n d 0 S [a1, a2, a3] = some (x, S1)) : GM l Z L yX12_isNewKey cX12_isNewKey 5 (some .boolean) [] d 0 0 [.ref (L 500), .int (J a1), .int (J a2), .int (J a3)] S (fun v S' => v = some (.int (J x)) ∧ S1 = S') (fun _ _ => False) := GM.of (by decide) (Nat.le_of_ble_eq_true rfl) (ih hL _ _ _ _ _ _ _ H)
set_option maxHeartbeats 4000000 in
set_option maxRecDepth 20000 in
theorem t_X12_isNewKey_0 {l : Launch} {Z : XZ} {L : Nat → Nat} (n : Nat) (ih_X12_isNewKey_0 : P_X12_isNewKey_0 l Z L n) (ih_X12_isNewKey_3 : P_X12_isNewKey_3 l Z L n) : P_X12_isNewKey_0 l Z L (n + 1) := by
  intro hL d S a1 a2 a3 x S1 H
  have H : b_X12_isNewKey_0 n d (f_X12_isNewKey n) S a1 a2 a3 = some (x, S1) := H
  unfold b_X12_isNewKey_0 at H
  refine GA.iconst dX12_isNewKey_0 ?_
  refine GA.istore dX12_isNewKey_1 (by decide) ?_
  refine GA.locals [(0, .ref (L 500)), (1, .int (J a1)), (2, .int (J a2)), (3, .int (J a3)), (4, .int (J 0))] ⟨rfl, rfl, rfl, rfl, rfl, trivial⟩ ?_
  exact ih_X12_isNewKey_3 hL _ _ (a1) (a2) (a3) (0) _ _ H
set_option maxHeartbeats 4000000 in
set_option maxRecDepth 20000 in
theorem t_X12_isNewKey_3 {l : Launch} {Z : XZ} {L : Nat → Nat} (n : Nat) (ih_X12_isNewKey_0 : P_X12_isNewKey_0 l Z L n) (ih_X12_isNewKey_3 : P_X12_isNewKey_3 l Z L n) : P_X12_isNewKey_3 l Z L (n + 1) := by
  intro hL d S a1 a2 a3 a4 x S1 H
  have H : b_X12_isNewKey_3 n d (f_X12_isNewKey n) S a1 a2 a3 a4 = some (x, S1) := H
  unfold b_X12_isNewKey_3 at H
  refine GA.iload dX12_isNewKey_3 rfl ?_
  refine GA.iload_n dX12_isNewKey_5 rfl ?_
  obtain ⟨hg1, H⟩ := gg_e H
  obtain ⟨hg2, H⟩ := gg_e H
  refine GV.icmp_ge (tgt := 36) hg1 hg2 dX12_isNewKey_6 (by decide) (fun c3 => ?_) (fun c3 => ?_)
  · have H := it_t H c3
    refine GA.iconst dX12_isNewKey_36 ?_
    cases H
    exact GV.zret (by decide) rfl dX12_isNewKey_37 (by omega) (by omega) ⟨rfl, rfl⟩
  · have H := it_f H c3
    refine GA.aload_n dX12_isNewKey_9 rfl ?_
    refine GA.iload_n dX12_isNewKey_10 rfl ?_
    refine GA.aload_n dX12_isNewKey_11 rfl ?_
    refine GA.iload_n dX12_isNewKey_12 rfl ?_
    refine GA.iconst dX12_isNewKey_13 ?_
    refine GA.iload dX12_isNewKey_14 rfl ?_
    obtain ⟨hg4, H⟩ := gg_e H
    obtain ⟨x5, S_6, hc7, H⟩ := gc_e H
    refine GA.callV (m_X12_childAt hL hc7) xs_X12_616 dX12_isNewKey_16 (gs_500 hL) (by decide) rfl rfl (by omega) (by decide) rfl (Nat.le_of_ble_eq_true rfl) (by omega) (by omega) rfl (fun E S9 hx => hx.elim) (fun v S9 hq => ?_)
    obtain ⟨rfl, rfl⟩ := hq
    refine GA.iload_n dX12_isNewKey_19 rfl ?_
    refine GA.iload_n dX12_isNewKey_20 rfl ?_
    obtain ⟨x8, S_9, hc10, H⟩ := gc_e H
    refine GA.callV (m_X12_childLike hL hc10) xs_X12_732 dX12_isNewKey_21 (gs_500 hL) (by decide) rfl rfl (by omega) (by decide) rfl (Nat.le_of_ble_eq_true rfl) (by omega) (by omega) rfl (fun E S9 hx => hx.elim) (fun v S9 hq => ?_)
    obtain ⟨rfl, rfl⟩ := hq
    refine GA.iconst dX12_isNewKey_24 ?_
    obtain ⟨hg11, H⟩ := gg_e H
    refine GV.icmp_eq (tgt := 30) hg11 (by decide) dX12_isNewKey_25 (by decide) (fun c12 => ?_) (fun c12 => ?_)
    · have H := it_t H c12
      obtain ⟨x13, hx14, H⟩ := gv_e H
      refine GV.iinc hx14 dX12_isNewKey_30 rfl (by decide) ?_
      refine GA.goto (tgt := 3) dX12_isNewKey_33 (by decide) ?_
      refine GA.locals [(0, .ref (L 500)), (1, .int (J a1)), (2, .int (J a2)), (3, .int (J a3)), (4, .int (J x13))] ⟨rfl, rfl, rfl, rfl, rfl, trivial⟩ ?_
      exact ih_X12_isNewKey_3 hL _ _ (a1) (a2) (a3) (x13) _ _ H
    · have H := it_f H c12
      refine GA.iconst dX12_isNewKey_28 ?_
      cases H
      exact GV.zret (by decide) rfl dX12_isNewKey_29 (by omega) (by omega) ⟨rfl, rfl⟩
theorem g_X12_isNewKey {l : Launch} {Z : XZ} {L : Nat → Nat} : ∀ n, P_X12_isNewKey_0 l Z L n ∧ P_X12_isNewKey_3 l Z L n
  | 0 => ⟨fun _ _ _ _ _ _ _ _ H => no_e H, fun _ _ _ _ _ _ _ _ _ H => no_e H⟩
  | n + 1 => have ⟨h0, h1⟩ := g_X12_isNewKey (l := l) (Z := Z) (L := L) n
    ⟨t_X12_isNewKey_0 n h0 h1, t_X12_isNewKey_3 n h0 h1⟩
theorem m_X12_isNewKey {l : Launch} {Z : XZ} {L : Nat → Nat} (hL : L 700 = 1) {n d : Nat} {S : GS} {a1 : Int} {a2 : Int} {a3 : Int} {x : Int} {S1 : GS} (H : f_X12_isNewKey n d 0 S [a1, a2, a3] = some (x, S1)) : GM l Z L yX12_isNewKey cX12_isNewKey 5 (some .boolean) [] d 0 0 [.ref (L 500), .int (J a1), .int (J a2), .int (J a3)] S (fun v S' => v = some (.int (J x)) ∧ S1 = S') (fun _ _ => False) := GM.of (by decide) (Nat.le_of_ble_eq_true rfl) ((g_X12_isNewKey n).1 hL _ _ _ _ _ _ _ H)

def P_X12_columns_0 (l : Launch) (Z : XZ) (L : Nat → Nat) (n : Nat) : Prop := ∀ (hL : L 700 = 1), ∀ (d : Nat) (S : GS) (a1 : Int) (x : Int) (S1 : GS), f_X12_columns n d 0 S [a1] = some (x, S1) → GA l Z L yX12_columns cX12_columns 12 (some .int) [] d 0 0 (fun v S' => v = some (.int (J x)) ∧ S1 = S') (fun _ _ => False) 0 (gl [(0, .ref (L 500)), (1, .int (J a1))]) [] S 0 0
def P_X12_columns_38 (l : Launch) (Z : XZ) (L : Nat → Nat) (n : Nat) : Prop := ∀ (hL : L 700 = 1), ∀ (d : Nat) (S : GS) (a1 : Int) (s0 : Int) (x : Int) (S1 : GS), f_X12_columns n d 38 S [a1, s0] = some (x, S1) → GA l Z L yX12_columns cX12_columns 12 (some .int) [] d 0 0 (fun v S' => v = some (.int (J x)) ∧ S1 = S') (fun _ _ => False) 38 (gl [(0, .ref (L 500)), (1, .int (J a1))]) [.int (J s0), .ref (L 500)] S 0 0
def P_X12_columns_72 (l : Launch) (Z : XZ) (L : Nat → Nat) (n : Nat) : Prop := ∀ (hL : L 700 = 1), ∀ (d : Nat) (S : GS) (a1 : Int) (a2 : Int) (a3 : Int) (a4 : Int) (x : Int) (S1 : GS), f_X12_columns n d 72 S [a1, a2, a3, a4] = some (x, S1) → GA l Z L yX12_columns cX12_columns 12 (some .int) [] d 0 0 (fun v S' => v = some (.int (J x)) ∧ S1 = S') (fun _ _ => False) 72 (gl [(0, .ref (L 500)), (1, .int (J a1)), (2, .int (J a2)), (3, .int (J a3)), (4, .int (J a4))]) [] S 0 0
def P_X12_columns_91 (l : Launch) (Z : XZ) (L : Nat → Nat) (n : Nat) : Prop := ∀ (hL : L 700 = 1), ∀ (d : Nat) (S : GS) (a1 : Int) (a2 : Int) (a3 : Int) (a4 : Int) (a5 : Int) (a6 : Int) (x : Int) (S1 : GS), f_X12_columns n d 91 S [a1, a2, a3, a4, a5, a6] = some (x, S1) → GA l Z L yX12_columns cX12_columns 12 (some .int) [] d 0 0 (fun v S' => v = some (.int (J x)) ∧ S1 = S') (fun _ _ => False) 91 (gl [(0, .ref (L 500)), (1, .int (J a1)), (2, .int (J a2)), (3, .int (J a3)), (4, .int (J a4)), (5, .int (J a5)), (6, .int (J a6))]) [] S 0 0
def P_X12_columns_186 (l : Launch) (Z : XZ) (L : Nat → Nat) (n : Nat) : Prop := ∀ (hL : L 700 = 1), ∀ (d : Nat) (S : GS) (a1 : Int) (a2 : Int) (a3 : Int) (a4 : Int) (a5 : Int) (a6 : Int) (a7 : Int) (a9 : Int) (x : Int) (S1 : GS), f_X12_columns n d 186 S [a1, a2, a3, a4, a5, a6, a7, a9] = some (x, S1) → GA l Z L yX12_columns cX12_columns 12 (some .int) [] d 0 0 (fun v S' => v = some (.int (J x)) ∧ S1 = S') (fun _ _ => False) 186 (gl [(0, .ref (L 500)), (1, .int (J a1)), (2, .int (J a2)), (3, .int (J a3)), (4, .int (J a4)), (5, .int (J a5)), (6, .int (J a6)), (7, .int (J a7)), (9, .int (J a9))]) [] S 0 0
def P_X12_columns_280 (l : Launch) (Z : XZ) (L : Nat → Nat) (n : Nat) : Prop := ∀ (hL : L 700 = 1), ∀ (d : Nat) (S : GS) (s0 : Int) (x : Int) (S1 : GS), f_X12_columns n d 280 S [s0] = some (x, S1) → GA l Z L yX12_columns cX12_columns 12 (some .int) [] d 0 0 (fun v S' => v = some (.int (J x)) ∧ S1 = S') (fun _ _ => False) 280 (gl [(0, .ref (L 500))]) [.int (J s0), .ref (L 500)] S 0 0
theorem i_X12_columns {l : Launch} {Z : XZ} {L : Nat → Nat} (hL : L 700 = 1) {n : Nat} (ih : P_X12_columns_0 l Z L n) {d : Nat} {S : GS} {a1 : Int} {x : Int} {S1 : GS} (H : f_X12_columns n d 0 S [a1] = some (x, S1)) : GM l Z L yX12_columns cX12_columns 12 (some .int) [] d 0 0 [.ref (L 500), .int (J a1)] S (fun v S' => v = some (.int (J x)) ∧ S1 = S') (fun _ _ => False) := GM.of (by decide) (Nat.le_of_ble_eq_true rfl) (ih hL _ _ _ _ _ H)
set_option maxHeartbeats 4000000 in
set_option maxRecDepth 20000 in
theorem t_X12_columns_0 {l : Launch} {Z : XZ} {L : Nat → Nat} (n : Nat) (ih_X12_columns_0 : P_X12_columns_0 l Z L n) (ih_X12_columns_38 : P_X12_columns_38 l Z L n) (ih_X12_columns_72 : P_X12_columns_72 l Z L n) (ih_X12_columns_91 : P_X12_columns_91 l Z L n) (ih_X12_columns_186 : P_X12_columns_186 l Z L n) (ih_X12_columns_280 : P_X12_columns_280 l Z L n) : P_X12_columns_0 l Z L (n + 1) := by
  intro hL d S a1 x S1 H
  have H : b_X12_columns_0 n d (f_X12_columns n) S a1 = some (x, S1) := H
  unfold b_X12_columns_0 at H
  refine GA.aload_n dX12_columns_0 rfl ?_
  refine GA.aload_n dX12_columns_1 rfl ?_
  refine GA.iload_n dX12_columns_2 rfl ?_
  obtain ⟨hg1, H⟩ := gg_e H
  obtain ⟨x2, S_3, hc4, H⟩ := gc_e H
  refine GA.callV (m_X12_isDoc hL hc4) xs_X12_22 dX12_columns_3 (gs_500 hL) (by decide) rfl rfl (by omega) (by decide) rfl (Nat.le_of_ble_eq_true rfl) (by omega) (by omega) rfl (fun E S9 hx => hx.elim) (fun v S9 hq => ?_)
  obtain ⟨rfl, rfl⟩ := hq
  refine GA.iconst dX12_columns_6 ?_
  obtain ⟨x5, S_6, hc7, H⟩ := gc_e H
  refine GA.callV (m_X12_fails hL hc7) xs_X12_456 dX12_columns_7 (gs_500 hL) (by decide) rfl rfl (by omega) (by decide) rfl (Nat.le_of_ble_eq_true rfl) (by omega) (by omega) rfl (fun E S9 hx => hx.elim) (fun v S9 hq => ?_)
  obtain ⟨rfl, rfl⟩ := hq
  obtain ⟨hg8, H⟩ := gg_e H
  refine GV.if_ne (tgt := 45) hg8 dX12_columns_10 (by decide) (fun c9 => ?_) (fun c9 => ?_)
  · have H := it_t H c9
    refine GA.iconst dX12_columns_45 ?_
    cases H
    exact GA.iret rfl dX12_columns_46 (by omega) (by omega) ⟨rfl, rfl⟩
  · have H := it_f H c9
    refine GA.aload_n dX12_columns_13 rfl ?_
    refine GA.aload_n dX12_columns_14 rfl ?_
    refine GA.iload_n dX12_columns_15 rfl ?_
    refine GA.iconst dX12_columns_16 ?_
    obtain ⟨x10, S_11, hc12, H⟩ := gc_e H
    refine GA.callV (m_X12_kind hL hc12) xs_X12_52 dX12_columns_17 (gs_500 hL) (by decide) rfl rfl (by omega) (by decide) rfl (Nat.le_of_ble_eq_true rfl) (by omega) (by omega) rfl (fun E S9 hx => hx.elim) (fun v S9 hq => ?_)
    obtain ⟨rfl, rfl⟩ := hq
    refine GA.iconst dX12_columns_20 ?_
    obtain ⟨hg13, H⟩ := gg_e H
    refine GV.icmp_ne (tgt := 37) hg13 (by decide) dX12_columns_21 (by decide) (fun c14 => ?_) (fun c14 => ?_)
    · have H := it_t H c14
      refine GA.iconst dX12_columns_37 ?_
      refine GA.locals [(0, .ref (L 500)), (1, .int (J a1))] ⟨rfl, rfl, trivial⟩ ?_
      exact ih_X12_columns_38 hL _ _ (a1) (0) _ _ H
    · have H := it_f H c14
      refine GA.aload_n dX12_columns_24 rfl ?_
      refine GA.iload_n dX12_columns_25 rfl ?_
      refine GA.iconst dX12_columns_26 ?_
      obtain ⟨x15, S_16, hc17, H⟩ := gc_e H
      refine GA.callV (m_X12_areAll hL hc17) xs_X12_855 dX12_columns_27 (gs_500 hL) (by decide) rfl rfl (by omega) (by decide) rfl (Nat.le_of_ble_eq_true rfl) (by omega) (by omega) rfl (fun E S9 hx => hx.elim) (fun v S9 hq => ?_)
      obtain ⟨rfl, rfl⟩ := hq
      obtain ⟨hg18, H⟩ := gg_e H
      refine GV.if_eq (tgt := 37) hg18 dX12_columns_30 (by decide) (fun c19 => ?_) (fun c19 => ?_)
      · have H := it_t H c19
        refine GA.iconst dX12_columns_37 ?_
        refine GA.locals [(0, .ref (L 500)), (1, .int (J a1))] ⟨rfl, rfl, trivial⟩ ?_
        exact ih_X12_columns_38 hL _ _ (a1) (0) _ _ H
      · have H := it_f H c19
        refine GA.iconst dX12_columns_33 ?_
        refine GA.goto (tgt := 38) dX12_columns_34 (by decide) ?_
        refine GA.locals [(0, .ref (L 500)), (1, .int (J a1))] ⟨rfl, rfl, trivial⟩ ?_
        exact ih_X12_columns_38 hL _ _ (a1) (1) _ _ H
set_option maxHeartbeats 4000000 in
set_option maxRecDepth 20000 in
theorem t_X12_columns_38 {l : Launch} {Z : XZ} {L : Nat → Nat} (n : Nat) (ih_X12_columns_0 : P_X12_columns_0 l Z L n) (ih_X12_columns_38 : P_X12_columns_38 l Z L n) (ih_X12_columns_72 : P_X12_columns_72 l Z L n) (ih_X12_columns_91 : P_X12_columns_91 l Z L n) (ih_X12_columns_186 : P_X12_columns_186 l Z L n) (ih_X12_columns_280 : P_X12_columns_280 l Z L n) : P_X12_columns_38 l Z L (n + 1) := by
  intro hL d S a1 s0 x S1 H
  have H : b_X12_columns_38 n d (f_X12_columns n) S a1 s0 = some (x, S1) := H
  unfold b_X12_columns_38 at H
  refine GA.iconst dX12_columns_38 ?_
  obtain ⟨hg1, H⟩ := gg_e H
  obtain ⟨x2, S_3, hc4, H⟩ := gc_e H
  refine GA.callV (m_X12_fails hL hc4) xs_X12_456 dX12_columns_39 (gs_500 hL) (by decide) rfl rfl (by omega) (by decide) rfl (Nat.le_of_ble_eq_true rfl) (by omega) (by omega) rfl (fun E S9 hx => hx.elim) (fun v S9 hq => ?_)
  obtain ⟨rfl, rfl⟩ := hq
  obtain ⟨hg5, H⟩ := gg_e H
  refine GV.if_eq (tgt := 47) hg5 dX12_columns_42 (by decide) (fun c6 => ?_) (fun c6 => ?_)
  · have H := it_t H c6
    refine GA.aload_n dX12_columns_47 rfl ?_
    refine GA.bipush dX12_columns_48 rfl ?_
    obtain ⟨x7, S_8, hc9, H⟩ := gc_e H
    refine GA.callV (m_X12_begin hL hc9) xs_X12_517 dX12_columns_50 (gs_500 hL) (by decide) rfl rfl (by omega) (by decide) rfl (Nat.le_of_ble_eq_true rfl) (by omega) (by omega) rfl (fun E S9 hx => hx.elim) (fun v S9 hq => ?_)
    obtain ⟨rfl, rfl⟩ := hq
    refine GA.aload_n dX12_columns_53 rfl ?_
    refine GA.bipush dX12_columns_54 rfl ?_
    refine GA.iconst dX12_columns_56 ?_
    obtain ⟨x10, S_11, hc12, H⟩ := gc_e H
    refine GA.callV (m_X12_added hL hc12) xs_X12_33 dX12_columns_57 (gs_500 hL) (by decide) rfl rfl (by omega) (by decide) rfl (Nat.le_of_ble_eq_true rfl) (by omega) (by omega) rfl (fun E S9 hx => hx.elim) (fun v S9 hq => ?_)
    obtain ⟨rfl, rfl⟩ := hq
    refine GA.istore_n dX12_columns_60 (by decide) ?_
    refine GA.aload_n dX12_columns_61 rfl ?_
    refine GA.iload_n dX12_columns_62 rfl ?_
    refine GA.iconst dX12_columns_63 ?_
    refine GA.iconst dX12_columns_64 ?_
    obtain ⟨x13, S_14, hc15, H⟩ := gc_e H
    refine GA.callV (m_X12_part hL hc15) xs_X12_36 dX12_columns_65 (gs_500 hL) (by decide) rfl rfl (by omega) (by decide) rfl (Nat.le_of_ble_eq_true rfl) (by omega) (by omega) rfl (fun E S9 hx => hx.elim) (fun v S9 hq => ?_)
    obtain ⟨rfl, rfl⟩ := hq
    refine GA.istore_n dX12_columns_68 (by decide) ?_
    refine GA.iconst dX12_columns_69 ?_
    refine GA.istore dX12_columns_70 (by decide) ?_
    refine GA.locals [(0, .ref (L 500)), (1, .int (J a1)), (2, .int (J x10)), (3, .int (J x13)), (4, .int (J 0))] ⟨rfl, rfl, rfl, rfl, rfl, trivial⟩ ?_
    exact ih_X12_columns_72 hL _ _ (a1) (x10) (x13) (0) _ _ H
  · have H := it_f H c6
    refine GA.iconst dX12_columns_45 ?_
    cases H
    exact GA.iret rfl dX12_columns_46 (by omega) (by omega) ⟨rfl, rfl⟩
set_option maxHeartbeats 4000000 in
set_option maxRecDepth 20000 in
theorem t_X12_columns_72 {l : Launch} {Z : XZ} {L : Nat → Nat} (n : Nat) (ih_X12_columns_0 : P_X12_columns_0 l Z L n) (ih_X12_columns_38 : P_X12_columns_38 l Z L n) (ih_X12_columns_72 : P_X12_columns_72 l Z L n) (ih_X12_columns_91 : P_X12_columns_91 l Z L n) (ih_X12_columns_186 : P_X12_columns_186 l Z L n) (ih_X12_columns_280 : P_X12_columns_280 l Z L n) : P_X12_columns_72 l Z L (n + 1) := by
  intro hL d S a1 a2 a3 a4 x S1 H
  have H : b_X12_columns_72 n d (f_X12_columns n) S a1 a2 a3 a4 = some (x, S1) := H
  unfold b_X12_columns_72 at H
  refine GA.iload dX12_columns_72 rfl ?_
  refine GA.iload_n dX12_columns_74 rfl ?_
  obtain ⟨hg1, H⟩ := gg_e H
  obtain ⟨hg2, H⟩ := gg_e H
  refine GV.icmp_ge (tgt := 256) hg1 hg2 dX12_columns_75 (by decide) (fun c3 => ?_) (fun c3 => ?_)
  · have H := it_t H c3
    refine GA.aload_n dX12_columns_256 rfl ?_
    refine GA.aload_n dX12_columns_257 rfl ?_
    refine GA.bipush dX12_columns_258 rfl ?_
    obtain ⟨hg4, H⟩ := gg_e H
    obtain ⟨x5, S_6, hc7, H⟩ := gc_e H
    refine GA.callV (m_X12_isWhole hL hc7) xs_X12_601 dX12_columns_260 (gs_500 hL) (by decide) rfl rfl (by omega) (by decide) rfl (Nat.le_of_ble_eq_true rfl) (by omega) (by omega) rfl (fun E S9 hx => hx.elim) (fun v S9 hq => ?_)
    obtain ⟨rfl, rfl⟩ := hq
    obtain ⟨hg8, H⟩ := gg_e H
    refine GV.if_eq (tgt := 279) hg8 dX12_columns_263 (by decide) (fun c9 => ?_) (fun c9 => ?_)
    · have H := it_t H c9
      refine GA.iconst dX12_columns_279 ?_
      refine GA.locals [(0, .ref (L 500))] ⟨rfl, trivial⟩ ?_
      exact ih_X12_columns_280 hL _ _ (0) _ _ H
    · have H := it_f H c9
      refine GA.aload_n dX12_columns_266 rfl ?_
      obtain ⟨x10, hx11, H⟩ := gv_e H
      refine GV.getI hx11 xf_X12_15 dX12_columns_267 (gs_500 hL) (by decide) rfl ?_
      refine GA.bipush dX12_columns_270 rfl ?_
      obtain ⟨hg12, H⟩ := gg_e H
      refine GV.icmp_ge (tgt := 279) hg12 (by decide) dX12_columns_272 (by decide) (fun c13 => ?_) (fun c13 => ?_)
      · have H := it_t H c13
        refine GA.iconst dX12_columns_279 ?_
        refine GA.locals [(0, .ref (L 500))] ⟨rfl, trivial⟩ ?_
        exact ih_X12_columns_280 hL _ _ (0) _ _ H
      · have H := it_f H c13
        refine GA.iconst dX12_columns_275 ?_
        refine GA.goto (tgt := 280) dX12_columns_276 (by decide) ?_
        refine GA.locals [(0, .ref (L 500))] ⟨rfl, trivial⟩ ?_
        exact ih_X12_columns_280 hL _ _ (1) _ _ H
  · have H := it_f H c3
    refine GA.aload_n dX12_columns_78 rfl ?_
    refine GA.iload_n dX12_columns_79 rfl ?_
    refine GA.iconst dX12_columns_80 ?_
    refine GA.iload dX12_columns_81 rfl ?_
    obtain ⟨hg14, H⟩ := gg_e H
    obtain ⟨x15, S_16, hc17, H⟩ := gc_e H
    refine GA.callV (m_X12_childAt hL hc17) xs_X12_616 dX12_columns_83 (gs_500 hL) (by decide) rfl rfl (by omega) (by decide) rfl (Nat.le_of_ble_eq_true rfl) (by omega) (by omega) rfl (fun E S9 hx => hx.elim) (fun v S9 hq => ?_)
    obtain ⟨rfl, rfl⟩ := hq
    refine GA.istore dX12_columns_86 (by decide) ?_
    refine GA.iconst dX12_columns_88 ?_
    refine GA.istore dX12_columns_89 (by decide) ?_
    refine GA.locals [(0, .ref (L 500)), (1, .int (J a1)), (2, .int (J a2)), (3, .int (J a3)), (4, .int (J a4)), (5, .int (J x15)), (6, .int (J 0))] ⟨rfl, rfl, rfl, rfl, rfl, rfl, rfl, trivial⟩ ?_
    exact ih_X12_columns_91 hL _ _ (a1) (a2) (a3) (a4) (x15) (0) _ _ H
set_option maxHeartbeats 4000000 in
set_option maxRecDepth 20000 in
theorem t_X12_columns_91 {l : Launch} {Z : XZ} {L : Nat → Nat} (n : Nat) (ih_X12_columns_0 : P_X12_columns_0 l Z L n) (ih_X12_columns_38 : P_X12_columns_38 l Z L n) (ih_X12_columns_72 : P_X12_columns_72 l Z L n) (ih_X12_columns_91 : P_X12_columns_91 l Z L n) (ih_X12_columns_186 : P_X12_columns_186 l Z L n) (ih_X12_columns_280 : P_X12_columns_280 l Z L n) : P_X12_columns_91 l Z L (n + 1) := by
  intro hL d S a1 a2 a3 a4 a5 a6 x S1 H
  have H : b_X12_columns_91 n d (f_X12_columns n) S a1 a2 a3 a4 a5 a6 = some (x, S1) := H
  unfold b_X12_columns_91 at H
  refine GA.iload dX12_columns_91 rfl ?_
  refine GA.aload_n dX12_columns_93 rfl ?_
  refine GA.iload_n dX12_columns_94 rfl ?_
  refine GA.iload dX12_columns_95 rfl ?_
  refine GA.iconst dX12_columns_97 ?_
  obtain ⟨hg1, H⟩ := gg_e H
  obtain ⟨x2, S_3, hc4, H⟩ := gc_e H
  refine GA.callV (m_X12_part hL hc4) xs_X12_36 dX12_columns_98 (gs_500 hL) (by decide) rfl rfl (by omega) (by decide) rfl (Nat.le_of_ble_eq_true rfl) (by omega) (by omega) rfl (fun E S9 hx => hx.elim) (fun v S9 hq => ?_)
  obtain ⟨rfl, rfl⟩ := hq
  obtain ⟨hg5, H⟩ := gg_e H
  obtain ⟨hg6, H⟩ := gg_e H
  refine GV.icmp_ge (tgt := 250) hg5 hg6 dX12_columns_101 (by decide) (fun c7 => ?_) (fun c7 => ?_)
  · have H := it_t H c7
    obtain ⟨x8, hx9, H⟩ := gv_e H
    refine GV.iinc hx9 dX12_columns_250 rfl (by decide) ?_
    refine GA.goto (tgt := 72) dX12_columns_253 (by decide) ?_
    refine GA.locals [(0, .ref (L 500)), (1, .int (J a1)), (2, .int (J a2)), (3, .int (J a3)), (4, .int (J x8))] ⟨rfl, rfl, rfl, rfl, rfl, trivial⟩ ?_
    exact ih_X12_columns_72 hL _ _ (a1) (a2) (a3) (x8) _ _ H
  · have H := it_f H c7
    refine GA.aload_n dX12_columns_104 rfl ?_
    refine GA.iload_n dX12_columns_105 rfl ?_
    refine GA.iload dX12_columns_106 rfl ?_
    refine GA.iload dX12_columns_108 rfl ?_
    obtain ⟨x10, S_11, hc12, H⟩ := gc_e H
    refine GA.callV (m_X12_childAt hL hc12) xs_X12_616 dX12_columns_110 (gs_500 hL) (by decide) rfl rfl (by omega) (by decide) rfl (Nat.le_of_ble_eq_true rfl) (by omega) (by omega) rfl (fun E S9 hx => hx.elim) (fun v S9 hq => ?_)
    obtain ⟨rfl, rfl⟩ := hq
    refine GA.istore dX12_columns_113 (by decide) ?_
    refine GA.aload_n dX12_columns_115 rfl ?_
    refine GA.iload_n dX12_columns_116 rfl ?_
    refine GA.iload dX12_columns_117 rfl ?_
    refine GA.iload dX12_columns_119 rfl ?_
    obtain ⟨x13, S_14, hc15, H⟩ := gc_e H
    refine GA.callV (m_X12_isNewKey hL hc15) xs_X12_858 dX12_columns_121 (gs_500 hL) (by decide) rfl rfl (by omega) (by decide) rfl (Nat.le_of_ble_eq_true rfl) (by omega) (by omega) rfl (fun E S9 hx => hx.elim) (fun v S9 hq => ?_)
    obtain ⟨rfl, rfl⟩ := hq
    obtain ⟨hg16, H⟩ := gg_e H
    refine GV.if_eq (tgt := 244) hg16 dX12_columns_124 (by decide) (fun c17 => ?_) (fun c17 => ?_)
    · have H := it_t H c17
      obtain ⟨x18, hx19, H⟩ := gv_e H
      refine GV.iinc hx19 dX12_columns_244 rfl (by decide) ?_
      refine GA.goto (tgt := 91) dX12_columns_247 (by decide) ?_
      refine GA.locals [(0, .ref (L 500)), (1, .int (J a1)), (2, .int (J a2)), (3, .int (J a3)), (4, .int (J a4)), (5, .int (J a5)), (6, .int (J x18))] ⟨rfl, rfl, rfl, rfl, rfl, rfl, rfl, trivial⟩ ?_
      exact ih_X12_columns_91 hL _ _ (a1) (a2) (a3) (a4) (a5) (x18) _ _ H
    · have H := it_f H c17
      refine GA.aload_n dX12_columns_127 rfl ?_
      refine GA.bipush dX12_columns_128 rfl ?_
      refine GA.iconst dX12_columns_130 ?_
      obtain ⟨x20, S_21, hc22, H⟩ := gc_e H
      refine GA.callV (m_X12_added hL hc22) xs_X12_33 dX12_columns_131 (gs_500 hL) (by decide) rfl rfl (by omega) (by decide) rfl (Nat.le_of_ble_eq_true rfl) (by omega) (by omega) rfl (fun E S9 hx => hx.elim) (fun v S9 hq => ?_)
      obtain ⟨rfl, rfl⟩ := hq
      refine GA.istore dX12_columns_134 (by decide) ?_
      refine GA.aload_n dX12_columns_136 rfl ?_
      refine GA.iload_n dX12_columns_137 rfl ?_
      refine GA.iload dX12_columns_138 rfl ?_
      obtain ⟨x23, S_24, hc25, H⟩ := gc_e H
      refine GA.callV (m_X12_wordOfKey hL hc25) xs_X12_653 dX12_columns_140 (gs_500 hL) (by decide) rfl rfl (by omega) (by decide) rfl (Nat.le_of_ble_eq_true rfl) (by omega) (by omega) rfl (fun E S9 hx => hx.elim) (fun v S9 hq => ?_)
      obtain ⟨rfl, rfl⟩ := hq
      refine GA.aload_n dX12_columns_143 rfl ?_
      refine GA.bipush dX12_columns_144 rfl ?_
      refine GA.iload dX12_columns_146 rfl ?_
      obtain ⟨x26, S_27, hc28, H⟩ := gc_e H
      refine GA.callV (m_X12_keyIs hL hc28) xs_X12_650 dX12_columns_148 (gs_500 hL) (by decide) rfl rfl (by omega) (by decide) rfl (Nat.le_of_ble_eq_true rfl) (by omega) (by omega) rfl (fun E S9 hx => hx.elim) (fun v S9 hq => ?_)
      obtain ⟨rfl, rfl⟩ := hq
      refine GA.aload_n dX12_columns_151 rfl ?_
      refine GA.get xf_X12_7 dX12_columns_152 (gs_500 hL) (by decide) rfl ?_
      refine GA.bipush dX12_columns_155 rfl ?_
      refine GA.iload dX12_columns_157 rfl ?_
      obtain ⟨x29, S_30, hc31, H⟩ := gc_e H
      refine GA.callS (m_X12_at hL hc31) xs_X12_11 dX12_columns_159 rfl (by omega) (by decide) rfl (Nat.le_of_ble_eq_true rfl) (by omega) (by omega) rfl (fun E S9 hx => hx.elim) (fun v S9 hq => ?_)
      obtain ⟨rfl, rfl⟩ := hq
      refine GA.iconst dX12_columns_162 ?_
      obtain ⟨x32, hx33, H⟩ := gv_e H
      refine GV.iadd hx33 dX12_columns_163 ?_
      refine GA.iload_n dX12_columns_164 rfl ?_
      obtain ⟨hg34, H⟩ := gg_e H
      obtain ⟨S_35, hx36, H⟩ := gv_e H
      refine GV.iast hg34 hx36 dX12_columns_165 (fun _ => (gs_501 hL)) (by decide) ?_
      refine GA.aload_n dX12_columns_166 rfl ?_
      refine GA.get xf_X12_7 dX12_columns_167 (gs_500 hL) (by decide) rfl ?_
      refine GA.bipush dX12_columns_170 rfl ?_
      refine GA.iload_n dX12_columns_172 rfl ?_
      obtain ⟨x37, S_38, hc39, H⟩ := gc_e H
      refine GA.callS (m_X12_at hL hc39) xs_X12_11 dX12_columns_173 rfl (by omega) (by decide) rfl (Nat.le_of_ble_eq_true rfl) (by omega) (by omega) rfl (fun E S9 hx => hx.elim) (fun v S9 hq => ?_)
      obtain ⟨rfl, rfl⟩ := hq
      refine GA.iconst dX12_columns_176 ?_
      obtain ⟨x40, hx41, H⟩ := gv_e H
      refine GV.iadd hx41 dX12_columns_177 ?_
      refine GA.dup2 dX12_columns_178 rfl rfl ?_
      obtain ⟨hg42, H⟩ := gg_e H
      obtain ⟨x43, hx44, H⟩ := gv_e H
      refine GV.iald hg42 hx44 dX12_columns_179 (gs_501 hL) (by decide) ?_
      refine GA.iconst dX12_columns_180 ?_
      obtain ⟨x45, hx46, H⟩ := gv_e H
      refine GV.iadd hx46 dX12_columns_181 ?_
      obtain ⟨S_47, hx48, H⟩ := gv_e H
      refine GV.iast hg42 hx48 dX12_columns_182 (fun _ => (gs_501 hL)) (by decide) ?_
      refine GA.iconst dX12_columns_183 ?_
      refine GA.istore dX12_columns_184 (by decide) ?_
      refine GA.locals [(0, .ref (L 500)), (1, .int (J a1)), (2, .int (J a2)), (3, .int (J a3)), (4, .int (J a4)), (5, .int (J a5)), (6, .int (J a6)), (7, .int (J x10)), (9, .int (J 0))] ⟨rfl, rfl, rfl, rfl, rfl, rfl, rfl, rfl, rfl, trivial⟩ ?_
      exact ih_X12_columns_186 hL _ _ (a1) (a2) (a3) (a4) (a5) (a6) (x10) (0) _ _ H
set_option maxHeartbeats 4000000 in
set_option maxRecDepth 20000 in
theorem t_X12_columns_186 {l : Launch} {Z : XZ} {L : Nat → Nat} (n : Nat) (ih_X12_columns_0 : P_X12_columns_0 l Z L n) (ih_X12_columns_38 : P_X12_columns_38 l Z L n) (ih_X12_columns_72 : P_X12_columns_72 l Z L n) (ih_X12_columns_91 : P_X12_columns_91 l Z L n) (ih_X12_columns_186 : P_X12_columns_186 l Z L n) (ih_X12_columns_280 : P_X12_columns_280 l Z L n) : P_X12_columns_186 l Z L (n + 1) := by
  intro hL d S a1 a2 a3 a4 a5 a6 a7 a9 x S1 H
  have H : b_X12_columns_186 n d (f_X12_columns n) S a1 a2 a3 a4 a5 a6 a7 a9 = some (x, S1) := H
  unfold b_X12_columns_186 at H
  refine GA.iload dX12_columns_186 rfl ?_
  refine GA.iload_n dX12_columns_188 rfl ?_
  obtain ⟨hg1, H⟩ := gg_e H
  obtain ⟨hg2, H⟩ := gg_e H
  refine GV.icmp_ge (tgt := 244) hg1 hg2 dX12_columns_189 (by decide) (fun c3 => ?_) (fun c3 => ?_)
  · have H := it_t H c3
    obtain ⟨x4, hx5, H⟩ := gv_e H
    refine GV.iinc hx5 dX12_columns_244 rfl (by decide) ?_
    refine GA.goto (tgt := 91) dX12_columns_247 (by decide) ?_
    refine GA.locals [(0, .ref (L 500)), (1, .int (J a1)), (2, .int (J a2)), (3, .int (J a3)), (4, .int (J a4)), (5, .int (J a5)), (6, .int (J x4))] ⟨rfl, rfl, rfl, rfl, rfl, rfl, rfl, trivial⟩ ?_
    exact ih_X12_columns_91 hL _ _ (a1) (a2) (a3) (a4) (a5) (x4) _ _ H
  · have H := it_f H c3
    refine GA.aload_n dX12_columns_192 rfl ?_
    refine GA.iload_n dX12_columns_193 rfl ?_
    refine GA.aload_n dX12_columns_194 rfl ?_
    refine GA.iload_n dX12_columns_195 rfl ?_
    refine GA.iconst dX12_columns_196 ?_
    refine GA.iload dX12_columns_197 rfl ?_
    obtain ⟨hg6, H⟩ := gg_e H
    obtain ⟨x7, S_8, hc9, H⟩ := gc_e H
    refine GA.callV (m_X12_childAt hL hc9) xs_X12_616 dX12_columns_199 (gs_500 hL) (by decide) rfl rfl (by omega) (by decide) rfl (Nat.le_of_ble_eq_true rfl) (by omega) (by omega) rfl (fun E S9 hx => hx.elim) (fun v S9 hq => ?_)
    obtain ⟨rfl, rfl⟩ := hq
    refine GA.iload_n dX12_columns_202 rfl ?_
    refine GA.iload dX12_columns_203 rfl ?_
    obtain ⟨x10, S_11, hc12, H⟩ := gc_e H
    refine GA.callV (m_X12_childLike hL hc12) xs_X12_732 dX12_columns_205 (gs_500 hL) (by decide) rfl rfl (by omega) (by decide) rfl (Nat.le_of_ble_eq_true rfl) (by omega) (by omega) rfl (fun E S9 hx => hx.elim) (fun v S9 hq => ?_)
    obtain ⟨rfl, rfl⟩ := hq
    refine GA.istore dX12_columns_208 (by decide) ?_
    refine GA.iload dX12_columns_210 rfl ?_
    refine GA.iconst dX12_columns_212 ?_
    obtain ⟨hg13, H⟩ := gg_e H
    refine GV.icmp_ne (tgt := 228) hg13 (by decide) dX12_columns_213 (by decide) (fun c14 => ?_) (fun c14 => ?_)
    · have H := it_t H c14
      refine GA.aload_n dX12_columns_228 rfl ?_
      refine GA.bipush dX12_columns_229 rfl ?_
      refine GA.iload_n dX12_columns_231 rfl ?_
      refine GA.iload dX12_columns_232 rfl ?_
      refine GA.iconst dX12_columns_234 ?_
      obtain ⟨x15, S_16, hc17, H⟩ := gc_e H
      refine GA.callV (m_X12_brings hL hc17) xs_X12_656 dX12_columns_235 (gs_500 hL) (by decide) rfl rfl (by omega) (by decide) rfl (Nat.le_of_ble_eq_true rfl) (by omega) (by omega) rfl (fun E S9 hx => hx.elim) (fun v S9 hq => ?_)
      obtain ⟨rfl, rfl⟩ := hq
      obtain ⟨x18, hx19, H⟩ := gv_e H
      refine GV.iinc hx19 dX12_columns_238 rfl (by decide) ?_
      refine GA.goto (tgt := 186) dX12_columns_241 (by decide) ?_
      refine GA.locals [(0, .ref (L 500)), (1, .int (J a1)), (2, .int (J a2)), (3, .int (J a3)), (4, .int (J a4)), (5, .int (J a5)), (6, .int (J a6)), (7, .int (J a7)), (9, .int (J x18))] ⟨rfl, rfl, rfl, rfl, rfl, rfl, rfl, rfl, rfl, trivial⟩ ?_
      exact ih_X12_columns_186 hL _ _ (a1) (a2) (a3) (a4) (a5) (a6) (a7) (x18) _ _ H
    · have H := it_f H c14
      refine GA.aload_n dX12_columns_216 rfl ?_
      refine GA.bipush dX12_columns_217 rfl ?_
      refine GA.iconst dX12_columns_219 ?_
      obtain ⟨x20, S_21, hc22, H⟩ := gc_e H
      refine GA.callV (m_X12_added hL hc22) xs_X12_33 dX12_columns_220 (gs_500 hL) (by decide) rfl rfl (by omega) (by decide) rfl (Nat.le_of_ble_eq_true rfl) (by omega) (by omega) rfl (fun E S9 hx => hx.elim) (fun v S9 hq => ?_)
      obtain ⟨rfl, rfl⟩ := hq
      refine GA.istore dX12_columns_223 (by decide) ?_
      refine GA.goto (tgt := 238) dX12_columns_225 (by decide) ?_
      obtain ⟨x23, hx24, H⟩ := gv_e H
      refine GV.iinc hx24 dX12_columns_238 rfl (by decide) ?_
      refine GA.goto (tgt := 186) dX12_columns_241 (by decide) ?_
      refine GA.locals [(0, .ref (L 500)), (1, .int (J a1)), (2, .int (J a2)), (3, .int (J a3)), (4, .int (J a4)), (5, .int (J a5)), (6, .int (J a6)), (7, .int (J a7)), (9, .int (J x23))] ⟨rfl, rfl, rfl, rfl, rfl, rfl, rfl, rfl, rfl, trivial⟩ ?_
      exact ih_X12_columns_186 hL _ _ (a1) (a2) (a3) (a4) (a5) (a6) (a7) (x23) _ _ H
set_option maxHeartbeats 4000000 in
set_option maxRecDepth 20000 in
theorem t_X12_columns_280 {l : Launch} {Z : XZ} {L : Nat → Nat} (n : Nat) (ih_X12_columns_0 : P_X12_columns_0 l Z L n) (ih_X12_columns_38 : P_X12_columns_38 l Z L n) (ih_X12_columns_72 : P_X12_columns_72 l Z L n) (ih_X12_columns_91 : P_X12_columns_91 l Z L n) (ih_X12_columns_186 : P_X12_columns_186 l Z L n) (ih_X12_columns_280 : P_X12_columns_280 l Z L n) : P_X12_columns_280 l Z L (n + 1) := by
  intro hL d S s0 x S1 H
  have H : b_X12_columns_280 n d (f_X12_columns n) S s0 = some (x, S1) := H
  unfold b_X12_columns_280 at H
  refine GA.iconst dX12_columns_280 ?_
  obtain ⟨hg1, H⟩ := gg_e H
  obtain ⟨x2, S_3, hc4, H⟩ := gc_e H
  refine GA.callV (m_X12_fails hL hc4) xs_X12_456 dX12_columns_281 (gs_500 hL) (by decide) rfl rfl (by omega) (by decide) rfl (Nat.le_of_ble_eq_true rfl) (by omega) (by omega) rfl (fun E S9 hx => hx.elim) (fun v S9 hq => ?_)
  obtain ⟨rfl, rfl⟩ := hq
  obtain ⟨hg5, H⟩ := gg_e H
  refine GV.if_eq (tgt := 291) hg5 dX12_columns_284 (by decide) (fun c6 => ?_) (fun c6 => ?_)
  · have H := it_t H c6
    refine GA.aload_n dX12_columns_291 rfl ?_
    refine GA.bipush dX12_columns_292 rfl ?_
    obtain ⟨x7, S_8, hc9, H⟩ := gc_e H
    refine GA.callV (m_X12_keeps hL hc9) xs_X12_536 dX12_columns_294 (gs_500 hL) (by decide) rfl rfl (by omega) (by decide) rfl (Nat.le_of_ble_eq_true rfl) (by omega) (by omega) rfl (fun E S9 hx => hx.elim) (fun v S9 hq => ?_)
    obtain ⟨rfl, rfl⟩ := hq
    cases H
    exact GA.iret rfl dX12_columns_297 (by omega) (by omega) ⟨rfl, rfl⟩
  · have H := it_f H c6
    refine GA.iconst dX12_columns_287 ?_
    refine GA.goto (tgt := 297) dX12_columns_288 (by decide) ?_
    cases H
    exact GA.iret rfl dX12_columns_297 (by omega) (by omega) ⟨rfl, rfl⟩
theorem g_X12_columns {l : Launch} {Z : XZ} {L : Nat → Nat} : ∀ n, P_X12_columns_0 l Z L n ∧ P_X12_columns_38 l Z L n ∧ P_X12_columns_72 l Z L n ∧ P_X12_columns_91 l Z L n ∧ P_X12_columns_186 l Z L n ∧ P_X12_columns_280 l Z L n
  | 0 => ⟨fun _ _ _ _ _ _ H => no_e H, fun _ _ _ _ _ _ _ H => no_e H, fun _ _ _ _ _ _ _ _ _ H => no_e H, fun _ _ _ _ _ _ _ _ _ _ _ H => no_e H, fun _ _ _ _ _ _ _ _ _ _ _ _ _ H => no_e H, fun _ _ _ _ _ _ H => no_e H⟩
  | n + 1 => have ⟨h0, h1, h2, h3, h4, h5⟩ := g_X12_columns (l := l) (Z := Z) (L := L) n
    ⟨t_X12_columns_0 n h0 h1 h2 h3 h4 h5, t_X12_columns_38 n h0 h1 h2 h3 h4 h5, t_X12_columns_72 n h0 h1 h2 h3 h4 h5, t_X12_columns_91 n h0 h1 h2 h3 h4 h5, t_X12_columns_186 n h0 h1 h2 h3 h4 h5, t_X12_columns_280 n h0 h1 h2 h3 h4 h5⟩
theorem m_X12_columns {l : Launch} {Z : XZ} {L : Nat → Nat} (hL : L 700 = 1) {n d : Nat} {S : GS} {a1 : Int} {x : Int} {S1 : GS} (H : f_X12_columns n d 0 S [a1] = some (x, S1)) : GM l Z L yX12_columns cX12_columns 12 (some .int) [] d 0 0 [.ref (L 500), .int (J a1)] S (fun v S' => v = some (.int (J x)) ∧ S1 = S') (fun _ _ => False) := GM.of (by decide) (Nat.le_of_ble_eq_true rfl) ((g_X12_columns n).1 hL _ _ _ _ _ H)

def P_X12_compare_0 (l : Launch) (Z : XZ) (L : Nat → Nat) (n : Nat) : Prop := ∀ (hL : L 700 = 1), ∀ (d : Nat) (S : GS) (a1 : Int) (a2 : Int) (x : Int) (S1 : GS), f_X12_compare n d 0 S [a1, a2] = some (x, S1) → GA l Z L yX12_compare cX12_compare 3 (some .int) [] d 0 0 (fun v S' => v = some (.int (J x)) ∧ S1 = S') (fun _ _ => False) 0 (gl [(0, .ref (L 500)), (1, .int (J a1)), (2, .int (J a2))]) [] S 0 0
def P_X12_compare_22 (l : Launch) (Z : XZ) (L : Nat → Nat) (n : Nat) : Prop := ∀ (hL : L 700 = 1), ∀ (d : Nat) (S : GS) (a1 : Int) (a2 : Int) (s0 : Int) (x : Int) (S1 : GS), f_X12_compare n d 22 S [a1, a2, s0] = some (x, S1) → GA l Z L yX12_compare cX12_compare 3 (some .int) [] d 0 0 (fun v S' => v = some (.int (J x)) ∧ S1 = S') (fun _ _ => False) 22 (gl [(0, .ref (L 500)), (1, .int (J a1)), (2, .int (J a2))]) [.int (J s0), .ref (L 500)] S 0 0
def P_X12_compare_55 (l : Launch) (Z : XZ) (L : Nat → Nat) (n : Nat) : Prop := ∀ (hL : L 700 = 1), ∀ (d : Nat) (S : GS) (a1 : Int) (a2 : Int) (s0 : Int) (x : Int) (S1 : GS), f_X12_compare n d 55 S [a1, a2, s0] = some (x, S1) → GA l Z L yX12_compare cX12_compare 3 (some .int) [] d 0 0 (fun v S' => v = some (.int (J x)) ∧ S1 = S') (fun _ _ => False) 55 (gl [(0, .ref (L 500)), (1, .int (J a1)), (2, .int (J a2))]) [.int (J s0), .ref (L 500)] S 0 0
theorem i_X12_compare {l : Launch} {Z : XZ} {L : Nat → Nat} (hL : L 700 = 1) {n : Nat} (ih : P_X12_compare_0 l Z L n) {d : Nat} {S : GS} {a1 : Int} {a2 : Int} {x : Int} {S1 : GS} (H : f_X12_compare n d 0 S [a1, a2] = some (x, S1)) : GM l Z L yX12_compare cX12_compare 3 (some .int) [] d 0 0 [.ref (L 500), .int (J a1), .int (J a2)] S (fun v S' => v = some (.int (J x)) ∧ S1 = S') (fun _ _ => False) := GM.of (by decide) (Nat.le_of_ble_eq_true rfl) (ih hL _ _ _ _ _ _ H)
set_option maxHeartbeats 4000000 in
set_option maxRecDepth 20000 in
theorem t_X12_compare_0 {l : Launch} {Z : XZ} {L : Nat → Nat} (n : Nat) (ih_X12_compare_0 : P_X12_compare_0 l Z L n) (ih_X12_compare_22 : P_X12_compare_22 l Z L n) (ih_X12_compare_55 : P_X12_compare_55 l Z L n) : P_X12_compare_0 l Z L (n + 1) := by
  intro hL d S a1 a2 x S1 H
  have H : b_X12_compare_0 n d (f_X12_compare n) S a1 a2 = some (x, S1) := H
  unfold b_X12_compare_0 at H
  refine GA.aload_n dX12_compare_0 rfl ?_
  refine GA.aload_n dX12_compare_1 rfl ?_
  refine GA.iload_n dX12_compare_2 rfl ?_
  obtain ⟨hg1, H⟩ := gg_e H
  obtain ⟨x2, S_3, hc4, H⟩ := gc_e H
  refine GA.callV (m_X12_isDoc hL hc4) xs_X12_22 dX12_compare_3 (gs_500 hL) (by decide) rfl rfl (by omega) (by decide) rfl (Nat.le_of_ble_eq_true rfl) (by omega) (by omega) rfl (fun E S9 hx => hx.elim) (fun v S9 hq => ?_)
  obtain ⟨rfl, rfl⟩ := hq
  obtain ⟨hg5, H⟩ := gg_e H
  refine GV.if_eq (tgt := 21) hg5 dX12_compare_6 (by decide) (fun c6 => ?_) (fun c6 => ?_)
  · have H := it_t H c6
    refine GA.iconst dX12_compare_21 ?_
    refine GA.locals [(0, .ref (L 500)), (1, .int (J a1)), (2, .int (J a2))] ⟨rfl, rfl, rfl, trivial⟩ ?_
    exact ih_X12_compare_22 hL _ _ (a1) (a2) (0) _ _ H
  · have H := it_f H c6
    refine GA.aload_n dX12_compare_9 rfl ?_
    refine GA.iload_n dX12_compare_10 rfl ?_
    obtain ⟨x7, S_8, hc9, H⟩ := gc_e H
    refine GA.callV (m_X12_isDoc hL hc9) xs_X12_22 dX12_compare_11 (gs_500 hL) (by decide) rfl rfl (by omega) (by decide) rfl (Nat.le_of_ble_eq_true rfl) (by omega) (by omega) rfl (fun E S9 hx => hx.elim) (fun v S9 hq => ?_)
    obtain ⟨rfl, rfl⟩ := hq
    obtain ⟨hg10, H⟩ := gg_e H
    refine GV.if_eq (tgt := 21) hg10 dX12_compare_14 (by decide) (fun c11 => ?_) (fun c11 => ?_)
    · have H := it_t H c11
      refine GA.iconst dX12_compare_21 ?_
      refine GA.locals [(0, .ref (L 500)), (1, .int (J a1)), (2, .int (J a2))] ⟨rfl, rfl, rfl, trivial⟩ ?_
      exact ih_X12_compare_22 hL _ _ (a1) (a2) (0) _ _ H
    · have H := it_f H c11
      refine GA.iconst dX12_compare_17 ?_
      refine GA.goto (tgt := 22) dX12_compare_18 (by decide) ?_
      refine GA.locals [(0, .ref (L 500)), (1, .int (J a1)), (2, .int (J a2))] ⟨rfl, rfl, rfl, trivial⟩ ?_
      exact ih_X12_compare_22 hL _ _ (a1) (a2) (1) _ _ H
set_option maxHeartbeats 4000000 in
set_option maxRecDepth 20000 in
theorem t_X12_compare_22 {l : Launch} {Z : XZ} {L : Nat → Nat} (n : Nat) (ih_X12_compare_0 : P_X12_compare_0 l Z L n) (ih_X12_compare_22 : P_X12_compare_22 l Z L n) (ih_X12_compare_55 : P_X12_compare_55 l Z L n) : P_X12_compare_22 l Z L (n + 1) := by
  intro hL d S a1 a2 s0 x S1 H
  have H : b_X12_compare_22 n d (f_X12_compare n) S a1 a2 s0 = some (x, S1) := H
  unfold b_X12_compare_22 at H
  refine GA.iconst dX12_compare_22 ?_
  obtain ⟨hg1, H⟩ := gg_e H
  obtain ⟨x2, S_3, hc4, H⟩ := gc_e H
  refine GA.callV (m_X12_fails hL hc4) xs_X12_456 dX12_compare_23 (gs_500 hL) (by decide) rfl rfl (by omega) (by decide) rfl (Nat.le_of_ble_eq_true rfl) (by omega) (by omega) rfl (fun E S9 hx => hx.elim) (fun v S9 hq => ?_)
  obtain ⟨rfl, rfl⟩ := hq
  obtain ⟨hg5, H⟩ := gg_e H
  refine GV.if_ne (tgt := 62) hg5 dX12_compare_26 (by decide) (fun c6 => ?_) (fun c6 => ?_)
  · have H := it_t H c6
    refine GA.iconst dX12_compare_62 ?_
    cases H
    exact GA.iret rfl dX12_compare_63 (by omega) (by omega) ⟨rfl, rfl⟩
  · have H := it_f H c6
    refine GA.aload_n dX12_compare_29 rfl ?_
    refine GA.aload_n dX12_compare_30 rfl ?_
    refine GA.iload_n dX12_compare_31 rfl ?_
    refine GA.iconst dX12_compare_32 ?_
    obtain ⟨x7, S_8, hc9, H⟩ := gc_e H
    refine GA.callV (m_X12_kind hL hc9) xs_X12_52 dX12_compare_33 (gs_500 hL) (by decide) rfl rfl (by omega) (by decide) rfl (Nat.le_of_ble_eq_true rfl) (by omega) (by omega) rfl (fun E S9 hx => hx.elim) (fun v S9 hq => ?_)
    obtain ⟨rfl, rfl⟩ := hq
    refine GA.iconst dX12_compare_36 ?_
    obtain ⟨hg10, H⟩ := gg_e H
    refine GV.icmp_ne (tgt := 54) hg10 (by decide) dX12_compare_37 (by decide) (fun c11 => ?_) (fun c11 => ?_)
    · have H := it_t H c11
      refine GA.iconst dX12_compare_54 ?_
      refine GA.locals [(0, .ref (L 500)), (1, .int (J a1)), (2, .int (J a2))] ⟨rfl, rfl, rfl, trivial⟩ ?_
      exact ih_X12_compare_55 hL _ _ (a1) (a2) (0) _ _ H
    · have H := it_f H c11
      refine GA.aload_n dX12_compare_40 rfl ?_
      refine GA.iload_n dX12_compare_41 rfl ?_
      refine GA.iconst dX12_compare_42 ?_
      obtain ⟨x12, S_13, hc14, H⟩ := gc_e H
      refine GA.callV (m_X12_kind hL hc14) xs_X12_52 dX12_compare_43 (gs_500 hL) (by decide) rfl rfl (by omega) (by decide) rfl (Nat.le_of_ble_eq_true rfl) (by omega) (by omega) rfl (fun E S9 hx => hx.elim) (fun v S9 hq => ?_)
      obtain ⟨rfl, rfl⟩ := hq
      refine GA.iconst dX12_compare_46 ?_
      obtain ⟨hg15, H⟩ := gg_e H
      refine GV.icmp_ne (tgt := 54) hg15 (by decide) dX12_compare_47 (by decide) (fun c16 => ?_) (fun c16 => ?_)
      · have H := it_t H c16
        refine GA.iconst dX12_compare_54 ?_
        refine GA.locals [(0, .ref (L 500)), (1, .int (J a1)), (2, .int (J a2))] ⟨rfl, rfl, rfl, trivial⟩ ?_
        exact ih_X12_compare_55 hL _ _ (a1) (a2) (0) _ _ H
      · have H := it_f H c16
        refine GA.iconst dX12_compare_50 ?_
        refine GA.goto (tgt := 55) dX12_compare_51 (by decide) ?_
        refine GA.locals [(0, .ref (L 500)), (1, .int (J a1)), (2, .int (J a2))] ⟨rfl, rfl, rfl, trivial⟩ ?_
        exact ih_X12_compare_55 hL _ _ (a1) (a2) (1) _ _ H
set_option maxHeartbeats 4000000 in
set_option maxRecDepth 20000 in
theorem t_X12_compare_55 {l : Launch} {Z : XZ} {L : Nat → Nat} (n : Nat) (ih_X12_compare_0 : P_X12_compare_0 l Z L n) (ih_X12_compare_22 : P_X12_compare_22 l Z L n) (ih_X12_compare_55 : P_X12_compare_55 l Z L n) : P_X12_compare_55 l Z L (n + 1) := by
  intro hL d S a1 a2 s0 x S1 H
  have H : b_X12_compare_55 n d (f_X12_compare n) S a1 a2 s0 = some (x, S1) := H
  unfold b_X12_compare_55 at H
  refine GA.iconst dX12_compare_55 ?_
  obtain ⟨hg1, H⟩ := gg_e H
  obtain ⟨x2, S_3, hc4, H⟩ := gc_e H
  refine GA.callV (m_X12_fails hL hc4) xs_X12_456 dX12_compare_56 (gs_500 hL) (by decide) rfl rfl (by omega) (by decide) rfl (Nat.le_of_ble_eq_true rfl) (by omega) (by omega) rfl (fun E S9 hx => hx.elim) (fun v S9 hq => ?_)
  obtain ⟨rfl, rfl⟩ := hq
  obtain ⟨hg5, H⟩ := gg_e H
  refine GV.if_eq (tgt := 64) hg5 dX12_compare_59 (by decide) (fun c6 => ?_) (fun c6 => ?_)
  · have H := it_t H c6
    refine GA.aload_n dX12_compare_64 rfl ?_
    refine GA.iload_n dX12_compare_65 rfl ?_
    refine GA.iconst dX12_compare_66 ?_
    refine GA.iload_n dX12_compare_67 rfl ?_
    refine GA.iconst dX12_compare_68 ?_
    obtain ⟨x7, S_8, hc9, H⟩ := gc_e H
    refine GA.callV (m_X12_compared hL hc9) xs_X12_594 dX12_compare_69 (gs_500 hL) (by decide) rfl rfl (by omega) (by decide) rfl (Nat.le_of_ble_eq_true rfl) (by omega) (by omega) rfl (fun E S9 hx => hx.elim) (fun v S9 hq => ?_)
    obtain ⟨rfl, rfl⟩ := hq
    cases H
    exact GA.iret rfl dX12_compare_72 (by omega) (by omega) ⟨rfl, rfl⟩
  · have H := it_f H c6
    refine GA.iconst dX12_compare_62 ?_
    cases H
    exact GA.iret rfl dX12_compare_63 (by omega) (by omega) ⟨rfl, rfl⟩
theorem g_X12_compare {l : Launch} {Z : XZ} {L : Nat → Nat} : ∀ n, P_X12_compare_0 l Z L n ∧ P_X12_compare_22 l Z L n ∧ P_X12_compare_55 l Z L n
  | 0 => ⟨fun _ _ _ _ _ _ _ H => no_e H, fun _ _ _ _ _ _ _ _ H => no_e H, fun _ _ _ _ _ _ _ _ H => no_e H⟩
  | n + 1 => have ⟨h0, h1, h2⟩ := g_X12_compare (l := l) (Z := Z) (L := L) n
    ⟨t_X12_compare_0 n h0 h1 h2, t_X12_compare_22 n h0 h1 h2, t_X12_compare_55 n h0 h1 h2⟩
theorem m_X12_compare {l : Launch} {Z : XZ} {L : Nat → Nat} (hL : L 700 = 1) {n d : Nat} {S : GS} {a1 : Int} {a2 : Int} {x : Int} {S1 : GS} (H : f_X12_compare n d 0 S [a1, a2] = some (x, S1)) : GM l Z L yX12_compare cX12_compare 3 (some .int) [] d 0 0 [.ref (L 500), .int (J a1), .int (J a2)] S (fun v S' => v = some (.int (J x)) ∧ S1 = S') (fun _ _ => False) := GM.of (by decide) (Nat.le_of_ble_eq_true rfl) ((g_X12_compare n).1 hL _ _ _ _ _ _ H)

def P_X12_complaint_0 (l : Launch) (Z : XZ) (L : Nat → Nat) (n : Nat) : Prop := ∀ (hL : L 700 = 1), ∀ (d : Nat) (S : GS) (a1 : Int) (a2 : Int) (x : Int) (S1 : GS), f_X12_complaint n d 0 S [a1, a2] = some (x, S1) → GA l Z L yX12_complaint cX12_complaint 3 (some .int) [] d 0 0 (fun v S' => v = some (.int (J x)) ∧ S1 = S') (fun _ _ => False) 0 (gl [(0, .ref (L 500)), (1, .int (J a1)), (2, .int (J a2))]) [] S 0 0
theorem i_X12_complaint {l : Launch} {Z : XZ} {L : Nat → Nat} (hL : L 700 = 1) {n : Nat} (ih : P_X12_complaint_0 l Z L n) {d : Nat} {S : GS} {a1 : Int} {a2 : Int} {x : Int} {S1 : GS} (H : f_X12_complaint n d 0 S [a1, a2] = some (x, S1)) : GM l Z L yX12_complaint cX12_complaint 3 (some .int) [] d 0 0 [.ref (L 500), .int (J a1), .int (J a2)] S (fun v S' => v = some (.int (J x)) ∧ S1 = S') (fun _ _ => False) := GM.of (by decide) (Nat.le_of_ble_eq_true rfl) (ih hL _ _ _ _ _ _ H)
set_option maxHeartbeats 4000000 in
set_option maxRecDepth 20000 in
theorem t_X12_complaint_0 {l : Launch} {Z : XZ} {L : Nat → Nat} (n : Nat) (ih_X12_complaint_0 : P_X12_complaint_0 l Z L n) : P_X12_complaint_0 l Z L (n + 1) := by
  intro hL d S a1 a2 x S1 H
  have H : b_X12_complaint_0 n d (f_X12_complaint n) S a1 a2 = some (x, S1) := H
  unfold b_X12_complaint_0 at H
  refine GA.aload_n dX12_complaint_0 rfl ?_
  refine GA.iload_n dX12_complaint_1 rfl ?_
  refine GA.iconst dX12_complaint_2 ?_
  refine GA.aload_n dX12_complaint_3 rfl ?_
  obtain ⟨x1, hx2, H⟩ := gv_e H
  refine GV.getI hx2 xf_X12_852 dX12_complaint_4 (gs_500 hL) (by decide) rfl ?_
  refine GA.iconst dX12_complaint_7 ?_
  obtain ⟨x3, hx4, H⟩ := gv_e H
  refine GV.isub hx4 dX12_complaint_8 ?_
  obtain ⟨hg5, H⟩ := gg_e H
  obtain ⟨x6, S_7, hc8, H⟩ := gc_e H
  refine GA.callS (m_X12_in hL hc8) xs_X12_18 dX12_complaint_9 rfl (by omega) (by decide) rfl (Nat.le_of_ble_eq_true rfl) (by omega) (by omega) rfl (fun E S9 hx => hx.elim) (fun v S9 hq => ?_)
  obtain ⟨rfl, rfl⟩ := hq
  refine GA.iconst dX12_complaint_12 ?_
  obtain ⟨x9, S_10, hc11, H⟩ := gc_e H
  refine GA.callV (m_X12_fails hL hc11) xs_X12_456 dX12_complaint_13 (gs_500 hL) (by decide) rfl rfl (by omega) (by decide) rfl (Nat.le_of_ble_eq_true rfl) (by omega) (by omega) rfl (fun E S9 hx => hx.elim) (fun v S9 hq => ?_)
  obtain ⟨rfl, rfl⟩ := hq
  obtain ⟨hg12, H⟩ := gg_e H
  refine GV.if_ne (tgt := 33) hg12 dX12_complaint_16 (by decide) (fun c13 => ?_) (fun c13 => ?_)
  · have H := it_t H c13
    refine GA.iconst dX12_complaint_33 ?_
    cases H
    exact GA.iret rfl dX12_complaint_34 (by omega) (by omega) ⟨rfl, rfl⟩
  · have H := it_f H c13
    refine GA.aload_n dX12_complaint_19 rfl ?_
    refine GA.iload_n dX12_complaint_20 rfl ?_
    refine GA.iconst dX12_complaint_21 ?_
    refine GA.iconst dX12_complaint_22 ?_
    obtain ⟨x14, S_15, hc16, H⟩ := gc_e H
    refine GA.callS (m_X12_in hL hc16) xs_X12_18 dX12_complaint_23 rfl (by omega) (by decide) rfl (Nat.le_of_ble_eq_true rfl) (by omega) (by omega) rfl (fun E S9 hx => hx.elim) (fun v S9 hq => ?_)
    obtain ⟨rfl, rfl⟩ := hq
    refine GA.iconst dX12_complaint_26 ?_
    obtain ⟨x17, S_18, hc19, H⟩ := gc_e H
    refine GA.callV (m_X12_fails hL hc19) xs_X12_456 dX12_complaint_27 (gs_500 hL) (by decide) rfl rfl (by omega) (by decide) rfl (Nat.le_of_ble_eq_true rfl) (by omega) (by omega) rfl (fun E S9 hx => hx.elim) (fun v S9 hq => ?_)
    obtain ⟨rfl, rfl⟩ := hq
    obtain ⟨hg20, H⟩ := gg_e H
    refine GV.if_eq (tgt := 35) hg20 dX12_complaint_30 (by decide) (fun c21 => ?_) (fun c21 => ?_)
    · have H := it_t H c21
      refine GA.iload_n dX12_complaint_35 rfl ?_
      obtain ⟨hg22, H⟩ := gg_e H
      refine GV.if_ne (tgt := 51) hg22 dX12_complaint_36 (by decide) (fun c23 => ?_) (fun c23 => ?_)
      · have H := it_t H c23
        refine GA.aload_n dX12_complaint_51 rfl ?_
        refine GA.get xf_X12_436 dX12_complaint_52 (gs_500 hL) (by decide) rfl ?_
        refine GA.iload_n dX12_complaint_55 rfl ?_
        obtain ⟨hg24, H⟩ := gg_e H
        obtain ⟨x25, hx26, H⟩ := gv_e H
        refine GV.iald hg24 hx26 dX12_complaint_56 (gs_552 hL) (by decide) ?_
        refine GA.bipush dX12_complaint_57 rfl ?_
        obtain ⟨hg27, H⟩ := gg_e H
        obtain ⟨x28, hx29, H⟩ := gv_e H
        refine GV.irem hg27 hx29 dX12_complaint_59 ?_
        cases H
        exact GA.iret rfl dX12_complaint_60 (by omega) (by omega) ⟨rfl, rfl⟩
      · have H := it_f H c23
        refine GA.aload_n dX12_complaint_39 rfl ?_
        refine GA.get xf_X12_436 dX12_complaint_40 (gs_500 hL) (by decide) rfl ?_
        refine GA.iload_n dX12_complaint_43 rfl ?_
        obtain ⟨hg30, H⟩ := gg_e H
        obtain ⟨x31, hx32, H⟩ := gv_e H
        refine GV.iald hg30 hx32 dX12_complaint_44 (gs_552 hL) (by decide) ?_
        refine GA.bipush dX12_complaint_45 rfl ?_
        obtain ⟨hg33, H⟩ := gg_e H
        obtain ⟨x34, hx35, H⟩ := gv_e H
        refine GV.idiv hg33 hx35 dX12_complaint_47 ?_
        refine GA.goto (tgt := 60) dX12_complaint_48 (by decide) ?_
        cases H
        exact GA.iret rfl dX12_complaint_60 (by omega) (by omega) ⟨rfl, rfl⟩
    · have H := it_f H c21
      refine GA.iconst dX12_complaint_33 ?_
      cases H
      exact GA.iret rfl dX12_complaint_34 (by omega) (by omega) ⟨rfl, rfl⟩
theorem g_X12_complaint {l : Launch} {Z : XZ} {L : Nat → Nat} : ∀ n, P_X12_complaint_0 l Z L n
  | 0 => fun _ _ _ _ _ _ _ H => no_e H
  | n + 1 => t_X12_complaint_0 n (g_X12_complaint n)
theorem m_X12_complaint {l : Launch} {Z : XZ} {L : Nat → Nat} (hL : L 700 = 1) {n d : Nat} {S : GS} {a1 : Int} {a2 : Int} {x : Int} {S1 : GS} (H : f_X12_complaint n d 0 S [a1, a2] = some (x, S1)) : GM l Z L yX12_complaint cX12_complaint 3 (some .int) [] d 0 0 [.ref (L 500), .int (J a1), .int (J a2)] S (fun v S' => v = some (.int (J x)) ∧ S1 = S') (fun _ _ => False) := GM.of (by decide) (Nat.le_of_ble_eq_true rfl) ((g_X12_complaint n) hL _ _ _ _ _ _ H)

def P_X12_pathOfPage_0 (l : Launch) (Z : XZ) (L : Nat → Nat) (n : Nat) : Prop := ∀ (hL : L 700 = 1), ∀ (d : Nat) (S : GS) (x : Int) (S1 : GS), f_X12_pathOfPage n d 0 S [] = some (x, S1) → GA l Z L yX12_pathOfPage cX12_pathOfPage 2 none [] d 0 0 (fun v S' => v = none ∧ S1 = S') (fun _ _ => False) 0 (gl [(0, .ref (L 500))]) [] S 0 0
def P_X12_pathOfPage_10 (l : Launch) (Z : XZ) (L : Nat → Nat) (n : Nat) : Prop := ∀ (hL : L 700 = 1), ∀ (d : Nat) (S : GS) (a1 : Int) (x : Int) (S1 : GS), f_X12_pathOfPage n d 10 S [a1] = some (x, S1) → GA l Z L yX12_pathOfPage cX12_pathOfPage 2 none [] d 0 0 (fun v S' => v = none ∧ S1 = S') (fun _ _ => False) 10 (gl [(0, .ref (L 500)), (1, .int (J a1))]) [] S 0 0
theorem i_X12_pathOfPage {l : Launch} {Z : XZ} {L : Nat → Nat} (hL : L 700 = 1) {n : Nat} (ih : P_X12_pathOfPage_0 l Z L n) {d : Nat} {S : GS} {x : Int} {S1 : GS} (H : f_X12_pathOfPage n d 0 S [] = some (x, S1)) : GM l Z L yX12_pathOfPage cX12_pathOfPage 2 none [] d 0 0 [.ref (L 500)] S (fun v S' => v = none ∧ S1 = S') (fun _ _ => False) := GM.of (by decide) (Nat.le_of_ble_eq_true rfl) (ih hL _ _ _ _ H)
set_option maxHeartbeats 4000000 in
set_option maxRecDepth 20000 in
theorem t_X12_pathOfPage_0 {l : Launch} {Z : XZ} {L : Nat → Nat} (n : Nat) (ih_X12_pathOfPage_0 : P_X12_pathOfPage_0 l Z L n) (ih_X12_pathOfPage_10 : P_X12_pathOfPage_10 l Z L n) : P_X12_pathOfPage_0 l Z L (n + 1) := by
  intro hL d S  x S1 H
  have H : b_X12_pathOfPage_0 n d (f_X12_pathOfPage n) S  = some (x, S1) := H
  unfold b_X12_pathOfPage_0 at H
  refine GA.aload_n dX12_pathOfPage_0 rfl ?_
  refine GA.aload_n dX12_pathOfPage_1 rfl ?_
  obtain ⟨x1, hx2, H⟩ := gv_e H
  refine GV.getI hx2 xf_X12_460 dX12_pathOfPage_2 (gs_500 hL) (by decide) rfl ?_
  obtain ⟨S_3, hx4, H⟩ := gv_e H
  refine GV.putI hx4 (xp_X12_604 _) dX12_pathOfPage_5 (gs_500 hL) (by decide) (Nat.le_of_ble_eq_true rfl) (gs_500 hL) ?_
  refine GA.iconst dX12_pathOfPage_8 ?_
  refine GA.istore_n dX12_pathOfPage_9 (by decide) ?_
  refine GA.locals [(0, .ref (L 500)), (1, .int (J 0))] ⟨rfl, rfl, trivial⟩ ?_
  exact ih_X12_pathOfPage_10 hL _ _ (0) _ _ H
set_option maxHeartbeats 4000000 in
set_option maxRecDepth 20000 in
theorem t_X12_pathOfPage_10 {l : Launch} {Z : XZ} {L : Nat → Nat} (n : Nat) (ih_X12_pathOfPage_0 : P_X12_pathOfPage_0 l Z L n) (ih_X12_pathOfPage_10 : P_X12_pathOfPage_10 l Z L n) : P_X12_pathOfPage_10 l Z L (n + 1) := by
  intro hL d S a1 x S1 H
  have H : b_X12_pathOfPage_10 n d (f_X12_pathOfPage n) S a1 = some (x, S1) := H
  unfold b_X12_pathOfPage_10 at H
  refine GA.iload_n dX12_pathOfPage_10 rfl ?_
  refine GA.aload_n dX12_pathOfPage_11 rfl ?_
  obtain ⟨x1, hx2, H⟩ := gv_e H
  refine GV.getI hx2 xf_X12_460 dX12_pathOfPage_12 (gs_500 hL) (by decide) rfl ?_
  obtain ⟨hg3, H⟩ := gg_e H
  obtain ⟨hg4, H⟩ := gg_e H
  refine GV.icmp_ge (tgt := 36) hg3 hg4 dX12_pathOfPage_15 (by decide) (fun c5 => ?_) (fun c5 => ?_)
  · have H := it_t H c5
    cases H
    exact GA.vret rfl dX12_pathOfPage_36 (by omega) (by omega) ⟨rfl, rfl⟩
  · have H := it_f H c5
    refine GA.aload_n dX12_pathOfPage_18 rfl ?_
    refine GA.get xf_X12_275 dX12_pathOfPage_19 (gs_500 hL) (by decide) rfl ?_
    refine GA.iload_n dX12_pathOfPage_22 rfl ?_
    refine GA.aload_n dX12_pathOfPage_23 rfl ?_
    refine GA.get xf_X12_88 dX12_pathOfPage_24 (gs_500 hL) (by decide) rfl ?_
    refine GA.iload_n dX12_pathOfPage_27 rfl ?_
    obtain ⟨hg6, H⟩ := gg_e H
    obtain ⟨x7, hx8, H⟩ := gv_e H
    refine GV.iald hg6 hx8 dX12_pathOfPage_28 (gs_503 hL) (by decide) ?_
    obtain ⟨hg9, H⟩ := gg_e H
    obtain ⟨S_10, hx11, H⟩ := gv_e H
    refine GV.iast hg9 hx11 dX12_pathOfPage_29 (fun _ => (gs_518 hL)) (by decide) ?_
    obtain ⟨x12, hx13, H⟩ := gv_e H
    refine GV.iinc hx13 dX12_pathOfPage_30 rfl (by decide) ?_
    refine GA.goto (tgt := 10) dX12_pathOfPage_33 (by decide) ?_
    refine GA.locals [(0, .ref (L 500)), (1, .int (J x12))] ⟨rfl, rfl, trivial⟩ ?_
    exact ih_X12_pathOfPage_10 hL _ _ (x12) _ _ H
theorem g_X12_pathOfPage {l : Launch} {Z : XZ} {L : Nat → Nat} : ∀ n, P_X12_pathOfPage_0 l Z L n ∧ P_X12_pathOfPage_10 l Z L n
  | 0 => ⟨fun _ _ _ _ _ H => no_e H, fun _ _ _ _ _ _ H => no_e H⟩
  | n + 1 => have ⟨h0, h1⟩ := g_X12_pathOfPage (l := l) (Z := Z) (L := L) n
    ⟨t_X12_pathOfPage_0 n h0 h1, t_X12_pathOfPage_10 n h0 h1⟩
theorem m_X12_pathOfPage {l : Launch} {Z : XZ} {L : Nat → Nat} (hL : L 700 = 1) {n d : Nat} {S : GS} {x : Int} {S1 : GS} (H : f_X12_pathOfPage n d 0 S [] = some (x, S1)) : GM l Z L yX12_pathOfPage cX12_pathOfPage 2 none [] d 0 0 [.ref (L 500)] S (fun v S' => v = none ∧ S1 = S') (fun _ _ => False) := GM.of (by decide) (Nat.le_of_ble_eq_true rfl) ((g_X12_pathOfPage n).1 hL _ _ _ _ H)

def P_X12_isPath_0 (l : Launch) (Z : XZ) (L : Nat → Nat) (n : Nat) : Prop := ∀ (hL : L 700 = 1), ∀ (d : Nat) (S : GS) (x : Int) (S1 : GS), f_X12_isPath n d 0 S [] = some (x, S1) → GA l Z L yX12_isPath cX12_isPath 3 (some .boolean) [] d 0 0 (fun v S' => v = some (.int (J x)) ∧ S1 = S') (fun _ _ => False) 0 (gl [(0, .ref (L 500))]) [] S 0 0
def P_X12_isPath_26 (l : Launch) (Z : XZ) (L : Nat → Nat) (n : Nat) : Prop := ∀ (hL : L 700 = 1), ∀ (d : Nat) (S : GS) (a1 : Int) (a2 : Int) (x : Int) (S1 : GS), f_X12_isPath n d 26 S [a1, a2] = some (x, S1) → GA l Z L yX12_isPath cX12_isPath 3 (some .boolean) [] d 0 0 (fun v S' => v = some (.int (J x)) ∧ S1 = S') (fun _ _ => False) 26 (gl [(0, .ref (L 500)), (1, .int (J a1)), (2, .int (J a2))]) [] S 0 0
theorem i_X12_isPath {l : Launch} {Z : XZ} {L : Nat → Nat} (hL : L 700 = 1) {n : Nat} (ih : P_X12_isPath_0 l Z L n) {d : Nat} {S : GS} {x : Int} {S1 : GS} (H : f_X12_isPath n d 0 S [] = some (x, S1)) : GM l Z L yX12_isPath cX12_isPath 3 (some .boolean) [] d 0 0 [.ref (L 500)] S (fun v S' => v = some (.int (J x)) ∧ S1 = S') (fun _ _ => False) := GM.of (by decide) (Nat.le_of_ble_eq_true rfl) (ih hL _ _ _ _ H)
set_option maxHeartbeats 4000000 in
set_option maxRecDepth 20000 in
theorem t_X12_isPath_0 {l : Launch} {Z : XZ} {L : Nat → Nat} (n : Nat) (ih_X12_isPath_0 : P_X12_isPath_0 l Z L n) (ih_X12_isPath_26 : P_X12_isPath_26 l Z L n) : P_X12_isPath_0 l Z L (n + 1) := by
  intro hL d S  x S1 H
  have H : b_X12_isPath_0 n d (f_X12_isPath n) S  = some (x, S1) := H
  unfold b_X12_isPath_0 at H
  refine GA.aload_n dX12_isPath_0 rfl ?_
  obtain ⟨x1, hx2, H⟩ := gv_e H
  refine GV.getI hx2 xf_X12_604 dX12_isPath_1 (gs_500 hL) (by decide) rfl ?_
  obtain ⟨hg3, H⟩ := gg_e H
  refine GV.if_eq (tgt := 18) hg3 dX12_isPath_4 (by decide) (fun c4 => ?_) (fun c4 => ?_)
  · have H := it_t H c4
    refine GA.iconst dX12_isPath_18 ?_
    refine GA.goto (tgt := 23) dX12_isPath_19 (by decide) ?_
    refine GA.istore_n dX12_isPath_23 (by decide) ?_
    refine GA.iconst dX12_isPath_24 ?_
    refine GA.istore_n dX12_isPath_25 (by decide) ?_
    refine GA.locals [(0, .ref (L 500)), (1, .int (J 1)), (2, .int (J 0))] ⟨rfl, rfl, rfl, trivial⟩ ?_
    exact ih_X12_isPath_26 hL _ _ (1) (0) _ _ H
  · have H := it_f H c4
    refine GA.aload_n dX12_isPath_7 rfl ?_
    refine GA.get xf_X12_275 dX12_isPath_8 (gs_500 hL) (by decide) rfl ?_
    refine GA.iconst dX12_isPath_11 ?_
    obtain ⟨hg5, H⟩ := gg_e H
    obtain ⟨x6, hx7, H⟩ := gv_e H
    refine GV.iald hg5 hx7 dX12_isPath_12 (gs_518 hL) (by decide) ?_
    refine GA.bipush dX12_isPath_13 rfl ?_
    obtain ⟨hg8, H⟩ := gg_e H
    refine GV.icmp_ne (tgt := 22) hg8 (by decide) dX12_isPath_15 (by decide) (fun c9 => ?_) (fun c9 => ?_)
    · have H := it_t H c9
      refine GA.iconst dX12_isPath_22 ?_
      refine GA.istore_n dX12_isPath_23 (by decide) ?_
      refine GA.iconst dX12_isPath_24 ?_
      refine GA.istore_n dX12_isPath_25 (by decide) ?_
      refine GA.locals [(0, .ref (L 500)), (1, .int (J 0)), (2, .int (J 0))] ⟨rfl, rfl, rfl, trivial⟩ ?_
      exact ih_X12_isPath_26 hL _ _ (0) (0) _ _ H
    · have H := it_f H c9
      refine GA.iconst dX12_isPath_18 ?_
      refine GA.goto (tgt := 23) dX12_isPath_19 (by decide) ?_
      refine GA.istore_n dX12_isPath_23 (by decide) ?_
      refine GA.iconst dX12_isPath_24 ?_
      refine GA.istore_n dX12_isPath_25 (by decide) ?_
      refine GA.locals [(0, .ref (L 500)), (1, .int (J 1)), (2, .int (J 0))] ⟨rfl, rfl, rfl, trivial⟩ ?_
      exact ih_X12_isPath_26 hL _ _ (1) (0) _ _ H
set_option maxHeartbeats 4000000 in
set_option maxRecDepth 20000 in
theorem t_X12_isPath_26 {l : Launch} {Z : XZ} {L : Nat → Nat} (n : Nat) (ih_X12_isPath_0 : P_X12_isPath_0 l Z L n) (ih_X12_isPath_26 : P_X12_isPath_26 l Z L n) : P_X12_isPath_26 l Z L (n + 1) := by
  intro hL d S a1 a2 x S1 H
  have H : b_X12_isPath_26 n d (f_X12_isPath n) S a1 a2 = some (x, S1) := H
  unfold b_X12_isPath_26 at H
  refine GA.iload_n dX12_isPath_26 rfl ?_
  refine GA.aload_n dX12_isPath_27 rfl ?_
  obtain ⟨x1, hx2, H⟩ := gv_e H
  refine GV.getI hx2 xf_X12_604 dX12_isPath_28 (gs_500 hL) (by decide) rfl ?_
  obtain ⟨hg3, H⟩ := gg_e H
  obtain ⟨hg4, H⟩ := gg_e H
  refine GV.icmp_ge (tgt := 97) hg3 hg4 dX12_isPath_31 (by decide) (fun c5 => ?_) (fun c5 => ?_)
  · have H := it_t H c5
    refine GA.iload_n dX12_isPath_97 rfl ?_
    obtain ⟨hg6, H⟩ := gg_e H
    cases H
    exact GV.zret hg6 rfl dX12_isPath_98 (by omega) (by omega) ⟨rfl, rfl⟩
  · have H := it_f H c5
    refine GA.iload_n dX12_isPath_34 rfl ?_
    obtain ⟨hg7, H⟩ := gg_e H
    refine GV.if_eq (tgt := 89) hg7 dX12_isPath_35 (by decide) (fun c8 => ?_) (fun c8 => ?_)
    · have H := it_t H c8
      refine GA.iconst dX12_isPath_89 ?_
      refine GA.istore_n dX12_isPath_90 (by decide) ?_
      obtain ⟨x9, hx10, H⟩ := gv_e H
      refine GV.iinc hx10 dX12_isPath_91 rfl (by decide) ?_
      refine GA.goto (tgt := 26) dX12_isPath_94 (by decide) ?_
      refine GA.locals [(0, .ref (L 500)), (1, .int (J 0)), (2, .int (J x9))] ⟨rfl, rfl, rfl, trivial⟩ ?_
      exact ih_X12_isPath_26 hL _ _ (0) (x9) _ _ H
    · have H := it_f H c8
      refine GA.aload_n dX12_isPath_38 rfl ?_
      refine GA.get xf_X12_275 dX12_isPath_39 (gs_500 hL) (by decide) rfl ?_
      refine GA.iload_n dX12_isPath_42 rfl ?_
      obtain ⟨hg11, H⟩ := gg_e H
      obtain ⟨x12, hx13, H⟩ := gv_e H
      refine GV.iald hg11 hx13 dX12_isPath_43 (gs_518 hL) (by decide) ?_
      refine GA.bipush dX12_isPath_44 rfl ?_
      obtain ⟨hg14, H⟩ := gg_e H
      refine GV.icmp_ne (tgt := 85) hg14 (by decide) dX12_isPath_46 (by decide) (fun c15 => ?_) (fun c15 => ?_)
      · have H := it_t H c15
        refine GA.iconst dX12_isPath_85 ?_
        refine GA.goto (tgt := 90) dX12_isPath_86 (by decide) ?_
        refine GA.istore_n dX12_isPath_90 (by decide) ?_
        obtain ⟨x16, hx17, H⟩ := gv_e H
        refine GV.iinc hx17 dX12_isPath_91 rfl (by decide) ?_
        refine GA.goto (tgt := 26) dX12_isPath_94 (by decide) ?_
        refine GA.locals [(0, .ref (L 500)), (1, .int (J 1)), (2, .int (J x16))] ⟨rfl, rfl, rfl, trivial⟩ ?_
        exact ih_X12_isPath_26 hL _ _ (1) (x16) _ _ H
      · have H := it_f H c15
        refine GA.iload_n dX12_isPath_49 rfl ?_
        refine GA.iconst dX12_isPath_50 ?_
        obtain ⟨x18, hx19, H⟩ := gv_e H
        refine GV.iadd hx19 dX12_isPath_51 ?_
        refine GA.aload_n dX12_isPath_52 rfl ?_
        obtain ⟨x20, hx21, H⟩ := gv_e H
        refine GV.getI hx21 xf_X12_604 dX12_isPath_53 (gs_500 hL) (by decide) rfl ?_
        obtain ⟨hg22, H⟩ := gg_e H
        obtain ⟨hg23, H⟩ := gg_e H
        refine GV.icmp_ge (tgt := 89) hg22 hg23 dX12_isPath_56 (by decide) (fun c24 => ?_) (fun c24 => ?_)
        · have H := it_t H c24
          refine GA.iconst dX12_isPath_89 ?_
          refine GA.istore_n dX12_isPath_90 (by decide) ?_
          obtain ⟨x25, hx26, H⟩ := gv_e H
          refine GV.iinc hx26 dX12_isPath_91 rfl (by decide) ?_
          refine GA.goto (tgt := 26) dX12_isPath_94 (by decide) ?_
          refine GA.locals [(0, .ref (L 500)), (1, .int (J 0)), (2, .int (J x25))] ⟨rfl, rfl, rfl, trivial⟩ ?_
          exact ih_X12_isPath_26 hL _ _ (0) (x25) _ _ H
        · have H := it_f H c24
          refine GA.aload_n dX12_isPath_59 rfl ?_
          refine GA.get xf_X12_275 dX12_isPath_60 (gs_500 hL) (by decide) rfl ?_
          refine GA.iload_n dX12_isPath_63 rfl ?_
          refine GA.iconst dX12_isPath_64 ?_
          obtain ⟨x27, hx28, H⟩ := gv_e H
          refine GV.iadd hx28 dX12_isPath_65 ?_
          obtain ⟨hg29, H⟩ := gg_e H
          obtain ⟨x30, hx31, H⟩ := gv_e H
          refine GV.iald hg29 hx31 dX12_isPath_66 (gs_518 hL) (by decide) ?_
          refine GA.bipush dX12_isPath_67 rfl ?_
          obtain ⟨hg32, H⟩ := gg_e H
          refine GV.icmp_eq (tgt := 85) hg32 (by decide) dX12_isPath_69 (by decide) (fun c33 => ?_) (fun c33 => ?_)
          · have H := it_t H c33
            refine GA.iconst dX12_isPath_85 ?_
            refine GA.goto (tgt := 90) dX12_isPath_86 (by decide) ?_
            refine GA.istore_n dX12_isPath_90 (by decide) ?_
            obtain ⟨x34, hx35, H⟩ := gv_e H
            refine GV.iinc hx35 dX12_isPath_91 rfl (by decide) ?_
            refine GA.goto (tgt := 26) dX12_isPath_94 (by decide) ?_
            refine GA.locals [(0, .ref (L 500)), (1, .int (J 1)), (2, .int (J x34))] ⟨rfl, rfl, rfl, trivial⟩ ?_
            exact ih_X12_isPath_26 hL _ _ (1) (x34) _ _ H
          · have H := it_f H c33
            refine GA.aload_n dX12_isPath_72 rfl ?_
            refine GA.get xf_X12_275 dX12_isPath_73 (gs_500 hL) (by decide) rfl ?_
            refine GA.iload_n dX12_isPath_76 rfl ?_
            refine GA.iconst dX12_isPath_77 ?_
            obtain ⟨x36, hx37, H⟩ := gv_e H
            refine GV.iadd hx37 dX12_isPath_78 ?_
            obtain ⟨hg38, H⟩ := gg_e H
            obtain ⟨x39, hx40, H⟩ := gv_e H
            refine GV.iald hg38 hx40 dX12_isPath_79 (gs_518 hL) (by decide) ?_
            refine GA.bipush dX12_isPath_80 rfl ?_
            obtain ⟨hg41, H⟩ := gg_e H
            refine GV.icmp_ne (tgt := 89) hg41 (by decide) dX12_isPath_82 (by decide) (fun c42 => ?_) (fun c42 => ?_)
            · have H := it_t H c42
              refine GA.iconst dX12_isPath_89 ?_
              refine GA.istore_n dX12_isPath_90 (by decide) ?_
              obtain ⟨x43, hx44, H⟩ := gv_e H
              refine GV.iinc hx44 dX12_isPath_91 rfl (by decide) ?_
              refine GA.goto (tgt := 26) dX12_isPath_94 (by decide) ?_
              refine GA.locals [(0, .ref (L 500)), (1, .int (J 0)), (2, .int (J x43))] ⟨rfl, rfl, rfl, trivial⟩ ?_
              exact ih_X12_isPath_26 hL _ _ (0) (x43) _ _ H
            · have H := it_f H c42
              refine GA.iconst dX12_isPath_85 ?_
              refine GA.goto (tgt := 90) dX12_isPath_86 (by decide) ?_
              refine GA.istore_n dX12_isPath_90 (by decide) ?_
              obtain ⟨x45, hx46, H⟩ := gv_e H
              refine GV.iinc hx46 dX12_isPath_91 rfl (by decide) ?_
              refine GA.goto (tgt := 26) dX12_isPath_94 (by decide) ?_
              refine GA.locals [(0, .ref (L 500)), (1, .int (J 1)), (2, .int (J x45))] ⟨rfl, rfl, rfl, trivial⟩ ?_
              exact ih_X12_isPath_26 hL _ _ (1) (x45) _ _ H
theorem g_X12_isPath {l : Launch} {Z : XZ} {L : Nat → Nat} : ∀ n, P_X12_isPath_0 l Z L n ∧ P_X12_isPath_26 l Z L n
  | 0 => ⟨fun _ _ _ _ _ H => no_e H, fun _ _ _ _ _ _ _ H => no_e H⟩
  | n + 1 => have ⟨h0, h1⟩ := g_X12_isPath (l := l) (Z := Z) (L := L) n
    ⟨t_X12_isPath_0 n h0 h1, t_X12_isPath_26 n h0 h1⟩
theorem m_X12_isPath {l : Launch} {Z : XZ} {L : Nat → Nat} (hL : L 700 = 1) {n d : Nat} {S : GS} {x : Int} {S1 : GS} (H : f_X12_isPath n d 0 S [] = some (x, S1)) : GM l Z L yX12_isPath cX12_isPath 3 (some .boolean) [] d 0 0 [.ref (L 500)] S (fun v S' => v = some (.int (J x)) ∧ S1 = S') (fun _ _ => False) := GM.of (by decide) (Nat.le_of_ble_eq_true rfl) ((g_X12_isPath n).1 hL _ _ _ _ H)

def P_X12_cut_0 (l : Launch) (Z : XZ) (L : Nat → Nat) (n : Nat) : Prop := ∀ (hL : L 700 = 1), ∀ (d : Nat) (S : GS) (a1 : Int) (x : Int) (S1 : GS), f_X12_cut n d 0 S [a1] = some (x, S1) → GA l Z L yX12_cut cX12_cut 2 (some .int) [] d 0 0 (fun v S' => v = some (.int (J x)) ∧ S1 = S') (fun _ _ => False) 0 (gl [(0, .ref (L 500)), (1, .int (J a1))]) [] S 0 0
def P_X12_cut_51 (l : Launch) (Z : XZ) (L : Nat → Nat) (n : Nat) : Prop := ∀ (hL : L 700 = 1), ∀ (d : Nat) (S : GS) (s0 : Int) (x : Int) (S1 : GS), f_X12_cut n d 51 S [s0] = some (x, S1) → GA l Z L yX12_cut cX12_cut 2 (some .int) [] d 0 0 (fun v S' => v = some (.int (J x)) ∧ S1 = S') (fun _ _ => False) 51 (gl [(0, .ref (L 500))]) [.int (J s0), .ref (L 500)] S 0 0
theorem i_X12_cut {l : Launch} {Z : XZ} {L : Nat → Nat} (hL : L 700 = 1) {n : Nat} (ih : P_X12_cut_0 l Z L n) {d : Nat} {S : GS} {a1 : Int} {x : Int} {S1 : GS} (H : f_X12_cut n d 0 S [a1] = some (x, S1)) : GM l Z L yX12_cut cX12_cut 2 (some .int) [] d 0 0 [.ref (L 500), .int (J a1)] S (fun v S' => v = some (.int (J x)) ∧ S1 = S') (fun _ _ => False) := GM.of (by decide) (Nat.le_of_ble_eq_true rfl) (ih hL _ _ _ _ _ H)
set_option maxHeartbeats 4000000 in
set_option maxRecDepth 20000 in
theorem t_X12_cut_0 {l : Launch} {Z : XZ} {L : Nat → Nat} (n : Nat) (ih_X12_cut_0 : P_X12_cut_0 l Z L n) (ih_X12_cut_51 : P_X12_cut_51 l Z L n) : P_X12_cut_0 l Z L (n + 1) := by
  intro hL d S a1 x S1 H
  have H : b_X12_cut_0 n d (f_X12_cut n) S a1 = some (x, S1) := H
  unfold b_X12_cut_0 at H
  refine GA.aload_n dX12_cut_0 rfl ?_
  refine GA.aload_n dX12_cut_1 rfl ?_
  refine GA.iload_n dX12_cut_2 rfl ?_
  obtain ⟨hg1, H⟩ := gg_e H
  obtain ⟨x2, S_3, hc4, H⟩ := gc_e H
  refine GA.callV (m_X12_isDoc hL hc4) xs_X12_22 dX12_cut_3 (gs_500 hL) (by decide) rfl rfl (by omega) (by decide) rfl (Nat.le_of_ble_eq_true rfl) (by omega) (by omega) rfl (fun E S9 hx => hx.elim) (fun v S9 hq => ?_)
  obtain ⟨rfl, rfl⟩ := hq
  refine GA.iconst dX12_cut_6 ?_
  obtain ⟨x5, S_6, hc7, H⟩ := gc_e H
  refine GA.callV (m_X12_fails hL hc7) xs_X12_456 dX12_cut_7 (gs_500 hL) (by decide) rfl rfl (by omega) (by decide) rfl (Nat.le_of_ble_eq_true rfl) (by omega) (by omega) rfl (fun E S9 hx => hx.elim) (fun v S9 hq => ?_)
  obtain ⟨rfl, rfl⟩ := hq
  obtain ⟨hg8, H⟩ := gg_e H
  refine GV.if_eq (tgt := 15) hg8 dX12_cut_10 (by decide) (fun c9 => ?_) (fun c9 => ?_)
  · have H := it_t H c9
    refine GA.aload_n dX12_cut_15 rfl ?_
    obtain ⟨x10, S_11, hc12, H⟩ := gc_e H
    refine GA.callV (m_X12_pathOfPage hL hc12) xs_X12_638 dX12_cut_16 (gs_500 hL) (by decide) rfl rfl (by omega) (by decide) rfl (Nat.le_of_ble_eq_true rfl) (by omega) (by omega) rfl (fun E S9 hx => hx.elim) (fun v S9 hq => ?_)
    obtain ⟨rfl, rfl⟩ := hq
    refine GA.aload_n dX12_cut_19 rfl ?_
    refine GA.aload_n dX12_cut_20 rfl ?_
    obtain ⟨x13, hx14, H⟩ := gv_e H
    refine GV.getI hx14 xf_X12_15 dX12_cut_21 (gs_500 hL) (by decide) rfl ?_
    refine GA.bipush dX12_cut_24 rfl ?_
    obtain ⟨hg15, H⟩ := gg_e H
    refine GV.icmp_ge (tgt := 50) hg15 (by decide) dX12_cut_26 (by decide) (fun c16 => ?_) (fun c16 => ?_)
    · have H := it_t H c16
      refine GA.iconst dX12_cut_50 ?_
      refine GA.locals [(0, .ref (L 500))] ⟨rfl, trivial⟩ ?_
      exact ih_X12_cut_51 hL _ _ (0) _ _ H
    · have H := it_f H c16
      refine GA.aload_n dX12_cut_29 rfl ?_
      obtain ⟨x17, S_18, hc19, H⟩ := gc_e H
      refine GA.callV (m_X12_isPath hL hc19) xs_X12_641 dX12_cut_30 (gs_500 hL) (by decide) rfl rfl (by omega) (by decide) rfl (Nat.le_of_ble_eq_true rfl) (by omega) (by omega) rfl (fun E S9 hx => hx.elim) (fun v S9 hq => ?_)
      obtain ⟨rfl, rfl⟩ := hq
      obtain ⟨hg20, H⟩ := gg_e H
      refine GV.if_eq (tgt := 50) hg20 dX12_cut_33 (by decide) (fun c21 => ?_) (fun c21 => ?_)
      · have H := it_t H c21
        refine GA.iconst dX12_cut_50 ?_
        refine GA.locals [(0, .ref (L 500))] ⟨rfl, trivial⟩ ?_
        exact ih_X12_cut_51 hL _ _ (0) _ _ H
      · have H := it_f H c21
        refine GA.aload_n dX12_cut_36 rfl ?_
        refine GA.bipush dX12_cut_37 rfl ?_
        refine GA.iload_n dX12_cut_39 rfl ?_
        obtain ⟨x22, S_23, hc24, H⟩ := gc_e H
        refine GA.callV (m_X12_canCut hL hc24) xs_X12_676 dX12_cut_40 (gs_500 hL) (by decide) rfl rfl (by omega) (by decide) rfl (Nat.le_of_ble_eq_true rfl) (by omega) (by omega) rfl (fun E S9 hx => hx.elim) (fun v S9 hq => ?_)
        obtain ⟨rfl, rfl⟩ := hq
        obtain ⟨hg25, H⟩ := gg_e H
        refine GV.if_eq (tgt := 50) hg25 dX12_cut_43 (by decide) (fun c26 => ?_) (fun c26 => ?_)
        · have H := it_t H c26
          refine GA.iconst dX12_cut_50 ?_
          refine GA.locals [(0, .ref (L 500))] ⟨rfl, trivial⟩ ?_
          exact ih_X12_cut_51 hL _ _ (0) _ _ H
        · have H := it_f H c26
          refine GA.iconst dX12_cut_46 ?_
          refine GA.goto (tgt := 51) dX12_cut_47 (by decide) ?_
          refine GA.locals [(0, .ref (L 500))] ⟨rfl, trivial⟩ ?_
          exact ih_X12_cut_51 hL _ _ (1) _ _ H
  · have H := it_f H c9
    refine GA.iconst dX12_cut_13 ?_
    cases H
    exact GA.iret rfl dX12_cut_14 (by omega) (by omega) ⟨rfl, rfl⟩
set_option maxHeartbeats 4000000 in
set_option maxRecDepth 20000 in
theorem t_X12_cut_51 {l : Launch} {Z : XZ} {L : Nat → Nat} (n : Nat) (ih_X12_cut_0 : P_X12_cut_0 l Z L n) (ih_X12_cut_51 : P_X12_cut_51 l Z L n) : P_X12_cut_51 l Z L (n + 1) := by
  intro hL d S s0 x S1 H
  have H : b_X12_cut_51 n d (f_X12_cut n) S s0 = some (x, S1) := H
  unfold b_X12_cut_51 at H
  refine GA.iconst dX12_cut_51 ?_
  obtain ⟨hg1, H⟩ := gg_e H
  obtain ⟨x2, S_3, hc4, H⟩ := gc_e H
  refine GA.callV (m_X12_fails hL hc4) xs_X12_456 dX12_cut_52 (gs_500 hL) (by decide) rfl rfl (by omega) (by decide) rfl (Nat.le_of_ble_eq_true rfl) (by omega) (by omega) rfl (fun E S9 hx => hx.elim) (fun v S9 hq => ?_)
  obtain ⟨rfl, rfl⟩ := hq
  obtain ⟨hg5, H⟩ := gg_e H
  refine GV.if_eq (tgt := 60) hg5 dX12_cut_55 (by decide) (fun c6 => ?_) (fun c6 => ?_)
  · have H := it_t H c6
    refine GA.aload_n dX12_cut_60 rfl ?_
    refine GA.iconst dX12_cut_61 ?_
    obtain ⟨S_7, hx8, H⟩ := gv_e H
    refine GV.putI hx8 (xp_X12_460 _) dX12_cut_62 (gs_500 hL) (by decide) (Nat.le_of_ble_eq_true rfl) (gs_500 hL) ?_
    refine GA.aload_n dX12_cut_65 rfl ?_
    refine GA.bipush dX12_cut_66 rfl ?_
    obtain ⟨x9, S_10, hc11, H⟩ := gc_e H
    refine GA.callV (m_X12_keeps hL hc11) xs_X12_536 dX12_cut_68 (gs_500 hL) (by decide) rfl rfl (by omega) (by decide) rfl (Nat.le_of_ble_eq_true rfl) (by omega) (by omega) rfl (fun E S9 hx => hx.elim) (fun v S9 hq => ?_)
    obtain ⟨rfl, rfl⟩ := hq
    cases H
    exact GA.iret rfl dX12_cut_71 (by omega) (by omega) ⟨rfl, rfl⟩
  · have H := it_f H c6
    refine GA.iconst dX12_cut_58 ?_
    cases H
    exact GA.iret rfl dX12_cut_59 (by omega) (by omega) ⟨rfl, rfl⟩
theorem g_X12_cut {l : Launch} {Z : XZ} {L : Nat → Nat} : ∀ n, P_X12_cut_0 l Z L n ∧ P_X12_cut_51 l Z L n
  | 0 => ⟨fun _ _ _ _ _ _ H => no_e H, fun _ _ _ _ _ _ H => no_e H⟩
  | n + 1 => have ⟨h0, h1⟩ := g_X12_cut (l := l) (Z := Z) (L := L) n
    ⟨t_X12_cut_0 n h0 h1, t_X12_cut_51 n h0 h1⟩
theorem m_X12_cut {l : Launch} {Z : XZ} {L : Nat → Nat} (hL : L 700 = 1) {n d : Nat} {S : GS} {a1 : Int} {x : Int} {S1 : GS} (H : f_X12_cut n d 0 S [a1] = some (x, S1)) : GM l Z L yX12_cut cX12_cut 2 (some .int) [] d 0 0 [.ref (L 500), .int (J a1)] S (fun v S' => v = some (.int (J x)) ∧ S1 = S') (fun _ _ => False) := GM.of (by decide) (Nat.le_of_ble_eq_true rfl) ((g_X12_cut n).1 hL _ _ _ _ _ H)

def P_X12_isNode_0 (l : Launch) (Z : XZ) (L : Nat → Nat) (n : Nat) : Prop := ∀ (hL : L 700 = 1), ∀ (d : Nat) (S : GS) (a1 : Int) (a2 : Int) (x : Int) (S1 : GS), f_X12_isNode n d 0 S [a1, a2] = some (x, S1) → GA l Z L yX12_isNode cX12_isNode 3 (some .boolean) [] d 0 0 (fun v S' => v = some (.int (J x)) ∧ S1 = S') (fun _ _ => False) 0 (gl [(0, .ref (L 500)), (1, .int (J a1)), (2, .int (J a2))]) [] S 0 0
theorem i_X12_isNode {l : Launch} {Z : XZ} {L : Nat → Nat} (hL : L 700 = 1) {n : Nat} (ih : P_X12_isNode_0 l Z L n) {d : Nat} {S : GS} {a1 : Int} {a2 : Int} {x : Int} {S1 : GS} (H : f_X12_isNode n d 0 S [a1, a2] = some (x, S1)) : GM l Z L yX12_isNode cX12_isNode 3 (some .boolean) [] d 0 0 [.ref (L 500), .int (J a1), .int (J a2)] S (fun v S' => v = some (.int (J x)) ∧ S1 = S') (fun _ _ => False) := GM.of (by decide) (Nat.le_of_ble_eq_true rfl) (ih hL _ _ _ _ _ _ H)
set_option maxHeartbeats 4000000 in
set_option maxRecDepth 20000 in
theorem t_X12_isNode_0 {l : Launch} {Z : XZ} {L : Nat → Nat} (n : Nat) (ih_X12_isNode_0 : P_X12_isNode_0 l Z L n) : P_X12_isNode_0 l Z L (n + 1) := by
  intro hL d S a1 a2 x S1 H
  have H : b_X12_isNode_0 n d (f_X12_isNode n) S a1 a2 = some (x, S1) := H
  unfold b_X12_isNode_0 at H
  refine GA.aload_n dX12_isNode_0 rfl ?_
  refine GA.iload_n dX12_isNode_1 rfl ?_
  obtain ⟨hg1, H⟩ := gg_e H
  obtain ⟨x2, S_3, hc4, H⟩ := gc_e H
  refine GA.callV (m_X12_isDoc hL hc4) xs_X12_22 dX12_isNode_2 (gs_500 hL) (by decide) rfl rfl (by omega) (by decide) rfl (Nat.le_of_ble_eq_true rfl) (by omega) (by omega) rfl (fun E S9 hx => hx.elim) (fun v S9 hq => ?_)
  obtain ⟨rfl, rfl⟩ := hq
  obtain ⟨hg5, H⟩ := gg_e H
  refine GV.if_eq (tgt := 28) hg5 dX12_isNode_5 (by decide) (fun c6 => ?_) (fun c6 => ?_)
  · have H := it_t H c6
    refine GA.iconst dX12_isNode_28 ?_
    cases H
    exact GV.zret (by decide) rfl dX12_isNode_29 (by omega) (by omega) ⟨rfl, rfl⟩
  · have H := it_f H c6
    refine GA.iload_n dX12_isNode_8 rfl ?_
    refine GA.iconst dX12_isNode_9 ?_
    refine GA.aload_n dX12_isNode_10 rfl ?_
    refine GA.get xf_X12_26 dX12_isNode_11 (gs_500 hL) (by decide) rfl ?_
    refine GA.iload_n dX12_isNode_14 rfl ?_
    obtain ⟨hg7, H⟩ := gg_e H
    obtain ⟨x8, hx9, H⟩ := gv_e H
    refine GV.iald hg7 hx9 dX12_isNode_15 (gs_502 hL) (by decide) ?_
    refine GA.iconst dX12_isNode_16 ?_
    obtain ⟨x10, hx11, H⟩ := gv_e H
    refine GV.isub hx11 dX12_isNode_17 ?_
    obtain ⟨x12, S_13, hc14, H⟩ := gc_e H
    refine GA.callS (m_X12_in hL hc14) xs_X12_18 dX12_isNode_18 rfl (by omega) (by decide) rfl (Nat.le_of_ble_eq_true rfl) (by omega) (by omega) rfl (fun E S9 hx => hx.elim) (fun v S9 hq => ?_)
    obtain ⟨rfl, rfl⟩ := hq
    obtain ⟨hg15, H⟩ := gg_e H
    refine GV.if_eq (tgt := 28) hg15 dX12_isNode_21 (by decide) (fun c16 => ?_) (fun c16 => ?_)
    · have H := it_t H c16
      refine GA.iconst dX12_isNode_28 ?_
      cases H
      exact GV.zret (by decide) rfl dX12_isNode_29 (by omega) (by omega) ⟨rfl, rfl⟩
    · have H := it_f H c16
      refine GA.iconst dX12_isNode_24 ?_
      refine GA.goto (tgt := 29) dX12_isNode_25 (by decide) ?_
      cases H
      exact GV.zret (by decide) rfl dX12_isNode_29 (by omega) (by omega) ⟨rfl, rfl⟩
theorem g_X12_isNode {l : Launch} {Z : XZ} {L : Nat → Nat} : ∀ n, P_X12_isNode_0 l Z L n
  | 0 => fun _ _ _ _ _ _ _ H => no_e H
  | n + 1 => t_X12_isNode_0 n (g_X12_isNode n)
theorem m_X12_isNode {l : Launch} {Z : XZ} {L : Nat → Nat} (hL : L 700 = 1) {n d : Nat} {S : GS} {a1 : Int} {a2 : Int} {x : Int} {S1 : GS} (H : f_X12_isNode n d 0 S [a1, a2] = some (x, S1)) : GM l Z L yX12_isNode cX12_isNode 3 (some .boolean) [] d 0 0 [.ref (L 500), .int (J a1), .int (J a2)] S (fun v S' => v = some (.int (J x)) ∧ S1 = S') (fun _ _ => False) := GM.of (by decide) (Nat.le_of_ble_eq_true rfl) ((g_X12_isNode n) hL _ _ _ _ _ _ H)

def P_X12_digest_0 (l : Launch) (Z : XZ) (L : Nat → Nat) (n : Nat) : Prop := ∀ (hL : L 700 = 1), ∀ (d : Nat) (S : GS) (a1 : Int) (a2 : Int) (x : Int) (S1 : GS), f_X12_digest n d 0 S [a1, a2] = some (x, S1) → GA l Z L yX12_digest cX12_digest 5 (some .int) [] d 0 0 (fun v S' => v = some (.int (J x)) ∧ S1 = S') (fun _ _ => False) 0 (gl [(0, .ref (L 500)), (1, .int (J a1)), (2, .int (J a2))]) [] S 0 0
def P_X12_digest_30 (l : Launch) (Z : XZ) (L : Nat → Nat) (n : Nat) : Prop := ∀ (hL : L 700 = 1), ∀ (d : Nat) (S : GS) (a3 : Int) (a4 : Int) (x : Int) (S1 : GS), f_X12_digest n d 30 S [a3, a4] = some (x, S1) → GA l Z L yX12_digest cX12_digest 5 (some .int) [] d 0 0 (fun v S' => v = some (.int (J x)) ∧ S1 = S') (fun _ _ => False) 30 (gl [(0, .ref (L 500)), (3, .int (J a3)), (4, .int (J a4))]) [] S 0 0
theorem i_X12_digest {l : Launch} {Z : XZ} {L : Nat → Nat} (hL : L 700 = 1) {n : Nat} (ih : P_X12_digest_0 l Z L n) {d : Nat} {S : GS} {a1 : Int} {a2 : Int} {x : Int} {S1 : GS} (H : f_X12_digest n d 0 S [a1, a2] = some (x, S1)) : GM l Z L yX12_digest cX12_digest 5 (some .int) [] d 0 0 [.ref (L 500), .int (J a1), .int (J a2)] S (fun v S' => v = some (.int (J x)) ∧ S1 = S') (fun _ _ => False) := GM.of (by decide) (Nat.le_of_ble_eq_true rfl) (ih hL _ _ _ _ _ _ H)
set_option maxHeartbeats 4000000 in
set_option maxRecDepth 20000 in
theorem t_X12_digest_0 {l : Launch} {Z : XZ} {L : Nat → Nat} (n : Nat) (ih_X12_digest_0 : P_X12_digest_0 l Z L n) (ih_X12_digest_30 : P_X12_digest_30 l Z L n) : P_X12_digest_0 l Z L (n + 1) := by
  intro hL d S a1 a2 x S1 H
  have H : b_X12_digest_0 n d (f_X12_digest n) S a1 a2 = some (x, S1) := H
  unfold b_X12_digest_0 at H
  refine GA.aload_n dX12_digest_0 rfl ?_
  refine GA.aload_n dX12_digest_1 rfl ?_
  refine GA.iload_n dX12_digest_2 rfl ?_
  refine GA.iload_n dX12_digest_3 rfl ?_
  obtain ⟨hg1, H⟩ := gg_e H
  obtain ⟨x2, S_3, hc4, H⟩ := gc_e H
  refine GA.callV (m_X12_isNode hL hc4) xs_X12_580 dX12_digest_4 (gs_500 hL) (by decide) rfl rfl (by omega) (by decide) rfl (Nat.le_of_ble_eq_true rfl) (by omega) (by omega) rfl (fun E S9 hx => hx.elim) (fun v S9 hq => ?_)
  obtain ⟨rfl, rfl⟩ := hq
  refine GA.iconst dX12_digest_7 ?_
  obtain ⟨x5, S_6, hc7, H⟩ := gc_e H
  refine GA.callV (m_X12_fails hL hc7) xs_X12_456 dX12_digest_8 (gs_500 hL) (by decide) rfl rfl (by omega) (by decide) rfl (Nat.le_of_ble_eq_true rfl) (by omega) (by omega) rfl (fun E S9 hx => hx.elim) (fun v S9 hq => ?_)
  obtain ⟨rfl, rfl⟩ := hq
  obtain ⟨hg8, H⟩ := gg_e H
  refine GV.if_eq (tgt := 16) hg8 dX12_digest_11 (by decide) (fun c9 => ?_) (fun c9 => ?_)
  · have H := it_t H c9
    refine GA.aload_n dX12_digest_16 rfl ?_
    refine GA.iconst dX12_digest_17 ?_
    refine GA.iload_n dX12_digest_18 rfl ?_
    refine GA.iload_n dX12_digest_19 rfl ?_
    refine GA.iconst dX12_digest_20 ?_
    obtain ⟨x10, S_11, hc12, H⟩ := gc_e H
    refine GA.callV (m_X12_writes hL hc12) xs_X12_574 dX12_digest_21 (gs_500 hL) (by decide) rfl rfl (by omega) (by decide) rfl (Nat.le_of_ble_eq_true rfl) (by omega) (by omega) rfl (fun E S9 hx => hx.elim) (fun v S9 hq => ?_)
    obtain ⟨rfl, rfl⟩ := hq
    refine GA.bipush dX12_digest_24 rfl ?_
    refine GA.istore_n dX12_digest_26 (by decide) ?_
    refine GA.iconst dX12_digest_27 ?_
    refine GA.istore dX12_digest_28 (by decide) ?_
    refine GA.locals [(0, .ref (L 500)), (3, .int (J 7)), (4, .int (J 0))] ⟨rfl, rfl, rfl, trivial⟩ ?_
    exact ih_X12_digest_30 hL _ _ (7) (0) _ _ H
  · have H := it_f H c9
    refine GA.iconst dX12_digest_14 ?_
    cases H
    exact GA.iret rfl dX12_digest_15 (by omega) (by omega) ⟨rfl, rfl⟩
set_option maxHeartbeats 4000000 in
set_option maxRecDepth 20000 in
theorem t_X12_digest_30 {l : Launch} {Z : XZ} {L : Nat → Nat} (n : Nat) (ih_X12_digest_0 : P_X12_digest_0 l Z L n) (ih_X12_digest_30 : P_X12_digest_30 l Z L n) : P_X12_digest_30 l Z L (n + 1) := by
  intro hL d S a3 a4 x S1 H
  have H : b_X12_digest_30 n d (f_X12_digest n) S a3 a4 = some (x, S1) := H
  unfold b_X12_digest_30 at H
  refine GA.iload dX12_digest_30 rfl ?_
  refine GA.aload_n dX12_digest_32 rfl ?_
  refine GA.get xf_X12_272 dX12_digest_33 (gs_500 hL) (by decide) rfl ?_
  refine GA.iconst dX12_digest_36 ?_
  obtain ⟨hg1, H⟩ := gg_e H
  obtain ⟨x2, hx3, H⟩ := gv_e H
  refine GV.iald hg1 hx3 dX12_digest_37 (gs_517 hL) (by decide) ?_
  obtain ⟨hg4, H⟩ := gg_e H
  obtain ⟨hg5, H⟩ := gg_e H
  refine GV.icmp_ge (tgt := 65) hg4 hg5 dX12_digest_38 (by decide) (fun c6 => ?_) (fun c6 => ?_)
  · have H := it_t H c6
    refine GA.iload_n dX12_digest_65 rfl ?_
    cases H
    exact GA.iret rfl dX12_digest_66 (by omega) (by omega) ⟨rfl, rfl⟩
  · have H := it_f H c6
    refine GA.sipush dX12_digest_41 rfl ?_
    refine GA.iload_n dX12_digest_44 rfl ?_
    obtain ⟨x7, hx8, H⟩ := gv_e H
    refine GV.imul hx8 dX12_digest_45 ?_
    refine GA.aload_n dX12_digest_46 rfl ?_
    refine GA.get xf_X12_269 dX12_digest_47 (gs_500 hL) (by decide) rfl ?_
    refine GA.iload dX12_digest_50 rfl ?_
    obtain ⟨hg9, H⟩ := gg_e H
    obtain ⟨x10, hx11, H⟩ := gv_e H
    refine GV.iald hg9 hx11 dX12_digest_52 (gs_516 hL) (by decide) ?_
    obtain ⟨x12, hx13, H⟩ := gv_e H
    refine GV.iadd hx13 dX12_digest_53 ?_
    refine GA.ldcw (v := 65521) xc_X12_597 dX12_digest_54 ?_
    obtain ⟨hg14, H⟩ := gg_e H
    obtain ⟨x15, hx16, H⟩ := gv_e H
    refine GV.irem hg14 hx16 dX12_digest_57 ?_
    refine GA.istore_n dX12_digest_58 (by decide) ?_
    obtain ⟨x17, hx18, H⟩ := gv_e H
    refine GV.iinc hx18 dX12_digest_59 rfl (by decide) ?_
    refine GA.goto (tgt := 30) dX12_digest_62 (by decide) ?_
    refine GA.locals [(0, .ref (L 500)), (3, .int (J x15)), (4, .int (J x17))] ⟨rfl, rfl, rfl, trivial⟩ ?_
    exact ih_X12_digest_30 hL _ _ (x15) (x17) _ _ H
theorem g_X12_digest {l : Launch} {Z : XZ} {L : Nat → Nat} : ∀ n, P_X12_digest_0 l Z L n ∧ P_X12_digest_30 l Z L n
  | 0 => ⟨fun _ _ _ _ _ _ _ H => no_e H, fun _ _ _ _ _ _ _ H => no_e H⟩
  | n + 1 => have ⟨h0, h1⟩ := g_X12_digest (l := l) (Z := Z) (L := L) n
    ⟨t_X12_digest_0 n h0 h1, t_X12_digest_30 n h0 h1⟩
theorem m_X12_digest {l : Launch} {Z : XZ} {L : Nat → Nat} (hL : L 700 = 1) {n d : Nat} {S : GS} {a1 : Int} {a2 : Int} {x : Int} {S1 : GS} (H : f_X12_digest n d 0 S [a1, a2] = some (x, S1)) : GM l Z L yX12_digest cX12_digest 5 (some .int) [] d 0 0 [.ref (L 500), .int (J a1), .int (J a2)] S (fun v S' => v = some (.int (J x)) ∧ S1 = S') (fun _ _ => False) := GM.of (by decide) (Nat.le_of_ble_eq_true rfl) ((g_X12_digest n).1 hL _ _ _ _ _ _ H)

def P_X12_docOf_0 (l : Launch) (Z : XZ) (L : Nat → Nat) (n : Nat) : Prop := ∀ (hL : L 700 = 1), ∀ (d : Nat) (S : GS) (a1 : Int) (x : Int) (S1 : GS), f_X12_docOf n d 0 S [a1] = some (x, S1) → GA l Z L yX12_docOf cX12_docOf 2 (some .int) [] d 0 0 (fun v S' => v = some (.int (J x)) ∧ S1 = S') (fun _ _ => False) 0 (gl [(0, .ref (L 500)), (1, .int (J a1))]) [] S 0 0
theorem i_X12_docOf {l : Launch} {Z : XZ} {L : Nat → Nat} (hL : L 700 = 1) {n : Nat} (ih : P_X12_docOf_0 l Z L n) {d : Nat} {S : GS} {a1 : Int} {x : Int} {S1 : GS} (H : f_X12_docOf n d 0 S [a1] = some (x, S1)) : GM l Z L yX12_docOf cX12_docOf 2 (some .int) [] d 0 0 [.ref (L 500), .int (J a1)] S (fun v S' => v = some (.int (J x)) ∧ S1 = S') (fun _ _ => False) := GM.of (by decide) (Nat.le_of_ble_eq_true rfl) (ih hL _ _ _ _ _ H)
set_option maxHeartbeats 4000000 in
set_option maxRecDepth 20000 in
theorem t_X12_docOf_0 {l : Launch} {Z : XZ} {L : Nat → Nat} (n : Nat) (ih_X12_docOf_0 : P_X12_docOf_0 l Z L n) : P_X12_docOf_0 l Z L (n + 1) := by
  intro hL d S a1 x S1 H
  have H : b_X12_docOf_0 n d (f_X12_docOf n) S a1 = some (x, S1) := H
  unfold b_X12_docOf_0 at H
  refine GA.iload_n dX12_docOf_0 rfl ?_
  obtain ⟨hg1, H⟩ := gg_e H
  refine GV.if_ne (tgt := 11) hg1 dX12_docOf_1 (by decide) (fun c2 => ?_) (fun c2 => ?_)
  · have H := it_t H c2
    refine GA.iload_n dX12_docOf_11 rfl ?_
    refine GA.iconst dX12_docOf_12 ?_
    refine GV.icmp_ne (tgt := 23) hg1 (by decide) dX12_docOf_13 (by decide) (fun c3 => ?_) (fun c3 => ?_)
    · have H := it_t H c3
      refine GA.aload_n dX12_docOf_23 rfl ?_
      obtain ⟨x4, hx5, H⟩ := gv_e H
      refine GV.getI hx5 xf_X12_759 dX12_docOf_24 (gs_500 hL) (by decide) rfl ?_
      cases H
      exact GA.iret rfl dX12_docOf_27 (by omega) (by omega) ⟨rfl, rfl⟩
    · have H := it_f H c3
      refine GA.aload_n dX12_docOf_16 rfl ?_
      obtain ⟨x6, hx7, H⟩ := gv_e H
      refine GV.getI hx7 xf_X12_756 dX12_docOf_17 (gs_500 hL) (by decide) rfl ?_
      refine GA.goto (tgt := 27) dX12_docOf_20 (by decide) ?_
      cases H
      exact GA.iret rfl dX12_docOf_27 (by omega) (by omega) ⟨rfl, rfl⟩
  · have H := it_f H c2
    refine GA.aload_n dX12_docOf_4 rfl ?_
    obtain ⟨x8, hx9, H⟩ := gv_e H
    refine GV.getI hx9 xf_X12_765 dX12_docOf_5 (gs_500 hL) (by decide) rfl ?_
    refine GA.goto (tgt := 27) dX12_docOf_8 (by decide) ?_
    cases H
    exact GA.iret rfl dX12_docOf_27 (by omega) (by omega) ⟨rfl, rfl⟩
theorem g_X12_docOf {l : Launch} {Z : XZ} {L : Nat → Nat} : ∀ n, P_X12_docOf_0 l Z L n
  | 0 => fun _ _ _ _ _ _ H => no_e H
  | n + 1 => t_X12_docOf_0 n (g_X12_docOf n)
theorem m_X12_docOf {l : Launch} {Z : XZ} {L : Nat → Nat} (hL : L 700 = 1) {n d : Nat} {S : GS} {a1 : Int} {x : Int} {S1 : GS} (H : f_X12_docOf n d 0 S [a1] = some (x, S1)) : GM l Z L yX12_docOf cX12_docOf 2 (some .int) [] d 0 0 [.ref (L 500), .int (J a1)] S (fun v S' => v = some (.int (J x)) ∧ S1 = S') (fun _ _ => False) := GM.of (by decide) (Nat.le_of_ble_eq_true rfl) ((g_X12_docOf n) hL _ _ _ _ _ H)

def P_X12_pathOf_0 (l : Launch) (Z : XZ) (L : Nat → Nat) (n : Nat) : Prop := ∀ (hL : L 700 = 1), ∀ (d : Nat) (S : GS) (a1 : Int) (a2 : Int) (x : Int) (S1 : GS), f_X12_pathOf n d 0 S [a1, a2] = some (x, S1) → GA l Z L yX12_pathOf cX12_pathOf 4 none [] d 0 0 (fun v S' => v = none ∧ S1 = S') (fun _ _ => False) 0 (gl [(0, .ref (L 500)), (1, .int (J a1)), (2, .int (J a2))]) [] S 0 0
def P_X12_pathOf_14 (l : Launch) (Z : XZ) (L : Nat → Nat) (n : Nat) : Prop := ∀ (hL : L 700 = 1), ∀ (d : Nat) (S : GS) (a1 : Int) (a2 : Int) (a3 : Int) (x : Int) (S1 : GS), f_X12_pathOf n d 14 S [a1, a2, a3] = some (x, S1) → GA l Z L yX12_pathOf cX12_pathOf 4 none [] d 0 0 (fun v S' => v = none ∧ S1 = S') (fun _ _ => False) 14 (gl [(0, .ref (L 500)), (1, .int (J a1)), (2, .int (J a2)), (3, .int (J a3))]) [] S 0 0
theorem i_X12_pathOf {l : Launch} {Z : XZ} {L : Nat → Nat} (hL : L 700 = 1) {n : Nat} (ih : P_X12_pathOf_0 l Z L n) {d : Nat} {S : GS} {a1 : Int} {a2 : Int} {x : Int} {S1 : GS} (H : f_X12_pathOf n d 0 S [a1, a2] = some (x, S1)) : GM l Z L yX12_pathOf cX12_pathOf 4 none [] d 0 0 [.ref (L 500), .int (J a1), .int (J a2)] S (fun v S' => v = none ∧ S1 = S') (fun _ _ => False) := GM.of (by decide) (Nat.le_of_ble_eq_true rfl) (ih hL _ _ _ _ _ _ H)
set_option maxHeartbeats 4000000 in
set_option maxRecDepth 20000 in
theorem t_X12_pathOf_0 {l : Launch} {Z : XZ} {L : Nat → Nat} (n : Nat) (ih_X12_pathOf_0 : P_X12_pathOf_0 l Z L n) (ih_X12_pathOf_14 : P_X12_pathOf_14 l Z L n) : P_X12_pathOf_0 l Z L (n + 1) := by
  intro hL d S a1 a2 x S1 H
  have H : b_X12_pathOf_0 n d (f_X12_pathOf n) S a1 a2 = some (x, S1) := H
  unfold b_X12_pathOf_0 at H
  refine GA.aload_n dX12_pathOf_0 rfl ?_
  refine GA.aload_n dX12_pathOf_1 rfl ?_
  refine GA.iload_n dX12_pathOf_2 rfl ?_
  refine GA.iload_n dX12_pathOf_3 rfl ?_
  refine GA.bipush dX12_pathOf_4 rfl ?_
  obtain ⟨hg1, H⟩ := gg_e H
  obtain ⟨x2, S_3, hc4, H⟩ := gc_e H
  refine GA.callV (m_X12_part hL hc4) xs_X12_36 dX12_pathOf_6 (gs_500 hL) (by decide) rfl rfl (by omega) (by decide) rfl (Nat.le_of_ble_eq_true rfl) (by omega) (by omega) rfl (fun E S9 hx => hx.elim) (fun v S9 hq => ?_)
  obtain ⟨rfl, rfl⟩ := hq
  obtain ⟨S_5, hx6, H⟩ := gv_e H
  refine GV.putI hx6 (xp_X12_604 _) dX12_pathOf_9 (gs_500 hL) (by decide) (Nat.le_of_ble_eq_true rfl) (gs_500 hL) ?_
  refine GA.iconst dX12_pathOf_12 ?_
  refine GA.istore_n dX12_pathOf_13 (by decide) ?_
  refine GA.locals [(0, .ref (L 500)), (1, .int (J a1)), (2, .int (J a2)), (3, .int (J 0))] ⟨rfl, rfl, rfl, rfl, trivial⟩ ?_
  exact ih_X12_pathOf_14 hL _ _ (a1) (a2) (0) _ _ H
set_option maxHeartbeats 4000000 in
set_option maxRecDepth 20000 in
theorem t_X12_pathOf_14 {l : Launch} {Z : XZ} {L : Nat → Nat} (n : Nat) (ih_X12_pathOf_0 : P_X12_pathOf_0 l Z L n) (ih_X12_pathOf_14 : P_X12_pathOf_14 l Z L n) : P_X12_pathOf_14 l Z L (n + 1) := by
  intro hL d S a1 a2 a3 x S1 H
  have H : b_X12_pathOf_14 n d (f_X12_pathOf n) S a1 a2 a3 = some (x, S1) := H
  unfold b_X12_pathOf_14 at H
  refine GA.iload_n dX12_pathOf_14 rfl ?_
  refine GA.aload_n dX12_pathOf_15 rfl ?_
  obtain ⟨x1, hx2, H⟩ := gv_e H
  refine GV.getI hx2 xf_X12_604 dX12_pathOf_16 (gs_500 hL) (by decide) rfl ?_
  obtain ⟨hg3, H⟩ := gg_e H
  obtain ⟨hg4, H⟩ := gg_e H
  refine GV.icmp_ge (tgt := 44) hg3 hg4 dX12_pathOf_19 (by decide) (fun c5 => ?_) (fun c5 => ?_)
  · have H := it_t H c5
    cases H
    exact GA.vret rfl dX12_pathOf_44 (by omega) (by omega) ⟨rfl, rfl⟩
  · have H := it_f H c5
    refine GA.aload_n dX12_pathOf_22 rfl ?_
    refine GA.get xf_X12_275 dX12_pathOf_23 (gs_500 hL) (by decide) rfl ?_
    refine GA.iload_n dX12_pathOf_26 rfl ?_
    refine GA.aload_n dX12_pathOf_27 rfl ?_
    refine GA.iload_n dX12_pathOf_28 rfl ?_
    refine GA.iload_n dX12_pathOf_29 rfl ?_
    refine GA.bipush dX12_pathOf_30 rfl ?_
    refine GA.iload_n dX12_pathOf_32 rfl ?_
    obtain ⟨x6, hx7, H⟩ := gv_e H
    refine GV.iadd hx7 dX12_pathOf_33 ?_
    obtain ⟨hg8, H⟩ := gg_e H
    obtain ⟨x9, S_10, hc11, H⟩ := gc_e H
    refine GA.callV (m_X12_part hL hc11) xs_X12_36 dX12_pathOf_34 (gs_500 hL) (by decide) rfl rfl (by omega) (by decide) rfl (Nat.le_of_ble_eq_true rfl) (by omega) (by omega) rfl (fun E S9 hx => hx.elim) (fun v S9 hq => ?_)
    obtain ⟨rfl, rfl⟩ := hq
    obtain ⟨hg12, H⟩ := gg_e H
    obtain ⟨S_13, hx14, H⟩ := gv_e H
    refine GV.iast hg12 hx14 dX12_pathOf_37 (fun _ => (gs_518 hL)) (by decide) ?_
    obtain ⟨x15, hx16, H⟩ := gv_e H
    refine GV.iinc hx16 dX12_pathOf_38 rfl (by decide) ?_
    refine GA.goto (tgt := 14) dX12_pathOf_41 (by decide) ?_
    refine GA.locals [(0, .ref (L 500)), (1, .int (J a1)), (2, .int (J a2)), (3, .int (J x15))] ⟨rfl, rfl, rfl, rfl, trivial⟩ ?_
    exact ih_X12_pathOf_14 hL _ _ (a1) (a2) (x15) _ _ H
theorem g_X12_pathOf {l : Launch} {Z : XZ} {L : Nat → Nat} : ∀ n, P_X12_pathOf_0 l Z L n ∧ P_X12_pathOf_14 l Z L n
  | 0 => ⟨fun _ _ _ _ _ _ _ H => no_e H, fun _ _ _ _ _ _ _ _ H => no_e H⟩
  | n + 1 => have ⟨h0, h1⟩ := g_X12_pathOf (l := l) (Z := Z) (L := L) n
    ⟨t_X12_pathOf_0 n h0 h1, t_X12_pathOf_14 n h0 h1⟩
theorem m_X12_pathOf {l : Launch} {Z : XZ} {L : Nat → Nat} (hL : L 700 = 1) {n d : Nat} {S : GS} {a1 : Int} {a2 : Int} {x : Int} {S1 : GS} (H : f_X12_pathOf n d 0 S [a1, a2] = some (x, S1)) : GM l Z L yX12_pathOf cX12_pathOf 4 none [] d 0 0 [.ref (L 500), .int (J a1), .int (J a2)] S (fun v S' => v = none ∧ S1 = S') (fun _ _ => False) := GM.of (by decide) (Nat.le_of_ble_eq_true rfl) ((g_X12_pathOf n).1 hL _ _ _ _ _ _ H)

def P_X12_isTold_0 (l : Launch) (Z : XZ) (L : Nat → Nat) (n : Nat) : Prop := ∀ (hL : L 700 = 1), ∀ (d : Nat) (S : GS) (a1 : Int) (a2 : Int) (a3 : Int) (x : Int) (S1 : GS), f_X12_isTold n d 0 S [a1, a2, a3] = some (x, S1) → GA l Z L yX12_isTold cX12_isTold 5 (some .boolean) [] d 0 0 (fun v S' => v = some (.int (J x)) ∧ S1 = S') (fun _ _ => False) 0 (gl [(0, .ref (L 500)), (1, .int (J a1)), (2, .int (J a2)), (3, .int (J a3))]) [] S 0 0
def P_X12_isTold_10 (l : Launch) (Z : XZ) (L : Nat → Nat) (n : Nat) : Prop := ∀ (hL : L 700 = 1), ∀ (d : Nat) (S : GS) (a1 : Int) (a2 : Int) (x : Int) (S1 : GS), f_X12_isTold n d 10 S [a1, a2] = some (x, S1) → GA l Z L yX12_isTold cX12_isTold 5 (some .boolean) [] d 0 0 (fun v S' => v = some (.int (J x)) ∧ S1 = S') (fun _ _ => False) 10 (gl [(0, .ref (L 500)), (1, .int (J a1)), (2, .int (J a2))]) [] S 0 0
theorem i_X12_isTold {l : Launch} {Z : XZ} {L : Nat → Nat} (hL : L 700 = 1) {n : Nat} (ih : P_X12_isTold_0 l Z L n) {d : Nat} {S : GS} {a1 : Int} {a2 : Int} {a3 : Int} {x : Int} {S1 : GS} (H : f_X12_isTold n d 0 S [a1, a2, a3] = some (x, S1)) : GM l Z L yX12_isTold cX12_isTold 5 (some .boolean) [] d 0 0 [.ref (L 500), .int (J a1), .int (J a2), .int (J a3)] S (fun v S' => v = some (.int (J x)) ∧ S1 = S') (fun _ _ => False) := GM.of (by decide) (Nat.le_of_ble_eq_true rfl) (ih hL _ _ _ _ _ _ _ H)
set_option maxHeartbeats 4000000 in
set_option maxRecDepth 20000 in
theorem t_X12_isTold_0 {l : Launch} {Z : XZ} {L : Nat → Nat} (n : Nat) (ih_X12_isTold_0 : P_X12_isTold_0 l Z L n) (ih_X12_isTold_10 : P_X12_isTold_10 l Z L n) : P_X12_isTold_0 l Z L (n + 1) := by
  intro hL d S a1 a2 a3 x S1 H
  have H : b_X12_isTold_0 n d (f_X12_isTold n) S a1 a2 a3 = some (x, S1) := H
  unfold b_X12_isTold_0 at H
  refine GA.iload_n dX12_isTold_0 rfl ?_
  refine GA.iconst dX12_isTold_1 ?_
  obtain ⟨hg1, H⟩ := gg_e H
  refine GV.icmp_eq (tgt := 10) hg1 (by decide) dX12_isTold_2 (by decide) (fun c2 => ?_) (fun c2 => ?_)
  · have H := it_t H c2
    refine GA.locals [(0, .ref (L 500)), (1, .int (J a1)), (2, .int (J a2))] ⟨rfl, rfl, rfl, trivial⟩ ?_
    exact ih_X12_isTold_10 hL _ _ (a1) (a2) _ _ H
  · have H := it_f H c2
    refine GA.iload_n dX12_isTold_5 rfl ?_
    refine GA.iconst dX12_isTold_6 ?_
    refine GV.icmp_ne (tgt := 52) hg1 (by decide) dX12_isTold_7 (by decide) (fun c3 => ?_) (fun c3 => ?_)
    · have H := it_t H c3
      refine GA.iload_n dX12_isTold_52 rfl ?_
      refine GA.iconst dX12_isTold_53 ?_
      refine GV.icmp_eq (tgt := 70) hg1 (by decide) dX12_isTold_54 (by decide) (fun c4 => ?_) (fun c4 => ?_)
      · have H := it_t H c4
        refine GA.iconst dX12_isTold_70 ?_
        refine GA.goto (tgt := 75) dX12_isTold_71 (by decide) ?_
        cases H
        exact GV.zret (by decide) rfl dX12_isTold_75 (by omega) (by omega) ⟨rfl, rfl⟩
      · have H := it_f H c4
        refine GA.aload_n dX12_isTold_57 rfl ?_
        refine GA.iload_n dX12_isTold_58 rfl ?_
        refine GA.iload_n dX12_isTold_59 rfl ?_
        refine GV.ldc2 (z := 8530218420677902336) (by decide) xc_X12_699 dX12_isTold_60 ?_
        obtain ⟨hg5, H⟩ := gg_e H
        obtain ⟨x6, S_7, hc8, H⟩ := gc_e H
        refine GA.callV (m_X12_childNamed hL hc8) xs_X12_681 dX12_isTold_63 (gs_500 hL) (by decide) rfl rfl (by omega) (by decide) rfl (Nat.le_of_ble_eq_true rfl) (by omega) (by omega) rfl (fun E S9 hx => hx.elim) (fun v S9 hq => ?_)
        obtain ⟨rfl, rfl⟩ := hq
        refine GA.iconst dX12_isTold_66 ?_
        obtain ⟨hg9, H⟩ := gg_e H
        refine GV.icmp_eq (tgt := 74) hg9 (by decide) dX12_isTold_67 (by decide) (fun c10 => ?_) (fun c10 => ?_)
        · have H := it_t H c10
          refine GA.iconst dX12_isTold_74 ?_
          cases H
          exact GV.zret (by decide) rfl dX12_isTold_75 (by omega) (by omega) ⟨rfl, rfl⟩
        · have H := it_f H c10
          refine GA.iconst dX12_isTold_70 ?_
          refine GA.goto (tgt := 75) dX12_isTold_71 (by decide) ?_
          cases H
          exact GV.zret (by decide) rfl dX12_isTold_75 (by omega) (by omega) ⟨rfl, rfl⟩
    · have H := it_f H c3
      refine GA.locals [(0, .ref (L 500)), (1, .int (J a1)), (2, .int (J a2))] ⟨rfl, rfl, rfl, trivial⟩ ?_
      exact ih_X12_isTold_10 hL _ _ (a1) (a2) _ _ H
set_option maxHeartbeats 4000000 in
set_option maxRecDepth 20000 in
theorem t_X12_isTold_10 {l : Launch} {Z : XZ} {L : Nat → Nat} (n : Nat) (ih_X12_isTold_0 : P_X12_isTold_0 l Z L n) (ih_X12_isTold_10 : P_X12_isTold_10 l Z L n) : P_X12_isTold_10 l Z L (n + 1) := by
  intro hL d S a1 a2 x S1 H
  have H : b_X12_isTold_10 n d (f_X12_isTold n) S a1 a2 = some (x, S1) := H
  unfold b_X12_isTold_10 at H
  refine GA.aload_n dX12_isTold_10 rfl ?_
  refine GA.iload_n dX12_isTold_11 rfl ?_
  refine GA.iload_n dX12_isTold_12 rfl ?_
  refine GV.ldc2 (z := 7382085253155782656) (by decide) xc_X12_697 dX12_isTold_13 ?_
  obtain ⟨hg1, H⟩ := gg_e H
  obtain ⟨x2, S_3, hc4, H⟩ := gc_e H
  refine GA.callV (m_X12_childNamed hL hc4) xs_X12_681 dX12_isTold_16 (gs_500 hL) (by decide) rfl rfl (by omega) (by decide) rfl (Nat.le_of_ble_eq_true rfl) (by omega) (by omega) rfl (fun E S9 hx => hx.elim) (fun v S9 hq => ?_)
  obtain ⟨rfl, rfl⟩ := hq
  refine GA.istore dX12_isTold_19 (by decide) ?_
  refine GA.iload dX12_isTold_21 rfl ?_
  refine GA.iconst dX12_isTold_23 ?_
  obtain ⟨hg5, H⟩ := gg_e H
  refine GV.icmp_eq (tgt := 38) hg5 (by decide) dX12_isTold_24 (by decide) (fun c6 => ?_) (fun c6 => ?_)
  · have H := it_t H c6
    refine GA.iconst dX12_isTold_38 ?_
    cases H
    exact GV.zret (by decide) rfl dX12_isTold_39 (by omega) (by omega) ⟨rfl, rfl⟩
  · have H := it_f H c6
    refine GA.aload_n dX12_isTold_27 rfl ?_
    refine GA.iload_n dX12_isTold_28 rfl ?_
    refine GA.iload dX12_isTold_29 rfl ?_
    obtain ⟨x7, S_8, hc9, H⟩ := gc_e H
    refine GA.callV (m_X12_kind hL hc9) xs_X12_52 dX12_isTold_31 (gs_500 hL) (by decide) rfl rfl (by omega) (by decide) rfl (Nat.le_of_ble_eq_true rfl) (by omega) (by omega) rfl (fun E S9 hx => hx.elim) (fun v S9 hq => ?_)
    obtain ⟨rfl, rfl⟩ := hq
    refine GA.iconst dX12_isTold_34 ?_
    obtain ⟨hg10, H⟩ := gg_e H
    refine GV.icmp_eq (tgt := 40) hg10 (by decide) dX12_isTold_35 (by decide) (fun c11 => ?_) (fun c11 => ?_)
    · have H := it_t H c11
      refine GA.aload_n dX12_isTold_40 rfl ?_
      refine GA.iload_n dX12_isTold_41 rfl ?_
      refine GA.iload dX12_isTold_42 rfl ?_
      obtain ⟨x12, S_13, hc14, H⟩ := gc_e H
      refine GA.callV (m_X12_pathOf hL hc14) xs_X12_687 dX12_isTold_44 (gs_500 hL) (by decide) rfl rfl (by omega) (by decide) rfl (Nat.le_of_ble_eq_true rfl) (by omega) (by omega) rfl (fun E S9 hx => hx.elim) (fun v S9 hq => ?_)
      obtain ⟨rfl, rfl⟩ := hq
      refine GA.aload_n dX12_isTold_47 rfl ?_
      obtain ⟨x15, S_16, hc17, H⟩ := gc_e H
      refine GA.callV (m_X12_isPath hL hc17) xs_X12_641 dX12_isTold_48 (gs_500 hL) (by decide) rfl rfl (by omega) (by decide) rfl (Nat.le_of_ble_eq_true rfl) (by omega) (by omega) rfl (fun E S9 hx => hx.elim) (fun v S9 hq => ?_)
      obtain ⟨rfl, rfl⟩ := hq
      obtain ⟨hg18, H⟩ := gg_e H
      cases H
      exact GV.zret hg18 rfl dX12_isTold_51 (by omega) (by omega) ⟨rfl, rfl⟩
    · have H := it_f H c11
      refine GA.iconst dX12_isTold_38 ?_
      cases H
      exact GV.zret (by decide) rfl dX12_isTold_39 (by omega) (by omega) ⟨rfl, rfl⟩
theorem g_X12_isTold {l : Launch} {Z : XZ} {L : Nat → Nat} : ∀ n, P_X12_isTold_0 l Z L n ∧ P_X12_isTold_10 l Z L n
  | 0 => ⟨fun _ _ _ _ _ _ _ _ H => no_e H, fun _ _ _ _ _ _ _ H => no_e H⟩
  | n + 1 => have ⟨h0, h1⟩ := g_X12_isTold (l := l) (Z := Z) (L := L) n
    ⟨t_X12_isTold_0 n h0 h1, t_X12_isTold_10 n h0 h1⟩
theorem m_X12_isTold {l : Launch} {Z : XZ} {L : Nat → Nat} (hL : L 700 = 1) {n d : Nat} {S : GS} {a1 : Int} {a2 : Int} {a3 : Int} {x : Int} {S1 : GS} (H : f_X12_isTold n d 0 S [a1, a2, a3] = some (x, S1)) : GM l Z L yX12_isTold cX12_isTold 5 (some .boolean) [] d 0 0 [.ref (L 500), .int (J a1), .int (J a2), .int (J a3)] S (fun v S' => v = some (.int (J x)) ∧ S1 = S') (fun _ _ => False) := GM.of (by decide) (Nat.le_of_ble_eq_true rfl) ((g_X12_isTold n).1 hL _ _ _ _ _ _ _ H)

def P_X12_opOf_0 (l : Launch) (Z : XZ) (L : Nat → Nat) (n : Nat) : Prop := ∀ (hL : L 700 = 1), ∀ (d : Nat) (S : GS) (a1 : Int) (a2 : Int) (x : Int) (S1 : GS), f_X12_opOf n d 0 S [a1, a2] = some (x, S1) → GA l Z L yX12_opOf cX12_opOf 6 (some .int) [] d 0 0 (fun v S' => v = some (.int (J x)) ∧ S1 = S') (fun _ _ => False) 0 (gl [(0, .ref (L 500)), (1, .int (J a1)), (2, .int (J a2))]) [] S 0 0
def P_X12_opOf_76 (l : Launch) (Z : XZ) (L : Nat → Nat) (n : Nat) : Prop := ∀ (hL : L 700 = 1), ∀ (d : Nat) (S : GS) (a1 : Int) (a2 : Int) (a3 : Int) (a5 : Int) (x : Int) (S1 : GS), f_X12_opOf n d 76 S [a1, a2, a3, a5] = some (x, S1) → GA l Z L yX12_opOf cX12_opOf 6 (some .int) [] d 0 0 (fun v S' => v = some (.int (J x)) ∧ S1 = S') (fun _ _ => False) 76 (gl [(0, .ref (L 500)), (1, .int (J a1)), (2, .int (J a2)), (3, .int (J a3)), (5, .int (J a5))]) [] S 0 0
theorem i_X12_opOf {l : Launch} {Z : XZ} {L : Nat → Nat} (hL : L 700 = 1) {n : Nat} (ih : P_X12_opOf_0 l Z L n) {d : Nat} {S : GS} {a1 : Int} {a2 : Int} {x : Int} {S1 : GS} (H : f_X12_opOf n d 0 S [a1, a2] = some (x, S1)) : GM l Z L yX12_opOf cX12_opOf 6 (some .int) [] d 0 0 [.ref (L 500), .int (J a1), .int (J a2)] S (fun v S' => v = some (.int (J x)) ∧ S1 = S') (fun _ _ => False) := GM.of (by decide) (Nat.le_of_ble_eq_true rfl) (ih hL _ _ _ _ _ _ H)
set_option maxHeartbeats 4000000 in
set_option maxRecDepth 20000 in
theorem t_X12_opOf_0 {l : Launch} {Z : XZ} {L : Nat → Nat} (n : Nat) (ih_X12_opOf_0 : P_X12_opOf_0 l Z L n) (ih_X12_opOf_76 : P_X12_opOf_76 l Z L n) : P_X12_opOf_0 l Z L (n + 1) := by
  intro hL d S a1 a2 x S1 H
  have H : b_X12_opOf_0 n d (f_X12_opOf n) S a1 a2 = some (x, S1) := H
  unfold b_X12_opOf_0 at H
  refine GA.aload_n dX12_opOf_0 rfl ?_
  refine GA.iload_n dX12_opOf_1 rfl ?_
  refine GA.iload_n dX12_opOf_2 rfl ?_
  obtain ⟨hg1, H⟩ := gg_e H
  obtain ⟨x2, S_3, hc4, H⟩ := gc_e H
  refine GA.callV (m_X12_kind hL hc4) xs_X12_52 dX12_opOf_3 (gs_500 hL) (by decide) rfl rfl (by omega) (by decide) rfl (Nat.le_of_ble_eq_true rfl) (by omega) (by omega) rfl (fun E S9 hx => hx.elim) (fun v S9 hq => ?_)
  obtain ⟨rfl, rfl⟩ := hq
  refine GA.iconst dX12_opOf_6 ?_
  obtain ⟨hg5, H⟩ := gg_e H
  refine GV.icmp_eq (tgt := 12) hg5 (by decide) dX12_opOf_7 (by decide) (fun c6 => ?_) (fun c6 => ?_)
  · have H := it_t H c6
    refine GA.aload_n dX12_opOf_12 rfl ?_
    refine GA.iload_n dX12_opOf_13 rfl ?_
    refine GA.iload_n dX12_opOf_14 rfl ?_
    refine GV.ldc2 (z := 8029918135601594368) (by decide) xc_X12_679 dX12_opOf_15 ?_
    obtain ⟨x7, S_8, hc9, H⟩ := gc_e H
    refine GA.callV (m_X12_childNamed hL hc9) xs_X12_681 dX12_opOf_18 (gs_500 hL) (by decide) rfl rfl (by omega) (by decide) rfl (Nat.le_of_ble_eq_true rfl) (by omega) (by omega) rfl (fun E S9 hx => hx.elim) (fun v S9 hq => ?_)
    obtain ⟨rfl, rfl⟩ := hq
    refine GA.istore_n dX12_opOf_21 (by decide) ?_
    refine GA.aload_n dX12_opOf_22 rfl ?_
    refine GA.iload_n dX12_opOf_23 rfl ?_
    refine GA.iload_n dX12_opOf_24 rfl ?_
    refine GV.ldc2 (z := 8097881595014283264) (by decide) xc_X12_685 dX12_opOf_25 ?_
    obtain ⟨x10, S_11, hc12, H⟩ := gc_e H
    refine GA.callV (m_X12_childNamed hL hc12) xs_X12_681 dX12_opOf_28 (gs_500 hL) (by decide) rfl rfl (by omega) (by decide) rfl (Nat.le_of_ble_eq_true rfl) (by omega) (by omega) rfl (fun E S9 hx => hx.elim) (fun v S9 hq => ?_)
    obtain ⟨rfl, rfl⟩ := hq
    refine GA.istore dX12_opOf_31 (by decide) ?_
    refine GA.iload_n dX12_opOf_33 rfl ?_
    refine GA.iconst dX12_opOf_34 ?_
    obtain ⟨hg13, H⟩ := gg_e H
    refine GV.icmp_eq (tgt := 55) hg13 (by decide) dX12_opOf_35 (by decide) (fun c14 => ?_) (fun c14 => ?_)
    · have H := it_t H c14
      refine GA.iconst dX12_opOf_55 ?_
      cases H
      exact GA.iret rfl dX12_opOf_56 (by omega) (by omega) ⟨rfl, rfl⟩
    · have H := it_f H c14
      refine GA.iload dX12_opOf_38 rfl ?_
      refine GA.iconst dX12_opOf_40 ?_
      obtain ⟨hg15, H⟩ := gg_e H
      refine GV.icmp_eq (tgt := 55) hg15 (by decide) dX12_opOf_41 (by decide) (fun c16 => ?_) (fun c16 => ?_)
      · have H := it_t H c16
        refine GA.iconst dX12_opOf_55 ?_
        cases H
        exact GA.iret rfl dX12_opOf_56 (by omega) (by omega) ⟨rfl, rfl⟩
      · have H := it_f H c16
        refine GA.aload_n dX12_opOf_44 rfl ?_
        refine GA.iload_n dX12_opOf_45 rfl ?_
        refine GA.iload dX12_opOf_46 rfl ?_
        obtain ⟨x17, S_18, hc19, H⟩ := gc_e H
        refine GA.callV (m_X12_kind hL hc19) xs_X12_52 dX12_opOf_48 (gs_500 hL) (by decide) rfl rfl (by omega) (by decide) rfl (Nat.le_of_ble_eq_true rfl) (by omega) (by omega) rfl (fun E S9 hx => hx.elim) (fun v S9 hq => ?_)
        obtain ⟨rfl, rfl⟩ := hq
        refine GA.iconst dX12_opOf_51 ?_
        obtain ⟨hg20, H⟩ := gg_e H
        refine GV.icmp_eq (tgt := 57) hg20 (by decide) dX12_opOf_52 (by decide) (fun c21 => ?_) (fun c21 => ?_)
        · have H := it_t H c21
          refine GA.aload_n dX12_opOf_57 rfl ?_
          refine GA.iload_n dX12_opOf_58 rfl ?_
          refine GA.iload dX12_opOf_59 rfl ?_
          obtain ⟨x22, S_23, hc24, H⟩ := gc_e H
          refine GA.callV (m_X12_pathOf hL hc24) xs_X12_687 dX12_opOf_61 (gs_500 hL) (by decide) rfl rfl (by omega) (by decide) rfl (Nat.le_of_ble_eq_true rfl) (by omega) (by omega) rfl (fun E S9 hx => hx.elim) (fun v S9 hq => ?_)
          obtain ⟨rfl, rfl⟩ := hq
          refine GA.aload_n dX12_opOf_64 rfl ?_
          obtain ⟨x25, S_26, hc27, H⟩ := gc_e H
          refine GA.callV (m_X12_isPath hL hc27) xs_X12_641 dX12_opOf_65 (gs_500 hL) (by decide) rfl rfl (by omega) (by decide) rfl (Nat.le_of_ble_eq_true rfl) (by omega) (by omega) rfl (fun E S9 hx => hx.elim) (fun v S9 hq => ?_)
          obtain ⟨rfl, rfl⟩ := hq
          obtain ⟨hg28, H⟩ := gg_e H
          refine GV.if_ne (tgt := 73) hg28 dX12_opOf_68 (by decide) (fun c29 => ?_) (fun c29 => ?_)
          · have H := it_t H c29
            refine GA.iconst dX12_opOf_73 ?_
            refine GA.istore dX12_opOf_74 (by decide) ?_
            refine GA.locals [(0, .ref (L 500)), (1, .int (J a1)), (2, .int (J a2)), (3, .int (J x7)), (5, .int (J 0))] ⟨rfl, rfl, rfl, rfl, rfl, trivial⟩ ?_
            exact ih_X12_opOf_76 hL _ _ (a1) (a2) (x7) (0) _ _ H
          · have H := it_f H c29
            refine GA.iconst dX12_opOf_71 ?_
            cases H
            exact GA.iret rfl dX12_opOf_72 (by omega) (by omega) ⟨rfl, rfl⟩
        · have H := it_f H c21
          refine GA.iconst dX12_opOf_55 ?_
          cases H
          exact GA.iret rfl dX12_opOf_56 (by omega) (by omega) ⟨rfl, rfl⟩
  · have H := it_f H c6
    refine GA.iconst dX12_opOf_10 ?_
    cases H
    exact GA.iret rfl dX12_opOf_11 (by omega) (by omega) ⟨rfl, rfl⟩
set_option maxHeartbeats 4000000 in
set_option maxRecDepth 20000 in
theorem t_X12_opOf_76 {l : Launch} {Z : XZ} {L : Nat → Nat} (n : Nat) (ih_X12_opOf_0 : P_X12_opOf_0 l Z L n) (ih_X12_opOf_76 : P_X12_opOf_76 l Z L n) : P_X12_opOf_76 l Z L (n + 1) := by
  intro hL d S a1 a2 a3 a5 x S1 H
  have H : b_X12_opOf_76 n d (f_X12_opOf n) S a1 a2 a3 a5 = some (x, S1) := H
  unfold b_X12_opOf_76 at H
  refine GA.iload dX12_opOf_76 rfl ?_
  refine GA.bipush dX12_opOf_78 rfl ?_
  obtain ⟨hg1, H⟩ := gg_e H
  refine GV.icmp_ge (tgt := 123) hg1 (by decide) dX12_opOf_80 (by decide) (fun c2 => ?_) (fun c2 => ?_)
  · have H := it_t H c2
    refine GA.iconst dX12_opOf_123 ?_
    cases H
    exact GA.iret rfl dX12_opOf_124 (by omega) (by omega) ⟨rfl, rfl⟩
  · have H := it_f H c2
    refine GA.aload_n dX12_opOf_83 rfl ?_
    refine GA.iload_n dX12_opOf_84 rfl ?_
    refine GA.iload_n dX12_opOf_85 rfl ?_
    refine GA.aload_n dX12_opOf_86 rfl ?_
    refine GA.get xf_X12_300 dX12_opOf_87 (gs_500 hL) (by decide) rfl ?_
    refine GA.iload dX12_opOf_90 rfl ?_
    obtain ⟨hg3, H⟩ := gg_e H
    obtain ⟨x4, hx5, H⟩ := gv_e H
    refine GV.lald (g := fun k => gl_ops.getD k 0) hg3 hx5 dX12_opOf_92 (gs_522 hL) (by decide) ?_
    obtain ⟨hg6, H⟩ := gg_e H
    obtain ⟨x7, S_8, hc9, H⟩ := gc_e H
    refine GA.callV (m_X12_isText hL hc9) xs_X12_690 dX12_opOf_93 (gs_500 hL) (by decide) rfl rfl (by omega) (by decide) rfl (Nat.le_of_ble_eq_true rfl) (by omega) (by omega) rfl (fun E S9 hx => hx.elim) (fun v S9 hq => ?_)
    obtain ⟨rfl, rfl⟩ := hq
    obtain ⟨hg10, H⟩ := gg_e H
    refine GV.if_eq (tgt := 117) hg10 dX12_opOf_96 (by decide) (fun c11 => ?_) (fun c11 => ?_)
    · have H := it_t H c11
      obtain ⟨x12, hx13, H⟩ := gv_e H
      refine GV.iinc hx13 dX12_opOf_117 rfl (by decide) ?_
      refine GA.goto (tgt := 76) dX12_opOf_120 (by decide) ?_
      refine GA.locals [(0, .ref (L 500)), (1, .int (J a1)), (2, .int (J a2)), (3, .int (J a3)), (5, .int (J x12))] ⟨rfl, rfl, rfl, rfl, rfl, trivial⟩ ?_
      exact ih_X12_opOf_76 hL _ _ (a1) (a2) (a3) (x12) _ _ H
    · have H := it_f H c11
      refine GA.aload_n dX12_opOf_99 rfl ?_
      refine GA.iload_n dX12_opOf_100 rfl ?_
      refine GA.iload_n dX12_opOf_101 rfl ?_
      refine GA.iload dX12_opOf_102 rfl ?_
      obtain ⟨x14, S_15, hc16, H⟩ := gc_e H
      refine GA.callV (m_X12_isTold hL hc16) xs_X12_694 dX12_opOf_104 (gs_500 hL) (by decide) rfl rfl (by omega) (by decide) rfl (Nat.le_of_ble_eq_true rfl) (by omega) (by omega) rfl (fun E S9 hx => hx.elim) (fun v S9 hq => ?_)
      obtain ⟨rfl, rfl⟩ := hq
      obtain ⟨hg17, H⟩ := gg_e H
      refine GV.if_eq (tgt := 115) hg17 dX12_opOf_107 (by decide) (fun c18 => ?_) (fun c18 => ?_)
      · have H := it_t H c18
        refine GA.iconst dX12_opOf_115 ?_
        cases H
        exact GA.iret rfl dX12_opOf_116 (by omega) (by omega) ⟨rfl, rfl⟩
      · have H := it_f H c18
        refine GA.iload dX12_opOf_110 rfl ?_
        refine GA.goto (tgt := 116) dX12_opOf_112 (by decide) ?_
        cases H
        exact GA.iret rfl dX12_opOf_116 (by omega) (by omega) ⟨rfl, rfl⟩
theorem g_X12_opOf {l : Launch} {Z : XZ} {L : Nat → Nat} : ∀ n, P_X12_opOf_0 l Z L n ∧ P_X12_opOf_76 l Z L n
  | 0 => ⟨fun _ _ _ _ _ _ _ H => no_e H, fun _ _ _ _ _ _ _ _ _ H => no_e H⟩
  | n + 1 => have ⟨h0, h1⟩ := g_X12_opOf (l := l) (Z := Z) (L := L) n
    ⟨t_X12_opOf_0 n h0 h1, t_X12_opOf_76 n h0 h1⟩
theorem m_X12_opOf {l : Launch} {Z : XZ} {L : Nat → Nat} (hL : L 700 = 1) {n d : Nat} {S : GS} {a1 : Int} {a2 : Int} {x : Int} {S1 : GS} (H : f_X12_opOf n d 0 S [a1, a2] = some (x, S1)) : GM l Z L yX12_opOf cX12_opOf 6 (some .int) [] d 0 0 [.ref (L 500), .int (J a1), .int (J a2)] S (fun v S' => v = some (.int (J x)) ∧ S1 = S') (fun _ _ => False) := GM.of (by decide) (Nat.le_of_ble_eq_true rfl) ((g_X12_opOf n).1 hL _ _ _ _ _ _ H)

def P_X12_pathNamed_0 (l : Launch) (Z : XZ) (L : Nat → Nat) (n : Nat) : Prop := ∀ (hL : L 700 = 1), ∀ (d : Nat) (S : GS) (a1 : Int) (a2 : Int) (a3 : Int) (x : Int) (S1 : GS), f_X12_pathNamed n d 0 S [a1, a2, a3] = some (x, S1) → GA l Z L yX12_pathNamed cX12_pathNamed 5 none [] d 0 0 (fun v S' => v = none ∧ S1 = S') (fun _ _ => False) 0 (gl [(0, .ref (L 500)), (1, .int (J a1)), (2, .int (J a2)), (3, .long (K a3))]) [] S 0 0
theorem i_X12_pathNamed {l : Launch} {Z : XZ} {L : Nat → Nat} (hL : L 700 = 1) {n : Nat} (ih : P_X12_pathNamed_0 l Z L n) {d : Nat} {S : GS} {a1 : Int} {a2 : Int} {a3 : Int} {x : Int} {S1 : GS} (H : f_X12_pathNamed n d 0 S [a1, a2, a3] = some (x, S1)) : GM l Z L yX12_pathNamed cX12_pathNamed 5 none [] d 0 0 [.ref (L 500), .int (J a1), .int (J a2), .long (K a3)] S (fun v S' => v = none ∧ S1 = S') (fun _ _ => False) := GM.of (by decide) (Nat.le_of_ble_eq_true rfl) (ih hL _ _ _ _ _ _ _ H)
set_option maxHeartbeats 4000000 in
set_option maxRecDepth 20000 in
theorem t_X12_pathNamed_0 {l : Launch} {Z : XZ} {L : Nat → Nat} (n : Nat) (ih_X12_pathNamed_0 : P_X12_pathNamed_0 l Z L n) : P_X12_pathNamed_0 l Z L (n + 1) := by
  intro hL d S a1 a2 a3 x S1 H
  have H : b_X12_pathNamed_0 n d (f_X12_pathNamed n) S a1 a2 a3 = some (x, S1) := H
  unfold b_X12_pathNamed_0 at H
  refine GA.aload_n dX12_pathNamed_0 rfl ?_
  refine GA.iload_n dX12_pathNamed_1 rfl ?_
  refine GA.aload_n dX12_pathNamed_2 rfl ?_
  refine GA.iload_n dX12_pathNamed_3 rfl ?_
  refine GA.iload_n dX12_pathNamed_4 rfl ?_
  refine GA.lload_n dX12_pathNamed_5 rfl ?_
  obtain ⟨hg1, H⟩ := gg_e H
  obtain ⟨x2, S_3, hc4, H⟩ := gc_e H
  refine GA.callV (m_X12_childNamed hL hc4) xs_X12_681 dX12_pathNamed_6 (gs_500 hL) (by decide) rfl rfl (by omega) (by decide) rfl (Nat.le_of_ble_eq_true rfl) (by omega) (by omega) rfl (fun E S9 hx => hx.elim) (fun v S9 hq => ?_)
  obtain ⟨rfl, rfl⟩ := hq
  obtain ⟨x5, S_6, hc7, H⟩ := gc_e H
  refine GA.callV (m_X12_pathOf hL hc7) xs_X12_687 dX12_pathNamed_9 (gs_500 hL) (by decide) rfl rfl (by omega) (by decide) rfl (Nat.le_of_ble_eq_true rfl) (by omega) (by omega) rfl (fun E S9 hx => hx.elim) (fun v S9 hq => ?_)
  obtain ⟨rfl, rfl⟩ := hq
  cases H
  exact GA.vret rfl dX12_pathNamed_12 (by omega) (by omega) ⟨rfl, rfl⟩
theorem g_X12_pathNamed {l : Launch} {Z : XZ} {L : Nat → Nat} : ∀ n, P_X12_pathNamed_0 l Z L n
  | 0 => fun _ _ _ _ _ _ _ _ H => no_e H
  | n + 1 => t_X12_pathNamed_0 n (g_X12_pathNamed n)
theorem m_X12_pathNamed {l : Launch} {Z : XZ} {L : Nat → Nat} (hL : L 700 = 1) {n d : Nat} {S : GS} {a1 : Int} {a2 : Int} {a3 : Int} {x : Int} {S1 : GS} (H : f_X12_pathNamed n d 0 S [a1, a2, a3] = some (x, S1)) : GM l Z L yX12_pathNamed cX12_pathNamed 5 none [] d 0 0 [.ref (L 500), .int (J a1), .int (J a2), .long (K a3)] S (fun v S' => v = none ∧ S1 = S') (fun _ _ => False) := GM.of (by decide) (Nat.le_of_ble_eq_true rfl) ((g_X12_pathNamed n) hL _ _ _ _ _ _ _ H)

def P_X12_does_0 (l : Launch) (Z : XZ) (L : Nat → Nat) (n : Nat) : Prop := ∀ (hL : L 700 = 1), ∀ (d : Nat) (S : GS) (a1 : Int) (a2 : Int) (x : Int) (S1 : GS), f_X12_does n d 0 S [a1, a2] = some (x, S1) → GA l Z L yX12_does cX12_does 7 (some .boolean) [] d 0 0 (fun v S' => v = some (.int (J x)) ∧ S1 = S') (fun _ _ => False) 0 (gl [(0, .ref (L 500)), (1, .int (J a1)), (2, .int (J a2))]) [] S 0 0
def P_X12_does_91 (l : Launch) (Z : XZ) (L : Nat → Nat) (n : Nat) : Prop := ∀ (hL : L 700 = 1), ∀ (d : Nat) (S : GS) (a1 : Int) (a2 : Int) (a3 : Int) (a4 : Int) (x : Int) (S1 : GS), f_X12_does n d 91 S [a1, a2, a3, a4] = some (x, S1) → GA l Z L yX12_does cX12_does 7 (some .boolean) [] d 0 0 (fun v S' => v = some (.int (J x)) ∧ S1 = S') (fun _ _ => False) 91 (gl [(0, .ref (L 500)), (1, .int (J a1)), (2, .int (J a2)), (3, .int (J a3)), (4, .int (J a4))]) [] S 0 0
def P_X12_does_123 (l : Launch) (Z : XZ) (L : Nat → Nat) (n : Nat) : Prop := ∀ (hL : L 700 = 1), ∀ (d : Nat) (S : GS) (a1 : Int) (a4 : Int) (a6 : Int) (x : Int) (S1 : GS), f_X12_does n d 123 S [a1, a4, a6] = some (x, S1) → GA l Z L yX12_does cX12_does 7 (some .boolean) [] d 0 0 (fun v S' => v = some (.int (J x)) ∧ S1 = S') (fun _ _ => False) 123 (gl [(0, .ref (L 500)), (1, .int (J a1)), (4, .int (J a4)), (6, .int (J a6))]) [] S 0 0
def P_X12_does_218 (l : Launch) (Z : XZ) (L : Nat → Nat) (n : Nat) : Prop := ∀ (hL : L 700 = 1), ∀ (d : Nat) (S : GS) (a1 : Int) (a2 : Int) (a3 : Int) (a6 : Int) (x : Int) (S1 : GS), f_X12_does n d 218 S [a1, a2, a3, a6] = some (x, S1) → GA l Z L yX12_does cX12_does 7 (some .boolean) [] d 0 0 (fun v S' => v = some (.int (J x)) ∧ S1 = S') (fun _ _ => False) 218 (gl [(0, .ref (L 500)), (1, .int (J a1)), (2, .int (J a2)), (3, .int (J a3)), (6, .int (J a6))]) [] S 0 0
def P_X12_does_251 (l : Launch) (Z : XZ) (L : Nat → Nat) (n : Nat) : Prop := ∀ (hL : L 700 = 1), ∀ (d : Nat) (S : GS) (a5 : Int) (x : Int) (S1 : GS), f_X12_does n d 251 S [a5] = some (x, S1) → GA l Z L yX12_does cX12_does 7 (some .boolean) [] d 0 0 (fun v S' => v = some (.int (J x)) ∧ S1 = S') (fun _ _ => False) 251 (gl [(0, .ref (L 500)), (5, .int (J a5))]) [] S 0 0
theorem i_X12_does {l : Launch} {Z : XZ} {L : Nat → Nat} (hL : L 700 = 1) {n : Nat} (ih : P_X12_does_0 l Z L n) {d : Nat} {S : GS} {a1 : Int} {a2 : Int} {x : Int} {S1 : GS} (H : f_X12_does n d 0 S [a1, a2] = some (x, S1)) : GM l Z L yX12_does cX12_does 7 (some .boolean) [] d 0 0 [.ref (L 500), .int (J a1), .int (J a2)] S (fun v S' => v = some (.int (J x)) ∧ S1 = S') (fun _ _ => False) := GM.of (by decide) (Nat.le_of_ble_eq_true rfl) (ih hL _ _ _ _ _ _ H)
set_option maxHeartbeats 4000000 in
set_option maxRecDepth 20000 in
theorem t_X12_does_0 {l : Launch} {Z : XZ} {L : Nat → Nat} (n : Nat) (ih_X12_does_0 : P_X12_does_0 l Z L n) (ih_X12_does_91 : P_X12_does_91 l Z L n) (ih_X12_does_123 : P_X12_does_123 l Z L n) (ih_X12_does_218 : P_X12_does_218 l Z L n) (ih_X12_does_251 : P_X12_does_251 l Z L n) : P_X12_does_0 l Z L (n + 1) := by
  intro hL d S a1 a2 x S1 H
  have H : b_X12_does_0 n d (f_X12_does n) S a1 a2 = some (x, S1) := H
  unfold b_X12_does_0 at H
  refine GA.aload_n dX12_does_0 rfl ?_
  refine GA.iload_n dX12_does_1 rfl ?_
  refine GA.iload_n dX12_does_2 rfl ?_
  obtain ⟨hg1, H⟩ := gg_e H
  obtain ⟨x2, S_3, hc4, H⟩ := gc_e H
  refine GA.callV (m_X12_opOf hL hc4) xs_X12_701 dX12_does_3 (gs_500 hL) (by decide) rfl rfl (by omega) (by decide) rfl (Nat.le_of_ble_eq_true rfl) (by omega) (by omega) rfl (fun E S9 hx => hx.elim) (fun v S9 hq => ?_)
  obtain ⟨rfl, rfl⟩ := hq
  refine GA.istore_n dX12_does_6 (by decide) ?_
  refine GA.iload_n dX12_does_7 rfl ?_
  refine GA.iconst dX12_does_8 ?_
  obtain ⟨hg5, H⟩ := gg_e H
  refine GV.icmp_ne (tgt := 14) hg5 (by decide) dX12_does_9 (by decide) (fun c6 => ?_) (fun c6 => ?_)
  · have H := it_t H c6
    refine GA.aload_n dX12_does_14 rfl ?_
    refine GA.iload_n dX12_does_15 rfl ?_
    refine GA.iload_n dX12_does_16 rfl ?_
    refine GV.ldc2 (z := 8530218420677902336) (by decide) xc_X12_699 dX12_does_17 ?_
    obtain ⟨x7, S_8, hc9, H⟩ := gc_e H
    refine GA.callV (m_X12_childNamed hL hc9) xs_X12_681 dX12_does_20 (gs_500 hL) (by decide) rfl rfl (by omega) (by decide) rfl (Nat.le_of_ble_eq_true rfl) (by omega) (by omega) rfl (fun E S9 hx => hx.elim) (fun v S9 hq => ?_)
    obtain ⟨rfl, rfl⟩ := hq
    refine GA.istore dX12_does_23 (by decide) ?_
    refine GA.iload_n dX12_does_25 rfl ?_
    refine GV.if_ne (tgt := 54) hg5 dX12_does_26 (by decide) (fun c10 => ?_) (fun c10 => ?_)
    · have H := it_t H c10
      refine GA.iload_n dX12_does_54 rfl ?_
      refine GA.iconst dX12_does_55 ?_
      refine GV.icmp_ne (tgt := 81) hg5 (by decide) dX12_does_56 (by decide) (fun c11 => ?_) (fun c11 => ?_)
      · have H := it_t H c11
        refine GA.iload_n dX12_does_81 rfl ?_
        refine GA.iconst dX12_does_82 ?_
        refine GV.icmp_eq (tgt := 91) hg5 (by decide) dX12_does_83 (by decide) (fun c12 => ?_) (fun c12 => ?_)
        · have H := it_t H c12
          refine GA.locals [(0, .ref (L 500)), (1, .int (J a1)), (2, .int (J a2)), (3, .int (J x2)), (4, .int (J x7))] ⟨rfl, rfl, rfl, rfl, rfl, trivial⟩ ?_
          exact ih_X12_does_91 hL _ _ (a1) (a2) (x2) (x7) _ _ H
        · have H := it_f H c12
          refine GA.iload_n dX12_does_86 rfl ?_
          refine GA.iconst dX12_does_87 ?_
          refine GV.icmp_ne (tgt := 173) hg5 (by decide) dX12_does_88 (by decide) (fun c13 => ?_) (fun c13 => ?_)
          · have H := it_t H c13
            refine GA.aload_n dX12_does_173 rfl ?_
            refine GA.iload_n dX12_does_174 rfl ?_
            refine GA.iload_n dX12_does_175 rfl ?_
            refine GV.ldc2 (z := 7382085253155782656) (by decide) xc_X12_697 dX12_does_176 ?_
            obtain ⟨x14, S_15, hc16, H⟩ := gc_e H
            refine GA.callV (m_X12_pathNamed hL hc16) xs_X12_704 dX12_does_179 (gs_500 hL) (by decide) rfl rfl (by omega) (by decide) rfl (Nat.le_of_ble_eq_true rfl) (by omega) (by omega) rfl (fun E S9 hx => hx.elim) (fun v S9 hq => ?_)
            obtain ⟨rfl, rfl⟩ := hq
            refine GA.aload_n dX12_does_182 rfl ?_
            refine GA.bipush dX12_does_183 rfl ?_
            refine GA.aload_n dX12_does_185 rfl ?_
            obtain ⟨x17, hx18, H⟩ := gv_e H
            refine GV.getI hx18 xf_X12_604 dX12_does_186 (gs_500 hL) (by decide) rfl ?_
            obtain ⟨x19, S_20, hc21, H⟩ := gc_e H
            refine GA.callV (m_X12_plain hL hc21) xs_X12_663 dX12_does_189 (gs_500 hL) (by decide) rfl rfl (by omega) (by decide) rfl (Nat.le_of_ble_eq_true rfl) (by omega) (by omega) rfl (fun E S9 hx => hx.elim) (fun v S9 hq => ?_)
            obtain ⟨rfl, rfl⟩ := hq
            refine GA.istore dX12_does_192 (by decide) ?_
            refine GA.iload dX12_does_194 rfl ?_
            refine GA.iconst dX12_does_196 ?_
            obtain ⟨hg22, H⟩ := gg_e H
            refine GV.icmp_eq (tgt := 216) hg22 (by decide) dX12_does_197 (by decide) (fun c23 => ?_) (fun c23 => ?_)
            · have H := it_t H c23
              refine GA.iconst dX12_does_216 ?_
              cases H
              exact GV.zret (by decide) rfl dX12_does_217 (by omega) (by omega) ⟨rfl, rfl⟩
            · have H := it_f H c23
              refine GA.iload_n dX12_does_200 rfl ?_
              refine GA.iconst dX12_does_201 ?_
              refine GV.icmp_ne (tgt := 218) hg5 (by decide) dX12_does_202 (by decide) (fun c24 => ?_) (fun c24 => ?_)
              · have H := it_t H c24
                refine GA.locals [(0, .ref (L 500)), (1, .int (J a1)), (2, .int (J a2)), (3, .int (J x2)), (6, .int (J x19))] ⟨rfl, rfl, rfl, rfl, rfl, trivial⟩ ?_
                exact ih_X12_does_218 hL _ _ (a1) (a2) (x2) (x19) _ _ H
              · have H := it_f H c24
                refine GA.aload_n dX12_does_205 rfl ?_
                refine GA.bipush dX12_does_206 rfl ?_
                refine GA.bipush dX12_does_208 rfl ?_
                obtain ⟨x25, S_26, hc27, H⟩ := gc_e H
                refine GA.callV (m_X12_canCut hL hc27) xs_X12_676 dX12_does_210 (gs_500 hL) (by decide) rfl rfl (by omega) (by decide) rfl (Nat.le_of_ble_eq_true rfl) (by omega) (by omega) rfl (fun E S9 hx => hx.elim) (fun v S9 hq => ?_)
                obtain ⟨rfl, rfl⟩ := hq
                obtain ⟨hg28, H⟩ := gg_e H
                refine GV.if_ne (tgt := 218) hg28 dX12_does_213 (by decide) (fun c29 => ?_) (fun c29 => ?_)
                · have H := it_t H c29
                  refine GA.locals [(0, .ref (L 500)), (1, .int (J a1)), (2, .int (J a2)), (3, .int (J x2)), (6, .int (J x19))] ⟨rfl, rfl, rfl, rfl, rfl, trivial⟩ ?_
                  exact ih_X12_does_218 hL _ _ (a1) (a2) (x2) (x19) _ _ H
                · have H := it_f H c29
                  refine GA.iconst dX12_does_216 ?_
                  cases H
                  exact GV.zret (by decide) rfl dX12_does_217 (by omega) (by omega) ⟨rfl, rfl⟩
          · have H := it_f H c13
            refine GA.locals [(0, .ref (L 500)), (1, .int (J a1)), (2, .int (J a2)), (3, .int (J x2)), (4, .int (J x7))] ⟨rfl, rfl, rfl, rfl, rfl, trivial⟩ ?_
            exact ih_X12_does_91 hL _ _ (a1) (a2) (x2) (x7) _ _ H
      · have H := it_f H c11
        refine GA.aload_n dX12_does_59 rfl ?_
        refine GA.iload_n dX12_does_60 rfl ?_
        refine GA.iload_n dX12_does_61 rfl ?_
        refine GV.ldc2 (z := 8097881595014283264) (by decide) xc_X12_685 dX12_does_62 ?_
        obtain ⟨x30, S_31, hc32, H⟩ := gc_e H
        refine GA.callV (m_X12_pathNamed hL hc32) xs_X12_704 dX12_does_65 (gs_500 hL) (by decide) rfl rfl (by omega) (by decide) rfl (Nat.le_of_ble_eq_true rfl) (by omega) (by omega) rfl (fun E S9 hx => hx.elim) (fun v S9 hq => ?_)
        obtain ⟨rfl, rfl⟩ := hq
        refine GA.aload_n dX12_does_68 rfl ?_
        refine GA.bipush dX12_does_69 rfl ?_
        refine GA.bipush dX12_does_71 rfl ?_
        obtain ⟨x33, S_34, hc35, H⟩ := gc_e H
        refine GA.callV (m_X12_canCut hL hc35) xs_X12_676 dX12_does_73 (gs_500 hL) (by decide) rfl rfl (by omega) (by decide) rfl (Nat.le_of_ble_eq_true rfl) (by omega) (by omega) rfl (fun E S9 hx => hx.elim) (fun v S9 hq => ?_)
        obtain ⟨rfl, rfl⟩ := hq
        refine GA.istore dX12_does_76 (by decide) ?_
        refine GA.goto (tgt := 251) dX12_does_78 (by decide) ?_
        refine GA.locals [(0, .ref (L 500)), (5, .int (J x33))] ⟨rfl, rfl, trivial⟩ ?_
        exact ih_X12_does_251 hL _ _ (x33) _ _ H
    · have H := it_f H c10
      refine GA.aload_n dX12_does_29 rfl ?_
      refine GA.iload_n dX12_does_30 rfl ?_
      refine GA.iload_n dX12_does_31 rfl ?_
      refine GV.ldc2 (z := 8097881595014283264) (by decide) xc_X12_685 dX12_does_32 ?_
      obtain ⟨x36, S_37, hc38, H⟩ := gc_e H
      refine GA.callV (m_X12_pathNamed hL hc38) xs_X12_704 dX12_does_35 (gs_500 hL) (by decide) rfl rfl (by omega) (by decide) rfl (Nat.le_of_ble_eq_true rfl) (by omega) (by omega) rfl (fun E S9 hx => hx.elim) (fun v S9 hq => ?_)
      obtain ⟨rfl, rfl⟩ := hq
      refine GA.aload_n dX12_does_38 rfl ?_
      refine GA.bipush dX12_does_39 rfl ?_
      refine GA.bipush dX12_does_41 rfl ?_
      refine GA.iload_n dX12_does_43 rfl ?_
      refine GA.iload dX12_does_44 rfl ?_
      obtain ⟨x39, S_40, hc41, H⟩ := gc_e H
      refine GA.callV (m_X12_canPut hL hc41) xs_X12_673 dX12_does_46 (gs_500 hL) (by decide) rfl rfl (by omega) (by decide) rfl (Nat.le_of_ble_eq_true rfl) (by omega) (by omega) rfl (fun E S9 hx => hx.elim) (fun v S9 hq => ?_)
      obtain ⟨rfl, rfl⟩ := hq
      refine GA.istore dX12_does_49 (by decide) ?_
      refine GA.goto (tgt := 251) dX12_does_51 (by decide) ?_
      refine GA.locals [(0, .ref (L 500)), (5, .int (J x39))] ⟨rfl, rfl, trivial⟩ ?_
      exact ih_X12_does_251 hL _ _ (x39) _ _ H
  · have H := it_f H c6
    refine GA.iconst dX12_does_12 ?_
    cases H
    exact GV.zret (by decide) rfl dX12_does_13 (by omega) (by omega) ⟨rfl, rfl⟩
set_option maxHeartbeats 4000000 in
set_option maxRecDepth 20000 in
theorem t_X12_does_91 {l : Launch} {Z : XZ} {L : Nat → Nat} (n : Nat) (ih_X12_does_0 : P_X12_does_0 l Z L n) (ih_X12_does_91 : P_X12_does_91 l Z L n) (ih_X12_does_123 : P_X12_does_123 l Z L n) (ih_X12_does_218 : P_X12_does_218 l Z L n) (ih_X12_does_251 : P_X12_does_251 l Z L n) : P_X12_does_91 l Z L (n + 1) := by
  intro hL d S a1 a2 a3 a4 x S1 H
  have H : b_X12_does_91 n d (f_X12_does n) S a1 a2 a3 a4 = some (x, S1) := H
  unfold b_X12_does_91 at H
  refine GA.aload_n dX12_does_91 rfl ?_
  refine GA.iload_n dX12_does_92 rfl ?_
  refine GA.iload_n dX12_does_93 rfl ?_
  refine GV.ldc2 (z := 8097881595014283264) (by decide) xc_X12_685 dX12_does_94 ?_
  obtain ⟨hg1, H⟩ := gg_e H
  obtain ⟨x2, S_3, hc4, H⟩ := gc_e H
  refine GA.callV (m_X12_pathNamed hL hc4) xs_X12_704 dX12_does_97 (gs_500 hL) (by decide) rfl rfl (by omega) (by decide) rfl (Nat.le_of_ble_eq_true rfl) (by omega) (by omega) rfl (fun E S9 hx => hx.elim) (fun v S9 hq => ?_)
  obtain ⟨rfl, rfl⟩ := hq
  refine GA.aload_n dX12_does_100 rfl ?_
  refine GA.bipush dX12_does_101 rfl ?_
  refine GA.aload_n dX12_does_103 rfl ?_
  obtain ⟨x5, hx6, H⟩ := gv_e H
  refine GV.getI hx6 xf_X12_604 dX12_does_104 (gs_500 hL) (by decide) rfl ?_
  obtain ⟨x7, S_8, hc9, H⟩ := gc_e H
  refine GA.callV (m_X12_plain hL hc9) xs_X12_663 dX12_does_107 (gs_500 hL) (by decide) rfl rfl (by omega) (by decide) rfl (Nat.le_of_ble_eq_true rfl) (by omega) (by omega) rfl (fun E S9 hx => hx.elim) (fun v S9 hq => ?_)
  obtain ⟨rfl, rfl⟩ := hq
  refine GA.istore dX12_does_110 (by decide) ?_
  refine GA.iload dX12_does_112 rfl ?_
  refine GA.iconst dX12_does_114 ?_
  obtain ⟨hg10, H⟩ := gg_e H
  refine GV.icmp_eq (tgt := 123) hg10 (by decide) dX12_does_115 (by decide) (fun c11 => ?_) (fun c11 => ?_)
  · have H := it_t H c11
    refine GA.locals [(0, .ref (L 500)), (1, .int (J a1)), (4, .int (J a4)), (6, .int (J x7))] ⟨rfl, rfl, rfl, rfl, trivial⟩ ?_
    exact ih_X12_does_123 hL _ _ (a1) (a4) (x7) _ _ H
  · have H := it_f H c11
    refine GA.iload_n dX12_does_118 rfl ?_
    refine GA.iconst dX12_does_119 ?_
    obtain ⟨hg12, H⟩ := gg_e H
    refine GV.icmp_ne (tgt := 149) hg12 (by decide) dX12_does_120 (by decide) (fun c13 => ?_) (fun c13 => ?_)
    · have H := it_t H c13
      refine GA.aload_n dX12_does_149 rfl ?_
      refine GA.bipush dX12_does_150 rfl ?_
      refine GA.bipush dX12_does_152 rfl ?_
      refine GA.iload dX12_does_154 rfl ?_
      refine GA.iload_n dX12_does_156 rfl ?_
      refine GA.iload dX12_does_157 rfl ?_
      obtain ⟨x14, S_15, hc16, H⟩ := gc_e H
      refine GA.callV (m_X12_replaced hL hc16) xs_X12_666 dX12_does_159 (gs_500 hL) (by decide) rfl rfl (by omega) (by decide) rfl (Nat.le_of_ble_eq_true rfl) (by omega) (by omega) rfl (fun E S9 hx => hx.elim) (fun v S9 hq => ?_)
      obtain ⟨rfl, rfl⟩ := hq
      refine GA.aload_n dX12_does_162 rfl ?_
      refine GA.bipush dX12_does_163 rfl ?_
      obtain ⟨x17, S_18, hc19, H⟩ := gc_e H
      refine GA.callV (m_X12_isWhole hL hc19) xs_X12_601 dX12_does_165 (gs_500 hL) (by decide) rfl rfl (by omega) (by decide) rfl (Nat.le_of_ble_eq_true rfl) (by omega) (by omega) rfl (fun E S9 hx => hx.elim) (fun v S9 hq => ?_)
      obtain ⟨rfl, rfl⟩ := hq
      refine GA.istore dX12_does_168 (by decide) ?_
      refine GA.goto (tgt := 251) dX12_does_170 (by decide) ?_
      refine GA.locals [(0, .ref (L 500)), (5, .int (J x17))] ⟨rfl, rfl, trivial⟩ ?_
      exact ih_X12_does_251 hL _ _ (x17) _ _ H
    · have H := it_f H c13
      refine GA.locals [(0, .ref (L 500)), (1, .int (J a1)), (4, .int (J a4)), (6, .int (J x7))] ⟨rfl, rfl, rfl, rfl, trivial⟩ ?_
      exact ih_X12_does_123 hL _ _ (a1) (a4) (x7) _ _ H
set_option maxHeartbeats 4000000 in
set_option maxRecDepth 20000 in
theorem t_X12_does_123 {l : Launch} {Z : XZ} {L : Nat → Nat} (n : Nat) (ih_X12_does_0 : P_X12_does_0 l Z L n) (ih_X12_does_91 : P_X12_does_91 l Z L n) (ih_X12_does_123 : P_X12_does_123 l Z L n) (ih_X12_does_218 : P_X12_does_218 l Z L n) (ih_X12_does_251 : P_X12_does_251 l Z L n) : P_X12_does_123 l Z L (n + 1) := by
  intro hL d S a1 a4 a6 x S1 H
  have H : b_X12_does_123 n d (f_X12_does n) S a1 a4 a6 = some (x, S1) := H
  unfold b_X12_does_123 at H
  refine GA.iload dX12_does_123 rfl ?_
  refine GA.iconst dX12_does_125 ?_
  obtain ⟨hg1, H⟩ := gg_e H
  refine GV.icmp_eq (tgt := 147) hg1 (by decide) dX12_does_126 (by decide) (fun c2 => ?_) (fun c2 => ?_)
  · have H := it_t H c2
    refine GA.iconst dX12_does_147 ?_
    cases H
    exact GV.zret (by decide) rfl dX12_does_148 (by omega) (by omega) ⟨rfl, rfl⟩
  · have H := it_f H c2
    refine GA.aload_n dX12_does_129 rfl ?_
    refine GA.bipush dX12_does_130 rfl ?_
    refine GA.iload dX12_does_132 rfl ?_
    refine GA.iload_n dX12_does_134 rfl ?_
    refine GA.iload dX12_does_135 rfl ?_
    obtain ⟨hg3, H⟩ := gg_e H
    obtain ⟨x4, S_5, hc6, H⟩ := gc_e H
    refine GA.callV (m_X12_areEqual hL hc6) xs_X12_590 dX12_does_137 (gs_500 hL) (by decide) rfl rfl (by omega) (by decide) rfl (Nat.le_of_ble_eq_true rfl) (by omega) (by omega) rfl (fun E S9 hx => hx.elim) (fun v S9 hq => ?_)
    obtain ⟨rfl, rfl⟩ := hq
    obtain ⟨hg7, H⟩ := gg_e H
    refine GV.if_eq (tgt := 147) hg7 dX12_does_140 (by decide) (fun c8 => ?_) (fun c8 => ?_)
    · have H := it_t H c8
      refine GA.iconst dX12_does_147 ?_
      cases H
      exact GV.zret (by decide) rfl dX12_does_148 (by omega) (by omega) ⟨rfl, rfl⟩
    · have H := it_f H c8
      refine GA.iconst dX12_does_143 ?_
      refine GA.goto (tgt := 148) dX12_does_144 (by decide) ?_
      cases H
      exact GV.zret (by decide) rfl dX12_does_148 (by omega) (by omega) ⟨rfl, rfl⟩
set_option maxHeartbeats 4000000 in
set_option maxRecDepth 20000 in
theorem t_X12_does_218 {l : Launch} {Z : XZ} {L : Nat → Nat} (n : Nat) (ih_X12_does_0 : P_X12_does_0 l Z L n) (ih_X12_does_91 : P_X12_does_91 l Z L n) (ih_X12_does_123 : P_X12_does_123 l Z L n) (ih_X12_does_218 : P_X12_does_218 l Z L n) (ih_X12_does_251 : P_X12_does_251 l Z L n) : P_X12_does_218 l Z L (n + 1) := by
  intro hL d S a1 a2 a3 a6 x S1 H
  have H : b_X12_does_218 n d (f_X12_does n) S a1 a2 a3 a6 = some (x, S1) := H
  unfold b_X12_does_218 at H
  refine GA.aload_n dX12_does_218 rfl ?_
  refine GA.iload_n dX12_does_219 rfl ?_
  refine GA.iload_n dX12_does_220 rfl ?_
  refine GV.ldc2 (z := 8097881595014283264) (by decide) xc_X12_685 dX12_does_221 ?_
  obtain ⟨hg1, H⟩ := gg_e H
  obtain ⟨x2, S_3, hc4, H⟩ := gc_e H
  refine GA.callV (m_X12_pathNamed hL hc4) xs_X12_704 dX12_does_224 (gs_500 hL) (by decide) rfl rfl (by omega) (by decide) rfl (Nat.le_of_ble_eq_true rfl) (by omega) (by omega) rfl (fun E S9 hx => hx.elim) (fun v S9 hq => ?_)
  obtain ⟨rfl, rfl⟩ := hq
  refine GA.aload_n dX12_does_227 rfl ?_
  refine GA.bipush dX12_does_228 rfl ?_
  refine GA.iload_n dX12_does_230 rfl ?_
  refine GA.iconst dX12_does_231 ?_
  obtain ⟨hg5, H⟩ := gg_e H
  refine GV.icmp_ne (tgt := 240) hg5 (by decide) dX12_does_232 (by decide) (fun c6 => ?_) (fun c6 => ?_)
  · have H := it_t H c6
    refine GA.bipush dX12_does_240 rfl ?_
    refine GA.bipush dX12_does_242 rfl ?_
    refine GA.iload dX12_does_244 rfl ?_
    obtain ⟨x7, S_8, hc9, H⟩ := gc_e H
    refine GA.callV (m_X12_canPut hL hc9) xs_X12_673 dX12_does_246 (gs_500 hL) (by decide) rfl rfl (by omega) (by decide) rfl (Nat.le_of_ble_eq_true rfl) (by omega) (by omega) rfl (fun E S9 hx => hx.elim) (fun v S9 hq => ?_)
    obtain ⟨rfl, rfl⟩ := hq
    refine GA.istore dX12_does_249 (by decide) ?_
    refine GA.locals [(0, .ref (L 500)), (5, .int (J x7))] ⟨rfl, rfl, trivial⟩ ?_
    exact ih_X12_does_251 hL _ _ (x7) _ _ H
  · have H := it_f H c6
    refine GA.bipush dX12_does_235 rfl ?_
    refine GA.goto (tgt := 242) dX12_does_237 (by decide) ?_
    refine GA.bipush dX12_does_242 rfl ?_
    refine GA.iload dX12_does_244 rfl ?_
    obtain ⟨x10, S_11, hc12, H⟩ := gc_e H
    refine GA.callV (m_X12_canPut hL hc12) xs_X12_673 dX12_does_246 (gs_500 hL) (by decide) rfl rfl (by omega) (by decide) rfl (Nat.le_of_ble_eq_true rfl) (by omega) (by omega) rfl (fun E S9 hx => hx.elim) (fun v S9 hq => ?_)
    obtain ⟨rfl, rfl⟩ := hq
    refine GA.istore dX12_does_249 (by decide) ?_
    refine GA.locals [(0, .ref (L 500)), (5, .int (J x10))] ⟨rfl, rfl, trivial⟩ ?_
    exact ih_X12_does_251 hL _ _ (x10) _ _ H
set_option maxHeartbeats 4000000 in
set_option maxRecDepth 20000 in
theorem t_X12_does_251 {l : Launch} {Z : XZ} {L : Nat → Nat} (n : Nat) (ih_X12_does_0 : P_X12_does_0 l Z L n) (ih_X12_does_91 : P_X12_does_91 l Z L n) (ih_X12_does_123 : P_X12_does_123 l Z L n) (ih_X12_does_218 : P_X12_does_218 l Z L n) (ih_X12_does_251 : P_X12_does_251 l Z L n) : P_X12_does_251 l Z L (n + 1) := by
  intro hL d S a5 x S1 H
  have H : b_X12_does_251 n d (f_X12_does n) S a5 = some (x, S1) := H
  unfold b_X12_does_251 at H
  refine GA.iload dX12_does_251 rfl ?_
  obtain ⟨hg1, H⟩ := gg_e H
  refine GV.if_eq (tgt := 264) hg1 dX12_does_253 (by decide) (fun c2 => ?_) (fun c2 => ?_)
  · have H := it_t H c2
    refine GA.iload dX12_does_264 rfl ?_
    obtain ⟨hg3, H⟩ := gg_e H
    cases H
    exact GV.zret hg3 rfl dX12_does_266 (by omega) (by omega) ⟨rfl, rfl⟩
  · have H := it_f H c2
    refine GA.aload_n dX12_does_256 rfl ?_
    refine GA.bipush dX12_does_257 rfl ?_
    refine GA.bipush dX12_does_259 rfl ?_
    obtain ⟨hg4, H⟩ := gg_e H
    obtain ⟨x5, S_6, hc7, H⟩ := gc_e H
    refine GA.callV (m_X12_becomes hL hc7) xs_X12_452 dX12_does_261 (gs_500 hL) (by decide) rfl rfl (by omega) (by decide) rfl (Nat.le_of_ble_eq_true rfl) (by omega) (by omega) rfl (fun E S9 hx => hx.elim) (fun v S9 hq => ?_)
    obtain ⟨rfl, rfl⟩ := hq
    refine GA.iload dX12_does_264 rfl ?_
    obtain ⟨hg8, H⟩ := gg_e H
    cases H
    exact GV.zret hg8 rfl dX12_does_266 (by omega) (by omega) ⟨rfl, rfl⟩
theorem g_X12_does {l : Launch} {Z : XZ} {L : Nat → Nat} : ∀ n, P_X12_does_0 l Z L n ∧ P_X12_does_91 l Z L n ∧ P_X12_does_123 l Z L n ∧ P_X12_does_218 l Z L n ∧ P_X12_does_251 l Z L n
  | 0 => ⟨fun _ _ _ _ _ _ _ H => no_e H, fun _ _ _ _ _ _ _ _ _ H => no_e H, fun _ _ _ _ _ _ _ _ H => no_e H, fun _ _ _ _ _ _ _ _ _ H => no_e H, fun _ _ _ _ _ _ H => no_e H⟩
  | n + 1 => have ⟨h0, h1, h2, h3, h4⟩ := g_X12_does (l := l) (Z := Z) (L := L) n
    ⟨t_X12_does_0 n h0 h1 h2 h3 h4, t_X12_does_91 n h0 h1 h2 h3 h4, t_X12_does_123 n h0 h1 h2 h3 h4, t_X12_does_218 n h0 h1 h2 h3 h4, t_X12_does_251 n h0 h1 h2 h3 h4⟩
theorem m_X12_does {l : Launch} {Z : XZ} {L : Nat → Nat} (hL : L 700 = 1) {n d : Nat} {S : GS} {a1 : Int} {a2 : Int} {x : Int} {S1 : GS} (H : f_X12_does n d 0 S [a1, a2] = some (x, S1)) : GM l Z L yX12_does cX12_does 7 (some .boolean) [] d 0 0 [.ref (L 500), .int (J a1), .int (J a2)] S (fun v S' => v = some (.int (J x)) ∧ S1 = S') (fun _ _ => False) := GM.of (by decide) (Nat.le_of_ble_eq_true rfl) ((g_X12_does n).1 hL _ _ _ _ _ _ H)

def P_X12_draw_0 (l : Launch) (Z : XZ) (L : Nat → Nat) (n : Nat) : Prop := ∀ (hL : L 700 = 1), ∀ (d : Nat) (S : GS) (a1 : Int) (x : Int) (S1 : GS), f_X12_draw n d 0 S [a1] = some (x, S1) → GA l Z L yX12_draw cX12_draw 2 (some .int) [] d 0 0 (fun v S' => v = some (.int (J x)) ∧ S1 = S') (fun _ _ => False) 0 (gl [(0, .ref (L 500)), (1, .int (J a1))]) [] S 0 0
theorem i_X12_draw {l : Launch} {Z : XZ} {L : Nat → Nat} (hL : L 700 = 1) {n : Nat} (ih : P_X12_draw_0 l Z L n) {d : Nat} {S : GS} {a1 : Int} {x : Int} {S1 : GS} (H : f_X12_draw n d 0 S [a1] = some (x, S1)) : GM l Z L yX12_draw cX12_draw 2 (some .int) [] d 0 0 [.ref (L 500), .int (J a1)] S (fun v S' => v = some (.int (J x)) ∧ S1 = S') (fun _ _ => False) := GM.of (by decide) (Nat.le_of_ble_eq_true rfl) (ih hL _ _ _ _ _ H)
set_option maxHeartbeats 4000000 in
set_option maxRecDepth 20000 in
theorem t_X12_draw_0 {l : Launch} {Z : XZ} {L : Nat → Nat} (n : Nat) (ih_X12_draw_0 : P_X12_draw_0 l Z L n) : P_X12_draw_0 l Z L (n + 1) := by
  intro hL d S a1 x S1 H
  have H : b_X12_draw_0 n d (f_X12_draw n) S a1 = some (x, S1) := H
  unfold b_X12_draw_0 at H
  refine GA.aload_n dX12_draw_0 rfl ?_
  refine GA.sipush dX12_draw_1 rfl ?_
  refine GA.aload_n dX12_draw_4 rfl ?_
  obtain ⟨x1, hx2, H⟩ := gv_e H
  refine GV.getI hx2 xf_X12_861 dX12_draw_5 (gs_500 hL) (by decide) rfl ?_
  obtain ⟨x3, hx4, H⟩ := gv_e H
  refine GV.imul hx4 dX12_draw_8 ?_
  refine GA.sipush dX12_draw_9 rfl ?_
  obtain ⟨x5, hx6, H⟩ := gv_e H
  refine GV.iadd hx6 dX12_draw_12 ?_
  refine GA.ldcw (v := 65536) xc_X12_864 dX12_draw_13 ?_
  obtain ⟨hg7, H⟩ := gg_e H
  obtain ⟨x8, hx9, H⟩ := gv_e H
  refine GV.irem hg7 hx9 dX12_draw_16 ?_
  obtain ⟨S_10, hx11, H⟩ := gv_e H
  refine GV.putI hx11 (xp_X12_861 _) dX12_draw_17 (gs_500 hL) (by decide) (Nat.le_of_ble_eq_true rfl) (gs_500 hL) ?_
  refine GA.aload_n dX12_draw_20 rfl ?_
  obtain ⟨x12, hx13, H⟩ := gv_e H
  refine GV.getI hx13 xf_X12_861 dX12_draw_21 (gs_500 hL) (by decide) rfl ?_
  refine GA.bipush dX12_draw_24 rfl ?_
  obtain ⟨hg14, H⟩ := gg_e H
  obtain ⟨x15, hx16, H⟩ := gv_e H
  refine GV.idiv hg14 hx16 dX12_draw_26 ?_
  refine GA.iload_n dX12_draw_27 rfl ?_
  obtain ⟨hg17, H⟩ := gg_e H
  obtain ⟨x18, hx19, H⟩ := gv_e H
  refine GV.irem hg17 hx19 dX12_draw_28 ?_
  cases H
  exact GA.iret rfl dX12_draw_29 (by omega) (by omega) ⟨rfl, rfl⟩
theorem g_X12_draw {l : Launch} {Z : XZ} {L : Nat → Nat} : ∀ n, P_X12_draw_0 l Z L n
  | 0 => fun _ _ _ _ _ _ H => no_e H
  | n + 1 => t_X12_draw_0 n (g_X12_draw n)
theorem m_X12_draw {l : Launch} {Z : XZ} {L : Nat → Nat} (hL : L 700 = 1) {n d : Nat} {S : GS} {a1 : Int} {x : Int} {S1 : GS} (H : f_X12_draw n d 0 S [a1] = some (x, S1)) : GM l Z L yX12_draw cX12_draw 2 (some .int) [] d 0 0 [.ref (L 500), .int (J a1)] S (fun v S' => v = some (.int (J x)) ∧ S1 = S') (fun _ _ => False) := GM.of (by decide) (Nat.le_of_ble_eq_true rfl) ((g_X12_draw n) hL _ _ _ _ _ H)

def P_X12_drawsOne_0 (l : Launch) (Z : XZ) (L : Nat → Nat) (n : Nat) : Prop := ∀ (hL : L 700 = 1), ∀ (d : Nat) (S : GS) (a1 : Int) (a2 : Int) (a3 : Int) (x : Int) (S1 : GS), f_X12_drawsOne n d 0 S [a1, a2, a3] = some (x, S1) → GA l Z L yX12_drawsOne cX12_drawsOne 10 (some .int) [] d 0 0 (fun v S' => v = some (.int (J x)) ∧ S1 = S') (fun _ _ => False) 0 (gl [(0, .ref (L 500)), (1, .int (J a1)), (2, .int (J a2)), (3, .int (J a3))]) [] S 0 0
def P_X12_drawsOne_16 (l : Launch) (Z : XZ) (L : Nat → Nat) (n : Nat) : Prop := ∀ (hL : L 700 = 1), ∀ (d : Nat) (S : GS) (a1 : Int) (a2 : Int) (a3 : Int) (s0 : Int) (x : Int) (S1 : GS), f_X12_drawsOne n d 16 S [a1, a2, a3, s0] = some (x, S1) → GA l Z L yX12_drawsOne cX12_drawsOne 10 (some .int) [] d 0 0 (fun v S' => v = some (.int (J x)) ∧ S1 = S') (fun _ _ => False) 16 (gl [(0, .ref (L 500)), (1, .int (J a1)), (2, .int (J a2)), (3, .int (J a3))]) [.int (J s0)] S 0 0
def P_X12_drawsOne_51 (l : Launch) (Z : XZ) (L : Nat → Nat) (n : Nat) : Prop := ∀ (hL : L 700 = 1), ∀ (d : Nat) (S : GS) (a2 : Int) (a3 : Int) (a4 : Int) (s0 : Int) (x : Int) (S1 : GS), f_X12_drawsOne n d 51 S [a2, a3, a4, s0] = some (x, S1) → GA l Z L yX12_drawsOne cX12_drawsOne 10 (some .int) [] d 0 0 (fun v S' => v = some (.int (J x)) ∧ S1 = S') (fun _ _ => False) 51 (gl [(0, .ref (L 500)), (2, .int (J a2)), (3, .int (J a3)), (4, .int (J a4))]) [.int (J s0)] S 0 0
def P_X12_drawsOne_79 (l : Launch) (Z : XZ) (L : Nat → Nat) (n : Nat) : Prop := ∀ (hL : L 700 = 1), ∀ (d : Nat) (S : GS) (a2 : Int) (a3 : Int) (a4 : Int) (a5 : Int) (s0 : Int) (s1 : Int) (x : Int) (S1 : GS), f_X12_drawsOne n d 79 S [a2, a3, a4, a5, s0, s1] = some (x, S1) → GA l Z L yX12_drawsOne cX12_drawsOne 10 (some .int) [] d 0 0 (fun v S' => v = some (.int (J x)) ∧ S1 = S') (fun _ _ => False) 79 (gl [(0, .ref (L 500)), (2, .int (J a2)), (3, .int (J a3)), (4, .int (J a4)), (5, .int (J a5))]) [.int (J s0), .int (J s1), .ref (L 500)] S 0 0
def P_X12_drawsOne_109 (l : Launch) (Z : XZ) (L : Nat → Nat) (n : Nat) : Prop := ∀ (hL : L 700 = 1), ∀ (d : Nat) (S : GS) (a2 : Int) (a5 : Int) (a6 : Int) (x : Int) (S1 : GS), f_X12_drawsOne n d 109 S [a2, a5, a6] = some (x, S1) → GA l Z L yX12_drawsOne cX12_drawsOne 10 (some .int) [] d 0 0 (fun v S' => v = some (.int (J x)) ∧ S1 = S') (fun _ _ => False) 109 (gl [(0, .ref (L 500)), (2, .int (J a2)), (5, .int (J a5)), (6, .int (J a6))]) [] S 0 0
def P_X12_drawsOne_231 (l : Launch) (Z : XZ) (L : Nat → Nat) (n : Nat) : Prop := ∀ (hL : L 700 = 1), ∀ (d : Nat) (S : GS) (a6 : Int) (a7 : Int) (x : Int) (S1 : GS), f_X12_drawsOne n d 231 S [a6, a7] = some (x, S1) → GA l Z L yX12_drawsOne cX12_drawsOne 10 (some .int) [] d 0 0 (fun v S' => v = some (.int (J x)) ∧ S1 = S') (fun _ _ => False) 231 (gl [(0, .ref (L 500)), (6, .int (J a6)), (7, .int (J a7))]) [] S 0 0
theorem i_X12_drawsOne {l : Launch} {Z : XZ} {L : Nat → Nat} (hL : L 700 = 1) {n : Nat} (ih : P_X12_drawsOne_0 l Z L n) {d : Nat} {S : GS} {a1 : Int} {a2 : Int} {a3 : Int} {x : Int} {S1 : GS} (H : f_X12_drawsOne n d 0 S [a1, a2, a3] = some (x, S1)) : GM l Z L yX12_drawsOne cX12_drawsOne 10 (some .int) [] d 0 0 [.ref (L 500), .int (J a1), .int (J a2), .int (J a3)] S (fun v S' => v = some (.int (J x)) ∧ S1 = S') (fun _ _ => False) := GM.of (by decide) (Nat.le_of_ble_eq_true rfl) (ih hL _ _ _ _ _ _ _ H)
set_option maxHeartbeats 4000000 in
set_option maxRecDepth 20000 in
theorem t_X12_drawsOne_0 {l : Launch} {Z : XZ} {L : Nat → Nat} (n : Nat) (ih_X12_drawsOne_0 : P_X12_drawsOne_0 l Z L n) (ih_X12_drawsOne_16 : P_X12_drawsOne_16 l Z L n) (ih_X12_drawsOne_51 : P_X12_drawsOne_51 l Z L n) (ih_X12_drawsOne_79 : P_X12_drawsOne_79 l Z L n) (ih_X12_drawsOne_109 : P_X12_drawsOne_109 l Z L n) (ih_X12_drawsOne_231 : P_X12_drawsOne_231 l Z L n) : P_X12_drawsOne_0 l Z L (n + 1) := by
  intro hL d S a1 a2 a3 x S1 H
  have H : b_X12_drawsOne_0 n d (f_X12_drawsOne n) S a1 a2 a3 = some (x, S1) := H
  unfold b_X12_drawsOne_0 at H
  refine GA.iload_n dX12_drawsOne_0 rfl ?_
  obtain ⟨hg1, H⟩ := gg_e H
  refine GV.if_eq (tgt := 15) hg1 dX12_drawsOne_1 (by decide) (fun c2 => ?_) (fun c2 => ?_)
  · have H := it_t H c2
    refine GA.iconst dX12_drawsOne_15 ?_
    refine GA.locals [(0, .ref (L 500)), (1, .int (J a1)), (2, .int (J a2)), (3, .int (J a3))] ⟨rfl, rfl, rfl, rfl, trivial⟩ ?_
    exact ih_X12_drawsOne_16 hL _ _ (a1) (a2) (a3) (0) _ _ H
  · have H := it_f H c2
    refine GA.bipush dX12_drawsOne_4 rfl ?_
    refine GA.aload_n dX12_drawsOne_6 rfl ?_
    refine GA.iconst dX12_drawsOne_7 ?_
    obtain ⟨hg3, H⟩ := gg_e H
    obtain ⟨x4, S_5, hc6, H⟩ := gc_e H
    refine GA.callV (m_X12_draw hL hc6) xs_X12_865 dX12_drawsOne_8 (gs_500 hL) (by decide) rfl rfl (by omega) (by decide) rfl (Nat.le_of_ble_eq_true rfl) (by omega) (by omega) rfl (fun E S9 hx => hx.elim) (fun v S9 hq => ?_)
    obtain ⟨rfl, rfl⟩ := hq
    obtain ⟨x7, hx8, H⟩ := gv_e H
    refine GV.iadd hx8 dX12_drawsOne_11 ?_
    refine GA.goto (tgt := 16) dX12_drawsOne_12 (by decide) ?_
    refine GA.locals [(0, .ref (L 500)), (1, .int (J a1)), (2, .int (J a2)), (3, .int (J a3))] ⟨rfl, rfl, rfl, rfl, trivial⟩ ?_
    exact ih_X12_drawsOne_16 hL _ _ (a1) (a2) (a3) (x7) _ _ H
set_option maxHeartbeats 4000000 in
set_option maxRecDepth 20000 in
theorem t_X12_drawsOne_16 {l : Launch} {Z : XZ} {L : Nat → Nat} (n : Nat) (ih_X12_drawsOne_0 : P_X12_drawsOne_0 l Z L n) (ih_X12_drawsOne_16 : P_X12_drawsOne_16 l Z L n) (ih_X12_drawsOne_51 : P_X12_drawsOne_51 l Z L n) (ih_X12_drawsOne_79 : P_X12_drawsOne_79 l Z L n) (ih_X12_drawsOne_109 : P_X12_drawsOne_109 l Z L n) (ih_X12_drawsOne_231 : P_X12_drawsOne_231 l Z L n) : P_X12_drawsOne_16 l Z L (n + 1) := by
  intro hL d S a1 a2 a3 s0 x S1 H
  have H : b_X12_drawsOne_16 n d (f_X12_drawsOne n) S a1 a2 a3 s0 = some (x, S1) := H
  unfold b_X12_drawsOne_16 at H
  refine GA.istore dX12_drawsOne_16 (by decide) ?_
  refine GA.iload_n dX12_drawsOne_18 rfl ?_
  obtain ⟨hg1, H⟩ := gg_e H
  refine GV.if_ne (tgt := 32) hg1 dX12_drawsOne_19 (by decide) (fun c2 => ?_) (fun c2 => ?_)
  · have H := it_t H c2
    refine GA.iload_n dX12_drawsOne_32 rfl ?_
    refine GA.iconst dX12_drawsOne_33 ?_
    refine GV.icmp_ne (tgt := 45) hg1 (by decide) dX12_drawsOne_34 (by decide) (fun c3 => ?_) (fun c3 => ?_)
    · have H := it_t H c3
      refine GA.aload_n dX12_drawsOne_45 rfl ?_
      refine GA.bipush dX12_drawsOne_46 rfl ?_
      obtain ⟨hg4, H⟩ := gg_e H
      obtain ⟨x5, S_6, hc7, H⟩ := gc_e H
      refine GA.callV (m_X12_draw hL hc7) xs_X12_865 dX12_drawsOne_48 (gs_500 hL) (by decide) rfl rfl (by omega) (by decide) rfl (Nat.le_of_ble_eq_true rfl) (by omega) (by omega) rfl (fun E S9 hx => hx.elim) (fun v S9 hq => ?_)
      obtain ⟨rfl, rfl⟩ := hq
      refine GA.locals [(0, .ref (L 500)), (2, .int (J a2)), (3, .int (J a3)), (4, .int (J s0))] ⟨rfl, rfl, rfl, rfl, trivial⟩ ?_
      exact ih_X12_drawsOne_51 hL _ _ (a2) (a3) (s0) (x5) _ _ H
    · have H := it_f H c3
      refine GA.aload_n dX12_drawsOne_37 rfl ?_
      refine GA.iconst dX12_drawsOne_38 ?_
      obtain ⟨hg8, H⟩ := gg_e H
      obtain ⟨x9, S_10, hc11, H⟩ := gc_e H
      refine GA.callV (m_X12_draw hL hc11) xs_X12_865 dX12_drawsOne_39 (gs_500 hL) (by decide) rfl rfl (by omega) (by decide) rfl (Nat.le_of_ble_eq_true rfl) (by omega) (by omega) rfl (fun E S9 hx => hx.elim) (fun v S9 hq => ?_)
      obtain ⟨rfl, rfl⟩ := hq
      refine GA.goto (tgt := 51) dX12_drawsOne_42 (by decide) ?_
      refine GA.locals [(0, .ref (L 500)), (2, .int (J a2)), (3, .int (J a3)), (4, .int (J s0))] ⟨rfl, rfl, rfl, rfl, trivial⟩ ?_
      exact ih_X12_drawsOne_51 hL _ _ (a2) (a3) (s0) (x9) _ _ H
  · have H := it_f H c2
    refine GA.iconst dX12_drawsOne_22 ?_
    refine GA.aload_n dX12_drawsOne_23 rfl ?_
    refine GA.iconst dX12_drawsOne_24 ?_
    obtain ⟨hg12, H⟩ := gg_e H
    obtain ⟨x13, S_14, hc15, H⟩ := gc_e H
    refine GA.callV (m_X12_draw hL hc15) xs_X12_865 dX12_drawsOne_25 (gs_500 hL) (by decide) rfl rfl (by omega) (by decide) rfl (Nat.le_of_ble_eq_true rfl) (by omega) (by omega) rfl (fun E S9 hx => hx.elim) (fun v S9 hq => ?_)
    obtain ⟨rfl, rfl⟩ := hq
    obtain ⟨x16, hx17, H⟩ := gv_e H
    refine GV.iadd hx17 dX12_drawsOne_28 ?_
    refine GA.goto (tgt := 51) dX12_drawsOne_29 (by decide) ?_
    refine GA.locals [(0, .ref (L 500)), (2, .int (J a2)), (3, .int (J a3)), (4, .int (J s0))] ⟨rfl, rfl, rfl, rfl, trivial⟩ ?_
    exact ih_X12_drawsOne_51 hL _ _ (a2) (a3) (s0) (x16) _ _ H
set_option maxHeartbeats 4000000 in
set_option maxRecDepth 20000 in
theorem t_X12_drawsOne_51 {l : Launch} {Z : XZ} {L : Nat → Nat} (n : Nat) (ih_X12_drawsOne_0 : P_X12_drawsOne_0 l Z L n) (ih_X12_drawsOne_16 : P_X12_drawsOne_16 l Z L n) (ih_X12_drawsOne_51 : P_X12_drawsOne_51 l Z L n) (ih_X12_drawsOne_79 : P_X12_drawsOne_79 l Z L n) (ih_X12_drawsOne_109 : P_X12_drawsOne_109 l Z L n) (ih_X12_drawsOne_231 : P_X12_drawsOne_231 l Z L n) : P_X12_drawsOne_51 l Z L (n + 1) := by
  intro hL d S a2 a3 a4 s0 x S1 H
  have H : b_X12_drawsOne_51 n d (f_X12_drawsOne n) S a2 a3 a4 s0 = some (x, S1) := H
  unfold b_X12_drawsOne_51 at H
  refine GA.istore dX12_drawsOne_51 (by decide) ?_
  refine GA.aload_n dX12_drawsOne_53 rfl ?_
  refine GA.bipush dX12_drawsOne_54 rfl ?_
  refine GA.iload dX12_drawsOne_56 rfl ?_
  refine GA.iconst dX12_drawsOne_58 ?_
  obtain ⟨hg1, H⟩ := gg_e H
  refine GV.icmp_ge (tgt := 67) hg1 (by decide) dX12_drawsOne_59 (by decide) (fun c2 => ?_) (fun c2 => ?_)
  · have H := it_t H c2
    refine GA.iload dX12_drawsOne_67 rfl ?_
    refine GA.bipush dX12_drawsOne_69 rfl ?_
    refine GV.icmp_ge (tgt := 78) hg1 (by decide) dX12_drawsOne_71 (by decide) (fun c3 => ?_) (fun c3 => ?_)
    · have H := it_t H c3
      refine GA.iconst dX12_drawsOne_78 ?_
      refine GA.locals [(0, .ref (L 500)), (2, .int (J a2)), (3, .int (J a3)), (4, .int (J a4)), (5, .int (J s0))] ⟨rfl, rfl, rfl, rfl, rfl, trivial⟩ ?_
      exact ih_X12_drawsOne_79 hL _ _ (a2) (a3) (a4) (s0) (5) (40) _ _ H
    · have H := it_f H c3
      refine GA.iconst dX12_drawsOne_74 ?_
      refine GA.goto (tgt := 79) dX12_drawsOne_75 (by decide) ?_
      refine GA.locals [(0, .ref (L 500)), (2, .int (J a2)), (3, .int (J a3)), (4, .int (J a4)), (5, .int (J s0))] ⟨rfl, rfl, rfl, rfl, rfl, trivial⟩ ?_
      exact ih_X12_drawsOne_79 hL _ _ (a2) (a3) (a4) (s0) (4) (40) _ _ H
  · have H := it_f H c2
    refine GA.iload dX12_drawsOne_62 rfl ?_
    refine GA.goto (tgt := 79) dX12_drawsOne_64 (by decide) ?_
    refine GA.locals [(0, .ref (L 500)), (2, .int (J a2)), (3, .int (J a3)), (4, .int (J a4)), (5, .int (J s0))] ⟨rfl, rfl, rfl, rfl, rfl, trivial⟩ ?_
    exact ih_X12_drawsOne_79 hL _ _ (a2) (a3) (a4) (s0) (s0) (40) _ _ H
set_option maxHeartbeats 4000000 in
set_option maxRecDepth 20000 in
theorem t_X12_drawsOne_79 {l : Launch} {Z : XZ} {L : Nat → Nat} (n : Nat) (ih_X12_drawsOne_0 : P_X12_drawsOne_0 l Z L n) (ih_X12_drawsOne_16 : P_X12_drawsOne_16 l Z L n) (ih_X12_drawsOne_51 : P_X12_drawsOne_51 l Z L n) (ih_X12_drawsOne_79 : P_X12_drawsOne_79 l Z L n) (ih_X12_drawsOne_109 : P_X12_drawsOne_109 l Z L n) (ih_X12_drawsOne_231 : P_X12_drawsOne_231 l Z L n) : P_X12_drawsOne_79 l Z L (n + 1) := by
  intro hL d S a2 a3 a4 a5 s0 s1 x S1 H
  have H : b_X12_drawsOne_79 n d (f_X12_drawsOne n) S a2 a3 a4 a5 s0 s1 = some (x, S1) := H
  unfold b_X12_drawsOne_79 at H
  obtain ⟨hg1, H⟩ := gg_e H
  obtain ⟨x2, S_3, hc4, H⟩ := gc_e H
  refine GA.callV (m_X12_added hL hc4) xs_X12_33 dX12_drawsOne_79 (gs_500 hL) (by decide) rfl rfl (by omega) (by decide) rfl (Nat.le_of_ble_eq_true rfl) (by omega) (by omega) rfl (fun E S9 hx => hx.elim) (fun v S9 hq => ?_)
  obtain ⟨rfl, rfl⟩ := hq
  refine GA.istore dX12_drawsOne_82 (by decide) ?_
  refine GA.iload_n dX12_drawsOne_84 rfl ?_
  obtain ⟨hg5, H⟩ := gg_e H
  refine GV.if_eq (tgt := 109) hg5 dX12_drawsOne_85 (by decide) (fun c6 => ?_) (fun c6 => ?_)
  · have H := it_t H c6
    refine GA.locals [(0, .ref (L 500)), (2, .int (J a2)), (5, .int (J a5)), (6, .int (J x2))] ⟨rfl, rfl, rfl, rfl, trivial⟩ ?_
    exact ih_X12_drawsOne_109 hL _ _ (a2) (a5) (x2) _ _ H
  · have H := it_f H c6
    refine GA.aload_n dX12_drawsOne_88 rfl ?_
    refine GA.get xf_X12_69 dX12_drawsOne_89 (gs_500 hL) (by decide) rfl ?_
    refine GA.iconst dX12_drawsOne_92 ?_
    refine GA.iload dX12_drawsOne_93 rfl ?_
    obtain ⟨hg7, H⟩ := gg_e H
    obtain ⟨S_8, hx9, H⟩ := gv_e H
    refine GV.iast hg7 hx9 dX12_drawsOne_95 (fun _ => (gs_507 hL)) (by decide) ?_
    refine GA.aload_n dX12_drawsOne_96 rfl ?_
    refine GA.iconst dX12_drawsOne_97 ?_
    obtain ⟨S_10, hx11, H⟩ := gv_e H
    refine GV.putI hx11 (xp_X12_66 _) dX12_drawsOne_98 (gs_500 hL) (by decide) (Nat.le_of_ble_eq_true rfl) (gs_500 hL) ?_
    refine GA.aload_n dX12_drawsOne_101 rfl ?_
    refine GA.bipush dX12_drawsOne_102 rfl ?_
    refine GA.iload dX12_drawsOne_104 rfl ?_
    obtain ⟨x12, S_13, hc14, H⟩ := gc_e H
    refine GA.callV (m_X12_keyIs hL hc14) xs_X12_650 dX12_drawsOne_106 (gs_500 hL) (by decide) rfl rfl (by omega) (by decide) rfl (Nat.le_of_ble_eq_true rfl) (by omega) (by omega) rfl (fun E S9 hx => hx.elim) (fun v S9 hq => ?_)
    obtain ⟨rfl, rfl⟩ := hq
    refine GA.locals [(0, .ref (L 500)), (2, .int (J a2)), (5, .int (J a5)), (6, .int (J x2))] ⟨rfl, rfl, rfl, rfl, trivial⟩ ?_
    exact ih_X12_drawsOne_109 hL _ _ (a2) (a5) (x2) _ _ H
set_option maxHeartbeats 4000000 in
set_option maxRecDepth 20000 in
theorem t_X12_drawsOne_109 {l : Launch} {Z : XZ} {L : Nat → Nat} (n : Nat) (ih_X12_drawsOne_0 : P_X12_drawsOne_0 l Z L n) (ih_X12_drawsOne_16 : P_X12_drawsOne_16 l Z L n) (ih_X12_drawsOne_51 : P_X12_drawsOne_51 l Z L n) (ih_X12_drawsOne_79 : P_X12_drawsOne_79 l Z L n) (ih_X12_drawsOne_109 : P_X12_drawsOne_109 l Z L n) (ih_X12_drawsOne_231 : P_X12_drawsOne_231 l Z L n) : P_X12_drawsOne_109 l Z L (n + 1) := by
  intro hL d S a2 a5 a6 x S1 H
  have H : b_X12_drawsOne_109 n d (f_X12_drawsOne n) S a2 a5 a6 = some (x, S1) := H
  unfold b_X12_drawsOne_109 at H
  refine GA.iload dX12_drawsOne_109 rfl ?_
  refine GA.iconst dX12_drawsOne_111 ?_
  obtain ⟨hg1, H⟩ := gg_e H
  refine GV.icmp_ne (tgt := 138) hg1 (by decide) dX12_drawsOne_112 (by decide) (fun c2 => ?_) (fun c2 => ?_)
  · have H := it_t H c2
    refine GA.iload dX12_drawsOne_138 rfl ?_
    refine GA.iconst dX12_drawsOne_140 ?_
    refine GV.icmp_ne (tgt := 213) hg1 (by decide) dX12_drawsOne_141 (by decide) (fun c3 => ?_) (fun c3 => ?_)
    · have H := it_t H c3
      refine GA.iload dX12_drawsOne_213 rfl ?_
      refine GA.iconst dX12_drawsOne_215 ?_
      refine GV.icmp_ne (tgt := 272) hg1 (by decide) dX12_drawsOne_216 (by decide) (fun c4 => ?_) (fun c4 => ?_)
      · have H := it_t H c4
        refine GA.iload dX12_drawsOne_272 rfl ?_
        refine GA.iconst dX12_drawsOne_274 ?_
        refine GV.icmp_le (tgt := 306) hg1 (by decide) dX12_drawsOne_275 (by decide) (fun c5 => ?_) (fun c5 => ?_)
        · have H := it_t H c5
          refine GA.iconst dX12_drawsOne_306 ?_
          cases H
          exact GA.iret rfl dX12_drawsOne_307 (by omega) (by omega) ⟨rfl, rfl⟩
        · have H := it_f H c5
          refine GA.aload_n dX12_drawsOne_278 rfl ?_
          refine GA.iload_n dX12_drawsOne_279 rfl ?_
          refine GA.iconst dX12_drawsOne_280 ?_
          obtain ⟨x6, hx7, H⟩ := gv_e H
          refine GV.iadd hx7 dX12_drawsOne_281 ?_
          obtain ⟨hg8, H⟩ := gg_e H
          obtain ⟨x9, S_10, hc11, H⟩ := gc_e H
          refine GA.callV (m_X12_draw hL hc11) xs_X12_865 dX12_drawsOne_282 (gs_500 hL) (by decide) rfl rfl (by omega) (by decide) rfl (Nat.le_of_ble_eq_true rfl) (by omega) (by omega) rfl (fun E S9 hx => hx.elim) (fun v S9 hq => ?_)
          obtain ⟨rfl, rfl⟩ := hq
          refine GA.istore dX12_drawsOne_285 (by decide) ?_
          refine GA.aload_n dX12_drawsOne_287 rfl ?_
          refine GA.get xf_X12_7 dX12_drawsOne_288 (gs_500 hL) (by decide) rfl ?_
          refine GA.bipush dX12_drawsOne_291 rfl ?_
          refine GA.iload dX12_drawsOne_293 rfl ?_
          obtain ⟨x12, S_13, hc14, H⟩ := gc_e H
          refine GA.callS (m_X12_at hL hc14) xs_X12_11 dX12_drawsOne_295 rfl (by omega) (by decide) rfl (Nat.le_of_ble_eq_true rfl) (by omega) (by omega) rfl (fun E S9 hx => hx.elim) (fun v S9 hq => ?_)
          obtain ⟨rfl, rfl⟩ := hq
          refine GA.iconst dX12_drawsOne_298 ?_
          obtain ⟨x15, hx16, H⟩ := gv_e H
          refine GV.iadd hx16 dX12_drawsOne_299 ?_
          refine GA.iload dX12_drawsOne_300 rfl ?_
          obtain ⟨hg17, H⟩ := gg_e H
          obtain ⟨S_18, hx19, H⟩ := gv_e H
          refine GV.iast hg17 hx19 dX12_drawsOne_302 (fun _ => (gs_501 hL)) (by decide) ?_
          refine GA.iload dX12_drawsOne_303 rfl ?_
          cases H
          exact GA.iret rfl dX12_drawsOne_305 (by omega) (by omega) ⟨rfl, rfl⟩
      · have H := it_f H c4
        refine GA.aload_n dX12_drawsOne_219 rfl ?_
        refine GA.aload_n dX12_drawsOne_220 rfl ?_
        refine GA.iconst dX12_drawsOne_221 ?_
        obtain ⟨hg20, H⟩ := gg_e H
        obtain ⟨x21, S_22, hc23, H⟩ := gc_e H
        refine GA.callV (m_X12_draw hL hc23) xs_X12_865 dX12_drawsOne_222 (gs_500 hL) (by decide) rfl rfl (by omega) (by decide) rfl (Nat.le_of_ble_eq_true rfl) (by omega) (by omega) rfl (fun E S9 hx => hx.elim) (fun v S9 hq => ?_)
        obtain ⟨rfl, rfl⟩ := hq
        obtain ⟨S_24, hx25, H⟩ := gv_e H
        refine GV.putI hx25 (xp_X12_66 _) dX12_drawsOne_225 (gs_500 hL) (by decide) (Nat.le_of_ble_eq_true rfl) (gs_500 hL) ?_
        refine GA.iconst dX12_drawsOne_228 ?_
        refine GA.istore dX12_drawsOne_229 (by decide) ?_
        refine GA.locals [(0, .ref (L 500)), (6, .int (J a6)), (7, .int (J 0))] ⟨rfl, rfl, rfl, trivial⟩ ?_
        exact ih_X12_drawsOne_231 hL _ _ (a6) (0) _ _ H
    · have H := it_f H c3
      refine GA.aload_n dX12_drawsOne_144 rfl ?_
      refine GA.sipush dX12_drawsOne_145 rfl ?_
      obtain ⟨hg26, H⟩ := gg_e H
      obtain ⟨x27, S_28, hc29, H⟩ := gc_e H
      refine GA.callV (m_X12_draw hL hc29) xs_X12_865 dX12_drawsOne_148 (gs_500 hL) (by decide) rfl rfl (by omega) (by decide) rfl (Nat.le_of_ble_eq_true rfl) (by omega) (by omega) rfl (fun E S9 hx => hx.elim) (fun v S9 hq => ?_)
      obtain ⟨rfl, rfl⟩ := hq
      refine GA.istore dX12_drawsOne_151 (by decide) ?_
      refine GA.aload_n dX12_drawsOne_153 rfl ?_
      refine GA.iconst dX12_drawsOne_154 ?_
      obtain ⟨x30, S_31, hc32, H⟩ := gc_e H
      refine GA.callV (m_X12_draw hL hc32) xs_X12_865 dX12_drawsOne_155 (gs_500 hL) (by decide) rfl rfl (by omega) (by decide) rfl (Nat.le_of_ble_eq_true rfl) (by omega) (by omega) rfl (fun E S9 hx => hx.elim) (fun v S9 hq => ?_)
      obtain ⟨rfl, rfl⟩ := hq
      refine GA.iconst dX12_drawsOne_158 ?_
      obtain ⟨x33, hx34, H⟩ := gv_e H
      refine GV.isub hx34 dX12_drawsOne_159 ?_
      refine GA.istore dX12_drawsOne_160 (by decide) ?_
      refine GA.aload_n dX12_drawsOne_162 rfl ?_
      refine GA.get xf_X12_250 dX12_drawsOne_163 (gs_500 hL) (by decide) rfl ?_
      refine GA.iconst dX12_drawsOne_166 ?_
      refine GA.iload dX12_drawsOne_167 rfl ?_
      refine GA.bipush dX12_drawsOne_169 rfl ?_
      obtain ⟨hg35, H⟩ := gg_e H
      obtain ⟨x36, hx37, H⟩ := gv_e H
      refine GV.idiv hg35 hx37 dX12_drawsOne_171 ?_
      obtain ⟨hg38, H⟩ := gg_e H
      obtain ⟨S_39, hx40, H⟩ := gv_e H
      refine GV.iast hg38 hx40 dX12_drawsOne_172 (fun _ => (gs_510 hL)) (by decide) ?_
      refine GA.aload_n dX12_drawsOne_173 rfl ?_
      refine GA.get xf_X12_250 dX12_drawsOne_174 (gs_500 hL) (by decide) rfl ?_
      refine GA.iconst dX12_drawsOne_177 ?_
      refine GA.iload dX12_drawsOne_178 rfl ?_
      refine GA.bipush dX12_drawsOne_180 rfl ?_
      obtain ⟨hg41, H⟩ := gg_e H
      obtain ⟨x42, hx43, H⟩ := gv_e H
      refine GV.idiv hg41 hx43 dX12_drawsOne_182 ?_
      refine GA.bipush dX12_drawsOne_183 rfl ?_
      obtain ⟨hg44, H⟩ := gg_e H
      obtain ⟨x45, hx46, H⟩ := gv_e H
      refine GV.irem hg44 hx46 dX12_drawsOne_185 ?_
      obtain ⟨hg47, H⟩ := gg_e H
      obtain ⟨S_48, hx49, H⟩ := gv_e H
      refine GV.iast hg47 hx49 dX12_drawsOne_186 (fun _ => (gs_510 hL)) (by decide) ?_
      refine GA.aload_n dX12_drawsOne_187 rfl ?_
      refine GA.get xf_X12_250 dX12_drawsOne_188 (gs_500 hL) (by decide) rfl ?_
      refine GA.iconst dX12_drawsOne_191 ?_
      refine GA.iload dX12_drawsOne_192 rfl ?_
      refine GA.bipush dX12_drawsOne_194 rfl ?_
      obtain ⟨hg50, H⟩ := gg_e H
      obtain ⟨x51, hx52, H⟩ := gv_e H
      refine GV.irem hg50 hx52 dX12_drawsOne_196 ?_
      obtain ⟨hg53, H⟩ := gg_e H
      obtain ⟨S_54, hx55, H⟩ := gv_e H
      refine GV.iast hg53 hx55 dX12_drawsOne_197 (fun _ => (gs_510 hL)) (by decide) ?_
      refine GA.aload_n dX12_drawsOne_198 rfl ?_
      refine GA.iload dX12_drawsOne_199 rfl ?_
      refine GA.iconst dX12_drawsOne_201 ?_
      refine GA.iconst dX12_drawsOne_202 ?_
      refine GA.iload dX12_drawsOne_203 rfl ?_
      obtain ⟨x56, S_57, hc58, H⟩ := gc_e H
      refine GA.callV (m_X12_isNumber hL hc58) xs_X12_485 dX12_drawsOne_205 (gs_500 hL) (by decide) rfl rfl (by omega) (by decide) rfl (Nat.le_of_ble_eq_true rfl) (by omega) (by omega) rfl (fun E S9 hx => hx.elim) (fun v S9 hq => ?_)
      obtain ⟨rfl, rfl⟩ := hq
      refine GA.istore dX12_drawsOne_208 (by decide) ?_
      refine GA.goto (tgt := 306) dX12_drawsOne_210 (by decide) ?_
      refine GA.iconst dX12_drawsOne_306 ?_
      cases H
      exact GA.iret rfl dX12_drawsOne_307 (by omega) (by omega) ⟨rfl, rfl⟩
  · have H := it_f H c2
    refine GA.aload_n dX12_drawsOne_115 rfl ?_
    refine GA.get xf_X12_7 dX12_drawsOne_116 (gs_500 hL) (by decide) rfl ?_
    refine GA.bipush dX12_drawsOne_119 rfl ?_
    refine GA.iload dX12_drawsOne_121 rfl ?_
    obtain ⟨hg59, H⟩ := gg_e H
    obtain ⟨x60, S_61, hc62, H⟩ := gc_e H
    refine GA.callS (m_X12_at hL hc62) xs_X12_11 dX12_drawsOne_123 rfl (by omega) (by decide) rfl (Nat.le_of_ble_eq_true rfl) (by omega) (by omega) rfl (fun E S9 hx => hx.elim) (fun v S9 hq => ?_)
    obtain ⟨rfl, rfl⟩ := hq
    refine GA.bipush dX12_drawsOne_126 rfl ?_
    obtain ⟨x63, hx64, H⟩ := gv_e H
    refine GV.iadd hx64 dX12_drawsOne_128 ?_
    refine GA.aload_n dX12_drawsOne_129 rfl ?_
    refine GA.iconst dX12_drawsOne_130 ?_
    obtain ⟨x65, S_66, hc67, H⟩ := gc_e H
    refine GA.callV (m_X12_draw hL hc67) xs_X12_865 dX12_drawsOne_131 (gs_500 hL) (by decide) rfl rfl (by omega) (by decide) rfl (Nat.le_of_ble_eq_true rfl) (by omega) (by omega) rfl (fun E S9 hx => hx.elim) (fun v S9 hq => ?_)
    obtain ⟨rfl, rfl⟩ := hq
    obtain ⟨hg68, H⟩ := gg_e H
    obtain ⟨S_69, hx70, H⟩ := gv_e H
    refine GV.iast hg68 hx70 dX12_drawsOne_134 (fun _ => (gs_501 hL)) (by decide) ?_
    refine GA.goto (tgt := 306) dX12_drawsOne_135 (by decide) ?_
    refine GA.iconst dX12_drawsOne_306 ?_
    cases H
    exact GA.iret rfl dX12_drawsOne_307 (by omega) (by omega) ⟨rfl, rfl⟩
set_option maxHeartbeats 4000000 in
set_option maxRecDepth 20000 in
theorem t_X12_drawsOne_231 {l : Launch} {Z : XZ} {L : Nat → Nat} (n : Nat) (ih_X12_drawsOne_0 : P_X12_drawsOne_0 l Z L n) (ih_X12_drawsOne_16 : P_X12_drawsOne_16 l Z L n) (ih_X12_drawsOne_51 : P_X12_drawsOne_51 l Z L n) (ih_X12_drawsOne_79 : P_X12_drawsOne_79 l Z L n) (ih_X12_drawsOne_109 : P_X12_drawsOne_109 l Z L n) (ih_X12_drawsOne_231 : P_X12_drawsOne_231 l Z L n) : P_X12_drawsOne_231 l Z L (n + 1) := by
  intro hL d S a6 a7 x S1 H
  have H : b_X12_drawsOne_231 n d (f_X12_drawsOne n) S a6 a7 = some (x, S1) := H
  unfold b_X12_drawsOne_231 at H
  refine GA.iload dX12_drawsOne_231 rfl ?_
  refine GA.aload_n dX12_drawsOne_233 rfl ?_
  obtain ⟨x1, hx2, H⟩ := gv_e H
  refine GV.getI hx2 xf_X12_66 dX12_drawsOne_234 (gs_500 hL) (by decide) rfl ?_
  obtain ⟨hg3, H⟩ := gg_e H
  obtain ⟨hg4, H⟩ := gg_e H
  refine GV.icmp_ge (tgt := 261) hg3 hg4 dX12_drawsOne_237 (by decide) (fun c5 => ?_) (fun c5 => ?_)
  · have H := it_t H c5
    refine GA.aload_n dX12_drawsOne_261 rfl ?_
    refine GA.bipush dX12_drawsOne_262 rfl ?_
    refine GA.iload dX12_drawsOne_264 rfl ?_
    obtain ⟨hg6, H⟩ := gg_e H
    obtain ⟨x7, S_8, hc9, H⟩ := gc_e H
    refine GA.callV (m_X12_textIs hL hc9) xs_X12_492 dX12_drawsOne_266 (gs_500 hL) (by decide) rfl rfl (by omega) (by decide) rfl (Nat.le_of_ble_eq_true rfl) (by omega) (by omega) rfl (fun E S9 hx => hx.elim) (fun v S9 hq => ?_)
    obtain ⟨rfl, rfl⟩ := hq
    refine GA.goto (tgt := 306) dX12_drawsOne_269 (by decide) ?_
    refine GA.iconst dX12_drawsOne_306 ?_
    cases H
    exact GA.iret rfl dX12_drawsOne_307 (by omega) (by omega) ⟨rfl, rfl⟩
  · have H := it_f H c5
    refine GA.aload_n dX12_drawsOne_240 rfl ?_
    refine GA.get xf_X12_69 dX12_drawsOne_241 (gs_500 hL) (by decide) rfl ?_
    refine GA.iload dX12_drawsOne_244 rfl ?_
    refine GA.bipush dX12_drawsOne_246 rfl ?_
    refine GA.aload_n dX12_drawsOne_248 rfl ?_
    refine GA.iconst dX12_drawsOne_249 ?_
    obtain ⟨hg10, H⟩ := gg_e H
    obtain ⟨x11, S_12, hc13, H⟩ := gc_e H
    refine GA.callV (m_X12_draw hL hc13) xs_X12_865 dX12_drawsOne_250 (gs_500 hL) (by decide) rfl rfl (by omega) (by decide) rfl (Nat.le_of_ble_eq_true rfl) (by omega) (by omega) rfl (fun E S9 hx => hx.elim) (fun v S9 hq => ?_)
    obtain ⟨rfl, rfl⟩ := hq
    obtain ⟨x14, hx15, H⟩ := gv_e H
    refine GV.iadd hx15 dX12_drawsOne_253 ?_
    obtain ⟨hg16, H⟩ := gg_e H
    obtain ⟨S_17, hx18, H⟩ := gv_e H
    refine GV.iast hg16 hx18 dX12_drawsOne_254 (fun _ => (gs_507 hL)) (by decide) ?_
    obtain ⟨x19, hx20, H⟩ := gv_e H
    refine GV.iinc hx20 dX12_drawsOne_255 rfl (by decide) ?_
    refine GA.goto (tgt := 231) dX12_drawsOne_258 (by decide) ?_
    refine GA.locals [(0, .ref (L 500)), (6, .int (J a6)), (7, .int (J x19))] ⟨rfl, rfl, rfl, trivial⟩ ?_
    exact ih_X12_drawsOne_231 hL _ _ (a6) (x19) _ _ H
theorem g_X12_drawsOne {l : Launch} {Z : XZ} {L : Nat → Nat} : ∀ n, P_X12_drawsOne_0 l Z L n ∧ P_X12_drawsOne_16 l Z L n ∧ P_X12_drawsOne_51 l Z L n ∧ P_X12_drawsOne_79 l Z L n ∧ P_X12_drawsOne_109 l Z L n ∧ P_X12_drawsOne_231 l Z L n
  | 0 => ⟨fun _ _ _ _ _ _ _ _ H => no_e H, fun _ _ _ _ _ _ _ _ _ H => no_e H, fun _ _ _ _ _ _ _ _ _ H => no_e H, fun _ _ _ _ _ _ _ _ _ _ _ H => no_e H, fun _ _ _ _ _ _ _ _ H => no_e H, fun _ _ _ _ _ _ _ H => no_e H⟩
  | n + 1 => have ⟨h0, h1, h2, h3, h4, h5⟩ := g_X12_drawsOne (l := l) (Z := Z) (L := L) n
    ⟨t_X12_drawsOne_0 n h0 h1 h2 h3 h4 h5, t_X12_drawsOne_16 n h0 h1 h2 h3 h4 h5, t_X12_drawsOne_51 n h0 h1 h2 h3 h4 h5, t_X12_drawsOne_79 n h0 h1 h2 h3 h4 h5, t_X12_drawsOne_109 n h0 h1 h2 h3 h4 h5, t_X12_drawsOne_231 n h0 h1 h2 h3 h4 h5⟩
theorem m_X12_drawsOne {l : Launch} {Z : XZ} {L : Nat → Nat} (hL : L 700 = 1) {n d : Nat} {S : GS} {a1 : Int} {a2 : Int} {a3 : Int} {x : Int} {S1 : GS} (H : f_X12_drawsOne n d 0 S [a1, a2, a3] = some (x, S1)) : GM l Z L yX12_drawsOne cX12_drawsOne 10 (some .int) [] d 0 0 [.ref (L 500), .int (J a1), .int (J a2), .int (J a3)] S (fun v S' => v = some (.int (J x)) ∧ S1 = S') (fun _ _ => False) := GM.of (by decide) (Nat.le_of_ble_eq_true rfl) ((g_X12_drawsOne n).1 hL _ _ _ _ _ _ _ H)

def P_X12_equal_0 (l : Launch) (Z : XZ) (L : Nat → Nat) (n : Nat) : Prop := ∀ (hL : L 700 = 1), ∀ (d : Nat) (S : GS) (a1 : Int) (a2 : Int) (x : Int) (S1 : GS), f_X12_equal n d 0 S [a1, a2] = some (x, S1) → GA l Z L yX12_equal cX12_equal 3 (some .boolean) [] d 0 0 (fun v S' => v = some (.int (J x)) ∧ S1 = S') (fun _ _ => False) 0 (gl [(0, .ref (L 500)), (1, .int (J a1)), (2, .int (J a2))]) [] S 0 0
def P_X12_equal_22 (l : Launch) (Z : XZ) (L : Nat → Nat) (n : Nat) : Prop := ∀ (hL : L 700 = 1), ∀ (d : Nat) (S : GS) (a1 : Int) (a2 : Int) (s0 : Int) (x : Int) (S1 : GS), f_X12_equal n d 22 S [a1, a2, s0] = some (x, S1) → GA l Z L yX12_equal cX12_equal 3 (some .boolean) [] d 0 0 (fun v S' => v = some (.int (J x)) ∧ S1 = S') (fun _ _ => False) 22 (gl [(0, .ref (L 500)), (1, .int (J a1)), (2, .int (J a2))]) [.int (J s0), .ref (L 500)] S 0 0
theorem i_X12_equal {l : Launch} {Z : XZ} {L : Nat → Nat} (hL : L 700 = 1) {n : Nat} (ih : P_X12_equal_0 l Z L n) {d : Nat} {S : GS} {a1 : Int} {a2 : Int} {x : Int} {S1 : GS} (H : f_X12_equal n d 0 S [a1, a2] = some (x, S1)) : GM l Z L yX12_equal cX12_equal 3 (some .boolean) [] d 0 0 [.ref (L 500), .int (J a1), .int (J a2)] S (fun v S' => v = some (.int (J x)) ∧ S1 = S') (fun _ _ => False) := GM.of (by decide) (Nat.le_of_ble_eq_true rfl) (ih hL _ _ _ _ _ _ H)
set_option maxHeartbeats 4000000 in
set_option maxRecDepth 20000 in
theorem t_X12_equal_0 {l : Launch} {Z : XZ} {L : Nat → Nat} (n : Nat) (ih_X12_equal_0 : P_X12_equal_0 l Z L n) (ih_X12_equal_22 : P_X12_equal_22 l Z L n) : P_X12_equal_0 l Z L (n + 1) := by
  intro hL d S a1 a2 x S1 H
  have H : b_X12_equal_0 n d (f_X12_equal n) S a1 a2 = some (x, S1) := H
  unfold b_X12_equal_0 at H
  refine GA.aload_n dX12_equal_0 rfl ?_
  refine GA.aload_n dX12_equal_1 rfl ?_
  refine GA.iload_n dX12_equal_2 rfl ?_
  obtain ⟨hg1, H⟩ := gg_e H
  obtain ⟨x2, S_3, hc4, H⟩ := gc_e H
  refine GA.callV (m_X12_isDoc hL hc4) xs_X12_22 dX12_equal_3 (gs_500 hL) (by decide) rfl rfl (by omega) (by decide) rfl (Nat.le_of_ble_eq_true rfl) (by omega) (by omega) rfl (fun E S9 hx => hx.elim) (fun v S9 hq => ?_)
  obtain ⟨rfl, rfl⟩ := hq
  obtain ⟨hg5, H⟩ := gg_e H
  refine GV.if_eq (tgt := 21) hg5 dX12_equal_6 (by decide) (fun c6 => ?_) (fun c6 => ?_)
  · have H := it_t H c6
    refine GA.iconst dX12_equal_21 ?_
    refine GA.locals [(0, .ref (L 500)), (1, .int (J a1)), (2, .int (J a2))] ⟨rfl, rfl, rfl, trivial⟩ ?_
    exact ih_X12_equal_22 hL _ _ (a1) (a2) (0) _ _ H
  · have H := it_f H c6
    refine GA.aload_n dX12_equal_9 rfl ?_
    refine GA.iload_n dX12_equal_10 rfl ?_
    obtain ⟨x7, S_8, hc9, H⟩ := gc_e H
    refine GA.callV (m_X12_isDoc hL hc9) xs_X12_22 dX12_equal_11 (gs_500 hL) (by decide) rfl rfl (by omega) (by decide) rfl (Nat.le_of_ble_eq_true rfl) (by omega) (by omega) rfl (fun E S9 hx => hx.elim) (fun v S9 hq => ?_)
    obtain ⟨rfl, rfl⟩ := hq
    obtain ⟨hg10, H⟩ := gg_e H
    refine GV.if_eq (tgt := 21) hg10 dX12_equal_14 (by decide) (fun c11 => ?_) (fun c11 => ?_)
    · have H := it_t H c11
      refine GA.iconst dX12_equal_21 ?_
      refine GA.locals [(0, .ref (L 500)), (1, .int (J a1)), (2, .int (J a2))] ⟨rfl, rfl, rfl, trivial⟩ ?_
      exact ih_X12_equal_22 hL _ _ (a1) (a2) (0) _ _ H
    · have H := it_f H c11
      refine GA.iconst dX12_equal_17 ?_
      refine GA.goto (tgt := 22) dX12_equal_18 (by decide) ?_
      refine GA.locals [(0, .ref (L 500)), (1, .int (J a1)), (2, .int (J a2))] ⟨rfl, rfl, rfl, trivial⟩ ?_
      exact ih_X12_equal_22 hL _ _ (a1) (a2) (1) _ _ H
set_option maxHeartbeats 4000000 in
set_option maxRecDepth 20000 in
theorem t_X12_equal_22 {l : Launch} {Z : XZ} {L : Nat → Nat} (n : Nat) (ih_X12_equal_0 : P_X12_equal_0 l Z L n) (ih_X12_equal_22 : P_X12_equal_22 l Z L n) : P_X12_equal_22 l Z L (n + 1) := by
  intro hL d S a1 a2 s0 x S1 H
  have H : b_X12_equal_22 n d (f_X12_equal n) S a1 a2 s0 = some (x, S1) := H
  unfold b_X12_equal_22 at H
  refine GA.iconst dX12_equal_22 ?_
  obtain ⟨hg1, H⟩ := gg_e H
  obtain ⟨x2, S_3, hc4, H⟩ := gc_e H
  refine GA.callV (m_X12_fails hL hc4) xs_X12_456 dX12_equal_23 (gs_500 hL) (by decide) rfl rfl (by omega) (by decide) rfl (Nat.le_of_ble_eq_true rfl) (by omega) (by omega) rfl (fun E S9 hx => hx.elim) (fun v S9 hq => ?_)
  obtain ⟨rfl, rfl⟩ := hq
  obtain ⟨hg5, H⟩ := gg_e H
  refine GV.if_ne (tgt := 44) hg5 dX12_equal_26 (by decide) (fun c6 => ?_) (fun c6 => ?_)
  · have H := it_t H c6
    refine GA.iconst dX12_equal_44 ?_
    cases H
    exact GV.zret (by decide) rfl dX12_equal_45 (by omega) (by omega) ⟨rfl, rfl⟩
  · have H := it_f H c6
    refine GA.aload_n dX12_equal_29 rfl ?_
    refine GA.iload_n dX12_equal_30 rfl ?_
    refine GA.iconst dX12_equal_31 ?_
    refine GA.iload_n dX12_equal_32 rfl ?_
    refine GA.iconst dX12_equal_33 ?_
    obtain ⟨x7, S_8, hc9, H⟩ := gc_e H
    refine GA.callV (m_X12_areEqual hL hc9) xs_X12_590 dX12_equal_34 (gs_500 hL) (by decide) rfl rfl (by omega) (by decide) rfl (Nat.le_of_ble_eq_true rfl) (by omega) (by omega) rfl (fun E S9 hx => hx.elim) (fun v S9 hq => ?_)
    obtain ⟨rfl, rfl⟩ := hq
    obtain ⟨hg10, H⟩ := gg_e H
    refine GV.if_eq (tgt := 44) hg10 dX12_equal_37 (by decide) (fun c11 => ?_) (fun c11 => ?_)
    · have H := it_t H c11
      refine GA.iconst dX12_equal_44 ?_
      cases H
      exact GV.zret (by decide) rfl dX12_equal_45 (by omega) (by omega) ⟨rfl, rfl⟩
    · have H := it_f H c11
      refine GA.iconst dX12_equal_40 ?_
      refine GA.goto (tgt := 45) dX12_equal_41 (by decide) ?_
      cases H
      exact GV.zret (by decide) rfl dX12_equal_45 (by omega) (by omega) ⟨rfl, rfl⟩
theorem g_X12_equal {l : Launch} {Z : XZ} {L : Nat → Nat} : ∀ n, P_X12_equal_0 l Z L n ∧ P_X12_equal_22 l Z L n
  | 0 => ⟨fun _ _ _ _ _ _ _ H => no_e H, fun _ _ _ _ _ _ _ _ H => no_e H⟩
  | n + 1 => have ⟨h0, h1⟩ := g_X12_equal (l := l) (Z := Z) (L := L) n
    ⟨t_X12_equal_0 n h0 h1, t_X12_equal_22 n h0 h1⟩
theorem m_X12_equal {l : Launch} {Z : XZ} {L : Nat → Nat} (hL : L 700 = 1) {n d : Nat} {S : GS} {a1 : Int} {a2 : Int} {x : Int} {S1 : GS} (H : f_X12_equal n d 0 S [a1, a2] = some (x, S1)) : GM l Z L yX12_equal cX12_equal 3 (some .boolean) [] d 0 0 [.ref (L 500), .int (J a1), .int (J a2)] S (fun v S' => v = some (.int (J x)) ∧ S1 = S') (fun _ _ => False) := GM.of (by decide) (Nat.le_of_ble_eq_true rfl) ((g_X12_equal n).1 hL _ _ _ _ _ _ H)

def P_X12_escaped_0 (l : Launch) (Z : XZ) (L : Nat → Nat) (n : Nat) : Prop := ∀ (hL : L 700 = 1), ∀ (d : Nat) (S : GS) (a1 : Int) (x : Int) (S1 : GS), f_X12_escaped n d 0 S [a1] = some (x, S1) → GA l Z L yX12_escaped cX12_escaped 2 (some .int) [] d 0 0 (fun v S' => v = some (.int (J x)) ∧ S1 = S') (fun _ _ => False) 0 (gl [(0, .ref (L 500)), (1, .int (J a1))]) [] S 0 0
theorem i_X12_escaped {l : Launch} {Z : XZ} {L : Nat → Nat} (hL : L 700 = 1) {n : Nat} (ih : P_X12_escaped_0 l Z L n) {d : Nat} {S : GS} {a1 : Int} {x : Int} {S1 : GS} (H : f_X12_escaped n d 0 S [a1] = some (x, S1)) : GM l Z L yX12_escaped cX12_escaped 2 (some .int) [] d 0 0 [.ref (L 500), .int (J a1)] S (fun v S' => v = some (.int (J x)) ∧ S1 = S') (fun _ _ => False) := GM.of (by decide) (Nat.le_of_ble_eq_true rfl) (ih hL _ _ _ _ _ H)
set_option maxHeartbeats 4000000 in
set_option maxRecDepth 20000 in
theorem t_X12_escaped_0 {l : Launch} {Z : XZ} {L : Nat → Nat} (n : Nat) (ih_X12_escaped_0 : P_X12_escaped_0 l Z L n) : P_X12_escaped_0 l Z L (n + 1) := by
  intro hL d S a1 x S1 H
  have H : b_X12_escaped_0 n d (f_X12_escaped n) S a1 = some (x, S1) := H
  unfold b_X12_escaped_0 at H
  refine GA.iload_n dX12_escaped_0 rfl ?_
  obtain ⟨hg1, H⟩ := gg_e H
  by_cases c2 : a1 = 34
  · have H := it_t H c2
    refine GV.look (tgt := 76) hg1 dX12_escaped_1 rfl (by rw [c2] <;> rfl) (by decide) ?_
    refine GA.iload_n dX12_escaped_76 rfl ?_
    cases H
    exact GA.iret rfl dX12_escaped_77 (by omega) (by omega) ⟨rfl, rfl⟩
  have H := it_f H c2
  by_cases c3 : a1 = 47
  · have H := it_t H c3
    refine GV.look (tgt := 76) hg1 dX12_escaped_1 rfl (by rw [c3] <;> rfl) (by decide) ?_
    refine GA.iload_n dX12_escaped_76 rfl ?_
    cases H
    exact GA.iret rfl dX12_escaped_77 (by omega) (by omega) ⟨rfl, rfl⟩
  have H := it_f H c3
  by_cases c4 : a1 = 92
  · have H := it_t H c4
    refine GV.look (tgt := 76) hg1 dX12_escaped_1 rfl (by rw [c4] <;> rfl) (by decide) ?_
    refine GA.iload_n dX12_escaped_76 rfl ?_
    cases H
    exact GA.iret rfl dX12_escaped_77 (by omega) (by omega) ⟨rfl, rfl⟩
  have H := it_f H c4
  by_cases c5 : a1 = 98
  · have H := it_t H c5
    refine GV.look (tgt := 78) hg1 dX12_escaped_1 rfl (by rw [c5] <;> rfl) (by decide) ?_
    refine GA.bipush dX12_escaped_78 rfl ?_
    cases H
    exact GA.iret rfl dX12_escaped_80 (by omega) (by omega) ⟨rfl, rfl⟩
  have H := it_f H c5
  by_cases c6 : a1 = 102
  · have H := it_t H c6
    refine GV.look (tgt := 81) hg1 dX12_escaped_1 rfl (by rw [c6] <;> rfl) (by decide) ?_
    refine GA.bipush dX12_escaped_81 rfl ?_
    cases H
    exact GA.iret rfl dX12_escaped_83 (by omega) (by omega) ⟨rfl, rfl⟩
  have H := it_f H c6
  by_cases c7 : a1 = 110
  · have H := it_t H c7
    refine GV.look (tgt := 84) hg1 dX12_escaped_1 rfl (by rw [c7] <;> rfl) (by decide) ?_
    refine GA.bipush dX12_escaped_84 rfl ?_
    cases H
    exact GA.iret rfl dX12_escaped_86 (by omega) (by omega) ⟨rfl, rfl⟩
  have H := it_f H c7
  by_cases c8 : a1 = 114
  · have H := it_t H c8
    refine GV.look (tgt := 87) hg1 dX12_escaped_1 rfl (by rw [c8] <;> rfl) (by decide) ?_
    refine GA.bipush dX12_escaped_87 rfl ?_
    cases H
    exact GA.iret rfl dX12_escaped_89 (by omega) (by omega) ⟨rfl, rfl⟩
  have H := it_f H c8
  by_cases c9 : a1 = 116
  · have H := it_t H c9
    refine GV.look (tgt := 90) hg1 dX12_escaped_1 rfl (by rw [c9] <;> rfl) (by decide) ?_
    refine GA.bipush dX12_escaped_90 rfl ?_
    cases H
    exact GA.iret rfl dX12_escaped_92 (by omega) (by omega) ⟨rfl, rfl⟩
  have H := it_f H c9
  refine GV.look (tgt := 93) hg1 dX12_escaped_1 rfl (look_no ⟨c2, c3, c4, c5, c6, c7, c8, c9, trivial⟩) (by decide) ?_
  refine GA.iconst dX12_escaped_93 ?_
  cases H
  exact GA.iret rfl dX12_escaped_94 (by omega) (by omega) ⟨rfl, rfl⟩
theorem g_X12_escaped {l : Launch} {Z : XZ} {L : Nat → Nat} : ∀ n, P_X12_escaped_0 l Z L n
  | 0 => fun _ _ _ _ _ _ H => no_e H
  | n + 1 => t_X12_escaped_0 n (g_X12_escaped n)
theorem m_X12_escaped {l : Launch} {Z : XZ} {L : Nat → Nat} (hL : L 700 = 1) {n d : Nat} {S : GS} {a1 : Int} {x : Int} {S1 : GS} (H : f_X12_escaped n d 0 S [a1] = some (x, S1)) : GM l Z L yX12_escaped cX12_escaped 2 (some .int) [] d 0 0 [.ref (L 500), .int (J a1)] S (fun v S' => v = some (.int (J x)) ∧ S1 = S') (fun _ _ => False) := GM.of (by decide) (Nat.le_of_ble_eq_true rfl) ((g_X12_escaped n) hL _ _ _ _ _ H)

def P_X12_find_0 (l : Launch) (Z : XZ) (L : Nat → Nat) (n : Nat) : Prop := ∀ (hL : L 700 = 1), ∀ (d : Nat) (S : GS) (a1 : Int) (x : Int) (S1 : GS), f_X12_find n d 0 S [a1] = some (x, S1) → GA l Z L yX12_find cX12_find 2 (some .int) [] d 0 0 (fun v S' => v = some (.int (J x)) ∧ S1 = S') (fun _ _ => False) 0 (gl [(0, .ref (L 500)), (1, .int (J a1))]) [] S 0 0
theorem i_X12_find {l : Launch} {Z : XZ} {L : Nat → Nat} (hL : L 700 = 1) {n : Nat} (ih : P_X12_find_0 l Z L n) {d : Nat} {S : GS} {a1 : Int} {x : Int} {S1 : GS} (H : f_X12_find n d 0 S [a1] = some (x, S1)) : GM l Z L yX12_find cX12_find 2 (some .int) [] d 0 0 [.ref (L 500), .int (J a1)] S (fun v S' => v = some (.int (J x)) ∧ S1 = S') (fun _ _ => False) := GM.of (by decide) (Nat.le_of_ble_eq_true rfl) (ih hL _ _ _ _ _ H)
set_option maxHeartbeats 4000000 in
set_option maxRecDepth 20000 in
theorem t_X12_find_0 {l : Launch} {Z : XZ} {L : Nat → Nat} (n : Nat) (ih_X12_find_0 : P_X12_find_0 l Z L n) : P_X12_find_0 l Z L (n + 1) := by
  intro hL d S a1 x S1 H
  have H : b_X12_find_0 n d (f_X12_find n) S a1 = some (x, S1) := H
  unfold b_X12_find_0 at H
  refine GA.aload_n dX12_find_0 rfl ?_
  refine GA.iload_n dX12_find_1 rfl ?_
  refine GA.iconst dX12_find_2 ?_
  refine GA.aload_n dX12_find_3 rfl ?_
  obtain ⟨x1, hx2, H⟩ := gv_e H
  refine GV.getI hx2 xf_X12_644 dX12_find_4 (gs_500 hL) (by decide) rfl ?_
  refine GA.iconst dX12_find_7 ?_
  obtain ⟨x3, hx4, H⟩ := gv_e H
  refine GV.isub hx4 dX12_find_8 ?_
  obtain ⟨hg5, H⟩ := gg_e H
  obtain ⟨x6, S_7, hc8, H⟩ := gc_e H
  refine GA.callS (m_X12_in hL hc8) xs_X12_18 dX12_find_9 rfl (by omega) (by decide) rfl (Nat.le_of_ble_eq_true rfl) (by omega) (by omega) rfl (fun E S9 hx => hx.elim) (fun v S9 hq => ?_)
  obtain ⟨rfl, rfl⟩ := hq
  refine GA.iconst dX12_find_12 ?_
  obtain ⟨x9, S_10, hc11, H⟩ := gc_e H
  refine GA.callV (m_X12_fails hL hc11) xs_X12_456 dX12_find_13 (gs_500 hL) (by decide) rfl rfl (by omega) (by decide) rfl (Nat.le_of_ble_eq_true rfl) (by omega) (by omega) rfl (fun E S9 hx => hx.elim) (fun v S9 hq => ?_)
  obtain ⟨rfl, rfl⟩ := hq
  obtain ⟨hg12, H⟩ := gg_e H
  refine GV.if_eq (tgt := 23) hg12 dX12_find_16 (by decide) (fun c13 => ?_) (fun c13 => ?_)
  · have H := it_t H c13
    refine GA.aload_n dX12_find_23 rfl ?_
    refine GA.get xf_X12_278 dX12_find_24 (gs_500 hL) (by decide) rfl ?_
    refine GA.iload_n dX12_find_27 rfl ?_
    obtain ⟨hg14, H⟩ := gg_e H
    obtain ⟨x15, hx16, H⟩ := gv_e H
    refine GV.iald hg14 hx16 dX12_find_28 (gs_519 hL) (by decide) ?_
    cases H
    exact GA.iret rfl dX12_find_29 (by omega) (by omega) ⟨rfl, rfl⟩
  · have H := it_f H c13
    refine GA.iconst dX12_find_19 ?_
    refine GA.goto (tgt := 29) dX12_find_20 (by decide) ?_
    cases H
    exact GA.iret rfl dX12_find_29 (by omega) (by omega) ⟨rfl, rfl⟩
theorem g_X12_find {l : Launch} {Z : XZ} {L : Nat → Nat} : ∀ n, P_X12_find_0 l Z L n
  | 0 => fun _ _ _ _ _ _ H => no_e H
  | n + 1 => t_X12_find_0 n (g_X12_find n)
theorem m_X12_find {l : Launch} {Z : XZ} {L : Nat → Nat} (hL : L 700 = 1) {n d : Nat} {S : GS} {a1 : Int} {x : Int} {S1 : GS} (H : f_X12_find n d 0 S [a1] = some (x, S1)) : GM l Z L yX12_find cX12_find 2 (some .int) [] d 0 0 [.ref (L 500), .int (J a1)] S (fun v S' => v = some (.int (J x)) ∧ S1 = S') (fun _ _ => False) := GM.of (by decide) (Nat.le_of_ble_eq_true rfl) ((g_X12_find n) hL _ _ _ _ _ H)

def P_X12_goesInto_0 (l : Launch) (Z : XZ) (L : Nat → Nat) (n : Nat) : Prop := ∀ (hL : L 700 = 1), ∀ (d : Nat) (S : GS) (a1 : Int) (a2 : Int) (a3 : Int) (a4 : Int) (x : Int) (S1 : GS), f_X12_goesInto n d 0 S [a1, a2, a3, a4] = some (x, S1) → GA l Z L yX12_goesInto cX12_goesInto 5 none [] d 0 0 (fun v S' => v = none ∧ S1 = S') (fun _ _ => False) 0 (gl [(0, .ref (L 500)), (1, .int (J a1)), (2, .int (J a2)), (3, .int (J a3)), (4, .int (J a4))]) [] S 0 0
def P_X12_goesInto_46 (l : Launch) (Z : XZ) (L : Nat → Nat) (n : Nat) : Prop := ∀ (hL : L 700 = 1), ∀ (d : Nat) (S : GS) (a1 : Int) (s0 : Int) (s1 : Int) (x : Int) (S1 : GS), f_X12_goesInto n d 46 S [a1, s0, s1] = some (x, S1) → GA l Z L yX12_goesInto cX12_goesInto 5 none [] d 0 0 (fun v S' => v = none ∧ S1 = S') (fun _ _ => False) 46 (gl [(0, .ref (L 500)), (1, .int (J a1))]) [.int (J s0), .int (J s1), .ref (L 532)] S 0 0
theorem i_X12_goesInto {l : Launch} {Z : XZ} {L : Nat → Nat} (hL : L 700 = 1) {n : Nat} (ih : P_X12_goesInto_0 l Z L n) {d : Nat} {S : GS} {a1 : Int} {a2 : Int} {a3 : Int} {a4 : Int} {x : Int} {S1 : GS} (H : f_X12_goesInto n d 0 S [a1, a2, a3, a4] = some (x, S1)) : GM l Z L yX12_goesInto cX12_goesInto 5 none [] d 0 0 [.ref (L 500), .int (J a1), .int (J a2), .int (J a3), .int (J a4)] S (fun v S' => v = none ∧ S1 = S') (fun _ _ => False) := GM.of (by decide) (Nat.le_of_ble_eq_true rfl) (ih hL _ _ _ _ _ _ _ _ H)
set_option maxHeartbeats 4000000 in
set_option maxRecDepth 20000 in
theorem t_X12_goesInto_0 {l : Launch} {Z : XZ} {L : Nat → Nat} (n : Nat) (ih_X12_goesInto_0 : P_X12_goesInto_0 l Z L n) (ih_X12_goesInto_46 : P_X12_goesInto_46 l Z L n) : P_X12_goesInto_0 l Z L (n + 1) := by
  intro hL d S a1 a2 a3 a4 x S1 H
  have H : b_X12_goesInto_0 n d (f_X12_goesInto n) S a1 a2 a3 a4 = some (x, S1) := H
  unfold b_X12_goesInto_0 at H
  refine GA.aload_n dX12_goesInto_0 rfl ?_
  refine GA.get xf_X12_318 dX12_goesInto_1 (gs_500 hL) (by decide) rfl ?_
  refine GA.iload_n dX12_goesInto_4 rfl ?_
  refine GA.iload_n dX12_goesInto_5 rfl ?_
  obtain ⟨hg1, H⟩ := gg_e H
  obtain ⟨S_2, hx3, H⟩ := gv_e H
  refine GV.iast hg1 hx3 dX12_goesInto_6 (fun _ => (gs_528 hL)) (by decide) ?_
  refine GA.aload_n dX12_goesInto_7 rfl ?_
  refine GA.get xf_X12_321 dX12_goesInto_8 (gs_500 hL) (by decide) rfl ?_
  refine GA.iload_n dX12_goesInto_11 rfl ?_
  refine GA.iload_n dX12_goesInto_12 rfl ?_
  obtain ⟨S_4, hx5, H⟩ := gv_e H
  refine GV.iast hg1 hx5 dX12_goesInto_13 (fun _ => (gs_529 hL)) (by decide) ?_
  refine GA.aload_n dX12_goesInto_14 rfl ?_
  refine GA.get xf_X12_324 dX12_goesInto_15 (gs_500 hL) (by decide) rfl ?_
  refine GA.iload_n dX12_goesInto_18 rfl ?_
  refine GA.iload dX12_goesInto_19 rfl ?_
  obtain ⟨S_6, hx7, H⟩ := gv_e H
  refine GV.iast hg1 hx7 dX12_goesInto_21 (fun _ => (gs_530 hL)) (by decide) ?_
  refine GA.aload_n dX12_goesInto_22 rfl ?_
  refine GA.get xf_X12_327 dX12_goesInto_23 (gs_500 hL) (by decide) rfl ?_
  refine GA.iload_n dX12_goesInto_26 rfl ?_
  refine GA.iconst dX12_goesInto_27 ?_
  obtain ⟨S_8, hx9, H⟩ := gv_e H
  refine GV.iast hg1 hx9 dX12_goesInto_28 (fun _ => (gs_531 hL)) (by decide) ?_
  refine GA.aload_n dX12_goesInto_29 rfl ?_
  refine GA.get xf_X12_330 dX12_goesInto_30 (gs_500 hL) (by decide) rfl ?_
  refine GA.iload_n dX12_goesInto_33 rfl ?_
  refine GA.iload_n dX12_goesInto_34 rfl ?_
  refine GA.iconst dX12_goesInto_35 ?_
  obtain ⟨hg10, H⟩ := gg_e H
  refine GV.icmp_ne (tgt := 43) hg10 (by decide) dX12_goesInto_36 (by decide) (fun c11 => ?_) (fun c11 => ?_)
  · have H := it_t H c11
    refine GA.iload_n dX12_goesInto_43 rfl ?_
    refine GA.iconst dX12_goesInto_44 ?_
    obtain ⟨x12, hx13, H⟩ := gv_e H
    refine GV.iadd hx13 dX12_goesInto_45 ?_
    refine GA.locals [(0, .ref (L 500)), (1, .int (J a1))] ⟨rfl, rfl, trivial⟩ ?_
    exact ih_X12_goesInto_46 hL _ _ (a1) (x12) (a1) _ _ H
  · have H := it_f H c11
    refine GA.iconst dX12_goesInto_39 ?_
    refine GA.goto (tgt := 46) dX12_goesInto_40 (by decide) ?_
    refine GA.locals [(0, .ref (L 500)), (1, .int (J a1))] ⟨rfl, rfl, trivial⟩ ?_
    exact ih_X12_goesInto_46 hL _ _ (a1) ((-1)) (a1) _ _ H
set_option maxHeartbeats 4000000 in
set_option maxRecDepth 20000 in
theorem t_X12_goesInto_46 {l : Launch} {Z : XZ} {L : Nat → Nat} (n : Nat) (ih_X12_goesInto_0 : P_X12_goesInto_0 l Z L n) (ih_X12_goesInto_46 : P_X12_goesInto_46 l Z L n) : P_X12_goesInto_46 l Z L (n + 1) := by
  intro hL d S a1 s0 s1 x S1 H
  have H : b_X12_goesInto_46 n d (f_X12_goesInto n) S a1 s0 s1 = some (x, S1) := H
  unfold b_X12_goesInto_46 at H
  obtain ⟨hg1, H⟩ := gg_e H
  obtain ⟨S_2, hx3, H⟩ := gv_e H
  refine GV.iast hg1 hx3 dX12_goesInto_46 (fun _ => (gs_532 hL)) (by decide) ?_
  refine GA.aload_n dX12_goesInto_47 rfl ?_
  refine GA.get xf_X12_333 dX12_goesInto_48 (gs_500 hL) (by decide) rfl ?_
  refine GA.iload_n dX12_goesInto_51 rfl ?_
  refine GA.aload_n dX12_goesInto_52 rfl ?_
  refine GA.get xf_X12_26 dX12_goesInto_53 (gs_500 hL) (by decide) rfl ?_
  refine GA.bipush dX12_goesInto_56 rfl ?_
  obtain ⟨hg4, H⟩ := gg_e H
  obtain ⟨x5, hx6, H⟩ := gv_e H
  refine GV.iald hg4 hx6 dX12_goesInto_58 (gs_502 hL) (by decide) ?_
  refine GA.iconst dX12_goesInto_59 ?_
  obtain ⟨x7, hx8, H⟩ := gv_e H
  refine GV.isub hx8 dX12_goesInto_60 ?_
  obtain ⟨hg9, H⟩ := gg_e H
  obtain ⟨S_10, hx11, H⟩ := gv_e H
  refine GV.iast hg9 hx11 dX12_goesInto_61 (fun _ => (gs_533 hL)) (by decide) ?_
  refine GA.aload_n dX12_goesInto_62 rfl ?_
  refine GA.get xf_X12_336 dX12_goesInto_63 (gs_500 hL) (by decide) rfl ?_
  refine GA.iload_n dX12_goesInto_66 rfl ?_
  refine GA.aload_n dX12_goesInto_67 rfl ?_
  obtain ⟨x12, hx13, H⟩ := gv_e H
  refine GV.getI hx13 xf_X12_604 dX12_goesInto_68 (gs_500 hL) (by decide) rfl ?_
  obtain ⟨S_14, hx15, H⟩ := gv_e H
  refine GV.iast hg9 hx15 dX12_goesInto_71 (fun _ => (gs_534 hL)) (by decide) ?_
  cases H
  exact GA.vret rfl dX12_goesInto_72 (by omega) (by omega) ⟨rfl, rfl⟩
theorem g_X12_goesInto {l : Launch} {Z : XZ} {L : Nat → Nat} : ∀ n, P_X12_goesInto_0 l Z L n ∧ P_X12_goesInto_46 l Z L n
  | 0 => ⟨fun _ _ _ _ _ _ _ _ _ H => no_e H, fun _ _ _ _ _ _ _ _ H => no_e H⟩
  | n + 1 => have ⟨h0, h1⟩ := g_X12_goesInto (l := l) (Z := Z) (L := L) n
    ⟨t_X12_goesInto_0 n h0 h1, t_X12_goesInto_46 n h0 h1⟩
theorem m_X12_goesInto {l : Launch} {Z : XZ} {L : Nat → Nat} (hL : L 700 = 1) {n d : Nat} {S : GS} {a1 : Int} {a2 : Int} {a3 : Int} {a4 : Int} {x : Int} {S1 : GS} (H : f_X12_goesInto n d 0 S [a1, a2, a3, a4] = some (x, S1)) : GM l Z L yX12_goesInto cX12_goesInto 5 none [] d 0 0 [.ref (L 500), .int (J a1), .int (J a2), .int (J a3), .int (J a4)] S (fun v S' => v = none ∧ S1 = S') (fun _ _ => False) := GM.of (by decide) (Nat.le_of_ble_eq_true rfl) ((g_X12_goesInto n).1 hL _ _ _ _ _ _ _ _ H)

def P_X12_grows_0 (l : Launch) (Z : XZ) (L : Nat → Nat) (n : Nat) : Prop := ∀ (hL : L 700 = 1), ∀ (d : Nat) (S : GS) (a1 : Int) (a2 : Int) (x : Int) (S1 : GS), f_X12_grows n d 0 S [a1, a2] = some (x, S1) → GA l Z L yX12_grows cX12_grows 5 none [] d 0 0 (fun v S' => v = none ∧ S1 = S') (fun _ _ => False) 0 (gl [(0, .ref (L 500)), (1, .int (J a1)), (2, .int (J a2))]) [] S 0 0
def P_X12_grows_38 (l : Launch) (Z : XZ) (L : Nat → Nat) (n : Nat) : Prop := ∀ (hL : L 700 = 1), ∀ (d : Nat) (S : GS) (a1 : Int) (a2 : Int) (a4 : Int) (x : Int) (S1 : GS), f_X12_grows n d 38 S [a1, a2, a4] = some (x, S1) → GA l Z L yX12_grows cX12_grows 5 none [] d 0 0 (fun v S' => v = none ∧ S1 = S') (fun _ _ => False) 38 (gl [(0, .ref (L 500)), (1, .int (J a1)), (2, .int (J a2)), (4, .int (J a4))]) [] S 0 0
def P_X12_grows_104 (l : Launch) (Z : XZ) (L : Nat → Nat) (n : Nat) : Prop := ∀ (hL : L 700 = 1), ∀ (d : Nat) (S : GS) (a1 : Int) (a2 : Int) (a4 : Int) (s0 : Int) (s1 : Int) (s2 : Int) (x : Int) (S1 : GS), f_X12_grows n d 104 S [a1, a2, a4, s0, s1, s2] = some (x, S1) → GA l Z L yX12_grows cX12_grows 5 none [] d 0 0 (fun v S' => v = none ∧ S1 = S') (fun _ _ => False) 104 (gl [(0, .ref (L 500)), (1, .int (J a1)), (2, .int (J a2)), (4, .int (J a4))]) [.int (J s0), .int (J s1), .int (J s2), .ref (L 500)] S 0 0
theorem i_X12_grows {l : Launch} {Z : XZ} {L : Nat → Nat} (hL : L 700 = 1) {n : Nat} (ih : P_X12_grows_0 l Z L n) {d : Nat} {S : GS} {a1 : Int} {a2 : Int} {x : Int} {S1 : GS} (H : f_X12_grows n d 0 S [a1, a2] = some (x, S1)) : GM l Z L yX12_grows cX12_grows 5 none [] d 0 0 [.ref (L 500), .int (J a1), .int (J a2)] S (fun v S' => v = none ∧ S1 = S') (fun _ _ => False) := GM.of (by decide) (Nat.le_of_ble_eq_true rfl) (ih hL _ _ _ _ _ _ H)
set_option maxHeartbeats 4000000 in
set_option maxRecDepth 20000 in
theorem t_X12_grows_0 {l : Launch} {Z : XZ} {L : Nat → Nat} (n : Nat) (ih_X12_grows_0 : P_X12_grows_0 l Z L n) (ih_X12_grows_38 : P_X12_grows_38 l Z L n) (ih_X12_grows_104 : P_X12_grows_104 l Z L n) : P_X12_grows_0 l Z L (n + 1) := by
  intro hL d S a1 a2 x S1 H
  have H : b_X12_grows_0 n d (f_X12_grows n) S a1 a2 = some (x, S1) := H
  unfold b_X12_grows_0 at H
  refine GA.aload_n dX12_grows_0 rfl ?_
  refine GA.bipush dX12_grows_1 rfl ?_
  obtain ⟨hg1, H⟩ := gg_e H
  obtain ⟨x2, S_3, hc4, H⟩ := gc_e H
  refine GA.callV (m_X12_begin hL hc4) xs_X12_517 dX12_grows_3 (gs_500 hL) (by decide) rfl rfl (by omega) (by decide) rfl (Nat.le_of_ble_eq_true rfl) (by omega) (by omega) rfl (fun E S9 hx => hx.elim) (fun v S9 hq => ?_)
  obtain ⟨rfl, rfl⟩ := hq
  refine GA.aload_n dX12_grows_6 rfl ?_
  refine GA.iload_n dX12_grows_7 rfl ?_
  refine GA.iload_n dX12_grows_8 rfl ?_
  refine GA.iconst dX12_grows_9 ?_
  obtain ⟨x5, S_6, hc7, H⟩ := gc_e H
  refine GA.callV (m_X12_drawsOne hL hc7) xs_X12_868 dX12_grows_10 (gs_500 hL) (by decide) rfl rfl (by omega) (by decide) rfl (Nat.le_of_ble_eq_true rfl) (by omega) (by omega) rfl (fun E S9 hx => hx.elim) (fun v S9 hq => ?_)
  obtain ⟨rfl, rfl⟩ := hq
  refine GA.istore_n dX12_grows_13 (by decide) ?_
  refine GA.iconst dX12_grows_14 ?_
  refine GA.istore dX12_grows_15 (by decide) ?_
  refine GA.iload_n dX12_grows_17 rfl ?_
  obtain ⟨hg8, H⟩ := gg_e H
  refine GV.if_le (tgt := 38) hg8 dX12_grows_18 (by decide) (fun c9 => ?_) (fun c9 => ?_)
  · have H := it_t H c9
    refine GA.locals [(0, .ref (L 500)), (1, .int (J a1)), (2, .int (J a2)), (4, .int (J 0))] ⟨rfl, rfl, rfl, rfl, trivial⟩ ?_
    exact ih_X12_grows_38 hL _ _ (a1) (a2) (0) _ _ H
  · have H := it_f H c9
    refine GA.aload_n dX12_grows_21 rfl ?_
    refine GA.get xf_X12_439 dX12_grows_22 (gs_500 hL) (by decide) rfl ?_
    refine GA.iconst dX12_grows_25 ?_
    refine GA.iconst dX12_grows_26 ?_
    obtain ⟨hg10, H⟩ := gg_e H
    obtain ⟨S_11, hx12, H⟩ := gv_e H
    refine GV.iast hg10 hx12 dX12_grows_27 (fun _ => (gs_553 hL)) (by decide) ?_
    refine GA.aload_n dX12_grows_28 rfl ?_
    refine GA.get xf_X12_442 dX12_grows_29 (gs_500 hL) (by decide) rfl ?_
    refine GA.iconst dX12_grows_32 ?_
    refine GA.iload_n dX12_grows_33 rfl ?_
    obtain ⟨S_13, hx14, H⟩ := gv_e H
    refine GV.iast hg10 hx14 dX12_grows_34 (fun _ => (gs_554 hL)) (by decide) ?_
    refine GA.iconst dX12_grows_35 ?_
    refine GA.istore dX12_grows_36 (by decide) ?_
    refine GA.locals [(0, .ref (L 500)), (1, .int (J a1)), (2, .int (J a2)), (4, .int (J 1))] ⟨rfl, rfl, rfl, rfl, trivial⟩ ?_
    exact ih_X12_grows_38 hL _ _ (a1) (a2) (1) _ _ H
set_option maxHeartbeats 4000000 in
set_option maxRecDepth 20000 in
theorem t_X12_grows_38 {l : Launch} {Z : XZ} {L : Nat → Nat} (n : Nat) (ih_X12_grows_0 : P_X12_grows_0 l Z L n) (ih_X12_grows_38 : P_X12_grows_38 l Z L n) (ih_X12_grows_104 : P_X12_grows_104 l Z L n) : P_X12_grows_38 l Z L (n + 1) := by
  intro hL d S a1 a2 a4 x S1 H
  have H : b_X12_grows_38 n d (f_X12_grows n) S a1 a2 a4 = some (x, S1) := H
  unfold b_X12_grows_38 at H
  refine GA.iload dX12_grows_38 rfl ?_
  obtain ⟨hg1, H⟩ := gg_e H
  refine GV.if_le (tgt := 142) hg1 dX12_grows_40 (by decide) (fun c2 => ?_) (fun c2 => ?_)
  · have H := it_t H c2
    refine GA.aload_n dX12_grows_142 rfl ?_
    refine GA.bipush dX12_grows_143 rfl ?_
    obtain ⟨hg3, H⟩ := gg_e H
    obtain ⟨x4, S_5, hc6, H⟩ := gc_e H
    refine GA.callV (m_X12_link hL hc6) xs_X12_55 dX12_grows_145 (gs_500 hL) (by decide) rfl rfl (by omega) (by decide) rfl (Nat.le_of_ble_eq_true rfl) (by omega) (by omega) rfl (fun E S9 hx => hx.elim) (fun v S9 hq => ?_)
    obtain ⟨rfl, rfl⟩ := hq
    refine GA.aload_n dX12_grows_148 rfl ?_
    refine GA.bipush dX12_grows_149 rfl ?_
    refine GA.iconst dX12_grows_151 ?_
    refine GA.bipush dX12_grows_152 rfl ?_
    refine GA.iconst dX12_grows_154 ?_
    obtain ⟨x7, S_8, hc9, H⟩ := gc_e H
    refine GA.callV (m_X12_choose hL hc9) xs_X12_529 dX12_grows_155 (gs_500 hL) (by decide) rfl rfl (by omega) (by decide) rfl (Nat.le_of_ble_eq_true rfl) (by omega) (by omega) rfl (fun E S9 hx => hx.elim) (fun v S9 hq => ?_)
    obtain ⟨rfl, rfl⟩ := hq
    refine GA.aload_n dX12_grows_158 rfl ?_
    refine GA.bipush dX12_grows_159 rfl ?_
    obtain ⟨x10, S_11, hc12, H⟩ := gc_e H
    refine GA.callV (m_X12_link hL hc12) xs_X12_55 dX12_grows_161 (gs_500 hL) (by decide) rfl rfl (by omega) (by decide) rfl (Nat.le_of_ble_eq_true rfl) (by omega) (by omega) rfl (fun E S9 hx => hx.elim) (fun v S9 hq => ?_)
    obtain ⟨rfl, rfl⟩ := hq
    cases H
    exact GA.vret rfl dX12_grows_164 (by omega) (by omega) ⟨rfl, rfl⟩
  · have H := it_f H c2
    refine GA.aload_n dX12_grows_43 rfl ?_
    refine GA.get xf_X12_442 dX12_grows_44 (gs_500 hL) (by decide) rfl ?_
    refine GA.iload dX12_grows_47 rfl ?_
    refine GA.iconst dX12_grows_49 ?_
    obtain ⟨x13, hx14, H⟩ := gv_e H
    refine GV.isub hx14 dX12_grows_50 ?_
    obtain ⟨hg15, H⟩ := gg_e H
    obtain ⟨x16, hx17, H⟩ := gv_e H
    refine GV.iald hg15 hx17 dX12_grows_51 (gs_554 hL) (by decide) ?_
    obtain ⟨hg18, H⟩ := gg_e H
    refine GV.if_ne (tgt := 61) hg18 dX12_grows_52 (by decide) (fun c19 => ?_) (fun c19 => ?_)
    · have H := it_t H c19
      refine GA.aload_n dX12_grows_61 rfl ?_
      refine GA.get xf_X12_442 dX12_grows_62 (gs_500 hL) (by decide) rfl ?_
      refine GA.iload dX12_grows_65 rfl ?_
      refine GA.iconst dX12_grows_67 ?_
      obtain ⟨x20, hx21, H⟩ := gv_e H
      refine GV.isub hx21 dX12_grows_68 ?_
      refine GA.dup2 dX12_grows_69 rfl rfl ?_
      obtain ⟨hg22, H⟩ := gg_e H
      obtain ⟨x23, hx24, H⟩ := gv_e H
      refine GV.iald hg22 hx24 dX12_grows_70 (gs_554 hL) (by decide) ?_
      refine GA.iconst dX12_grows_71 ?_
      obtain ⟨x25, hx26, H⟩ := gv_e H
      refine GV.isub hx26 dX12_grows_72 ?_
      obtain ⟨S_27, hx28, H⟩ := gv_e H
      refine GV.iast hg22 hx28 dX12_grows_73 (fun _ => (gs_554 hL)) (by decide) ?_
      refine GA.aload_n dX12_grows_74 rfl ?_
      refine GA.iload_n dX12_grows_75 rfl ?_
      refine GA.iload dX12_grows_76 rfl ?_
      obtain ⟨x29, hx30, H⟩ := gv_e H
      refine GV.iadd hx30 dX12_grows_78 ?_
      refine GA.iload_n dX12_grows_79 rfl ?_
      refine GA.aload_n dX12_grows_80 rfl ?_
      refine GA.bipush dX12_grows_81 rfl ?_
      refine GA.aload_n dX12_grows_83 rfl ?_
      refine GA.get xf_X12_439 dX12_grows_84 (gs_500 hL) (by decide) rfl ?_
      refine GA.iload dX12_grows_87 rfl ?_
      refine GA.iconst dX12_grows_89 ?_
      obtain ⟨x31, hx32, H⟩ := gv_e H
      refine GV.isub hx32 dX12_grows_90 ?_
      obtain ⟨hg33, H⟩ := gg_e H
      obtain ⟨x34, hx35, H⟩ := gv_e H
      refine GV.iald hg33 hx35 dX12_grows_91 (gs_553 hL) (by decide) ?_
      obtain ⟨hg36, H⟩ := gg_e H
      obtain ⟨x37, S_38, hc39, H⟩ := gc_e H
      refine GA.callV (m_X12_kind hL hc39) xs_X12_52 dX12_grows_92 (gs_500 hL) (by decide) rfl rfl (by omega) (by decide) rfl (Nat.le_of_ble_eq_true rfl) (by omega) (by omega) rfl (fun E S9 hx => hx.elim) (fun v S9 hq => ?_)
      obtain ⟨rfl, rfl⟩ := hq
      refine GA.iconst dX12_grows_95 ?_
      obtain ⟨hg40, H⟩ := gg_e H
      refine GV.icmp_ne (tgt := 103) hg40 (by decide) dX12_grows_96 (by decide) (fun c41 => ?_) (fun c41 => ?_)
      · have H := it_t H c41
        refine GA.iconst dX12_grows_103 ?_
        refine GA.locals [(0, .ref (L 500)), (1, .int (J a1)), (2, .int (J a2)), (4, .int (J a4))] ⟨rfl, rfl, rfl, rfl, trivial⟩ ?_
        exact ih_X12_grows_104 hL _ _ (a1) (a2) (a4) (0) (a2) (x29) _ _ H
      · have H := it_f H c41
        refine GA.iconst dX12_grows_99 ?_
        refine GA.goto (tgt := 104) dX12_grows_100 (by decide) ?_
        refine GA.locals [(0, .ref (L 500)), (1, .int (J a1)), (2, .int (J a2)), (4, .int (J a4))] ⟨rfl, rfl, rfl, rfl, trivial⟩ ?_
        exact ih_X12_grows_104 hL _ _ (a1) (a2) (a4) (1) (a2) (x29) _ _ H
    · have H := it_f H c19
      obtain ⟨x42, hx43, H⟩ := gv_e H
      refine GV.iinc hx43 dX12_grows_55 rfl (by decide) ?_
      refine GA.goto (tgt := 38) dX12_grows_58 (by decide) ?_
      refine GA.locals [(0, .ref (L 500)), (1, .int (J a1)), (2, .int (J a2)), (4, .int (J x42))] ⟨rfl, rfl, rfl, rfl, trivial⟩ ?_
      exact ih_X12_grows_38 hL _ _ (a1) (a2) (x42) _ _ H
set_option maxHeartbeats 4000000 in
set_option maxRecDepth 20000 in
theorem t_X12_grows_104 {l : Launch} {Z : XZ} {L : Nat → Nat} (n : Nat) (ih_X12_grows_0 : P_X12_grows_0 l Z L n) (ih_X12_grows_38 : P_X12_grows_38 l Z L n) (ih_X12_grows_104 : P_X12_grows_104 l Z L n) : P_X12_grows_104 l Z L (n + 1) := by
  intro hL d S a1 a2 a4 s0 s1 s2 x S1 H
  have H : b_X12_grows_104 n d (f_X12_grows n) S a1 a2 a4 s0 s1 s2 = some (x, S1) := H
  unfold b_X12_grows_104 at H
  obtain ⟨hg1, H⟩ := gg_e H
  obtain ⟨x2, S_3, hc4, H⟩ := gc_e H
  refine GA.callV (m_X12_drawsOne hL hc4) xs_X12_868 dX12_grows_104 (gs_500 hL) (by decide) rfl rfl (by omega) (by decide) rfl (Nat.le_of_ble_eq_true rfl) (by omega) (by omega) rfl (fun E S9 hx => hx.elim) (fun v S9 hq => ?_)
  obtain ⟨rfl, rfl⟩ := hq
  refine GA.istore_n dX12_grows_107 (by decide) ?_
  refine GA.iload_n dX12_grows_108 rfl ?_
  obtain ⟨hg5, H⟩ := gg_e H
  refine GV.if_le (tgt := 38) hg5 dX12_grows_109 (by decide) (fun c6 => ?_) (fun c6 => ?_)
  · have H := it_t H c6
    refine GA.locals [(0, .ref (L 500)), (1, .int (J a1)), (2, .int (J a2)), (4, .int (J a4))] ⟨rfl, rfl, rfl, rfl, trivial⟩ ?_
    exact ih_X12_grows_38 hL _ _ (a1) (a2) (a4) _ _ H
  · have H := it_f H c6
    refine GA.aload_n dX12_grows_112 rfl ?_
    refine GA.get xf_X12_439 dX12_grows_113 (gs_500 hL) (by decide) rfl ?_
    refine GA.iload dX12_grows_116 rfl ?_
    refine GA.aload_n dX12_grows_118 rfl ?_
    refine GA.get xf_X12_26 dX12_grows_119 (gs_500 hL) (by decide) rfl ?_
    refine GA.bipush dX12_grows_122 rfl ?_
    obtain ⟨hg7, H⟩ := gg_e H
    obtain ⟨x8, hx9, H⟩ := gv_e H
    refine GV.iald hg7 hx9 dX12_grows_124 (gs_502 hL) (by decide) ?_
    refine GA.iconst dX12_grows_125 ?_
    obtain ⟨x10, hx11, H⟩ := gv_e H
    refine GV.isub hx11 dX12_grows_126 ?_
    obtain ⟨hg12, H⟩ := gg_e H
    obtain ⟨S_13, hx14, H⟩ := gv_e H
    refine GV.iast hg12 hx14 dX12_grows_127 (fun _ => (gs_553 hL)) (by decide) ?_
    refine GA.aload_n dX12_grows_128 rfl ?_
    refine GA.get xf_X12_442 dX12_grows_129 (gs_500 hL) (by decide) rfl ?_
    refine GA.iload dX12_grows_132 rfl ?_
    refine GA.iload_n dX12_grows_134 rfl ?_
    obtain ⟨S_15, hx16, H⟩ := gv_e H
    refine GV.iast hg12 hx16 dX12_grows_135 (fun _ => (gs_554 hL)) (by decide) ?_
    obtain ⟨x17, hx18, H⟩ := gv_e H
    refine GV.iinc hx18 dX12_grows_136 rfl (by decide) ?_
    refine GA.goto (tgt := 38) dX12_grows_139 (by decide) ?_
    refine GA.locals [(0, .ref (L 500)), (1, .int (J a1)), (2, .int (J a2)), (4, .int (J x17))] ⟨rfl, rfl, rfl, rfl, trivial⟩ ?_
    exact ih_X12_grows_38 hL _ _ (a1) (a2) (x17) _ _ H
theorem g_X12_grows {l : Launch} {Z : XZ} {L : Nat → Nat} : ∀ n, P_X12_grows_0 l Z L n ∧ P_X12_grows_38 l Z L n ∧ P_X12_grows_104 l Z L n
  | 0 => ⟨fun _ _ _ _ _ _ _ H => no_e H, fun _ _ _ _ _ _ _ _ H => no_e H, fun _ _ _ _ _ _ _ _ _ _ _ H => no_e H⟩
  | n + 1 => have ⟨h0, h1, h2⟩ := g_X12_grows (l := l) (Z := Z) (L := L) n
    ⟨t_X12_grows_0 n h0 h1 h2, t_X12_grows_38 n h0 h1 h2, t_X12_grows_104 n h0 h1 h2⟩
theorem m_X12_grows {l : Launch} {Z : XZ} {L : Nat → Nat} (hL : L 700 = 1) {n d : Nat} {S : GS} {a1 : Int} {a2 : Int} {x : Int} {S1 : GS} (H : f_X12_grows n d 0 S [a1, a2] = some (x, S1)) : GM l Z L yX12_grows cX12_grows 5 none [] d 0 0 [.ref (L 500), .int (J a1), .int (J a2)] S (fun v S' => v = none ∧ S1 = S') (fun _ _ => False) := GM.of (by decide) (Nat.le_of_ble_eq_true rfl) ((g_X12_grows n).1 hL _ _ _ _ _ _ H)

def P_X12_grow_0 (l : Launch) (Z : XZ) (L : Nat → Nat) (n : Nat) : Prop := ∀ (hL : L 700 = 1), ∀ (d : Nat) (S : GS) (a1 : Int) (a2 : Int) (x : Int) (S1 : GS), f_X12_grow n d 0 S [a1, a2] = some (x, S1) → GA l Z L yX12_grow cX12_grow 3 (some .int) [] d 0 0 (fun v S' => v = some (.int (J x)) ∧ S1 = S') (fun _ _ => False) 0 (gl [(0, .ref (L 500)), (1, .int (J a1)), (2, .int (J a2))]) [] S 0 0
def P_X12_grow_26 (l : Launch) (Z : XZ) (L : Nat → Nat) (n : Nat) : Prop := ∀ (hL : L 700 = 1), ∀ (d : Nat) (S : GS) (a1 : Int) (a2 : Int) (s0 : Int) (x : Int) (S1 : GS), f_X12_grow n d 26 S [a1, a2, s0] = some (x, S1) → GA l Z L yX12_grow cX12_grow 3 (some .int) [] d 0 0 (fun v S' => v = some (.int (J x)) ∧ S1 = S') (fun _ _ => False) 26 (gl [(0, .ref (L 500)), (1, .int (J a1)), (2, .int (J a2))]) [.int (J s0), .ref (L 500)] S 0 0
def P_X12_grow_48 (l : Launch) (Z : XZ) (L : Nat → Nat) (n : Nat) : Prop := ∀ (hL : L 700 = 1), ∀ (d : Nat) (S : GS) (a1 : Int) (a2 : Int) (s0 : Int) (x : Int) (S1 : GS), f_X12_grow n d 48 S [a1, a2, s0] = some (x, S1) → GA l Z L yX12_grow cX12_grow 3 (some .int) [] d 0 0 (fun v S' => v = some (.int (J x)) ∧ S1 = S') (fun _ _ => False) 48 (gl [(0, .ref (L 500)), (1, .int (J a1)), (2, .int (J a2))]) [.int (J s0), .ref (L 500)] S 0 0
theorem i_X12_grow {l : Launch} {Z : XZ} {L : Nat → Nat} (hL : L 700 = 1) {n : Nat} (ih : P_X12_grow_0 l Z L n) {d : Nat} {S : GS} {a1 : Int} {a2 : Int} {x : Int} {S1 : GS} (H : f_X12_grow n d 0 S [a1, a2] = some (x, S1)) : GM l Z L yX12_grow cX12_grow 3 (some .int) [] d 0 0 [.ref (L 500), .int (J a1), .int (J a2)] S (fun v S' => v = some (.int (J x)) ∧ S1 = S') (fun _ _ => False) := GM.of (by decide) (Nat.le_of_ble_eq_true rfl) (ih hL _ _ _ _ _ _ H)
set_option maxHeartbeats 4000000 in
set_option maxRecDepth 20000 in
theorem t_X12_grow_0 {l : Launch} {Z : XZ} {L : Nat → Nat} (n : Nat) (ih_X12_grow_0 : P_X12_grow_0 l Z L n) (ih_X12_grow_26 : P_X12_grow_26 l Z L n) (ih_X12_grow_48 : P_X12_grow_48 l Z L n) : P_X12_grow_0 l Z L (n + 1) := by
  intro hL d S a1 a2 x S1 H
  have H : b_X12_grow_0 n d (f_X12_grow n) S a1 a2 = some (x, S1) := H
  unfold b_X12_grow_0 at H
  refine GA.aload_n dX12_grow_0 rfl ?_
  refine GA.iload_n dX12_grow_1 rfl ?_
  refine GA.iconst dX12_grow_2 ?_
  refine GA.ldcw (v := 65535) xc_X12_871 dX12_grow_3 ?_
  obtain ⟨hg1, H⟩ := gg_e H
  obtain ⟨x2, S_3, hc4, H⟩ := gc_e H
  refine GA.callS (m_X12_in hL hc4) xs_X12_18 dX12_grow_6 rfl (by omega) (by decide) rfl (Nat.le_of_ble_eq_true rfl) (by omega) (by omega) rfl (fun E S9 hx => hx.elim) (fun v S9 hq => ?_)
  obtain ⟨rfl, rfl⟩ := hq
  obtain ⟨hg5, H⟩ := gg_e H
  refine GV.if_eq (tgt := 25) hg5 dX12_grow_9 (by decide) (fun c6 => ?_) (fun c6 => ?_)
  · have H := it_t H c6
    refine GA.iconst dX12_grow_25 ?_
    refine GA.locals [(0, .ref (L 500)), (1, .int (J a1)), (2, .int (J a2))] ⟨rfl, rfl, rfl, trivial⟩ ?_
    exact ih_X12_grow_26 hL _ _ (a1) (a2) (0) _ _ H
  · have H := it_f H c6
    refine GA.iload_n dX12_grow_12 rfl ?_
    refine GA.iconst dX12_grow_13 ?_
    refine GA.iconst dX12_grow_14 ?_
    obtain ⟨x7, S_8, hc9, H⟩ := gc_e H
    refine GA.callS (m_X12_in hL hc9) xs_X12_18 dX12_grow_15 rfl (by omega) (by decide) rfl (Nat.le_of_ble_eq_true rfl) (by omega) (by omega) rfl (fun E S9 hx => hx.elim) (fun v S9 hq => ?_)
    obtain ⟨rfl, rfl⟩ := hq
    obtain ⟨hg10, H⟩ := gg_e H
    refine GV.if_eq (tgt := 25) hg10 dX12_grow_18 (by decide) (fun c11 => ?_) (fun c11 => ?_)
    · have H := it_t H c11
      refine GA.iconst dX12_grow_25 ?_
      refine GA.locals [(0, .ref (L 500)), (1, .int (J a1)), (2, .int (J a2))] ⟨rfl, rfl, rfl, trivial⟩ ?_
      exact ih_X12_grow_26 hL _ _ (a1) (a2) (0) _ _ H
    · have H := it_f H c11
      refine GA.iconst dX12_grow_21 ?_
      refine GA.goto (tgt := 26) dX12_grow_22 (by decide) ?_
      refine GA.locals [(0, .ref (L 500)), (1, .int (J a1)), (2, .int (J a2))] ⟨rfl, rfl, rfl, trivial⟩ ?_
      exact ih_X12_grow_26 hL _ _ (a1) (a2) (1) _ _ H
set_option maxHeartbeats 4000000 in
set_option maxRecDepth 20000 in
theorem t_X12_grow_26 {l : Launch} {Z : XZ} {L : Nat → Nat} (n : Nat) (ih_X12_grow_0 : P_X12_grow_0 l Z L n) (ih_X12_grow_26 : P_X12_grow_26 l Z L n) (ih_X12_grow_48 : P_X12_grow_48 l Z L n) : P_X12_grow_26 l Z L (n + 1) := by
  intro hL d S a1 a2 s0 x S1 H
  have H : b_X12_grow_26 n d (f_X12_grow n) S a1 a2 s0 = some (x, S1) := H
  unfold b_X12_grow_26 at H
  refine GA.iconst dX12_grow_26 ?_
  obtain ⟨hg1, H⟩ := gg_e H
  obtain ⟨x2, S_3, hc4, H⟩ := gc_e H
  refine GA.callV (m_X12_fails hL hc4) xs_X12_456 dX12_grow_27 (gs_500 hL) (by decide) rfl rfl (by omega) (by decide) rfl (Nat.le_of_ble_eq_true rfl) (by omega) (by omega) rfl (fun E S9 hx => hx.elim) (fun v S9 hq => ?_)
  obtain ⟨rfl, rfl⟩ := hq
  obtain ⟨hg5, H⟩ := gg_e H
  refine GV.if_ne (tgt := 55) hg5 dX12_grow_30 (by decide) (fun c6 => ?_) (fun c6 => ?_)
  · have H := it_t H c6
    refine GA.iconst dX12_grow_55 ?_
    cases H
    exact GA.iret rfl dX12_grow_56 (by omega) (by omega) ⟨rfl, rfl⟩
  · have H := it_f H c6
    refine GA.aload_n dX12_grow_33 rfl ?_
    refine GA.aload_n dX12_grow_34 rfl ?_
    obtain ⟨x7, hx8, H⟩ := gv_e H
    refine GV.getI hx8 xf_X12_15 dX12_grow_35 (gs_500 hL) (by decide) rfl ?_
    refine GA.bipush dX12_grow_38 rfl ?_
    obtain ⟨hg9, H⟩ := gg_e H
    refine GV.icmp_ge (tgt := 47) hg9 (by decide) dX12_grow_40 (by decide) (fun c10 => ?_) (fun c10 => ?_)
    · have H := it_t H c10
      refine GA.iconst dX12_grow_47 ?_
      refine GA.locals [(0, .ref (L 500)), (1, .int (J a1)), (2, .int (J a2))] ⟨rfl, rfl, rfl, trivial⟩ ?_
      exact ih_X12_grow_48 hL _ _ (a1) (a2) (0) _ _ H
    · have H := it_f H c10
      refine GA.iconst dX12_grow_43 ?_
      refine GA.goto (tgt := 48) dX12_grow_44 (by decide) ?_
      refine GA.locals [(0, .ref (L 500)), (1, .int (J a1)), (2, .int (J a2))] ⟨rfl, rfl, rfl, trivial⟩ ?_
      exact ih_X12_grow_48 hL _ _ (a1) (a2) (1) _ _ H
set_option maxHeartbeats 4000000 in
set_option maxRecDepth 20000 in
theorem t_X12_grow_48 {l : Launch} {Z : XZ} {L : Nat → Nat} (n : Nat) (ih_X12_grow_0 : P_X12_grow_0 l Z L n) (ih_X12_grow_26 : P_X12_grow_26 l Z L n) (ih_X12_grow_48 : P_X12_grow_48 l Z L n) : P_X12_grow_48 l Z L (n + 1) := by
  intro hL d S a1 a2 s0 x S1 H
  have H : b_X12_grow_48 n d (f_X12_grow n) S a1 a2 s0 = some (x, S1) := H
  unfold b_X12_grow_48 at H
  refine GA.iconst dX12_grow_48 ?_
  obtain ⟨hg1, H⟩ := gg_e H
  obtain ⟨x2, S_3, hc4, H⟩ := gc_e H
  refine GA.callV (m_X12_fails hL hc4) xs_X12_456 dX12_grow_49 (gs_500 hL) (by decide) rfl rfl (by omega) (by decide) rfl (Nat.le_of_ble_eq_true rfl) (by omega) (by omega) rfl (fun E S9 hx => hx.elim) (fun v S9 hq => ?_)
  obtain ⟨rfl, rfl⟩ := hq
  obtain ⟨hg5, H⟩ := gg_e H
  refine GV.if_eq (tgt := 57) hg5 dX12_grow_52 (by decide) (fun c6 => ?_) (fun c6 => ?_)
  · have H := it_t H c6
    refine GA.aload_n dX12_grow_57 rfl ?_
    refine GA.iload_n dX12_grow_58 rfl ?_
    obtain ⟨S_7, hx8, H⟩ := gv_e H
    refine GV.putI hx8 (xp_X12_861 _) dX12_grow_59 (gs_500 hL) (by decide) (Nat.le_of_ble_eq_true rfl) (gs_500 hL) ?_
    refine GA.aload_n dX12_grow_62 rfl ?_
    refine GA.iconst dX12_grow_63 ?_
    refine GA.iload_n dX12_grow_64 rfl ?_
    obtain ⟨x9, S_10, hc11, H⟩ := gc_e H
    refine GA.callV (m_X12_grows hL hc11) xs_X12_872 dX12_grow_65 (gs_500 hL) (by decide) rfl rfl (by omega) (by decide) rfl (Nat.le_of_ble_eq_true rfl) (by omega) (by omega) rfl (fun E S9 hx => hx.elim) (fun v S9 hq => ?_)
    obtain ⟨rfl, rfl⟩ := hq
    refine GA.aload_n dX12_grow_68 rfl ?_
    refine GA.bipush dX12_grow_69 rfl ?_
    obtain ⟨x12, S_13, hc14, H⟩ := gc_e H
    refine GA.callV (m_X12_keeps hL hc14) xs_X12_536 dX12_grow_71 (gs_500 hL) (by decide) rfl rfl (by omega) (by decide) rfl (Nat.le_of_ble_eq_true rfl) (by omega) (by omega) rfl (fun E S9 hx => hx.elim) (fun v S9 hq => ?_)
    obtain ⟨rfl, rfl⟩ := hq
    cases H
    exact GA.iret rfl dX12_grow_74 (by omega) (by omega) ⟨rfl, rfl⟩
  · have H := it_f H c6
    refine GA.iconst dX12_grow_55 ?_
    cases H
    exact GA.iret rfl dX12_grow_56 (by omega) (by omega) ⟨rfl, rfl⟩
theorem g_X12_grow {l : Launch} {Z : XZ} {L : Nat → Nat} : ∀ n, P_X12_grow_0 l Z L n ∧ P_X12_grow_26 l Z L n ∧ P_X12_grow_48 l Z L n
  | 0 => ⟨fun _ _ _ _ _ _ _ H => no_e H, fun _ _ _ _ _ _ _ _ H => no_e H, fun _ _ _ _ _ _ _ _ H => no_e H⟩
  | n + 1 => have ⟨h0, h1, h2⟩ := g_X12_grow (l := l) (Z := Z) (L := L) n
    ⟨t_X12_grow_0 n h0 h1 h2, t_X12_grow_26 n h0 h1 h2, t_X12_grow_48 n h0 h1 h2⟩
theorem m_X12_grow {l : Launch} {Z : XZ} {L : Nat → Nat} (hL : L 700 = 1) {n d : Nat} {S : GS} {a1 : Int} {a2 : Int} {x : Int} {S1 : GS} (H : f_X12_grow n d 0 S [a1, a2] = some (x, S1)) : GM l Z L yX12_grow cX12_grow 3 (some .int) [] d 0 0 [.ref (L 500), .int (J a1), .int (J a2)] S (fun v S' => v = some (.int (J x)) ∧ S1 = S') (fun _ _ => False) := GM.of (by decide) (Nat.le_of_ble_eq_true rfl) ((g_X12_grow n).1 hL _ _ _ _ _ _ H)

def P_X12_hex_0 (l : Launch) (Z : XZ) (L : Nat → Nat) (n : Nat) : Prop := ∀ (hL : L 700 = 1), ∀ (d : Nat) (S : GS) (a1 : Int) (x : Int) (S1 : GS), f_X12_hex n d 0 S [a1] = some (x, S1) → GA l Z L yX12_hex cX12_hex 2 (some .int) [] d 0 0 (fun v S' => v = some (.int (J x)) ∧ S1 = S') (fun _ _ => False) 0 (gl [(0, .ref (L 500)), (1, .int (J a1))]) [] S 0 0
theorem i_X12_hex {l : Launch} {Z : XZ} {L : Nat → Nat} (hL : L 700 = 1) {n : Nat} (ih : P_X12_hex_0 l Z L n) {d : Nat} {S : GS} {a1 : Int} {x : Int} {S1 : GS} (H : f_X12_hex n d 0 S [a1] = some (x, S1)) : GM l Z L yX12_hex cX12_hex 2 (some .int) [] d 0 0 [.ref (L 500), .int (J a1)] S (fun v S' => v = some (.int (J x)) ∧ S1 = S') (fun _ _ => False) := GM.of (by decide) (Nat.le_of_ble_eq_true rfl) (ih hL _ _ _ _ _ H)
set_option maxHeartbeats 4000000 in
set_option maxRecDepth 20000 in
theorem t_X12_hex_0 {l : Launch} {Z : XZ} {L : Nat → Nat} (n : Nat) (ih_X12_hex_0 : P_X12_hex_0 l Z L n) : P_X12_hex_0 l Z L (n + 1) := by
  intro hL d S a1 x S1 H
  have H : b_X12_hex_0 n d (f_X12_hex n) S a1 = some (x, S1) := H
  unfold b_X12_hex_0 at H
  refine GA.iload_n dX12_hex_0 rfl ?_
  refine GA.bipush dX12_hex_1 rfl ?_
  refine GA.bipush dX12_hex_3 rfl ?_
  obtain ⟨hg1, H⟩ := gg_e H
  obtain ⟨x2, S_3, hc4, H⟩ := gc_e H
  refine GA.callS (m_X12_in hL hc4) xs_X12_18 dX12_hex_5 rfl (by omega) (by decide) rfl (Nat.le_of_ble_eq_true rfl) (by omega) (by omega) rfl (fun E S9 hx => hx.elim) (fun v S9 hq => ?_)
  obtain ⟨rfl, rfl⟩ := hq
  obtain ⟨hg5, H⟩ := gg_e H
  refine GV.if_eq (tgt := 18) hg5 dX12_hex_8 (by decide) (fun c6 => ?_) (fun c6 => ?_)
  · have H := it_t H c6
    refine GA.iload_n dX12_hex_18 rfl ?_
    refine GA.bipush dX12_hex_19 rfl ?_
    refine GA.bipush dX12_hex_21 rfl ?_
    obtain ⟨x7, S_8, hc9, H⟩ := gc_e H
    refine GA.callS (m_X12_in hL hc9) xs_X12_18 dX12_hex_23 rfl (by omega) (by decide) rfl (Nat.le_of_ble_eq_true rfl) (by omega) (by omega) rfl (fun E S9 hx => hx.elim) (fun v S9 hq => ?_)
    obtain ⟨rfl, rfl⟩ := hq
    obtain ⟨hg10, H⟩ := gg_e H
    refine GV.if_eq (tgt := 39) hg10 dX12_hex_26 (by decide) (fun c11 => ?_) (fun c11 => ?_)
    · have H := it_t H c11
      refine GA.iload_n dX12_hex_39 rfl ?_
      refine GA.bipush dX12_hex_40 rfl ?_
      refine GA.bipush dX12_hex_42 rfl ?_
      obtain ⟨x12, S_13, hc14, H⟩ := gc_e H
      refine GA.callS (m_X12_in hL hc14) xs_X12_18 dX12_hex_44 rfl (by omega) (by decide) rfl (Nat.le_of_ble_eq_true rfl) (by omega) (by omega) rfl (fun E S9 hx => hx.elim) (fun v S9 hq => ?_)
      obtain ⟨rfl, rfl⟩ := hq
      obtain ⟨hg15, H⟩ := gg_e H
      refine GV.if_eq (tgt := 60) hg15 dX12_hex_47 (by decide) (fun c16 => ?_) (fun c16 => ?_)
      · have H := it_t H c16
        refine GA.iconst dX12_hex_60 ?_
        cases H
        exact GA.iret rfl dX12_hex_61 (by omega) (by omega) ⟨rfl, rfl⟩
      · have H := it_f H c16
        refine GA.iload_n dX12_hex_50 rfl ?_
        refine GA.bipush dX12_hex_51 rfl ?_
        obtain ⟨x17, hx18, H⟩ := gv_e H
        refine GV.isub hx18 dX12_hex_53 ?_
        refine GA.bipush dX12_hex_54 rfl ?_
        obtain ⟨x19, hx20, H⟩ := gv_e H
        refine GV.iadd hx20 dX12_hex_56 ?_
        refine GA.goto (tgt := 61) dX12_hex_57 (by decide) ?_
        cases H
        exact GA.iret rfl dX12_hex_61 (by omega) (by omega) ⟨rfl, rfl⟩
    · have H := it_f H c11
      refine GA.iload_n dX12_hex_29 rfl ?_
      refine GA.bipush dX12_hex_30 rfl ?_
      obtain ⟨x21, hx22, H⟩ := gv_e H
      refine GV.isub hx22 dX12_hex_32 ?_
      refine GA.bipush dX12_hex_33 rfl ?_
      obtain ⟨x23, hx24, H⟩ := gv_e H
      refine GV.iadd hx24 dX12_hex_35 ?_
      refine GA.goto (tgt := 61) dX12_hex_36 (by decide) ?_
      cases H
      exact GA.iret rfl dX12_hex_61 (by omega) (by omega) ⟨rfl, rfl⟩
  · have H := it_f H c6
    refine GA.iload_n dX12_hex_11 rfl ?_
    refine GA.bipush dX12_hex_12 rfl ?_
    obtain ⟨x25, hx26, H⟩ := gv_e H
    refine GV.isub hx26 dX12_hex_14 ?_
    refine GA.goto (tgt := 61) dX12_hex_15 (by decide) ?_
    cases H
    exact GA.iret rfl dX12_hex_61 (by omega) (by omega) ⟨rfl, rfl⟩
theorem g_X12_hex {l : Launch} {Z : XZ} {L : Nat → Nat} : ∀ n, P_X12_hex_0 l Z L n
  | 0 => fun _ _ _ _ _ _ H => no_e H
  | n + 1 => t_X12_hex_0 n (g_X12_hex n)
theorem m_X12_hex {l : Launch} {Z : XZ} {L : Nat → Nat} (hL : L 700 = 1) {n d : Nat} {S : GS} {a1 : Int} {x : Int} {S1 : GS} (H : f_X12_hex n d 0 S [a1] = some (x, S1)) : GM l Z L yX12_hex cX12_hex 2 (some .int) [] d 0 0 [.ref (L 500), .int (J a1)] S (fun v S' => v = some (.int (J x)) ∧ S1 = S') (fun _ _ => False) := GM.of (by decide) (Nat.le_of_ble_eq_true rfl) ((g_X12_hex n) hL _ _ _ _ _ H)

def P_X12_isBlank_0 (l : Launch) (Z : XZ) (L : Nat → Nat) (n : Nat) : Prop := ∀ (hL : L 700 = 1), ∀ (d : Nat) (S : GS) (x : Int) (S1 : GS), f_X12_isBlank n d 0 S [] = some (x, S1) → GA l Z L yX12_isBlank cX12_isBlank 1 (some .boolean) [] d 0 0 (fun v S' => v = some (.int (J x)) ∧ S1 = S') (fun _ _ => False) 0 (gl [(0, .ref (L 500))]) [] S 0 0
theorem i_X12_isBlank {l : Launch} {Z : XZ} {L : Nat → Nat} (hL : L 700 = 1) {n : Nat} (ih : P_X12_isBlank_0 l Z L n) {d : Nat} {S : GS} {x : Int} {S1 : GS} (H : f_X12_isBlank n d 0 S [] = some (x, S1)) : GM l Z L yX12_isBlank cX12_isBlank 1 (some .boolean) [] d 0 0 [.ref (L 500)] S (fun v S' => v = some (.int (J x)) ∧ S1 = S') (fun _ _ => False) := GM.of (by decide) (Nat.le_of_ble_eq_true rfl) (ih hL _ _ _ _ H)
set_option maxHeartbeats 4000000 in
set_option maxRecDepth 20000 in
theorem t_X12_isBlank_0 {l : Launch} {Z : XZ} {L : Nat → Nat} (n : Nat) (ih_X12_isBlank_0 : P_X12_isBlank_0 l Z L n) : P_X12_isBlank_0 l Z L (n + 1) := by
  intro hL d S  x S1 H
  have H : b_X12_isBlank_0 n d (f_X12_isBlank n) S  = some (x, S1) := H
  unfold b_X12_isBlank_0 at H
  refine GA.aload_n dX12_isBlank_0 rfl ?_
  obtain ⟨x1, hx2, H⟩ := gv_e H
  refine GV.getI hx2 xf_X12_468 dX12_isBlank_1 (gs_500 hL) (by decide) rfl ?_
  refine GA.aload_n dX12_isBlank_4 rfl ?_
  obtain ⟨x3, hx4, H⟩ := gv_e H
  refine GV.getI hx4 xf_X12_445 dX12_isBlank_5 (gs_500 hL) (by decide) rfl ?_
  obtain ⟨hg5, H⟩ := gg_e H
  obtain ⟨hg6, H⟩ := gg_e H
  refine GV.icmp_ge (tgt := 43) hg5 hg6 dX12_isBlank_8 (by decide) (fun c7 => ?_) (fun c7 => ?_)
  · have H := it_t H c7
    refine GA.iconst dX12_isBlank_43 ?_
    cases H
    exact GV.zret (by decide) rfl dX12_isBlank_44 (by omega) (by omega) ⟨rfl, rfl⟩
  · have H := it_f H c7
    refine GA.aload_n dX12_isBlank_11 rfl ?_
    refine GA.get xf_X12_95 dX12_isBlank_12 (gs_500 hL) (by decide) rfl ?_
    refine GA.aload_n dX12_isBlank_15 rfl ?_
    obtain ⟨x8, hx9, H⟩ := gv_e H
    refine GV.getI hx9 xf_X12_468 dX12_isBlank_16 (gs_500 hL) (by decide) rfl ?_
    obtain ⟨hg10, H⟩ := gg_e H
    obtain ⟨x11, hx12, H⟩ := gv_e H
    refine GV.iald hg10 hx12 dX12_isBlank_19 (gs_508 hL) (by decide) ?_
    refine GA.bipush dX12_isBlank_20 rfl ?_
    obtain ⟨hg13, H⟩ := gg_e H
    refine GV.icmp_eq (tgt := 39) hg13 (by decide) dX12_isBlank_22 (by decide) (fun c14 => ?_) (fun c14 => ?_)
    · have H := it_t H c14
      refine GA.iconst dX12_isBlank_39 ?_
      refine GA.goto (tgt := 44) dX12_isBlank_40 (by decide) ?_
      cases H
      exact GV.zret (by decide) rfl dX12_isBlank_44 (by omega) (by omega) ⟨rfl, rfl⟩
    · have H := it_f H c14
      refine GA.aload_n dX12_isBlank_25 rfl ?_
      refine GA.get xf_X12_95 dX12_isBlank_26 (gs_500 hL) (by decide) rfl ?_
      refine GA.aload_n dX12_isBlank_29 rfl ?_
      obtain ⟨x15, hx16, H⟩ := gv_e H
      refine GV.getI hx16 xf_X12_468 dX12_isBlank_30 (gs_500 hL) (by decide) rfl ?_
      obtain ⟨hg17, H⟩ := gg_e H
      obtain ⟨x18, hx19, H⟩ := gv_e H
      refine GV.iald hg17 hx19 dX12_isBlank_33 (gs_508 hL) (by decide) ?_
      refine GA.bipush dX12_isBlank_34 rfl ?_
      obtain ⟨hg20, H⟩ := gg_e H
      refine GV.icmp_ne (tgt := 43) hg20 (by decide) dX12_isBlank_36 (by decide) (fun c21 => ?_) (fun c21 => ?_)
      · have H := it_t H c21
        refine GA.iconst dX12_isBlank_43 ?_
        cases H
        exact GV.zret (by decide) rfl dX12_isBlank_44 (by omega) (by omega) ⟨rfl, rfl⟩
      · have H := it_f H c21
        refine GA.iconst dX12_isBlank_39 ?_
        refine GA.goto (tgt := 44) dX12_isBlank_40 (by decide) ?_
        cases H
        exact GV.zret (by decide) rfl dX12_isBlank_44 (by omega) (by omega) ⟨rfl, rfl⟩
theorem g_X12_isBlank {l : Launch} {Z : XZ} {L : Nat → Nat} : ∀ n, P_X12_isBlank_0 l Z L n
  | 0 => fun _ _ _ _ _ H => no_e H
  | n + 1 => t_X12_isBlank_0 n (g_X12_isBlank n)
theorem m_X12_isBlank {l : Launch} {Z : XZ} {L : Nat → Nat} (hL : L 700 = 1) {n d : Nat} {S : GS} {x : Int} {S1 : GS} (H : f_X12_isBlank n d 0 S [] = some (x, S1)) : GM l Z L yX12_isBlank cX12_isBlank 1 (some .boolean) [] d 0 0 [.ref (L 500)] S (fun v S' => v = some (.int (J x)) ∧ S1 = S') (fun _ _ => False) := GM.of (by decide) (Nat.le_of_ble_eq_true rfl) ((g_X12_isBlank n) hL _ _ _ _ H)

def P_X12_sign_0 (l : Launch) (Z : XZ) (L : Nat → Nat) (n : Nat) : Prop := ∀ (hL : L 700 = 1), ∀ (d : Nat) (S : GS) (x : Int) (S1 : GS), f_X12_sign n d 0 S [] = some (x, S1) → GA l Z L yX12_sign cX12_sign 1 (some .int) [] d 0 0 (fun v S' => v = some (.int (J x)) ∧ S1 = S') (fun _ _ => False) 0 (gl [(0, .ref (L 500))]) [] S 0 0
theorem i_X12_sign {l : Launch} {Z : XZ} {L : Nat → Nat} (hL : L 700 = 1) {n : Nat} (ih : P_X12_sign_0 l Z L n) {d : Nat} {S : GS} {x : Int} {S1 : GS} (H : f_X12_sign n d 0 S [] = some (x, S1)) : GM l Z L yX12_sign cX12_sign 1 (some .int) [] d 0 0 [.ref (L 500)] S (fun v S' => v = some (.int (J x)) ∧ S1 = S') (fun _ _ => False) := GM.of (by decide) (Nat.le_of_ble_eq_true rfl) (ih hL _ _ _ _ H)
set_option maxHeartbeats 4000000 in
set_option maxRecDepth 20000 in
theorem t_X12_sign_0 {l : Launch} {Z : XZ} {L : Nat → Nat} (n : Nat) (ih_X12_sign_0 : P_X12_sign_0 l Z L n) : P_X12_sign_0 l Z L (n + 1) := by
  intro hL d S  x S1 H
  have H : b_X12_sign_0 n d (f_X12_sign n) S  = some (x, S1) := H
  unfold b_X12_sign_0 at H
  refine GA.aload_n dX12_sign_0 rfl ?_
  obtain ⟨x1, hx2, H⟩ := gv_e H
  refine GV.getI hx2 xf_X12_468 dX12_sign_1 (gs_500 hL) (by decide) rfl ?_
  refine GA.aload_n dX12_sign_4 rfl ?_
  obtain ⟨x3, hx4, H⟩ := gv_e H
  refine GV.getI hx4 xf_X12_445 dX12_sign_5 (gs_500 hL) (by decide) rfl ?_
  obtain ⟨hg5, H⟩ := gg_e H
  obtain ⟨hg6, H⟩ := gg_e H
  refine GV.icmp_ge (tgt := 23) hg5 hg6 dX12_sign_8 (by decide) (fun c7 => ?_) (fun c7 => ?_)
  · have H := it_t H c7
    refine GA.iconst dX12_sign_23 ?_
    cases H
    exact GA.iret rfl dX12_sign_24 (by omega) (by omega) ⟨rfl, rfl⟩
  · have H := it_f H c7
    refine GA.aload_n dX12_sign_11 rfl ?_
    refine GA.get xf_X12_95 dX12_sign_12 (gs_500 hL) (by decide) rfl ?_
    refine GA.aload_n dX12_sign_15 rfl ?_
    obtain ⟨x8, hx9, H⟩ := gv_e H
    refine GV.getI hx9 xf_X12_468 dX12_sign_16 (gs_500 hL) (by decide) rfl ?_
    obtain ⟨hg10, H⟩ := gg_e H
    obtain ⟨x11, hx12, H⟩ := gv_e H
    refine GV.iald hg10 hx12 dX12_sign_19 (gs_508 hL) (by decide) ?_
    refine GA.goto (tgt := 24) dX12_sign_20 (by decide) ?_
    cases H
    exact GA.iret rfl dX12_sign_24 (by omega) (by omega) ⟨rfl, rfl⟩
theorem g_X12_sign {l : Launch} {Z : XZ} {L : Nat → Nat} : ∀ n, P_X12_sign_0 l Z L n
  | 0 => fun _ _ _ _ _ H => no_e H
  | n + 1 => t_X12_sign_0 n (g_X12_sign n)
theorem m_X12_sign {l : Launch} {Z : XZ} {L : Nat → Nat} (hL : L 700 = 1) {n d : Nat} {S : GS} {x : Int} {S1 : GS} (H : f_X12_sign n d 0 S [] = some (x, S1)) : GM l Z L yX12_sign cX12_sign 1 (some .int) [] d 0 0 [.ref (L 500)] S (fun v S' => v = some (.int (J x)) ∧ S1 = S') (fun _ _ => False) := GM.of (by decide) (Nat.le_of_ble_eq_true rfl) ((g_X12_sign n) hL _ _ _ _ H)

def P_X12_isFigure_0 (l : Launch) (Z : XZ) (L : Nat → Nat) (n : Nat) : Prop := ∀ (hL : L 700 = 1), ∀ (d : Nat) (S : GS) (x : Int) (S1 : GS), f_X12_isFigure n d 0 S [] = some (x, S1) → GA l Z L yX12_isFigure cX12_isFigure 1 (some .boolean) [] d 0 0 (fun v S' => v = some (.int (J x)) ∧ S1 = S') (fun _ _ => False) 0 (gl [(0, .ref (L 500))]) [] S 0 0
theorem i_X12_isFigure {l : Launch} {Z : XZ} {L : Nat → Nat} (hL : L 700 = 1) {n : Nat} (ih : P_X12_isFigure_0 l Z L n) {d : Nat} {S : GS} {x : Int} {S1 : GS} (H : f_X12_isFigure n d 0 S [] = some (x, S1)) : GM l Z L yX12_isFigure cX12_isFigure 1 (some .boolean) [] d 0 0 [.ref (L 500)] S (fun v S' => v = some (.int (J x)) ∧ S1 = S') (fun _ _ => False) := GM.of (by decide) (Nat.le_of_ble_eq_true rfl) (ih hL _ _ _ _ H)
set_option maxHeartbeats 4000000 in
set_option maxRecDepth 20000 in
theorem t_X12_isFigure_0 {l : Launch} {Z : XZ} {L : Nat → Nat} (n : Nat) (ih_X12_isFigure_0 : P_X12_isFigure_0 l Z L n) : P_X12_isFigure_0 l Z L (n + 1) := by
  intro hL d S  x S1 H
  have H : b_X12_isFigure_0 n d (f_X12_isFigure n) S  = some (x, S1) := H
  unfold b_X12_isFigure_0 at H
  refine GA.aload_n dX12_isFigure_0 rfl ?_
  obtain ⟨hg1, H⟩ := gg_e H
  obtain ⟨x2, S_3, hc4, H⟩ := gc_e H
  refine GA.callV (m_X12_sign hL hc4) xs_X12_471 dX12_isFigure_1 (gs_500 hL) (by decide) rfl rfl (by omega) (by decide) rfl (Nat.le_of_ble_eq_true rfl) (by omega) (by omega) rfl (fun E S9 hx => hx.elim) (fun v S9 hq => ?_)
  obtain ⟨rfl, rfl⟩ := hq
  refine GA.bipush dX12_isFigure_4 rfl ?_
  refine GA.bipush dX12_isFigure_6 rfl ?_
  obtain ⟨x5, S_6, hc7, H⟩ := gc_e H
  refine GA.callS (m_X12_in hL hc7) xs_X12_18 dX12_isFigure_8 rfl (by omega) (by decide) rfl (Nat.le_of_ble_eq_true rfl) (by omega) (by omega) rfl (fun E S9 hx => hx.elim) (fun v S9 hq => ?_)
  obtain ⟨rfl, rfl⟩ := hq
  obtain ⟨hg8, H⟩ := gg_e H
  cases H
  exact GV.zret hg8 rfl dX12_isFigure_11 (by omega) (by omega) ⟨rfl, rfl⟩
theorem g_X12_isFigure {l : Launch} {Z : XZ} {L : Nat → Nat} : ∀ n, P_X12_isFigure_0 l Z L n
  | 0 => fun _ _ _ _ _ H => no_e H
  | n + 1 => t_X12_isFigure_0 n (g_X12_isFigure n)
theorem m_X12_isFigure {l : Launch} {Z : XZ} {L : Nat → Nat} (hL : L 700 = 1) {n d : Nat} {S : GS} {x : Int} {S1 : GS} (H : f_X12_isFigure n d 0 S [] = some (x, S1)) : GM l Z L yX12_isFigure cX12_isFigure 1 (some .boolean) [] d 0 0 [.ref (L 500)] S (fun v S' => v = some (.int (J x)) ∧ S1 = S') (fun _ _ => False) := GM.of (by decide) (Nat.le_of_ble_eq_true rfl) ((g_X12_isFigure n) hL _ _ _ _ H)

def P_X12_isSo_0 (l : Launch) (Z : XZ) (L : Nat → Nat) (n : Nat) : Prop := ∀ (hL : L 700 = 1), ∀ (d : Nat) (S : GS) (a1 : Int) (a2 : Int) (a3 : Int) (x : Int) (S1 : GS), f_X12_isSo n d 0 S [a1, a2, a3] = some (x, S1) → GA l Z L yX12_isSo cX12_isSo 7 (some .boolean) [] d 0 0 (fun v S' => v = some (.int (J x)) ∧ S1 = S') (fun _ _ => False) 0 (gl [(0, .ref (L 500)), (1, .int (J a1)), (2, .int (J a2)), (3, .int (J a3))]) [] S 0 0
def P_X12_isSo_82 (l : Launch) (Z : XZ) (L : Nat → Nat) (n : Nat) : Prop := ∀ (hL : L 700 = 1), ∀ (d : Nat) (S : GS) (a5 : Int) (a6 : Int) (x : Int) (S1 : GS), f_X12_isSo n d 82 S [a5, a6] = some (x, S1) → GA l Z L yX12_isSo cX12_isSo 7 (some .boolean) [] d 0 0 (fun v S' => v = some (.int (J x)) ∧ S1 = S') (fun _ _ => False) 82 (gl [(0, .ref (L 500)), (5, .int (J a5)), (6, .int (J a6))]) [] S 0 0
theorem i_X12_isSo {l : Launch} {Z : XZ} {L : Nat → Nat} (hL : L 700 = 1) {n : Nat} (ih : P_X12_isSo_0 l Z L n) {d : Nat} {S : GS} {a1 : Int} {a2 : Int} {a3 : Int} {x : Int} {S1 : GS} (H : f_X12_isSo n d 0 S [a1, a2, a3] = some (x, S1)) : GM l Z L yX12_isSo cX12_isSo 7 (some .boolean) [] d 0 0 [.ref (L 500), .int (J a1), .int (J a2), .int (J a3)] S (fun v S' => v = some (.int (J x)) ∧ S1 = S') (fun _ _ => False) := GM.of (by decide) (Nat.le_of_ble_eq_true rfl) (ih hL _ _ _ _ _ _ _ H)
set_option maxHeartbeats 4000000 in
set_option maxRecDepth 20000 in
theorem t_X12_isSo_0 {l : Launch} {Z : XZ} {L : Nat → Nat} (n : Nat) (ih_X12_isSo_0 : P_X12_isSo_0 l Z L n) (ih_X12_isSo_82 : P_X12_isSo_82 l Z L n) : P_X12_isSo_0 l Z L (n + 1) := by
  intro hL d S a1 a2 a3 x S1 H
  have H : b_X12_isSo_0 n d (f_X12_isSo n) S a1 a2 a3 = some (x, S1) := H
  unfold b_X12_isSo_0 at H
  refine GA.aload_n dX12_isSo_0 rfl ?_
  refine GA.iload_n dX12_isSo_1 rfl ?_
  refine GA.iload_n dX12_isSo_2 rfl ?_
  obtain ⟨hg1, H⟩ := gg_e H
  obtain ⟨x2, S_3, hc4, H⟩ := gc_e H
  refine GA.callV (m_X12_kind hL hc4) xs_X12_52 dX12_isSo_3 (gs_500 hL) (by decide) rfl rfl (by omega) (by decide) rfl (Nat.le_of_ble_eq_true rfl) (by omega) (by omega) rfl (fun E S9 hx => hx.elim) (fun v S9 hq => ?_)
  obtain ⟨rfl, rfl⟩ := hq
  refine GA.iconst dX12_isSo_6 ?_
  obtain ⟨hg5, H⟩ := gg_e H
  refine GV.icmp_eq (tgt := 12) hg5 (by decide) dX12_isSo_7 (by decide) (fun c6 => ?_) (fun c6 => ?_)
  · have H := it_t H c6
    refine GA.aload_n dX12_isSo_12 rfl ?_
    refine GA.aload_n dX12_isSo_13 rfl ?_
    obtain ⟨x7, hx8, H⟩ := gv_e H
    refine GV.getI hx8 xf_X12_607 dX12_isSo_14 (gs_500 hL) (by decide) rfl ?_
    refine GA.iconst dX12_isSo_17 ?_
    obtain ⟨x9, hx10, H⟩ := gv_e H
    refine GV.iadd hx10 dX12_isSo_18 ?_
    refine GA.iload_n dX12_isSo_19 rfl ?_
    obtain ⟨x11, S_12, hc13, H⟩ := gc_e H
    refine GA.callV (m_X12_wordOf hL hc13) xs_X12_622 dX12_isSo_20 (gs_500 hL) (by decide) rfl rfl (by omega) (by decide) rfl (Nat.le_of_ble_eq_true rfl) (by omega) (by omega) rfl (fun E S9 hx => hx.elim) (fun v S9 hq => ?_)
    obtain ⟨rfl, rfl⟩ := hq
    refine GA.aload_n dX12_isSo_23 rfl ?_
    refine GA.iload_n dX12_isSo_24 rfl ?_
    refine GA.iload_n dX12_isSo_25 rfl ?_
    obtain ⟨x14, S_15, hc16, H⟩ := gc_e H
    refine GA.callV (m_X12_childByWord hL hc16) xs_X12_78 dX12_isSo_26 (gs_500 hL) (by decide) rfl rfl (by omega) (by decide) rfl (Nat.le_of_ble_eq_true rfl) (by omega) (by omega) rfl (fun E S9 hx => hx.elim) (fun v S9 hq => ?_)
    obtain ⟨rfl, rfl⟩ := hq
    refine GA.istore dX12_isSo_29 (by decide) ?_
    refine GA.iload dX12_isSo_31 rfl ?_
    refine GA.iconst dX12_isSo_33 ?_
    obtain ⟨hg17, H⟩ := gg_e H
    refine GV.icmp_ne (tgt := 39) hg17 (by decide) dX12_isSo_34 (by decide) (fun c18 => ?_) (fun c18 => ?_)
    · have H := it_t H c18
      refine GA.aload_n dX12_isSo_39 rfl ?_
      refine GA.iload_n dX12_isSo_40 rfl ?_
      refine GA.iconst dX12_isSo_41 ?_
      obtain ⟨x19, hx20, H⟩ := gv_e H
      refine GV.iadd hx20 dX12_isSo_42 ?_
      refine GA.aload_n dX12_isSo_43 rfl ?_
      obtain ⟨x21, hx22, H⟩ := gv_e H
      refine GV.getI hx22 xf_X12_610 dX12_isSo_44 (gs_500 hL) (by decide) rfl ?_
      obtain ⟨x23, S_24, hc25, H⟩ := gc_e H
      refine GA.callV (m_X12_wordOf hL hc25) xs_X12_622 dX12_isSo_47 (gs_500 hL) (by decide) rfl rfl (by omega) (by decide) rfl (Nat.le_of_ble_eq_true rfl) (by omega) (by omega) rfl (fun E S9 hx => hx.elim) (fun v S9 hq => ?_)
      obtain ⟨rfl, rfl⟩ := hq
      refine GA.aload_n dX12_isSo_50 rfl ?_
      refine GA.iconst dX12_isSo_51 ?_
      refine GA.iload_n dX12_isSo_52 rfl ?_
      refine GA.iload dX12_isSo_53 rfl ?_
      refine GA.iconst dX12_isSo_55 ?_
      obtain ⟨x26, S_27, hc28, H⟩ := gc_e H
      refine GA.callV (m_X12_writes hL hc28) xs_X12_574 dX12_isSo_56 (gs_500 hL) (by decide) rfl rfl (by omega) (by decide) rfl (Nat.le_of_ble_eq_true rfl) (by omega) (by omega) rfl (fun E S9 hx => hx.elim) (fun v S9 hq => ?_)
      obtain ⟨rfl, rfl⟩ := hq
      refine GA.aload_n dX12_isSo_59 rfl ?_
      refine GA.get xf_X12_272 dX12_isSo_60 (gs_500 hL) (by decide) rfl ?_
      refine GA.iconst dX12_isSo_63 ?_
      obtain ⟨hg29, H⟩ := gg_e H
      obtain ⟨x30, hx31, H⟩ := gv_e H
      refine GV.iald hg29 hx31 dX12_isSo_64 (gs_517 hL) (by decide) ?_
      refine GA.aload_n dX12_isSo_65 rfl ?_
      obtain ⟨x32, hx33, H⟩ := gv_e H
      refine GV.getI hx33 xf_X12_66 dX12_isSo_66 (gs_500 hL) (by decide) rfl ?_
      obtain ⟨hg34, H⟩ := gg_e H
      obtain ⟨hg35, H⟩ := gg_e H
      refine GV.icmp_ne (tgt := 76) hg34 hg35 dX12_isSo_69 (by decide) (fun c36 => ?_) (fun c36 => ?_)
      · have H := it_t H c36
        refine GA.iconst dX12_isSo_76 ?_
        refine GA.istore dX12_isSo_77 (by decide) ?_
        refine GA.iconst dX12_isSo_79 ?_
        refine GA.istore dX12_isSo_80 (by decide) ?_
        refine GA.locals [(0, .ref (L 500)), (5, .int (J 0)), (6, .int (J 0))] ⟨rfl, rfl, rfl, trivial⟩ ?_
        exact ih_X12_isSo_82 hL _ _ (0) (0) _ _ H
      · have H := it_f H c36
        refine GA.iconst dX12_isSo_72 ?_
        refine GA.goto (tgt := 77) dX12_isSo_73 (by decide) ?_
        refine GA.istore dX12_isSo_77 (by decide) ?_
        refine GA.iconst dX12_isSo_79 ?_
        refine GA.istore dX12_isSo_80 (by decide) ?_
        refine GA.locals [(0, .ref (L 500)), (5, .int (J 1)), (6, .int (J 0))] ⟨rfl, rfl, rfl, trivial⟩ ?_
        exact ih_X12_isSo_82 hL _ _ (1) (0) _ _ H
    · have H := it_f H c18
      refine GA.iconst dX12_isSo_37 ?_
      cases H
      exact GV.zret (by decide) rfl dX12_isSo_38 (by omega) (by omega) ⟨rfl, rfl⟩
  · have H := it_f H c6
    refine GA.iconst dX12_isSo_10 ?_
    cases H
    exact GV.zret (by decide) rfl dX12_isSo_11 (by omega) (by omega) ⟨rfl, rfl⟩
set_option maxHeartbeats 4000000 in
set_option maxRecDepth 20000 in
theorem t_X12_isSo_82 {l : Launch} {Z : XZ} {L : Nat → Nat} (n : Nat) (ih_X12_isSo_0 : P_X12_isSo_0 l Z L n) (ih_X12_isSo_82 : P_X12_isSo_82 l Z L n) : P_X12_isSo_82 l Z L (n + 1) := by
  intro hL d S a5 a6 x S1 H
  have H : b_X12_isSo_82 n d (f_X12_isSo n) S a5 a6 = some (x, S1) := H
  unfold b_X12_isSo_82 at H
  refine GA.iload dX12_isSo_82 rfl ?_
  refine GA.aload_n dX12_isSo_84 rfl ?_
  obtain ⟨x1, hx2, H⟩ := gv_e H
  refine GV.getI hx2 xf_X12_66 dX12_isSo_85 (gs_500 hL) (by decide) rfl ?_
  obtain ⟨hg3, H⟩ := gg_e H
  obtain ⟨hg4, H⟩ := gg_e H
  refine GV.icmp_ge (tgt := 126) hg3 hg4 dX12_isSo_88 (by decide) (fun c5 => ?_) (fun c5 => ?_)
  · have H := it_t H c5
    refine GA.iload dX12_isSo_126 rfl ?_
    obtain ⟨hg6, H⟩ := gg_e H
    cases H
    exact GV.zret hg6 rfl dX12_isSo_128 (by omega) (by omega) ⟨rfl, rfl⟩
  · have H := it_f H c5
    refine GA.iload dX12_isSo_91 rfl ?_
    obtain ⟨hg7, H⟩ := gg_e H
    refine GV.if_eq (tgt := 126) hg7 dX12_isSo_93 (by decide) (fun c8 => ?_) (fun c8 => ?_)
    · have H := it_t H c8
      refine GA.iload dX12_isSo_126 rfl ?_
      obtain ⟨hg9, H⟩ := gg_e H
      cases H
      exact GV.zret hg9 rfl dX12_isSo_128 (by omega) (by omega) ⟨rfl, rfl⟩
    · have H := it_f H c8
      refine GA.aload_n dX12_isSo_96 rfl ?_
      refine GA.get xf_X12_269 dX12_isSo_97 (gs_500 hL) (by decide) rfl ?_
      refine GA.iload dX12_isSo_100 rfl ?_
      obtain ⟨hg10, H⟩ := gg_e H
      obtain ⟨x11, hx12, H⟩ := gv_e H
      refine GV.iald hg10 hx12 dX12_isSo_102 (gs_516 hL) (by decide) ?_
      refine GA.aload_n dX12_isSo_103 rfl ?_
      refine GA.get xf_X12_69 dX12_isSo_104 (gs_500 hL) (by decide) rfl ?_
      refine GA.iload dX12_isSo_107 rfl ?_
      obtain ⟨hg13, H⟩ := gg_e H
      obtain ⟨x14, hx15, H⟩ := gv_e H
      refine GV.iald hg13 hx15 dX12_isSo_109 (gs_507 hL) (by decide) ?_
      obtain ⟨hg16, H⟩ := gg_e H
      obtain ⟨hg17, H⟩ := gg_e H
      refine GV.icmp_ne (tgt := 117) hg16 hg17 dX12_isSo_110 (by decide) (fun c18 => ?_) (fun c18 => ?_)
      · have H := it_t H c18
        refine GA.iconst dX12_isSo_117 ?_
        refine GA.istore dX12_isSo_118 (by decide) ?_
        obtain ⟨x19, hx20, H⟩ := gv_e H
        refine GV.iinc hx20 dX12_isSo_120 rfl (by decide) ?_
        refine GA.goto (tgt := 82) dX12_isSo_123 (by decide) ?_
        refine GA.locals [(0, .ref (L 500)), (5, .int (J 0)), (6, .int (J x19))] ⟨rfl, rfl, rfl, trivial⟩ ?_
        exact ih_X12_isSo_82 hL _ _ (0) (x19) _ _ H
      · have H := it_f H c18
        refine GA.iconst dX12_isSo_113 ?_
        refine GA.goto (tgt := 118) dX12_isSo_114 (by decide) ?_
        refine GA.istore dX12_isSo_118 (by decide) ?_
        obtain ⟨x21, hx22, H⟩ := gv_e H
        refine GV.iinc hx22 dX12_isSo_120 rfl (by decide) ?_
        refine GA.goto (tgt := 82) dX12_isSo_123 (by decide) ?_
        refine GA.locals [(0, .ref (L 500)), (5, .int (J 1)), (6, .int (J x21))] ⟨rfl, rfl, rfl, trivial⟩ ?_
        exact ih_X12_isSo_82 hL _ _ (1) (x21) _ _ H
theorem g_X12_isSo {l : Launch} {Z : XZ} {L : Nat → Nat} : ∀ n, P_X12_isSo_0 l Z L n ∧ P_X12_isSo_82 l Z L n
  | 0 => ⟨fun _ _ _ _ _ _ _ _ H => no_e H, fun _ _ _ _ _ _ _ H => no_e H⟩
  | n + 1 => have ⟨h0, h1⟩ := g_X12_isSo (l := l) (Z := Z) (L := L) n
    ⟨t_X12_isSo_0 n h0 h1, t_X12_isSo_82 n h0 h1⟩
theorem m_X12_isSo {l : Launch} {Z : XZ} {L : Nat → Nat} (hL : L 700 = 1) {n d : Nat} {S : GS} {a1 : Int} {a2 : Int} {a3 : Int} {x : Int} {S1 : GS} (H : f_X12_isSo n d 0 S [a1, a2, a3] = some (x, S1)) : GM l Z L yX12_isSo cX12_isSo 7 (some .boolean) [] d 0 0 [.ref (L 500), .int (J a1), .int (J a2), .int (J a3)] S (fun v S' => v = some (.int (J x)) ∧ S1 = S') (fun _ _ => False) := GM.of (by decide) (Nat.le_of_ble_eq_true rfl) ((g_X12_isSo n).1 hL _ _ _ _ _ _ _ H)

