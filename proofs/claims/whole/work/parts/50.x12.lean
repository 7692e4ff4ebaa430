def P_X12_at_0 (l : Launch) (Z : XZ) (L : Nat → Nat) (n : Nat) : Prop := ∀ (hL : L 700 = 1), ∀ (d : Nat) (S : GS) (a0 : Int) (a1 : Int) (x : Int) (S1 : GS), f_X12_at n d 0 S [a0, a1] = some (x, S1) → GA l Z L yX12_at cX12_at 2 (some .int) [] d 0 0 (fun v S' => v = some (.int (J x)) ∧ S1 = S') (fun _ _ => False) 0 (gl [(0, .int (J a0)), (1, .int (J a1))]) [] S 0 0
theorem i_X12_at {l : Launch} {Z : XZ} {L : Nat → Nat} (hL : L 700 = 1) {n : Nat} (ih : P_X12_at_0 l Z L n) {d : Nat} {S : GS} {a0 : Int} {a1 : Int} {x : Int} {S1 : GS} (H : f_X12_at n d 0 S [a0, a1] = some (x, S1)) : GM l Z L yX12_at cX12_at 2 (some .int) [] d 0 0 [.int (J a0), .int (J a1)] S (fun v S' => v = some (.int (J x)) ∧ S1 = S') (fun _ _ => False) := GM.of (by decide) (Nat.le_of_ble_eq_true rfl) (ih hL _ _ _ _ _ _ H)
set_option maxHeartbeats 4000000 in
set_option maxRecDepth 20000 in
theorem t_X12_at_0 {l : Launch} {Z : XZ} {L : Nat → Nat} (n : Nat) (ih_X12_at_0 : P_X12_at_0 l Z L n) : P_X12_at_0 l Z L (n + 1) := by
  intro hL d S a0 a1 x S1 H
  have H : b_X12_at_0 n d (f_X12_at n) S a0 a1 = some (x, S1) := H
  unfold b_X12_at_0 at H
  refine GA.bipush dX12_at_0 rfl ?_
  refine GA.iload_n dX12_at_2 rfl ?_
  obtain ⟨x1, hx2, H⟩ := gv_e H
  refine GV.imul hx2 dX12_at_3 ?_
  refine GA.iload_n dX12_at_4 rfl ?_
  obtain ⟨x3, hx4, H⟩ := gv_e H
  refine GV.iadd hx4 dX12_at_5 ?_
  refine GA.bipush dX12_at_6 rfl ?_
  obtain ⟨x5, hx6, H⟩ := gv_e H
  refine GV.imul hx6 dX12_at_8 ?_
  cases H
  exact GA.iret rfl dX12_at_9 (by omega) (by omega) ⟨rfl, rfl⟩
theorem g_X12_at {l : Launch} {Z : XZ} {L : Nat → Nat} : ∀ n, P_X12_at_0 l Z L n
  | 0 => fun _ _ _ _ _ _ _ H => no_e H
  | n + 1 => t_X12_at_0 n (g_X12_at n)
theorem m_X12_at {l : Launch} {Z : XZ} {L : Nat → Nat} (hL : L 700 = 1) {n d : Nat} {S : GS} {a0 : Int} {a1 : Int} {x : Int} {S1 : GS} (H : f_X12_at n d 0 S [a0, a1] = some (x, S1)) : GM l Z L yX12_at cX12_at 2 (some .int) [] d 0 0 [.int (J a0), .int (J a1)] S (fun v S' => v = some (.int (J x)) ∧ S1 = S') (fun _ _ => False) := GM.of (by decide) (Nat.le_of_ble_eq_true rfl) ((g_X12_at n) hL _ _ _ _ _ _ H)

def P_X12_added_0 (l : Launch) (Z : XZ) (L : Nat → Nat) (n : Nat) : Prop := ∀ (hL : L 700 = 1), ∀ (d : Nat) (S : GS) (a1 : Int) (a2 : Int) (x : Int) (S1 : GS), f_X12_added n d 0 S [a1, a2] = some (x, S1) → GA l Z L yX12_added cX12_added 5 (some .int) [] d 0 0 (fun v S' => v = some (.int (J x)) ∧ S1 = S') (fun _ _ => False) 0 (gl [(0, .ref (L 500)), (1, .int (J a1)), (2, .int (J a2))]) [] S 0 0
def P_X12_added_14 (l : Launch) (Z : XZ) (L : Nat → Nat) (n : Nat) : Prop := ∀ (hL : L 700 = 1), ∀ (d : Nat) (S : GS) (a1 : Int) (a2 : Int) (a3 : Int) (a4 : Int) (x : Int) (S1 : GS), f_X12_added n d 14 S [a1, a2, a3, a4] = some (x, S1) → GA l Z L yX12_added cX12_added 5 (some .int) [] d 0 0 (fun v S' => v = some (.int (J x)) ∧ S1 = S') (fun _ _ => False) 14 (gl [(0, .ref (L 500)), (1, .int (J a1)), (2, .int (J a2)), (3, .int (J a3)), (4, .int (J a4))]) [] S 0 0
def P_X12_added_71 (l : Launch) (Z : XZ) (L : Nat → Nat) (n : Nat) : Prop := ∀ (hL : L 700 = 1), ∀ (d : Nat) (S : GS) (a1 : Int) (a3 : Int) (s0 : Int) (x : Int) (S1 : GS), f_X12_added n d 71 S [a1, a3, s0] = some (x, S1) → GA l Z L yX12_added cX12_added 5 (some .int) [] d 0 0 (fun v S' => v = some (.int (J x)) ∧ S1 = S') (fun _ _ => False) 71 (gl [(0, .ref (L 500)), (1, .int (J a1)), (3, .int (J a3))]) [.int (J s0), .ref (L 500)] S 0 0
theorem i_X12_added {l : Launch} {Z : XZ} {L : Nat → Nat} (hL : L 700 = 1) {n : Nat} (ih : P_X12_added_0 l Z L n) {d : Nat} {S : GS} {a1 : Int} {a2 : Int} {x : Int} {S1 : GS} (H : f_X12_added n d 0 S [a1, a2] = some (x, S1)) : GM l Z L yX12_added cX12_added 5 (some .int) [] d 0 0 [.ref (L 500), .int (J a1), .int (J a2)] S (fun v S' => v = some (.int (J x)) ∧ S1 = S') (fun _ _ => False) := GM.of (by decide) (Nat.le_of_ble_eq_true rfl) (ih hL _ _ _ _ _ _ H)
set_option maxHeartbeats 4000000 in
set_option maxRecDepth 20000 in
theorem t_X12_added_0 {l : Launch} {Z : XZ} {L : Nat → Nat} (n : Nat) (ih_X12_added_0 : P_X12_added_0 l Z L n) (ih_X12_added_14 : P_X12_added_14 l Z L n) (ih_X12_added_71 : P_X12_added_71 l Z L n) : P_X12_added_0 l Z L (n + 1) := by
  intro hL d S a1 a2 x S1 H
  have H : b_X12_added_0 n d (f_X12_added n) S a1 a2 = some (x, S1) := H
  unfold b_X12_added_0 at H
  refine GA.aload_n dX12_added_0 rfl ?_
  refine GA.get xf_X12_26 dX12_added_1 (gs_500 hL) (by decide) rfl ?_
  refine GA.iload_n dX12_added_4 rfl ?_
  obtain ⟨hg1, H⟩ := gg_e H
  obtain ⟨x2, hx3, H⟩ := gv_e H
  refine GV.iald hg1 hx3 dX12_added_5 (gs_502 hL) (by decide) ?_
  refine GA.istore_n dX12_added_6 (by decide) ?_
  refine GA.iload_n dX12_added_7 rfl ?_
  refine GA.iload_n dX12_added_8 rfl ?_
  obtain ⟨hg4, H⟩ := gg_e H
  obtain ⟨x5, S_6, hc7, H⟩ := gc_e H
  refine GA.callS (m_X12_at hL hc7) xs_X12_11 dX12_added_9 rfl (by omega) (by decide) rfl (Nat.le_of_ble_eq_true rfl) (by omega) (by omega) rfl (fun E S9 hx => hx.elim) (fun v S9 hq => ?_)
  obtain ⟨rfl, rfl⟩ := hq
  refine GA.istore dX12_added_12 (by decide) ?_
  refine GA.locals [(0, .ref (L 500)), (1, .int (J a1)), (2, .int (J a2)), (3, .int (J x2)), (4, .int (J x5))] ⟨rfl, rfl, rfl, rfl, rfl, trivial⟩ ?_
  exact ih_X12_added_14 hL _ _ (a1) (a2) (x2) (x5) _ _ H
set_option maxHeartbeats 4000000 in
set_option maxRecDepth 20000 in
theorem t_X12_added_14 {l : Launch} {Z : XZ} {L : Nat → Nat} (n : Nat) (ih_X12_added_0 : P_X12_added_0 l Z L n) (ih_X12_added_14 : P_X12_added_14 l Z L n) (ih_X12_added_71 : P_X12_added_71 l Z L n) : P_X12_added_14 l Z L (n + 1) := by
  intro hL d S a1 a2 a3 a4 x S1 H
  have H : b_X12_added_14 n d (f_X12_added n) S a1 a2 a3 a4 = some (x, S1) := H
  unfold b_X12_added_14 at H
  refine GA.iload dX12_added_14 rfl ?_
  refine GA.iload_n dX12_added_16 rfl ?_
  refine GA.iload_n dX12_added_17 rfl ?_
  obtain ⟨hg1, H⟩ := gg_e H
  obtain ⟨x2, S_3, hc4, H⟩ := gc_e H
  refine GA.callS (m_X12_at hL hc4) xs_X12_11 dX12_added_18 rfl (by omega) (by decide) rfl (Nat.le_of_ble_eq_true rfl) (by omega) (by omega) rfl (fun E S9 hx => hx.elim) (fun v S9 hq => ?_)
  obtain ⟨rfl, rfl⟩ := hq
  refine GA.bipush dX12_added_21 rfl ?_
  obtain ⟨x5, hx6, H⟩ := gv_e H
  refine GV.iadd hx6 dX12_added_23 ?_
  obtain ⟨hg7, H⟩ := gg_e H
  obtain ⟨hg8, H⟩ := gg_e H
  refine GV.icmp_ge (tgt := 41) hg7 hg8 dX12_added_24 (by decide) (fun c9 => ?_) (fun c9 => ?_)
  · have H := it_t H c9
    refine GA.aload_n dX12_added_41 rfl ?_
    refine GA.get xf_X12_7 dX12_added_42 (gs_500 hL) (by decide) rfl ?_
    refine GA.iload_n dX12_added_45 rfl ?_
    refine GA.iload_n dX12_added_46 rfl ?_
    obtain ⟨x10, S_11, hc12, H⟩ := gc_e H
    refine GA.callS (m_X12_at hL hc12) xs_X12_11 dX12_added_47 rfl (by omega) (by decide) rfl (Nat.le_of_ble_eq_true rfl) (by omega) (by omega) rfl (fun E S9 hx => hx.elim) (fun v S9 hq => ?_)
    obtain ⟨rfl, rfl⟩ := hq
    refine GA.iload_n dX12_added_50 rfl ?_
    obtain ⟨hg13, H⟩ := gg_e H
    obtain ⟨S_14, hx15, H⟩ := gv_e H
    refine GV.iast hg13 hx15 dX12_added_51 (fun _ => (gs_501 hL)) (by decide) ?_
    refine GA.aload_n dX12_added_52 rfl ?_
    refine GA.aload_n dX12_added_53 rfl ?_
    obtain ⟨x16, hx17, H⟩ := gv_e H
    refine GV.getB hx17 xf_X12_29 dX12_added_54 (gs_500 hL) (by decide) rfl ?_
    obtain ⟨hg18, H⟩ := gg_e H
    refine GV.if_ne (tgt := 66) hg18 dX12_added_57 (by decide) (fun c19 => ?_) (fun c19 => ?_)
    · have H := it_t H c19
      refine GA.iconst dX12_added_66 ?_
      refine GA.goto (tgt := 71) dX12_added_67 (by decide) ?_
      refine GA.locals [(0, .ref (L 500)), (1, .int (J a1)), (3, .int (J a3))] ⟨rfl, rfl, rfl, trivial⟩ ?_
      exact ih_X12_added_71 hL _ _ (a1) (a3) (1) _ _ H
    · have H := it_f H c19
      refine GA.iload_n dX12_added_60 rfl ?_
      refine GA.bipush dX12_added_61 rfl ?_
      obtain ⟨hg20, H⟩ := gg_e H
      refine GV.icmp_ne (tgt := 70) hg20 (by decide) dX12_added_63 (by decide) (fun c21 => ?_) (fun c21 => ?_)
      · have H := it_t H c21
        refine GA.iconst dX12_added_70 ?_
        refine GA.locals [(0, .ref (L 500)), (1, .int (J a1)), (3, .int (J a3))] ⟨rfl, rfl, rfl, trivial⟩ ?_
        exact ih_X12_added_71 hL _ _ (a1) (a3) (0) _ _ H
      · have H := it_f H c21
        refine GA.iconst dX12_added_66 ?_
        refine GA.goto (tgt := 71) dX12_added_67 (by decide) ?_
        refine GA.locals [(0, .ref (L 500)), (1, .int (J a1)), (3, .int (J a3))] ⟨rfl, rfl, rfl, trivial⟩ ?_
        exact ih_X12_added_71 hL _ _ (a1) (a3) (1) _ _ H
  · have H := it_f H c9
    refine GA.aload_n dX12_added_27 rfl ?_
    refine GA.get xf_X12_7 dX12_added_28 (gs_500 hL) (by decide) rfl ?_
    refine GA.iload dX12_added_31 rfl ?_
    refine GA.iconst dX12_added_33 ?_
    obtain ⟨hg22, H⟩ := gg_e H
    obtain ⟨S_23, hx24, H⟩ := gv_e H
    refine GV.iast hg22 hx24 dX12_added_34 (fun _ => (gs_501 hL)) (by decide) ?_
    obtain ⟨x25, hx26, H⟩ := gv_e H
    refine GV.iinc hx26 dX12_added_35 rfl (by decide) ?_
    refine GA.goto (tgt := 14) dX12_added_38 (by decide) ?_
    refine GA.locals [(0, .ref (L 500)), (1, .int (J a1)), (2, .int (J a2)), (3, .int (J a3)), (4, .int (J x25))] ⟨rfl, rfl, rfl, rfl, rfl, trivial⟩ ?_
    exact ih_X12_added_14 hL _ _ (a1) (a2) (a3) (x25) _ _ H
set_option maxHeartbeats 4000000 in
set_option maxRecDepth 20000 in
theorem t_X12_added_71 {l : Launch} {Z : XZ} {L : Nat → Nat} (n : Nat) (ih_X12_added_0 : P_X12_added_0 l Z L n) (ih_X12_added_14 : P_X12_added_14 l Z L n) (ih_X12_added_71 : P_X12_added_71 l Z L n) : P_X12_added_71 l Z L (n + 1) := by
  intro hL d S a1 a3 s0 x S1 H
  have H : b_X12_added_71 n d (f_X12_added n) S a1 a3 s0 = some (x, S1) := H
  unfold b_X12_added_71 at H
  obtain ⟨hg1, H⟩ := gg_e H
  obtain ⟨S_2, hx3, H⟩ := gv_e H
  refine GV.putB hg1 hx3 (xp_X12_29 (xb_01 _)) dX12_added_71 (gs_500 hL) (by decide) (Nat.le_of_ble_eq_true rfl) (gs_500 hL) ?_
  refine GA.aload_n dX12_added_74 rfl ?_
  refine GA.get xf_X12_26 dX12_added_75 (gs_500 hL) (by decide) rfl ?_
  refine GA.iload_n dX12_added_78 rfl ?_
  refine GA.dup2 dX12_added_79 rfl rfl ?_
  obtain ⟨hg4, H⟩ := gg_e H
  obtain ⟨x5, hx6, H⟩ := gv_e H
  refine GV.iald hg4 hx6 dX12_added_80 (gs_502 hL) (by decide) ?_
  refine GA.iload_n dX12_added_81 rfl ?_
  refine GA.bipush dX12_added_82 rfl ?_
  obtain ⟨hg7, H⟩ := gg_e H
  refine GV.icmp_ne (tgt := 91) hg7 (by decide) dX12_added_84 (by decide) (fun c8 => ?_) (fun c8 => ?_)
  · have H := it_t H c8
    refine GA.iconst dX12_added_91 ?_
    obtain ⟨x9, hx10, H⟩ := gv_e H
    refine GV.iadd hx10 dX12_added_92 ?_
    obtain ⟨S_11, hx12, H⟩ := gv_e H
    refine GV.iast hg4 hx12 dX12_added_93 (fun _ => (gs_502 hL)) (by decide) ?_
    refine GA.iload_n dX12_added_94 rfl ?_
    cases H
    exact GA.iret rfl dX12_added_95 (by omega) (by omega) ⟨rfl, rfl⟩
  · have H := it_f H c8
    refine GA.iconst dX12_added_87 ?_
    refine GA.goto (tgt := 92) dX12_added_88 (by decide) ?_
    obtain ⟨x13, hx14, H⟩ := gv_e H
    refine GV.iadd hx14 dX12_added_92 ?_
    obtain ⟨S_15, hx16, H⟩ := gv_e H
    refine GV.iast hg4 hx16 dX12_added_93 (fun _ => (gs_502 hL)) (by decide) ?_
    refine GA.iload_n dX12_added_94 rfl ?_
    cases H
    exact GA.iret rfl dX12_added_95 (by omega) (by omega) ⟨rfl, rfl⟩
theorem g_X12_added {l : Launch} {Z : XZ} {L : Nat → Nat} : ∀ n, P_X12_added_0 l Z L n ∧ P_X12_added_14 l Z L n ∧ P_X12_added_71 l Z L n
  | 0 => ⟨fun _ _ _ _ _ _ _ H => no_e H, fun _ _ _ _ _ _ _ _ _ H => no_e H, fun _ _ _ _ _ _ _ _ H => no_e H⟩
  | n + 1 => have ⟨h0, h1, h2⟩ := g_X12_added (l := l) (Z := Z) (L := L) n
    ⟨t_X12_added_0 n h0 h1 h2, t_X12_added_14 n h0 h1 h2, t_X12_added_71 n h0 h1 h2⟩
theorem m_X12_added {l : Launch} {Z : XZ} {L : Nat → Nat} (hL : L 700 = 1) {n d : Nat} {S : GS} {a1 : Int} {a2 : Int} {x : Int} {S1 : GS} (H : f_X12_added n d 0 S [a1, a2] = some (x, S1)) : GM l Z L yX12_added cX12_added 5 (some .int) [] d 0 0 [.ref (L 500), .int (J a1), .int (J a2)] S (fun v S' => v = some (.int (J x)) ∧ S1 = S') (fun _ _ => False) := GM.of (by decide) (Nat.le_of_ble_eq_true rfl) ((g_X12_added n).1 hL _ _ _ _ _ _ H)

def P_X12_part_0 (l : Launch) (Z : XZ) (L : Nat → Nat) (n : Nat) : Prop := ∀ (hL : L 700 = 1), ∀ (d : Nat) (S : GS) (a1 : Int) (a2 : Int) (a3 : Int) (x : Int) (S1 : GS), f_X12_part n d 0 S [a1, a2, a3] = some (x, S1) → GA l Z L yX12_part cX12_part 4 (some .int) [] d 0 0 (fun v S' => v = some (.int (J x)) ∧ S1 = S') (fun _ _ => False) 0 (gl [(0, .ref (L 500)), (1, .int (J a1)), (2, .int (J a2)), (3, .int (J a3))]) [] S 0 0
theorem i_X12_part {l : Launch} {Z : XZ} {L : Nat → Nat} (hL : L 700 = 1) {n : Nat} (ih : P_X12_part_0 l Z L n) {d : Nat} {S : GS} {a1 : Int} {a2 : Int} {a3 : Int} {x : Int} {S1 : GS} (H : f_X12_part n d 0 S [a1, a2, a3] = some (x, S1)) : GM l Z L yX12_part cX12_part 4 (some .int) [] d 0 0 [.ref (L 500), .int (J a1), .int (J a2), .int (J a3)] S (fun v S' => v = some (.int (J x)) ∧ S1 = S') (fun _ _ => False) := GM.of (by decide) (Nat.le_of_ble_eq_true rfl) (ih hL _ _ _ _ _ _ _ H)
set_option maxHeartbeats 4000000 in
set_option maxRecDepth 20000 in
theorem t_X12_part_0 {l : Launch} {Z : XZ} {L : Nat → Nat} (n : Nat) (ih_X12_part_0 : P_X12_part_0 l Z L n) : P_X12_part_0 l Z L (n + 1) := by
  intro hL d S a1 a2 a3 x S1 H
  have H : b_X12_part_0 n d (f_X12_part n) S a1 a2 a3 = some (x, S1) := H
  unfold b_X12_part_0 at H
  refine GA.aload_n dX12_part_0 rfl ?_
  refine GA.get xf_X12_7 dX12_part_1 (gs_500 hL) (by decide) rfl ?_
  refine GA.iload_n dX12_part_4 rfl ?_
  refine GA.iload_n dX12_part_5 rfl ?_
  obtain ⟨hg1, H⟩ := gg_e H
  obtain ⟨x2, S_3, hc4, H⟩ := gc_e H
  refine GA.callS (m_X12_at hL hc4) xs_X12_11 dX12_part_6 rfl (by omega) (by decide) rfl (Nat.le_of_ble_eq_true rfl) (by omega) (by omega) rfl (fun E S9 hx => hx.elim) (fun v S9 hq => ?_)
  obtain ⟨rfl, rfl⟩ := hq
  refine GA.iload_n dX12_part_9 rfl ?_
  obtain ⟨x5, hx6, H⟩ := gv_e H
  refine GV.iadd hx6 dX12_part_10 ?_
  obtain ⟨hg7, H⟩ := gg_e H
  obtain ⟨x8, hx9, H⟩ := gv_e H
  refine GV.iald hg7 hx9 dX12_part_11 (gs_501 hL) (by decide) ?_
  cases H
  exact GA.iret rfl dX12_part_12 (by omega) (by omega) ⟨rfl, rfl⟩
theorem g_X12_part {l : Launch} {Z : XZ} {L : Nat → Nat} : ∀ n, P_X12_part_0 l Z L n
  | 0 => fun _ _ _ _ _ _ _ _ H => no_e H
  | n + 1 => t_X12_part_0 n (g_X12_part n)
theorem m_X12_part {l : Launch} {Z : XZ} {L : Nat → Nat} (hL : L 700 = 1) {n d : Nat} {S : GS} {a1 : Int} {a2 : Int} {a3 : Int} {x : Int} {S1 : GS} (H : f_X12_part n d 0 S [a1, a2, a3] = some (x, S1)) : GM l Z L yX12_part cX12_part 4 (some .int) [] d 0 0 [.ref (L 500), .int (J a1), .int (J a2), .int (J a3)] S (fun v S' => v = some (.int (J x)) ∧ S1 = S') (fun _ _ => False) := GM.of (by decide) (Nat.le_of_ble_eq_true rfl) ((g_X12_part n) hL _ _ _ _ _ _ _ H)

def P_X12_byKeys_0 (l : Launch) (Z : XZ) (L : Nat → Nat) (n : Nat) : Prop := ∀ (hL : L 700 = 1), ∀ (d : Nat) (S : GS) (a1 : Int) (a2 : Int) (a3 : Int) (a4 : Int) (x : Int) (S1 : GS), f_X12_byKeys n d 0 S [a1, a2, a3, a4] = some (x, S1) → GA l Z L yX12_byKeys cX12_byKeys 8 (some .int) [] d 0 0 (fun v S' => v = some (.int (J x)) ∧ S1 = S') (fun _ _ => False) 0 (gl [(0, .ref (L 500)), (1, .int (J a1)), (2, .int (J a2)), (3, .int (J a3)), (4, .int (J a4))]) [] S 0 0
def P_X12_byKeys_18 (l : Launch) (Z : XZ) (L : Nat → Nat) (n : Nat) : Prop := ∀ (hL : L 700 = 1), ∀ (d : Nat) (S : GS) (a5 : Int) (a6 : Int) (a7 : Int) (x : Int) (S1 : GS), f_X12_byKeys n d 18 S [a5, a6, a7] = some (x, S1) → GA l Z L yX12_byKeys cX12_byKeys 8 (some .int) [] d 0 0 (fun v S' => v = some (.int (J x)) ∧ S1 = S') (fun _ _ => False) 18 (gl [(0, .ref (L 500)), (5, .int (J a5)), (6, .int (J a6)), (7, .int (J a7))]) [] S 0 0
def P_X12_byKeys_116 (l : Launch) (Z : XZ) (L : Nat → Nat) (n : Nat) : Prop := ∀ (hL : L 700 = 1), ∀ (d : Nat) (S : GS) (a5 : Int) (a6 : Int) (x : Int) (S1 : GS), f_X12_byKeys n d 116 S [a5, a6] = some (x, S1) → GA l Z L yX12_byKeys cX12_byKeys 8 (some .int) [] d 0 0 (fun v S' => v = some (.int (J x)) ∧ S1 = S') (fun _ _ => False) 116 (gl [(0, .ref (L 500)), (5, .int (J a5)), (6, .int (J a6))]) [] S 0 0
theorem i_X12_byKeys {l : Launch} {Z : XZ} {L : Nat → Nat} (hL : L 700 = 1) {n : Nat} (ih : P_X12_byKeys_0 l Z L n) {d : Nat} {S : GS} {a1 : Int} {a2 : Int} {a3 : Int} {a4 : Int} {x : Int} {S1 : GS} (H : f_X12_byKeys n d 0 S [a1, a2, a3, a4] = some (x, S1)) : GM l Z L yX12_byKeys cX12_byKeys 8 (some .int) [] d 0 0 [.ref (L 500), .int (J a1), .int (J a2), .int (J a3), .int (J a4)] S (fun v S' => v = some (.int (J x)) ∧ S1 = S') (fun _ _ => False) := GM.of (by decide) (Nat.le_of_ble_eq_true rfl) (ih hL _ _ _ _ _ _ _ _ H)
set_option maxHeartbeats 4000000 in
set_option maxRecDepth 20000 in
theorem t_X12_byKeys_0 {l : Launch} {Z : XZ} {L : Nat → Nat} (n : Nat) (ih_X12_byKeys_0 : P_X12_byKeys_0 l Z L n) (ih_X12_byKeys_18 : P_X12_byKeys_18 l Z L n) (ih_X12_byKeys_116 : P_X12_byKeys_116 l Z L n) : P_X12_byKeys_0 l Z L (n + 1) := by
  intro hL d S a1 a2 a3 a4 x S1 H
  have H : b_X12_byKeys_0 n d (f_X12_byKeys n) S a1 a2 a3 a4 = some (x, S1) := H
  unfold b_X12_byKeys_0 at H
  refine GA.iload_n dX12_byKeys_0 rfl ?_
  refine GA.iload_n dX12_byKeys_1 rfl ?_
  obtain ⟨hg1, H⟩ := gg_e H
  obtain ⟨x2, S_3, hc4, H⟩ := gc_e H
  refine GA.callS (m_X12_at hL hc4) xs_X12_11 dX12_byKeys_2 rfl (by omega) (by decide) rfl (Nat.le_of_ble_eq_true rfl) (by omega) (by omega) rfl (fun E S9 hx => hx.elim) (fun v S9 hq => ?_)
  obtain ⟨rfl, rfl⟩ := hq
  refine GA.istore dX12_byKeys_5 (by decide) ?_
  refine GA.iload_n dX12_byKeys_7 rfl ?_
  refine GA.iload dX12_byKeys_8 rfl ?_
  obtain ⟨x5, S_6, hc7, H⟩ := gc_e H
  refine GA.callS (m_X12_at hL hc7) xs_X12_11 dX12_byKeys_10 rfl (by omega) (by decide) rfl (Nat.le_of_ble_eq_true rfl) (by omega) (by omega) rfl (fun E S9 hx => hx.elim) (fun v S9 hq => ?_)
  obtain ⟨rfl, rfl⟩ := hq
  refine GA.istore dX12_byKeys_13 (by decide) ?_
  refine GA.iconst dX12_byKeys_15 ?_
  refine GA.istore dX12_byKeys_16 (by decide) ?_
  refine GA.locals [(0, .ref (L 500)), (5, .int (J x2)), (6, .int (J x5)), (7, .int (J 0))] ⟨rfl, rfl, rfl, rfl, trivial⟩ ?_
  exact ih_X12_byKeys_18 hL _ _ (x2) (x5) (0) _ _ H
set_option maxHeartbeats 4000000 in
set_option maxRecDepth 20000 in
theorem t_X12_byKeys_18 {l : Launch} {Z : XZ} {L : Nat → Nat} (n : Nat) (ih_X12_byKeys_0 : P_X12_byKeys_0 l Z L n) (ih_X12_byKeys_18 : P_X12_byKeys_18 l Z L n) (ih_X12_byKeys_116 : P_X12_byKeys_116 l Z L n) : P_X12_byKeys_18 l Z L (n + 1) := by
  intro hL d S a5 a6 a7 x S1 H
  have H : b_X12_byKeys_18 n d (f_X12_byKeys n) S a5 a6 a7 = some (x, S1) := H
  unfold b_X12_byKeys_18 at H
  refine GA.iload dX12_byKeys_18 rfl ?_
  refine GA.aload_n dX12_byKeys_20 rfl ?_
  refine GA.get xf_X12_7 dX12_byKeys_21 (gs_500 hL) (by decide) rfl ?_
  refine GA.iload dX12_byKeys_24 rfl ?_
  refine GA.iconst dX12_byKeys_26 ?_
  obtain ⟨x1, hx2, H⟩ := gv_e H
  refine GV.iadd hx2 dX12_byKeys_27 ?_
  obtain ⟨hg3, H⟩ := gg_e H
  obtain ⟨x4, hx5, H⟩ := gv_e H
  refine GV.iald hg3 hx5 dX12_byKeys_28 (gs_501 hL) (by decide) ?_
  obtain ⟨hg6, H⟩ := gg_e H
  obtain ⟨hg7, H⟩ := gg_e H
  refine GV.icmp_ge (tgt := 116) hg6 hg7 dX12_byKeys_29 (by decide) (fun c8 => ?_) (fun c8 => ?_)
  · have H := it_t H c8
    refine GA.locals [(0, .ref (L 500)), (5, .int (J a5)), (6, .int (J a6))] ⟨rfl, rfl, rfl, trivial⟩ ?_
    exact ih_X12_byKeys_116 hL _ _ (a5) (a6) _ _ H
  · have H := it_f H c8
    refine GA.iload dX12_byKeys_32 rfl ?_
    refine GA.aload_n dX12_byKeys_34 rfl ?_
    refine GA.get xf_X12_7 dX12_byKeys_35 (gs_500 hL) (by decide) rfl ?_
    refine GA.iload dX12_byKeys_38 rfl ?_
    refine GA.iconst dX12_byKeys_40 ?_
    obtain ⟨x9, hx10, H⟩ := gv_e H
    refine GV.iadd hx10 dX12_byKeys_41 ?_
    obtain ⟨hg11, H⟩ := gg_e H
    obtain ⟨x12, hx13, H⟩ := gv_e H
    refine GV.iald hg11 hx13 dX12_byKeys_42 (gs_501 hL) (by decide) ?_
    obtain ⟨hg14, H⟩ := gg_e H
    refine GV.icmp_ge (tgt := 116) hg6 hg14 dX12_byKeys_43 (by decide) (fun c15 => ?_) (fun c15 => ?_)
    · have H := it_t H c15
      refine GA.locals [(0, .ref (L 500)), (5, .int (J a5)), (6, .int (J a6))] ⟨rfl, rfl, rfl, trivial⟩ ?_
      exact ih_X12_byKeys_116 hL _ _ (a5) (a6) _ _ H
    · have H := it_f H c15
      refine GA.aload_n dX12_byKeys_46 rfl ?_
      refine GA.get xf_X12_7 dX12_byKeys_47 (gs_500 hL) (by decide) rfl ?_
      refine GA.iload dX12_byKeys_50 rfl ?_
      refine GA.bipush dX12_byKeys_52 rfl ?_
      obtain ⟨x16, hx17, H⟩ := gv_e H
      refine GV.iadd hx17 dX12_byKeys_54 ?_
      refine GA.iload dX12_byKeys_55 rfl ?_
      obtain ⟨x18, hx19, H⟩ := gv_e H
      refine GV.iadd hx19 dX12_byKeys_57 ?_
      obtain ⟨hg20, H⟩ := gg_e H
      obtain ⟨x21, hx22, H⟩ := gv_e H
      refine GV.iald hg20 hx22 dX12_byKeys_58 (gs_501 hL) (by decide) ?_
      refine GA.aload_n dX12_byKeys_59 rfl ?_
      refine GA.get xf_X12_7 dX12_byKeys_60 (gs_500 hL) (by decide) rfl ?_
      refine GA.iload dX12_byKeys_63 rfl ?_
      refine GA.bipush dX12_byKeys_65 rfl ?_
      obtain ⟨x23, hx24, H⟩ := gv_e H
      refine GV.iadd hx24 dX12_byKeys_67 ?_
      refine GA.iload dX12_byKeys_68 rfl ?_
      obtain ⟨x25, hx26, H⟩ := gv_e H
      refine GV.iadd hx26 dX12_byKeys_70 ?_
      obtain ⟨hg27, H⟩ := gg_e H
      obtain ⟨x28, hx29, H⟩ := gv_e H
      refine GV.iald hg27 hx29 dX12_byKeys_71 (gs_501 hL) (by decide) ?_
      obtain ⟨hg30, H⟩ := gg_e H
      obtain ⟨hg31, H⟩ := gg_e H
      refine GV.icmp_eq (tgt := 110) hg30 hg31 dX12_byKeys_72 (by decide) (fun c32 => ?_) (fun c32 => ?_)
      · have H := it_t H c32
        obtain ⟨x33, hx34, H⟩ := gv_e H
        refine GV.iinc hx34 dX12_byKeys_110 rfl (by decide) ?_
        refine GA.goto (tgt := 18) dX12_byKeys_113 (by decide) ?_
        refine GA.locals [(0, .ref (L 500)), (5, .int (J a5)), (6, .int (J a6)), (7, .int (J x33))] ⟨rfl, rfl, rfl, rfl, trivial⟩ ?_
        exact ih_X12_byKeys_18 hL _ _ (a5) (a6) (x33) _ _ H
      · have H := it_f H c32
        refine GA.aload_n dX12_byKeys_75 rfl ?_
        refine GA.get xf_X12_7 dX12_byKeys_76 (gs_500 hL) (by decide) rfl ?_
        refine GA.iload dX12_byKeys_79 rfl ?_
        refine GA.bipush dX12_byKeys_81 rfl ?_
        obtain ⟨x35, hx36, H⟩ := gv_e H
        refine GV.iadd hx36 dX12_byKeys_83 ?_
        refine GA.iload dX12_byKeys_84 rfl ?_
        obtain ⟨x37, hx38, H⟩ := gv_e H
        refine GV.iadd hx38 dX12_byKeys_86 ?_
        obtain ⟨hg39, H⟩ := gg_e H
        obtain ⟨x40, hx41, H⟩ := gv_e H
        refine GV.iald hg39 hx41 dX12_byKeys_87 (gs_501 hL) (by decide) ?_
        refine GA.aload_n dX12_byKeys_88 rfl ?_
        refine GA.get xf_X12_7 dX12_byKeys_89 (gs_500 hL) (by decide) rfl ?_
        refine GA.iload dX12_byKeys_92 rfl ?_
        refine GA.bipush dX12_byKeys_94 rfl ?_
        obtain ⟨x42, hx43, H⟩ := gv_e H
        refine GV.iadd hx43 dX12_byKeys_96 ?_
        refine GA.iload dX12_byKeys_97 rfl ?_
        obtain ⟨x44, hx45, H⟩ := gv_e H
        refine GV.iadd hx45 dX12_byKeys_99 ?_
        obtain ⟨hg46, H⟩ := gg_e H
        obtain ⟨x47, hx48, H⟩ := gv_e H
        refine GV.iald hg46 hx48 dX12_byKeys_100 (gs_501 hL) (by decide) ?_
        obtain ⟨hg49, H⟩ := gg_e H
        obtain ⟨hg50, H⟩ := gg_e H
        refine GV.icmp_ge (tgt := 108) hg49 hg50 dX12_byKeys_101 (by decide) (fun c51 => ?_) (fun c51 => ?_)
        · have H := it_t H c51
          refine GA.iconst dX12_byKeys_108 ?_
          cases H
          exact GA.iret rfl dX12_byKeys_109 (by omega) (by omega) ⟨rfl, rfl⟩
        · have H := it_f H c51
          refine GA.iconst dX12_byKeys_104 ?_
          refine GA.goto (tgt := 109) dX12_byKeys_105 (by decide) ?_
          cases H
          exact GA.iret rfl dX12_byKeys_109 (by omega) (by omega) ⟨rfl, rfl⟩
set_option maxHeartbeats 4000000 in
set_option maxRecDepth 20000 in
theorem t_X12_byKeys_116 {l : Launch} {Z : XZ} {L : Nat → Nat} (n : Nat) (ih_X12_byKeys_0 : P_X12_byKeys_0 l Z L n) (ih_X12_byKeys_18 : P_X12_byKeys_18 l Z L n) (ih_X12_byKeys_116 : P_X12_byKeys_116 l Z L n) : P_X12_byKeys_116 l Z L (n + 1) := by
  intro hL d S a5 a6 x S1 H
  have H : b_X12_byKeys_116 n d (f_X12_byKeys n) S a5 a6 = some (x, S1) := H
  unfold b_X12_byKeys_116 at H
  refine GA.aload_n dX12_byKeys_116 rfl ?_
  refine GA.get xf_X12_7 dX12_byKeys_117 (gs_500 hL) (by decide) rfl ?_
  refine GA.iload dX12_byKeys_120 rfl ?_
  refine GA.iconst dX12_byKeys_122 ?_
  obtain ⟨x1, hx2, H⟩ := gv_e H
  refine GV.iadd hx2 dX12_byKeys_123 ?_
  obtain ⟨hg3, H⟩ := gg_e H
  obtain ⟨x4, hx5, H⟩ := gv_e H
  refine GV.iald hg3 hx5 dX12_byKeys_124 (gs_501 hL) (by decide) ?_
  refine GA.aload_n dX12_byKeys_125 rfl ?_
  refine GA.get xf_X12_7 dX12_byKeys_126 (gs_500 hL) (by decide) rfl ?_
  refine GA.iload dX12_byKeys_129 rfl ?_
  refine GA.iconst dX12_byKeys_131 ?_
  obtain ⟨x6, hx7, H⟩ := gv_e H
  refine GV.iadd hx7 dX12_byKeys_132 ?_
  obtain ⟨hg8, H⟩ := gg_e H
  obtain ⟨x9, hx10, H⟩ := gv_e H
  refine GV.iald hg8 hx10 dX12_byKeys_133 (gs_501 hL) (by decide) ?_
  obtain ⟨x11, hx12, H⟩ := gv_e H
  refine GV.isub hx12 dX12_byKeys_134 ?_
  cases H
  exact GA.iret rfl dX12_byKeys_135 (by omega) (by omega) ⟨rfl, rfl⟩
theorem g_X12_byKeys {l : Launch} {Z : XZ} {L : Nat → Nat} : ∀ n, P_X12_byKeys_0 l Z L n ∧ P_X12_byKeys_18 l Z L n ∧ P_X12_byKeys_116 l Z L n
  | 0 => ⟨fun _ _ _ _ _ _ _ _ _ H => no_e H, fun _ _ _ _ _ _ _ _ H => no_e H, fun _ _ _ _ _ _ _ H => no_e H⟩
  | n + 1 => have ⟨h0, h1, h2⟩ := g_X12_byKeys (l := l) (Z := Z) (L := L) n
    ⟨t_X12_byKeys_0 n h0 h1 h2, t_X12_byKeys_18 n h0 h1 h2, t_X12_byKeys_116 n h0 h1 h2⟩
theorem m_X12_byKeys {l : Launch} {Z : XZ} {L : Nat → Nat} (hL : L 700 = 1) {n d : Nat} {S : GS} {a1 : Int} {a2 : Int} {a3 : Int} {a4 : Int} {x : Int} {S1 : GS} (H : f_X12_byKeys n d 0 S [a1, a2, a3, a4] = some (x, S1)) : GM l Z L yX12_byKeys cX12_byKeys 8 (some .int) [] d 0 0 [.ref (L 500), .int (J a1), .int (J a2), .int (J a3), .int (J a4)] S (fun v S' => v = some (.int (J x)) ∧ S1 = S') (fun _ _ => False) := GM.of (by decide) (Nat.le_of_ble_eq_true rfl) ((g_X12_byKeys n).1 hL _ _ _ _ _ _ _ _ H)

def P_X12_endOf_0 (l : Launch) (Z : XZ) (L : Nat → Nat) (n : Nat) : Prop := ∀ (hL : L 700 = 1), ∀ (d : Nat) (S : GS) (a1 : Int) (a2 : Int) (x : Int) (S1 : GS), f_X12_endOf n d 0 S [a1, a2] = some (x, S1) → GA l Z L yX12_endOf cX12_endOf 3 (some .int) [] d 0 0 (fun v S' => v = some (.int (J x)) ∧ S1 = S') (fun _ _ => False) 0 (gl [(0, .ref (L 500)), (1, .int (J a1)), (2, .int (J a2))]) [] S 0 0
theorem i_X12_endOf {l : Launch} {Z : XZ} {L : Nat → Nat} (hL : L 700 = 1) {n : Nat} (ih : P_X12_endOf_0 l Z L n) {d : Nat} {S : GS} {a1 : Int} {a2 : Int} {x : Int} {S1 : GS} (H : f_X12_endOf n d 0 S [a1, a2] = some (x, S1)) : GM l Z L yX12_endOf cX12_endOf 3 (some .int) [] d 0 0 [.ref (L 500), .int (J a1), .int (J a2)] S (fun v S' => v = some (.int (J x)) ∧ S1 = S') (fun _ _ => False) := GM.of (by decide) (Nat.le_of_ble_eq_true rfl) (ih hL _ _ _ _ _ _ H)
set_option maxHeartbeats 4000000 in
set_option maxRecDepth 20000 in
theorem t_X12_endOf_0 {l : Launch} {Z : XZ} {L : Nat → Nat} (n : Nat) (ih_X12_endOf_0 : P_X12_endOf_0 l Z L n) : P_X12_endOf_0 l Z L (n + 1) := by
  intro hL d S a1 a2 x S1 H
  have H : b_X12_endOf_0 n d (f_X12_endOf n) S a1 a2 = some (x, S1) := H
  unfold b_X12_endOf_0 at H
  refine GA.iload_n dX12_endOf_0 rfl ?_
  refine GA.aload_n dX12_endOf_1 rfl ?_
  refine GA.iload_n dX12_endOf_2 rfl ?_
  refine GA.iload_n dX12_endOf_3 rfl ?_
  refine GA.iconst dX12_endOf_4 ?_
  obtain ⟨hg1, H⟩ := gg_e H
  obtain ⟨x2, S_3, hc4, H⟩ := gc_e H
  refine GA.callV (m_X12_part hL hc4) xs_X12_36 dX12_endOf_5 (gs_500 hL) (by decide) rfl rfl (by omega) (by decide) rfl (Nat.le_of_ble_eq_true rfl) (by omega) (by omega) rfl (fun E S9 hx => hx.elim) (fun v S9 hq => ?_)
  obtain ⟨rfl, rfl⟩ := hq
  obtain ⟨x5, hx6, H⟩ := gv_e H
  refine GV.iadd hx6 dX12_endOf_8 ?_
  cases H
  exact GA.iret rfl dX12_endOf_9 (by omega) (by omega) ⟨rfl, rfl⟩
theorem g_X12_endOf {l : Launch} {Z : XZ} {L : Nat → Nat} : ∀ n, P_X12_endOf_0 l Z L n
  | 0 => fun _ _ _ _ _ _ _ H => no_e H
  | n + 1 => t_X12_endOf_0 n (g_X12_endOf n)
theorem m_X12_endOf {l : Launch} {Z : XZ} {L : Nat → Nat} (hL : L 700 = 1) {n d : Nat} {S : GS} {a1 : Int} {a2 : Int} {x : Int} {S1 : GS} (H : f_X12_endOf n d 0 S [a1, a2] = some (x, S1)) : GM l Z L yX12_endOf cX12_endOf 3 (some .int) [] d 0 0 [.ref (L 500), .int (J a1), .int (J a2)] S (fun v S' => v = some (.int (J x)) ∧ S1 = S') (fun _ _ => False) := GM.of (by decide) (Nat.le_of_ble_eq_true rfl) ((g_X12_endOf n) hL _ _ _ _ _ _ H)

def P_X12_childLike_0 (l : Launch) (Z : XZ) (L : Nat → Nat) (n : Nat) : Prop := ∀ (hL : L 700 = 1), ∀ (d : Nat) (S : GS) (a1 : Int) (a2 : Int) (a3 : Int) (a4 : Int) (x : Int) (S1 : GS), f_X12_childLike n d 0 S [a1, a2, a3, a4] = some (x, S1) → GA l Z L yX12_childLike cX12_childLike 7 (some .int) [] d 0 0 (fun v S' => v = some (.int (J x)) ∧ S1 = S') (fun _ _ => False) 0 (gl [(0, .ref (L 500)), (1, .int (J a1)), (2, .int (J a2)), (3, .int (J a3)), (4, .int (J a4))]) [] S 0 0
def P_X12_childLike_8 (l : Launch) (Z : XZ) (L : Nat → Nat) (n : Nat) : Prop := ∀ (hL : L 700 = 1), ∀ (d : Nat) (S : GS) (a1 : Int) (a2 : Int) (a3 : Int) (a4 : Int) (a5 : Int) (a6 : Int) (x : Int) (S1 : GS), f_X12_childLike n d 8 S [a1, a2, a3, a4, a5, a6] = some (x, S1) → GA l Z L yX12_childLike cX12_childLike 7 (some .int) [] d 0 0 (fun v S' => v = some (.int (J x)) ∧ S1 = S') (fun _ _ => False) 8 (gl [(0, .ref (L 500)), (1, .int (J a1)), (2, .int (J a2)), (3, .int (J a3)), (4, .int (J a4)), (5, .int (J a5)), (6, .int (J a6))]) [] S 0 0
theorem i_X12_childLike {l : Launch} {Z : XZ} {L : Nat → Nat} (hL : L 700 = 1) {n : Nat} (ih : P_X12_childLike_0 l Z L n) {d : Nat} {S : GS} {a1 : Int} {a2 : Int} {a3 : Int} {a4 : Int} {x : Int} {S1 : GS} (H : f_X12_childLike n d 0 S [a1, a2, a3, a4] = some (x, S1)) : GM l Z L yX12_childLike cX12_childLike 7 (some .int) [] d 0 0 [.ref (L 500), .int (J a1), .int (J a2), .int (J a3), .int (J a4)] S (fun v S' => v = some (.int (J x)) ∧ S1 = S') (fun _ _ => False) := GM.of (by decide) (Nat.le_of_ble_eq_true rfl) (ih hL _ _ _ _ _ _ _ _ H)
set_option maxHeartbeats 4000000 in
set_option maxRecDepth 20000 in
theorem t_X12_childLike_0 {l : Launch} {Z : XZ} {L : Nat → Nat} (n : Nat) (ih_X12_childLike_0 : P_X12_childLike_0 l Z L n) (ih_X12_childLike_8 : P_X12_childLike_8 l Z L n) : P_X12_childLike_0 l Z L (n + 1) := by
  intro hL d S a1 a2 a3 a4 x S1 H
  have H : b_X12_childLike_0 n d (f_X12_childLike n) S a1 a2 a3 a4 = some (x, S1) := H
  unfold b_X12_childLike_0 at H
  refine GA.iload_n dX12_childLike_0 rfl ?_
  refine GA.iconst dX12_childLike_1 ?_
  obtain ⟨x1, hx2, H⟩ := gv_e H
  refine GV.iadd hx2 dX12_childLike_2 ?_
  refine GA.istore dX12_childLike_3 (by decide) ?_
  refine GA.iconst dX12_childLike_5 ?_
  refine GA.istore dX12_childLike_6 (by decide) ?_
  refine GA.locals [(0, .ref (L 500)), (1, .int (J a1)), (2, .int (J a2)), (3, .int (J a3)), (4, .int (J a4)), (5, .int (J x1)), (6, .int (J 0))] ⟨rfl, rfl, rfl, rfl, rfl, rfl, rfl, trivial⟩ ?_
  exact ih_X12_childLike_8 hL _ _ (a1) (a2) (a3) (a4) (x1) (0) _ _ H
set_option maxHeartbeats 4000000 in
set_option maxRecDepth 20000 in
theorem t_X12_childLike_8 {l : Launch} {Z : XZ} {L : Nat → Nat} (n : Nat) (ih_X12_childLike_0 : P_X12_childLike_0 l Z L n) (ih_X12_childLike_8 : P_X12_childLike_8 l Z L n) : P_X12_childLike_8 l Z L (n + 1) := by
  intro hL d S a1 a2 a3 a4 a5 a6 x S1 H
  have H : b_X12_childLike_8 n d (f_X12_childLike n) S a1 a2 a3 a4 a5 a6 = some (x, S1) := H
  unfold b_X12_childLike_8 at H
  refine GA.iload dX12_childLike_8 rfl ?_
  refine GA.aload_n dX12_childLike_10 rfl ?_
  refine GA.iload_n dX12_childLike_11 rfl ?_
  refine GA.iload_n dX12_childLike_12 rfl ?_
  refine GA.iconst dX12_childLike_13 ?_
  obtain ⟨hg1, H⟩ := gg_e H
  obtain ⟨x2, S_3, hc4, H⟩ := gc_e H
  refine GA.callV (m_X12_part hL hc4) xs_X12_36 dX12_childLike_14 (gs_500 hL) (by decide) rfl rfl (by omega) (by decide) rfl (Nat.le_of_ble_eq_true rfl) (by omega) (by omega) rfl (fun E S9 hx => hx.elim) (fun v S9 hq => ?_)
  obtain ⟨rfl, rfl⟩ := hq
  obtain ⟨hg5, H⟩ := gg_e H
  obtain ⟨hg6, H⟩ := gg_e H
  refine GV.icmp_ge (tgt := 51) hg5 hg6 dX12_childLike_17 (by decide) (fun c7 => ?_) (fun c7 => ?_)
  · have H := it_t H c7
    refine GA.iconst dX12_childLike_51 ?_
    cases H
    exact GA.iret rfl dX12_childLike_52 (by omega) (by omega) ⟨rfl, rfl⟩
  · have H := it_f H c7
    refine GA.aload_n dX12_childLike_20 rfl ?_
    refine GA.iload_n dX12_childLike_21 rfl ?_
    refine GA.iload dX12_childLike_22 rfl ?_
    refine GA.iload_n dX12_childLike_24 rfl ?_
    refine GA.iload dX12_childLike_25 rfl ?_
    obtain ⟨x8, S_9, hc10, H⟩ := gc_e H
    refine GA.callV (m_X12_byKeys hL hc10) xs_X12_62 dX12_childLike_27 (gs_500 hL) (by decide) rfl rfl (by omega) (by decide) rfl (Nat.le_of_ble_eq_true rfl) (by omega) (by omega) rfl (fun E S9 hx => hx.elim) (fun v S9 hq => ?_)
    obtain ⟨rfl, rfl⟩ := hq
    obtain ⟨hg11, H⟩ := gg_e H
    refine GV.if_ne (tgt := 36) hg11 dX12_childLike_30 (by decide) (fun c12 => ?_) (fun c12 => ?_)
    · have H := it_t H c12
      refine GA.aload_n dX12_childLike_36 rfl ?_
      refine GA.iload_n dX12_childLike_37 rfl ?_
      refine GA.iload dX12_childLike_38 rfl ?_
      obtain ⟨x13, S_14, hc15, H⟩ := gc_e H
      refine GA.callV (m_X12_endOf hL hc15) xs_X12_49 dX12_childLike_40 (gs_500 hL) (by decide) rfl rfl (by omega) (by decide) rfl (Nat.le_of_ble_eq_true rfl) (by omega) (by omega) rfl (fun E S9 hx => hx.elim) (fun v S9 hq => ?_)
      obtain ⟨rfl, rfl⟩ := hq
      refine GA.istore dX12_childLike_43 (by decide) ?_
      obtain ⟨x16, hx17, H⟩ := gv_e H
      refine GV.iinc hx17 dX12_childLike_45 rfl (by decide) ?_
      refine GA.goto (tgt := 8) dX12_childLike_48 (by decide) ?_
      refine GA.locals [(0, .ref (L 500)), (1, .int (J a1)), (2, .int (J a2)), (3, .int (J a3)), (4, .int (J a4)), (5, .int (J x13)), (6, .int (J x16))] ⟨rfl, rfl, rfl, rfl, rfl, rfl, rfl, trivial⟩ ?_
      exact ih_X12_childLike_8 hL _ _ (a1) (a2) (a3) (a4) (x13) (x16) _ _ H
    · have H := it_f H c12
      refine GA.iload dX12_childLike_33 rfl ?_
      cases H
      exact GA.iret rfl dX12_childLike_35 (by omega) (by omega) ⟨rfl, rfl⟩
theorem g_X12_childLike {l : Launch} {Z : XZ} {L : Nat → Nat} : ∀ n, P_X12_childLike_0 l Z L n ∧ P_X12_childLike_8 l Z L n
  | 0 => ⟨fun _ _ _ _ _ _ _ _ _ H => no_e H, fun _ _ _ _ _ _ _ _ _ _ _ H => no_e H⟩
  | n + 1 => have ⟨h0, h1⟩ := g_X12_childLike (l := l) (Z := Z) (L := L) n
    ⟨t_X12_childLike_0 n h0 h1, t_X12_childLike_8 n h0 h1⟩
theorem m_X12_childLike {l : Launch} {Z : XZ} {L : Nat → Nat} (hL : L 700 = 1) {n d : Nat} {S : GS} {a1 : Int} {a2 : Int} {a3 : Int} {a4 : Int} {x : Int} {S1 : GS} (H : f_X12_childLike n d 0 S [a1, a2, a3, a4] = some (x, S1)) : GM l Z L yX12_childLike cX12_childLike 7 (some .int) [] d 0 0 [.ref (L 500), .int (J a1), .int (J a2), .int (J a3), .int (J a4)] S (fun v S' => v = some (.int (J x)) ∧ S1 = S') (fun _ _ => False) := GM.of (by decide) (Nat.le_of_ble_eq_true rfl) ((g_X12_childLike n).1 hL _ _ _ _ _ _ _ _ H)

def P_X12_puts_0 (l : Launch) (Z : XZ) (L : Nat → Nat) (n : Nat) : Prop := ∀ (hL : L 700 = 1), ∀ (d : Nat) (S : GS) (a1 : Int) (a2 : Int) (x : Int) (S1 : GS), f_X12_puts n d 0 S [a1, a2] = some (x, S1) → GA l Z L yX12_puts cX12_puts 3 none [] d 0 0 (fun v S' => v = none ∧ S1 = S') (fun _ _ => False) 0 (gl [(0, .ref (L 500)), (1, .int (J a1)), (2, .int (J a2))]) [] S 0 0
theorem i_X12_puts {l : Launch} {Z : XZ} {L : Nat → Nat} (hL : L 700 = 1) {n : Nat} (ih : P_X12_puts_0 l Z L n) {d : Nat} {S : GS} {a1 : Int} {a2 : Int} {x : Int} {S1 : GS} (H : f_X12_puts n d 0 S [a1, a2] = some (x, S1)) : GM l Z L yX12_puts cX12_puts 3 none [] d 0 0 [.ref (L 500), .int (J a1), .int (J a2)] S (fun v S' => v = none ∧ S1 = S') (fun _ _ => False) := GM.of (by decide) (Nat.le_of_ble_eq_true rfl) (ih hL _ _ _ _ _ _ H)
set_option maxHeartbeats 4000000 in
set_option maxRecDepth 20000 in
theorem t_X12_puts_0 {l : Launch} {Z : XZ} {L : Nat → Nat} (n : Nat) (ih_X12_puts_0 : P_X12_puts_0 l Z L n) : P_X12_puts_0 l Z L (n + 1) := by
  intro hL d S a1 a2 x S1 H
  have H : b_X12_puts_0 n d (f_X12_puts n) S a1 a2 = some (x, S1) := H
  unfold b_X12_puts_0 at H
  refine GA.aload_n dX12_puts_0 rfl ?_
  refine GA.get xf_X12_269 dX12_puts_1 (gs_500 hL) (by decide) rfl ?_
  refine GA.ldc (v := 40000) xc_X12_91 dX12_puts_4 ?_
  refine GA.iload_n dX12_puts_6 rfl ?_
  obtain ⟨x1, hx2, H⟩ := gv_e H
  refine GV.imul hx2 dX12_puts_7 ?_
  refine GA.aload_n dX12_puts_8 rfl ?_
  refine GA.get xf_X12_272 dX12_puts_9 (gs_500 hL) (by decide) rfl ?_
  refine GA.iload_n dX12_puts_12 rfl ?_
  obtain ⟨hg3, H⟩ := gg_e H
  obtain ⟨x4, hx5, H⟩ := gv_e H
  refine GV.iald hg3 hx5 dX12_puts_13 (gs_517 hL) (by decide) ?_
  obtain ⟨x6, hx7, H⟩ := gv_e H
  refine GV.iadd hx7 dX12_puts_14 ?_
  refine GA.iload_n dX12_puts_15 rfl ?_
  obtain ⟨hg8, H⟩ := gg_e H
  obtain ⟨S_9, hx10, H⟩ := gv_e H
  refine GV.iast hg8 hx10 dX12_puts_16 (fun _ => (gs_516 hL)) (by decide) ?_
  refine GA.aload_n dX12_puts_17 rfl ?_
  refine GA.get xf_X12_272 dX12_puts_18 (gs_500 hL) (by decide) rfl ?_
  refine GA.iload_n dX12_puts_21 rfl ?_
  refine GA.dup2 dX12_puts_22 rfl rfl ?_
  obtain ⟨x11, hx12, H⟩ := gv_e H
  refine GV.iald hg3 hx12 dX12_puts_23 (gs_517 hL) (by decide) ?_
  refine GA.iconst dX12_puts_24 ?_
  obtain ⟨x13, hx14, H⟩ := gv_e H
  refine GV.iadd hx14 dX12_puts_25 ?_
  obtain ⟨S_15, hx16, H⟩ := gv_e H
  refine GV.iast hg3 hx16 dX12_puts_26 (fun _ => (gs_517 hL)) (by decide) ?_
  cases H
  exact GA.vret rfl dX12_puts_27 (by omega) (by omega) ⟨rfl, rfl⟩
theorem g_X12_puts {l : Launch} {Z : XZ} {L : Nat → Nat} : ∀ n, P_X12_puts_0 l Z L n
  | 0 => fun _ _ _ _ _ _ _ H => no_e H
  | n + 1 => t_X12_puts_0 n (g_X12_puts n)
theorem m_X12_puts {l : Launch} {Z : XZ} {L : Nat → Nat} (hL : L 700 = 1) {n d : Nat} {S : GS} {a1 : Int} {a2 : Int} {x : Int} {S1 : GS} (H : f_X12_puts n d 0 S [a1, a2] = some (x, S1)) : GM l Z L yX12_puts cX12_puts 3 none [] d 0 0 [.ref (L 500), .int (J a1), .int (J a2)] S (fun v S' => v = none ∧ S1 = S') (fun _ _ => False) := GM.of (by decide) (Nat.le_of_ble_eq_true rfl) ((g_X12_puts n) hL _ _ _ _ _ _ H)

def P_X12_kind_0 (l : Launch) (Z : XZ) (L : Nat → Nat) (n : Nat) : Prop := ∀ (hL : L 700 = 1), ∀ (d : Nat) (S : GS) (a1 : Int) (a2 : Int) (x : Int) (S1 : GS), f_X12_kind n d 0 S [a1, a2] = some (x, S1) → GA l Z L yX12_kind cX12_kind 3 (some .int) [] d 0 0 (fun v S' => v = some (.int (J x)) ∧ S1 = S') (fun _ _ => False) 0 (gl [(0, .ref (L 500)), (1, .int (J a1)), (2, .int (J a2))]) [] S 0 0
theorem i_X12_kind {l : Launch} {Z : XZ} {L : Nat → Nat} (hL : L 700 = 1) {n : Nat} (ih : P_X12_kind_0 l Z L n) {d : Nat} {S : GS} {a1 : Int} {a2 : Int} {x : Int} {S1 : GS} (H : f_X12_kind n d 0 S [a1, a2] = some (x, S1)) : GM l Z L yX12_kind cX12_kind 3 (some .int) [] d 0 0 [.ref (L 500), .int (J a1), .int (J a2)] S (fun v S' => v = some (.int (J x)) ∧ S1 = S') (fun _ _ => False) := GM.of (by decide) (Nat.le_of_ble_eq_true rfl) (ih hL _ _ _ _ _ _ H)
set_option maxHeartbeats 4000000 in
set_option maxRecDepth 20000 in
theorem t_X12_kind_0 {l : Launch} {Z : XZ} {L : Nat → Nat} (n : Nat) (ih_X12_kind_0 : P_X12_kind_0 l Z L n) : P_X12_kind_0 l Z L (n + 1) := by
  intro hL d S a1 a2 x S1 H
  have H : b_X12_kind_0 n d (f_X12_kind n) S a1 a2 = some (x, S1) := H
  unfold b_X12_kind_0 at H
  refine GA.aload_n dX12_kind_0 rfl ?_
  refine GA.get xf_X12_7 dX12_kind_1 (gs_500 hL) (by decide) rfl ?_
  refine GA.iload_n dX12_kind_4 rfl ?_
  refine GA.iload_n dX12_kind_5 rfl ?_
  obtain ⟨hg1, H⟩ := gg_e H
  obtain ⟨x2, S_3, hc4, H⟩ := gc_e H
  refine GA.callS (m_X12_at hL hc4) xs_X12_11 dX12_kind_6 rfl (by omega) (by decide) rfl (Nat.le_of_ble_eq_true rfl) (by omega) (by omega) rfl (fun E S9 hx => hx.elim) (fun v S9 hq => ?_)
  obtain ⟨rfl, rfl⟩ := hq
  obtain ⟨hg5, H⟩ := gg_e H
  obtain ⟨x6, hx7, H⟩ := gv_e H
  refine GV.iald hg5 hx7 dX12_kind_9 (gs_501 hL) (by decide) ?_
  cases H
  exact GA.iret rfl dX12_kind_10 (by omega) (by omega) ⟨rfl, rfl⟩
theorem g_X12_kind {l : Launch} {Z : XZ} {L : Nat → Nat} : ∀ n, P_X12_kind_0 l Z L n
  | 0 => fun _ _ _ _ _ _ _ H => no_e H
  | n + 1 => t_X12_kind_0 n (g_X12_kind n)
theorem m_X12_kind {l : Launch} {Z : XZ} {L : Nat → Nat} (hL : L 700 = 1) {n d : Nat} {S : GS} {a1 : Int} {a2 : Int} {x : Int} {S1 : GS} (H : f_X12_kind n d 0 S [a1, a2] = some (x, S1)) : GM l Z L yX12_kind cX12_kind 3 (some .int) [] d 0 0 [.ref (L 500), .int (J a1), .int (J a2)] S (fun v S' => v = some (.int (J x)) ∧ S1 = S') (fun _ _ => False) := GM.of (by decide) (Nat.le_of_ble_eq_true rfl) ((g_X12_kind n) hL _ _ _ _ _ _ H)

def P_X12_putsInt_0 (l : Launch) (Z : XZ) (L : Nat → Nat) (n : Nat) : Prop := ∀ (hL : L 700 = 1), ∀ (d : Nat) (S : GS) (a1 : Int) (a2 : Int) (x : Int) (S1 : GS), f_X12_putsInt n d 0 S [a1, a2] = some (x, S1) → GA l Z L yX12_putsInt cX12_putsInt 4 none [] d 0 0 (fun v S' => v = none ∧ S1 = S') (fun _ _ => False) 0 (gl [(0, .ref (L 500)), (1, .int (J a1)), (2, .int (J a2))]) [] S 0 0
def P_X12_putsInt_21 (l : Launch) (Z : XZ) (L : Nat → Nat) (n : Nat) : Prop := ∀ (hL : L 700 = 1), ∀ (d : Nat) (S : GS) (a1 : Int) (s0 : Int) (x : Int) (S1 : GS), f_X12_putsInt n d 21 S [a1, s0] = some (x, S1) → GA l Z L yX12_putsInt cX12_putsInt 4 none [] d 0 0 (fun v S' => v = none ∧ S1 = S') (fun _ _ => False) 21 (gl [(0, .ref (L 500)), (1, .int (J a1))]) [.int (J s0)] S 0 0
def P_X12_putsInt_40 (l : Launch) (Z : XZ) (L : Nat → Nat) (n : Nat) : Prop := ∀ (hL : L 700 = 1), ∀ (d : Nat) (S : GS) (a1 : Int) (a3 : Int) (x : Int) (S1 : GS), f_X12_putsInt n d 40 S [a1, a3] = some (x, S1) → GA l Z L yX12_putsInt cX12_putsInt 4 none [] d 0 0 (fun v S' => v = none ∧ S1 = S') (fun _ _ => False) 40 (gl [(0, .ref (L 500)), (1, .int (J a1)), (3, .int (J a3))]) [] S 0 0
theorem i_X12_putsInt {l : Launch} {Z : XZ} {L : Nat → Nat} (hL : L 700 = 1) {n : Nat} (ih : P_X12_putsInt_0 l Z L n) {d : Nat} {S : GS} {a1 : Int} {a2 : Int} {x : Int} {S1 : GS} (H : f_X12_putsInt n d 0 S [a1, a2] = some (x, S1)) : GM l Z L yX12_putsInt cX12_putsInt 4 none [] d 0 0 [.ref (L 500), .int (J a1), .int (J a2)] S (fun v S' => v = none ∧ S1 = S') (fun _ _ => False) := GM.of (by decide) (Nat.le_of_ble_eq_true rfl) (ih hL _ _ _ _ _ _ H)
set_option maxHeartbeats 4000000 in
set_option maxRecDepth 20000 in
theorem t_X12_putsInt_0 {l : Launch} {Z : XZ} {L : Nat → Nat} (n : Nat) (ih_X12_putsInt_0 : P_X12_putsInt_0 l Z L n) (ih_X12_putsInt_21 : P_X12_putsInt_21 l Z L n) (ih_X12_putsInt_40 : P_X12_putsInt_40 l Z L n) : P_X12_putsInt_0 l Z L (n + 1) := by
  intro hL d S a1 a2 x S1 H
  have H : b_X12_putsInt_0 n d (f_X12_putsInt n) S a1 a2 = some (x, S1) := H
  unfold b_X12_putsInt_0 at H
  refine GA.iload_n dX12_putsInt_0 rfl ?_
  obtain ⟨hg1, H⟩ := gg_e H
  refine GV.if_ge (tgt := 11) hg1 dX12_putsInt_1 (by decide) (fun c2 => ?_) (fun c2 => ?_)
  · have H := it_t H c2
    refine GA.iload_n dX12_putsInt_11 rfl ?_
    refine GV.if_ge (tgt := 20) hg1 dX12_putsInt_12 (by decide) (fun c3 => ?_) (fun c3 => ?_)
    · have H := it_t H c3
      refine GA.iload_n dX12_putsInt_20 rfl ?_
      refine GA.locals [(0, .ref (L 500)), (1, .int (J a1))] ⟨rfl, rfl, trivial⟩ ?_
      exact ih_X12_putsInt_21 hL _ _ (a1) (a2) _ _ H
    · have H := it_f H c3
      refine GA.iload_n dX12_putsInt_15 rfl ?_
      obtain ⟨x4, hx5, H⟩ := gv_e H
      refine GV.ineg hx5 dX12_putsInt_16 ?_
      refine GA.goto (tgt := 21) dX12_putsInt_17 (by decide) ?_
      refine GA.locals [(0, .ref (L 500)), (1, .int (J a1))] ⟨rfl, rfl, trivial⟩ ?_
      exact ih_X12_putsInt_21 hL _ _ (a1) (x4) _ _ H
  · have H := it_f H c2
    refine GA.aload_n dX12_putsInt_4 rfl ?_
    refine GA.iload_n dX12_putsInt_5 rfl ?_
    refine GA.bipush dX12_putsInt_6 rfl ?_
    obtain ⟨hg6, H⟩ := gg_e H
    obtain ⟨x7, S_8, hc9, H⟩ := gc_e H
    refine GA.callV (m_X12_puts hL hc9) xs_X12_551 dX12_putsInt_8 (gs_500 hL) (by decide) rfl rfl (by omega) (by decide) rfl (Nat.le_of_ble_eq_true rfl) (by omega) (by omega) rfl (fun E S9 hx => hx.elim) (fun v S9 hq => ?_)
    obtain ⟨rfl, rfl⟩ := hq
    refine GA.iload_n dX12_putsInt_11 rfl ?_
    refine GV.if_ge (tgt := 20) hg1 dX12_putsInt_12 (by decide) (fun c10 => ?_) (fun c10 => ?_)
    · have H := it_t H c10
      refine GA.iload_n dX12_putsInt_20 rfl ?_
      refine GA.locals [(0, .ref (L 500)), (1, .int (J a1))] ⟨rfl, rfl, trivial⟩ ?_
      exact ih_X12_putsInt_21 hL _ _ (a1) (a2) _ _ H
    · have H := it_f H c10
      refine GA.iload_n dX12_putsInt_15 rfl ?_
      obtain ⟨x11, hx12, H⟩ := gv_e H
      refine GV.ineg hx12 dX12_putsInt_16 ?_
      refine GA.goto (tgt := 21) dX12_putsInt_17 (by decide) ?_
      refine GA.locals [(0, .ref (L 500)), (1, .int (J a1))] ⟨rfl, rfl, trivial⟩ ?_
      exact ih_X12_putsInt_21 hL _ _ (a1) (x11) _ _ H
set_option maxHeartbeats 4000000 in
set_option maxRecDepth 20000 in
theorem t_X12_putsInt_21 {l : Launch} {Z : XZ} {L : Nat → Nat} (n : Nat) (ih_X12_putsInt_0 : P_X12_putsInt_0 l Z L n) (ih_X12_putsInt_21 : P_X12_putsInt_21 l Z L n) (ih_X12_putsInt_40 : P_X12_putsInt_40 l Z L n) : P_X12_putsInt_21 l Z L (n + 1) := by
  intro hL d S a1 s0 x S1 H
  have H : b_X12_putsInt_21 n d (f_X12_putsInt n) S a1 s0 = some (x, S1) := H
  unfold b_X12_putsInt_21 at H
  refine GA.istore_n dX12_putsInt_21 (by decide) ?_
  refine GA.iload_n dX12_putsInt_22 rfl ?_
  refine GA.bipush dX12_putsInt_23 rfl ?_
  obtain ⟨hg1, H⟩ := gg_e H
  refine GV.icmp_le (tgt := 40) hg1 (by decide) dX12_putsInt_25 (by decide) (fun c2 => ?_) (fun c2 => ?_)
  · have H := it_t H c2
    refine GA.locals [(0, .ref (L 500)), (1, .int (J a1)), (3, .int (J s0))] ⟨rfl, rfl, rfl, trivial⟩ ?_
    exact ih_X12_putsInt_40 hL _ _ (a1) (s0) _ _ H
  · have H := it_f H c2
    refine GA.aload_n dX12_putsInt_28 rfl ?_
    refine GA.iload_n dX12_putsInt_29 rfl ?_
    refine GA.bipush dX12_putsInt_30 rfl ?_
    refine GA.iload_n dX12_putsInt_32 rfl ?_
    refine GA.bipush dX12_putsInt_33 rfl ?_
    obtain ⟨hg3, H⟩ := gg_e H
    obtain ⟨x4, hx5, H⟩ := gv_e H
    refine GV.idiv hg3 hx5 dX12_putsInt_35 ?_
    obtain ⟨x6, hx7, H⟩ := gv_e H
    refine GV.iadd hx7 dX12_putsInt_36 ?_
    obtain ⟨hg8, H⟩ := gg_e H
    obtain ⟨x9, S_10, hc11, H⟩ := gc_e H
    refine GA.callV (m_X12_puts hL hc11) xs_X12_551 dX12_putsInt_37 (gs_500 hL) (by decide) rfl rfl (by omega) (by decide) rfl (Nat.le_of_ble_eq_true rfl) (by omega) (by omega) rfl (fun E S9 hx => hx.elim) (fun v S9 hq => ?_)
    obtain ⟨rfl, rfl⟩ := hq
    refine GA.locals [(0, .ref (L 500)), (1, .int (J a1)), (3, .int (J s0))] ⟨rfl, rfl, rfl, trivial⟩ ?_
    exact ih_X12_putsInt_40 hL _ _ (a1) (s0) _ _ H
set_option maxHeartbeats 4000000 in
set_option maxRecDepth 20000 in
theorem t_X12_putsInt_40 {l : Launch} {Z : XZ} {L : Nat → Nat} (n : Nat) (ih_X12_putsInt_0 : P_X12_putsInt_0 l Z L n) (ih_X12_putsInt_21 : P_X12_putsInt_21 l Z L n) (ih_X12_putsInt_40 : P_X12_putsInt_40 l Z L n) : P_X12_putsInt_40 l Z L (n + 1) := by
  intro hL d S a1 a3 x S1 H
  have H : b_X12_putsInt_40 n d (f_X12_putsInt n) S a1 a3 = some (x, S1) := H
  unfold b_X12_putsInt_40 at H
  refine GA.aload_n dX12_putsInt_40 rfl ?_
  refine GA.iload_n dX12_putsInt_41 rfl ?_
  refine GA.bipush dX12_putsInt_42 rfl ?_
  refine GA.iload_n dX12_putsInt_44 rfl ?_
  refine GA.bipush dX12_putsInt_45 rfl ?_
  obtain ⟨hg1, H⟩ := gg_e H
  obtain ⟨x2, hx3, H⟩ := gv_e H
  refine GV.irem hg1 hx3 dX12_putsInt_47 ?_
  obtain ⟨x4, hx5, H⟩ := gv_e H
  refine GV.iadd hx5 dX12_putsInt_48 ?_
  obtain ⟨hg6, H⟩ := gg_e H
  obtain ⟨x7, S_8, hc9, H⟩ := gc_e H
  refine GA.callV (m_X12_puts hL hc9) xs_X12_551 dX12_putsInt_49 (gs_500 hL) (by decide) rfl rfl (by omega) (by decide) rfl (Nat.le_of_ble_eq_true rfl) (by omega) (by omega) rfl (fun E S9 hx => hx.elim) (fun v S9 hq => ?_)
  obtain ⟨rfl, rfl⟩ := hq
  cases H
  exact GA.vret rfl dX12_putsInt_52 (by omega) (by omega) ⟨rfl, rfl⟩
theorem g_X12_putsInt {l : Launch} {Z : XZ} {L : Nat → Nat} : ∀ n, P_X12_putsInt_0 l Z L n ∧ P_X12_putsInt_21 l Z L n ∧ P_X12_putsInt_40 l Z L n
  | 0 => ⟨fun _ _ _ _ _ _ _ H => no_e H, fun _ _ _ _ _ _ _ H => no_e H, fun _ _ _ _ _ _ _ H => no_e H⟩
  | n + 1 => have ⟨h0, h1, h2⟩ := g_X12_putsInt (l := l) (Z := Z) (L := L) n
    ⟨t_X12_putsInt_0 n h0 h1 h2, t_X12_putsInt_21 n h0 h1 h2, t_X12_putsInt_40 n h0 h1 h2⟩
theorem m_X12_putsInt {l : Launch} {Z : XZ} {L : Nat → Nat} (hL : L 700 = 1) {n d : Nat} {S : GS} {a1 : Int} {a2 : Int} {x : Int} {S1 : GS} (H : f_X12_putsInt n d 0 S [a1, a2] = some (x, S1)) : GM l Z L yX12_putsInt cX12_putsInt 4 none [] d 0 0 [.ref (L 500), .int (J a1), .int (J a2)] S (fun v S' => v = none ∧ S1 = S') (fun _ _ => False) := GM.of (by decide) (Nat.le_of_ble_eq_true rfl) ((g_X12_putsInt n).1 hL _ _ _ _ _ _ H)

def P_X12_putsStep_0 (l : Launch) (Z : XZ) (L : Nat → Nat) (n : Nat) : Prop := ∀ (hL : L 700 = 1), ∀ (d : Nat) (S : GS) (a1 : Int) (a2 : Int) (x : Int) (S1 : GS), f_X12_putsStep n d 0 S [a1, a2] = some (x, S1) → GA l Z L yX12_putsStep cX12_putsStep 5 none [] d 0 0 (fun v S' => v = none ∧ S1 = S') (fun _ _ => False) 0 (gl [(0, .ref (L 500)), (1, .int (J a1)), (2, .int (J a2))]) [] S 0 0
def P_X12_putsStep_38 (l : Launch) (Z : XZ) (L : Nat → Nat) (n : Nat) : Prop := ∀ (hL : L 700 = 1), ∀ (d : Nat) (S : GS) (a1 : Int) (a2 : Int) (a3 : Int) (x : Int) (S1 : GS), f_X12_putsStep n d 38 S [a1, a2, a3] = some (x, S1) → GA l Z L yX12_putsStep cX12_putsStep 5 none [] d 0 0 (fun v S' => v = none ∧ S1 = S') (fun _ _ => False) 38 (gl [(0, .ref (L 500)), (1, .int (J a1)), (2, .int (J a2)), (3, .int (J a3))]) [] S 0 0
def P_X12_putsStep_84 (l : Launch) (Z : XZ) (L : Nat → Nat) (n : Nat) : Prop := ∀ (hL : L 700 = 1), ∀ (d : Nat) (S : GS) (a1 : Int) (a2 : Int) (a3 : Int) (a4 : Int) (s0 : Int) (s1 : Int) (x : Int) (S1 : GS), f_X12_putsStep n d 84 S [a1, a2, a3, a4, s0, s1] = some (x, S1) → GA l Z L yX12_putsStep cX12_putsStep 5 none [] d 0 0 (fun v S' => v = none ∧ S1 = S') (fun _ _ => False) 84 (gl [(0, .ref (L 500)), (1, .int (J a1)), (2, .int (J a2)), (3, .int (J a3)), (4, .int (J a4))]) [.int (J s0), .int (J s1), .ref (L 500)] S 0 0
def P_X12_putsStep_101 (l : Launch) (Z : XZ) (L : Nat → Nat) (n : Nat) : Prop := ∀ (hL : L 700 = 1), ∀ (d : Nat) (S : GS) (a1 : Int) (a2 : Int) (a3 : Int) (a4 : Int) (x : Int) (S1 : GS), f_X12_putsStep n d 101 S [a1, a2, a3, a4] = some (x, S1) → GA l Z L yX12_putsStep cX12_putsStep 5 none [] d 0 0 (fun v S' => v = none ∧ S1 = S') (fun _ _ => False) 101 (gl [(0, .ref (L 500)), (1, .int (J a1)), (2, .int (J a2)), (3, .int (J a3)), (4, .int (J a4))]) [] S 0 0
theorem i_X12_putsStep {l : Launch} {Z : XZ} {L : Nat → Nat} (hL : L 700 = 1) {n : Nat} (ih : P_X12_putsStep_0 l Z L n) {d : Nat} {S : GS} {a1 : Int} {a2 : Int} {x : Int} {S1 : GS} (H : f_X12_putsStep n d 0 S [a1, a2] = some (x, S1)) : GM l Z L yX12_putsStep cX12_putsStep 5 none [] d 0 0 [.ref (L 500), .int (J a1), .int (J a2)] S (fun v S' => v = none ∧ S1 = S') (fun _ _ => False) := GM.of (by decide) (Nat.le_of_ble_eq_true rfl) (ih hL _ _ _ _ _ _ H)
set_option maxHeartbeats 4000000 in
set_option maxRecDepth 20000 in
theorem t_X12_putsStep_0 {l : Launch} {Z : XZ} {L : Nat → Nat} (n : Nat) (ih_X12_putsStep_0 : P_X12_putsStep_0 l Z L n) (ih_X12_putsStep_38 : P_X12_putsStep_38 l Z L n) (ih_X12_putsStep_84 : P_X12_putsStep_84 l Z L n) (ih_X12_putsStep_101 : P_X12_putsStep_101 l Z L n) : P_X12_putsStep_0 l Z L (n + 1) := by
  intro hL d S a1 a2 x S1 H
  have H : b_X12_putsStep_0 n d (f_X12_putsStep n) S a1 a2 = some (x, S1) := H
  unfold b_X12_putsStep_0 at H
  refine GA.aload_n dX12_putsStep_0 rfl ?_
  refine GA.iconst dX12_putsStep_1 ?_
  refine GA.bipush dX12_putsStep_2 rfl ?_
  obtain ⟨hg1, H⟩ := gg_e H
  obtain ⟨x2, S_3, hc4, H⟩ := gc_e H
  refine GA.callV (m_X12_puts hL hc4) xs_X12_551 dX12_putsStep_4 (gs_500 hL) (by decide) rfl rfl (by omega) (by decide) rfl (Nat.le_of_ble_eq_true rfl) (by omega) (by omega) rfl (fun E S9 hx => hx.elim) (fun v S9 hq => ?_)
  obtain ⟨rfl, rfl⟩ := hq
  refine GA.aload_n dX12_putsStep_7 rfl ?_
  refine GA.iload_n dX12_putsStep_8 rfl ?_
  refine GA.aload_n dX12_putsStep_9 rfl ?_
  refine GA.iload_n dX12_putsStep_10 rfl ?_
  refine GA.iload_n dX12_putsStep_11 rfl ?_
  refine GA.iconst dX12_putsStep_12 ?_
  obtain ⟨x5, S_6, hc7, H⟩ := gc_e H
  refine GA.callV (m_X12_part hL hc7) xs_X12_36 dX12_putsStep_13 (gs_500 hL) (by decide) rfl rfl (by omega) (by decide) rfl (Nat.le_of_ble_eq_true rfl) (by omega) (by omega) rfl (fun E S9 hx => hx.elim) (fun v S9 hq => ?_)
  obtain ⟨rfl, rfl⟩ := hq
  obtain ⟨x8, S_9, hc10, H⟩ := gc_e H
  refine GA.callV (m_X12_kind hL hc10) xs_X12_52 dX12_putsStep_16 (gs_500 hL) (by decide) rfl rfl (by omega) (by decide) rfl (Nat.le_of_ble_eq_true rfl) (by omega) (by omega) rfl (fun E S9 hx => hx.elim) (fun v S9 hq => ?_)
  obtain ⟨rfl, rfl⟩ := hq
  refine GA.iconst dX12_putsStep_19 ?_
  obtain ⟨hg11, H⟩ := gg_e H
  refine GV.icmp_ne (tgt := 36) hg11 (by decide) dX12_putsStep_20 (by decide) (fun c12 => ?_) (fun c12 => ?_)
  · have H := it_t H c12
    refine GA.iconst dX12_putsStep_36 ?_
    refine GA.istore_n dX12_putsStep_37 (by decide) ?_
    refine GA.locals [(0, .ref (L 500)), (1, .int (J a1)), (2, .int (J a2)), (3, .int (J 0))] ⟨rfl, rfl, rfl, rfl, trivial⟩ ?_
    exact ih_X12_putsStep_38 hL _ _ (a1) (a2) (0) _ _ H
  · have H := it_f H c12
    refine GA.aload_n dX12_putsStep_23 rfl ?_
    refine GA.iconst dX12_putsStep_24 ?_
    refine GA.aload_n dX12_putsStep_25 rfl ?_
    refine GA.iload_n dX12_putsStep_26 rfl ?_
    refine GA.iload_n dX12_putsStep_27 rfl ?_
    refine GA.iconst dX12_putsStep_28 ?_
    obtain ⟨x13, S_14, hc15, H⟩ := gc_e H
    refine GA.callV (m_X12_part hL hc15) xs_X12_36 dX12_putsStep_29 (gs_500 hL) (by decide) rfl rfl (by omega) (by decide) rfl (Nat.le_of_ble_eq_true rfl) (by omega) (by omega) rfl (fun E S9 hx => hx.elim) (fun v S9 hq => ?_)
    obtain ⟨rfl, rfl⟩ := hq
    obtain ⟨x16, S_17, hc18, H⟩ := gc_e H
    refine GA.callV (m_X12_putsInt hL hc18) xs_X12_565 dX12_putsStep_32 (gs_500 hL) (by decide) rfl rfl (by omega) (by decide) rfl (Nat.le_of_ble_eq_true rfl) (by omega) (by omega) rfl (fun E S9 hx => hx.elim) (fun v S9 hq => ?_)
    obtain ⟨rfl, rfl⟩ := hq
    cases H
    exact GA.vret rfl dX12_putsStep_35 (by omega) (by omega) ⟨rfl, rfl⟩
set_option maxHeartbeats 4000000 in
set_option maxRecDepth 20000 in
theorem t_X12_putsStep_38 {l : Launch} {Z : XZ} {L : Nat → Nat} (n : Nat) (ih_X12_putsStep_0 : P_X12_putsStep_0 l Z L n) (ih_X12_putsStep_38 : P_X12_putsStep_38 l Z L n) (ih_X12_putsStep_84 : P_X12_putsStep_84 l Z L n) (ih_X12_putsStep_101 : P_X12_putsStep_101 l Z L n) : P_X12_putsStep_38 l Z L (n + 1) := by
  intro hL d S a1 a2 a3 x S1 H
  have H : b_X12_putsStep_38 n d (f_X12_putsStep n) S a1 a2 a3 = some (x, S1) := H
  unfold b_X12_putsStep_38 at H
  refine GA.iload_n dX12_putsStep_38 rfl ?_
  refine GA.aload_n dX12_putsStep_39 rfl ?_
  refine GA.iload_n dX12_putsStep_40 rfl ?_
  refine GA.iload_n dX12_putsStep_41 rfl ?_
  refine GA.iconst dX12_putsStep_42 ?_
  obtain ⟨hg1, H⟩ := gg_e H
  obtain ⟨x2, S_3, hc4, H⟩ := gc_e H
  refine GA.callV (m_X12_part hL hc4) xs_X12_36 dX12_putsStep_43 (gs_500 hL) (by decide) rfl rfl (by omega) (by decide) rfl (Nat.le_of_ble_eq_true rfl) (by omega) (by omega) rfl (fun E S9 hx => hx.elim) (fun v S9 hq => ?_)
  obtain ⟨rfl, rfl⟩ := hq
  obtain ⟨hg5, H⟩ := gg_e H
  obtain ⟨hg6, H⟩ := gg_e H
  refine GV.icmp_ge (tgt := 126) hg5 hg6 dX12_putsStep_46 (by decide) (fun c7 => ?_) (fun c7 => ?_)
  · have H := it_t H c7
    cases H
    exact GA.vret rfl dX12_putsStep_126 (by omega) (by omega) ⟨rfl, rfl⟩
  · have H := it_f H c7
    refine GA.aload_n dX12_putsStep_49 rfl ?_
    refine GA.iload_n dX12_putsStep_50 rfl ?_
    refine GA.iload_n dX12_putsStep_51 rfl ?_
    refine GA.bipush dX12_putsStep_52 rfl ?_
    refine GA.iload_n dX12_putsStep_54 rfl ?_
    obtain ⟨x8, hx9, H⟩ := gv_e H
    refine GV.iadd hx9 dX12_putsStep_55 ?_
    obtain ⟨x10, S_11, hc12, H⟩ := gc_e H
    refine GA.callV (m_X12_part hL hc12) xs_X12_36 dX12_putsStep_56 (gs_500 hL) (by decide) rfl rfl (by omega) (by decide) rfl (Nat.le_of_ble_eq_true rfl) (by omega) (by omega) rfl (fun E S9 hx => hx.elim) (fun v S9 hq => ?_)
    obtain ⟨rfl, rfl⟩ := hq
    refine GA.istore dX12_putsStep_59 (by decide) ?_
    refine GA.aload_n dX12_putsStep_61 rfl ?_
    refine GA.iconst dX12_putsStep_62 ?_
    refine GA.iload dX12_putsStep_63 rfl ?_
    refine GA.bipush dX12_putsStep_65 rfl ?_
    obtain ⟨hg13, H⟩ := gg_e H
    refine GV.icmp_eq (tgt := 77) hg13 (by decide) dX12_putsStep_67 (by decide) (fun c14 => ?_) (fun c14 => ?_)
    · have H := it_t H c14
      refine GA.bipush dX12_putsStep_77 rfl ?_
      refine GA.goto (tgt := 84) dX12_putsStep_79 (by decide) ?_
      refine GA.locals [(0, .ref (L 500)), (1, .int (J a1)), (2, .int (J a2)), (3, .int (J a3)), (4, .int (J x10))] ⟨rfl, rfl, rfl, rfl, rfl, trivial⟩ ?_
      exact ih_X12_putsStep_84 hL _ _ (a1) (a2) (a3) (x10) (126) (0) _ _ H
    · have H := it_f H c14
      refine GA.iload dX12_putsStep_70 rfl ?_
      refine GA.bipush dX12_putsStep_72 rfl ?_
      refine GV.icmp_ne (tgt := 82) hg13 (by decide) dX12_putsStep_74 (by decide) (fun c15 => ?_) (fun c15 => ?_)
      · have H := it_t H c15
        refine GA.iload dX12_putsStep_82 rfl ?_
        refine GA.locals [(0, .ref (L 500)), (1, .int (J a1)), (2, .int (J a2)), (3, .int (J a3)), (4, .int (J x10))] ⟨rfl, rfl, rfl, rfl, rfl, trivial⟩ ?_
        exact ih_X12_putsStep_84 hL _ _ (a1) (a2) (a3) (x10) (x10) (0) _ _ H
      · have H := it_f H c15
        refine GA.bipush dX12_putsStep_77 rfl ?_
        refine GA.goto (tgt := 84) dX12_putsStep_79 (by decide) ?_
        refine GA.locals [(0, .ref (L 500)), (1, .int (J a1)), (2, .int (J a2)), (3, .int (J a3)), (4, .int (J x10))] ⟨rfl, rfl, rfl, rfl, rfl, trivial⟩ ?_
        exact ih_X12_putsStep_84 hL _ _ (a1) (a2) (a3) (x10) (126) (0) _ _ H
set_option maxHeartbeats 4000000 in
set_option maxRecDepth 20000 in
theorem t_X12_putsStep_84 {l : Launch} {Z : XZ} {L : Nat → Nat} (n : Nat) (ih_X12_putsStep_0 : P_X12_putsStep_0 l Z L n) (ih_X12_putsStep_38 : P_X12_putsStep_38 l Z L n) (ih_X12_putsStep_84 : P_X12_putsStep_84 l Z L n) (ih_X12_putsStep_101 : P_X12_putsStep_101 l Z L n) : P_X12_putsStep_84 l Z L (n + 1) := by
  intro hL d S a1 a2 a3 a4 s0 s1 x S1 H
  have H : b_X12_putsStep_84 n d (f_X12_putsStep n) S a1 a2 a3 a4 s0 s1 = some (x, S1) := H
  unfold b_X12_putsStep_84 at H
  obtain ⟨hg1, H⟩ := gg_e H
  obtain ⟨x2, S_3, hc4, H⟩ := gc_e H
  refine GA.callV (m_X12_puts hL hc4) xs_X12_551 dX12_putsStep_84 (gs_500 hL) (by decide) rfl rfl (by omega) (by decide) rfl (Nat.le_of_ble_eq_true rfl) (by omega) (by omega) rfl (fun E S9 hx => hx.elim) (fun v S9 hq => ?_)
  obtain ⟨rfl, rfl⟩ := hq
  refine GA.iload dX12_putsStep_87 rfl ?_
  refine GA.bipush dX12_putsStep_89 rfl ?_
  obtain ⟨hg5, H⟩ := gg_e H
  refine GV.icmp_eq (tgt := 101) hg5 (by decide) dX12_putsStep_91 (by decide) (fun c6 => ?_) (fun c6 => ?_)
  · have H := it_t H c6
    refine GA.locals [(0, .ref (L 500)), (1, .int (J a1)), (2, .int (J a2)), (3, .int (J a3)), (4, .int (J a4))] ⟨rfl, rfl, rfl, rfl, rfl, trivial⟩ ?_
    exact ih_X12_putsStep_101 hL _ _ (a1) (a2) (a3) (a4) _ _ H
  · have H := it_f H c6
    refine GA.iload dX12_putsStep_94 rfl ?_
    refine GA.bipush dX12_putsStep_96 rfl ?_
    refine GV.icmp_ne (tgt := 120) hg5 (by decide) dX12_putsStep_98 (by decide) (fun c7 => ?_) (fun c7 => ?_)
    · have H := it_t H c7
      obtain ⟨x8, hx9, H⟩ := gv_e H
      refine GV.iinc hx9 dX12_putsStep_120 rfl (by decide) ?_
      refine GA.goto (tgt := 38) dX12_putsStep_123 (by decide) ?_
      refine GA.locals [(0, .ref (L 500)), (1, .int (J a1)), (2, .int (J a2)), (3, .int (J x8))] ⟨rfl, rfl, rfl, rfl, trivial⟩ ?_
      exact ih_X12_putsStep_38 hL _ _ (a1) (a2) (x8) _ _ H
    · have H := it_f H c7
      refine GA.locals [(0, .ref (L 500)), (1, .int (J a1)), (2, .int (J a2)), (3, .int (J a3)), (4, .int (J a4))] ⟨rfl, rfl, rfl, rfl, rfl, trivial⟩ ?_
      exact ih_X12_putsStep_101 hL _ _ (a1) (a2) (a3) (a4) _ _ H
set_option maxHeartbeats 4000000 in
set_option maxRecDepth 20000 in
theorem t_X12_putsStep_101 {l : Launch} {Z : XZ} {L : Nat → Nat} (n : Nat) (ih_X12_putsStep_0 : P_X12_putsStep_0 l Z L n) (ih_X12_putsStep_38 : P_X12_putsStep_38 l Z L n) (ih_X12_putsStep_84 : P_X12_putsStep_84 l Z L n) (ih_X12_putsStep_101 : P_X12_putsStep_101 l Z L n) : P_X12_putsStep_101 l Z L (n + 1) := by
  intro hL d S a1 a2 a3 a4 x S1 H
  have H : b_X12_putsStep_101 n d (f_X12_putsStep n) S a1 a2 a3 a4 = some (x, S1) := H
  unfold b_X12_putsStep_101 at H
  refine GA.aload_n dX12_putsStep_101 rfl ?_
  refine GA.iconst dX12_putsStep_102 ?_
  refine GA.iload dX12_putsStep_103 rfl ?_
  refine GA.bipush dX12_putsStep_105 rfl ?_
  obtain ⟨hg1, H⟩ := gg_e H
  refine GV.icmp_ne (tgt := 115) hg1 (by decide) dX12_putsStep_107 (by decide) (fun c2 => ?_) (fun c2 => ?_)
  · have H := it_t H c2
    refine GA.bipush dX12_putsStep_115 rfl ?_
    obtain ⟨hg3, H⟩ := gg_e H
    obtain ⟨x4, S_5, hc6, H⟩ := gc_e H
    refine GA.callV (m_X12_puts hL hc6) xs_X12_551 dX12_putsStep_117 (gs_500 hL) (by decide) rfl rfl (by omega) (by decide) rfl (Nat.le_of_ble_eq_true rfl) (by omega) (by omega) rfl (fun E S9 hx => hx.elim) (fun v S9 hq => ?_)
    obtain ⟨rfl, rfl⟩ := hq
    obtain ⟨x7, hx8, H⟩ := gv_e H
    refine GV.iinc hx8 dX12_putsStep_120 rfl (by decide) ?_
    refine GA.goto (tgt := 38) dX12_putsStep_123 (by decide) ?_
    refine GA.locals [(0, .ref (L 500)), (1, .int (J a1)), (2, .int (J a2)), (3, .int (J x7))] ⟨rfl, rfl, rfl, rfl, trivial⟩ ?_
    exact ih_X12_putsStep_38 hL _ _ (a1) (a2) (x7) _ _ H
  · have H := it_f H c2
    refine GA.bipush dX12_putsStep_110 rfl ?_
    refine GA.goto (tgt := 117) dX12_putsStep_112 (by decide) ?_
    obtain ⟨hg9, H⟩ := gg_e H
    obtain ⟨x10, S_11, hc12, H⟩ := gc_e H
    refine GA.callV (m_X12_puts hL hc12) xs_X12_551 dX12_putsStep_117 (gs_500 hL) (by decide) rfl rfl (by omega) (by decide) rfl (Nat.le_of_ble_eq_true rfl) (by omega) (by omega) rfl (fun E S9 hx => hx.elim) (fun v S9 hq => ?_)
    obtain ⟨rfl, rfl⟩ := hq
    obtain ⟨x13, hx14, H⟩ := gv_e H
    refine GV.iinc hx14 dX12_putsStep_120 rfl (by decide) ?_
    refine GA.goto (tgt := 38) dX12_putsStep_123 (by decide) ?_
    refine GA.locals [(0, .ref (L 500)), (1, .int (J a1)), (2, .int (J a2)), (3, .int (J x13))] ⟨rfl, rfl, rfl, rfl, trivial⟩ ?_
    exact ih_X12_putsStep_38 hL _ _ (a1) (a2) (x13) _ _ H
theorem g_X12_putsStep {l : Launch} {Z : XZ} {L : Nat → Nat} : ∀ n, P_X12_putsStep_0 l Z L n ∧ P_X12_putsStep_38 l Z L n ∧ P_X12_putsStep_84 l Z L n ∧ P_X12_putsStep_101 l Z L n
  | 0 => ⟨fun _ _ _ _ _ _ _ H => no_e H, fun _ _ _ _ _ _ _ _ H => no_e H, fun _ _ _ _ _ _ _ _ _ _ _ H => no_e H, fun _ _ _ _ _ _ _ _ _ H => no_e H⟩
  | n + 1 => have ⟨h0, h1, h2, h3⟩ := g_X12_putsStep (l := l) (Z := Z) (L := L) n
    ⟨t_X12_putsStep_0 n h0 h1 h2 h3, t_X12_putsStep_38 n h0 h1 h2 h3, t_X12_putsStep_84 n h0 h1 h2 h3, t_X12_putsStep_101 n h0 h1 h2 h3⟩
theorem m_X12_putsStep {l : Launch} {Z : XZ} {L : Nat → Nat} (hL : L 700 = 1) {n d : Nat} {S : GS} {a1 : Int} {a2 : Int} {x : Int} {S1 : GS} (H : f_X12_putsStep n d 0 S [a1, a2] = some (x, S1)) : GM l Z L yX12_putsStep cX12_putsStep 5 none [] d 0 0 [.ref (L 500), .int (J a1), .int (J a2)] S (fun v S' => v = none ∧ S1 = S') (fun _ _ => False) := GM.of (by decide) (Nat.le_of_ble_eq_true rfl) ((g_X12_putsStep n).1 hL _ _ _ _ _ _ H)

def P_X12_putsPath_0 (l : Launch) (Z : XZ) (L : Nat → Nat) (n : Nat) : Prop := ∀ (hL : L 700 = 1), ∀ (d : Nat) (S : GS) (a1 : Int) (a2 : Int) (x : Int) (S1 : GS), f_X12_putsPath n d 0 S [a1, a2] = some (x, S1) → GA l Z L yX12_putsPath cX12_putsPath 5 none [] d 0 0 (fun v S' => v = none ∧ S1 = S') (fun _ _ => False) 0 (gl [(0, .ref (L 500)), (1, .int (J a1)), (2, .int (J a2))]) [] S 0 0
def P_X12_putsPath_5 (l : Launch) (Z : XZ) (L : Nat → Nat) (n : Nat) : Prop := ∀ (hL : L 700 = 1), ∀ (d : Nat) (S : GS) (a1 : Int) (a3 : Int) (a4 : Int) (x : Int) (S1 : GS), f_X12_putsPath n d 5 S [a1, a3, a4] = some (x, S1) → GA l Z L yX12_putsPath cX12_putsPath 5 none [] d 0 0 (fun v S' => v = none ∧ S1 = S') (fun _ _ => False) 5 (gl [(0, .ref (L 500)), (1, .int (J a1)), (3, .int (J a3)), (4, .int (J a4))]) [] S 0 0
def P_X12_putsPath_39 (l : Launch) (Z : XZ) (L : Nat → Nat) (n : Nat) : Prop := ∀ (hL : L 700 = 1), ∀ (d : Nat) (S : GS) (a1 : Int) (a4 : Int) (x : Int) (S1 : GS), f_X12_putsPath n d 39 S [a1, a4] = some (x, S1) → GA l Z L yX12_putsPath cX12_putsPath 5 none [] d 0 0 (fun v S' => v = none ∧ S1 = S') (fun _ _ => False) 39 (gl [(0, .ref (L 500)), (1, .int (J a1)), (4, .int (J a4))]) [] S 0 0
theorem i_X12_putsPath {l : Launch} {Z : XZ} {L : Nat → Nat} (hL : L 700 = 1) {n : Nat} (ih : P_X12_putsPath_0 l Z L n) {d : Nat} {S : GS} {a1 : Int} {a2 : Int} {x : Int} {S1 : GS} (H : f_X12_putsPath n d 0 S [a1, a2] = some (x, S1)) : GM l Z L yX12_putsPath cX12_putsPath 5 none [] d 0 0 [.ref (L 500), .int (J a1), .int (J a2)] S (fun v S' => v = none ∧ S1 = S') (fun _ _ => False) := GM.of (by decide) (Nat.le_of_ble_eq_true rfl) (ih hL _ _ _ _ _ _ H)
set_option maxHeartbeats 4000000 in
set_option maxRecDepth 20000 in
theorem t_X12_putsPath_0 {l : Launch} {Z : XZ} {L : Nat → Nat} (n : Nat) (ih_X12_putsPath_0 : P_X12_putsPath_0 l Z L n) (ih_X12_putsPath_5 : P_X12_putsPath_5 l Z L n) (ih_X12_putsPath_39 : P_X12_putsPath_39 l Z L n) : P_X12_putsPath_0 l Z L (n + 1) := by
  intro hL d S a1 a2 x S1 H
  have H : b_X12_putsPath_0 n d (f_X12_putsPath n) S a1 a2 = some (x, S1) := H
  unfold b_X12_putsPath_0 at H
  refine GA.iconst dX12_putsPath_0 ?_
  refine GA.istore_n dX12_putsPath_1 (by decide) ?_
  refine GA.iload_n dX12_putsPath_2 rfl ?_
  refine GA.istore dX12_putsPath_3 (by decide) ?_
  refine GA.locals [(0, .ref (L 500)), (1, .int (J a1)), (3, .int (J 0)), (4, .int (J a2))] ⟨rfl, rfl, rfl, rfl, trivial⟩ ?_
  exact ih_X12_putsPath_5 hL _ _ (a1) (0) (a2) _ _ H
set_option maxHeartbeats 4000000 in
set_option maxRecDepth 20000 in
theorem t_X12_putsPath_5 {l : Launch} {Z : XZ} {L : Nat → Nat} (n : Nat) (ih_X12_putsPath_0 : P_X12_putsPath_0 l Z L n) (ih_X12_putsPath_5 : P_X12_putsPath_5 l Z L n) (ih_X12_putsPath_39 : P_X12_putsPath_39 l Z L n) : P_X12_putsPath_5 l Z L (n + 1) := by
  intro hL d S a1 a3 a4 x S1 H
  have H : b_X12_putsPath_5 n d (f_X12_putsPath n) S a1 a3 a4 = some (x, S1) := H
  unfold b_X12_putsPath_5 at H
  refine GA.iload dX12_putsPath_5 rfl ?_
  obtain ⟨hg1, H⟩ := gg_e H
  refine GV.if_eq (tgt := 34) hg1 dX12_putsPath_7 (by decide) (fun c2 => ?_) (fun c2 => ?_)
  · have H := it_t H c2
    refine GA.iload_n dX12_putsPath_34 rfl ?_
    refine GA.iconst dX12_putsPath_35 ?_
    obtain ⟨x3, hx4, H⟩ := gv_e H
    refine GV.isub hx4 dX12_putsPath_36 ?_
    refine GA.istore dX12_putsPath_37 (by decide) ?_
    refine GA.locals [(0, .ref (L 500)), (1, .int (J a1)), (4, .int (J x3))] ⟨rfl, rfl, rfl, trivial⟩ ?_
    exact ih_X12_putsPath_39 hL _ _ (a1) (x3) _ _ H
  · have H := it_f H c2
    refine GA.aload_n dX12_putsPath_10 rfl ?_
    refine GA.get xf_X12_259 dX12_putsPath_11 (gs_500 hL) (by decide) rfl ?_
    refine GA.iload_n dX12_putsPath_14 rfl ?_
    refine GA.iload dX12_putsPath_15 rfl ?_
    obtain ⟨hg5, H⟩ := gg_e H
    obtain ⟨S_6, hx7, H⟩ := gv_e H
    refine GV.iast hg5 hx7 dX12_putsPath_17 (fun _ => (gs_513 hL)) (by decide) ?_
    obtain ⟨x8, hx9, H⟩ := gv_e H
    refine GV.iinc hx9 dX12_putsPath_18 rfl (by decide) ?_
    refine GA.aload_n dX12_putsPath_21 rfl ?_
    refine GA.iload_n dX12_putsPath_22 rfl ?_
    refine GA.iload dX12_putsPath_23 rfl ?_
    refine GA.iconst dX12_putsPath_25 ?_
    obtain ⟨hg10, H⟩ := gg_e H
    obtain ⟨x11, S_12, hc13, H⟩ := gc_e H
    refine GA.callV (m_X12_part hL hc13) xs_X12_36 dX12_putsPath_26 (gs_500 hL) (by decide) rfl rfl (by omega) (by decide) rfl (Nat.le_of_ble_eq_true rfl) (by omega) (by omega) rfl (fun E S9 hx => hx.elim) (fun v S9 hq => ?_)
    obtain ⟨rfl, rfl⟩ := hq
    refine GA.istore dX12_putsPath_29 (by decide) ?_
    refine GA.goto (tgt := 5) dX12_putsPath_31 (by decide) ?_
    refine GA.locals [(0, .ref (L 500)), (1, .int (J a1)), (3, .int (J x8)), (4, .int (J x11))] ⟨rfl, rfl, rfl, rfl, trivial⟩ ?_
    exact ih_X12_putsPath_5 hL _ _ (a1) (x8) (x11) _ _ H
set_option maxHeartbeats 4000000 in
set_option maxRecDepth 20000 in
theorem t_X12_putsPath_39 {l : Launch} {Z : XZ} {L : Nat → Nat} (n : Nat) (ih_X12_putsPath_0 : P_X12_putsPath_0 l Z L n) (ih_X12_putsPath_5 : P_X12_putsPath_5 l Z L n) (ih_X12_putsPath_39 : P_X12_putsPath_39 l Z L n) : P_X12_putsPath_39 l Z L (n + 1) := by
  intro hL d S a1 a4 x S1 H
  have H : b_X12_putsPath_39 n d (f_X12_putsPath n) S a1 a4 = some (x, S1) := H
  unfold b_X12_putsPath_39 at H
  refine GA.iload dX12_putsPath_39 rfl ?_
  obtain ⟨hg1, H⟩ := gg_e H
  refine GV.if_lt (tgt := 62) hg1 dX12_putsPath_41 (by decide) (fun c2 => ?_) (fun c2 => ?_)
  · have H := it_t H c2
    cases H
    exact GA.vret rfl dX12_putsPath_62 (by omega) (by omega) ⟨rfl, rfl⟩
  · have H := it_f H c2
    refine GA.aload_n dX12_putsPath_44 rfl ?_
    refine GA.iload_n dX12_putsPath_45 rfl ?_
    refine GA.aload_n dX12_putsPath_46 rfl ?_
    refine GA.get xf_X12_259 dX12_putsPath_47 (gs_500 hL) (by decide) rfl ?_
    refine GA.iload dX12_putsPath_50 rfl ?_
    obtain ⟨hg3, H⟩ := gg_e H
    obtain ⟨x4, hx5, H⟩ := gv_e H
    refine GV.iald hg3 hx5 dX12_putsPath_52 (gs_513 hL) (by decide) ?_
    obtain ⟨hg6, H⟩ := gg_e H
    obtain ⟨x7, S_8, hc9, H⟩ := gc_e H
    refine GA.callV (m_X12_putsStep hL hc9) xs_X12_584 dX12_putsPath_53 (gs_500 hL) (by decide) rfl rfl (by omega) (by decide) rfl (Nat.le_of_ble_eq_true rfl) (by omega) (by omega) rfl (fun E S9 hx => hx.elim) (fun v S9 hq => ?_)
    obtain ⟨rfl, rfl⟩ := hq
    obtain ⟨x10, hx11, H⟩ := gv_e H
    refine GV.iinc hx11 dX12_putsPath_56 rfl (by decide) ?_
    refine GA.goto (tgt := 39) dX12_putsPath_59 (by decide) ?_
    refine GA.locals [(0, .ref (L 500)), (1, .int (J a1)), (4, .int (J x10))] ⟨rfl, rfl, rfl, trivial⟩ ?_
    exact ih_X12_putsPath_39 hL _ _ (a1) (x10) _ _ H
theorem g_X12_putsPath {l : Launch} {Z : XZ} {L : Nat → Nat} : ∀ n, P_X12_putsPath_0 l Z L n ∧ P_X12_putsPath_5 l Z L n ∧ P_X12_putsPath_39 l Z L n
  | 0 => ⟨fun _ _ _ _ _ _ _ H => no_e H, fun _ _ _ _ _ _ _ _ H => no_e H, fun _ _ _ _ _ _ _ H => no_e H⟩
  | n + 1 => have ⟨h0, h1, h2⟩ := g_X12_putsPath (l := l) (Z := Z) (L := L) n
    ⟨t_X12_putsPath_0 n h0 h1 h2, t_X12_putsPath_5 n h0 h1 h2, t_X12_putsPath_39 n h0 h1 h2⟩
theorem m_X12_putsPath {l : Launch} {Z : XZ} {L : Nat → Nat} (hL : L 700 = 1) {n d : Nat} {S : GS} {a1 : Int} {a2 : Int} {x : Int} {S1 : GS} (H : f_X12_putsPath n d 0 S [a1, a2] = some (x, S1)) : GM l Z L yX12_putsPath cX12_putsPath 5 none [] d 0 0 [.ref (L 500), .int (J a1), .int (J a2)] S (fun v S' => v = none ∧ S1 = S') (fun _ _ => False) := GM.of (by decide) (Nat.le_of_ble_eq_true rfl) ((g_X12_putsPath n).1 hL _ _ _ _ _ _ H)

def P_X12_pathOfNode_0 (l : Launch) (Z : XZ) (L : Nat → Nat) (n : Nat) : Prop := ∀ (hL : L 700 = 1), ∀ (d : Nat) (S : GS) (a1 : Int) (a2 : Int) (x : Int) (S1 : GS), f_X12_pathOfNode n d 0 S [a1, a2] = some (x, S1) → GA l Z L yX12_pathOfNode cX12_pathOfNode 4 none [] d 0 0 (fun v S' => v = none ∧ S1 = S') (fun _ _ => False) 0 (gl [(0, .ref (L 500)), (1, .int (J a1)), (2, .int (J a2))]) [] S 0 0
def P_X12_pathOfNode_43 (l : Launch) (Z : XZ) (L : Nat → Nat) (n : Nat) : Prop := ∀ (hL : L 700 = 1), ∀ (d : Nat) (S : GS) (a3 : Int) (x : Int) (S1 : GS), f_X12_pathOfNode n d 43 S [a3] = some (x, S1) → GA l Z L yX12_pathOfNode cX12_pathOfNode 4 none [] d 0 0 (fun v S' => v = none ∧ S1 = S') (fun _ _ => False) 43 (gl [(0, .ref (L 500)), (3, .int (J a3))]) [] S 0 0
theorem i_X12_pathOfNode {l : Launch} {Z : XZ} {L : Nat → Nat} (hL : L 700 = 1) {n : Nat} (ih : P_X12_pathOfNode_0 l Z L n) {d : Nat} {S : GS} {a1 : Int} {a2 : Int} {x : Int} {S1 : GS} (H : f_X12_pathOfNode n d 0 S [a1, a2] = some (x, S1)) : GM l Z L yX12_pathOfNode cX12_pathOfNode 4 none [] d 0 0 [.ref (L 500), .int (J a1), .int (J a2)] S (fun v S' => v = none ∧ S1 = S') (fun _ _ => False) := GM.of (by decide) (Nat.le_of_ble_eq_true rfl) (ih hL _ _ _ _ _ _ H)
set_option maxHeartbeats 4000000 in
set_option maxRecDepth 20000 in
theorem t_X12_pathOfNode_0 {l : Launch} {Z : XZ} {L : Nat → Nat} (n : Nat) (ih_X12_pathOfNode_0 : P_X12_pathOfNode_0 l Z L n) (ih_X12_pathOfNode_43 : P_X12_pathOfNode_43 l Z L n) : P_X12_pathOfNode_0 l Z L (n + 1) := by
  intro hL d S a1 a2 x S1 H
  have H : b_X12_pathOfNode_0 n d (f_X12_pathOfNode n) S a1 a2 = some (x, S1) := H
  unfold b_X12_pathOfNode_0 at H
  refine GA.aload_n dX12_pathOfNode_0 rfl ?_
  refine GA.get xf_X12_272 dX12_pathOfNode_1 (gs_500 hL) (by decide) rfl ?_
  refine GA.iconst dX12_pathOfNode_4 ?_
  refine GA.iconst dX12_pathOfNode_5 ?_
  obtain ⟨hg1, H⟩ := gg_e H
  obtain ⟨S_2, hx3, H⟩ := gv_e H
  refine GV.iast hg1 hx3 dX12_pathOfNode_6 (fun _ => (gs_517 hL)) (by decide) ?_
  refine GA.aload_n dX12_pathOfNode_7 rfl ?_
  refine GA.iload_n dX12_pathOfNode_8 rfl ?_
  refine GA.iload_n dX12_pathOfNode_9 rfl ?_
  obtain ⟨hg4, H⟩ := gg_e H
  obtain ⟨x5, S_6, hc7, H⟩ := gc_e H
  refine GA.callV (m_X12_putsPath hL hc7) xs_X12_587 dX12_pathOfNode_10 (gs_500 hL) (by decide) rfl rfl (by omega) (by decide) rfl (Nat.le_of_ble_eq_true rfl) (by omega) (by omega) rfl (fun E S9 hx => hx.elim) (fun v S9 hq => ?_)
  obtain ⟨rfl, rfl⟩ := hq
  refine GA.aload_n dX12_pathOfNode_13 rfl ?_
  refine GA.aload_n dX12_pathOfNode_14 rfl ?_
  refine GA.get xf_X12_272 dX12_pathOfNode_15 (gs_500 hL) (by decide) rfl ?_
  refine GA.iconst dX12_pathOfNode_18 ?_
  obtain ⟨x8, hx9, H⟩ := gv_e H
  refine GV.iald hg1 hx9 dX12_pathOfNode_19 (gs_517 hL) (by decide) ?_
  refine GA.sipush dX12_pathOfNode_20 rfl ?_
  obtain ⟨hg10, H⟩ := gg_e H
  refine GV.icmp_le (tgt := 32) hg10 (by decide) dX12_pathOfNode_23 (by decide) (fun c11 => ?_) (fun c11 => ?_)
  · have H := it_t H c11
    refine GA.aload_n dX12_pathOfNode_32 rfl ?_
    refine GA.get xf_X12_272 dX12_pathOfNode_33 (gs_500 hL) (by decide) rfl ?_
    refine GA.iconst dX12_pathOfNode_36 ?_
    obtain ⟨x12, hx13, H⟩ := gv_e H
    refine GV.iald hg1 hx13 dX12_pathOfNode_37 (gs_517 hL) (by decide) ?_
    obtain ⟨S_14, hx15, H⟩ := gv_e H
    refine GV.putI hx15 (xp_X12_604 _) dX12_pathOfNode_38 (gs_500 hL) (by decide) (Nat.le_of_ble_eq_true rfl) (gs_500 hL) ?_
    refine GA.iconst dX12_pathOfNode_41 ?_
    refine GA.istore_n dX12_pathOfNode_42 (by decide) ?_
    refine GA.locals [(0, .ref (L 500)), (3, .int (J 0))] ⟨rfl, rfl, trivial⟩ ?_
    exact ih_X12_pathOfNode_43 hL _ _ (0) _ _ H
  · have H := it_f H c11
    refine GA.sipush dX12_pathOfNode_26 rfl ?_
    refine GA.goto (tgt := 38) dX12_pathOfNode_29 (by decide) ?_
    obtain ⟨S_16, hx17, H⟩ := gv_e H
    refine GV.putI hx17 (xp_X12_604 _) dX12_pathOfNode_38 (gs_500 hL) (by decide) (Nat.le_of_ble_eq_true rfl) (gs_500 hL) ?_
    refine GA.iconst dX12_pathOfNode_41 ?_
    refine GA.istore_n dX12_pathOfNode_42 (by decide) ?_
    refine GA.locals [(0, .ref (L 500)), (3, .int (J 0))] ⟨rfl, rfl, trivial⟩ ?_
    exact ih_X12_pathOfNode_43 hL _ _ (0) _ _ H
set_option maxHeartbeats 4000000 in
set_option maxRecDepth 20000 in
theorem t_X12_pathOfNode_43 {l : Launch} {Z : XZ} {L : Nat → Nat} (n : Nat) (ih_X12_pathOfNode_0 : P_X12_pathOfNode_0 l Z L n) (ih_X12_pathOfNode_43 : P_X12_pathOfNode_43 l Z L n) : P_X12_pathOfNode_43 l Z L (n + 1) := by
  intro hL d S a3 x S1 H
  have H : b_X12_pathOfNode_43 n d (f_X12_pathOfNode n) S a3 = some (x, S1) := H
  unfold b_X12_pathOfNode_43 at H
  refine GA.iload_n dX12_pathOfNode_43 rfl ?_
  refine GA.aload_n dX12_pathOfNode_44 rfl ?_
  obtain ⟨x1, hx2, H⟩ := gv_e H
  refine GV.getI hx2 xf_X12_604 dX12_pathOfNode_45 (gs_500 hL) (by decide) rfl ?_
  obtain ⟨hg3, H⟩ := gg_e H
  obtain ⟨hg4, H⟩ := gg_e H
  refine GV.icmp_ge (tgt := 69) hg3 hg4 dX12_pathOfNode_48 (by decide) (fun c5 => ?_) (fun c5 => ?_)
  · have H := it_t H c5
    cases H
    exact GA.vret rfl dX12_pathOfNode_69 (by omega) (by omega) ⟨rfl, rfl⟩
  · have H := it_f H c5
    refine GA.aload_n dX12_pathOfNode_51 rfl ?_
    refine GA.get xf_X12_275 dX12_pathOfNode_52 (gs_500 hL) (by decide) rfl ?_
    refine GA.iload_n dX12_pathOfNode_55 rfl ?_
    refine GA.aload_n dX12_pathOfNode_56 rfl ?_
    refine GA.get xf_X12_269 dX12_pathOfNode_57 (gs_500 hL) (by decide) rfl ?_
    refine GA.iload_n dX12_pathOfNode_60 rfl ?_
    obtain ⟨hg6, H⟩ := gg_e H
    obtain ⟨x7, hx8, H⟩ := gv_e H
    refine GV.iald hg6 hx8 dX12_pathOfNode_61 (gs_516 hL) (by decide) ?_
    obtain ⟨hg9, H⟩ := gg_e H
    obtain ⟨S_10, hx11, H⟩ := gv_e H
    refine GV.iast hg9 hx11 dX12_pathOfNode_62 (fun _ => (gs_518 hL)) (by decide) ?_
    obtain ⟨x12, hx13, H⟩ := gv_e H
    refine GV.iinc hx13 dX12_pathOfNode_63 rfl (by decide) ?_
    refine GA.goto (tgt := 43) dX12_pathOfNode_66 (by decide) ?_
    refine GA.locals [(0, .ref (L 500)), (3, .int (J x12))] ⟨rfl, rfl, trivial⟩ ?_
    exact ih_X12_pathOfNode_43 hL _ _ (x12) _ _ H
theorem g_X12_pathOfNode {l : Launch} {Z : XZ} {L : Nat → Nat} : ∀ n, P_X12_pathOfNode_0 l Z L n ∧ P_X12_pathOfNode_43 l Z L n
  | 0 => ⟨fun _ _ _ _ _ _ _ H => no_e H, fun _ _ _ _ _ _ H => no_e H⟩
  | n + 1 => have ⟨h0, h1⟩ := g_X12_pathOfNode (l := l) (Z := Z) (L := L) n
    ⟨t_X12_pathOfNode_0 n h0 h1, t_X12_pathOfNode_43 n h0 h1⟩
theorem m_X12_pathOfNode {l : Launch} {Z : XZ} {L : Nat → Nat} (hL : L 700 = 1) {n d : Nat} {S : GS} {a1 : Int} {a2 : Int} {x : Int} {S1 : GS} (H : f_X12_pathOfNode n d 0 S [a1, a2] = some (x, S1)) : GM l Z L yX12_pathOfNode cX12_pathOfNode 4 none [] d 0 0 [.ref (L 500), .int (J a1), .int (J a2)] S (fun v S' => v = none ∧ S1 = S') (fun _ _ => False) := GM.of (by decide) (Nat.le_of_ble_eq_true rfl) ((g_X12_pathOfNode n).1 hL _ _ _ _ _ _ H)

def P_X12_addsStep_0 (l : Launch) (Z : XZ) (L : Nat → Nat) (n : Nat) : Prop := ∀ (hL : L 700 = 1), ∀ (d : Nat) (S : GS) (a1 : Int) (a2 : Int) (x : Int) (S1 : GS), f_X12_addsStep n d 0 S [a1, a2] = some (x, S1) → GA l Z L yX12_addsStep cX12_addsStep 4 none [] d 0 0 (fun v S' => v = none ∧ S1 = S') (fun _ _ => False) 0 (gl [(0, .ref (L 500)), (1, .int (J a1)), (2, .int (J a2))]) [] S 0 0
def P_X12_addsStep_15 (l : Launch) (Z : XZ) (L : Nat → Nat) (n : Nat) : Prop := ∀ (hL : L 700 = 1), ∀ (d : Nat) (S : GS) (a3 : Int) (x : Int) (S1 : GS), f_X12_addsStep n d 15 S [a3] = some (x, S1) → GA l Z L yX12_addsStep cX12_addsStep 4 none [] d 0 0 (fun v S' => v = none ∧ S1 = S') (fun _ _ => False) 15 (gl [(0, .ref (L 500)), (3, .int (J a3))]) [] S 0 0
theorem i_X12_addsStep {l : Launch} {Z : XZ} {L : Nat → Nat} (hL : L 700 = 1) {n : Nat} (ih : P_X12_addsStep_0 l Z L n) {d : Nat} {S : GS} {a1 : Int} {a2 : Int} {x : Int} {S1 : GS} (H : f_X12_addsStep n d 0 S [a1, a2] = some (x, S1)) : GM l Z L yX12_addsStep cX12_addsStep 4 none [] d 0 0 [.ref (L 500), .int (J a1), .int (J a2)] S (fun v S' => v = none ∧ S1 = S') (fun _ _ => False) := GM.of (by decide) (Nat.le_of_ble_eq_true rfl) (ih hL _ _ _ _ _ _ H)
set_option maxHeartbeats 4000000 in
set_option maxRecDepth 20000 in
theorem t_X12_addsStep_0 {l : Launch} {Z : XZ} {L : Nat → Nat} (n : Nat) (ih_X12_addsStep_0 : P_X12_addsStep_0 l Z L n) (ih_X12_addsStep_15 : P_X12_addsStep_15 l Z L n) : P_X12_addsStep_0 l Z L (n + 1) := by
  intro hL d S a1 a2 x S1 H
  have H : b_X12_addsStep_0 n d (f_X12_addsStep n) S a1 a2 = some (x, S1) := H
  unfold b_X12_addsStep_0 at H
  refine GA.aload_n dX12_addsStep_0 rfl ?_
  refine GA.get xf_X12_272 dX12_addsStep_1 (gs_500 hL) (by decide) rfl ?_
  refine GA.iconst dX12_addsStep_4 ?_
  refine GA.iconst dX12_addsStep_5 ?_
  obtain ⟨hg1, H⟩ := gg_e H
  obtain ⟨S_2, hx3, H⟩ := gv_e H
  refine GV.iast hg1 hx3 dX12_addsStep_6 (fun _ => (gs_517 hL)) (by decide) ?_
  refine GA.aload_n dX12_addsStep_7 rfl ?_
  refine GA.iload_n dX12_addsStep_8 rfl ?_
  refine GA.iload_n dX12_addsStep_9 rfl ?_
  obtain ⟨hg4, H⟩ := gg_e H
  obtain ⟨x5, S_6, hc7, H⟩ := gc_e H
  refine GA.callV (m_X12_putsStep hL hc7) xs_X12_584 dX12_addsStep_10 (gs_500 hL) (by decide) rfl rfl (by omega) (by decide) rfl (Nat.le_of_ble_eq_true rfl) (by omega) (by omega) rfl (fun E S9 hx => hx.elim) (fun v S9 hq => ?_)
  obtain ⟨rfl, rfl⟩ := hq
  refine GA.iconst dX12_addsStep_13 ?_
  refine GA.istore_n dX12_addsStep_14 (by decide) ?_
  refine GA.locals [(0, .ref (L 500)), (3, .int (J 0))] ⟨rfl, rfl, trivial⟩ ?_
  exact ih_X12_addsStep_15 hL _ _ (0) _ _ H
set_option maxHeartbeats 4000000 in
set_option maxRecDepth 20000 in
theorem t_X12_addsStep_15 {l : Launch} {Z : XZ} {L : Nat → Nat} (n : Nat) (ih_X12_addsStep_0 : P_X12_addsStep_0 l Z L n) (ih_X12_addsStep_15 : P_X12_addsStep_15 l Z L n) : P_X12_addsStep_15 l Z L (n + 1) := by
  intro hL d S a3 x S1 H
  have H : b_X12_addsStep_15 n d (f_X12_addsStep n) S a3 = some (x, S1) := H
  unfold b_X12_addsStep_15 at H
  refine GA.iload_n dX12_addsStep_15 rfl ?_
  refine GA.aload_n dX12_addsStep_16 rfl ?_
  refine GA.get xf_X12_272 dX12_addsStep_17 (gs_500 hL) (by decide) rfl ?_
  refine GA.iconst dX12_addsStep_20 ?_
  obtain ⟨hg1, H⟩ := gg_e H
  obtain ⟨x2, hx3, H⟩ := gv_e H
  refine GV.iald hg1 hx3 dX12_addsStep_21 (gs_517 hL) (by decide) ?_
  obtain ⟨hg4, H⟩ := gg_e H
  obtain ⟨hg5, H⟩ := gg_e H
  refine GV.icmp_ge (tgt := 56) hg4 hg5 dX12_addsStep_22 (by decide) (fun c6 => ?_) (fun c6 => ?_)
  · have H := it_t H c6
    cases H
    exact GA.vret rfl dX12_addsStep_56 (by omega) (by omega) ⟨rfl, rfl⟩
  · have H := it_f H c6
    refine GA.aload_n dX12_addsStep_25 rfl ?_
    refine GA.get xf_X12_275 dX12_addsStep_26 (gs_500 hL) (by decide) rfl ?_
    refine GA.aload_n dX12_addsStep_29 rfl ?_
    obtain ⟨x7, hx8, H⟩ := gv_e H
    refine GV.getI hx8 xf_X12_604 dX12_addsStep_30 (gs_500 hL) (by decide) rfl ?_
    refine GA.aload_n dX12_addsStep_33 rfl ?_
    refine GA.get xf_X12_269 dX12_addsStep_34 (gs_500 hL) (by decide) rfl ?_
    refine GA.iload_n dX12_addsStep_37 rfl ?_
    obtain ⟨hg9, H⟩ := gg_e H
    obtain ⟨x10, hx11, H⟩ := gv_e H
    refine GV.iald hg9 hx11 dX12_addsStep_38 (gs_516 hL) (by decide) ?_
    obtain ⟨hg12, H⟩ := gg_e H
    obtain ⟨S_13, hx14, H⟩ := gv_e H
    refine GV.iast hg12 hx14 dX12_addsStep_39 (fun _ => (gs_518 hL)) (by decide) ?_
    refine GA.aload_n dX12_addsStep_40 rfl ?_
    refine GA.dup dX12_addsStep_41 rfl ?_
    obtain ⟨x15, hx16, H⟩ := gv_e H
    refine GV.getI hx16 xf_X12_604 dX12_addsStep_42 (gs_500 hL) (by decide) rfl ?_
    refine GA.iconst dX12_addsStep_45 ?_
    obtain ⟨x17, hx18, H⟩ := gv_e H
    refine GV.iadd hx18 dX12_addsStep_46 ?_
    obtain ⟨S_19, hx20, H⟩ := gv_e H
    refine GV.putI hx20 (xp_X12_604 _) dX12_addsStep_47 (gs_500 hL) (by decide) (Nat.le_of_ble_eq_true rfl) (gs_500 hL) ?_
    obtain ⟨x21, hx22, H⟩ := gv_e H
    refine GV.iinc hx22 dX12_addsStep_50 rfl (by decide) ?_
    refine GA.goto (tgt := 15) dX12_addsStep_53 (by decide) ?_
    refine GA.locals [(0, .ref (L 500)), (3, .int (J x21))] ⟨rfl, rfl, trivial⟩ ?_
    exact ih_X12_addsStep_15 hL _ _ (x21) _ _ H
theorem g_X12_addsStep {l : Launch} {Z : XZ} {L : Nat → Nat} : ∀ n, P_X12_addsStep_0 l Z L n ∧ P_X12_addsStep_15 l Z L n
  | 0 => ⟨fun _ _ _ _ _ _ _ H => no_e H, fun _ _ _ _ _ _ H => no_e H⟩
  | n + 1 => have ⟨h0, h1⟩ := g_X12_addsStep (l := l) (Z := Z) (L := L) n
    ⟨t_X12_addsStep_0 n h0 h1, t_X12_addsStep_15 n h0 h1⟩
theorem m_X12_addsStep {l : Launch} {Z : XZ} {L : Nat → Nat} (hL : L 700 = 1) {n d : Nat} {S : GS} {a1 : Int} {a2 : Int} {x : Int} {S1 : GS} (H : f_X12_addsStep n d 0 S [a1, a2] = some (x, S1)) : GM l Z L yX12_addsStep cX12_addsStep 4 none [] d 0 0 [.ref (L 500), .int (J a1), .int (J a2)] S (fun v S' => v = none ∧ S1 = S') (fun _ _ => False) := GM.of (by decide) (Nat.le_of_ble_eq_true rfl) ((g_X12_addsStep n).1 hL _ _ _ _ _ _ H)

def P_X12_says_0 (l : Launch) (Z : XZ) (L : Nat → Nat) (n : Nat) : Prop := ∀ (hL : L 700 = 1), ∀ (d : Nat) (S : GS) (a1 : Int) (x : Int) (S1 : GS), f_X12_says n d 0 S [a1] = some (x, S1) → GA l Z L yX12_says cX12_says 5 none [] d 0 0 (fun v S' => v = none ∧ S1 = S') (fun _ _ => False) 0 (gl [(0, .ref (L 500)), (1, .long (K a1))]) [] S 0 0
def P_X12_says_8 (l : Launch) (Z : XZ) (L : Nat → Nat) (n : Nat) : Prop := ∀ (hL : L 700 = 1), ∀ (d : Nat) (S : GS) (a1 : Int) (a3 : Int) (x : Int) (S1 : GS), f_X12_says n d 8 S [a1, a3] = some (x, S1) → GA l Z L yX12_says cX12_says 5 none [] d 0 0 (fun v S' => v = none ∧ S1 = S') (fun _ _ => False) 8 (gl [(0, .ref (L 500)), (1, .long (K a1)), (3, .int (J a3))]) [] S 0 0
theorem i_X12_says {l : Launch} {Z : XZ} {L : Nat → Nat} (hL : L 700 = 1) {n : Nat} (ih : P_X12_says_0 l Z L n) {d : Nat} {S : GS} {a1 : Int} {x : Int} {S1 : GS} (H : f_X12_says n d 0 S [a1] = some (x, S1)) : GM l Z L yX12_says cX12_says 5 none [] d 0 0 [.ref (L 500), .long (K a1)] S (fun v S' => v = none ∧ S1 = S') (fun _ _ => False) := GM.of (by decide) (Nat.le_of_ble_eq_true rfl) (ih hL _ _ _ _ _ H)
set_option maxHeartbeats 4000000 in
set_option maxRecDepth 20000 in
theorem t_X12_says_0 {l : Launch} {Z : XZ} {L : Nat → Nat} (n : Nat) (ih_X12_says_0 : P_X12_says_0 l Z L n) (ih_X12_says_8 : P_X12_says_8 l Z L n) : P_X12_says_0 l Z L (n + 1) := by
  intro hL d S a1 x S1 H
  have H : b_X12_says_0 n d (f_X12_says n) S a1 = some (x, S1) := H
  unfold b_X12_says_0 at H
  refine GA.aload_n dX12_says_0 rfl ?_
  refine GA.iconst dX12_says_1 ?_
  obtain ⟨S_1, hx2, H⟩ := gv_e H
  refine GV.putI hx2 (xp_X12_66 _) dX12_says_2 (gs_500 hL) (by decide) (Nat.le_of_ble_eq_true rfl) (gs_500 hL) ?_
  refine GA.bipush dX12_says_5 rfl ?_
  refine GA.istore_n dX12_says_7 (by decide) ?_
  refine GA.locals [(0, .ref (L 500)), (1, .long (K a1)), (3, .int (J 7))] ⟨rfl, rfl, rfl, trivial⟩ ?_
  exact ih_X12_says_8 hL _ _ (a1) (7) _ _ H
set_option maxHeartbeats 4000000 in
set_option maxRecDepth 20000 in
theorem t_X12_says_8 {l : Launch} {Z : XZ} {L : Nat → Nat} (n : Nat) (ih_X12_says_0 : P_X12_says_0 l Z L n) (ih_X12_says_8 : P_X12_says_8 l Z L n) : P_X12_says_8 l Z L (n + 1) := by
  intro hL d S a1 a3 x S1 H
  have H : b_X12_says_8 n d (f_X12_says n) S a1 a3 = some (x, S1) := H
  unfold b_X12_says_8 at H
  refine GA.iload_n dX12_says_8 rfl ?_
  obtain ⟨hg1, H⟩ := gg_e H
  refine GV.if_lt (tgt := 57) hg1 dX12_says_9 (by decide) (fun c2 => ?_) (fun c2 => ?_)
  · have H := it_t H c2
    cases H
    exact GA.vret rfl dX12_says_57 (by omega) (by omega) ⟨rfl, rfl⟩
  · have H := it_f H c2
    refine GA.lload_n dX12_says_12 rfl ?_
    refine GA.bipush dX12_says_13 rfl ?_
    refine GA.iload_n dX12_says_15 rfl ?_
    obtain ⟨x3, hx4, H⟩ := gv_e H
    refine GV.imul hx4 dX12_says_16 ?_
    obtain ⟨hg5, H⟩ := gg_e H
    obtain ⟨hg6, H⟩ := gg_e H
    obtain ⟨x7, hx8, H⟩ := gv_e H
    refine GV.lshr hg6 hg5 hx8 dX12_says_17 ?_
    refine GV.ldc2 (z := 255) (by decide) xc_X12_72 dX12_says_18 ?_
    obtain ⟨x9, hx10, H⟩ := gv_e H
    refine GV.land hx10 dX12_says_21 ?_
    refine GV.l2i dX12_says_22 ?_
    refine GA.istore dX12_says_23 (by decide) ?_
    refine GA.iload dX12_says_25 rfl ?_
    obtain ⟨hg11, H⟩ := gg_e H
    refine GV.if_eq (tgt := 51) hg11 dX12_says_27 (by decide) (fun c12 => ?_) (fun c12 => ?_)
    · have H := it_t H c12
      obtain ⟨x13, hx14, H⟩ := gv_e H
      refine GV.iinc hx14 dX12_says_51 rfl (by decide) ?_
      refine GA.goto (tgt := 8) dX12_says_54 (by decide) ?_
      refine GA.locals [(0, .ref (L 500)), (1, .long (K a1)), (3, .int (J x13))] ⟨rfl, rfl, rfl, trivial⟩ ?_
      exact ih_X12_says_8 hL _ _ (a1) (x13) _ _ H
    · have H := it_f H c12
      refine GA.aload_n dX12_says_30 rfl ?_
      refine GA.get xf_X12_69 dX12_says_31 (gs_500 hL) (by decide) rfl ?_
      refine GA.aload_n dX12_says_34 rfl ?_
      obtain ⟨x15, hx16, H⟩ := gv_e H
      refine GV.getI hx16 xf_X12_66 dX12_says_35 (gs_500 hL) (by decide) rfl ?_
      refine GA.iload dX12_says_38 rfl ?_
      obtain ⟨hg17, H⟩ := gg_e H
      obtain ⟨S_18, hx19, H⟩ := gv_e H
      refine GV.iast hg17 hx19 dX12_says_40 (fun _ => (gs_507 hL)) (by decide) ?_
      refine GA.aload_n dX12_says_41 rfl ?_
      refine GA.dup dX12_says_42 rfl ?_
      obtain ⟨x20, hx21, H⟩ := gv_e H
      refine GV.getI hx21 xf_X12_66 dX12_says_43 (gs_500 hL) (by decide) rfl ?_
      refine GA.iconst dX12_says_46 ?_
      obtain ⟨x22, hx23, H⟩ := gv_e H
      refine GV.iadd hx23 dX12_says_47 ?_
      obtain ⟨S_24, hx25, H⟩ := gv_e H
      refine GV.putI hx25 (xp_X12_66 _) dX12_says_48 (gs_500 hL) (by decide) (Nat.le_of_ble_eq_true rfl) (gs_500 hL) ?_
      obtain ⟨x26, hx27, H⟩ := gv_e H
      refine GV.iinc hx27 dX12_says_51 rfl (by decide) ?_
      refine GA.goto (tgt := 8) dX12_says_54 (by decide) ?_
      refine GA.locals [(0, .ref (L 500)), (1, .long (K a1)), (3, .int (J x26))] ⟨rfl, rfl, rfl, trivial⟩ ?_
      exact ih_X12_says_8 hL _ _ (a1) (x26) _ _ H
theorem g_X12_says {l : Launch} {Z : XZ} {L : Nat → Nat} : ∀ n, P_X12_says_0 l Z L n ∧ P_X12_says_8 l Z L n
  | 0 => ⟨fun _ _ _ _ _ _ H => no_e H, fun _ _ _ _ _ _ _ H => no_e H⟩
  | n + 1 => have ⟨h0, h1⟩ := g_X12_says (l := l) (Z := Z) (L := L) n
    ⟨t_X12_says_0 n h0 h1, t_X12_says_8 n h0 h1⟩
theorem m_X12_says {l : Launch} {Z : XZ} {L : Nat → Nat} (hL : L 700 = 1) {n d : Nat} {S : GS} {a1 : Int} {x : Int} {S1 : GS} (H : f_X12_says n d 0 S [a1] = some (x, S1)) : GM l Z L yX12_says cX12_says 5 none [] d 0 0 [.ref (L 500), .long (K a1)] S (fun v S' => v = none ∧ S1 = S') (fun _ _ => False) := GM.of (by decide) (Nat.le_of_ble_eq_true rfl) ((g_X12_says n).1 hL _ _ _ _ _ H)

def P_X12_keyIs_0 (l : Launch) (Z : XZ) (L : Nat → Nat) (n : Nat) : Prop := ∀ (hL : L 700 = 1), ∀ (d : Nat) (S : GS) (a1 : Int) (a2 : Int) (x : Int) (S1 : GS), f_X12_keyIs n d 0 S [a1, a2] = some (x, S1) → GA l Z L yX12_keyIs cX12_keyIs 4 none [] d 0 0 (fun v S' => v = none ∧ S1 = S') (fun _ _ => False) 0 (gl [(0, .ref (L 500)), (1, .int (J a1)), (2, .int (J a2))]) [] S 0 0
def P_X12_keyIs_18 (l : Launch) (Z : XZ) (L : Nat → Nat) (n : Nat) : Prop := ∀ (hL : L 700 = 1), ∀ (d : Nat) (S : GS) (a1 : Int) (a2 : Int) (a3 : Int) (x : Int) (S1 : GS), f_X12_keyIs n d 18 S [a1, a2, a3] = some (x, S1) → GA l Z L yX12_keyIs cX12_keyIs 4 none [] d 0 0 (fun v S' => v = none ∧ S1 = S') (fun _ _ => False) 18 (gl [(0, .ref (L 500)), (1, .int (J a1)), (2, .int (J a2)), (3, .int (J a3))]) [] S 0 0
theorem i_X12_keyIs {l : Launch} {Z : XZ} {L : Nat → Nat} (hL : L 700 = 1) {n : Nat} (ih : P_X12_keyIs_0 l Z L n) {d : Nat} {S : GS} {a1 : Int} {a2 : Int} {x : Int} {S1 : GS} (H : f_X12_keyIs n d 0 S [a1, a2] = some (x, S1)) : GM l Z L yX12_keyIs cX12_keyIs 4 none [] d 0 0 [.ref (L 500), .int (J a1), .int (J a2)] S (fun v S' => v = none ∧ S1 = S') (fun _ _ => False) := GM.of (by decide) (Nat.le_of_ble_eq_true rfl) (ih hL _ _ _ _ _ _ H)
set_option maxHeartbeats 4000000 in
set_option maxRecDepth 20000 in
theorem t_X12_keyIs_0 {l : Launch} {Z : XZ} {L : Nat → Nat} (n : Nat) (ih_X12_keyIs_0 : P_X12_keyIs_0 l Z L n) (ih_X12_keyIs_18 : P_X12_keyIs_18 l Z L n) : P_X12_keyIs_0 l Z L (n + 1) := by
  intro hL d S a1 a2 x S1 H
  have H : b_X12_keyIs_0 n d (f_X12_keyIs n) S a1 a2 = some (x, S1) := H
  unfold b_X12_keyIs_0 at H
  refine GA.aload_n dX12_keyIs_0 rfl ?_
  refine GA.get xf_X12_7 dX12_keyIs_1 (gs_500 hL) (by decide) rfl ?_
  refine GA.iload_n dX12_keyIs_4 rfl ?_
  refine GA.iload_n dX12_keyIs_5 rfl ?_
  obtain ⟨hg1, H⟩ := gg_e H
  obtain ⟨x2, S_3, hc4, H⟩ := gc_e H
  refine GA.callS (m_X12_at hL hc4) xs_X12_11 dX12_keyIs_6 rfl (by omega) (by decide) rfl (Nat.le_of_ble_eq_true rfl) (by omega) (by omega) rfl (fun E S9 hx => hx.elim) (fun v S9 hq => ?_)
  obtain ⟨rfl, rfl⟩ := hq
  refine GA.iconst dX12_keyIs_9 ?_
  obtain ⟨x5, hx6, H⟩ := gv_e H
  refine GV.iadd hx6 dX12_keyIs_10 ?_
  refine GA.aload_n dX12_keyIs_11 rfl ?_
  obtain ⟨x7, hx8, H⟩ := gv_e H
  refine GV.getI hx8 xf_X12_66 dX12_keyIs_12 (gs_500 hL) (by decide) rfl ?_
  obtain ⟨hg9, H⟩ := gg_e H
  obtain ⟨S_10, hx11, H⟩ := gv_e H
  refine GV.iast hg9 hx11 dX12_keyIs_15 (fun _ => (gs_501 hL)) (by decide) ?_
  refine GA.iconst dX12_keyIs_16 ?_
  refine GA.istore_n dX12_keyIs_17 (by decide) ?_
  refine GA.locals [(0, .ref (L 500)), (1, .int (J a1)), (2, .int (J a2)), (3, .int (J 0))] ⟨rfl, rfl, rfl, rfl, trivial⟩ ?_
  exact ih_X12_keyIs_18 hL _ _ (a1) (a2) (0) _ _ H
set_option maxHeartbeats 4000000 in
set_option maxRecDepth 20000 in
theorem t_X12_keyIs_18 {l : Launch} {Z : XZ} {L : Nat → Nat} (n : Nat) (ih_X12_keyIs_0 : P_X12_keyIs_0 l Z L n) (ih_X12_keyIs_18 : P_X12_keyIs_18 l Z L n) : P_X12_keyIs_18 l Z L (n + 1) := by
  intro hL d S a1 a2 a3 x S1 H
  have H : b_X12_keyIs_18 n d (f_X12_keyIs n) S a1 a2 a3 = some (x, S1) := H
  unfold b_X12_keyIs_18 at H
  refine GA.iload_n dX12_keyIs_18 rfl ?_
  refine GA.aload_n dX12_keyIs_19 rfl ?_
  obtain ⟨x1, hx2, H⟩ := gv_e H
  refine GV.getI hx2 xf_X12_66 dX12_keyIs_20 (gs_500 hL) (by decide) rfl ?_
  obtain ⟨hg3, H⟩ := gg_e H
  obtain ⟨hg4, H⟩ := gg_e H
  refine GV.icmp_ge (tgt := 59) hg3 hg4 dX12_keyIs_23 (by decide) (fun c5 => ?_) (fun c5 => ?_)
  · have H := it_t H c5
    cases H
    exact GA.vret rfl dX12_keyIs_59 (by omega) (by omega) ⟨rfl, rfl⟩
  · have H := it_f H c5
    refine GA.iload_n dX12_keyIs_26 rfl ?_
    refine GA.bipush dX12_keyIs_27 rfl ?_
    refine GV.icmp_ge (tgt := 59) hg3 (by decide) dX12_keyIs_29 (by decide) (fun c6 => ?_) (fun c6 => ?_)
    · have H := it_t H c6
      cases H
      exact GA.vret rfl dX12_keyIs_59 (by omega) (by omega) ⟨rfl, rfl⟩
    · have H := it_f H c6
      refine GA.aload_n dX12_keyIs_32 rfl ?_
      refine GA.get xf_X12_7 dX12_keyIs_33 (gs_500 hL) (by decide) rfl ?_
      refine GA.iload_n dX12_keyIs_36 rfl ?_
      refine GA.iload_n dX12_keyIs_37 rfl ?_
      obtain ⟨hg7, H⟩ := gg_e H
      obtain ⟨x8, S_9, hc10, H⟩ := gc_e H
      refine GA.callS (m_X12_at hL hc10) xs_X12_11 dX12_keyIs_38 rfl (by omega) (by decide) rfl (Nat.le_of_ble_eq_true rfl) (by omega) (by omega) rfl (fun E S9 hx => hx.elim) (fun v S9 hq => ?_)
      obtain ⟨rfl, rfl⟩ := hq
      refine GA.bipush dX12_keyIs_41 rfl ?_
      obtain ⟨x11, hx12, H⟩ := gv_e H
      refine GV.iadd hx12 dX12_keyIs_43 ?_
      refine GA.iload_n dX12_keyIs_44 rfl ?_
      obtain ⟨x13, hx14, H⟩ := gv_e H
      refine GV.iadd hx14 dX12_keyIs_45 ?_
      refine GA.aload_n dX12_keyIs_46 rfl ?_
      refine GA.get xf_X12_69 dX12_keyIs_47 (gs_500 hL) (by decide) rfl ?_
      refine GA.iload_n dX12_keyIs_50 rfl ?_
      obtain ⟨hg15, H⟩ := gg_e H
      obtain ⟨x16, hx17, H⟩ := gv_e H
      refine GV.iald hg15 hx17 dX12_keyIs_51 (gs_507 hL) (by decide) ?_
      obtain ⟨hg18, H⟩ := gg_e H
      obtain ⟨S_19, hx20, H⟩ := gv_e H
      refine GV.iast hg18 hx20 dX12_keyIs_52 (fun _ => (gs_501 hL)) (by decide) ?_
      obtain ⟨x21, hx22, H⟩ := gv_e H
      refine GV.iinc hx22 dX12_keyIs_53 rfl (by decide) ?_
      refine GA.goto (tgt := 18) dX12_keyIs_56 (by decide) ?_
      refine GA.locals [(0, .ref (L 500)), (1, .int (J a1)), (2, .int (J a2)), (3, .int (J x21))] ⟨rfl, rfl, rfl, rfl, trivial⟩ ?_
      exact ih_X12_keyIs_18 hL _ _ (a1) (a2) (x21) _ _ H
theorem g_X12_keyIs {l : Launch} {Z : XZ} {L : Nat → Nat} : ∀ n, P_X12_keyIs_0 l Z L n ∧ P_X12_keyIs_18 l Z L n
  | 0 => ⟨fun _ _ _ _ _ _ _ H => no_e H, fun _ _ _ _ _ _ _ _ H => no_e H⟩
  | n + 1 => have ⟨h0, h1⟩ := g_X12_keyIs (l := l) (Z := Z) (L := L) n
    ⟨t_X12_keyIs_0 n h0 h1, t_X12_keyIs_18 n h0 h1⟩
theorem m_X12_keyIs {l : Launch} {Z : XZ} {L : Nat → Nat} (hL : L 700 = 1) {n d : Nat} {S : GS} {a1 : Int} {a2 : Int} {x : Int} {S1 : GS} (H : f_X12_keyIs n d 0 S [a1, a2] = some (x, S1)) : GM l Z L yX12_keyIs cX12_keyIs 4 none [] d 0 0 [.ref (L 500), .int (J a1), .int (J a2)] S (fun v S' => v = none ∧ S1 = S') (fun _ _ => False) := GM.of (by decide) (Nat.le_of_ble_eq_true rfl) ((g_X12_keyIs n).1 hL _ _ _ _ _ _ H)

def P_X12_named_0 (l : Launch) (Z : XZ) (L : Nat → Nat) (n : Nat) : Prop := ∀ (hL : L 700 = 1), ∀ (d : Nat) (S : GS) (a1 : Int) (a2 : Int) (a3 : Int) (x : Int) (S1 : GS), f_X12_named n d 0 S [a1, a2, a3] = some (x, S1) → GA l Z L yX12_named cX12_named 5 none [] d 0 0 (fun v S' => v = none ∧ S1 = S') (fun _ _ => False) 0 (gl [(0, .ref (L 500)), (1, .int (J a1)), (2, .int (J a2)), (3, .long (K a3))]) [] S 0 0
theorem i_X12_named {l : Launch} {Z : XZ} {L : Nat → Nat} (hL : L 700 = 1) {n : Nat} (ih : P_X12_named_0 l Z L n) {d : Nat} {S : GS} {a1 : Int} {a2 : Int} {a3 : Int} {x : Int} {S1 : GS} (H : f_X12_named n d 0 S [a1, a2, a3] = some (x, S1)) : GM l Z L yX12_named cX12_named 5 none [] d 0 0 [.ref (L 500), .int (J a1), .int (J a2), .long (K a3)] S (fun v S' => v = none ∧ S1 = S') (fun _ _ => False) := GM.of (by decide) (Nat.le_of_ble_eq_true rfl) (ih hL _ _ _ _ _ _ _ H)
set_option maxHeartbeats 4000000 in
set_option maxRecDepth 20000 in
theorem t_X12_named_0 {l : Launch} {Z : XZ} {L : Nat → Nat} (n : Nat) (ih_X12_named_0 : P_X12_named_0 l Z L n) : P_X12_named_0 l Z L (n + 1) := by
  intro hL d S a1 a2 a3 x S1 H
  have H : b_X12_named_0 n d (f_X12_named n) S a1 a2 a3 = some (x, S1) := H
  unfold b_X12_named_0 at H
  refine GA.aload_n dX12_named_0 rfl ?_
  refine GA.lload_n dX12_named_1 rfl ?_
  obtain ⟨hg1, H⟩ := gg_e H
  obtain ⟨x2, S_3, hc4, H⟩ := gc_e H
  refine GA.callV (m_X12_says hL hc4) xs_X12_74 dX12_named_2 (gs_500 hL) (by decide) rfl rfl (by omega) (by decide) rfl (Nat.le_of_ble_eq_true rfl) (by omega) (by omega) rfl (fun E S9 hx => hx.elim) (fun v S9 hq => ?_)
  obtain ⟨rfl, rfl⟩ := hq
  refine GA.aload_n dX12_named_5 rfl ?_
  refine GA.iload_n dX12_named_6 rfl ?_
  refine GA.iload_n dX12_named_7 rfl ?_
  obtain ⟨x5, S_6, hc7, H⟩ := gc_e H
  refine GA.callV (m_X12_keyIs hL hc7) xs_X12_650 dX12_named_8 (gs_500 hL) (by decide) rfl rfl (by omega) (by decide) rfl (Nat.le_of_ble_eq_true rfl) (by omega) (by omega) rfl (fun E S9 hx => hx.elim) (fun v S9 hq => ?_)
  obtain ⟨rfl, rfl⟩ := hq
  cases H
  exact GA.vret rfl dX12_named_11 (by omega) (by omega) ⟨rfl, rfl⟩
theorem g_X12_named {l : Launch} {Z : XZ} {L : Nat → Nat} : ∀ n, P_X12_named_0 l Z L n
  | 0 => fun _ _ _ _ _ _ _ _ H => no_e H
  | n + 1 => t_X12_named_0 n (g_X12_named n)
theorem m_X12_named {l : Launch} {Z : XZ} {L : Nat → Nat} (hL : L 700 = 1) {n d : Nat} {S : GS} {a1 : Int} {a2 : Int} {a3 : Int} {x : Int} {S1 : GS} (H : f_X12_named n d 0 S [a1, a2, a3] = some (x, S1)) : GM l Z L yX12_named cX12_named 5 none [] d 0 0 [.ref (L 500), .int (J a1), .int (J a2), .long (K a3)] S (fun v S' => v = none ∧ S1 = S') (fun _ _ => False) := GM.of (by decide) (Nat.le_of_ble_eq_true rfl) ((g_X12_named n) hL _ _ _ _ _ _ _ H)

def P_X12_textIs_0 (l : Launch) (Z : XZ) (L : Nat → Nat) (n : Nat) : Prop := ∀ (hL : L 700 = 1), ∀ (d : Nat) (S : GS) (a1 : Int) (a2 : Int) (x : Int) (S1 : GS), f_X12_textIs n d 0 S [a1, a2] = some (x, S1) → GA l Z L yX12_textIs cX12_textIs 4 none [] d 0 0 (fun v S' => v = none ∧ S1 = S') (fun _ _ => False) 0 (gl [(0, .ref (L 500)), (1, .int (J a1)), (2, .int (J a2))]) [] S 0 0
def P_X12_textIs_19 (l : Launch) (Z : XZ) (L : Nat → Nat) (n : Nat) : Prop := ∀ (hL : L 700 = 1), ∀ (d : Nat) (S : GS) (a1 : Int) (a2 : Int) (a3 : Int) (x : Int) (S1 : GS), f_X12_textIs n d 19 S [a1, a2, a3] = some (x, S1) → GA l Z L yX12_textIs cX12_textIs 4 none [] d 0 0 (fun v S' => v = none ∧ S1 = S') (fun _ _ => False) 19 (gl [(0, .ref (L 500)), (1, .int (J a1)), (2, .int (J a2)), (3, .int (J a3))]) [] S 0 0
theorem i_X12_textIs {l : Launch} {Z : XZ} {L : Nat → Nat} (hL : L 700 = 1) {n : Nat} (ih : P_X12_textIs_0 l Z L n) {d : Nat} {S : GS} {a1 : Int} {a2 : Int} {x : Int} {S1 : GS} (H : f_X12_textIs n d 0 S [a1, a2] = some (x, S1)) : GM l Z L yX12_textIs cX12_textIs 4 none [] d 0 0 [.ref (L 500), .int (J a1), .int (J a2)] S (fun v S' => v = none ∧ S1 = S') (fun _ _ => False) := GM.of (by decide) (Nat.le_of_ble_eq_true rfl) (ih hL _ _ _ _ _ _ H)
set_option maxHeartbeats 4000000 in
set_option maxRecDepth 20000 in
theorem t_X12_textIs_0 {l : Launch} {Z : XZ} {L : Nat → Nat} (n : Nat) (ih_X12_textIs_0 : P_X12_textIs_0 l Z L n) (ih_X12_textIs_19 : P_X12_textIs_19 l Z L n) : P_X12_textIs_0 l Z L (n + 1) := by
  intro hL d S a1 a2 x S1 H
  have H : b_X12_textIs_0 n d (f_X12_textIs n) S a1 a2 = some (x, S1) := H
  unfold b_X12_textIs_0 at H
  refine GA.aload_n dX12_textIs_0 rfl ?_
  refine GA.get xf_X12_7 dX12_textIs_1 (gs_500 hL) (by decide) rfl ?_
  refine GA.iload_n dX12_textIs_4 rfl ?_
  refine GA.iload_n dX12_textIs_5 rfl ?_
  obtain ⟨hg1, H⟩ := gg_e H
  obtain ⟨x2, S_3, hc4, H⟩ := gc_e H
  refine GA.callS (m_X12_at hL hc4) xs_X12_11 dX12_textIs_6 rfl (by omega) (by decide) rfl (Nat.le_of_ble_eq_true rfl) (by omega) (by omega) rfl (fun E S9 hx => hx.elim) (fun v S9 hq => ?_)
  obtain ⟨rfl, rfl⟩ := hq
  refine GA.bipush dX12_textIs_9 rfl ?_
  obtain ⟨x5, hx6, H⟩ := gv_e H
  refine GV.iadd hx6 dX12_textIs_11 ?_
  refine GA.aload_n dX12_textIs_12 rfl ?_
  obtain ⟨x7, hx8, H⟩ := gv_e H
  refine GV.getI hx8 xf_X12_66 dX12_textIs_13 (gs_500 hL) (by decide) rfl ?_
  obtain ⟨hg9, H⟩ := gg_e H
  obtain ⟨S_10, hx11, H⟩ := gv_e H
  refine GV.iast hg9 hx11 dX12_textIs_16 (fun _ => (gs_501 hL)) (by decide) ?_
  refine GA.iconst dX12_textIs_17 ?_
  refine GA.istore_n dX12_textIs_18 (by decide) ?_
  refine GA.locals [(0, .ref (L 500)), (1, .int (J a1)), (2, .int (J a2)), (3, .int (J 0))] ⟨rfl, rfl, rfl, rfl, trivial⟩ ?_
  exact ih_X12_textIs_19 hL _ _ (a1) (a2) (0) _ _ H
set_option maxHeartbeats 4000000 in
set_option maxRecDepth 20000 in
theorem t_X12_textIs_19 {l : Launch} {Z : XZ} {L : Nat → Nat} (n : Nat) (ih_X12_textIs_0 : P_X12_textIs_0 l Z L n) (ih_X12_textIs_19 : P_X12_textIs_19 l Z L n) : P_X12_textIs_19 l Z L (n + 1) := by
  intro hL d S a1 a2 a3 x S1 H
  have H : b_X12_textIs_19 n d (f_X12_textIs n) S a1 a2 a3 = some (x, S1) := H
  unfold b_X12_textIs_19 at H
  refine GA.iload_n dX12_textIs_19 rfl ?_
  refine GA.aload_n dX12_textIs_20 rfl ?_
  obtain ⟨x1, hx2, H⟩ := gv_e H
  refine GV.getI hx2 xf_X12_66 dX12_textIs_21 (gs_500 hL) (by decide) rfl ?_
  obtain ⟨hg3, H⟩ := gg_e H
  obtain ⟨hg4, H⟩ := gg_e H
  refine GV.icmp_ge (tgt := 60) hg3 hg4 dX12_textIs_24 (by decide) (fun c5 => ?_) (fun c5 => ?_)
  · have H := it_t H c5
    cases H
    exact GA.vret rfl dX12_textIs_60 (by omega) (by omega) ⟨rfl, rfl⟩
  · have H := it_f H c5
    refine GA.iload_n dX12_textIs_27 rfl ?_
    refine GA.bipush dX12_textIs_28 rfl ?_
    refine GV.icmp_ge (tgt := 60) hg3 (by decide) dX12_textIs_30 (by decide) (fun c6 => ?_) (fun c6 => ?_)
    · have H := it_t H c6
      cases H
      exact GA.vret rfl dX12_textIs_60 (by omega) (by omega) ⟨rfl, rfl⟩
    · have H := it_f H c6
      refine GA.aload_n dX12_textIs_33 rfl ?_
      refine GA.get xf_X12_7 dX12_textIs_34 (gs_500 hL) (by decide) rfl ?_
      refine GA.iload_n dX12_textIs_37 rfl ?_
      refine GA.iload_n dX12_textIs_38 rfl ?_
      obtain ⟨hg7, H⟩ := gg_e H
      obtain ⟨x8, S_9, hc10, H⟩ := gc_e H
      refine GA.callS (m_X12_at hL hc10) xs_X12_11 dX12_textIs_39 rfl (by omega) (by decide) rfl (Nat.le_of_ble_eq_true rfl) (by omega) (by omega) rfl (fun E S9 hx => hx.elim) (fun v S9 hq => ?_)
      obtain ⟨rfl, rfl⟩ := hq
      refine GA.bipush dX12_textIs_42 rfl ?_
      obtain ⟨x11, hx12, H⟩ := gv_e H
      refine GV.iadd hx12 dX12_textIs_44 ?_
      refine GA.iload_n dX12_textIs_45 rfl ?_
      obtain ⟨x13, hx14, H⟩ := gv_e H
      refine GV.iadd hx14 dX12_textIs_46 ?_
      refine GA.aload_n dX12_textIs_47 rfl ?_
      refine GA.get xf_X12_69 dX12_textIs_48 (gs_500 hL) (by decide) rfl ?_
      refine GA.iload_n dX12_textIs_51 rfl ?_
      obtain ⟨hg15, H⟩ := gg_e H
      obtain ⟨x16, hx17, H⟩ := gv_e H
      refine GV.iald hg15 hx17 dX12_textIs_52 (gs_507 hL) (by decide) ?_
      obtain ⟨hg18, H⟩ := gg_e H
      obtain ⟨S_19, hx20, H⟩ := gv_e H
      refine GV.iast hg18 hx20 dX12_textIs_53 (fun _ => (gs_501 hL)) (by decide) ?_
      obtain ⟨x21, hx22, H⟩ := gv_e H
      refine GV.iinc hx22 dX12_textIs_54 rfl (by decide) ?_
      refine GA.goto (tgt := 19) dX12_textIs_57 (by decide) ?_
      refine GA.locals [(0, .ref (L 500)), (1, .int (J a1)), (2, .int (J a2)), (3, .int (J x21))] ⟨rfl, rfl, rfl, rfl, trivial⟩ ?_
      exact ih_X12_textIs_19 hL _ _ (a1) (a2) (x21) _ _ H
theorem g_X12_textIs {l : Launch} {Z : XZ} {L : Nat → Nat} : ∀ n, P_X12_textIs_0 l Z L n ∧ P_X12_textIs_19 l Z L n
  | 0 => ⟨fun _ _ _ _ _ _ _ H => no_e H, fun _ _ _ _ _ _ _ _ H => no_e H⟩
  | n + 1 => have ⟨h0, h1⟩ := g_X12_textIs (l := l) (Z := Z) (L := L) n
    ⟨t_X12_textIs_0 n h0 h1, t_X12_textIs_19 n h0 h1⟩
theorem m_X12_textIs {l : Launch} {Z : XZ} {L : Nat → Nat} (hL : L 700 = 1) {n d : Nat} {S : GS} {a1 : Int} {a2 : Int} {x : Int} {S1 : GS} (H : f_X12_textIs n d 0 S [a1, a2] = some (x, S1)) : GM l Z L yX12_textIs cX12_textIs 4 none [] d 0 0 [.ref (L 500), .int (J a1), .int (J a2)] S (fun v S' => v = none ∧ S1 = S') (fun _ _ => False) := GM.of (by decide) (Nat.le_of_ble_eq_true rfl) ((g_X12_textIs n).1 hL _ _ _ _ _ _ H)

def P_X12_like_0 (l : Launch) (Z : XZ) (L : Nat → Nat) (n : Nat) : Prop := ∀ (hL : L 700 = 1), ∀ (d : Nat) (S : GS) (a1 : Int) (a2 : Int) (a3 : Int) (x : Int) (S1 : GS), f_X12_like n d 0 S [a1, a2, a3] = some (x, S1) → GA l Z L yX12_like cX12_like 6 (some .int) [] d 0 0 (fun v S' => v = some (.int (J x)) ∧ S1 = S') (fun _ _ => False) 0 (gl [(0, .ref (L 500)), (1, .int (J a1)), (2, .int (J a2)), (3, .int (J a3))]) [] S 0 0
def P_X12_like_11 (l : Launch) (Z : XZ) (L : Nat → Nat) (n : Nat) : Prop := ∀ (hL : L 700 = 1), ∀ (d : Nat) (S : GS) (a1 : Int) (a2 : Int) (a3 : Int) (a4 : Int) (a5 : Int) (x : Int) (S1 : GS), f_X12_like n d 11 S [a1, a2, a3, a4, a5] = some (x, S1) → GA l Z L yX12_like cX12_like 6 (some .int) [] d 0 0 (fun v S' => v = some (.int (J x)) ∧ S1 = S') (fun _ _ => False) 11 (gl [(0, .ref (L 500)), (1, .int (J a1)), (2, .int (J a2)), (3, .int (J a3)), (4, .int (J a4)), (5, .int (J a5))]) [] S 0 0
theorem i_X12_like {l : Launch} {Z : XZ} {L : Nat → Nat} (hL : L 700 = 1) {n : Nat} (ih : P_X12_like_0 l Z L n) {d : Nat} {S : GS} {a1 : Int} {a2 : Int} {a3 : Int} {x : Int} {S1 : GS} (H : f_X12_like n d 0 S [a1, a2, a3] = some (x, S1)) : GM l Z L yX12_like cX12_like 6 (some .int) [] d 0 0 [.ref (L 500), .int (J a1), .int (J a2), .int (J a3)] S (fun v S' => v = some (.int (J x)) ∧ S1 = S') (fun _ _ => False) := GM.of (by decide) (Nat.le_of_ble_eq_true rfl) (ih hL _ _ _ _ _ _ _ H)
set_option maxHeartbeats 4000000 in
set_option maxRecDepth 20000 in
theorem t_X12_like_0 {l : Launch} {Z : XZ} {L : Nat → Nat} (n : Nat) (ih_X12_like_0 : P_X12_like_0 l Z L n) (ih_X12_like_11 : P_X12_like_11 l Z L n) : P_X12_like_0 l Z L (n + 1) := by
  intro hL d S a1 a2 a3 x S1 H
  have H : b_X12_like_0 n d (f_X12_like n) S a1 a2 a3 = some (x, S1) := H
  unfold b_X12_like_0 at H
  refine GA.aload_n dX12_like_0 rfl ?_
  refine GA.iload_n dX12_like_1 rfl ?_
  refine GA.iconst dX12_like_2 ?_
  obtain ⟨hg1, H⟩ := gg_e H
  obtain ⟨x2, S_3, hc4, H⟩ := gc_e H
  refine GA.callV (m_X12_added hL hc4) xs_X12_33 dX12_like_3 (gs_500 hL) (by decide) rfl rfl (by omega) (by decide) rfl (Nat.le_of_ble_eq_true rfl) (by omega) (by omega) rfl (fun E S9 hx => hx.elim) (fun v S9 hq => ?_)
  obtain ⟨rfl, rfl⟩ := hq
  refine GA.istore dX12_like_6 (by decide) ?_
  refine GA.iconst dX12_like_8 ?_
  refine GA.istore dX12_like_9 (by decide) ?_
  refine GA.locals [(0, .ref (L 500)), (1, .int (J a1)), (2, .int (J a2)), (3, .int (J a3)), (4, .int (J x2)), (5, .int (J 0))] ⟨rfl, rfl, rfl, rfl, rfl, rfl, trivial⟩ ?_
  exact ih_X12_like_11 hL _ _ (a1) (a2) (a3) (x2) (0) _ _ H
set_option maxHeartbeats 4000000 in
set_option maxRecDepth 20000 in
theorem t_X12_like_11 {l : Launch} {Z : XZ} {L : Nat → Nat} (n : Nat) (ih_X12_like_0 : P_X12_like_0 l Z L n) (ih_X12_like_11 : P_X12_like_11 l Z L n) : P_X12_like_11 l Z L (n + 1) := by
  intro hL d S a1 a2 a3 a4 a5 x S1 H
  have H : b_X12_like_11 n d (f_X12_like n) S a1 a2 a3 a4 a5 = some (x, S1) := H
  unfold b_X12_like_11 at H
  refine GA.iload dX12_like_11 rfl ?_
  refine GA.bipush dX12_like_13 rfl ?_
  obtain ⟨hg1, H⟩ := gg_e H
  refine GV.icmp_ge (tgt := 51) hg1 (by decide) dX12_like_15 (by decide) (fun c2 => ?_) (fun c2 => ?_)
  · have H := it_t H c2
    refine GA.aload_n dX12_like_51 rfl ?_
    refine GA.get xf_X12_7 dX12_like_52 (gs_500 hL) (by decide) rfl ?_
    refine GA.iload_n dX12_like_55 rfl ?_
    refine GA.iload dX12_like_56 rfl ?_
    obtain ⟨hg3, H⟩ := gg_e H
    obtain ⟨x4, S_5, hc6, H⟩ := gc_e H
    refine GA.callS (m_X12_at hL hc6) xs_X12_11 dX12_like_58 rfl (by omega) (by decide) rfl (Nat.le_of_ble_eq_true rfl) (by omega) (by omega) rfl (fun E S9 hx => hx.elim) (fun v S9 hq => ?_)
    obtain ⟨rfl, rfl⟩ := hq
    refine GA.iconst dX12_like_61 ?_
    obtain ⟨x7, hx8, H⟩ := gv_e H
    refine GV.iadd hx8 dX12_like_62 ?_
    refine GA.iconst dX12_like_63 ?_
    obtain ⟨hg9, H⟩ := gg_e H
    obtain ⟨S_10, hx11, H⟩ := gv_e H
    refine GV.iast hg9 hx11 dX12_like_64 (fun _ => (gs_501 hL)) (by decide) ?_
    refine GA.iload dX12_like_65 rfl ?_
    cases H
    exact GA.iret rfl dX12_like_67 (by omega) (by omega) ⟨rfl, rfl⟩
  · have H := it_f H c2
    refine GA.aload_n dX12_like_18 rfl ?_
    refine GA.get xf_X12_7 dX12_like_19 (gs_500 hL) (by decide) rfl ?_
    refine GA.iload_n dX12_like_22 rfl ?_
    refine GA.iload dX12_like_23 rfl ?_
    obtain ⟨hg12, H⟩ := gg_e H
    obtain ⟨x13, S_14, hc15, H⟩ := gc_e H
    refine GA.callS (m_X12_at hL hc15) xs_X12_11 dX12_like_25 rfl (by omega) (by decide) rfl (Nat.le_of_ble_eq_true rfl) (by omega) (by omega) rfl (fun E S9 hx => hx.elim) (fun v S9 hq => ?_)
    obtain ⟨rfl, rfl⟩ := hq
    refine GA.iload dX12_like_28 rfl ?_
    obtain ⟨x16, hx17, H⟩ := gv_e H
    refine GV.iadd hx17 dX12_like_30 ?_
    refine GA.aload_n dX12_like_31 rfl ?_
    refine GA.get xf_X12_7 dX12_like_32 (gs_500 hL) (by decide) rfl ?_
    refine GA.iload_n dX12_like_35 rfl ?_
    refine GA.iload_n dX12_like_36 rfl ?_
    obtain ⟨x18, S_19, hc20, H⟩ := gc_e H
    refine GA.callS (m_X12_at hL hc20) xs_X12_11 dX12_like_37 rfl (by omega) (by decide) rfl (Nat.le_of_ble_eq_true rfl) (by omega) (by omega) rfl (fun E S9 hx => hx.elim) (fun v S9 hq => ?_)
    obtain ⟨rfl, rfl⟩ := hq
    refine GA.iload dX12_like_40 rfl ?_
    obtain ⟨x21, hx22, H⟩ := gv_e H
    refine GV.iadd hx22 dX12_like_42 ?_
    obtain ⟨hg23, H⟩ := gg_e H
    obtain ⟨x24, hx25, H⟩ := gv_e H
    refine GV.iald hg23 hx25 dX12_like_43 (gs_501 hL) (by decide) ?_
    obtain ⟨hg26, H⟩ := gg_e H
    obtain ⟨S_27, hx28, H⟩ := gv_e H
    refine GV.iast hg26 hx28 dX12_like_44 (fun _ => (gs_501 hL)) (by decide) ?_
    obtain ⟨x29, hx30, H⟩ := gv_e H
    refine GV.iinc hx30 dX12_like_45 rfl (by decide) ?_
    refine GA.goto (tgt := 11) dX12_like_48 (by decide) ?_
    refine GA.locals [(0, .ref (L 500)), (1, .int (J a1)), (2, .int (J a2)), (3, .int (J a3)), (4, .int (J a4)), (5, .int (J x29))] ⟨rfl, rfl, rfl, rfl, rfl, rfl, trivial⟩ ?_
    exact ih_X12_like_11 hL _ _ (a1) (a2) (a3) (a4) (x29) _ _ H
theorem g_X12_like {l : Launch} {Z : XZ} {L : Nat → Nat} : ∀ n, P_X12_like_0 l Z L n ∧ P_X12_like_11 l Z L n
  | 0 => ⟨fun _ _ _ _ _ _ _ _ H => no_e H, fun _ _ _ _ _ _ _ _ _ _ H => no_e H⟩
  | n + 1 => have ⟨h0, h1⟩ := g_X12_like (l := l) (Z := Z) (L := L) n
    ⟨t_X12_like_0 n h0 h1, t_X12_like_11 n h0 h1⟩
theorem m_X12_like {l : Launch} {Z : XZ} {L : Nat → Nat} (hL : L 700 = 1) {n d : Nat} {S : GS} {a1 : Int} {a2 : Int} {a3 : Int} {x : Int} {S1 : GS} (H : f_X12_like n d 0 S [a1, a2, a3] = some (x, S1)) : GM l Z L yX12_like cX12_like 6 (some .int) [] d 0 0 [.ref (L 500), .int (J a1), .int (J a2), .int (J a3)] S (fun v S' => v = some (.int (J x)) ∧ S1 = S') (fun _ _ => False) := GM.of (by decide) (Nat.le_of_ble_eq_true rfl) ((g_X12_like n).1 hL _ _ _ _ _ _ _ H)

def P_X12_copies_0 (l : Launch) (Z : XZ) (L : Nat → Nat) (n : Nat) : Prop := ∀ (hL : L 700 = 1), ∀ (d : Nat) (S : GS) (a1 : Int) (a2 : Int) (a3 : Int) (a4 : Int) (x : Int) (S1 : GS), f_X12_copies n d 0 S [a1, a2, a3, a4] = some (x, S1) → GA l Z L yX12_copies cX12_copies 8 none [] d 0 0 (fun v S' => v = none ∧ S1 = S') (fun _ _ => False) 0 (gl [(0, .ref (L 500)), (1, .int (J a1)), (2, .int (J a2)), (3, .int (J a3)), (4, .int (J a4))]) [] S 0 0
def P_X12_copies_3 (l : Launch) (Z : XZ) (L : Nat → Nat) (n : Nat) : Prop := ∀ (hL : L 700 = 1), ∀ (d : Nat) (S : GS) (a1 : Int) (a2 : Int) (a4 : Int) (a5 : Int) (x : Int) (S1 : GS), f_X12_copies n d 3 S [a1, a2, a4, a5] = some (x, S1) → GA l Z L yX12_copies cX12_copies 8 none [] d 0 0 (fun v S' => v = none ∧ S1 = S') (fun _ _ => False) 3 (gl [(0, .ref (L 500)), (1, .int (J a1)), (2, .int (J a2)), (4, .int (J a4)), (5, .int (J a5))]) [] S 0 0
theorem i_X12_copies {l : Launch} {Z : XZ} {L : Nat → Nat} (hL : L 700 = 1) {n : Nat} (ih : P_X12_copies_0 l Z L n) {d : Nat} {S : GS} {a1 : Int} {a2 : Int} {a3 : Int} {a4 : Int} {x : Int} {S1 : GS} (H : f_X12_copies n d 0 S [a1, a2, a3, a4] = some (x, S1)) : GM l Z L yX12_copies cX12_copies 8 none [] d 0 0 [.ref (L 500), .int (J a1), .int (J a2), .int (J a3), .int (J a4)] S (fun v S' => v = none ∧ S1 = S') (fun _ _ => False) := GM.of (by decide) (Nat.le_of_ble_eq_true rfl) (ih hL _ _ _ _ _ _ _ _ H)
set_option maxHeartbeats 4000000 in
set_option maxRecDepth 20000 in
theorem t_X12_copies_0 {l : Launch} {Z : XZ} {L : Nat → Nat} (n : Nat) (ih_X12_copies_0 : P_X12_copies_0 l Z L n) (ih_X12_copies_3 : P_X12_copies_3 l Z L n) : P_X12_copies_0 l Z L (n + 1) := by
  intro hL d S a1 a2 a3 a4 x S1 H
  have H : b_X12_copies_0 n d (f_X12_copies n) S a1 a2 a3 a4 = some (x, S1) := H
  unfold b_X12_copies_0 at H
  refine GA.iload_n dX12_copies_0 rfl ?_
  refine GA.istore dX12_copies_1 (by decide) ?_
  refine GA.locals [(0, .ref (L 500)), (1, .int (J a1)), (2, .int (J a2)), (4, .int (J a4)), (5, .int (J a3))] ⟨rfl, rfl, rfl, rfl, rfl, trivial⟩ ?_
  exact ih_X12_copies_3 hL _ _ (a1) (a2) (a4) (a3) _ _ H
set_option maxHeartbeats 4000000 in
set_option maxRecDepth 20000 in
theorem t_X12_copies_3 {l : Launch} {Z : XZ} {L : Nat → Nat} (n : Nat) (ih_X12_copies_0 : P_X12_copies_0 l Z L n) (ih_X12_copies_3 : P_X12_copies_3 l Z L n) : P_X12_copies_3 l Z L (n + 1) := by
  intro hL d S a1 a2 a4 a5 x S1 H
  have H : b_X12_copies_3 n d (f_X12_copies n) S a1 a2 a4 a5 = some (x, S1) := H
  unfold b_X12_copies_3 at H
  refine GA.iload dX12_copies_3 rfl ?_
  refine GA.iload dX12_copies_5 rfl ?_
  obtain ⟨hg1, H⟩ := gg_e H
  obtain ⟨hg2, H⟩ := gg_e H
  refine GV.icmp_ge (tgt := 51) hg1 hg2 dX12_copies_7 (by decide) (fun c3 => ?_) (fun c3 => ?_)
  · have H := it_t H c3
    cases H
    exact GA.vret rfl dX12_copies_51 (by omega) (by omega) ⟨rfl, rfl⟩
  · have H := it_f H c3
    refine GA.aload_n dX12_copies_10 rfl ?_
    refine GA.iload_n dX12_copies_11 rfl ?_
    refine GA.iload dX12_copies_12 rfl ?_
    refine GA.iconst dX12_copies_14 ?_
    obtain ⟨hg4, H⟩ := gg_e H
    obtain ⟨x5, S_6, hc7, H⟩ := gc_e H
    refine GA.callV (m_X12_part hL hc7) xs_X12_36 dX12_copies_15 (gs_500 hL) (by decide) rfl rfl (by omega) (by decide) rfl (Nat.le_of_ble_eq_true rfl) (by omega) (by omega) rfl (fun E S9 hx => hx.elim) (fun v S9 hq => ?_)
    obtain ⟨rfl, rfl⟩ := hq
    refine GA.istore dX12_copies_18 (by decide) ?_
    refine GA.aload_n dX12_copies_20 rfl ?_
    refine GA.iload_n dX12_copies_21 rfl ?_
    refine GA.iload_n dX12_copies_22 rfl ?_
    refine GA.iload dX12_copies_23 rfl ?_
    obtain ⟨x8, S_9, hc10, H⟩ := gc_e H
    refine GA.callV (m_X12_like hL hc10) xs_X12_40 dX12_copies_25 (gs_500 hL) (by decide) rfl rfl (by omega) (by decide) rfl (Nat.le_of_ble_eq_true rfl) (by omega) (by omega) rfl (fun E S9 hx => hx.elim) (fun v S9 hq => ?_)
    obtain ⟨rfl, rfl⟩ := hq
    refine GA.istore dX12_copies_28 (by decide) ?_
    refine GA.aload_n dX12_copies_30 rfl ?_
    refine GA.get xf_X12_7 dX12_copies_31 (gs_500 hL) (by decide) rfl ?_
    refine GA.iload_n dX12_copies_34 rfl ?_
    refine GA.iload dX12_copies_35 rfl ?_
    obtain ⟨x11, S_12, hc13, H⟩ := gc_e H
    refine GA.callS (m_X12_at hL hc13) xs_X12_11 dX12_copies_37 rfl (by omega) (by decide) rfl (Nat.le_of_ble_eq_true rfl) (by omega) (by omega) rfl (fun E S9 hx => hx.elim) (fun v S9 hq => ?_)
    obtain ⟨rfl, rfl⟩ := hq
    refine GA.iconst dX12_copies_40 ?_
    obtain ⟨x14, hx15, H⟩ := gv_e H
    refine GV.iadd hx15 dX12_copies_41 ?_
    refine GA.iload dX12_copies_42 rfl ?_
    obtain ⟨hg16, H⟩ := gg_e H
    obtain ⟨S_17, hx18, H⟩ := gv_e H
    refine GV.iast hg16 hx18 dX12_copies_44 (fun _ => (gs_501 hL)) (by decide) ?_
    obtain ⟨x19, hx20, H⟩ := gv_e H
    refine GV.iinc hx20 dX12_copies_45 rfl (by decide) ?_
    refine GA.goto (tgt := 3) dX12_copies_48 (by decide) ?_
    refine GA.locals [(0, .ref (L 500)), (1, .int (J a1)), (2, .int (J a2)), (4, .int (J a4)), (5, .int (J x19))] ⟨rfl, rfl, rfl, rfl, rfl, trivial⟩ ?_
    exact ih_X12_copies_3 hL _ _ (a1) (a2) (a4) (x19) _ _ H
theorem g_X12_copies {l : Launch} {Z : XZ} {L : Nat → Nat} : ∀ n, P_X12_copies_0 l Z L n ∧ P_X12_copies_3 l Z L n
  | 0 => ⟨fun _ _ _ _ _ _ _ _ _ H => no_e H, fun _ _ _ _ _ _ _ _ _ H => no_e H⟩
  | n + 1 => have ⟨h0, h1⟩ := g_X12_copies (l := l) (Z := Z) (L := L) n
    ⟨t_X12_copies_0 n h0 h1, t_X12_copies_3 n h0 h1⟩
theorem m_X12_copies {l : Launch} {Z : XZ} {L : Nat → Nat} (hL : L 700 = 1) {n d : Nat} {S : GS} {a1 : Int} {a2 : Int} {a3 : Int} {a4 : Int} {x : Int} {S1 : GS} (H : f_X12_copies n d 0 S [a1, a2, a3, a4] = some (x, S1)) : GM l Z L yX12_copies cX12_copies 8 none [] d 0 0 [.ref (L 500), .int (J a1), .int (J a2), .int (J a3), .int (J a4)] S (fun v S' => v = none ∧ S1 = S') (fun _ _ => False) := GM.of (by decide) (Nat.le_of_ble_eq_true rfl) ((g_X12_copies n).1 hL _ _ _ _ _ _ _ _ H)

def P_X12_noKey_0 (l : Launch) (Z : XZ) (L : Nat → Nat) (n : Nat) : Prop := ∀ (hL : L 700 = 1), ∀ (d : Nat) (S : GS) (a1 : Int) (a2 : Int) (x : Int) (S1 : GS), f_X12_noKey n d 0 S [a1, a2] = some (x, S1) → GA l Z L yX12_noKey cX12_noKey 3 none [] d 0 0 (fun v S' => v = none ∧ S1 = S') (fun _ _ => False) 0 (gl [(0, .ref (L 500)), (1, .int (J a1)), (2, .int (J a2))]) [] S 0 0
theorem i_X12_noKey {l : Launch} {Z : XZ} {L : Nat → Nat} (hL : L 700 = 1) {n : Nat} (ih : P_X12_noKey_0 l Z L n) {d : Nat} {S : GS} {a1 : Int} {a2 : Int} {x : Int} {S1 : GS} (H : f_X12_noKey n d 0 S [a1, a2] = some (x, S1)) : GM l Z L yX12_noKey cX12_noKey 3 none [] d 0 0 [.ref (L 500), .int (J a1), .int (J a2)] S (fun v S' => v = none ∧ S1 = S') (fun _ _ => False) := GM.of (by decide) (Nat.le_of_ble_eq_true rfl) (ih hL _ _ _ _ _ _ H)
set_option maxHeartbeats 4000000 in
set_option maxRecDepth 20000 in
theorem t_X12_noKey_0 {l : Launch} {Z : XZ} {L : Nat → Nat} (n : Nat) (ih_X12_noKey_0 : P_X12_noKey_0 l Z L n) : P_X12_noKey_0 l Z L (n + 1) := by
  intro hL d S a1 a2 x S1 H
  have H : b_X12_noKey_0 n d (f_X12_noKey n) S a1 a2 = some (x, S1) := H
  unfold b_X12_noKey_0 at H
  refine GA.aload_n dX12_noKey_0 rfl ?_
  refine GA.get xf_X12_7 dX12_noKey_1 (gs_500 hL) (by decide) rfl ?_
  refine GA.iload_n dX12_noKey_4 rfl ?_
  refine GA.iload_n dX12_noKey_5 rfl ?_
  obtain ⟨hg1, H⟩ := gg_e H
  obtain ⟨x2, S_3, hc4, H⟩ := gc_e H
  refine GA.callS (m_X12_at hL hc4) xs_X12_11 dX12_noKey_6 rfl (by omega) (by decide) rfl (Nat.le_of_ble_eq_true rfl) (by omega) (by omega) rfl (fun E S9 hx => hx.elim) (fun v S9 hq => ?_)
  obtain ⟨rfl, rfl⟩ := hq
  refine GA.iconst dX12_noKey_9 ?_
  obtain ⟨x5, hx6, H⟩ := gv_e H
  refine GV.iadd hx6 dX12_noKey_10 ?_
  refine GA.iconst dX12_noKey_11 ?_
  obtain ⟨hg7, H⟩ := gg_e H
  obtain ⟨S_8, hx9, H⟩ := gv_e H
  refine GV.iast hg7 hx9 dX12_noKey_12 (fun _ => (gs_501 hL)) (by decide) ?_
  cases H
  exact GA.vret rfl dX12_noKey_13 (by omega) (by omega) ⟨rfl, rfl⟩
theorem g_X12_noKey {l : Launch} {Z : XZ} {L : Nat → Nat} : ∀ n, P_X12_noKey_0 l Z L n
  | 0 => fun _ _ _ _ _ _ _ H => no_e H
  | n + 1 => t_X12_noKey_0 n (g_X12_noKey n)
theorem m_X12_noKey {l : Launch} {Z : XZ} {L : Nat → Nat} (hL : L 700 = 1) {n d : Nat} {S : GS} {a1 : Int} {a2 : Int} {x : Int} {S1 : GS} (H : f_X12_noKey n d 0 S [a1, a2] = some (x, S1)) : GM l Z L yX12_noKey cX12_noKey 3 none [] d 0 0 [.ref (L 500), .int (J a1), .int (J a2)] S (fun v S' => v = none ∧ S1 = S') (fun _ _ => False) := GM.of (by decide) (Nat.le_of_ble_eq_true rfl) ((g_X12_noKey n) hL _ _ _ _ _ _ H)

def P_X12_brings_0 (l : Launch) (Z : XZ) (L : Nat → Nat) (n : Nat) : Prop := ∀ (hL : L 700 = 1), ∀ (d : Nat) (S : GS) (a1 : Int) (a2 : Int) (a3 : Int) (a4 : Int) (x : Int) (S1 : GS), f_X12_brings n d 0 S [a1, a2, a3, a4] = some (x, S1) → GA l Z L yX12_brings cX12_brings 6 none [] d 0 0 (fun v S' => v = none ∧ S1 = S') (fun _ _ => False) 0 (gl [(0, .ref (L 500)), (1, .int (J a1)), (2, .int (J a2)), (3, .int (J a3)), (4, .int (J a4))]) [] S 0 0
theorem i_X12_brings {l : Launch} {Z : XZ} {L : Nat → Nat} (hL : L 700 = 1) {n : Nat} (ih : P_X12_brings_0 l Z L n) {d : Nat} {S : GS} {a1 : Int} {a2 : Int} {a3 : Int} {a4 : Int} {x : Int} {S1 : GS} (H : f_X12_brings n d 0 S [a1, a2, a3, a4] = some (x, S1)) : GM l Z L yX12_brings cX12_brings 6 none [] d 0 0 [.ref (L 500), .int (J a1), .int (J a2), .int (J a3), .int (J a4)] S (fun v S' => v = none ∧ S1 = S') (fun _ _ => False) := GM.of (by decide) (Nat.le_of_ble_eq_true rfl) (ih hL _ _ _ _ _ _ _ _ H)
set_option maxHeartbeats 4000000 in
set_option maxRecDepth 20000 in
theorem t_X12_brings_0 {l : Launch} {Z : XZ} {L : Nat → Nat} (n : Nat) (ih_X12_brings_0 : P_X12_brings_0 l Z L n) : P_X12_brings_0 l Z L (n + 1) := by
  intro hL d S a1 a2 a3 a4 x S1 H
  have H : b_X12_brings_0 n d (f_X12_brings n) S a1 a2 a3 a4 = some (x, S1) := H
  unfold b_X12_brings_0 at H
  refine GA.aload_n dX12_brings_0 rfl ?_
  refine GA.get xf_X12_26 dX12_brings_1 (gs_500 hL) (by decide) rfl ?_
  refine GA.iload_n dX12_brings_4 rfl ?_
  obtain ⟨hg1, H⟩ := gg_e H
  obtain ⟨x2, hx3, H⟩ := gv_e H
  refine GV.iald hg1 hx3 dX12_brings_5 (gs_502 hL) (by decide) ?_
  refine GA.istore dX12_brings_6 (by decide) ?_
  refine GA.aload_n dX12_brings_8 rfl ?_
  refine GA.iload_n dX12_brings_9 rfl ?_
  refine GA.iload_n dX12_brings_10 rfl ?_
  refine GA.iload_n dX12_brings_11 rfl ?_
  refine GA.aload_n dX12_brings_12 rfl ?_
  refine GA.iload_n dX12_brings_13 rfl ?_
  refine GA.iload_n dX12_brings_14 rfl ?_
  obtain ⟨hg4, H⟩ := gg_e H
  obtain ⟨x5, S_6, hc7, H⟩ := gc_e H
  refine GA.callV (m_X12_endOf hL hc7) xs_X12_49 dX12_brings_15 (gs_500 hL) (by decide) rfl rfl (by omega) (by decide) rfl (Nat.le_of_ble_eq_true rfl) (by omega) (by omega) rfl (fun E S9 hx => hx.elim) (fun v S9 hq => ?_)
  obtain ⟨rfl, rfl⟩ := hq
  obtain ⟨x8, S_9, hc10, H⟩ := gc_e H
  refine GA.callV (m_X12_copies hL hc10) xs_X12_598 dX12_brings_18 (gs_500 hL) (by decide) rfl rfl (by omega) (by decide) rfl (Nat.le_of_ble_eq_true rfl) (by omega) (by omega) rfl (fun E S9 hx => hx.elim) (fun v S9 hq => ?_)
  obtain ⟨rfl, rfl⟩ := hq
  refine GA.iload dX12_brings_21 rfl ?_
  refine GA.bipush dX12_brings_23 rfl ?_
  obtain ⟨hg11, H⟩ := gg_e H
  refine GV.icmp_ge (tgt := 47) hg11 (by decide) dX12_brings_25 (by decide) (fun c12 => ?_) (fun c12 => ?_)
  · have H := it_t H c12
    cases H
    exact GA.vret rfl dX12_brings_47 (by omega) (by omega) ⟨rfl, rfl⟩
  · have H := it_f H c12
    refine GA.aload_n dX12_brings_28 rfl ?_
    refine GA.iload_n dX12_brings_29 rfl ?_
    refine GA.iload dX12_brings_30 rfl ?_
    obtain ⟨x13, S_14, hc15, H⟩ := gc_e H
    refine GA.callV (m_X12_noKey hL hc15) xs_X12_542 dX12_brings_32 (gs_500 hL) (by decide) rfl rfl (by omega) (by decide) rfl (Nat.le_of_ble_eq_true rfl) (by omega) (by omega) rfl (fun E S9 hx => hx.elim) (fun v S9 hq => ?_)
    obtain ⟨rfl, rfl⟩ := hq
    refine GA.iload dX12_brings_35 rfl ?_
    obtain ⟨hg16, H⟩ := gg_e H
    refine GV.if_eq (tgt := 47) hg16 dX12_brings_37 (by decide) (fun c17 => ?_) (fun c17 => ?_)
    · have H := it_t H c17
      cases H
      exact GA.vret rfl dX12_brings_47 (by omega) (by omega) ⟨rfl, rfl⟩
    · have H := it_f H c17
      refine GA.aload_n dX12_brings_40 rfl ?_
      refine GA.iload_n dX12_brings_41 rfl ?_
      refine GA.iload dX12_brings_42 rfl ?_
      obtain ⟨x18, S_19, hc20, H⟩ := gc_e H
      refine GA.callV (m_X12_keyIs hL hc20) xs_X12_650 dX12_brings_44 (gs_500 hL) (by decide) rfl rfl (by omega) (by decide) rfl (Nat.le_of_ble_eq_true rfl) (by omega) (by omega) rfl (fun E S9 hx => hx.elim) (fun v S9 hq => ?_)
      obtain ⟨rfl, rfl⟩ := hq
      cases H
      exact GA.vret rfl dX12_brings_47 (by omega) (by omega) ⟨rfl, rfl⟩
theorem g_X12_brings {l : Launch} {Z : XZ} {L : Nat → Nat} : ∀ n, P_X12_brings_0 l Z L n
  | 0 => fun _ _ _ _ _ _ _ _ _ H => no_e H
  | n + 1 => t_X12_brings_0 n (g_X12_brings n)
theorem m_X12_brings {l : Launch} {Z : XZ} {L : Nat → Nat} (hL : L 700 = 1) {n d : Nat} {S : GS} {a1 : Int} {a2 : Int} {a3 : Int} {a4 : Int} {x : Int} {S1 : GS} (H : f_X12_brings n d 0 S [a1, a2, a3, a4] = some (x, S1)) : GM l Z L yX12_brings cX12_brings 6 none [] d 0 0 [.ref (L 500), .int (J a1), .int (J a2), .int (J a3), .int (J a4)] S (fun v S' => v = none ∧ S1 = S') (fun _ _ => False) := GM.of (by decide) (Nat.le_of_ble_eq_true rfl) ((g_X12_brings n) hL _ _ _ _ _ _ _ _ H)

def P_X12_ordered_0 (l : Launch) (Z : XZ) (L : Nat → Nat) (n : Nat) : Prop := ∀ (hL : L 700 = 1), ∀ (d : Nat) (S : GS) (a1 : Int) (a2 : Int) (a3 : Int) (a4 : Int) (x : Int) (S1 : GS), f_X12_ordered n d 0 S [a1, a2, a3, a4] = some (x, S1) → GA l Z L yX12_ordered cX12_ordered 9 none [] d 0 0 (fun v S' => v = none ∧ S1 = S') (fun _ _ => False) 0 (gl [(0, .ref (L 500)), (1, .int (J a1)), (2, .int (J a2)), (3, .int (J a3)), (4, .int (J a4))]) [] S 0 0
def P_X12_ordered_18 (l : Launch) (Z : XZ) (L : Nat → Nat) (n : Nat) : Prop := ∀ (hL : L 700 = 1), ∀ (d : Nat) (S : GS) (a1 : Int) (a2 : Int) (a3 : Int) (a4 : Int) (s0 : Int) (x : Int) (S1 : GS), f_X12_ordered n d 18 S [a1, a2, a3, a4, s0] = some (x, S1) → GA l Z L yX12_ordered cX12_ordered 9 none [] d 0 0 (fun v S' => v = none ∧ S1 = S') (fun _ _ => False) 18 (gl [(0, .ref (L 500)), (1, .int (J a1)), (2, .int (J a2)), (3, .int (J a3)), (4, .int (J a4))]) [.int (J s0)] S 0 0
def P_X12_ordered_58 (l : Launch) (Z : XZ) (L : Nat → Nat) (n : Nat) : Prop := ∀ (hL : L 700 = 1), ∀ (d : Nat) (S : GS) (a1 : Int) (a2 : Int) (a3 : Int) (a4 : Int) (s0 : Int) (x : Int) (S1 : GS), f_X12_ordered n d 58 S [a1, a2, a3, a4, s0] = some (x, S1) → GA l Z L yX12_ordered cX12_ordered 9 none [] d 0 0 (fun v S' => v = none ∧ S1 = S') (fun _ _ => False) 58 (gl [(0, .ref (L 500)), (1, .int (J a1)), (2, .int (J a2)), (3, .int (J a3)), (4, .int (J a4))]) [.int (J s0), .ref (L 500)] S 0 0
def P_X12_ordered_108 (l : Launch) (Z : XZ) (L : Nat → Nat) (n : Nat) : Prop := ∀ (hL : L 700 = 1), ∀ (d : Nat) (S : GS) (a1 : Int) (a2 : Int) (a3 : Int) (a4 : Int) (s0 : Int) (s1 : Int) (x : Int) (S1 : GS), f_X12_ordered n d 108 S [a1, a2, a3, a4, s0, s1] = some (x, S1) → GA l Z L yX12_ordered cX12_ordered 9 none [] d 0 0 (fun v S' => v = none ∧ S1 = S') (fun _ _ => False) 108 (gl [(0, .ref (L 500)), (1, .int (J a1)), (2, .int (J a2)), (3, .int (J a3)), (4, .int (J a4))]) [.int (J s0), .int (J s1), .ref (L 501)] S 0 0
def P_X12_ordered_187 (l : Launch) (Z : XZ) (L : Nat → Nat) (n : Nat) : Prop := ∀ (hL : L 700 = 1), ∀ (d : Nat) (S : GS) (a1 : Int) (a3 : Int) (a4 : Int) (a7 : Int) (a8 : Int) (x : Int) (S1 : GS), f_X12_ordered n d 187 S [a1, a3, a4, a7, a8] = some (x, S1) → GA l Z L yX12_ordered cX12_ordered 9 none [] d 0 0 (fun v S' => v = none ∧ S1 = S') (fun _ _ => False) 187 (gl [(0, .ref (L 500)), (1, .int (J a1)), (3, .int (J a3)), (4, .int (J a4)), (7, .int (J a7)), (8, .int (J a8))]) [] S 0 0
theorem i_X12_ordered {l : Launch} {Z : XZ} {L : Nat → Nat} (hL : L 700 = 1) {n : Nat} (ih : P_X12_ordered_0 l Z L n) {d : Nat} {S : GS} {a1 : Int} {a2 : Int} {a3 : Int} {a4 : Int} {x : Int} {S1 : GS} (H : f_X12_ordered n d 0 S [a1, a2, a3, a4] = some (x, S1)) : GM l Z L yX12_ordered cX12_ordered 9 none [] d 0 0 [.ref (L 500), .int (J a1), .int (J a2), .int (J a3), .int (J a4)] S (fun v S' => v = none ∧ S1 = S') (fun _ _ => False) := GM.of (by decide) (Nat.le_of_ble_eq_true rfl) (ih hL _ _ _ _ _ _ _ _ H)
set_option maxHeartbeats 4000000 in
set_option maxRecDepth 20000 in
theorem t_X12_ordered_0 {l : Launch} {Z : XZ} {L : Nat → Nat} (n : Nat) (ih_X12_ordered_0 : P_X12_ordered_0 l Z L n) (ih_X12_ordered_18 : P_X12_ordered_18 l Z L n) (ih_X12_ordered_58 : P_X12_ordered_58 l Z L n) (ih_X12_ordered_108 : P_X12_ordered_108 l Z L n) (ih_X12_ordered_187 : P_X12_ordered_187 l Z L n) : P_X12_ordered_0 l Z L (n + 1) := by
  intro hL d S a1 a2 a3 a4 x S1 H
  have H : b_X12_ordered_0 n d (f_X12_ordered n) S a1 a2 a3 a4 = some (x, S1) := H
  unfold b_X12_ordered_0 at H
  refine GA.iload dX12_ordered_0 rfl ?_
  refine GA.iconst dX12_ordered_2 ?_
  obtain ⟨hg1, H⟩ := gg_e H
  refine GV.icmp_ne (tgt := 10) hg1 (by decide) dX12_ordered_3 (by decide) (fun c2 => ?_) (fun c2 => ?_)
  · have H := it_t H c2
    refine GA.aload_n dX12_ordered_10 rfl ?_
    refine GA.iload_n dX12_ordered_11 rfl ?_
    refine GA.iload dX12_ordered_12 rfl ?_
    refine GA.iconst dX12_ordered_14 ?_
    obtain ⟨hg3, H⟩ := gg_e H
    obtain ⟨x4, S_5, hc6, H⟩ := gc_e H
    refine GA.callV (m_X12_part hL hc6) xs_X12_36 dX12_ordered_15 (gs_500 hL) (by decide) rfl rfl (by omega) (by decide) rfl (Nat.le_of_ble_eq_true rfl) (by omega) (by omega) rfl (fun E S9 hx => hx.elim) (fun v S9 hq => ?_)
    obtain ⟨rfl, rfl⟩ := hq
    refine GA.locals [(0, .ref (L 500)), (1, .int (J a1)), (2, .int (J a2)), (3, .int (J a3)), (4, .int (J a4))] ⟨rfl, rfl, rfl, rfl, rfl, trivial⟩ ?_
    exact ih_X12_ordered_18 hL _ _ (a1) (a2) (a3) (a4) (x4) _ _ H
  · have H := it_f H c2
    refine GA.iconst dX12_ordered_6 ?_
    refine GA.goto (tgt := 18) dX12_ordered_7 (by decide) ?_
    refine GA.locals [(0, .ref (L 500)), (1, .int (J a1)), (2, .int (J a2)), (3, .int (J a3)), (4, .int (J a4))] ⟨rfl, rfl, rfl, rfl, rfl, trivial⟩ ?_
    exact ih_X12_ordered_18 hL _ _ (a1) (a2) (a3) (a4) (0) _ _ H
set_option maxHeartbeats 4000000 in
set_option maxRecDepth 20000 in
theorem t_X12_ordered_18 {l : Launch} {Z : XZ} {L : Nat → Nat} (n : Nat) (ih_X12_ordered_0 : P_X12_ordered_0 l Z L n) (ih_X12_ordered_18 : P_X12_ordered_18 l Z L n) (ih_X12_ordered_58 : P_X12_ordered_58 l Z L n) (ih_X12_ordered_108 : P_X12_ordered_108 l Z L n) (ih_X12_ordered_187 : P_X12_ordered_187 l Z L n) : P_X12_ordered_18 l Z L (n + 1) := by
  intro hL d S a1 a2 a3 a4 s0 x S1 H
  have H : b_X12_ordered_18 n d (f_X12_ordered n) S a1 a2 a3 a4 s0 = some (x, S1) := H
  unfold b_X12_ordered_18 at H
  refine GA.istore dX12_ordered_18 (by decide) ?_
  refine GA.aload_n dX12_ordered_20 rfl ?_
  refine GA.aload_n dX12_ordered_21 rfl ?_
  obtain ⟨x1, hx2, H⟩ := gv_e H
  refine GV.getB hx2 xf_X12_714 dX12_ordered_22 (gs_500 hL) (by decide) rfl ?_
  obtain ⟨hg3, H⟩ := gg_e H
  refine GV.if_ne (tgt := 53) hg3 dX12_ordered_25 (by decide) (fun c4 => ?_) (fun c4 => ?_)
  · have H := it_t H c4
    refine GA.iconst dX12_ordered_53 ?_
    refine GA.goto (tgt := 58) dX12_ordered_54 (by decide) ?_
    refine GA.locals [(0, .ref (L 500)), (1, .int (J a1)), (2, .int (J a2)), (3, .int (J a3)), (4, .int (J a4))] ⟨rfl, rfl, rfl, rfl, rfl, trivial⟩ ?_
    exact ih_X12_ordered_58 hL _ _ (a1) (a2) (a3) (a4) (1) _ _ H
  · have H := it_f H c4
    refine GA.aload_n dX12_ordered_28 rfl ?_
    obtain ⟨x5, hx6, H⟩ := gv_e H
    refine GV.getI hx6 xf_X12_604 dX12_ordered_29 (gs_500 hL) (by decide) rfl ?_
    refine GA.bipush dX12_ordered_32 rfl ?_
    obtain ⟨hg7, H⟩ := gg_e H
    refine GV.icmp_gt (tgt := 53) hg7 (by decide) dX12_ordered_34 (by decide) (fun c8 => ?_) (fun c8 => ?_)
    · have H := it_t H c8
      refine GA.iconst dX12_ordered_53 ?_
      refine GA.goto (tgt := 58) dX12_ordered_54 (by decide) ?_
      refine GA.locals [(0, .ref (L 500)), (1, .int (J a1)), (2, .int (J a2)), (3, .int (J a3)), (4, .int (J a4))] ⟨rfl, rfl, rfl, rfl, rfl, trivial⟩ ?_
      exact ih_X12_ordered_58 hL _ _ (a1) (a2) (a3) (a4) (1) _ _ H
    · have H := it_f H c8
      refine GA.aload_n dX12_ordered_37 rfl ?_
      refine GA.get xf_X12_26 dX12_ordered_38 (gs_500 hL) (by decide) rfl ?_
      refine GA.iload_n dX12_ordered_41 rfl ?_
      obtain ⟨hg9, H⟩ := gg_e H
      obtain ⟨x10, hx11, H⟩ := gv_e H
      refine GV.iald hg9 hx11 dX12_ordered_42 (gs_502 hL) (by decide) ?_
      refine GA.iconst dX12_ordered_43 ?_
      obtain ⟨x12, hx13, H⟩ := gv_e H
      refine GV.iadd hx13 dX12_ordered_44 ?_
      refine GA.iload dX12_ordered_45 rfl ?_
      obtain ⟨x14, hx15, H⟩ := gv_e H
      refine GV.iadd hx15 dX12_ordered_47 ?_
      refine GA.bipush dX12_ordered_48 rfl ?_
      obtain ⟨hg16, H⟩ := gg_e H
      refine GV.icmp_le (tgt := 57) hg16 (by decide) dX12_ordered_50 (by decide) (fun c17 => ?_) (fun c17 => ?_)
      · have H := it_t H c17
        refine GA.iconst dX12_ordered_57 ?_
        refine GA.locals [(0, .ref (L 500)), (1, .int (J a1)), (2, .int (J a2)), (3, .int (J a3)), (4, .int (J a4))] ⟨rfl, rfl, rfl, rfl, rfl, trivial⟩ ?_
        exact ih_X12_ordered_58 hL _ _ (a1) (a2) (a3) (a4) (0) _ _ H
      · have H := it_f H c17
        refine GA.iconst dX12_ordered_53 ?_
        refine GA.goto (tgt := 58) dX12_ordered_54 (by decide) ?_
        refine GA.locals [(0, .ref (L 500)), (1, .int (J a1)), (2, .int (J a2)), (3, .int (J a3)), (4, .int (J a4))] ⟨rfl, rfl, rfl, rfl, rfl, trivial⟩ ?_
        exact ih_X12_ordered_58 hL _ _ (a1) (a2) (a3) (a4) (1) _ _ H
set_option maxHeartbeats 4000000 in
set_option maxRecDepth 20000 in
theorem t_X12_ordered_58 {l : Launch} {Z : XZ} {L : Nat → Nat} (n : Nat) (ih_X12_ordered_0 : P_X12_ordered_0 l Z L n) (ih_X12_ordered_18 : P_X12_ordered_18 l Z L n) (ih_X12_ordered_58 : P_X12_ordered_58 l Z L n) (ih_X12_ordered_108 : P_X12_ordered_108 l Z L n) (ih_X12_ordered_187 : P_X12_ordered_187 l Z L n) : P_X12_ordered_58 l Z L (n + 1) := by
  intro hL d S a1 a2 a3 a4 s0 x S1 H
  have H : b_X12_ordered_58 n d (f_X12_ordered n) S a1 a2 a3 a4 s0 = some (x, S1) := H
  unfold b_X12_ordered_58 at H
  obtain ⟨hg1, H⟩ := gg_e H
  obtain ⟨S_2, hx3, H⟩ := gv_e H
  refine GV.putB hg1 hx3 (xp_X12_714 (xb_01 _)) dX12_ordered_58 (gs_500 hL) (by decide) (Nat.le_of_ble_eq_true rfl) (gs_500 hL) ?_
  refine GA.aload_n dX12_ordered_61 rfl ?_
  refine GA.get xf_X12_7 dX12_ordered_62 (gs_500 hL) (by decide) rfl ?_
  refine GA.iload_n dX12_ordered_65 rfl ?_
  refine GA.iconst dX12_ordered_66 ?_
  obtain ⟨hg4, H⟩ := gg_e H
  obtain ⟨x5, S_6, hc7, H⟩ := gc_e H
  refine GA.callS (m_X12_at hL hc7) xs_X12_11 dX12_ordered_67 rfl (by omega) (by decide) rfl (Nat.le_of_ble_eq_true rfl) (by omega) (by omega) rfl (fun E S9 hx => hx.elim) (fun v S9 hq => ?_)
  obtain ⟨rfl, rfl⟩ := hq
  refine GA.iconst dX12_ordered_70 ?_
  obtain ⟨x8, hx9, H⟩ := gv_e H
  refine GV.iadd hx9 dX12_ordered_71 ?_
  refine GA.dup2 dX12_ordered_72 rfl rfl ?_
  obtain ⟨hg10, H⟩ := gg_e H
  obtain ⟨x11, hx12, H⟩ := gv_e H
  refine GV.iald hg10 hx12 dX12_ordered_73 (gs_501 hL) (by decide) ?_
  refine GA.iconst dX12_ordered_74 ?_
  obtain ⟨x13, hx14, H⟩ := gv_e H
  refine GV.iadd hx14 dX12_ordered_75 ?_
  obtain ⟨S_15, hx16, H⟩ := gv_e H
  refine GV.iast hg10 hx16 dX12_ordered_76 (fun _ => (gs_501 hL)) (by decide) ?_
  refine GA.aload_n dX12_ordered_77 rfl ?_
  refine GA.iload_n dX12_ordered_78 rfl ?_
  refine GA.iconst dX12_ordered_79 ?_
  obtain ⟨x17, S_18, hc19, H⟩ := gc_e H
  refine GA.callV (m_X12_added hL hc19) xs_X12_33 dX12_ordered_80 (gs_500 hL) (by decide) rfl rfl (by omega) (by decide) rfl (Nat.le_of_ble_eq_true rfl) (by omega) (by omega) rfl (fun E S9 hx => hx.elim) (fun v S9 hq => ?_)
  obtain ⟨rfl, rfl⟩ := hq
  refine GA.istore dX12_ordered_83 (by decide) ?_
  refine GA.aload_n dX12_ordered_85 rfl ?_
  refine GA.get xf_X12_7 dX12_ordered_86 (gs_500 hL) (by decide) rfl ?_
  refine GA.iload_n dX12_ordered_89 rfl ?_
  refine GA.iload dX12_ordered_90 rfl ?_
  obtain ⟨x20, S_21, hc22, H⟩ := gc_e H
  refine GA.callS (m_X12_at hL hc22) xs_X12_11 dX12_ordered_92 rfl (by omega) (by decide) rfl (Nat.le_of_ble_eq_true rfl) (by omega) (by omega) rfl (fun E S9 hx => hx.elim) (fun v S9 hq => ?_)
  obtain ⟨rfl, rfl⟩ := hq
  refine GA.iconst dX12_ordered_95 ?_
  obtain ⟨x23, hx24, H⟩ := gv_e H
  refine GV.iadd hx24 dX12_ordered_96 ?_
  refine GA.iload dX12_ordered_97 rfl ?_
  refine GA.iconst dX12_ordered_99 ?_
  obtain ⟨hg25, H⟩ := gg_e H
  refine GV.icmp_ne (tgt := 107) hg25 (by decide) dX12_ordered_100 (by decide) (fun c26 => ?_) (fun c26 => ?_)
  · have H := it_t H c26
    refine GA.iconst dX12_ordered_107 ?_
    refine GA.locals [(0, .ref (L 500)), (1, .int (J a1)), (2, .int (J a2)), (3, .int (J a3)), (4, .int (J a4))] ⟨rfl, rfl, rfl, rfl, rfl, trivial⟩ ?_
    exact ih_X12_ordered_108 hL _ _ (a1) (a2) (a3) (a4) (3) (x23) _ _ H
  · have H := it_f H c26
    refine GA.iconst dX12_ordered_103 ?_
    refine GA.goto (tgt := 108) dX12_ordered_104 (by decide) ?_
    refine GA.locals [(0, .ref (L 500)), (1, .int (J a1)), (2, .int (J a2)), (3, .int (J a3)), (4, .int (J a4))] ⟨rfl, rfl, rfl, rfl, rfl, trivial⟩ ?_
    exact ih_X12_ordered_108 hL _ _ (a1) (a2) (a3) (a4) (2) (x23) _ _ H
set_option maxHeartbeats 4000000 in
set_option maxRecDepth 20000 in
theorem t_X12_ordered_108 {l : Launch} {Z : XZ} {L : Nat → Nat} (n : Nat) (ih_X12_ordered_0 : P_X12_ordered_0 l Z L n) (ih_X12_ordered_18 : P_X12_ordered_18 l Z L n) (ih_X12_ordered_58 : P_X12_ordered_58 l Z L n) (ih_X12_ordered_108 : P_X12_ordered_108 l Z L n) (ih_X12_ordered_187 : P_X12_ordered_187 l Z L n) : P_X12_ordered_108 l Z L (n + 1) := by
  intro hL d S a1 a2 a3 a4 s0 s1 x S1 H
  have H : b_X12_ordered_108 n d (f_X12_ordered n) S a1 a2 a3 a4 s0 s1 = some (x, S1) := H
  unfold b_X12_ordered_108 at H
  obtain ⟨hg1, H⟩ := gg_e H
  obtain ⟨S_2, hx3, H⟩ := gv_e H
  refine GV.iast hg1 hx3 dX12_ordered_108 (fun _ => (gs_501 hL)) (by decide) ?_
  refine GA.aload_n dX12_ordered_109 rfl ?_
  refine GA.iload_n dX12_ordered_110 rfl ?_
  refine GA.iconst dX12_ordered_111 ?_
  obtain ⟨hg4, H⟩ := gg_e H
  obtain ⟨x5, S_6, hc7, H⟩ := gc_e H
  refine GA.callV (m_X12_added hL hc7) xs_X12_33 dX12_ordered_112 (gs_500 hL) (by decide) rfl rfl (by omega) (by decide) rfl (Nat.le_of_ble_eq_true rfl) (by omega) (by omega) rfl (fun E S9 hx => hx.elim) (fun v S9 hq => ?_)
  obtain ⟨rfl, rfl⟩ := hq
  refine GA.istore dX12_ordered_115 (by decide) ?_
  refine GA.aload_n dX12_ordered_117 rfl ?_
  refine GA.iload_n dX12_ordered_118 rfl ?_
  refine GA.iload dX12_ordered_119 rfl ?_
  refine GV.ldc2 (z := 8029918135601594368) (by decide) xc_X12_679 dX12_ordered_121 ?_
  obtain ⟨x8, S_9, hc10, H⟩ := gc_e H
  refine GA.callV (m_X12_named hL hc10) xs_X12_717 dX12_ordered_124 (gs_500 hL) (by decide) rfl rfl (by omega) (by decide) rfl (Nat.le_of_ble_eq_true rfl) (by omega) (by omega) rfl (fun E S9 hx => hx.elim) (fun v S9 hq => ?_)
  obtain ⟨rfl, rfl⟩ := hq
  refine GA.aload_n dX12_ordered_127 rfl ?_
  refine GA.aload_n dX12_ordered_128 rfl ?_
  refine GA.get xf_X12_300 dX12_ordered_129 (gs_500 hL) (by decide) rfl ?_
  refine GA.iload_n dX12_ordered_132 rfl ?_
  obtain ⟨hg11, H⟩ := gg_e H
  obtain ⟨x12, hx13, H⟩ := gv_e H
  refine GV.lald (g := fun k => gl_ops.getD k 0) hg11 hx13 dX12_ordered_133 (gs_522 hL) (by decide) ?_
  obtain ⟨x14, S_15, hc16, H⟩ := gc_e H
  refine GA.callV (m_X12_says hL hc16) xs_X12_74 dX12_ordered_134 (gs_500 hL) (by decide) rfl rfl (by omega) (by decide) rfl (Nat.le_of_ble_eq_true rfl) (by omega) (by omega) rfl (fun E S9 hx => hx.elim) (fun v S9 hq => ?_)
  obtain ⟨rfl, rfl⟩ := hq
  refine GA.aload_n dX12_ordered_137 rfl ?_
  refine GA.iload_n dX12_ordered_138 rfl ?_
  refine GA.iload dX12_ordered_139 rfl ?_
  obtain ⟨x17, S_18, hc19, H⟩ := gc_e H
  refine GA.callV (m_X12_textIs hL hc19) xs_X12_492 dX12_ordered_141 (gs_500 hL) (by decide) rfl rfl (by omega) (by decide) rfl (Nat.le_of_ble_eq_true rfl) (by omega) (by omega) rfl (fun E S9 hx => hx.elim) (fun v S9 hq => ?_)
  obtain ⟨rfl, rfl⟩ := hq
  refine GA.aload_n dX12_ordered_144 rfl ?_
  refine GA.iload_n dX12_ordered_145 rfl ?_
  refine GA.iconst dX12_ordered_146 ?_
  obtain ⟨x20, S_21, hc22, H⟩ := gc_e H
  refine GA.callV (m_X12_added hL hc22) xs_X12_33 dX12_ordered_147 (gs_500 hL) (by decide) rfl rfl (by omega) (by decide) rfl (Nat.le_of_ble_eq_true rfl) (by omega) (by omega) rfl (fun E S9 hx => hx.elim) (fun v S9 hq => ?_)
  obtain ⟨rfl, rfl⟩ := hq
  refine GA.istore dX12_ordered_150 (by decide) ?_
  refine GA.aload_n dX12_ordered_152 rfl ?_
  refine GA.iload_n dX12_ordered_153 rfl ?_
  refine GA.iload dX12_ordered_154 rfl ?_
  refine GV.ldc2 (z := 8097881595014283264) (by decide) xc_X12_685 dX12_ordered_156 ?_
  obtain ⟨x23, S_24, hc25, H⟩ := gc_e H
  refine GA.callV (m_X12_named hL hc25) xs_X12_717 dX12_ordered_159 (gs_500 hL) (by decide) rfl rfl (by omega) (by decide) rfl (Nat.le_of_ble_eq_true rfl) (by omega) (by omega) rfl (fun E S9 hx => hx.elim) (fun v S9 hq => ?_)
  obtain ⟨rfl, rfl⟩ := hq
  refine GA.aload_n dX12_ordered_162 rfl ?_
  refine GA.aload_n dX12_ordered_163 rfl ?_
  obtain ⟨x26, hx27, H⟩ := gv_e H
  refine GV.getI hx27 xf_X12_604 dX12_ordered_164 (gs_500 hL) (by decide) rfl ?_
  refine GA.bipush dX12_ordered_167 rfl ?_
  obtain ⟨hg28, H⟩ := gg_e H
  refine GV.icmp_le (tgt := 177) hg28 (by decide) dX12_ordered_169 (by decide) (fun c29 => ?_) (fun c29 => ?_)
  · have H := it_t H c29
    refine GA.aload_n dX12_ordered_177 rfl ?_
    obtain ⟨x30, hx31, H⟩ := gv_e H
    refine GV.getI hx31 xf_X12_604 dX12_ordered_178 (gs_500 hL) (by decide) rfl ?_
    obtain ⟨S_32, hx33, H⟩ := gv_e H
    refine GV.putI hx33 (xp_X12_66 _) dX12_ordered_181 (gs_500 hL) (by decide) (Nat.le_of_ble_eq_true rfl) (gs_500 hL) ?_
    refine GA.iconst dX12_ordered_184 ?_
    refine GA.istore dX12_ordered_185 (by decide) ?_
    refine GA.locals [(0, .ref (L 500)), (1, .int (J a1)), (3, .int (J a3)), (4, .int (J a4)), (7, .int (J x20)), (8, .int (J 0))] ⟨rfl, rfl, rfl, rfl, rfl, rfl, trivial⟩ ?_
    exact ih_X12_ordered_187 hL _ _ (a1) (a3) (a4) (x20) (0) _ _ H
  · have H := it_f H c29
    refine GA.bipush dX12_ordered_172 rfl ?_
    refine GA.goto (tgt := 181) dX12_ordered_174 (by decide) ?_
    obtain ⟨S_34, hx35, H⟩ := gv_e H
    refine GV.putI hx35 (xp_X12_66 _) dX12_ordered_181 (gs_500 hL) (by decide) (Nat.le_of_ble_eq_true rfl) (gs_500 hL) ?_
    refine GA.iconst dX12_ordered_184 ?_
    refine GA.istore dX12_ordered_185 (by decide) ?_
    refine GA.locals [(0, .ref (L 500)), (1, .int (J a1)), (3, .int (J a3)), (4, .int (J a4)), (7, .int (J x20)), (8, .int (J 0))] ⟨rfl, rfl, rfl, rfl, rfl, rfl, trivial⟩ ?_
    exact ih_X12_ordered_187 hL _ _ (a1) (a3) (a4) (x20) (0) _ _ H
set_option maxHeartbeats 4000000 in
set_option maxRecDepth 20000 in
theorem t_X12_ordered_187 {l : Launch} {Z : XZ} {L : Nat → Nat} (n : Nat) (ih_X12_ordered_0 : P_X12_ordered_0 l Z L n) (ih_X12_ordered_18 : P_X12_ordered_18 l Z L n) (ih_X12_ordered_58 : P_X12_ordered_58 l Z L n) (ih_X12_ordered_108 : P_X12_ordered_108 l Z L n) (ih_X12_ordered_187 : P_X12_ordered_187 l Z L n) : P_X12_ordered_187 l Z L (n + 1) := by
  intro hL d S a1 a3 a4 a7 a8 x S1 H
  have H : b_X12_ordered_187 n d (f_X12_ordered n) S a1 a3 a4 a7 a8 = some (x, S1) := H
  unfold b_X12_ordered_187 at H
  refine GA.iload dX12_ordered_187 rfl ?_
  refine GA.aload_n dX12_ordered_189 rfl ?_
  obtain ⟨x1, hx2, H⟩ := gv_e H
  refine GV.getI hx2 xf_X12_66 dX12_ordered_190 (gs_500 hL) (by decide) rfl ?_
  obtain ⟨hg3, H⟩ := gg_e H
  obtain ⟨hg4, H⟩ := gg_e H
  refine GV.icmp_ge (tgt := 216) hg3 hg4 dX12_ordered_193 (by decide) (fun c5 => ?_) (fun c5 => ?_)
  · have H := it_t H c5
    refine GA.aload_n dX12_ordered_216 rfl ?_
    refine GA.iload_n dX12_ordered_217 rfl ?_
    refine GA.iload dX12_ordered_218 rfl ?_
    obtain ⟨hg6, H⟩ := gg_e H
    obtain ⟨x7, S_8, hc9, H⟩ := gc_e H
    refine GA.callV (m_X12_textIs hL hc9) xs_X12_492 dX12_ordered_220 (gs_500 hL) (by decide) rfl rfl (by omega) (by decide) rfl (Nat.le_of_ble_eq_true rfl) (by omega) (by omega) rfl (fun E S9 hx => hx.elim) (fun v S9 hq => ?_)
    obtain ⟨rfl, rfl⟩ := hq
    refine GA.iload dX12_ordered_223 rfl ?_
    refine GA.iconst dX12_ordered_225 ?_
    obtain ⟨hg10, H⟩ := gg_e H
    refine GV.icmp_eq (tgt := 245) hg10 (by decide) dX12_ordered_226 (by decide) (fun c11 => ?_) (fun c11 => ?_)
    · have H := it_t H c11
      cases H
      exact GA.vret rfl dX12_ordered_245 (by omega) (by omega) ⟨rfl, rfl⟩
    · have H := it_f H c11
      refine GA.aload_n dX12_ordered_229 rfl ?_
      refine GV.ldc2 (z := 8530218420677902336) (by decide) xc_X12_699 dX12_ordered_230 ?_
      obtain ⟨x12, S_13, hc14, H⟩ := gc_e H
      refine GA.callV (m_X12_says hL hc14) xs_X12_74 dX12_ordered_233 (gs_500 hL) (by decide) rfl rfl (by omega) (by decide) rfl (Nat.le_of_ble_eq_true rfl) (by omega) (by omega) rfl (fun E S9 hx => hx.elim) (fun v S9 hq => ?_)
      obtain ⟨rfl, rfl⟩ := hq
      refine GA.aload_n dX12_ordered_236 rfl ?_
      refine GA.iload_n dX12_ordered_237 rfl ?_
      refine GA.iload_n dX12_ordered_238 rfl ?_
      refine GA.iload dX12_ordered_239 rfl ?_
      refine GA.iconst dX12_ordered_241 ?_
      obtain ⟨x15, S_16, hc17, H⟩ := gc_e H
      refine GA.callV (m_X12_brings hL hc17) xs_X12_656 dX12_ordered_242 (gs_500 hL) (by decide) rfl rfl (by omega) (by decide) rfl (Nat.le_of_ble_eq_true rfl) (by omega) (by omega) rfl (fun E S9 hx => hx.elim) (fun v S9 hq => ?_)
      obtain ⟨rfl, rfl⟩ := hq
      cases H
      exact GA.vret rfl dX12_ordered_245 (by omega) (by omega) ⟨rfl, rfl⟩
  · have H := it_f H c5
    refine GA.aload_n dX12_ordered_196 rfl ?_
    refine GA.get xf_X12_69 dX12_ordered_197 (gs_500 hL) (by decide) rfl ?_
    refine GA.iload dX12_ordered_200 rfl ?_
    refine GA.aload_n dX12_ordered_202 rfl ?_
    refine GA.get xf_X12_275 dX12_ordered_203 (gs_500 hL) (by decide) rfl ?_
    refine GA.iload dX12_ordered_206 rfl ?_
    obtain ⟨hg18, H⟩ := gg_e H
    obtain ⟨x19, hx20, H⟩ := gv_e H
    refine GV.iald hg18 hx20 dX12_ordered_208 (gs_518 hL) (by decide) ?_
    obtain ⟨S_21, hx22, H⟩ := gv_e H
    refine GV.iast hg18 hx22 dX12_ordered_209 (fun _ => (gs_507 hL)) (by decide) ?_
    obtain ⟨x23, hx24, H⟩ := gv_e H
    refine GV.iinc hx24 dX12_ordered_210 rfl (by decide) ?_
    refine GA.goto (tgt := 187) dX12_ordered_213 (by decide) ?_
    refine GA.locals [(0, .ref (L 500)), (1, .int (J a1)), (3, .int (J a3)), (4, .int (J a4)), (7, .int (J a7)), (8, .int (J x23))] ⟨rfl, rfl, rfl, rfl, rfl, rfl, trivial⟩ ?_
    exact ih_X12_ordered_187 hL _ _ (a1) (a3) (a4) (a7) (x23) _ _ H
theorem g_X12_ordered {l : Launch} {Z : XZ} {L : Nat → Nat} : ∀ n, P_X12_ordered_0 l Z L n ∧ P_X12_ordered_18 l Z L n ∧ P_X12_ordered_58 l Z L n ∧ P_X12_ordered_108 l Z L n ∧ P_X12_ordered_187 l Z L n
  | 0 => ⟨fun _ _ _ _ _ _ _ _ _ H => no_e H, fun _ _ _ _ _ _ _ _ _ _ H => no_e H, fun _ _ _ _ _ _ _ _ _ _ H => no_e H, fun _ _ _ _ _ _ _ _ _ _ _ H => no_e H, fun _ _ _ _ _ _ _ _ _ _ H => no_e H⟩
  | n + 1 => have ⟨h0, h1, h2, h3, h4⟩ := g_X12_ordered (l := l) (Z := Z) (L := L) n
    ⟨t_X12_ordered_0 n h0 h1 h2 h3 h4, t_X12_ordered_18 n h0 h1 h2 h3 h4, t_X12_ordered_58 n h0 h1 h2 h3 h4, t_X12_ordered_108 n h0 h1 h2 h3 h4, t_X12_ordered_187 n h0 h1 h2 h3 h4⟩
theorem m_X12_ordered {l : Launch} {Z : XZ} {L : Nat → Nat} (hL : L 700 = 1) {n d : Nat} {S : GS} {a1 : Int} {a2 : Int} {a3 : Int} {a4 : Int} {x : Int} {S1 : GS} (H : f_X12_ordered n d 0 S [a1, a2, a3, a4] = some (x, S1)) : GM l Z L yX12_ordered cX12_ordered 9 none [] d 0 0 [.ref (L 500), .int (J a1), .int (J a2), .int (J a3), .int (J a4)] S (fun v S' => v = none ∧ S1 = S') (fun _ _ => False) := GM.of (by decide) (Nat.le_of_ble_eq_true rfl) ((g_X12_ordered n).1 hL _ _ _ _ _ _ _ _ H)

def P_X12_addsKeys_0 (l : Launch) (Z : XZ) (L : Nat → Nat) (n : Nat) : Prop := ∀ (hL : L 700 = 1), ∀ (d : Nat) (S : GS) (a1 : Int) (a2 : Int) (a3 : Int) (a4 : Int) (x : Int) (S1 : GS), f_X12_addsKeys n d 0 S [a1, a2, a3, a4] = some (x, S1) → GA l Z L yX12_addsKeys cX12_addsKeys 7 none [] d 0 0 (fun v S' => v = none ∧ S1 = S') (fun _ _ => False) 0 (gl [(0, .ref (L 500)), (1, .int (J a1)), (2, .int (J a2)), (3, .int (J a3)), (4, .int (J a4))]) [] S 0 0
def P_X12_addsKeys_9 (l : Launch) (Z : XZ) (L : Nat → Nat) (n : Nat) : Prop := ∀ (hL : L 700 = 1), ∀ (d : Nat) (S : GS) (a1 : Int) (a2 : Int) (a3 : Int) (a4 : Int) (a5 : Int) (a6 : Int) (x : Int) (S1 : GS), f_X12_addsKeys n d 9 S [a1, a2, a3, a4, a5, a6] = some (x, S1) → GA l Z L yX12_addsKeys cX12_addsKeys 7 none [] d 0 0 (fun v S' => v = none ∧ S1 = S') (fun _ _ => False) 9 (gl [(0, .ref (L 500)), (1, .int (J a1)), (2, .int (J a2)), (3, .int (J a3)), (4, .int (J a4)), (5, .int (J a5)), (6, .int (J a6))]) [] S 0 0
theorem i_X12_addsKeys {l : Launch} {Z : XZ} {L : Nat → Nat} (hL : L 700 = 1) {n : Nat} (ih : P_X12_addsKeys_0 l Z L n) {d : Nat} {S : GS} {a1 : Int} {a2 : Int} {a3 : Int} {a4 : Int} {x : Int} {S1 : GS} (H : f_X12_addsKeys n d 0 S [a1, a2, a3, a4] = some (x, S1)) : GM l Z L yX12_addsKeys cX12_addsKeys 7 none [] d 0 0 [.ref (L 500), .int (J a1), .int (J a2), .int (J a3), .int (J a4)] S (fun v S' => v = none ∧ S1 = S') (fun _ _ => False) := GM.of (by decide) (Nat.le_of_ble_eq_true rfl) (ih hL _ _ _ _ _ _ _ _ H)
set_option maxHeartbeats 4000000 in
set_option maxRecDepth 20000 in
theorem t_X12_addsKeys_0 {l : Launch} {Z : XZ} {L : Nat → Nat} (n : Nat) (ih_X12_addsKeys_0 : P_X12_addsKeys_0 l Z L n) (ih_X12_addsKeys_9 : P_X12_addsKeys_9 l Z L n) : P_X12_addsKeys_0 l Z L (n + 1) := by
  intro hL d S a1 a2 a3 a4 x S1 H
  have H : b_X12_addsKeys_0 n d (f_X12_addsKeys n) S a1 a2 a3 a4 = some (x, S1) := H
  unfold b_X12_addsKeys_0 at H
  refine GA.iload dX12_addsKeys_0 rfl ?_
  refine GA.iconst dX12_addsKeys_2 ?_
  obtain ⟨x1, hx2, H⟩ := gv_e H
  refine GV.iadd hx2 dX12_addsKeys_3 ?_
  refine GA.istore dX12_addsKeys_4 (by decide) ?_
  refine GA.iconst dX12_addsKeys_6 ?_
  refine GA.istore dX12_addsKeys_7 (by decide) ?_
  refine GA.locals [(0, .ref (L 500)), (1, .int (J a1)), (2, .int (J a2)), (3, .int (J a3)), (4, .int (J a4)), (5, .int (J x1)), (6, .int (J 0))] ⟨rfl, rfl, rfl, rfl, rfl, rfl, rfl, trivial⟩ ?_
  exact ih_X12_addsKeys_9 hL _ _ (a1) (a2) (a3) (a4) (x1) (0) _ _ H
set_option maxHeartbeats 4000000 in
set_option maxRecDepth 20000 in
theorem t_X12_addsKeys_9 {l : Launch} {Z : XZ} {L : Nat → Nat} (n : Nat) (ih_X12_addsKeys_0 : P_X12_addsKeys_0 l Z L n) (ih_X12_addsKeys_9 : P_X12_addsKeys_9 l Z L n) : P_X12_addsKeys_9 l Z L (n + 1) := by
  intro hL d S a1 a2 a3 a4 a5 a6 x S1 H
  have H : b_X12_addsKeys_9 n d (f_X12_addsKeys n) S a1 a2 a3 a4 a5 a6 = some (x, S1) := H
  unfold b_X12_addsKeys_9 at H
  refine GA.iload dX12_addsKeys_9 rfl ?_
  refine GA.aload_n dX12_addsKeys_11 rfl ?_
  refine GA.iload_n dX12_addsKeys_12 rfl ?_
  refine GA.iload dX12_addsKeys_13 rfl ?_
  refine GA.iconst dX12_addsKeys_15 ?_
  obtain ⟨hg1, H⟩ := gg_e H
  obtain ⟨x2, S_3, hc4, H⟩ := gc_e H
  refine GA.callV (m_X12_part hL hc4) xs_X12_36 dX12_addsKeys_16 (gs_500 hL) (by decide) rfl rfl (by omega) (by decide) rfl (Nat.le_of_ble_eq_true rfl) (by omega) (by omega) rfl (fun E S9 hx => hx.elim) (fun v S9 hq => ?_)
  obtain ⟨rfl, rfl⟩ := hq
  obtain ⟨hg5, H⟩ := gg_e H
  obtain ⟨hg6, H⟩ := gg_e H
  refine GV.icmp_ge (tgt := 73) hg5 hg6 dX12_addsKeys_19 (by decide) (fun c7 => ?_) (fun c7 => ?_)
  · have H := it_t H c7
    cases H
    exact GA.vret rfl dX12_addsKeys_73 (by omega) (by omega) ⟨rfl, rfl⟩
  · have H := it_f H c7
    refine GA.aload_n dX12_addsKeys_22 rfl ?_
    refine GA.iload_n dX12_addsKeys_23 rfl ?_
    refine GA.iload_n dX12_addsKeys_24 rfl ?_
    refine GA.iload_n dX12_addsKeys_25 rfl ?_
    refine GA.iload dX12_addsKeys_26 rfl ?_
    obtain ⟨x8, S_9, hc10, H⟩ := gc_e H
    refine GA.callV (m_X12_childLike hL hc10) xs_X12_732 dX12_addsKeys_28 (gs_500 hL) (by decide) rfl rfl (by omega) (by decide) rfl (Nat.le_of_ble_eq_true rfl) (by omega) (by omega) rfl (fun E S9 hx => hx.elim) (fun v S9 hq => ?_)
    obtain ⟨rfl, rfl⟩ := hq
    refine GA.iconst dX12_addsKeys_31 ?_
    obtain ⟨hg11, H⟩ := gg_e H
    refine GV.icmp_ne (tgt := 58) hg11 (by decide) dX12_addsKeys_32 (by decide) (fun c12 => ?_) (fun c12 => ?_)
    · have H := it_t H c12
      refine GA.aload_n dX12_addsKeys_58 rfl ?_
      refine GA.iload_n dX12_addsKeys_59 rfl ?_
      refine GA.iload dX12_addsKeys_60 rfl ?_
      obtain ⟨x13, S_14, hc15, H⟩ := gc_e H
      refine GA.callV (m_X12_endOf hL hc15) xs_X12_49 dX12_addsKeys_62 (gs_500 hL) (by decide) rfl rfl (by omega) (by decide) rfl (Nat.le_of_ble_eq_true rfl) (by omega) (by omega) rfl (fun E S9 hx => hx.elim) (fun v S9 hq => ?_)
      obtain ⟨rfl, rfl⟩ := hq
      refine GA.istore dX12_addsKeys_65 (by decide) ?_
      obtain ⟨x16, hx17, H⟩ := gv_e H
      refine GV.iinc hx17 dX12_addsKeys_67 rfl (by decide) ?_
      refine GA.goto (tgt := 9) dX12_addsKeys_70 (by decide) ?_
      refine GA.locals [(0, .ref (L 500)), (1, .int (J a1)), (2, .int (J a2)), (3, .int (J a3)), (4, .int (J a4)), (5, .int (J x13)), (6, .int (J x16))] ⟨rfl, rfl, rfl, rfl, rfl, rfl, rfl, trivial⟩ ?_
      exact ih_X12_addsKeys_9 hL _ _ (a1) (a2) (a3) (a4) (x13) (x16) _ _ H
    · have H := it_f H c12
      refine GA.aload_n dX12_addsKeys_35 rfl ?_
      refine GA.iload_n dX12_addsKeys_36 rfl ?_
      refine GA.iload_n dX12_addsKeys_37 rfl ?_
      obtain ⟨x18, S_19, hc20, H⟩ := gc_e H
      refine GA.callV (m_X12_pathOfNode hL hc20) xs_X12_720 dX12_addsKeys_38 (gs_500 hL) (by decide) rfl rfl (by omega) (by decide) rfl (Nat.le_of_ble_eq_true rfl) (by omega) (by omega) rfl (fun E S9 hx => hx.elim) (fun v S9 hq => ?_)
      obtain ⟨rfl, rfl⟩ := hq
      refine GA.aload_n dX12_addsKeys_41 rfl ?_
      refine GA.iload_n dX12_addsKeys_42 rfl ?_
      refine GA.iload dX12_addsKeys_43 rfl ?_
      obtain ⟨x21, S_22, hc23, H⟩ := gc_e H
      refine GA.callV (m_X12_addsStep hL hc23) xs_X12_735 dX12_addsKeys_45 (gs_500 hL) (by decide) rfl rfl (by omega) (by decide) rfl (Nat.le_of_ble_eq_true rfl) (by omega) (by omega) rfl (fun E S9 hx => hx.elim) (fun v S9 hq => ?_)
      obtain ⟨rfl, rfl⟩ := hq
      refine GA.aload_n dX12_addsKeys_48 rfl ?_
      refine GA.bipush dX12_addsKeys_49 rfl ?_
      refine GA.iconst dX12_addsKeys_51 ?_
      refine GA.iload_n dX12_addsKeys_52 rfl ?_
      refine GA.iload dX12_addsKeys_53 rfl ?_
      obtain ⟨x24, S_25, hc26, H⟩ := gc_e H
      refine GA.callV (m_X12_ordered hL hc26) xs_X12_723 dX12_addsKeys_55 (gs_500 hL) (by decide) rfl rfl (by omega) (by decide) rfl (Nat.le_of_ble_eq_true rfl) (by omega) (by omega) rfl (fun E S9 hx => hx.elim) (fun v S9 hq => ?_)
      obtain ⟨rfl, rfl⟩ := hq
      refine GA.aload_n dX12_addsKeys_58 rfl ?_
      refine GA.iload_n dX12_addsKeys_59 rfl ?_
      refine GA.iload dX12_addsKeys_60 rfl ?_
      obtain ⟨x27, S_28, hc29, H⟩ := gc_e H
      refine GA.callV (m_X12_endOf hL hc29) xs_X12_49 dX12_addsKeys_62 (gs_500 hL) (by decide) rfl rfl (by omega) (by decide) rfl (Nat.le_of_ble_eq_true rfl) (by omega) (by omega) rfl (fun E S9 hx => hx.elim) (fun v S9 hq => ?_)
      obtain ⟨rfl, rfl⟩ := hq
      refine GA.istore dX12_addsKeys_65 (by decide) ?_
      obtain ⟨x30, hx31, H⟩ := gv_e H
      refine GV.iinc hx31 dX12_addsKeys_67 rfl (by decide) ?_
      refine GA.goto (tgt := 9) dX12_addsKeys_70 (by decide) ?_
      refine GA.locals [(0, .ref (L 500)), (1, .int (J a1)), (2, .int (J a2)), (3, .int (J a3)), (4, .int (J a4)), (5, .int (J x27)), (6, .int (J x30))] ⟨rfl, rfl, rfl, rfl, rfl, rfl, rfl, trivial⟩ ?_
      exact ih_X12_addsKeys_9 hL _ _ (a1) (a2) (a3) (a4) (x27) (x30) _ _ H
theorem g_X12_addsKeys {l : Launch} {Z : XZ} {L : Nat → Nat} : ∀ n, P_X12_addsKeys_0 l Z L n ∧ P_X12_addsKeys_9 l Z L n
  | 0 => ⟨fun _ _ _ _ _ _ _ _ _ H => no_e H, fun _ _ _ _ _ _ _ _ _ _ _ H => no_e H⟩
  | n + 1 => have ⟨h0, h1⟩ := g_X12_addsKeys (l := l) (Z := Z) (L := L) n
    ⟨t_X12_addsKeys_0 n h0 h1, t_X12_addsKeys_9 n h0 h1⟩
theorem m_X12_addsKeys {l : Launch} {Z : XZ} {L : Nat → Nat} (hL : L 700 = 1) {n d : Nat} {S : GS} {a1 : Int} {a2 : Int} {a3 : Int} {a4 : Int} {x : Int} {S1 : GS} (H : f_X12_addsKeys n d 0 S [a1, a2, a3, a4] = some (x, S1)) : GM l Z L yX12_addsKeys cX12_addsKeys 7 none [] d 0 0 [.ref (L 500), .int (J a1), .int (J a2), .int (J a3), .int (J a4)] S (fun v S' => v = none ∧ S1 = S') (fun _ _ => False) := GM.of (by decide) (Nat.le_of_ble_eq_true rfl) ((g_X12_addsKeys n).1 hL _ _ _ _ _ _ _ _ H)

def P_X12_addsPlace_0 (l : Launch) (Z : XZ) (L : Nat → Nat) (n : Nat) : Prop := ∀ (hL : L 700 = 1), ∀ (d : Nat) (S : GS) (a1 : Int) (x : Int) (S1 : GS), f_X12_addsPlace n d 0 S [a1] = some (x, S1) → GA l Z L yX12_addsPlace cX12_addsPlace 3 none [] d 0 0 (fun v S' => v = none ∧ S1 = S') (fun _ _ => False) 0 (gl [(0, .ref (L 500)), (1, .int (J a1))]) [] S 0 0
def P_X12_addsPlace_22 (l : Launch) (Z : XZ) (L : Nat → Nat) (n : Nat) : Prop := ∀ (hL : L 700 = 1), ∀ (d : Nat) (S : GS) (a2 : Int) (x : Int) (S1 : GS), f_X12_addsPlace n d 22 S [a2] = some (x, S1) → GA l Z L yX12_addsPlace cX12_addsPlace 3 none [] d 0 0 (fun v S' => v = none ∧ S1 = S') (fun _ _ => False) 22 (gl [(0, .ref (L 500)), (2, .int (J a2))]) [] S 0 0
theorem i_X12_addsPlace {l : Launch} {Z : XZ} {L : Nat → Nat} (hL : L 700 = 1) {n : Nat} (ih : P_X12_addsPlace_0 l Z L n) {d : Nat} {S : GS} {a1 : Int} {x : Int} {S1 : GS} (H : f_X12_addsPlace n d 0 S [a1] = some (x, S1)) : GM l Z L yX12_addsPlace cX12_addsPlace 3 none [] d 0 0 [.ref (L 500), .int (J a1)] S (fun v S' => v = none ∧ S1 = S') (fun _ _ => False) := GM.of (by decide) (Nat.le_of_ble_eq_true rfl) (ih hL _ _ _ _ _ H)
set_option maxHeartbeats 4000000 in
set_option maxRecDepth 20000 in
theorem t_X12_addsPlace_0 {l : Launch} {Z : XZ} {L : Nat → Nat} (n : Nat) (ih_X12_addsPlace_0 : P_X12_addsPlace_0 l Z L n) (ih_X12_addsPlace_22 : P_X12_addsPlace_22 l Z L n) : P_X12_addsPlace_0 l Z L (n + 1) := by
  intro hL d S a1 x S1 H
  have H : b_X12_addsPlace_0 n d (f_X12_addsPlace n) S a1 = some (x, S1) := H
  unfold b_X12_addsPlace_0 at H
  refine GA.aload_n dX12_addsPlace_0 rfl ?_
  refine GA.get xf_X12_272 dX12_addsPlace_1 (gs_500 hL) (by decide) rfl ?_
  refine GA.iconst dX12_addsPlace_4 ?_
  refine GA.iconst dX12_addsPlace_5 ?_
  obtain ⟨hg1, H⟩ := gg_e H
  obtain ⟨S_2, hx3, H⟩ := gv_e H
  refine GV.iast hg1 hx3 dX12_addsPlace_6 (fun _ => (gs_517 hL)) (by decide) ?_
  refine GA.aload_n dX12_addsPlace_7 rfl ?_
  refine GA.iconst dX12_addsPlace_8 ?_
  refine GA.bipush dX12_addsPlace_9 rfl ?_
  obtain ⟨hg4, H⟩ := gg_e H
  obtain ⟨x5, S_6, hc7, H⟩ := gc_e H
  refine GA.callV (m_X12_puts hL hc7) xs_X12_551 dX12_addsPlace_11 (gs_500 hL) (by decide) rfl rfl (by omega) (by decide) rfl (Nat.le_of_ble_eq_true rfl) (by omega) (by omega) rfl (fun E S9 hx => hx.elim) (fun v S9 hq => ?_)
  obtain ⟨rfl, rfl⟩ := hq
  refine GA.aload_n dX12_addsPlace_14 rfl ?_
  refine GA.iconst dX12_addsPlace_15 ?_
  refine GA.iload_n dX12_addsPlace_16 rfl ?_
  obtain ⟨x8, S_9, hc10, H⟩ := gc_e H
  refine GA.callV (m_X12_putsInt hL hc10) xs_X12_565 dX12_addsPlace_17 (gs_500 hL) (by decide) rfl rfl (by omega) (by decide) rfl (Nat.le_of_ble_eq_true rfl) (by omega) (by omega) rfl (fun E S9 hx => hx.elim) (fun v S9 hq => ?_)
  obtain ⟨rfl, rfl⟩ := hq
  refine GA.iconst dX12_addsPlace_20 ?_
  refine GA.istore_n dX12_addsPlace_21 (by decide) ?_
  refine GA.locals [(0, .ref (L 500)), (2, .int (J 0))] ⟨rfl, rfl, trivial⟩ ?_
  exact ih_X12_addsPlace_22 hL _ _ (0) _ _ H
set_option maxHeartbeats 4000000 in
set_option maxRecDepth 20000 in
theorem t_X12_addsPlace_22 {l : Launch} {Z : XZ} {L : Nat → Nat} (n : Nat) (ih_X12_addsPlace_0 : P_X12_addsPlace_0 l Z L n) (ih_X12_addsPlace_22 : P_X12_addsPlace_22 l Z L n) : P_X12_addsPlace_22 l Z L (n + 1) := by
  intro hL d S a2 x S1 H
  have H : b_X12_addsPlace_22 n d (f_X12_addsPlace n) S a2 = some (x, S1) := H
  unfold b_X12_addsPlace_22 at H
  refine GA.iload_n dX12_addsPlace_22 rfl ?_
  refine GA.aload_n dX12_addsPlace_23 rfl ?_
  refine GA.get xf_X12_272 dX12_addsPlace_24 (gs_500 hL) (by decide) rfl ?_
  refine GA.iconst dX12_addsPlace_27 ?_
  obtain ⟨hg1, H⟩ := gg_e H
  obtain ⟨x2, hx3, H⟩ := gv_e H
  refine GV.iald hg1 hx3 dX12_addsPlace_28 (gs_517 hL) (by decide) ?_
  obtain ⟨hg4, H⟩ := gg_e H
  obtain ⟨hg5, H⟩ := gg_e H
  refine GV.icmp_ge (tgt := 63) hg4 hg5 dX12_addsPlace_29 (by decide) (fun c6 => ?_) (fun c6 => ?_)
  · have H := it_t H c6
    cases H
    exact GA.vret rfl dX12_addsPlace_63 (by omega) (by omega) ⟨rfl, rfl⟩
  · have H := it_f H c6
    refine GA.aload_n dX12_addsPlace_32 rfl ?_
    refine GA.get xf_X12_275 dX12_addsPlace_33 (gs_500 hL) (by decide) rfl ?_
    refine GA.aload_n dX12_addsPlace_36 rfl ?_
    obtain ⟨x7, hx8, H⟩ := gv_e H
    refine GV.getI hx8 xf_X12_604 dX12_addsPlace_37 (gs_500 hL) (by decide) rfl ?_
    refine GA.aload_n dX12_addsPlace_40 rfl ?_
    refine GA.get xf_X12_269 dX12_addsPlace_41 (gs_500 hL) (by decide) rfl ?_
    refine GA.iload_n dX12_addsPlace_44 rfl ?_
    obtain ⟨hg9, H⟩ := gg_e H
    obtain ⟨x10, hx11, H⟩ := gv_e H
    refine GV.iald hg9 hx11 dX12_addsPlace_45 (gs_516 hL) (by decide) ?_
    obtain ⟨hg12, H⟩ := gg_e H
    obtain ⟨S_13, hx14, H⟩ := gv_e H
    refine GV.iast hg12 hx14 dX12_addsPlace_46 (fun _ => (gs_518 hL)) (by decide) ?_
    refine GA.aload_n dX12_addsPlace_47 rfl ?_
    refine GA.dup dX12_addsPlace_48 rfl ?_
    obtain ⟨x15, hx16, H⟩ := gv_e H
    refine GV.getI hx16 xf_X12_604 dX12_addsPlace_49 (gs_500 hL) (by decide) rfl ?_
    refine GA.iconst dX12_addsPlace_52 ?_
    obtain ⟨x17, hx18, H⟩ := gv_e H
    refine GV.iadd hx18 dX12_addsPlace_53 ?_
    obtain ⟨S_19, hx20, H⟩ := gv_e H
    refine GV.putI hx20 (xp_X12_604 _) dX12_addsPlace_54 (gs_500 hL) (by decide) (Nat.le_of_ble_eq_true rfl) (gs_500 hL) ?_
    obtain ⟨x21, hx22, H⟩ := gv_e H
    refine GV.iinc hx22 dX12_addsPlace_57 rfl (by decide) ?_
    refine GA.goto (tgt := 22) dX12_addsPlace_60 (by decide) ?_
    refine GA.locals [(0, .ref (L 500)), (2, .int (J x21))] ⟨rfl, rfl, trivial⟩ ?_
    exact ih_X12_addsPlace_22 hL _ _ (x21) _ _ H
theorem g_X12_addsPlace {l : Launch} {Z : XZ} {L : Nat → Nat} : ∀ n, P_X12_addsPlace_0 l Z L n ∧ P_X12_addsPlace_22 l Z L n
  | 0 => ⟨fun _ _ _ _ _ _ H => no_e H, fun _ _ _ _ _ _ H => no_e H⟩
  | n + 1 => have ⟨h0, h1⟩ := g_X12_addsPlace (l := l) (Z := Z) (L := L) n
    ⟨t_X12_addsPlace_0 n h0 h1, t_X12_addsPlace_22 n h0 h1⟩
theorem m_X12_addsPlace {l : Launch} {Z : XZ} {L : Nat → Nat} (hL : L 700 = 1) {n d : Nat} {S : GS} {a1 : Int} {x : Int} {S1 : GS} (H : f_X12_addsPlace n d 0 S [a1] = some (x, S1)) : GM l Z L yX12_addsPlace cX12_addsPlace 3 none [] d 0 0 [.ref (L 500), .int (J a1)] S (fun v S' => v = none ∧ S1 = S') (fun _ _ => False) := GM.of (by decide) (Nat.le_of_ble_eq_true rfl) ((g_X12_addsPlace n).1 hL _ _ _ _ _ H)

def P_X12_addsWord_0 (l : Launch) (Z : XZ) (L : Nat → Nat) (n : Nat) : Prop := ∀ (hL : L 700 = 1), ∀ (d : Nat) (S : GS) (x : Int) (S1 : GS), f_X12_addsWord n d 0 S [] = some (x, S1) → GA l Z L yX12_addsWord cX12_addsWord 3 none [] d 0 0 (fun v S' => v = none ∧ S1 = S') (fun _ _ => False) 0 (gl [(0, .ref (L 500))]) [] S 0 0
def P_X12_addsWord_23 (l : Launch) (Z : XZ) (L : Nat → Nat) (n : Nat) : Prop := ∀ (hL : L 700 = 1), ∀ (d : Nat) (S : GS) (a1 : Int) (x : Int) (S1 : GS), f_X12_addsWord n d 23 S [a1] = some (x, S1) → GA l Z L yX12_addsWord cX12_addsWord 3 none [] d 0 0 (fun v S' => v = none ∧ S1 = S') (fun _ _ => False) 23 (gl [(0, .ref (L 500)), (1, .int (J a1))]) [] S 0 0
def P_X12_addsWord_58 (l : Launch) (Z : XZ) (L : Nat → Nat) (n : Nat) : Prop := ∀ (hL : L 700 = 1), ∀ (d : Nat) (S : GS) (a1 : Int) (s0 : Int) (x : Int) (S1 : GS), f_X12_addsWord n d 58 S [a1, s0] = some (x, S1) → GA l Z L yX12_addsWord cX12_addsWord 3 none [] d 0 0 (fun v S' => v = none ∧ S1 = S') (fun _ _ => False) 58 (gl [(0, .ref (L 500)), (1, .int (J a1))]) [.int (J s0)] S 0 0
def P_X12_addsWord_82 (l : Launch) (Z : XZ) (L : Nat → Nat) (n : Nat) : Prop := ∀ (hL : L 700 = 1), ∀ (d : Nat) (S : GS) (a1 : Int) (a2 : Int) (s0 : Int) (s1 : Int) (x : Int) (S1 : GS), f_X12_addsWord n d 82 S [a1, a2, s0, s1] = some (x, S1) → GA l Z L yX12_addsWord cX12_addsWord 3 none [] d 0 0 (fun v S' => v = none ∧ S1 = S') (fun _ _ => False) 82 (gl [(0, .ref (L 500)), (1, .int (J a1)), (2, .int (J a2))]) [.int (J s0), .int (J s1), .ref (L 518)] S 0 0
def P_X12_addsWord_123 (l : Launch) (Z : XZ) (L : Nat → Nat) (n : Nat) : Prop := ∀ (hL : L 700 = 1), ∀ (d : Nat) (S : GS) (a1 : Int) (s0 : Int) (s1 : Int) (x : Int) (S1 : GS), f_X12_addsWord n d 123 S [a1, s0, s1] = some (x, S1) → GA l Z L yX12_addsWord cX12_addsWord 3 none [] d 0 0 (fun v S' => v = none ∧ S1 = S') (fun _ _ => False) 123 (gl [(0, .ref (L 500)), (1, .int (J a1))]) [.int (J s0), .int (J s1), .ref (L 518)] S 0 0
theorem i_X12_addsWord {l : Launch} {Z : XZ} {L : Nat → Nat} (hL : L 700 = 1) {n : Nat} (ih : P_X12_addsWord_0 l Z L n) {d : Nat} {S : GS} {x : Int} {S1 : GS} (H : f_X12_addsWord n d 0 S [] = some (x, S1)) : GM l Z L yX12_addsWord cX12_addsWord 3 none [] d 0 0 [.ref (L 500)] S (fun v S' => v = none ∧ S1 = S') (fun _ _ => False) := GM.of (by decide) (Nat.le_of_ble_eq_true rfl) (ih hL _ _ _ _ H)
set_option maxHeartbeats 4000000 in
set_option maxRecDepth 20000 in
theorem t_X12_addsWord_0 {l : Launch} {Z : XZ} {L : Nat → Nat} (n : Nat) (ih_X12_addsWord_0 : P_X12_addsWord_0 l Z L n) (ih_X12_addsWord_23 : P_X12_addsWord_23 l Z L n) (ih_X12_addsWord_58 : P_X12_addsWord_58 l Z L n) (ih_X12_addsWord_82 : P_X12_addsWord_82 l Z L n) (ih_X12_addsWord_123 : P_X12_addsWord_123 l Z L n) : P_X12_addsWord_0 l Z L (n + 1) := by
  intro hL d S  x S1 H
  have H : b_X12_addsWord_0 n d (f_X12_addsWord n) S  = some (x, S1) := H
  unfold b_X12_addsWord_0 at H
  refine GA.aload_n dX12_addsWord_0 rfl ?_
  refine GA.get xf_X12_275 dX12_addsWord_1 (gs_500 hL) (by decide) rfl ?_
  refine GA.aload_n dX12_addsWord_4 rfl ?_
  obtain ⟨x1, hx2, H⟩ := gv_e H
  refine GV.getI hx2 xf_X12_604 dX12_addsWord_5 (gs_500 hL) (by decide) rfl ?_
  refine GA.bipush dX12_addsWord_8 rfl ?_
  obtain ⟨hg3, H⟩ := gg_e H
  obtain ⟨S_4, hx5, H⟩ := gv_e H
  refine GV.iast hg3 hx5 dX12_addsWord_10 (fun _ => (gs_518 hL)) (by decide) ?_
  refine GA.aload_n dX12_addsWord_11 rfl ?_
  refine GA.dup dX12_addsWord_12 rfl ?_
  obtain ⟨x6, hx7, H⟩ := gv_e H
  refine GV.getI hx7 xf_X12_604 dX12_addsWord_13 (gs_500 hL) (by decide) rfl ?_
  refine GA.iconst dX12_addsWord_16 ?_
  obtain ⟨x8, hx9, H⟩ := gv_e H
  refine GV.iadd hx9 dX12_addsWord_17 ?_
  obtain ⟨S_10, hx11, H⟩ := gv_e H
  refine GV.putI hx11 (xp_X12_604 _) dX12_addsWord_18 (gs_500 hL) (by decide) (Nat.le_of_ble_eq_true rfl) (gs_500 hL) ?_
  refine GA.iconst dX12_addsWord_21 ?_
  refine GA.istore_n dX12_addsWord_22 (by decide) ?_
  refine GA.locals [(0, .ref (L 500)), (1, .int (J 0))] ⟨rfl, rfl, trivial⟩ ?_
  exact ih_X12_addsWord_23 hL _ _ (0) _ _ H
set_option maxHeartbeats 4000000 in
set_option maxRecDepth 20000 in
theorem t_X12_addsWord_23 {l : Launch} {Z : XZ} {L : Nat → Nat} (n : Nat) (ih_X12_addsWord_0 : P_X12_addsWord_0 l Z L n) (ih_X12_addsWord_23 : P_X12_addsWord_23 l Z L n) (ih_X12_addsWord_58 : P_X12_addsWord_58 l Z L n) (ih_X12_addsWord_82 : P_X12_addsWord_82 l Z L n) (ih_X12_addsWord_123 : P_X12_addsWord_123 l Z L n) : P_X12_addsWord_23 l Z L (n + 1) := by
  intro hL d S a1 x S1 H
  have H : b_X12_addsWord_23 n d (f_X12_addsWord n) S a1 = some (x, S1) := H
  unfold b_X12_addsWord_23 at H
  refine GA.iload_n dX12_addsWord_23 rfl ?_
  refine GA.aload_n dX12_addsWord_24 rfl ?_
  obtain ⟨x1, hx2, H⟩ := gv_e H
  refine GV.getI hx2 xf_X12_66 dX12_addsWord_25 (gs_500 hL) (by decide) rfl ?_
  obtain ⟨hg3, H⟩ := gg_e H
  obtain ⟨hg4, H⟩ := gg_e H
  refine GV.icmp_ge (tgt := 140) hg3 hg4 dX12_addsWord_28 (by decide) (fun c5 => ?_) (fun c5 => ?_)
  · have H := it_t H c5
    cases H
    exact GA.vret rfl dX12_addsWord_140 (by omega) (by omega) ⟨rfl, rfl⟩
  · have H := it_f H c5
    refine GA.aload_n dX12_addsWord_31 rfl ?_
    refine GA.get xf_X12_69 dX12_addsWord_32 (gs_500 hL) (by decide) rfl ?_
    refine GA.iload_n dX12_addsWord_35 rfl ?_
    obtain ⟨hg6, H⟩ := gg_e H
    obtain ⟨x7, hx8, H⟩ := gv_e H
    refine GV.iald hg6 hx8 dX12_addsWord_36 (gs_507 hL) (by decide) ?_
    refine GA.bipush dX12_addsWord_37 rfl ?_
    obtain ⟨hg9, H⟩ := gg_e H
    refine GV.icmp_eq (tgt := 53) hg9 (by decide) dX12_addsWord_39 (by decide) (fun c10 => ?_) (fun c10 => ?_)
    · have H := it_t H c10
      refine GA.iconst dX12_addsWord_53 ?_
      refine GA.goto (tgt := 58) dX12_addsWord_54 (by decide) ?_
      refine GA.locals [(0, .ref (L 500)), (1, .int (J a1))] ⟨rfl, rfl, trivial⟩ ?_
      exact ih_X12_addsWord_58 hL _ _ (a1) (1) _ _ H
    · have H := it_f H c10
      refine GA.aload_n dX12_addsWord_42 rfl ?_
      refine GA.get xf_X12_69 dX12_addsWord_43 (gs_500 hL) (by decide) rfl ?_
      refine GA.iload_n dX12_addsWord_46 rfl ?_
      obtain ⟨x11, hx12, H⟩ := gv_e H
      refine GV.iald hg6 hx12 dX12_addsWord_47 (gs_507 hL) (by decide) ?_
      refine GA.bipush dX12_addsWord_48 rfl ?_
      obtain ⟨hg13, H⟩ := gg_e H
      refine GV.icmp_ne (tgt := 57) hg13 (by decide) dX12_addsWord_50 (by decide) (fun c14 => ?_) (fun c14 => ?_)
      · have H := it_t H c14
        refine GA.iconst dX12_addsWord_57 ?_
        refine GA.locals [(0, .ref (L 500)), (1, .int (J a1))] ⟨rfl, rfl, trivial⟩ ?_
        exact ih_X12_addsWord_58 hL _ _ (a1) (0) _ _ H
      · have H := it_f H c14
        refine GA.iconst dX12_addsWord_53 ?_
        refine GA.goto (tgt := 58) dX12_addsWord_54 (by decide) ?_
        refine GA.locals [(0, .ref (L 500)), (1, .int (J a1))] ⟨rfl, rfl, trivial⟩ ?_
        exact ih_X12_addsWord_58 hL _ _ (a1) (1) _ _ H
set_option maxHeartbeats 4000000 in
set_option maxRecDepth 20000 in
theorem t_X12_addsWord_58 {l : Launch} {Z : XZ} {L : Nat → Nat} (n : Nat) (ih_X12_addsWord_0 : P_X12_addsWord_0 l Z L n) (ih_X12_addsWord_23 : P_X12_addsWord_23 l Z L n) (ih_X12_addsWord_58 : P_X12_addsWord_58 l Z L n) (ih_X12_addsWord_82 : P_X12_addsWord_82 l Z L n) (ih_X12_addsWord_123 : P_X12_addsWord_123 l Z L n) : P_X12_addsWord_58 l Z L (n + 1) := by
  intro hL d S a1 s0 x S1 H
  have H : b_X12_addsWord_58 n d (f_X12_addsWord n) S a1 s0 = some (x, S1) := H
  unfold b_X12_addsWord_58 at H
  refine GA.istore_n dX12_addsWord_58 (by decide) ?_
  refine GA.aload_n dX12_addsWord_59 rfl ?_
  refine GA.get xf_X12_275 dX12_addsWord_60 (gs_500 hL) (by decide) rfl ?_
  refine GA.aload_n dX12_addsWord_63 rfl ?_
  obtain ⟨x1, hx2, H⟩ := gv_e H
  refine GV.getI hx2 xf_X12_604 dX12_addsWord_64 (gs_500 hL) (by decide) rfl ?_
  refine GA.iload_n dX12_addsWord_67 rfl ?_
  obtain ⟨hg3, H⟩ := gg_e H
  refine GV.if_eq (tgt := 76) hg3 dX12_addsWord_68 (by decide) (fun c4 => ?_) (fun c4 => ?_)
  · have H := it_t H c4
    refine GA.aload_n dX12_addsWord_76 rfl ?_
    refine GA.get xf_X12_69 dX12_addsWord_77 (gs_500 hL) (by decide) rfl ?_
    refine GA.iload_n dX12_addsWord_80 rfl ?_
    obtain ⟨hg5, H⟩ := gg_e H
    obtain ⟨x6, hx7, H⟩ := gv_e H
    refine GV.iald hg5 hx7 dX12_addsWord_81 (gs_507 hL) (by decide) ?_
    refine GA.locals [(0, .ref (L 500)), (1, .int (J a1)), (2, .int (J s0))] ⟨rfl, rfl, rfl, trivial⟩ ?_
    exact ih_X12_addsWord_82 hL _ _ (a1) (s0) (x6) (x1) _ _ H
  · have H := it_f H c4
    refine GA.bipush dX12_addsWord_71 rfl ?_
    refine GA.goto (tgt := 82) dX12_addsWord_73 (by decide) ?_
    refine GA.locals [(0, .ref (L 500)), (1, .int (J a1)), (2, .int (J s0))] ⟨rfl, rfl, rfl, trivial⟩ ?_
    exact ih_X12_addsWord_82 hL _ _ (a1) (s0) (126) (x1) _ _ H
set_option maxHeartbeats 4000000 in
set_option maxRecDepth 20000 in
theorem t_X12_addsWord_82 {l : Launch} {Z : XZ} {L : Nat → Nat} (n : Nat) (ih_X12_addsWord_0 : P_X12_addsWord_0 l Z L n) (ih_X12_addsWord_23 : P_X12_addsWord_23 l Z L n) (ih_X12_addsWord_58 : P_X12_addsWord_58 l Z L n) (ih_X12_addsWord_82 : P_X12_addsWord_82 l Z L n) (ih_X12_addsWord_123 : P_X12_addsWord_123 l Z L n) : P_X12_addsWord_82 l Z L (n + 1) := by
  intro hL d S a1 a2 s0 s1 x S1 H
  have H : b_X12_addsWord_82 n d (f_X12_addsWord n) S a1 a2 s0 s1 = some (x, S1) := H
  unfold b_X12_addsWord_82 at H
  obtain ⟨hg1, H⟩ := gg_e H
  obtain ⟨S_2, hx3, H⟩ := gv_e H
  refine GV.iast hg1 hx3 dX12_addsWord_82 (fun _ => (gs_518 hL)) (by decide) ?_
  refine GA.aload_n dX12_addsWord_83 rfl ?_
  refine GA.dup dX12_addsWord_84 rfl ?_
  obtain ⟨x4, hx5, H⟩ := gv_e H
  refine GV.getI hx5 xf_X12_604 dX12_addsWord_85 (gs_500 hL) (by decide) rfl ?_
  refine GA.iconst dX12_addsWord_88 ?_
  obtain ⟨x6, hx7, H⟩ := gv_e H
  refine GV.iadd hx7 dX12_addsWord_89 ?_
  obtain ⟨S_8, hx9, H⟩ := gv_e H
  refine GV.putI hx9 (xp_X12_604 _) dX12_addsWord_90 (gs_500 hL) (by decide) (Nat.le_of_ble_eq_true rfl) (gs_500 hL) ?_
  refine GA.iload_n dX12_addsWord_93 rfl ?_
  obtain ⟨hg10, H⟩ := gg_e H
  refine GV.if_eq (tgt := 134) hg10 dX12_addsWord_94 (by decide) (fun c11 => ?_) (fun c11 => ?_)
  · have H := it_t H c11
    obtain ⟨x12, hx13, H⟩ := gv_e H
    refine GV.iinc hx13 dX12_addsWord_134 rfl (by decide) ?_
    refine GA.goto (tgt := 23) dX12_addsWord_137 (by decide) ?_
    refine GA.locals [(0, .ref (L 500)), (1, .int (J x12))] ⟨rfl, rfl, trivial⟩ ?_
    exact ih_X12_addsWord_23 hL _ _ (x12) _ _ H
  · have H := it_f H c11
    refine GA.aload_n dX12_addsWord_97 rfl ?_
    refine GA.get xf_X12_275 dX12_addsWord_98 (gs_500 hL) (by decide) rfl ?_
    refine GA.aload_n dX12_addsWord_101 rfl ?_
    obtain ⟨x14, hx15, H⟩ := gv_e H
    refine GV.getI hx15 xf_X12_604 dX12_addsWord_102 (gs_500 hL) (by decide) rfl ?_
    refine GA.aload_n dX12_addsWord_105 rfl ?_
    refine GA.get xf_X12_69 dX12_addsWord_106 (gs_500 hL) (by decide) rfl ?_
    refine GA.iload_n dX12_addsWord_109 rfl ?_
    obtain ⟨hg16, H⟩ := gg_e H
    obtain ⟨x17, hx18, H⟩ := gv_e H
    refine GV.iald hg16 hx18 dX12_addsWord_110 (gs_507 hL) (by decide) ?_
    refine GA.bipush dX12_addsWord_111 rfl ?_
    obtain ⟨hg19, H⟩ := gg_e H
    refine GV.icmp_ne (tgt := 121) hg19 (by decide) dX12_addsWord_113 (by decide) (fun c20 => ?_) (fun c20 => ?_)
    · have H := it_t H c20
      refine GA.bipush dX12_addsWord_121 rfl ?_
      refine GA.locals [(0, .ref (L 500)), (1, .int (J a1))] ⟨rfl, rfl, trivial⟩ ?_
      exact ih_X12_addsWord_123 hL _ _ (a1) (49) (x14) _ _ H
    · have H := it_f H c20
      refine GA.bipush dX12_addsWord_116 rfl ?_
      refine GA.goto (tgt := 123) dX12_addsWord_118 (by decide) ?_
      refine GA.locals [(0, .ref (L 500)), (1, .int (J a1))] ⟨rfl, rfl, trivial⟩ ?_
      exact ih_X12_addsWord_123 hL _ _ (a1) (48) (x14) _ _ H
set_option maxHeartbeats 4000000 in
set_option maxRecDepth 20000 in
theorem t_X12_addsWord_123 {l : Launch} {Z : XZ} {L : Nat → Nat} (n : Nat) (ih_X12_addsWord_0 : P_X12_addsWord_0 l Z L n) (ih_X12_addsWord_23 : P_X12_addsWord_23 l Z L n) (ih_X12_addsWord_58 : P_X12_addsWord_58 l Z L n) (ih_X12_addsWord_82 : P_X12_addsWord_82 l Z L n) (ih_X12_addsWord_123 : P_X12_addsWord_123 l Z L n) : P_X12_addsWord_123 l Z L (n + 1) := by
  intro hL d S a1 s0 s1 x S1 H
  have H : b_X12_addsWord_123 n d (f_X12_addsWord n) S a1 s0 s1 = some (x, S1) := H
  unfold b_X12_addsWord_123 at H
  obtain ⟨hg1, H⟩ := gg_e H
  obtain ⟨S_2, hx3, H⟩ := gv_e H
  refine GV.iast hg1 hx3 dX12_addsWord_123 (fun _ => (gs_518 hL)) (by decide) ?_
  refine GA.aload_n dX12_addsWord_124 rfl ?_
  refine GA.dup dX12_addsWord_125 rfl ?_
  obtain ⟨x4, hx5, H⟩ := gv_e H
  refine GV.getI hx5 xf_X12_604 dX12_addsWord_126 (gs_500 hL) (by decide) rfl ?_
  refine GA.iconst dX12_addsWord_129 ?_
  obtain ⟨x6, hx7, H⟩ := gv_e H
  refine GV.iadd hx7 dX12_addsWord_130 ?_
  obtain ⟨S_8, hx9, H⟩ := gv_e H
  refine GV.putI hx9 (xp_X12_604 _) dX12_addsWord_131 (gs_500 hL) (by decide) (Nat.le_of_ble_eq_true rfl) (gs_500 hL) ?_
  obtain ⟨x10, hx11, H⟩ := gv_e H
  refine GV.iinc hx11 dX12_addsWord_134 rfl (by decide) ?_
  refine GA.goto (tgt := 23) dX12_addsWord_137 (by decide) ?_
  refine GA.locals [(0, .ref (L 500)), (1, .int (J x10))] ⟨rfl, rfl, trivial⟩ ?_
  exact ih_X12_addsWord_23 hL _ _ (x10) _ _ H
theorem g_X12_addsWord {l : Launch} {Z : XZ} {L : Nat → Nat} : ∀ n, P_X12_addsWord_0 l Z L n ∧ P_X12_addsWord_23 l Z L n ∧ P_X12_addsWord_58 l Z L n ∧ P_X12_addsWord_82 l Z L n ∧ P_X12_addsWord_123 l Z L n
  | 0 => ⟨fun _ _ _ _ _ H => no_e H, fun _ _ _ _ _ _ H => no_e H, fun _ _ _ _ _ _ _ H => no_e H, fun _ _ _ _ _ _ _ _ _ H => no_e H, fun _ _ _ _ _ _ _ _ H => no_e H⟩
  | n + 1 => have ⟨h0, h1, h2, h3, h4⟩ := g_X12_addsWord (l := l) (Z := Z) (L := L) n
    ⟨t_X12_addsWord_0 n h0 h1 h2 h3 h4, t_X12_addsWord_23 n h0 h1 h2 h3 h4, t_X12_addsWord_58 n h0 h1 h2 h3 h4, t_X12_addsWord_82 n h0 h1 h2 h3 h4, t_X12_addsWord_123 n h0 h1 h2 h3 h4⟩
theorem m_X12_addsWord {l : Launch} {Z : XZ} {L : Nat → Nat} (hL : L 700 = 1) {n d : Nat} {S : GS} {x : Int} {S1 : GS} (H : f_X12_addsWord n d 0 S [] = some (x, S1)) : GM l Z L yX12_addsWord cX12_addsWord 3 none [] d 0 0 [.ref (L 500)] S (fun v S' => v = none ∧ S1 = S') (fun _ _ => False) := GM.of (by decide) (Nat.le_of_ble_eq_true rfl) ((g_X12_addsWord n).1 hL _ _ _ _ H)

def P_X12_putsLetters_0 (l : Launch) (Z : XZ) (L : Nat → Nat) (n : Nat) : Prop := ∀ (hL : L 700 = 1), ∀ (d : Nat) (S : GS) (a1 : Int) (a2 : Int) (x : Int) (S1 : GS), f_X12_putsLetters n d 0 S [a1, a2] = some (x, S1) → GA l Z L yX12_putsLetters cX12_putsLetters 6 none [] d 0 0 (fun v S' => v = none ∧ S1 = S') (fun _ _ => False) 0 (gl [(0, .ref (L 500)), (1, .int (J a1)), (2, .long (K a2))]) [] S 0 0
def P_X12_putsLetters_4 (l : Launch) (Z : XZ) (L : Nat → Nat) (n : Nat) : Prop := ∀ (hL : L 700 = 1), ∀ (d : Nat) (S : GS) (a1 : Int) (a2 : Int) (a4 : Int) (x : Int) (S1 : GS), f_X12_putsLetters n d 4 S [a1, a2, a4] = some (x, S1) → GA l Z L yX12_putsLetters cX12_putsLetters 6 none [] d 0 0 (fun v S' => v = none ∧ S1 = S') (fun _ _ => False) 4 (gl [(0, .ref (L 500)), (1, .int (J a1)), (2, .long (K a2)), (4, .int (J a4))]) [] S 0 0
theorem i_X12_putsLetters {l : Launch} {Z : XZ} {L : Nat → Nat} (hL : L 700 = 1) {n : Nat} (ih : P_X12_putsLetters_0 l Z L n) {d : Nat} {S : GS} {a1 : Int} {a2 : Int} {x : Int} {S1 : GS} (H : f_X12_putsLetters n d 0 S [a1, a2] = some (x, S1)) : GM l Z L yX12_putsLetters cX12_putsLetters 6 none [] d 0 0 [.ref (L 500), .int (J a1), .long (K a2)] S (fun v S' => v = none ∧ S1 = S') (fun _ _ => False) := GM.of (by decide) (Nat.le_of_ble_eq_true rfl) (ih hL _ _ _ _ _ _ H)
set_option maxHeartbeats 4000000 in
set_option maxRecDepth 20000 in
theorem t_X12_putsLetters_0 {l : Launch} {Z : XZ} {L : Nat → Nat} (n : Nat) (ih_X12_putsLetters_0 : P_X12_putsLetters_0 l Z L n) (ih_X12_putsLetters_4 : P_X12_putsLetters_4 l Z L n) : P_X12_putsLetters_0 l Z L (n + 1) := by
  intro hL d S a1 a2 x S1 H
  have H : b_X12_putsLetters_0 n d (f_X12_putsLetters n) S a1 a2 = some (x, S1) := H
  unfold b_X12_putsLetters_0 at H
  refine GA.bipush dX12_putsLetters_0 rfl ?_
  refine GA.istore dX12_putsLetters_2 (by decide) ?_
  refine GA.locals [(0, .ref (L 500)), (1, .int (J a1)), (2, .long (K a2)), (4, .int (J 7))] ⟨rfl, rfl, rfl, rfl, trivial⟩ ?_
  exact ih_X12_putsLetters_4 hL _ _ (a1) (a2) (7) _ _ H
set_option maxHeartbeats 4000000 in
set_option maxRecDepth 20000 in
theorem t_X12_putsLetters_4 {l : Launch} {Z : XZ} {L : Nat → Nat} (n : Nat) (ih_X12_putsLetters_0 : P_X12_putsLetters_0 l Z L n) (ih_X12_putsLetters_4 : P_X12_putsLetters_4 l Z L n) : P_X12_putsLetters_4 l Z L (n + 1) := by
  intro hL d S a1 a2 a4 x S1 H
  have H : b_X12_putsLetters_4 n d (f_X12_putsLetters n) S a1 a2 a4 = some (x, S1) := H
  unfold b_X12_putsLetters_4 at H
  refine GA.iload dX12_putsLetters_4 rfl ?_
  obtain ⟨hg1, H⟩ := gg_e H
  refine GV.if_lt (tgt := 41) hg1 dX12_putsLetters_6 (by decide) (fun c2 => ?_) (fun c2 => ?_)
  · have H := it_t H c2
    cases H
    exact GA.vret rfl dX12_putsLetters_41 (by omega) (by omega) ⟨rfl, rfl⟩
  · have H := it_f H c2
    refine GA.lload_n dX12_putsLetters_9 rfl ?_
    refine GA.bipush dX12_putsLetters_10 rfl ?_
    refine GA.iload dX12_putsLetters_12 rfl ?_
    obtain ⟨x3, hx4, H⟩ := gv_e H
    refine GV.imul hx4 dX12_putsLetters_14 ?_
    obtain ⟨hg5, H⟩ := gg_e H
    obtain ⟨hg6, H⟩ := gg_e H
    obtain ⟨x7, hx8, H⟩ := gv_e H
    refine GV.lshr hg6 hg5 hx8 dX12_putsLetters_15 ?_
    refine GV.ldc2 (z := 255) (by decide) xc_X12_72 dX12_putsLetters_16 ?_
    obtain ⟨x9, hx10, H⟩ := gv_e H
    refine GV.land hx10 dX12_putsLetters_19 ?_
    refine GV.l2i dX12_putsLetters_20 ?_
    refine GA.istore dX12_putsLetters_21 (by decide) ?_
    refine GA.iload dX12_putsLetters_23 rfl ?_
    obtain ⟨hg11, H⟩ := gg_e H
    refine GV.if_eq (tgt := 35) hg11 dX12_putsLetters_25 (by decide) (fun c12 => ?_) (fun c12 => ?_)
    · have H := it_t H c12
      obtain ⟨x13, hx14, H⟩ := gv_e H
      refine GV.iinc hx14 dX12_putsLetters_35 rfl (by decide) ?_
      refine GA.goto (tgt := 4) dX12_putsLetters_38 (by decide) ?_
      refine GA.locals [(0, .ref (L 500)), (1, .int (J a1)), (2, .long (K a2)), (4, .int (J x13))] ⟨rfl, rfl, rfl, rfl, trivial⟩ ?_
      exact ih_X12_putsLetters_4 hL _ _ (a1) (a2) (x13) _ _ H
    · have H := it_f H c12
      refine GA.aload_n dX12_putsLetters_28 rfl ?_
      refine GA.iload_n dX12_putsLetters_29 rfl ?_
      refine GA.iload dX12_putsLetters_30 rfl ?_
      obtain ⟨hg15, H⟩ := gg_e H
      obtain ⟨x16, S_17, hc18, H⟩ := gc_e H
      refine GA.callV (m_X12_puts hL hc18) xs_X12_551 dX12_putsLetters_32 (gs_500 hL) (by decide) rfl rfl (by omega) (by decide) rfl (Nat.le_of_ble_eq_true rfl) (by omega) (by omega) rfl (fun E S9 hx => hx.elim) (fun v S9 hq => ?_)
      obtain ⟨rfl, rfl⟩ := hq
      obtain ⟨x19, hx20, H⟩ := gv_e H
      refine GV.iinc hx20 dX12_putsLetters_35 rfl (by decide) ?_
      refine GA.goto (tgt := 4) dX12_putsLetters_38 (by decide) ?_
      refine GA.locals [(0, .ref (L 500)), (1, .int (J a1)), (2, .long (K a2)), (4, .int (J x19))] ⟨rfl, rfl, rfl, rfl, trivial⟩ ?_
      exact ih_X12_putsLetters_4 hL _ _ (a1) (a2) (x19) _ _ H
theorem g_X12_putsLetters {l : Launch} {Z : XZ} {L : Nat → Nat} : ∀ n, P_X12_putsLetters_0 l Z L n ∧ P_X12_putsLetters_4 l Z L n
  | 0 => ⟨fun _ _ _ _ _ _ _ H => no_e H, fun _ _ _ _ _ _ _ _ H => no_e H⟩
  | n + 1 => have ⟨h0, h1⟩ := g_X12_putsLetters (l := l) (Z := Z) (L := L) n
    ⟨t_X12_putsLetters_0 n h0 h1, t_X12_putsLetters_4 n h0 h1⟩
theorem m_X12_putsLetters {l : Launch} {Z : XZ} {L : Nat → Nat} (hL : L 700 = 1) {n d : Nat} {S : GS} {a1 : Int} {a2 : Int} {x : Int} {S1 : GS} (H : f_X12_putsLetters n d 0 S [a1, a2] = some (x, S1)) : GM l Z L yX12_putsLetters cX12_putsLetters 6 none [] d 0 0 [.ref (L 500), .int (J a1), .long (K a2)] S (fun v S' => v = none ∧ S1 = S') (fun _ _ => False) := GM.of (by decide) (Nat.le_of_ble_eq_true rfl) ((g_X12_putsLetters n).1 hL _ _ _ _ _ _ H)

def P_X12_hexSign_0 (l : Launch) (Z : XZ) (L : Nat → Nat) (n : Nat) : Prop := ∀ (hL : L 700 = 1), ∀ (d : Nat) (S : GS) (a0 : Int) (x : Int) (S1 : GS), f_X12_hexSign n d 0 S [a0] = some (x, S1) → GA l Z L yX12_hexSign cX12_hexSign 1 (some .int) [] d 0 0 (fun v S' => v = some (.int (J x)) ∧ S1 = S') (fun _ _ => False) 0 (gl [(0, .int (J a0))]) [] S 0 0
theorem i_X12_hexSign {l : Launch} {Z : XZ} {L : Nat → Nat} (hL : L 700 = 1) {n : Nat} (ih : P_X12_hexSign_0 l Z L n) {d : Nat} {S : GS} {a0 : Int} {x : Int} {S1 : GS} (H : f_X12_hexSign n d 0 S [a0] = some (x, S1)) : GM l Z L yX12_hexSign cX12_hexSign 1 (some .int) [] d 0 0 [.int (J a0)] S (fun v S' => v = some (.int (J x)) ∧ S1 = S') (fun _ _ => False) := GM.of (by decide) (Nat.le_of_ble_eq_true rfl) (ih hL _ _ _ _ _ H)
set_option maxHeartbeats 4000000 in
set_option maxRecDepth 20000 in
theorem t_X12_hexSign_0 {l : Launch} {Z : XZ} {L : Nat → Nat} (n : Nat) (ih_X12_hexSign_0 : P_X12_hexSign_0 l Z L n) : P_X12_hexSign_0 l Z L (n + 1) := by
  intro hL d S a0 x S1 H
  have H : b_X12_hexSign_0 n d (f_X12_hexSign n) S a0 = some (x, S1) := H
  unfold b_X12_hexSign_0 at H
  refine GA.iload_n dX12_hexSign_0 rfl ?_
  refine GA.bipush dX12_hexSign_1 rfl ?_
  obtain ⟨hg1, H⟩ := gg_e H
  refine GV.icmp_ge (tgt := 13) hg1 (by decide) dX12_hexSign_3 (by decide) (fun c2 => ?_) (fun c2 => ?_)
  · have H := it_t H c2
    refine GA.bipush dX12_hexSign_13 rfl ?_
    refine GA.iload_n dX12_hexSign_15 rfl ?_
    obtain ⟨x3, hx4, H⟩ := gv_e H
    refine GV.iadd hx4 dX12_hexSign_16 ?_
    refine GA.bipush dX12_hexSign_17 rfl ?_
    obtain ⟨x5, hx6, H⟩ := gv_e H
    refine GV.isub hx6 dX12_hexSign_19 ?_
    cases H
    exact GA.iret rfl dX12_hexSign_20 (by omega) (by omega) ⟨rfl, rfl⟩
  · have H := it_f H c2
    refine GA.bipush dX12_hexSign_6 rfl ?_
    refine GA.iload_n dX12_hexSign_8 rfl ?_
    obtain ⟨x7, hx8, H⟩ := gv_e H
    refine GV.iadd hx8 dX12_hexSign_9 ?_
    refine GA.goto (tgt := 20) dX12_hexSign_10 (by decide) ?_
    cases H
    exact GA.iret rfl dX12_hexSign_20 (by omega) (by omega) ⟨rfl, rfl⟩
theorem g_X12_hexSign {l : Launch} {Z : XZ} {L : Nat → Nat} : ∀ n, P_X12_hexSign_0 l Z L n
  | 0 => fun _ _ _ _ _ _ H => no_e H
  | n + 1 => t_X12_hexSign_0 n (g_X12_hexSign n)
theorem m_X12_hexSign {l : Launch} {Z : XZ} {L : Nat → Nat} (hL : L 700 = 1) {n d : Nat} {S : GS} {a0 : Int} {x : Int} {S1 : GS} (H : f_X12_hexSign n d 0 S [a0] = some (x, S1)) : GM l Z L yX12_hexSign cX12_hexSign 1 (some .int) [] d 0 0 [.int (J a0)] S (fun v S' => v = some (.int (J x)) ∧ S1 = S') (fun _ _ => False) := GM.of (by decide) (Nat.le_of_ble_eq_true rfl) ((g_X12_hexSign n) hL _ _ _ _ _ H)

def P_X12_putsQuoted_0 (l : Launch) (Z : XZ) (L : Nat → Nat) (n : Nat) : Prop := ∀ (hL : L 700 = 1), ∀ (d : Nat) (S : GS) (a1 : Int) (a2 : Int) (a3 : Int) (x : Int) (S1 : GS), f_X12_putsQuoted n d 0 S [a1, a2, a3] = some (x, S1) → GA l Z L yX12_putsQuoted cX12_putsQuoted 6 none [] d 0 0 (fun v S' => v = none ∧ S1 = S') (fun _ _ => False) 0 (gl [(0, .ref (L 500)), (1, .int (J a1)), (2, .int (J a2)), (3, .int (J a3))]) [] S 0 0
def P_X12_putsQuoted_10 (l : Launch) (Z : XZ) (L : Nat → Nat) (n : Nat) : Prop := ∀ (hL : L 700 = 1), ∀ (d : Nat) (S : GS) (a1 : Int) (a2 : Int) (a3 : Int) (a4 : Int) (x : Int) (S1 : GS), f_X12_putsQuoted n d 10 S [a1, a2, a3, a4] = some (x, S1) → GA l Z L yX12_putsQuoted cX12_putsQuoted 6 none [] d 0 0 (fun v S' => v = none ∧ S1 = S') (fun _ _ => False) 10 (gl [(0, .ref (L 500)), (1, .int (J a1)), (2, .int (J a2)), (3, .int (J a3)), (4, .int (J a4))]) [] S 0 0
def P_X12_putsQuoted_41 (l : Launch) (Z : XZ) (L : Nat → Nat) (n : Nat) : Prop := ∀ (hL : L 700 = 1), ∀ (d : Nat) (S : GS) (a1 : Int) (a2 : Int) (a3 : Int) (a4 : Int) (a5 : Int) (x : Int) (S1 : GS), f_X12_putsQuoted n d 41 S [a1, a2, a3, a4, a5] = some (x, S1) → GA l Z L yX12_putsQuoted cX12_putsQuoted 6 none [] d 0 0 (fun v S' => v = none ∧ S1 = S') (fun _ _ => False) 41 (gl [(0, .ref (L 500)), (1, .int (J a1)), (2, .int (J a2)), (3, .int (J a3)), (4, .int (J a4)), (5, .int (J a5))]) [] S 0 0
def P_X12_putsQuoted_112 (l : Launch) (Z : XZ) (L : Nat → Nat) (n : Nat) : Prop := ∀ (hL : L 700 = 1), ∀ (d : Nat) (S : GS) (a1 : Int) (a2 : Int) (a3 : Int) (a4 : Int) (a5 : Int) (x : Int) (S1 : GS), f_X12_putsQuoted n d 112 S [a1, a2, a3, a4, a5] = some (x, S1) → GA l Z L yX12_putsQuoted cX12_putsQuoted 6 none [] d 0 0 (fun v S' => v = none ∧ S1 = S') (fun _ _ => False) 112 (gl [(0, .ref (L 500)), (1, .int (J a1)), (2, .int (J a2)), (3, .int (J a3)), (4, .int (J a4)), (5, .int (J a5))]) [] S 0 0
theorem i_X12_putsQuoted {l : Launch} {Z : XZ} {L : Nat → Nat} (hL : L 700 = 1) {n : Nat} (ih : P_X12_putsQuoted_0 l Z L n) {d : Nat} {S : GS} {a1 : Int} {a2 : Int} {a3 : Int} {x : Int} {S1 : GS} (H : f_X12_putsQuoted n d 0 S [a1, a2, a3] = some (x, S1)) : GM l Z L yX12_putsQuoted cX12_putsQuoted 6 none [] d 0 0 [.ref (L 500), .int (J a1), .int (J a2), .int (J a3)] S (fun v S' => v = none ∧ S1 = S') (fun _ _ => False) := GM.of (by decide) (Nat.le_of_ble_eq_true rfl) (ih hL _ _ _ _ _ _ _ H)
set_option maxHeartbeats 4000000 in
set_option maxRecDepth 20000 in
theorem t_X12_putsQuoted_0 {l : Launch} {Z : XZ} {L : Nat → Nat} (n : Nat) (ih_X12_putsQuoted_0 : P_X12_putsQuoted_0 l Z L n) (ih_X12_putsQuoted_10 : P_X12_putsQuoted_10 l Z L n) (ih_X12_putsQuoted_41 : P_X12_putsQuoted_41 l Z L n) (ih_X12_putsQuoted_112 : P_X12_putsQuoted_112 l Z L n) : P_X12_putsQuoted_0 l Z L (n + 1) := by
  intro hL d S a1 a2 a3 x S1 H
  have H : b_X12_putsQuoted_0 n d (f_X12_putsQuoted n) S a1 a2 a3 = some (x, S1) := H
  unfold b_X12_putsQuoted_0 at H
  refine GA.aload_n dX12_putsQuoted_0 rfl ?_
  refine GA.iload_n dX12_putsQuoted_1 rfl ?_
  refine GA.bipush dX12_putsQuoted_2 rfl ?_
  obtain ⟨hg1, H⟩ := gg_e H
  obtain ⟨x2, S_3, hc4, H⟩ := gc_e H
  refine GA.callV (m_X12_puts hL hc4) xs_X12_551 dX12_putsQuoted_4 (gs_500 hL) (by decide) rfl rfl (by omega) (by decide) rfl (Nat.le_of_ble_eq_true rfl) (by omega) (by omega) rfl (fun E S9 hx => hx.elim) (fun v S9 hq => ?_)
  obtain ⟨rfl, rfl⟩ := hq
  refine GA.iload_n dX12_putsQuoted_7 rfl ?_
  refine GA.istore dX12_putsQuoted_8 (by decide) ?_
  refine GA.locals [(0, .ref (L 500)), (1, .int (J a1)), (2, .int (J a2)), (3, .int (J a3)), (4, .int (J a2))] ⟨rfl, rfl, rfl, rfl, rfl, trivial⟩ ?_
  exact ih_X12_putsQuoted_10 hL _ _ (a1) (a2) (a3) (a2) _ _ H
set_option maxHeartbeats 4000000 in
set_option maxRecDepth 20000 in
theorem t_X12_putsQuoted_10 {l : Launch} {Z : XZ} {L : Nat → Nat} (n : Nat) (ih_X12_putsQuoted_0 : P_X12_putsQuoted_0 l Z L n) (ih_X12_putsQuoted_10 : P_X12_putsQuoted_10 l Z L n) (ih_X12_putsQuoted_41 : P_X12_putsQuoted_41 l Z L n) (ih_X12_putsQuoted_112 : P_X12_putsQuoted_112 l Z L n) : P_X12_putsQuoted_10 l Z L (n + 1) := by
  intro hL d S a1 a2 a3 a4 x S1 H
  have H : b_X12_putsQuoted_10 n d (f_X12_putsQuoted n) S a1 a2 a3 a4 = some (x, S1) := H
  unfold b_X12_putsQuoted_10 at H
  refine GA.iload dX12_putsQuoted_10 rfl ?_
  refine GA.iload_n dX12_putsQuoted_12 rfl ?_
  refine GA.iload_n dX12_putsQuoted_13 rfl ?_
  obtain ⟨x1, hx2, H⟩ := gv_e H
  refine GV.iadd hx2 dX12_putsQuoted_14 ?_
  obtain ⟨hg3, H⟩ := gg_e H
  obtain ⟨hg4, H⟩ := gg_e H
  refine GV.icmp_ge (tgt := 132) hg3 hg4 dX12_putsQuoted_15 (by decide) (fun c5 => ?_) (fun c5 => ?_)
  · have H := it_t H c5
    refine GA.aload_n dX12_putsQuoted_132 rfl ?_
    refine GA.iload_n dX12_putsQuoted_133 rfl ?_
    refine GA.bipush dX12_putsQuoted_134 rfl ?_
    obtain ⟨hg6, H⟩ := gg_e H
    obtain ⟨x7, S_8, hc9, H⟩ := gc_e H
    refine GA.callV (m_X12_puts hL hc9) xs_X12_551 dX12_putsQuoted_136 (gs_500 hL) (by decide) rfl rfl (by omega) (by decide) rfl (Nat.le_of_ble_eq_true rfl) (by omega) (by omega) rfl (fun E S9 hx => hx.elim) (fun v S9 hq => ?_)
    obtain ⟨rfl, rfl⟩ := hq
    cases H
    exact GA.vret rfl dX12_putsQuoted_139 (by omega) (by omega) ⟨rfl, rfl⟩
  · have H := it_f H c5
    refine GA.aload_n dX12_putsQuoted_18 rfl ?_
    refine GA.get xf_X12_7 dX12_putsQuoted_19 (gs_500 hL) (by decide) rfl ?_
    refine GA.iload dX12_putsQuoted_22 rfl ?_
    obtain ⟨hg10, H⟩ := gg_e H
    obtain ⟨x11, hx12, H⟩ := gv_e H
    refine GV.iald hg10 hx12 dX12_putsQuoted_24 (gs_501 hL) (by decide) ?_
    refine GA.istore dX12_putsQuoted_25 (by decide) ?_
    refine GA.iload dX12_putsQuoted_27 rfl ?_
    refine GA.bipush dX12_putsQuoted_29 rfl ?_
    obtain ⟨hg13, H⟩ := gg_e H
    refine GV.icmp_lt (tgt := 41) hg13 (by decide) dX12_putsQuoted_31 (by decide) (fun c14 => ?_) (fun c14 => ?_)
    · have H := it_t H c14
      refine GA.locals [(0, .ref (L 500)), (1, .int (J a1)), (2, .int (J a2)), (3, .int (J a3)), (4, .int (J a4)), (5, .int (J x11))] ⟨rfl, rfl, rfl, rfl, rfl, rfl, trivial⟩ ?_
      exact ih_X12_putsQuoted_41 hL _ _ (a1) (a2) (a3) (a4) (x11) _ _ H
    · have H := it_f H c14
      refine GA.iload dX12_putsQuoted_34 rfl ?_
      refine GA.bipush dX12_putsQuoted_36 rfl ?_
      refine GV.icmp_le (tgt := 98) hg13 (by decide) dX12_putsQuoted_38 (by decide) (fun c15 => ?_) (fun c15 => ?_)
      · have H := it_t H c15
        refine GA.iload dX12_putsQuoted_98 rfl ?_
        refine GA.bipush dX12_putsQuoted_100 rfl ?_
        refine GV.icmp_eq (tgt := 112) hg13 (by decide) dX12_putsQuoted_102 (by decide) (fun c16 => ?_) (fun c16 => ?_)
        · have H := it_t H c16
          refine GA.locals [(0, .ref (L 500)), (1, .int (J a1)), (2, .int (J a2)), (3, .int (J a3)), (4, .int (J a4)), (5, .int (J x11))] ⟨rfl, rfl, rfl, rfl, rfl, rfl, trivial⟩ ?_
          exact ih_X12_putsQuoted_112 hL _ _ (a1) (a2) (a3) (a4) (x11) _ _ H
        · have H := it_f H c16
          refine GA.iload dX12_putsQuoted_105 rfl ?_
          refine GA.bipush dX12_putsQuoted_107 rfl ?_
          refine GV.icmp_ne (tgt := 119) hg13 (by decide) dX12_putsQuoted_109 (by decide) (fun c17 => ?_) (fun c17 => ?_)
          · have H := it_t H c17
            refine GA.aload_n dX12_putsQuoted_119 rfl ?_
            refine GA.iload_n dX12_putsQuoted_120 rfl ?_
            refine GA.iload dX12_putsQuoted_121 rfl ?_
            obtain ⟨hg18, H⟩ := gg_e H
            obtain ⟨x19, S_20, hc21, H⟩ := gc_e H
            refine GA.callV (m_X12_puts hL hc21) xs_X12_551 dX12_putsQuoted_123 (gs_500 hL) (by decide) rfl rfl (by omega) (by decide) rfl (Nat.le_of_ble_eq_true rfl) (by omega) (by omega) rfl (fun E S9 hx => hx.elim) (fun v S9 hq => ?_)
            obtain ⟨rfl, rfl⟩ := hq
            obtain ⟨x22, hx23, H⟩ := gv_e H
            refine GV.iinc hx23 dX12_putsQuoted_126 rfl (by decide) ?_
            refine GA.goto (tgt := 10) dX12_putsQuoted_129 (by decide) ?_
            refine GA.locals [(0, .ref (L 500)), (1, .int (J a1)), (2, .int (J a2)), (3, .int (J a3)), (4, .int (J x22))] ⟨rfl, rfl, rfl, rfl, rfl, trivial⟩ ?_
            exact ih_X12_putsQuoted_10 hL _ _ (a1) (a2) (a3) (x22) _ _ H
          · have H := it_f H c17
            refine GA.locals [(0, .ref (L 500)), (1, .int (J a1)), (2, .int (J a2)), (3, .int (J a3)), (4, .int (J a4)), (5, .int (J x11))] ⟨rfl, rfl, rfl, rfl, rfl, rfl, trivial⟩ ?_
            exact ih_X12_putsQuoted_112 hL _ _ (a1) (a2) (a3) (a4) (x11) _ _ H
      · have H := it_f H c15
        refine GA.locals [(0, .ref (L 500)), (1, .int (J a1)), (2, .int (J a2)), (3, .int (J a3)), (4, .int (J a4)), (5, .int (J x11))] ⟨rfl, rfl, rfl, rfl, rfl, rfl, trivial⟩ ?_
        exact ih_X12_putsQuoted_41 hL _ _ (a1) (a2) (a3) (a4) (x11) _ _ H
set_option maxHeartbeats 4000000 in
set_option maxRecDepth 20000 in
theorem t_X12_putsQuoted_41 {l : Launch} {Z : XZ} {L : Nat → Nat} (n : Nat) (ih_X12_putsQuoted_0 : P_X12_putsQuoted_0 l Z L n) (ih_X12_putsQuoted_10 : P_X12_putsQuoted_10 l Z L n) (ih_X12_putsQuoted_41 : P_X12_putsQuoted_41 l Z L n) (ih_X12_putsQuoted_112 : P_X12_putsQuoted_112 l Z L n) : P_X12_putsQuoted_41 l Z L (n + 1) := by
  intro hL d S a1 a2 a3 a4 a5 x S1 H
  have H : b_X12_putsQuoted_41 n d (f_X12_putsQuoted n) S a1 a2 a3 a4 a5 = some (x, S1) := H
  unfold b_X12_putsQuoted_41 at H
  refine GA.aload_n dX12_putsQuoted_41 rfl ?_
  refine GA.iload_n dX12_putsQuoted_42 rfl ?_
  refine GA.bipush dX12_putsQuoted_43 rfl ?_
  obtain ⟨hg1, H⟩ := gg_e H
  obtain ⟨x2, S_3, hc4, H⟩ := gc_e H
  refine GA.callV (m_X12_puts hL hc4) xs_X12_551 dX12_putsQuoted_45 (gs_500 hL) (by decide) rfl rfl (by omega) (by decide) rfl (Nat.le_of_ble_eq_true rfl) (by omega) (by omega) rfl (fun E S9 hx => hx.elim) (fun v S9 hq => ?_)
  obtain ⟨rfl, rfl⟩ := hq
  refine GA.aload_n dX12_putsQuoted_48 rfl ?_
  refine GA.iload_n dX12_putsQuoted_49 rfl ?_
  refine GA.bipush dX12_putsQuoted_50 rfl ?_
  obtain ⟨x5, S_6, hc7, H⟩ := gc_e H
  refine GA.callV (m_X12_puts hL hc7) xs_X12_551 dX12_putsQuoted_52 (gs_500 hL) (by decide) rfl rfl (by omega) (by decide) rfl (Nat.le_of_ble_eq_true rfl) (by omega) (by omega) rfl (fun E S9 hx => hx.elim) (fun v S9 hq => ?_)
  obtain ⟨rfl, rfl⟩ := hq
  refine GA.aload_n dX12_putsQuoted_55 rfl ?_
  refine GA.iload_n dX12_putsQuoted_56 rfl ?_
  refine GA.bipush dX12_putsQuoted_57 rfl ?_
  obtain ⟨x8, S_9, hc10, H⟩ := gc_e H
  refine GA.callV (m_X12_puts hL hc10) xs_X12_551 dX12_putsQuoted_59 (gs_500 hL) (by decide) rfl rfl (by omega) (by decide) rfl (Nat.le_of_ble_eq_true rfl) (by omega) (by omega) rfl (fun E S9 hx => hx.elim) (fun v S9 hq => ?_)
  obtain ⟨rfl, rfl⟩ := hq
  refine GA.aload_n dX12_putsQuoted_62 rfl ?_
  refine GA.iload_n dX12_putsQuoted_63 rfl ?_
  refine GA.bipush dX12_putsQuoted_64 rfl ?_
  obtain ⟨x11, S_12, hc13, H⟩ := gc_e H
  refine GA.callV (m_X12_puts hL hc13) xs_X12_551 dX12_putsQuoted_66 (gs_500 hL) (by decide) rfl rfl (by omega) (by decide) rfl (Nat.le_of_ble_eq_true rfl) (by omega) (by omega) rfl (fun E S9 hx => hx.elim) (fun v S9 hq => ?_)
  obtain ⟨rfl, rfl⟩ := hq
  refine GA.aload_n dX12_putsQuoted_69 rfl ?_
  refine GA.iload_n dX12_putsQuoted_70 rfl ?_
  refine GA.iload dX12_putsQuoted_71 rfl ?_
  refine GA.bipush dX12_putsQuoted_73 rfl ?_
  obtain ⟨hg14, H⟩ := gg_e H
  obtain ⟨x15, hx16, H⟩ := gv_e H
  refine GV.idiv hg14 hx16 dX12_putsQuoted_75 ?_
  obtain ⟨x17, S_18, hc19, H⟩ := gc_e H
  refine GA.callS (m_X12_hexSign hL hc19) xs_X12_554 dX12_putsQuoted_76 rfl (by omega) (by decide) rfl (Nat.le_of_ble_eq_true rfl) (by omega) (by omega) rfl (fun E S9 hx => hx.elim) (fun v S9 hq => ?_)
  obtain ⟨rfl, rfl⟩ := hq
  obtain ⟨x20, S_21, hc22, H⟩ := gc_e H
  refine GA.callV (m_X12_puts hL hc22) xs_X12_551 dX12_putsQuoted_79 (gs_500 hL) (by decide) rfl rfl (by omega) (by decide) rfl (Nat.le_of_ble_eq_true rfl) (by omega) (by omega) rfl (fun E S9 hx => hx.elim) (fun v S9 hq => ?_)
  obtain ⟨rfl, rfl⟩ := hq
  refine GA.aload_n dX12_putsQuoted_82 rfl ?_
  refine GA.iload_n dX12_putsQuoted_83 rfl ?_
  refine GA.iload dX12_putsQuoted_84 rfl ?_
  refine GA.bipush dX12_putsQuoted_86 rfl ?_
  obtain ⟨hg23, H⟩ := gg_e H
  obtain ⟨x24, hx25, H⟩ := gv_e H
  refine GV.irem hg23 hx25 dX12_putsQuoted_88 ?_
  obtain ⟨x26, S_27, hc28, H⟩ := gc_e H
  refine GA.callS (m_X12_hexSign hL hc28) xs_X12_554 dX12_putsQuoted_89 rfl (by omega) (by decide) rfl (Nat.le_of_ble_eq_true rfl) (by omega) (by omega) rfl (fun E S9 hx => hx.elim) (fun v S9 hq => ?_)
  obtain ⟨rfl, rfl⟩ := hq
  obtain ⟨x29, S_30, hc31, H⟩ := gc_e H
  refine GA.callV (m_X12_puts hL hc31) xs_X12_551 dX12_putsQuoted_92 (gs_500 hL) (by decide) rfl rfl (by omega) (by decide) rfl (Nat.le_of_ble_eq_true rfl) (by omega) (by omega) rfl (fun E S9 hx => hx.elim) (fun v S9 hq => ?_)
  obtain ⟨rfl, rfl⟩ := hq
  refine GA.goto (tgt := 126) dX12_putsQuoted_95 (by decide) ?_
  obtain ⟨x32, hx33, H⟩ := gv_e H
  refine GV.iinc hx33 dX12_putsQuoted_126 rfl (by decide) ?_
  refine GA.goto (tgt := 10) dX12_putsQuoted_129 (by decide) ?_
  refine GA.locals [(0, .ref (L 500)), (1, .int (J a1)), (2, .int (J a2)), (3, .int (J a3)), (4, .int (J x32))] ⟨rfl, rfl, rfl, rfl, rfl, trivial⟩ ?_
  exact ih_X12_putsQuoted_10 hL _ _ (a1) (a2) (a3) (x32) _ _ H
set_option maxHeartbeats 4000000 in
set_option maxRecDepth 20000 in
theorem t_X12_putsQuoted_112 {l : Launch} {Z : XZ} {L : Nat → Nat} (n : Nat) (ih_X12_putsQuoted_0 : P_X12_putsQuoted_0 l Z L n) (ih_X12_putsQuoted_10 : P_X12_putsQuoted_10 l Z L n) (ih_X12_putsQuoted_41 : P_X12_putsQuoted_41 l Z L n) (ih_X12_putsQuoted_112 : P_X12_putsQuoted_112 l Z L n) : P_X12_putsQuoted_112 l Z L (n + 1) := by
  intro hL d S a1 a2 a3 a4 a5 x S1 H
  have H : b_X12_putsQuoted_112 n d (f_X12_putsQuoted n) S a1 a2 a3 a4 a5 = some (x, S1) := H
  unfold b_X12_putsQuoted_112 at H
  refine GA.aload_n dX12_putsQuoted_112 rfl ?_
  refine GA.iload_n dX12_putsQuoted_113 rfl ?_
  refine GA.bipush dX12_putsQuoted_114 rfl ?_
  obtain ⟨hg1, H⟩ := gg_e H
  obtain ⟨x2, S_3, hc4, H⟩ := gc_e H
  refine GA.callV (m_X12_puts hL hc4) xs_X12_551 dX12_putsQuoted_116 (gs_500 hL) (by decide) rfl rfl (by omega) (by decide) rfl (Nat.le_of_ble_eq_true rfl) (by omega) (by omega) rfl (fun E S9 hx => hx.elim) (fun v S9 hq => ?_)
  obtain ⟨rfl, rfl⟩ := hq
  refine GA.aload_n dX12_putsQuoted_119 rfl ?_
  refine GA.iload_n dX12_putsQuoted_120 rfl ?_
  refine GA.iload dX12_putsQuoted_121 rfl ?_
  obtain ⟨x5, S_6, hc7, H⟩ := gc_e H
  refine GA.callV (m_X12_puts hL hc7) xs_X12_551 dX12_putsQuoted_123 (gs_500 hL) (by decide) rfl rfl (by omega) (by decide) rfl (Nat.le_of_ble_eq_true rfl) (by omega) (by omega) rfl (fun E S9 hx => hx.elim) (fun v S9 hq => ?_)
  obtain ⟨rfl, rfl⟩ := hq
  obtain ⟨x8, hx9, H⟩ := gv_e H
  refine GV.iinc hx9 dX12_putsQuoted_126 rfl (by decide) ?_
  refine GA.goto (tgt := 10) dX12_putsQuoted_129 (by decide) ?_
  refine GA.locals [(0, .ref (L 500)), (1, .int (J a1)), (2, .int (J a2)), (3, .int (J a3)), (4, .int (J x8))] ⟨rfl, rfl, rfl, rfl, rfl, trivial⟩ ?_
  exact ih_X12_putsQuoted_10 hL _ _ (a1) (a2) (a3) (x8) _ _ H
theorem g_X12_putsQuoted {l : Launch} {Z : XZ} {L : Nat → Nat} : ∀ n, P_X12_putsQuoted_0 l Z L n ∧ P_X12_putsQuoted_10 l Z L n ∧ P_X12_putsQuoted_41 l Z L n ∧ P_X12_putsQuoted_112 l Z L n
  | 0 => ⟨fun _ _ _ _ _ _ _ _ H => no_e H, fun _ _ _ _ _ _ _ _ _ H => no_e H, fun _ _ _ _ _ _ _ _ _ _ H => no_e H, fun _ _ _ _ _ _ _ _ _ _ H => no_e H⟩
  | n + 1 => have ⟨h0, h1, h2, h3⟩ := g_X12_putsQuoted (l := l) (Z := Z) (L := L) n
    ⟨t_X12_putsQuoted_0 n h0 h1 h2 h3, t_X12_putsQuoted_10 n h0 h1 h2 h3, t_X12_putsQuoted_41 n h0 h1 h2 h3, t_X12_putsQuoted_112 n h0 h1 h2 h3⟩
theorem m_X12_putsQuoted {l : Launch} {Z : XZ} {L : Nat → Nat} (hL : L 700 = 1) {n d : Nat} {S : GS} {a1 : Int} {a2 : Int} {a3 : Int} {x : Int} {S1 : GS} (H : f_X12_putsQuoted n d 0 S [a1, a2, a3] = some (x, S1)) : GM l Z L yX12_putsQuoted cX12_putsQuoted 6 none [] d 0 0 [.ref (L 500), .int (J a1), .int (J a2), .int (J a3)] S (fun v S' => v = none ∧ S1 = S') (fun _ _ => False) := GM.of (by decide) (Nat.le_of_ble_eq_true rfl) ((g_X12_putsQuoted n).1 hL _ _ _ _ _ _ _ H)

def P_X12_putsScalar_0 (l : Launch) (Z : XZ) (L : Nat → Nat) (n : Nat) : Prop := ∀ (hL : L 700 = 1), ∀ (d : Nat) (S : GS) (a1 : Int) (a2 : Int) (a3 : Int) (x : Int) (S1 : GS), f_X12_putsScalar n d 0 S [a1, a2, a3] = some (x, S1) → GA l Z L yX12_putsScalar cX12_putsScalar 7 none [] d 0 0 (fun v S' => v = none ∧ S1 = S') (fun _ _ => False) 0 (gl [(0, .ref (L 500)), (1, .int (J a1)), (2, .int (J a2)), (3, .int (J a3))]) [] S 0 0
def P_X12_putsScalar_127 (l : Launch) (Z : XZ) (L : Nat → Nat) (n : Nat) : Prop := ∀ (hL : L 700 = 1), ∀ (d : Nat) (S : GS) (a1 : Int) (a4 : Int) (a6 : Int) (x : Int) (S1 : GS), f_X12_putsScalar n d 127 S [a1, a4, a6] = some (x, S1) → GA l Z L yX12_putsScalar cX12_putsScalar 7 none [] d 0 0 (fun v S' => v = none ∧ S1 = S') (fun _ _ => False) 127 (gl [(0, .ref (L 500)), (1, .int (J a1)), (4, .int (J a4)), (6, .int (J a6))]) [] S 0 0
def P_X12_putsScalar_219 (l : Launch) (Z : XZ) (L : Nat → Nat) (n : Nat) : Prop := ∀ (hL : L 700 = 1), ∀ (d : Nat) (S : GS) (a1 : Int) (a5 : Int) (s0 : Int) (s1 : Int) (x : Int) (S1 : GS), f_X12_putsScalar n d 219 S [a1, a5, s0, s1] = some (x, S1) → GA l Z L yX12_putsScalar cX12_putsScalar 7 none [] d 0 0 (fun v S' => v = none ∧ S1 = S') (fun _ _ => False) 219 (gl [(0, .ref (L 500)), (1, .int (J a1)), (5, .int (J a5))]) [.int (J s0), .int (J s1), .ref (L 500)] S 0 0
theorem i_X12_putsScalar {l : Launch} {Z : XZ} {L : Nat → Nat} (hL : L 700 = 1) {n : Nat} (ih : P_X12_putsScalar_0 l Z L n) {d : Nat} {S : GS} {a1 : Int} {a2 : Int} {a3 : Int} {x : Int} {S1 : GS} (H : f_X12_putsScalar n d 0 S [a1, a2, a3] = some (x, S1)) : GM l Z L yX12_putsScalar cX12_putsScalar 7 none [] d 0 0 [.ref (L 500), .int (J a1), .int (J a2), .int (J a3)] S (fun v S' => v = none ∧ S1 = S') (fun _ _ => False) := GM.of (by decide) (Nat.le_of_ble_eq_true rfl) (ih hL _ _ _ _ _ _ _ H)
set_option maxHeartbeats 4000000 in
set_option maxRecDepth 20000 in
theorem t_X12_putsScalar_0 {l : Launch} {Z : XZ} {L : Nat → Nat} (n : Nat) (ih_X12_putsScalar_0 : P_X12_putsScalar_0 l Z L n) (ih_X12_putsScalar_127 : P_X12_putsScalar_127 l Z L n) (ih_X12_putsScalar_219 : P_X12_putsScalar_219 l Z L n) : P_X12_putsScalar_0 l Z L (n + 1) := by
  intro hL d S a1 a2 a3 x S1 H
  have H : b_X12_putsScalar_0 n d (f_X12_putsScalar n) S a1 a2 a3 = some (x, S1) := H
  unfold b_X12_putsScalar_0 at H
  refine GA.iload_n dX12_putsScalar_0 rfl ?_
  refine GA.iload_n dX12_putsScalar_1 rfl ?_
  obtain ⟨hg1, H⟩ := gg_e H
  obtain ⟨x2, S_3, hc4, H⟩ := gc_e H
  refine GA.callS (m_X12_at hL hc4) xs_X12_11 dX12_putsScalar_2 rfl (by omega) (by decide) rfl (Nat.le_of_ble_eq_true rfl) (by omega) (by omega) rfl (fun E S9 hx => hx.elim) (fun v S9 hq => ?_)
  obtain ⟨rfl, rfl⟩ := hq
  refine GA.istore dX12_putsScalar_5 (by decide) ?_
  refine GA.aload_n dX12_putsScalar_7 rfl ?_
  refine GA.get xf_X12_7 dX12_putsScalar_8 (gs_500 hL) (by decide) rfl ?_
  refine GA.iload dX12_putsScalar_11 rfl ?_
  obtain ⟨hg5, H⟩ := gg_e H
  obtain ⟨x6, hx7, H⟩ := gv_e H
  refine GV.iald hg5 hx7 dX12_putsScalar_13 (gs_501 hL) (by decide) ?_
  refine GA.istore dX12_putsScalar_14 (by decide) ?_
  refine GA.iload dX12_putsScalar_16 rfl ?_
  obtain ⟨hg8, H⟩ := gg_e H
  refine GV.if_ne (tgt := 32) hg8 dX12_putsScalar_18 (by decide) (fun c9 => ?_) (fun c9 => ?_)
  · have H := it_t H c9
    refine GA.iload dX12_putsScalar_32 rfl ?_
    refine GA.iconst dX12_putsScalar_34 ?_
    refine GV.icmp_ne (tgt := 69) hg8 (by decide) dX12_putsScalar_35 (by decide) (fun c10 => ?_) (fun c10 => ?_)
    · have H := it_t H c10
      refine GA.iload dX12_putsScalar_69 rfl ?_
      refine GA.iconst dX12_putsScalar_71 ?_
      refine GV.icmp_ne (tgt := 98) hg8 (by decide) dX12_putsScalar_72 (by decide) (fun c11 => ?_) (fun c11 => ?_)
      · have H := it_t H c11
        refine GA.iload dX12_putsScalar_98 rfl ?_
        refine GA.iconst dX12_putsScalar_100 ?_
        refine GV.icmp_ne (tgt := 204) hg8 (by decide) dX12_putsScalar_101 (by decide) (fun c12 => ?_) (fun c12 => ?_)
        · have H := it_t H c12
          refine GA.aload_n dX12_putsScalar_204 rfl ?_
          refine GA.iload_n dX12_putsScalar_205 rfl ?_
          refine GA.iload dX12_putsScalar_206 rfl ?_
          refine GA.iconst dX12_putsScalar_208 ?_
          refine GV.icmp_ne (tgt := 217) hg8 (by decide) dX12_putsScalar_209 (by decide) (fun c13 => ?_) (fun c13 => ?_)
          · have H := it_t H c13
            refine GA.bipush dX12_putsScalar_217 rfl ?_
            refine GA.locals [(0, .ref (L 500)), (1, .int (J a1)), (5, .int (J x6))] ⟨rfl, rfl, rfl, trivial⟩ ?_
            exact ih_X12_putsScalar_219 hL _ _ (a1) (x6) (123) (a1) _ _ H
          · have H := it_f H c13
            refine GA.bipush dX12_putsScalar_212 rfl ?_
            refine GA.goto (tgt := 219) dX12_putsScalar_214 (by decide) ?_
            refine GA.locals [(0, .ref (L 500)), (1, .int (J a1)), (5, .int (J x6))] ⟨rfl, rfl, rfl, trivial⟩ ?_
            exact ih_X12_putsScalar_219 hL _ _ (a1) (x6) (91) (a1) _ _ H
        · have H := it_f H c12
          refine GA.aload_n dX12_putsScalar_104 rfl ?_
          refine GA.get xf_X12_7 dX12_putsScalar_105 (gs_500 hL) (by decide) rfl ?_
          refine GA.iload dX12_putsScalar_108 rfl ?_
          refine GA.bipush dX12_putsScalar_110 rfl ?_
          obtain ⟨x14, hx15, H⟩ := gv_e H
          refine GV.iadd hx15 dX12_putsScalar_112 ?_
          obtain ⟨hg16, H⟩ := gg_e H
          obtain ⟨x17, hx18, H⟩ := gv_e H
          refine GV.iald hg16 hx18 dX12_putsScalar_113 (gs_501 hL) (by decide) ?_
          obtain ⟨hg19, H⟩ := gg_e H
          refine GV.if_ge (tgt := 124) hg19 dX12_putsScalar_114 (by decide) (fun c20 => ?_) (fun c20 => ?_)
          · have H := it_t H c20
            refine GA.iconst dX12_putsScalar_124 ?_
            refine GA.istore dX12_putsScalar_125 (by decide) ?_
            refine GA.locals [(0, .ref (L 500)), (1, .int (J a1)), (4, .int (J x2)), (6, .int (J 0))] ⟨rfl, rfl, rfl, rfl, trivial⟩ ?_
            exact ih_X12_putsScalar_127 hL _ _ (a1) (x2) (0) _ _ H
          · have H := it_f H c20
            refine GA.aload_n dX12_putsScalar_117 rfl ?_
            refine GA.iload_n dX12_putsScalar_118 rfl ?_
            refine GA.bipush dX12_putsScalar_119 rfl ?_
            obtain ⟨x21, S_22, hc23, H⟩ := gc_e H
            refine GA.callV (m_X12_puts hL hc23) xs_X12_551 dX12_putsScalar_121 (gs_500 hL) (by decide) rfl rfl (by omega) (by decide) rfl (Nat.le_of_ble_eq_true rfl) (by omega) (by omega) rfl (fun E S9 hx => hx.elim) (fun v S9 hq => ?_)
            obtain ⟨rfl, rfl⟩ := hq
            refine GA.iconst dX12_putsScalar_124 ?_
            refine GA.istore dX12_putsScalar_125 (by decide) ?_
            refine GA.locals [(0, .ref (L 500)), (1, .int (J a1)), (4, .int (J x2)), (6, .int (J 0))] ⟨rfl, rfl, rfl, rfl, trivial⟩ ?_
            exact ih_X12_putsScalar_127 hL _ _ (a1) (x2) (0) _ _ H
      · have H := it_f H c11
        refine GA.aload_n dX12_putsScalar_75 rfl ?_
        refine GA.iload_n dX12_putsScalar_76 rfl ?_
        refine GA.iload dX12_putsScalar_77 rfl ?_
        refine GA.bipush dX12_putsScalar_79 rfl ?_
        obtain ⟨x24, hx25, H⟩ := gv_e H
        refine GV.iadd hx25 dX12_putsScalar_81 ?_
        refine GA.aload_n dX12_putsScalar_82 rfl ?_
        refine GA.get xf_X12_7 dX12_putsScalar_83 (gs_500 hL) (by decide) rfl ?_
        refine GA.iload dX12_putsScalar_86 rfl ?_
        refine GA.bipush dX12_putsScalar_88 rfl ?_
        obtain ⟨x26, hx27, H⟩ := gv_e H
        refine GV.iadd hx27 dX12_putsScalar_90 ?_
        obtain ⟨hg28, H⟩ := gg_e H
        obtain ⟨x29, hx30, H⟩ := gv_e H
        refine GV.iald hg28 hx30 dX12_putsScalar_91 (gs_501 hL) (by decide) ?_
        obtain ⟨x31, S_32, hc33, H⟩ := gc_e H
        refine GA.callV (m_X12_putsQuoted hL hc33) xs_X12_561 dX12_putsScalar_92 (gs_500 hL) (by decide) rfl rfl (by omega) (by decide) rfl (Nat.le_of_ble_eq_true rfl) (by omega) (by omega) rfl (fun E S9 hx => hx.elim) (fun v S9 hq => ?_)
        obtain ⟨rfl, rfl⟩ := hq
        refine GA.goto (tgt := 240) dX12_putsScalar_95 (by decide) ?_
        cases H
        exact GA.vret rfl dX12_putsScalar_240 (by omega) (by omega) ⟨rfl, rfl⟩
    · have H := it_f H c10
      refine GA.aload_n dX12_putsScalar_38 rfl ?_
      refine GA.iload_n dX12_putsScalar_39 rfl ?_
      refine GA.aload_n dX12_putsScalar_40 rfl ?_
      refine GA.get xf_X12_7 dX12_putsScalar_41 (gs_500 hL) (by decide) rfl ?_
      refine GA.iload dX12_putsScalar_44 rfl ?_
      refine GA.bipush dX12_putsScalar_46 rfl ?_
      obtain ⟨x34, hx35, H⟩ := gv_e H
      refine GV.iadd hx35 dX12_putsScalar_48 ?_
      obtain ⟨hg36, H⟩ := gg_e H
      obtain ⟨x37, hx38, H⟩ := gv_e H
      refine GV.iald hg36 hx38 dX12_putsScalar_49 (gs_501 hL) (by decide) ?_
      refine GA.iconst dX12_putsScalar_50 ?_
      obtain ⟨hg39, H⟩ := gg_e H
      refine GV.icmp_ne (tgt := 60) hg39 (by decide) dX12_putsScalar_51 (by decide) (fun c40 => ?_) (fun c40 => ?_)
      · have H := it_t H c40
        refine GV.ldc2 (z := 7377296907481120768) (by decide) xc_X12_503 dX12_putsScalar_60 ?_
        obtain ⟨x41, S_42, hc43, H⟩ := gc_e H
        refine GA.callV (m_X12_putsLetters hL hc43) xs_X12_557 dX12_putsScalar_63 (gs_500 hL) (by decide) rfl rfl (by omega) (by decide) rfl (Nat.le_of_ble_eq_true rfl) (by omega) (by omega) rfl (fun E S9 hx => hx.elim) (fun v S9 hq => ?_)
        obtain ⟨rfl, rfl⟩ := hq
        refine GA.goto (tgt := 240) dX12_putsScalar_66 (by decide) ?_
        cases H
        exact GA.vret rfl dX12_putsScalar_240 (by omega) (by omega) ⟨rfl, rfl⟩
      · have H := it_f H c40
        refine GV.ldc2 (z := 8390898132396802048) (by decide) xc_X12_501 dX12_putsScalar_54 ?_
        refine GA.goto (tgt := 63) dX12_putsScalar_57 (by decide) ?_
        obtain ⟨x44, S_45, hc46, H⟩ := gc_e H
        refine GA.callV (m_X12_putsLetters hL hc46) xs_X12_557 dX12_putsScalar_63 (gs_500 hL) (by decide) rfl rfl (by omega) (by decide) rfl (Nat.le_of_ble_eq_true rfl) (by omega) (by omega) rfl (fun E S9 hx => hx.elim) (fun v S9 hq => ?_)
        obtain ⟨rfl, rfl⟩ := hq
        refine GA.goto (tgt := 240) dX12_putsScalar_66 (by decide) ?_
        cases H
        exact GA.vret rfl dX12_putsScalar_240 (by omega) (by omega) ⟨rfl, rfl⟩
  · have H := it_f H c9
    refine GA.aload_n dX12_putsScalar_21 rfl ?_
    refine GA.iload_n dX12_putsScalar_22 rfl ?_
    refine GV.ldc2 (z := 7959387127559487488) (by decide) xc_X12_495 dX12_putsScalar_23 ?_
    obtain ⟨x47, S_48, hc49, H⟩ := gc_e H
    refine GA.callV (m_X12_putsLetters hL hc49) xs_X12_557 dX12_putsScalar_26 (gs_500 hL) (by decide) rfl rfl (by omega) (by decide) rfl (Nat.le_of_ble_eq_true rfl) (by omega) (by omega) rfl (fun E S9 hx => hx.elim) (fun v S9 hq => ?_)
    obtain ⟨rfl, rfl⟩ := hq
    refine GA.goto (tgt := 240) dX12_putsScalar_29 (by decide) ?_
    cases H
    exact GA.vret rfl dX12_putsScalar_240 (by omega) (by omega) ⟨rfl, rfl⟩
set_option maxHeartbeats 4000000 in
set_option maxRecDepth 20000 in
theorem t_X12_putsScalar_127 {l : Launch} {Z : XZ} {L : Nat → Nat} (n : Nat) (ih_X12_putsScalar_0 : P_X12_putsScalar_0 l Z L n) (ih_X12_putsScalar_127 : P_X12_putsScalar_127 l Z L n) (ih_X12_putsScalar_219 : P_X12_putsScalar_219 l Z L n) : P_X12_putsScalar_127 l Z L (n + 1) := by
  intro hL d S a1 a4 a6 x S1 H
  have H : b_X12_putsScalar_127 n d (f_X12_putsScalar n) S a1 a4 a6 = some (x, S1) := H
  unfold b_X12_putsScalar_127 at H
  refine GA.iload dX12_putsScalar_127 rfl ?_
  refine GA.aload_n dX12_putsScalar_129 rfl ?_
  refine GA.get xf_X12_7 dX12_putsScalar_130 (gs_500 hL) (by decide) rfl ?_
  refine GA.iload dX12_putsScalar_133 rfl ?_
  refine GA.bipush dX12_putsScalar_135 rfl ?_
  obtain ⟨x1, hx2, H⟩ := gv_e H
  refine GV.iadd hx2 dX12_putsScalar_137 ?_
  obtain ⟨hg3, H⟩ := gg_e H
  obtain ⟨x4, hx5, H⟩ := gv_e H
  refine GV.iald hg3 hx5 dX12_putsScalar_138 (gs_501 hL) (by decide) ?_
  obtain ⟨hg6, H⟩ := gg_e H
  obtain ⟨hg7, H⟩ := gg_e H
  refine GV.icmp_ge (tgt := 166) hg6 hg7 dX12_putsScalar_139 (by decide) (fun c8 => ?_) (fun c8 => ?_)
  · have H := it_t H c8
    refine GA.aload_n dX12_putsScalar_166 rfl ?_
    refine GA.get xf_X12_7 dX12_putsScalar_167 (gs_500 hL) (by decide) rfl ?_
    refine GA.iload dX12_putsScalar_170 rfl ?_
    refine GA.bipush dX12_putsScalar_172 rfl ?_
    obtain ⟨x9, hx10, H⟩ := gv_e H
    refine GV.iadd hx10 dX12_putsScalar_174 ?_
    obtain ⟨hg11, H⟩ := gg_e H
    obtain ⟨x12, hx13, H⟩ := gv_e H
    refine GV.iald hg11 hx13 dX12_putsScalar_175 (gs_501 hL) (by decide) ?_
    obtain ⟨hg14, H⟩ := gg_e H
    refine GV.if_eq (tgt := 240) hg14 dX12_putsScalar_176 (by decide) (fun c15 => ?_) (fun c15 => ?_)
    · have H := it_t H c15
      cases H
      exact GA.vret rfl dX12_putsScalar_240 (by omega) (by omega) ⟨rfl, rfl⟩
    · have H := it_f H c15
      refine GA.aload_n dX12_putsScalar_179 rfl ?_
      refine GA.iload_n dX12_putsScalar_180 rfl ?_
      refine GA.bipush dX12_putsScalar_181 rfl ?_
      obtain ⟨hg16, H⟩ := gg_e H
      obtain ⟨x17, S_18, hc19, H⟩ := gc_e H
      refine GA.callV (m_X12_puts hL hc19) xs_X12_551 dX12_putsScalar_183 (gs_500 hL) (by decide) rfl rfl (by omega) (by decide) rfl (Nat.le_of_ble_eq_true rfl) (by omega) (by omega) rfl (fun E S9 hx => hx.elim) (fun v S9 hq => ?_)
      obtain ⟨rfl, rfl⟩ := hq
      refine GA.aload_n dX12_putsScalar_186 rfl ?_
      refine GA.iload_n dX12_putsScalar_187 rfl ?_
      refine GA.aload_n dX12_putsScalar_188 rfl ?_
      refine GA.get xf_X12_7 dX12_putsScalar_189 (gs_500 hL) (by decide) rfl ?_
      refine GA.iload dX12_putsScalar_192 rfl ?_
      refine GA.bipush dX12_putsScalar_194 rfl ?_
      obtain ⟨x20, hx21, H⟩ := gv_e H
      refine GV.iadd hx21 dX12_putsScalar_196 ?_
      obtain ⟨hg22, H⟩ := gg_e H
      obtain ⟨x23, hx24, H⟩ := gv_e H
      refine GV.iald hg22 hx24 dX12_putsScalar_197 (gs_501 hL) (by decide) ?_
      obtain ⟨x25, S_26, hc27, H⟩ := gc_e H
      refine GA.callV (m_X12_putsInt hL hc27) xs_X12_565 dX12_putsScalar_198 (gs_500 hL) (by decide) rfl rfl (by omega) (by decide) rfl (Nat.le_of_ble_eq_true rfl) (by omega) (by omega) rfl (fun E S9 hx => hx.elim) (fun v S9 hq => ?_)
      obtain ⟨rfl, rfl⟩ := hq
      refine GA.goto (tgt := 240) dX12_putsScalar_201 (by decide) ?_
      cases H
      exact GA.vret rfl dX12_putsScalar_240 (by omega) (by omega) ⟨rfl, rfl⟩
  · have H := it_f H c8
    refine GA.aload_n dX12_putsScalar_142 rfl ?_
    refine GA.iload_n dX12_putsScalar_143 rfl ?_
    refine GA.aload_n dX12_putsScalar_144 rfl ?_
    refine GA.get xf_X12_7 dX12_putsScalar_145 (gs_500 hL) (by decide) rfl ?_
    refine GA.iload dX12_putsScalar_148 rfl ?_
    refine GA.bipush dX12_putsScalar_150 rfl ?_
    obtain ⟨x28, hx29, H⟩ := gv_e H
    refine GV.iadd hx29 dX12_putsScalar_152 ?_
    refine GA.iload dX12_putsScalar_153 rfl ?_
    obtain ⟨x30, hx31, H⟩ := gv_e H
    refine GV.iadd hx31 dX12_putsScalar_155 ?_
    obtain ⟨hg32, H⟩ := gg_e H
    obtain ⟨x33, hx34, H⟩ := gv_e H
    refine GV.iald hg32 hx34 dX12_putsScalar_156 (gs_501 hL) (by decide) ?_
    obtain ⟨hg35, H⟩ := gg_e H
    obtain ⟨x36, S_37, hc38, H⟩ := gc_e H
    refine GA.callV (m_X12_puts hL hc38) xs_X12_551 dX12_putsScalar_157 (gs_500 hL) (by decide) rfl rfl (by omega) (by decide) rfl (Nat.le_of_ble_eq_true rfl) (by omega) (by omega) rfl (fun E S9 hx => hx.elim) (fun v S9 hq => ?_)
    obtain ⟨rfl, rfl⟩ := hq
    obtain ⟨x39, hx40, H⟩ := gv_e H
    refine GV.iinc hx40 dX12_putsScalar_160 rfl (by decide) ?_
    refine GA.goto (tgt := 127) dX12_putsScalar_163 (by decide) ?_
    refine GA.locals [(0, .ref (L 500)), (1, .int (J a1)), (4, .int (J a4)), (6, .int (J x39))] ⟨rfl, rfl, rfl, rfl, trivial⟩ ?_
    exact ih_X12_putsScalar_127 hL _ _ (a1) (a4) (x39) _ _ H
set_option maxHeartbeats 4000000 in
set_option maxRecDepth 20000 in
theorem t_X12_putsScalar_219 {l : Launch} {Z : XZ} {L : Nat → Nat} (n : Nat) (ih_X12_putsScalar_0 : P_X12_putsScalar_0 l Z L n) (ih_X12_putsScalar_127 : P_X12_putsScalar_127 l Z L n) (ih_X12_putsScalar_219 : P_X12_putsScalar_219 l Z L n) : P_X12_putsScalar_219 l Z L (n + 1) := by
  intro hL d S a1 a5 s0 s1 x S1 H
  have H : b_X12_putsScalar_219 n d (f_X12_putsScalar n) S a1 a5 s0 s1 = some (x, S1) := H
  unfold b_X12_putsScalar_219 at H
  obtain ⟨hg1, H⟩ := gg_e H
  obtain ⟨x2, S_3, hc4, H⟩ := gc_e H
  refine GA.callV (m_X12_puts hL hc4) xs_X12_551 dX12_putsScalar_219 (gs_500 hL) (by decide) rfl rfl (by omega) (by decide) rfl (Nat.le_of_ble_eq_true rfl) (by omega) (by omega) rfl (fun E S9 hx => hx.elim) (fun v S9 hq => ?_)
  obtain ⟨rfl, rfl⟩ := hq
  refine GA.aload_n dX12_putsScalar_222 rfl ?_
  refine GA.iload_n dX12_putsScalar_223 rfl ?_
  refine GA.iload dX12_putsScalar_224 rfl ?_
  refine GA.iconst dX12_putsScalar_226 ?_
  obtain ⟨hg5, H⟩ := gg_e H
  refine GV.icmp_ne (tgt := 235) hg5 (by decide) dX12_putsScalar_227 (by decide) (fun c6 => ?_) (fun c6 => ?_)
  · have H := it_t H c6
    refine GA.bipush dX12_putsScalar_235 rfl ?_
    obtain ⟨x7, S_8, hc9, H⟩ := gc_e H
    refine GA.callV (m_X12_puts hL hc9) xs_X12_551 dX12_putsScalar_237 (gs_500 hL) (by decide) rfl rfl (by omega) (by decide) rfl (Nat.le_of_ble_eq_true rfl) (by omega) (by omega) rfl (fun E S9 hx => hx.elim) (fun v S9 hq => ?_)
    obtain ⟨rfl, rfl⟩ := hq
    cases H
    exact GA.vret rfl dX12_putsScalar_240 (by omega) (by omega) ⟨rfl, rfl⟩
  · have H := it_f H c6
    refine GA.bipush dX12_putsScalar_230 rfl ?_
    refine GA.goto (tgt := 237) dX12_putsScalar_232 (by decide) ?_
    obtain ⟨x10, S_11, hc12, H⟩ := gc_e H
    refine GA.callV (m_X12_puts hL hc12) xs_X12_551 dX12_putsScalar_237 (gs_500 hL) (by decide) rfl rfl (by omega) (by decide) rfl (Nat.le_of_ble_eq_true rfl) (by omega) (by omega) rfl (fun E S9 hx => hx.elim) (fun v S9 hq => ?_)
    obtain ⟨rfl, rfl⟩ := hq
    cases H
    exact GA.vret rfl dX12_putsScalar_240 (by omega) (by omega) ⟨rfl, rfl⟩
theorem g_X12_putsScalar {l : Launch} {Z : XZ} {L : Nat → Nat} : ∀ n, P_X12_putsScalar_0 l Z L n ∧ P_X12_putsScalar_127 l Z L n ∧ P_X12_putsScalar_219 l Z L n
  | 0 => ⟨fun _ _ _ _ _ _ _ _ H => no_e H, fun _ _ _ _ _ _ _ _ H => no_e H, fun _ _ _ _ _ _ _ _ _ H => no_e H⟩
  | n + 1 => have ⟨h0, h1, h2⟩ := g_X12_putsScalar (l := l) (Z := Z) (L := L) n
    ⟨t_X12_putsScalar_0 n h0 h1 h2, t_X12_putsScalar_127 n h0 h1 h2, t_X12_putsScalar_219 n h0 h1 h2⟩
theorem m_X12_putsScalar {l : Launch} {Z : XZ} {L : Nat → Nat} (hL : L 700 = 1) {n d : Nat} {S : GS} {a1 : Int} {a2 : Int} {a3 : Int} {x : Int} {S1 : GS} (H : f_X12_putsScalar n d 0 S [a1, a2, a3] = some (x, S1)) : GM l Z L yX12_putsScalar cX12_putsScalar 7 none [] d 0 0 [.ref (L 500), .int (J a1), .int (J a2), .int (J a3)] S (fun v S' => v = none ∧ S1 = S') (fun _ _ => False) := GM.of (by decide) (Nat.le_of_ble_eq_true rfl) ((g_X12_putsScalar n).1 hL _ _ _ _ _ _ _ H)

def P_X12_isLater_0 (l : Launch) (Z : XZ) (L : Nat → Nat) (n : Nat) : Prop := ∀ (hL : L 700 = 1), ∀ (d : Nat) (S : GS) (a1 : Int) (a2 : Int) (a3 : Int) (x : Int) (S1 : GS), f_X12_isLater n d 0 S [a1, a2, a3] = some (x, S1) → GA l Z L yX12_isLater cX12_isLater 5 (some .boolean) [] d 0 0 (fun v S' => v = some (.int (J x)) ∧ S1 = S') (fun _ _ => False) 0 (gl [(0, .ref (L 500)), (1, .int (J a1)), (2, .int (J a2)), (3, .int (J a3))]) [] S 0 0
def P_X12_isLater_5 (l : Launch) (Z : XZ) (L : Nat → Nat) (n : Nat) : Prop := ∀ (hL : L 700 = 1), ∀ (d : Nat) (S : GS) (a1 : Int) (a3 : Int) (a4 : Int) (x : Int) (S1 : GS), f_X12_isLater n d 5 S [a1, a3, a4] = some (x, S1) → GA l Z L yX12_isLater cX12_isLater 5 (some .boolean) [] d 0 0 (fun v S' => v = some (.int (J x)) ∧ S1 = S') (fun _ _ => False) 5 (gl [(0, .ref (L 500)), (1, .int (J a1)), (3, .int (J a3)), (4, .int (J a4))]) [] S 0 0
theorem i_X12_isLater {l : Launch} {Z : XZ} {L : Nat → Nat} (hL : L 700 = 1) {n : Nat} (ih : P_X12_isLater_0 l Z L n) {d : Nat} {S : GS} {a1 : Int} {a2 : Int} {a3 : Int} {x : Int} {S1 : GS} (H : f_X12_isLater n d 0 S [a1, a2, a3] = some (x, S1)) : GM l Z L yX12_isLater cX12_isLater 5 (some .boolean) [] d 0 0 [.ref (L 500), .int (J a1), .int (J a2), .int (J a3)] S (fun v S' => v = some (.int (J x)) ∧ S1 = S') (fun _ _ => False) := GM.of (by decide) (Nat.le_of_ble_eq_true rfl) (ih hL _ _ _ _ _ _ _ H)
set_option maxHeartbeats 4000000 in
set_option maxRecDepth 20000 in
theorem t_X12_isLater_0 {l : Launch} {Z : XZ} {L : Nat → Nat} (n : Nat) (ih_X12_isLater_0 : P_X12_isLater_0 l Z L n) (ih_X12_isLater_5 : P_X12_isLater_5 l Z L n) : P_X12_isLater_0 l Z L (n + 1) := by
  intro hL d S a1 a2 a3 x S1 H
  have H : b_X12_isLater_0 n d (f_X12_isLater n) S a1 a2 a3 = some (x, S1) := H
  unfold b_X12_isLater_0 at H
  refine GA.iload_n dX12_isLater_0 rfl ?_
  refine GA.iconst dX12_isLater_1 ?_
  obtain ⟨x1, hx2, H⟩ := gv_e H
  refine GV.iadd hx2 dX12_isLater_2 ?_
  refine GA.istore dX12_isLater_3 (by decide) ?_
  refine GA.locals [(0, .ref (L 500)), (1, .int (J a1)), (3, .int (J a3)), (4, .int (J x1))] ⟨rfl, rfl, rfl, rfl, trivial⟩ ?_
  exact ih_X12_isLater_5 hL _ _ (a1) (a3) (x1) _ _ H
set_option maxHeartbeats 4000000 in
set_option maxRecDepth 20000 in
theorem t_X12_isLater_5 {l : Launch} {Z : XZ} {L : Nat → Nat} (n : Nat) (ih_X12_isLater_0 : P_X12_isLater_0 l Z L n) (ih_X12_isLater_5 : P_X12_isLater_5 l Z L n) : P_X12_isLater_5 l Z L (n + 1) := by
  intro hL d S a1 a3 a4 x S1 H
  have H : b_X12_isLater_5 n d (f_X12_isLater n) S a1 a3 a4 = some (x, S1) := H
  unfold b_X12_isLater_5 at H
  refine GA.iload dX12_isLater_5 rfl ?_
  refine GA.iload_n dX12_isLater_7 rfl ?_
  obtain ⟨hg1, H⟩ := gg_e H
  obtain ⟨hg2, H⟩ := gg_e H
  refine GV.icmp_ge (tgt := 37) hg1 hg2 dX12_isLater_8 (by decide) (fun c3 => ?_) (fun c3 => ?_)
  · have H := it_t H c3
    refine GA.iconst dX12_isLater_37 ?_
    cases H
    exact GV.zret (by decide) rfl dX12_isLater_38 (by omega) (by omega) ⟨rfl, rfl⟩
  · have H := it_f H c3
    refine GA.aload_n dX12_isLater_11 rfl ?_
    refine GA.iload_n dX12_isLater_12 rfl ?_
    refine GA.iload dX12_isLater_13 rfl ?_
    refine GA.iload_n dX12_isLater_15 rfl ?_
    refine GA.iload_n dX12_isLater_16 rfl ?_
    obtain ⟨hg4, H⟩ := gg_e H
    obtain ⟨x5, S_6, hc7, H⟩ := gc_e H
    refine GA.callV (m_X12_byKeys hL hc7) xs_X12_62 dX12_isLater_17 (gs_500 hL) (by decide) rfl rfl (by omega) (by decide) rfl (Nat.le_of_ble_eq_true rfl) (by omega) (by omega) rfl (fun E S9 hx => hx.elim) (fun v S9 hq => ?_)
    obtain ⟨rfl, rfl⟩ := hq
    obtain ⟨hg8, H⟩ := gg_e H
    refine GV.if_ne (tgt := 25) hg8 dX12_isLater_20 (by decide) (fun c9 => ?_) (fun c9 => ?_)
    · have H := it_t H c9
      refine GA.aload_n dX12_isLater_25 rfl ?_
      refine GA.iload_n dX12_isLater_26 rfl ?_
      refine GA.iload dX12_isLater_27 rfl ?_
      obtain ⟨x10, S_11, hc12, H⟩ := gc_e H
      refine GA.callV (m_X12_endOf hL hc12) xs_X12_49 dX12_isLater_29 (gs_500 hL) (by decide) rfl rfl (by omega) (by decide) rfl (Nat.le_of_ble_eq_true rfl) (by omega) (by omega) rfl (fun E S9 hx => hx.elim) (fun v S9 hq => ?_)
      obtain ⟨rfl, rfl⟩ := hq
      refine GA.istore dX12_isLater_32 (by decide) ?_
      refine GA.goto (tgt := 5) dX12_isLater_34 (by decide) ?_
      refine GA.locals [(0, .ref (L 500)), (1, .int (J a1)), (3, .int (J a3)), (4, .int (J x10))] ⟨rfl, rfl, rfl, rfl, trivial⟩ ?_
      exact ih_X12_isLater_5 hL _ _ (a1) (a3) (x10) _ _ H
    · have H := it_f H c9
      refine GA.iconst dX12_isLater_23 ?_
      cases H
      exact GV.zret (by decide) rfl dX12_isLater_24 (by omega) (by omega) ⟨rfl, rfl⟩
theorem g_X12_isLater {l : Launch} {Z : XZ} {L : Nat → Nat} : ∀ n, P_X12_isLater_0 l Z L n ∧ P_X12_isLater_5 l Z L n
  | 0 => ⟨fun _ _ _ _ _ _ _ _ H => no_e H, fun _ _ _ _ _ _ _ _ H => no_e H⟩
  | n + 1 => have ⟨h0, h1⟩ := g_X12_isLater (l := l) (Z := Z) (L := L) n
    ⟨t_X12_isLater_0 n h0 h1, t_X12_isLater_5 n h0 h1⟩
theorem m_X12_isLater {l : Launch} {Z : XZ} {L : Nat → Nat} (hL : L 700 = 1) {n d : Nat} {S : GS} {a1 : Int} {a2 : Int} {a3 : Int} {x : Int} {S1 : GS} (H : f_X12_isLater n d 0 S [a1, a2, a3] = some (x, S1)) : GM l Z L yX12_isLater cX12_isLater 5 (some .boolean) [] d 0 0 [.ref (L 500), .int (J a1), .int (J a2), .int (J a3)] S (fun v S' => v = some (.int (J x)) ∧ S1 = S') (fun _ _ => False) := GM.of (by decide) (Nat.le_of_ble_eq_true rfl) ((g_X12_isLater n).1 hL _ _ _ _ _ _ _ H)

def P_X12_nextChild_0 (l : Launch) (Z : XZ) (L : Nat → Nat) (n : Nat) : Prop := ∀ (hL : L 700 = 1), ∀ (d : Nat) (S : GS) (a1 : Int) (a2 : Int) (a3 : Int) (a4 : Int) (x : Int) (S1 : GS), f_X12_nextChild n d 0 S [a1, a2, a3, a4] = some (x, S1) → GA l Z L yX12_nextChild cX12_nextChild 9 (some .int) [] d 0 0 (fun v S' => v = some (.int (J x)) ∧ S1 = S') (fun _ _ => False) 0 (gl [(0, .ref (L 500)), (1, .int (J a1)), (2, .int (J a2)), (3, .int (J a3)), (4, .int (J a4))]) [] S 0 0
def P_X12_nextChild_17 (l : Launch) (Z : XZ) (L : Nat → Nat) (n : Nat) : Prop := ∀ (hL : L 700 = 1), ∀ (d : Nat) (S : GS) (a1 : Int) (a2 : Int) (a3 : Int) (a4 : Int) (s0 : Int) (x : Int) (S1 : GS), f_X12_nextChild n d 17 S [a1, a2, a3, a4, s0] = some (x, S1) → GA l Z L yX12_nextChild cX12_nextChild 9 (some .int) [] d 0 0 (fun v S' => v = some (.int (J x)) ∧ S1 = S') (fun _ _ => False) 17 (gl [(0, .ref (L 500)), (1, .int (J a1)), (2, .int (J a2)), (3, .int (J a3)), (4, .int (J a4))]) [.int (J s0)] S 0 0
def P_X12_nextChild_34 (l : Launch) (Z : XZ) (L : Nat → Nat) (n : Nat) : Prop := ∀ (hL : L 700 = 1), ∀ (d : Nat) (S : GS) (a1 : Int) (a2 : Int) (a5 : Int) (x : Int) (S1 : GS), f_X12_nextChild n d 34 S [a1, a2, a5] = some (x, S1) → GA l Z L yX12_nextChild cX12_nextChild 9 (some .int) [] d 0 0 (fun v S' => v = some (.int (J x)) ∧ S1 = S') (fun _ _ => False) 34 (gl [(0, .ref (L 500)), (1, .int (J a1)), (2, .int (J a2)), (5, .int (J a5))]) [] S 0 0
def P_X12_nextChild_69 (l : Launch) (Z : XZ) (L : Nat → Nat) (n : Nat) : Prop := ∀ (hL : L 700 = 1), ∀ (d : Nat) (S : GS) (a1 : Int) (a2 : Int) (a3 : Int) (a5 : Int) (a6 : Int) (a7 : Int) (x : Int) (S1 : GS), f_X12_nextChild n d 69 S [a1, a2, a3, a5, a6, a7] = some (x, S1) → GA l Z L yX12_nextChild cX12_nextChild 9 (some .int) [] d 0 0 (fun v S' => v = some (.int (J x)) ∧ S1 = S') (fun _ _ => False) 69 (gl [(0, .ref (L 500)), (1, .int (J a1)), (2, .int (J a2)), (3, .int (J a3)), (5, .int (J a5)), (6, .int (J a6)), (7, .int (J a7))]) [] S 0 0
def P_X12_nextChild_103 (l : Launch) (Z : XZ) (L : Nat → Nat) (n : Nat) : Prop := ∀ (hL : L 700 = 1), ∀ (d : Nat) (S : GS) (a1 : Int) (a2 : Int) (a3 : Int) (a5 : Int) (a6 : Int) (a7 : Int) (s0 : Int) (x : Int) (S1 : GS), f_X12_nextChild n d 103 S [a1, a2, a3, a5, a6, a7, s0] = some (x, S1) → GA l Z L yX12_nextChild cX12_nextChild 9 (some .int) [] d 0 0 (fun v S' => v = some (.int (J x)) ∧ S1 = S') (fun _ _ => False) 103 (gl [(0, .ref (L 500)), (1, .int (J a1)), (2, .int (J a2)), (3, .int (J a3)), (5, .int (J a5)), (6, .int (J a6)), (7, .int (J a7))]) [.int (J s0)] S 0 0
def P_X12_nextChild_136 (l : Launch) (Z : XZ) (L : Nat → Nat) (n : Nat) : Prop := ∀ (hL : L 700 = 1), ∀ (d : Nat) (S : GS) (a1 : Int) (a2 : Int) (a3 : Int) (a5 : Int) (a7 : Int) (s0 : Int) (x : Int) (S1 : GS), f_X12_nextChild n d 136 S [a1, a2, a3, a5, a7, s0] = some (x, S1) → GA l Z L yX12_nextChild cX12_nextChild 9 (some .int) [] d 0 0 (fun v S' => v = some (.int (J x)) ∧ S1 = S') (fun _ _ => False) 136 (gl [(0, .ref (L 500)), (1, .int (J a1)), (2, .int (J a2)), (3, .int (J a3)), (5, .int (J a5)), (7, .int (J a7))]) [.int (J s0)] S 0 0
def P_X12_nextChild_156 (l : Launch) (Z : XZ) (L : Nat → Nat) (n : Nat) : Prop := ∀ (hL : L 700 = 1), ∀ (d : Nat) (S : GS) (a1 : Int) (a2 : Int) (a5 : Int) (x : Int) (S1 : GS), f_X12_nextChild n d 156 S [a1, a2, a5] = some (x, S1) → GA l Z L yX12_nextChild cX12_nextChild 9 (some .int) [] d 0 0 (fun v S' => v = some (.int (J x)) ∧ S1 = S') (fun _ _ => False) 156 (gl [(0, .ref (L 500)), (1, .int (J a1)), (2, .int (J a2)), (5, .int (J a5))]) [] S 0 0
def P_X12_nextChild_190 (l : Launch) (Z : XZ) (L : Nat → Nat) (n : Nat) : Prop := ∀ (hL : L 700 = 1), ∀ (d : Nat) (S : GS) (a1 : Int) (a2 : Int) (a5 : Int) (x : Int) (S1 : GS), f_X12_nextChild n d 190 S [a1, a2, a5] = some (x, S1) → GA l Z L yX12_nextChild cX12_nextChild 9 (some .int) [] d 0 0 (fun v S' => v = some (.int (J x)) ∧ S1 = S') (fun _ _ => False) 190 (gl [(0, .ref (L 500)), (1, .int (J a1)), (2, .int (J a2)), (5, .int (J a5))]) [] S 0 0
theorem i_X12_nextChild {l : Launch} {Z : XZ} {L : Nat → Nat} (hL : L 700 = 1) {n : Nat} (ih : P_X12_nextChild_0 l Z L n) {d : Nat} {S : GS} {a1 : Int} {a2 : Int} {a3 : Int} {a4 : Int} {x : Int} {S1 : GS} (H : f_X12_nextChild n d 0 S [a1, a2, a3, a4] = some (x, S1)) : GM l Z L yX12_nextChild cX12_nextChild 9 (some .int) [] d 0 0 [.ref (L 500), .int (J a1), .int (J a2), .int (J a3), .int (J a4)] S (fun v S' => v = some (.int (J x)) ∧ S1 = S') (fun _ _ => False) := GM.of (by decide) (Nat.le_of_ble_eq_true rfl) (ih hL _ _ _ _ _ _ _ _ H)
set_option maxHeartbeats 4000000 in
set_option maxRecDepth 20000 in
theorem t_X12_nextChild_0 {l : Launch} {Z : XZ} {L : Nat → Nat} (n : Nat) (ih_X12_nextChild_0 : P_X12_nextChild_0 l Z L n) (ih_X12_nextChild_17 : P_X12_nextChild_17 l Z L n) (ih_X12_nextChild_34 : P_X12_nextChild_34 l Z L n) (ih_X12_nextChild_69 : P_X12_nextChild_69 l Z L n) (ih_X12_nextChild_103 : P_X12_nextChild_103 l Z L n) (ih_X12_nextChild_136 : P_X12_nextChild_136 l Z L n) (ih_X12_nextChild_156 : P_X12_nextChild_156 l Z L n) (ih_X12_nextChild_190 : P_X12_nextChild_190 l Z L n) : P_X12_nextChild_0 l Z L (n + 1) := by
  intro hL d S a1 a2 a3 a4 x S1 H
  have H : b_X12_nextChild_0 n d (f_X12_nextChild n) S a1 a2 a3 a4 = some (x, S1) := H
  unfold b_X12_nextChild_0 at H
  refine GA.iload_n dX12_nextChild_0 rfl ?_
  refine GA.iconst dX12_nextChild_1 ?_
  obtain ⟨hg1, H⟩ := gg_e H
  refine GV.icmp_ne (tgt := 11) hg1 (by decide) dX12_nextChild_2 (by decide) (fun c2 => ?_) (fun c2 => ?_)
  · have H := it_t H c2
    refine GA.aload_n dX12_nextChild_11 rfl ?_
    refine GA.iload_n dX12_nextChild_12 rfl ?_
    refine GA.iload_n dX12_nextChild_13 rfl ?_
    obtain ⟨hg3, H⟩ := gg_e H
    obtain ⟨x4, S_5, hc6, H⟩ := gc_e H
    refine GA.callV (m_X12_endOf hL hc6) xs_X12_49 dX12_nextChild_14 (gs_500 hL) (by decide) rfl rfl (by omega) (by decide) rfl (Nat.le_of_ble_eq_true rfl) (by omega) (by omega) rfl (fun E S9 hx => hx.elim) (fun v S9 hq => ?_)
    obtain ⟨rfl, rfl⟩ := hq
    refine GA.locals [(0, .ref (L 500)), (1, .int (J a1)), (2, .int (J a2)), (3, .int (J a3)), (4, .int (J a4))] ⟨rfl, rfl, rfl, rfl, rfl, trivial⟩ ?_
    exact ih_X12_nextChild_17 hL _ _ (a1) (a2) (a3) (a4) (x4) _ _ H
  · have H := it_f H c2
    refine GA.iload_n dX12_nextChild_5 rfl ?_
    refine GA.iconst dX12_nextChild_6 ?_
    obtain ⟨x7, hx8, H⟩ := gv_e H
    refine GV.iadd hx8 dX12_nextChild_7 ?_
    refine GA.goto (tgt := 17) dX12_nextChild_8 (by decide) ?_
    refine GA.locals [(0, .ref (L 500)), (1, .int (J a1)), (2, .int (J a2)), (3, .int (J a3)), (4, .int (J a4))] ⟨rfl, rfl, rfl, rfl, rfl, trivial⟩ ?_
    exact ih_X12_nextChild_17 hL _ _ (a1) (a2) (a3) (a4) (x7) _ _ H
set_option maxHeartbeats 4000000 in
set_option maxRecDepth 20000 in
theorem t_X12_nextChild_17 {l : Launch} {Z : XZ} {L : Nat → Nat} (n : Nat) (ih_X12_nextChild_0 : P_X12_nextChild_0 l Z L n) (ih_X12_nextChild_17 : P_X12_nextChild_17 l Z L n) (ih_X12_nextChild_34 : P_X12_nextChild_34 l Z L n) (ih_X12_nextChild_69 : P_X12_nextChild_69 l Z L n) (ih_X12_nextChild_103 : P_X12_nextChild_103 l Z L n) (ih_X12_nextChild_136 : P_X12_nextChild_136 l Z L n) (ih_X12_nextChild_156 : P_X12_nextChild_156 l Z L n) (ih_X12_nextChild_190 : P_X12_nextChild_190 l Z L n) : P_X12_nextChild_17 l Z L (n + 1) := by
  intro hL d S a1 a2 a3 a4 s0 x S1 H
  have H : b_X12_nextChild_17 n d (f_X12_nextChild n) S a1 a2 a3 a4 s0 = some (x, S1) := H
  unfold b_X12_nextChild_17 at H
  refine GA.istore dX12_nextChild_17 (by decide) ?_
  refine GA.iload dX12_nextChild_19 rfl ?_
  obtain ⟨hg1, H⟩ := gg_e H
  refine GV.if_eq (tgt := 34) hg1 dX12_nextChild_21 (by decide) (fun c2 => ?_) (fun c2 => ?_)
  · have H := it_t H c2
    refine GA.locals [(0, .ref (L 500)), (1, .int (J a1)), (2, .int (J a2)), (5, .int (J s0))] ⟨rfl, rfl, rfl, rfl, trivial⟩ ?_
    exact ih_X12_nextChild_34 hL _ _ (a1) (a2) (s0) _ _ H
  · have H := it_f H c2
    refine GA.aload_n dX12_nextChild_24 rfl ?_
    refine GA.iload_n dX12_nextChild_25 rfl ?_
    refine GA.iload_n dX12_nextChild_26 rfl ?_
    obtain ⟨hg3, H⟩ := gg_e H
    obtain ⟨x4, S_5, hc6, H⟩ := gc_e H
    refine GA.callV (m_X12_kind hL hc6) xs_X12_52 dX12_nextChild_27 (gs_500 hL) (by decide) rfl rfl (by omega) (by decide) rfl (Nat.le_of_ble_eq_true rfl) (by omega) (by omega) rfl (fun E S9 hx => hx.elim) (fun v S9 hq => ?_)
    obtain ⟨rfl, rfl⟩ := hq
    refine GA.iconst dX12_nextChild_30 ?_
    obtain ⟨hg7, H⟩ := gg_e H
    refine GV.icmp_ne (tgt := 52) hg7 (by decide) dX12_nextChild_31 (by decide) (fun c8 => ?_) (fun c8 => ?_)
    · have H := it_t H c8
      refine GA.iload dX12_nextChild_52 rfl ?_
      refine GA.iconst dX12_nextChild_54 ?_
      refine GV.icmp_ne (tgt := 156) hg1 (by decide) dX12_nextChild_55 (by decide) (fun c9 => ?_) (fun c9 => ?_)
      · have H := it_t H c9
        refine GA.locals [(0, .ref (L 500)), (1, .int (J a1)), (2, .int (J a2)), (5, .int (J s0))] ⟨rfl, rfl, rfl, rfl, trivial⟩ ?_
        exact ih_X12_nextChild_156 hL _ _ (a1) (a2) (s0) _ _ H
      · have H := it_f H c9
        refine GA.iconst dX12_nextChild_58 ?_
        refine GA.istore dX12_nextChild_59 (by decide) ?_
        refine GA.iload_n dX12_nextChild_61 rfl ?_
        refine GA.iconst dX12_nextChild_62 ?_
        obtain ⟨x10, hx11, H⟩ := gv_e H
        refine GV.iadd hx11 dX12_nextChild_63 ?_
        refine GA.istore dX12_nextChild_64 (by decide) ?_
        refine GA.iconst dX12_nextChild_66 ?_
        refine GA.istore dX12_nextChild_67 (by decide) ?_
        refine GA.locals [(0, .ref (L 500)), (1, .int (J a1)), (2, .int (J a2)), (3, .int (J a3)), (5, .int (J x10)), (6, .int (J (-1))), (7, .int (J 0))] ⟨rfl, rfl, rfl, rfl, rfl, rfl, rfl, trivial⟩ ?_
        exact ih_X12_nextChild_69 hL _ _ (a1) (a2) (a3) (x10) ((-1)) (0) _ _ H
    · have H := it_f H c8
      refine GA.locals [(0, .ref (L 500)), (1, .int (J a1)), (2, .int (J a2)), (5, .int (J s0))] ⟨rfl, rfl, rfl, rfl, trivial⟩ ?_
      exact ih_X12_nextChild_34 hL _ _ (a1) (a2) (s0) _ _ H
set_option maxHeartbeats 4000000 in
set_option maxRecDepth 20000 in
theorem t_X12_nextChild_34 {l : Launch} {Z : XZ} {L : Nat → Nat} (n : Nat) (ih_X12_nextChild_0 : P_X12_nextChild_0 l Z L n) (ih_X12_nextChild_17 : P_X12_nextChild_17 l Z L n) (ih_X12_nextChild_34 : P_X12_nextChild_34 l Z L n) (ih_X12_nextChild_69 : P_X12_nextChild_69 l Z L n) (ih_X12_nextChild_103 : P_X12_nextChild_103 l Z L n) (ih_X12_nextChild_136 : P_X12_nextChild_136 l Z L n) (ih_X12_nextChild_156 : P_X12_nextChild_156 l Z L n) (ih_X12_nextChild_190 : P_X12_nextChild_190 l Z L n) : P_X12_nextChild_34 l Z L (n + 1) := by
  intro hL d S a1 a2 a5 x S1 H
  have H : b_X12_nextChild_34 n d (f_X12_nextChild n) S a1 a2 a5 = some (x, S1) := H
  unfold b_X12_nextChild_34 at H
  refine GA.iload dX12_nextChild_34 rfl ?_
  refine GA.aload_n dX12_nextChild_36 rfl ?_
  refine GA.iload_n dX12_nextChild_37 rfl ?_
  refine GA.iload_n dX12_nextChild_38 rfl ?_
  obtain ⟨hg1, H⟩ := gg_e H
  obtain ⟨x2, S_3, hc4, H⟩ := gc_e H
  refine GA.callV (m_X12_endOf hL hc4) xs_X12_49 dX12_nextChild_39 (gs_500 hL) (by decide) rfl rfl (by omega) (by decide) rfl (Nat.le_of_ble_eq_true rfl) (by omega) (by omega) rfl (fun E S9 hx => hx.elim) (fun v S9 hq => ?_)
  obtain ⟨rfl, rfl⟩ := hq
  obtain ⟨hg5, H⟩ := gg_e H
  obtain ⟨hg6, H⟩ := gg_e H
  refine GV.icmp_ge (tgt := 50) hg5 hg6 dX12_nextChild_42 (by decide) (fun c7 => ?_) (fun c7 => ?_)
  · have H := it_t H c7
    refine GA.iconst dX12_nextChild_50 ?_
    cases H
    exact GA.iret rfl dX12_nextChild_51 (by omega) (by omega) ⟨rfl, rfl⟩
  · have H := it_f H c7
    refine GA.iload dX12_nextChild_45 rfl ?_
    refine GA.goto (tgt := 51) dX12_nextChild_47 (by decide) ?_
    cases H
    exact GA.iret rfl dX12_nextChild_51 (by omega) (by omega) ⟨rfl, rfl⟩
set_option maxHeartbeats 4000000 in
set_option maxRecDepth 20000 in
theorem t_X12_nextChild_69 {l : Launch} {Z : XZ} {L : Nat → Nat} (n : Nat) (ih_X12_nextChild_0 : P_X12_nextChild_0 l Z L n) (ih_X12_nextChild_17 : P_X12_nextChild_17 l Z L n) (ih_X12_nextChild_34 : P_X12_nextChild_34 l Z L n) (ih_X12_nextChild_69 : P_X12_nextChild_69 l Z L n) (ih_X12_nextChild_103 : P_X12_nextChild_103 l Z L n) (ih_X12_nextChild_136 : P_X12_nextChild_136 l Z L n) (ih_X12_nextChild_156 : P_X12_nextChild_156 l Z L n) (ih_X12_nextChild_190 : P_X12_nextChild_190 l Z L n) : P_X12_nextChild_69 l Z L (n + 1) := by
  intro hL d S a1 a2 a3 a5 a6 a7 x S1 H
  have H : b_X12_nextChild_69 n d (f_X12_nextChild n) S a1 a2 a3 a5 a6 a7 = some (x, S1) := H
  unfold b_X12_nextChild_69 at H
  refine GA.iload dX12_nextChild_69 rfl ?_
  refine GA.aload_n dX12_nextChild_71 rfl ?_
  refine GA.iload_n dX12_nextChild_72 rfl ?_
  refine GA.iload_n dX12_nextChild_73 rfl ?_
  refine GA.iconst dX12_nextChild_74 ?_
  obtain ⟨hg1, H⟩ := gg_e H
  obtain ⟨x2, S_3, hc4, H⟩ := gc_e H
  refine GA.callV (m_X12_part hL hc4) xs_X12_36 dX12_nextChild_75 (gs_500 hL) (by decide) rfl rfl (by omega) (by decide) rfl (Nat.le_of_ble_eq_true rfl) (by omega) (by omega) rfl (fun E S9 hx => hx.elim) (fun v S9 hq => ?_)
  obtain ⟨rfl, rfl⟩ := hq
  obtain ⟨hg5, H⟩ := gg_e H
  obtain ⟨hg6, H⟩ := gg_e H
  refine GV.icmp_ge (tgt := 153) hg5 hg6 dX12_nextChild_78 (by decide) (fun c7 => ?_) (fun c7 => ?_)
  · have H := it_t H c7
    refine GA.iload dX12_nextChild_153 rfl ?_
    cases H
    exact GA.iret rfl dX12_nextChild_155 (by omega) (by omega) ⟨rfl, rfl⟩
  · have H := it_f H c7
    refine GA.iload_n dX12_nextChild_81 rfl ?_
    refine GA.iconst dX12_nextChild_82 ?_
    obtain ⟨hg8, H⟩ := gg_e H
    refine GV.icmp_eq (tgt := 98) hg8 (by decide) dX12_nextChild_83 (by decide) (fun c9 => ?_) (fun c9 => ?_)
    · have H := it_t H c9
      refine GA.iconst dX12_nextChild_98 ?_
      refine GA.goto (tgt := 103) dX12_nextChild_99 (by decide) ?_
      refine GA.locals [(0, .ref (L 500)), (1, .int (J a1)), (2, .int (J a2)), (3, .int (J a3)), (5, .int (J a5)), (6, .int (J a6)), (7, .int (J a7))] ⟨rfl, rfl, rfl, rfl, rfl, rfl, rfl, trivial⟩ ?_
      exact ih_X12_nextChild_103 hL _ _ (a1) (a2) (a3) (a5) (a6) (a7) (1) _ _ H
    · have H := it_f H c9
      refine GA.aload_n dX12_nextChild_86 rfl ?_
      refine GA.iload_n dX12_nextChild_87 rfl ?_
      refine GA.iload dX12_nextChild_88 rfl ?_
      refine GA.iload_n dX12_nextChild_90 rfl ?_
      refine GA.iload_n dX12_nextChild_91 rfl ?_
      obtain ⟨x10, S_11, hc12, H⟩ := gc_e H
      refine GA.callV (m_X12_byKeys hL hc12) xs_X12_62 dX12_nextChild_92 (gs_500 hL) (by decide) rfl rfl (by omega) (by decide) rfl (Nat.le_of_ble_eq_true rfl) (by omega) (by omega) rfl (fun E S9 hx => hx.elim) (fun v S9 hq => ?_)
      obtain ⟨rfl, rfl⟩ := hq
      obtain ⟨hg13, H⟩ := gg_e H
      refine GV.if_le (tgt := 102) hg13 dX12_nextChild_95 (by decide) (fun c14 => ?_) (fun c14 => ?_)
      · have H := it_t H c14
        refine GA.iconst dX12_nextChild_102 ?_
        refine GA.locals [(0, .ref (L 500)), (1, .int (J a1)), (2, .int (J a2)), (3, .int (J a3)), (5, .int (J a5)), (6, .int (J a6)), (7, .int (J a7))] ⟨rfl, rfl, rfl, rfl, rfl, rfl, rfl, trivial⟩ ?_
        exact ih_X12_nextChild_103 hL _ _ (a1) (a2) (a3) (a5) (a6) (a7) (0) _ _ H
      · have H := it_f H c14
        refine GA.iconst dX12_nextChild_98 ?_
        refine GA.goto (tgt := 103) dX12_nextChild_99 (by decide) ?_
        refine GA.locals [(0, .ref (L 500)), (1, .int (J a1)), (2, .int (J a2)), (3, .int (J a3)), (5, .int (J a5)), (6, .int (J a6)), (7, .int (J a7))] ⟨rfl, rfl, rfl, rfl, rfl, rfl, rfl, trivial⟩ ?_
        exact ih_X12_nextChild_103 hL _ _ (a1) (a2) (a3) (a5) (a6) (a7) (1) _ _ H
set_option maxHeartbeats 4000000 in
set_option maxRecDepth 20000 in
theorem t_X12_nextChild_103 {l : Launch} {Z : XZ} {L : Nat → Nat} (n : Nat) (ih_X12_nextChild_0 : P_X12_nextChild_0 l Z L n) (ih_X12_nextChild_17 : P_X12_nextChild_17 l Z L n) (ih_X12_nextChild_34 : P_X12_nextChild_34 l Z L n) (ih_X12_nextChild_69 : P_X12_nextChild_69 l Z L n) (ih_X12_nextChild_103 : P_X12_nextChild_103 l Z L n) (ih_X12_nextChild_136 : P_X12_nextChild_136 l Z L n) (ih_X12_nextChild_156 : P_X12_nextChild_156 l Z L n) (ih_X12_nextChild_190 : P_X12_nextChild_190 l Z L n) : P_X12_nextChild_103 l Z L (n + 1) := by
  intro hL d S a1 a2 a3 a5 a6 a7 s0 x S1 H
  have H : b_X12_nextChild_103 n d (f_X12_nextChild n) S a1 a2 a3 a5 a6 a7 s0 = some (x, S1) := H
  unfold b_X12_nextChild_103 at H
  refine GA.istore dX12_nextChild_103 (by decide) ?_
  refine GA.iload dX12_nextChild_105 rfl ?_
  obtain ⟨hg1, H⟩ := gg_e H
  refine GV.if_eq (tgt := 134) hg1 dX12_nextChild_107 (by decide) (fun c2 => ?_) (fun c2 => ?_)
  · have H := it_t H c2
    refine GA.iload dX12_nextChild_134 rfl ?_
    refine GA.locals [(0, .ref (L 500)), (1, .int (J a1)), (2, .int (J a2)), (3, .int (J a3)), (5, .int (J a5)), (7, .int (J a7))] ⟨rfl, rfl, rfl, rfl, rfl, rfl, trivial⟩ ?_
    exact ih_X12_nextChild_136 hL _ _ (a1) (a2) (a3) (a5) (a7) (a6) _ _ H
  · have H := it_f H c2
    refine GA.iload dX12_nextChild_110 rfl ?_
    refine GA.iconst dX12_nextChild_112 ?_
    obtain ⟨hg3, H⟩ := gg_e H
    refine GV.icmp_eq (tgt := 129) hg3 (by decide) dX12_nextChild_113 (by decide) (fun c4 => ?_) (fun c4 => ?_)
    · have H := it_t H c4
      refine GA.iload dX12_nextChild_129 rfl ?_
      refine GA.goto (tgt := 136) dX12_nextChild_131 (by decide) ?_
      refine GA.locals [(0, .ref (L 500)), (1, .int (J a1)), (2, .int (J a2)), (3, .int (J a3)), (5, .int (J a5)), (7, .int (J a7))] ⟨rfl, rfl, rfl, rfl, rfl, rfl, trivial⟩ ?_
      exact ih_X12_nextChild_136 hL _ _ (a1) (a2) (a3) (a5) (a7) (a5) _ _ H
    · have H := it_f H c4
      refine GA.aload_n dX12_nextChild_116 rfl ?_
      refine GA.iload_n dX12_nextChild_117 rfl ?_
      refine GA.iload dX12_nextChild_118 rfl ?_
      refine GA.iload_n dX12_nextChild_120 rfl ?_
      refine GA.iload dX12_nextChild_121 rfl ?_
      obtain ⟨hg5, H⟩ := gg_e H
      obtain ⟨x6, S_7, hc8, H⟩ := gc_e H
      refine GA.callV (m_X12_byKeys hL hc8) xs_X12_62 dX12_nextChild_123 (gs_500 hL) (by decide) rfl rfl (by omega) (by decide) rfl (Nat.le_of_ble_eq_true rfl) (by omega) (by omega) rfl (fun E S9 hx => hx.elim) (fun v S9 hq => ?_)
      obtain ⟨rfl, rfl⟩ := hq
      obtain ⟨hg9, H⟩ := gg_e H
      refine GV.if_ge (tgt := 134) hg9 dX12_nextChild_126 (by decide) (fun c10 => ?_) (fun c10 => ?_)
      · have H := it_t H c10
        refine GA.iload dX12_nextChild_134 rfl ?_
        refine GA.locals [(0, .ref (L 500)), (1, .int (J a1)), (2, .int (J a2)), (3, .int (J a3)), (5, .int (J a5)), (7, .int (J a7))] ⟨rfl, rfl, rfl, rfl, rfl, rfl, trivial⟩ ?_
        exact ih_X12_nextChild_136 hL _ _ (a1) (a2) (a3) (a5) (a7) (a6) _ _ H
      · have H := it_f H c10
        refine GA.iload dX12_nextChild_129 rfl ?_
        refine GA.goto (tgt := 136) dX12_nextChild_131 (by decide) ?_
        refine GA.locals [(0, .ref (L 500)), (1, .int (J a1)), (2, .int (J a2)), (3, .int (J a3)), (5, .int (J a5)), (7, .int (J a7))] ⟨rfl, rfl, rfl, rfl, rfl, rfl, trivial⟩ ?_
        exact ih_X12_nextChild_136 hL _ _ (a1) (a2) (a3) (a5) (a7) (a5) _ _ H
set_option maxHeartbeats 4000000 in
set_option maxRecDepth 20000 in
theorem t_X12_nextChild_136 {l : Launch} {Z : XZ} {L : Nat → Nat} (n : Nat) (ih_X12_nextChild_0 : P_X12_nextChild_0 l Z L n) (ih_X12_nextChild_17 : P_X12_nextChild_17 l Z L n) (ih_X12_nextChild_34 : P_X12_nextChild_34 l Z L n) (ih_X12_nextChild_69 : P_X12_nextChild_69 l Z L n) (ih_X12_nextChild_103 : P_X12_nextChild_103 l Z L n) (ih_X12_nextChild_136 : P_X12_nextChild_136 l Z L n) (ih_X12_nextChild_156 : P_X12_nextChild_156 l Z L n) (ih_X12_nextChild_190 : P_X12_nextChild_190 l Z L n) : P_X12_nextChild_136 l Z L (n + 1) := by
  intro hL d S a1 a2 a3 a5 a7 s0 x S1 H
  have H : b_X12_nextChild_136 n d (f_X12_nextChild n) S a1 a2 a3 a5 a7 s0 = some (x, S1) := H
  unfold b_X12_nextChild_136 at H
  refine GA.istore dX12_nextChild_136 (by decide) ?_
  refine GA.aload_n dX12_nextChild_138 rfl ?_
  refine GA.iload_n dX12_nextChild_139 rfl ?_
  refine GA.iload dX12_nextChild_140 rfl ?_
  obtain ⟨hg1, H⟩ := gg_e H
  obtain ⟨x2, S_3, hc4, H⟩ := gc_e H
  refine GA.callV (m_X12_endOf hL hc4) xs_X12_49 dX12_nextChild_142 (gs_500 hL) (by decide) rfl rfl (by omega) (by decide) rfl (Nat.le_of_ble_eq_true rfl) (by omega) (by omega) rfl (fun E S9 hx => hx.elim) (fun v S9 hq => ?_)
  obtain ⟨rfl, rfl⟩ := hq
  refine GA.istore dX12_nextChild_145 (by decide) ?_
  obtain ⟨x5, hx6, H⟩ := gv_e H
  refine GV.iinc hx6 dX12_nextChild_147 rfl (by decide) ?_
  refine GA.goto (tgt := 69) dX12_nextChild_150 (by decide) ?_
  refine GA.locals [(0, .ref (L 500)), (1, .int (J a1)), (2, .int (J a2)), (3, .int (J a3)), (5, .int (J x2)), (6, .int (J s0)), (7, .int (J x5))] ⟨rfl, rfl, rfl, rfl, rfl, rfl, rfl, trivial⟩ ?_
  exact ih_X12_nextChild_69 hL _ _ (a1) (a2) (a3) (x2) (s0) (x5) _ _ H
set_option maxHeartbeats 4000000 in
set_option maxRecDepth 20000 in
theorem t_X12_nextChild_156 {l : Launch} {Z : XZ} {L : Nat → Nat} (n : Nat) (ih_X12_nextChild_0 : P_X12_nextChild_0 l Z L n) (ih_X12_nextChild_17 : P_X12_nextChild_17 l Z L n) (ih_X12_nextChild_34 : P_X12_nextChild_34 l Z L n) (ih_X12_nextChild_69 : P_X12_nextChild_69 l Z L n) (ih_X12_nextChild_103 : P_X12_nextChild_103 l Z L n) (ih_X12_nextChild_136 : P_X12_nextChild_136 l Z L n) (ih_X12_nextChild_156 : P_X12_nextChild_156 l Z L n) (ih_X12_nextChild_190 : P_X12_nextChild_190 l Z L n) : P_X12_nextChild_156 l Z L (n + 1) := by
  intro hL d S a1 a2 a5 x S1 H
  have H : b_X12_nextChild_156 n d (f_X12_nextChild n) S a1 a2 a5 = some (x, S1) := H
  unfold b_X12_nextChild_156 at H
  refine GA.iload dX12_nextChild_156 rfl ?_
  refine GA.aload_n dX12_nextChild_158 rfl ?_
  refine GA.iload_n dX12_nextChild_159 rfl ?_
  refine GA.iload_n dX12_nextChild_160 rfl ?_
  obtain ⟨hg1, H⟩ := gg_e H
  obtain ⟨x2, S_3, hc4, H⟩ := gc_e H
  refine GA.callV (m_X12_endOf hL hc4) xs_X12_49 dX12_nextChild_161 (gs_500 hL) (by decide) rfl rfl (by omega) (by decide) rfl (Nat.le_of_ble_eq_true rfl) (by omega) (by omega) rfl (fun E S9 hx => hx.elim) (fun v S9 hq => ?_)
  obtain ⟨rfl, rfl⟩ := hq
  obtain ⟨hg5, H⟩ := gg_e H
  obtain ⟨hg6, H⟩ := gg_e H
  refine GV.icmp_ge (tgt := 190) hg5 hg6 dX12_nextChild_164 (by decide) (fun c7 => ?_) (fun c7 => ?_)
  · have H := it_t H c7
    refine GA.locals [(0, .ref (L 500)), (1, .int (J a1)), (2, .int (J a2)), (5, .int (J a5))] ⟨rfl, rfl, rfl, rfl, trivial⟩ ?_
    exact ih_X12_nextChild_190 hL _ _ (a1) (a2) (a5) _ _ H
  · have H := it_f H c7
    refine GA.aload_n dX12_nextChild_167 rfl ?_
    refine GA.iload_n dX12_nextChild_168 rfl ?_
    refine GA.iload_n dX12_nextChild_169 rfl ?_
    refine GA.iload dX12_nextChild_170 rfl ?_
    obtain ⟨x8, S_9, hc10, H⟩ := gc_e H
    refine GA.callV (m_X12_isLater hL hc10) xs_X12_539 dX12_nextChild_172 (gs_500 hL) (by decide) rfl rfl (by omega) (by decide) rfl (Nat.le_of_ble_eq_true rfl) (by omega) (by omega) rfl (fun E S9 hx => hx.elim) (fun v S9 hq => ?_)
    obtain ⟨rfl, rfl⟩ := hq
    obtain ⟨hg11, H⟩ := gg_e H
    refine GV.if_eq (tgt := 190) hg11 dX12_nextChild_175 (by decide) (fun c12 => ?_) (fun c12 => ?_)
    · have H := it_t H c12
      refine GA.locals [(0, .ref (L 500)), (1, .int (J a1)), (2, .int (J a2)), (5, .int (J a5))] ⟨rfl, rfl, rfl, rfl, trivial⟩ ?_
      exact ih_X12_nextChild_190 hL _ _ (a1) (a2) (a5) _ _ H
    · have H := it_f H c12
      refine GA.aload_n dX12_nextChild_178 rfl ?_
      refine GA.iload_n dX12_nextChild_179 rfl ?_
      refine GA.iload dX12_nextChild_180 rfl ?_
      obtain ⟨x13, S_14, hc15, H⟩ := gc_e H
      refine GA.callV (m_X12_endOf hL hc15) xs_X12_49 dX12_nextChild_182 (gs_500 hL) (by decide) rfl rfl (by omega) (by decide) rfl (Nat.le_of_ble_eq_true rfl) (by omega) (by omega) rfl (fun E S9 hx => hx.elim) (fun v S9 hq => ?_)
      obtain ⟨rfl, rfl⟩ := hq
      refine GA.istore dX12_nextChild_185 (by decide) ?_
      refine GA.goto (tgt := 156) dX12_nextChild_187 (by decide) ?_
      refine GA.locals [(0, .ref (L 500)), (1, .int (J a1)), (2, .int (J a2)), (5, .int (J x13))] ⟨rfl, rfl, rfl, rfl, trivial⟩ ?_
      exact ih_X12_nextChild_156 hL _ _ (a1) (a2) (x13) _ _ H
set_option maxHeartbeats 4000000 in
set_option maxRecDepth 20000 in
theorem t_X12_nextChild_190 {l : Launch} {Z : XZ} {L : Nat → Nat} (n : Nat) (ih_X12_nextChild_0 : P_X12_nextChild_0 l Z L n) (ih_X12_nextChild_17 : P_X12_nextChild_17 l Z L n) (ih_X12_nextChild_34 : P_X12_nextChild_34 l Z L n) (ih_X12_nextChild_69 : P_X12_nextChild_69 l Z L n) (ih_X12_nextChild_103 : P_X12_nextChild_103 l Z L n) (ih_X12_nextChild_136 : P_X12_nextChild_136 l Z L n) (ih_X12_nextChild_156 : P_X12_nextChild_156 l Z L n) (ih_X12_nextChild_190 : P_X12_nextChild_190 l Z L n) : P_X12_nextChild_190 l Z L (n + 1) := by
  intro hL d S a1 a2 a5 x S1 H
  have H : b_X12_nextChild_190 n d (f_X12_nextChild n) S a1 a2 a5 = some (x, S1) := H
  unfold b_X12_nextChild_190 at H
  refine GA.iload dX12_nextChild_190 rfl ?_
  refine GA.aload_n dX12_nextChild_192 rfl ?_
  refine GA.iload_n dX12_nextChild_193 rfl ?_
  refine GA.iload_n dX12_nextChild_194 rfl ?_
  obtain ⟨hg1, H⟩ := gg_e H
  obtain ⟨x2, S_3, hc4, H⟩ := gc_e H
  refine GA.callV (m_X12_endOf hL hc4) xs_X12_49 dX12_nextChild_195 (gs_500 hL) (by decide) rfl rfl (by omega) (by decide) rfl (Nat.le_of_ble_eq_true rfl) (by omega) (by omega) rfl (fun E S9 hx => hx.elim) (fun v S9 hq => ?_)
  obtain ⟨rfl, rfl⟩ := hq
  obtain ⟨hg5, H⟩ := gg_e H
  obtain ⟨hg6, H⟩ := gg_e H
  refine GV.icmp_ge (tgt := 206) hg5 hg6 dX12_nextChild_198 (by decide) (fun c7 => ?_) (fun c7 => ?_)
  · have H := it_t H c7
    refine GA.iconst dX12_nextChild_206 ?_
    cases H
    exact GA.iret rfl dX12_nextChild_207 (by omega) (by omega) ⟨rfl, rfl⟩
  · have H := it_f H c7
    refine GA.iload dX12_nextChild_201 rfl ?_
    refine GA.goto (tgt := 207) dX12_nextChild_203 (by decide) ?_
    cases H
    exact GA.iret rfl dX12_nextChild_207 (by omega) (by omega) ⟨rfl, rfl⟩
theorem g_X12_nextChild {l : Launch} {Z : XZ} {L : Nat → Nat} : ∀ n, P_X12_nextChild_0 l Z L n ∧ P_X12_nextChild_17 l Z L n ∧ P_X12_nextChild_34 l Z L n ∧ P_X12_nextChild_69 l Z L n ∧ P_X12_nextChild_103 l Z L n ∧ P_X12_nextChild_136 l Z L n ∧ P_X12_nextChild_156 l Z L n ∧ P_X12_nextChild_190 l Z L n
  | 0 => ⟨fun _ _ _ _ _ _ _ _ _ H => no_e H, fun _ _ _ _ _ _ _ _ _ _ H => no_e H, fun _ _ _ _ _ _ _ _ H => no_e H, fun _ _ _ _ _ _ _ _ _ _ _ H => no_e H, fun _ _ _ _ _ _ _ _ _ _ _ _ H => no_e H, fun _ _ _ _ _ _ _ _ _ _ _ H => no_e H, fun _ _ _ _ _ _ _ _ H => no_e H, fun _ _ _ _ _ _ _ _ H => no_e H⟩
  | n + 1 => have ⟨h0, h1, h2, h3, h4, h5, h6, h7⟩ := g_X12_nextChild (l := l) (Z := Z) (L := L) n
    ⟨t_X12_nextChild_0 n h0 h1 h2 h3 h4 h5 h6 h7, t_X12_nextChild_17 n h0 h1 h2 h3 h4 h5 h6 h7, t_X12_nextChild_34 n h0 h1 h2 h3 h4 h5 h6 h7, t_X12_nextChild_69 n h0 h1 h2 h3 h4 h5 h6 h7, t_X12_nextChild_103 n h0 h1 h2 h3 h4 h5 h6 h7, t_X12_nextChild_136 n h0 h1 h2 h3 h4 h5 h6 h7, t_X12_nextChild_156 n h0 h1 h2 h3 h4 h5 h6 h7, t_X12_nextChild_190 n h0 h1 h2 h3 h4 h5 h6 h7⟩
theorem m_X12_nextChild {l : Launch} {Z : XZ} {L : Nat → Nat} (hL : L 700 = 1) {n d : Nat} {S : GS} {a1 : Int} {a2 : Int} {a3 : Int} {a4 : Int} {x : Int} {S1 : GS} (H : f_X12_nextChild n d 0 S [a1, a2, a3, a4] = some (x, S1)) : GM l Z L yX12_nextChild cX12_nextChild 9 (some .int) [] d 0 0 [.ref (L 500), .int (J a1), .int (J a2), .int (J a3), .int (J a4)] S (fun v S' => v = some (.int (J x)) ∧ S1 = S') (fun _ _ => False) := GM.of (by decide) (Nat.le_of_ble_eq_true rfl) ((g_X12_nextChild n).1 hL _ _ _ _ _ _ _ _ H)

def P_X12_putsLine_0 (l : Launch) (Z : XZ) (L : Nat → Nat) (n : Nat) : Prop := ∀ (hL : L 700 = 1), ∀ (d : Nat) (S : GS) (a1 : Int) (a2 : Int) (x : Int) (S1 : GS), f_X12_putsLine n d 0 S [a1, a2] = some (x, S1) → GA l Z L yX12_putsLine cX12_putsLine 4 none [] d 0 0 (fun v S' => v = none ∧ S1 = S') (fun _ _ => False) 0 (gl [(0, .ref (L 500)), (1, .int (J a1)), (2, .int (J a2))]) [] S 0 0
def P_X12_putsLine_9 (l : Launch) (Z : XZ) (L : Nat → Nat) (n : Nat) : Prop := ∀ (hL : L 700 = 1), ∀ (d : Nat) (S : GS) (a1 : Int) (a2 : Int) (a3 : Int) (x : Int) (S1 : GS), f_X12_putsLine n d 9 S [a1, a2, a3] = some (x, S1) → GA l Z L yX12_putsLine cX12_putsLine 4 none [] d 0 0 (fun v S' => v = none ∧ S1 = S') (fun _ _ => False) 9 (gl [(0, .ref (L 500)), (1, .int (J a1)), (2, .int (J a2)), (3, .int (J a3))]) [] S 0 0
theorem i_X12_putsLine {l : Launch} {Z : XZ} {L : Nat → Nat} (hL : L 700 = 1) {n : Nat} (ih : P_X12_putsLine_0 l Z L n) {d : Nat} {S : GS} {a1 : Int} {a2 : Int} {x : Int} {S1 : GS} (H : f_X12_putsLine n d 0 S [a1, a2] = some (x, S1)) : GM l Z L yX12_putsLine cX12_putsLine 4 none [] d 0 0 [.ref (L 500), .int (J a1), .int (J a2)] S (fun v S' => v = none ∧ S1 = S') (fun _ _ => False) := GM.of (by decide) (Nat.le_of_ble_eq_true rfl) (ih hL _ _ _ _ _ _ H)
set_option maxHeartbeats 4000000 in
set_option maxRecDepth 20000 in
theorem t_X12_putsLine_0 {l : Launch} {Z : XZ} {L : Nat → Nat} (n : Nat) (ih_X12_putsLine_0 : P_X12_putsLine_0 l Z L n) (ih_X12_putsLine_9 : P_X12_putsLine_9 l Z L n) : P_X12_putsLine_0 l Z L (n + 1) := by
  intro hL d S a1 a2 x S1 H
  have H : b_X12_putsLine_0 n d (f_X12_putsLine n) S a1 a2 = some (x, S1) := H
  unfold b_X12_putsLine_0 at H
  refine GA.aload_n dX12_putsLine_0 rfl ?_
  refine GA.iload_n dX12_putsLine_1 rfl ?_
  refine GA.bipush dX12_putsLine_2 rfl ?_
  obtain ⟨hg1, H⟩ := gg_e H
  obtain ⟨x2, S_3, hc4, H⟩ := gc_e H
  refine GA.callV (m_X12_puts hL hc4) xs_X12_551 dX12_putsLine_4 (gs_500 hL) (by decide) rfl rfl (by omega) (by decide) rfl (Nat.le_of_ble_eq_true rfl) (by omega) (by omega) rfl (fun E S9 hx => hx.elim) (fun v S9 hq => ?_)
  obtain ⟨rfl, rfl⟩ := hq
  refine GA.iconst dX12_putsLine_7 ?_
  refine GA.istore_n dX12_putsLine_8 (by decide) ?_
  refine GA.locals [(0, .ref (L 500)), (1, .int (J a1)), (2, .int (J a2)), (3, .int (J 0))] ⟨rfl, rfl, rfl, rfl, trivial⟩ ?_
  exact ih_X12_putsLine_9 hL _ _ (a1) (a2) (0) _ _ H
set_option maxHeartbeats 4000000 in
set_option maxRecDepth 20000 in
theorem t_X12_putsLine_9 {l : Launch} {Z : XZ} {L : Nat → Nat} (n : Nat) (ih_X12_putsLine_0 : P_X12_putsLine_0 l Z L n) (ih_X12_putsLine_9 : P_X12_putsLine_9 l Z L n) : P_X12_putsLine_9 l Z L (n + 1) := by
  intro hL d S a1 a2 a3 x S1 H
  have H : b_X12_putsLine_9 n d (f_X12_putsLine n) S a1 a2 a3 = some (x, S1) := H
  unfold b_X12_putsLine_9 at H
  refine GA.iload_n dX12_putsLine_9 rfl ?_
  refine GA.iconst dX12_putsLine_10 ?_
  refine GA.iload_n dX12_putsLine_11 rfl ?_
  obtain ⟨x1, hx2, H⟩ := gv_e H
  refine GV.imul hx2 dX12_putsLine_12 ?_
  obtain ⟨hg3, H⟩ := gg_e H
  obtain ⟨hg4, H⟩ := gg_e H
  refine GV.icmp_ge (tgt := 29) hg3 hg4 dX12_putsLine_13 (by decide) (fun c5 => ?_) (fun c5 => ?_)
  · have H := it_t H c5
    cases H
    exact GA.vret rfl dX12_putsLine_29 (by omega) (by omega) ⟨rfl, rfl⟩
  · have H := it_f H c5
    refine GA.aload_n dX12_putsLine_16 rfl ?_
    refine GA.iload_n dX12_putsLine_17 rfl ?_
    refine GA.bipush dX12_putsLine_18 rfl ?_
    obtain ⟨hg6, H⟩ := gg_e H
    obtain ⟨x7, S_8, hc9, H⟩ := gc_e H
    refine GA.callV (m_X12_puts hL hc9) xs_X12_551 dX12_putsLine_20 (gs_500 hL) (by decide) rfl rfl (by omega) (by decide) rfl (Nat.le_of_ble_eq_true rfl) (by omega) (by omega) rfl (fun E S9 hx => hx.elim) (fun v S9 hq => ?_)
    obtain ⟨rfl, rfl⟩ := hq
    obtain ⟨x10, hx11, H⟩ := gv_e H
    refine GV.iinc hx11 dX12_putsLine_23 rfl (by decide) ?_
    refine GA.goto (tgt := 9) dX12_putsLine_26 (by decide) ?_
    refine GA.locals [(0, .ref (L 500)), (1, .int (J a1)), (2, .int (J a2)), (3, .int (J x10))] ⟨rfl, rfl, rfl, rfl, trivial⟩ ?_
    exact ih_X12_putsLine_9 hL _ _ (a1) (a2) (x10) _ _ H
theorem g_X12_putsLine {l : Launch} {Z : XZ} {L : Nat → Nat} : ∀ n, P_X12_putsLine_0 l Z L n ∧ P_X12_putsLine_9 l Z L n
  | 0 => ⟨fun _ _ _ _ _ _ _ H => no_e H, fun _ _ _ _ _ _ _ _ H => no_e H⟩
  | n + 1 => have ⟨h0, h1⟩ := g_X12_putsLine (l := l) (Z := Z) (L := L) n
    ⟨t_X12_putsLine_0 n h0 h1, t_X12_putsLine_9 n h0 h1⟩
theorem m_X12_putsLine {l : Launch} {Z : XZ} {L : Nat → Nat} (hL : L 700 = 1) {n d : Nat} {S : GS} {a1 : Int} {a2 : Int} {x : Int} {S1 : GS} (H : f_X12_putsLine n d 0 S [a1, a2] = some (x, S1)) : GM l Z L yX12_putsLine cX12_putsLine 4 none [] d 0 0 [.ref (L 500), .int (J a1), .int (J a2)] S (fun v S' => v = none ∧ S1 = S') (fun _ _ => False) := GM.of (by decide) (Nat.le_of_ble_eq_true rfl) ((g_X12_putsLine n).1 hL _ _ _ _ _ _ H)

def P_X12_writes_0 (l : Launch) (Z : XZ) (L : Nat → Nat) (n : Nat) : Prop := ∀ (hL : L 700 = 1), ∀ (d : Nat) (S : GS) (a1 : Int) (a2 : Int) (a3 : Int) (a4 : Int) (x : Int) (S1 : GS), f_X12_writes n d 0 S [a1, a2, a3, a4] = some (x, S1) → GA l Z L yX12_writes cX12_writes 8 none [] d 0 0 (fun v S' => v = none ∧ S1 = S') (fun _ _ => False) 0 (gl [(0, .ref (L 500)), (1, .int (J a1)), (2, .int (J a2)), (3, .int (J a3)), (4, .int (J a4))]) [] S 0 0
def P_X12_writes_44 (l : Launch) (Z : XZ) (L : Nat → Nat) (n : Nat) : Prop := ∀ (hL : L 700 = 1), ∀ (d : Nat) (S : GS) (a1 : Int) (a2 : Int) (a3 : Int) (a4 : Int) (s0 : Int) (s1 : Int) (x : Int) (S1 : GS), f_X12_writes n d 44 S [a1, a2, a3, a4, s0, s1] = some (x, S1) → GA l Z L yX12_writes cX12_writes 8 none [] d 0 0 (fun v S' => v = none ∧ S1 = S') (fun _ _ => False) 44 (gl [(0, .ref (L 500)), (1, .int (J a1)), (2, .int (J a2)), (3, .int (J a3)), (4, .int (J a4))]) [.int (J s0), .int (J s1), .ref (L 500)] S 0 0
def P_X12_writes_64 (l : Launch) (Z : XZ) (L : Nat → Nat) (n : Nat) : Prop := ∀ (hL : L 700 = 1), ∀ (d : Nat) (S : GS) (a1 : Int) (a2 : Int) (a4 : Int) (a5 : Int) (x : Int) (S1 : GS), f_X12_writes n d 64 S [a1, a2, a4, a5] = some (x, S1) → GA l Z L yX12_writes cX12_writes 8 none [] d 0 0 (fun v S' => v = none ∧ S1 = S') (fun _ _ => False) 64 (gl [(0, .ref (L 500)), (1, .int (J a1)), (2, .int (J a2)), (4, .int (J a4)), (5, .int (J a5))]) [] S 0 0
def P_X12_writes_104 (l : Launch) (Z : XZ) (L : Nat → Nat) (n : Nat) : Prop := ∀ (hL : L 700 = 1), ∀ (d : Nat) (S : GS) (a1 : Int) (a2 : Int) (a4 : Int) (a5 : Int) (a6 : Int) (s0 : Int) (s1 : Int) (s2 : Int) (s3 : Int) (x : Int) (S1 : GS), f_X12_writes n d 104 S [a1, a2, a4, a5, a6, s0, s1, s2, s3] = some (x, S1) → GA l Z L yX12_writes cX12_writes 8 none [] d 0 0 (fun v S' => v = none ∧ S1 = S') (fun _ _ => False) 104 (gl [(0, .ref (L 500)), (1, .int (J a1)), (2, .int (J a2)), (4, .int (J a4)), (5, .int (J a5)), (6, .int (J a6))]) [.int (J s0), .int (J s1), .int (J s2), .int (J s3), .ref (L 500)] S 0 0
def P_X12_writes_131 (l : Launch) (Z : XZ) (L : Nat → Nat) (n : Nat) : Prop := ∀ (hL : L 700 = 1), ∀ (d : Nat) (S : GS) (a1 : Int) (a2 : Int) (a4 : Int) (a5 : Int) (a6 : Int) (x : Int) (S1 : GS), f_X12_writes n d 131 S [a1, a2, a4, a5, a6] = some (x, S1) → GA l Z L yX12_writes cX12_writes 8 none [] d 0 0 (fun v S' => v = none ∧ S1 = S') (fun _ _ => False) 131 (gl [(0, .ref (L 500)), (1, .int (J a1)), (2, .int (J a2)), (4, .int (J a4)), (5, .int (J a5)), (6, .int (J a6))]) [] S 0 0
def P_X12_writes_177 (l : Launch) (Z : XZ) (L : Nat → Nat) (n : Nat) : Prop := ∀ (hL : L 700 = 1), ∀ (d : Nat) (S : GS) (a1 : Int) (a2 : Int) (a4 : Int) (a5 : Int) (a6 : Int) (a7 : Int) (x : Int) (S1 : GS), f_X12_writes n d 177 S [a1, a2, a4, a5, a6, a7] = some (x, S1) → GA l Z L yX12_writes cX12_writes 8 none [] d 0 0 (fun v S' => v = none ∧ S1 = S') (fun _ _ => False) 177 (gl [(0, .ref (L 500)), (1, .int (J a1)), (2, .int (J a2)), (4, .int (J a4)), (5, .int (J a5)), (6, .int (J a6)), (7, .int (J a7))]) [] S 0 0
def P_X12_writes_201 (l : Launch) (Z : XZ) (L : Nat → Nat) (n : Nat) : Prop := ∀ (hL : L 700 = 1), ∀ (d : Nat) (S : GS) (a1 : Int) (a2 : Int) (a4 : Int) (a5 : Int) (a6 : Int) (a7 : Int) (x : Int) (S1 : GS), f_X12_writes n d 201 S [a1, a2, a4, a5, a6, a7] = some (x, S1) → GA l Z L yX12_writes cX12_writes 8 none [] d 0 0 (fun v S' => v = none ∧ S1 = S') (fun _ _ => False) 201 (gl [(0, .ref (L 500)), (1, .int (J a1)), (2, .int (J a2)), (4, .int (J a4)), (5, .int (J a5)), (6, .int (J a6)), (7, .int (J a7))]) [] S 0 0
def P_X12_writes_254 (l : Launch) (Z : XZ) (L : Nat → Nat) (n : Nat) : Prop := ∀ (hL : L 700 = 1), ∀ (d : Nat) (S : GS) (a1 : Int) (a2 : Int) (a4 : Int) (a5 : Int) (a7 : Int) (x : Int) (S1 : GS), f_X12_writes n d 254 S [a1, a2, a4, a5, a7] = some (x, S1) → GA l Z L yX12_writes cX12_writes 8 none [] d 0 0 (fun v S' => v = none ∧ S1 = S') (fun _ _ => False) 254 (gl [(0, .ref (L 500)), (1, .int (J a1)), (2, .int (J a2)), (4, .int (J a4)), (5, .int (J a5)), (7, .int (J a7))]) [] S 0 0
def P_X12_writes_296 (l : Launch) (Z : XZ) (L : Nat → Nat) (n : Nat) : Prop := ∀ (hL : L 700 = 1), ∀ (d : Nat) (S : GS) (a1 : Int) (a2 : Int) (a4 : Int) (a5 : Int) (a7 : Int) (s0 : Int) (s1 : Int) (x : Int) (S1 : GS), f_X12_writes n d 296 S [a1, a2, a4, a5, a7, s0, s1] = some (x, S1) → GA l Z L yX12_writes cX12_writes 8 none [] d 0 0 (fun v S' => v = none ∧ S1 = S') (fun _ _ => False) 296 (gl [(0, .ref (L 500)), (1, .int (J a1)), (2, .int (J a2)), (4, .int (J a4)), (5, .int (J a5)), (7, .int (J a7))]) [.int (J s0), .int (J s1), .ref (L 500)] S 0 0
theorem i_X12_writes {l : Launch} {Z : XZ} {L : Nat → Nat} (hL : L 700 = 1) {n : Nat} (ih : P_X12_writes_0 l Z L n) {d : Nat} {S : GS} {a1 : Int} {a2 : Int} {a3 : Int} {a4 : Int} {x : Int} {S1 : GS} (H : f_X12_writes n d 0 S [a1, a2, a3, a4] = some (x, S1)) : GM l Z L yX12_writes cX12_writes 8 none [] d 0 0 [.ref (L 500), .int (J a1), .int (J a2), .int (J a3), .int (J a4)] S (fun v S' => v = none ∧ S1 = S') (fun _ _ => False) := GM.of (by decide) (Nat.le_of_ble_eq_true rfl) (ih hL _ _ _ _ _ _ _ _ H)
set_option maxHeartbeats 4000000 in
set_option maxRecDepth 20000 in
theorem t_X12_writes_0 {l : Launch} {Z : XZ} {L : Nat → Nat} (n : Nat) (ih_X12_writes_0 : P_X12_writes_0 l Z L n) (ih_X12_writes_44 : P_X12_writes_44 l Z L n) (ih_X12_writes_64 : P_X12_writes_64 l Z L n) (ih_X12_writes_104 : P_X12_writes_104 l Z L n) (ih_X12_writes_131 : P_X12_writes_131 l Z L n) (ih_X12_writes_177 : P_X12_writes_177 l Z L n) (ih_X12_writes_201 : P_X12_writes_201 l Z L n) (ih_X12_writes_254 : P_X12_writes_254 l Z L n) (ih_X12_writes_296 : P_X12_writes_296 l Z L n) : P_X12_writes_0 l Z L (n + 1) := by
  intro hL d S a1 a2 a3 a4 x S1 H
  have H : b_X12_writes_0 n d (f_X12_writes n) S a1 a2 a3 a4 = some (x, S1) := H
  unfold b_X12_writes_0 at H
  refine GA.aload_n dX12_writes_0 rfl ?_
  refine GA.get xf_X12_272 dX12_writes_1 (gs_500 hL) (by decide) rfl ?_
  refine GA.iload_n dX12_writes_4 rfl ?_
  refine GA.iconst dX12_writes_5 ?_
  obtain ⟨hg1, H⟩ := gg_e H
  obtain ⟨S_2, hx3, H⟩ := gv_e H
  refine GV.iast hg1 hx3 dX12_writes_6 (fun _ => (gs_517 hL)) (by decide) ?_
  refine GA.aload_n dX12_writes_7 rfl ?_
  refine GA.iload_n dX12_writes_8 rfl ?_
  refine GA.iload_n dX12_writes_9 rfl ?_
  refine GA.iconst dX12_writes_10 ?_
  obtain ⟨hg4, H⟩ := gg_e H
  obtain ⟨x5, S_6, hc7, H⟩ := gc_e H
  refine GA.callV (m_X12_part hL hc7) xs_X12_36 dX12_writes_11 (gs_500 hL) (by decide) rfl rfl (by omega) (by decide) rfl (Nat.le_of_ble_eq_true rfl) (by omega) (by omega) rfl (fun E S9 hx => hx.elim) (fun v S9 hq => ?_)
  obtain ⟨rfl, rfl⟩ := hq
  obtain ⟨hg8, H⟩ := gg_e H
  refine GV.if_ne (tgt := 25) hg8 dX12_writes_14 (by decide) (fun c9 => ?_) (fun c9 => ?_)
  · have H := it_t H c9
    refine GA.aload_n dX12_writes_25 rfl ?_
    refine GA.iload_n dX12_writes_26 rfl ?_
    refine GA.aload_n dX12_writes_27 rfl ?_
    refine GA.iload_n dX12_writes_28 rfl ?_
    refine GA.iload_n dX12_writes_29 rfl ?_
    obtain ⟨x10, S_11, hc12, H⟩ := gc_e H
    refine GA.callV (m_X12_kind hL hc12) xs_X12_52 dX12_writes_30 (gs_500 hL) (by decide) rfl rfl (by omega) (by decide) rfl (Nat.le_of_ble_eq_true rfl) (by omega) (by omega) rfl (fun E S9 hx => hx.elim) (fun v S9 hq => ?_)
    obtain ⟨rfl, rfl⟩ := hq
    refine GA.iconst dX12_writes_33 ?_
    obtain ⟨hg13, H⟩ := gg_e H
    refine GV.icmp_ne (tgt := 42) hg13 (by decide) dX12_writes_34 (by decide) (fun c14 => ?_) (fun c14 => ?_)
    · have H := it_t H c14
      refine GA.bipush dX12_writes_42 rfl ?_
      refine GA.locals [(0, .ref (L 500)), (1, .int (J a1)), (2, .int (J a2)), (3, .int (J a3)), (4, .int (J a4))] ⟨rfl, rfl, rfl, rfl, rfl, trivial⟩ ?_
      exact ih_X12_writes_44 hL _ _ (a1) (a2) (a3) (a4) (123) (a1) _ _ H
    · have H := it_f H c14
      refine GA.bipush dX12_writes_37 rfl ?_
      refine GA.goto (tgt := 44) dX12_writes_39 (by decide) ?_
      refine GA.locals [(0, .ref (L 500)), (1, .int (J a1)), (2, .int (J a2)), (3, .int (J a3)), (4, .int (J a4))] ⟨rfl, rfl, rfl, rfl, rfl, trivial⟩ ?_
      exact ih_X12_writes_44 hL _ _ (a1) (a2) (a3) (a4) (91) (a1) _ _ H
  · have H := it_f H c9
    refine GA.aload_n dX12_writes_17 rfl ?_
    refine GA.iload_n dX12_writes_18 rfl ?_
    refine GA.iload_n dX12_writes_19 rfl ?_
    refine GA.iload_n dX12_writes_20 rfl ?_
    obtain ⟨x15, S_16, hc17, H⟩ := gc_e H
    refine GA.callV (m_X12_putsScalar hL hc17) xs_X12_568 dX12_writes_21 (gs_500 hL) (by decide) rfl rfl (by omega) (by decide) rfl (Nat.le_of_ble_eq_true rfl) (by omega) (by omega) rfl (fun E S9 hx => hx.elim) (fun v S9 hq => ?_)
    obtain ⟨rfl, rfl⟩ := hq
    cases H
    exact GA.vret rfl dX12_writes_24 (by omega) (by omega) ⟨rfl, rfl⟩
set_option maxHeartbeats 4000000 in
set_option maxRecDepth 20000 in
theorem t_X12_writes_44 {l : Launch} {Z : XZ} {L : Nat → Nat} (n : Nat) (ih_X12_writes_0 : P_X12_writes_0 l Z L n) (ih_X12_writes_44 : P_X12_writes_44 l Z L n) (ih_X12_writes_64 : P_X12_writes_64 l Z L n) (ih_X12_writes_104 : P_X12_writes_104 l Z L n) (ih_X12_writes_131 : P_X12_writes_131 l Z L n) (ih_X12_writes_177 : P_X12_writes_177 l Z L n) (ih_X12_writes_201 : P_X12_writes_201 l Z L n) (ih_X12_writes_254 : P_X12_writes_254 l Z L n) (ih_X12_writes_296 : P_X12_writes_296 l Z L n) : P_X12_writes_44 l Z L (n + 1) := by
  intro hL d S a1 a2 a3 a4 s0 s1 x S1 H
  have H : b_X12_writes_44 n d (f_X12_writes n) S a1 a2 a3 a4 s0 s1 = some (x, S1) := H
  unfold b_X12_writes_44 at H
  obtain ⟨hg1, H⟩ := gg_e H
  obtain ⟨x2, S_3, hc4, H⟩ := gc_e H
  refine GA.callV (m_X12_puts hL hc4) xs_X12_551 dX12_writes_44 (gs_500 hL) (by decide) rfl rfl (by omega) (by decide) rfl (Nat.le_of_ble_eq_true rfl) (by omega) (by omega) rfl (fun E S9 hx => hx.elim) (fun v S9 hq => ?_)
  obtain ⟨rfl, rfl⟩ := hq
  refine GA.aload_n dX12_writes_47 rfl ?_
  refine GA.get xf_X12_259 dX12_writes_48 (gs_500 hL) (by decide) rfl ?_
  refine GA.iconst dX12_writes_51 ?_
  refine GA.iload_n dX12_writes_52 rfl ?_
  obtain ⟨hg5, H⟩ := gg_e H
  obtain ⟨S_6, hx7, H⟩ := gv_e H
  refine GV.iast hg5 hx7 dX12_writes_53 (fun _ => (gs_513 hL)) (by decide) ?_
  refine GA.aload_n dX12_writes_54 rfl ?_
  refine GA.get xf_X12_265 dX12_writes_55 (gs_500 hL) (by decide) rfl ?_
  refine GA.iconst dX12_writes_58 ?_
  refine GA.iconst dX12_writes_59 ?_
  obtain ⟨S_8, hx9, H⟩ := gv_e H
  refine GV.iast hg5 hx9 dX12_writes_60 (fun _ => (gs_515 hL)) (by decide) ?_
  refine GA.iconst dX12_writes_61 ?_
  refine GA.istore dX12_writes_62 (by decide) ?_
  refine GA.locals [(0, .ref (L 500)), (1, .int (J a1)), (2, .int (J a2)), (4, .int (J a4)), (5, .int (J 1))] ⟨rfl, rfl, rfl, rfl, rfl, trivial⟩ ?_
  exact ih_X12_writes_64 hL _ _ (a1) (a2) (a4) (1) _ _ H
set_option maxHeartbeats 4000000 in
set_option maxRecDepth 20000 in
theorem t_X12_writes_64 {l : Launch} {Z : XZ} {L : Nat → Nat} (n : Nat) (ih_X12_writes_0 : P_X12_writes_0 l Z L n) (ih_X12_writes_44 : P_X12_writes_44 l Z L n) (ih_X12_writes_64 : P_X12_writes_64 l Z L n) (ih_X12_writes_104 : P_X12_writes_104 l Z L n) (ih_X12_writes_131 : P_X12_writes_131 l Z L n) (ih_X12_writes_177 : P_X12_writes_177 l Z L n) (ih_X12_writes_201 : P_X12_writes_201 l Z L n) (ih_X12_writes_254 : P_X12_writes_254 l Z L n) (ih_X12_writes_296 : P_X12_writes_296 l Z L n) : P_X12_writes_64 l Z L (n + 1) := by
  intro hL d S a1 a2 a4 a5 x S1 H
  have H : b_X12_writes_64 n d (f_X12_writes n) S a1 a2 a4 a5 = some (x, S1) := H
  unfold b_X12_writes_64 at H
  refine GA.iload dX12_writes_64 rfl ?_
  obtain ⟨hg1, H⟩ := gg_e H
  refine GV.if_le (tgt := 322) hg1 dX12_writes_66 (by decide) (fun c2 => ?_) (fun c2 => ?_)
  · have H := it_t H c2
    cases H
    exact GA.vret rfl dX12_writes_322 (by omega) (by omega) ⟨rfl, rfl⟩
  · have H := it_f H c2
    refine GA.aload_n dX12_writes_69 rfl ?_
    refine GA.get xf_X12_259 dX12_writes_70 (gs_500 hL) (by decide) rfl ?_
    refine GA.iload dX12_writes_73 rfl ?_
    refine GA.iconst dX12_writes_75 ?_
    obtain ⟨x3, hx4, H⟩ := gv_e H
    refine GV.isub hx4 dX12_writes_76 ?_
    obtain ⟨hg5, H⟩ := gg_e H
    obtain ⟨x6, hx7, H⟩ := gv_e H
    refine GV.iald hg5 hx7 dX12_writes_77 (gs_513 hL) (by decide) ?_
    refine GA.istore dX12_writes_78 (by decide) ?_
    refine GA.aload_n dX12_writes_80 rfl ?_
    refine GA.iload_n dX12_writes_81 rfl ?_
    refine GA.iload dX12_writes_82 rfl ?_
    refine GA.aload_n dX12_writes_84 rfl ?_
    refine GA.get xf_X12_265 dX12_writes_85 (gs_500 hL) (by decide) rfl ?_
    refine GA.iload dX12_writes_88 rfl ?_
    refine GA.iconst dX12_writes_90 ?_
    obtain ⟨x8, hx9, H⟩ := gv_e H
    refine GV.isub hx9 dX12_writes_91 ?_
    obtain ⟨hg10, H⟩ := gg_e H
    obtain ⟨x11, hx12, H⟩ := gv_e H
    refine GV.iald hg10 hx12 dX12_writes_92 (gs_515 hL) (by decide) ?_
    refine GA.iload dX12_writes_93 rfl ?_
    refine GA.iconst dX12_writes_95 ?_
    obtain ⟨hg13, H⟩ := gg_e H
    refine GV.icmp_ne (tgt := 103) hg13 (by decide) dX12_writes_96 (by decide) (fun c14 => ?_) (fun c14 => ?_)
    · have H := it_t H c14
      refine GA.iconst dX12_writes_103 ?_
      refine GA.locals [(0, .ref (L 500)), (1, .int (J a1)), (2, .int (J a2)), (4, .int (J a4)), (5, .int (J a5)), (6, .int (J x6))] ⟨rfl, rfl, rfl, rfl, rfl, rfl, trivial⟩ ?_
      exact ih_X12_writes_104 hL _ _ (a1) (a2) (a4) (a5) (x6) (0) (x11) (x6) (a2) _ _ H
    · have H := it_f H c14
      refine GA.iconst dX12_writes_99 ?_
      refine GA.goto (tgt := 104) dX12_writes_100 (by decide) ?_
      refine GA.locals [(0, .ref (L 500)), (1, .int (J a1)), (2, .int (J a2)), (4, .int (J a4)), (5, .int (J a5)), (6, .int (J x6))] ⟨rfl, rfl, rfl, rfl, rfl, rfl, trivial⟩ ?_
      exact ih_X12_writes_104 hL _ _ (a1) (a2) (a4) (a5) (x6) (1) (x11) (x6) (a2) _ _ H
set_option maxHeartbeats 4000000 in
set_option maxRecDepth 20000 in
theorem t_X12_writes_104 {l : Launch} {Z : XZ} {L : Nat → Nat} (n : Nat) (ih_X12_writes_0 : P_X12_writes_0 l Z L n) (ih_X12_writes_44 : P_X12_writes_44 l Z L n) (ih_X12_writes_64 : P_X12_writes_64 l Z L n) (ih_X12_writes_104 : P_X12_writes_104 l Z L n) (ih_X12_writes_131 : P_X12_writes_131 l Z L n) (ih_X12_writes_177 : P_X12_writes_177 l Z L n) (ih_X12_writes_201 : P_X12_writes_201 l Z L n) (ih_X12_writes_254 : P_X12_writes_254 l Z L n) (ih_X12_writes_296 : P_X12_writes_296 l Z L n) : P_X12_writes_104 l Z L (n + 1) := by
  intro hL d S a1 a2 a4 a5 a6 s0 s1 s2 s3 x S1 H
  have H : b_X12_writes_104 n d (f_X12_writes n) S a1 a2 a4 a5 a6 s0 s1 s2 s3 = some (x, S1) := H
  unfold b_X12_writes_104 at H
  obtain ⟨hg1, H⟩ := gg_e H
  obtain ⟨x2, S_3, hc4, H⟩ := gc_e H
  refine GA.callV (m_X12_nextChild hL hc4) xs_X12_545 dX12_writes_104 (gs_500 hL) (by decide) rfl rfl (by omega) (by decide) rfl (Nat.le_of_ble_eq_true rfl) (by omega) (by omega) rfl (fun E S9 hx => hx.elim) (fun v S9 hq => ?_)
  obtain ⟨rfl, rfl⟩ := hq
  refine GA.istore dX12_writes_107 (by decide) ?_
  refine GA.iload dX12_writes_109 rfl ?_
  refine GA.iconst dX12_writes_111 ?_
  obtain ⟨hg5, H⟩ := gg_e H
  refine GV.icmp_ne (tgt := 157) hg5 (by decide) dX12_writes_112 (by decide) (fun c6 => ?_) (fun c6 => ?_)
  · have H := it_t H c6
    refine GA.aload_n dX12_writes_157 rfl ?_
    refine GA.get xf_X12_265 dX12_writes_158 (gs_500 hL) (by decide) rfl ?_
    refine GA.iload dX12_writes_161 rfl ?_
    refine GA.iconst dX12_writes_163 ?_
    obtain ⟨x7, hx8, H⟩ := gv_e H
    refine GV.isub hx8 dX12_writes_164 ?_
    obtain ⟨hg9, H⟩ := gg_e H
    obtain ⟨x10, hx11, H⟩ := gv_e H
    refine GV.iald hg9 hx11 dX12_writes_165 (gs_515 hL) (by decide) ?_
    refine GA.iconst dX12_writes_166 ?_
    obtain ⟨hg12, H⟩ := gg_e H
    refine GV.icmp_eq (tgt := 177) hg12 (by decide) dX12_writes_167 (by decide) (fun c13 => ?_) (fun c13 => ?_)
    · have H := it_t H c13
      refine GA.locals [(0, .ref (L 500)), (1, .int (J a1)), (2, .int (J a2)), (4, .int (J a4)), (5, .int (J a5)), (6, .int (J a6)), (7, .int (J x2))] ⟨rfl, rfl, rfl, rfl, rfl, rfl, rfl, trivial⟩ ?_
      exact ih_X12_writes_177 hL _ _ (a1) (a2) (a4) (a5) (a6) (x2) _ _ H
    · have H := it_f H c13
      refine GA.aload_n dX12_writes_170 rfl ?_
      refine GA.iload_n dX12_writes_171 rfl ?_
      refine GA.bipush dX12_writes_172 rfl ?_
      obtain ⟨x14, S_15, hc16, H⟩ := gc_e H
      refine GA.callV (m_X12_puts hL hc16) xs_X12_551 dX12_writes_174 (gs_500 hL) (by decide) rfl rfl (by omega) (by decide) rfl (Nat.le_of_ble_eq_true rfl) (by omega) (by omega) rfl (fun E S9 hx => hx.elim) (fun v S9 hq => ?_)
      obtain ⟨rfl, rfl⟩ := hq
      refine GA.locals [(0, .ref (L 500)), (1, .int (J a1)), (2, .int (J a2)), (4, .int (J a4)), (5, .int (J a5)), (6, .int (J a6)), (7, .int (J x2))] ⟨rfl, rfl, rfl, rfl, rfl, rfl, rfl, trivial⟩ ?_
      exact ih_X12_writes_177 hL _ _ (a1) (a2) (a4) (a5) (a6) (x2) _ _ H
  · have H := it_f H c6
    obtain ⟨x17, hx18, H⟩ := gv_e H
    refine GV.iinc hx18 dX12_writes_115 rfl (by decide) ?_
    refine GA.iload dX12_writes_118 rfl ?_
    refine GA.iconst dX12_writes_120 ?_
    obtain ⟨hg19, H⟩ := gg_e H
    refine GV.icmp_ne (tgt := 131) hg19 (by decide) dX12_writes_121 (by decide) (fun c20 => ?_) (fun c20 => ?_)
    · have H := it_t H c20
      refine GA.locals [(0, .ref (L 500)), (1, .int (J a1)), (2, .int (J a2)), (4, .int (J a4)), (5, .int (J x17)), (6, .int (J a6))] ⟨rfl, rfl, rfl, rfl, rfl, rfl, trivial⟩ ?_
      exact ih_X12_writes_131 hL _ _ (a1) (a2) (a4) (x17) (a6) _ _ H
    · have H := it_f H c20
      refine GA.aload_n dX12_writes_124 rfl ?_
      refine GA.iload_n dX12_writes_125 rfl ?_
      refine GA.iload dX12_writes_126 rfl ?_
      obtain ⟨x21, S_22, hc23, H⟩ := gc_e H
      refine GA.callV (m_X12_putsLine hL hc23) xs_X12_571 dX12_writes_128 (gs_500 hL) (by decide) rfl rfl (by omega) (by decide) rfl (Nat.le_of_ble_eq_true rfl) (by omega) (by omega) rfl (fun E S9 hx => hx.elim) (fun v S9 hq => ?_)
      obtain ⟨rfl, rfl⟩ := hq
      refine GA.locals [(0, .ref (L 500)), (1, .int (J a1)), (2, .int (J a2)), (4, .int (J a4)), (5, .int (J x17)), (6, .int (J a6))] ⟨rfl, rfl, rfl, rfl, rfl, rfl, trivial⟩ ?_
      exact ih_X12_writes_131 hL _ _ (a1) (a2) (a4) (x17) (a6) _ _ H
set_option maxHeartbeats 4000000 in
set_option maxRecDepth 20000 in
theorem t_X12_writes_131 {l : Launch} {Z : XZ} {L : Nat → Nat} (n : Nat) (ih_X12_writes_0 : P_X12_writes_0 l Z L n) (ih_X12_writes_44 : P_X12_writes_44 l Z L n) (ih_X12_writes_64 : P_X12_writes_64 l Z L n) (ih_X12_writes_104 : P_X12_writes_104 l Z L n) (ih_X12_writes_131 : P_X12_writes_131 l Z L n) (ih_X12_writes_177 : P_X12_writes_177 l Z L n) (ih_X12_writes_201 : P_X12_writes_201 l Z L n) (ih_X12_writes_254 : P_X12_writes_254 l Z L n) (ih_X12_writes_296 : P_X12_writes_296 l Z L n) : P_X12_writes_131 l Z L (n + 1) := by
  intro hL d S a1 a2 a4 a5 a6 x S1 H
  have H : b_X12_writes_131 n d (f_X12_writes n) S a1 a2 a4 a5 a6 = some (x, S1) := H
  unfold b_X12_writes_131 at H
  refine GA.aload_n dX12_writes_131 rfl ?_
  refine GA.iload_n dX12_writes_132 rfl ?_
  refine GA.aload_n dX12_writes_133 rfl ?_
  refine GA.iload_n dX12_writes_134 rfl ?_
  refine GA.iload dX12_writes_135 rfl ?_
  obtain ⟨hg1, H⟩ := gg_e H
  obtain ⟨x2, S_3, hc4, H⟩ := gc_e H
  refine GA.callV (m_X12_kind hL hc4) xs_X12_52 dX12_writes_137 (gs_500 hL) (by decide) rfl rfl (by omega) (by decide) rfl (Nat.le_of_ble_eq_true rfl) (by omega) (by omega) rfl (fun E S9 hx => hx.elim) (fun v S9 hq => ?_)
  obtain ⟨rfl, rfl⟩ := hq
  refine GA.iconst dX12_writes_140 ?_
  obtain ⟨hg5, H⟩ := gg_e H
  refine GV.icmp_ne (tgt := 149) hg5 (by decide) dX12_writes_141 (by decide) (fun c6 => ?_) (fun c6 => ?_)
  · have H := it_t H c6
    refine GA.bipush dX12_writes_149 rfl ?_
    obtain ⟨x7, S_8, hc9, H⟩ := gc_e H
    refine GA.callV (m_X12_puts hL hc9) xs_X12_551 dX12_writes_151 (gs_500 hL) (by decide) rfl rfl (by omega) (by decide) rfl (Nat.le_of_ble_eq_true rfl) (by omega) (by omega) rfl (fun E S9 hx => hx.elim) (fun v S9 hq => ?_)
    obtain ⟨rfl, rfl⟩ := hq
    refine GA.goto (tgt := 319) dX12_writes_154 (by decide) ?_
    refine GA.goto (tgt := 64) dX12_writes_319 (by decide) ?_
    refine GA.locals [(0, .ref (L 500)), (1, .int (J a1)), (2, .int (J a2)), (4, .int (J a4)), (5, .int (J a5))] ⟨rfl, rfl, rfl, rfl, rfl, trivial⟩ ?_
    exact ih_X12_writes_64 hL _ _ (a1) (a2) (a4) (a5) _ _ H
  · have H := it_f H c6
    refine GA.bipush dX12_writes_144 rfl ?_
    refine GA.goto (tgt := 151) dX12_writes_146 (by decide) ?_
    obtain ⟨x10, S_11, hc12, H⟩ := gc_e H
    refine GA.callV (m_X12_puts hL hc12) xs_X12_551 dX12_writes_151 (gs_500 hL) (by decide) rfl rfl (by omega) (by decide) rfl (Nat.le_of_ble_eq_true rfl) (by omega) (by omega) rfl (fun E S9 hx => hx.elim) (fun v S9 hq => ?_)
    obtain ⟨rfl, rfl⟩ := hq
    refine GA.goto (tgt := 319) dX12_writes_154 (by decide) ?_
    refine GA.goto (tgt := 64) dX12_writes_319 (by decide) ?_
    refine GA.locals [(0, .ref (L 500)), (1, .int (J a1)), (2, .int (J a2)), (4, .int (J a4)), (5, .int (J a5))] ⟨rfl, rfl, rfl, rfl, rfl, trivial⟩ ?_
    exact ih_X12_writes_64 hL _ _ (a1) (a2) (a4) (a5) _ _ H
set_option maxHeartbeats 4000000 in
set_option maxRecDepth 20000 in
theorem t_X12_writes_177 {l : Launch} {Z : XZ} {L : Nat → Nat} (n : Nat) (ih_X12_writes_0 : P_X12_writes_0 l Z L n) (ih_X12_writes_44 : P_X12_writes_44 l Z L n) (ih_X12_writes_64 : P_X12_writes_64 l Z L n) (ih_X12_writes_104 : P_X12_writes_104 l Z L n) (ih_X12_writes_131 : P_X12_writes_131 l Z L n) (ih_X12_writes_177 : P_X12_writes_177 l Z L n) (ih_X12_writes_201 : P_X12_writes_201 l Z L n) (ih_X12_writes_254 : P_X12_writes_254 l Z L n) (ih_X12_writes_296 : P_X12_writes_296 l Z L n) : P_X12_writes_177 l Z L (n + 1) := by
  intro hL d S a1 a2 a4 a5 a6 a7 x S1 H
  have H : b_X12_writes_177 n d (f_X12_writes n) S a1 a2 a4 a5 a6 a7 = some (x, S1) := H
  unfold b_X12_writes_177 at H
  refine GA.aload_n dX12_writes_177 rfl ?_
  refine GA.get xf_X12_265 dX12_writes_178 (gs_500 hL) (by decide) rfl ?_
  refine GA.iload dX12_writes_181 rfl ?_
  refine GA.iconst dX12_writes_183 ?_
  obtain ⟨x1, hx2, H⟩ := gv_e H
  refine GV.isub hx2 dX12_writes_184 ?_
  refine GA.iload dX12_writes_185 rfl ?_
  obtain ⟨hg3, H⟩ := gg_e H
  obtain ⟨S_4, hx5, H⟩ := gv_e H
  refine GV.iast hg3 hx5 dX12_writes_187 (fun _ => (gs_515 hL)) (by decide) ?_
  refine GA.iload dX12_writes_188 rfl ?_
  refine GA.iconst dX12_writes_190 ?_
  obtain ⟨hg6, H⟩ := gg_e H
  refine GV.icmp_ne (tgt := 201) hg6 (by decide) dX12_writes_191 (by decide) (fun c7 => ?_) (fun c7 => ?_)
  · have H := it_t H c7
    refine GA.locals [(0, .ref (L 500)), (1, .int (J a1)), (2, .int (J a2)), (4, .int (J a4)), (5, .int (J a5)), (6, .int (J a6)), (7, .int (J a7))] ⟨rfl, rfl, rfl, rfl, rfl, rfl, rfl, trivial⟩ ?_
    exact ih_X12_writes_201 hL _ _ (a1) (a2) (a4) (a5) (a6) (a7) _ _ H
  · have H := it_f H c7
    refine GA.aload_n dX12_writes_194 rfl ?_
    refine GA.iload_n dX12_writes_195 rfl ?_
    refine GA.iload dX12_writes_196 rfl ?_
    obtain ⟨hg8, H⟩ := gg_e H
    obtain ⟨x9, S_10, hc11, H⟩ := gc_e H
    refine GA.callV (m_X12_putsLine hL hc11) xs_X12_571 dX12_writes_198 (gs_500 hL) (by decide) rfl rfl (by omega) (by decide) rfl (Nat.le_of_ble_eq_true rfl) (by omega) (by omega) rfl (fun E S9 hx => hx.elim) (fun v S9 hq => ?_)
    obtain ⟨rfl, rfl⟩ := hq
    refine GA.locals [(0, .ref (L 500)), (1, .int (J a1)), (2, .int (J a2)), (4, .int (J a4)), (5, .int (J a5)), (6, .int (J a6)), (7, .int (J a7))] ⟨rfl, rfl, rfl, rfl, rfl, rfl, rfl, trivial⟩ ?_
    exact ih_X12_writes_201 hL _ _ (a1) (a2) (a4) (a5) (a6) (a7) _ _ H
set_option maxHeartbeats 4000000 in
set_option maxRecDepth 20000 in
theorem t_X12_writes_201 {l : Launch} {Z : XZ} {L : Nat → Nat} (n : Nat) (ih_X12_writes_0 : P_X12_writes_0 l Z L n) (ih_X12_writes_44 : P_X12_writes_44 l Z L n) (ih_X12_writes_64 : P_X12_writes_64 l Z L n) (ih_X12_writes_104 : P_X12_writes_104 l Z L n) (ih_X12_writes_131 : P_X12_writes_131 l Z L n) (ih_X12_writes_177 : P_X12_writes_177 l Z L n) (ih_X12_writes_201 : P_X12_writes_201 l Z L n) (ih_X12_writes_254 : P_X12_writes_254 l Z L n) (ih_X12_writes_296 : P_X12_writes_296 l Z L n) : P_X12_writes_201 l Z L (n + 1) := by
  intro hL d S a1 a2 a4 a5 a6 a7 x S1 H
  have H : b_X12_writes_201 n d (f_X12_writes n) S a1 a2 a4 a5 a6 a7 = some (x, S1) := H
  unfold b_X12_writes_201 at H
  refine GA.aload_n dX12_writes_201 rfl ?_
  refine GA.iload_n dX12_writes_202 rfl ?_
  refine GA.iload dX12_writes_203 rfl ?_
  obtain ⟨hg1, H⟩ := gg_e H
  obtain ⟨x2, S_3, hc4, H⟩ := gc_e H
  refine GA.callV (m_X12_kind hL hc4) xs_X12_52 dX12_writes_205 (gs_500 hL) (by decide) rfl rfl (by omega) (by decide) rfl (Nat.le_of_ble_eq_true rfl) (by omega) (by omega) rfl (fun E S9 hx => hx.elim) (fun v S9 hq => ?_)
  obtain ⟨rfl, rfl⟩ := hq
  refine GA.iconst dX12_writes_208 ?_
  obtain ⟨hg5, H⟩ := gg_e H
  refine GV.icmp_ne (tgt := 254) hg5 (by decide) dX12_writes_209 (by decide) (fun c6 => ?_) (fun c6 => ?_)
  · have H := it_t H c6
    refine GA.locals [(0, .ref (L 500)), (1, .int (J a1)), (2, .int (J a2)), (4, .int (J a4)), (5, .int (J a5)), (7, .int (J a7))] ⟨rfl, rfl, rfl, rfl, rfl, rfl, trivial⟩ ?_
    exact ih_X12_writes_254 hL _ _ (a1) (a2) (a4) (a5) (a7) _ _ H
  · have H := it_f H c6
    refine GA.aload_n dX12_writes_212 rfl ?_
    refine GA.iload_n dX12_writes_213 rfl ?_
    refine GA.iload_n dX12_writes_214 rfl ?_
    refine GA.iload dX12_writes_215 rfl ?_
    obtain ⟨x7, S_8, hc9, H⟩ := gc_e H
    refine GA.callS (m_X12_at hL hc9) xs_X12_11 dX12_writes_217 rfl (by omega) (by decide) rfl (Nat.le_of_ble_eq_true rfl) (by omega) (by omega) rfl (fun E S9 hx => hx.elim) (fun v S9 hq => ?_)
    obtain ⟨rfl, rfl⟩ := hq
    refine GA.bipush dX12_writes_220 rfl ?_
    obtain ⟨x10, hx11, H⟩ := gv_e H
    refine GV.iadd hx11 dX12_writes_222 ?_
    refine GA.aload_n dX12_writes_223 rfl ?_
    refine GA.iload_n dX12_writes_224 rfl ?_
    refine GA.iload dX12_writes_225 rfl ?_
    refine GA.iconst dX12_writes_227 ?_
    obtain ⟨x12, S_13, hc14, H⟩ := gc_e H
    refine GA.callV (m_X12_part hL hc14) xs_X12_36 dX12_writes_228 (gs_500 hL) (by decide) rfl rfl (by omega) (by decide) rfl (Nat.le_of_ble_eq_true rfl) (by omega) (by omega) rfl (fun E S9 hx => hx.elim) (fun v S9 hq => ?_)
    obtain ⟨rfl, rfl⟩ := hq
    obtain ⟨x15, S_16, hc17, H⟩ := gc_e H
    refine GA.callV (m_X12_putsQuoted hL hc17) xs_X12_561 dX12_writes_231 (gs_500 hL) (by decide) rfl rfl (by omega) (by decide) rfl (Nat.le_of_ble_eq_true rfl) (by omega) (by omega) rfl (fun E S9 hx => hx.elim) (fun v S9 hq => ?_)
    obtain ⟨rfl, rfl⟩ := hq
    refine GA.aload_n dX12_writes_234 rfl ?_
    refine GA.iload_n dX12_writes_235 rfl ?_
    refine GA.bipush dX12_writes_236 rfl ?_
    obtain ⟨x18, S_19, hc20, H⟩ := gc_e H
    refine GA.callV (m_X12_puts hL hc20) xs_X12_551 dX12_writes_238 (gs_500 hL) (by decide) rfl rfl (by omega) (by decide) rfl (Nat.le_of_ble_eq_true rfl) (by omega) (by omega) rfl (fun E S9 hx => hx.elim) (fun v S9 hq => ?_)
    obtain ⟨rfl, rfl⟩ := hq
    refine GA.iload dX12_writes_241 rfl ?_
    refine GA.iconst dX12_writes_243 ?_
    obtain ⟨hg21, H⟩ := gg_e H
    refine GV.icmp_ne (tgt := 254) hg21 (by decide) dX12_writes_244 (by decide) (fun c22 => ?_) (fun c22 => ?_)
    · have H := it_t H c22
      refine GA.locals [(0, .ref (L 500)), (1, .int (J a1)), (2, .int (J a2)), (4, .int (J a4)), (5, .int (J a5)), (7, .int (J a7))] ⟨rfl, rfl, rfl, rfl, rfl, rfl, trivial⟩ ?_
      exact ih_X12_writes_254 hL _ _ (a1) (a2) (a4) (a5) (a7) _ _ H
    · have H := it_f H c22
      refine GA.aload_n dX12_writes_247 rfl ?_
      refine GA.iload_n dX12_writes_248 rfl ?_
      refine GA.bipush dX12_writes_249 rfl ?_
      obtain ⟨x23, S_24, hc25, H⟩ := gc_e H
      refine GA.callV (m_X12_puts hL hc25) xs_X12_551 dX12_writes_251 (gs_500 hL) (by decide) rfl rfl (by omega) (by decide) rfl (Nat.le_of_ble_eq_true rfl) (by omega) (by omega) rfl (fun E S9 hx => hx.elim) (fun v S9 hq => ?_)
      obtain ⟨rfl, rfl⟩ := hq
      refine GA.locals [(0, .ref (L 500)), (1, .int (J a1)), (2, .int (J a2)), (4, .int (J a4)), (5, .int (J a5)), (7, .int (J a7))] ⟨rfl, rfl, rfl, rfl, rfl, rfl, trivial⟩ ?_
      exact ih_X12_writes_254 hL _ _ (a1) (a2) (a4) (a5) (a7) _ _ H
set_option maxHeartbeats 4000000 in
set_option maxRecDepth 20000 in
theorem t_X12_writes_254 {l : Launch} {Z : XZ} {L : Nat → Nat} (n : Nat) (ih_X12_writes_0 : P_X12_writes_0 l Z L n) (ih_X12_writes_44 : P_X12_writes_44 l Z L n) (ih_X12_writes_64 : P_X12_writes_64 l Z L n) (ih_X12_writes_104 : P_X12_writes_104 l Z L n) (ih_X12_writes_131 : P_X12_writes_131 l Z L n) (ih_X12_writes_177 : P_X12_writes_177 l Z L n) (ih_X12_writes_201 : P_X12_writes_201 l Z L n) (ih_X12_writes_254 : P_X12_writes_254 l Z L n) (ih_X12_writes_296 : P_X12_writes_296 l Z L n) : P_X12_writes_254 l Z L (n + 1) := by
  intro hL d S a1 a2 a4 a5 a7 x S1 H
  have H : b_X12_writes_254 n d (f_X12_writes n) S a1 a2 a4 a5 a7 = some (x, S1) := H
  unfold b_X12_writes_254 at H
  refine GA.aload_n dX12_writes_254 rfl ?_
  refine GA.iload_n dX12_writes_255 rfl ?_
  refine GA.iload dX12_writes_256 rfl ?_
  refine GA.iconst dX12_writes_258 ?_
  obtain ⟨hg1, H⟩ := gg_e H
  obtain ⟨x2, S_3, hc4, H⟩ := gc_e H
  refine GA.callV (m_X12_part hL hc4) xs_X12_36 dX12_writes_259 (gs_500 hL) (by decide) rfl rfl (by omega) (by decide) rfl (Nat.le_of_ble_eq_true rfl) (by omega) (by omega) rfl (fun E S9 hx => hx.elim) (fun v S9 hq => ?_)
  obtain ⟨rfl, rfl⟩ := hq
  obtain ⟨hg5, H⟩ := gg_e H
  refine GV.if_ne (tgt := 276) hg5 dX12_writes_262 (by decide) (fun c6 => ?_) (fun c6 => ?_)
  · have H := it_t H c6
    refine GA.aload_n dX12_writes_276 rfl ?_
    refine GA.iload_n dX12_writes_277 rfl ?_
    refine GA.aload_n dX12_writes_278 rfl ?_
    refine GA.iload_n dX12_writes_279 rfl ?_
    refine GA.iload dX12_writes_280 rfl ?_
    obtain ⟨x7, S_8, hc9, H⟩ := gc_e H
    refine GA.callV (m_X12_kind hL hc9) xs_X12_52 dX12_writes_282 (gs_500 hL) (by decide) rfl rfl (by omega) (by decide) rfl (Nat.le_of_ble_eq_true rfl) (by omega) (by omega) rfl (fun E S9 hx => hx.elim) (fun v S9 hq => ?_)
    obtain ⟨rfl, rfl⟩ := hq
    refine GA.iconst dX12_writes_285 ?_
    obtain ⟨hg10, H⟩ := gg_e H
    refine GV.icmp_ne (tgt := 294) hg10 (by decide) dX12_writes_286 (by decide) (fun c11 => ?_) (fun c11 => ?_)
    · have H := it_t H c11
      refine GA.bipush dX12_writes_294 rfl ?_
      refine GA.locals [(0, .ref (L 500)), (1, .int (J a1)), (2, .int (J a2)), (4, .int (J a4)), (5, .int (J a5)), (7, .int (J a7))] ⟨rfl, rfl, rfl, rfl, rfl, rfl, trivial⟩ ?_
      exact ih_X12_writes_296 hL _ _ (a1) (a2) (a4) (a5) (a7) (123) (a1) _ _ H
    · have H := it_f H c11
      refine GA.bipush dX12_writes_289 rfl ?_
      refine GA.goto (tgt := 296) dX12_writes_291 (by decide) ?_
      refine GA.locals [(0, .ref (L 500)), (1, .int (J a1)), (2, .int (J a2)), (4, .int (J a4)), (5, .int (J a5)), (7, .int (J a7))] ⟨rfl, rfl, rfl, rfl, rfl, rfl, trivial⟩ ?_
      exact ih_X12_writes_296 hL _ _ (a1) (a2) (a4) (a5) (a7) (91) (a1) _ _ H
  · have H := it_f H c6
    refine GA.aload_n dX12_writes_265 rfl ?_
    refine GA.iload_n dX12_writes_266 rfl ?_
    refine GA.iload_n dX12_writes_267 rfl ?_
    refine GA.iload dX12_writes_268 rfl ?_
    obtain ⟨x12, S_13, hc14, H⟩ := gc_e H
    refine GA.callV (m_X12_putsScalar hL hc14) xs_X12_568 dX12_writes_270 (gs_500 hL) (by decide) rfl rfl (by omega) (by decide) rfl (Nat.le_of_ble_eq_true rfl) (by omega) (by omega) rfl (fun E S9 hx => hx.elim) (fun v S9 hq => ?_)
    obtain ⟨rfl, rfl⟩ := hq
    refine GA.goto (tgt := 319) dX12_writes_273 (by decide) ?_
    refine GA.goto (tgt := 64) dX12_writes_319 (by decide) ?_
    refine GA.locals [(0, .ref (L 500)), (1, .int (J a1)), (2, .int (J a2)), (4, .int (J a4)), (5, .int (J a5))] ⟨rfl, rfl, rfl, rfl, rfl, trivial⟩ ?_
    exact ih_X12_writes_64 hL _ _ (a1) (a2) (a4) (a5) _ _ H
set_option maxHeartbeats 4000000 in
set_option maxRecDepth 20000 in
theorem t_X12_writes_296 {l : Launch} {Z : XZ} {L : Nat → Nat} (n : Nat) (ih_X12_writes_0 : P_X12_writes_0 l Z L n) (ih_X12_writes_44 : P_X12_writes_44 l Z L n) (ih_X12_writes_64 : P_X12_writes_64 l Z L n) (ih_X12_writes_104 : P_X12_writes_104 l Z L n) (ih_X12_writes_131 : P_X12_writes_131 l Z L n) (ih_X12_writes_177 : P_X12_writes_177 l Z L n) (ih_X12_writes_201 : P_X12_writes_201 l Z L n) (ih_X12_writes_254 : P_X12_writes_254 l Z L n) (ih_X12_writes_296 : P_X12_writes_296 l Z L n) : P_X12_writes_296 l Z L (n + 1) := by
  intro hL d S a1 a2 a4 a5 a7 s0 s1 x S1 H
  have H : b_X12_writes_296 n d (f_X12_writes n) S a1 a2 a4 a5 a7 s0 s1 = some (x, S1) := H
  unfold b_X12_writes_296 at H
  obtain ⟨hg1, H⟩ := gg_e H
  obtain ⟨x2, S_3, hc4, H⟩ := gc_e H
  refine GA.callV (m_X12_puts hL hc4) xs_X12_551 dX12_writes_296 (gs_500 hL) (by decide) rfl rfl (by omega) (by decide) rfl (Nat.le_of_ble_eq_true rfl) (by omega) (by omega) rfl (fun E S9 hx => hx.elim) (fun v S9 hq => ?_)
  obtain ⟨rfl, rfl⟩ := hq
  refine GA.aload_n dX12_writes_299 rfl ?_
  refine GA.get xf_X12_259 dX12_writes_300 (gs_500 hL) (by decide) rfl ?_
  refine GA.iload dX12_writes_303 rfl ?_
  refine GA.iload dX12_writes_305 rfl ?_
  obtain ⟨hg5, H⟩ := gg_e H
  obtain ⟨S_6, hx7, H⟩ := gv_e H
  refine GV.iast hg5 hx7 dX12_writes_307 (fun _ => (gs_513 hL)) (by decide) ?_
  refine GA.aload_n dX12_writes_308 rfl ?_
  refine GA.get xf_X12_265 dX12_writes_309 (gs_500 hL) (by decide) rfl ?_
  refine GA.iload dX12_writes_312 rfl ?_
  refine GA.iconst dX12_writes_314 ?_
  obtain ⟨S_8, hx9, H⟩ := gv_e H
  refine GV.iast hg5 hx9 dX12_writes_315 (fun _ => (gs_515 hL)) (by decide) ?_
  obtain ⟨x10, hx11, H⟩ := gv_e H
  refine GV.iinc hx11 dX12_writes_316 rfl (by decide) ?_
  refine GA.goto (tgt := 64) dX12_writes_319 (by decide) ?_
  refine GA.locals [(0, .ref (L 500)), (1, .int (J a1)), (2, .int (J a2)), (4, .int (J a4)), (5, .int (J x10))] ⟨rfl, rfl, rfl, rfl, rfl, trivial⟩ ?_
  exact ih_X12_writes_64 hL _ _ (a1) (a2) (a4) (x10) _ _ H
theorem g_X12_writes {l : Launch} {Z : XZ} {L : Nat → Nat} : ∀ n, P_X12_writes_0 l Z L n ∧ P_X12_writes_44 l Z L n ∧ P_X12_writes_64 l Z L n ∧ P_X12_writes_104 l Z L n ∧ P_X12_writes_131 l Z L n ∧ P_X12_writes_177 l Z L n ∧ P_X12_writes_201 l Z L n ∧ P_X12_writes_254 l Z L n ∧ P_X12_writes_296 l Z L n
  | 0 => ⟨fun _ _ _ _ _ _ _ _ _ H => no_e H, fun _ _ _ _ _ _ _ _ _ _ _ H => no_e H, fun _ _ _ _ _ _ _ _ _ H => no_e H, fun _ _ _ _ _ _ _ _ _ _ _ _ _ _ H => no_e H, fun _ _ _ _ _ _ _ _ _ _ H => no_e H, fun _ _ _ _ _ _ _ _ _ _ _ H => no_e H, fun _ _ _ _ _ _ _ _ _ _ _ H => no_e H, fun _ _ _ _ _ _ _ _ _ _ H => no_e H, fun _ _ _ _ _ _ _ _ _ _ _ _ H => no_e H⟩
  | n + 1 => have ⟨h0, h1, h2, h3, h4, h5, h6, h7, h8⟩ := g_X12_writes (l := l) (Z := Z) (L := L) n
    ⟨t_X12_writes_0 n h0 h1 h2 h3 h4 h5 h6 h7 h8, t_X12_writes_44 n h0 h1 h2 h3 h4 h5 h6 h7 h8, t_X12_writes_64 n h0 h1 h2 h3 h4 h5 h6 h7 h8, t_X12_writes_104 n h0 h1 h2 h3 h4 h5 h6 h7 h8, t_X12_writes_131 n h0 h1 h2 h3 h4 h5 h6 h7 h8, t_X12_writes_177 n h0 h1 h2 h3 h4 h5 h6 h7 h8, t_X12_writes_201 n h0 h1 h2 h3 h4 h5 h6 h7 h8, t_X12_writes_254 n h0 h1 h2 h3 h4 h5 h6 h7 h8, t_X12_writes_296 n h0 h1 h2 h3 h4 h5 h6 h7 h8⟩
theorem m_X12_writes {l : Launch} {Z : XZ} {L : Nat → Nat} (hL : L 700 = 1) {n d : Nat} {S : GS} {a1 : Int} {a2 : Int} {a3 : Int} {a4 : Int} {x : Int} {S1 : GS} (H : f_X12_writes n d 0 S [a1, a2, a3, a4] = some (x, S1)) : GM l Z L yX12_writes cX12_writes 8 none [] d 0 0 [.ref (L 500), .int (J a1), .int (J a2), .int (J a3), .int (J a4)] S (fun v S' => v = none ∧ S1 = S') (fun _ _ => False) := GM.of (by decide) (Nat.le_of_ble_eq_true rfl) ((g_X12_writes n).1 hL _ _ _ _ _ _ _ _ H)

def P_X12_areEqual_0 (l : Launch) (Z : XZ) (L : Nat → Nat) (n : Nat) : Prop := ∀ (hL : L 700 = 1), ∀ (d : Nat) (S : GS) (a1 : Int) (a2 : Int) (a3 : Int) (a4 : Int) (x : Int) (S1 : GS), f_X12_areEqual n d 0 S [a1, a2, a3, a4] = some (x, S1) → GA l Z L yX12_areEqual cX12_areEqual 7 (some .boolean) [] d 0 0 (fun v S' => v = some (.int (J x)) ∧ S1 = S') (fun _ _ => False) 0 (gl [(0, .ref (L 500)), (1, .int (J a1)), (2, .int (J a2)), (3, .int (J a3)), (4, .int (J a4))]) [] S 0 0
def P_X12_areEqual_78 (l : Launch) (Z : XZ) (L : Nat → Nat) (n : Nat) : Prop := ∀ (hL : L 700 = 1), ∀ (d : Nat) (S : GS) (a5 : Int) (a6 : Int) (x : Int) (S1 : GS), f_X12_areEqual n d 78 S [a5, a6] = some (x, S1) → GA l Z L yX12_areEqual cX12_areEqual 7 (some .boolean) [] d 0 0 (fun v S' => v = some (.int (J x)) ∧ S1 = S') (fun _ _ => False) 78 (gl [(0, .ref (L 500)), (5, .int (J a5)), (6, .int (J a6))]) [] S 0 0
theorem i_X12_areEqual {l : Launch} {Z : XZ} {L : Nat → Nat} (hL : L 700 = 1) {n : Nat} (ih : P_X12_areEqual_0 l Z L n) {d : Nat} {S : GS} {a1 : Int} {a2 : Int} {a3 : Int} {a4 : Int} {x : Int} {S1 : GS} (H : f_X12_areEqual n d 0 S [a1, a2, a3, a4] = some (x, S1)) : GM l Z L yX12_areEqual cX12_areEqual 7 (some .boolean) [] d 0 0 [.ref (L 500), .int (J a1), .int (J a2), .int (J a3), .int (J a4)] S (fun v S' => v = some (.int (J x)) ∧ S1 = S') (fun _ _ => False) := GM.of (by decide) (Nat.le_of_ble_eq_true rfl) (ih hL _ _ _ _ _ _ _ _ H)
set_option maxHeartbeats 4000000 in
set_option maxRecDepth 20000 in
theorem t_X12_areEqual_0 {l : Launch} {Z : XZ} {L : Nat → Nat} (n : Nat) (ih_X12_areEqual_0 : P_X12_areEqual_0 l Z L n) (ih_X12_areEqual_78 : P_X12_areEqual_78 l Z L n) : P_X12_areEqual_0 l Z L (n + 1) := by
  intro hL d S a1 a2 a3 a4 x S1 H
  have H : b_X12_areEqual_0 n d (f_X12_areEqual n) S a1 a2 a3 a4 = some (x, S1) := H
  unfold b_X12_areEqual_0 at H
  refine GA.aload_n dX12_areEqual_0 rfl ?_
  refine GA.iload_n dX12_areEqual_1 rfl ?_
  refine GA.iload_n dX12_areEqual_2 rfl ?_
  obtain ⟨hg1, H⟩ := gg_e H
  obtain ⟨x2, S_3, hc4, H⟩ := gc_e H
  refine GA.callV (m_X12_kind hL hc4) xs_X12_52 dX12_areEqual_3 (gs_500 hL) (by decide) rfl rfl (by omega) (by decide) rfl (Nat.le_of_ble_eq_true rfl) (by omega) (by omega) rfl (fun E S9 hx => hx.elim) (fun v S9 hq => ?_)
  obtain ⟨rfl, rfl⟩ := hq
  refine GA.aload_n dX12_areEqual_6 rfl ?_
  refine GA.iload_n dX12_areEqual_7 rfl ?_
  refine GA.iload dX12_areEqual_8 rfl ?_
  obtain ⟨x5, S_6, hc7, H⟩ := gc_e H
  refine GA.callV (m_X12_kind hL hc7) xs_X12_52 dX12_areEqual_10 (gs_500 hL) (by decide) rfl rfl (by omega) (by decide) rfl (Nat.le_of_ble_eq_true rfl) (by omega) (by omega) rfl (fun E S9 hx => hx.elim) (fun v S9 hq => ?_)
  obtain ⟨rfl, rfl⟩ := hq
  obtain ⟨hg8, H⟩ := gg_e H
  obtain ⟨hg9, H⟩ := gg_e H
  refine GV.icmp_ne (tgt := 34) hg8 hg9 dX12_areEqual_13 (by decide) (fun c10 => ?_) (fun c10 => ?_)
  · have H := it_t H c10
    refine GA.iconst dX12_areEqual_34 ?_
    cases H
    exact GV.zret (by decide) rfl dX12_areEqual_35 (by omega) (by omega) ⟨rfl, rfl⟩
  · have H := it_f H c10
    refine GA.aload_n dX12_areEqual_16 rfl ?_
    refine GA.iload_n dX12_areEqual_17 rfl ?_
    refine GA.iload_n dX12_areEqual_18 rfl ?_
    refine GA.iconst dX12_areEqual_19 ?_
    obtain ⟨x11, S_12, hc13, H⟩ := gc_e H
    refine GA.callV (m_X12_part hL hc13) xs_X12_36 dX12_areEqual_20 (gs_500 hL) (by decide) rfl rfl (by omega) (by decide) rfl (Nat.le_of_ble_eq_true rfl) (by omega) (by omega) rfl (fun E S9 hx => hx.elim) (fun v S9 hq => ?_)
    obtain ⟨rfl, rfl⟩ := hq
    refine GA.aload_n dX12_areEqual_23 rfl ?_
    refine GA.iload_n dX12_areEqual_24 rfl ?_
    refine GA.iload dX12_areEqual_25 rfl ?_
    refine GA.iconst dX12_areEqual_27 ?_
    obtain ⟨x14, S_15, hc16, H⟩ := gc_e H
    refine GA.callV (m_X12_part hL hc16) xs_X12_36 dX12_areEqual_28 (gs_500 hL) (by decide) rfl rfl (by omega) (by decide) rfl (Nat.le_of_ble_eq_true rfl) (by omega) (by omega) rfl (fun E S9 hx => hx.elim) (fun v S9 hq => ?_)
    obtain ⟨rfl, rfl⟩ := hq
    obtain ⟨hg17, H⟩ := gg_e H
    obtain ⟨hg18, H⟩ := gg_e H
    refine GV.icmp_eq (tgt := 36) hg17 hg18 dX12_areEqual_31 (by decide) (fun c19 => ?_) (fun c19 => ?_)
    · have H := it_t H c19
      refine GA.aload_n dX12_areEqual_36 rfl ?_
      refine GA.iconst dX12_areEqual_37 ?_
      refine GA.iload_n dX12_areEqual_38 rfl ?_
      refine GA.iload_n dX12_areEqual_39 rfl ?_
      refine GA.iconst dX12_areEqual_40 ?_
      obtain ⟨x20, S_21, hc22, H⟩ := gc_e H
      refine GA.callV (m_X12_writes hL hc22) xs_X12_574 dX12_areEqual_41 (gs_500 hL) (by decide) rfl rfl (by omega) (by decide) rfl (Nat.le_of_ble_eq_true rfl) (by omega) (by omega) rfl (fun E S9 hx => hx.elim) (fun v S9 hq => ?_)
      obtain ⟨rfl, rfl⟩ := hq
      refine GA.aload_n dX12_areEqual_44 rfl ?_
      refine GA.iconst dX12_areEqual_45 ?_
      refine GA.iload_n dX12_areEqual_46 rfl ?_
      refine GA.iload dX12_areEqual_47 rfl ?_
      refine GA.iconst dX12_areEqual_49 ?_
      obtain ⟨x23, S_24, hc25, H⟩ := gc_e H
      refine GA.callV (m_X12_writes hL hc25) xs_X12_574 dX12_areEqual_50 (gs_500 hL) (by decide) rfl rfl (by omega) (by decide) rfl (Nat.le_of_ble_eq_true rfl) (by omega) (by omega) rfl (fun E S9 hx => hx.elim) (fun v S9 hq => ?_)
      obtain ⟨rfl, rfl⟩ := hq
      refine GA.aload_n dX12_areEqual_53 rfl ?_
      refine GA.get xf_X12_272 dX12_areEqual_54 (gs_500 hL) (by decide) rfl ?_
      refine GA.iconst dX12_areEqual_57 ?_
      obtain ⟨hg26, H⟩ := gg_e H
      obtain ⟨x27, hx28, H⟩ := gv_e H
      refine GV.iald hg26 hx28 dX12_areEqual_58 (gs_517 hL) (by decide) ?_
      refine GA.aload_n dX12_areEqual_59 rfl ?_
      refine GA.get xf_X12_272 dX12_areEqual_60 (gs_500 hL) (by decide) rfl ?_
      refine GA.iconst dX12_areEqual_63 ?_
      obtain ⟨hg29, H⟩ := gg_e H
      obtain ⟨x30, hx31, H⟩ := gv_e H
      refine GV.iald hg29 hx31 dX12_areEqual_64 (gs_517 hL) (by decide) ?_
      obtain ⟨hg32, H⟩ := gg_e H
      obtain ⟨hg33, H⟩ := gg_e H
      refine GV.icmp_ne (tgt := 72) hg32 hg33 dX12_areEqual_65 (by decide) (fun c34 => ?_) (fun c34 => ?_)
      · have H := it_t H c34
        refine GA.iconst dX12_areEqual_72 ?_
        refine GA.istore dX12_areEqual_73 (by decide) ?_
        refine GA.iconst dX12_areEqual_75 ?_
        refine GA.istore dX12_areEqual_76 (by decide) ?_
        refine GA.locals [(0, .ref (L 500)), (5, .int (J 0)), (6, .int (J 0))] ⟨rfl, rfl, rfl, trivial⟩ ?_
        exact ih_X12_areEqual_78 hL _ _ (0) (0) _ _ H
      · have H := it_f H c34
        refine GA.iconst dX12_areEqual_68 ?_
        refine GA.goto (tgt := 73) dX12_areEqual_69 (by decide) ?_
        refine GA.istore dX12_areEqual_73 (by decide) ?_
        refine GA.iconst dX12_areEqual_75 ?_
        refine GA.istore dX12_areEqual_76 (by decide) ?_
        refine GA.locals [(0, .ref (L 500)), (5, .int (J 1)), (6, .int (J 0))] ⟨rfl, rfl, rfl, trivial⟩ ?_
        exact ih_X12_areEqual_78 hL _ _ (1) (0) _ _ H
    · have H := it_f H c19
      refine GA.iconst dX12_areEqual_34 ?_
      cases H
      exact GV.zret (by decide) rfl dX12_areEqual_35 (by omega) (by omega) ⟨rfl, rfl⟩
set_option maxHeartbeats 4000000 in
set_option maxRecDepth 20000 in
theorem t_X12_areEqual_78 {l : Launch} {Z : XZ} {L : Nat → Nat} (n : Nat) (ih_X12_areEqual_0 : P_X12_areEqual_0 l Z L n) (ih_X12_areEqual_78 : P_X12_areEqual_78 l Z L n) : P_X12_areEqual_78 l Z L (n + 1) := by
  intro hL d S a5 a6 x S1 H
  have H : b_X12_areEqual_78 n d (f_X12_areEqual n) S a5 a6 = some (x, S1) := H
  unfold b_X12_areEqual_78 at H
  refine GA.iload dX12_areEqual_78 rfl ?_
  refine GA.aload_n dX12_areEqual_80 rfl ?_
  refine GA.get xf_X12_272 dX12_areEqual_81 (gs_500 hL) (by decide) rfl ?_
  refine GA.iconst dX12_areEqual_84 ?_
  obtain ⟨hg1, H⟩ := gg_e H
  obtain ⟨x2, hx3, H⟩ := gv_e H
  refine GV.iald hg1 hx3 dX12_areEqual_85 (gs_517 hL) (by decide) ?_
  obtain ⟨hg4, H⟩ := gg_e H
  obtain ⟨hg5, H⟩ := gg_e H
  refine GV.icmp_ge (tgt := 127) hg4 hg5 dX12_areEqual_86 (by decide) (fun c6 => ?_) (fun c6 => ?_)
  · have H := it_t H c6
    refine GA.iload dX12_areEqual_127 rfl ?_
    obtain ⟨hg7, H⟩ := gg_e H
    cases H
    exact GV.zret hg7 rfl dX12_areEqual_129 (by omega) (by omega) ⟨rfl, rfl⟩
  · have H := it_f H c6
    refine GA.iload dX12_areEqual_89 rfl ?_
    obtain ⟨hg8, H⟩ := gg_e H
    refine GV.if_eq (tgt := 127) hg8 dX12_areEqual_91 (by decide) (fun c9 => ?_) (fun c9 => ?_)
    · have H := it_t H c9
      refine GA.iload dX12_areEqual_127 rfl ?_
      obtain ⟨hg10, H⟩ := gg_e H
      cases H
      exact GV.zret hg10 rfl dX12_areEqual_129 (by omega) (by omega) ⟨rfl, rfl⟩
    · have H := it_f H c9
      refine GA.aload_n dX12_areEqual_94 rfl ?_
      refine GA.get xf_X12_269 dX12_areEqual_95 (gs_500 hL) (by decide) rfl ?_
      refine GA.iload dX12_areEqual_98 rfl ?_
      obtain ⟨hg11, H⟩ := gg_e H
      obtain ⟨x12, hx13, H⟩ := gv_e H
      refine GV.iald hg11 hx13 dX12_areEqual_100 (gs_516 hL) (by decide) ?_
      refine GA.aload_n dX12_areEqual_101 rfl ?_
      refine GA.get xf_X12_269 dX12_areEqual_102 (gs_500 hL) (by decide) rfl ?_
      refine GA.ldc (v := 40000) xc_X12_91 dX12_areEqual_105 ?_
      refine GA.iload dX12_areEqual_107 rfl ?_
      obtain ⟨x14, hx15, H⟩ := gv_e H
      refine GV.iadd hx15 dX12_areEqual_109 ?_
      obtain ⟨hg16, H⟩ := gg_e H
      obtain ⟨x17, hx18, H⟩ := gv_e H
      refine GV.iald hg16 hx18 dX12_areEqual_110 (gs_516 hL) (by decide) ?_
      obtain ⟨hg19, H⟩ := gg_e H
      obtain ⟨hg20, H⟩ := gg_e H
      refine GV.icmp_ne (tgt := 118) hg19 hg20 dX12_areEqual_111 (by decide) (fun c21 => ?_) (fun c21 => ?_)
      · have H := it_t H c21
        refine GA.iconst dX12_areEqual_118 ?_
        refine GA.istore dX12_areEqual_119 (by decide) ?_
        obtain ⟨x22, hx23, H⟩ := gv_e H
        refine GV.iinc hx23 dX12_areEqual_121 rfl (by decide) ?_
        refine GA.goto (tgt := 78) dX12_areEqual_124 (by decide) ?_
        refine GA.locals [(0, .ref (L 500)), (5, .int (J 0)), (6, .int (J x22))] ⟨rfl, rfl, rfl, trivial⟩ ?_
        exact ih_X12_areEqual_78 hL _ _ (0) (x22) _ _ H
      · have H := it_f H c21
        refine GA.iconst dX12_areEqual_114 ?_
        refine GA.goto (tgt := 119) dX12_areEqual_115 (by decide) ?_
        refine GA.istore dX12_areEqual_119 (by decide) ?_
        obtain ⟨x24, hx25, H⟩ := gv_e H
        refine GV.iinc hx25 dX12_areEqual_121 rfl (by decide) ?_
        refine GA.goto (tgt := 78) dX12_areEqual_124 (by decide) ?_
        refine GA.locals [(0, .ref (L 500)), (5, .int (J 1)), (6, .int (J x24))] ⟨rfl, rfl, rfl, trivial⟩ ?_
        exact ih_X12_areEqual_78 hL _ _ (1) (x24) _ _ H
theorem g_X12_areEqual {l : Launch} {Z : XZ} {L : Nat → Nat} : ∀ n, P_X12_areEqual_0 l Z L n ∧ P_X12_areEqual_78 l Z L n
  | 0 => ⟨fun _ _ _ _ _ _ _ _ _ H => no_e H, fun _ _ _ _ _ _ _ H => no_e H⟩
  | n + 1 => have ⟨h0, h1⟩ := g_X12_areEqual (l := l) (Z := Z) (L := L) n
    ⟨t_X12_areEqual_0 n h0 h1, t_X12_areEqual_78 n h0 h1⟩
theorem m_X12_areEqual {l : Launch} {Z : XZ} {L : Nat → Nat} (hL : L 700 = 1) {n d : Nat} {S : GS} {a1 : Int} {a2 : Int} {a3 : Int} {a4 : Int} {x : Int} {S1 : GS} (H : f_X12_areEqual n d 0 S [a1, a2, a3, a4] = some (x, S1)) : GM l Z L yX12_areEqual cX12_areEqual 7 (some .boolean) [] d 0 0 [.ref (L 500), .int (J a1), .int (J a2), .int (J a3), .int (J a4)] S (fun v S' => v = some (.int (J x)) ∧ S1 = S') (fun _ _ => False) := GM.of (by decide) (Nat.le_of_ble_eq_true rfl) ((g_X12_areEqual n).1 hL _ _ _ _ _ _ _ _ H)

def P_X12_areAlike_0 (l : Launch) (Z : XZ) (L : Nat → Nat) (n : Nat) : Prop := ∀ (hL : L 700 = 1), ∀ (d : Nat) (S : GS) (a1 : Int) (a2 : Int) (a3 : Int) (a4 : Int) (x : Int) (S1 : GS), f_X12_areAlike n d 0 S [a1, a2, a3, a4] = some (x, S1) → GA l Z L yX12_areAlike cX12_areAlike 5 (some .boolean) [] d 0 0 (fun v S' => v = some (.int (J x)) ∧ S1 = S') (fun _ _ => False) 0 (gl [(0, .ref (L 500)), (1, .int (J a1)), (2, .int (J a2)), (3, .int (J a3)), (4, .int (J a4))]) [] S 0 0
def P_X12_areAlike_11 (l : Launch) (Z : XZ) (L : Nat → Nat) (n : Nat) : Prop := ∀ (hL : L 700 = 1), ∀ (d : Nat) (S : GS) (a2 : Int) (a4 : Int) (x : Int) (S1 : GS), f_X12_areAlike n d 11 S [a2, a4] = some (x, S1) → GA l Z L yX12_areAlike cX12_areAlike 5 (some .boolean) [] d 0 0 (fun v S' => v = some (.int (J x)) ∧ S1 = S') (fun _ _ => False) 11 (gl [(2, .int (J a2)), (4, .int (J a4))]) [] S 0 0
theorem i_X12_areAlike {l : Launch} {Z : XZ} {L : Nat → Nat} (hL : L 700 = 1) {n : Nat} (ih : P_X12_areAlike_0 l Z L n) {d : Nat} {S : GS} {a1 : Int} {a2 : Int} {a3 : Int} {a4 : Int} {x : Int} {S1 : GS} (H : f_X12_areAlike n d 0 S [a1, a2, a3, a4] = some (x, S1)) : GM l Z L yX12_areAlike cX12_areAlike 5 (some .boolean) [] d 0 0 [.ref (L 500), .int (J a1), .int (J a2), .int (J a3), .int (J a4)] S (fun v S' => v = some (.int (J x)) ∧ S1 = S') (fun _ _ => False) := GM.of (by decide) (Nat.le_of_ble_eq_true rfl) (ih hL _ _ _ _ _ _ _ _ H)
set_option maxHeartbeats 4000000 in
set_option maxRecDepth 20000 in
theorem t_X12_areAlike_0 {l : Launch} {Z : XZ} {L : Nat → Nat} (n : Nat) (ih_X12_areAlike_0 : P_X12_areAlike_0 l Z L n) (ih_X12_areAlike_11 : P_X12_areAlike_11 l Z L n) : P_X12_areAlike_0 l Z L (n + 1) := by
  intro hL d S a1 a2 a3 a4 x S1 H
  have H : b_X12_areAlike_0 n d (f_X12_areAlike n) S a1 a2 a3 a4 = some (x, S1) := H
  unfold b_X12_areAlike_0 at H
  refine GA.iload_n dX12_areAlike_0 rfl ?_
  refine GA.iconst dX12_areAlike_1 ?_
  obtain ⟨hg1, H⟩ := gg_e H
  refine GV.icmp_eq (tgt := 11) hg1 (by decide) dX12_areAlike_2 (by decide) (fun c2 => ?_) (fun c2 => ?_)
  · have H := it_t H c2
    refine GA.locals [(2, .int (J a2)), (4, .int (J a4))] ⟨rfl, rfl, trivial⟩ ?_
    exact ih_X12_areAlike_11 hL _ _ (a2) (a4) _ _ H
  · have H := it_f H c2
    refine GA.iload dX12_areAlike_5 rfl ?_
    refine GA.iconst dX12_areAlike_7 ?_
    obtain ⟨hg3, H⟩ := gg_e H
    refine GV.icmp_ne (tgt := 25) hg3 (by decide) dX12_areAlike_8 (by decide) (fun c4 => ?_) (fun c4 => ?_)
    · have H := it_t H c4
      refine GA.aload_n dX12_areAlike_25 rfl ?_
      refine GA.iload_n dX12_areAlike_26 rfl ?_
      refine GA.iload_n dX12_areAlike_27 rfl ?_
      refine GA.iload_n dX12_areAlike_28 rfl ?_
      refine GA.iload dX12_areAlike_29 rfl ?_
      obtain ⟨hg5, H⟩ := gg_e H
      obtain ⟨x6, S_7, hc8, H⟩ := gc_e H
      refine GA.callV (m_X12_areEqual hL hc8) xs_X12_590 dX12_areAlike_31 (gs_500 hL) (by decide) rfl rfl (by omega) (by decide) rfl (Nat.le_of_ble_eq_true rfl) (by omega) (by omega) rfl (fun E S9 hx => hx.elim) (fun v S9 hq => ?_)
      obtain ⟨rfl, rfl⟩ := hq
      obtain ⟨hg9, H⟩ := gg_e H
      cases H
      exact GV.zret hg9 rfl dX12_areAlike_34 (by omega) (by omega) ⟨rfl, rfl⟩
    · have H := it_f H c4
      refine GA.locals [(2, .int (J a2)), (4, .int (J a4))] ⟨rfl, rfl, trivial⟩ ?_
      exact ih_X12_areAlike_11 hL _ _ (a2) (a4) _ _ H
set_option maxHeartbeats 4000000 in
set_option maxRecDepth 20000 in
theorem t_X12_areAlike_11 {l : Launch} {Z : XZ} {L : Nat → Nat} (n : Nat) (ih_X12_areAlike_0 : P_X12_areAlike_0 l Z L n) (ih_X12_areAlike_11 : P_X12_areAlike_11 l Z L n) : P_X12_areAlike_11 l Z L (n + 1) := by
  intro hL d S a2 a4 x S1 H
  have H : b_X12_areAlike_11 n d (f_X12_areAlike n) S a2 a4 = some (x, S1) := H
  unfold b_X12_areAlike_11 at H
  refine GA.iload_n dX12_areAlike_11 rfl ?_
  refine GA.iload dX12_areAlike_12 rfl ?_
  obtain ⟨hg1, H⟩ := gg_e H
  obtain ⟨hg2, H⟩ := gg_e H
  refine GV.icmp_ne (tgt := 21) hg1 hg2 dX12_areAlike_14 (by decide) (fun c3 => ?_) (fun c3 => ?_)
  · have H := it_t H c3
    refine GA.iconst dX12_areAlike_21 ?_
    refine GA.goto (tgt := 34) dX12_areAlike_22 (by decide) ?_
    cases H
    exact GV.zret (by decide) rfl dX12_areAlike_34 (by omega) (by omega) ⟨rfl, rfl⟩
  · have H := it_f H c3
    refine GA.iconst dX12_areAlike_17 ?_
    refine GA.goto (tgt := 34) dX12_areAlike_18 (by decide) ?_
    cases H
    exact GV.zret (by decide) rfl dX12_areAlike_34 (by omega) (by omega) ⟨rfl, rfl⟩
theorem g_X12_areAlike {l : Launch} {Z : XZ} {L : Nat → Nat} : ∀ n, P_X12_areAlike_0 l Z L n ∧ P_X12_areAlike_11 l Z L n
  | 0 => ⟨fun _ _ _ _ _ _ _ _ _ H => no_e H, fun _ _ _ _ _ _ _ H => no_e H⟩
  | n + 1 => have ⟨h0, h1⟩ := g_X12_areAlike (l := l) (Z := Z) (L := L) n
    ⟨t_X12_areAlike_0 n h0 h1, t_X12_areAlike_11 n h0 h1⟩
theorem m_X12_areAlike {l : Launch} {Z : XZ} {L : Nat → Nat} (hL : L 700 = 1) {n d : Nat} {S : GS} {a1 : Int} {a2 : Int} {a3 : Int} {a4 : Int} {x : Int} {S1 : GS} (H : f_X12_areAlike n d 0 S [a1, a2, a3, a4] = some (x, S1)) : GM l Z L yX12_areAlike cX12_areAlike 5 (some .boolean) [] d 0 0 [.ref (L 500), .int (J a1), .int (J a2), .int (J a3), .int (J a4)] S (fun v S' => v = some (.int (J x)) ∧ S1 = S') (fun _ _ => False) := GM.of (by decide) (Nat.le_of_ble_eq_true rfl) ((g_X12_areAlike n).1 hL _ _ _ _ _ _ _ _ H)

def P_X12_childAt_0 (l : Launch) (Z : XZ) (L : Nat → Nat) (n : Nat) : Prop := ∀ (hL : L 700 = 1), ∀ (d : Nat) (S : GS) (a1 : Int) (a2 : Int) (a3 : Int) (x : Int) (S1 : GS), f_X12_childAt n d 0 S [a1, a2, a3] = some (x, S1) → GA l Z L yX12_childAt cX12_childAt 6 (some .int) [] d 0 0 (fun v S' => v = some (.int (J x)) ∧ S1 = S') (fun _ _ => False) 0 (gl [(0, .ref (L 500)), (1, .int (J a1)), (2, .int (J a2)), (3, .int (J a3))]) [] S 0 0
def P_X12_childAt_8 (l : Launch) (Z : XZ) (L : Nat → Nat) (n : Nat) : Prop := ∀ (hL : L 700 = 1), ∀ (d : Nat) (S : GS) (a1 : Int) (a3 : Int) (a4 : Int) (a5 : Int) (x : Int) (S1 : GS), f_X12_childAt n d 8 S [a1, a3, a4, a5] = some (x, S1) → GA l Z L yX12_childAt cX12_childAt 6 (some .int) [] d 0 0 (fun v S' => v = some (.int (J x)) ∧ S1 = S') (fun _ _ => False) 8 (gl [(0, .ref (L 500)), (1, .int (J a1)), (3, .int (J a3)), (4, .int (J a4)), (5, .int (J a5))]) [] S 0 0
theorem i_X12_childAt {l : Launch} {Z : XZ} {L : Nat → Nat} (hL : L 700 = 1) {n : Nat} (ih : P_X12_childAt_0 l Z L n) {d : Nat} {S : GS} {a1 : Int} {a2 : Int} {a3 : Int} {x : Int} {S1 : GS} (H : f_X12_childAt n d 0 S [a1, a2, a3] = some (x, S1)) : GM l Z L yX12_childAt cX12_childAt 6 (some .int) [] d 0 0 [.ref (L 500), .int (J a1), .int (J a2), .int (J a3)] S (fun v S' => v = some (.int (J x)) ∧ S1 = S') (fun _ _ => False) := GM.of (by decide) (Nat.le_of_ble_eq_true rfl) (ih hL _ _ _ _ _ _ _ H)
set_option maxHeartbeats 4000000 in
set_option maxRecDepth 20000 in
theorem t_X12_childAt_0 {l : Launch} {Z : XZ} {L : Nat → Nat} (n : Nat) (ih_X12_childAt_0 : P_X12_childAt_0 l Z L n) (ih_X12_childAt_8 : P_X12_childAt_8 l Z L n) : P_X12_childAt_0 l Z L (n + 1) := by
  intro hL d S a1 a2 a3 x S1 H
  have H : b_X12_childAt_0 n d (f_X12_childAt n) S a1 a2 a3 = some (x, S1) := H
  unfold b_X12_childAt_0 at H
  refine GA.iload_n dX12_childAt_0 rfl ?_
  refine GA.iconst dX12_childAt_1 ?_
  obtain ⟨x1, hx2, H⟩ := gv_e H
  refine GV.iadd hx2 dX12_childAt_2 ?_
  refine GA.istore dX12_childAt_3 (by decide) ?_
  refine GA.iconst dX12_childAt_5 ?_
  refine GA.istore dX12_childAt_6 (by decide) ?_
  refine GA.locals [(0, .ref (L 500)), (1, .int (J a1)), (3, .int (J a3)), (4, .int (J x1)), (5, .int (J 0))] ⟨rfl, rfl, rfl, rfl, rfl, trivial⟩ ?_
  exact ih_X12_childAt_8 hL _ _ (a1) (a3) (x1) (0) _ _ H
set_option maxHeartbeats 4000000 in
set_option maxRecDepth 20000 in
theorem t_X12_childAt_8 {l : Launch} {Z : XZ} {L : Nat → Nat} (n : Nat) (ih_X12_childAt_0 : P_X12_childAt_0 l Z L n) (ih_X12_childAt_8 : P_X12_childAt_8 l Z L n) : P_X12_childAt_8 l Z L (n + 1) := by
  intro hL d S a1 a3 a4 a5 x S1 H
  have H : b_X12_childAt_8 n d (f_X12_childAt n) S a1 a3 a4 a5 = some (x, S1) := H
  unfold b_X12_childAt_8 at H
  refine GA.iload dX12_childAt_8 rfl ?_
  refine GA.iload_n dX12_childAt_10 rfl ?_
  obtain ⟨hg1, H⟩ := gg_e H
  obtain ⟨hg2, H⟩ := gg_e H
  refine GV.icmp_ge (tgt := 29) hg1 hg2 dX12_childAt_11 (by decide) (fun c3 => ?_) (fun c3 => ?_)
  · have H := it_t H c3
    refine GA.iload dX12_childAt_29 rfl ?_
    cases H
    exact GA.iret rfl dX12_childAt_31 (by omega) (by omega) ⟨rfl, rfl⟩
  · have H := it_f H c3
    refine GA.aload_n dX12_childAt_14 rfl ?_
    refine GA.iload_n dX12_childAt_15 rfl ?_
    refine GA.iload dX12_childAt_16 rfl ?_
    obtain ⟨hg4, H⟩ := gg_e H
    obtain ⟨x5, S_6, hc7, H⟩ := gc_e H
    refine GA.callV (m_X12_endOf hL hc7) xs_X12_49 dX12_childAt_18 (gs_500 hL) (by decide) rfl rfl (by omega) (by decide) rfl (Nat.le_of_ble_eq_true rfl) (by omega) (by omega) rfl (fun E S9 hx => hx.elim) (fun v S9 hq => ?_)
    obtain ⟨rfl, rfl⟩ := hq
    refine GA.istore dX12_childAt_21 (by decide) ?_
    obtain ⟨x8, hx9, H⟩ := gv_e H
    refine GV.iinc hx9 dX12_childAt_23 rfl (by decide) ?_
    refine GA.goto (tgt := 8) dX12_childAt_26 (by decide) ?_
    refine GA.locals [(0, .ref (L 500)), (1, .int (J a1)), (3, .int (J a3)), (4, .int (J x5)), (5, .int (J x8))] ⟨rfl, rfl, rfl, rfl, rfl, trivial⟩ ?_
    exact ih_X12_childAt_8 hL _ _ (a1) (a3) (x5) (x8) _ _ H
theorem g_X12_childAt {l : Launch} {Z : XZ} {L : Nat → Nat} : ∀ n, P_X12_childAt_0 l Z L n ∧ P_X12_childAt_8 l Z L n
  | 0 => ⟨fun _ _ _ _ _ _ _ _ H => no_e H, fun _ _ _ _ _ _ _ _ _ H => no_e H⟩
  | n + 1 => have ⟨h0, h1⟩ := g_X12_childAt (l := l) (Z := Z) (L := L) n
    ⟨t_X12_childAt_0 n h0 h1, t_X12_childAt_8 n h0 h1⟩
theorem m_X12_childAt {l : Launch} {Z : XZ} {L : Nat → Nat} (hL : L 700 = 1) {n d : Nat} {S : GS} {a1 : Int} {a2 : Int} {a3 : Int} {x : Int} {S1 : GS} (H : f_X12_childAt n d 0 S [a1, a2, a3] = some (x, S1)) : GM l Z L yX12_childAt cX12_childAt 6 (some .int) [] d 0 0 [.ref (L 500), .int (J a1), .int (J a2), .int (J a3)] S (fun v S' => v = some (.int (J x)) ∧ S1 = S') (fun _ _ => False) := GM.of (by decide) (Nat.le_of_ble_eq_true rfl) ((g_X12_childAt n).1 hL _ _ _ _ _ _ _ H)

def P_X12_areAll_0 (l : Launch) (Z : XZ) (L : Nat → Nat) (n : Nat) : Prop := ∀ (hL : L 700 = 1), ∀ (d : Nat) (S : GS) (a1 : Int) (a2 : Int) (x : Int) (S1 : GS), f_X12_areAll n d 0 S [a1, a2] = some (x, S1) → GA l Z L yX12_areAll cX12_areAll 5 (some .boolean) [] d 0 0 (fun v S' => v = some (.int (J x)) ∧ S1 = S') (fun _ _ => False) 0 (gl [(0, .ref (L 500)), (1, .int (J a1)), (2, .int (J a2))]) [] S 0 0
def P_X12_areAll_5 (l : Launch) (Z : XZ) (L : Nat → Nat) (n : Nat) : Prop := ∀ (hL : L 700 = 1), ∀ (d : Nat) (S : GS) (a1 : Int) (a2 : Int) (a3 : Int) (a4 : Int) (x : Int) (S1 : GS), f_X12_areAll n d 5 S [a1, a2, a3, a4] = some (x, S1) → GA l Z L yX12_areAll cX12_areAll 5 (some .boolean) [] d 0 0 (fun v S' => v = some (.int (J x)) ∧ S1 = S') (fun _ _ => False) 5 (gl [(0, .ref (L 500)), (1, .int (J a1)), (2, .int (J a2)), (3, .int (J a3)), (4, .int (J a4))]) [] S 0 0
theorem i_X12_areAll {l : Launch} {Z : XZ} {L : Nat → Nat} (hL : L 700 = 1) {n : Nat} (ih : P_X12_areAll_0 l Z L n) {d : Nat} {S : GS} {a1 : Int} {a2 : Int} {x : Int} {S1 : GS} (H : f_X12_areAll n d 0 S [a1, a2] = some (x, S1)) : GM l Z L yX12_areAll cX12_areAll 5 (some .boolean) [] d 0 0 [.ref (L 500), .int (J a1), .int (J a2)] S (fun v S' => v = some (.int (J x)) ∧ S1 = S') (fun _ _ => False) := GM.of (by decide) (Nat.le_of_ble_eq_true rfl) (ih hL _ _ _ _ _ _ H)
set_option maxHeartbeats 4000000 in
set_option maxRecDepth 20000 in
theorem t_X12_areAll_0 {l : Launch} {Z : XZ} {L : Nat → Nat} (n : Nat) (ih_X12_areAll_0 : P_X12_areAll_0 l Z L n) (ih_X12_areAll_5 : P_X12_areAll_5 l Z L n) : P_X12_areAll_0 l Z L (n + 1) := by
  intro hL d S a1 a2 x S1 H
  have H : b_X12_areAll_0 n d (f_X12_areAll n) S a1 a2 = some (x, S1) := H
  unfold b_X12_areAll_0 at H
  refine GA.iconst dX12_areAll_0 ?_
  refine GA.istore_n dX12_areAll_1 (by decide) ?_
  refine GA.iconst dX12_areAll_2 ?_
  refine GA.istore dX12_areAll_3 (by decide) ?_
  refine GA.locals [(0, .ref (L 500)), (1, .int (J a1)), (2, .int (J a2)), (3, .int (J 1)), (4, .int (J 0))] ⟨rfl, rfl, rfl, rfl, rfl, trivial⟩ ?_
  exact ih_X12_areAll_5 hL _ _ (a1) (a2) (1) (0) _ _ H
set_option maxHeartbeats 4000000 in
set_option maxRecDepth 20000 in
theorem t_X12_areAll_5 {l : Launch} {Z : XZ} {L : Nat → Nat} (n : Nat) (ih_X12_areAll_0 : P_X12_areAll_0 l Z L n) (ih_X12_areAll_5 : P_X12_areAll_5 l Z L n) : P_X12_areAll_5 l Z L (n + 1) := by
  intro hL d S a1 a2 a3 a4 x S1 H
  have H : b_X12_areAll_5 n d (f_X12_areAll n) S a1 a2 a3 a4 = some (x, S1) := H
  unfold b_X12_areAll_5 at H
  refine GA.iload dX12_areAll_5 rfl ?_
  refine GA.aload_n dX12_areAll_7 rfl ?_
  refine GA.iload_n dX12_areAll_8 rfl ?_
  refine GA.iconst dX12_areAll_9 ?_
  refine GA.iconst dX12_areAll_10 ?_
  obtain ⟨hg1, H⟩ := gg_e H
  obtain ⟨x2, S_3, hc4, H⟩ := gc_e H
  refine GA.callV (m_X12_part hL hc4) xs_X12_36 dX12_areAll_11 (gs_500 hL) (by decide) rfl rfl (by omega) (by decide) rfl (Nat.le_of_ble_eq_true rfl) (by omega) (by omega) rfl (fun E S9 hx => hx.elim) (fun v S9 hq => ?_)
  obtain ⟨rfl, rfl⟩ := hq
  obtain ⟨hg5, H⟩ := gg_e H
  obtain ⟨hg6, H⟩ := gg_e H
  refine GV.icmp_ge (tgt := 50) hg5 hg6 dX12_areAll_14 (by decide) (fun c7 => ?_) (fun c7 => ?_)
  · have H := it_t H c7
    refine GA.iload_n dX12_areAll_50 rfl ?_
    obtain ⟨hg8, H⟩ := gg_e H
    cases H
    exact GV.zret hg8 rfl dX12_areAll_51 (by omega) (by omega) ⟨rfl, rfl⟩
  · have H := it_f H c7
    refine GA.iload_n dX12_areAll_17 rfl ?_
    obtain ⟨hg9, H⟩ := gg_e H
    refine GV.if_eq (tgt := 42) hg9 dX12_areAll_18 (by decide) (fun c10 => ?_) (fun c10 => ?_)
    · have H := it_t H c10
      refine GA.iconst dX12_areAll_42 ?_
      refine GA.istore_n dX12_areAll_43 (by decide) ?_
      obtain ⟨x11, hx12, H⟩ := gv_e H
      refine GV.iinc hx12 dX12_areAll_44 rfl (by decide) ?_
      refine GA.goto (tgt := 5) dX12_areAll_47 (by decide) ?_
      refine GA.locals [(0, .ref (L 500)), (1, .int (J a1)), (2, .int (J a2)), (3, .int (J 0)), (4, .int (J x11))] ⟨rfl, rfl, rfl, rfl, rfl, trivial⟩ ?_
      exact ih_X12_areAll_5 hL _ _ (a1) (a2) (0) (x11) _ _ H
    · have H := it_f H c10
      refine GA.aload_n dX12_areAll_21 rfl ?_
      refine GA.iload_n dX12_areAll_22 rfl ?_
      refine GA.aload_n dX12_areAll_23 rfl ?_
      refine GA.iload_n dX12_areAll_24 rfl ?_
      refine GA.iconst dX12_areAll_25 ?_
      refine GA.iload dX12_areAll_26 rfl ?_
      obtain ⟨x13, S_14, hc15, H⟩ := gc_e H
      refine GA.callV (m_X12_childAt hL hc15) xs_X12_616 dX12_areAll_28 (gs_500 hL) (by decide) rfl rfl (by omega) (by decide) rfl (Nat.le_of_ble_eq_true rfl) (by omega) (by omega) rfl (fun E S9 hx => hx.elim) (fun v S9 hq => ?_)
      obtain ⟨rfl, rfl⟩ := hq
      obtain ⟨x16, S_17, hc18, H⟩ := gc_e H
      refine GA.callV (m_X12_kind hL hc18) xs_X12_52 dX12_areAll_31 (gs_500 hL) (by decide) rfl rfl (by omega) (by decide) rfl (Nat.le_of_ble_eq_true rfl) (by omega) (by omega) rfl (fun E S9 hx => hx.elim) (fun v S9 hq => ?_)
      obtain ⟨rfl, rfl⟩ := hq
      refine GA.iload_n dX12_areAll_34 rfl ?_
      obtain ⟨hg19, H⟩ := gg_e H
      obtain ⟨hg20, H⟩ := gg_e H
      refine GV.icmp_ne (tgt := 42) hg19 hg20 dX12_areAll_35 (by decide) (fun c21 => ?_) (fun c21 => ?_)
      · have H := it_t H c21
        refine GA.iconst dX12_areAll_42 ?_
        refine GA.istore_n dX12_areAll_43 (by decide) ?_
        obtain ⟨x22, hx23, H⟩ := gv_e H
        refine GV.iinc hx23 dX12_areAll_44 rfl (by decide) ?_
        refine GA.goto (tgt := 5) dX12_areAll_47 (by decide) ?_
        refine GA.locals [(0, .ref (L 500)), (1, .int (J a1)), (2, .int (J a2)), (3, .int (J 0)), (4, .int (J x22))] ⟨rfl, rfl, rfl, rfl, rfl, trivial⟩ ?_
        exact ih_X12_areAll_5 hL _ _ (a1) (a2) (0) (x22) _ _ H
      · have H := it_f H c21
        refine GA.iconst dX12_areAll_38 ?_
        refine GA.goto (tgt := 43) dX12_areAll_39 (by decide) ?_
        refine GA.istore_n dX12_areAll_43 (by decide) ?_
        obtain ⟨x24, hx25, H⟩ := gv_e H
        refine GV.iinc hx25 dX12_areAll_44 rfl (by decide) ?_
        refine GA.goto (tgt := 5) dX12_areAll_47 (by decide) ?_
        refine GA.locals [(0, .ref (L 500)), (1, .int (J a1)), (2, .int (J a2)), (3, .int (J 1)), (4, .int (J x24))] ⟨rfl, rfl, rfl, rfl, rfl, trivial⟩ ?_
        exact ih_X12_areAll_5 hL _ _ (a1) (a2) (1) (x24) _ _ H
theorem g_X12_areAll {l : Launch} {Z : XZ} {L : Nat → Nat} : ∀ n, P_X12_areAll_0 l Z L n ∧ P_X12_areAll_5 l Z L n
  | 0 => ⟨fun _ _ _ _ _ _ _ H => no_e H, fun _ _ _ _ _ _ _ _ _ H => no_e H⟩
  | n + 1 => have ⟨h0, h1⟩ := g_X12_areAll (l := l) (Z := Z) (L := L) n
    ⟨t_X12_areAll_0 n h0 h1, t_X12_areAll_5 n h0 h1⟩
theorem m_X12_areAll {l : Launch} {Z : XZ} {L : Nat → Nat} (hL : L 700 = 1) {n d : Nat} {S : GS} {a1 : Int} {a2 : Int} {x : Int} {S1 : GS} (H : f_X12_areAll n d 0 S [a1, a2] = some (x, S1)) : GM l Z L yX12_areAll cX12_areAll 5 (some .boolean) [] d 0 0 [.ref (L 500), .int (J a1), .int (J a2)] S (fun v S' => v = some (.int (J x)) ∧ S1 = S') (fun _ _ => False) := GM.of (by decide) (Nat.le_of_ble_eq_true rfl) ((g_X12_areAll n).1 hL _ _ _ _ _ _ H)

def P_X12_complains_0 (l : Launch) (Z : XZ) (L : Nat → Nat) (n : Nat) : Prop := ∀ (hL : L 700 = 1), ∀ (d : Nat) (S : GS) (a1 : Int) (a2 : Int) (x : Int) (S1 : GS), f_X12_complains n d 0 S [a1, a2] = some (x, S1) → GA l Z L yX12_complains cX12_complains 3 none [] d 0 0 (fun v S' => v = none ∧ S1 = S') (fun _ _ => False) 0 (gl [(0, .ref (L 500)), (1, .int (J a1)), (2, .int (J a2))]) [] S 0 0
theorem i_X12_complains {l : Launch} {Z : XZ} {L : Nat → Nat} (hL : L 700 = 1) {n : Nat} (ih : P_X12_complains_0 l Z L n) {d : Nat} {S : GS} {a1 : Int} {a2 : Int} {x : Int} {S1 : GS} (H : f_X12_complains n d 0 S [a1, a2] = some (x, S1)) : GM l Z L yX12_complains cX12_complains 3 none [] d 0 0 [.ref (L 500), .int (J a1), .int (J a2)] S (fun v S' => v = none ∧ S1 = S') (fun _ _ => False) := GM.of (by decide) (Nat.le_of_ble_eq_true rfl) (ih hL _ _ _ _ _ _ H)
set_option maxHeartbeats 4000000 in
set_option maxRecDepth 20000 in
theorem t_X12_complains_0 {l : Launch} {Z : XZ} {L : Nat → Nat} (n : Nat) (ih_X12_complains_0 : P_X12_complains_0 l Z L n) : P_X12_complains_0 l Z L (n + 1) := by
  intro hL d S a1 a2 x S1 H
  have H : b_X12_complains_0 n d (f_X12_complains n) S a1 a2 = some (x, S1) := H
  unfold b_X12_complains_0 at H
  refine GA.aload_n dX12_complains_0 rfl ?_
  refine GA.get xf_X12_433 dX12_complains_1 (gs_500 hL) (by decide) rfl ?_
  refine GA.aload_n dX12_complains_4 rfl ?_
  obtain ⟨x1, hx2, H⟩ := gv_e H
  refine GV.getI hx2 xf_X12_793 dX12_complains_5 (gs_500 hL) (by decide) rfl ?_
  refine GA.bipush dX12_complains_8 rfl ?_
  refine GA.iload_n dX12_complains_10 rfl ?_
  obtain ⟨x3, hx4, H⟩ := gv_e H
  refine GV.imul hx4 dX12_complains_11 ?_
  refine GA.iload_n dX12_complains_12 rfl ?_
  obtain ⟨x5, hx6, H⟩ := gv_e H
  refine GV.iadd hx6 dX12_complains_13 ?_
  obtain ⟨hg7, H⟩ := gg_e H
  obtain ⟨S_8, hx9, H⟩ := gv_e H
  refine GV.iast hg7 hx9 dX12_complains_14 (fun _ => (gs_551 hL)) (by decide) ?_
  refine GA.aload_n dX12_complains_15 rfl ?_
  refine GA.dup dX12_complains_16 rfl ?_
  obtain ⟨x10, hx11, H⟩ := gv_e H
  refine GV.getI hx11 xf_X12_793 dX12_complains_17 (gs_500 hL) (by decide) rfl ?_
  refine GA.iconst dX12_complains_20 ?_
  obtain ⟨x12, hx13, H⟩ := gv_e H
  refine GV.iadd hx13 dX12_complains_21 ?_
  obtain ⟨S_14, hx15, H⟩ := gv_e H
  refine GV.putI hx15 (xp_X12_793 _) dX12_complains_22 (gs_500 hL) (by decide) (Nat.le_of_ble_eq_true rfl) (gs_500 hL) ?_
  cases H
  exact GA.vret rfl dX12_complains_25 (by omega) (by omega) ⟨rfl, rfl⟩
theorem g_X12_complains {l : Launch} {Z : XZ} {L : Nat → Nat} : ∀ n, P_X12_complains_0 l Z L n
  | 0 => fun _ _ _ _ _ _ _ H => no_e H
  | n + 1 => t_X12_complains_0 n (g_X12_complains n)
theorem m_X12_complains {l : Launch} {Z : XZ} {L : Nat → Nat} (hL : L 700 = 1) {n d : Nat} {S : GS} {a1 : Int} {a2 : Int} {x : Int} {S1 : GS} (H : f_X12_complains n d 0 S [a1, a2] = some (x, S1)) : GM l Z L yX12_complains cX12_complains 3 none [] d 0 0 [.ref (L 500), .int (J a1), .int (J a2)] S (fun v S' => v = none ∧ S1 = S') (fun _ _ => False) := GM.of (by decide) (Nat.le_of_ble_eq_true rfl) ((g_X12_complains n) hL _ _ _ _ _ _ H)

def P_X12_hears_0 (l : Launch) (Z : XZ) (L : Nat → Nat) (n : Nat) : Prop := ∀ (hL : L 700 = 1), ∀ (d : Nat) (S : GS) (a1 : Int) (x : Int) (S1 : GS), f_X12_hears n d 0 S [a1] = some (x, S1) → GA l Z L yX12_hears cX12_hears 3 none [] d 0 0 (fun v S' => v = none ∧ S1 = S') (fun _ _ => False) 0 (gl [(0, .ref (L 500)), (1, .int (J a1))]) [] S 0 0
def P_X12_hears_45 (l : Launch) (Z : XZ) (L : Nat → Nat) (n : Nat) : Prop := ∀ (hL : L 700 = 1), ∀ (d : Nat) (S : GS) (a1 : Int) (a2 : Int) (s0 : Int) (s1 : Int) (s2 : Int) (x : Int) (S1 : GS), f_X12_hears n d 45 S [a1, a2, s0, s1, s2] = some (x, S1) → GA l Z L yX12_hears cX12_hears 3 none [] d 0 0 (fun v S' => v = none ∧ S1 = S') (fun _ _ => False) 45 (gl [(0, .ref (L 500)), (1, .int (J a1)), (2, .int (J a2))]) [.int (J s0), .int (J s1), .int (J s2), .ref (L 547)] S 0 0
def P_X12_hears_57 (l : Launch) (Z : XZ) (L : Nat → Nat) (n : Nat) : Prop := ∀ (hL : L 700 = 1), ∀ (d : Nat) (S : GS) (a1 : Int) (a2 : Int) (x : Int) (S1 : GS), f_X12_hears n d 57 S [a1, a2] = some (x, S1) → GA l Z L yX12_hears cX12_hears 3 none [] d 0 0 (fun v S' => v = none ∧ S1 = S') (fun _ _ => False) 57 (gl [(0, .ref (L 500)), (1, .int (J a1)), (2, .int (J a2))]) [] S 0 0
def P_X12_hears_82 (l : Launch) (Z : XZ) (L : Nat → Nat) (n : Nat) : Prop := ∀ (hL : L 700 = 1), ∀ (d : Nat) (S : GS) (a1 : Int) (a2 : Int) (x : Int) (S1 : GS), f_X12_hears n d 82 S [a1, a2] = some (x, S1) → GA l Z L yX12_hears cX12_hears 3 none [] d 0 0 (fun v S' => v = none ∧ S1 = S') (fun _ _ => False) 82 (gl [(0, .ref (L 500)), (1, .int (J a1)), (2, .int (J a2))]) [] S 0 0
def P_X12_hears_92 (l : Launch) (Z : XZ) (L : Nat → Nat) (n : Nat) : Prop := ∀ (hL : L 700 = 1), ∀ (d : Nat) (S : GS) (a1 : Int) (a2 : Int) (x : Int) (S1 : GS), f_X12_hears n d 92 S [a1, a2] = some (x, S1) → GA l Z L yX12_hears cX12_hears 3 none [] d 0 0 (fun v S' => v = none ∧ S1 = S') (fun _ _ => False) 92 (gl [(0, .ref (L 500)), (1, .int (J a1)), (2, .int (J a2))]) [] S 0 0
theorem i_X12_hears {l : Launch} {Z : XZ} {L : Nat → Nat} (hL : L 700 = 1) {n : Nat} (ih : P_X12_hears_0 l Z L n) {d : Nat} {S : GS} {a1 : Int} {x : Int} {S1 : GS} (H : f_X12_hears n d 0 S [a1] = some (x, S1)) : GM l Z L yX12_hears cX12_hears 3 none [] d 0 0 [.ref (L 500), .int (J a1)] S (fun v S' => v = none ∧ S1 = S') (fun _ _ => False) := GM.of (by decide) (Nat.le_of_ble_eq_true rfl) (ih hL _ _ _ _ _ H)
set_option maxHeartbeats 4000000 in
set_option maxRecDepth 20000 in
theorem t_X12_hears_0 {l : Launch} {Z : XZ} {L : Nat → Nat} (n : Nat) (ih_X12_hears_0 : P_X12_hears_0 l Z L n) (ih_X12_hears_45 : P_X12_hears_45 l Z L n) (ih_X12_hears_57 : P_X12_hears_57 l Z L n) (ih_X12_hears_82 : P_X12_hears_82 l Z L n) (ih_X12_hears_92 : P_X12_hears_92 l Z L n) : P_X12_hears_0 l Z L (n + 1) := by
  intro hL d S a1 x S1 H
  have H : b_X12_hears_0 n d (f_X12_hears n) S a1 = some (x, S1) := H
  unfold b_X12_hears_0 at H
  refine GA.aload_n dX12_hears_0 rfl ?_
  refine GA.get xf_X12_423 dX12_hears_1 (gs_500 hL) (by decide) rfl ?_
  refine GA.iload_n dX12_hears_4 rfl ?_
  refine GA.iconst dX12_hears_5 ?_
  obtain ⟨hg1, H⟩ := gg_e H
  obtain ⟨S_2, hx3, H⟩ := gv_e H
  refine GV.zast hg1 (by decide) hx3 dX12_hears_6 (fun _ => (gs_548 hL)) (by decide) ?_
  refine GA.aload_n dX12_hears_7 rfl ?_
  refine GA.get xf_X12_408 dX12_hears_8 (gs_500 hL) (by decide) rfl ?_
  refine GA.iload_n dX12_hears_11 rfl ?_
  obtain ⟨x4, hx5, H⟩ := gv_e H
  refine GV.iald hg1 hx5 dX12_hears_12 (gs_543 hL) (by decide) ?_
  refine GA.istore_n dX12_hears_13 (by decide) ?_
  refine GA.iload_n dX12_hears_14 rfl ?_
  refine GA.bipush dX12_hears_15 rfl ?_
  obtain ⟨hg6, H⟩ := gg_e H
  refine GV.icmp_lt (tgt := 57) hg6 (by decide) dX12_hears_17 (by decide) (fun c7 => ?_) (fun c7 => ?_)
  · have H := it_t H c7
    refine GA.locals [(0, .ref (L 500)), (1, .int (J a1)), (2, .int (J x4))] ⟨rfl, rfl, rfl, trivial⟩ ?_
    exact ih_X12_hears_57 hL _ _ (a1) (x4) _ _ H
  · have H := it_f H c7
    refine GA.iload_n dX12_hears_20 rfl ?_
    refine GA.bipush dX12_hears_21 rfl ?_
    refine GV.icmp_gt (tgt := 57) hg6 (by decide) dX12_hears_23 (by decide) (fun c8 => ?_) (fun c8 => ?_)
    · have H := it_t H c8
      refine GA.locals [(0, .ref (L 500)), (1, .int (J a1)), (2, .int (J x4))] ⟨rfl, rfl, rfl, trivial⟩ ?_
      exact ih_X12_hears_57 hL _ _ (a1) (x4) _ _ H
    · have H := it_f H c8
      refine GA.aload_n dX12_hears_26 rfl ?_
      refine GA.get xf_X12_420 dX12_hears_27 (gs_500 hL) (by decide) rfl ?_
      refine GA.iload_n dX12_hears_30 rfl ?_
      refine GA.dup2 dX12_hears_31 rfl rfl ?_
      obtain ⟨x9, hx10, H⟩ := gv_e H
      refine GV.iald hg1 hx10 dX12_hears_32 (gs_547 hL) (by decide) ?_
      refine GA.aload_n dX12_hears_33 rfl ?_
      obtain ⟨x11, hx12, H⟩ := gv_e H
      refine GV.getB hx12 xf_X12_828 dX12_hears_34 (gs_500 hL) (by decide) rfl ?_
      obtain ⟨hg13, H⟩ := gg_e H
      refine GV.if_eq (tgt := 44) hg13 dX12_hears_37 (by decide) (fun c14 => ?_) (fun c14 => ?_)
      · have H := it_t H c14
        refine GA.iconst dX12_hears_44 ?_
        refine GA.locals [(0, .ref (L 500)), (1, .int (J a1)), (2, .int (J x4))] ⟨rfl, rfl, rfl, trivial⟩ ?_
        exact ih_X12_hears_45 hL _ _ (a1) (x4) (0) (x9) (a1) _ _ H
      · have H := it_f H c14
        refine GA.iconst dX12_hears_40 ?_
        refine GA.goto (tgt := 45) dX12_hears_41 (by decide) ?_
        refine GA.locals [(0, .ref (L 500)), (1, .int (J a1)), (2, .int (J x4))] ⟨rfl, rfl, rfl, trivial⟩ ?_
        exact ih_X12_hears_45 hL _ _ (a1) (x4) (1) (x9) (a1) _ _ H
set_option maxHeartbeats 4000000 in
set_option maxRecDepth 20000 in
theorem t_X12_hears_45 {l : Launch} {Z : XZ} {L : Nat → Nat} (n : Nat) (ih_X12_hears_0 : P_X12_hears_0 l Z L n) (ih_X12_hears_45 : P_X12_hears_45 l Z L n) (ih_X12_hears_57 : P_X12_hears_57 l Z L n) (ih_X12_hears_82 : P_X12_hears_82 l Z L n) (ih_X12_hears_92 : P_X12_hears_92 l Z L n) : P_X12_hears_45 l Z L (n + 1) := by
  intro hL d S a1 a2 s0 s1 s2 x S1 H
  have H : b_X12_hears_45 n d (f_X12_hears n) S a1 a2 s0 s1 s2 = some (x, S1) := H
  unfold b_X12_hears_45 at H
  obtain ⟨x1, hx2, H⟩ := gv_e H
  refine GV.iadd hx2 dX12_hears_45 ?_
  obtain ⟨hg3, H⟩ := gg_e H
  obtain ⟨S_4, hx5, H⟩ := gv_e H
  refine GV.iast hg3 hx5 dX12_hears_46 (fun _ => (gs_547 hL)) (by decide) ?_
  refine GA.aload_n dX12_hears_47 rfl ?_
  refine GA.aload_n dX12_hears_48 rfl ?_
  refine GA.get xf_X12_417 dX12_hears_49 (gs_500 hL) (by decide) rfl ?_
  refine GA.iload_n dX12_hears_52 rfl ?_
  obtain ⟨hg6, H⟩ := gg_e H
  obtain ⟨x7, hx8, H⟩ := gv_e H
  refine GV.iald hg6 hx8 dX12_hears_53 (gs_546 hL) (by decide) ?_
  obtain ⟨S_9, hx10, H⟩ := gv_e H
  refine GV.putI hx10 (xp_X12_793 _) dX12_hears_54 (gs_500 hL) (by decide) (Nat.le_of_ble_eq_true rfl) (gs_500 hL) ?_
  refine GA.locals [(0, .ref (L 500)), (1, .int (J a1)), (2, .int (J a2))] ⟨rfl, rfl, rfl, trivial⟩ ?_
  exact ih_X12_hears_57 hL _ _ (a1) (a2) _ _ H
set_option maxHeartbeats 4000000 in
set_option maxRecDepth 20000 in
theorem t_X12_hears_57 {l : Launch} {Z : XZ} {L : Nat → Nat} (n : Nat) (ih_X12_hears_0 : P_X12_hears_0 l Z L n) (ih_X12_hears_45 : P_X12_hears_45 l Z L n) (ih_X12_hears_57 : P_X12_hears_57 l Z L n) (ih_X12_hears_82 : P_X12_hears_82 l Z L n) (ih_X12_hears_92 : P_X12_hears_92 l Z L n) : P_X12_hears_57 l Z L (n + 1) := by
  intro hL d S a1 a2 x S1 H
  have H : b_X12_hears_57 n d (f_X12_hears n) S a1 a2 = some (x, S1) := H
  unfold b_X12_hears_57 at H
  refine GA.iload_n dX12_hears_57 rfl ?_
  refine GA.bipush dX12_hears_58 rfl ?_
  obtain ⟨hg1, H⟩ := gg_e H
  refine GV.icmp_ne (tgt := 92) hg1 (by decide) dX12_hears_60 (by decide) (fun c2 => ?_) (fun c2 => ?_)
  · have H := it_t H c2
    refine GA.locals [(0, .ref (L 500)), (1, .int (J a1)), (2, .int (J a2))] ⟨rfl, rfl, rfl, trivial⟩ ?_
    exact ih_X12_hears_92 hL _ _ (a1) (a2) _ _ H
  · have H := it_f H c2
    refine GA.aload_n dX12_hears_63 rfl ?_
    obtain ⟨x3, hx4, H⟩ := gv_e H
    refine GV.getB hx4 xf_X12_828 dX12_hears_64 (gs_500 hL) (by decide) rfl ?_
    obtain ⟨hg5, H⟩ := gg_e H
    refine GV.if_eq (tgt := 82) hg5 dX12_hears_67 (by decide) (fun c6 => ?_) (fun c6 => ?_)
    · have H := it_t H c6
      refine GA.locals [(0, .ref (L 500)), (1, .int (J a1)), (2, .int (J a2))] ⟨rfl, rfl, rfl, trivial⟩ ?_
      exact ih_X12_hears_82 hL _ _ (a1) (a2) _ _ H
    · have H := it_f H c6
      refine GA.aload_n dX12_hears_70 rfl ?_
      refine GA.aload_n dX12_hears_71 rfl ?_
      refine GA.get xf_X12_405 dX12_hears_72 (gs_500 hL) (by decide) rfl ?_
      refine GA.iload_n dX12_hears_75 rfl ?_
      obtain ⟨hg7, H⟩ := gg_e H
      obtain ⟨x8, hx9, H⟩ := gv_e H
      refine GV.iald hg7 hx9 dX12_hears_76 (gs_542 hL) (by decide) ?_
      refine GA.bipush dX12_hears_77 rfl ?_
      obtain ⟨hg10, H⟩ := gg_e H
      obtain ⟨x11, S_12, hc13, H⟩ := gc_e H
      refine GA.callV (m_X12_complains hL hc13) xs_X12_817 dX12_hears_79 (gs_500 hL) (by decide) rfl rfl (by omega) (by decide) rfl (Nat.le_of_ble_eq_true rfl) (by omega) (by omega) rfl (fun E S9 hx => hx.elim) (fun v S9 hq => ?_)
      obtain ⟨rfl, rfl⟩ := hq
      refine GA.locals [(0, .ref (L 500)), (1, .int (J a1)), (2, .int (J a2))] ⟨rfl, rfl, rfl, trivial⟩ ?_
      exact ih_X12_hears_82 hL _ _ (a1) (a2) _ _ H
set_option maxHeartbeats 4000000 in
set_option maxRecDepth 20000 in
theorem t_X12_hears_82 {l : Launch} {Z : XZ} {L : Nat → Nat} (n : Nat) (ih_X12_hears_0 : P_X12_hears_0 l Z L n) (ih_X12_hears_45 : P_X12_hears_45 l Z L n) (ih_X12_hears_57 : P_X12_hears_57 l Z L n) (ih_X12_hears_82 : P_X12_hears_82 l Z L n) (ih_X12_hears_92 : P_X12_hears_92 l Z L n) : P_X12_hears_82 l Z L (n + 1) := by
  intro hL d S a1 a2 x S1 H
  have H : b_X12_hears_82 n d (f_X12_hears n) S a1 a2 = some (x, S1) := H
  unfold b_X12_hears_82 at H
  refine GA.aload_n dX12_hears_82 rfl ?_
  refine GA.get xf_X12_408 dX12_hears_83 (gs_500 hL) (by decide) rfl ?_
  refine GA.iload_n dX12_hears_86 rfl ?_
  refine GA.dup2 dX12_hears_87 rfl rfl ?_
  obtain ⟨hg1, H⟩ := gg_e H
  obtain ⟨x2, hx3, H⟩ := gv_e H
  refine GV.iald hg1 hx3 dX12_hears_88 (gs_543 hL) (by decide) ?_
  refine GA.iconst dX12_hears_89 ?_
  obtain ⟨x4, hx5, H⟩ := gv_e H
  refine GV.iadd hx5 dX12_hears_90 ?_
  obtain ⟨S_6, hx7, H⟩ := gv_e H
  refine GV.iast hg1 hx7 dX12_hears_91 (fun _ => (gs_543 hL)) (by decide) ?_
  refine GA.locals [(0, .ref (L 500)), (1, .int (J a1)), (2, .int (J a2))] ⟨rfl, rfl, rfl, trivial⟩ ?_
  exact ih_X12_hears_92 hL _ _ (a1) (a2) _ _ H
set_option maxHeartbeats 4000000 in
set_option maxRecDepth 20000 in
theorem t_X12_hears_92 {l : Launch} {Z : XZ} {L : Nat → Nat} (n : Nat) (ih_X12_hears_0 : P_X12_hears_0 l Z L n) (ih_X12_hears_45 : P_X12_hears_45 l Z L n) (ih_X12_hears_57 : P_X12_hears_57 l Z L n) (ih_X12_hears_82 : P_X12_hears_82 l Z L n) (ih_X12_hears_92 : P_X12_hears_92 l Z L n) : P_X12_hears_92 l Z L (n + 1) := by
  intro hL d S a1 a2 x S1 H
  have H : b_X12_hears_92 n d (f_X12_hears n) S a1 a2 = some (x, S1) := H
  unfold b_X12_hears_92 at H
  refine GA.iload_n dX12_hears_92 rfl ?_
  refine GA.bipush dX12_hears_93 rfl ?_
  obtain ⟨hg1, H⟩ := gg_e H
  refine GV.icmp_ne (tgt := 118) hg1 (by decide) dX12_hears_95 (by decide) (fun c2 => ?_) (fun c2 => ?_)
  · have H := it_t H c2
    cases H
    exact GA.vret rfl dX12_hears_118 (by omega) (by omega) ⟨rfl, rfl⟩
  · have H := it_f H c2
    refine GA.aload_n dX12_hears_98 rfl ?_
    refine GA.dup dX12_hears_99 rfl ?_
    obtain ⟨x3, hx4, H⟩ := gv_e H
    refine GV.getI hx4 xf_X12_825 dX12_hears_100 (gs_500 hL) (by decide) rfl ?_
    refine GA.iconst dX12_hears_103 ?_
    obtain ⟨x5, hx6, H⟩ := gv_e H
    refine GV.isub hx6 dX12_hears_104 ?_
    obtain ⟨S_7, hx8, H⟩ := gv_e H
    refine GV.putI hx8 (xp_X12_825 _) dX12_hears_105 (gs_500 hL) (by decide) (Nat.le_of_ble_eq_true rfl) (gs_500 hL) ?_
    refine GA.aload_n dX12_hears_108 rfl ?_
    refine GA.get xf_X12_408 dX12_hears_109 (gs_500 hL) (by decide) rfl ?_
    refine GA.iload_n dX12_hears_112 rfl ?_
    refine GA.dup2 dX12_hears_113 rfl rfl ?_
    obtain ⟨hg9, H⟩ := gg_e H
    obtain ⟨x10, hx11, H⟩ := gv_e H
    refine GV.iald hg9 hx11 dX12_hears_114 (gs_543 hL) (by decide) ?_
    refine GA.iconst dX12_hears_115 ?_
    obtain ⟨x12, hx13, H⟩ := gv_e H
    refine GV.iadd hx13 dX12_hears_116 ?_
    obtain ⟨S_14, hx15, H⟩ := gv_e H
    refine GV.iast hg9 hx15 dX12_hears_117 (fun _ => (gs_543 hL)) (by decide) ?_
    cases H
    exact GA.vret rfl dX12_hears_118 (by omega) (by omega) ⟨rfl, rfl⟩
theorem g_X12_hears {l : Launch} {Z : XZ} {L : Nat → Nat} : ∀ n, P_X12_hears_0 l Z L n ∧ P_X12_hears_45 l Z L n ∧ P_X12_hears_57 l Z L n ∧ P_X12_hears_82 l Z L n ∧ P_X12_hears_92 l Z L n
  | 0 => ⟨fun _ _ _ _ _ _ H => no_e H, fun _ _ _ _ _ _ _ _ _ _ H => no_e H, fun _ _ _ _ _ _ _ H => no_e H, fun _ _ _ _ _ _ _ H => no_e H, fun _ _ _ _ _ _ _ H => no_e H⟩
  | n + 1 => have ⟨h0, h1, h2, h3, h4⟩ := g_X12_hears (l := l) (Z := Z) (L := L) n
    ⟨t_X12_hears_0 n h0 h1 h2 h3 h4, t_X12_hears_45 n h0 h1 h2 h3 h4, t_X12_hears_57 n h0 h1 h2 h3 h4, t_X12_hears_82 n h0 h1 h2 h3 h4, t_X12_hears_92 n h0 h1 h2 h3 h4⟩
theorem m_X12_hears {l : Launch} {Z : XZ} {L : Nat → Nat} (hL : L 700 = 1) {n d : Nat} {S : GS} {a1 : Int} {x : Int} {S1 : GS} (H : f_X12_hears n d 0 S [a1] = some (x, S1)) : GM l Z L yX12_hears cX12_hears 3 none [] d 0 0 [.ref (L 500), .int (J a1)] S (fun v S' => v = none ∧ S1 = S') (fun _ _ => False) := GM.of (by decide) (Nat.le_of_ble_eq_true rfl) ((g_X12_hears n).1 hL _ _ _ _ _ H)

