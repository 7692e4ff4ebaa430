def P_X12_isSound_0 (l : Launch) (Z : XZ) (L : Nat → Nat) (n : Nat) : Prop := ∀ (hL : L 700 = 1), ∀ (d : Nat) (S : GS) (a1 : Int) (x : Int) (S1 : GS), f_X12_isSound n d 0 S [a1] = some (x, S1) → GA l Z L yX12_isSound cX12_isSound 2 (some .boolean) [] d 0 0 (fun v S' => v = some (.int (J x)) ∧ S1 = S') (fun _ _ => False) 0 (gl [(0, .ref (L 500)), (1, .int (J a1))]) [] S 0 0
theorem i_X12_isSound {l : Launch} {Z : XZ} {L : Nat → Nat} (hL : L 700 = 1) {n : Nat} (ih : P_X12_isSound_0 l Z L n) {d : Nat} {S : GS} {a1 : Int} {x : Int} {S1 : GS} (H : f_X12_isSound n d 0 S [a1] = some (x, S1)) : GM l Z L yX12_isSound cX12_isSound 2 (some .boolean) [] d 0 0 [.ref (L 500), .int (J a1)] S (fun v S' => v = some (.int (J x)) ∧ S1 = S') (fun _ _ => False) := GM.of (by decide) (Nat.le_of_ble_eq_true rfl) (ih hL _ _ _ _ _ H)
set_option maxHeartbeats 4000000 in
set_option maxRecDepth 20000 in
theorem t_X12_isSound_0 {l : Launch} {Z : XZ} {L : Nat → Nat} (n : Nat) (ih_X12_isSound_0 : P_X12_isSound_0 l Z L n) : P_X12_isSound_0 l Z L (n + 1) := by
  intro hL d S a1 x S1 H
  have H : b_X12_isSound_0 n d (f_X12_isSound n) S a1 = some (x, S1) := H
  unfold b_X12_isSound_0 at H
  refine GA.aload_n dX12_isSound_0 rfl ?_
  refine GA.aload_n dX12_isSound_1 rfl ?_
  refine GA.iload_n dX12_isSound_2 rfl ?_
  obtain ⟨hg1, H⟩ := gg_e H
  obtain ⟨x2, S_3, hc4, H⟩ := gc_e H
  refine GA.callV (m_X12_isDoc hL hc4) xs_X12_22 dX12_isSound_3 (gs_500 hL) (by decide) rfl rfl (by omega) (by decide) rfl (Nat.le_of_ble_eq_true rfl) (by omega) (by omega) rfl (fun E S9 hx => hx.elim) (fun v S9 hq => ?_)
  obtain ⟨rfl, rfl⟩ := hq
  refine GA.iconst dX12_isSound_6 ?_
  obtain ⟨x5, S_6, hc7, H⟩ := gc_e H
  refine GA.callV (m_X12_fails hL hc7) xs_X12_456 dX12_isSound_7 (gs_500 hL) (by decide) rfl rfl (by omega) (by decide) rfl (Nat.le_of_ble_eq_true rfl) (by omega) (by omega) rfl (fun E S9 hx => hx.elim) (fun v S9 hq => ?_)
  obtain ⟨rfl, rfl⟩ := hq
  obtain ⟨hg8, H⟩ := gg_e H
  refine GV.if_ne (tgt := 17) hg8 dX12_isSound_10 (by decide) (fun c9 => ?_) (fun c9 => ?_)
  · have H := it_t H c9
    refine GA.iconst dX12_isSound_17 ?_
    cases H
    exact GV.zret (by decide) rfl dX12_isSound_18 (by omega) (by omega) ⟨rfl, rfl⟩
  · have H := it_f H c9
    refine GA.iconst dX12_isSound_13 ?_
    refine GA.goto (tgt := 18) dX12_isSound_14 (by decide) ?_
    cases H
    exact GV.zret (by decide) rfl dX12_isSound_18 (by omega) (by omega) ⟨rfl, rfl⟩
theorem g_X12_isSound {l : Launch} {Z : XZ} {L : Nat → Nat} : ∀ n, P_X12_isSound_0 l Z L n
  | 0 => fun _ _ _ _ _ _ H => no_e H
  | n + 1 => t_X12_isSound_0 n (g_X12_isSound n)
theorem m_X12_isSound {l : Launch} {Z : XZ} {L : Nat → Nat} (hL : L 700 = 1) {n d : Nat} {S : GS} {a1 : Int} {x : Int} {S1 : GS} (H : f_X12_isSound n d 0 S [a1] = some (x, S1)) : GM l Z L yX12_isSound cX12_isSound 2 (some .boolean) [] d 0 0 [.ref (L 500), .int (J a1)] S (fun v S' => v = some (.int (J x)) ∧ S1 = S') (fun _ _ => False) := GM.of (by decide) (Nat.le_of_ble_eq_true rfl) ((g_X12_isSound n) hL _ _ _ _ _ H)

def P_X12_joinsOne_0 (l : Launch) (Z : XZ) (L : Nat → Nat) (n : Nat) : Prop := ∀ (hL : L 700 = 1), ∀ (d : Nat) (S : GS) (a1 : Int) (a2 : Int) (a3 : Int) (a4 : Int) (x : Int) (S1 : GS), f_X12_joinsOne n d 0 S [a1, a2, a3, a4] = some (x, S1) → GA l Z L yX12_joinsOne cX12_joinsOne 9 (some .int) [] d 0 0 (fun v S' => v = some (.int (J x)) ∧ S1 = S') (fun _ _ => False) 0 (gl [(0, .ref (L 500)), (1, .int (J a1)), (2, .int (J a2)), (3, .int (J a3)), (4, .int (J a4))]) [] S 0 0
def P_X12_joinsOne_43 (l : Launch) (Z : XZ) (L : Nat → Nat) (n : Nat) : Prop := ∀ (hL : L 700 = 1), ∀ (d : Nat) (S : GS) (a1 : Int) (a2 : Int) (a3 : Int) (a4 : Int) (a5 : Int) (s0 : Int) (x : Int) (S1 : GS), f_X12_joinsOne n d 43 S [a1, a2, a3, a4, a5, s0] = some (x, S1) → GA l Z L yX12_joinsOne cX12_joinsOne 9 (some .int) [] d 0 0 (fun v S' => v = some (.int (J x)) ∧ S1 = S') (fun _ _ => False) 43 (gl [(0, .ref (L 500)), (1, .int (J a1)), (2, .int (J a2)), (3, .int (J a3)), (4, .int (J a4)), (5, .int (J a5))]) [.int (J s0)] S 0 0
def P_X12_joinsOne_82 (l : Launch) (Z : XZ) (L : Nat → Nat) (n : Nat) : Prop := ∀ (hL : L 700 = 1), ∀ (d : Nat) (S : GS) (a4 : Int) (a6 : Int) (s0 : Int) (x : Int) (S1 : GS), f_X12_joinsOne n d 82 S [a4, a6, s0] = some (x, S1) → GA l Z L yX12_joinsOne cX12_joinsOne 9 (some .int) [] d 0 0 (fun v S' => v = some (.int (J x)) ∧ S1 = S') (fun _ _ => False) 82 (gl [(0, .ref (L 500)), (4, .int (J a4)), (6, .int (J a6))]) [.int (J s0)] S 0 0
def P_X12_joinsOne_109 (l : Launch) (Z : XZ) (L : Nat → Nat) (n : Nat) : Prop := ∀ (hL : L 700 = 1), ∀ (d : Nat) (S : GS) (a4 : Int) (a7 : Int) (s0 : Int) (s1 : Int) (x : Int) (S1 : GS), f_X12_joinsOne n d 109 S [a4, a7, s0, s1] = some (x, S1) → GA l Z L yX12_joinsOne cX12_joinsOne 9 (some .int) [] d 0 0 (fun v S' => v = some (.int (J x)) ∧ S1 = S') (fun _ _ => False) 109 (gl [(4, .int (J a4)), (7, .int (J a7))]) [.int (J s0), .int (J s1), .ref (L 500)] S 0 0
def P_X12_joinsOne_169 (l : Launch) (Z : XZ) (L : Nat → Nat) (n : Nat) : Prop := ∀ (hL : L 700 = 1), ∀ (d : Nat) (S : GS) (a1 : Int) (a4 : Int) (s0 : Int) (x : Int) (S1 : GS), f_X12_joinsOne n d 169 S [a1, a4, s0] = some (x, S1) → GA l Z L yX12_joinsOne cX12_joinsOne 9 (some .int) [] d 0 0 (fun v S' => v = some (.int (J x)) ∧ S1 = S') (fun _ _ => False) 169 (gl [(0, .ref (L 500)), (1, .int (J a1)), (4, .int (J a4))]) [.int (J s0)] S 0 0
def P_X12_joinsOne_194 (l : Launch) (Z : XZ) (L : Nat → Nat) (n : Nat) : Prop := ∀ (hL : L 700 = 1), ∀ (d : Nat) (S : GS) (a4 : Int) (x : Int) (S1 : GS), f_X12_joinsOne n d 194 S [a4] = some (x, S1) → GA l Z L yX12_joinsOne cX12_joinsOne 9 (some .int) [] d 0 0 (fun v S' => v = some (.int (J x)) ∧ S1 = S') (fun _ _ => False) 194 (gl [(0, .ref (L 500)), (4, .int (J a4))]) [] S 0 0
def P_X12_joinsOne_221 (l : Launch) (Z : XZ) (L : Nat → Nat) (n : Nat) : Prop := ∀ (hL : L 700 = 1), ∀ (d : Nat) (S : GS) (a8 : Int) (x : Int) (S1 : GS), f_X12_joinsOne n d 221 S [a8] = some (x, S1) → GA l Z L yX12_joinsOne cX12_joinsOne 9 (some .int) [] d 0 0 (fun v S' => v = some (.int (J x)) ∧ S1 = S') (fun _ _ => False) 221 (gl [(0, .ref (L 500)), (8, .int (J a8))]) [] S 0 0
theorem i_X12_joinsOne {l : Launch} {Z : XZ} {L : Nat → Nat} (hL : L 700 = 1) {n : Nat} (ih : P_X12_joinsOne_0 l Z L n) {d : Nat} {S : GS} {a1 : Int} {a2 : Int} {a3 : Int} {a4 : Int} {x : Int} {S1 : GS} (H : f_X12_joinsOne n d 0 S [a1, a2, a3, a4] = some (x, S1)) : GM l Z L yX12_joinsOne cX12_joinsOne 9 (some .int) [] d 0 0 [.ref (L 500), .int (J a1), .int (J a2), .int (J a3), .int (J a4)] S (fun v S' => v = some (.int (J x)) ∧ S1 = S') (fun _ _ => False) := GM.of (by decide) (Nat.le_of_ble_eq_true rfl) (ih hL _ _ _ _ _ _ _ _ H)
set_option maxHeartbeats 4000000 in
set_option maxRecDepth 20000 in
theorem t_X12_joinsOne_0 {l : Launch} {Z : XZ} {L : Nat → Nat} (n : Nat) (ih_X12_joinsOne_0 : P_X12_joinsOne_0 l Z L n) (ih_X12_joinsOne_43 : P_X12_joinsOne_43 l Z L n) (ih_X12_joinsOne_82 : P_X12_joinsOne_82 l Z L n) (ih_X12_joinsOne_109 : P_X12_joinsOne_109 l Z L n) (ih_X12_joinsOne_169 : P_X12_joinsOne_169 l Z L n) (ih_X12_joinsOne_194 : P_X12_joinsOne_194 l Z L n) (ih_X12_joinsOne_221 : P_X12_joinsOne_221 l Z L n) : P_X12_joinsOne_0 l Z L (n + 1) := by
  intro hL d S a1 a2 a3 a4 x S1 H
  have H : b_X12_joinsOne_0 n d (f_X12_joinsOne n) S a1 a2 a3 a4 = some (x, S1) := H
  unfold b_X12_joinsOne_0 at H
  refine GA.aload_n dX12_joinsOne_0 rfl ?_
  refine GA.aload_n dX12_joinsOne_1 rfl ?_
  obtain ⟨x1, hx2, H⟩ := gv_e H
  refine GV.getI hx2 xf_X12_756 dX12_joinsOne_2 (gs_500 hL) (by decide) rfl ?_
  refine GA.iload_n dX12_joinsOne_5 rfl ?_
  refine GA.aload_n dX12_joinsOne_6 rfl ?_
  obtain ⟨x3, hx4, H⟩ := gv_e H
  refine GV.getI hx4 xf_X12_759 dX12_joinsOne_7 (gs_500 hL) (by decide) rfl ?_
  refine GA.iload_n dX12_joinsOne_10 rfl ?_
  obtain ⟨hg5, H⟩ := gg_e H
  obtain ⟨x6, S_7, hc8, H⟩ := gc_e H
  refine GA.callV (m_X12_areAlike hL hc8) xs_X12_762 dX12_joinsOne_11 (gs_500 hL) (by decide) rfl rfl (by omega) (by decide) rfl (Nat.le_of_ble_eq_true rfl) (by omega) (by omega) rfl (fun E S9 hx => hx.elim) (fun v S9 hq => ?_)
  obtain ⟨rfl, rfl⟩ := hq
  refine GA.istore dX12_joinsOne_14 (by decide) ?_
  refine GA.iload dX12_joinsOne_16 rfl ?_
  obtain ⟨hg9, H⟩ := gg_e H
  refine GV.if_ne (tgt := 42) hg9 dX12_joinsOne_18 (by decide) (fun c10 => ?_) (fun c10 => ?_)
  · have H := it_t H c10
    refine GA.iconst dX12_joinsOne_42 ?_
    refine GA.locals [(0, .ref (L 500)), (1, .int (J a1)), (2, .int (J a2)), (3, .int (J a3)), (4, .int (J a4)), (5, .int (J x6))] ⟨rfl, rfl, rfl, rfl, rfl, rfl, trivial⟩ ?_
    exact ih_X12_joinsOne_43 hL _ _ (a1) (a2) (a3) (a4) (x6) (0) _ _ H
  · have H := it_f H c10
    refine GA.aload_n dX12_joinsOne_21 rfl ?_
    refine GA.aload_n dX12_joinsOne_22 rfl ?_
    obtain ⟨x11, hx12, H⟩ := gv_e H
    refine GV.getI hx12 xf_X12_756 dX12_joinsOne_23 (gs_500 hL) (by decide) rfl ?_
    refine GA.iload_n dX12_joinsOne_26 rfl ?_
    refine GA.aload_n dX12_joinsOne_27 rfl ?_
    obtain ⟨x13, hx14, H⟩ := gv_e H
    refine GV.getI hx14 xf_X12_765 dX12_joinsOne_28 (gs_500 hL) (by decide) rfl ?_
    refine GA.iload_n dX12_joinsOne_31 rfl ?_
    obtain ⟨x15, S_16, hc17, H⟩ := gc_e H
    refine GA.callV (m_X12_areAlike hL hc17) xs_X12_762 dX12_joinsOne_32 (gs_500 hL) (by decide) rfl rfl (by omega) (by decide) rfl (Nat.le_of_ble_eq_true rfl) (by omega) (by omega) rfl (fun E S9 hx => hx.elim) (fun v S9 hq => ?_)
    obtain ⟨rfl, rfl⟩ := hq
    obtain ⟨hg18, H⟩ := gg_e H
    refine GV.if_eq (tgt := 42) hg18 dX12_joinsOne_35 (by decide) (fun c19 => ?_) (fun c19 => ?_)
    · have H := it_t H c19
      refine GA.iconst dX12_joinsOne_42 ?_
      refine GA.locals [(0, .ref (L 500)), (1, .int (J a1)), (2, .int (J a2)), (3, .int (J a3)), (4, .int (J a4)), (5, .int (J x6))] ⟨rfl, rfl, rfl, rfl, rfl, rfl, trivial⟩ ?_
      exact ih_X12_joinsOne_43 hL _ _ (a1) (a2) (a3) (a4) (x6) (0) _ _ H
    · have H := it_f H c19
      refine GA.iconst dX12_joinsOne_38 ?_
      refine GA.goto (tgt := 43) dX12_joinsOne_39 (by decide) ?_
      refine GA.locals [(0, .ref (L 500)), (1, .int (J a1)), (2, .int (J a2)), (3, .int (J a3)), (4, .int (J a4)), (5, .int (J x6))] ⟨rfl, rfl, rfl, rfl, rfl, rfl, trivial⟩ ?_
      exact ih_X12_joinsOne_43 hL _ _ (a1) (a2) (a3) (a4) (x6) (1) _ _ H
set_option maxHeartbeats 4000000 in
set_option maxRecDepth 20000 in
theorem t_X12_joinsOne_43 {l : Launch} {Z : XZ} {L : Nat → Nat} (n : Nat) (ih_X12_joinsOne_0 : P_X12_joinsOne_0 l Z L n) (ih_X12_joinsOne_43 : P_X12_joinsOne_43 l Z L n) (ih_X12_joinsOne_82 : P_X12_joinsOne_82 l Z L n) (ih_X12_joinsOne_109 : P_X12_joinsOne_109 l Z L n) (ih_X12_joinsOne_169 : P_X12_joinsOne_169 l Z L n) (ih_X12_joinsOne_194 : P_X12_joinsOne_194 l Z L n) (ih_X12_joinsOne_221 : P_X12_joinsOne_221 l Z L n) : P_X12_joinsOne_43 l Z L (n + 1) := by
  intro hL d S a1 a2 a3 a4 a5 s0 x S1 H
  have H : b_X12_joinsOne_43 n d (f_X12_joinsOne n) S a1 a2 a3 a4 a5 s0 = some (x, S1) := H
  unfold b_X12_joinsOne_43 at H
  refine GA.istore dX12_joinsOne_43 (by decide) ?_
  refine GA.iload dX12_joinsOne_45 rfl ?_
  obtain ⟨hg1, H⟩ := gg_e H
  refine GV.if_ne (tgt := 72) hg1 dX12_joinsOne_47 (by decide) (fun c2 => ?_) (fun c2 => ?_)
  · have H := it_t H c2
    refine GA.iload dX12_joinsOne_72 rfl ?_
    obtain ⟨hg3, H⟩ := gg_e H
    refine GV.if_eq (tgt := 81) hg3 dX12_joinsOne_74 (by decide) (fun c4 => ?_) (fun c4 => ?_)
    · have H := it_t H c4
      refine GA.iload_n dX12_joinsOne_81 rfl ?_
      refine GA.locals [(0, .ref (L 500)), (4, .int (J a4)), (6, .int (J s0))] ⟨rfl, rfl, rfl, trivial⟩ ?_
      exact ih_X12_joinsOne_82 hL _ _ (a4) (s0) (a2) _ _ H
    · have H := it_f H c4
      refine GA.iload_n dX12_joinsOne_77 rfl ?_
      refine GA.goto (tgt := 82) dX12_joinsOne_78 (by decide) ?_
      refine GA.locals [(0, .ref (L 500)), (4, .int (J a4)), (6, .int (J s0))] ⟨rfl, rfl, rfl, trivial⟩ ?_
      exact ih_X12_joinsOne_82 hL _ _ (a4) (s0) (a3) _ _ H
  · have H := it_f H c2
    refine GA.iload dX12_joinsOne_50 rfl ?_
    obtain ⟨hg5, H⟩ := gg_e H
    refine GV.if_ne (tgt := 72) hg5 dX12_joinsOne_52 (by decide) (fun c6 => ?_) (fun c6 => ?_)
    · have H := it_t H c6
      refine GA.iload dX12_joinsOne_72 rfl ?_
      refine GV.if_eq (tgt := 81) hg5 dX12_joinsOne_74 (by decide) (fun c7 => ?_) (fun c7 => ?_)
      · have H := it_t H c7
        refine GA.iload_n dX12_joinsOne_81 rfl ?_
        refine GA.locals [(0, .ref (L 500)), (4, .int (J a4)), (6, .int (J s0))] ⟨rfl, rfl, rfl, trivial⟩ ?_
        exact ih_X12_joinsOne_82 hL _ _ (a4) (s0) (a2) _ _ H
      · have H := it_f H c7
        refine GA.iload_n dX12_joinsOne_77 rfl ?_
        refine GA.goto (tgt := 82) dX12_joinsOne_78 (by decide) ?_
        refine GA.locals [(0, .ref (L 500)), (4, .int (J a4)), (6, .int (J s0))] ⟨rfl, rfl, rfl, trivial⟩ ?_
        exact ih_X12_joinsOne_82 hL _ _ (a4) (s0) (a3) _ _ H
    · have H := it_f H c6
      refine GA.aload_n dX12_joinsOne_55 rfl ?_
      refine GA.aload_n dX12_joinsOne_56 rfl ?_
      obtain ⟨x8, hx9, H⟩ := gv_e H
      refine GV.getI hx9 xf_X12_759 dX12_joinsOne_57 (gs_500 hL) (by decide) rfl ?_
      refine GA.iload_n dX12_joinsOne_60 rfl ?_
      refine GA.aload_n dX12_joinsOne_61 rfl ?_
      obtain ⟨x10, hx11, H⟩ := gv_e H
      refine GV.getI hx11 xf_X12_765 dX12_joinsOne_62 (gs_500 hL) (by decide) rfl ?_
      refine GA.iload_n dX12_joinsOne_65 rfl ?_
      obtain ⟨hg12, H⟩ := gg_e H
      obtain ⟨x13, S_14, hc15, H⟩ := gc_e H
      refine GA.callV (m_X12_areAlike hL hc15) xs_X12_762 dX12_joinsOne_66 (gs_500 hL) (by decide) rfl rfl (by omega) (by decide) rfl (Nat.le_of_ble_eq_true rfl) (by omega) (by omega) rfl (fun E S9 hx => hx.elim) (fun v S9 hq => ?_)
      obtain ⟨rfl, rfl⟩ := hq
      obtain ⟨hg16, H⟩ := gg_e H
      refine GV.if_eq (tgt := 128) hg16 dX12_joinsOne_69 (by decide) (fun c17 => ?_) (fun c17 => ?_)
      · have H := it_t H c17
        refine GA.iload_n dX12_joinsOne_128 rfl ?_
        refine GA.iconst dX12_joinsOne_129 ?_
        obtain ⟨hg18, H⟩ := gg_e H
        refine GV.icmp_eq (tgt := 168) hg18 (by decide) dX12_joinsOne_130 (by decide) (fun c19 => ?_) (fun c19 => ?_)
        · have H := it_t H c19
          refine GA.iconst dX12_joinsOne_168 ?_
          refine GA.locals [(0, .ref (L 500)), (1, .int (J a1)), (4, .int (J a4))] ⟨rfl, rfl, rfl, trivial⟩ ?_
          exact ih_X12_joinsOne_169 hL _ _ (a1) (a4) (0) _ _ H
        · have H := it_f H c19
          refine GA.iload_n dX12_joinsOne_133 rfl ?_
          refine GA.iconst dX12_joinsOne_134 ?_
          obtain ⟨hg20, H⟩ := gg_e H
          refine GV.icmp_eq (tgt := 168) hg20 (by decide) dX12_joinsOne_135 (by decide) (fun c21 => ?_) (fun c21 => ?_)
          · have H := it_t H c21
            refine GA.iconst dX12_joinsOne_168 ?_
            refine GA.locals [(0, .ref (L 500)), (1, .int (J a1)), (4, .int (J a4))] ⟨rfl, rfl, rfl, trivial⟩ ?_
            exact ih_X12_joinsOne_169 hL _ _ (a1) (a4) (0) _ _ H
          · have H := it_f H c21
            refine GA.aload_n dX12_joinsOne_138 rfl ?_
            refine GA.aload_n dX12_joinsOne_139 rfl ?_
            obtain ⟨x22, hx23, H⟩ := gv_e H
            refine GV.getI hx23 xf_X12_756 dX12_joinsOne_140 (gs_500 hL) (by decide) rfl ?_
            refine GA.iload_n dX12_joinsOne_143 rfl ?_
            obtain ⟨x24, S_25, hc26, H⟩ := gc_e H
            refine GA.callV (m_X12_kind hL hc26) xs_X12_52 dX12_joinsOne_144 (gs_500 hL) (by decide) rfl rfl (by omega) (by decide) rfl (Nat.le_of_ble_eq_true rfl) (by omega) (by omega) rfl (fun E S9 hx => hx.elim) (fun v S9 hq => ?_)
            obtain ⟨rfl, rfl⟩ := hq
            refine GA.iconst dX12_joinsOne_147 ?_
            obtain ⟨hg27, H⟩ := gg_e H
            refine GV.icmp_ne (tgt := 168) hg27 (by decide) dX12_joinsOne_148 (by decide) (fun c28 => ?_) (fun c28 => ?_)
            · have H := it_t H c28
              refine GA.iconst dX12_joinsOne_168 ?_
              refine GA.locals [(0, .ref (L 500)), (1, .int (J a1)), (4, .int (J a4))] ⟨rfl, rfl, rfl, trivial⟩ ?_
              exact ih_X12_joinsOne_169 hL _ _ (a1) (a4) (0) _ _ H
            · have H := it_f H c28
              refine GA.aload_n dX12_joinsOne_151 rfl ?_
              refine GA.aload_n dX12_joinsOne_152 rfl ?_
              obtain ⟨x29, hx30, H⟩ := gv_e H
              refine GV.getI hx30 xf_X12_759 dX12_joinsOne_153 (gs_500 hL) (by decide) rfl ?_
              refine GA.iload_n dX12_joinsOne_156 rfl ?_
              obtain ⟨x31, S_32, hc33, H⟩ := gc_e H
              refine GA.callV (m_X12_kind hL hc33) xs_X12_52 dX12_joinsOne_157 (gs_500 hL) (by decide) rfl rfl (by omega) (by decide) rfl (Nat.le_of_ble_eq_true rfl) (by omega) (by omega) rfl (fun E S9 hx => hx.elim) (fun v S9 hq => ?_)
              obtain ⟨rfl, rfl⟩ := hq
              refine GA.iconst dX12_joinsOne_160 ?_
              obtain ⟨hg34, H⟩ := gg_e H
              refine GV.icmp_ne (tgt := 168) hg34 (by decide) dX12_joinsOne_161 (by decide) (fun c35 => ?_) (fun c35 => ?_)
              · have H := it_t H c35
                refine GA.iconst dX12_joinsOne_168 ?_
                refine GA.locals [(0, .ref (L 500)), (1, .int (J a1)), (4, .int (J a4))] ⟨rfl, rfl, rfl, trivial⟩ ?_
                exact ih_X12_joinsOne_169 hL _ _ (a1) (a4) (0) _ _ H
              · have H := it_f H c35
                refine GA.iconst dX12_joinsOne_164 ?_
                refine GA.goto (tgt := 169) dX12_joinsOne_165 (by decide) ?_
                refine GA.locals [(0, .ref (L 500)), (1, .int (J a1)), (4, .int (J a4))] ⟨rfl, rfl, rfl, trivial⟩ ?_
                exact ih_X12_joinsOne_169 hL _ _ (a1) (a4) (1) _ _ H
      · have H := it_f H c17
        refine GA.iload dX12_joinsOne_72 rfl ?_
        refine GV.if_eq (tgt := 81) hg5 dX12_joinsOne_74 (by decide) (fun c36 => ?_) (fun c36 => ?_)
        · have H := it_t H c36
          refine GA.iload_n dX12_joinsOne_81 rfl ?_
          refine GA.locals [(0, .ref (L 500)), (4, .int (J a4)), (6, .int (J s0))] ⟨rfl, rfl, rfl, trivial⟩ ?_
          exact ih_X12_joinsOne_82 hL _ _ (a4) (s0) (a2) _ _ H
        · have H := it_f H c36
          refine GA.iload_n dX12_joinsOne_77 rfl ?_
          refine GA.goto (tgt := 82) dX12_joinsOne_78 (by decide) ?_
          refine GA.locals [(0, .ref (L 500)), (4, .int (J a4)), (6, .int (J s0))] ⟨rfl, rfl, rfl, trivial⟩ ?_
          exact ih_X12_joinsOne_82 hL _ _ (a4) (s0) (a3) _ _ H
set_option maxHeartbeats 4000000 in
set_option maxRecDepth 20000 in
theorem t_X12_joinsOne_82 {l : Launch} {Z : XZ} {L : Nat → Nat} (n : Nat) (ih_X12_joinsOne_0 : P_X12_joinsOne_0 l Z L n) (ih_X12_joinsOne_43 : P_X12_joinsOne_43 l Z L n) (ih_X12_joinsOne_82 : P_X12_joinsOne_82 l Z L n) (ih_X12_joinsOne_109 : P_X12_joinsOne_109 l Z L n) (ih_X12_joinsOne_169 : P_X12_joinsOne_169 l Z L n) (ih_X12_joinsOne_194 : P_X12_joinsOne_194 l Z L n) (ih_X12_joinsOne_221 : P_X12_joinsOne_221 l Z L n) : P_X12_joinsOne_82 l Z L (n + 1) := by
  intro hL d S a4 a6 s0 x S1 H
  have H : b_X12_joinsOne_82 n d (f_X12_joinsOne n) S a4 a6 s0 = some (x, S1) := H
  unfold b_X12_joinsOne_82 at H
  refine GA.istore dX12_joinsOne_82 (by decide) ?_
  refine GA.iload dX12_joinsOne_84 rfl ?_
  refine GA.iconst dX12_joinsOne_86 ?_
  obtain ⟨hg1, H⟩ := gg_e H
  refine GV.icmp_eq (tgt := 116) hg1 (by decide) dX12_joinsOne_87 (by decide) (fun c2 => ?_) (fun c2 => ?_)
  · have H := it_t H c2
    refine GA.iload dX12_joinsOne_116 rfl ?_
    refine GA.iconst dX12_joinsOne_118 ?_
    refine GV.icmp_ne (tgt := 126) hg1 (by decide) dX12_joinsOne_119 (by decide) (fun c3 => ?_) (fun c3 => ?_)
    · have H := it_t H c3
      refine GA.iconst dX12_joinsOne_126 ?_
      cases H
      exact GA.iret rfl dX12_joinsOne_127 (by omega) (by omega) ⟨rfl, rfl⟩
    · have H := it_f H c3
      refine GA.iconst dX12_joinsOne_122 ?_
      refine GA.goto (tgt := 127) dX12_joinsOne_123 (by decide) ?_
      cases H
      exact GA.iret rfl dX12_joinsOne_127 (by omega) (by omega) ⟨rfl, rfl⟩
  · have H := it_f H c2
    refine GA.aload_n dX12_joinsOne_90 rfl ?_
    refine GA.bipush dX12_joinsOne_91 rfl ?_
    refine GA.iload dX12_joinsOne_93 rfl ?_
    obtain ⟨hg4, H⟩ := gg_e H
    refine GV.if_eq (tgt := 105) hg4 dX12_joinsOne_95 (by decide) (fun c5 => ?_) (fun c5 => ?_)
    · have H := it_t H c5
      refine GA.aload_n dX12_joinsOne_105 rfl ?_
      obtain ⟨x6, hx7, H⟩ := gv_e H
      refine GV.getI hx7 xf_X12_756 dX12_joinsOne_106 (gs_500 hL) (by decide) rfl ?_
      refine GA.locals [(4, .int (J a4)), (7, .int (J s0))] ⟨rfl, rfl, trivial⟩ ?_
      exact ih_X12_joinsOne_109 hL _ _ (a4) (s0) (x6) (40) _ _ H
    · have H := it_f H c5
      refine GA.aload_n dX12_joinsOne_98 rfl ?_
      obtain ⟨x8, hx9, H⟩ := gv_e H
      refine GV.getI hx9 xf_X12_759 dX12_joinsOne_99 (gs_500 hL) (by decide) rfl ?_
      refine GA.goto (tgt := 109) dX12_joinsOne_102 (by decide) ?_
      refine GA.locals [(4, .int (J a4)), (7, .int (J s0))] ⟨rfl, rfl, trivial⟩ ?_
      exact ih_X12_joinsOne_109 hL _ _ (a4) (s0) (x8) (40) _ _ H
set_option maxHeartbeats 4000000 in
set_option maxRecDepth 20000 in
theorem t_X12_joinsOne_109 {l : Launch} {Z : XZ} {L : Nat → Nat} (n : Nat) (ih_X12_joinsOne_0 : P_X12_joinsOne_0 l Z L n) (ih_X12_joinsOne_43 : P_X12_joinsOne_43 l Z L n) (ih_X12_joinsOne_82 : P_X12_joinsOne_82 l Z L n) (ih_X12_joinsOne_109 : P_X12_joinsOne_109 l Z L n) (ih_X12_joinsOne_169 : P_X12_joinsOne_169 l Z L n) (ih_X12_joinsOne_194 : P_X12_joinsOne_194 l Z L n) (ih_X12_joinsOne_221 : P_X12_joinsOne_221 l Z L n) : P_X12_joinsOne_109 l Z L (n + 1) := by
  intro hL d S a4 a7 s0 s1 x S1 H
  have H : b_X12_joinsOne_109 n d (f_X12_joinsOne n) S a4 a7 s0 s1 = some (x, S1) := H
  unfold b_X12_joinsOne_109 at H
  refine GA.iload dX12_joinsOne_109 rfl ?_
  refine GA.iload dX12_joinsOne_111 rfl ?_
  obtain ⟨hg1, H⟩ := gg_e H
  obtain ⟨x2, S_3, hc4, H⟩ := gc_e H
  refine GA.callV (m_X12_brings hL hc4) xs_X12_656 dX12_joinsOne_113 (gs_500 hL) (by decide) rfl rfl (by omega) (by decide) rfl (Nat.le_of_ble_eq_true rfl) (by omega) (by omega) rfl (fun E S9 hx => hx.elim) (fun v S9 hq => ?_)
  obtain ⟨rfl, rfl⟩ := hq
  refine GA.iload dX12_joinsOne_116 rfl ?_
  refine GA.iconst dX12_joinsOne_118 ?_
  obtain ⟨hg5, H⟩ := gg_e H
  refine GV.icmp_ne (tgt := 126) hg5 (by decide) dX12_joinsOne_119 (by decide) (fun c6 => ?_) (fun c6 => ?_)
  · have H := it_t H c6
    refine GA.iconst dX12_joinsOne_126 ?_
    cases H
    exact GA.iret rfl dX12_joinsOne_127 (by omega) (by omega) ⟨rfl, rfl⟩
  · have H := it_f H c6
    refine GA.iconst dX12_joinsOne_122 ?_
    refine GA.goto (tgt := 127) dX12_joinsOne_123 (by decide) ?_
    cases H
    exact GA.iret rfl dX12_joinsOne_127 (by omega) (by omega) ⟨rfl, rfl⟩
set_option maxHeartbeats 4000000 in
set_option maxRecDepth 20000 in
theorem t_X12_joinsOne_169 {l : Launch} {Z : XZ} {L : Nat → Nat} (n : Nat) (ih_X12_joinsOne_0 : P_X12_joinsOne_0 l Z L n) (ih_X12_joinsOne_43 : P_X12_joinsOne_43 l Z L n) (ih_X12_joinsOne_82 : P_X12_joinsOne_82 l Z L n) (ih_X12_joinsOne_109 : P_X12_joinsOne_109 l Z L n) (ih_X12_joinsOne_169 : P_X12_joinsOne_169 l Z L n) (ih_X12_joinsOne_194 : P_X12_joinsOne_194 l Z L n) (ih_X12_joinsOne_221 : P_X12_joinsOne_221 l Z L n) : P_X12_joinsOne_169 l Z L (n + 1) := by
  intro hL d S a1 a4 s0 x S1 H
  have H : b_X12_joinsOne_169 n d (f_X12_joinsOne n) S a1 a4 s0 = some (x, S1) := H
  unfold b_X12_joinsOne_169 at H
  refine GA.istore dX12_joinsOne_169 (by decide) ?_
  refine GA.iload dX12_joinsOne_171 rfl ?_
  obtain ⟨hg1, H⟩ := gg_e H
  refine GV.if_eq (tgt := 218) hg1 dX12_joinsOne_173 (by decide) (fun c2 => ?_) (fun c2 => ?_)
  · have H := it_t H c2
    refine GA.iconst dX12_joinsOne_218 ?_
    refine GA.istore dX12_joinsOne_219 (by decide) ?_
    refine GA.locals [(0, .ref (L 500)), (8, .int (J 0))] ⟨rfl, rfl, trivial⟩ ?_
    exact ih_X12_joinsOne_221 hL _ _ (0) _ _ H
  · have H := it_f H c2
    refine GA.iload_n dX12_joinsOne_176 rfl ?_
    refine GA.iconst dX12_joinsOne_177 ?_
    obtain ⟨hg3, H⟩ := gg_e H
    refine GV.icmp_eq (tgt := 194) hg3 (by decide) dX12_joinsOne_178 (by decide) (fun c4 => ?_) (fun c4 => ?_)
    · have H := it_t H c4
      refine GA.locals [(0, .ref (L 500)), (4, .int (J a4))] ⟨rfl, rfl, trivial⟩ ?_
      exact ih_X12_joinsOne_194 hL _ _ (a4) _ _ H
    · have H := it_f H c4
      refine GA.aload_n dX12_joinsOne_181 rfl ?_
      refine GA.aload_n dX12_joinsOne_182 rfl ?_
      obtain ⟨x5, hx6, H⟩ := gv_e H
      refine GV.getI hx6 xf_X12_765 dX12_joinsOne_183 (gs_500 hL) (by decide) rfl ?_
      refine GA.iload_n dX12_joinsOne_186 rfl ?_
      obtain ⟨hg7, H⟩ := gg_e H
      obtain ⟨x8, S_9, hc10, H⟩ := gc_e H
      refine GA.callV (m_X12_kind hL hc10) xs_X12_52 dX12_joinsOne_187 (gs_500 hL) (by decide) rfl rfl (by omega) (by decide) rfl (Nat.le_of_ble_eq_true rfl) (by omega) (by omega) rfl (fun E S9 hx => hx.elim) (fun v S9 hq => ?_)
      obtain ⟨rfl, rfl⟩ := hq
      refine GA.iconst dX12_joinsOne_190 ?_
      obtain ⟨hg11, H⟩ := gg_e H
      refine GV.icmp_ne (tgt := 218) hg11 (by decide) dX12_joinsOne_191 (by decide) (fun c12 => ?_) (fun c12 => ?_)
      · have H := it_t H c12
        refine GA.iconst dX12_joinsOne_218 ?_
        refine GA.istore dX12_joinsOne_219 (by decide) ?_
        refine GA.locals [(0, .ref (L 500)), (8, .int (J 0))] ⟨rfl, rfl, trivial⟩ ?_
        exact ih_X12_joinsOne_221 hL _ _ (0) _ _ H
      · have H := it_f H c12
        refine GA.locals [(0, .ref (L 500)), (4, .int (J a4))] ⟨rfl, rfl, trivial⟩ ?_
        exact ih_X12_joinsOne_194 hL _ _ (a4) _ _ H
set_option maxHeartbeats 4000000 in
set_option maxRecDepth 20000 in
theorem t_X12_joinsOne_194 {l : Launch} {Z : XZ} {L : Nat → Nat} (n : Nat) (ih_X12_joinsOne_0 : P_X12_joinsOne_0 l Z L n) (ih_X12_joinsOne_43 : P_X12_joinsOne_43 l Z L n) (ih_X12_joinsOne_82 : P_X12_joinsOne_82 l Z L n) (ih_X12_joinsOne_109 : P_X12_joinsOne_109 l Z L n) (ih_X12_joinsOne_169 : P_X12_joinsOne_169 l Z L n) (ih_X12_joinsOne_194 : P_X12_joinsOne_194 l Z L n) (ih_X12_joinsOne_221 : P_X12_joinsOne_221 l Z L n) : P_X12_joinsOne_194 l Z L (n + 1) := by
  intro hL d S a4 x S1 H
  have H : b_X12_joinsOne_194 n d (f_X12_joinsOne n) S a4 = some (x, S1) := H
  unfold b_X12_joinsOne_194 at H
  refine GA.aload_n dX12_joinsOne_194 rfl ?_
  refine GA.bipush dX12_joinsOne_195 rfl ?_
  refine GA.iconst dX12_joinsOne_197 ?_
  obtain ⟨hg1, H⟩ := gg_e H
  obtain ⟨x2, S_3, hc4, H⟩ := gc_e H
  refine GA.callV (m_X12_added hL hc4) xs_X12_33 dX12_joinsOne_198 (gs_500 hL) (by decide) rfl rfl (by omega) (by decide) rfl (Nat.le_of_ble_eq_true rfl) (by omega) (by omega) rfl (fun E S9 hx => hx.elim) (fun v S9 hq => ?_)
  obtain ⟨rfl, rfl⟩ := hq
  refine GA.istore dX12_joinsOne_201 (by decide) ?_
  refine GA.iload dX12_joinsOne_203 rfl ?_
  obtain ⟨hg5, H⟩ := gg_e H
  refine GV.if_eq (tgt := 216) hg5 dX12_joinsOne_205 (by decide) (fun c6 => ?_) (fun c6 => ?_)
  · have H := it_t H c6
    refine GA.iconst dX12_joinsOne_216 ?_
    cases H
    exact GA.iret rfl dX12_joinsOne_217 (by omega) (by omega) ⟨rfl, rfl⟩
  · have H := it_f H c6
    refine GA.aload_n dX12_joinsOne_208 rfl ?_
    refine GA.bipush dX12_joinsOne_209 rfl ?_
    refine GA.iload dX12_joinsOne_211 rfl ?_
    obtain ⟨x7, S_8, hc9, H⟩ := gc_e H
    refine GA.callV (m_X12_keyIs hL hc9) xs_X12_650 dX12_joinsOne_213 (gs_500 hL) (by decide) rfl rfl (by omega) (by decide) rfl (Nat.le_of_ble_eq_true rfl) (by omega) (by omega) rfl (fun E S9 hx => hx.elim) (fun v S9 hq => ?_)
    obtain ⟨rfl, rfl⟩ := hq
    refine GA.iconst dX12_joinsOne_216 ?_
    cases H
    exact GA.iret rfl dX12_joinsOne_217 (by omega) (by omega) ⟨rfl, rfl⟩
set_option maxHeartbeats 4000000 in
set_option maxRecDepth 20000 in
theorem t_X12_joinsOne_221 {l : Launch} {Z : XZ} {L : Nat → Nat} (n : Nat) (ih_X12_joinsOne_0 : P_X12_joinsOne_0 l Z L n) (ih_X12_joinsOne_43 : P_X12_joinsOne_43 l Z L n) (ih_X12_joinsOne_82 : P_X12_joinsOne_82 l Z L n) (ih_X12_joinsOne_109 : P_X12_joinsOne_109 l Z L n) (ih_X12_joinsOne_169 : P_X12_joinsOne_169 l Z L n) (ih_X12_joinsOne_194 : P_X12_joinsOne_194 l Z L n) (ih_X12_joinsOne_221 : P_X12_joinsOne_221 l Z L n) : P_X12_joinsOne_221 l Z L (n + 1) := by
  intro hL d S a8 x S1 H
  have H : b_X12_joinsOne_221 n d (f_X12_joinsOne n) S a8 = some (x, S1) := H
  unfold b_X12_joinsOne_221 at H
  refine GA.iload dX12_joinsOne_221 rfl ?_
  refine GA.aload_n dX12_joinsOne_223 rfl ?_
  obtain ⟨x1, hx2, H⟩ := gv_e H
  refine GV.getI hx2 xf_X12_604 dX12_joinsOne_224 (gs_500 hL) (by decide) rfl ?_
  obtain ⟨hg3, H⟩ := gg_e H
  obtain ⟨hg4, H⟩ := gg_e H
  refine GV.icmp_ge (tgt := 260) hg3 hg4 dX12_joinsOne_227 (by decide) (fun c5 => ?_) (fun c5 => ?_)
  · have H := it_t H c5
    refine GA.aload_n dX12_joinsOne_260 rfl ?_
    refine GA.get xf_X12_346 dX12_joinsOne_261 (gs_500 hL) (by decide) rfl ?_
    refine GA.aload_n dX12_joinsOne_264 rfl ?_
    obtain ⟨x6, hx7, H⟩ := gv_e H
    refine GV.getI hx7 xf_X12_768 dX12_joinsOne_265 (gs_500 hL) (by decide) rfl ?_
    refine GA.iconst dX12_joinsOne_268 ?_
    obtain ⟨x8, hx9, H⟩ := gv_e H
    refine GV.iadd hx9 dX12_joinsOne_269 ?_
    refine GA.aload_n dX12_joinsOne_270 rfl ?_
    refine GA.get xf_X12_346 dX12_joinsOne_271 (gs_500 hL) (by decide) rfl ?_
    refine GA.aload_n dX12_joinsOne_274 rfl ?_
    obtain ⟨x10, hx11, H⟩ := gv_e H
    refine GV.getI hx11 xf_X12_768 dX12_joinsOne_275 (gs_500 hL) (by decide) rfl ?_
    obtain ⟨hg12, H⟩ := gg_e H
    obtain ⟨x13, hx14, H⟩ := gv_e H
    refine GV.iald hg12 hx14 dX12_joinsOne_278 (gs_537 hL) (by decide) ?_
    refine GA.aload_n dX12_joinsOne_279 rfl ?_
    obtain ⟨x15, hx16, H⟩ := gv_e H
    refine GV.getI hx16 xf_X12_604 dX12_joinsOne_280 (gs_500 hL) (by decide) rfl ?_
    obtain ⟨x17, hx18, H⟩ := gv_e H
    refine GV.iadd hx18 dX12_joinsOne_283 ?_
    obtain ⟨hg19, H⟩ := gg_e H
    obtain ⟨S_20, hx21, H⟩ := gv_e H
    refine GV.iast hg19 hx21 dX12_joinsOne_284 (fun _ => (gs_537 hL)) (by decide) ?_
    refine GA.aload_n dX12_joinsOne_285 rfl ?_
    refine GA.dup dX12_joinsOne_286 rfl ?_
    obtain ⟨x22, hx23, H⟩ := gv_e H
    refine GV.getI hx23 xf_X12_768 dX12_joinsOne_287 (gs_500 hL) (by decide) rfl ?_
    refine GA.iconst dX12_joinsOne_290 ?_
    obtain ⟨x24, hx25, H⟩ := gv_e H
    refine GV.iadd hx25 dX12_joinsOne_291 ?_
    obtain ⟨S_26, hx27, H⟩ := gv_e H
    refine GV.putI hx27 (xp_X12_768 _) dX12_joinsOne_292 (gs_500 hL) (by decide) (Nat.le_of_ble_eq_true rfl) (gs_500 hL) ?_
    refine GA.iconst dX12_joinsOne_295 ?_
    cases H
    exact GA.iret rfl dX12_joinsOne_296 (by omega) (by omega) ⟨rfl, rfl⟩
  · have H := it_f H c5
    refine GA.aload_n dX12_joinsOne_230 rfl ?_
    refine GA.get xf_X12_349 dX12_joinsOne_231 (gs_500 hL) (by decide) rfl ?_
    refine GA.aload_n dX12_joinsOne_234 rfl ?_
    refine GA.get xf_X12_346 dX12_joinsOne_235 (gs_500 hL) (by decide) rfl ?_
    refine GA.aload_n dX12_joinsOne_238 rfl ?_
    obtain ⟨x28, hx29, H⟩ := gv_e H
    refine GV.getI hx29 xf_X12_768 dX12_joinsOne_239 (gs_500 hL) (by decide) rfl ?_
    obtain ⟨hg30, H⟩ := gg_e H
    obtain ⟨x31, hx32, H⟩ := gv_e H
    refine GV.iald hg30 hx32 dX12_joinsOne_242 (gs_537 hL) (by decide) ?_
    refine GA.iload dX12_joinsOne_243 rfl ?_
    obtain ⟨x33, hx34, H⟩ := gv_e H
    refine GV.iadd hx34 dX12_joinsOne_245 ?_
    refine GA.aload_n dX12_joinsOne_246 rfl ?_
    refine GA.get xf_X12_275 dX12_joinsOne_247 (gs_500 hL) (by decide) rfl ?_
    refine GA.iload dX12_joinsOne_250 rfl ?_
    obtain ⟨hg35, H⟩ := gg_e H
    obtain ⟨x36, hx37, H⟩ := gv_e H
    refine GV.iald hg35 hx37 dX12_joinsOne_252 (gs_518 hL) (by decide) ?_
    obtain ⟨hg38, H⟩ := gg_e H
    obtain ⟨S_39, hx40, H⟩ := gv_e H
    refine GV.iast hg38 hx40 dX12_joinsOne_253 (fun _ => (gs_538 hL)) (by decide) ?_
    obtain ⟨x41, hx42, H⟩ := gv_e H
    refine GV.iinc hx42 dX12_joinsOne_254 rfl (by decide) ?_
    refine GA.goto (tgt := 221) dX12_joinsOne_257 (by decide) ?_
    refine GA.locals [(0, .ref (L 500)), (8, .int (J x41))] ⟨rfl, rfl, trivial⟩ ?_
    exact ih_X12_joinsOne_221 hL _ _ (x41) _ _ H
theorem g_X12_joinsOne {l : Launch} {Z : XZ} {L : Nat → Nat} : ∀ n, P_X12_joinsOne_0 l Z L n ∧ P_X12_joinsOne_43 l Z L n ∧ P_X12_joinsOne_82 l Z L n ∧ P_X12_joinsOne_109 l Z L n ∧ P_X12_joinsOne_169 l Z L n ∧ P_X12_joinsOne_194 l Z L n ∧ P_X12_joinsOne_221 l Z L n
  | 0 => ⟨fun _ _ _ _ _ _ _ _ _ H => no_e H, fun _ _ _ _ _ _ _ _ _ _ _ H => no_e H, fun _ _ _ _ _ _ _ _ H => no_e H, fun _ _ _ _ _ _ _ _ _ H => no_e H, fun _ _ _ _ _ _ _ _ H => no_e H, fun _ _ _ _ _ _ H => no_e H, fun _ _ _ _ _ _ H => no_e H⟩
  | n + 1 => have ⟨h0, h1, h2, h3, h4, h5, h6⟩ := g_X12_joinsOne (l := l) (Z := Z) (L := L) n
    ⟨t_X12_joinsOne_0 n h0 h1 h2 h3 h4 h5 h6, t_X12_joinsOne_43 n h0 h1 h2 h3 h4 h5 h6, t_X12_joinsOne_82 n h0 h1 h2 h3 h4 h5 h6, t_X12_joinsOne_109 n h0 h1 h2 h3 h4 h5 h6, t_X12_joinsOne_169 n h0 h1 h2 h3 h4 h5 h6, t_X12_joinsOne_194 n h0 h1 h2 h3 h4 h5 h6, t_X12_joinsOne_221 n h0 h1 h2 h3 h4 h5 h6⟩
theorem m_X12_joinsOne {l : Launch} {Z : XZ} {L : Nat → Nat} (hL : L 700 = 1) {n d : Nat} {S : GS} {a1 : Int} {a2 : Int} {a3 : Int} {a4 : Int} {x : Int} {S1 : GS} (H : f_X12_joinsOne n d 0 S [a1, a2, a3, a4] = some (x, S1)) : GM l Z L yX12_joinsOne cX12_joinsOne 9 (some .int) [] d 0 0 [.ref (L 500), .int (J a1), .int (J a2), .int (J a3), .int (J a4)] S (fun v S' => v = some (.int (J x)) ∧ S1 = S') (fun _ _ => False) := GM.of (by decide) (Nat.le_of_ble_eq_true rfl) ((g_X12_joinsOne n).1 hL _ _ _ _ _ _ _ _ H)

def P_X12_mapOf_0 (l : Launch) (Z : XZ) (L : Nat → Nat) (n : Nat) : Prop := ∀ (hL : L 700 = 1), ∀ (d : Nat) (S : GS) (a1 : Int) (a2 : Int) (x : Int) (S1 : GS), f_X12_mapOf n d 0 S [a1, a2] = some (x, S1) → GA l Z L yX12_mapOf cX12_mapOf 3 (some .int) [] d 0 0 (fun v S' => v = some (.int (J x)) ∧ S1 = S') (fun _ _ => False) 0 (gl [(0, .ref (L 500)), (1, .int (J a1)), (2, .int (J a2))]) [] S 0 0
theorem i_X12_mapOf {l : Launch} {Z : XZ} {L : Nat → Nat} (hL : L 700 = 1) {n : Nat} (ih : P_X12_mapOf_0 l Z L n) {d : Nat} {S : GS} {a1 : Int} {a2 : Int} {x : Int} {S1 : GS} (H : f_X12_mapOf n d 0 S [a1, a2] = some (x, S1)) : GM l Z L yX12_mapOf cX12_mapOf 3 (some .int) [] d 0 0 [.ref (L 500), .int (J a1), .int (J a2)] S (fun v S' => v = some (.int (J x)) ∧ S1 = S') (fun _ _ => False) := GM.of (by decide) (Nat.le_of_ble_eq_true rfl) (ih hL _ _ _ _ _ _ H)
set_option maxHeartbeats 4000000 in
set_option maxRecDepth 20000 in
theorem t_X12_mapOf_0 {l : Launch} {Z : XZ} {L : Nat → Nat} (n : Nat) (ih_X12_mapOf_0 : P_X12_mapOf_0 l Z L n) : P_X12_mapOf_0 l Z L (n + 1) := by
  intro hL d S a1 a2 x S1 H
  have H : b_X12_mapOf_0 n d (f_X12_mapOf n) S a1 a2 = some (x, S1) := H
  unfold b_X12_mapOf_0 at H
  refine GA.iload_n dX12_mapOf_0 rfl ?_
  obtain ⟨hg1, H⟩ := gg_e H
  refine GV.if_ne (tgt := 13) hg1 dX12_mapOf_1 (by decide) (fun c2 => ?_) (fun c2 => ?_)
  · have H := it_t H c2
    refine GA.iload_n dX12_mapOf_13 rfl ?_
    refine GA.iconst dX12_mapOf_14 ?_
    refine GV.icmp_ne (tgt := 27) hg1 (by decide) dX12_mapOf_15 (by decide) (fun c3 => ?_) (fun c3 => ?_)
    · have H := it_t H c3
      refine GA.aload_n dX12_mapOf_27 rfl ?_
      refine GA.get xf_X12_324 dX12_mapOf_28 (gs_500 hL) (by decide) rfl ?_
      refine GA.iload_n dX12_mapOf_31 rfl ?_
      obtain ⟨hg4, H⟩ := gg_e H
      obtain ⟨x5, hx6, H⟩ := gv_e H
      refine GV.iald hg4 hx6 dX12_mapOf_32 (gs_530 hL) (by decide) ?_
      cases H
      exact GA.iret rfl dX12_mapOf_33 (by omega) (by omega) ⟨rfl, rfl⟩
    · have H := it_f H c3
      refine GA.aload_n dX12_mapOf_18 rfl ?_
      refine GA.get xf_X12_321 dX12_mapOf_19 (gs_500 hL) (by decide) rfl ?_
      refine GA.iload_n dX12_mapOf_22 rfl ?_
      obtain ⟨hg7, H⟩ := gg_e H
      obtain ⟨x8, hx9, H⟩ := gv_e H
      refine GV.iald hg7 hx9 dX12_mapOf_23 (gs_529 hL) (by decide) ?_
      refine GA.goto (tgt := 33) dX12_mapOf_24 (by decide) ?_
      cases H
      exact GA.iret rfl dX12_mapOf_33 (by omega) (by omega) ⟨rfl, rfl⟩
  · have H := it_f H c2
    refine GA.aload_n dX12_mapOf_4 rfl ?_
    refine GA.get xf_X12_318 dX12_mapOf_5 (gs_500 hL) (by decide) rfl ?_
    refine GA.iload_n dX12_mapOf_8 rfl ?_
    obtain ⟨hg10, H⟩ := gg_e H
    obtain ⟨x11, hx12, H⟩ := gv_e H
    refine GV.iald hg10 hx12 dX12_mapOf_9 (gs_528 hL) (by decide) ?_
    refine GA.goto (tgt := 33) dX12_mapOf_10 (by decide) ?_
    cases H
    exact GA.iret rfl dX12_mapOf_33 (by omega) (by omega) ⟨rfl, rfl⟩
theorem g_X12_mapOf {l : Launch} {Z : XZ} {L : Nat → Nat} : ∀ n, P_X12_mapOf_0 l Z L n
  | 0 => fun _ _ _ _ _ _ _ H => no_e H
  | n + 1 => t_X12_mapOf_0 n (g_X12_mapOf n)
theorem m_X12_mapOf {l : Launch} {Z : XZ} {L : Nat → Nat} (hL : L 700 = 1) {n d : Nat} {S : GS} {a1 : Int} {a2 : Int} {x : Int} {S1 : GS} (H : f_X12_mapOf n d 0 S [a1, a2] = some (x, S1)) : GM l Z L yX12_mapOf cX12_mapOf 3 (some .int) [] d 0 0 [.ref (L 500), .int (J a1), .int (J a2)] S (fun v S' => v = some (.int (J x)) ∧ S1 = S') (fun _ _ => False) := GM.of (by decide) (Nat.le_of_ble_eq_true rfl) ((g_X12_mapOf n) hL _ _ _ _ _ _ H)

def P_X12_joins_0 (l : Launch) (Z : XZ) (L : Nat → Nat) (n : Nat) : Prop := ∀ (hL : L 700 = 1), ∀ (d : Nat) (S : GS) (x : Int) (S1 : GS), f_X12_joins n d 0 S [] = some (x, S1) → GA l Z L yX12_joins cX12_joins 11 none [] d 0 0 (fun v S' => v = none ∧ S1 = S') (fun _ _ => False) 0 (gl [(0, .ref (L 500))]) [] S 0 0
def P_X12_joins_47 (l : Launch) (Z : XZ) (L : Nat → Nat) (n : Nat) : Prop := ∀ (hL : L 700 = 1), ∀ (d : Nat) (S : GS) (a1 : Int) (x : Int) (S1 : GS), f_X12_joins n d 47 S [a1] = some (x, S1) → GA l Z L yX12_joins cX12_joins 11 none [] d 0 0 (fun v S' => v = none ∧ S1 = S') (fun _ _ => False) 47 (gl [(0, .ref (L 500)), (1, .int (J a1))]) [] S 0 0
def P_X12_joins_96 (l : Launch) (Z : XZ) (L : Nat → Nat) (n : Nat) : Prop := ∀ (hL : L 700 = 1), ∀ (d : Nat) (S : GS) (a1 : Int) (a2 : Int) (a3 : Int) (x : Int) (S1 : GS), f_X12_joins n d 96 S [a1, a2, a3] = some (x, S1) → GA l Z L yX12_joins cX12_joins 11 none [] d 0 0 (fun v S' => v = none ∧ S1 = S') (fun _ _ => False) 96 (gl [(0, .ref (L 500)), (1, .int (J a1)), (2, .int (J a2)), (3, .int (J a3))]) [] S 0 0
def P_X12_joins_197 (l : Launch) (Z : XZ) (L : Nat → Nat) (n : Nat) : Prop := ∀ (hL : L 700 = 1), ∀ (d : Nat) (S : GS) (a1 : Int) (a2 : Int) (a3 : Int) (a5 : Int) (a6 : Int) (s0 : Int) (x : Int) (S1 : GS), f_X12_joins n d 197 S [a1, a2, a3, a5, a6, s0] = some (x, S1) → GA l Z L yX12_joins cX12_joins 11 none [] d 0 0 (fun v S' => v = none ∧ S1 = S') (fun _ _ => False) 197 (gl [(0, .ref (L 500)), (1, .int (J a1)), (2, .int (J a2)), (3, .int (J a3)), (5, .int (J a5)), (6, .int (J a6))]) [.int (J s0)] S 0 0
def P_X12_joins_260 (l : Launch) (Z : XZ) (L : Nat → Nat) (n : Nat) : Prop := ∀ (hL : L 700 = 1), ∀ (d : Nat) (S : GS) (a1 : Int) (a2 : Int) (a5 : Int) (a6 : Int) (a7 : Int) (a8 : Int) (a9 : Int) (x : Int) (S1 : GS), f_X12_joins n d 260 S [a1, a2, a5, a6, a7, a8, a9] = some (x, S1) → GA l Z L yX12_joins cX12_joins 11 none [] d 0 0 (fun v S' => v = none ∧ S1 = S') (fun _ _ => False) 260 (gl [(0, .ref (L 500)), (1, .int (J a1)), (2, .int (J a2)), (5, .int (J a5)), (6, .int (J a6)), (7, .int (J a7)), (8, .int (J a8)), (9, .int (J a9))]) [] S 0 0
def P_X12_joins_324 (l : Launch) (Z : XZ) (L : Nat → Nat) (n : Nat) : Prop := ∀ (hL : L 700 = 1), ∀ (d : Nat) (S : GS) (a1 : Int) (a7 : Int) (a8 : Int) (a9 : Int) (a10 : Int) (s0 : Int) (s1 : Int) (s2 : Int) (x : Int) (S1 : GS), f_X12_joins n d 324 S [a1, a7, a8, a9, a10, s0, s1, s2] = some (x, S1) → GA l Z L yX12_joins cX12_joins 11 none [] d 0 0 (fun v S' => v = none ∧ S1 = S') (fun _ _ => False) 324 (gl [(0, .ref (L 500)), (1, .int (J a1)), (7, .int (J a7)), (8, .int (J a8)), (9, .int (J a9)), (10, .int (J a10))]) [.int (J s0), .int (J s1), .int (J s2), .ref (L 501)] S 0 0
theorem i_X12_joins {l : Launch} {Z : XZ} {L : Nat → Nat} (hL : L 700 = 1) {n : Nat} (ih : P_X12_joins_0 l Z L n) {d : Nat} {S : GS} {x : Int} {S1 : GS} (H : f_X12_joins n d 0 S [] = some (x, S1)) : GM l Z L yX12_joins cX12_joins 11 none [] d 0 0 [.ref (L 500)] S (fun v S' => v = none ∧ S1 = S') (fun _ _ => False) := GM.of (by decide) (Nat.le_of_ble_eq_true rfl) (ih hL _ _ _ _ H)
set_option maxHeartbeats 4000000 in
set_option maxRecDepth 20000 in
theorem t_X12_joins_0 {l : Launch} {Z : XZ} {L : Nat → Nat} (n : Nat) (ih_X12_joins_0 : P_X12_joins_0 l Z L n) (ih_X12_joins_47 : P_X12_joins_47 l Z L n) (ih_X12_joins_96 : P_X12_joins_96 l Z L n) (ih_X12_joins_197 : P_X12_joins_197 l Z L n) (ih_X12_joins_260 : P_X12_joins_260 l Z L n) (ih_X12_joins_324 : P_X12_joins_324 l Z L n) : P_X12_joins_0 l Z L (n + 1) := by
  intro hL d S  x S1 H
  have H : b_X12_joins_0 n d (f_X12_joins n) S  = some (x, S1) := H
  unfold b_X12_joins_0 at H
  refine GA.aload_n dX12_joins_0 rfl ?_
  refine GA.bipush dX12_joins_1 rfl ?_
  obtain ⟨hg1, H⟩ := gg_e H
  obtain ⟨x2, S_3, hc4, H⟩ := gc_e H
  refine GA.callV (m_X12_begin hL hc4) xs_X12_517 dX12_joins_3 (gs_500 hL) (by decide) rfl rfl (by omega) (by decide) rfl (Nat.le_of_ble_eq_true rfl) (by omega) (by omega) rfl (fun E S9 hx => hx.elim) (fun v S9 hq => ?_)
  obtain ⟨rfl, rfl⟩ := hq
  refine GA.aload_n dX12_joins_6 rfl ?_
  refine GA.iconst dX12_joins_7 ?_
  obtain ⟨S_5, hx6, H⟩ := gv_e H
  refine GV.putI hx6 (xp_X12_768 _) dX12_joins_8 (gs_500 hL) (by decide) (Nat.le_of_ble_eq_true rfl) (gs_500 hL) ?_
  refine GA.aload_n dX12_joins_11 rfl ?_
  refine GA.get xf_X12_346 dX12_joins_12 (gs_500 hL) (by decide) rfl ?_
  refine GA.iconst dX12_joins_15 ?_
  refine GA.iconst dX12_joins_16 ?_
  obtain ⟨hg7, H⟩ := gg_e H
  obtain ⟨S_8, hx9, H⟩ := gv_e H
  refine GV.iast hg7 hx9 dX12_joins_17 (fun _ => (gs_537 hL)) (by decide) ?_
  refine GA.aload_n dX12_joins_18 rfl ?_
  refine GA.iconst dX12_joins_19 ?_
  obtain ⟨S_10, hx11, H⟩ := gv_e H
  refine GV.putI hx11 (xp_X12_604 _) dX12_joins_20 (gs_500 hL) (by decide) (Nat.le_of_ble_eq_true rfl) (gs_500 hL) ?_
  refine GA.iconst dX12_joins_23 ?_
  refine GA.istore_n dX12_joins_24 (by decide) ?_
  refine GA.aload_n dX12_joins_25 rfl ?_
  refine GA.iconst dX12_joins_26 ?_
  refine GA.iconst dX12_joins_27 ?_
  refine GA.iconst dX12_joins_28 ?_
  refine GA.iconst dX12_joins_29 ?_
  obtain ⟨x12, S_13, hc14, H⟩ := gc_e H
  refine GA.callV (m_X12_joinsOne hL hc14) xs_X12_771 dX12_joins_30 (gs_500 hL) (by decide) rfl rfl (by omega) (by decide) rfl (Nat.le_of_ble_eq_true rfl) (by omega) (by omega) rfl (fun E S9 hx => hx.elim) (fun v S9 hq => ?_)
  obtain ⟨rfl, rfl⟩ := hq
  refine GA.iconst dX12_joins_33 ?_
  obtain ⟨hg15, H⟩ := gg_e H
  refine GV.icmp_ne (tgt := 47) hg15 (by decide) dX12_joins_34 (by decide) (fun c16 => ?_) (fun c16 => ?_)
  · have H := it_t H c16
    refine GA.locals [(0, .ref (L 500)), (1, .int (J 0))] ⟨rfl, rfl, trivial⟩ ?_
    exact ih_X12_joins_47 hL _ _ (0) _ _ H
  · have H := it_f H c16
    refine GA.aload_n dX12_joins_37 rfl ?_
    refine GA.iconst dX12_joins_38 ?_
    refine GA.iconst dX12_joins_39 ?_
    refine GA.iconst dX12_joins_40 ?_
    refine GA.iconst dX12_joins_41 ?_
    obtain ⟨x17, S_18, hc19, H⟩ := gc_e H
    refine GA.callV (m_X12_goesInto hL hc19) xs_X12_775 dX12_joins_42 (gs_500 hL) (by decide) rfl rfl (by omega) (by decide) rfl (Nat.le_of_ble_eq_true rfl) (by omega) (by omega) rfl (fun E S9 hx => hx.elim) (fun v S9 hq => ?_)
    obtain ⟨rfl, rfl⟩ := hq
    refine GA.iconst dX12_joins_45 ?_
    refine GA.istore_n dX12_joins_46 (by decide) ?_
    refine GA.locals [(0, .ref (L 500)), (1, .int (J 1))] ⟨rfl, rfl, trivial⟩ ?_
    exact ih_X12_joins_47 hL _ _ (1) _ _ H
set_option maxHeartbeats 4000000 in
set_option maxRecDepth 20000 in
theorem t_X12_joins_47 {l : Launch} {Z : XZ} {L : Nat → Nat} (n : Nat) (ih_X12_joins_0 : P_X12_joins_0 l Z L n) (ih_X12_joins_47 : P_X12_joins_47 l Z L n) (ih_X12_joins_96 : P_X12_joins_96 l Z L n) (ih_X12_joins_197 : P_X12_joins_197 l Z L n) (ih_X12_joins_260 : P_X12_joins_260 l Z L n) (ih_X12_joins_324 : P_X12_joins_324 l Z L n) : P_X12_joins_47 l Z L (n + 1) := by
  intro hL d S a1 x S1 H
  have H : b_X12_joins_47 n d (f_X12_joins n) S a1 = some (x, S1) := H
  unfold b_X12_joins_47 at H
  refine GA.iload_n dX12_joins_47 rfl ?_
  obtain ⟨hg1, H⟩ := gg_e H
  refine GV.if_le (tgt := 349) hg1 dX12_joins_48 (by decide) (fun c2 => ?_) (fun c2 => ?_)
  · have H := it_t H c2
    cases H
    exact GA.vret rfl dX12_joins_349 (by omega) (by omega) ⟨rfl, rfl⟩
  · have H := it_f H c2
    refine GA.iload_n dX12_joins_51 rfl ?_
    refine GA.iconst dX12_joins_52 ?_
    obtain ⟨x3, hx4, H⟩ := gv_e H
    refine GV.isub hx4 dX12_joins_53 ?_
    refine GA.istore_n dX12_joins_54 (by decide) ?_
    refine GA.aload_n dX12_joins_55 rfl ?_
    refine GA.get xf_X12_327 dX12_joins_56 (gs_500 hL) (by decide) rfl ?_
    refine GA.iload_n dX12_joins_59 rfl ?_
    obtain ⟨hg5, H⟩ := gg_e H
    obtain ⟨x6, hx7, H⟩ := gv_e H
    refine GV.iald hg5 hx7 dX12_joins_60 (gs_531 hL) (by decide) ?_
    refine GA.istore_n dX12_joins_61 (by decide) ?_
    refine GA.aload_n dX12_joins_62 rfl ?_
    refine GA.iload_n dX12_joins_63 rfl ?_
    refine GA.iload_n dX12_joins_64 rfl ?_
    obtain ⟨hg8, H⟩ := gg_e H
    obtain ⟨x9, S_10, hc11, H⟩ := gc_e H
    refine GA.callV (m_X12_mapOf hL hc11) xs_X12_778 dX12_joins_65 (gs_500 hL) (by decide) rfl rfl (by omega) (by decide) rfl (Nat.le_of_ble_eq_true rfl) (by omega) (by omega) rfl (fun E S9 hx => hx.elim) (fun v S9 hq => ?_)
    obtain ⟨rfl, rfl⟩ := hq
    refine GA.istore dX12_joins_68 (by decide) ?_
    refine GA.iload dX12_joins_70 rfl ?_
    refine GA.iconst dX12_joins_72 ?_
    obtain ⟨hg12, H⟩ := gg_e H
    refine GV.icmp_eq (tgt := 96) hg12 (by decide) dX12_joins_73 (by decide) (fun c13 => ?_) (fun c13 => ?_)
    · have H := it_t H c13
      refine GA.locals [(0, .ref (L 500)), (1, .int (J a1)), (2, .int (J x3)), (3, .int (J x6))] ⟨rfl, rfl, rfl, rfl, trivial⟩ ?_
      exact ih_X12_joins_96 hL _ _ (a1) (x3) (x6) _ _ H
    · have H := it_f H c13
      refine GA.aload_n dX12_joins_76 rfl ?_
      refine GA.get xf_X12_330 dX12_joins_77 (gs_500 hL) (by decide) rfl ?_
      refine GA.iload_n dX12_joins_80 rfl ?_
      obtain ⟨x14, hx15, H⟩ := gv_e H
      refine GV.iald hg5 hx15 dX12_joins_81 (gs_532 hL) (by decide) ?_
      refine GA.aload_n dX12_joins_82 rfl ?_
      refine GA.aload_n dX12_joins_83 rfl ?_
      refine GA.iload_n dX12_joins_84 rfl ?_
      obtain ⟨x16, S_17, hc18, H⟩ := gc_e H
      refine GA.callV (m_X12_docOf hL hc18) xs_X12_781 dX12_joins_85 (gs_500 hL) (by decide) rfl rfl (by omega) (by decide) rfl (Nat.le_of_ble_eq_true rfl) (by omega) (by omega) rfl (fun E S9 hx => hx.elim) (fun v S9 hq => ?_)
      obtain ⟨rfl, rfl⟩ := hq
      refine GA.iload dX12_joins_88 rfl ?_
      obtain ⟨x19, S_20, hc21, H⟩ := gc_e H
      refine GA.callV (m_X12_endOf hL hc21) xs_X12_49 dX12_joins_90 (gs_500 hL) (by decide) rfl rfl (by omega) (by decide) rfl (Nat.le_of_ble_eq_true rfl) (by omega) (by omega) rfl (fun E S9 hx => hx.elim) (fun v S9 hq => ?_)
      obtain ⟨rfl, rfl⟩ := hq
      obtain ⟨hg22, H⟩ := gg_e H
      obtain ⟨hg23, H⟩ := gg_e H
      refine GV.icmp_ne (tgt := 136) hg22 hg23 dX12_joins_93 (by decide) (fun c24 => ?_) (fun c24 => ?_)
      · have H := it_t H c24
        refine GA.aload_n dX12_joins_136 rfl ?_
        refine GA.get xf_X12_330 dX12_joins_137 (gs_500 hL) (by decide) rfl ?_
        refine GA.iload_n dX12_joins_140 rfl ?_
        obtain ⟨x25, hx26, H⟩ := gv_e H
        refine GV.iald hg5 hx26 dX12_joins_141 (gs_532 hL) (by decide) ?_
        refine GA.istore dX12_joins_142 (by decide) ?_
        refine GA.aload_n dX12_joins_144 rfl ?_
        refine GA.iload_n dX12_joins_145 rfl ?_
        obtain ⟨x27, S_28, hc29, H⟩ := gc_e H
        refine GA.callV (m_X12_docOf hL hc29) xs_X12_781 dX12_joins_146 (gs_500 hL) (by decide) rfl rfl (by omega) (by decide) rfl (Nat.le_of_ble_eq_true rfl) (by omega) (by omega) rfl (fun E S9 hx => hx.elim) (fun v S9 hq => ?_)
        obtain ⟨rfl, rfl⟩ := hq
        refine GA.istore dX12_joins_149 (by decide) ?_
        refine GA.aload_n dX12_joins_151 rfl ?_
        refine GA.get xf_X12_330 dX12_joins_152 (gs_500 hL) (by decide) rfl ?_
        refine GA.iload_n dX12_joins_155 rfl ?_
        refine GA.aload_n dX12_joins_156 rfl ?_
        refine GA.iload dX12_joins_157 rfl ?_
        refine GA.iload dX12_joins_159 rfl ?_
        obtain ⟨x30, S_31, hc32, H⟩ := gc_e H
        refine GA.callV (m_X12_endOf hL hc32) xs_X12_49 dX12_joins_161 (gs_500 hL) (by decide) rfl rfl (by omega) (by decide) rfl (Nat.le_of_ble_eq_true rfl) (by omega) (by omega) rfl (fun E S9 hx => hx.elim) (fun v S9 hq => ?_)
        obtain ⟨rfl, rfl⟩ := hq
        obtain ⟨S_33, hx34, H⟩ := gv_e H
        refine GV.iast hg5 hx34 dX12_joins_164 (fun _ => (gs_532 hL)) (by decide) ?_
        refine GA.aload_n dX12_joins_165 rfl ?_
        refine GA.get xf_X12_318 dX12_joins_166 (gs_500 hL) (by decide) rfl ?_
        refine GA.iload_n dX12_joins_169 rfl ?_
        obtain ⟨x35, hx36, H⟩ := gv_e H
        refine GV.iald hg5 hx36 dX12_joins_170 (gs_528 hL) (by decide) ?_
        refine GA.iconst dX12_joins_171 ?_
        obtain ⟨hg37, H⟩ := gg_e H
        refine GV.icmp_ne (tgt := 179) hg37 (by decide) dX12_joins_172 (by decide) (fun c38 => ?_) (fun c38 => ?_)
        · have H := it_t H c38
          refine GA.aload_n dX12_joins_179 rfl ?_
          refine GA.aload_n dX12_joins_180 rfl ?_
          obtain ⟨x39, hx40, H⟩ := gv_e H
          refine GV.getI hx40 xf_X12_765 dX12_joins_181 (gs_500 hL) (by decide) rfl ?_
          refine GA.aload_n dX12_joins_184 rfl ?_
          refine GA.get xf_X12_318 dX12_joins_185 (gs_500 hL) (by decide) rfl ?_
          refine GA.iload_n dX12_joins_188 rfl ?_
          obtain ⟨x41, hx42, H⟩ := gv_e H
          refine GV.iald hg5 hx42 dX12_joins_189 (gs_528 hL) (by decide) ?_
          refine GA.iload dX12_joins_190 rfl ?_
          refine GA.iload dX12_joins_192 rfl ?_
          obtain ⟨x43, S_44, hc45, H⟩ := gc_e H
          refine GA.callV (m_X12_childLike hL hc45) xs_X12_732 dX12_joins_194 (gs_500 hL) (by decide) rfl rfl (by omega) (by decide) rfl (Nat.le_of_ble_eq_true rfl) (by omega) (by omega) rfl (fun E S9 hx => hx.elim) (fun v S9 hq => ?_)
          obtain ⟨rfl, rfl⟩ := hq
          refine GA.locals [(0, .ref (L 500)), (1, .int (J a1)), (2, .int (J x3)), (3, .int (J x6)), (5, .int (J x25)), (6, .int (J x27))] ⟨rfl, rfl, rfl, rfl, rfl, rfl, trivial⟩ ?_
          exact ih_X12_joins_197 hL _ _ (a1) (x3) (x6) (x25) (x27) (x43) _ _ H
        · have H := it_f H c38
          refine GA.iconst dX12_joins_175 ?_
          refine GA.goto (tgt := 197) dX12_joins_176 (by decide) ?_
          refine GA.locals [(0, .ref (L 500)), (1, .int (J a1)), (2, .int (J x3)), (3, .int (J x6)), (5, .int (J x25)), (6, .int (J x27))] ⟨rfl, rfl, rfl, rfl, rfl, rfl, trivial⟩ ?_
          exact ih_X12_joins_197 hL _ _ (a1) (x3) (x6) (x25) (x27) ((-1)) _ _ H
      · have H := it_f H c24
        refine GA.locals [(0, .ref (L 500)), (1, .int (J a1)), (2, .int (J x3)), (3, .int (J x6))] ⟨rfl, rfl, rfl, rfl, trivial⟩ ?_
        exact ih_X12_joins_96 hL _ _ (a1) (x3) (x6) _ _ H
set_option maxHeartbeats 4000000 in
set_option maxRecDepth 20000 in
theorem t_X12_joins_96 {l : Launch} {Z : XZ} {L : Nat → Nat} (n : Nat) (ih_X12_joins_0 : P_X12_joins_0 l Z L n) (ih_X12_joins_47 : P_X12_joins_47 l Z L n) (ih_X12_joins_96 : P_X12_joins_96 l Z L n) (ih_X12_joins_197 : P_X12_joins_197 l Z L n) (ih_X12_joins_260 : P_X12_joins_260 l Z L n) (ih_X12_joins_324 : P_X12_joins_324 l Z L n) : P_X12_joins_96 l Z L (n + 1) := by
  intro hL d S a1 a2 a3 x S1 H
  have H : b_X12_joins_96 n d (f_X12_joins n) S a1 a2 a3 = some (x, S1) := H
  unfold b_X12_joins_96 at H
  refine GA.aload_n dX12_joins_96 rfl ?_
  refine GA.get xf_X12_327 dX12_joins_97 (gs_500 hL) (by decide) rfl ?_
  refine GA.iload_n dX12_joins_100 rfl ?_
  refine GA.dup2 dX12_joins_101 rfl rfl ?_
  obtain ⟨hg1, H⟩ := gg_e H
  obtain ⟨x2, hx3, H⟩ := gv_e H
  refine GV.iald hg1 hx3 dX12_joins_102 (gs_531 hL) (by decide) ?_
  refine GA.iconst dX12_joins_103 ?_
  obtain ⟨x4, hx5, H⟩ := gv_e H
  refine GV.iadd hx5 dX12_joins_104 ?_
  obtain ⟨S_6, hx7, H⟩ := gv_e H
  refine GV.iast hg1 hx7 dX12_joins_105 (fun _ => (gs_531 hL)) (by decide) ?_
  refine GA.iload_n dX12_joins_106 rfl ?_
  refine GA.iconst dX12_joins_107 ?_
  obtain ⟨hg8, H⟩ := gg_e H
  refine GV.icmp_ne (tgt := 117) hg8 (by decide) dX12_joins_108 (by decide) (fun c9 => ?_) (fun c9 => ?_)
  · have H := it_t H c9
    refine GA.aload_n dX12_joins_117 rfl ?_
    refine GA.get xf_X12_330 dX12_joins_118 (gs_500 hL) (by decide) rfl ?_
    refine GA.iload_n dX12_joins_121 rfl ?_
    refine GA.aload_n dX12_joins_122 rfl ?_
    refine GA.iload_n dX12_joins_123 rfl ?_
    refine GA.iload_n dX12_joins_124 rfl ?_
    refine GA.iconst dX12_joins_125 ?_
    obtain ⟨x10, hx11, H⟩ := gv_e H
    refine GV.iadd hx11 dX12_joins_126 ?_
    obtain ⟨hg12, H⟩ := gg_e H
    obtain ⟨x13, S_14, hc15, H⟩ := gc_e H
    refine GA.callV (m_X12_mapOf hL hc15) xs_X12_778 dX12_joins_127 (gs_500 hL) (by decide) rfl rfl (by omega) (by decide) rfl (Nat.le_of_ble_eq_true rfl) (by omega) (by omega) rfl (fun E S9 hx => hx.elim) (fun v S9 hq => ?_)
    obtain ⟨rfl, rfl⟩ := hq
    refine GA.iconst dX12_joins_130 ?_
    obtain ⟨x16, hx17, H⟩ := gv_e H
    refine GV.iadd hx17 dX12_joins_131 ?_
    obtain ⟨S_18, hx19, H⟩ := gv_e H
    refine GV.iast hg1 hx19 dX12_joins_132 (fun _ => (gs_532 hL)) (by decide) ?_
    refine GA.goto (tgt := 346) dX12_joins_133 (by decide) ?_
    refine GA.goto (tgt := 47) dX12_joins_346 (by decide) ?_
    refine GA.locals [(0, .ref (L 500)), (1, .int (J a1))] ⟨rfl, rfl, trivial⟩ ?_
    exact ih_X12_joins_47 hL _ _ (a1) _ _ H
  · have H := it_f H c9
    obtain ⟨x20, hx21, H⟩ := gv_e H
    refine GV.iinc hx21 dX12_joins_111 rfl (by decide) ?_
    refine GA.goto (tgt := 346) dX12_joins_114 (by decide) ?_
    refine GA.goto (tgt := 47) dX12_joins_346 (by decide) ?_
    refine GA.locals [(0, .ref (L 500)), (1, .int (J x20))] ⟨rfl, rfl, trivial⟩ ?_
    exact ih_X12_joins_47 hL _ _ (x20) _ _ H
set_option maxHeartbeats 4000000 in
set_option maxRecDepth 20000 in
theorem t_X12_joins_197 {l : Launch} {Z : XZ} {L : Nat → Nat} (n : Nat) (ih_X12_joins_0 : P_X12_joins_0 l Z L n) (ih_X12_joins_47 : P_X12_joins_47 l Z L n) (ih_X12_joins_96 : P_X12_joins_96 l Z L n) (ih_X12_joins_197 : P_X12_joins_197 l Z L n) (ih_X12_joins_260 : P_X12_joins_260 l Z L n) (ih_X12_joins_324 : P_X12_joins_324 l Z L n) : P_X12_joins_197 l Z L (n + 1) := by
  intro hL d S a1 a2 a3 a5 a6 s0 x S1 H
  have H : b_X12_joins_197 n d (f_X12_joins n) S a1 a2 a3 a5 a6 s0 = some (x, S1) := H
  unfold b_X12_joins_197 at H
  refine GA.istore dX12_joins_197 (by decide) ?_
  refine GA.aload_n dX12_joins_199 rfl ?_
  refine GA.aload_n dX12_joins_200 rfl ?_
  obtain ⟨x1, hx2, H⟩ := gv_e H
  refine GV.getI hx2 xf_X12_756 dX12_joins_201 (gs_500 hL) (by decide) rfl ?_
  refine GA.aload_n dX12_joins_204 rfl ?_
  refine GA.get xf_X12_321 dX12_joins_205 (gs_500 hL) (by decide) rfl ?_
  refine GA.iload_n dX12_joins_208 rfl ?_
  obtain ⟨hg3, H⟩ := gg_e H
  obtain ⟨x4, hx5, H⟩ := gv_e H
  refine GV.iald hg3 hx5 dX12_joins_209 (gs_529 hL) (by decide) ?_
  refine GA.iload dX12_joins_210 rfl ?_
  refine GA.iload dX12_joins_212 rfl ?_
  obtain ⟨hg6, H⟩ := gg_e H
  obtain ⟨x7, S_8, hc9, H⟩ := gc_e H
  refine GA.callV (m_X12_childLike hL hc9) xs_X12_732 dX12_joins_214 (gs_500 hL) (by decide) rfl rfl (by omega) (by decide) rfl (Nat.le_of_ble_eq_true rfl) (by omega) (by omega) rfl (fun E S9 hx => hx.elim) (fun v S9 hq => ?_)
  obtain ⟨rfl, rfl⟩ := hq
  refine GA.istore dX12_joins_217 (by decide) ?_
  refine GA.aload_n dX12_joins_219 rfl ?_
  refine GA.aload_n dX12_joins_220 rfl ?_
  obtain ⟨x10, hx11, H⟩ := gv_e H
  refine GV.getI hx11 xf_X12_759 dX12_joins_221 (gs_500 hL) (by decide) rfl ?_
  refine GA.aload_n dX12_joins_224 rfl ?_
  refine GA.get xf_X12_324 dX12_joins_225 (gs_500 hL) (by decide) rfl ?_
  refine GA.iload_n dX12_joins_228 rfl ?_
  obtain ⟨x12, hx13, H⟩ := gv_e H
  refine GV.iald hg3 hx13 dX12_joins_229 (gs_530 hL) (by decide) ?_
  refine GA.iload dX12_joins_230 rfl ?_
  refine GA.iload dX12_joins_232 rfl ?_
  obtain ⟨x14, S_15, hc16, H⟩ := gc_e H
  refine GA.callV (m_X12_childLike hL hc16) xs_X12_732 dX12_joins_234 (gs_500 hL) (by decide) rfl rfl (by omega) (by decide) rfl (Nat.le_of_ble_eq_true rfl) (by omega) (by omega) rfl (fun E S9 hx => hx.elim) (fun v S9 hq => ?_)
  obtain ⟨rfl, rfl⟩ := hq
  refine GA.istore dX12_joins_237 (by decide) ?_
  refine GA.iload_n dX12_joins_239 rfl ?_
  obtain ⟨hg17, H⟩ := gg_e H
  refine GV.if_eq (tgt := 260) hg17 dX12_joins_240 (by decide) (fun c18 => ?_) (fun c18 => ?_)
  · have H := it_t H c18
    refine GA.locals [(0, .ref (L 500)), (1, .int (J a1)), (2, .int (J a2)), (5, .int (J a5)), (6, .int (J a6)), (7, .int (J s0)), (8, .int (J x7)), (9, .int (J x14))] ⟨rfl, rfl, rfl, rfl, rfl, rfl, rfl, rfl, trivial⟩ ?_
    exact ih_X12_joins_260 hL _ _ (a1) (a2) (a5) (a6) (s0) (x7) (x14) _ _ H
  · have H := it_f H c18
    refine GA.iload dX12_joins_243 rfl ?_
    refine GA.iconst dX12_joins_245 ?_
    obtain ⟨hg19, H⟩ := gg_e H
    refine GV.icmp_ne (tgt := 346) hg19 (by decide) dX12_joins_246 (by decide) (fun c20 => ?_) (fun c20 => ?_)
    · have H := it_t H c20
      refine GA.goto (tgt := 47) dX12_joins_346 (by decide) ?_
      refine GA.locals [(0, .ref (L 500)), (1, .int (J a1))] ⟨rfl, rfl, trivial⟩ ?_
      exact ih_X12_joins_47 hL _ _ (a1) _ _ H
    · have H := it_f H c20
      refine GA.iload_n dX12_joins_249 rfl ?_
      refine GA.iconst dX12_joins_250 ?_
      refine GV.icmp_eq (tgt := 260) hg17 (by decide) dX12_joins_251 (by decide) (fun c21 => ?_) (fun c21 => ?_)
      · have H := it_t H c21
        refine GA.locals [(0, .ref (L 500)), (1, .int (J a1)), (2, .int (J a2)), (5, .int (J a5)), (6, .int (J a6)), (7, .int (J s0)), (8, .int (J x7)), (9, .int (J x14))] ⟨rfl, rfl, rfl, rfl, rfl, rfl, rfl, rfl, trivial⟩ ?_
        exact ih_X12_joins_260 hL _ _ (a1) (a2) (a5) (a6) (s0) (x7) (x14) _ _ H
      · have H := it_f H c21
        refine GA.iload dX12_joins_254 rfl ?_
        refine GA.iconst dX12_joins_256 ?_
        obtain ⟨hg22, H⟩ := gg_e H
        refine GV.icmp_ne (tgt := 346) hg22 (by decide) dX12_joins_257 (by decide) (fun c23 => ?_) (fun c23 => ?_)
        · have H := it_t H c23
          refine GA.goto (tgt := 47) dX12_joins_346 (by decide) ?_
          refine GA.locals [(0, .ref (L 500)), (1, .int (J a1))] ⟨rfl, rfl, trivial⟩ ?_
          exact ih_X12_joins_47 hL _ _ (a1) _ _ H
        · have H := it_f H c23
          refine GA.locals [(0, .ref (L 500)), (1, .int (J a1)), (2, .int (J a2)), (5, .int (J a5)), (6, .int (J a6)), (7, .int (J s0)), (8, .int (J x7)), (9, .int (J x14))] ⟨rfl, rfl, rfl, rfl, rfl, rfl, rfl, rfl, trivial⟩ ?_
          exact ih_X12_joins_260 hL _ _ (a1) (a2) (a5) (a6) (s0) (x7) (x14) _ _ H
set_option maxHeartbeats 4000000 in
set_option maxRecDepth 20000 in
theorem t_X12_joins_260 {l : Launch} {Z : XZ} {L : Nat → Nat} (n : Nat) (ih_X12_joins_0 : P_X12_joins_0 l Z L n) (ih_X12_joins_47 : P_X12_joins_47 l Z L n) (ih_X12_joins_96 : P_X12_joins_96 l Z L n) (ih_X12_joins_197 : P_X12_joins_197 l Z L n) (ih_X12_joins_260 : P_X12_joins_260 l Z L n) (ih_X12_joins_324 : P_X12_joins_324 l Z L n) : P_X12_joins_260 l Z L (n + 1) := by
  intro hL d S a1 a2 a5 a6 a7 a8 a9 x S1 H
  have H : b_X12_joins_260 n d (f_X12_joins n) S a1 a2 a5 a6 a7 a8 a9 = some (x, S1) := H
  unfold b_X12_joins_260 at H
  refine GA.aload_n dX12_joins_260 rfl ?_
  refine GA.iload dX12_joins_261 rfl ?_
  refine GA.iload dX12_joins_263 rfl ?_
  obtain ⟨hg1, H⟩ := gg_e H
  obtain ⟨x2, S_3, hc4, H⟩ := gc_e H
  refine GA.callV (m_X12_wordOfKey hL hc4) xs_X12_653 dX12_joins_265 (gs_500 hL) (by decide) rfl rfl (by omega) (by decide) rfl (Nat.le_of_ble_eq_true rfl) (by omega) (by omega) rfl (fun E S9 hx => hx.elim) (fun v S9 hq => ?_)
  obtain ⟨rfl, rfl⟩ := hq
  refine GA.aload_n dX12_joins_268 rfl ?_
  refine GA.aload_n dX12_joins_269 rfl ?_
  refine GA.get xf_X12_336 dX12_joins_270 (gs_500 hL) (by decide) rfl ?_
  refine GA.iload_n dX12_joins_273 rfl ?_
  obtain ⟨hg5, H⟩ := gg_e H
  obtain ⟨x6, hx7, H⟩ := gv_e H
  refine GV.iald hg5 hx7 dX12_joins_274 (gs_534 hL) (by decide) ?_
  obtain ⟨S_8, hx9, H⟩ := gv_e H
  refine GV.putI hx9 (xp_X12_604 _) dX12_joins_275 (gs_500 hL) (by decide) (Nat.le_of_ble_eq_true rfl) (gs_500 hL) ?_
  refine GA.aload_n dX12_joins_278 rfl ?_
  obtain ⟨x10, S_11, hc12, H⟩ := gc_e H
  refine GA.callV (m_X12_addsWord hL hc12) xs_X12_784 dX12_joins_279 (gs_500 hL) (by decide) rfl rfl (by omega) (by decide) rfl (Nat.le_of_ble_eq_true rfl) (by omega) (by omega) rfl (fun E S9 hx => hx.elim) (fun v S9 hq => ?_)
  obtain ⟨rfl, rfl⟩ := hq
  refine GA.aload_n dX12_joins_282 rfl ?_
  refine GA.iload dX12_joins_283 rfl ?_
  refine GA.iload dX12_joins_285 rfl ?_
  refine GA.iload dX12_joins_287 rfl ?_
  refine GA.iconst dX12_joins_289 ?_
  obtain ⟨x13, S_14, hc15, H⟩ := gc_e H
  refine GA.callV (m_X12_joinsOne hL hc15) xs_X12_771 dX12_joins_290 (gs_500 hL) (by decide) rfl rfl (by omega) (by decide) rfl (Nat.le_of_ble_eq_true rfl) (by omega) (by omega) rfl (fun E S9 hx => hx.elim) (fun v S9 hq => ?_)
  obtain ⟨rfl, rfl⟩ := hq
  refine GA.istore dX12_joins_293 (by decide) ?_
  refine GA.aload_n dX12_joins_295 rfl ?_
  refine GA.get xf_X12_7 dX12_joins_296 (gs_500 hL) (by decide) rfl ?_
  refine GA.bipush dX12_joins_299 rfl ?_
  refine GA.aload_n dX12_joins_301 rfl ?_
  refine GA.get xf_X12_333 dX12_joins_302 (gs_500 hL) (by decide) rfl ?_
  refine GA.iload_n dX12_joins_305 rfl ?_
  obtain ⟨x16, hx17, H⟩ := gv_e H
  refine GV.iald hg5 hx17 dX12_joins_306 (gs_533 hL) (by decide) ?_
  obtain ⟨x18, S_19, hc20, H⟩ := gc_e H
  refine GA.callS (m_X12_at hL hc20) xs_X12_11 dX12_joins_307 rfl (by omega) (by decide) rfl (Nat.le_of_ble_eq_true rfl) (by omega) (by omega) rfl (fun E S9 hx => hx.elim) (fun v S9 hq => ?_)
  obtain ⟨rfl, rfl⟩ := hq
  refine GA.iconst dX12_joins_310 ?_
  obtain ⟨x21, hx22, H⟩ := gv_e H
  refine GV.iadd hx22 dX12_joins_311 ?_
  refine GA.dup2 dX12_joins_312 rfl rfl ?_
  obtain ⟨hg23, H⟩ := gg_e H
  obtain ⟨x24, hx25, H⟩ := gv_e H
  refine GV.iald hg23 hx25 dX12_joins_313 (gs_501 hL) (by decide) ?_
  refine GA.iload dX12_joins_314 rfl ?_
  obtain ⟨hg26, H⟩ := gg_e H
  refine GV.if_ne (tgt := 323) hg26 dX12_joins_316 (by decide) (fun c27 => ?_) (fun c27 => ?_)
  · have H := it_t H c27
    refine GA.iconst dX12_joins_323 ?_
    refine GA.locals [(0, .ref (L 500)), (1, .int (J a1)), (7, .int (J a7)), (8, .int (J a8)), (9, .int (J a9)), (10, .int (J x13))] ⟨rfl, rfl, rfl, rfl, rfl, rfl, trivial⟩ ?_
    exact ih_X12_joins_324 hL _ _ (a1) (a7) (a8) (a9) (x13) (1) (x24) (x21) _ _ H
  · have H := it_f H c27
    refine GA.iconst dX12_joins_319 ?_
    refine GA.goto (tgt := 324) dX12_joins_320 (by decide) ?_
    refine GA.locals [(0, .ref (L 500)), (1, .int (J a1)), (7, .int (J a7)), (8, .int (J a8)), (9, .int (J a9)), (10, .int (J x13))] ⟨rfl, rfl, rfl, rfl, rfl, rfl, trivial⟩ ?_
    exact ih_X12_joins_324 hL _ _ (a1) (a7) (a8) (a9) (x13) (0) (x24) (x21) _ _ H
set_option maxHeartbeats 4000000 in
set_option maxRecDepth 20000 in
theorem t_X12_joins_324 {l : Launch} {Z : XZ} {L : Nat → Nat} (n : Nat) (ih_X12_joins_0 : P_X12_joins_0 l Z L n) (ih_X12_joins_47 : P_X12_joins_47 l Z L n) (ih_X12_joins_96 : P_X12_joins_96 l Z L n) (ih_X12_joins_197 : P_X12_joins_197 l Z L n) (ih_X12_joins_260 : P_X12_joins_260 l Z L n) (ih_X12_joins_324 : P_X12_joins_324 l Z L n) : P_X12_joins_324 l Z L (n + 1) := by
  intro hL d S a1 a7 a8 a9 a10 s0 s1 s2 x S1 H
  have H : b_X12_joins_324 n d (f_X12_joins n) S a1 a7 a8 a9 a10 s0 s1 s2 = some (x, S1) := H
  unfold b_X12_joins_324 at H
  obtain ⟨x1, hx2, H⟩ := gv_e H
  refine GV.iadd hx2 dX12_joins_324 ?_
  obtain ⟨hg3, H⟩ := gg_e H
  obtain ⟨S_4, hx5, H⟩ := gv_e H
  refine GV.iast hg3 hx5 dX12_joins_325 (fun _ => (gs_501 hL)) (by decide) ?_
  refine GA.iload dX12_joins_326 rfl ?_
  refine GA.iconst dX12_joins_328 ?_
  obtain ⟨hg6, H⟩ := gg_e H
  refine GV.icmp_ne (tgt := 346) hg6 (by decide) dX12_joins_329 (by decide) (fun c7 => ?_) (fun c7 => ?_)
  · have H := it_t H c7
    refine GA.goto (tgt := 47) dX12_joins_346 (by decide) ?_
    refine GA.locals [(0, .ref (L 500)), (1, .int (J a1))] ⟨rfl, rfl, trivial⟩ ?_
    exact ih_X12_joins_47 hL _ _ (a1) _ _ H
  · have H := it_f H c7
    refine GA.aload_n dX12_joins_332 rfl ?_
    refine GA.iload_n dX12_joins_333 rfl ?_
    refine GA.iload dX12_joins_334 rfl ?_
    refine GA.iload dX12_joins_336 rfl ?_
    refine GA.iload dX12_joins_338 rfl ?_
    obtain ⟨hg8, H⟩ := gg_e H
    obtain ⟨x9, S_10, hc11, H⟩ := gc_e H
    refine GA.callV (m_X12_goesInto hL hc11) xs_X12_775 dX12_joins_340 (gs_500 hL) (by decide) rfl rfl (by omega) (by decide) rfl (Nat.le_of_ble_eq_true rfl) (by omega) (by omega) rfl (fun E S9 hx => hx.elim) (fun v S9 hq => ?_)
    obtain ⟨rfl, rfl⟩ := hq
    obtain ⟨x12, hx13, H⟩ := gv_e H
    refine GV.iinc hx13 dX12_joins_343 rfl (by decide) ?_
    refine GA.goto (tgt := 47) dX12_joins_346 (by decide) ?_
    refine GA.locals [(0, .ref (L 500)), (1, .int (J x12))] ⟨rfl, rfl, trivial⟩ ?_
    exact ih_X12_joins_47 hL _ _ (x12) _ _ H
theorem g_X12_joins {l : Launch} {Z : XZ} {L : Nat → Nat} : ∀ n, P_X12_joins_0 l Z L n ∧ P_X12_joins_47 l Z L n ∧ P_X12_joins_96 l Z L n ∧ P_X12_joins_197 l Z L n ∧ P_X12_joins_260 l Z L n ∧ P_X12_joins_324 l Z L n
  | 0 => ⟨fun _ _ _ _ _ H => no_e H, fun _ _ _ _ _ _ H => no_e H, fun _ _ _ _ _ _ _ _ H => no_e H, fun _ _ _ _ _ _ _ _ _ _ _ H => no_e H, fun _ _ _ _ _ _ _ _ _ _ _ _ H => no_e H, fun _ _ _ _ _ _ _ _ _ _ _ _ _ H => no_e H⟩
  | n + 1 => have ⟨h0, h1, h2, h3, h4, h5⟩ := g_X12_joins (l := l) (Z := Z) (L := L) n
    ⟨t_X12_joins_0 n h0 h1 h2 h3 h4 h5, t_X12_joins_47 n h0 h1 h2 h3 h4 h5, t_X12_joins_96 n h0 h1 h2 h3 h4 h5, t_X12_joins_197 n h0 h1 h2 h3 h4 h5, t_X12_joins_260 n h0 h1 h2 h3 h4 h5, t_X12_joins_324 n h0 h1 h2 h3 h4 h5⟩
theorem m_X12_joins {l : Launch} {Z : XZ} {L : Nat → Nat} (hL : L 700 = 1) {n d : Nat} {S : GS} {x : Int} {S1 : GS} (H : f_X12_joins n d 0 S [] = some (x, S1)) : GM l Z L yX12_joins cX12_joins 11 none [] d 0 0 [.ref (L 500)] S (fun v S' => v = none ∧ S1 = S') (fun _ _ => False) := GM.of (by decide) (Nat.le_of_ble_eq_true rfl) ((g_X12_joins n).1 hL _ _ _ _ H)

def P_X12_join_0 (l : Launch) (Z : XZ) (L : Nat → Nat) (n : Nat) : Prop := ∀ (hL : L 700 = 1), ∀ (d : Nat) (S : GS) (a1 : Int) (a2 : Int) (a3 : Int) (x : Int) (S1 : GS), f_X12_join n d 0 S [a1, a2, a3] = some (x, S1) → GA l Z L yX12_join cX12_join 5 (some .int) [] d 0 0 (fun v S' => v = some (.int (J x)) ∧ S1 = S') (fun _ _ => False) 0 (gl [(0, .ref (L 500)), (1, .int (J a1)), (2, .int (J a2)), (3, .int (J a3))]) [] S 0 0
def P_X12_join_30 (l : Launch) (Z : XZ) (L : Nat → Nat) (n : Nat) : Prop := ∀ (hL : L 700 = 1), ∀ (d : Nat) (S : GS) (a1 : Int) (a2 : Int) (a3 : Int) (s0 : Int) (x : Int) (S1 : GS), f_X12_join n d 30 S [a1, a2, a3, s0] = some (x, S1) → GA l Z L yX12_join cX12_join 5 (some .int) [] d 0 0 (fun v S' => v = some (.int (J x)) ∧ S1 = S') (fun _ _ => False) 30 (gl [(0, .ref (L 500)), (1, .int (J a1)), (2, .int (J a2)), (3, .int (J a3))]) [.int (J s0), .ref (L 500)] S 0 0
def P_X12_join_89 (l : Launch) (Z : XZ) (L : Nat → Nat) (n : Nat) : Prop := ∀ (hL : L 700 = 1), ∀ (d : Nat) (S : GS) (s0 : Int) (x : Int) (S1 : GS), f_X12_join n d 89 S [s0] = some (x, S1) → GA l Z L yX12_join cX12_join 5 (some .int) [] d 0 0 (fun v S' => v = some (.int (J x)) ∧ S1 = S') (fun _ _ => False) 89 (gl [(0, .ref (L 500))]) [.int (J s0), .ref (L 500)] S 0 0
def P_X12_join_109 (l : Launch) (Z : XZ) (L : Nat → Nat) (n : Nat) : Prop := ∀ (hL : L 700 = 1), ∀ (d : Nat) (S : GS) (a4 : Int) (x : Int) (S1 : GS), f_X12_join n d 109 S [a4] = some (x, S1) → GA l Z L yX12_join cX12_join 5 (some .int) [] d 0 0 (fun v S' => v = some (.int (J x)) ∧ S1 = S') (fun _ _ => False) 109 (gl [(0, .ref (L 500)), (4, .int (J a4))]) [] S 0 0
def P_X12_join_141 (l : Launch) (Z : XZ) (L : Nat → Nat) (n : Nat) : Prop := ∀ (hL : L 700 = 1), ∀ (d : Nat) (S : GS) (a4 : Int) (x : Int) (S1 : GS), f_X12_join n d 141 S [a4] = some (x, S1) → GA l Z L yX12_join cX12_join 5 (some .int) [] d 0 0 (fun v S' => v = some (.int (J x)) ∧ S1 = S') (fun _ _ => False) 141 (gl [(0, .ref (L 500)), (4, .int (J a4))]) [] S 0 0
theorem i_X12_join {l : Launch} {Z : XZ} {L : Nat → Nat} (hL : L 700 = 1) {n : Nat} (ih : P_X12_join_0 l Z L n) {d : Nat} {S : GS} {a1 : Int} {a2 : Int} {a3 : Int} {x : Int} {S1 : GS} (H : f_X12_join n d 0 S [a1, a2, a3] = some (x, S1)) : GM l Z L yX12_join cX12_join 5 (some .int) [] d 0 0 [.ref (L 500), .int (J a1), .int (J a2), .int (J a3)] S (fun v S' => v = some (.int (J x)) ∧ S1 = S') (fun _ _ => False) := GM.of (by decide) (Nat.le_of_ble_eq_true rfl) (ih hL _ _ _ _ _ _ _ H)
set_option maxHeartbeats 4000000 in
set_option maxRecDepth 20000 in
theorem t_X12_join_0 {l : Launch} {Z : XZ} {L : Nat → Nat} (n : Nat) (ih_X12_join_0 : P_X12_join_0 l Z L n) (ih_X12_join_30 : P_X12_join_30 l Z L n) (ih_X12_join_89 : P_X12_join_89 l Z L n) (ih_X12_join_109 : P_X12_join_109 l Z L n) (ih_X12_join_141 : P_X12_join_141 l Z L n) : P_X12_join_0 l Z L (n + 1) := by
  intro hL d S a1 a2 a3 x S1 H
  have H : b_X12_join_0 n d (f_X12_join n) S a1 a2 a3 = some (x, S1) := H
  unfold b_X12_join_0 at H
  refine GA.aload_n dX12_join_0 rfl ?_
  refine GA.aload_n dX12_join_1 rfl ?_
  refine GA.iload_n dX12_join_2 rfl ?_
  obtain ⟨hg1, H⟩ := gg_e H
  obtain ⟨x2, S_3, hc4, H⟩ := gc_e H
  refine GA.callV (m_X12_isDoc hL hc4) xs_X12_22 dX12_join_3 (gs_500 hL) (by decide) rfl rfl (by omega) (by decide) rfl (Nat.le_of_ble_eq_true rfl) (by omega) (by omega) rfl (fun E S9 hx => hx.elim) (fun v S9 hq => ?_)
  obtain ⟨rfl, rfl⟩ := hq
  obtain ⟨hg5, H⟩ := gg_e H
  refine GV.if_eq (tgt := 29) hg5 dX12_join_6 (by decide) (fun c6 => ?_) (fun c6 => ?_)
  · have H := it_t H c6
    refine GA.iconst dX12_join_29 ?_
    refine GA.locals [(0, .ref (L 500)), (1, .int (J a1)), (2, .int (J a2)), (3, .int (J a3))] ⟨rfl, rfl, rfl, rfl, trivial⟩ ?_
    exact ih_X12_join_30 hL _ _ (a1) (a2) (a3) (0) _ _ H
  · have H := it_f H c6
    refine GA.aload_n dX12_join_9 rfl ?_
    refine GA.iload_n dX12_join_10 rfl ?_
    obtain ⟨x7, S_8, hc9, H⟩ := gc_e H
    refine GA.callV (m_X12_isDoc hL hc9) xs_X12_22 dX12_join_11 (gs_500 hL) (by decide) rfl rfl (by omega) (by decide) rfl (Nat.le_of_ble_eq_true rfl) (by omega) (by omega) rfl (fun E S9 hx => hx.elim) (fun v S9 hq => ?_)
    obtain ⟨rfl, rfl⟩ := hq
    obtain ⟨hg10, H⟩ := gg_e H
    refine GV.if_eq (tgt := 29) hg10 dX12_join_14 (by decide) (fun c11 => ?_) (fun c11 => ?_)
    · have H := it_t H c11
      refine GA.iconst dX12_join_29 ?_
      refine GA.locals [(0, .ref (L 500)), (1, .int (J a1)), (2, .int (J a2)), (3, .int (J a3))] ⟨rfl, rfl, rfl, rfl, trivial⟩ ?_
      exact ih_X12_join_30 hL _ _ (a1) (a2) (a3) (0) _ _ H
    · have H := it_f H c11
      refine GA.aload_n dX12_join_17 rfl ?_
      refine GA.iload_n dX12_join_18 rfl ?_
      obtain ⟨x12, S_13, hc14, H⟩ := gc_e H
      refine GA.callV (m_X12_isDoc hL hc14) xs_X12_22 dX12_join_19 (gs_500 hL) (by decide) rfl rfl (by omega) (by decide) rfl (Nat.le_of_ble_eq_true rfl) (by omega) (by omega) rfl (fun E S9 hx => hx.elim) (fun v S9 hq => ?_)
      obtain ⟨rfl, rfl⟩ := hq
      obtain ⟨hg15, H⟩ := gg_e H
      refine GV.if_eq (tgt := 29) hg15 dX12_join_22 (by decide) (fun c16 => ?_) (fun c16 => ?_)
      · have H := it_t H c16
        refine GA.iconst dX12_join_29 ?_
        refine GA.locals [(0, .ref (L 500)), (1, .int (J a1)), (2, .int (J a2)), (3, .int (J a3))] ⟨rfl, rfl, rfl, rfl, trivial⟩ ?_
        exact ih_X12_join_30 hL _ _ (a1) (a2) (a3) (0) _ _ H
      · have H := it_f H c16
        refine GA.iconst dX12_join_25 ?_
        refine GA.goto (tgt := 30) dX12_join_26 (by decide) ?_
        refine GA.locals [(0, .ref (L 500)), (1, .int (J a1)), (2, .int (J a2)), (3, .int (J a3))] ⟨rfl, rfl, rfl, rfl, trivial⟩ ?_
        exact ih_X12_join_30 hL _ _ (a1) (a2) (a3) (1) _ _ H
set_option maxHeartbeats 4000000 in
set_option maxRecDepth 20000 in
theorem t_X12_join_30 {l : Launch} {Z : XZ} {L : Nat → Nat} (n : Nat) (ih_X12_join_0 : P_X12_join_0 l Z L n) (ih_X12_join_30 : P_X12_join_30 l Z L n) (ih_X12_join_89 : P_X12_join_89 l Z L n) (ih_X12_join_109 : P_X12_join_109 l Z L n) (ih_X12_join_141 : P_X12_join_141 l Z L n) : P_X12_join_30 l Z L (n + 1) := by
  intro hL d S a1 a2 a3 s0 x S1 H
  have H : b_X12_join_30 n d (f_X12_join n) S a1 a2 a3 s0 = some (x, S1) := H
  unfold b_X12_join_30 at H
  refine GA.iconst dX12_join_30 ?_
  obtain ⟨hg1, H⟩ := gg_e H
  obtain ⟨x2, S_3, hc4, H⟩ := gc_e H
  refine GA.callV (m_X12_fails hL hc4) xs_X12_456 dX12_join_31 (gs_500 hL) (by decide) rfl rfl (by omega) (by decide) rfl (Nat.le_of_ble_eq_true rfl) (by omega) (by omega) rfl (fun E S9 hx => hx.elim) (fun v S9 hq => ?_)
  obtain ⟨rfl, rfl⟩ := hq
  obtain ⟨hg5, H⟩ := gg_e H
  refine GV.if_eq (tgt := 39) hg5 dX12_join_34 (by decide) (fun c6 => ?_) (fun c6 => ?_)
  · have H := it_t H c6
    refine GA.aload_n dX12_join_39 rfl ?_
    refine GA.iload_n dX12_join_40 rfl ?_
    obtain ⟨S_7, hx8, H⟩ := gv_e H
    refine GV.putI hx8 (xp_X12_765 _) dX12_join_41 (gs_500 hL) (by decide) (Nat.le_of_ble_eq_true rfl) (gs_500 hL) ?_
    refine GA.aload_n dX12_join_44 rfl ?_
    refine GA.iload_n dX12_join_45 rfl ?_
    obtain ⟨S_9, hx10, H⟩ := gv_e H
    refine GV.putI hx10 (xp_X12_756 _) dX12_join_46 (gs_500 hL) (by decide) (Nat.le_of_ble_eq_true rfl) (gs_500 hL) ?_
    refine GA.aload_n dX12_join_49 rfl ?_
    refine GA.iload_n dX12_join_50 rfl ?_
    obtain ⟨S_11, hx12, H⟩ := gv_e H
    refine GV.putI hx12 (xp_X12_759 _) dX12_join_51 (gs_500 hL) (by decide) (Nat.le_of_ble_eq_true rfl) (gs_500 hL) ?_
    refine GA.aload_n dX12_join_54 rfl ?_
    obtain ⟨x13, S_14, hc15, H⟩ := gc_e H
    refine GA.callV (m_X12_joins hL hc15) xs_X12_787 dX12_join_55 (gs_500 hL) (by decide) rfl rfl (by omega) (by decide) rfl (Nat.le_of_ble_eq_true rfl) (by omega) (by omega) rfl (fun E S9 hx => hx.elim) (fun v S9 hq => ?_)
    obtain ⟨rfl, rfl⟩ := hq
    refine GA.aload_n dX12_join_58 rfl ?_
    obtain ⟨x16, hx17, H⟩ := gv_e H
    refine GV.getI hx17 xf_X12_768 dX12_join_59 (gs_500 hL) (by decide) rfl ?_
    obtain ⟨hg18, H⟩ := gg_e H
    refine GV.if_ne (tgt := 98) hg18 dX12_join_62 (by decide) (fun c19 => ?_) (fun c19 => ?_)
    · have H := it_t H c19
      refine GA.aload_n dX12_join_98 rfl ?_
      refine GA.aload_n dX12_join_99 rfl ?_
      obtain ⟨x20, hx21, H⟩ := gv_e H
      refine GV.getI hx21 xf_X12_768 dX12_join_100 (gs_500 hL) (by decide) rfl ?_
      obtain ⟨S_22, hx23, H⟩ := gv_e H
      refine GV.putI hx23 (xp_X12_790 _) dX12_join_103 (gs_500 hL) (by decide) (Nat.le_of_ble_eq_true rfl) (gs_500 hL) ?_
      refine GA.iconst dX12_join_106 ?_
      refine GA.istore dX12_join_107 (by decide) ?_
      refine GA.locals [(0, .ref (L 500)), (4, .int (J 0))] ⟨rfl, rfl, trivial⟩ ?_
      exact ih_X12_join_109 hL _ _ (0) _ _ H
    · have H := it_f H c19
      refine GA.aload_n dX12_join_65 rfl ?_
      refine GA.aload_n dX12_join_66 rfl ?_
      refine GA.bipush dX12_join_67 rfl ?_
      obtain ⟨x24, S_25, hc26, H⟩ := gc_e H
      refine GA.callV (m_X12_isWhole hL hc26) xs_X12_601 dX12_join_69 (gs_500 hL) (by decide) rfl rfl (by omega) (by decide) rfl (Nat.le_of_ble_eq_true rfl) (by omega) (by omega) rfl (fun E S9 hx => hx.elim) (fun v S9 hq => ?_)
      obtain ⟨rfl, rfl⟩ := hq
      obtain ⟨hg27, H⟩ := gg_e H
      refine GV.if_eq (tgt := 88) hg27 dX12_join_72 (by decide) (fun c28 => ?_) (fun c28 => ?_)
      · have H := it_t H c28
        refine GA.iconst dX12_join_88 ?_
        refine GA.locals [(0, .ref (L 500))] ⟨rfl, trivial⟩ ?_
        exact ih_X12_join_89 hL _ _ (0) _ _ H
      · have H := it_f H c28
        refine GA.aload_n dX12_join_75 rfl ?_
        obtain ⟨x29, hx30, H⟩ := gv_e H
        refine GV.getI hx30 xf_X12_15 dX12_join_76 (gs_500 hL) (by decide) rfl ?_
        refine GA.bipush dX12_join_79 rfl ?_
        obtain ⟨hg31, H⟩ := gg_e H
        refine GV.icmp_ge (tgt := 88) hg31 (by decide) dX12_join_81 (by decide) (fun c32 => ?_) (fun c32 => ?_)
        · have H := it_t H c32
          refine GA.iconst dX12_join_88 ?_
          refine GA.locals [(0, .ref (L 500))] ⟨rfl, trivial⟩ ?_
          exact ih_X12_join_89 hL _ _ (0) _ _ H
        · have H := it_f H c32
          refine GA.iconst dX12_join_84 ?_
          refine GA.goto (tgt := 89) dX12_join_85 (by decide) ?_
          refine GA.locals [(0, .ref (L 500))] ⟨rfl, trivial⟩ ?_
          exact ih_X12_join_89 hL _ _ (1) _ _ H
  · have H := it_f H c6
    refine GA.iconst dX12_join_37 ?_
    cases H
    exact GA.iret rfl dX12_join_38 (by omega) (by omega) ⟨rfl, rfl⟩
set_option maxHeartbeats 4000000 in
set_option maxRecDepth 20000 in
theorem t_X12_join_89 {l : Launch} {Z : XZ} {L : Nat → Nat} (n : Nat) (ih_X12_join_0 : P_X12_join_0 l Z L n) (ih_X12_join_30 : P_X12_join_30 l Z L n) (ih_X12_join_89 : P_X12_join_89 l Z L n) (ih_X12_join_109 : P_X12_join_109 l Z L n) (ih_X12_join_141 : P_X12_join_141 l Z L n) : P_X12_join_89 l Z L (n + 1) := by
  intro hL d S s0 x S1 H
  have H : b_X12_join_89 n d (f_X12_join n) S s0 = some (x, S1) := H
  unfold b_X12_join_89 at H
  refine GA.iconst dX12_join_89 ?_
  obtain ⟨hg1, H⟩ := gg_e H
  obtain ⟨x2, S_3, hc4, H⟩ := gc_e H
  refine GA.callV (m_X12_fails hL hc4) xs_X12_456 dX12_join_90 (gs_500 hL) (by decide) rfl rfl (by omega) (by decide) rfl (Nat.le_of_ble_eq_true rfl) (by omega) (by omega) rfl (fun E S9 hx => hx.elim) (fun v S9 hq => ?_)
  obtain ⟨rfl, rfl⟩ := hq
  obtain ⟨hg5, H⟩ := gg_e H
  refine GV.if_eq (tgt := 98) hg5 dX12_join_93 (by decide) (fun c6 => ?_) (fun c6 => ?_)
  · have H := it_t H c6
    refine GA.aload_n dX12_join_98 rfl ?_
    refine GA.aload_n dX12_join_99 rfl ?_
    obtain ⟨x7, hx8, H⟩ := gv_e H
    refine GV.getI hx8 xf_X12_768 dX12_join_100 (gs_500 hL) (by decide) rfl ?_
    obtain ⟨S_9, hx10, H⟩ := gv_e H
    refine GV.putI hx10 (xp_X12_790 _) dX12_join_103 (gs_500 hL) (by decide) (Nat.le_of_ble_eq_true rfl) (gs_500 hL) ?_
    refine GA.iconst dX12_join_106 ?_
    refine GA.istore dX12_join_107 (by decide) ?_
    refine GA.locals [(0, .ref (L 500)), (4, .int (J 0))] ⟨rfl, rfl, trivial⟩ ?_
    exact ih_X12_join_109 hL _ _ (0) _ _ H
  · have H := it_f H c6
    refine GA.iconst dX12_join_96 ?_
    cases H
    exact GA.iret rfl dX12_join_97 (by omega) (by omega) ⟨rfl, rfl⟩
set_option maxHeartbeats 4000000 in
set_option maxRecDepth 20000 in
theorem t_X12_join_109 {l : Launch} {Z : XZ} {L : Nat → Nat} (n : Nat) (ih_X12_join_0 : P_X12_join_0 l Z L n) (ih_X12_join_30 : P_X12_join_30 l Z L n) (ih_X12_join_89 : P_X12_join_89 l Z L n) (ih_X12_join_109 : P_X12_join_109 l Z L n) (ih_X12_join_141 : P_X12_join_141 l Z L n) : P_X12_join_109 l Z L (n + 1) := by
  intro hL d S a4 x S1 H
  have H : b_X12_join_109 n d (f_X12_join n) S a4 = some (x, S1) := H
  unfold b_X12_join_109 at H
  refine GA.iload dX12_join_109 rfl ?_
  refine GA.aload_n dX12_join_111 rfl ?_
  obtain ⟨x1, hx2, H⟩ := gv_e H
  refine GV.getI hx2 xf_X12_768 dX12_join_112 (gs_500 hL) (by decide) rfl ?_
  obtain ⟨hg3, H⟩ := gg_e H
  obtain ⟨hg4, H⟩ := gg_e H
  refine GV.icmp_gt (tgt := 138) hg3 hg4 dX12_join_115 (by decide) (fun c5 => ?_) (fun c5 => ?_)
  · have H := it_t H c5
    refine GA.iconst dX12_join_138 ?_
    refine GA.istore dX12_join_139 (by decide) ?_
    refine GA.locals [(0, .ref (L 500)), (4, .int (J 0))] ⟨rfl, rfl, trivial⟩ ?_
    exact ih_X12_join_141 hL _ _ (0) _ _ H
  · have H := it_f H c5
    refine GA.aload_n dX12_join_118 rfl ?_
    refine GA.get xf_X12_339 dX12_join_119 (gs_500 hL) (by decide) rfl ?_
    refine GA.iload dX12_join_122 rfl ?_
    refine GA.aload_n dX12_join_124 rfl ?_
    refine GA.get xf_X12_346 dX12_join_125 (gs_500 hL) (by decide) rfl ?_
    refine GA.iload dX12_join_128 rfl ?_
    obtain ⟨hg6, H⟩ := gg_e H
    obtain ⟨x7, hx8, H⟩ := gv_e H
    refine GV.iald hg6 hx8 dX12_join_130 (gs_537 hL) (by decide) ?_
    obtain ⟨S_9, hx10, H⟩ := gv_e H
    refine GV.iast hg6 hx10 dX12_join_131 (fun _ => (gs_535 hL)) (by decide) ?_
    obtain ⟨x11, hx12, H⟩ := gv_e H
    refine GV.iinc hx12 dX12_join_132 rfl (by decide) ?_
    refine GA.goto (tgt := 109) dX12_join_135 (by decide) ?_
    refine GA.locals [(0, .ref (L 500)), (4, .int (J x11))] ⟨rfl, rfl, trivial⟩ ?_
    exact ih_X12_join_109 hL _ _ (x11) _ _ H
set_option maxHeartbeats 4000000 in
set_option maxRecDepth 20000 in
theorem t_X12_join_141 {l : Launch} {Z : XZ} {L : Nat → Nat} (n : Nat) (ih_X12_join_0 : P_X12_join_0 l Z L n) (ih_X12_join_30 : P_X12_join_30 l Z L n) (ih_X12_join_89 : P_X12_join_89 l Z L n) (ih_X12_join_109 : P_X12_join_109 l Z L n) (ih_X12_join_141 : P_X12_join_141 l Z L n) : P_X12_join_141 l Z L (n + 1) := by
  intro hL d S a4 x S1 H
  have H : b_X12_join_141 n d (f_X12_join n) S a4 = some (x, S1) := H
  unfold b_X12_join_141 at H
  refine GA.iload dX12_join_141 rfl ?_
  refine GA.aload_n dX12_join_143 rfl ?_
  refine GA.get xf_X12_346 dX12_join_144 (gs_500 hL) (by decide) rfl ?_
  refine GA.aload_n dX12_join_147 rfl ?_
  obtain ⟨x1, hx2, H⟩ := gv_e H
  refine GV.getI hx2 xf_X12_768 dX12_join_148 (gs_500 hL) (by decide) rfl ?_
  obtain ⟨hg3, H⟩ := gg_e H
  obtain ⟨x4, hx5, H⟩ := gv_e H
  refine GV.iald hg3 hx5 dX12_join_151 (gs_537 hL) (by decide) ?_
  obtain ⟨hg6, H⟩ := gg_e H
  obtain ⟨hg7, H⟩ := gg_e H
  refine GV.icmp_ge (tgt := 175) hg6 hg7 dX12_join_152 (by decide) (fun c8 => ?_) (fun c8 => ?_)
  · have H := it_t H c8
    refine GA.aload_n dX12_join_175 rfl ?_
    obtain ⟨x9, hx10, H⟩ := gv_e H
    refine GV.getI hx10 xf_X12_768 dX12_join_176 (gs_500 hL) (by decide) rfl ?_
    obtain ⟨hg11, H⟩ := gg_e H
    refine GV.if_le (tgt := 186) hg11 dX12_join_179 (by decide) (fun c12 => ?_) (fun c12 => ?_)
    · have H := it_t H c12
      refine GA.aload_n dX12_join_186 rfl ?_
      refine GA.bipush dX12_join_187 rfl ?_
      obtain ⟨hg13, H⟩ := gg_e H
      obtain ⟨x14, S_15, hc16, H⟩ := gc_e H
      refine GA.callV (m_X12_keeps hL hc16) xs_X12_536 dX12_join_189 (gs_500 hL) (by decide) rfl rfl (by omega) (by decide) rfl (Nat.le_of_ble_eq_true rfl) (by omega) (by omega) rfl (fun E S9 hx => hx.elim) (fun v S9 hq => ?_)
      obtain ⟨rfl, rfl⟩ := hq
      cases H
      exact GA.iret rfl dX12_join_192 (by omega) (by omega) ⟨rfl, rfl⟩
    · have H := it_f H c12
      refine GA.iconst dX12_join_182 ?_
      refine GA.goto (tgt := 192) dX12_join_183 (by decide) ?_
      cases H
      exact GA.iret rfl dX12_join_192 (by omega) (by omega) ⟨rfl, rfl⟩
  · have H := it_f H c8
    refine GA.aload_n dX12_join_155 rfl ?_
    refine GA.get xf_X12_343 dX12_join_156 (gs_500 hL) (by decide) rfl ?_
    refine GA.iload dX12_join_159 rfl ?_
    refine GA.aload_n dX12_join_161 rfl ?_
    refine GA.get xf_X12_349 dX12_join_162 (gs_500 hL) (by decide) rfl ?_
    refine GA.iload dX12_join_165 rfl ?_
    obtain ⟨hg17, H⟩ := gg_e H
    obtain ⟨x18, hx19, H⟩ := gv_e H
    refine GV.iald hg17 hx19 dX12_join_167 (gs_538 hL) (by decide) ?_
    obtain ⟨S_20, hx21, H⟩ := gv_e H
    refine GV.iast hg17 hx21 dX12_join_168 (fun _ => (gs_536 hL)) (by decide) ?_
    obtain ⟨x22, hx23, H⟩ := gv_e H
    refine GV.iinc hx23 dX12_join_169 rfl (by decide) ?_
    refine GA.goto (tgt := 141) dX12_join_172 (by decide) ?_
    refine GA.locals [(0, .ref (L 500)), (4, .int (J x22))] ⟨rfl, rfl, trivial⟩ ?_
    exact ih_X12_join_141 hL _ _ (x22) _ _ H
theorem g_X12_join {l : Launch} {Z : XZ} {L : Nat → Nat} : ∀ n, P_X12_join_0 l Z L n ∧ P_X12_join_30 l Z L n ∧ P_X12_join_89 l Z L n ∧ P_X12_join_109 l Z L n ∧ P_X12_join_141 l Z L n
  | 0 => ⟨fun _ _ _ _ _ _ _ _ H => no_e H, fun _ _ _ _ _ _ _ _ _ H => no_e H, fun _ _ _ _ _ _ H => no_e H, fun _ _ _ _ _ _ H => no_e H, fun _ _ _ _ _ _ H => no_e H⟩
  | n + 1 => have ⟨h0, h1, h2, h3, h4⟩ := g_X12_join (l := l) (Z := Z) (L := L) n
    ⟨t_X12_join_0 n h0 h1 h2 h3 h4, t_X12_join_30 n h0 h1 h2 h3 h4, t_X12_join_89 n h0 h1 h2 h3 h4, t_X12_join_109 n h0 h1 h2 h3 h4, t_X12_join_141 n h0 h1 h2 h3 h4⟩
theorem m_X12_join {l : Launch} {Z : XZ} {L : Nat → Nat} (hL : L 700 = 1) {n d : Nat} {S : GS} {a1 : Int} {a2 : Int} {a3 : Int} {x : Int} {S1 : GS} (H : f_X12_join n d 0 S [a1, a2, a3] = some (x, S1)) : GM l Z L yX12_join cX12_join 5 (some .int) [] d 0 0 [.ref (L 500), .int (J a1), .int (J a2), .int (J a3)] S (fun v S' => v = some (.int (J x)) ∧ S1 = S') (fun _ _ => False) := GM.of (by decide) (Nat.le_of_ble_eq_true rfl) ((g_X12_join n).1 hL _ _ _ _ _ _ _ H)

def P_X12_kindAhead_0 (l : Launch) (Z : XZ) (L : Nat → Nat) (n : Nat) : Prop := ∀ (hL : L 700 = 1), ∀ (d : Nat) (S : GS) (x : Int) (S1 : GS), f_X12_kindAhead n d 0 S [] = some (x, S1) → GA l Z L yX12_kindAhead cX12_kindAhead 2 (some .int) [] d 0 0 (fun v S' => v = some (.int (J x)) ∧ S1 = S') (fun _ _ => False) 0 (gl [(0, .ref (L 500))]) [] S 0 0
theorem i_X12_kindAhead {l : Launch} {Z : XZ} {L : Nat → Nat} (hL : L 700 = 1) {n : Nat} (ih : P_X12_kindAhead_0 l Z L n) {d : Nat} {S : GS} {x : Int} {S1 : GS} (H : f_X12_kindAhead n d 0 S [] = some (x, S1)) : GM l Z L yX12_kindAhead cX12_kindAhead 2 (some .int) [] d 0 0 [.ref (L 500)] S (fun v S' => v = some (.int (J x)) ∧ S1 = S') (fun _ _ => False) := GM.of (by decide) (Nat.le_of_ble_eq_true rfl) (ih hL _ _ _ _ H)
set_option maxHeartbeats 4000000 in
set_option maxRecDepth 20000 in
theorem t_X12_kindAhead_0 {l : Launch} {Z : XZ} {L : Nat → Nat} (n : Nat) (ih_X12_kindAhead_0 : P_X12_kindAhead_0 l Z L n) : P_X12_kindAhead_0 l Z L (n + 1) := by
  intro hL d S  x S1 H
  have H : b_X12_kindAhead_0 n d (f_X12_kindAhead n) S  = some (x, S1) := H
  unfold b_X12_kindAhead_0 at H
  refine GA.aload_n dX12_kindAhead_0 rfl ?_
  obtain ⟨hg1, H⟩ := gg_e H
  obtain ⟨x2, S_3, hc4, H⟩ := gc_e H
  refine GA.callV (m_X12_sign hL hc4) xs_X12_471 dX12_kindAhead_1 (gs_500 hL) (by decide) rfl rfl (by omega) (by decide) rfl (Nat.le_of_ble_eq_true rfl) (by omega) (by omega) rfl (fun E S9 hx => hx.elim) (fun v S9 hq => ?_)
  obtain ⟨rfl, rfl⟩ := hq
  refine GA.istore_n dX12_kindAhead_4 (by decide) ?_
  refine GA.iload_n dX12_kindAhead_5 rfl ?_
  refine GA.bipush dX12_kindAhead_6 rfl ?_
  obtain ⟨hg5, H⟩ := gg_e H
  refine GV.icmp_ne (tgt := 15) hg5 (by decide) dX12_kindAhead_8 (by decide) (fun c6 => ?_) (fun c6 => ?_)
  · have H := it_t H c6
    refine GA.iload_n dX12_kindAhead_15 rfl ?_
    refine GA.bipush dX12_kindAhead_16 rfl ?_
    refine GV.icmp_eq (tgt := 27) hg5 (by decide) dX12_kindAhead_18 (by decide) (fun c7 => ?_) (fun c7 => ?_)
    · have H := it_t H c7
      refine GA.iconst dX12_kindAhead_27 ?_
      refine GA.goto (tgt := 79) dX12_kindAhead_28 (by decide) ?_
      cases H
      exact GA.iret rfl dX12_kindAhead_79 (by omega) (by omega) ⟨rfl, rfl⟩
    · have H := it_f H c7
      refine GA.iload_n dX12_kindAhead_21 rfl ?_
      refine GA.bipush dX12_kindAhead_22 rfl ?_
      refine GV.icmp_ne (tgt := 31) hg5 (by decide) dX12_kindAhead_24 (by decide) (fun c8 => ?_) (fun c8 => ?_)
      · have H := it_t H c8
        refine GA.iload_n dX12_kindAhead_31 rfl ?_
        refine GA.bipush dX12_kindAhead_32 rfl ?_
        refine GV.icmp_ne (tgt := 41) hg5 (by decide) dX12_kindAhead_34 (by decide) (fun c9 => ?_) (fun c9 => ?_)
        · have H := it_t H c9
          refine GA.iload_n dX12_kindAhead_41 rfl ?_
          refine GA.bipush dX12_kindAhead_42 rfl ?_
          refine GV.icmp_ne (tgt := 51) hg5 (by decide) dX12_kindAhead_44 (by decide) (fun c10 => ?_) (fun c10 => ?_)
          · have H := it_t H c10
            refine GA.iload_n dX12_kindAhead_51 rfl ?_
            refine GA.bipush dX12_kindAhead_52 rfl ?_
            refine GV.icmp_ne (tgt := 61) hg5 (by decide) dX12_kindAhead_54 (by decide) (fun c11 => ?_) (fun c11 => ?_)
            · have H := it_t H c11
              refine GA.iload_n dX12_kindAhead_61 rfl ?_
              refine GA.bipush dX12_kindAhead_62 rfl ?_
              refine GV.icmp_eq (tgt := 74) hg5 (by decide) dX12_kindAhead_64 (by decide) (fun c12 => ?_) (fun c12 => ?_)
              · have H := it_t H c12
                refine GA.iconst dX12_kindAhead_74 ?_
                refine GA.goto (tgt := 79) dX12_kindAhead_75 (by decide) ?_
                cases H
                exact GA.iret rfl dX12_kindAhead_79 (by omega) (by omega) ⟨rfl, rfl⟩
              · have H := it_f H c12
                refine GA.aload_n dX12_kindAhead_67 rfl ?_
                obtain ⟨x13, S_14, hc15, H⟩ := gc_e H
                refine GA.callV (m_X12_isFigure hL hc15) xs_X12_481 dX12_kindAhead_68 (gs_500 hL) (by decide) rfl rfl (by omega) (by decide) rfl (Nat.le_of_ble_eq_true rfl) (by omega) (by omega) rfl (fun E S9 hx => hx.elim) (fun v S9 hq => ?_)
                obtain ⟨rfl, rfl⟩ := hq
                obtain ⟨hg16, H⟩ := gg_e H
                refine GV.if_eq (tgt := 78) hg16 dX12_kindAhead_71 (by decide) (fun c17 => ?_) (fun c17 => ?_)
                · have H := it_t H c17
                  refine GA.iconst dX12_kindAhead_78 ?_
                  cases H
                  exact GA.iret rfl dX12_kindAhead_79 (by omega) (by omega) ⟨rfl, rfl⟩
                · have H := it_f H c17
                  refine GA.iconst dX12_kindAhead_74 ?_
                  refine GA.goto (tgt := 79) dX12_kindAhead_75 (by decide) ?_
                  cases H
                  exact GA.iret rfl dX12_kindAhead_79 (by omega) (by omega) ⟨rfl, rfl⟩
            · have H := it_f H c11
              refine GA.iconst dX12_kindAhead_57 ?_
              refine GA.goto (tgt := 79) dX12_kindAhead_58 (by decide) ?_
              cases H
              exact GA.iret rfl dX12_kindAhead_79 (by omega) (by omega) ⟨rfl, rfl⟩
          · have H := it_f H c10
            refine GA.iconst dX12_kindAhead_47 ?_
            refine GA.goto (tgt := 79) dX12_kindAhead_48 (by decide) ?_
            cases H
            exact GA.iret rfl dX12_kindAhead_79 (by omega) (by omega) ⟨rfl, rfl⟩
        · have H := it_f H c9
          refine GA.iconst dX12_kindAhead_37 ?_
          refine GA.goto (tgt := 79) dX12_kindAhead_38 (by decide) ?_
          cases H
          exact GA.iret rfl dX12_kindAhead_79 (by omega) (by omega) ⟨rfl, rfl⟩
      · have H := it_f H c8
        refine GA.iconst dX12_kindAhead_27 ?_
        refine GA.goto (tgt := 79) dX12_kindAhead_28 (by decide) ?_
        cases H
        exact GA.iret rfl dX12_kindAhead_79 (by omega) (by omega) ⟨rfl, rfl⟩
  · have H := it_f H c6
    refine GA.iconst dX12_kindAhead_11 ?_
    refine GA.goto (tgt := 79) dX12_kindAhead_12 (by decide) ?_
    cases H
    exact GA.iret rfl dX12_kindAhead_79 (by omega) (by omega) ⟨rfl, rfl⟩
theorem g_X12_kindAhead {l : Launch} {Z : XZ} {L : Nat → Nat} : ∀ n, P_X12_kindAhead_0 l Z L n
  | 0 => fun _ _ _ _ _ H => no_e H
  | n + 1 => t_X12_kindAhead_0 n (g_X12_kindAhead n)
theorem m_X12_kindAhead {l : Launch} {Z : XZ} {L : Nat → Nat} (hL : L 700 = 1) {n d : Nat} {S : GS} {x : Int} {S1 : GS} (H : f_X12_kindAhead n d 0 S [] = some (x, S1)) : GM l Z L yX12_kindAhead cX12_kindAhead 2 (some .int) [] d 0 0 [.ref (L 500)] S (fun v S' => v = some (.int (J x)) ∧ S1 = S') (fun _ _ => False) := GM.of (by decide) (Nat.le_of_ble_eq_true rfl) ((g_X12_kindAhead n) hL _ _ _ _ H)

def P_X12_lays_0 (l : Launch) (Z : XZ) (L : Nat → Nat) (n : Nat) : Prop := ∀ (hL : L 700 = 1), ∀ (d : Nat) (S : GS) (a1 : Int) (a2 : Int) (a3 : Int) (x : Int) (S1 : GS), f_X12_lays n d 0 S [a1, a2, a3] = some (x, S1) → GA l Z L yX12_lays cX12_lays 5 (some .int) [] d 0 0 (fun v S' => v = some (.int (J x)) ∧ S1 = S') (fun _ _ => False) 0 (gl [(0, .ref (L 500)), (1, .int (J a1)), (2, .int (J a2)), (3, .int (J a3))]) [] S 0 0
def P_X12_lays_10 (l : Launch) (Z : XZ) (L : Nat → Nat) (n : Nat) : Prop := ∀ (hL : L 700 = 1), ∀ (d : Nat) (S : GS) (a2 : Int) (a3 : Int) (a4 : Int) (x : Int) (S1 : GS), f_X12_lays n d 10 S [a2, a3, a4] = some (x, S1) → GA l Z L yX12_lays cX12_lays 5 (some .int) [] d 0 0 (fun v S' => v = some (.int (J x)) ∧ S1 = S') (fun _ _ => False) 10 (gl [(0, .ref (L 500)), (2, .int (J a2)), (3, .int (J a3)), (4, .int (J a4))]) [] S 0 0
theorem i_X12_lays {l : Launch} {Z : XZ} {L : Nat → Nat} (hL : L 700 = 1) {n : Nat} (ih : P_X12_lays_0 l Z L n) {d : Nat} {S : GS} {a1 : Int} {a2 : Int} {a3 : Int} {x : Int} {S1 : GS} (H : f_X12_lays n d 0 S [a1, a2, a3] = some (x, S1)) : GM l Z L yX12_lays cX12_lays 5 (some .int) [] d 0 0 [.ref (L 500), .int (J a1), .int (J a2), .int (J a3)] S (fun v S' => v = some (.int (J x)) ∧ S1 = S') (fun _ _ => False) := GM.of (by decide) (Nat.le_of_ble_eq_true rfl) (ih hL _ _ _ _ _ _ _ H)
set_option maxHeartbeats 4000000 in
set_option maxRecDepth 20000 in
theorem t_X12_lays_0 {l : Launch} {Z : XZ} {L : Nat → Nat} (n : Nat) (ih_X12_lays_0 : P_X12_lays_0 l Z L n) (ih_X12_lays_10 : P_X12_lays_10 l Z L n) : P_X12_lays_0 l Z L (n + 1) := by
  intro hL d S a1 a2 a3 x S1 H
  have H : b_X12_lays_0 n d (f_X12_lays n) S a1 a2 a3 = some (x, S1) := H
  unfold b_X12_lays_0 at H
  refine GA.aload_n dX12_lays_0 rfl ?_
  refine GA.bipush dX12_lays_1 rfl ?_
  refine GA.iload_n dX12_lays_3 rfl ?_
  obtain ⟨hg1, H⟩ := gg_e H
  obtain ⟨x2, S_3, hc4, H⟩ := gc_e H
  refine GA.callV (m_X12_becomes hL hc4) xs_X12_452 dX12_lays_4 (gs_500 hL) (by decide) rfl rfl (by omega) (by decide) rfl (Nat.le_of_ble_eq_true rfl) (by omega) (by omega) rfl (fun E S9 hx => hx.elim) (fun v S9 hq => ?_)
  obtain ⟨rfl, rfl⟩ := hq
  refine GA.iconst dX12_lays_7 ?_
  refine GA.istore dX12_lays_8 (by decide) ?_
  refine GA.locals [(0, .ref (L 500)), (2, .int (J a2)), (3, .int (J a3)), (4, .int (J 0))] ⟨rfl, rfl, rfl, rfl, trivial⟩ ?_
  exact ih_X12_lays_10 hL _ _ (a2) (a3) (0) _ _ H
set_option maxHeartbeats 4000000 in
set_option maxRecDepth 20000 in
theorem t_X12_lays_10 {l : Launch} {Z : XZ} {L : Nat → Nat} (n : Nat) (ih_X12_lays_0 : P_X12_lays_0 l Z L n) (ih_X12_lays_10 : P_X12_lays_10 l Z L n) : P_X12_lays_10 l Z L (n + 1) := by
  intro hL d S a2 a3 a4 x S1 H
  have H : b_X12_lays_10 n d (f_X12_lays n) S a2 a3 a4 = some (x, S1) := H
  unfold b_X12_lays_10 at H
  refine GA.iload dX12_lays_10 rfl ?_
  refine GA.iload_n dX12_lays_12 rfl ?_
  obtain ⟨hg1, H⟩ := gg_e H
  obtain ⟨hg2, H⟩ := gg_e H
  refine GV.icmp_ge (tgt := 41) hg1 hg2 dX12_lays_13 (by decide) (fun c3 => ?_) (fun c3 => ?_)
  · have H := it_t H c3
    refine GA.iconst dX12_lays_41 ?_
    cases H
    exact GA.iret rfl dX12_lays_42 (by omega) (by omega) ⟨rfl, rfl⟩
  · have H := it_f H c3
    refine GA.aload_n dX12_lays_16 rfl ?_
    refine GA.iload_n dX12_lays_17 rfl ?_
    refine GA.aload_n dX12_lays_18 rfl ?_
    refine GA.iload_n dX12_lays_19 rfl ?_
    refine GA.iconst dX12_lays_20 ?_
    refine GA.iload dX12_lays_21 rfl ?_
    obtain ⟨hg4, H⟩ := gg_e H
    obtain ⟨x5, S_6, hc7, H⟩ := gc_e H
    refine GA.callV (m_X12_childAt hL hc7) xs_X12_616 dX12_lays_23 (gs_500 hL) (by decide) rfl rfl (by omega) (by decide) rfl (Nat.le_of_ble_eq_true rfl) (by omega) (by omega) rfl (fun E S9 hx => hx.elim) (fun v S9 hq => ?_)
    obtain ⟨rfl, rfl⟩ := hq
    obtain ⟨x8, S_9, hc10, H⟩ := gc_e H
    refine GA.callV (m_X12_does hL hc10) xs_X12_708 dX12_lays_26 (gs_500 hL) (by decide) rfl rfl (by omega) (by decide) rfl (Nat.le_of_ble_eq_true rfl) (by omega) (by omega) rfl (fun E S9 hx => hx.elim) (fun v S9 hq => ?_)
    obtain ⟨rfl, rfl⟩ := hq
    obtain ⟨hg11, H⟩ := gg_e H
    refine GV.if_ne (tgt := 35) hg11 dX12_lays_29 (by decide) (fun c12 => ?_) (fun c12 => ?_)
    · have H := it_t H c12
      obtain ⟨x13, hx14, H⟩ := gv_e H
      refine GV.iinc hx14 dX12_lays_35 rfl (by decide) ?_
      refine GA.goto (tgt := 10) dX12_lays_38 (by decide) ?_
      refine GA.locals [(0, .ref (L 500)), (2, .int (J a2)), (3, .int (J a3)), (4, .int (J x13))] ⟨rfl, rfl, rfl, rfl, trivial⟩ ?_
      exact ih_X12_lays_10 hL _ _ (a2) (a3) (x13) _ _ H
    · have H := it_f H c12
      refine GA.iload dX12_lays_32 rfl ?_
      cases H
      exact GA.iret rfl dX12_lays_34 (by omega) (by omega) ⟨rfl, rfl⟩
theorem g_X12_lays {l : Launch} {Z : XZ} {L : Nat → Nat} : ∀ n, P_X12_lays_0 l Z L n ∧ P_X12_lays_10 l Z L n
  | 0 => ⟨fun _ _ _ _ _ _ _ _ H => no_e H, fun _ _ _ _ _ _ _ _ H => no_e H⟩
  | n + 1 => have ⟨h0, h1⟩ := g_X12_lays (l := l) (Z := Z) (L := L) n
    ⟨t_X12_lays_0 n h0 h1, t_X12_lays_10 n h0 h1⟩
theorem m_X12_lays {l : Launch} {Z : XZ} {L : Nat → Nat} (hL : L 700 = 1) {n d : Nat} {S : GS} {a1 : Int} {a2 : Int} {a3 : Int} {x : Int} {S1 : GS} (H : f_X12_lays n d 0 S [a1, a2, a3] = some (x, S1)) : GM l Z L yX12_lays cX12_lays 5 (some .int) [] d 0 0 [.ref (L 500), .int (J a1), .int (J a2), .int (J a3)] S (fun v S' => v = some (.int (J x)) ∧ S1 = S') (fun _ _ => False) := GM.of (by decide) (Nat.le_of_ble_eq_true rfl) ((g_X12_lays n).1 hL _ _ _ _ _ _ _ H)

def P_X12_lay_0 (l : Launch) (Z : XZ) (L : Nat → Nat) (n : Nat) : Prop := ∀ (hL : L 700 = 1), ∀ (d : Nat) (S : GS) (a1 : Int) (a2 : Int) (x : Int) (S1 : GS), f_X12_lay n d 0 S [a1, a2] = some (x, S1) → GA l Z L yX12_lay cX12_lay 4 (some .int) [] d 0 0 (fun v S' => v = some (.int (J x)) ∧ S1 = S') (fun _ _ => False) 0 (gl [(0, .ref (L 500)), (1, .int (J a1)), (2, .int (J a2))]) [] S 0 0
def P_X12_lay_22 (l : Launch) (Z : XZ) (L : Nat → Nat) (n : Nat) : Prop := ∀ (hL : L 700 = 1), ∀ (d : Nat) (S : GS) (a1 : Int) (a2 : Int) (s0 : Int) (x : Int) (S1 : GS), f_X12_lay n d 22 S [a1, a2, s0] = some (x, S1) → GA l Z L yX12_lay cX12_lay 4 (some .int) [] d 0 0 (fun v S' => v = some (.int (J x)) ∧ S1 = S') (fun _ _ => False) 22 (gl [(0, .ref (L 500)), (1, .int (J a1)), (2, .int (J a2))]) [.int (J s0), .ref (L 500)] S 0 0
def P_X12_lay_82 (l : Launch) (Z : XZ) (L : Nat → Nat) (n : Nat) : Prop := ∀ (hL : L 700 = 1), ∀ (d : Nat) (S : GS) (s0 : Int) (x : Int) (S1 : GS), f_X12_lay n d 82 S [s0] = some (x, S1) → GA l Z L yX12_lay cX12_lay 4 (some .int) [] d 0 0 (fun v S' => v = some (.int (J x)) ∧ S1 = S') (fun _ _ => False) 82 (gl [(0, .ref (L 500))]) [.int (J s0), .ref (L 500)] S 0 0
theorem i_X12_lay {l : Launch} {Z : XZ} {L : Nat → Nat} (hL : L 700 = 1) {n : Nat} (ih : P_X12_lay_0 l Z L n) {d : Nat} {S : GS} {a1 : Int} {a2 : Int} {x : Int} {S1 : GS} (H : f_X12_lay n d 0 S [a1, a2] = some (x, S1)) : GM l Z L yX12_lay cX12_lay 4 (some .int) [] d 0 0 [.ref (L 500), .int (J a1), .int (J a2)] S (fun v S' => v = some (.int (J x)) ∧ S1 = S') (fun _ _ => False) := GM.of (by decide) (Nat.le_of_ble_eq_true rfl) (ih hL _ _ _ _ _ _ H)
set_option maxHeartbeats 4000000 in
set_option maxRecDepth 20000 in
theorem t_X12_lay_0 {l : Launch} {Z : XZ} {L : Nat → Nat} (n : Nat) (ih_X12_lay_0 : P_X12_lay_0 l Z L n) (ih_X12_lay_22 : P_X12_lay_22 l Z L n) (ih_X12_lay_82 : P_X12_lay_82 l Z L n) : P_X12_lay_0 l Z L (n + 1) := by
  intro hL d S a1 a2 x S1 H
  have H : b_X12_lay_0 n d (f_X12_lay n) S a1 a2 = some (x, S1) := H
  unfold b_X12_lay_0 at H
  refine GA.aload_n dX12_lay_0 rfl ?_
  refine GA.aload_n dX12_lay_1 rfl ?_
  refine GA.iload_n dX12_lay_2 rfl ?_
  obtain ⟨hg1, H⟩ := gg_e H
  obtain ⟨x2, S_3, hc4, H⟩ := gc_e H
  refine GA.callV (m_X12_isDoc hL hc4) xs_X12_22 dX12_lay_3 (gs_500 hL) (by decide) rfl rfl (by omega) (by decide) rfl (Nat.le_of_ble_eq_true rfl) (by omega) (by omega) rfl (fun E S9 hx => hx.elim) (fun v S9 hq => ?_)
  obtain ⟨rfl, rfl⟩ := hq
  obtain ⟨hg5, H⟩ := gg_e H
  refine GV.if_eq (tgt := 21) hg5 dX12_lay_6 (by decide) (fun c6 => ?_) (fun c6 => ?_)
  · have H := it_t H c6
    refine GA.iconst dX12_lay_21 ?_
    refine GA.locals [(0, .ref (L 500)), (1, .int (J a1)), (2, .int (J a2))] ⟨rfl, rfl, rfl, trivial⟩ ?_
    exact ih_X12_lay_22 hL _ _ (a1) (a2) (0) _ _ H
  · have H := it_f H c6
    refine GA.aload_n dX12_lay_9 rfl ?_
    refine GA.iload_n dX12_lay_10 rfl ?_
    obtain ⟨x7, S_8, hc9, H⟩ := gc_e H
    refine GA.callV (m_X12_isDoc hL hc9) xs_X12_22 dX12_lay_11 (gs_500 hL) (by decide) rfl rfl (by omega) (by decide) rfl (Nat.le_of_ble_eq_true rfl) (by omega) (by omega) rfl (fun E S9 hx => hx.elim) (fun v S9 hq => ?_)
    obtain ⟨rfl, rfl⟩ := hq
    obtain ⟨hg10, H⟩ := gg_e H
    refine GV.if_eq (tgt := 21) hg10 dX12_lay_14 (by decide) (fun c11 => ?_) (fun c11 => ?_)
    · have H := it_t H c11
      refine GA.iconst dX12_lay_21 ?_
      refine GA.locals [(0, .ref (L 500)), (1, .int (J a1)), (2, .int (J a2))] ⟨rfl, rfl, rfl, trivial⟩ ?_
      exact ih_X12_lay_22 hL _ _ (a1) (a2) (0) _ _ H
    · have H := it_f H c11
      refine GA.iconst dX12_lay_17 ?_
      refine GA.goto (tgt := 22) dX12_lay_18 (by decide) ?_
      refine GA.locals [(0, .ref (L 500)), (1, .int (J a1)), (2, .int (J a2))] ⟨rfl, rfl, rfl, trivial⟩ ?_
      exact ih_X12_lay_22 hL _ _ (a1) (a2) (1) _ _ H
set_option maxHeartbeats 4000000 in
set_option maxRecDepth 20000 in
theorem t_X12_lay_22 {l : Launch} {Z : XZ} {L : Nat → Nat} (n : Nat) (ih_X12_lay_0 : P_X12_lay_0 l Z L n) (ih_X12_lay_22 : P_X12_lay_22 l Z L n) (ih_X12_lay_82 : P_X12_lay_82 l Z L n) : P_X12_lay_22 l Z L (n + 1) := by
  intro hL d S a1 a2 s0 x S1 H
  have H : b_X12_lay_22 n d (f_X12_lay n) S a1 a2 s0 = some (x, S1) := H
  unfold b_X12_lay_22 at H
  refine GA.iconst dX12_lay_22 ?_
  obtain ⟨hg1, H⟩ := gg_e H
  obtain ⟨x2, S_3, hc4, H⟩ := gc_e H
  refine GA.callV (m_X12_fails hL hc4) xs_X12_456 dX12_lay_23 (gs_500 hL) (by decide) rfl rfl (by omega) (by decide) rfl (Nat.le_of_ble_eq_true rfl) (by omega) (by omega) rfl (fun E S9 hx => hx.elim) (fun v S9 hq => ?_)
  obtain ⟨rfl, rfl⟩ := hq
  obtain ⟨hg5, H⟩ := gg_e H
  refine GV.if_eq (tgt := 31) hg5 dX12_lay_26 (by decide) (fun c6 => ?_) (fun c6 => ?_)
  · have H := it_t H c6
    refine GA.aload_n dX12_lay_31 rfl ?_
    refine GA.iload_n dX12_lay_32 rfl ?_
    refine GA.iconst dX12_lay_33 ?_
    obtain ⟨x7, S_8, hc9, H⟩ := gc_e H
    refine GA.callV (m_X12_kind hL hc9) xs_X12_52 dX12_lay_34 (gs_500 hL) (by decide) rfl rfl (by omega) (by decide) rfl (Nat.le_of_ble_eq_true rfl) (by omega) (by omega) rfl (fun E S9 hx => hx.elim) (fun v S9 hq => ?_)
    obtain ⟨rfl, rfl⟩ := hq
    refine GA.iconst dX12_lay_37 ?_
    obtain ⟨hg10, H⟩ := gg_e H
    refine GV.icmp_eq (tgt := 43) hg10 (by decide) dX12_lay_38 (by decide) (fun c11 => ?_) (fun c11 => ?_)
    · have H := it_t H c11
      refine GA.aload_n dX12_lay_43 rfl ?_
      refine GA.iload_n dX12_lay_44 rfl ?_
      refine GA.iload_n dX12_lay_45 rfl ?_
      refine GA.aload_n dX12_lay_46 rfl ?_
      refine GA.iload_n dX12_lay_47 rfl ?_
      refine GA.iconst dX12_lay_48 ?_
      refine GA.iconst dX12_lay_49 ?_
      obtain ⟨x12, S_13, hc14, H⟩ := gc_e H
      refine GA.callV (m_X12_part hL hc14) xs_X12_36 dX12_lay_50 (gs_500 hL) (by decide) rfl rfl (by omega) (by decide) rfl (Nat.le_of_ble_eq_true rfl) (by omega) (by omega) rfl (fun E S9 hx => hx.elim) (fun v S9 hq => ?_)
      obtain ⟨rfl, rfl⟩ := hq
      obtain ⟨x15, S_16, hc17, H⟩ := gc_e H
      refine GA.callV (m_X12_lays hL hc17) xs_X12_711 dX12_lay_53 (gs_500 hL) (by decide) rfl rfl (by omega) (by decide) rfl (Nat.le_of_ble_eq_true rfl) (by omega) (by omega) rfl (fun E S9 hx => hx.elim) (fun v S9 hq => ?_)
      obtain ⟨rfl, rfl⟩ := hq
      refine GA.istore_n dX12_lay_56 (by decide) ?_
      refine GA.iload_n dX12_lay_57 rfl ?_
      refine GA.iconst dX12_lay_58 ?_
      obtain ⟨hg18, H⟩ := gg_e H
      refine GV.icmp_eq (tgt := 67) hg18 (by decide) dX12_lay_59 (by decide) (fun c19 => ?_) (fun c19 => ?_)
      · have H := it_t H c19
        refine GA.aload_n dX12_lay_67 rfl ?_
        refine GA.aload_n dX12_lay_68 rfl ?_
        obtain ⟨x20, hx21, H⟩ := gv_e H
        refine GV.getI hx21 xf_X12_15 dX12_lay_69 (gs_500 hL) (by decide) rfl ?_
        refine GA.bipush dX12_lay_72 rfl ?_
        obtain ⟨hg22, H⟩ := gg_e H
        refine GV.icmp_ge (tgt := 81) hg22 (by decide) dX12_lay_74 (by decide) (fun c23 => ?_) (fun c23 => ?_)
        · have H := it_t H c23
          refine GA.iconst dX12_lay_81 ?_
          refine GA.locals [(0, .ref (L 500))] ⟨rfl, trivial⟩ ?_
          exact ih_X12_lay_82 hL _ _ (0) _ _ H
        · have H := it_f H c23
          refine GA.iconst dX12_lay_77 ?_
          refine GA.goto (tgt := 82) dX12_lay_78 (by decide) ?_
          refine GA.locals [(0, .ref (L 500))] ⟨rfl, trivial⟩ ?_
          exact ih_X12_lay_82 hL _ _ (1) _ _ H
      · have H := it_f H c19
        refine GA.bipush dX12_lay_62 rfl ?_
        refine GA.iload_n dX12_lay_64 rfl ?_
        obtain ⟨x24, hx25, H⟩ := gv_e H
        refine GV.isub hx25 dX12_lay_65 ?_
        cases H
        exact GA.iret rfl dX12_lay_66 (by omega) (by omega) ⟨rfl, rfl⟩
    · have H := it_f H c11
      refine GA.iconst dX12_lay_41 ?_
      cases H
      exact GA.iret rfl dX12_lay_42 (by omega) (by omega) ⟨rfl, rfl⟩
  · have H := it_f H c6
    refine GA.iconst dX12_lay_29 ?_
    cases H
    exact GA.iret rfl dX12_lay_30 (by omega) (by omega) ⟨rfl, rfl⟩
set_option maxHeartbeats 4000000 in
set_option maxRecDepth 20000 in
theorem t_X12_lay_82 {l : Launch} {Z : XZ} {L : Nat → Nat} (n : Nat) (ih_X12_lay_0 : P_X12_lay_0 l Z L n) (ih_X12_lay_22 : P_X12_lay_22 l Z L n) (ih_X12_lay_82 : P_X12_lay_82 l Z L n) : P_X12_lay_82 l Z L (n + 1) := by
  intro hL d S s0 x S1 H
  have H : b_X12_lay_82 n d (f_X12_lay n) S s0 = some (x, S1) := H
  unfold b_X12_lay_82 at H
  refine GA.iconst dX12_lay_82 ?_
  obtain ⟨hg1, H⟩ := gg_e H
  obtain ⟨x2, S_3, hc4, H⟩ := gc_e H
  refine GA.callV (m_X12_fails hL hc4) xs_X12_456 dX12_lay_83 (gs_500 hL) (by decide) rfl rfl (by omega) (by decide) rfl (Nat.le_of_ble_eq_true rfl) (by omega) (by omega) rfl (fun E S9 hx => hx.elim) (fun v S9 hq => ?_)
  obtain ⟨rfl, rfl⟩ := hq
  obtain ⟨hg5, H⟩ := gg_e H
  refine GV.if_eq (tgt := 93) hg5 dX12_lay_86 (by decide) (fun c6 => ?_) (fun c6 => ?_)
  · have H := it_t H c6
    refine GA.aload_n dX12_lay_93 rfl ?_
    refine GA.bipush dX12_lay_94 rfl ?_
    obtain ⟨x7, S_8, hc9, H⟩ := gc_e H
    refine GA.callV (m_X12_keeps hL hc9) xs_X12_536 dX12_lay_96 (gs_500 hL) (by decide) rfl rfl (by omega) (by decide) rfl (Nat.le_of_ble_eq_true rfl) (by omega) (by omega) rfl (fun E S9 hx => hx.elim) (fun v S9 hq => ?_)
    obtain ⟨rfl, rfl⟩ := hq
    cases H
    exact GA.iret rfl dX12_lay_99 (by omega) (by omega) ⟨rfl, rfl⟩
  · have H := it_f H c6
    refine GA.iconst dX12_lay_89 ?_
    refine GA.goto (tgt := 99) dX12_lay_90 (by decide) ?_
    cases H
    exact GA.iret rfl dX12_lay_99 (by omega) (by omega) ⟨rfl, rfl⟩
theorem g_X12_lay {l : Launch} {Z : XZ} {L : Nat → Nat} : ∀ n, P_X12_lay_0 l Z L n ∧ P_X12_lay_22 l Z L n ∧ P_X12_lay_82 l Z L n
  | 0 => ⟨fun _ _ _ _ _ _ _ H => no_e H, fun _ _ _ _ _ _ _ _ H => no_e H, fun _ _ _ _ _ _ H => no_e H⟩
  | n + 1 => have ⟨h0, h1, h2⟩ := g_X12_lay (l := l) (Z := Z) (L := L) n
    ⟨t_X12_lay_0 n h0 h1 h2, t_X12_lay_22 n h0 h1 h2, t_X12_lay_82 n h0 h1 h2⟩
theorem m_X12_lay {l : Launch} {Z : XZ} {L : Nat → Nat} (hL : L 700 = 1) {n d : Nat} {S : GS} {a1 : Int} {a2 : Int} {x : Int} {S1 : GS} (H : f_X12_lay n d 0 S [a1, a2] = some (x, S1)) : GM l Z L yX12_lay cX12_lay 4 (some .int) [] d 0 0 [.ref (L 500), .int (J a1), .int (J a2)] S (fun v S' => v = some (.int (J x)) ∧ S1 = S') (fun _ _ => False) := GM.of (by decide) (Nat.le_of_ble_eq_true rfl) ((g_X12_lay n).1 hL _ _ _ _ _ _ H)

def P_X12_patchRows_0 (l : Launch) (Z : XZ) (L : Nat → Nat) (n : Nat) : Prop := ∀ (hL : L 700 = 1), ∀ (d : Nat) (S : GS) (a1 : Int) (a2 : Int) (a3 : Int) (a4 : Int) (x : Int) (S1 : GS), f_X12_patchRows n d 0 S [a1, a2, a3, a4] = some (x, S1) → GA l Z L yX12_patchRows cX12_patchRows 10 none [] d 0 0 (fun v S' => v = none ∧ S1 = S') (fun _ _ => False) 0 (gl [(0, .ref (L 500)), (1, .int (J a1)), (2, .int (J a2)), (3, .int (J a3)), (4, .int (J a4))]) [] S 0 0
def P_X12_patchRows_23 (l : Launch) (Z : XZ) (L : Nat → Nat) (n : Nat) : Prop := ∀ (hL : L 700 = 1), ∀ (d : Nat) (S : GS) (a1 : Int) (a2 : Int) (a3 : Int) (a4 : Int) (a5 : Int) (a6 : Int) (a7 : Int) (x : Int) (S1 : GS), f_X12_patchRows n d 23 S [a1, a2, a3, a4, a5, a6, a7] = some (x, S1) → GA l Z L yX12_patchRows cX12_patchRows 10 none [] d 0 0 (fun v S' => v = none ∧ S1 = S') (fun _ _ => False) 23 (gl [(0, .ref (L 500)), (1, .int (J a1)), (2, .int (J a2)), (3, .int (J a3)), (4, .int (J a4)), (5, .int (J a5)), (6, .int (J a6)), (7, .int (J a7))]) [] S 0 0
def P_X12_patchRows_32 (l : Launch) (Z : XZ) (L : Nat → Nat) (n : Nat) : Prop := ∀ (hL : L 700 = 1), ∀ (d : Nat) (S : GS) (a1 : Int) (a2 : Int) (a3 : Int) (a4 : Int) (a5 : Int) (a6 : Int) (a7 : Int) (a8 : Int) (x : Int) (S1 : GS), f_X12_patchRows n d 32 S [a1, a2, a3, a4, a5, a6, a7, a8] = some (x, S1) → GA l Z L yX12_patchRows cX12_patchRows 10 none [] d 0 0 (fun v S' => v = none ∧ S1 = S') (fun _ _ => False) 32 (gl [(0, .ref (L 500)), (1, .int (J a1)), (2, .int (J a2)), (3, .int (J a3)), (4, .int (J a4)), (5, .int (J a5)), (6, .int (J a6)), (7, .int (J a7)), (8, .int (J a8))]) [] S 0 0
def P_X12_patchRows_103 (l : Launch) (Z : XZ) (L : Nat → Nat) (n : Nat) : Prop := ∀ (hL : L 700 = 1), ∀ (d : Nat) (S : GS) (a1 : Int) (a2 : Int) (a3 : Int) (a4 : Int) (a5 : Int) (a6 : Int) (a7 : Int) (a8 : Int) (s0 : Int) (x : Int) (S1 : GS), f_X12_patchRows n d 103 S [a1, a2, a3, a4, a5, a6, a7, a8, s0] = some (x, S1) → GA l Z L yX12_patchRows cX12_patchRows 10 none [] d 0 0 (fun v S' => v = none ∧ S1 = S') (fun _ _ => False) 103 (gl [(0, .ref (L 500)), (1, .int (J a1)), (2, .int (J a2)), (3, .int (J a3)), (4, .int (J a4)), (5, .int (J a5)), (6, .int (J a6)), (7, .int (J a7)), (8, .int (J a8))]) [.int (J s0)] S 0 0
def P_X12_patchRows_145 (l : Launch) (Z : XZ) (L : Nat → Nat) (n : Nat) : Prop := ∀ (hL : L 700 = 1), ∀ (d : Nat) (S : GS) (a1 : Int) (a2 : Int) (a3 : Int) (a4 : Int) (a5 : Int) (a6 : Int) (a7 : Int) (a8 : Int) (s0 : Int) (x : Int) (S1 : GS), f_X12_patchRows n d 145 S [a1, a2, a3, a4, a5, a6, a7, a8, s0] = some (x, S1) → GA l Z L yX12_patchRows cX12_patchRows 10 none [] d 0 0 (fun v S' => v = none ∧ S1 = S') (fun _ _ => False) 145 (gl [(0, .ref (L 500)), (1, .int (J a1)), (2, .int (J a2)), (3, .int (J a3)), (4, .int (J a4)), (5, .int (J a5)), (6, .int (J a6)), (7, .int (J a7)), (8, .int (J a8))]) [.int (J s0)] S 0 0
def P_X12_patchRows_189 (l : Launch) (Z : XZ) (L : Nat → Nat) (n : Nat) : Prop := ∀ (hL : L 700 = 1), ∀ (d : Nat) (S : GS) (a1 : Int) (a2 : Int) (a3 : Int) (a4 : Int) (a5 : Int) (a6 : Int) (a7 : Int) (a8 : Int) (a9 : Int) (x : Int) (S1 : GS), f_X12_patchRows n d 189 S [a1, a2, a3, a4, a5, a6, a7, a8, a9] = some (x, S1) → GA l Z L yX12_patchRows cX12_patchRows 10 none [] d 0 0 (fun v S' => v = none ∧ S1 = S') (fun _ _ => False) 189 (gl [(0, .ref (L 500)), (1, .int (J a1)), (2, .int (J a2)), (3, .int (J a3)), (4, .int (J a4)), (5, .int (J a5)), (6, .int (J a6)), (7, .int (J a7)), (8, .int (J a8)), (9, .int (J a9))]) [] S 0 0
def P_X12_patchRows_219 (l : Launch) (Z : XZ) (L : Nat → Nat) (n : Nat) : Prop := ∀ (hL : L 700 = 1), ∀ (d : Nat) (S : GS) (a1 : Int) (a2 : Int) (a3 : Int) (a4 : Int) (a5 : Int) (a6 : Int) (a7 : Int) (x : Int) (S1 : GS), f_X12_patchRows n d 219 S [a1, a2, a3, a4, a5, a6, a7] = some (x, S1) → GA l Z L yX12_patchRows cX12_patchRows 10 none [] d 0 0 (fun v S' => v = none ∧ S1 = S') (fun _ _ => False) 219 (gl [(0, .ref (L 500)), (1, .int (J a1)), (2, .int (J a2)), (3, .int (J a3)), (4, .int (J a4)), (5, .int (J a5)), (6, .int (J a6)), (7, .int (J a7))]) [] S 0 0
def P_X12_patchRows_254 (l : Launch) (Z : XZ) (L : Nat → Nat) (n : Nat) : Prop := ∀ (hL : L 700 = 1), ∀ (d : Nat) (S : GS) (a1 : Int) (a2 : Int) (a3 : Int) (a4 : Int) (a5 : Int) (a6 : Int) (a7 : Int) (a8 : Int) (x : Int) (S1 : GS), f_X12_patchRows n d 254 S [a1, a2, a3, a4, a5, a6, a7, a8] = some (x, S1) → GA l Z L yX12_patchRows cX12_patchRows 10 none [] d 0 0 (fun v S' => v = none ∧ S1 = S') (fun _ _ => False) 254 (gl [(0, .ref (L 500)), (1, .int (J a1)), (2, .int (J a2)), (3, .int (J a3)), (4, .int (J a4)), (5, .int (J a5)), (6, .int (J a6)), (7, .int (J a7)), (8, .int (J a8))]) [] S 0 0
def P_X12_patchRows_368 (l : Launch) (Z : XZ) (L : Nat → Nat) (n : Nat) : Prop := ∀ (hL : L 700 = 1), ∀ (d : Nat) (S : GS) (a1 : Int) (a2 : Int) (a3 : Int) (a4 : Int) (a6 : Int) (a9 : Int) (x : Int) (S1 : GS), f_X12_patchRows n d 368 S [a1, a2, a3, a4, a6, a9] = some (x, S1) → GA l Z L yX12_patchRows cX12_patchRows 10 none [] d 0 0 (fun v S' => v = none ∧ S1 = S') (fun _ _ => False) 368 (gl [(0, .ref (L 500)), (1, .int (J a1)), (2, .int (J a2)), (3, .int (J a3)), (4, .int (J a4)), (6, .int (J a6)), (9, .int (J a9))]) [] S 0 0
def P_X12_patchRows_414 (l : Launch) (Z : XZ) (L : Nat → Nat) (n : Nat) : Prop := ∀ (hL : L 700 = 1), ∀ (d : Nat) (S : GS) (a1 : Int) (a2 : Int) (a3 : Int) (a4 : Int) (a6 : Int) (a9 : Int) (x : Int) (S1 : GS), f_X12_patchRows n d 414 S [a1, a2, a3, a4, a6, a9] = some (x, S1) → GA l Z L yX12_patchRows cX12_patchRows 10 none [] d 0 0 (fun v S' => v = none ∧ S1 = S') (fun _ _ => False) 414 (gl [(0, .ref (L 500)), (1, .int (J a1)), (2, .int (J a2)), (3, .int (J a3)), (4, .int (J a4)), (6, .int (J a6)), (9, .int (J a9))]) [] S 0 0
theorem i_X12_patchRows {l : Launch} {Z : XZ} {L : Nat → Nat} (hL : L 700 = 1) {n : Nat} (ih : P_X12_patchRows_0 l Z L n) {d : Nat} {S : GS} {a1 : Int} {a2 : Int} {a3 : Int} {a4 : Int} {x : Int} {S1 : GS} (H : f_X12_patchRows n d 0 S [a1, a2, a3, a4] = some (x, S1)) : GM l Z L yX12_patchRows cX12_patchRows 10 none [] d 0 0 [.ref (L 500), .int (J a1), .int (J a2), .int (J a3), .int (J a4)] S (fun v S' => v = none ∧ S1 = S') (fun _ _ => False) := GM.of (by decide) (Nat.le_of_ble_eq_true rfl) (ih hL _ _ _ _ _ _ _ _ H)
set_option maxHeartbeats 4000000 in
set_option maxRecDepth 20000 in
theorem t_X12_patchRows_0 {l : Launch} {Z : XZ} {L : Nat → Nat} (n : Nat) (ih_X12_patchRows_0 : P_X12_patchRows_0 l Z L n) (ih_X12_patchRows_23 : P_X12_patchRows_23 l Z L n) (ih_X12_patchRows_32 : P_X12_patchRows_32 l Z L n) (ih_X12_patchRows_103 : P_X12_patchRows_103 l Z L n) (ih_X12_patchRows_145 : P_X12_patchRows_145 l Z L n) (ih_X12_patchRows_189 : P_X12_patchRows_189 l Z L n) (ih_X12_patchRows_219 : P_X12_patchRows_219 l Z L n) (ih_X12_patchRows_254 : P_X12_patchRows_254 l Z L n) (ih_X12_patchRows_368 : P_X12_patchRows_368 l Z L n) (ih_X12_patchRows_414 : P_X12_patchRows_414 l Z L n) : P_X12_patchRows_0 l Z L (n + 1) := by
  intro hL d S a1 a2 a3 a4 x S1 H
  have H : b_X12_patchRows_0 n d (f_X12_patchRows n) S a1 a2 a3 a4 = some (x, S1) := H
  unfold b_X12_patchRows_0 at H
  refine GA.aload_n dX12_patchRows_0 rfl ?_
  refine GA.iload_n dX12_patchRows_1 rfl ?_
  refine GA.iload_n dX12_patchRows_2 rfl ?_
  refine GA.iconst dX12_patchRows_3 ?_
  obtain ⟨hg1, H⟩ := gg_e H
  obtain ⟨x2, S_3, hc4, H⟩ := gc_e H
  refine GA.callV (m_X12_part hL hc4) xs_X12_36 dX12_patchRows_4 (gs_500 hL) (by decide) rfl rfl (by omega) (by decide) rfl (Nat.le_of_ble_eq_true rfl) (by omega) (by omega) rfl (fun E S9 hx => hx.elim) (fun v S9 hq => ?_)
  obtain ⟨rfl, rfl⟩ := hq
  refine GA.istore dX12_patchRows_7 (by decide) ?_
  refine GA.aload_n dX12_patchRows_9 rfl ?_
  refine GA.iload_n dX12_patchRows_10 rfl ?_
  refine GA.iload dX12_patchRows_11 rfl ?_
  refine GA.iconst dX12_patchRows_13 ?_
  obtain ⟨x5, S_6, hc7, H⟩ := gc_e H
  refine GA.callV (m_X12_part hL hc7) xs_X12_36 dX12_patchRows_14 (gs_500 hL) (by decide) rfl rfl (by omega) (by decide) rfl (Nat.le_of_ble_eq_true rfl) (by omega) (by omega) rfl (fun E S9 hx => hx.elim) (fun v S9 hq => ?_)
  obtain ⟨rfl, rfl⟩ := hq
  refine GA.istore dX12_patchRows_17 (by decide) ?_
  refine GA.iload dX12_patchRows_19 rfl ?_
  refine GA.istore dX12_patchRows_21 (by decide) ?_
  refine GA.locals [(0, .ref (L 500)), (1, .int (J a1)), (2, .int (J a2)), (3, .int (J a3)), (4, .int (J a4)), (5, .int (J x2)), (6, .int (J x5)), (7, .int (J x2))] ⟨rfl, rfl, rfl, rfl, rfl, rfl, rfl, rfl, trivial⟩ ?_
  exact ih_X12_patchRows_23 hL _ _ (a1) (a2) (a3) (a4) (x2) (x5) (x2) _ _ H
set_option maxHeartbeats 4000000 in
set_option maxRecDepth 20000 in
theorem t_X12_patchRows_23 {l : Launch} {Z : XZ} {L : Nat → Nat} (n : Nat) (ih_X12_patchRows_0 : P_X12_patchRows_0 l Z L n) (ih_X12_patchRows_23 : P_X12_patchRows_23 l Z L n) (ih_X12_patchRows_32 : P_X12_patchRows_32 l Z L n) (ih_X12_patchRows_103 : P_X12_patchRows_103 l Z L n) (ih_X12_patchRows_145 : P_X12_patchRows_145 l Z L n) (ih_X12_patchRows_189 : P_X12_patchRows_189 l Z L n) (ih_X12_patchRows_219 : P_X12_patchRows_219 l Z L n) (ih_X12_patchRows_254 : P_X12_patchRows_254 l Z L n) (ih_X12_patchRows_368 : P_X12_patchRows_368 l Z L n) (ih_X12_patchRows_414 : P_X12_patchRows_414 l Z L n) : P_X12_patchRows_23 l Z L (n + 1) := by
  intro hL d S a1 a2 a3 a4 a5 a6 a7 x S1 H
  have H : b_X12_patchRows_23 n d (f_X12_patchRows n) S a1 a2 a3 a4 a5 a6 a7 = some (x, S1) := H
  unfold b_X12_patchRows_23 at H
  refine GA.iload dX12_patchRows_23 rfl ?_
  obtain ⟨hg1, H⟩ := gg_e H
  refine GV.if_lt (tgt := 216) hg1 dX12_patchRows_25 (by decide) (fun c2 => ?_) (fun c2 => ?_)
  · have H := it_t H c2
    refine GA.iconst dX12_patchRows_216 ?_
    refine GA.istore dX12_patchRows_217 (by decide) ?_
    refine GA.locals [(0, .ref (L 500)), (1, .int (J a1)), (2, .int (J a2)), (3, .int (J a3)), (4, .int (J a4)), (5, .int (J a5)), (6, .int (J a6)), (7, .int (J 0))] ⟨rfl, rfl, rfl, rfl, rfl, rfl, rfl, rfl, trivial⟩ ?_
    exact ih_X12_patchRows_219 hL _ _ (a1) (a2) (a3) (a4) (a5) (a6) (0) _ _ H
  · have H := it_f H c2
    refine GA.iload dX12_patchRows_28 rfl ?_
    refine GA.istore dX12_patchRows_30 (by decide) ?_
    refine GA.locals [(0, .ref (L 500)), (1, .int (J a1)), (2, .int (J a2)), (3, .int (J a3)), (4, .int (J a4)), (5, .int (J a5)), (6, .int (J a6)), (7, .int (J a7)), (8, .int (J a6))] ⟨rfl, rfl, rfl, rfl, rfl, rfl, rfl, rfl, rfl, trivial⟩ ?_
    exact ih_X12_patchRows_32 hL _ _ (a1) (a2) (a3) (a4) (a5) (a6) (a7) (a6) _ _ H
set_option maxHeartbeats 4000000 in
set_option maxRecDepth 20000 in
theorem t_X12_patchRows_32 {l : Launch} {Z : XZ} {L : Nat → Nat} (n : Nat) (ih_X12_patchRows_0 : P_X12_patchRows_0 l Z L n) (ih_X12_patchRows_23 : P_X12_patchRows_23 l Z L n) (ih_X12_patchRows_32 : P_X12_patchRows_32 l Z L n) (ih_X12_patchRows_103 : P_X12_patchRows_103 l Z L n) (ih_X12_patchRows_145 : P_X12_patchRows_145 l Z L n) (ih_X12_patchRows_189 : P_X12_patchRows_189 l Z L n) (ih_X12_patchRows_219 : P_X12_patchRows_219 l Z L n) (ih_X12_patchRows_254 : P_X12_patchRows_254 l Z L n) (ih_X12_patchRows_368 : P_X12_patchRows_368 l Z L n) (ih_X12_patchRows_414 : P_X12_patchRows_414 l Z L n) : P_X12_patchRows_32 l Z L (n + 1) := by
  intro hL d S a1 a2 a3 a4 a5 a6 a7 a8 x S1 H
  have H : b_X12_patchRows_32 n d (f_X12_patchRows n) S a1 a2 a3 a4 a5 a6 a7 a8 = some (x, S1) := H
  unfold b_X12_patchRows_32 at H
  refine GA.iload dX12_patchRows_32 rfl ?_
  obtain ⟨hg1, H⟩ := gg_e H
  refine GV.if_lt (tgt := 210) hg1 dX12_patchRows_34 (by decide) (fun c2 => ?_) (fun c2 => ?_)
  · have H := it_t H c2
    obtain ⟨x3, hx4, H⟩ := gv_e H
    refine GV.iinc hx4 dX12_patchRows_210 rfl (by decide) ?_
    refine GA.goto (tgt := 23) dX12_patchRows_213 (by decide) ?_
    refine GA.locals [(0, .ref (L 500)), (1, .int (J a1)), (2, .int (J a2)), (3, .int (J a3)), (4, .int (J a4)), (5, .int (J a5)), (6, .int (J a6)), (7, .int (J x3))] ⟨rfl, rfl, rfl, rfl, rfl, rfl, rfl, rfl, trivial⟩ ?_
    exact ih_X12_patchRows_23 hL _ _ (a1) (a2) (a3) (a4) (a5) (a6) (x3) _ _ H
  · have H := it_f H c2
    refine GA.iconst dX12_patchRows_37 ?_
    refine GA.istore dX12_patchRows_38 (by decide) ?_
    refine GA.iload dX12_patchRows_40 rfl ?_
    refine GA.iload dX12_patchRows_42 rfl ?_
    obtain ⟨hg5, H⟩ := gg_e H
    obtain ⟨hg6, H⟩ := gg_e H
    refine GV.icmp_ge (tgt := 189) hg5 hg6 dX12_patchRows_44 (by decide) (fun c7 => ?_) (fun c7 => ?_)
    · have H := it_t H c7
      refine GA.locals [(0, .ref (L 500)), (1, .int (J a1)), (2, .int (J a2)), (3, .int (J a3)), (4, .int (J a4)), (5, .int (J a5)), (6, .int (J a6)), (7, .int (J a7)), (8, .int (J a8)), (9, .int (J 0))] ⟨rfl, rfl, rfl, rfl, rfl, rfl, rfl, rfl, rfl, rfl, trivial⟩ ?_
      exact ih_X12_patchRows_189 hL _ _ (a1) (a2) (a3) (a4) (a5) (a6) (a7) (a8) (0) _ _ H
    · have H := it_f H c7
      refine GA.iload dX12_patchRows_47 rfl ?_
      refine GA.iload dX12_patchRows_49 rfl ?_
      obtain ⟨hg8, H⟩ := gg_e H
      refine GV.icmp_ge (tgt := 189) hg1 hg8 dX12_patchRows_51 (by decide) (fun c9 => ?_) (fun c9 => ?_)
      · have H := it_t H c9
        refine GA.locals [(0, .ref (L 500)), (1, .int (J a1)), (2, .int (J a2)), (3, .int (J a3)), (4, .int (J a4)), (5, .int (J a5)), (6, .int (J a6)), (7, .int (J a7)), (8, .int (J a8)), (9, .int (J 0))] ⟨rfl, rfl, rfl, rfl, rfl, rfl, rfl, rfl, rfl, rfl, trivial⟩ ?_
        exact ih_X12_patchRows_189 hL _ _ (a1) (a2) (a3) (a4) (a5) (a6) (a7) (a8) (0) _ _ H
      · have H := it_f H c9
        refine GA.aload_n dX12_patchRows_54 rfl ?_
        refine GA.iload_n dX12_patchRows_55 rfl ?_
        refine GA.aload_n dX12_patchRows_56 rfl ?_
        refine GA.iload_n dX12_patchRows_57 rfl ?_
        refine GA.iload_n dX12_patchRows_58 rfl ?_
        refine GA.iload dX12_patchRows_59 rfl ?_
        obtain ⟨hg10, H⟩ := gg_e H
        obtain ⟨x11, S_12, hc13, H⟩ := gc_e H
        refine GA.callV (m_X12_childAt hL hc13) xs_X12_616 dX12_patchRows_61 (gs_500 hL) (by decide) rfl rfl (by omega) (by decide) rfl (Nat.le_of_ble_eq_true rfl) (by omega) (by omega) rfl (fun E S9 hx => hx.elim) (fun v S9 hq => ?_)
        obtain ⟨rfl, rfl⟩ := hq
        refine GA.iload_n dX12_patchRows_64 rfl ?_
        refine GA.aload_n dX12_patchRows_65 rfl ?_
        refine GA.iload_n dX12_patchRows_66 rfl ?_
        refine GA.iload dX12_patchRows_67 rfl ?_
        refine GA.iload dX12_patchRows_69 rfl ?_
        obtain ⟨x14, S_15, hc16, H⟩ := gc_e H
        refine GA.callV (m_X12_childAt hL hc16) xs_X12_616 dX12_patchRows_71 (gs_500 hL) (by decide) rfl rfl (by omega) (by decide) rfl (Nat.le_of_ble_eq_true rfl) (by omega) (by omega) rfl (fun E S9 hx => hx.elim) (fun v S9 hq => ?_)
        obtain ⟨rfl, rfl⟩ := hq
        obtain ⟨x17, S_18, hc19, H⟩ := gc_e H
        refine GA.callV (m_X12_areEqual hL hc19) xs_X12_590 dX12_patchRows_74 (gs_500 hL) (by decide) rfl rfl (by omega) (by decide) rfl (Nat.le_of_ble_eq_true rfl) (by omega) (by omega) rfl (fun E S9 hx => hx.elim) (fun v S9 hq => ?_)
        obtain ⟨rfl, rfl⟩ := hq
        obtain ⟨hg20, H⟩ := gg_e H
        refine GV.if_eq (tgt := 102) hg20 dX12_patchRows_77 (by decide) (fun c21 => ?_) (fun c21 => ?_)
        · have H := it_t H c21
          refine GA.iconst dX12_patchRows_102 ?_
          refine GA.locals [(0, .ref (L 500)), (1, .int (J a1)), (2, .int (J a2)), (3, .int (J a3)), (4, .int (J a4)), (5, .int (J a5)), (6, .int (J a6)), (7, .int (J a7)), (8, .int (J a8))] ⟨rfl, rfl, rfl, rfl, rfl, rfl, rfl, rfl, rfl, trivial⟩ ?_
          exact ih_X12_patchRows_103 hL _ _ (a1) (a2) (a3) (a4) (a5) (a6) (a7) (a8) (0) _ _ H
        · have H := it_f H c21
          refine GA.aload_n dX12_patchRows_80 rfl ?_
          refine GA.get xf_X12_303 dX12_patchRows_81 (gs_500 hL) (by decide) rfl ?_
          refine GA.bipush dX12_patchRows_84 rfl ?_
          refine GA.iload dX12_patchRows_86 rfl ?_
          refine GA.iconst dX12_patchRows_88 ?_
          obtain ⟨x22, hx23, H⟩ := gv_e H
          refine GV.iadd hx23 dX12_patchRows_89 ?_
          obtain ⟨x24, hx25, H⟩ := gv_e H
          refine GV.imul hx25 dX12_patchRows_90 ?_
          refine GA.iload dX12_patchRows_91 rfl ?_
          obtain ⟨x26, hx27, H⟩ := gv_e H
          refine GV.iadd hx27 dX12_patchRows_93 ?_
          refine GA.iconst dX12_patchRows_94 ?_
          obtain ⟨x28, hx29, H⟩ := gv_e H
          refine GV.iadd hx29 dX12_patchRows_95 ?_
          obtain ⟨hg30, H⟩ := gg_e H
          obtain ⟨x31, hx32, H⟩ := gv_e H
          refine GV.iald hg30 hx32 dX12_patchRows_96 (gs_523 hL) (by decide) ?_
          refine GA.iconst dX12_patchRows_97 ?_
          obtain ⟨x33, hx34, H⟩ := gv_e H
          refine GV.iadd hx34 dX12_patchRows_98 ?_
          refine GA.goto (tgt := 103) dX12_patchRows_99 (by decide) ?_
          refine GA.locals [(0, .ref (L 500)), (1, .int (J a1)), (2, .int (J a2)), (3, .int (J a3)), (4, .int (J a4)), (5, .int (J a5)), (6, .int (J a6)), (7, .int (J a7)), (8, .int (J a8))] ⟨rfl, rfl, rfl, rfl, rfl, rfl, rfl, rfl, rfl, trivial⟩ ?_
          exact ih_X12_patchRows_103 hL _ _ (a1) (a2) (a3) (a4) (a5) (a6) (a7) (a8) (x33) _ _ H
set_option maxHeartbeats 4000000 in
set_option maxRecDepth 20000 in
theorem t_X12_patchRows_103 {l : Launch} {Z : XZ} {L : Nat → Nat} (n : Nat) (ih_X12_patchRows_0 : P_X12_patchRows_0 l Z L n) (ih_X12_patchRows_23 : P_X12_patchRows_23 l Z L n) (ih_X12_patchRows_32 : P_X12_patchRows_32 l Z L n) (ih_X12_patchRows_103 : P_X12_patchRows_103 l Z L n) (ih_X12_patchRows_145 : P_X12_patchRows_145 l Z L n) (ih_X12_patchRows_189 : P_X12_patchRows_189 l Z L n) (ih_X12_patchRows_219 : P_X12_patchRows_219 l Z L n) (ih_X12_patchRows_254 : P_X12_patchRows_254 l Z L n) (ih_X12_patchRows_368 : P_X12_patchRows_368 l Z L n) (ih_X12_patchRows_414 : P_X12_patchRows_414 l Z L n) : P_X12_patchRows_103 l Z L (n + 1) := by
  intro hL d S a1 a2 a3 a4 a5 a6 a7 a8 s0 x S1 H
  have H : b_X12_patchRows_103 n d (f_X12_patchRows n) S a1 a2 a3 a4 a5 a6 a7 a8 s0 = some (x, S1) := H
  unfold b_X12_patchRows_103 at H
  refine GA.istore dX12_patchRows_103 (by decide) ?_
  refine GA.aload_n dX12_patchRows_105 rfl ?_
  refine GA.get xf_X12_303 dX12_patchRows_106 (gs_500 hL) (by decide) rfl ?_
  refine GA.bipush dX12_patchRows_109 rfl ?_
  refine GA.iload dX12_patchRows_111 rfl ?_
  refine GA.iconst dX12_patchRows_113 ?_
  obtain ⟨x1, hx2, H⟩ := gv_e H
  refine GV.iadd hx2 dX12_patchRows_114 ?_
  obtain ⟨x3, hx4, H⟩ := gv_e H
  refine GV.imul hx4 dX12_patchRows_115 ?_
  refine GA.iload dX12_patchRows_116 rfl ?_
  obtain ⟨x5, hx6, H⟩ := gv_e H
  refine GV.iadd hx6 dX12_patchRows_118 ?_
  obtain ⟨hg7, H⟩ := gg_e H
  obtain ⟨x8, hx9, H⟩ := gv_e H
  refine GV.iald hg7 hx9 dX12_patchRows_119 (gs_523 hL) (by decide) ?_
  refine GA.iload dX12_patchRows_120 rfl ?_
  obtain ⟨hg10, H⟩ := gg_e H
  obtain ⟨hg11, H⟩ := gg_e H
  refine GV.icmp_le (tgt := 143) hg10 hg11 dX12_patchRows_122 (by decide) (fun c12 => ?_) (fun c12 => ?_)
  · have H := it_t H c12
    refine GA.iload dX12_patchRows_143 rfl ?_
    refine GA.locals [(0, .ref (L 500)), (1, .int (J a1)), (2, .int (J a2)), (3, .int (J a3)), (4, .int (J a4)), (5, .int (J a5)), (6, .int (J a6)), (7, .int (J a7)), (8, .int (J a8))] ⟨rfl, rfl, rfl, rfl, rfl, rfl, rfl, rfl, rfl, trivial⟩ ?_
    exact ih_X12_patchRows_145 hL _ _ (a1) (a2) (a3) (a4) (a5) (a6) (a7) (a8) (s0) _ _ H
  · have H := it_f H c12
    refine GA.aload_n dX12_patchRows_125 rfl ?_
    refine GA.get xf_X12_303 dX12_patchRows_126 (gs_500 hL) (by decide) rfl ?_
    refine GA.bipush dX12_patchRows_129 rfl ?_
    refine GA.iload dX12_patchRows_131 rfl ?_
    refine GA.iconst dX12_patchRows_133 ?_
    obtain ⟨x13, hx14, H⟩ := gv_e H
    refine GV.iadd hx14 dX12_patchRows_134 ?_
    obtain ⟨x15, hx16, H⟩ := gv_e H
    refine GV.imul hx16 dX12_patchRows_135 ?_
    refine GA.iload dX12_patchRows_136 rfl ?_
    obtain ⟨x17, hx18, H⟩ := gv_e H
    refine GV.iadd hx18 dX12_patchRows_138 ?_
    obtain ⟨hg19, H⟩ := gg_e H
    obtain ⟨x20, hx21, H⟩ := gv_e H
    refine GV.iald hg19 hx21 dX12_patchRows_139 (gs_523 hL) (by decide) ?_
    refine GA.goto (tgt := 145) dX12_patchRows_140 (by decide) ?_
    refine GA.locals [(0, .ref (L 500)), (1, .int (J a1)), (2, .int (J a2)), (3, .int (J a3)), (4, .int (J a4)), (5, .int (J a5)), (6, .int (J a6)), (7, .int (J a7)), (8, .int (J a8))] ⟨rfl, rfl, rfl, rfl, rfl, rfl, rfl, rfl, rfl, trivial⟩ ?_
    exact ih_X12_patchRows_145 hL _ _ (a1) (a2) (a3) (a4) (a5) (a6) (a7) (a8) (x20) _ _ H
set_option maxHeartbeats 4000000 in
set_option maxRecDepth 20000 in
theorem t_X12_patchRows_145 {l : Launch} {Z : XZ} {L : Nat → Nat} (n : Nat) (ih_X12_patchRows_0 : P_X12_patchRows_0 l Z L n) (ih_X12_patchRows_23 : P_X12_patchRows_23 l Z L n) (ih_X12_patchRows_32 : P_X12_patchRows_32 l Z L n) (ih_X12_patchRows_103 : P_X12_patchRows_103 l Z L n) (ih_X12_patchRows_145 : P_X12_patchRows_145 l Z L n) (ih_X12_patchRows_189 : P_X12_patchRows_189 l Z L n) (ih_X12_patchRows_219 : P_X12_patchRows_219 l Z L n) (ih_X12_patchRows_254 : P_X12_patchRows_254 l Z L n) (ih_X12_patchRows_368 : P_X12_patchRows_368 l Z L n) (ih_X12_patchRows_414 : P_X12_patchRows_414 l Z L n) : P_X12_patchRows_145 l Z L (n + 1) := by
  intro hL d S a1 a2 a3 a4 a5 a6 a7 a8 s0 x S1 H
  have H : b_X12_patchRows_145 n d (f_X12_patchRows n) S a1 a2 a3 a4 a5 a6 a7 a8 s0 = some (x, S1) := H
  unfold b_X12_patchRows_145 at H
  refine GA.istore dX12_patchRows_145 (by decide) ?_
  refine GA.aload_n dX12_patchRows_147 rfl ?_
  refine GA.get xf_X12_303 dX12_patchRows_148 (gs_500 hL) (by decide) rfl ?_
  refine GA.bipush dX12_patchRows_151 rfl ?_
  refine GA.iload dX12_patchRows_153 rfl ?_
  obtain ⟨x1, hx2, H⟩ := gv_e H
  refine GV.imul hx2 dX12_patchRows_155 ?_
  refine GA.iload dX12_patchRows_156 rfl ?_
  obtain ⟨x3, hx4, H⟩ := gv_e H
  refine GV.iadd hx4 dX12_patchRows_158 ?_
  refine GA.iconst dX12_patchRows_159 ?_
  obtain ⟨x5, hx6, H⟩ := gv_e H
  refine GV.iadd hx6 dX12_patchRows_160 ?_
  obtain ⟨hg7, H⟩ := gg_e H
  obtain ⟨x8, hx9, H⟩ := gv_e H
  refine GV.iald hg7 hx9 dX12_patchRows_161 (gs_523 hL) (by decide) ?_
  refine GA.iload dX12_patchRows_162 rfl ?_
  obtain ⟨hg10, H⟩ := gg_e H
  obtain ⟨hg11, H⟩ := gg_e H
  refine GV.icmp_le (tgt := 185) hg10 hg11 dX12_patchRows_164 (by decide) (fun c12 => ?_) (fun c12 => ?_)
  · have H := it_t H c12
    refine GA.iload dX12_patchRows_185 rfl ?_
    refine GA.istore dX12_patchRows_187 (by decide) ?_
    refine GA.locals [(0, .ref (L 500)), (1, .int (J a1)), (2, .int (J a2)), (3, .int (J a3)), (4, .int (J a4)), (5, .int (J a5)), (6, .int (J a6)), (7, .int (J a7)), (8, .int (J a8)), (9, .int (J s0))] ⟨rfl, rfl, rfl, rfl, rfl, rfl, rfl, rfl, rfl, rfl, trivial⟩ ?_
    exact ih_X12_patchRows_189 hL _ _ (a1) (a2) (a3) (a4) (a5) (a6) (a7) (a8) (s0) _ _ H
  · have H := it_f H c12
    refine GA.aload_n dX12_patchRows_167 rfl ?_
    refine GA.get xf_X12_303 dX12_patchRows_168 (gs_500 hL) (by decide) rfl ?_
    refine GA.bipush dX12_patchRows_171 rfl ?_
    refine GA.iload dX12_patchRows_173 rfl ?_
    obtain ⟨x13, hx14, H⟩ := gv_e H
    refine GV.imul hx14 dX12_patchRows_175 ?_
    refine GA.iload dX12_patchRows_176 rfl ?_
    obtain ⟨x15, hx16, H⟩ := gv_e H
    refine GV.iadd hx16 dX12_patchRows_178 ?_
    refine GA.iconst dX12_patchRows_179 ?_
    obtain ⟨x17, hx18, H⟩ := gv_e H
    refine GV.iadd hx18 dX12_patchRows_180 ?_
    obtain ⟨hg19, H⟩ := gg_e H
    obtain ⟨x20, hx21, H⟩ := gv_e H
    refine GV.iald hg19 hx21 dX12_patchRows_181 (gs_523 hL) (by decide) ?_
    refine GA.goto (tgt := 187) dX12_patchRows_182 (by decide) ?_
    refine GA.istore dX12_patchRows_187 (by decide) ?_
    refine GA.locals [(0, .ref (L 500)), (1, .int (J a1)), (2, .int (J a2)), (3, .int (J a3)), (4, .int (J a4)), (5, .int (J a5)), (6, .int (J a6)), (7, .int (J a7)), (8, .int (J a8)), (9, .int (J x20))] ⟨rfl, rfl, rfl, rfl, rfl, rfl, rfl, rfl, rfl, rfl, trivial⟩ ?_
    exact ih_X12_patchRows_189 hL _ _ (a1) (a2) (a3) (a4) (a5) (a6) (a7) (a8) (x20) _ _ H
set_option maxHeartbeats 4000000 in
set_option maxRecDepth 20000 in
theorem t_X12_patchRows_189 {l : Launch} {Z : XZ} {L : Nat → Nat} (n : Nat) (ih_X12_patchRows_0 : P_X12_patchRows_0 l Z L n) (ih_X12_patchRows_23 : P_X12_patchRows_23 l Z L n) (ih_X12_patchRows_32 : P_X12_patchRows_32 l Z L n) (ih_X12_patchRows_103 : P_X12_patchRows_103 l Z L n) (ih_X12_patchRows_145 : P_X12_patchRows_145 l Z L n) (ih_X12_patchRows_189 : P_X12_patchRows_189 l Z L n) (ih_X12_patchRows_219 : P_X12_patchRows_219 l Z L n) (ih_X12_patchRows_254 : P_X12_patchRows_254 l Z L n) (ih_X12_patchRows_368 : P_X12_patchRows_368 l Z L n) (ih_X12_patchRows_414 : P_X12_patchRows_414 l Z L n) : P_X12_patchRows_189 l Z L (n + 1) := by
  intro hL d S a1 a2 a3 a4 a5 a6 a7 a8 a9 x S1 H
  have H : b_X12_patchRows_189 n d (f_X12_patchRows n) S a1 a2 a3 a4 a5 a6 a7 a8 a9 = some (x, S1) := H
  unfold b_X12_patchRows_189 at H
  refine GA.aload_n dX12_patchRows_189 rfl ?_
  refine GA.get xf_X12_303 dX12_patchRows_190 (gs_500 hL) (by decide) rfl ?_
  refine GA.bipush dX12_patchRows_193 rfl ?_
  refine GA.iload dX12_patchRows_195 rfl ?_
  obtain ⟨x1, hx2, H⟩ := gv_e H
  refine GV.imul hx2 dX12_patchRows_197 ?_
  refine GA.iload dX12_patchRows_198 rfl ?_
  obtain ⟨x3, hx4, H⟩ := gv_e H
  refine GV.iadd hx4 dX12_patchRows_200 ?_
  refine GA.iload dX12_patchRows_201 rfl ?_
  obtain ⟨hg5, H⟩ := gg_e H
  obtain ⟨S_6, hx7, H⟩ := gv_e H
  refine GV.iast hg5 hx7 dX12_patchRows_203 (fun _ => (gs_523 hL)) (by decide) ?_
  obtain ⟨x8, hx9, H⟩ := gv_e H
  refine GV.iinc hx9 dX12_patchRows_204 rfl (by decide) ?_
  refine GA.goto (tgt := 32) dX12_patchRows_207 (by decide) ?_
  refine GA.locals [(0, .ref (L 500)), (1, .int (J a1)), (2, .int (J a2)), (3, .int (J a3)), (4, .int (J a4)), (5, .int (J a5)), (6, .int (J a6)), (7, .int (J a7)), (8, .int (J x8))] ⟨rfl, rfl, rfl, rfl, rfl, rfl, rfl, rfl, rfl, trivial⟩ ?_
  exact ih_X12_patchRows_32 hL _ _ (a1) (a2) (a3) (a4) (a5) (a6) (a7) (x8) _ _ H
set_option maxHeartbeats 4000000 in
set_option maxRecDepth 20000 in
theorem t_X12_patchRows_219 {l : Launch} {Z : XZ} {L : Nat → Nat} (n : Nat) (ih_X12_patchRows_0 : P_X12_patchRows_0 l Z L n) (ih_X12_patchRows_23 : P_X12_patchRows_23 l Z L n) (ih_X12_patchRows_32 : P_X12_patchRows_32 l Z L n) (ih_X12_patchRows_103 : P_X12_patchRows_103 l Z L n) (ih_X12_patchRows_145 : P_X12_patchRows_145 l Z L n) (ih_X12_patchRows_189 : P_X12_patchRows_189 l Z L n) (ih_X12_patchRows_219 : P_X12_patchRows_219 l Z L n) (ih_X12_patchRows_254 : P_X12_patchRows_254 l Z L n) (ih_X12_patchRows_368 : P_X12_patchRows_368 l Z L n) (ih_X12_patchRows_414 : P_X12_patchRows_414 l Z L n) : P_X12_patchRows_219 l Z L (n + 1) := by
  intro hL d S a1 a2 a3 a4 a5 a6 a7 x S1 H
  have H : b_X12_patchRows_219 n d (f_X12_patchRows n) S a1 a2 a3 a4 a5 a6 a7 = some (x, S1) := H
  unfold b_X12_patchRows_219 at H
  refine GA.iload dX12_patchRows_219 rfl ?_
  refine GA.bipush dX12_patchRows_221 rfl ?_
  obtain ⟨hg1, H⟩ := gg_e H
  refine GV.icmp_ge (tgt := 248) hg1 (by decide) dX12_patchRows_223 (by decide) (fun c2 => ?_) (fun c2 => ?_)
  · have H := it_t H c2
    refine GA.iconst dX12_patchRows_248 ?_
    refine GA.istore dX12_patchRows_249 (by decide) ?_
    refine GA.iconst dX12_patchRows_251 ?_
    refine GA.istore dX12_patchRows_252 (by decide) ?_
    refine GA.locals [(0, .ref (L 500)), (1, .int (J a1)), (2, .int (J a2)), (3, .int (J a3)), (4, .int (J a4)), (5, .int (J a5)), (6, .int (J a6)), (7, .int (J 0)), (8, .int (J 0))] ⟨rfl, rfl, rfl, rfl, rfl, rfl, rfl, rfl, rfl, trivial⟩ ?_
    exact ih_X12_patchRows_254 hL _ _ (a1) (a2) (a3) (a4) (a5) (a6) (0) (0) _ _ H
  · have H := it_f H c2
    refine GA.aload_n dX12_patchRows_226 rfl ?_
    refine GA.get xf_X12_284 dX12_patchRows_227 (gs_500 hL) (by decide) rfl ?_
    refine GA.iload dX12_patchRows_230 rfl ?_
    refine GA.iconst dX12_patchRows_232 ?_
    obtain ⟨hg3, H⟩ := gg_e H
    obtain ⟨S_4, hx5, H⟩ := gv_e H
    refine GV.zast hg3 (by decide) hx5 dX12_patchRows_233 (fun _ => (gs_521 hL)) (by decide) ?_
    refine GA.aload_n dX12_patchRows_234 rfl ?_
    refine GA.get xf_X12_306 dX12_patchRows_235 (gs_500 hL) (by decide) rfl ?_
    refine GA.iload dX12_patchRows_238 rfl ?_
    refine GA.iconst dX12_patchRows_240 ?_
    obtain ⟨S_6, hx7, H⟩ := gv_e H
    refine GV.zast hg3 (by decide) hx7 dX12_patchRows_241 (fun _ => (gs_524 hL)) (by decide) ?_
    obtain ⟨x8, hx9, H⟩ := gv_e H
    refine GV.iinc hx9 dX12_patchRows_242 rfl (by decide) ?_
    refine GA.goto (tgt := 219) dX12_patchRows_245 (by decide) ?_
    refine GA.locals [(0, .ref (L 500)), (1, .int (J a1)), (2, .int (J a2)), (3, .int (J a3)), (4, .int (J a4)), (5, .int (J a5)), (6, .int (J a6)), (7, .int (J x8))] ⟨rfl, rfl, rfl, rfl, rfl, rfl, rfl, rfl, trivial⟩ ?_
    exact ih_X12_patchRows_219 hL _ _ (a1) (a2) (a3) (a4) (a5) (a6) (x8) _ _ H
set_option maxHeartbeats 4000000 in
set_option maxRecDepth 20000 in
theorem t_X12_patchRows_254 {l : Launch} {Z : XZ} {L : Nat → Nat} (n : Nat) (ih_X12_patchRows_0 : P_X12_patchRows_0 l Z L n) (ih_X12_patchRows_23 : P_X12_patchRows_23 l Z L n) (ih_X12_patchRows_32 : P_X12_patchRows_32 l Z L n) (ih_X12_patchRows_103 : P_X12_patchRows_103 l Z L n) (ih_X12_patchRows_145 : P_X12_patchRows_145 l Z L n) (ih_X12_patchRows_189 : P_X12_patchRows_189 l Z L n) (ih_X12_patchRows_219 : P_X12_patchRows_219 l Z L n) (ih_X12_patchRows_254 : P_X12_patchRows_254 l Z L n) (ih_X12_patchRows_368 : P_X12_patchRows_368 l Z L n) (ih_X12_patchRows_414 : P_X12_patchRows_414 l Z L n) : P_X12_patchRows_254 l Z L (n + 1) := by
  intro hL d S a1 a2 a3 a4 a5 a6 a7 a8 x S1 H
  have H : b_X12_patchRows_254 n d (f_X12_patchRows n) S a1 a2 a3 a4 a5 a6 a7 a8 = some (x, S1) := H
  unfold b_X12_patchRows_254 at H
  refine GA.iload dX12_patchRows_254 rfl ?_
  refine GA.iload dX12_patchRows_256 rfl ?_
  obtain ⟨hg1, H⟩ := gg_e H
  obtain ⟨hg2, H⟩ := gg_e H
  refine GV.icmp_ge (tgt := 362) hg1 hg2 dX12_patchRows_258 (by decide) (fun c3 => ?_) (fun c3 => ?_)
  · have H := it_t H c3
    refine GA.iload dX12_patchRows_362 rfl ?_
    refine GA.iconst dX12_patchRows_364 ?_
    obtain ⟨x4, hx5, H⟩ := gv_e H
    refine GV.isub hx5 dX12_patchRows_365 ?_
    refine GA.istore dX12_patchRows_366 (by decide) ?_
    refine GA.locals [(0, .ref (L 500)), (1, .int (J a1)), (2, .int (J a2)), (3, .int (J a3)), (4, .int (J a4)), (6, .int (J a6)), (9, .int (J x4))] ⟨rfl, rfl, rfl, rfl, rfl, rfl, rfl, trivial⟩ ?_
    exact ih_X12_patchRows_368 hL _ _ (a1) (a2) (a3) (a4) (a6) (x4) _ _ H
  · have H := it_f H c3
    refine GA.iload dX12_patchRows_261 rfl ?_
    refine GA.iload dX12_patchRows_263 rfl ?_
    obtain ⟨hg6, H⟩ := gg_e H
    obtain ⟨hg7, H⟩ := gg_e H
    refine GV.icmp_ge (tgt := 362) hg6 hg7 dX12_patchRows_265 (by decide) (fun c8 => ?_) (fun c8 => ?_)
    · have H := it_t H c8
      refine GA.iload dX12_patchRows_362 rfl ?_
      refine GA.iconst dX12_patchRows_364 ?_
      obtain ⟨x9, hx10, H⟩ := gv_e H
      refine GV.isub hx10 dX12_patchRows_365 ?_
      refine GA.istore dX12_patchRows_366 (by decide) ?_
      refine GA.locals [(0, .ref (L 500)), (1, .int (J a1)), (2, .int (J a2)), (3, .int (J a3)), (4, .int (J a4)), (6, .int (J a6)), (9, .int (J x9))] ⟨rfl, rfl, rfl, rfl, rfl, rfl, rfl, trivial⟩ ?_
      exact ih_X12_patchRows_368 hL _ _ (a1) (a2) (a3) (a4) (a6) (x9) _ _ H
    · have H := it_f H c8
      refine GA.aload_n dX12_patchRows_268 rfl ?_
      refine GA.iload_n dX12_patchRows_269 rfl ?_
      refine GA.aload_n dX12_patchRows_270 rfl ?_
      refine GA.iload_n dX12_patchRows_271 rfl ?_
      refine GA.iload_n dX12_patchRows_272 rfl ?_
      refine GA.iload dX12_patchRows_273 rfl ?_
      obtain ⟨hg11, H⟩ := gg_e H
      obtain ⟨x12, S_13, hc14, H⟩ := gc_e H
      refine GA.callV (m_X12_childAt hL hc14) xs_X12_616 dX12_patchRows_275 (gs_500 hL) (by decide) rfl rfl (by omega) (by decide) rfl (Nat.le_of_ble_eq_true rfl) (by omega) (by omega) rfl (fun E S9 hx => hx.elim) (fun v S9 hq => ?_)
      obtain ⟨rfl, rfl⟩ := hq
      refine GA.iload_n dX12_patchRows_278 rfl ?_
      refine GA.aload_n dX12_patchRows_279 rfl ?_
      refine GA.iload_n dX12_patchRows_280 rfl ?_
      refine GA.iload dX12_patchRows_281 rfl ?_
      refine GA.iload dX12_patchRows_283 rfl ?_
      obtain ⟨x15, S_16, hc17, H⟩ := gc_e H
      refine GA.callV (m_X12_childAt hL hc17) xs_X12_616 dX12_patchRows_285 (gs_500 hL) (by decide) rfl rfl (by omega) (by decide) rfl (Nat.le_of_ble_eq_true rfl) (by omega) (by omega) rfl (fun E S9 hx => hx.elim) (fun v S9 hq => ?_)
      obtain ⟨rfl, rfl⟩ := hq
      obtain ⟨x18, S_19, hc20, H⟩ := gc_e H
      refine GA.callV (m_X12_areEqual hL hc20) xs_X12_590 dX12_patchRows_288 (gs_500 hL) (by decide) rfl rfl (by omega) (by decide) rfl (Nat.le_of_ble_eq_true rfl) (by omega) (by omega) rfl (fun E S9 hx => hx.elim) (fun v S9 hq => ?_)
      obtain ⟨rfl, rfl⟩ := hq
      obtain ⟨hg21, H⟩ := gg_e H
      refine GV.if_eq (tgt := 319) hg21 dX12_patchRows_291 (by decide) (fun c22 => ?_) (fun c22 => ?_)
      · have H := it_t H c22
        refine GA.aload_n dX12_patchRows_319 rfl ?_
        refine GA.get xf_X12_303 dX12_patchRows_320 (gs_500 hL) (by decide) rfl ?_
        refine GA.bipush dX12_patchRows_323 rfl ?_
        refine GA.iload dX12_patchRows_325 rfl ?_
        refine GA.iconst dX12_patchRows_327 ?_
        obtain ⟨x23, hx24, H⟩ := gv_e H
        refine GV.iadd hx24 dX12_patchRows_328 ?_
        obtain ⟨x25, hx26, H⟩ := gv_e H
        refine GV.imul hx26 dX12_patchRows_329 ?_
        refine GA.iload dX12_patchRows_330 rfl ?_
        obtain ⟨x27, hx28, H⟩ := gv_e H
        refine GV.iadd hx28 dX12_patchRows_332 ?_
        obtain ⟨hg29, H⟩ := gg_e H
        obtain ⟨x30, hx31, H⟩ := gv_e H
        refine GV.iald hg29 hx31 dX12_patchRows_333 (gs_523 hL) (by decide) ?_
        refine GA.aload_n dX12_patchRows_334 rfl ?_
        refine GA.get xf_X12_303 dX12_patchRows_335 (gs_500 hL) (by decide) rfl ?_
        refine GA.bipush dX12_patchRows_338 rfl ?_
        refine GA.iload dX12_patchRows_340 rfl ?_
        obtain ⟨x32, hx33, H⟩ := gv_e H
        refine GV.imul hx33 dX12_patchRows_342 ?_
        refine GA.iload dX12_patchRows_343 rfl ?_
        obtain ⟨x34, hx35, H⟩ := gv_e H
        refine GV.iadd hx35 dX12_patchRows_345 ?_
        obtain ⟨hg36, H⟩ := gg_e H
        obtain ⟨x37, hx38, H⟩ := gv_e H
        refine GV.iald hg36 hx38 dX12_patchRows_346 (gs_523 hL) (by decide) ?_
        obtain ⟨hg39, H⟩ := gg_e H
        obtain ⟨hg40, H⟩ := gg_e H
        refine GV.icmp_ne (tgt := 356) hg39 hg40 dX12_patchRows_347 (by decide) (fun c41 => ?_) (fun c41 => ?_)
        · have H := it_t H c41
          obtain ⟨x42, hx43, H⟩ := gv_e H
          refine GV.iinc hx43 dX12_patchRows_356 rfl (by decide) ?_
          refine GA.goto (tgt := 254) dX12_patchRows_359 (by decide) ?_
          refine GA.locals [(0, .ref (L 500)), (1, .int (J a1)), (2, .int (J a2)), (3, .int (J a3)), (4, .int (J a4)), (5, .int (J a5)), (6, .int (J a6)), (7, .int (J a7)), (8, .int (J x42))] ⟨rfl, rfl, rfl, rfl, rfl, rfl, rfl, rfl, rfl, trivial⟩ ?_
          exact ih_X12_patchRows_254 hL _ _ (a1) (a2) (a3) (a4) (a5) (a6) (a7) (x42) _ _ H
        · have H := it_f H c41
          obtain ⟨x44, hx45, H⟩ := gv_e H
          refine GV.iinc hx45 dX12_patchRows_350 rfl (by decide) ?_
          refine GA.goto (tgt := 254) dX12_patchRows_353 (by decide) ?_
          refine GA.locals [(0, .ref (L 500)), (1, .int (J a1)), (2, .int (J a2)), (3, .int (J a3)), (4, .int (J a4)), (5, .int (J a5)), (6, .int (J a6)), (7, .int (J x44)), (8, .int (J a8))] ⟨rfl, rfl, rfl, rfl, rfl, rfl, rfl, rfl, rfl, trivial⟩ ?_
          exact ih_X12_patchRows_254 hL _ _ (a1) (a2) (a3) (a4) (a5) (a6) (x44) (a8) _ _ H
      · have H := it_f H c22
        refine GA.aload_n dX12_patchRows_294 rfl ?_
        refine GA.get xf_X12_284 dX12_patchRows_295 (gs_500 hL) (by decide) rfl ?_
        refine GA.iload dX12_patchRows_298 rfl ?_
        refine GA.iconst dX12_patchRows_300 ?_
        obtain ⟨hg46, H⟩ := gg_e H
        obtain ⟨S_47, hx48, H⟩ := gv_e H
        refine GV.zast hg46 (by decide) hx48 dX12_patchRows_301 (fun _ => (gs_521 hL)) (by decide) ?_
        refine GA.aload_n dX12_patchRows_302 rfl ?_
        refine GA.get xf_X12_306 dX12_patchRows_303 (gs_500 hL) (by decide) rfl ?_
        refine GA.iload dX12_patchRows_306 rfl ?_
        refine GA.iconst dX12_patchRows_308 ?_
        obtain ⟨hg49, H⟩ := gg_e H
        obtain ⟨S_50, hx51, H⟩ := gv_e H
        refine GV.zast hg49 (by decide) hx51 dX12_patchRows_309 (fun _ => (gs_524 hL)) (by decide) ?_
        obtain ⟨x52, hx53, H⟩ := gv_e H
        refine GV.iinc hx53 dX12_patchRows_310 rfl (by decide) ?_
        obtain ⟨x54, hx55, H⟩ := gv_e H
        refine GV.iinc hx55 dX12_patchRows_313 rfl (by decide) ?_
        refine GA.goto (tgt := 254) dX12_patchRows_316 (by decide) ?_
        refine GA.locals [(0, .ref (L 500)), (1, .int (J a1)), (2, .int (J a2)), (3, .int (J a3)), (4, .int (J a4)), (5, .int (J a5)), (6, .int (J a6)), (7, .int (J x52)), (8, .int (J x54))] ⟨rfl, rfl, rfl, rfl, rfl, rfl, rfl, rfl, rfl, trivial⟩ ?_
        exact ih_X12_patchRows_254 hL _ _ (a1) (a2) (a3) (a4) (a5) (a6) (x52) (x54) _ _ H
set_option maxHeartbeats 4000000 in
set_option maxRecDepth 20000 in
theorem t_X12_patchRows_368 {l : Launch} {Z : XZ} {L : Nat → Nat} (n : Nat) (ih_X12_patchRows_0 : P_X12_patchRows_0 l Z L n) (ih_X12_patchRows_23 : P_X12_patchRows_23 l Z L n) (ih_X12_patchRows_32 : P_X12_patchRows_32 l Z L n) (ih_X12_patchRows_103 : P_X12_patchRows_103 l Z L n) (ih_X12_patchRows_145 : P_X12_patchRows_145 l Z L n) (ih_X12_patchRows_189 : P_X12_patchRows_189 l Z L n) (ih_X12_patchRows_219 : P_X12_patchRows_219 l Z L n) (ih_X12_patchRows_254 : P_X12_patchRows_254 l Z L n) (ih_X12_patchRows_368 : P_X12_patchRows_368 l Z L n) (ih_X12_patchRows_414 : P_X12_patchRows_414 l Z L n) : P_X12_patchRows_368 l Z L (n + 1) := by
  intro hL d S a1 a2 a3 a4 a6 a9 x S1 H
  have H : b_X12_patchRows_368 n d (f_X12_patchRows n) S a1 a2 a3 a4 a6 a9 = some (x, S1) := H
  unfold b_X12_patchRows_368 at H
  refine GA.iload dX12_patchRows_368 rfl ?_
  obtain ⟨hg1, H⟩ := gg_e H
  refine GV.if_lt (tgt := 411) hg1 dX12_patchRows_370 (by decide) (fun c2 => ?_) (fun c2 => ?_)
  · have H := it_t H c2
    refine GA.iconst dX12_patchRows_411 ?_
    refine GA.istore dX12_patchRows_412 (by decide) ?_
    refine GA.locals [(0, .ref (L 500)), (1, .int (J a1)), (2, .int (J a2)), (3, .int (J a3)), (4, .int (J a4)), (6, .int (J a6)), (9, .int (J 0))] ⟨rfl, rfl, rfl, rfl, rfl, rfl, rfl, trivial⟩ ?_
    exact ih_X12_patchRows_414 hL _ _ (a1) (a2) (a3) (a4) (a6) (0) _ _ H
  · have H := it_f H c2
    refine GA.aload_n dX12_patchRows_373 rfl ?_
    refine GA.get xf_X12_284 dX12_patchRows_374 (gs_500 hL) (by decide) rfl ?_
    refine GA.iload dX12_patchRows_377 rfl ?_
    obtain ⟨hg3, H⟩ := gg_e H
    obtain ⟨x4, hx5, H⟩ := gv_e H
    refine GV.zald hg3 hx5 dX12_patchRows_379 (gs_521 hL) (by decide) ?_
    obtain ⟨hg6, H⟩ := gg_e H
    refine GV.if_ne (tgt := 405) hg6 dX12_patchRows_380 (by decide) (fun c7 => ?_) (fun c7 => ?_)
    · have H := it_t H c7
      obtain ⟨x8, hx9, H⟩ := gv_e H
      refine GV.iinc hx9 dX12_patchRows_405 rfl (by decide) ?_
      refine GA.goto (tgt := 368) dX12_patchRows_408 (by decide) ?_
      refine GA.locals [(0, .ref (L 500)), (1, .int (J a1)), (2, .int (J a2)), (3, .int (J a3)), (4, .int (J a4)), (6, .int (J a6)), (9, .int (J x8))] ⟨rfl, rfl, rfl, rfl, rfl, rfl, rfl, trivial⟩ ?_
      exact ih_X12_patchRows_368 hL _ _ (a1) (a2) (a3) (a4) (a6) (x8) _ _ H
    · have H := it_f H c7
      refine GA.aload_n dX12_patchRows_383 rfl ?_
      refine GA.iload_n dX12_patchRows_384 rfl ?_
      refine GA.aload_n dX12_patchRows_385 rfl ?_
      refine GA.iload_n dX12_patchRows_386 rfl ?_
      refine GA.iload_n dX12_patchRows_387 rfl ?_
      refine GA.iload dX12_patchRows_388 rfl ?_
      obtain ⟨hg10, H⟩ := gg_e H
      obtain ⟨x11, S_12, hc13, H⟩ := gc_e H
      refine GA.callV (m_X12_childAt hL hc13) xs_X12_616 dX12_patchRows_390 (gs_500 hL) (by decide) rfl rfl (by omega) (by decide) rfl (Nat.le_of_ble_eq_true rfl) (by omega) (by omega) rfl (fun E S9 hx => hx.elim) (fun v S9 hq => ?_)
      obtain ⟨rfl, rfl⟩ := hq
      obtain ⟨x14, S_15, hc16, H⟩ := gc_e H
      refine GA.callV (m_X12_pathOfNode hL hc16) xs_X12_720 dX12_patchRows_393 (gs_500 hL) (by decide) rfl rfl (by omega) (by decide) rfl (Nat.le_of_ble_eq_true rfl) (by omega) (by omega) rfl (fun E S9 hx => hx.elim) (fun v S9 hq => ?_)
      obtain ⟨rfl, rfl⟩ := hq
      refine GA.aload_n dX12_patchRows_396 rfl ?_
      refine GA.bipush dX12_patchRows_397 rfl ?_
      refine GA.iconst dX12_patchRows_399 ?_
      refine GA.iload_n dX12_patchRows_400 rfl ?_
      refine GA.iconst dX12_patchRows_401 ?_
      obtain ⟨x17, S_18, hc19, H⟩ := gc_e H
      refine GA.callV (m_X12_ordered hL hc19) xs_X12_723 dX12_patchRows_402 (gs_500 hL) (by decide) rfl rfl (by omega) (by decide) rfl (Nat.le_of_ble_eq_true rfl) (by omega) (by omega) rfl (fun E S9 hx => hx.elim) (fun v S9 hq => ?_)
      obtain ⟨rfl, rfl⟩ := hq
      obtain ⟨x20, hx21, H⟩ := gv_e H
      refine GV.iinc hx21 dX12_patchRows_405 rfl (by decide) ?_
      refine GA.goto (tgt := 368) dX12_patchRows_408 (by decide) ?_
      refine GA.locals [(0, .ref (L 500)), (1, .int (J a1)), (2, .int (J a2)), (3, .int (J a3)), (4, .int (J a4)), (6, .int (J a6)), (9, .int (J x20))] ⟨rfl, rfl, rfl, rfl, rfl, rfl, rfl, trivial⟩ ?_
      exact ih_X12_patchRows_368 hL _ _ (a1) (a2) (a3) (a4) (a6) (x20) _ _ H
set_option maxHeartbeats 4000000 in
set_option maxRecDepth 20000 in
theorem t_X12_patchRows_414 {l : Launch} {Z : XZ} {L : Nat → Nat} (n : Nat) (ih_X12_patchRows_0 : P_X12_patchRows_0 l Z L n) (ih_X12_patchRows_23 : P_X12_patchRows_23 l Z L n) (ih_X12_patchRows_32 : P_X12_patchRows_32 l Z L n) (ih_X12_patchRows_103 : P_X12_patchRows_103 l Z L n) (ih_X12_patchRows_145 : P_X12_patchRows_145 l Z L n) (ih_X12_patchRows_189 : P_X12_patchRows_189 l Z L n) (ih_X12_patchRows_219 : P_X12_patchRows_219 l Z L n) (ih_X12_patchRows_254 : P_X12_patchRows_254 l Z L n) (ih_X12_patchRows_368 : P_X12_patchRows_368 l Z L n) (ih_X12_patchRows_414 : P_X12_patchRows_414 l Z L n) : P_X12_patchRows_414 l Z L (n + 1) := by
  intro hL d S a1 a2 a3 a4 a6 a9 x S1 H
  have H : b_X12_patchRows_414 n d (f_X12_patchRows n) S a1 a2 a3 a4 a6 a9 = some (x, S1) := H
  unfold b_X12_patchRows_414 at H
  refine GA.iload dX12_patchRows_414 rfl ?_
  refine GA.iload dX12_patchRows_416 rfl ?_
  obtain ⟨hg1, H⟩ := gg_e H
  obtain ⟨hg2, H⟩ := gg_e H
  refine GV.icmp_ge (tgt := 466) hg1 hg2 dX12_patchRows_418 (by decide) (fun c3 => ?_) (fun c3 => ?_)
  · have H := it_t H c3
    cases H
    exact GA.vret rfl dX12_patchRows_466 (by omega) (by omega) ⟨rfl, rfl⟩
  · have H := it_f H c3
    refine GA.aload_n dX12_patchRows_421 rfl ?_
    refine GA.get xf_X12_306 dX12_patchRows_422 (gs_500 hL) (by decide) rfl ?_
    refine GA.iload dX12_patchRows_425 rfl ?_
    obtain ⟨hg4, H⟩ := gg_e H
    obtain ⟨x5, hx6, H⟩ := gv_e H
    refine GV.zald hg4 hx6 dX12_patchRows_427 (gs_524 hL) (by decide) ?_
    obtain ⟨hg7, H⟩ := gg_e H
    refine GV.if_ne (tgt := 460) hg7 dX12_patchRows_428 (by decide) (fun c8 => ?_) (fun c8 => ?_)
    · have H := it_t H c8
      obtain ⟨x9, hx10, H⟩ := gv_e H
      refine GV.iinc hx10 dX12_patchRows_460 rfl (by decide) ?_
      refine GA.goto (tgt := 414) dX12_patchRows_463 (by decide) ?_
      refine GA.locals [(0, .ref (L 500)), (1, .int (J a1)), (2, .int (J a2)), (3, .int (J a3)), (4, .int (J a4)), (6, .int (J a6)), (9, .int (J x9))] ⟨rfl, rfl, rfl, rfl, rfl, rfl, rfl, trivial⟩ ?_
      exact ih_X12_patchRows_414 hL _ _ (a1) (a2) (a3) (a4) (a6) (x9) _ _ H
    · have H := it_f H c8
      refine GA.aload_n dX12_patchRows_431 rfl ?_
      refine GA.iload_n dX12_patchRows_432 rfl ?_
      refine GA.iload_n dX12_patchRows_433 rfl ?_
      obtain ⟨hg11, H⟩ := gg_e H
      obtain ⟨x12, S_13, hc14, H⟩ := gc_e H
      refine GA.callV (m_X12_pathOfNode hL hc14) xs_X12_720 dX12_patchRows_434 (gs_500 hL) (by decide) rfl rfl (by omega) (by decide) rfl (Nat.le_of_ble_eq_true rfl) (by omega) (by omega) rfl (fun E S9 hx => hx.elim) (fun v S9 hq => ?_)
      obtain ⟨rfl, rfl⟩ := hq
      refine GA.aload_n dX12_patchRows_437 rfl ?_
      refine GA.iload dX12_patchRows_438 rfl ?_
      obtain ⟨x15, S_16, hc17, H⟩ := gc_e H
      refine GA.callV (m_X12_addsPlace hL hc17) xs_X12_726 dX12_patchRows_440 (gs_500 hL) (by decide) rfl rfl (by omega) (by decide) rfl (Nat.le_of_ble_eq_true rfl) (by omega) (by omega) rfl (fun E S9 hx => hx.elim) (fun v S9 hq => ?_)
      obtain ⟨rfl, rfl⟩ := hq
      refine GA.aload_n dX12_patchRows_443 rfl ?_
      refine GA.bipush dX12_patchRows_444 rfl ?_
      refine GA.iconst dX12_patchRows_446 ?_
      refine GA.iload_n dX12_patchRows_447 rfl ?_
      refine GA.aload_n dX12_patchRows_448 rfl ?_
      refine GA.iload_n dX12_patchRows_449 rfl ?_
      refine GA.iload dX12_patchRows_450 rfl ?_
      refine GA.iload dX12_patchRows_452 rfl ?_
      obtain ⟨x18, S_19, hc20, H⟩ := gc_e H
      refine GA.callV (m_X12_childAt hL hc20) xs_X12_616 dX12_patchRows_454 (gs_500 hL) (by decide) rfl rfl (by omega) (by decide) rfl (Nat.le_of_ble_eq_true rfl) (by omega) (by omega) rfl (fun E S9 hx => hx.elim) (fun v S9 hq => ?_)
      obtain ⟨rfl, rfl⟩ := hq
      obtain ⟨x21, S_22, hc23, H⟩ := gc_e H
      refine GA.callV (m_X12_ordered hL hc23) xs_X12_723 dX12_patchRows_457 (gs_500 hL) (by decide) rfl rfl (by omega) (by decide) rfl (Nat.le_of_ble_eq_true rfl) (by omega) (by omega) rfl (fun E S9 hx => hx.elim) (fun v S9 hq => ?_)
      obtain ⟨rfl, rfl⟩ := hq
      obtain ⟨x24, hx25, H⟩ := gv_e H
      refine GV.iinc hx25 dX12_patchRows_460 rfl (by decide) ?_
      refine GA.goto (tgt := 414) dX12_patchRows_463 (by decide) ?_
      refine GA.locals [(0, .ref (L 500)), (1, .int (J a1)), (2, .int (J a2)), (3, .int (J a3)), (4, .int (J a4)), (6, .int (J a6)), (9, .int (J x24))] ⟨rfl, rfl, rfl, rfl, rfl, rfl, rfl, trivial⟩ ?_
      exact ih_X12_patchRows_414 hL _ _ (a1) (a2) (a3) (a4) (a6) (x24) _ _ H
theorem g_X12_patchRows {l : Launch} {Z : XZ} {L : Nat → Nat} : ∀ n, P_X12_patchRows_0 l Z L n ∧ P_X12_patchRows_23 l Z L n ∧ P_X12_patchRows_32 l Z L n ∧ P_X12_patchRows_103 l Z L n ∧ P_X12_patchRows_145 l Z L n ∧ P_X12_patchRows_189 l Z L n ∧ P_X12_patchRows_219 l Z L n ∧ P_X12_patchRows_254 l Z L n ∧ P_X12_patchRows_368 l Z L n ∧ P_X12_patchRows_414 l Z L n
  | 0 => ⟨fun _ _ _ _ _ _ _ _ _ H => no_e H, fun _ _ _ _ _ _ _ _ _ _ _ _ H => no_e H, fun _ _ _ _ _ _ _ _ _ _ _ _ _ H => no_e H, fun _ _ _ _ _ _ _ _ _ _ _ _ _ _ H => no_e H, fun _ _ _ _ _ _ _ _ _ _ _ _ _ _ H => no_e H, fun _ _ _ _ _ _ _ _ _ _ _ _ _ _ H => no_e H, fun _ _ _ _ _ _ _ _ _ _ _ _ H => no_e H, fun _ _ _ _ _ _ _ _ _ _ _ _ _ H => no_e H, fun _ _ _ _ _ _ _ _ _ _ _ H => no_e H, fun _ _ _ _ _ _ _ _ _ _ _ H => no_e H⟩
  | n + 1 => have ⟨h0, h1, h2, h3, h4, h5, h6, h7, h8, h9⟩ := g_X12_patchRows (l := l) (Z := Z) (L := L) n
    ⟨t_X12_patchRows_0 n h0 h1 h2 h3 h4 h5 h6 h7 h8 h9, t_X12_patchRows_23 n h0 h1 h2 h3 h4 h5 h6 h7 h8 h9, t_X12_patchRows_32 n h0 h1 h2 h3 h4 h5 h6 h7 h8 h9, t_X12_patchRows_103 n h0 h1 h2 h3 h4 h5 h6 h7 h8 h9, t_X12_patchRows_145 n h0 h1 h2 h3 h4 h5 h6 h7 h8 h9, t_X12_patchRows_189 n h0 h1 h2 h3 h4 h5 h6 h7 h8 h9, t_X12_patchRows_219 n h0 h1 h2 h3 h4 h5 h6 h7 h8 h9, t_X12_patchRows_254 n h0 h1 h2 h3 h4 h5 h6 h7 h8 h9, t_X12_patchRows_368 n h0 h1 h2 h3 h4 h5 h6 h7 h8 h9, t_X12_patchRows_414 n h0 h1 h2 h3 h4 h5 h6 h7 h8 h9⟩
theorem m_X12_patchRows {l : Launch} {Z : XZ} {L : Nat → Nat} (hL : L 700 = 1) {n d : Nat} {S : GS} {a1 : Int} {a2 : Int} {a3 : Int} {a4 : Int} {x : Int} {S1 : GS} (H : f_X12_patchRows n d 0 S [a1, a2, a3, a4] = some (x, S1)) : GM l Z L yX12_patchRows cX12_patchRows 10 none [] d 0 0 [.ref (L 500), .int (J a1), .int (J a2), .int (J a3), .int (J a4)] S (fun v S' => v = none ∧ S1 = S') (fun _ _ => False) := GM.of (by decide) (Nat.le_of_ble_eq_true rfl) ((g_X12_patchRows n).1 hL _ _ _ _ _ _ _ _ H)

def P_X12_patches_0 (l : Launch) (Z : XZ) (L : Nat → Nat) (n : Nat) : Prop := ∀ (hL : L 700 = 1), ∀ (d : Nat) (S : GS) (a1 : Int) (a2 : Int) (a3 : Int) (a4 : Int) (x : Int) (S1 : GS), f_X12_patches n d 0 S [a1, a2, a3, a4] = some (x, S1) → GA l Z L yX12_patches cX12_patches 5 (some .boolean) [] d 0 0 (fun v S' => v = some (.int (J x)) ∧ S1 = S') (fun _ _ => False) 0 (gl [(0, .ref (L 500)), (1, .int (J a1)), (2, .int (J a2)), (3, .int (J a3)), (4, .int (J a4))]) [] S 0 0
def P_X12_patches_37 (l : Launch) (Z : XZ) (L : Nat → Nat) (n : Nat) : Prop := ∀ (hL : L 700 = 1), ∀ (d : Nat) (S : GS) (a1 : Int) (a2 : Int) (a3 : Int) (a4 : Int) (x : Int) (S1 : GS), f_X12_patches n d 37 S [a1, a2, a3, a4] = some (x, S1) → GA l Z L yX12_patches cX12_patches 5 (some .boolean) [] d 0 0 (fun v S' => v = some (.int (J x)) ∧ S1 = S') (fun _ _ => False) 37 (gl [(0, .ref (L 500)), (1, .int (J a1)), (2, .int (J a2)), (3, .int (J a3)), (4, .int (J a4))]) [] S 0 0
def P_X12_patches_69 (l : Launch) (Z : XZ) (L : Nat → Nat) (n : Nat) : Prop := ∀ (hL : L 700 = 1), ∀ (d : Nat) (S : GS) (a1 : Int) (a2 : Int) (a3 : Int) (a4 : Int) (x : Int) (S1 : GS), f_X12_patches n d 69 S [a1, a2, a3, a4] = some (x, S1) → GA l Z L yX12_patches cX12_patches 5 (some .boolean) [] d 0 0 (fun v S' => v = some (.int (J x)) ∧ S1 = S') (fun _ _ => False) 69 (gl [(0, .ref (L 500)), (1, .int (J a1)), (2, .int (J a2)), (3, .int (J a3)), (4, .int (J a4))]) [] S 0 0
theorem i_X12_patches {l : Launch} {Z : XZ} {L : Nat → Nat} (hL : L 700 = 1) {n : Nat} (ih : P_X12_patches_0 l Z L n) {d : Nat} {S : GS} {a1 : Int} {a2 : Int} {a3 : Int} {a4 : Int} {x : Int} {S1 : GS} (H : f_X12_patches n d 0 S [a1, a2, a3, a4] = some (x, S1)) : GM l Z L yX12_patches cX12_patches 5 (some .boolean) [] d 0 0 [.ref (L 500), .int (J a1), .int (J a2), .int (J a3), .int (J a4)] S (fun v S' => v = some (.int (J x)) ∧ S1 = S') (fun _ _ => False) := GM.of (by decide) (Nat.le_of_ble_eq_true rfl) (ih hL _ _ _ _ _ _ _ _ H)
set_option maxHeartbeats 4000000 in
set_option maxRecDepth 20000 in
theorem t_X12_patches_0 {l : Launch} {Z : XZ} {L : Nat → Nat} (n : Nat) (ih_X12_patches_0 : P_X12_patches_0 l Z L n) (ih_X12_patches_37 : P_X12_patches_37 l Z L n) (ih_X12_patches_69 : P_X12_patches_69 l Z L n) : P_X12_patches_0 l Z L (n + 1) := by
  intro hL d S a1 a2 a3 a4 x S1 H
  have H : b_X12_patches_0 n d (f_X12_patches n) S a1 a2 a3 a4 = some (x, S1) := H
  unfold b_X12_patches_0 at H
  refine GA.aload_n dX12_patches_0 rfl ?_
  refine GA.iload_n dX12_patches_1 rfl ?_
  refine GA.iload_n dX12_patches_2 rfl ?_
  refine GA.iload_n dX12_patches_3 rfl ?_
  refine GA.iload dX12_patches_4 rfl ?_
  obtain ⟨hg1, H⟩ := gg_e H
  obtain ⟨x2, S_3, hc4, H⟩ := gc_e H
  refine GA.callV (m_X12_areEqual hL hc4) xs_X12_590 dX12_patches_6 (gs_500 hL) (by decide) rfl rfl (by omega) (by decide) rfl (Nat.le_of_ble_eq_true rfl) (by omega) (by omega) rfl (fun E S9 hx => hx.elim) (fun v S9 hq => ?_)
  obtain ⟨rfl, rfl⟩ := hq
  obtain ⟨hg5, H⟩ := gg_e H
  refine GV.if_eq (tgt := 14) hg5 dX12_patches_9 (by decide) (fun c6 => ?_) (fun c6 => ?_)
  · have H := it_t H c6
    refine GA.aload_n dX12_patches_14 rfl ?_
    refine GA.iload_n dX12_patches_15 rfl ?_
    refine GA.iload_n dX12_patches_16 rfl ?_
    obtain ⟨x7, S_8, hc9, H⟩ := gc_e H
    refine GA.callV (m_X12_kind hL hc9) xs_X12_52 dX12_patches_17 (gs_500 hL) (by decide) rfl rfl (by omega) (by decide) rfl (Nat.le_of_ble_eq_true rfl) (by omega) (by omega) rfl (fun E S9 hx => hx.elim) (fun v S9 hq => ?_)
    obtain ⟨rfl, rfl⟩ := hq
    refine GA.iconst dX12_patches_20 ?_
    obtain ⟨hg10, H⟩ := gg_e H
    refine GV.icmp_ne (tgt := 37) hg10 (by decide) dX12_patches_21 (by decide) (fun c11 => ?_) (fun c11 => ?_)
    · have H := it_t H c11
      refine GA.locals [(0, .ref (L 500)), (1, .int (J a1)), (2, .int (J a2)), (3, .int (J a3)), (4, .int (J a4))] ⟨rfl, rfl, rfl, rfl, rfl, trivial⟩ ?_
      exact ih_X12_patches_37 hL _ _ (a1) (a2) (a3) (a4) _ _ H
    · have H := it_f H c11
      refine GA.aload_n dX12_patches_24 rfl ?_
      refine GA.iload_n dX12_patches_25 rfl ?_
      refine GA.iload dX12_patches_26 rfl ?_
      obtain ⟨x12, S_13, hc14, H⟩ := gc_e H
      refine GA.callV (m_X12_kind hL hc14) xs_X12_52 dX12_patches_28 (gs_500 hL) (by decide) rfl rfl (by omega) (by decide) rfl (Nat.le_of_ble_eq_true rfl) (by omega) (by omega) rfl (fun E S9 hx => hx.elim) (fun v S9 hq => ?_)
      obtain ⟨rfl, rfl⟩ := hq
      refine GA.iconst dX12_patches_31 ?_
      obtain ⟨hg15, H⟩ := gg_e H
      refine GV.icmp_ne (tgt := 37) hg15 (by decide) dX12_patches_32 (by decide) (fun c16 => ?_) (fun c16 => ?_)
      · have H := it_t H c16
        refine GA.locals [(0, .ref (L 500)), (1, .int (J a1)), (2, .int (J a2)), (3, .int (J a3)), (4, .int (J a4))] ⟨rfl, rfl, rfl, rfl, rfl, trivial⟩ ?_
        exact ih_X12_patches_37 hL _ _ (a1) (a2) (a3) (a4) _ _ H
      · have H := it_f H c16
        refine GA.iconst dX12_patches_35 ?_
        cases H
        exact GV.zret (by decide) rfl dX12_patches_36 (by omega) (by omega) ⟨rfl, rfl⟩
  · have H := it_f H c6
    refine GA.iconst dX12_patches_12 ?_
    cases H
    exact GV.zret (by decide) rfl dX12_patches_13 (by omega) (by omega) ⟨rfl, rfl⟩
set_option maxHeartbeats 4000000 in
set_option maxRecDepth 20000 in
theorem t_X12_patches_37 {l : Launch} {Z : XZ} {L : Nat → Nat} (n : Nat) (ih_X12_patches_0 : P_X12_patches_0 l Z L n) (ih_X12_patches_37 : P_X12_patches_37 l Z L n) (ih_X12_patches_69 : P_X12_patches_69 l Z L n) : P_X12_patches_37 l Z L (n + 1) := by
  intro hL d S a1 a2 a3 a4 x S1 H
  have H : b_X12_patches_37 n d (f_X12_patches n) S a1 a2 a3 a4 = some (x, S1) := H
  unfold b_X12_patches_37 at H
  refine GA.aload_n dX12_patches_37 rfl ?_
  refine GA.iload_n dX12_patches_38 rfl ?_
  refine GA.iload_n dX12_patches_39 rfl ?_
  obtain ⟨hg1, H⟩ := gg_e H
  obtain ⟨x2, S_3, hc4, H⟩ := gc_e H
  refine GA.callV (m_X12_kind hL hc4) xs_X12_52 dX12_patches_40 (gs_500 hL) (by decide) rfl rfl (by omega) (by decide) rfl (Nat.le_of_ble_eq_true rfl) (by omega) (by omega) rfl (fun E S9 hx => hx.elim) (fun v S9 hq => ?_)
  obtain ⟨rfl, rfl⟩ := hq
  refine GA.iconst dX12_patches_43 ?_
  obtain ⟨hg5, H⟩ := gg_e H
  refine GV.icmp_ne (tgt := 69) hg5 (by decide) dX12_patches_44 (by decide) (fun c6 => ?_) (fun c6 => ?_)
  · have H := it_t H c6
    refine GA.locals [(0, .ref (L 500)), (1, .int (J a1)), (2, .int (J a2)), (3, .int (J a3)), (4, .int (J a4))] ⟨rfl, rfl, rfl, rfl, rfl, trivial⟩ ?_
    exact ih_X12_patches_69 hL _ _ (a1) (a2) (a3) (a4) _ _ H
  · have H := it_f H c6
    refine GA.aload_n dX12_patches_47 rfl ?_
    refine GA.iload_n dX12_patches_48 rfl ?_
    refine GA.iload dX12_patches_49 rfl ?_
    obtain ⟨x7, S_8, hc9, H⟩ := gc_e H
    refine GA.callV (m_X12_kind hL hc9) xs_X12_52 dX12_patches_51 (gs_500 hL) (by decide) rfl rfl (by omega) (by decide) rfl (Nat.le_of_ble_eq_true rfl) (by omega) (by omega) rfl (fun E S9 hx => hx.elim) (fun v S9 hq => ?_)
    obtain ⟨rfl, rfl⟩ := hq
    refine GA.iconst dX12_patches_54 ?_
    obtain ⟨hg10, H⟩ := gg_e H
    refine GV.icmp_ne (tgt := 69) hg10 (by decide) dX12_patches_55 (by decide) (fun c11 => ?_) (fun c11 => ?_)
    · have H := it_t H c11
      refine GA.locals [(0, .ref (L 500)), (1, .int (J a1)), (2, .int (J a2)), (3, .int (J a3)), (4, .int (J a4))] ⟨rfl, rfl, rfl, rfl, rfl, trivial⟩ ?_
      exact ih_X12_patches_69 hL _ _ (a1) (a2) (a3) (a4) _ _ H
    · have H := it_f H c11
      refine GA.aload_n dX12_patches_58 rfl ?_
      refine GA.iload_n dX12_patches_59 rfl ?_
      refine GA.iload_n dX12_patches_60 rfl ?_
      refine GA.iload_n dX12_patches_61 rfl ?_
      refine GA.iload dX12_patches_62 rfl ?_
      obtain ⟨x12, S_13, hc14, H⟩ := gc_e H
      refine GA.callV (m_X12_patchRows hL hc14) xs_X12_729 dX12_patches_64 (gs_500 hL) (by decide) rfl rfl (by omega) (by decide) rfl (Nat.le_of_ble_eq_true rfl) (by omega) (by omega) rfl (fun E S9 hx => hx.elim) (fun v S9 hq => ?_)
      obtain ⟨rfl, rfl⟩ := hq
      refine GA.iconst dX12_patches_67 ?_
      cases H
      exact GV.zret (by decide) rfl dX12_patches_68 (by omega) (by omega) ⟨rfl, rfl⟩
set_option maxHeartbeats 4000000 in
set_option maxRecDepth 20000 in
theorem t_X12_patches_69 {l : Launch} {Z : XZ} {L : Nat → Nat} (n : Nat) (ih_X12_patches_0 : P_X12_patches_0 l Z L n) (ih_X12_patches_37 : P_X12_patches_37 l Z L n) (ih_X12_patches_69 : P_X12_patches_69 l Z L n) : P_X12_patches_69 l Z L (n + 1) := by
  intro hL d S a1 a2 a3 a4 x S1 H
  have H : b_X12_patches_69 n d (f_X12_patches n) S a1 a2 a3 a4 = some (x, S1) := H
  unfold b_X12_patches_69 at H
  refine GA.aload_n dX12_patches_69 rfl ?_
  refine GA.iload_n dX12_patches_70 rfl ?_
  refine GA.iload_n dX12_patches_71 rfl ?_
  obtain ⟨hg1, H⟩ := gg_e H
  obtain ⟨x2, S_3, hc4, H⟩ := gc_e H
  refine GA.callV (m_X12_pathOfNode hL hc4) xs_X12_720 dX12_patches_72 (gs_500 hL) (by decide) rfl rfl (by omega) (by decide) rfl (Nat.le_of_ble_eq_true rfl) (by omega) (by omega) rfl (fun E S9 hx => hx.elim) (fun v S9 hq => ?_)
  obtain ⟨rfl, rfl⟩ := hq
  refine GA.aload_n dX12_patches_75 rfl ?_
  refine GA.bipush dX12_patches_76 rfl ?_
  refine GA.iconst dX12_patches_78 ?_
  refine GA.iload_n dX12_patches_79 rfl ?_
  refine GA.iload dX12_patches_80 rfl ?_
  obtain ⟨x5, S_6, hc7, H⟩ := gc_e H
  refine GA.callV (m_X12_ordered hL hc7) xs_X12_723 dX12_patches_82 (gs_500 hL) (by decide) rfl rfl (by omega) (by decide) rfl (Nat.le_of_ble_eq_true rfl) (by omega) (by omega) rfl (fun E S9 hx => hx.elim) (fun v S9 hq => ?_)
  obtain ⟨rfl, rfl⟩ := hq
  refine GA.iconst dX12_patches_85 ?_
  cases H
  exact GV.zret (by decide) rfl dX12_patches_86 (by omega) (by omega) ⟨rfl, rfl⟩
theorem g_X12_patches {l : Launch} {Z : XZ} {L : Nat → Nat} : ∀ n, P_X12_patches_0 l Z L n ∧ P_X12_patches_37 l Z L n ∧ P_X12_patches_69 l Z L n
  | 0 => ⟨fun _ _ _ _ _ _ _ _ _ H => no_e H, fun _ _ _ _ _ _ _ _ _ H => no_e H, fun _ _ _ _ _ _ _ _ _ H => no_e H⟩
  | n + 1 => have ⟨h0, h1, h2⟩ := g_X12_patches (l := l) (Z := Z) (L := L) n
    ⟨t_X12_patches_0 n h0 h1 h2, t_X12_patches_37 n h0 h1 h2, t_X12_patches_69 n h0 h1 h2⟩
theorem m_X12_patches {l : Launch} {Z : XZ} {L : Nat → Nat} (hL : L 700 = 1) {n d : Nat} {S : GS} {a1 : Int} {a2 : Int} {a3 : Int} {a4 : Int} {x : Int} {S1 : GS} (H : f_X12_patches n d 0 S [a1, a2, a3, a4] = some (x, S1)) : GM l Z L yX12_patches cX12_patches 5 (some .boolean) [] d 0 0 [.ref (L 500), .int (J a1), .int (J a2), .int (J a3), .int (J a4)] S (fun v S' => v = some (.int (J x)) ∧ S1 = S') (fun _ _ => False) := GM.of (by decide) (Nat.le_of_ble_eq_true rfl) ((g_X12_patches n).1 hL _ _ _ _ _ _ _ _ H)

def P_X12_removesKeys_0 (l : Launch) (Z : XZ) (L : Nat → Nat) (n : Nat) : Prop := ∀ (hL : L 700 = 1), ∀ (d : Nat) (S : GS) (a1 : Int) (a2 : Int) (a3 : Int) (a4 : Int) (x : Int) (S1 : GS), f_X12_removesKeys n d 0 S [a1, a2, a3, a4] = some (x, S1) → GA l Z L yX12_removesKeys cX12_removesKeys 7 none [] d 0 0 (fun v S' => v = none ∧ S1 = S') (fun _ _ => False) 0 (gl [(0, .ref (L 500)), (1, .int (J a1)), (2, .int (J a2)), (3, .int (J a3)), (4, .int (J a4))]) [] S 0 0
def P_X12_removesKeys_8 (l : Launch) (Z : XZ) (L : Nat → Nat) (n : Nat) : Prop := ∀ (hL : L 700 = 1), ∀ (d : Nat) (S : GS) (a1 : Int) (a2 : Int) (a3 : Int) (a4 : Int) (a5 : Int) (a6 : Int) (x : Int) (S1 : GS), f_X12_removesKeys n d 8 S [a1, a2, a3, a4, a5, a6] = some (x, S1) → GA l Z L yX12_removesKeys cX12_removesKeys 7 none [] d 0 0 (fun v S' => v = none ∧ S1 = S') (fun _ _ => False) 8 (gl [(0, .ref (L 500)), (1, .int (J a1)), (2, .int (J a2)), (3, .int (J a3)), (4, .int (J a4)), (5, .int (J a5)), (6, .int (J a6))]) [] S 0 0
theorem i_X12_removesKeys {l : Launch} {Z : XZ} {L : Nat → Nat} (hL : L 700 = 1) {n : Nat} (ih : P_X12_removesKeys_0 l Z L n) {d : Nat} {S : GS} {a1 : Int} {a2 : Int} {a3 : Int} {a4 : Int} {x : Int} {S1 : GS} (H : f_X12_removesKeys n d 0 S [a1, a2, a3, a4] = some (x, S1)) : GM l Z L yX12_removesKeys cX12_removesKeys 7 none [] d 0 0 [.ref (L 500), .int (J a1), .int (J a2), .int (J a3), .int (J a4)] S (fun v S' => v = none ∧ S1 = S') (fun _ _ => False) := GM.of (by decide) (Nat.le_of_ble_eq_true rfl) (ih hL _ _ _ _ _ _ _ _ H)
set_option maxHeartbeats 4000000 in
set_option maxRecDepth 20000 in
theorem t_X12_removesKeys_0 {l : Launch} {Z : XZ} {L : Nat → Nat} (n : Nat) (ih_X12_removesKeys_0 : P_X12_removesKeys_0 l Z L n) (ih_X12_removesKeys_8 : P_X12_removesKeys_8 l Z L n) : P_X12_removesKeys_0 l Z L (n + 1) := by
  intro hL d S a1 a2 a3 a4 x S1 H
  have H : b_X12_removesKeys_0 n d (f_X12_removesKeys n) S a1 a2 a3 a4 = some (x, S1) := H
  unfold b_X12_removesKeys_0 at H
  refine GA.iload_n dX12_removesKeys_0 rfl ?_
  refine GA.iconst dX12_removesKeys_1 ?_
  obtain ⟨x1, hx2, H⟩ := gv_e H
  refine GV.iadd hx2 dX12_removesKeys_2 ?_
  refine GA.istore dX12_removesKeys_3 (by decide) ?_
  refine GA.iconst dX12_removesKeys_5 ?_
  refine GA.istore dX12_removesKeys_6 (by decide) ?_
  refine GA.locals [(0, .ref (L 500)), (1, .int (J a1)), (2, .int (J a2)), (3, .int (J a3)), (4, .int (J a4)), (5, .int (J x1)), (6, .int (J 0))] ⟨rfl, rfl, rfl, rfl, rfl, rfl, rfl, trivial⟩ ?_
  exact ih_X12_removesKeys_8 hL _ _ (a1) (a2) (a3) (a4) (x1) (0) _ _ H
set_option maxHeartbeats 4000000 in
set_option maxRecDepth 20000 in
theorem t_X12_removesKeys_8 {l : Launch} {Z : XZ} {L : Nat → Nat} (n : Nat) (ih_X12_removesKeys_0 : P_X12_removesKeys_0 l Z L n) (ih_X12_removesKeys_8 : P_X12_removesKeys_8 l Z L n) : P_X12_removesKeys_8 l Z L (n + 1) := by
  intro hL d S a1 a2 a3 a4 a5 a6 x S1 H
  have H : b_X12_removesKeys_8 n d (f_X12_removesKeys n) S a1 a2 a3 a4 a5 a6 = some (x, S1) := H
  unfold b_X12_removesKeys_8 at H
  refine GA.iload dX12_removesKeys_8 rfl ?_
  refine GA.aload_n dX12_removesKeys_10 rfl ?_
  refine GA.iload_n dX12_removesKeys_11 rfl ?_
  refine GA.iload_n dX12_removesKeys_12 rfl ?_
  refine GA.iconst dX12_removesKeys_13 ?_
  obtain ⟨hg1, H⟩ := gg_e H
  obtain ⟨x2, S_3, hc4, H⟩ := gc_e H
  refine GA.callV (m_X12_part hL hc4) xs_X12_36 dX12_removesKeys_14 (gs_500 hL) (by decide) rfl rfl (by omega) (by decide) rfl (Nat.le_of_ble_eq_true rfl) (by omega) (by omega) rfl (fun E S9 hx => hx.elim) (fun v S9 hq => ?_)
  obtain ⟨rfl, rfl⟩ := hq
  obtain ⟨hg5, H⟩ := gg_e H
  obtain ⟨hg6, H⟩ := gg_e H
  refine GV.icmp_ge (tgt := 65) hg5 hg6 dX12_removesKeys_17 (by decide) (fun c7 => ?_) (fun c7 => ?_)
  · have H := it_t H c7
    cases H
    exact GA.vret rfl dX12_removesKeys_65 (by omega) (by omega) ⟨rfl, rfl⟩
  · have H := it_f H c7
    refine GA.aload_n dX12_removesKeys_20 rfl ?_
    refine GA.iload_n dX12_removesKeys_21 rfl ?_
    refine GA.iload dX12_removesKeys_22 rfl ?_
    refine GA.iload_n dX12_removesKeys_24 rfl ?_
    refine GA.iload dX12_removesKeys_25 rfl ?_
    obtain ⟨x8, S_9, hc10, H⟩ := gc_e H
    refine GA.callV (m_X12_childLike hL hc10) xs_X12_732 dX12_removesKeys_27 (gs_500 hL) (by decide) rfl rfl (by omega) (by decide) rfl (Nat.le_of_ble_eq_true rfl) (by omega) (by omega) rfl (fun E S9 hx => hx.elim) (fun v S9 hq => ?_)
    obtain ⟨rfl, rfl⟩ := hq
    refine GA.iconst dX12_removesKeys_30 ?_
    obtain ⟨hg11, H⟩ := gg_e H
    refine GV.icmp_ne (tgt := 50) hg11 (by decide) dX12_removesKeys_31 (by decide) (fun c12 => ?_) (fun c12 => ?_)
    · have H := it_t H c12
      refine GA.aload_n dX12_removesKeys_50 rfl ?_
      refine GA.iload_n dX12_removesKeys_51 rfl ?_
      refine GA.iload dX12_removesKeys_52 rfl ?_
      obtain ⟨x13, S_14, hc15, H⟩ := gc_e H
      refine GA.callV (m_X12_endOf hL hc15) xs_X12_49 dX12_removesKeys_54 (gs_500 hL) (by decide) rfl rfl (by omega) (by decide) rfl (Nat.le_of_ble_eq_true rfl) (by omega) (by omega) rfl (fun E S9 hx => hx.elim) (fun v S9 hq => ?_)
      obtain ⟨rfl, rfl⟩ := hq
      refine GA.istore dX12_removesKeys_57 (by decide) ?_
      obtain ⟨x16, hx17, H⟩ := gv_e H
      refine GV.iinc hx17 dX12_removesKeys_59 rfl (by decide) ?_
      refine GA.goto (tgt := 8) dX12_removesKeys_62 (by decide) ?_
      refine GA.locals [(0, .ref (L 500)), (1, .int (J a1)), (2, .int (J a2)), (3, .int (J a3)), (4, .int (J a4)), (5, .int (J x13)), (6, .int (J x16))] ⟨rfl, rfl, rfl, rfl, rfl, rfl, rfl, trivial⟩ ?_
      exact ih_X12_removesKeys_8 hL _ _ (a1) (a2) (a3) (a4) (x13) (x16) _ _ H
    · have H := it_f H c12
      refine GA.aload_n dX12_removesKeys_34 rfl ?_
      refine GA.iload_n dX12_removesKeys_35 rfl ?_
      refine GA.iload dX12_removesKeys_36 rfl ?_
      obtain ⟨x18, S_19, hc20, H⟩ := gc_e H
      refine GA.callV (m_X12_pathOfNode hL hc20) xs_X12_720 dX12_removesKeys_38 (gs_500 hL) (by decide) rfl rfl (by omega) (by decide) rfl (Nat.le_of_ble_eq_true rfl) (by omega) (by omega) rfl (fun E S9 hx => hx.elim) (fun v S9 hq => ?_)
      obtain ⟨rfl, rfl⟩ := hq
      refine GA.aload_n dX12_removesKeys_41 rfl ?_
      refine GA.bipush dX12_removesKeys_42 rfl ?_
      refine GA.iconst dX12_removesKeys_44 ?_
      refine GA.iload_n dX12_removesKeys_45 rfl ?_
      refine GA.iconst dX12_removesKeys_46 ?_
      obtain ⟨x21, S_22, hc23, H⟩ := gc_e H
      refine GA.callV (m_X12_ordered hL hc23) xs_X12_723 dX12_removesKeys_47 (gs_500 hL) (by decide) rfl rfl (by omega) (by decide) rfl (Nat.le_of_ble_eq_true rfl) (by omega) (by omega) rfl (fun E S9 hx => hx.elim) (fun v S9 hq => ?_)
      obtain ⟨rfl, rfl⟩ := hq
      refine GA.aload_n dX12_removesKeys_50 rfl ?_
      refine GA.iload_n dX12_removesKeys_51 rfl ?_
      refine GA.iload dX12_removesKeys_52 rfl ?_
      obtain ⟨x24, S_25, hc26, H⟩ := gc_e H
      refine GA.callV (m_X12_endOf hL hc26) xs_X12_49 dX12_removesKeys_54 (gs_500 hL) (by decide) rfl rfl (by omega) (by decide) rfl (Nat.le_of_ble_eq_true rfl) (by omega) (by omega) rfl (fun E S9 hx => hx.elim) (fun v S9 hq => ?_)
      obtain ⟨rfl, rfl⟩ := hq
      refine GA.istore dX12_removesKeys_57 (by decide) ?_
      obtain ⟨x27, hx28, H⟩ := gv_e H
      refine GV.iinc hx28 dX12_removesKeys_59 rfl (by decide) ?_
      refine GA.goto (tgt := 8) dX12_removesKeys_62 (by decide) ?_
      refine GA.locals [(0, .ref (L 500)), (1, .int (J a1)), (2, .int (J a2)), (3, .int (J a3)), (4, .int (J a4)), (5, .int (J x24)), (6, .int (J x27))] ⟨rfl, rfl, rfl, rfl, rfl, rfl, rfl, trivial⟩ ?_
      exact ih_X12_removesKeys_8 hL _ _ (a1) (a2) (a3) (a4) (x24) (x27) _ _ H
theorem g_X12_removesKeys {l : Launch} {Z : XZ} {L : Nat → Nat} : ∀ n, P_X12_removesKeys_0 l Z L n ∧ P_X12_removesKeys_8 l Z L n
  | 0 => ⟨fun _ _ _ _ _ _ _ _ _ H => no_e H, fun _ _ _ _ _ _ _ _ _ _ _ H => no_e H⟩
  | n + 1 => have ⟨h0, h1⟩ := g_X12_removesKeys (l := l) (Z := Z) (L := L) n
    ⟨t_X12_removesKeys_0 n h0 h1, t_X12_removesKeys_8 n h0 h1⟩
theorem m_X12_removesKeys {l : Launch} {Z : XZ} {L : Nat → Nat} (hL : L 700 = 1) {n d : Nat} {S : GS} {a1 : Int} {a2 : Int} {a3 : Int} {a4 : Int} {x : Int} {S1 : GS} (H : f_X12_removesKeys n d 0 S [a1, a2, a3, a4] = some (x, S1)) : GM l Z L yX12_removesKeys cX12_removesKeys 7 none [] d 0 0 [.ref (L 500), .int (J a1), .int (J a2), .int (J a3), .int (J a4)] S (fun v S' => v = none ∧ S1 = S') (fun _ _ => False) := GM.of (by decide) (Nat.le_of_ble_eq_true rfl) ((g_X12_removesKeys n).1 hL _ _ _ _ _ _ _ _ H)

def P_X12_makesPatch_0 (l : Launch) (Z : XZ) (L : Nat → Nat) (n : Nat) : Prop := ∀ (hL : L 700 = 1), ∀ (d : Nat) (S : GS) (a1 : Int) (a2 : Int) (x : Int) (S1 : GS), f_X12_makesPatch n d 0 S [a1, a2] = some (x, S1) → GA l Z L yX12_makesPatch cX12_makesPatch 9 none [] d 0 0 (fun v S' => v = none ∧ S1 = S') (fun _ _ => False) 0 (gl [(0, .ref (L 500)), (1, .int (J a1)), (2, .int (J a2))]) [] S 0 0
def P_X12_makesPatch_65 (l : Launch) (Z : XZ) (L : Nat → Nat) (n : Nat) : Prop := ∀ (hL : L 700 = 1), ∀ (d : Nat) (S : GS) (a1 : Int) (a2 : Int) (a4 : Int) (x : Int) (S1 : GS), f_X12_makesPatch n d 65 S [a1, a2, a4] = some (x, S1) → GA l Z L yX12_makesPatch cX12_makesPatch 9 none [] d 0 0 (fun v S' => v = none ∧ S1 = S') (fun _ _ => False) 65 (gl [(0, .ref (L 500)), (1, .int (J a1)), (2, .int (J a2)), (4, .int (J a4))]) [] S 0 0
theorem i_X12_makesPatch {l : Launch} {Z : XZ} {L : Nat → Nat} (hL : L 700 = 1) {n : Nat} (ih : P_X12_makesPatch_0 l Z L n) {d : Nat} {S : GS} {a1 : Int} {a2 : Int} {x : Int} {S1 : GS} (H : f_X12_makesPatch n d 0 S [a1, a2] = some (x, S1)) : GM l Z L yX12_makesPatch cX12_makesPatch 9 none [] d 0 0 [.ref (L 500), .int (J a1), .int (J a2)] S (fun v S' => v = none ∧ S1 = S') (fun _ _ => False) := GM.of (by decide) (Nat.le_of_ble_eq_true rfl) (ih hL _ _ _ _ _ _ H)
set_option maxHeartbeats 4000000 in
set_option maxRecDepth 20000 in
theorem t_X12_makesPatch_0 {l : Launch} {Z : XZ} {L : Nat → Nat} (n : Nat) (ih_X12_makesPatch_0 : P_X12_makesPatch_0 l Z L n) (ih_X12_makesPatch_65 : P_X12_makesPatch_65 l Z L n) : P_X12_makesPatch_0 l Z L (n + 1) := by
  intro hL d S a1 a2 x S1 H
  have H : b_X12_makesPatch_0 n d (f_X12_makesPatch n) S a1 a2 = some (x, S1) := H
  unfold b_X12_makesPatch_0 at H
  refine GA.aload_n dX12_makesPatch_0 rfl ?_
  refine GA.bipush dX12_makesPatch_1 rfl ?_
  obtain ⟨hg1, H⟩ := gg_e H
  obtain ⟨x2, S_3, hc4, H⟩ := gc_e H
  refine GA.callV (m_X12_begin hL hc4) xs_X12_517 dX12_makesPatch_3 (gs_500 hL) (by decide) rfl rfl (by omega) (by decide) rfl (Nat.le_of_ble_eq_true rfl) (by omega) (by omega) rfl (fun E S9 hx => hx.elim) (fun v S9 hq => ?_)
  obtain ⟨rfl, rfl⟩ := hq
  refine GA.aload_n dX12_makesPatch_6 rfl ?_
  refine GA.iconst dX12_makesPatch_7 ?_
  obtain ⟨S_5, hx6, H⟩ := gv_e H
  refine GV.putB (by decide) hx6 (xp_X12_714 (xb_01 _)) dX12_makesPatch_8 (gs_500 hL) (by decide) (Nat.le_of_ble_eq_true rfl) (gs_500 hL) ?_
  refine GA.aload_n dX12_makesPatch_11 rfl ?_
  refine GA.bipush dX12_makesPatch_12 rfl ?_
  refine GA.iconst dX12_makesPatch_14 ?_
  obtain ⟨x7, S_8, hc9, H⟩ := gc_e H
  refine GA.callV (m_X12_added hL hc9) xs_X12_33 dX12_makesPatch_15 (gs_500 hL) (by decide) rfl rfl (by omega) (by decide) rfl (Nat.le_of_ble_eq_true rfl) (by omega) (by omega) rfl (fun E S9 hx => hx.elim) (fun v S9 hq => ?_)
  obtain ⟨rfl, rfl⟩ := hq
  refine GA.istore_n dX12_makesPatch_18 (by decide) ?_
  refine GA.iconst dX12_makesPatch_19 ?_
  refine GA.istore dX12_makesPatch_20 (by decide) ?_
  refine GA.aload_n dX12_makesPatch_22 rfl ?_
  refine GA.iload_n dX12_makesPatch_23 rfl ?_
  refine GA.iconst dX12_makesPatch_24 ?_
  refine GA.iload_n dX12_makesPatch_25 rfl ?_
  refine GA.iconst dX12_makesPatch_26 ?_
  obtain ⟨x10, S_11, hc12, H⟩ := gc_e H
  refine GA.callV (m_X12_patches hL hc12) xs_X12_738 dX12_makesPatch_27 (gs_500 hL) (by decide) rfl rfl (by omega) (by decide) rfl (Nat.le_of_ble_eq_true rfl) (by omega) (by omega) rfl (fun E S9 hx => hx.elim) (fun v S9 hq => ?_)
  obtain ⟨rfl, rfl⟩ := hq
  obtain ⟨hg13, H⟩ := gg_e H
  refine GV.if_eq (tgt := 65) hg13 dX12_makesPatch_30 (by decide) (fun c14 => ?_) (fun c14 => ?_)
  · have H := it_t H c14
    refine GA.locals [(0, .ref (L 500)), (1, .int (J a1)), (2, .int (J a2)), (4, .int (J 0))] ⟨rfl, rfl, rfl, rfl, trivial⟩ ?_
    exact ih_X12_makesPatch_65 hL _ _ (a1) (a2) (0) _ _ H
  · have H := it_f H c14
    refine GA.aload_n dX12_makesPatch_33 rfl ?_
    refine GA.get xf_X12_309 dX12_makesPatch_34 (gs_500 hL) (by decide) rfl ?_
    refine GA.iconst dX12_makesPatch_37 ?_
    refine GA.iconst dX12_makesPatch_38 ?_
    obtain ⟨hg15, H⟩ := gg_e H
    obtain ⟨S_16, hx17, H⟩ := gv_e H
    refine GV.iast hg15 hx17 dX12_makesPatch_39 (fun _ => (gs_525 hL)) (by decide) ?_
    refine GA.aload_n dX12_makesPatch_40 rfl ?_
    refine GA.get xf_X12_312 dX12_makesPatch_41 (gs_500 hL) (by decide) rfl ?_
    refine GA.iconst dX12_makesPatch_44 ?_
    refine GA.iconst dX12_makesPatch_45 ?_
    obtain ⟨S_18, hx19, H⟩ := gv_e H
    refine GV.iast hg15 hx19 dX12_makesPatch_46 (fun _ => (gs_526 hL)) (by decide) ?_
    refine GA.aload_n dX12_makesPatch_47 rfl ?_
    refine GA.get xf_X12_315 dX12_makesPatch_48 (gs_500 hL) (by decide) rfl ?_
    refine GA.iconst dX12_makesPatch_51 ?_
    refine GA.iconst dX12_makesPatch_52 ?_
    obtain ⟨S_20, hx21, H⟩ := gv_e H
    refine GV.iast hg15 hx21 dX12_makesPatch_53 (fun _ => (gs_527 hL)) (by decide) ?_
    refine GA.aload_n dX12_makesPatch_54 rfl ?_
    refine GA.iload_n dX12_makesPatch_55 rfl ?_
    refine GA.iconst dX12_makesPatch_56 ?_
    refine GA.iload_n dX12_makesPatch_57 rfl ?_
    refine GA.iconst dX12_makesPatch_58 ?_
    obtain ⟨x22, S_23, hc24, H⟩ := gc_e H
    refine GA.callV (m_X12_removesKeys hL hc24) xs_X12_741 dX12_makesPatch_59 (gs_500 hL) (by decide) rfl rfl (by omega) (by decide) rfl (Nat.le_of_ble_eq_true rfl) (by omega) (by omega) rfl (fun E S9 hx => hx.elim) (fun v S9 hq => ?_)
    obtain ⟨rfl, rfl⟩ := hq
    refine GA.iconst dX12_makesPatch_62 ?_
    refine GA.istore dX12_makesPatch_63 (by decide) ?_
    refine GA.locals [(0, .ref (L 500)), (1, .int (J a1)), (2, .int (J a2)), (4, .int (J 1))] ⟨rfl, rfl, rfl, rfl, trivial⟩ ?_
    exact ih_X12_makesPatch_65 hL _ _ (a1) (a2) (1) _ _ H
set_option maxHeartbeats 4000000 in
set_option maxRecDepth 20000 in
theorem t_X12_makesPatch_65 {l : Launch} {Z : XZ} {L : Nat → Nat} (n : Nat) (ih_X12_makesPatch_0 : P_X12_makesPatch_0 l Z L n) (ih_X12_makesPatch_65 : P_X12_makesPatch_65 l Z L n) : P_X12_makesPatch_65 l Z L (n + 1) := by
  intro hL d S a1 a2 a4 x S1 H
  have H : b_X12_makesPatch_65 n d (f_X12_makesPatch n) S a1 a2 a4 = some (x, S1) := H
  unfold b_X12_makesPatch_65 at H
  refine GA.iload dX12_makesPatch_65 rfl ?_
  obtain ⟨hg1, H⟩ := gg_e H
  refine GV.if_le (tgt := 223) hg1 dX12_makesPatch_67 (by decide) (fun c2 => ?_) (fun c2 => ?_)
  · have H := it_t H c2
    cases H
    exact GA.vret rfl dX12_makesPatch_223 (by omega) (by omega) ⟨rfl, rfl⟩
  · have H := it_f H c2
    refine GA.aload_n dX12_makesPatch_70 rfl ?_
    refine GA.get xf_X12_309 dX12_makesPatch_71 (gs_500 hL) (by decide) rfl ?_
    refine GA.iload dX12_makesPatch_74 rfl ?_
    refine GA.iconst dX12_makesPatch_76 ?_
    obtain ⟨x3, hx4, H⟩ := gv_e H
    refine GV.isub hx4 dX12_makesPatch_77 ?_
    obtain ⟨hg5, H⟩ := gg_e H
    obtain ⟨x6, hx7, H⟩ := gv_e H
    refine GV.iald hg5 hx7 dX12_makesPatch_78 (gs_525 hL) (by decide) ?_
    refine GA.istore dX12_makesPatch_79 (by decide) ?_
    refine GA.aload_n dX12_makesPatch_81 rfl ?_
    refine GA.get xf_X12_312 dX12_makesPatch_82 (gs_500 hL) (by decide) rfl ?_
    refine GA.iload dX12_makesPatch_85 rfl ?_
    refine GA.iconst dX12_makesPatch_87 ?_
    obtain ⟨x8, hx9, H⟩ := gv_e H
    refine GV.isub hx9 dX12_makesPatch_88 ?_
    obtain ⟨hg10, H⟩ := gg_e H
    obtain ⟨x11, hx12, H⟩ := gv_e H
    refine GV.iald hg10 hx12 dX12_makesPatch_89 (gs_526 hL) (by decide) ?_
    refine GA.istore dX12_makesPatch_90 (by decide) ?_
    refine GA.aload_n dX12_makesPatch_92 rfl ?_
    refine GA.get xf_X12_315 dX12_makesPatch_93 (gs_500 hL) (by decide) rfl ?_
    refine GA.iload dX12_makesPatch_96 rfl ?_
    refine GA.iconst dX12_makesPatch_98 ?_
    obtain ⟨x13, hx14, H⟩ := gv_e H
    refine GV.isub hx14 dX12_makesPatch_99 ?_
    obtain ⟨hg15, H⟩ := gg_e H
    obtain ⟨x16, hx17, H⟩ := gv_e H
    refine GV.iald hg15 hx17 dX12_makesPatch_100 (gs_527 hL) (by decide) ?_
    refine GA.istore dX12_makesPatch_101 (by decide) ?_
    refine GA.iload dX12_makesPatch_103 rfl ?_
    refine GA.aload_n dX12_makesPatch_105 rfl ?_
    refine GA.iload_n dX12_makesPatch_106 rfl ?_
    refine GA.iload dX12_makesPatch_107 rfl ?_
    obtain ⟨hg18, H⟩ := gg_e H
    obtain ⟨x19, S_20, hc21, H⟩ := gc_e H
    refine GA.callV (m_X12_endOf hL hc21) xs_X12_49 dX12_makesPatch_109 (gs_500 hL) (by decide) rfl rfl (by omega) (by decide) rfl (Nat.le_of_ble_eq_true rfl) (by omega) (by omega) rfl (fun E S9 hx => hx.elim) (fun v S9 hq => ?_)
    obtain ⟨rfl, rfl⟩ := hq
    obtain ⟨hg22, H⟩ := gg_e H
    obtain ⟨hg23, H⟩ := gg_e H
    refine GV.icmp_ne (tgt := 131) hg22 hg23 dX12_makesPatch_112 (by decide) (fun c24 => ?_) (fun c24 => ?_)
    · have H := it_t H c24
      refine GA.aload_n dX12_makesPatch_131 rfl ?_
      refine GA.get xf_X12_315 dX12_makesPatch_132 (gs_500 hL) (by decide) rfl ?_
      refine GA.iload dX12_makesPatch_135 rfl ?_
      refine GA.iconst dX12_makesPatch_137 ?_
      obtain ⟨x25, hx26, H⟩ := gv_e H
      refine GV.isub hx26 dX12_makesPatch_138 ?_
      refine GA.aload_n dX12_makesPatch_139 rfl ?_
      refine GA.iload_n dX12_makesPatch_140 rfl ?_
      refine GA.iload dX12_makesPatch_141 rfl ?_
      obtain ⟨x27, S_28, hc29, H⟩ := gc_e H
      refine GA.callV (m_X12_endOf hL hc29) xs_X12_49 dX12_makesPatch_143 (gs_500 hL) (by decide) rfl rfl (by omega) (by decide) rfl (Nat.le_of_ble_eq_true rfl) (by omega) (by omega) rfl (fun E S9 hx => hx.elim) (fun v S9 hq => ?_)
      obtain ⟨rfl, rfl⟩ := hq
      obtain ⟨hg30, H⟩ := gg_e H
      obtain ⟨S_31, hx32, H⟩ := gv_e H
      refine GV.iast hg30 hx32 dX12_makesPatch_146 (fun _ => (gs_527 hL)) (by decide) ?_
      refine GA.aload_n dX12_makesPatch_147 rfl ?_
      refine GA.iload_n dX12_makesPatch_148 rfl ?_
      refine GA.iload dX12_makesPatch_149 rfl ?_
      refine GA.iload_n dX12_makesPatch_151 rfl ?_
      refine GA.iload dX12_makesPatch_152 rfl ?_
      obtain ⟨x33, S_34, hc35, H⟩ := gc_e H
      refine GA.callV (m_X12_childLike hL hc35) xs_X12_732 dX12_makesPatch_154 (gs_500 hL) (by decide) rfl rfl (by omega) (by decide) rfl (Nat.le_of_ble_eq_true rfl) (by omega) (by omega) rfl (fun E S9 hx => hx.elim) (fun v S9 hq => ?_)
      obtain ⟨rfl, rfl⟩ := hq
      refine GA.istore dX12_makesPatch_157 (by decide) ?_
      refine GA.iload dX12_makesPatch_159 rfl ?_
      refine GA.iconst dX12_makesPatch_161 ?_
      obtain ⟨hg36, H⟩ := gg_e H
      refine GV.icmp_eq (tgt := 220) hg36 (by decide) dX12_makesPatch_162 (by decide) (fun c37 => ?_) (fun c37 => ?_)
      · have H := it_t H c37
        refine GA.goto (tgt := 65) dX12_makesPatch_220 (by decide) ?_
        refine GA.locals [(0, .ref (L 500)), (1, .int (J a1)), (2, .int (J a2)), (4, .int (J a4))] ⟨rfl, rfl, rfl, rfl, trivial⟩ ?_
        exact ih_X12_makesPatch_65 hL _ _ (a1) (a2) (a4) _ _ H
      · have H := it_f H c37
        refine GA.aload_n dX12_makesPatch_165 rfl ?_
        refine GA.iload_n dX12_makesPatch_166 rfl ?_
        refine GA.iload dX12_makesPatch_167 rfl ?_
        refine GA.iload_n dX12_makesPatch_169 rfl ?_
        refine GA.iload dX12_makesPatch_170 rfl ?_
        obtain ⟨x38, S_39, hc40, H⟩ := gc_e H
        refine GA.callV (m_X12_patches hL hc40) xs_X12_738 dX12_makesPatch_172 (gs_500 hL) (by decide) rfl rfl (by omega) (by decide) rfl (Nat.le_of_ble_eq_true rfl) (by omega) (by omega) rfl (fun E S9 hx => hx.elim) (fun v S9 hq => ?_)
        obtain ⟨rfl, rfl⟩ := hq
        obtain ⟨hg41, H⟩ := gg_e H
        refine GV.if_eq (tgt := 220) hg41 dX12_makesPatch_175 (by decide) (fun c42 => ?_) (fun c42 => ?_)
        · have H := it_t H c42
          refine GA.goto (tgt := 65) dX12_makesPatch_220 (by decide) ?_
          refine GA.locals [(0, .ref (L 500)), (1, .int (J a1)), (2, .int (J a2)), (4, .int (J a4))] ⟨rfl, rfl, rfl, rfl, trivial⟩ ?_
          exact ih_X12_makesPatch_65 hL _ _ (a1) (a2) (a4) _ _ H
        · have H := it_f H c42
          refine GA.aload_n dX12_makesPatch_178 rfl ?_
          refine GA.iload_n dX12_makesPatch_179 rfl ?_
          refine GA.iload dX12_makesPatch_180 rfl ?_
          refine GA.iload_n dX12_makesPatch_182 rfl ?_
          refine GA.iload dX12_makesPatch_183 rfl ?_
          obtain ⟨x43, S_44, hc45, H⟩ := gc_e H
          refine GA.callV (m_X12_removesKeys hL hc45) xs_X12_741 dX12_makesPatch_185 (gs_500 hL) (by decide) rfl rfl (by omega) (by decide) rfl (Nat.le_of_ble_eq_true rfl) (by omega) (by omega) rfl (fun E S9 hx => hx.elim) (fun v S9 hq => ?_)
          obtain ⟨rfl, rfl⟩ := hq
          refine GA.aload_n dX12_makesPatch_188 rfl ?_
          refine GA.get xf_X12_309 dX12_makesPatch_189 (gs_500 hL) (by decide) rfl ?_
          refine GA.iload dX12_makesPatch_192 rfl ?_
          refine GA.iload dX12_makesPatch_194 rfl ?_
          obtain ⟨hg46, H⟩ := gg_e H
          obtain ⟨S_47, hx48, H⟩ := gv_e H
          refine GV.iast hg46 hx48 dX12_makesPatch_196 (fun _ => (gs_525 hL)) (by decide) ?_
          refine GA.aload_n dX12_makesPatch_197 rfl ?_
          refine GA.get xf_X12_312 dX12_makesPatch_198 (gs_500 hL) (by decide) rfl ?_
          refine GA.iload dX12_makesPatch_201 rfl ?_
          refine GA.iload dX12_makesPatch_203 rfl ?_
          obtain ⟨S_49, hx50, H⟩ := gv_e H
          refine GV.iast hg46 hx50 dX12_makesPatch_205 (fun _ => (gs_526 hL)) (by decide) ?_
          refine GA.aload_n dX12_makesPatch_206 rfl ?_
          refine GA.get xf_X12_315 dX12_makesPatch_207 (gs_500 hL) (by decide) rfl ?_
          refine GA.iload dX12_makesPatch_210 rfl ?_
          refine GA.iload dX12_makesPatch_212 rfl ?_
          refine GA.iconst dX12_makesPatch_214 ?_
          obtain ⟨x51, hx52, H⟩ := gv_e H
          refine GV.iadd hx52 dX12_makesPatch_215 ?_
          obtain ⟨S_53, hx54, H⟩ := gv_e H
          refine GV.iast hg46 hx54 dX12_makesPatch_216 (fun _ => (gs_527 hL)) (by decide) ?_
          obtain ⟨x55, hx56, H⟩ := gv_e H
          refine GV.iinc hx56 dX12_makesPatch_217 rfl (by decide) ?_
          refine GA.goto (tgt := 65) dX12_makesPatch_220 (by decide) ?_
          refine GA.locals [(0, .ref (L 500)), (1, .int (J a1)), (2, .int (J a2)), (4, .int (J x55))] ⟨rfl, rfl, rfl, rfl, trivial⟩ ?_
          exact ih_X12_makesPatch_65 hL _ _ (a1) (a2) (x55) _ _ H
    · have H := it_f H c24
      refine GA.aload_n dX12_makesPatch_115 rfl ?_
      refine GA.iload_n dX12_makesPatch_116 rfl ?_
      refine GA.iload dX12_makesPatch_117 rfl ?_
      refine GA.iload_n dX12_makesPatch_119 rfl ?_
      refine GA.iload dX12_makesPatch_120 rfl ?_
      obtain ⟨x57, S_58, hc59, H⟩ := gc_e H
      refine GA.callV (m_X12_addsKeys hL hc59) xs_X12_744 dX12_makesPatch_122 (gs_500 hL) (by decide) rfl rfl (by omega) (by decide) rfl (Nat.le_of_ble_eq_true rfl) (by omega) (by omega) rfl (fun E S9 hx => hx.elim) (fun v S9 hq => ?_)
      obtain ⟨rfl, rfl⟩ := hq
      obtain ⟨x60, hx61, H⟩ := gv_e H
      refine GV.iinc hx61 dX12_makesPatch_125 rfl (by decide) ?_
      refine GA.goto (tgt := 220) dX12_makesPatch_128 (by decide) ?_
      refine GA.goto (tgt := 65) dX12_makesPatch_220 (by decide) ?_
      refine GA.locals [(0, .ref (L 500)), (1, .int (J a1)), (2, .int (J a2)), (4, .int (J x60))] ⟨rfl, rfl, rfl, rfl, trivial⟩ ?_
      exact ih_X12_makesPatch_65 hL _ _ (a1) (a2) (x60) _ _ H
theorem g_X12_makesPatch {l : Launch} {Z : XZ} {L : Nat → Nat} : ∀ n, P_X12_makesPatch_0 l Z L n ∧ P_X12_makesPatch_65 l Z L n
  | 0 => ⟨fun _ _ _ _ _ _ _ H => no_e H, fun _ _ _ _ _ _ _ _ H => no_e H⟩
  | n + 1 => have ⟨h0, h1⟩ := g_X12_makesPatch (l := l) (Z := Z) (L := L) n
    ⟨t_X12_makesPatch_0 n h0 h1, t_X12_makesPatch_65 n h0 h1⟩
theorem m_X12_makesPatch {l : Launch} {Z : XZ} {L : Nat → Nat} (hL : L 700 = 1) {n d : Nat} {S : GS} {a1 : Int} {a2 : Int} {x : Int} {S1 : GS} (H : f_X12_makesPatch n d 0 S [a1, a2] = some (x, S1)) : GM l Z L yX12_makesPatch cX12_makesPatch 9 none [] d 0 0 [.ref (L 500), .int (J a1), .int (J a2)] S (fun v S' => v = none ∧ S1 = S') (fun _ _ => False) := GM.of (by decide) (Nat.le_of_ble_eq_true rfl) ((g_X12_makesPatch n).1 hL _ _ _ _ _ _ H)

def P_X12_meets_0 (l : Launch) (Z : XZ) (L : Nat → Nat) (n : Nat) : Prop := ∀ (hL : L 700 = 1), ∀ (d : Nat) (S : GS) (a1 : Int) (x : Int) (S1 : GS), f_X12_meets n d 0 S [a1] = some (x, S1) → GA l Z L yX12_meets cX12_meets 2 none [] d 0 0 (fun v S' => v = none ∧ S1 = S') (fun _ _ => False) 0 (gl [(0, .ref (L 500)), (1, .int (J a1))]) [] S 0 0
theorem i_X12_meets {l : Launch} {Z : XZ} {L : Nat → Nat} (hL : L 700 = 1) {n : Nat} (ih : P_X12_meets_0 l Z L n) {d : Nat} {S : GS} {a1 : Int} {x : Int} {S1 : GS} (H : f_X12_meets n d 0 S [a1] = some (x, S1)) : GM l Z L yX12_meets cX12_meets 2 none [] d 0 0 [.ref (L 500), .int (J a1)] S (fun v S' => v = none ∧ S1 = S') (fun _ _ => False) := GM.of (by decide) (Nat.le_of_ble_eq_true rfl) (ih hL _ _ _ _ _ H)
set_option maxHeartbeats 4000000 in
set_option maxRecDepth 20000 in
theorem t_X12_meets_0 {l : Launch} {Z : XZ} {L : Nat → Nat} (n : Nat) (ih_X12_meets_0 : P_X12_meets_0 l Z L n) : P_X12_meets_0 l Z L (n + 1) := by
  intro hL d S a1 x S1 H
  have H : b_X12_meets_0 n d (f_X12_meets n) S a1 = some (x, S1) := H
  unfold b_X12_meets_0 at H
  refine GA.aload_n dX12_meets_0 rfl ?_
  refine GA.get xf_X12_284 dX12_meets_1 (gs_500 hL) (by decide) rfl ?_
  refine GA.iload_n dX12_meets_4 rfl ?_
  obtain ⟨hg1, H⟩ := gg_e H
  obtain ⟨x2, hx3, H⟩ := gv_e H
  refine GV.zald hg1 hx3 dX12_meets_5 (gs_521 hL) (by decide) ?_
  obtain ⟨hg4, H⟩ := gg_e H
  refine GV.if_ne (tgt := 36) hg4 dX12_meets_6 (by decide) (fun c5 => ?_) (fun c5 => ?_)
  · have H := it_t H c5
    cases H
    exact GA.vret rfl dX12_meets_36 (by omega) (by omega) ⟨rfl, rfl⟩
  · have H := it_f H c5
    refine GA.aload_n dX12_meets_9 rfl ?_
    refine GA.get xf_X12_284 dX12_meets_10 (gs_500 hL) (by decide) rfl ?_
    refine GA.iload_n dX12_meets_13 rfl ?_
    refine GA.iconst dX12_meets_14 ?_
    obtain ⟨S_6, hx7, H⟩ := gv_e H
    refine GV.zast hg1 (by decide) hx7 dX12_meets_15 (fun _ => (gs_521 hL)) (by decide) ?_
    refine GA.aload_n dX12_meets_16 rfl ?_
    refine GA.get xf_X12_281 dX12_meets_17 (gs_500 hL) (by decide) rfl ?_
    refine GA.aload_n dX12_meets_20 rfl ?_
    obtain ⟨x8, hx9, H⟩ := gv_e H
    refine GV.getI hx9 xf_X12_629 dX12_meets_21 (gs_500 hL) (by decide) rfl ?_
    refine GA.iload_n dX12_meets_24 rfl ?_
    obtain ⟨hg10, H⟩ := gg_e H
    obtain ⟨S_11, hx12, H⟩ := gv_e H
    refine GV.iast hg10 hx12 dX12_meets_25 (fun _ => (gs_520 hL)) (by decide) ?_
    refine GA.aload_n dX12_meets_26 rfl ?_
    refine GA.dup dX12_meets_27 rfl ?_
    obtain ⟨x13, hx14, H⟩ := gv_e H
    refine GV.getI hx14 xf_X12_629 dX12_meets_28 (gs_500 hL) (by decide) rfl ?_
    refine GA.iconst dX12_meets_31 ?_
    obtain ⟨x15, hx16, H⟩ := gv_e H
    refine GV.iadd hx16 dX12_meets_32 ?_
    obtain ⟨S_17, hx18, H⟩ := gv_e H
    refine GV.putI hx18 (xp_X12_629 _) dX12_meets_33 (gs_500 hL) (by decide) (Nat.le_of_ble_eq_true rfl) (gs_500 hL) ?_
    cases H
    exact GA.vret rfl dX12_meets_36 (by omega) (by omega) ⟨rfl, rfl⟩
theorem g_X12_meets {l : Launch} {Z : XZ} {L : Nat → Nat} : ∀ n, P_X12_meets_0 l Z L n
  | 0 => fun _ _ _ _ _ _ H => no_e H
  | n + 1 => t_X12_meets_0 n (g_X12_meets n)
theorem m_X12_meets {l : Launch} {Z : XZ} {L : Nat → Nat} (hL : L 700 = 1) {n d : Nat} {S : GS} {a1 : Int} {x : Int} {S1 : GS} (H : f_X12_meets n d 0 S [a1] = some (x, S1)) : GM l Z L yX12_meets cX12_meets 2 none [] d 0 0 [.ref (L 500), .int (J a1)] S (fun v S' => v = none ∧ S1 = S') (fun _ _ => False) := GM.of (by decide) (Nat.le_of_ble_eq_true rfl) ((g_X12_meets n) hL _ _ _ _ _ H)

def P_X12_node_0 (l : Launch) (Z : XZ) (L : Nat → Nat) (n : Nat) : Prop := ∀ (hL : L 700 = 1), ∀ (d : Nat) (S : GS) (a1 : Int) (a2 : Int) (a3 : Int) (x : Int) (S1 : GS), f_X12_node n d 0 S [a1, a2, a3] = some (x, S1) → GA l Z L yX12_node cX12_node 5 (some .int) [] d 0 0 (fun v S' => v = some (.int (J x)) ∧ S1 = S') (fun _ _ => False) 0 (gl [(0, .ref (L 500)), (1, .int (J a1)), (2, .int (J a2)), (3, .int (J a3))]) [] S 0 0
theorem i_X12_node {l : Launch} {Z : XZ} {L : Nat → Nat} (hL : L 700 = 1) {n : Nat} (ih : P_X12_node_0 l Z L n) {d : Nat} {S : GS} {a1 : Int} {a2 : Int} {a3 : Int} {x : Int} {S1 : GS} (H : f_X12_node n d 0 S [a1, a2, a3] = some (x, S1)) : GM l Z L yX12_node cX12_node 5 (some .int) [] d 0 0 [.ref (L 500), .int (J a1), .int (J a2), .int (J a3)] S (fun v S' => v = some (.int (J x)) ∧ S1 = S') (fun _ _ => False) := GM.of (by decide) (Nat.le_of_ble_eq_true rfl) (ih hL _ _ _ _ _ _ _ H)
set_option maxHeartbeats 4000000 in
set_option maxRecDepth 20000 in
theorem t_X12_node_0 {l : Launch} {Z : XZ} {L : Nat → Nat} (n : Nat) (ih_X12_node_0 : P_X12_node_0 l Z L n) : P_X12_node_0 l Z L (n + 1) := by
  intro hL d S a1 a2 a3 x S1 H
  have H : b_X12_node_0 n d (f_X12_node n) S a1 a2 a3 = some (x, S1) := H
  unfold b_X12_node_0 at H
  refine GA.aload_n dX12_node_0 rfl ?_
  refine GA.aload_n dX12_node_1 rfl ?_
  refine GA.iload_n dX12_node_2 rfl ?_
  refine GA.iload_n dX12_node_3 rfl ?_
  obtain ⟨hg1, H⟩ := gg_e H
  obtain ⟨x2, S_3, hc4, H⟩ := gc_e H
  refine GA.callV (m_X12_isNode hL hc4) xs_X12_580 dX12_node_4 (gs_500 hL) (by decide) rfl rfl (by omega) (by decide) rfl (Nat.le_of_ble_eq_true rfl) (by omega) (by omega) rfl (fun E S9 hx => hx.elim) (fun v S9 hq => ?_)
  obtain ⟨rfl, rfl⟩ := hq
  refine GA.iconst dX12_node_7 ?_
  obtain ⟨x5, S_6, hc7, H⟩ := gc_e H
  refine GA.callV (m_X12_fails hL hc7) xs_X12_456 dX12_node_8 (gs_500 hL) (by decide) rfl rfl (by omega) (by decide) rfl (Nat.le_of_ble_eq_true rfl) (by omega) (by omega) rfl (fun E S9 hx => hx.elim) (fun v S9 hq => ?_)
  obtain ⟨rfl, rfl⟩ := hq
  obtain ⟨hg8, H⟩ := gg_e H
  refine GV.if_ne (tgt := 29) hg8 dX12_node_11 (by decide) (fun c9 => ?_) (fun c9 => ?_)
  · have H := it_t H c9
    refine GA.iconst dX12_node_29 ?_
    cases H
    exact GA.iret rfl dX12_node_30 (by omega) (by omega) ⟨rfl, rfl⟩
  · have H := it_f H c9
    refine GA.aload_n dX12_node_14 rfl ?_
    refine GA.iload_n dX12_node_15 rfl ?_
    refine GA.iconst dX12_node_16 ?_
    refine GA.bipush dX12_node_17 rfl ?_
    obtain ⟨x10, S_11, hc12, H⟩ := gc_e H
    refine GA.callS (m_X12_in hL hc12) xs_X12_18 dX12_node_19 rfl (by omega) (by decide) rfl (Nat.le_of_ble_eq_true rfl) (by omega) (by omega) rfl (fun E S9 hx => hx.elim) (fun v S9 hq => ?_)
    obtain ⟨rfl, rfl⟩ := hq
    refine GA.iconst dX12_node_22 ?_
    obtain ⟨x13, S_14, hc15, H⟩ := gc_e H
    refine GA.callV (m_X12_fails hL hc15) xs_X12_456 dX12_node_23 (gs_500 hL) (by decide) rfl rfl (by omega) (by decide) rfl (Nat.le_of_ble_eq_true rfl) (by omega) (by omega) rfl (fun E S9 hx => hx.elim) (fun v S9 hq => ?_)
    obtain ⟨rfl, rfl⟩ := hq
    obtain ⟨hg16, H⟩ := gg_e H
    refine GV.if_eq (tgt := 31) hg16 dX12_node_26 (by decide) (fun c17 => ?_) (fun c17 => ?_)
    · have H := it_t H c17
      refine GA.aload_n dX12_node_31 rfl ?_
      refine GA.iload_n dX12_node_32 rfl ?_
      refine GA.iload_n dX12_node_33 rfl ?_
      obtain ⟨x18, S_19, hc20, H⟩ := gc_e H
      refine GA.callV (m_X12_kind hL hc20) xs_X12_52 dX12_node_34 (gs_500 hL) (by decide) rfl rfl (by omega) (by decide) rfl (Nat.le_of_ble_eq_true rfl) (by omega) (by omega) rfl (fun E S9 hx => hx.elim) (fun v S9 hq => ?_)
      obtain ⟨rfl, rfl⟩ := hq
      refine GA.istore dX12_node_37 (by decide) ?_
      refine GA.iload_n dX12_node_39 rfl ?_
      obtain ⟨hg21, H⟩ := gg_e H
      by_cases c22 : a3 = 0
      · have H := it_t H c22
        refine GA.tableIn (tgt := 92) dX12_node_40 hg21 (by omega) (by omega) (by rw [c22] <;> rfl) (by decide) ?_
        refine GA.iload dX12_node_92 rfl ?_
        cases H
        exact GA.iret rfl dX12_node_94 (by omega) (by omega) ⟨rfl, rfl⟩
      have H := it_f H c22
      by_cases c23 : a3 = 1
      · have H := it_t H c23
        refine GA.tableIn (tgt := 95) dX12_node_40 hg21 (by omega) (by omega) (by rw [c23] <;> rfl) (by decide) ?_
        refine GA.aload_n dX12_node_95 rfl ?_
        refine GA.iload_n dX12_node_96 rfl ?_
        refine GA.iload_n dX12_node_97 rfl ?_
        obtain ⟨x24, S_25, hc26, H⟩ := gc_e H
        refine GA.callV (m_X12_deepOf hL hc26) xs_X12_59 dX12_node_98 (gs_500 hL) (by decide) rfl rfl (by omega) (by decide) rfl (Nat.le_of_ble_eq_true rfl) (by omega) (by omega) rfl (fun E S9 hx => hx.elim) (fun v S9 hq => ?_)
        obtain ⟨rfl, rfl⟩ := hq
        cases H
        exact GA.iret rfl dX12_node_101 (by omega) (by omega) ⟨rfl, rfl⟩
      have H := it_f H c23
      by_cases c27 : a3 = 2
      · have H := it_t H c27
        refine GA.tableIn (tgt := 102) dX12_node_40 hg21 (by omega) (by omega) (by rw [c27] <;> rfl) (by decide) ?_
        refine GA.aload_n dX12_node_102 rfl ?_
        refine GA.iload_n dX12_node_103 rfl ?_
        refine GA.iload_n dX12_node_104 rfl ?_
        refine GA.iconst dX12_node_105 ?_
        obtain ⟨x28, S_29, hc30, H⟩ := gc_e H
        refine GA.callV (m_X12_part hL hc30) xs_X12_36 dX12_node_106 (gs_500 hL) (by decide) rfl rfl (by omega) (by decide) rfl (Nat.le_of_ble_eq_true rfl) (by omega) (by omega) rfl (fun E S9 hx => hx.elim) (fun v S9 hq => ?_)
        obtain ⟨rfl, rfl⟩ := hq
        cases H
        exact GA.iret rfl dX12_node_109 (by omega) (by omega) ⟨rfl, rfl⟩
      have H := it_f H c27
      by_cases c31 : a3 = 3
      · have H := it_t H c31
        refine GA.tableIn (tgt := 110) dX12_node_40 hg21 (by omega) (by omega) (by rw [c31] <;> rfl) (by decide) ?_
        refine GA.iload dX12_node_110 rfl ?_
        refine GA.iconst dX12_node_112 ?_
        obtain ⟨hg32, H⟩ := gg_e H
        refine GV.icmp_ge (tgt := 120) hg32 (by decide) dX12_node_113 (by decide) (fun c33 => ?_) (fun c33 => ?_)
        · have H := it_t H c33
          refine GA.iload dX12_node_120 rfl ?_
          refine GA.iconst dX12_node_122 ?_
          refine GV.icmp_ne (tgt := 137) hg32 (by decide) dX12_node_123 (by decide) (fun c34 => ?_) (fun c34 => ?_)
          · have H := it_t H c34
            refine GA.aload_n dX12_node_137 rfl ?_
            refine GA.iload_n dX12_node_138 rfl ?_
            refine GA.iload_n dX12_node_139 rfl ?_
            refine GA.iconst dX12_node_140 ?_
            obtain ⟨x35, S_36, hc37, H⟩ := gc_e H
            refine GA.callV (m_X12_part hL hc37) xs_X12_36 dX12_node_141 (gs_500 hL) (by decide) rfl rfl (by omega) (by decide) rfl (Nat.le_of_ble_eq_true rfl) (by omega) (by omega) rfl (fun E S9 hx => hx.elim) (fun v S9 hq => ?_)
            obtain ⟨rfl, rfl⟩ := hq
            cases H
            exact GA.iret rfl dX12_node_144 (by omega) (by omega) ⟨rfl, rfl⟩
          · have H := it_f H c34
            refine GA.aload_n dX12_node_126 rfl ?_
            refine GA.iload_n dX12_node_127 rfl ?_
            refine GA.iload_n dX12_node_128 rfl ?_
            refine GA.bipush dX12_node_129 rfl ?_
            obtain ⟨x38, S_39, hc40, H⟩ := gc_e H
            refine GA.callV (m_X12_part hL hc40) xs_X12_36 dX12_node_131 (gs_500 hL) (by decide) rfl rfl (by omega) (by decide) rfl (Nat.le_of_ble_eq_true rfl) (by omega) (by omega) rfl (fun E S9 hx => hx.elim) (fun v S9 hq => ?_)
            obtain ⟨rfl, rfl⟩ := hq
            refine GA.goto (tgt := 144) dX12_node_134 (by decide) ?_
            cases H
            exact GA.iret rfl dX12_node_144 (by omega) (by omega) ⟨rfl, rfl⟩
        · have H := it_f H c33
          refine GA.iconst dX12_node_116 ?_
          refine GA.goto (tgt := 144) dX12_node_117 (by decide) ?_
          cases H
          exact GA.iret rfl dX12_node_144 (by omega) (by omega) ⟨rfl, rfl⟩
      have H := it_f H c31
      by_cases c41 : a3 = 4
      · have H := it_t H c41
        refine GA.tableIn (tgt := 145) dX12_node_40 hg21 (by omega) (by omega) (by rw [c41] <;> rfl) (by decide) ?_
        refine GA.iload dX12_node_145 rfl ?_
        refine GA.iconst dX12_node_147 ?_
        obtain ⟨hg42, H⟩ := gg_e H
        refine GV.icmp_ne (tgt := 162) hg42 (by decide) dX12_node_148 (by decide) (fun c43 => ?_) (fun c43 => ?_)
        · have H := it_t H c43
          refine GA.iconst dX12_node_162 ?_
          cases H
          exact GA.iret rfl dX12_node_163 (by omega) (by omega) ⟨rfl, rfl⟩
        · have H := it_f H c43
          refine GA.aload_n dX12_node_151 rfl ?_
          refine GA.iload_n dX12_node_152 rfl ?_
          refine GA.iload_n dX12_node_153 rfl ?_
          refine GA.bipush dX12_node_154 rfl ?_
          obtain ⟨x44, S_45, hc46, H⟩ := gc_e H
          refine GA.callV (m_X12_part hL hc46) xs_X12_36 dX12_node_156 (gs_500 hL) (by decide) rfl rfl (by omega) (by decide) rfl (Nat.le_of_ble_eq_true rfl) (by omega) (by omega) rfl (fun E S9 hx => hx.elim) (fun v S9 hq => ?_)
          obtain ⟨rfl, rfl⟩ := hq
          refine GA.goto (tgt := 163) dX12_node_159 (by decide) ?_
          cases H
          exact GA.iret rfl dX12_node_163 (by omega) (by omega) ⟨rfl, rfl⟩
      have H := it_f H c41
      by_cases c47 : a3 = 5
      · have H := it_t H c47
        refine GA.tableIn (tgt := 164) dX12_node_40 hg21 (by omega) (by omega) (by rw [c47] <;> rfl) (by decide) ?_
        refine GA.iload dX12_node_164 rfl ?_
        refine GA.iconst dX12_node_166 ?_
        obtain ⟨hg48, H⟩ := gg_e H
        refine GV.icmp_ne (tgt := 181) hg48 (by decide) dX12_node_167 (by decide) (fun c49 => ?_) (fun c49 => ?_)
        · have H := it_t H c49
          refine GA.iconst dX12_node_181 ?_
          cases H
          exact GA.iret rfl dX12_node_182 (by omega) (by omega) ⟨rfl, rfl⟩
        · have H := it_f H c49
          refine GA.aload_n dX12_node_170 rfl ?_
          refine GA.iload_n dX12_node_171 rfl ?_
          refine GA.iload_n dX12_node_172 rfl ?_
          refine GA.bipush dX12_node_173 rfl ?_
          obtain ⟨x50, S_51, hc52, H⟩ := gc_e H
          refine GA.callV (m_X12_part hL hc52) xs_X12_36 dX12_node_175 (gs_500 hL) (by decide) rfl rfl (by omega) (by decide) rfl (Nat.le_of_ble_eq_true rfl) (by omega) (by omega) rfl (fun E S9 hx => hx.elim) (fun v S9 hq => ?_)
          obtain ⟨rfl, rfl⟩ := hq
          refine GA.goto (tgt := 182) dX12_node_178 (by decide) ?_
          cases H
          exact GA.iret rfl dX12_node_182 (by omega) (by omega) ⟨rfl, rfl⟩
      have H := it_f H c47
      by_cases c53 : a3 = 6
      · have H := it_t H c53
        refine GA.tableIn (tgt := 183) dX12_node_40 hg21 (by omega) (by omega) (by rw [c53] <;> rfl) (by decide) ?_
        refine GA.iload dX12_node_183 rfl ?_
        refine GA.iconst dX12_node_185 ?_
        obtain ⟨hg54, H⟩ := gg_e H
        refine GV.icmp_ne (tgt := 200) hg54 (by decide) dX12_node_186 (by decide) (fun c55 => ?_) (fun c55 => ?_)
        · have H := it_t H c55
          refine GA.iconst dX12_node_200 ?_
          cases H
          exact GA.iret rfl dX12_node_201 (by omega) (by omega) ⟨rfl, rfl⟩
        · have H := it_f H c55
          refine GA.aload_n dX12_node_189 rfl ?_
          refine GA.iload_n dX12_node_190 rfl ?_
          refine GA.iload_n dX12_node_191 rfl ?_
          refine GA.bipush dX12_node_192 rfl ?_
          obtain ⟨x56, S_57, hc58, H⟩ := gc_e H
          refine GA.callV (m_X12_part hL hc58) xs_X12_36 dX12_node_194 (gs_500 hL) (by decide) rfl rfl (by omega) (by decide) rfl (Nat.le_of_ble_eq_true rfl) (by omega) (by omega) rfl (fun E S9 hx => hx.elim) (fun v S9 hq => ?_)
          obtain ⟨rfl, rfl⟩ := hq
          refine GA.goto (tgt := 201) dX12_node_197 (by decide) ?_
          cases H
          exact GA.iret rfl dX12_node_201 (by omega) (by omega) ⟨rfl, rfl⟩
      have H := it_f H c53
      by_cases c59 : a3 = 7
      · have H := it_t H c59
        refine GA.tableIn (tgt := 202) dX12_node_40 hg21 (by omega) (by omega) (by rw [c59] <;> rfl) (by decide) ?_
        refine GA.iload dX12_node_202 rfl ?_
        refine GA.iconst dX12_node_204 ?_
        obtain ⟨hg60, H⟩ := gg_e H
        refine GV.icmp_ne (tgt := 219) hg60 (by decide) dX12_node_205 (by decide) (fun c61 => ?_) (fun c61 => ?_)
        · have H := it_t H c61
          refine GA.iconst dX12_node_219 ?_
          cases H
          exact GA.iret rfl dX12_node_220 (by omega) (by omega) ⟨rfl, rfl⟩
        · have H := it_f H c61
          refine GA.aload_n dX12_node_208 rfl ?_
          refine GA.iload_n dX12_node_209 rfl ?_
          refine GA.iload_n dX12_node_210 rfl ?_
          refine GA.bipush dX12_node_211 rfl ?_
          obtain ⟨x62, S_63, hc64, H⟩ := gc_e H
          refine GA.callV (m_X12_part hL hc64) xs_X12_36 dX12_node_213 (gs_500 hL) (by decide) rfl rfl (by omega) (by decide) rfl (Nat.le_of_ble_eq_true rfl) (by omega) (by omega) rfl (fun E S9 hx => hx.elim) (fun v S9 hq => ?_)
          obtain ⟨rfl, rfl⟩ := hq
          refine GA.goto (tgt := 220) dX12_node_216 (by decide) ?_
          cases H
          exact GA.iret rfl dX12_node_220 (by omega) (by omega) ⟨rfl, rfl⟩
      have H := it_f H c59
      by_cases c65 : a3 = 8
      · have H := it_t H c65
        refine GA.tableIn (tgt := 221) dX12_node_40 hg21 (by omega) (by omega) (by rw [c65] <;> rfl) (by decide) ?_
        refine GA.aload_n dX12_node_221 rfl ?_
        refine GA.iload_n dX12_node_222 rfl ?_
        refine GA.iload_n dX12_node_223 rfl ?_
        refine GA.iconst dX12_node_224 ?_
        obtain ⟨x66, S_67, hc68, H⟩ := gc_e H
        refine GA.callV (m_X12_part hL hc68) xs_X12_36 dX12_node_225 (gs_500 hL) (by decide) rfl rfl (by omega) (by decide) rfl (Nat.le_of_ble_eq_true rfl) (by omega) (by omega) rfl (fun E S9 hx => hx.elim) (fun v S9 hq => ?_)
        obtain ⟨rfl, rfl⟩ := hq
        cases H
        exact GA.iret rfl dX12_node_228 (by omega) (by omega) ⟨rfl, rfl⟩
      have H := it_f H c65
      refine GA.tableOut (tgt := 229) dX12_node_40 hg21 (by omega) (by decide) ?_
      refine GA.aload_n dX12_node_229 rfl ?_
      refine GA.iload_n dX12_node_230 rfl ?_
      refine GA.iload_n dX12_node_231 rfl ?_
      refine GA.iconst dX12_node_232 ?_
      obtain ⟨x69, S_70, hc71, H⟩ := gc_e H
      refine GA.callV (m_X12_part hL hc71) xs_X12_36 dX12_node_233 (gs_500 hL) (by decide) rfl rfl (by omega) (by decide) rfl (Nat.le_of_ble_eq_true rfl) (by omega) (by omega) rfl (fun E S9 hx => hx.elim) (fun v S9 hq => ?_)
      obtain ⟨rfl, rfl⟩ := hq
      cases H
      exact GA.iret rfl dX12_node_236 (by omega) (by omega) ⟨rfl, rfl⟩
    · have H := it_f H c17
      refine GA.iconst dX12_node_29 ?_
      cases H
      exact GA.iret rfl dX12_node_30 (by omega) (by omega) ⟨rfl, rfl⟩
theorem g_X12_node {l : Launch} {Z : XZ} {L : Nat → Nat} : ∀ n, P_X12_node_0 l Z L n
  | 0 => fun _ _ _ _ _ _ _ _ H => no_e H
  | n + 1 => t_X12_node_0 n (g_X12_node n)
theorem m_X12_node {l : Launch} {Z : XZ} {L : Nat → Nat} (hL : L 700 = 1) {n d : Nat} {S : GS} {a1 : Int} {a2 : Int} {a3 : Int} {x : Int} {S1 : GS} (H : f_X12_node n d 0 S [a1, a2, a3] = some (x, S1)) : GM l Z L yX12_node cX12_node 5 (some .int) [] d 0 0 [.ref (L 500), .int (J a1), .int (J a2), .int (J a3)] S (fun v S' => v = some (.int (J x)) ∧ S1 = S') (fun _ _ => False) := GM.of (by decide) (Nat.le_of_ble_eq_true rfl) ((g_X12_node n) hL _ _ _ _ _ _ _ H)

def P_X12_onPaper_0 (l : Launch) (Z : XZ) (L : Nat → Nat) (n : Nat) : Prop := ∀ (hL : L 700 = 1), ∀ (d : Nat) (S : GS) (x : Int) (S1 : GS), f_X12_onPaper n d 0 S [] = some (x, S1) → GA l Z L yX12_onPaper cX12_onPaper 2 (some .int) [] d 0 0 (fun v S' => v = some (.int (J x)) ∧ S1 = S') (fun _ _ => False) 0 (gl [(0, .ref (L 500))]) [] S 0 0
def P_X12_onPaper_12 (l : Launch) (Z : XZ) (L : Nat → Nat) (n : Nat) : Prop := ∀ (hL : L 700 = 1), ∀ (d : Nat) (S : GS) (a1 : Int) (x : Int) (S1 : GS), f_X12_onPaper n d 12 S [a1] = some (x, S1) → GA l Z L yX12_onPaper cX12_onPaper 2 (some .int) [] d 0 0 (fun v S' => v = some (.int (J x)) ∧ S1 = S') (fun _ _ => False) 12 (gl [(0, .ref (L 500)), (1, .int (J a1))]) [] S 0 0
theorem i_X12_onPaper {l : Launch} {Z : XZ} {L : Nat → Nat} (hL : L 700 = 1) {n : Nat} (ih : P_X12_onPaper_0 l Z L n) {d : Nat} {S : GS} {x : Int} {S1 : GS} (H : f_X12_onPaper n d 0 S [] = some (x, S1)) : GM l Z L yX12_onPaper cX12_onPaper 2 (some .int) [] d 0 0 [.ref (L 500)] S (fun v S' => v = some (.int (J x)) ∧ S1 = S') (fun _ _ => False) := GM.of (by decide) (Nat.le_of_ble_eq_true rfl) (ih hL _ _ _ _ H)
set_option maxHeartbeats 4000000 in
set_option maxRecDepth 20000 in
theorem t_X12_onPaper_0 {l : Launch} {Z : XZ} {L : Nat → Nat} (n : Nat) (ih_X12_onPaper_0 : P_X12_onPaper_0 l Z L n) (ih_X12_onPaper_12 : P_X12_onPaper_12 l Z L n) : P_X12_onPaper_0 l Z L (n + 1) := by
  intro hL d S  x S1 H
  have H : b_X12_onPaper_0 n d (f_X12_onPaper n) S  = some (x, S1) := H
  unfold b_X12_onPaper_0 at H
  refine GA.aload_n dX12_onPaper_0 rfl ?_
  refine GA.aload_n dX12_onPaper_1 rfl ?_
  refine GA.get xf_X12_272 dX12_onPaper_2 (gs_500 hL) (by decide) rfl ?_
  refine GA.iconst dX12_onPaper_5 ?_
  obtain ⟨hg1, H⟩ := gg_e H
  obtain ⟨x2, hx3, H⟩ := gv_e H
  refine GV.iald hg1 hx3 dX12_onPaper_6 (gs_517 hL) (by decide) ?_
  obtain ⟨S_4, hx5, H⟩ := gv_e H
  refine GV.putI hx5 (xp_X12_463 _) dX12_onPaper_7 (gs_500 hL) (by decide) (Nat.le_of_ble_eq_true rfl) (gs_500 hL) ?_
  refine GA.iconst dX12_onPaper_10 ?_
  refine GA.istore_n dX12_onPaper_11 (by decide) ?_
  refine GA.locals [(0, .ref (L 500)), (1, .int (J 0))] ⟨rfl, rfl, trivial⟩ ?_
  exact ih_X12_onPaper_12 hL _ _ (0) _ _ H
set_option maxHeartbeats 4000000 in
set_option maxRecDepth 20000 in
theorem t_X12_onPaper_12 {l : Launch} {Z : XZ} {L : Nat → Nat} (n : Nat) (ih_X12_onPaper_0 : P_X12_onPaper_0 l Z L n) (ih_X12_onPaper_12 : P_X12_onPaper_12 l Z L n) : P_X12_onPaper_12 l Z L (n + 1) := by
  intro hL d S a1 x S1 H
  have H : b_X12_onPaper_12 n d (f_X12_onPaper n) S a1 = some (x, S1) := H
  unfold b_X12_onPaper_12 at H
  refine GA.iload_n dX12_onPaper_12 rfl ?_
  refine GA.aload_n dX12_onPaper_13 rfl ?_
  obtain ⟨x1, hx2, H⟩ := gv_e H
  refine GV.getI hx2 xf_X12_463 dX12_onPaper_14 (gs_500 hL) (by decide) rfl ?_
  obtain ⟨hg3, H⟩ := gg_e H
  obtain ⟨hg4, H⟩ := gg_e H
  refine GV.icmp_ge (tgt := 38) hg3 hg4 dX12_onPaper_17 (by decide) (fun c5 => ?_) (fun c5 => ?_)
  · have H := it_t H c5
    refine GA.aload_n dX12_onPaper_38 rfl ?_
    obtain ⟨x6, hx7, H⟩ := gv_e H
    refine GV.getI hx7 xf_X12_463 dX12_onPaper_39 (gs_500 hL) (by decide) rfl ?_
    cases H
    exact GA.iret rfl dX12_onPaper_42 (by omega) (by omega) ⟨rfl, rfl⟩
  · have H := it_f H c5
    refine GA.aload_n dX12_onPaper_20 rfl ?_
    refine GA.get xf_X12_92 dX12_onPaper_21 (gs_500 hL) (by decide) rfl ?_
    refine GA.iload_n dX12_onPaper_24 rfl ?_
    refine GA.aload_n dX12_onPaper_25 rfl ?_
    refine GA.get xf_X12_269 dX12_onPaper_26 (gs_500 hL) (by decide) rfl ?_
    refine GA.iload_n dX12_onPaper_29 rfl ?_
    obtain ⟨hg8, H⟩ := gg_e H
    obtain ⟨x9, hx10, H⟩ := gv_e H
    refine GV.iald hg8 hx10 dX12_onPaper_30 (gs_516 hL) (by decide) ?_
    obtain ⟨hg11, H⟩ := gg_e H
    obtain ⟨S_12, hx13, H⟩ := gv_e H
    refine GV.iast hg11 hx13 dX12_onPaper_31 (fun _ => (gs_504 hL)) (by decide) ?_
    obtain ⟨x14, hx15, H⟩ := gv_e H
    refine GV.iinc hx15 dX12_onPaper_32 rfl (by decide) ?_
    refine GA.goto (tgt := 12) dX12_onPaper_35 (by decide) ?_
    refine GA.locals [(0, .ref (L 500)), (1, .int (J x14))] ⟨rfl, rfl, trivial⟩ ?_
    exact ih_X12_onPaper_12 hL _ _ (x14) _ _ H
theorem g_X12_onPaper {l : Launch} {Z : XZ} {L : Nat → Nat} : ∀ n, P_X12_onPaper_0 l Z L n ∧ P_X12_onPaper_12 l Z L n
  | 0 => ⟨fun _ _ _ _ _ H => no_e H, fun _ _ _ _ _ _ H => no_e H⟩
  | n + 1 => have ⟨h0, h1⟩ := g_X12_onPaper (l := l) (Z := Z) (L := L) n
    ⟨t_X12_onPaper_0 n h0 h1, t_X12_onPaper_12 n h0 h1⟩
theorem m_X12_onPaper {l : Launch} {Z : XZ} {L : Nat → Nat} (hL : L 700 = 1) {n d : Nat} {S : GS} {x : Int} {S1 : GS} (H : f_X12_onPaper n d 0 S [] = some (x, S1)) : GM l Z L yX12_onPaper cX12_onPaper 2 (some .int) [] d 0 0 [.ref (L 500)] S (fun v S' => v = some (.int (J x)) ∧ S1 = S') (fun _ _ => False) := GM.of (by decide) (Nat.le_of_ble_eq_true rfl) ((g_X12_onPaper n).1 hL _ _ _ _ H)

def P_X12_paper_0 (l : Launch) (Z : XZ) (L : Nat → Nat) (n : Nat) : Prop := ∀ (hL : L 700 = 1), ∀ (d : Nat) (S : GS) (a1 : Int) (a2 : Int) (x : Int) (S1 : GS), f_X12_paper n d 0 S [a1, a2] = some (x, S1) → GA l Z L yX12_paper cX12_paper 6 (some .long) [] d 0 0 (fun v S' => v = some (.long (K x)) ∧ S1 = S') (fun _ _ => False) 0 (gl [(0, .ref (L 500)), (1, .int (J a1)), (2, .int (J a2))]) [] S 0 0
def P_X12_paper_45 (l : Launch) (Z : XZ) (L : Nat → Nat) (n : Nat) : Prop := ∀ (hL : L 700 = 1), ∀ (d : Nat) (S : GS) (a1 : Int) (a2 : Int) (s0 : Int) (x : Int) (S1 : GS), f_X12_paper n d 45 S [a1, a2, s0] = some (x, S1) → GA l Z L yX12_paper cX12_paper 6 (some .long) [] d 0 0 (fun v S' => v = some (.long (K x)) ∧ S1 = S') (fun _ _ => False) 45 (gl [(0, .ref (L 500)), (1, .int (J a1)), (2, .int (J a2))]) [.int (J s0), .ref (L 500)] S 0 0
def P_X12_paper_59 (l : Launch) (Z : XZ) (L : Nat → Nat) (n : Nat) : Prop := ∀ (hL : L 700 = 1), ∀ (d : Nat) (S : GS) (a1 : Int) (a2 : Int) (a3 : Int) (a5 : Int) (x : Int) (S1 : GS), f_X12_paper n d 59 S [a1, a2, a3, a5] = some (x, S1) → GA l Z L yX12_paper cX12_paper 6 (some .long) [] d 0 0 (fun v S' => v = some (.long (K x)) ∧ S1 = S') (fun _ _ => False) 59 (gl [(0, .ref (L 500)), (1, .int (J a1)), (2, .int (J a2)), (3, .long (K a3)), (5, .int (J a5))]) [] S 0 0
theorem i_X12_paper {l : Launch} {Z : XZ} {L : Nat → Nat} (hL : L 700 = 1) {n : Nat} (ih : P_X12_paper_0 l Z L n) {d : Nat} {S : GS} {a1 : Int} {a2 : Int} {x : Int} {S1 : GS} (H : f_X12_paper n d 0 S [a1, a2] = some (x, S1)) : GM l Z L yX12_paper cX12_paper 6 (some .long) [] d 0 0 [.ref (L 500), .int (J a1), .int (J a2)] S (fun v S' => v = some (.long (K x)) ∧ S1 = S') (fun _ _ => False) := GM.of (by decide) (Nat.le_of_ble_eq_true rfl) (ih hL _ _ _ _ _ _ H)
set_option maxHeartbeats 4000000 in
set_option maxRecDepth 20000 in
theorem t_X12_paper_0 {l : Launch} {Z : XZ} {L : Nat → Nat} (n : Nat) (ih_X12_paper_0 : P_X12_paper_0 l Z L n) (ih_X12_paper_45 : P_X12_paper_45 l Z L n) (ih_X12_paper_59 : P_X12_paper_59 l Z L n) : P_X12_paper_0 l Z L (n + 1) := by
  intro hL d S a1 a2 x S1 H
  have H : b_X12_paper_0 n d (f_X12_paper n) S a1 a2 = some (x, S1) := H
  unfold b_X12_paper_0 at H
  refine GA.aload_n dX12_paper_0 rfl ?_
  refine GA.iload_n dX12_paper_1 rfl ?_
  refine GA.iconst dX12_paper_2 ?_
  refine GA.aload_n dX12_paper_3 rfl ?_
  obtain ⟨x1, hx2, H⟩ := gv_e H
  refine GV.getI hx2 xf_X12_463 dX12_paper_4 (gs_500 hL) (by decide) rfl ?_
  refine GA.iconst dX12_paper_7 ?_
  obtain ⟨x3, hx4, H⟩ := gv_e H
  refine GV.isub hx4 dX12_paper_8 ?_
  obtain ⟨hg5, H⟩ := gg_e H
  obtain ⟨x6, S_7, hc8, H⟩ := gc_e H
  refine GA.callS (m_X12_in hL hc8) xs_X12_18 dX12_paper_9 rfl (by omega) (by decide) rfl (Nat.le_of_ble_eq_true rfl) (by omega) (by omega) rfl (fun E S9 hx => hx.elim) (fun v S9 hq => ?_)
  obtain ⟨rfl, rfl⟩ := hq
  refine GA.iconst dX12_paper_12 ?_
  obtain ⟨x9, S_10, hc11, H⟩ := gc_e H
  refine GA.callV (m_X12_fails hL hc11) xs_X12_456 dX12_paper_13 (gs_500 hL) (by decide) rfl rfl (by omega) (by decide) rfl (Nat.le_of_ble_eq_true rfl) (by omega) (by omega) rfl (fun E S9 hx => hx.elim) (fun v S9 hq => ?_)
  obtain ⟨rfl, rfl⟩ := hq
  obtain ⟨hg12, H⟩ := gg_e H
  refine GV.if_ne (tgt := 52) hg12 dX12_paper_16 (by decide) (fun c13 => ?_) (fun c13 => ?_)
  · have H := it_t H c13
    refine GV.lconst (z := 0) (by decide) dX12_paper_52 ?_
    cases H
    exact GA.lret rfl dX12_paper_53 (by omega) (by omega) ⟨rfl, rfl⟩
  · have H := it_f H c13
    refine GA.aload_n dX12_paper_19 rfl ?_
    refine GA.iload_n dX12_paper_20 rfl ?_
    refine GA.iconst dX12_paper_21 ?_
    refine GA.bipush dX12_paper_22 rfl ?_
    obtain ⟨x14, S_15, hc16, H⟩ := gc_e H
    refine GA.callS (m_X12_in hL hc16) xs_X12_18 dX12_paper_24 rfl (by omega) (by decide) rfl (Nat.le_of_ble_eq_true rfl) (by omega) (by omega) rfl (fun E S9 hx => hx.elim) (fun v S9 hq => ?_)
    obtain ⟨rfl, rfl⟩ := hq
    obtain ⟨hg17, H⟩ := gg_e H
    refine GV.if_eq (tgt := 44) hg17 dX12_paper_27 (by decide) (fun c18 => ?_) (fun c18 => ?_)
    · have H := it_t H c18
      refine GA.iconst dX12_paper_44 ?_
      refine GA.locals [(0, .ref (L 500)), (1, .int (J a1)), (2, .int (J a2))] ⟨rfl, rfl, rfl, trivial⟩ ?_
      exact ih_X12_paper_45 hL _ _ (a1) (a2) (0) _ _ H
    · have H := it_f H c18
      refine GA.iload_n dX12_paper_30 rfl ?_
      refine GA.iload_n dX12_paper_31 rfl ?_
      obtain ⟨x19, hx20, H⟩ := gv_e H
      refine GV.iadd hx20 dX12_paper_32 ?_
      refine GA.aload_n dX12_paper_33 rfl ?_
      obtain ⟨x21, hx22, H⟩ := gv_e H
      refine GV.getI hx22 xf_X12_463 dX12_paper_34 (gs_500 hL) (by decide) rfl ?_
      obtain ⟨hg23, H⟩ := gg_e H
      obtain ⟨hg24, H⟩ := gg_e H
      refine GV.icmp_gt (tgt := 44) hg23 hg24 dX12_paper_37 (by decide) (fun c25 => ?_) (fun c25 => ?_)
      · have H := it_t H c25
        refine GA.iconst dX12_paper_44 ?_
        refine GA.locals [(0, .ref (L 500)), (1, .int (J a1)), (2, .int (J a2))] ⟨rfl, rfl, rfl, trivial⟩ ?_
        exact ih_X12_paper_45 hL _ _ (a1) (a2) (0) _ _ H
      · have H := it_f H c25
        refine GA.iconst dX12_paper_40 ?_
        refine GA.goto (tgt := 45) dX12_paper_41 (by decide) ?_
        refine GA.locals [(0, .ref (L 500)), (1, .int (J a1)), (2, .int (J a2))] ⟨rfl, rfl, rfl, trivial⟩ ?_
        exact ih_X12_paper_45 hL _ _ (a1) (a2) (1) _ _ H
set_option maxHeartbeats 4000000 in
set_option maxRecDepth 20000 in
theorem t_X12_paper_45 {l : Launch} {Z : XZ} {L : Nat → Nat} (n : Nat) (ih_X12_paper_0 : P_X12_paper_0 l Z L n) (ih_X12_paper_45 : P_X12_paper_45 l Z L n) (ih_X12_paper_59 : P_X12_paper_59 l Z L n) : P_X12_paper_45 l Z L (n + 1) := by
  intro hL d S a1 a2 s0 x S1 H
  have H : b_X12_paper_45 n d (f_X12_paper n) S a1 a2 s0 = some (x, S1) := H
  unfold b_X12_paper_45 at H
  refine GA.iconst dX12_paper_45 ?_
  obtain ⟨hg1, H⟩ := gg_e H
  obtain ⟨x2, S_3, hc4, H⟩ := gc_e H
  refine GA.callV (m_X12_fails hL hc4) xs_X12_456 dX12_paper_46 (gs_500 hL) (by decide) rfl rfl (by omega) (by decide) rfl (Nat.le_of_ble_eq_true rfl) (by omega) (by omega) rfl (fun E S9 hx => hx.elim) (fun v S9 hq => ?_)
  obtain ⟨rfl, rfl⟩ := hq
  obtain ⟨hg5, H⟩ := gg_e H
  refine GV.if_eq (tgt := 54) hg5 dX12_paper_49 (by decide) (fun c6 => ?_) (fun c6 => ?_)
  · have H := it_t H c6
    refine GV.lconst (z := 0) (by decide) dX12_paper_54 ?_
    refine GA.lstore_n dX12_paper_55 (by decide) ?_
    refine GA.iconst dX12_paper_56 ?_
    refine GA.istore dX12_paper_57 (by decide) ?_
    refine GA.locals [(0, .ref (L 500)), (1, .int (J a1)), (2, .int (J a2)), (3, .long (K 0)), (5, .int (J 0))] ⟨rfl, rfl, rfl, rfl, rfl, trivial⟩ ?_
    exact ih_X12_paper_59 hL _ _ (a1) (a2) (0) (0) _ _ H
  · have H := it_f H c6
    refine GV.lconst (z := 0) (by decide) dX12_paper_52 ?_
    cases H
    exact GA.lret rfl dX12_paper_53 (by omega) (by omega) ⟨rfl, rfl⟩
set_option maxHeartbeats 4000000 in
set_option maxRecDepth 20000 in
theorem t_X12_paper_59 {l : Launch} {Z : XZ} {L : Nat → Nat} (n : Nat) (ih_X12_paper_0 : P_X12_paper_0 l Z L n) (ih_X12_paper_45 : P_X12_paper_45 l Z L n) (ih_X12_paper_59 : P_X12_paper_59 l Z L n) : P_X12_paper_59 l Z L (n + 1) := by
  intro hL d S a1 a2 a3 a5 x S1 H
  have H : b_X12_paper_59 n d (f_X12_paper n) S a1 a2 a3 a5 = some (x, S1) := H
  unfold b_X12_paper_59 at H
  refine GA.iload dX12_paper_59 rfl ?_
  refine GA.iload_n dX12_paper_61 rfl ?_
  obtain ⟨hg1, H⟩ := gg_e H
  obtain ⟨hg2, H⟩ := gg_e H
  refine GV.icmp_ge (tgt := 88) hg1 hg2 dX12_paper_62 (by decide) (fun c3 => ?_) (fun c3 => ?_)
  · have H := it_t H c3
    refine GA.lload_n dX12_paper_88 rfl ?_
    cases H
    exact GA.lret rfl dX12_paper_89 (by omega) (by omega) ⟨rfl, rfl⟩
  · have H := it_f H c3
    refine GV.ldc2 (z := 256) (by decide) xc_X12_466 dX12_paper_65 ?_
    refine GA.lload_n dX12_paper_68 rfl ?_
    obtain ⟨x4, hx5, H⟩ := gv_e H
    refine GV.lmul hx5 dX12_paper_69 ?_
    refine GA.aload_n dX12_paper_70 rfl ?_
    refine GA.get xf_X12_92 dX12_paper_71 (gs_500 hL) (by decide) rfl ?_
    refine GA.iload_n dX12_paper_74 rfl ?_
    refine GA.iload dX12_paper_75 rfl ?_
    obtain ⟨x6, hx7, H⟩ := gv_e H
    refine GV.iadd hx7 dX12_paper_77 ?_
    obtain ⟨hg8, H⟩ := gg_e H
    obtain ⟨x9, hx10, H⟩ := gv_e H
    refine GV.iald hg8 hx10 dX12_paper_78 (gs_504 hL) (by decide) ?_
    obtain ⟨hg11, H⟩ := gg_e H
    refine GV.i2l hg11 dX12_paper_79 ?_
    obtain ⟨x12, hx13, H⟩ := gv_e H
    refine GV.ladd hx13 dX12_paper_80 ?_
    refine GA.lstore_n dX12_paper_81 (by decide) ?_
    obtain ⟨x14, hx15, H⟩ := gv_e H
    refine GV.iinc hx15 dX12_paper_82 rfl (by decide) ?_
    refine GA.goto (tgt := 59) dX12_paper_85 (by decide) ?_
    refine GA.locals [(0, .ref (L 500)), (1, .int (J a1)), (2, .int (J a2)), (3, .long (K x12)), (5, .int (J x14))] ⟨rfl, rfl, rfl, rfl, rfl, trivial⟩ ?_
    exact ih_X12_paper_59 hL _ _ (a1) (a2) (x12) (x14) _ _ H
theorem g_X12_paper {l : Launch} {Z : XZ} {L : Nat → Nat} : ∀ n, P_X12_paper_0 l Z L n ∧ P_X12_paper_45 l Z L n ∧ P_X12_paper_59 l Z L n
  | 0 => ⟨fun _ _ _ _ _ _ _ H => no_e H, fun _ _ _ _ _ _ _ _ H => no_e H, fun _ _ _ _ _ _ _ _ _ H => no_e H⟩
  | n + 1 => have ⟨h0, h1, h2⟩ := g_X12_paper (l := l) (Z := Z) (L := L) n
    ⟨t_X12_paper_0 n h0 h1 h2, t_X12_paper_45 n h0 h1 h2, t_X12_paper_59 n h0 h1 h2⟩
theorem m_X12_paper {l : Launch} {Z : XZ} {L : Nat → Nat} (hL : L 700 = 1) {n d : Nat} {S : GS} {a1 : Int} {a2 : Int} {x : Int} {S1 : GS} (H : f_X12_paper n d 0 S [a1, a2] = some (x, S1)) : GM l Z L yX12_paper cX12_paper 6 (some .long) [] d 0 0 [.ref (L 500), .int (J a1), .int (J a2)] S (fun v S' => v = some (.long (K x)) ∧ S1 = S') (fun _ _ => False) := GM.of (by decide) (Nat.le_of_ble_eq_true rfl) ((g_X12_paper n).1 hL _ _ _ _ _ _ H)

def P_X12_patch_0 (l : Launch) (Z : XZ) (L : Nat → Nat) (n : Nat) : Prop := ∀ (hL : L 700 = 1), ∀ (d : Nat) (S : GS) (a1 : Int) (a2 : Int) (x : Int) (S1 : GS), f_X12_patch n d 0 S [a1, a2] = some (x, S1) → GA l Z L yX12_patch cX12_patch 3 (some .int) [] d 0 0 (fun v S' => v = some (.int (J x)) ∧ S1 = S') (fun _ _ => False) 0 (gl [(0, .ref (L 500)), (1, .int (J a1)), (2, .int (J a2))]) [] S 0 0
def P_X12_patch_22 (l : Launch) (Z : XZ) (L : Nat → Nat) (n : Nat) : Prop := ∀ (hL : L 700 = 1), ∀ (d : Nat) (S : GS) (a1 : Int) (a2 : Int) (s0 : Int) (x : Int) (S1 : GS), f_X12_patch n d 22 S [a1, a2, s0] = some (x, S1) → GA l Z L yX12_patch cX12_patch 3 (some .int) [] d 0 0 (fun v S' => v = some (.int (J x)) ∧ S1 = S') (fun _ _ => False) 22 (gl [(0, .ref (L 500)), (1, .int (J a1)), (2, .int (J a2))]) [.int (J s0), .ref (L 500)] S 0 0
def P_X12_patch_68 (l : Launch) (Z : XZ) (L : Nat → Nat) (n : Nat) : Prop := ∀ (hL : L 700 = 1), ∀ (d : Nat) (S : GS) (s0 : Int) (x : Int) (S1 : GS), f_X12_patch n d 68 S [s0] = some (x, S1) → GA l Z L yX12_patch cX12_patch 3 (some .int) [] d 0 0 (fun v S' => v = some (.int (J x)) ∧ S1 = S') (fun _ _ => False) 68 (gl [(0, .ref (L 500))]) [.int (J s0), .ref (L 500)] S 0 0
theorem i_X12_patch {l : Launch} {Z : XZ} {L : Nat → Nat} (hL : L 700 = 1) {n : Nat} (ih : P_X12_patch_0 l Z L n) {d : Nat} {S : GS} {a1 : Int} {a2 : Int} {x : Int} {S1 : GS} (H : f_X12_patch n d 0 S [a1, a2] = some (x, S1)) : GM l Z L yX12_patch cX12_patch 3 (some .int) [] d 0 0 [.ref (L 500), .int (J a1), .int (J a2)] S (fun v S' => v = some (.int (J x)) ∧ S1 = S') (fun _ _ => False) := GM.of (by decide) (Nat.le_of_ble_eq_true rfl) (ih hL _ _ _ _ _ _ H)
set_option maxHeartbeats 4000000 in
set_option maxRecDepth 20000 in
theorem t_X12_patch_0 {l : Launch} {Z : XZ} {L : Nat → Nat} (n : Nat) (ih_X12_patch_0 : P_X12_patch_0 l Z L n) (ih_X12_patch_22 : P_X12_patch_22 l Z L n) (ih_X12_patch_68 : P_X12_patch_68 l Z L n) : P_X12_patch_0 l Z L (n + 1) := by
  intro hL d S a1 a2 x S1 H
  have H : b_X12_patch_0 n d (f_X12_patch n) S a1 a2 = some (x, S1) := H
  unfold b_X12_patch_0 at H
  refine GA.aload_n dX12_patch_0 rfl ?_
  refine GA.aload_n dX12_patch_1 rfl ?_
  refine GA.iload_n dX12_patch_2 rfl ?_
  obtain ⟨hg1, H⟩ := gg_e H
  obtain ⟨x2, S_3, hc4, H⟩ := gc_e H
  refine GA.callV (m_X12_isDoc hL hc4) xs_X12_22 dX12_patch_3 (gs_500 hL) (by decide) rfl rfl (by omega) (by decide) rfl (Nat.le_of_ble_eq_true rfl) (by omega) (by omega) rfl (fun E S9 hx => hx.elim) (fun v S9 hq => ?_)
  obtain ⟨rfl, rfl⟩ := hq
  obtain ⟨hg5, H⟩ := gg_e H
  refine GV.if_eq (tgt := 21) hg5 dX12_patch_6 (by decide) (fun c6 => ?_) (fun c6 => ?_)
  · have H := it_t H c6
    refine GA.iconst dX12_patch_21 ?_
    refine GA.locals [(0, .ref (L 500)), (1, .int (J a1)), (2, .int (J a2))] ⟨rfl, rfl, rfl, trivial⟩ ?_
    exact ih_X12_patch_22 hL _ _ (a1) (a2) (0) _ _ H
  · have H := it_f H c6
    refine GA.aload_n dX12_patch_9 rfl ?_
    refine GA.iload_n dX12_patch_10 rfl ?_
    obtain ⟨x7, S_8, hc9, H⟩ := gc_e H
    refine GA.callV (m_X12_isDoc hL hc9) xs_X12_22 dX12_patch_11 (gs_500 hL) (by decide) rfl rfl (by omega) (by decide) rfl (Nat.le_of_ble_eq_true rfl) (by omega) (by omega) rfl (fun E S9 hx => hx.elim) (fun v S9 hq => ?_)
    obtain ⟨rfl, rfl⟩ := hq
    obtain ⟨hg10, H⟩ := gg_e H
    refine GV.if_eq (tgt := 21) hg10 dX12_patch_14 (by decide) (fun c11 => ?_) (fun c11 => ?_)
    · have H := it_t H c11
      refine GA.iconst dX12_patch_21 ?_
      refine GA.locals [(0, .ref (L 500)), (1, .int (J a1)), (2, .int (J a2))] ⟨rfl, rfl, rfl, trivial⟩ ?_
      exact ih_X12_patch_22 hL _ _ (a1) (a2) (0) _ _ H
    · have H := it_f H c11
      refine GA.iconst dX12_patch_17 ?_
      refine GA.goto (tgt := 22) dX12_patch_18 (by decide) ?_
      refine GA.locals [(0, .ref (L 500)), (1, .int (J a1)), (2, .int (J a2))] ⟨rfl, rfl, rfl, trivial⟩ ?_
      exact ih_X12_patch_22 hL _ _ (a1) (a2) (1) _ _ H
set_option maxHeartbeats 4000000 in
set_option maxRecDepth 20000 in
theorem t_X12_patch_22 {l : Launch} {Z : XZ} {L : Nat → Nat} (n : Nat) (ih_X12_patch_0 : P_X12_patch_0 l Z L n) (ih_X12_patch_22 : P_X12_patch_22 l Z L n) (ih_X12_patch_68 : P_X12_patch_68 l Z L n) : P_X12_patch_22 l Z L (n + 1) := by
  intro hL d S a1 a2 s0 x S1 H
  have H : b_X12_patch_22 n d (f_X12_patch n) S a1 a2 s0 = some (x, S1) := H
  unfold b_X12_patch_22 at H
  refine GA.iconst dX12_patch_22 ?_
  obtain ⟨hg1, H⟩ := gg_e H
  obtain ⟨x2, S_3, hc4, H⟩ := gc_e H
  refine GA.callV (m_X12_fails hL hc4) xs_X12_456 dX12_patch_23 (gs_500 hL) (by decide) rfl rfl (by omega) (by decide) rfl (Nat.le_of_ble_eq_true rfl) (by omega) (by omega) rfl (fun E S9 hx => hx.elim) (fun v S9 hq => ?_)
  obtain ⟨rfl, rfl⟩ := hq
  obtain ⟨hg5, H⟩ := gg_e H
  refine GV.if_eq (tgt := 31) hg5 dX12_patch_26 (by decide) (fun c6 => ?_) (fun c6 => ?_)
  · have H := it_t H c6
    refine GA.aload_n dX12_patch_31 rfl ?_
    refine GA.iload_n dX12_patch_32 rfl ?_
    refine GA.iload_n dX12_patch_33 rfl ?_
    obtain ⟨x7, S_8, hc9, H⟩ := gc_e H
    refine GA.callV (m_X12_makesPatch hL hc9) xs_X12_747 dX12_patch_34 (gs_500 hL) (by decide) rfl rfl (by omega) (by decide) rfl (Nat.le_of_ble_eq_true rfl) (by omega) (by omega) rfl (fun E S9 hx => hx.elim) (fun v S9 hq => ?_)
    obtain ⟨rfl, rfl⟩ := hq
    refine GA.aload_n dX12_patch_37 rfl ?_
    refine GA.aload_n dX12_patch_38 rfl ?_
    obtain ⟨x10, hx11, H⟩ := gv_e H
    refine GV.getB hx11 xf_X12_714 dX12_patch_39 (gs_500 hL) (by decide) rfl ?_
    obtain ⟨hg12, H⟩ := gg_e H
    refine GV.if_ne (tgt := 67) hg12 dX12_patch_42 (by decide) (fun c13 => ?_) (fun c13 => ?_)
    · have H := it_t H c13
      refine GA.iconst dX12_patch_67 ?_
      refine GA.locals [(0, .ref (L 500))] ⟨rfl, trivial⟩ ?_
      exact ih_X12_patch_68 hL _ _ (0) _ _ H
    · have H := it_f H c13
      refine GA.aload_n dX12_patch_45 rfl ?_
      refine GA.bipush dX12_patch_46 rfl ?_
      obtain ⟨x14, S_15, hc16, H⟩ := gc_e H
      refine GA.callV (m_X12_isWhole hL hc16) xs_X12_601 dX12_patch_48 (gs_500 hL) (by decide) rfl rfl (by omega) (by decide) rfl (Nat.le_of_ble_eq_true rfl) (by omega) (by omega) rfl (fun E S9 hx => hx.elim) (fun v S9 hq => ?_)
      obtain ⟨rfl, rfl⟩ := hq
      obtain ⟨hg17, H⟩ := gg_e H
      refine GV.if_eq (tgt := 67) hg17 dX12_patch_51 (by decide) (fun c18 => ?_) (fun c18 => ?_)
      · have H := it_t H c18
        refine GA.iconst dX12_patch_67 ?_
        refine GA.locals [(0, .ref (L 500))] ⟨rfl, trivial⟩ ?_
        exact ih_X12_patch_68 hL _ _ (0) _ _ H
      · have H := it_f H c18
        refine GA.aload_n dX12_patch_54 rfl ?_
        obtain ⟨x19, hx20, H⟩ := gv_e H
        refine GV.getI hx20 xf_X12_15 dX12_patch_55 (gs_500 hL) (by decide) rfl ?_
        refine GA.bipush dX12_patch_58 rfl ?_
        obtain ⟨hg21, H⟩ := gg_e H
        refine GV.icmp_ge (tgt := 67) hg21 (by decide) dX12_patch_60 (by decide) (fun c22 => ?_) (fun c22 => ?_)
        · have H := it_t H c22
          refine GA.iconst dX12_patch_67 ?_
          refine GA.locals [(0, .ref (L 500))] ⟨rfl, trivial⟩ ?_
          exact ih_X12_patch_68 hL _ _ (0) _ _ H
        · have H := it_f H c22
          refine GA.iconst dX12_patch_63 ?_
          refine GA.goto (tgt := 68) dX12_patch_64 (by decide) ?_
          refine GA.locals [(0, .ref (L 500))] ⟨rfl, trivial⟩ ?_
          exact ih_X12_patch_68 hL _ _ (1) _ _ H
  · have H := it_f H c6
    refine GA.iconst dX12_patch_29 ?_
    cases H
    exact GA.iret rfl dX12_patch_30 (by omega) (by omega) ⟨rfl, rfl⟩
set_option maxHeartbeats 4000000 in
set_option maxRecDepth 20000 in
theorem t_X12_patch_68 {l : Launch} {Z : XZ} {L : Nat → Nat} (n : Nat) (ih_X12_patch_0 : P_X12_patch_0 l Z L n) (ih_X12_patch_22 : P_X12_patch_22 l Z L n) (ih_X12_patch_68 : P_X12_patch_68 l Z L n) : P_X12_patch_68 l Z L (n + 1) := by
  intro hL d S s0 x S1 H
  have H : b_X12_patch_68 n d (f_X12_patch n) S s0 = some (x, S1) := H
  unfold b_X12_patch_68 at H
  refine GA.iconst dX12_patch_68 ?_
  obtain ⟨hg1, H⟩ := gg_e H
  obtain ⟨x2, S_3, hc4, H⟩ := gc_e H
  refine GA.callV (m_X12_fails hL hc4) xs_X12_456 dX12_patch_69 (gs_500 hL) (by decide) rfl rfl (by omega) (by decide) rfl (Nat.le_of_ble_eq_true rfl) (by omega) (by omega) rfl (fun E S9 hx => hx.elim) (fun v S9 hq => ?_)
  obtain ⟨rfl, rfl⟩ := hq
  obtain ⟨hg5, H⟩ := gg_e H
  refine GV.if_eq (tgt := 79) hg5 dX12_patch_72 (by decide) (fun c6 => ?_) (fun c6 => ?_)
  · have H := it_t H c6
    refine GA.aload_n dX12_patch_79 rfl ?_
    refine GA.bipush dX12_patch_80 rfl ?_
    obtain ⟨x7, S_8, hc9, H⟩ := gc_e H
    refine GA.callV (m_X12_keeps hL hc9) xs_X12_536 dX12_patch_82 (gs_500 hL) (by decide) rfl rfl (by omega) (by decide) rfl (Nat.le_of_ble_eq_true rfl) (by omega) (by omega) rfl (fun E S9 hx => hx.elim) (fun v S9 hq => ?_)
    obtain ⟨rfl, rfl⟩ := hq
    cases H
    exact GA.iret rfl dX12_patch_85 (by omega) (by omega) ⟨rfl, rfl⟩
  · have H := it_f H c6
    refine GA.iconst dX12_patch_75 ?_
    refine GA.goto (tgt := 85) dX12_patch_76 (by decide) ?_
    cases H
    exact GA.iret rfl dX12_patch_85 (by omega) (by omega) ⟨rfl, rfl⟩
theorem g_X12_patch {l : Launch} {Z : XZ} {L : Nat → Nat} : ∀ n, P_X12_patch_0 l Z L n ∧ P_X12_patch_22 l Z L n ∧ P_X12_patch_68 l Z L n
  | 0 => ⟨fun _ _ _ _ _ _ _ H => no_e H, fun _ _ _ _ _ _ _ _ H => no_e H, fun _ _ _ _ _ _ H => no_e H⟩
  | n + 1 => have ⟨h0, h1, h2⟩ := g_X12_patch (l := l) (Z := Z) (L := L) n
    ⟨t_X12_patch_0 n h0 h1 h2, t_X12_patch_22 n h0 h1 h2, t_X12_patch_68 n h0 h1 h2⟩
theorem m_X12_patch {l : Launch} {Z : XZ} {L : Nat → Nat} (hL : L 700 = 1) {n d : Nat} {S : GS} {a1 : Int} {a2 : Int} {x : Int} {S1 : GS} (H : f_X12_patch n d 0 S [a1, a2] = some (x, S1)) : GM l Z L yX12_patch cX12_patch 3 (some .int) [] d 0 0 [.ref (L 500), .int (J a1), .int (J a2)] S (fun v S' => v = some (.int (J x)) ∧ S1 = S') (fun _ _ => False) := GM.of (by decide) (Nat.le_of_ble_eq_true rfl) ((g_X12_patch n).1 hL _ _ _ _ _ _ H)

def P_X12_print_0 (l : Launch) (Z : XZ) (L : Nat → Nat) (n : Nat) : Prop := ∀ (hL : L 700 = 1), ∀ (d : Nat) (S : GS) (a1 : Int) (a2 : Int) (x : Int) (S1 : GS), f_X12_print n d 0 S [a1, a2] = some (x, S1) → GA l Z L yX12_print cX12_print 3 (some .int) [] d 0 0 (fun v S' => v = some (.int (J x)) ∧ S1 = S') (fun _ _ => False) 0 (gl [(0, .ref (L 500)), (1, .int (J a1)), (2, .int (J a2))]) [] S 0 0
theorem i_X12_print {l : Launch} {Z : XZ} {L : Nat → Nat} (hL : L 700 = 1) {n : Nat} (ih : P_X12_print_0 l Z L n) {d : Nat} {S : GS} {a1 : Int} {a2 : Int} {x : Int} {S1 : GS} (H : f_X12_print n d 0 S [a1, a2] = some (x, S1)) : GM l Z L yX12_print cX12_print 3 (some .int) [] d 0 0 [.ref (L 500), .int (J a1), .int (J a2)] S (fun v S' => v = some (.int (J x)) ∧ S1 = S') (fun _ _ => False) := GM.of (by decide) (Nat.le_of_ble_eq_true rfl) (ih hL _ _ _ _ _ _ H)
set_option maxHeartbeats 4000000 in
set_option maxRecDepth 20000 in
theorem t_X12_print_0 {l : Launch} {Z : XZ} {L : Nat → Nat} (n : Nat) (ih_X12_print_0 : P_X12_print_0 l Z L n) : P_X12_print_0 l Z L (n + 1) := by
  intro hL d S a1 a2 x S1 H
  have H : b_X12_print_0 n d (f_X12_print n) S a1 a2 = some (x, S1) := H
  unfold b_X12_print_0 at H
  refine GA.aload_n dX12_print_0 rfl ?_
  refine GA.aload_n dX12_print_1 rfl ?_
  refine GA.iload_n dX12_print_2 rfl ?_
  obtain ⟨hg1, H⟩ := gg_e H
  obtain ⟨x2, S_3, hc4, H⟩ := gc_e H
  refine GA.callV (m_X12_isDoc hL hc4) xs_X12_22 dX12_print_3 (gs_500 hL) (by decide) rfl rfl (by omega) (by decide) rfl (Nat.le_of_ble_eq_true rfl) (by omega) (by omega) rfl (fun E S9 hx => hx.elim) (fun v S9 hq => ?_)
  obtain ⟨rfl, rfl⟩ := hq
  refine GA.iconst dX12_print_6 ?_
  obtain ⟨x5, S_6, hc7, H⟩ := gc_e H
  refine GA.callV (m_X12_fails hL hc7) xs_X12_456 dX12_print_7 (gs_500 hL) (by decide) rfl rfl (by omega) (by decide) rfl (Nat.le_of_ble_eq_true rfl) (by omega) (by omega) rfl (fun E S9 hx => hx.elim) (fun v S9 hq => ?_)
  obtain ⟨rfl, rfl⟩ := hq
  obtain ⟨hg8, H⟩ := gg_e H
  refine GV.if_ne (tgt := 27) hg8 dX12_print_10 (by decide) (fun c9 => ?_) (fun c9 => ?_)
  · have H := it_t H c9
    refine GA.iconst dX12_print_27 ?_
    cases H
    exact GA.iret rfl dX12_print_28 (by omega) (by omega) ⟨rfl, rfl⟩
  · have H := it_f H c9
    refine GA.aload_n dX12_print_13 rfl ?_
    refine GA.iload_n dX12_print_14 rfl ?_
    refine GA.iconst dX12_print_15 ?_
    refine GA.iconst dX12_print_16 ?_
    obtain ⟨x10, S_11, hc12, H⟩ := gc_e H
    refine GA.callS (m_X12_in hL hc12) xs_X12_18 dX12_print_17 rfl (by omega) (by decide) rfl (Nat.le_of_ble_eq_true rfl) (by omega) (by omega) rfl (fun E S9 hx => hx.elim) (fun v S9 hq => ?_)
    obtain ⟨rfl, rfl⟩ := hq
    refine GA.iconst dX12_print_20 ?_
    obtain ⟨x13, S_14, hc15, H⟩ := gc_e H
    refine GA.callV (m_X12_fails hL hc15) xs_X12_456 dX12_print_21 (gs_500 hL) (by decide) rfl rfl (by omega) (by decide) rfl (Nat.le_of_ble_eq_true rfl) (by omega) (by omega) rfl (fun E S9 hx => hx.elim) (fun v S9 hq => ?_)
    obtain ⟨rfl, rfl⟩ := hq
    obtain ⟨hg16, H⟩ := gg_e H
    refine GV.if_eq (tgt := 29) hg16 dX12_print_24 (by decide) (fun c17 => ?_) (fun c17 => ?_)
    · have H := it_t H c17
      refine GA.aload_n dX12_print_29 rfl ?_
      refine GA.iconst dX12_print_30 ?_
      refine GA.iload_n dX12_print_31 rfl ?_
      refine GA.iconst dX12_print_32 ?_
      refine GA.iload_n dX12_print_33 rfl ?_
      obtain ⟨x18, S_19, hc20, H⟩ := gc_e H
      refine GA.callV (m_X12_writes hL hc20) xs_X12_574 dX12_print_34 (gs_500 hL) (by decide) rfl rfl (by omega) (by decide) rfl (Nat.le_of_ble_eq_true rfl) (by omega) (by omega) rfl (fun E S9 hx => hx.elim) (fun v S9 hq => ?_)
      obtain ⟨rfl, rfl⟩ := hq
      refine GA.aload_n dX12_print_37 rfl ?_
      obtain ⟨x21, S_22, hc23, H⟩ := gc_e H
      refine GA.callV (m_X12_onPaper hL hc23) xs_X12_577 dX12_print_38 (gs_500 hL) (by decide) rfl rfl (by omega) (by decide) rfl (Nat.le_of_ble_eq_true rfl) (by omega) (by omega) rfl (fun E S9 hx => hx.elim) (fun v S9 hq => ?_)
      obtain ⟨rfl, rfl⟩ := hq
      cases H
      exact GA.iret rfl dX12_print_41 (by omega) (by omega) ⟨rfl, rfl⟩
    · have H := it_f H c17
      refine GA.iconst dX12_print_27 ?_
      cases H
      exact GA.iret rfl dX12_print_28 (by omega) (by omega) ⟨rfl, rfl⟩
theorem g_X12_print {l : Launch} {Z : XZ} {L : Nat → Nat} : ∀ n, P_X12_print_0 l Z L n
  | 0 => fun _ _ _ _ _ _ _ H => no_e H
  | n + 1 => t_X12_print_0 n (g_X12_print n)
theorem m_X12_print {l : Launch} {Z : XZ} {L : Nat → Nat} (hL : L 700 = 1) {n d : Nat} {S : GS} {a1 : Int} {a2 : Int} {x : Int} {S1 : GS} (H : f_X12_print n d 0 S [a1, a2] = some (x, S1)) : GM l Z L yX12_print cX12_print 3 (some .int) [] d 0 0 [.ref (L 500), .int (J a1), .int (J a2)] S (fun v S' => v = some (.int (J x)) ∧ S1 = S') (fun _ _ => False) := GM.of (by decide) (Nat.le_of_ble_eq_true rfl) ((g_X12_print n) hL _ _ _ _ _ _ H)

def P_X12_put_0 (l : Launch) (Z : XZ) (L : Nat → Nat) (n : Nat) : Prop := ∀ (hL : L 700 = 1), ∀ (d : Nat) (S : GS) (a1 : Int) (a2 : Int) (x : Int) (S1 : GS), f_X12_put n d 0 S [a1, a2] = some (x, S1) → GA l Z L yX12_put cX12_put 3 (some .int) [] d 0 0 (fun v S' => v = some (.int (J x)) ∧ S1 = S') (fun _ _ => False) 0 (gl [(0, .ref (L 500)), (1, .int (J a1)), (2, .int (J a2))]) [] S 0 0
def P_X12_put_22 (l : Launch) (Z : XZ) (L : Nat → Nat) (n : Nat) : Prop := ∀ (hL : L 700 = 1), ∀ (d : Nat) (S : GS) (a1 : Int) (a2 : Int) (s0 : Int) (x : Int) (S1 : GS), f_X12_put n d 22 S [a1, a2, s0] = some (x, S1) → GA l Z L yX12_put cX12_put 3 (some .int) [] d 0 0 (fun v S' => v = some (.int (J x)) ∧ S1 = S') (fun _ _ => False) 22 (gl [(0, .ref (L 500)), (1, .int (J a1)), (2, .int (J a2))]) [.int (J s0), .ref (L 500)] S 0 0
def P_X12_put_69 (l : Launch) (Z : XZ) (L : Nat → Nat) (n : Nat) : Prop := ∀ (hL : L 700 = 1), ∀ (d : Nat) (S : GS) (s0 : Int) (x : Int) (S1 : GS), f_X12_put n d 69 S [s0] = some (x, S1) → GA l Z L yX12_put cX12_put 3 (some .int) [] d 0 0 (fun v S' => v = some (.int (J x)) ∧ S1 = S') (fun _ _ => False) 69 (gl [(0, .ref (L 500))]) [.int (J s0), .ref (L 500)] S 0 0
theorem i_X12_put {l : Launch} {Z : XZ} {L : Nat → Nat} (hL : L 700 = 1) {n : Nat} (ih : P_X12_put_0 l Z L n) {d : Nat} {S : GS} {a1 : Int} {a2 : Int} {x : Int} {S1 : GS} (H : f_X12_put n d 0 S [a1, a2] = some (x, S1)) : GM l Z L yX12_put cX12_put 3 (some .int) [] d 0 0 [.ref (L 500), .int (J a1), .int (J a2)] S (fun v S' => v = some (.int (J x)) ∧ S1 = S') (fun _ _ => False) := GM.of (by decide) (Nat.le_of_ble_eq_true rfl) (ih hL _ _ _ _ _ _ H)
set_option maxHeartbeats 4000000 in
set_option maxRecDepth 20000 in
theorem t_X12_put_0 {l : Launch} {Z : XZ} {L : Nat → Nat} (n : Nat) (ih_X12_put_0 : P_X12_put_0 l Z L n) (ih_X12_put_22 : P_X12_put_22 l Z L n) (ih_X12_put_69 : P_X12_put_69 l Z L n) : P_X12_put_0 l Z L (n + 1) := by
  intro hL d S a1 a2 x S1 H
  have H : b_X12_put_0 n d (f_X12_put n) S a1 a2 = some (x, S1) := H
  unfold b_X12_put_0 at H
  refine GA.aload_n dX12_put_0 rfl ?_
  refine GA.aload_n dX12_put_1 rfl ?_
  refine GA.iload_n dX12_put_2 rfl ?_
  obtain ⟨hg1, H⟩ := gg_e H
  obtain ⟨x2, S_3, hc4, H⟩ := gc_e H
  refine GA.callV (m_X12_isDoc hL hc4) xs_X12_22 dX12_put_3 (gs_500 hL) (by decide) rfl rfl (by omega) (by decide) rfl (Nat.le_of_ble_eq_true rfl) (by omega) (by omega) rfl (fun E S9 hx => hx.elim) (fun v S9 hq => ?_)
  obtain ⟨rfl, rfl⟩ := hq
  obtain ⟨hg5, H⟩ := gg_e H
  refine GV.if_eq (tgt := 21) hg5 dX12_put_6 (by decide) (fun c6 => ?_) (fun c6 => ?_)
  · have H := it_t H c6
    refine GA.iconst dX12_put_21 ?_
    refine GA.locals [(0, .ref (L 500)), (1, .int (J a1)), (2, .int (J a2))] ⟨rfl, rfl, rfl, trivial⟩ ?_
    exact ih_X12_put_22 hL _ _ (a1) (a2) (0) _ _ H
  · have H := it_f H c6
    refine GA.aload_n dX12_put_9 rfl ?_
    refine GA.iload_n dX12_put_10 rfl ?_
    obtain ⟨x7, S_8, hc9, H⟩ := gc_e H
    refine GA.callV (m_X12_isDoc hL hc9) xs_X12_22 dX12_put_11 (gs_500 hL) (by decide) rfl rfl (by omega) (by decide) rfl (Nat.le_of_ble_eq_true rfl) (by omega) (by omega) rfl (fun E S9 hx => hx.elim) (fun v S9 hq => ?_)
    obtain ⟨rfl, rfl⟩ := hq
    obtain ⟨hg10, H⟩ := gg_e H
    refine GV.if_eq (tgt := 21) hg10 dX12_put_14 (by decide) (fun c11 => ?_) (fun c11 => ?_)
    · have H := it_t H c11
      refine GA.iconst dX12_put_21 ?_
      refine GA.locals [(0, .ref (L 500)), (1, .int (J a1)), (2, .int (J a2))] ⟨rfl, rfl, rfl, trivial⟩ ?_
      exact ih_X12_put_22 hL _ _ (a1) (a2) (0) _ _ H
    · have H := it_f H c11
      refine GA.iconst dX12_put_17 ?_
      refine GA.goto (tgt := 22) dX12_put_18 (by decide) ?_
      refine GA.locals [(0, .ref (L 500)), (1, .int (J a1)), (2, .int (J a2))] ⟨rfl, rfl, rfl, trivial⟩ ?_
      exact ih_X12_put_22 hL _ _ (a1) (a2) (1) _ _ H
set_option maxHeartbeats 4000000 in
set_option maxRecDepth 20000 in
theorem t_X12_put_22 {l : Launch} {Z : XZ} {L : Nat → Nat} (n : Nat) (ih_X12_put_0 : P_X12_put_0 l Z L n) (ih_X12_put_22 : P_X12_put_22 l Z L n) (ih_X12_put_69 : P_X12_put_69 l Z L n) : P_X12_put_22 l Z L (n + 1) := by
  intro hL d S a1 a2 s0 x S1 H
  have H : b_X12_put_22 n d (f_X12_put n) S a1 a2 s0 = some (x, S1) := H
  unfold b_X12_put_22 at H
  refine GA.iconst dX12_put_22 ?_
  obtain ⟨hg1, H⟩ := gg_e H
  obtain ⟨x2, S_3, hc4, H⟩ := gc_e H
  refine GA.callV (m_X12_fails hL hc4) xs_X12_456 dX12_put_23 (gs_500 hL) (by decide) rfl rfl (by omega) (by decide) rfl (Nat.le_of_ble_eq_true rfl) (by omega) (by omega) rfl (fun E S9 hx => hx.elim) (fun v S9 hq => ?_)
  obtain ⟨rfl, rfl⟩ := hq
  obtain ⟨hg5, H⟩ := gg_e H
  refine GV.if_eq (tgt := 31) hg5 dX12_put_26 (by decide) (fun c6 => ?_) (fun c6 => ?_)
  · have H := it_t H c6
    refine GA.aload_n dX12_put_31 rfl ?_
    obtain ⟨x7, S_8, hc9, H⟩ := gc_e H
    refine GA.callV (m_X12_pathOfPage hL hc9) xs_X12_638 dX12_put_32 (gs_500 hL) (by decide) rfl rfl (by omega) (by decide) rfl (Nat.le_of_ble_eq_true rfl) (by omega) (by omega) rfl (fun E S9 hx => hx.elim) (fun v S9 hq => ?_)
    obtain ⟨rfl, rfl⟩ := hq
    refine GA.aload_n dX12_put_35 rfl ?_
    refine GA.aload_n dX12_put_36 rfl ?_
    obtain ⟨x10, hx11, H⟩ := gv_e H
    refine GV.getI hx11 xf_X12_15 dX12_put_37 (gs_500 hL) (by decide) rfl ?_
    refine GA.bipush dX12_put_40 rfl ?_
    obtain ⟨hg12, H⟩ := gg_e H
    refine GV.icmp_ge (tgt := 68) hg12 (by decide) dX12_put_42 (by decide) (fun c13 => ?_) (fun c13 => ?_)
    · have H := it_t H c13
      refine GA.iconst dX12_put_68 ?_
      refine GA.locals [(0, .ref (L 500))] ⟨rfl, trivial⟩ ?_
      exact ih_X12_put_69 hL _ _ (0) _ _ H
    · have H := it_f H c13
      refine GA.aload_n dX12_put_45 rfl ?_
      obtain ⟨x14, S_15, hc16, H⟩ := gc_e H
      refine GA.callV (m_X12_isPath hL hc16) xs_X12_641 dX12_put_46 (gs_500 hL) (by decide) rfl rfl (by omega) (by decide) rfl (Nat.le_of_ble_eq_true rfl) (by omega) (by omega) rfl (fun E S9 hx => hx.elim) (fun v S9 hq => ?_)
      obtain ⟨rfl, rfl⟩ := hq
      obtain ⟨hg17, H⟩ := gg_e H
      refine GV.if_eq (tgt := 68) hg17 dX12_put_49 (by decide) (fun c18 => ?_) (fun c18 => ?_)
      · have H := it_t H c18
        refine GA.iconst dX12_put_68 ?_
        refine GA.locals [(0, .ref (L 500))] ⟨rfl, trivial⟩ ?_
        exact ih_X12_put_69 hL _ _ (0) _ _ H
      · have H := it_f H c18
        refine GA.aload_n dX12_put_52 rfl ?_
        refine GA.bipush dX12_put_53 rfl ?_
        refine GA.iload_n dX12_put_55 rfl ?_
        refine GA.iload_n dX12_put_56 rfl ?_
        refine GA.iconst dX12_put_57 ?_
        obtain ⟨x19, S_20, hc21, H⟩ := gc_e H
        refine GA.callV (m_X12_canPut hL hc21) xs_X12_673 dX12_put_58 (gs_500 hL) (by decide) rfl rfl (by omega) (by decide) rfl (Nat.le_of_ble_eq_true rfl) (by omega) (by omega) rfl (fun E S9 hx => hx.elim) (fun v S9 hq => ?_)
        obtain ⟨rfl, rfl⟩ := hq
        obtain ⟨hg22, H⟩ := gg_e H
        refine GV.if_eq (tgt := 68) hg22 dX12_put_61 (by decide) (fun c23 => ?_) (fun c23 => ?_)
        · have H := it_t H c23
          refine GA.iconst dX12_put_68 ?_
          refine GA.locals [(0, .ref (L 500))] ⟨rfl, trivial⟩ ?_
          exact ih_X12_put_69 hL _ _ (0) _ _ H
        · have H := it_f H c23
          refine GA.iconst dX12_put_64 ?_
          refine GA.goto (tgt := 69) dX12_put_65 (by decide) ?_
          refine GA.locals [(0, .ref (L 500))] ⟨rfl, trivial⟩ ?_
          exact ih_X12_put_69 hL _ _ (1) _ _ H
  · have H := it_f H c6
    refine GA.iconst dX12_put_29 ?_
    cases H
    exact GA.iret rfl dX12_put_30 (by omega) (by omega) ⟨rfl, rfl⟩
set_option maxHeartbeats 4000000 in
set_option maxRecDepth 20000 in
theorem t_X12_put_69 {l : Launch} {Z : XZ} {L : Nat → Nat} (n : Nat) (ih_X12_put_0 : P_X12_put_0 l Z L n) (ih_X12_put_22 : P_X12_put_22 l Z L n) (ih_X12_put_69 : P_X12_put_69 l Z L n) : P_X12_put_69 l Z L (n + 1) := by
  intro hL d S s0 x S1 H
  have H : b_X12_put_69 n d (f_X12_put n) S s0 = some (x, S1) := H
  unfold b_X12_put_69 at H
  refine GA.iconst dX12_put_69 ?_
  obtain ⟨hg1, H⟩ := gg_e H
  obtain ⟨x2, S_3, hc4, H⟩ := gc_e H
  refine GA.callV (m_X12_fails hL hc4) xs_X12_456 dX12_put_70 (gs_500 hL) (by decide) rfl rfl (by omega) (by decide) rfl (Nat.le_of_ble_eq_true rfl) (by omega) (by omega) rfl (fun E S9 hx => hx.elim) (fun v S9 hq => ?_)
  obtain ⟨rfl, rfl⟩ := hq
  obtain ⟨hg5, H⟩ := gg_e H
  refine GV.if_eq (tgt := 78) hg5 dX12_put_73 (by decide) (fun c6 => ?_) (fun c6 => ?_)
  · have H := it_t H c6
    refine GA.aload_n dX12_put_78 rfl ?_
    refine GA.iconst dX12_put_79 ?_
    obtain ⟨S_7, hx8, H⟩ := gv_e H
    refine GV.putI hx8 (xp_X12_460 _) dX12_put_80 (gs_500 hL) (by decide) (Nat.le_of_ble_eq_true rfl) (gs_500 hL) ?_
    refine GA.aload_n dX12_put_83 rfl ?_
    refine GA.bipush dX12_put_84 rfl ?_
    obtain ⟨x9, S_10, hc11, H⟩ := gc_e H
    refine GA.callV (m_X12_keeps hL hc11) xs_X12_536 dX12_put_86 (gs_500 hL) (by decide) rfl rfl (by omega) (by decide) rfl (Nat.le_of_ble_eq_true rfl) (by omega) (by omega) rfl (fun E S9 hx => hx.elim) (fun v S9 hq => ?_)
    obtain ⟨rfl, rfl⟩ := hq
    cases H
    exact GA.iret rfl dX12_put_89 (by omega) (by omega) ⟨rfl, rfl⟩
  · have H := it_f H c6
    refine GA.iconst dX12_put_76 ?_
    cases H
    exact GA.iret rfl dX12_put_77 (by omega) (by omega) ⟨rfl, rfl⟩
theorem g_X12_put {l : Launch} {Z : XZ} {L : Nat → Nat} : ∀ n, P_X12_put_0 l Z L n ∧ P_X12_put_22 l Z L n ∧ P_X12_put_69 l Z L n
  | 0 => ⟨fun _ _ _ _ _ _ _ H => no_e H, fun _ _ _ _ _ _ _ _ H => no_e H, fun _ _ _ _ _ _ H => no_e H⟩
  | n + 1 => have ⟨h0, h1, h2⟩ := g_X12_put (l := l) (Z := Z) (L := L) n
    ⟨t_X12_put_0 n h0 h1 h2, t_X12_put_22 n h0 h1 h2, t_X12_put_69 n h0 h1 h2⟩
theorem m_X12_put {l : Launch} {Z : XZ} {L : Nat → Nat} (hL : L 700 = 1) {n d : Nat} {S : GS} {a1 : Int} {a2 : Int} {x : Int} {S1 : GS} (H : f_X12_put n d 0 S [a1, a2] = some (x, S1)) : GM l Z L yX12_put cX12_put 3 (some .int) [] d 0 0 [.ref (L 500), .int (J a1), .int (J a2)] S (fun v S' => v = some (.int (J x)) ∧ S1 = S') (fun _ _ => False) := GM.of (by decide) (Nat.le_of_ble_eq_true rfl) ((g_X12_put n).1 hL _ _ _ _ _ _ H)

def P_X12_quarrel_0 (l : Launch) (Z : XZ) (L : Nat → Nat) (n : Nat) : Prop := ∀ (hL : L 700 = 1), ∀ (d : Nat) (S : GS) (a1 : Int) (x : Int) (S1 : GS), f_X12_quarrel n d 0 S [a1] = some (x, S1) → GA l Z L yX12_quarrel cX12_quarrel 3 (some .int) [] d 0 0 (fun v S' => v = some (.int (J x)) ∧ S1 = S') (fun _ _ => False) 0 (gl [(0, .ref (L 500)), (1, .int (J a1))]) [] S 0 0
def P_X12_quarrel_35 (l : Launch) (Z : XZ) (L : Nat → Nat) (n : Nat) : Prop := ∀ (hL : L 700 = 1), ∀ (d : Nat) (S : GS) (a1 : Int) (a2 : Int) (x : Int) (S1 : GS), f_X12_quarrel n d 35 S [a1, a2] = some (x, S1) → GA l Z L yX12_quarrel cX12_quarrel 3 (some .int) [] d 0 0 (fun v S' => v = some (.int (J x)) ∧ S1 = S') (fun _ _ => False) 35 (gl [(0, .ref (L 500)), (1, .int (J a1)), (2, .int (J a2))]) [] S 0 0
theorem i_X12_quarrel {l : Launch} {Z : XZ} {L : Nat → Nat} (hL : L 700 = 1) {n : Nat} (ih : P_X12_quarrel_0 l Z L n) {d : Nat} {S : GS} {a1 : Int} {x : Int} {S1 : GS} (H : f_X12_quarrel n d 0 S [a1] = some (x, S1)) : GM l Z L yX12_quarrel cX12_quarrel 3 (some .int) [] d 0 0 [.ref (L 500), .int (J a1)] S (fun v S' => v = some (.int (J x)) ∧ S1 = S') (fun _ _ => False) := GM.of (by decide) (Nat.le_of_ble_eq_true rfl) (ih hL _ _ _ _ _ H)
set_option maxHeartbeats 4000000 in
set_option maxRecDepth 20000 in
theorem t_X12_quarrel_0 {l : Launch} {Z : XZ} {L : Nat → Nat} (n : Nat) (ih_X12_quarrel_0 : P_X12_quarrel_0 l Z L n) (ih_X12_quarrel_35 : P_X12_quarrel_35 l Z L n) : P_X12_quarrel_0 l Z L (n + 1) := by
  intro hL d S a1 x S1 H
  have H : b_X12_quarrel_0 n d (f_X12_quarrel n) S a1 = some (x, S1) := H
  unfold b_X12_quarrel_0 at H
  refine GA.aload_n dX12_quarrel_0 rfl ?_
  refine GA.iload_n dX12_quarrel_1 rfl ?_
  refine GA.iconst dX12_quarrel_2 ?_
  refine GA.aload_n dX12_quarrel_3 rfl ?_
  obtain ⟨x1, hx2, H⟩ := gv_e H
  refine GV.getI hx2 xf_X12_790 dX12_quarrel_4 (gs_500 hL) (by decide) rfl ?_
  refine GA.iconst dX12_quarrel_7 ?_
  obtain ⟨x3, hx4, H⟩ := gv_e H
  refine GV.isub hx4 dX12_quarrel_8 ?_
  obtain ⟨hg5, H⟩ := gg_e H
  obtain ⟨x6, S_7, hc8, H⟩ := gc_e H
  refine GA.callS (m_X12_in hL hc8) xs_X12_18 dX12_quarrel_9 rfl (by omega) (by decide) rfl (Nat.le_of_ble_eq_true rfl) (by omega) (by omega) rfl (fun E S9 hx => hx.elim) (fun v S9 hq => ?_)
  obtain ⟨rfl, rfl⟩ := hq
  refine GA.iconst dX12_quarrel_12 ?_
  obtain ⟨x9, S_10, hc11, H⟩ := gc_e H
  refine GA.callV (m_X12_fails hL hc11) xs_X12_456 dX12_quarrel_13 (gs_500 hL) (by decide) rfl rfl (by omega) (by decide) rfl (Nat.le_of_ble_eq_true rfl) (by omega) (by omega) rfl (fun E S9 hx => hx.elim) (fun v S9 hq => ?_)
  obtain ⟨rfl, rfl⟩ := hq
  obtain ⟨hg12, H⟩ := gg_e H
  refine GV.if_eq (tgt := 21) hg12 dX12_quarrel_16 (by decide) (fun c13 => ?_) (fun c13 => ?_)
  · have H := it_t H c13
    refine GA.aload_n dX12_quarrel_21 rfl ?_
    refine GA.get xf_X12_272 dX12_quarrel_22 (gs_500 hL) (by decide) rfl ?_
    refine GA.iconst dX12_quarrel_25 ?_
    refine GA.iconst dX12_quarrel_26 ?_
    obtain ⟨hg14, H⟩ := gg_e H
    obtain ⟨S_15, hx16, H⟩ := gv_e H
    refine GV.iast hg14 hx16 dX12_quarrel_27 (fun _ => (gs_517 hL)) (by decide) ?_
    refine GA.aload_n dX12_quarrel_28 rfl ?_
    refine GA.get xf_X12_339 dX12_quarrel_29 (gs_500 hL) (by decide) rfl ?_
    refine GA.iload_n dX12_quarrel_32 rfl ?_
    obtain ⟨hg17, H⟩ := gg_e H
    obtain ⟨x18, hx19, H⟩ := gv_e H
    refine GV.iald hg17 hx19 dX12_quarrel_33 (gs_535 hL) (by decide) ?_
    refine GA.istore_n dX12_quarrel_34 (by decide) ?_
    refine GA.locals [(0, .ref (L 500)), (1, .int (J a1)), (2, .int (J x18))] ⟨rfl, rfl, rfl, trivial⟩ ?_
    exact ih_X12_quarrel_35 hL _ _ (a1) (x18) _ _ H
  · have H := it_f H c13
    refine GA.iconst dX12_quarrel_19 ?_
    cases H
    exact GA.iret rfl dX12_quarrel_20 (by omega) (by omega) ⟨rfl, rfl⟩
set_option maxHeartbeats 4000000 in
set_option maxRecDepth 20000 in
theorem t_X12_quarrel_35 {l : Launch} {Z : XZ} {L : Nat → Nat} (n : Nat) (ih_X12_quarrel_0 : P_X12_quarrel_0 l Z L n) (ih_X12_quarrel_35 : P_X12_quarrel_35 l Z L n) : P_X12_quarrel_35 l Z L (n + 1) := by
  intro hL d S a1 a2 x S1 H
  have H : b_X12_quarrel_35 n d (f_X12_quarrel n) S a1 a2 = some (x, S1) := H
  unfold b_X12_quarrel_35 at H
  refine GA.iload_n dX12_quarrel_35 rfl ?_
  refine GA.aload_n dX12_quarrel_36 rfl ?_
  refine GA.get xf_X12_339 dX12_quarrel_37 (gs_500 hL) (by decide) rfl ?_
  refine GA.iload_n dX12_quarrel_40 rfl ?_
  refine GA.iconst dX12_quarrel_41 ?_
  obtain ⟨x1, hx2, H⟩ := gv_e H
  refine GV.iadd hx2 dX12_quarrel_42 ?_
  obtain ⟨hg3, H⟩ := gg_e H
  obtain ⟨x4, hx5, H⟩ := gv_e H
  refine GV.iald hg3 hx5 dX12_quarrel_43 (gs_535 hL) (by decide) ?_
  obtain ⟨hg6, H⟩ := gg_e H
  obtain ⟨hg7, H⟩ := gg_e H
  refine GV.icmp_ge (tgt := 64) hg6 hg7 dX12_quarrel_44 (by decide) (fun c8 => ?_) (fun c8 => ?_)
  · have H := it_t H c8
    refine GA.aload_n dX12_quarrel_64 rfl ?_
    obtain ⟨hg9, H⟩ := gg_e H
    obtain ⟨x10, S_11, hc12, H⟩ := gc_e H
    refine GA.callV (m_X12_onPaper hL hc12) xs_X12_577 dX12_quarrel_65 (gs_500 hL) (by decide) rfl rfl (by omega) (by decide) rfl (Nat.le_of_ble_eq_true rfl) (by omega) (by omega) rfl (fun E S9 hx => hx.elim) (fun v S9 hq => ?_)
    obtain ⟨rfl, rfl⟩ := hq
    cases H
    exact GA.iret rfl dX12_quarrel_68 (by omega) (by omega) ⟨rfl, rfl⟩
  · have H := it_f H c8
    refine GA.aload_n dX12_quarrel_47 rfl ?_
    refine GA.iconst dX12_quarrel_48 ?_
    refine GA.aload_n dX12_quarrel_49 rfl ?_
    refine GA.get xf_X12_343 dX12_quarrel_50 (gs_500 hL) (by decide) rfl ?_
    refine GA.iload_n dX12_quarrel_53 rfl ?_
    obtain ⟨hg13, H⟩ := gg_e H
    obtain ⟨x14, hx15, H⟩ := gv_e H
    refine GV.iald hg13 hx15 dX12_quarrel_54 (gs_536 hL) (by decide) ?_
    obtain ⟨hg16, H⟩ := gg_e H
    obtain ⟨x17, S_18, hc19, H⟩ := gc_e H
    refine GA.callV (m_X12_puts hL hc19) xs_X12_551 dX12_quarrel_55 (gs_500 hL) (by decide) rfl rfl (by omega) (by decide) rfl (Nat.le_of_ble_eq_true rfl) (by omega) (by omega) rfl (fun E S9 hx => hx.elim) (fun v S9 hq => ?_)
    obtain ⟨rfl, rfl⟩ := hq
    obtain ⟨x20, hx21, H⟩ := gv_e H
    refine GV.iinc hx21 dX12_quarrel_58 rfl (by decide) ?_
    refine GA.goto (tgt := 35) dX12_quarrel_61 (by decide) ?_
    refine GA.locals [(0, .ref (L 500)), (1, .int (J a1)), (2, .int (J x20))] ⟨rfl, rfl, rfl, trivial⟩ ?_
    exact ih_X12_quarrel_35 hL _ _ (a1) (x20) _ _ H
theorem g_X12_quarrel {l : Launch} {Z : XZ} {L : Nat → Nat} : ∀ n, P_X12_quarrel_0 l Z L n ∧ P_X12_quarrel_35 l Z L n
  | 0 => ⟨fun _ _ _ _ _ _ H => no_e H, fun _ _ _ _ _ _ _ H => no_e H⟩
  | n + 1 => have ⟨h0, h1⟩ := g_X12_quarrel (l := l) (Z := Z) (L := L) n
    ⟨t_X12_quarrel_0 n h0 h1, t_X12_quarrel_35 n h0 h1⟩
theorem m_X12_quarrel {l : Launch} {Z : XZ} {L : Nat → Nat} (hL : L 700 = 1) {n d : Nat} {S : GS} {a1 : Int} {x : Int} {S1 : GS} (H : f_X12_quarrel n d 0 S [a1] = some (x, S1)) : GM l Z L yX12_quarrel cX12_quarrel 3 (some .int) [] d 0 0 [.ref (L 500), .int (J a1)] S (fun v S' => v = some (.int (J x)) ∧ S1 = S') (fun _ _ => False) := GM.of (by decide) (Nat.le_of_ble_eq_true rfl) ((g_X12_quarrel n).1 hL _ _ _ _ _ H)

def P_X12_quarrels_0 (l : Launch) (Z : XZ) (L : Nat → Nat) (n : Nat) : Prop := ∀ (hL : L 700 = 1), ∀ (d : Nat) (S : GS) (x : Int) (S1 : GS), f_X12_quarrels n d 0 S [] = some (x, S1) → GA l Z L yX12_quarrels cX12_quarrels 1 (some .int) [] d 0 0 (fun v S' => v = some (.int (J x)) ∧ S1 = S') (fun _ _ => False) 0 (gl [(0, .ref (L 500))]) [] S 0 0
theorem i_X12_quarrels {l : Launch} {Z : XZ} {L : Nat → Nat} (hL : L 700 = 1) {n : Nat} (ih : P_X12_quarrels_0 l Z L n) {d : Nat} {S : GS} {x : Int} {S1 : GS} (H : f_X12_quarrels n d 0 S [] = some (x, S1)) : GM l Z L yX12_quarrels cX12_quarrels 1 (some .int) [] d 0 0 [.ref (L 500)] S (fun v S' => v = some (.int (J x)) ∧ S1 = S') (fun _ _ => False) := GM.of (by decide) (Nat.le_of_ble_eq_true rfl) (ih hL _ _ _ _ H)
set_option maxHeartbeats 4000000 in
set_option maxRecDepth 20000 in
theorem t_X12_quarrels_0 {l : Launch} {Z : XZ} {L : Nat → Nat} (n : Nat) (ih_X12_quarrels_0 : P_X12_quarrels_0 l Z L n) : P_X12_quarrels_0 l Z L (n + 1) := by
  intro hL d S  x S1 H
  have H : b_X12_quarrels_0 n d (f_X12_quarrels n) S  = some (x, S1) := H
  unfold b_X12_quarrels_0 at H
  refine GA.aload_n dX12_quarrels_0 rfl ?_
  refine GA.iconst dX12_quarrels_1 ?_
  obtain ⟨S_1, hx2, H⟩ := gv_e H
  refine GV.putI hx2 (xp_X12_1 _) dX12_quarrels_2 (gs_500 hL) (by decide) (Nat.le_of_ble_eq_true rfl) (gs_500 hL) ?_
  refine GA.aload_n dX12_quarrels_5 rfl ?_
  obtain ⟨x3, hx4, H⟩ := gv_e H
  refine GV.getI hx4 xf_X12_790 dX12_quarrels_6 (gs_500 hL) (by decide) rfl ?_
  cases H
  exact GA.iret rfl dX12_quarrels_9 (by omega) (by omega) ⟨rfl, rfl⟩
theorem g_X12_quarrels {l : Launch} {Z : XZ} {L : Nat → Nat} : ∀ n, P_X12_quarrels_0 l Z L n
  | 0 => fun _ _ _ _ _ H => no_e H
  | n + 1 => t_X12_quarrels_0 n (g_X12_quarrels n)
theorem m_X12_quarrels {l : Launch} {Z : XZ} {L : Nat → Nat} (hL : L 700 = 1) {n d : Nat} {S : GS} {x : Int} {S1 : GS} (H : f_X12_quarrels n d 0 S [] = some (x, S1)) : GM l Z L yX12_quarrels cX12_quarrels 1 (some .int) [] d 0 0 [.ref (L 500)] S (fun v S' => v = some (.int (J x)) ∧ S1 = S') (fun _ _ => False) := GM.of (by decide) (Nat.le_of_ble_eq_true rfl) ((g_X12_quarrels n) hL _ _ _ _ H)

def P_X12_readsText_0 (l : Launch) (Z : XZ) (L : Nat → Nat) (n : Nat) : Prop := ∀ (hL : L 700 = 1), ∀ (d : Nat) (S : GS) (a1 : Int) (x : Int) (S1 : GS), f_X12_readsText n d 0 S [a1] = some (x, S1) → GA l Z L yX12_readsText cX12_readsText 5 (some .boolean) [] d 0 0 (fun v S' => v = some (.int (J x)) ∧ S1 = S') (fun _ _ => False) 0 (gl [(0, .ref (L 500)), (1, .int (J a1))]) [] S 0 0
def P_X12_readsText_15 (l : Launch) (Z : XZ) (L : Nat → Nat) (n : Nat) : Prop := ∀ (hL : L 700 = 1), ∀ (d : Nat) (S : GS) (a1 : Int) (x : Int) (S1 : GS), f_X12_readsText n d 15 S [a1] = some (x, S1) → GA l Z L yX12_readsText cX12_readsText 5 (some .boolean) [] d 0 0 (fun v S' => v = some (.int (J x)) ∧ S1 = S') (fun _ _ => False) 15 (gl [(0, .ref (L 500)), (1, .int (J a1))]) [] S 0 0
def P_X12_readsText_91 (l : Launch) (Z : XZ) (L : Nat → Nat) (n : Nat) : Prop := ∀ (hL : L 700 = 1), ∀ (d : Nat) (S : GS) (a1 : Int) (a3 : Int) (x : Int) (S1 : GS), f_X12_readsText n d 91 S [a1, a3] = some (x, S1) → GA l Z L yX12_readsText cX12_readsText 5 (some .boolean) [] d 0 0 (fun v S' => v = some (.int (J x)) ∧ S1 = S') (fun _ _ => False) 91 (gl [(0, .ref (L 500)), (1, .int (J a1)), (3, .int (J a3))]) [] S 0 0
def P_X12_readsText_175 (l : Launch) (Z : XZ) (L : Nat → Nat) (n : Nat) : Prop := ∀ (hL : L 700 = 1), ∀ (d : Nat) (S : GS) (a1 : Int) (a2 : Int) (x : Int) (S1 : GS), f_X12_readsText n d 175 S [a1, a2] = some (x, S1) → GA l Z L yX12_readsText cX12_readsText 5 (some .boolean) [] d 0 0 (fun v S' => v = some (.int (J x)) ∧ S1 = S') (fun _ _ => False) 175 (gl [(0, .ref (L 500)), (1, .int (J a1)), (2, .int (J a2))]) [] S 0 0
def P_X12_readsText_192 (l : Launch) (Z : XZ) (L : Nat → Nat) (n : Nat) : Prop := ∀ (hL : L 700 = 1), ∀ (d : Nat) (S : GS) (a1 : Int) (a2 : Int) (x : Int) (S1 : GS), f_X12_readsText n d 192 S [a1, a2] = some (x, S1) → GA l Z L yX12_readsText cX12_readsText 5 (some .boolean) [] d 0 0 (fun v S' => v = some (.int (J x)) ∧ S1 = S') (fun _ _ => False) 192 (gl [(0, .ref (L 500)), (1, .int (J a1)), (2, .int (J a2))]) [] S 0 0
theorem i_X12_readsText {l : Launch} {Z : XZ} {L : Nat → Nat} (hL : L 700 = 1) {n : Nat} (ih : P_X12_readsText_0 l Z L n) {d : Nat} {S : GS} {a1 : Int} {x : Int} {S1 : GS} (H : f_X12_readsText n d 0 S [a1] = some (x, S1)) : GM l Z L yX12_readsText cX12_readsText 5 (some .boolean) [] d 0 0 [.ref (L 500), .int (J a1)] S (fun v S' => v = some (.int (J x)) ∧ S1 = S') (fun _ _ => False) := GM.of (by decide) (Nat.le_of_ble_eq_true rfl) (ih hL _ _ _ _ _ H)
set_option maxHeartbeats 4000000 in
set_option maxRecDepth 20000 in
theorem t_X12_readsText_0 {l : Launch} {Z : XZ} {L : Nat → Nat} (n : Nat) (ih_X12_readsText_0 : P_X12_readsText_0 l Z L n) (ih_X12_readsText_15 : P_X12_readsText_15 l Z L n) (ih_X12_readsText_91 : P_X12_readsText_91 l Z L n) (ih_X12_readsText_175 : P_X12_readsText_175 l Z L n) (ih_X12_readsText_192 : P_X12_readsText_192 l Z L n) : P_X12_readsText_0 l Z L (n + 1) := by
  intro hL d S a1 x S1 H
  have H : b_X12_readsText_0 n d (f_X12_readsText n) S a1 = some (x, S1) := H
  unfold b_X12_readsText_0 at H
  refine GA.aload_n dX12_readsText_0 rfl ?_
  refine GA.iconst dX12_readsText_1 ?_
  obtain ⟨S_1, hx2, H⟩ := gv_e H
  refine GV.putI hx2 (xp_X12_66 _) dX12_readsText_2 (gs_500 hL) (by decide) (Nat.le_of_ble_eq_true rfl) (gs_500 hL) ?_
  refine GA.aload_n dX12_readsText_5 rfl ?_
  refine GA.dup dX12_readsText_6 rfl ?_
  obtain ⟨x3, hx4, H⟩ := gv_e H
  refine GV.getI hx4 xf_X12_468 dX12_readsText_7 (gs_500 hL) (by decide) rfl ?_
  refine GA.iconst dX12_readsText_10 ?_
  obtain ⟨x5, hx6, H⟩ := gv_e H
  refine GV.iadd hx6 dX12_readsText_11 ?_
  obtain ⟨S_7, hx8, H⟩ := gv_e H
  refine GV.putI hx8 (xp_X12_468 _) dX12_readsText_12 (gs_500 hL) (by decide) (Nat.le_of_ble_eq_true rfl) (gs_500 hL) ?_
  refine GA.locals [(0, .ref (L 500)), (1, .int (J a1))] ⟨rfl, rfl, trivial⟩ ?_
  exact ih_X12_readsText_15 hL _ _ (a1) _ _ H
set_option maxHeartbeats 4000000 in
set_option maxRecDepth 20000 in
theorem t_X12_readsText_15 {l : Launch} {Z : XZ} {L : Nat → Nat} (n : Nat) (ih_X12_readsText_0 : P_X12_readsText_0 l Z L n) (ih_X12_readsText_15 : P_X12_readsText_15 l Z L n) (ih_X12_readsText_91 : P_X12_readsText_91 l Z L n) (ih_X12_readsText_175 : P_X12_readsText_175 l Z L n) (ih_X12_readsText_192 : P_X12_readsText_192 l Z L n) : P_X12_readsText_15 l Z L (n + 1) := by
  intro hL d S a1 x S1 H
  have H : b_X12_readsText_15 n d (f_X12_readsText n) S a1 = some (x, S1) := H
  unfold b_X12_readsText_15 at H
  refine GA.aload_n dX12_readsText_15 rfl ?_
  obtain ⟨hg1, H⟩ := gg_e H
  obtain ⟨x2, S_3, hc4, H⟩ := gc_e H
  refine GA.callV (m_X12_sign hL hc4) xs_X12_471 dX12_readsText_16 (gs_500 hL) (by decide) rfl rfl (by omega) (by decide) rfl (Nat.le_of_ble_eq_true rfl) (by omega) (by omega) rfl (fun E S9 hx => hx.elim) (fun v S9 hq => ?_)
  obtain ⟨rfl, rfl⟩ := hq
  refine GA.bipush dX12_readsText_19 rfl ?_
  obtain ⟨hg5, H⟩ := gg_e H
  refine GV.icmp_eq (tgt := 215) hg5 (by decide) dX12_readsText_21 (by decide) (fun c6 => ?_) (fun c6 => ?_)
  · have H := it_t H c6
    refine GA.aload_n dX12_readsText_215 rfl ?_
    refine GA.dup dX12_readsText_216 rfl ?_
    obtain ⟨x7, hx8, H⟩ := gv_e H
    refine GV.getI hx8 xf_X12_468 dX12_readsText_217 (gs_500 hL) (by decide) rfl ?_
    refine GA.iconst dX12_readsText_220 ?_
    obtain ⟨x9, hx10, H⟩ := gv_e H
    refine GV.iadd hx10 dX12_readsText_221 ?_
    obtain ⟨S_11, hx12, H⟩ := gv_e H
    refine GV.putI hx12 (xp_X12_468 _) dX12_readsText_222 (gs_500 hL) (by decide) (Nat.le_of_ble_eq_true rfl) (gs_500 hL) ?_
    refine GA.iconst dX12_readsText_225 ?_
    cases H
    exact GV.zret (by decide) rfl dX12_readsText_226 (by omega) (by omega) ⟨rfl, rfl⟩
  · have H := it_f H c6
    refine GA.aload_n dX12_readsText_24 rfl ?_
    obtain ⟨x13, S_14, hc15, H⟩ := gc_e H
    refine GA.callV (m_X12_sign hL hc15) xs_X12_471 dX12_readsText_25 (gs_500 hL) (by decide) rfl rfl (by omega) (by decide) rfl (Nat.le_of_ble_eq_true rfl) (by omega) (by omega) rfl (fun E S9 hx => hx.elim) (fun v S9 hq => ?_)
    obtain ⟨rfl, rfl⟩ := hq
    refine GA.istore_n dX12_readsText_28 (by decide) ?_
    refine GA.iload_n dX12_readsText_29 rfl ?_
    refine GA.bipush dX12_readsText_30 rfl ?_
    obtain ⟨hg16, H⟩ := gg_e H
    refine GV.icmp_lt (tgt := 43) hg16 (by decide) dX12_readsText_32 (by decide) (fun c17 => ?_) (fun c17 => ?_)
    · have H := it_t H c17
      refine GA.iconst dX12_readsText_43 ?_
      cases H
      exact GV.zret (by decide) rfl dX12_readsText_44 (by omega) (by omega) ⟨rfl, rfl⟩
    · have H := it_f H c17
      refine GA.aload_n dX12_readsText_35 rfl ?_
      obtain ⟨x18, hx19, H⟩ := gv_e H
      refine GV.getI hx19 xf_X12_66 dX12_readsText_36 (gs_500 hL) (by decide) rfl ?_
      refine GA.iload_n dX12_readsText_39 rfl ?_
      obtain ⟨hg20, H⟩ := gg_e H
      obtain ⟨hg21, H⟩ := gg_e H
      refine GV.icmp_ne (tgt := 45) hg20 hg21 dX12_readsText_40 (by decide) (fun c22 => ?_) (fun c22 => ?_)
      · have H := it_t H c22
        refine GA.aload_n dX12_readsText_45 rfl ?_
        refine GA.dup dX12_readsText_46 rfl ?_
        obtain ⟨x23, hx24, H⟩ := gv_e H
        refine GV.getI hx24 xf_X12_468 dX12_readsText_47 (gs_500 hL) (by decide) rfl ?_
        refine GA.iconst dX12_readsText_50 ?_
        obtain ⟨x25, hx26, H⟩ := gv_e H
        refine GV.iadd hx26 dX12_readsText_51 ?_
        obtain ⟨S_27, hx28, H⟩ := gv_e H
        refine GV.putI hx28 (xp_X12_468 _) dX12_readsText_52 (gs_500 hL) (by decide) (Nat.le_of_ble_eq_true rfl) (gs_500 hL) ?_
        refine GA.iload_n dX12_readsText_55 rfl ?_
        refine GA.bipush dX12_readsText_56 rfl ?_
        refine GV.icmp_ne (tgt := 192) hg16 (by decide) dX12_readsText_58 (by decide) (fun c29 => ?_) (fun c29 => ?_)
        · have H := it_t H c29
          refine GA.locals [(0, .ref (L 500)), (1, .int (J a1)), (2, .int (J x13))] ⟨rfl, rfl, rfl, trivial⟩ ?_
          exact ih_X12_readsText_192 hL _ _ (a1) (x13) _ _ H
        · have H := it_f H c29
          refine GA.aload_n dX12_readsText_61 rfl ?_
          refine GA.aload_n dX12_readsText_62 rfl ?_
          obtain ⟨x30, S_31, hc32, H⟩ := gc_e H
          refine GA.callV (m_X12_sign hL hc32) xs_X12_471 dX12_readsText_63 (gs_500 hL) (by decide) rfl rfl (by omega) (by decide) rfl (Nat.le_of_ble_eq_true rfl) (by omega) (by omega) rfl (fun E S9 hx => hx.elim) (fun v S9 hq => ?_)
          obtain ⟨rfl, rfl⟩ := hq
          obtain ⟨x33, S_34, hc35, H⟩ := gc_e H
          refine GA.callV (m_X12_escaped hL hc35) xs_X12_475 dX12_readsText_66 (gs_500 hL) (by decide) rfl rfl (by omega) (by decide) rfl (Nat.le_of_ble_eq_true rfl) (by omega) (by omega) rfl (fun E S9 hx => hx.elim) (fun v S9 hq => ?_)
          obtain ⟨rfl, rfl⟩ := hq
          refine GA.istore_n dX12_readsText_69 (by decide) ?_
          refine GA.aload_n dX12_readsText_70 rfl ?_
          obtain ⟨x36, S_37, hc38, H⟩ := gc_e H
          refine GA.callV (m_X12_sign hL hc38) xs_X12_471 dX12_readsText_71 (gs_500 hL) (by decide) rfl rfl (by omega) (by decide) rfl (Nat.le_of_ble_eq_true rfl) (by omega) (by omega) rfl (fun E S9 hx => hx.elim) (fun v S9 hq => ?_)
          obtain ⟨rfl, rfl⟩ := hq
          refine GA.bipush dX12_readsText_74 rfl ?_
          obtain ⟨hg39, H⟩ := gg_e H
          refine GV.icmp_ne (tgt := 175) hg39 (by decide) dX12_readsText_76 (by decide) (fun c40 => ?_) (fun c40 => ?_)
          · have H := it_t H c40
            refine GA.locals [(0, .ref (L 500)), (1, .int (J a1)), (2, .int (J x33))] ⟨rfl, rfl, rfl, trivial⟩ ?_
            exact ih_X12_readsText_175 hL _ _ (a1) (x33) _ _ H
          · have H := it_f H c40
            refine GA.aload_n dX12_readsText_79 rfl ?_
            refine GA.dup dX12_readsText_80 rfl ?_
            obtain ⟨x41, hx42, H⟩ := gv_e H
            refine GV.getI hx42 xf_X12_468 dX12_readsText_81 (gs_500 hL) (by decide) rfl ?_
            refine GA.iconst dX12_readsText_84 ?_
            obtain ⟨x43, hx44, H⟩ := gv_e H
            refine GV.iadd hx44 dX12_readsText_85 ?_
            obtain ⟨S_45, hx46, H⟩ := gv_e H
            refine GV.putI hx46 (xp_X12_468 _) dX12_readsText_86 (gs_500 hL) (by decide) (Nat.le_of_ble_eq_true rfl) (gs_500 hL) ?_
            refine GA.iconst dX12_readsText_89 ?_
            refine GA.istore_n dX12_readsText_90 (by decide) ?_
            refine GA.locals [(0, .ref (L 500)), (1, .int (J a1)), (3, .int (J 0))] ⟨rfl, rfl, rfl, trivial⟩ ?_
            exact ih_X12_readsText_91 hL _ _ (a1) (0) _ _ H
      · have H := it_f H c22
        refine GA.iconst dX12_readsText_43 ?_
        cases H
        exact GV.zret (by decide) rfl dX12_readsText_44 (by omega) (by omega) ⟨rfl, rfl⟩
set_option maxHeartbeats 4000000 in
set_option maxRecDepth 20000 in
theorem t_X12_readsText_91 {l : Launch} {Z : XZ} {L : Nat → Nat} (n : Nat) (ih_X12_readsText_0 : P_X12_readsText_0 l Z L n) (ih_X12_readsText_15 : P_X12_readsText_15 l Z L n) (ih_X12_readsText_91 : P_X12_readsText_91 l Z L n) (ih_X12_readsText_175 : P_X12_readsText_175 l Z L n) (ih_X12_readsText_192 : P_X12_readsText_192 l Z L n) : P_X12_readsText_91 l Z L (n + 1) := by
  intro hL d S a1 a3 x S1 H
  have H : b_X12_readsText_91 n d (f_X12_readsText n) S a1 a3 = some (x, S1) := H
  unfold b_X12_readsText_91 at H
  refine GA.iload_n dX12_readsText_91 rfl ?_
  refine GA.iconst dX12_readsText_92 ?_
  obtain ⟨hg1, H⟩ := gg_e H
  refine GV.icmp_ge (tgt := 123) hg1 (by decide) dX12_readsText_93 (by decide) (fun c2 => ?_) (fun c2 => ?_)
  · have H := it_t H c2
    refine GA.aload_n dX12_readsText_123 rfl ?_
    refine GA.aload_n dX12_readsText_124 rfl ?_
    obtain ⟨hg3, H⟩ := gg_e H
    obtain ⟨x4, S_5, hc6, H⟩ := gc_e H
    refine GA.callV (m_X12_sign hL hc6) xs_X12_471 dX12_readsText_125 (gs_500 hL) (by decide) rfl rfl (by omega) (by decide) rfl (Nat.le_of_ble_eq_true rfl) (by omega) (by omega) rfl (fun E S9 hx => hx.elim) (fun v S9 hq => ?_)
    obtain ⟨rfl, rfl⟩ := hq
    obtain ⟨x7, S_8, hc9, H⟩ := gc_e H
    refine GA.callV (m_X12_hex hL hc9) xs_X12_478 dX12_readsText_128 (gs_500 hL) (by decide) rfl rfl (by omega) (by decide) rfl (Nat.le_of_ble_eq_true rfl) (by omega) (by omega) rfl (fun E S9 hx => hx.elim) (fun v S9 hq => ?_)
    obtain ⟨rfl, rfl⟩ := hq
    refine GA.istore_n dX12_readsText_131 (by decide) ?_
    refine GA.iload_n dX12_readsText_132 rfl ?_
    refine GA.iconst dX12_readsText_133 ?_
    obtain ⟨hg10, H⟩ := gg_e H
    refine GV.icmp_ne (tgt := 139) hg10 (by decide) dX12_readsText_134 (by decide) (fun c11 => ?_) (fun c11 => ?_)
    · have H := it_t H c11
      refine GA.aload_n dX12_readsText_139 rfl ?_
      refine GA.dup dX12_readsText_140 rfl ?_
      obtain ⟨x12, hx13, H⟩ := gv_e H
      refine GV.getI hx13 xf_X12_468 dX12_readsText_141 (gs_500 hL) (by decide) rfl ?_
      refine GA.iconst dX12_readsText_144 ?_
      obtain ⟨x14, hx15, H⟩ := gv_e H
      refine GV.iadd hx15 dX12_readsText_145 ?_
      obtain ⟨S_16, hx17, H⟩ := gv_e H
      refine GV.putI hx17 (xp_X12_468 _) dX12_readsText_146 (gs_500 hL) (by decide) (Nat.le_of_ble_eq_true rfl) (gs_500 hL) ?_
      refine GA.aload_n dX12_readsText_149 rfl ?_
      refine GA.aload_n dX12_readsText_150 rfl ?_
      obtain ⟨x18, S_19, hc20, H⟩ := gc_e H
      refine GA.callV (m_X12_sign hL hc20) xs_X12_471 dX12_readsText_151 (gs_500 hL) (by decide) rfl rfl (by omega) (by decide) rfl (Nat.le_of_ble_eq_true rfl) (by omega) (by omega) rfl (fun E S9 hx => hx.elim) (fun v S9 hq => ?_)
      obtain ⟨rfl, rfl⟩ := hq
      obtain ⟨x21, S_22, hc23, H⟩ := gc_e H
      refine GA.callV (m_X12_hex hL hc23) xs_X12_478 dX12_readsText_154 (gs_500 hL) (by decide) rfl rfl (by omega) (by decide) rfl (Nat.le_of_ble_eq_true rfl) (by omega) (by omega) rfl (fun E S9 hx => hx.elim) (fun v S9 hq => ?_)
      obtain ⟨rfl, rfl⟩ := hq
      refine GA.istore dX12_readsText_157 (by decide) ?_
      refine GA.iload dX12_readsText_159 rfl ?_
      refine GA.iconst dX12_readsText_161 ?_
      obtain ⟨hg24, H⟩ := gg_e H
      refine GV.icmp_ne (tgt := 167) hg24 (by decide) dX12_readsText_162 (by decide) (fun c25 => ?_) (fun c25 => ?_)
      · have H := it_t H c25
        refine GA.bipush dX12_readsText_167 rfl ?_
        refine GA.iload_n dX12_readsText_169 rfl ?_
        obtain ⟨x26, hx27, H⟩ := gv_e H
        refine GV.imul hx27 dX12_readsText_170 ?_
        refine GA.iload dX12_readsText_171 rfl ?_
        obtain ⟨x28, hx29, H⟩ := gv_e H
        refine GV.iadd hx29 dX12_readsText_173 ?_
        refine GA.istore_n dX12_readsText_174 (by decide) ?_
        refine GA.locals [(0, .ref (L 500)), (1, .int (J a1)), (2, .int (J x28))] ⟨rfl, rfl, rfl, trivial⟩ ?_
        exact ih_X12_readsText_175 hL _ _ (a1) (x28) _ _ H
      · have H := it_f H c25
        refine GA.iconst dX12_readsText_165 ?_
        cases H
        exact GV.zret (by decide) rfl dX12_readsText_166 (by omega) (by omega) ⟨rfl, rfl⟩
    · have H := it_f H c11
      refine GA.iconst dX12_readsText_137 ?_
      cases H
      exact GV.zret (by decide) rfl dX12_readsText_138 (by omega) (by omega) ⟨rfl, rfl⟩
  · have H := it_f H c2
    refine GA.aload_n dX12_readsText_96 rfl ?_
    obtain ⟨hg30, H⟩ := gg_e H
    obtain ⟨x31, S_32, hc33, H⟩ := gc_e H
    refine GA.callV (m_X12_sign hL hc33) xs_X12_471 dX12_readsText_97 (gs_500 hL) (by decide) rfl rfl (by omega) (by decide) rfl (Nat.le_of_ble_eq_true rfl) (by omega) (by omega) rfl (fun E S9 hx => hx.elim) (fun v S9 hq => ?_)
    obtain ⟨rfl, rfl⟩ := hq
    refine GA.bipush dX12_readsText_100 rfl ?_
    obtain ⟨hg34, H⟩ := gg_e H
    refine GV.icmp_eq (tgt := 107) hg34 (by decide) dX12_readsText_102 (by decide) (fun c35 => ?_) (fun c35 => ?_)
    · have H := it_t H c35
      refine GA.aload_n dX12_readsText_107 rfl ?_
      refine GA.dup dX12_readsText_108 rfl ?_
      obtain ⟨x36, hx37, H⟩ := gv_e H
      refine GV.getI hx37 xf_X12_468 dX12_readsText_109 (gs_500 hL) (by decide) rfl ?_
      refine GA.iconst dX12_readsText_112 ?_
      obtain ⟨x38, hx39, H⟩ := gv_e H
      refine GV.iadd hx39 dX12_readsText_113 ?_
      obtain ⟨S_40, hx41, H⟩ := gv_e H
      refine GV.putI hx41 (xp_X12_468 _) dX12_readsText_114 (gs_500 hL) (by decide) (Nat.le_of_ble_eq_true rfl) (gs_500 hL) ?_
      obtain ⟨x42, hx43, H⟩ := gv_e H
      refine GV.iinc hx43 dX12_readsText_117 rfl (by decide) ?_
      refine GA.goto (tgt := 91) dX12_readsText_120 (by decide) ?_
      refine GA.locals [(0, .ref (L 500)), (1, .int (J a1)), (3, .int (J x42))] ⟨rfl, rfl, rfl, trivial⟩ ?_
      exact ih_X12_readsText_91 hL _ _ (a1) (x42) _ _ H
    · have H := it_f H c35
      refine GA.iconst dX12_readsText_105 ?_
      cases H
      exact GV.zret (by decide) rfl dX12_readsText_106 (by omega) (by omega) ⟨rfl, rfl⟩
set_option maxHeartbeats 4000000 in
set_option maxRecDepth 20000 in
theorem t_X12_readsText_175 {l : Launch} {Z : XZ} {L : Nat → Nat} (n : Nat) (ih_X12_readsText_0 : P_X12_readsText_0 l Z L n) (ih_X12_readsText_15 : P_X12_readsText_15 l Z L n) (ih_X12_readsText_91 : P_X12_readsText_91 l Z L n) (ih_X12_readsText_175 : P_X12_readsText_175 l Z L n) (ih_X12_readsText_192 : P_X12_readsText_192 l Z L n) : P_X12_readsText_175 l Z L (n + 1) := by
  intro hL d S a1 a2 x S1 H
  have H : b_X12_readsText_175 n d (f_X12_readsText n) S a1 a2 = some (x, S1) := H
  unfold b_X12_readsText_175 at H
  refine GA.iload_n dX12_readsText_175 rfl ?_
  refine GA.iconst dX12_readsText_176 ?_
  obtain ⟨hg1, H⟩ := gg_e H
  refine GV.icmp_ne (tgt := 182) hg1 (by decide) dX12_readsText_177 (by decide) (fun c2 => ?_) (fun c2 => ?_)
  · have H := it_t H c2
    refine GA.aload_n dX12_readsText_182 rfl ?_
    refine GA.dup dX12_readsText_183 rfl ?_
    obtain ⟨x3, hx4, H⟩ := gv_e H
    refine GV.getI hx4 xf_X12_468 dX12_readsText_184 (gs_500 hL) (by decide) rfl ?_
    refine GA.iconst dX12_readsText_187 ?_
    obtain ⟨x5, hx6, H⟩ := gv_e H
    refine GV.iadd hx6 dX12_readsText_188 ?_
    obtain ⟨S_7, hx8, H⟩ := gv_e H
    refine GV.putI hx8 (xp_X12_468 _) dX12_readsText_189 (gs_500 hL) (by decide) (Nat.le_of_ble_eq_true rfl) (gs_500 hL) ?_
    refine GA.locals [(0, .ref (L 500)), (1, .int (J a1)), (2, .int (J a2))] ⟨rfl, rfl, rfl, trivial⟩ ?_
    exact ih_X12_readsText_192 hL _ _ (a1) (a2) _ _ H
  · have H := it_f H c2
    refine GA.iconst dX12_readsText_180 ?_
    cases H
    exact GV.zret (by decide) rfl dX12_readsText_181 (by omega) (by omega) ⟨rfl, rfl⟩
set_option maxHeartbeats 4000000 in
set_option maxRecDepth 20000 in
theorem t_X12_readsText_192 {l : Launch} {Z : XZ} {L : Nat → Nat} (n : Nat) (ih_X12_readsText_0 : P_X12_readsText_0 l Z L n) (ih_X12_readsText_15 : P_X12_readsText_15 l Z L n) (ih_X12_readsText_91 : P_X12_readsText_91 l Z L n) (ih_X12_readsText_175 : P_X12_readsText_175 l Z L n) (ih_X12_readsText_192 : P_X12_readsText_192 l Z L n) : P_X12_readsText_192 l Z L (n + 1) := by
  intro hL d S a1 a2 x S1 H
  have H : b_X12_readsText_192 n d (f_X12_readsText n) S a1 a2 = some (x, S1) := H
  unfold b_X12_readsText_192 at H
  refine GA.aload_n dX12_readsText_192 rfl ?_
  refine GA.get xf_X12_69 dX12_readsText_193 (gs_500 hL) (by decide) rfl ?_
  refine GA.aload_n dX12_readsText_196 rfl ?_
  obtain ⟨x1, hx2, H⟩ := gv_e H
  refine GV.getI hx2 xf_X12_66 dX12_readsText_197 (gs_500 hL) (by decide) rfl ?_
  refine GA.iload_n dX12_readsText_200 rfl ?_
  obtain ⟨hg3, H⟩ := gg_e H
  obtain ⟨S_4, hx5, H⟩ := gv_e H
  refine GV.iast hg3 hx5 dX12_readsText_201 (fun _ => (gs_507 hL)) (by decide) ?_
  refine GA.aload_n dX12_readsText_202 rfl ?_
  refine GA.dup dX12_readsText_203 rfl ?_
  obtain ⟨x6, hx7, H⟩ := gv_e H
  refine GV.getI hx7 xf_X12_66 dX12_readsText_204 (gs_500 hL) (by decide) rfl ?_
  refine GA.iconst dX12_readsText_207 ?_
  obtain ⟨x8, hx9, H⟩ := gv_e H
  refine GV.iadd hx9 dX12_readsText_208 ?_
  obtain ⟨S_10, hx11, H⟩ := gv_e H
  refine GV.putI hx11 (xp_X12_66 _) dX12_readsText_209 (gs_500 hL) (by decide) (Nat.le_of_ble_eq_true rfl) (gs_500 hL) ?_
  refine GA.goto (tgt := 15) dX12_readsText_212 (by decide) ?_
  refine GA.locals [(0, .ref (L 500)), (1, .int (J a1))] ⟨rfl, rfl, trivial⟩ ?_
  exact ih_X12_readsText_15 hL _ _ (a1) _ _ H
theorem g_X12_readsText {l : Launch} {Z : XZ} {L : Nat → Nat} : ∀ n, P_X12_readsText_0 l Z L n ∧ P_X12_readsText_15 l Z L n ∧ P_X12_readsText_91 l Z L n ∧ P_X12_readsText_175 l Z L n ∧ P_X12_readsText_192 l Z L n
  | 0 => ⟨fun _ _ _ _ _ _ H => no_e H, fun _ _ _ _ _ _ H => no_e H, fun _ _ _ _ _ _ _ H => no_e H, fun _ _ _ _ _ _ _ H => no_e H, fun _ _ _ _ _ _ _ H => no_e H⟩
  | n + 1 => have ⟨h0, h1, h2, h3, h4⟩ := g_X12_readsText (l := l) (Z := Z) (L := L) n
    ⟨t_X12_readsText_0 n h0 h1 h2 h3 h4, t_X12_readsText_15 n h0 h1 h2 h3 h4, t_X12_readsText_91 n h0 h1 h2 h3 h4, t_X12_readsText_175 n h0 h1 h2 h3 h4, t_X12_readsText_192 n h0 h1 h2 h3 h4⟩
theorem m_X12_readsText {l : Launch} {Z : XZ} {L : Nat → Nat} (hL : L 700 = 1) {n d : Nat} {S : GS} {a1 : Int} {x : Int} {S1 : GS} (H : f_X12_readsText n d 0 S [a1] = some (x, S1)) : GM l Z L yX12_readsText cX12_readsText 5 (some .boolean) [] d 0 0 [.ref (L 500), .int (J a1)] S (fun v S' => v = some (.int (J x)) ∧ S1 = S') (fun _ _ => False) := GM.of (by decide) (Nat.le_of_ble_eq_true rfl) ((g_X12_readsText n).1 hL _ _ _ _ _ H)

def P_X12_readsKey_0 (l : Launch) (Z : XZ) (L : Nat → Nat) (n : Nat) : Prop := ∀ (hL : L 700 = 1), ∀ (d : Nat) (S : GS) (a1 : Int) (x : Int) (S1 : GS), f_X12_readsKey n d 0 S [a1] = some (x, S1) → GA l Z L yX12_readsKey cX12_readsKey 6 (some .boolean) [] d 0 0 (fun v S' => v = some (.int (J x)) ∧ S1 = S') (fun _ _ => False) 0 (gl [(0, .ref (L 500)), (1, .int (J a1))]) [] S 0 0
def P_X12_readsKey_32 (l : Launch) (Z : XZ) (L : Nat → Nat) (n : Nat) : Prop := ∀ (hL : L 700 = 1), ∀ (d : Nat) (S : GS) (a1 : Int) (a2 : Int) (x : Int) (S1 : GS), f_X12_readsKey n d 32 S [a1, a2] = some (x, S1) → GA l Z L yX12_readsKey cX12_readsKey 6 (some .boolean) [] d 0 0 (fun v S' => v = some (.int (J x)) ∧ S1 = S') (fun _ _ => False) 32 (gl [(0, .ref (L 500)), (1, .int (J a1)), (2, .int (J a2))]) [] S 0 0
def P_X12_readsKey_74 (l : Launch) (Z : XZ) (L : Nat → Nat) (n : Nat) : Prop := ∀ (hL : L 700 = 1), ∀ (d : Nat) (S : GS) (a1 : Int) (a2 : Int) (a3 : Int) (x : Int) (S1 : GS), f_X12_readsKey n d 74 S [a1, a2, a3] = some (x, S1) → GA l Z L yX12_readsKey cX12_readsKey 6 (some .boolean) [] d 0 0 (fun v S' => v = some (.int (J x)) ∧ S1 = S') (fun _ _ => False) 74 (gl [(0, .ref (L 500)), (1, .int (J a1)), (2, .int (J a2)), (3, .int (J a3))]) [] S 0 0
def P_X12_readsKey_126 (l : Launch) (Z : XZ) (L : Nat → Nat) (n : Nat) : Prop := ∀ (hL : L 700 = 1), ∀ (d : Nat) (S : GS) (a1 : Int) (a2 : Int) (a3 : Int) (a4 : Int) (a5 : Int) (x : Int) (S1 : GS), f_X12_readsKey n d 126 S [a1, a2, a3, a4, a5] = some (x, S1) → GA l Z L yX12_readsKey cX12_readsKey 6 (some .boolean) [] d 0 0 (fun v S' => v = some (.int (J x)) ∧ S1 = S') (fun _ _ => False) 126 (gl [(0, .ref (L 500)), (1, .int (J a1)), (2, .int (J a2)), (3, .int (J a3)), (4, .int (J a4)), (5, .int (J a5))]) [] S 0 0
def P_X12_readsKey_175 (l : Launch) (Z : XZ) (L : Nat → Nat) (n : Nat) : Prop := ∀ (hL : L 700 = 1), ∀ (d : Nat) (S : GS) (a1 : Int) (a2 : Int) (a3 : Int) (a4 : Int) (x : Int) (S1 : GS), f_X12_readsKey n d 175 S [a1, a2, a3, a4] = some (x, S1) → GA l Z L yX12_readsKey cX12_readsKey 6 (some .boolean) [] d 0 0 (fun v S' => v = some (.int (J x)) ∧ S1 = S') (fun _ _ => False) 175 (gl [(0, .ref (L 500)), (1, .int (J a1)), (2, .int (J a2)), (3, .int (J a3)), (4, .int (J a4))]) [] S 0 0
def P_X12_readsKey_198 (l : Launch) (Z : XZ) (L : Nat → Nat) (n : Nat) : Prop := ∀ (hL : L 700 = 1), ∀ (d : Nat) (S : GS) (x : Int) (S1 : GS), f_X12_readsKey n d 198 S [] = some (x, S1) → GA l Z L yX12_readsKey cX12_readsKey 6 (some .boolean) [] d 0 0 (fun v S' => v = some (.int (J x)) ∧ S1 = S') (fun _ _ => False) 198 (gl [(0, .ref (L 500))]) [] S 0 0
theorem i_X12_readsKey {l : Launch} {Z : XZ} {L : Nat → Nat} (hL : L 700 = 1) {n : Nat} (ih : P_X12_readsKey_0 l Z L n) {d : Nat} {S : GS} {a1 : Int} {x : Int} {S1 : GS} (H : f_X12_readsKey n d 0 S [a1] = some (x, S1)) : GM l Z L yX12_readsKey cX12_readsKey 6 (some .boolean) [] d 0 0 [.ref (L 500), .int (J a1)] S (fun v S' => v = some (.int (J x)) ∧ S1 = S') (fun _ _ => False) := GM.of (by decide) (Nat.le_of_ble_eq_true rfl) (ih hL _ _ _ _ _ H)
set_option maxHeartbeats 4000000 in
set_option maxRecDepth 20000 in
theorem t_X12_readsKey_0 {l : Launch} {Z : XZ} {L : Nat → Nat} (n : Nat) (ih_X12_readsKey_0 : P_X12_readsKey_0 l Z L n) (ih_X12_readsKey_32 : P_X12_readsKey_32 l Z L n) (ih_X12_readsKey_74 : P_X12_readsKey_74 l Z L n) (ih_X12_readsKey_126 : P_X12_readsKey_126 l Z L n) (ih_X12_readsKey_175 : P_X12_readsKey_175 l Z L n) (ih_X12_readsKey_198 : P_X12_readsKey_198 l Z L n) : P_X12_readsKey_0 l Z L (n + 1) := by
  intro hL d S a1 x S1 H
  have H : b_X12_readsKey_0 n d (f_X12_readsKey n) S a1 = some (x, S1) := H
  unfold b_X12_readsKey_0 at H
  refine GA.aload_n dX12_readsKey_0 rfl ?_
  obtain ⟨hg1, H⟩ := gg_e H
  obtain ⟨x2, S_3, hc4, H⟩ := gc_e H
  refine GA.callV (m_X12_sign hL hc4) xs_X12_471 dX12_readsKey_1 (gs_500 hL) (by decide) rfl rfl (by omega) (by decide) rfl (Nat.le_of_ble_eq_true rfl) (by omega) (by omega) rfl (fun E S9 hx => hx.elim) (fun v S9 hq => ?_)
  obtain ⟨rfl, rfl⟩ := hq
  refine GA.bipush dX12_readsKey_4 rfl ?_
  obtain ⟨hg5, H⟩ := gg_e H
  refine GV.icmp_eq (tgt := 11) hg5 (by decide) dX12_readsKey_6 (by decide) (fun c6 => ?_) (fun c6 => ?_)
  · have H := it_t H c6
    refine GA.aload_n dX12_readsKey_11 rfl ?_
    refine GA.bipush dX12_readsKey_12 rfl ?_
    obtain ⟨x7, S_8, hc9, H⟩ := gc_e H
    refine GA.callV (m_X12_readsText hL hc9) xs_X12_489 dX12_readsKey_14 (gs_500 hL) (by decide) rfl rfl (by omega) (by decide) rfl (Nat.le_of_ble_eq_true rfl) (by omega) (by omega) rfl (fun E S9 hx => hx.elim) (fun v S9 hq => ?_)
    obtain ⟨rfl, rfl⟩ := hq
    obtain ⟨hg10, H⟩ := gg_e H
    refine GV.if_ne (tgt := 22) hg10 dX12_readsKey_17 (by decide) (fun c11 => ?_) (fun c11 => ?_)
    · have H := it_t H c11
      refine GA.aload_n dX12_readsKey_22 rfl ?_
      refine GA.aload_n dX12_readsKey_23 rfl ?_
      obtain ⟨x12, hx13, H⟩ := gv_e H
      refine GV.getI hx13 xf_X12_66 dX12_readsKey_24 (gs_500 hL) (by decide) rfl ?_
      obtain ⟨S_14, hx15, H⟩ := gv_e H
      refine GV.putI hx15 (xp_X12_508 _) dX12_readsKey_27 (gs_500 hL) (by decide) (Nat.le_of_ble_eq_true rfl) (gs_500 hL) ?_
      refine GA.iconst dX12_readsKey_30 ?_
      refine GA.istore_n dX12_readsKey_31 (by decide) ?_
      refine GA.locals [(0, .ref (L 500)), (1, .int (J a1)), (2, .int (J 0))] ⟨rfl, rfl, rfl, trivial⟩ ?_
      exact ih_X12_readsKey_32 hL _ _ (a1) (0) _ _ H
    · have H := it_f H c11
      refine GA.iconst dX12_readsKey_20 ?_
      cases H
      exact GV.zret (by decide) rfl dX12_readsKey_21 (by omega) (by omega) ⟨rfl, rfl⟩
  · have H := it_f H c6
    refine GA.iconst dX12_readsKey_9 ?_
    cases H
    exact GV.zret (by decide) rfl dX12_readsKey_10 (by omega) (by omega) ⟨rfl, rfl⟩
set_option maxHeartbeats 4000000 in
set_option maxRecDepth 20000 in
theorem t_X12_readsKey_32 {l : Launch} {Z : XZ} {L : Nat → Nat} (n : Nat) (ih_X12_readsKey_0 : P_X12_readsKey_0 l Z L n) (ih_X12_readsKey_32 : P_X12_readsKey_32 l Z L n) (ih_X12_readsKey_74 : P_X12_readsKey_74 l Z L n) (ih_X12_readsKey_126 : P_X12_readsKey_126 l Z L n) (ih_X12_readsKey_175 : P_X12_readsKey_175 l Z L n) (ih_X12_readsKey_198 : P_X12_readsKey_198 l Z L n) : P_X12_readsKey_32 l Z L (n + 1) := by
  intro hL d S a1 a2 x S1 H
  have H : b_X12_readsKey_32 n d (f_X12_readsKey n) S a1 a2 = some (x, S1) := H
  unfold b_X12_readsKey_32 at H
  refine GA.iload_n dX12_readsKey_32 rfl ?_
  refine GA.aload_n dX12_readsKey_33 rfl ?_
  obtain ⟨x1, hx2, H⟩ := gv_e H
  refine GV.getI hx2 xf_X12_508 dX12_readsKey_34 (gs_500 hL) (by decide) rfl ?_
  obtain ⟨hg3, H⟩ := gg_e H
  obtain ⟨hg4, H⟩ := gg_e H
  refine GV.icmp_ge (tgt := 58) hg3 hg4 dX12_readsKey_37 (by decide) (fun c5 => ?_) (fun c5 => ?_)
  · have H := it_t H c5
    refine GA.aload_n dX12_readsKey_58 rfl ?_
    refine GA.get xf_X12_253 dX12_readsKey_59 (gs_500 hL) (by decide) rfl ?_
    refine GA.aload_n dX12_readsKey_62 rfl ?_
    obtain ⟨x6, hx7, H⟩ := gv_e H
    refine GV.getI hx7 xf_X12_511 dX12_readsKey_63 (gs_500 hL) (by decide) rfl ?_
    refine GA.iconst dX12_readsKey_66 ?_
    obtain ⟨x8, hx9, H⟩ := gv_e H
    refine GV.isub hx9 dX12_readsKey_67 ?_
    obtain ⟨hg10, H⟩ := gg_e H
    obtain ⟨x11, hx12, H⟩ := gv_e H
    refine GV.iald hg10 hx12 dX12_readsKey_68 (gs_511 hL) (by decide) ?_
    refine GA.istore_n dX12_readsKey_69 (by decide) ?_
    refine GA.iload_n dX12_readsKey_70 rfl ?_
    refine GA.iconst dX12_readsKey_71 ?_
    obtain ⟨x13, hx14, H⟩ := gv_e H
    refine GV.iadd hx14 dX12_readsKey_72 ?_
    refine GA.istore_n dX12_readsKey_73 (by decide) ?_
    refine GA.locals [(0, .ref (L 500)), (1, .int (J a1)), (2, .int (J x11)), (3, .int (J x13))] ⟨rfl, rfl, rfl, rfl, trivial⟩ ?_
    exact ih_X12_readsKey_74 hL _ _ (a1) (x11) (x13) _ _ H
  · have H := it_f H c5
    refine GA.aload_n dX12_readsKey_40 rfl ?_
    refine GA.get xf_X12_256 dX12_readsKey_41 (gs_500 hL) (by decide) rfl ?_
    refine GA.iload_n dX12_readsKey_44 rfl ?_
    refine GA.aload_n dX12_readsKey_45 rfl ?_
    refine GA.get xf_X12_69 dX12_readsKey_46 (gs_500 hL) (by decide) rfl ?_
    refine GA.iload_n dX12_readsKey_49 rfl ?_
    obtain ⟨hg15, H⟩ := gg_e H
    obtain ⟨x16, hx17, H⟩ := gv_e H
    refine GV.iald hg15 hx17 dX12_readsKey_50 (gs_507 hL) (by decide) ?_
    obtain ⟨hg18, H⟩ := gg_e H
    obtain ⟨S_19, hx20, H⟩ := gv_e H
    refine GV.iast hg18 hx20 dX12_readsKey_51 (fun _ => (gs_512 hL)) (by decide) ?_
    obtain ⟨x21, hx22, H⟩ := gv_e H
    refine GV.iinc hx22 dX12_readsKey_52 rfl (by decide) ?_
    refine GA.goto (tgt := 32) dX12_readsKey_55 (by decide) ?_
    refine GA.locals [(0, .ref (L 500)), (1, .int (J a1)), (2, .int (J x21))] ⟨rfl, rfl, rfl, trivial⟩ ?_
    exact ih_X12_readsKey_32 hL _ _ (a1) (x21) _ _ H
set_option maxHeartbeats 4000000 in
set_option maxRecDepth 20000 in
theorem t_X12_readsKey_74 {l : Launch} {Z : XZ} {L : Nat → Nat} (n : Nat) (ih_X12_readsKey_0 : P_X12_readsKey_0 l Z L n) (ih_X12_readsKey_32 : P_X12_readsKey_32 l Z L n) (ih_X12_readsKey_74 : P_X12_readsKey_74 l Z L n) (ih_X12_readsKey_126 : P_X12_readsKey_126 l Z L n) (ih_X12_readsKey_175 : P_X12_readsKey_175 l Z L n) (ih_X12_readsKey_198 : P_X12_readsKey_198 l Z L n) : P_X12_readsKey_74 l Z L (n + 1) := by
  intro hL d S a1 a2 a3 x S1 H
  have H : b_X12_readsKey_74 n d (f_X12_readsKey n) S a1 a2 a3 = some (x, S1) := H
  unfold b_X12_readsKey_74 at H
  refine GA.iload_n dX12_readsKey_74 rfl ?_
  refine GA.aload_n dX12_readsKey_75 rfl ?_
  refine GA.get xf_X12_26 dX12_readsKey_76 (gs_500 hL) (by decide) rfl ?_
  refine GA.bipush dX12_readsKey_79 rfl ?_
  obtain ⟨hg1, H⟩ := gg_e H
  obtain ⟨x2, hx3, H⟩ := gv_e H
  refine GV.iald hg1 hx3 dX12_readsKey_81 (gs_502 hL) (by decide) ?_
  obtain ⟨hg4, H⟩ := gg_e H
  obtain ⟨hg5, H⟩ := gg_e H
  refine GV.icmp_ge (tgt := 198) hg4 hg5 dX12_readsKey_82 (by decide) (fun c6 => ?_) (fun c6 => ?_)
  · have H := it_t H c6
    refine GA.locals [(0, .ref (L 500))] ⟨rfl, trivial⟩ ?_
    exact ih_X12_readsKey_198 hL _ _ _ _ H
  · have H := it_f H c6
    refine GA.iload_n dX12_readsKey_85 rfl ?_
    obtain ⟨hg7, H⟩ := gg_e H
    refine GV.if_ne (tgt := 198) hg7 dX12_readsKey_86 (by decide) (fun c8 => ?_) (fun c8 => ?_)
    · have H := it_t H c8
      refine GA.locals [(0, .ref (L 500))] ⟨rfl, trivial⟩ ?_
      exact ih_X12_readsKey_198 hL _ _ _ _ H
    · have H := it_f H c8
      refine GA.aload_n dX12_readsKey_89 rfl ?_
      refine GA.bipush dX12_readsKey_90 rfl ?_
      refine GA.iload_n dX12_readsKey_92 rfl ?_
      refine GA.iconst dX12_readsKey_93 ?_
      obtain ⟨hg9, H⟩ := gg_e H
      obtain ⟨x10, S_11, hc12, H⟩ := gc_e H
      refine GA.callV (m_X12_part hL hc12) xs_X12_36 dX12_readsKey_94 (gs_500 hL) (by decide) rfl rfl (by omega) (by decide) rfl (Nat.le_of_ble_eq_true rfl) (by omega) (by omega) rfl (fun E S9 hx => hx.elim) (fun v S9 hq => ?_)
      obtain ⟨rfl, rfl⟩ := hq
      refine GA.iload_n dX12_readsKey_97 rfl ?_
      obtain ⟨hg13, H⟩ := gg_e H
      obtain ⟨hg14, H⟩ := gg_e H
      refine GV.icmp_ne (tgt := 120) hg13 hg14 dX12_readsKey_98 (by decide) (fun c15 => ?_) (fun c15 => ?_)
      · have H := it_t H c15
        refine GA.iconst dX12_readsKey_120 ?_
        refine GA.istore dX12_readsKey_121 (by decide) ?_
        refine GA.iconst dX12_readsKey_123 ?_
        refine GA.istore dX12_readsKey_124 (by decide) ?_
        refine GA.locals [(0, .ref (L 500)), (1, .int (J a1)), (2, .int (J a2)), (3, .int (J a3)), (4, .int (J 0)), (5, .int (J 0))] ⟨rfl, rfl, rfl, rfl, rfl, rfl, trivial⟩ ?_
        exact ih_X12_readsKey_126 hL _ _ (a1) (a2) (a3) (0) (0) _ _ H
      · have H := it_f H c15
        refine GA.aload_n dX12_readsKey_101 rfl ?_
        refine GA.bipush dX12_readsKey_102 rfl ?_
        refine GA.iload_n dX12_readsKey_104 rfl ?_
        refine GA.iconst dX12_readsKey_105 ?_
        obtain ⟨x16, S_17, hc18, H⟩ := gc_e H
        refine GA.callV (m_X12_part hL hc18) xs_X12_36 dX12_readsKey_106 (gs_500 hL) (by decide) rfl rfl (by omega) (by decide) rfl (Nat.le_of_ble_eq_true rfl) (by omega) (by omega) rfl (fun E S9 hx => hx.elim) (fun v S9 hq => ?_)
        obtain ⟨rfl, rfl⟩ := hq
        refine GA.aload_n dX12_readsKey_109 rfl ?_
        obtain ⟨x19, hx20, H⟩ := gv_e H
        refine GV.getI hx20 xf_X12_508 dX12_readsKey_110 (gs_500 hL) (by decide) rfl ?_
        obtain ⟨hg21, H⟩ := gg_e H
        obtain ⟨hg22, H⟩ := gg_e H
        refine GV.icmp_ne (tgt := 120) hg21 hg22 dX12_readsKey_113 (by decide) (fun c23 => ?_) (fun c23 => ?_)
        · have H := it_t H c23
          refine GA.iconst dX12_readsKey_120 ?_
          refine GA.istore dX12_readsKey_121 (by decide) ?_
          refine GA.iconst dX12_readsKey_123 ?_
          refine GA.istore dX12_readsKey_124 (by decide) ?_
          refine GA.locals [(0, .ref (L 500)), (1, .int (J a1)), (2, .int (J a2)), (3, .int (J a3)), (4, .int (J 0)), (5, .int (J 0))] ⟨rfl, rfl, rfl, rfl, rfl, rfl, trivial⟩ ?_
          exact ih_X12_readsKey_126 hL _ _ (a1) (a2) (a3) (0) (0) _ _ H
        · have H := it_f H c23
          refine GA.iconst dX12_readsKey_116 ?_
          refine GA.goto (tgt := 121) dX12_readsKey_117 (by decide) ?_
          refine GA.istore dX12_readsKey_121 (by decide) ?_
          refine GA.iconst dX12_readsKey_123 ?_
          refine GA.istore dX12_readsKey_124 (by decide) ?_
          refine GA.locals [(0, .ref (L 500)), (1, .int (J a1)), (2, .int (J a2)), (3, .int (J a3)), (4, .int (J 1)), (5, .int (J 0))] ⟨rfl, rfl, rfl, rfl, rfl, rfl, trivial⟩ ?_
          exact ih_X12_readsKey_126 hL _ _ (a1) (a2) (a3) (1) (0) _ _ H
set_option maxHeartbeats 4000000 in
set_option maxRecDepth 20000 in
theorem t_X12_readsKey_126 {l : Launch} {Z : XZ} {L : Nat → Nat} (n : Nat) (ih_X12_readsKey_0 : P_X12_readsKey_0 l Z L n) (ih_X12_readsKey_32 : P_X12_readsKey_32 l Z L n) (ih_X12_readsKey_74 : P_X12_readsKey_74 l Z L n) (ih_X12_readsKey_126 : P_X12_readsKey_126 l Z L n) (ih_X12_readsKey_175 : P_X12_readsKey_175 l Z L n) (ih_X12_readsKey_198 : P_X12_readsKey_198 l Z L n) : P_X12_readsKey_126 l Z L (n + 1) := by
  intro hL d S a1 a2 a3 a4 a5 x S1 H
  have H : b_X12_readsKey_126 n d (f_X12_readsKey n) S a1 a2 a3 a4 a5 = some (x, S1) := H
  unfold b_X12_readsKey_126 at H
  refine GA.iload dX12_readsKey_126 rfl ?_
  refine GA.aload_n dX12_readsKey_128 rfl ?_
  obtain ⟨x1, hx2, H⟩ := gv_e H
  refine GV.getI hx2 xf_X12_508 dX12_readsKey_129 (gs_500 hL) (by decide) rfl ?_
  obtain ⟨hg3, H⟩ := gg_e H
  obtain ⟨hg4, H⟩ := gg_e H
  refine GV.icmp_ge (tgt := 175) hg3 hg4 dX12_readsKey_132 (by decide) (fun c5 => ?_) (fun c5 => ?_)
  · have H := it_t H c5
    refine GA.locals [(0, .ref (L 500)), (1, .int (J a1)), (2, .int (J a2)), (3, .int (J a3)), (4, .int (J a4))] ⟨rfl, rfl, rfl, rfl, rfl, trivial⟩ ?_
    exact ih_X12_readsKey_175 hL _ _ (a1) (a2) (a3) (a4) _ _ H
  · have H := it_f H c5
    refine GA.iload dX12_readsKey_135 rfl ?_
    obtain ⟨hg6, H⟩ := gg_e H
    refine GV.if_eq (tgt := 175) hg6 dX12_readsKey_137 (by decide) (fun c7 => ?_) (fun c7 => ?_)
    · have H := it_t H c7
      refine GA.locals [(0, .ref (L 500)), (1, .int (J a1)), (2, .int (J a2)), (3, .int (J a3)), (4, .int (J a4))] ⟨rfl, rfl, rfl, rfl, rfl, trivial⟩ ?_
      exact ih_X12_readsKey_175 hL _ _ (a1) (a2) (a3) (a4) _ _ H
    · have H := it_f H c7
      refine GA.aload_n dX12_readsKey_140 rfl ?_
      refine GA.bipush dX12_readsKey_141 rfl ?_
      refine GA.iload_n dX12_readsKey_143 rfl ?_
      refine GA.bipush dX12_readsKey_144 rfl ?_
      refine GA.iload dX12_readsKey_146 rfl ?_
      obtain ⟨x8, hx9, H⟩ := gv_e H
      refine GV.iadd hx9 dX12_readsKey_148 ?_
      obtain ⟨hg10, H⟩ := gg_e H
      obtain ⟨x11, S_12, hc13, H⟩ := gc_e H
      refine GA.callV (m_X12_part hL hc13) xs_X12_36 dX12_readsKey_149 (gs_500 hL) (by decide) rfl rfl (by omega) (by decide) rfl (Nat.le_of_ble_eq_true rfl) (by omega) (by omega) rfl (fun E S9 hx => hx.elim) (fun v S9 hq => ?_)
      obtain ⟨rfl, rfl⟩ := hq
      refine GA.aload_n dX12_readsKey_152 rfl ?_
      refine GA.get xf_X12_256 dX12_readsKey_153 (gs_500 hL) (by decide) rfl ?_
      refine GA.iload dX12_readsKey_156 rfl ?_
      obtain ⟨hg14, H⟩ := gg_e H
      obtain ⟨x15, hx16, H⟩ := gv_e H
      refine GV.iald hg14 hx16 dX12_readsKey_158 (gs_512 hL) (by decide) ?_
      obtain ⟨hg17, H⟩ := gg_e H
      obtain ⟨hg18, H⟩ := gg_e H
      refine GV.icmp_ne (tgt := 166) hg17 hg18 dX12_readsKey_159 (by decide) (fun c19 => ?_) (fun c19 => ?_)
      · have H := it_t H c19
        refine GA.iconst dX12_readsKey_166 ?_
        refine GA.istore dX12_readsKey_167 (by decide) ?_
        obtain ⟨x20, hx21, H⟩ := gv_e H
        refine GV.iinc hx21 dX12_readsKey_169 rfl (by decide) ?_
        refine GA.goto (tgt := 126) dX12_readsKey_172 (by decide) ?_
        refine GA.locals [(0, .ref (L 500)), (1, .int (J a1)), (2, .int (J a2)), (3, .int (J a3)), (4, .int (J 0)), (5, .int (J x20))] ⟨rfl, rfl, rfl, rfl, rfl, rfl, trivial⟩ ?_
        exact ih_X12_readsKey_126 hL _ _ (a1) (a2) (a3) (0) (x20) _ _ H
      · have H := it_f H c19
        refine GA.iconst dX12_readsKey_162 ?_
        refine GA.goto (tgt := 167) dX12_readsKey_163 (by decide) ?_
        refine GA.istore dX12_readsKey_167 (by decide) ?_
        obtain ⟨x22, hx23, H⟩ := gv_e H
        refine GV.iinc hx23 dX12_readsKey_169 rfl (by decide) ?_
        refine GA.goto (tgt := 126) dX12_readsKey_172 (by decide) ?_
        refine GA.locals [(0, .ref (L 500)), (1, .int (J a1)), (2, .int (J a2)), (3, .int (J a3)), (4, .int (J 1)), (5, .int (J x22))] ⟨rfl, rfl, rfl, rfl, rfl, rfl, trivial⟩ ?_
        exact ih_X12_readsKey_126 hL _ _ (a1) (a2) (a3) (1) (x22) _ _ H
set_option maxHeartbeats 4000000 in
set_option maxRecDepth 20000 in
theorem t_X12_readsKey_175 {l : Launch} {Z : XZ} {L : Nat → Nat} (n : Nat) (ih_X12_readsKey_0 : P_X12_readsKey_0 l Z L n) (ih_X12_readsKey_32 : P_X12_readsKey_32 l Z L n) (ih_X12_readsKey_74 : P_X12_readsKey_74 l Z L n) (ih_X12_readsKey_126 : P_X12_readsKey_126 l Z L n) (ih_X12_readsKey_175 : P_X12_readsKey_175 l Z L n) (ih_X12_readsKey_198 : P_X12_readsKey_198 l Z L n) : P_X12_readsKey_175 l Z L (n + 1) := by
  intro hL d S a1 a2 a3 a4 x S1 H
  have H : b_X12_readsKey_175 n d (f_X12_readsKey n) S a1 a2 a3 a4 = some (x, S1) := H
  unfold b_X12_readsKey_175 at H
  refine GA.iload dX12_readsKey_175 rfl ?_
  obtain ⟨hg1, H⟩ := gg_e H
  refine GV.if_eq (tgt := 192) hg1 dX12_readsKey_177 (by decide) (fun c2 => ?_) (fun c2 => ?_)
  · have H := it_t H c2
    obtain ⟨x3, hx4, H⟩ := gv_e H
    refine GV.iinc hx4 dX12_readsKey_192 rfl (by decide) ?_
    refine GA.goto (tgt := 74) dX12_readsKey_195 (by decide) ?_
    refine GA.locals [(0, .ref (L 500)), (1, .int (J a1)), (2, .int (J a2)), (3, .int (J x3))] ⟨rfl, rfl, rfl, rfl, trivial⟩ ?_
    exact ih_X12_readsKey_74 hL _ _ (a1) (a2) (x3) _ _ H
  · have H := it_f H c2
    refine GA.aload_n dX12_readsKey_180 rfl ?_
    refine GA.dup dX12_readsKey_181 rfl ?_
    obtain ⟨x5, hx6, H⟩ := gv_e H
    refine GV.getI hx6 xf_X12_468 dX12_readsKey_182 (gs_500 hL) (by decide) rfl ?_
    refine GA.iconst dX12_readsKey_185 ?_
    obtain ⟨x7, hx8, H⟩ := gv_e H
    refine GV.isub hx8 dX12_readsKey_186 ?_
    obtain ⟨S_9, hx10, H⟩ := gv_e H
    refine GV.putI hx10 (xp_X12_468 _) dX12_readsKey_187 (gs_500 hL) (by decide) (Nat.le_of_ble_eq_true rfl) (gs_500 hL) ?_
    refine GA.iconst dX12_readsKey_190 ?_
    cases H
    exact GV.zret (by decide) rfl dX12_readsKey_191 (by omega) (by omega) ⟨rfl, rfl⟩
set_option maxHeartbeats 4000000 in
set_option maxRecDepth 20000 in
theorem t_X12_readsKey_198 {l : Launch} {Z : XZ} {L : Nat → Nat} (n : Nat) (ih_X12_readsKey_0 : P_X12_readsKey_0 l Z L n) (ih_X12_readsKey_32 : P_X12_readsKey_32 l Z L n) (ih_X12_readsKey_74 : P_X12_readsKey_74 l Z L n) (ih_X12_readsKey_126 : P_X12_readsKey_126 l Z L n) (ih_X12_readsKey_175 : P_X12_readsKey_175 l Z L n) (ih_X12_readsKey_198 : P_X12_readsKey_198 l Z L n) : P_X12_readsKey_198 l Z L (n + 1) := by
  intro hL d S  x S1 H
  have H : b_X12_readsKey_198 n d (f_X12_readsKey n) S  = some (x, S1) := H
  unfold b_X12_readsKey_198 at H
  refine GA.aload_n dX12_readsKey_198 rfl ?_
  obtain ⟨hg1, H⟩ := gg_e H
  obtain ⟨x2, S_3, hc4, H⟩ := gc_e H
  refine GA.callV (m_X12_isBlank hL hc4) xs_X12_514 dX12_readsKey_199 (gs_500 hL) (by decide) rfl rfl (by omega) (by decide) rfl (Nat.le_of_ble_eq_true rfl) (by omega) (by omega) rfl (fun E S9 hx => hx.elim) (fun v S9 hq => ?_)
  obtain ⟨rfl, rfl⟩ := hq
  obtain ⟨hg5, H⟩ := gg_e H
  refine GV.if_eq (tgt := 218) hg5 dX12_readsKey_202 (by decide) (fun c6 => ?_) (fun c6 => ?_)
  · have H := it_t H c6
    refine GA.aload_n dX12_readsKey_218 rfl ?_
    obtain ⟨x7, S_8, hc9, H⟩ := gc_e H
    refine GA.callV (m_X12_sign hL hc9) xs_X12_471 dX12_readsKey_219 (gs_500 hL) (by decide) rfl rfl (by omega) (by decide) rfl (Nat.le_of_ble_eq_true rfl) (by omega) (by omega) rfl (fun E S9 hx => hx.elim) (fun v S9 hq => ?_)
    obtain ⟨rfl, rfl⟩ := hq
    refine GA.bipush dX12_readsKey_222 rfl ?_
    obtain ⟨hg10, H⟩ := gg_e H
    refine GV.icmp_eq (tgt := 229) hg10 (by decide) dX12_readsKey_224 (by decide) (fun c11 => ?_) (fun c11 => ?_)
    · have H := it_t H c11
      refine GA.aload_n dX12_readsKey_229 rfl ?_
      refine GA.dup dX12_readsKey_230 rfl ?_
      obtain ⟨x12, hx13, H⟩ := gv_e H
      refine GV.getI hx13 xf_X12_468 dX12_readsKey_231 (gs_500 hL) (by decide) rfl ?_
      refine GA.iconst dX12_readsKey_234 ?_
      obtain ⟨x14, hx15, H⟩ := gv_e H
      refine GV.iadd hx15 dX12_readsKey_235 ?_
      obtain ⟨S_16, hx17, H⟩ := gv_e H
      refine GV.putI hx17 (xp_X12_468 _) dX12_readsKey_236 (gs_500 hL) (by decide) (Nat.le_of_ble_eq_true rfl) (gs_500 hL) ?_
      refine GA.iconst dX12_readsKey_239 ?_
      cases H
      exact GV.zret (by decide) rfl dX12_readsKey_240 (by omega) (by omega) ⟨rfl, rfl⟩
    · have H := it_f H c11
      refine GA.iconst dX12_readsKey_227 ?_
      cases H
      exact GV.zret (by decide) rfl dX12_readsKey_228 (by omega) (by omega) ⟨rfl, rfl⟩
  · have H := it_f H c6
    refine GA.aload_n dX12_readsKey_205 rfl ?_
    refine GA.dup dX12_readsKey_206 rfl ?_
    obtain ⟨x18, hx19, H⟩ := gv_e H
    refine GV.getI hx19 xf_X12_468 dX12_readsKey_207 (gs_500 hL) (by decide) rfl ?_
    refine GA.iconst dX12_readsKey_210 ?_
    obtain ⟨x20, hx21, H⟩ := gv_e H
    refine GV.iadd hx21 dX12_readsKey_211 ?_
    obtain ⟨S_22, hx23, H⟩ := gv_e H
    refine GV.putI hx23 (xp_X12_468 _) dX12_readsKey_212 (gs_500 hL) (by decide) (Nat.le_of_ble_eq_true rfl) (gs_500 hL) ?_
    refine GA.goto (tgt := 198) dX12_readsKey_215 (by decide) ?_
    refine GA.locals [(0, .ref (L 500))] ⟨rfl, trivial⟩ ?_
    exact ih_X12_readsKey_198 hL _ _ _ _ H
theorem g_X12_readsKey {l : Launch} {Z : XZ} {L : Nat → Nat} : ∀ n, P_X12_readsKey_0 l Z L n ∧ P_X12_readsKey_32 l Z L n ∧ P_X12_readsKey_74 l Z L n ∧ P_X12_readsKey_126 l Z L n ∧ P_X12_readsKey_175 l Z L n ∧ P_X12_readsKey_198 l Z L n
  | 0 => ⟨fun _ _ _ _ _ _ H => no_e H, fun _ _ _ _ _ _ _ H => no_e H, fun _ _ _ _ _ _ _ _ H => no_e H, fun _ _ _ _ _ _ _ _ _ _ H => no_e H, fun _ _ _ _ _ _ _ _ _ H => no_e H, fun _ _ _ _ _ H => no_e H⟩
  | n + 1 => have ⟨h0, h1, h2, h3, h4, h5⟩ := g_X12_readsKey (l := l) (Z := Z) (L := L) n
    ⟨t_X12_readsKey_0 n h0 h1 h2 h3 h4 h5, t_X12_readsKey_32 n h0 h1 h2 h3 h4 h5, t_X12_readsKey_74 n h0 h1 h2 h3 h4 h5, t_X12_readsKey_126 n h0 h1 h2 h3 h4 h5, t_X12_readsKey_175 n h0 h1 h2 h3 h4 h5, t_X12_readsKey_198 n h0 h1 h2 h3 h4 h5⟩
theorem m_X12_readsKey {l : Launch} {Z : XZ} {L : Nat → Nat} (hL : L 700 = 1) {n d : Nat} {S : GS} {a1 : Int} {x : Int} {S1 : GS} (H : f_X12_readsKey n d 0 S [a1] = some (x, S1)) : GM l Z L yX12_readsKey cX12_readsKey 6 (some .boolean) [] d 0 0 [.ref (L 500), .int (J a1)] S (fun v S' => v = some (.int (J x)) ∧ S1 = S') (fun _ _ => False) := GM.of (by decide) (Nat.le_of_ble_eq_true rfl) ((g_X12_readsKey n).1 hL _ _ _ _ _ H)

def P_X12_readsLetters_0 (l : Launch) (Z : XZ) (L : Nat → Nat) (n : Nat) : Prop := ∀ (hL : L 700 = 1), ∀ (d : Nat) (S : GS) (a1 : Int) (x : Int) (S1 : GS), f_X12_readsLetters n d 0 S [a1] = some (x, S1) → GA l Z L yX12_readsLetters cX12_readsLetters 4 (some .boolean) [] d 0 0 (fun v S' => v = some (.int (J x)) ∧ S1 = S') (fun _ _ => False) 0 (gl [(0, .ref (L 500)), (1, .long (K a1))]) [] S 0 0
def P_X12_readsLetters_7 (l : Launch) (Z : XZ) (L : Nat → Nat) (n : Nat) : Prop := ∀ (hL : L 700 = 1), ∀ (d : Nat) (S : GS) (a3 : Int) (x : Int) (S1 : GS), f_X12_readsLetters n d 7 S [a3] = some (x, S1) → GA l Z L yX12_readsLetters cX12_readsLetters 4 (some .boolean) [] d 0 0 (fun v S' => v = some (.int (J x)) ∧ S1 = S') (fun _ _ => False) 7 (gl [(0, .ref (L 500)), (3, .int (J a3))]) [] S 0 0
theorem i_X12_readsLetters {l : Launch} {Z : XZ} {L : Nat → Nat} (hL : L 700 = 1) {n : Nat} (ih : P_X12_readsLetters_0 l Z L n) {d : Nat} {S : GS} {a1 : Int} {x : Int} {S1 : GS} (H : f_X12_readsLetters n d 0 S [a1] = some (x, S1)) : GM l Z L yX12_readsLetters cX12_readsLetters 4 (some .boolean) [] d 0 0 [.ref (L 500), .long (K a1)] S (fun v S' => v = some (.int (J x)) ∧ S1 = S') (fun _ _ => False) := GM.of (by decide) (Nat.le_of_ble_eq_true rfl) (ih hL _ _ _ _ _ H)
set_option maxHeartbeats 4000000 in
set_option maxRecDepth 20000 in
theorem t_X12_readsLetters_0 {l : Launch} {Z : XZ} {L : Nat → Nat} (n : Nat) (ih_X12_readsLetters_0 : P_X12_readsLetters_0 l Z L n) (ih_X12_readsLetters_7 : P_X12_readsLetters_7 l Z L n) : P_X12_readsLetters_0 l Z L (n + 1) := by
  intro hL d S a1 x S1 H
  have H : b_X12_readsLetters_0 n d (f_X12_readsLetters n) S a1 = some (x, S1) := H
  unfold b_X12_readsLetters_0 at H
  refine GA.aload_n dX12_readsLetters_0 rfl ?_
  refine GA.lload_n dX12_readsLetters_1 rfl ?_
  obtain ⟨hg1, H⟩ := gg_e H
  obtain ⟨x2, S_3, hc4, H⟩ := gc_e H
  refine GA.callV (m_X12_says hL hc4) xs_X12_74 dX12_readsLetters_2 (gs_500 hL) (by decide) rfl rfl (by omega) (by decide) rfl (Nat.le_of_ble_eq_true rfl) (by omega) (by omega) rfl (fun E S9 hx => hx.elim) (fun v S9 hq => ?_)
  obtain ⟨rfl, rfl⟩ := hq
  refine GA.iconst dX12_readsLetters_5 ?_
  refine GA.istore_n dX12_readsLetters_6 (by decide) ?_
  refine GA.locals [(0, .ref (L 500)), (3, .int (J 0))] ⟨rfl, rfl, trivial⟩ ?_
  exact ih_X12_readsLetters_7 hL _ _ (0) _ _ H
set_option maxHeartbeats 4000000 in
set_option maxRecDepth 20000 in
theorem t_X12_readsLetters_7 {l : Launch} {Z : XZ} {L : Nat → Nat} (n : Nat) (ih_X12_readsLetters_0 : P_X12_readsLetters_0 l Z L n) (ih_X12_readsLetters_7 : P_X12_readsLetters_7 l Z L n) : P_X12_readsLetters_7 l Z L (n + 1) := by
  intro hL d S a3 x S1 H
  have H : b_X12_readsLetters_7 n d (f_X12_readsLetters n) S a3 = some (x, S1) := H
  unfold b_X12_readsLetters_7 at H
  refine GA.iload_n dX12_readsLetters_7 rfl ?_
  refine GA.aload_n dX12_readsLetters_8 rfl ?_
  obtain ⟨x1, hx2, H⟩ := gv_e H
  refine GV.getI hx2 xf_X12_66 dX12_readsLetters_9 (gs_500 hL) (by decide) rfl ?_
  obtain ⟨hg3, H⟩ := gg_e H
  obtain ⟨hg4, H⟩ := gg_e H
  refine GV.icmp_ge (tgt := 46) hg3 hg4 dX12_readsLetters_12 (by decide) (fun c5 => ?_) (fun c5 => ?_)
  · have H := it_t H c5
    refine GA.iconst dX12_readsLetters_46 ?_
    cases H
    exact GV.zret (by decide) rfl dX12_readsLetters_47 (by omega) (by omega) ⟨rfl, rfl⟩
  · have H := it_f H c5
    refine GA.aload_n dX12_readsLetters_15 rfl ?_
    obtain ⟨hg6, H⟩ := gg_e H
    obtain ⟨x7, S_8, hc9, H⟩ := gc_e H
    refine GA.callV (m_X12_sign hL hc9) xs_X12_471 dX12_readsLetters_16 (gs_500 hL) (by decide) rfl rfl (by omega) (by decide) rfl (Nat.le_of_ble_eq_true rfl) (by omega) (by omega) rfl (fun E S9 hx => hx.elim) (fun v S9 hq => ?_)
    obtain ⟨rfl, rfl⟩ := hq
    refine GA.aload_n dX12_readsLetters_19 rfl ?_
    refine GA.get xf_X12_69 dX12_readsLetters_20 (gs_500 hL) (by decide) rfl ?_
    refine GA.iload_n dX12_readsLetters_23 rfl ?_
    obtain ⟨hg10, H⟩ := gg_e H
    obtain ⟨x11, hx12, H⟩ := gv_e H
    refine GV.iald hg10 hx12 dX12_readsLetters_24 (gs_507 hL) (by decide) ?_
    obtain ⟨hg13, H⟩ := gg_e H
    obtain ⟨hg14, H⟩ := gg_e H
    refine GV.icmp_eq (tgt := 30) hg13 hg14 dX12_readsLetters_25 (by decide) (fun c15 => ?_) (fun c15 => ?_)
    · have H := it_t H c15
      refine GA.aload_n dX12_readsLetters_30 rfl ?_
      refine GA.dup dX12_readsLetters_31 rfl ?_
      obtain ⟨x16, hx17, H⟩ := gv_e H
      refine GV.getI hx17 xf_X12_468 dX12_readsLetters_32 (gs_500 hL) (by decide) rfl ?_
      refine GA.iconst dX12_readsLetters_35 ?_
      obtain ⟨x18, hx19, H⟩ := gv_e H
      refine GV.iadd hx19 dX12_readsLetters_36 ?_
      obtain ⟨S_20, hx21, H⟩ := gv_e H
      refine GV.putI hx21 (xp_X12_468 _) dX12_readsLetters_37 (gs_500 hL) (by decide) (Nat.le_of_ble_eq_true rfl) (gs_500 hL) ?_
      obtain ⟨x22, hx23, H⟩ := gv_e H
      refine GV.iinc hx23 dX12_readsLetters_40 rfl (by decide) ?_
      refine GA.goto (tgt := 7) dX12_readsLetters_43 (by decide) ?_
      refine GA.locals [(0, .ref (L 500)), (3, .int (J x22))] ⟨rfl, rfl, trivial⟩ ?_
      exact ih_X12_readsLetters_7 hL _ _ (x22) _ _ H
    · have H := it_f H c15
      refine GA.iconst dX12_readsLetters_28 ?_
      cases H
      exact GV.zret (by decide) rfl dX12_readsLetters_29 (by omega) (by omega) ⟨rfl, rfl⟩
theorem g_X12_readsLetters {l : Launch} {Z : XZ} {L : Nat → Nat} : ∀ n, P_X12_readsLetters_0 l Z L n ∧ P_X12_readsLetters_7 l Z L n
  | 0 => ⟨fun _ _ _ _ _ _ H => no_e H, fun _ _ _ _ _ _ H => no_e H⟩
  | n + 1 => have ⟨h0, h1⟩ := g_X12_readsLetters (l := l) (Z := Z) (L := L) n
    ⟨t_X12_readsLetters_0 n h0 h1, t_X12_readsLetters_7 n h0 h1⟩
theorem m_X12_readsLetters {l : Launch} {Z : XZ} {L : Nat → Nat} (hL : L 700 = 1) {n d : Nat} {S : GS} {a1 : Int} {x : Int} {S1 : GS} (H : f_X12_readsLetters n d 0 S [a1] = some (x, S1)) : GM l Z L yX12_readsLetters cX12_readsLetters 4 (some .boolean) [] d 0 0 [.ref (L 500), .long (K a1)] S (fun v S' => v = some (.int (J x)) ∧ S1 = S') (fun _ _ => False) := GM.of (by decide) (Nat.le_of_ble_eq_true rfl) ((g_X12_readsLetters n).1 hL _ _ _ _ _ H)

def P_X12_readsNumber_0 (l : Launch) (Z : XZ) (L : Nat → Nat) (n : Nat) : Prop := ∀ (hL : L 700 = 1), ∀ (d : Nat) (S : GS) (a1 : Int) (x : Int) (S1 : GS), f_X12_readsNumber n d 0 S [a1] = some (x, S1) → GA l Z L yX12_readsNumber cX12_readsNumber 11 (some .boolean) [] d 0 0 (fun v S' => v = some (.int (J x)) ∧ S1 = S') (fun _ _ => False) 0 (gl [(0, .ref (L 500)), (1, .int (J a1))]) [] S 0 0
def P_X12_readsNumber_19 (l : Launch) (Z : XZ) (L : Nat → Nat) (n : Nat) : Prop := ∀ (hL : L 700 = 1), ∀ (d : Nat) (S : GS) (a1 : Int) (a2 : Int) (s0 : Int) (x : Int) (S1 : GS), f_X12_readsNumber n d 19 S [a1, a2, s0] = some (x, S1) → GA l Z L yX12_readsNumber cX12_readsNumber 11 (some .boolean) [] d 0 0 (fun v S' => v = some (.int (J x)) ∧ S1 = S') (fun _ _ => False) 19 (gl [(0, .ref (L 500)), (1, .int (J a1)), (2, .int (J a2))]) [.int (J s0)] S 0 0
def P_X12_readsNumber_34 (l : Launch) (Z : XZ) (L : Nat → Nat) (n : Nat) : Prop := ∀ (hL : L 700 = 1), ∀ (d : Nat) (S : GS) (a1 : Int) (a2 : Int) (a3 : Int) (s0 : Int) (s1 : Int) (x : Int) (S1 : GS), f_X12_readsNumber n d 34 S [a1, a2, a3, s0, s1] = some (x, S1) → GA l Z L yX12_readsNumber cX12_readsNumber 11 (some .boolean) [] d 0 0 (fun v S' => v = some (.int (J x)) ∧ S1 = S') (fun _ _ => False) 34 (gl [(0, .ref (L 500)), (1, .int (J a1)), (2, .int (J a2)), (3, .int (J a3))]) [.int (J s0), .int (J s1), .ref (L 500)] S 0 0
def P_X12_readsNumber_75 (l : Launch) (Z : XZ) (L : Nat → Nat) (n : Nat) : Prop := ∀ (hL : L 700 = 1), ∀ (d : Nat) (S : GS) (a1 : Int) (a2 : Int) (a3 : Int) (a4 : Int) (a5 : Int) (a6 : Int) (a7 : Int) (a8 : Int) (x : Int) (S1 : GS), f_X12_readsNumber n d 75 S [a1, a2, a3, a4, a5, a6, a7, a8] = some (x, S1) → GA l Z L yX12_readsNumber cX12_readsNumber 11 (some .boolean) [] d 0 0 (fun v S' => v = some (.int (J x)) ∧ S1 = S') (fun _ _ => False) 75 (gl [(0, .ref (L 500)), (1, .int (J a1)), (2, .int (J a2)), (3, .int (J a3)), (4, .int (J a4)), (5, .int (J a5)), (6, .int (J a6)), (7, .int (J a7)), (8, .int (J a8))]) [] S 0 0
def P_X12_readsNumber_118 (l : Launch) (Z : XZ) (L : Nat → Nat) (n : Nat) : Prop := ∀ (hL : L 700 = 1), ∀ (d : Nat) (S : GS) (a1 : Int) (a2 : Int) (a3 : Int) (a4 : Int) (a6 : Int) (a7 : Int) (a8 : Int) (s0 : Int) (s1 : Int) (x : Int) (S1 : GS), f_X12_readsNumber n d 118 S [a1, a2, a3, a4, a6, a7, a8, s0, s1] = some (x, S1) → GA l Z L yX12_readsNumber cX12_readsNumber 11 (some .boolean) [] d 0 0 (fun v S' => v = some (.int (J x)) ∧ S1 = S') (fun _ _ => False) 118 (gl [(0, .ref (L 500)), (1, .int (J a1)), (2, .int (J a2)), (3, .int (J a3)), (4, .int (J a4)), (6, .int (J a6)), (7, .int (J a7)), (8, .int (J a8))]) [.int (J s0), .int (J s1)] S 0 0
def P_X12_readsNumber_167 (l : Launch) (Z : XZ) (L : Nat → Nat) (n : Nat) : Prop := ∀ (hL : L 700 = 1), ∀ (d : Nat) (S : GS) (a1 : Int) (a2 : Int) (a3 : Int) (a4 : Int) (a5 : Int) (a6 : Int) (a7 : Int) (x : Int) (S1 : GS), f_X12_readsNumber n d 167 S [a1, a2, a3, a4, a5, a6, a7] = some (x, S1) → GA l Z L yX12_readsNumber cX12_readsNumber 11 (some .boolean) [] d 0 0 (fun v S' => v = some (.int (J x)) ∧ S1 = S') (fun _ _ => False) 167 (gl [(0, .ref (L 500)), (1, .int (J a1)), (2, .int (J a2)), (3, .int (J a3)), (4, .int (J a4)), (5, .int (J a5)), (6, .int (J a6)), (7, .int (J a7))]) [] S 0 0
def P_X12_readsNumber_215 (l : Launch) (Z : XZ) (L : Nat → Nat) (n : Nat) : Prop := ∀ (hL : L 700 = 1), ∀ (d : Nat) (S : GS) (a1 : Int) (a2 : Int) (a3 : Int) (a4 : Int) (a5 : Int) (x : Int) (S1 : GS), f_X12_readsNumber n d 215 S [a1, a2, a3, a4, a5] = some (x, S1) → GA l Z L yX12_readsNumber cX12_readsNumber 11 (some .boolean) [] d 0 0 (fun v S' => v = some (.int (J x)) ∧ S1 = S') (fun _ _ => False) 215 (gl [(0, .ref (L 500)), (1, .int (J a1)), (2, .int (J a2)), (3, .int (J a3)), (4, .int (J a4)), (5, .int (J a5))]) [] S 0 0
def P_X12_readsNumber_239 (l : Launch) (Z : XZ) (L : Nat → Nat) (n : Nat) : Prop := ∀ (hL : L 700 = 1), ∀ (d : Nat) (S : GS) (a1 : Int) (a2 : Int) (a3 : Int) (a4 : Int) (a5 : Int) (s0 : Int) (x : Int) (S1 : GS), f_X12_readsNumber n d 239 S [a1, a2, a3, a4, a5, s0] = some (x, S1) → GA l Z L yX12_readsNumber cX12_readsNumber 11 (some .boolean) [] d 0 0 (fun v S' => v = some (.int (J x)) ∧ S1 = S') (fun _ _ => False) 239 (gl [(0, .ref (L 500)), (1, .int (J a1)), (2, .int (J a2)), (3, .int (J a3)), (4, .int (J a4)), (5, .int (J a5))]) [.int (J s0)] S 0 0
def P_X12_readsNumber_265 (l : Launch) (Z : XZ) (L : Nat → Nat) (n : Nat) : Prop := ∀ (hL : L 700 = 1), ∀ (d : Nat) (S : GS) (a1 : Int) (a2 : Int) (a3 : Int) (a4 : Int) (a5 : Int) (a10 : Int) (s0 : Int) (s1 : Int) (x : Int) (S1 : GS), f_X12_readsNumber n d 265 S [a1, a2, a3, a4, a5, a10, s0, s1] = some (x, S1) → GA l Z L yX12_readsNumber cX12_readsNumber 11 (some .boolean) [] d 0 0 (fun v S' => v = some (.int (J x)) ∧ S1 = S') (fun _ _ => False) 265 (gl [(0, .ref (L 500)), (1, .int (J a1)), (2, .int (J a2)), (3, .int (J a3)), (4, .int (J a4)), (5, .int (J a5)), (10, .int (J a10))]) [.int (J s0), .int (J s1), .ref (L 500)] S 0 0
def P_X12_readsNumber_344 (l : Launch) (Z : XZ) (L : Nat → Nat) (n : Nat) : Prop := ∀ (hL : L 700 = 1), ∀ (d : Nat) (S : GS) (a1 : Int) (a2 : Int) (a3 : Int) (a4 : Int) (a5 : Int) (a9 : Int) (x : Int) (S1 : GS), f_X12_readsNumber n d 344 S [a1, a2, a3, a4, a5, a9] = some (x, S1) → GA l Z L yX12_readsNumber cX12_readsNumber 11 (some .boolean) [] d 0 0 (fun v S' => v = some (.int (J x)) ∧ S1 = S') (fun _ _ => False) 344 (gl [(0, .ref (L 500)), (1, .int (J a1)), (2, .int (J a2)), (3, .int (J a3)), (4, .int (J a4)), (5, .int (J a5)), (9, .int (J a9))]) [] S 0 0
theorem i_X12_readsNumber {l : Launch} {Z : XZ} {L : Nat → Nat} (hL : L 700 = 1) {n : Nat} (ih : P_X12_readsNumber_0 l Z L n) {d : Nat} {S : GS} {a1 : Int} {x : Int} {S1 : GS} (H : f_X12_readsNumber n d 0 S [a1] = some (x, S1)) : GM l Z L yX12_readsNumber cX12_readsNumber 11 (some .boolean) [] d 0 0 [.ref (L 500), .int (J a1)] S (fun v S' => v = some (.int (J x)) ∧ S1 = S') (fun _ _ => False) := GM.of (by decide) (Nat.le_of_ble_eq_true rfl) (ih hL _ _ _ _ _ H)
set_option maxHeartbeats 4000000 in
set_option maxRecDepth 20000 in
theorem t_X12_readsNumber_0 {l : Launch} {Z : XZ} {L : Nat → Nat} (n : Nat) (ih_X12_readsNumber_0 : P_X12_readsNumber_0 l Z L n) (ih_X12_readsNumber_19 : P_X12_readsNumber_19 l Z L n) (ih_X12_readsNumber_34 : P_X12_readsNumber_34 l Z L n) (ih_X12_readsNumber_75 : P_X12_readsNumber_75 l Z L n) (ih_X12_readsNumber_118 : P_X12_readsNumber_118 l Z L n) (ih_X12_readsNumber_167 : P_X12_readsNumber_167 l Z L n) (ih_X12_readsNumber_215 : P_X12_readsNumber_215 l Z L n) (ih_X12_readsNumber_239 : P_X12_readsNumber_239 l Z L n) (ih_X12_readsNumber_265 : P_X12_readsNumber_265 l Z L n) (ih_X12_readsNumber_344 : P_X12_readsNumber_344 l Z L n) : P_X12_readsNumber_0 l Z L (n + 1) := by
  intro hL d S a1 x S1 H
  have H : b_X12_readsNumber_0 n d (f_X12_readsNumber n) S a1 = some (x, S1) := H
  unfold b_X12_readsNumber_0 at H
  refine GA.aload_n dX12_readsNumber_0 rfl ?_
  obtain ⟨x1, hx2, H⟩ := gv_e H
  refine GV.getI hx2 xf_X12_468 dX12_readsNumber_1 (gs_500 hL) (by decide) rfl ?_
  refine GA.istore_n dX12_readsNumber_4 (by decide) ?_
  refine GA.aload_n dX12_readsNumber_5 rfl ?_
  obtain ⟨hg3, H⟩ := gg_e H
  obtain ⟨x4, S_5, hc6, H⟩ := gc_e H
  refine GA.callV (m_X12_sign hL hc6) xs_X12_471 dX12_readsNumber_6 (gs_500 hL) (by decide) rfl rfl (by omega) (by decide) rfl (Nat.le_of_ble_eq_true rfl) (by omega) (by omega) rfl (fun E S9 hx => hx.elim) (fun v S9 hq => ?_)
  obtain ⟨rfl, rfl⟩ := hq
  refine GA.bipush dX12_readsNumber_9 rfl ?_
  obtain ⟨hg7, H⟩ := gg_e H
  refine GV.icmp_ne (tgt := 18) hg7 (by decide) dX12_readsNumber_11 (by decide) (fun c8 => ?_) (fun c8 => ?_)
  · have H := it_t H c8
    refine GA.iconst dX12_readsNumber_18 ?_
    refine GA.locals [(0, .ref (L 500)), (1, .int (J a1)), (2, .int (J x1))] ⟨rfl, rfl, rfl, trivial⟩ ?_
    exact ih_X12_readsNumber_19 hL _ _ (a1) (x1) (0) _ _ H
  · have H := it_f H c8
    refine GA.iconst dX12_readsNumber_14 ?_
    refine GA.goto (tgt := 19) dX12_readsNumber_15 (by decide) ?_
    refine GA.locals [(0, .ref (L 500)), (1, .int (J a1)), (2, .int (J x1))] ⟨rfl, rfl, rfl, trivial⟩ ?_
    exact ih_X12_readsNumber_19 hL _ _ (a1) (x1) (1) _ _ H
set_option maxHeartbeats 4000000 in
set_option maxRecDepth 20000 in
theorem t_X12_readsNumber_19 {l : Launch} {Z : XZ} {L : Nat → Nat} (n : Nat) (ih_X12_readsNumber_0 : P_X12_readsNumber_0 l Z L n) (ih_X12_readsNumber_19 : P_X12_readsNumber_19 l Z L n) (ih_X12_readsNumber_34 : P_X12_readsNumber_34 l Z L n) (ih_X12_readsNumber_75 : P_X12_readsNumber_75 l Z L n) (ih_X12_readsNumber_118 : P_X12_readsNumber_118 l Z L n) (ih_X12_readsNumber_167 : P_X12_readsNumber_167 l Z L n) (ih_X12_readsNumber_215 : P_X12_readsNumber_215 l Z L n) (ih_X12_readsNumber_239 : P_X12_readsNumber_239 l Z L n) (ih_X12_readsNumber_265 : P_X12_readsNumber_265 l Z L n) (ih_X12_readsNumber_344 : P_X12_readsNumber_344 l Z L n) : P_X12_readsNumber_19 l Z L (n + 1) := by
  intro hL d S a1 a2 s0 x S1 H
  have H : b_X12_readsNumber_19 n d (f_X12_readsNumber n) S a1 a2 s0 = some (x, S1) := H
  unfold b_X12_readsNumber_19 at H
  refine GA.istore_n dX12_readsNumber_19 (by decide) ?_
  refine GA.aload_n dX12_readsNumber_20 rfl ?_
  refine GA.dup dX12_readsNumber_21 rfl ?_
  obtain ⟨x1, hx2, H⟩ := gv_e H
  refine GV.getI hx2 xf_X12_468 dX12_readsNumber_22 (gs_500 hL) (by decide) rfl ?_
  refine GA.iload_n dX12_readsNumber_25 rfl ?_
  obtain ⟨hg3, H⟩ := gg_e H
  refine GV.if_eq (tgt := 33) hg3 dX12_readsNumber_26 (by decide) (fun c4 => ?_) (fun c4 => ?_)
  · have H := it_t H c4
    refine GA.iconst dX12_readsNumber_33 ?_
    refine GA.locals [(0, .ref (L 500)), (1, .int (J a1)), (2, .int (J a2)), (3, .int (J s0))] ⟨rfl, rfl, rfl, rfl, trivial⟩ ?_
    exact ih_X12_readsNumber_34 hL _ _ (a1) (a2) (s0) (0) (x1) _ _ H
  · have H := it_f H c4
    refine GA.iconst dX12_readsNumber_29 ?_
    refine GA.goto (tgt := 34) dX12_readsNumber_30 (by decide) ?_
    refine GA.locals [(0, .ref (L 500)), (1, .int (J a1)), (2, .int (J a2)), (3, .int (J s0))] ⟨rfl, rfl, rfl, rfl, trivial⟩ ?_
    exact ih_X12_readsNumber_34 hL _ _ (a1) (a2) (s0) (1) (x1) _ _ H
set_option maxHeartbeats 4000000 in
set_option maxRecDepth 20000 in
theorem t_X12_readsNumber_34 {l : Launch} {Z : XZ} {L : Nat → Nat} (n : Nat) (ih_X12_readsNumber_0 : P_X12_readsNumber_0 l Z L n) (ih_X12_readsNumber_19 : P_X12_readsNumber_19 l Z L n) (ih_X12_readsNumber_34 : P_X12_readsNumber_34 l Z L n) (ih_X12_readsNumber_75 : P_X12_readsNumber_75 l Z L n) (ih_X12_readsNumber_118 : P_X12_readsNumber_118 l Z L n) (ih_X12_readsNumber_167 : P_X12_readsNumber_167 l Z L n) (ih_X12_readsNumber_215 : P_X12_readsNumber_215 l Z L n) (ih_X12_readsNumber_239 : P_X12_readsNumber_239 l Z L n) (ih_X12_readsNumber_265 : P_X12_readsNumber_265 l Z L n) (ih_X12_readsNumber_344 : P_X12_readsNumber_344 l Z L n) : P_X12_readsNumber_34 l Z L (n + 1) := by
  intro hL d S a1 a2 a3 s0 s1 x S1 H
  have H : b_X12_readsNumber_34 n d (f_X12_readsNumber n) S a1 a2 a3 s0 s1 = some (x, S1) := H
  unfold b_X12_readsNumber_34 at H
  obtain ⟨x1, hx2, H⟩ := gv_e H
  refine GV.iadd hx2 dX12_readsNumber_34 ?_
  obtain ⟨S_3, hx4, H⟩ := gv_e H
  refine GV.putI hx4 (xp_X12_468 _) dX12_readsNumber_35 (gs_500 hL) (by decide) (Nat.le_of_ble_eq_true rfl) (gs_500 hL) ?_
  refine GA.iconst dX12_readsNumber_38 ?_
  refine GA.istore dX12_readsNumber_39 (by decide) ?_
  refine GA.iconst dX12_readsNumber_41 ?_
  refine GA.istore dX12_readsNumber_42 (by decide) ?_
  refine GA.iconst dX12_readsNumber_44 ?_
  refine GA.istore dX12_readsNumber_45 (by decide) ?_
  refine GA.aload_n dX12_readsNumber_47 rfl ?_
  obtain ⟨hg5, H⟩ := gg_e H
  obtain ⟨x6, S_7, hc8, H⟩ := gc_e H
  refine GA.callV (m_X12_isFigure hL hc8) xs_X12_481 dX12_readsNumber_48 (gs_500 hL) (by decide) rfl rfl (by omega) (by decide) rfl (Nat.le_of_ble_eq_true rfl) (by omega) (by omega) rfl (fun E S9 hx => hx.elim) (fun v S9 hq => ?_)
  obtain ⟨rfl, rfl⟩ := hq
  obtain ⟨hg9, H⟩ := gg_e H
  refine GV.if_ne (tgt := 56) hg9 dX12_readsNumber_51 (by decide) (fun c10 => ?_) (fun c10 => ?_)
  · have H := it_t H c10
    refine GA.aload_n dX12_readsNumber_56 rfl ?_
    obtain ⟨x11, S_12, hc13, H⟩ := gc_e H
    refine GA.callV (m_X12_sign hL hc13) xs_X12_471 dX12_readsNumber_57 (gs_500 hL) (by decide) rfl rfl (by omega) (by decide) rfl (Nat.le_of_ble_eq_true rfl) (by omega) (by omega) rfl (fun E S9 hx => hx.elim) (fun v S9 hq => ?_)
    obtain ⟨rfl, rfl⟩ := hq
    refine GA.bipush dX12_readsNumber_60 rfl ?_
    obtain ⟨hg14, H⟩ := gg_e H
    refine GV.icmp_ne (tgt := 69) hg14 (by decide) dX12_readsNumber_62 (by decide) (fun c15 => ?_) (fun c15 => ?_)
    · have H := it_t H c15
      refine GA.iconst dX12_readsNumber_69 ?_
      refine GA.istore dX12_readsNumber_70 (by decide) ?_
      refine GA.iconst dX12_readsNumber_72 ?_
      refine GA.istore dX12_readsNumber_73 (by decide) ?_
      refine GA.locals [(0, .ref (L 500)), (1, .int (J a1)), (2, .int (J a2)), (3, .int (J a3)), (4, .int (J 0)), (5, .int (J 0)), (6, .int (J 0)), (7, .int (J 0)), (8, .int (J 1))] ⟨rfl, rfl, rfl, rfl, rfl, rfl, rfl, rfl, rfl, trivial⟩ ?_
      exact ih_X12_readsNumber_75 hL _ _ (a1) (a2) (a3) (0) (0) (0) (0) (1) _ _ H
    · have H := it_f H c15
      refine GA.iconst dX12_readsNumber_65 ?_
      refine GA.goto (tgt := 70) dX12_readsNumber_66 (by decide) ?_
      refine GA.istore dX12_readsNumber_70 (by decide) ?_
      refine GA.iconst dX12_readsNumber_72 ?_
      refine GA.istore dX12_readsNumber_73 (by decide) ?_
      refine GA.locals [(0, .ref (L 500)), (1, .int (J a1)), (2, .int (J a2)), (3, .int (J a3)), (4, .int (J 0)), (5, .int (J 0)), (6, .int (J 0)), (7, .int (J 1)), (8, .int (J 1))] ⟨rfl, rfl, rfl, rfl, rfl, rfl, rfl, rfl, rfl, trivial⟩ ?_
      exact ih_X12_readsNumber_75 hL _ _ (a1) (a2) (a3) (0) (0) (0) (1) (1) _ _ H
  · have H := it_f H c10
    refine GA.iconst dX12_readsNumber_54 ?_
    cases H
    exact GV.zret (by decide) rfl dX12_readsNumber_55 (by omega) (by omega) ⟨rfl, rfl⟩
set_option maxHeartbeats 4000000 in
set_option maxRecDepth 20000 in
theorem t_X12_readsNumber_75 {l : Launch} {Z : XZ} {L : Nat → Nat} (n : Nat) (ih_X12_readsNumber_0 : P_X12_readsNumber_0 l Z L n) (ih_X12_readsNumber_19 : P_X12_readsNumber_19 l Z L n) (ih_X12_readsNumber_34 : P_X12_readsNumber_34 l Z L n) (ih_X12_readsNumber_75 : P_X12_readsNumber_75 l Z L n) (ih_X12_readsNumber_118 : P_X12_readsNumber_118 l Z L n) (ih_X12_readsNumber_167 : P_X12_readsNumber_167 l Z L n) (ih_X12_readsNumber_215 : P_X12_readsNumber_215 l Z L n) (ih_X12_readsNumber_239 : P_X12_readsNumber_239 l Z L n) (ih_X12_readsNumber_265 : P_X12_readsNumber_265 l Z L n) (ih_X12_readsNumber_344 : P_X12_readsNumber_344 l Z L n) : P_X12_readsNumber_75 l Z L (n + 1) := by
  intro hL d S a1 a2 a3 a4 a5 a6 a7 a8 x S1 H
  have H : b_X12_readsNumber_75 n d (f_X12_readsNumber n) S a1 a2 a3 a4 a5 a6 a7 a8 = some (x, S1) := H
  unfold b_X12_readsNumber_75 at H
  refine GA.iload dX12_readsNumber_75 rfl ?_
  obtain ⟨hg1, H⟩ := gg_e H
  refine GV.if_eq (tgt := 194) hg1 dX12_readsNumber_77 (by decide) (fun c2 => ?_) (fun c2 => ?_)
  · have H := it_t H c2
    refine GA.iconst dX12_readsNumber_194 ?_
    refine GA.istore dX12_readsNumber_195 (by decide) ?_
    refine GA.aload_n dX12_readsNumber_197 rfl ?_
    obtain ⟨hg3, H⟩ := gg_e H
    obtain ⟨x4, S_5, hc6, H⟩ := gc_e H
    refine GA.callV (m_X12_sign hL hc6) xs_X12_471 dX12_readsNumber_198 (gs_500 hL) (by decide) rfl rfl (by omega) (by decide) rfl (Nat.le_of_ble_eq_true rfl) (by omega) (by omega) rfl (fun E S9 hx => hx.elim) (fun v S9 hq => ?_)
    obtain ⟨rfl, rfl⟩ := hq
    refine GA.bipush dX12_readsNumber_201 rfl ?_
    obtain ⟨hg7, H⟩ := gg_e H
    refine GV.icmp_eq (tgt := 215) hg7 (by decide) dX12_readsNumber_203 (by decide) (fun c8 => ?_) (fun c8 => ?_)
    · have H := it_t H c8
      refine GA.locals [(0, .ref (L 500)), (1, .int (J a1)), (2, .int (J a2)), (3, .int (J a3)), (4, .int (J a4)), (5, .int (J a5))] ⟨rfl, rfl, rfl, rfl, rfl, rfl, trivial⟩ ?_
      exact ih_X12_readsNumber_215 hL _ _ (a1) (a2) (a3) (a4) (a5) _ _ H
    · have H := it_f H c8
      refine GA.aload_n dX12_readsNumber_206 rfl ?_
      obtain ⟨x9, S_10, hc11, H⟩ := gc_e H
      refine GA.callV (m_X12_sign hL hc11) xs_X12_471 dX12_readsNumber_207 (gs_500 hL) (by decide) rfl rfl (by omega) (by decide) rfl (Nat.le_of_ble_eq_true rfl) (by omega) (by omega) rfl (fun E S9 hx => hx.elim) (fun v S9 hq => ?_)
      obtain ⟨rfl, rfl⟩ := hq
      refine GA.bipush dX12_readsNumber_210 rfl ?_
      obtain ⟨hg12, H⟩ := gg_e H
      refine GV.icmp_ne (tgt := 344) hg12 (by decide) dX12_readsNumber_212 (by decide) (fun c13 => ?_) (fun c13 => ?_)
      · have H := it_t H c13
        refine GA.locals [(0, .ref (L 500)), (1, .int (J a1)), (2, .int (J a2)), (3, .int (J a3)), (4, .int (J a4)), (5, .int (J a5)), (9, .int (J 0))] ⟨rfl, rfl, rfl, rfl, rfl, rfl, rfl, trivial⟩ ?_
        exact ih_X12_readsNumber_344 hL _ _ (a1) (a2) (a3) (a4) (a5) (0) _ _ H
      · have H := it_f H c13
        refine GA.locals [(0, .ref (L 500)), (1, .int (J a1)), (2, .int (J a2)), (3, .int (J a3)), (4, .int (J a4)), (5, .int (J a5))] ⟨rfl, rfl, rfl, rfl, rfl, rfl, trivial⟩ ?_
        exact ih_X12_readsNumber_215 hL _ _ (a1) (a2) (a3) (a4) (a5) _ _ H
  · have H := it_f H c2
    refine GA.iload dX12_readsNumber_80 rfl ?_
    refine GA.bipush dX12_readsNumber_82 rfl ?_
    obtain ⟨hg14, H⟩ := gg_e H
    refine GV.icmp_ne (tgt := 89) hg14 (by decide) dX12_readsNumber_84 (by decide) (fun c15 => ?_) (fun c15 => ?_)
    · have H := it_t H c15
      refine GA.aload_n dX12_readsNumber_89 rfl ?_
      refine GA.get xf_X12_250 dX12_readsNumber_90 (gs_500 hL) (by decide) rfl ?_
      refine GA.iload dX12_readsNumber_93 rfl ?_
      refine GA.aload_n dX12_readsNumber_95 rfl ?_
      obtain ⟨hg16, H⟩ := gg_e H
      obtain ⟨x17, S_18, hc19, H⟩ := gc_e H
      refine GA.callV (m_X12_sign hL hc19) xs_X12_471 dX12_readsNumber_96 (gs_500 hL) (by decide) rfl rfl (by omega) (by decide) rfl (Nat.le_of_ble_eq_true rfl) (by omega) (by omega) rfl (fun E S9 hx => hx.elim) (fun v S9 hq => ?_)
      obtain ⟨rfl, rfl⟩ := hq
      refine GA.bipush dX12_readsNumber_99 rfl ?_
      obtain ⟨x20, hx21, H⟩ := gv_e H
      refine GV.isub hx21 dX12_readsNumber_101 ?_
      obtain ⟨hg22, H⟩ := gg_e H
      obtain ⟨S_23, hx24, H⟩ := gv_e H
      refine GV.iast hg22 hx24 dX12_readsNumber_102 (fun _ => (gs_510 hL)) (by decide) ?_
      obtain ⟨x25, hx26, H⟩ := gv_e H
      refine GV.iinc hx26 dX12_readsNumber_103 rfl (by decide) ?_
      refine GA.iload dX12_readsNumber_106 rfl ?_
      refine GA.iload dX12_readsNumber_108 rfl ?_
      obtain ⟨hg27, H⟩ := gg_e H
      refine GV.if_eq (tgt := 117) hg27 dX12_readsNumber_110 (by decide) (fun c28 => ?_) (fun c28 => ?_)
      · have H := it_t H c28
        refine GA.iconst dX12_readsNumber_117 ?_
        refine GA.locals [(0, .ref (L 500)), (1, .int (J a1)), (2, .int (J a2)), (3, .int (J a3)), (4, .int (J x25)), (6, .int (J a6)), (7, .int (J a7)), (8, .int (J a8))] ⟨rfl, rfl, rfl, rfl, rfl, rfl, rfl, rfl, trivial⟩ ?_
        exact ih_X12_readsNumber_118 hL _ _ (a1) (a2) (a3) (x25) (a6) (a7) (a8) (0) (a5) _ _ H
      · have H := it_f H c28
        refine GA.iconst dX12_readsNumber_113 ?_
        refine GA.goto (tgt := 118) dX12_readsNumber_114 (by decide) ?_
        refine GA.locals [(0, .ref (L 500)), (1, .int (J a1)), (2, .int (J a2)), (3, .int (J a3)), (4, .int (J x25)), (6, .int (J a6)), (7, .int (J a7)), (8, .int (J a8))] ⟨rfl, rfl, rfl, rfl, rfl, rfl, rfl, rfl, trivial⟩ ?_
        exact ih_X12_readsNumber_118 hL _ _ (a1) (a2) (a3) (x25) (a6) (a7) (a8) (1) (a5) _ _ H
    · have H := it_f H c15
      refine GA.iconst dX12_readsNumber_87 ?_
      cases H
      exact GV.zret (by decide) rfl dX12_readsNumber_88 (by omega) (by omega) ⟨rfl, rfl⟩
set_option maxHeartbeats 4000000 in
set_option maxRecDepth 20000 in
theorem t_X12_readsNumber_118 {l : Launch} {Z : XZ} {L : Nat → Nat} (n : Nat) (ih_X12_readsNumber_0 : P_X12_readsNumber_0 l Z L n) (ih_X12_readsNumber_19 : P_X12_readsNumber_19 l Z L n) (ih_X12_readsNumber_34 : P_X12_readsNumber_34 l Z L n) (ih_X12_readsNumber_75 : P_X12_readsNumber_75 l Z L n) (ih_X12_readsNumber_118 : P_X12_readsNumber_118 l Z L n) (ih_X12_readsNumber_167 : P_X12_readsNumber_167 l Z L n) (ih_X12_readsNumber_215 : P_X12_readsNumber_215 l Z L n) (ih_X12_readsNumber_239 : P_X12_readsNumber_239 l Z L n) (ih_X12_readsNumber_265 : P_X12_readsNumber_265 l Z L n) (ih_X12_readsNumber_344 : P_X12_readsNumber_344 l Z L n) : P_X12_readsNumber_118 l Z L (n + 1) := by
  intro hL d S a1 a2 a3 a4 a6 a7 a8 s0 s1 x S1 H
  have H : b_X12_readsNumber_118 n d (f_X12_readsNumber n) S a1 a2 a3 a4 a6 a7 a8 s0 s1 = some (x, S1) := H
  unfold b_X12_readsNumber_118 at H
  obtain ⟨x1, hx2, H⟩ := gv_e H
  refine GV.iadd hx2 dX12_readsNumber_118 ?_
  refine GA.istore dX12_readsNumber_119 (by decide) ?_
  refine GA.aload_n dX12_readsNumber_121 rfl ?_
  refine GA.dup dX12_readsNumber_122 rfl ?_
  obtain ⟨x3, hx4, H⟩ := gv_e H
  refine GV.getI hx4 xf_X12_468 dX12_readsNumber_123 (gs_500 hL) (by decide) rfl ?_
  refine GA.iconst dX12_readsNumber_126 ?_
  obtain ⟨x5, hx6, H⟩ := gv_e H
  refine GV.iadd hx6 dX12_readsNumber_127 ?_
  obtain ⟨S_7, hx8, H⟩ := gv_e H
  refine GV.putI hx8 (xp_X12_468 _) dX12_readsNumber_128 (gs_500 hL) (by decide) (Nat.le_of_ble_eq_true rfl) (gs_500 hL) ?_
  refine GA.iload dX12_readsNumber_131 rfl ?_
  obtain ⟨hg9, H⟩ := gg_e H
  refine GV.if_ne (tgt := 167) hg9 dX12_readsNumber_133 (by decide) (fun c10 => ?_) (fun c10 => ?_)
  · have H := it_t H c10
    refine GA.locals [(0, .ref (L 500)), (1, .int (J a1)), (2, .int (J a2)), (3, .int (J a3)), (4, .int (J a4)), (5, .int (J x1)), (6, .int (J a6)), (7, .int (J a7))] ⟨rfl, rfl, rfl, rfl, rfl, rfl, rfl, rfl, trivial⟩ ?_
    exact ih_X12_readsNumber_167 hL _ _ (a1) (a2) (a3) (a4) (x1) (a6) (a7) _ _ H
  · have H := it_f H c10
    refine GA.aload_n dX12_readsNumber_136 rfl ?_
    obtain ⟨hg11, H⟩ := gg_e H
    obtain ⟨x12, S_13, hc14, H⟩ := gc_e H
    refine GA.callV (m_X12_sign hL hc14) xs_X12_471 dX12_readsNumber_137 (gs_500 hL) (by decide) rfl rfl (by omega) (by decide) rfl (Nat.le_of_ble_eq_true rfl) (by omega) (by omega) rfl (fun E S9 hx => hx.elim) (fun v S9 hq => ?_)
    obtain ⟨rfl, rfl⟩ := hq
    refine GA.bipush dX12_readsNumber_140 rfl ?_
    obtain ⟨hg15, H⟩ := gg_e H
    refine GV.icmp_ne (tgt := 167) hg15 (by decide) dX12_readsNumber_142 (by decide) (fun c16 => ?_) (fun c16 => ?_)
    · have H := it_t H c16
      refine GA.locals [(0, .ref (L 500)), (1, .int (J a1)), (2, .int (J a2)), (3, .int (J a3)), (4, .int (J a4)), (5, .int (J x1)), (6, .int (J a6)), (7, .int (J a7))] ⟨rfl, rfl, rfl, rfl, rfl, rfl, rfl, rfl, trivial⟩ ?_
      exact ih_X12_readsNumber_167 hL _ _ (a1) (a2) (a3) (a4) (x1) (a6) (a7) _ _ H
    · have H := it_f H c16
      refine GA.iconst dX12_readsNumber_145 ?_
      refine GA.istore dX12_readsNumber_146 (by decide) ?_
      refine GA.aload_n dX12_readsNumber_148 rfl ?_
      refine GA.dup dX12_readsNumber_149 rfl ?_
      obtain ⟨x17, hx18, H⟩ := gv_e H
      refine GV.getI hx18 xf_X12_468 dX12_readsNumber_150 (gs_500 hL) (by decide) rfl ?_
      refine GA.iconst dX12_readsNumber_153 ?_
      obtain ⟨x19, hx20, H⟩ := gv_e H
      refine GV.iadd hx20 dX12_readsNumber_154 ?_
      obtain ⟨S_21, hx22, H⟩ := gv_e H
      refine GV.putI hx22 (xp_X12_468 _) dX12_readsNumber_155 (gs_500 hL) (by decide) (Nat.le_of_ble_eq_true rfl) (gs_500 hL) ?_
      refine GA.aload_n dX12_readsNumber_158 rfl ?_
      obtain ⟨x23, S_24, hc25, H⟩ := gc_e H
      refine GA.callV (m_X12_isFigure hL hc25) xs_X12_481 dX12_readsNumber_159 (gs_500 hL) (by decide) rfl rfl (by omega) (by decide) rfl (Nat.le_of_ble_eq_true rfl) (by omega) (by omega) rfl (fun E S9 hx => hx.elim) (fun v S9 hq => ?_)
      obtain ⟨rfl, rfl⟩ := hq
      obtain ⟨hg26, H⟩ := gg_e H
      refine GV.if_ne (tgt := 75) hg26 dX12_readsNumber_162 (by decide) (fun c27 => ?_) (fun c27 => ?_)
      · have H := it_t H c27
        refine GA.locals [(0, .ref (L 500)), (1, .int (J a1)), (2, .int (J a2)), (3, .int (J a3)), (4, .int (J a4)), (5, .int (J x1)), (6, .int (J 1)), (7, .int (J a7)), (8, .int (J a8))] ⟨rfl, rfl, rfl, rfl, rfl, rfl, rfl, rfl, rfl, trivial⟩ ?_
        exact ih_X12_readsNumber_75 hL _ _ (a1) (a2) (a3) (a4) (x1) (1) (a7) (a8) _ _ H
      · have H := it_f H c27
        refine GA.iconst dX12_readsNumber_165 ?_
        cases H
        exact GV.zret (by decide) rfl dX12_readsNumber_166 (by omega) (by omega) ⟨rfl, rfl⟩
set_option maxHeartbeats 4000000 in
set_option maxRecDepth 20000 in
theorem t_X12_readsNumber_167 {l : Launch} {Z : XZ} {L : Nat → Nat} (n : Nat) (ih_X12_readsNumber_0 : P_X12_readsNumber_0 l Z L n) (ih_X12_readsNumber_19 : P_X12_readsNumber_19 l Z L n) (ih_X12_readsNumber_34 : P_X12_readsNumber_34 l Z L n) (ih_X12_readsNumber_75 : P_X12_readsNumber_75 l Z L n) (ih_X12_readsNumber_118 : P_X12_readsNumber_118 l Z L n) (ih_X12_readsNumber_167 : P_X12_readsNumber_167 l Z L n) (ih_X12_readsNumber_215 : P_X12_readsNumber_215 l Z L n) (ih_X12_readsNumber_239 : P_X12_readsNumber_239 l Z L n) (ih_X12_readsNumber_265 : P_X12_readsNumber_265 l Z L n) (ih_X12_readsNumber_344 : P_X12_readsNumber_344 l Z L n) : P_X12_readsNumber_167 l Z L (n + 1) := by
  intro hL d S a1 a2 a3 a4 a5 a6 a7 x S1 H
  have H : b_X12_readsNumber_167 n d (f_X12_readsNumber n) S a1 a2 a3 a4 a5 a6 a7 = some (x, S1) := H
  unfold b_X12_readsNumber_167 at H
  refine GA.aload_n dX12_readsNumber_167 rfl ?_
  obtain ⟨hg1, H⟩ := gg_e H
  obtain ⟨x2, S_3, hc4, H⟩ := gc_e H
  refine GA.callV (m_X12_isFigure hL hc4) xs_X12_481 dX12_readsNumber_168 (gs_500 hL) (by decide) rfl rfl (by omega) (by decide) rfl (Nat.le_of_ble_eq_true rfl) (by omega) (by omega) rfl (fun E S9 hx => hx.elim) (fun v S9 hq => ?_)
  obtain ⟨rfl, rfl⟩ := hq
  obtain ⟨hg5, H⟩ := gg_e H
  refine GV.if_eq (tgt := 188) hg5 dX12_readsNumber_171 (by decide) (fun c6 => ?_) (fun c6 => ?_)
  · have H := it_t H c6
    refine GA.iconst dX12_readsNumber_188 ?_
    refine GA.istore dX12_readsNumber_189 (by decide) ?_
    refine GA.goto (tgt := 75) dX12_readsNumber_191 (by decide) ?_
    refine GA.locals [(0, .ref (L 500)), (1, .int (J a1)), (2, .int (J a2)), (3, .int (J a3)), (4, .int (J a4)), (5, .int (J a5)), (6, .int (J a6)), (7, .int (J a7)), (8, .int (J 0))] ⟨rfl, rfl, rfl, rfl, rfl, rfl, rfl, rfl, rfl, trivial⟩ ?_
    exact ih_X12_readsNumber_75 hL _ _ (a1) (a2) (a3) (a4) (a5) (a6) (a7) (0) _ _ H
  · have H := it_f H c6
    refine GA.iload dX12_readsNumber_174 rfl ?_
    obtain ⟨hg7, H⟩ := gg_e H
    refine GV.if_ne (tgt := 184) hg7 dX12_readsNumber_176 (by decide) (fun c8 => ?_) (fun c8 => ?_)
    · have H := it_t H c8
      refine GA.iconst dX12_readsNumber_184 ?_
      refine GA.goto (tgt := 189) dX12_readsNumber_185 (by decide) ?_
      refine GA.istore dX12_readsNumber_189 (by decide) ?_
      refine GA.goto (tgt := 75) dX12_readsNumber_191 (by decide) ?_
      refine GA.locals [(0, .ref (L 500)), (1, .int (J a1)), (2, .int (J a2)), (3, .int (J a3)), (4, .int (J a4)), (5, .int (J a5)), (6, .int (J a6)), (7, .int (J a7)), (8, .int (J 1))] ⟨rfl, rfl, rfl, rfl, rfl, rfl, rfl, rfl, rfl, trivial⟩ ?_
      exact ih_X12_readsNumber_75 hL _ _ (a1) (a2) (a3) (a4) (a5) (a6) (a7) (1) _ _ H
    · have H := it_f H c8
      refine GA.iload dX12_readsNumber_179 rfl ?_
      obtain ⟨hg9, H⟩ := gg_e H
      refine GV.if_ne (tgt := 188) hg9 dX12_readsNumber_181 (by decide) (fun c10 => ?_) (fun c10 => ?_)
      · have H := it_t H c10
        refine GA.iconst dX12_readsNumber_188 ?_
        refine GA.istore dX12_readsNumber_189 (by decide) ?_
        refine GA.goto (tgt := 75) dX12_readsNumber_191 (by decide) ?_
        refine GA.locals [(0, .ref (L 500)), (1, .int (J a1)), (2, .int (J a2)), (3, .int (J a3)), (4, .int (J a4)), (5, .int (J a5)), (6, .int (J a6)), (7, .int (J a7)), (8, .int (J 0))] ⟨rfl, rfl, rfl, rfl, rfl, rfl, rfl, rfl, rfl, trivial⟩ ?_
        exact ih_X12_readsNumber_75 hL _ _ (a1) (a2) (a3) (a4) (a5) (a6) (a7) (0) _ _ H
      · have H := it_f H c10
        refine GA.iconst dX12_readsNumber_184 ?_
        refine GA.goto (tgt := 189) dX12_readsNumber_185 (by decide) ?_
        refine GA.istore dX12_readsNumber_189 (by decide) ?_
        refine GA.goto (tgt := 75) dX12_readsNumber_191 (by decide) ?_
        refine GA.locals [(0, .ref (L 500)), (1, .int (J a1)), (2, .int (J a2)), (3, .int (J a3)), (4, .int (J a4)), (5, .int (J a5)), (6, .int (J a6)), (7, .int (J a7)), (8, .int (J 1))] ⟨rfl, rfl, rfl, rfl, rfl, rfl, rfl, rfl, rfl, trivial⟩ ?_
        exact ih_X12_readsNumber_75 hL _ _ (a1) (a2) (a3) (a4) (a5) (a6) (a7) (1) _ _ H
set_option maxHeartbeats 4000000 in
set_option maxRecDepth 20000 in
theorem t_X12_readsNumber_215 {l : Launch} {Z : XZ} {L : Nat → Nat} (n : Nat) (ih_X12_readsNumber_0 : P_X12_readsNumber_0 l Z L n) (ih_X12_readsNumber_19 : P_X12_readsNumber_19 l Z L n) (ih_X12_readsNumber_34 : P_X12_readsNumber_34 l Z L n) (ih_X12_readsNumber_75 : P_X12_readsNumber_75 l Z L n) (ih_X12_readsNumber_118 : P_X12_readsNumber_118 l Z L n) (ih_X12_readsNumber_167 : P_X12_readsNumber_167 l Z L n) (ih_X12_readsNumber_215 : P_X12_readsNumber_215 l Z L n) (ih_X12_readsNumber_239 : P_X12_readsNumber_239 l Z L n) (ih_X12_readsNumber_265 : P_X12_readsNumber_265 l Z L n) (ih_X12_readsNumber_344 : P_X12_readsNumber_344 l Z L n) : P_X12_readsNumber_215 l Z L (n + 1) := by
  intro hL d S a1 a2 a3 a4 a5 x S1 H
  have H : b_X12_readsNumber_215 n d (f_X12_readsNumber n) S a1 a2 a3 a4 a5 = some (x, S1) := H
  unfold b_X12_readsNumber_215 at H
  refine GA.aload_n dX12_readsNumber_215 rfl ?_
  refine GA.dup dX12_readsNumber_216 rfl ?_
  obtain ⟨x1, hx2, H⟩ := gv_e H
  refine GV.getI hx2 xf_X12_468 dX12_readsNumber_217 (gs_500 hL) (by decide) rfl ?_
  refine GA.iconst dX12_readsNumber_220 ?_
  obtain ⟨x3, hx4, H⟩ := gv_e H
  refine GV.iadd hx4 dX12_readsNumber_221 ?_
  obtain ⟨S_5, hx6, H⟩ := gv_e H
  refine GV.putI hx6 (xp_X12_468 _) dX12_readsNumber_222 (gs_500 hL) (by decide) (Nat.le_of_ble_eq_true rfl) (gs_500 hL) ?_
  refine GA.aload_n dX12_readsNumber_225 rfl ?_
  obtain ⟨hg7, H⟩ := gg_e H
  obtain ⟨x8, S_9, hc10, H⟩ := gc_e H
  refine GA.callV (m_X12_sign hL hc10) xs_X12_471 dX12_readsNumber_226 (gs_500 hL) (by decide) rfl rfl (by omega) (by decide) rfl (Nat.le_of_ble_eq_true rfl) (by omega) (by omega) rfl (fun E S9 hx => hx.elim) (fun v S9 hq => ?_)
  obtain ⟨rfl, rfl⟩ := hq
  refine GA.bipush dX12_readsNumber_229 rfl ?_
  obtain ⟨hg11, H⟩ := gg_e H
  refine GV.icmp_ne (tgt := 238) hg11 (by decide) dX12_readsNumber_231 (by decide) (fun c12 => ?_) (fun c12 => ?_)
  · have H := it_t H c12
    refine GA.iconst dX12_readsNumber_238 ?_
    refine GA.locals [(0, .ref (L 500)), (1, .int (J a1)), (2, .int (J a2)), (3, .int (J a3)), (4, .int (J a4)), (5, .int (J a5))] ⟨rfl, rfl, rfl, rfl, rfl, rfl, trivial⟩ ?_
    exact ih_X12_readsNumber_239 hL _ _ (a1) (a2) (a3) (a4) (a5) (0) _ _ H
  · have H := it_f H c12
    refine GA.iconst dX12_readsNumber_234 ?_
    refine GA.goto (tgt := 239) dX12_readsNumber_235 (by decide) ?_
    refine GA.locals [(0, .ref (L 500)), (1, .int (J a1)), (2, .int (J a2)), (3, .int (J a3)), (4, .int (J a4)), (5, .int (J a5))] ⟨rfl, rfl, rfl, rfl, rfl, rfl, trivial⟩ ?_
    exact ih_X12_readsNumber_239 hL _ _ (a1) (a2) (a3) (a4) (a5) (1) _ _ H
set_option maxHeartbeats 4000000 in
set_option maxRecDepth 20000 in
theorem t_X12_readsNumber_239 {l : Launch} {Z : XZ} {L : Nat → Nat} (n : Nat) (ih_X12_readsNumber_0 : P_X12_readsNumber_0 l Z L n) (ih_X12_readsNumber_19 : P_X12_readsNumber_19 l Z L n) (ih_X12_readsNumber_34 : P_X12_readsNumber_34 l Z L n) (ih_X12_readsNumber_75 : P_X12_readsNumber_75 l Z L n) (ih_X12_readsNumber_118 : P_X12_readsNumber_118 l Z L n) (ih_X12_readsNumber_167 : P_X12_readsNumber_167 l Z L n) (ih_X12_readsNumber_215 : P_X12_readsNumber_215 l Z L n) (ih_X12_readsNumber_239 : P_X12_readsNumber_239 l Z L n) (ih_X12_readsNumber_265 : P_X12_readsNumber_265 l Z L n) (ih_X12_readsNumber_344 : P_X12_readsNumber_344 l Z L n) : P_X12_readsNumber_239 l Z L (n + 1) := by
  intro hL d S a1 a2 a3 a4 a5 s0 x S1 H
  have H : b_X12_readsNumber_239 n d (f_X12_readsNumber n) S a1 a2 a3 a4 a5 s0 = some (x, S1) := H
  unfold b_X12_readsNumber_239 at H
  refine GA.istore dX12_readsNumber_239 (by decide) ?_
  refine GA.aload_n dX12_readsNumber_241 rfl ?_
  refine GA.dup dX12_readsNumber_242 rfl ?_
  obtain ⟨x1, hx2, H⟩ := gv_e H
  refine GV.getI hx2 xf_X12_468 dX12_readsNumber_243 (gs_500 hL) (by decide) rfl ?_
  refine GA.iload dX12_readsNumber_246 rfl ?_
  obtain ⟨hg3, H⟩ := gg_e H
  refine GV.if_ne (tgt := 260) hg3 dX12_readsNumber_248 (by decide) (fun c4 => ?_) (fun c4 => ?_)
  · have H := it_t H c4
    refine GA.iconst dX12_readsNumber_260 ?_
    refine GA.goto (tgt := 265) dX12_readsNumber_261 (by decide) ?_
    refine GA.locals [(0, .ref (L 500)), (1, .int (J a1)), (2, .int (J a2)), (3, .int (J a3)), (4, .int (J a4)), (5, .int (J a5)), (10, .int (J s0))] ⟨rfl, rfl, rfl, rfl, rfl, rfl, rfl, trivial⟩ ?_
    exact ih_X12_readsNumber_265 hL _ _ (a1) (a2) (a3) (a4) (a5) (s0) (1) (x1) _ _ H
  · have H := it_f H c4
    refine GA.aload_n dX12_readsNumber_251 rfl ?_
    obtain ⟨hg5, H⟩ := gg_e H
    obtain ⟨x6, S_7, hc8, H⟩ := gc_e H
    refine GA.callV (m_X12_sign hL hc8) xs_X12_471 dX12_readsNumber_252 (gs_500 hL) (by decide) rfl rfl (by omega) (by decide) rfl (Nat.le_of_ble_eq_true rfl) (by omega) (by omega) rfl (fun E S9 hx => hx.elim) (fun v S9 hq => ?_)
    obtain ⟨rfl, rfl⟩ := hq
    refine GA.bipush dX12_readsNumber_255 rfl ?_
    obtain ⟨hg9, H⟩ := gg_e H
    refine GV.icmp_ne (tgt := 264) hg9 (by decide) dX12_readsNumber_257 (by decide) (fun c10 => ?_) (fun c10 => ?_)
    · have H := it_t H c10
      refine GA.iconst dX12_readsNumber_264 ?_
      refine GA.locals [(0, .ref (L 500)), (1, .int (J a1)), (2, .int (J a2)), (3, .int (J a3)), (4, .int (J a4)), (5, .int (J a5)), (10, .int (J s0))] ⟨rfl, rfl, rfl, rfl, rfl, rfl, rfl, trivial⟩ ?_
      exact ih_X12_readsNumber_265 hL _ _ (a1) (a2) (a3) (a4) (a5) (s0) (0) (x1) _ _ H
    · have H := it_f H c10
      refine GA.iconst dX12_readsNumber_260 ?_
      refine GA.goto (tgt := 265) dX12_readsNumber_261 (by decide) ?_
      refine GA.locals [(0, .ref (L 500)), (1, .int (J a1)), (2, .int (J a2)), (3, .int (J a3)), (4, .int (J a4)), (5, .int (J a5)), (10, .int (J s0))] ⟨rfl, rfl, rfl, rfl, rfl, rfl, rfl, trivial⟩ ?_
      exact ih_X12_readsNumber_265 hL _ _ (a1) (a2) (a3) (a4) (a5) (s0) (1) (x1) _ _ H
set_option maxHeartbeats 4000000 in
set_option maxRecDepth 20000 in
theorem t_X12_readsNumber_265 {l : Launch} {Z : XZ} {L : Nat → Nat} (n : Nat) (ih_X12_readsNumber_0 : P_X12_readsNumber_0 l Z L n) (ih_X12_readsNumber_19 : P_X12_readsNumber_19 l Z L n) (ih_X12_readsNumber_34 : P_X12_readsNumber_34 l Z L n) (ih_X12_readsNumber_75 : P_X12_readsNumber_75 l Z L n) (ih_X12_readsNumber_118 : P_X12_readsNumber_118 l Z L n) (ih_X12_readsNumber_167 : P_X12_readsNumber_167 l Z L n) (ih_X12_readsNumber_215 : P_X12_readsNumber_215 l Z L n) (ih_X12_readsNumber_239 : P_X12_readsNumber_239 l Z L n) (ih_X12_readsNumber_265 : P_X12_readsNumber_265 l Z L n) (ih_X12_readsNumber_344 : P_X12_readsNumber_344 l Z L n) : P_X12_readsNumber_265 l Z L (n + 1) := by
  intro hL d S a1 a2 a3 a4 a5 a10 s0 s1 x S1 H
  have H : b_X12_readsNumber_265 n d (f_X12_readsNumber n) S a1 a2 a3 a4 a5 a10 s0 s1 = some (x, S1) := H
  unfold b_X12_readsNumber_265 at H
  obtain ⟨x1, hx2, H⟩ := gv_e H
  refine GV.iadd hx2 dX12_readsNumber_265 ?_
  obtain ⟨S_3, hx4, H⟩ := gv_e H
  refine GV.putI hx4 (xp_X12_468 _) dX12_readsNumber_266 (gs_500 hL) (by decide) (Nat.le_of_ble_eq_true rfl) (gs_500 hL) ?_
  refine GA.aload_n dX12_readsNumber_269 rfl ?_
  obtain ⟨hg5, H⟩ := gg_e H
  obtain ⟨x6, S_7, hc8, H⟩ := gc_e H
  refine GA.callV (m_X12_isFigure hL hc8) xs_X12_481 dX12_readsNumber_270 (gs_500 hL) (by decide) rfl rfl (by omega) (by decide) rfl (Nat.le_of_ble_eq_true rfl) (by omega) (by omega) rfl (fun E S9 hx => hx.elim) (fun v S9 hq => ?_)
  obtain ⟨rfl, rfl⟩ := hq
  obtain ⟨hg9, H⟩ := gg_e H
  refine GV.if_ne (tgt := 278) hg9 dX12_readsNumber_273 (by decide) (fun c10 => ?_) (fun c10 => ?_)
  · have H := it_t H c10
    refine GA.aload_n dX12_readsNumber_278 rfl ?_
    obtain ⟨x11, S_12, hc13, H⟩ := gc_e H
    refine GA.callV (m_X12_sign hL hc13) xs_X12_471 dX12_readsNumber_279 (gs_500 hL) (by decide) rfl rfl (by omega) (by decide) rfl (Nat.le_of_ble_eq_true rfl) (by omega) (by omega) rfl (fun E S9 hx => hx.elim) (fun v S9 hq => ?_)
    obtain ⟨rfl, rfl⟩ := hq
    refine GA.bipush dX12_readsNumber_282 rfl ?_
    obtain ⟨x14, hx15, H⟩ := gv_e H
    refine GV.isub hx15 dX12_readsNumber_284 ?_
    refine GA.istore dX12_readsNumber_285 (by decide) ?_
    refine GA.aload_n dX12_readsNumber_287 rfl ?_
    refine GA.dup dX12_readsNumber_288 rfl ?_
    obtain ⟨x16, hx17, H⟩ := gv_e H
    refine GV.getI hx17 xf_X12_468 dX12_readsNumber_289 (gs_500 hL) (by decide) rfl ?_
    refine GA.iconst dX12_readsNumber_292 ?_
    obtain ⟨x18, hx19, H⟩ := gv_e H
    refine GV.iadd hx19 dX12_readsNumber_293 ?_
    obtain ⟨S_20, hx21, H⟩ := gv_e H
    refine GV.putI hx21 (xp_X12_468 _) dX12_readsNumber_294 (gs_500 hL) (by decide) (Nat.le_of_ble_eq_true rfl) (gs_500 hL) ?_
    refine GA.aload_n dX12_readsNumber_297 rfl ?_
    obtain ⟨x22, S_23, hc24, H⟩ := gc_e H
    refine GA.callV (m_X12_isFigure hL hc24) xs_X12_481 dX12_readsNumber_298 (gs_500 hL) (by decide) rfl rfl (by omega) (by decide) rfl (Nat.le_of_ble_eq_true rfl) (by omega) (by omega) rfl (fun E S9 hx => hx.elim) (fun v S9 hq => ?_)
    obtain ⟨rfl, rfl⟩ := hq
    obtain ⟨hg25, H⟩ := gg_e H
    refine GV.if_eq (tgt := 329) hg25 dX12_readsNumber_301 (by decide) (fun c26 => ?_) (fun c26 => ?_)
    · have H := it_t H c26
      refine GA.iload dX12_readsNumber_329 rfl ?_
      obtain ⟨hg27, H⟩ := gg_e H
      refine GV.if_eq (tgt := 340) hg27 dX12_readsNumber_331 (by decide) (fun c28 => ?_) (fun c28 => ?_)
      · have H := it_t H c28
        refine GA.iload dX12_readsNumber_340 rfl ?_
        refine GA.istore dX12_readsNumber_342 (by decide) ?_
        refine GA.locals [(0, .ref (L 500)), (1, .int (J a1)), (2, .int (J a2)), (3, .int (J a3)), (4, .int (J a4)), (5, .int (J a5)), (9, .int (J x14))] ⟨rfl, rfl, rfl, rfl, rfl, rfl, rfl, trivial⟩ ?_
        exact ih_X12_readsNumber_344 hL _ _ (a1) (a2) (a3) (a4) (a5) (x14) _ _ H
      · have H := it_f H c28
        refine GA.iload dX12_readsNumber_334 rfl ?_
        obtain ⟨x29, hx30, H⟩ := gv_e H
        refine GV.ineg hx30 dX12_readsNumber_336 ?_
        refine GA.goto (tgt := 342) dX12_readsNumber_337 (by decide) ?_
        refine GA.istore dX12_readsNumber_342 (by decide) ?_
        refine GA.locals [(0, .ref (L 500)), (1, .int (J a1)), (2, .int (J a2)), (3, .int (J a3)), (4, .int (J a4)), (5, .int (J a5)), (9, .int (J x29))] ⟨rfl, rfl, rfl, rfl, rfl, rfl, rfl, trivial⟩ ?_
        exact ih_X12_readsNumber_344 hL _ _ (a1) (a2) (a3) (a4) (a5) (x29) _ _ H
    · have H := it_f H c26
      refine GA.bipush dX12_readsNumber_304 rfl ?_
      refine GA.iload dX12_readsNumber_306 rfl ?_
      obtain ⟨x31, hx32, H⟩ := gv_e H
      refine GV.imul hx32 dX12_readsNumber_308 ?_
      refine GA.aload_n dX12_readsNumber_309 rfl ?_
      obtain ⟨x33, S_34, hc35, H⟩ := gc_e H
      refine GA.callV (m_X12_sign hL hc35) xs_X12_471 dX12_readsNumber_310 (gs_500 hL) (by decide) rfl rfl (by omega) (by decide) rfl (Nat.le_of_ble_eq_true rfl) (by omega) (by omega) rfl (fun E S9 hx => hx.elim) (fun v S9 hq => ?_)
      obtain ⟨rfl, rfl⟩ := hq
      obtain ⟨x36, hx37, H⟩ := gv_e H
      refine GV.iadd hx37 dX12_readsNumber_313 ?_
      refine GA.bipush dX12_readsNumber_314 rfl ?_
      obtain ⟨x38, hx39, H⟩ := gv_e H
      refine GV.isub hx39 dX12_readsNumber_316 ?_
      refine GA.istore dX12_readsNumber_317 (by decide) ?_
      refine GA.aload_n dX12_readsNumber_319 rfl ?_
      refine GA.dup dX12_readsNumber_320 rfl ?_
      obtain ⟨x40, hx41, H⟩ := gv_e H
      refine GV.getI hx41 xf_X12_468 dX12_readsNumber_321 (gs_500 hL) (by decide) rfl ?_
      refine GA.iconst dX12_readsNumber_324 ?_
      obtain ⟨x42, hx43, H⟩ := gv_e H
      refine GV.iadd hx43 dX12_readsNumber_325 ?_
      obtain ⟨S_44, hx45, H⟩ := gv_e H
      refine GV.putI hx45 (xp_X12_468 _) dX12_readsNumber_326 (gs_500 hL) (by decide) (Nat.le_of_ble_eq_true rfl) (gs_500 hL) ?_
      refine GA.iload dX12_readsNumber_329 rfl ?_
      obtain ⟨hg46, H⟩ := gg_e H
      refine GV.if_eq (tgt := 340) hg46 dX12_readsNumber_331 (by decide) (fun c47 => ?_) (fun c47 => ?_)
      · have H := it_t H c47
        refine GA.iload dX12_readsNumber_340 rfl ?_
        refine GA.istore dX12_readsNumber_342 (by decide) ?_
        refine GA.locals [(0, .ref (L 500)), (1, .int (J a1)), (2, .int (J a2)), (3, .int (J a3)), (4, .int (J a4)), (5, .int (J a5)), (9, .int (J x38))] ⟨rfl, rfl, rfl, rfl, rfl, rfl, rfl, trivial⟩ ?_
        exact ih_X12_readsNumber_344 hL _ _ (a1) (a2) (a3) (a4) (a5) (x38) _ _ H
      · have H := it_f H c47
        refine GA.iload dX12_readsNumber_334 rfl ?_
        obtain ⟨x48, hx49, H⟩ := gv_e H
        refine GV.ineg hx49 dX12_readsNumber_336 ?_
        refine GA.goto (tgt := 342) dX12_readsNumber_337 (by decide) ?_
        refine GA.istore dX12_readsNumber_342 (by decide) ?_
        refine GA.locals [(0, .ref (L 500)), (1, .int (J a1)), (2, .int (J a2)), (3, .int (J a3)), (4, .int (J a4)), (5, .int (J a5)), (9, .int (J x48))] ⟨rfl, rfl, rfl, rfl, rfl, rfl, rfl, trivial⟩ ?_
        exact ih_X12_readsNumber_344 hL _ _ (a1) (a2) (a3) (a4) (a5) (x48) _ _ H
  · have H := it_f H c10
    refine GA.iconst dX12_readsNumber_276 ?_
    cases H
    exact GV.zret (by decide) rfl dX12_readsNumber_277 (by omega) (by omega) ⟨rfl, rfl⟩
set_option maxHeartbeats 4000000 in
set_option maxRecDepth 20000 in
theorem t_X12_readsNumber_344 {l : Launch} {Z : XZ} {L : Nat → Nat} (n : Nat) (ih_X12_readsNumber_0 : P_X12_readsNumber_0 l Z L n) (ih_X12_readsNumber_19 : P_X12_readsNumber_19 l Z L n) (ih_X12_readsNumber_34 : P_X12_readsNumber_34 l Z L n) (ih_X12_readsNumber_75 : P_X12_readsNumber_75 l Z L n) (ih_X12_readsNumber_118 : P_X12_readsNumber_118 l Z L n) (ih_X12_readsNumber_167 : P_X12_readsNumber_167 l Z L n) (ih_X12_readsNumber_215 : P_X12_readsNumber_215 l Z L n) (ih_X12_readsNumber_239 : P_X12_readsNumber_239 l Z L n) (ih_X12_readsNumber_265 : P_X12_readsNumber_265 l Z L n) (ih_X12_readsNumber_344 : P_X12_readsNumber_344 l Z L n) : P_X12_readsNumber_344 l Z L (n + 1) := by
  intro hL d S a1 a2 a3 a4 a5 a9 x S1 H
  have H : b_X12_readsNumber_344 n d (f_X12_readsNumber n) S a1 a2 a3 a4 a5 a9 = some (x, S1) := H
  unfold b_X12_readsNumber_344 at H
  refine GA.aload_n dX12_readsNumber_344 rfl ?_
  refine GA.iload_n dX12_readsNumber_345 rfl ?_
  refine GA.iload_n dX12_readsNumber_346 rfl ?_
  refine GA.iload dX12_readsNumber_347 rfl ?_
  refine GA.iload dX12_readsNumber_349 rfl ?_
  refine GA.iload dX12_readsNumber_351 rfl ?_
  obtain ⟨x1, hx2, H⟩ := gv_e H
  refine GV.isub hx2 dX12_readsNumber_353 ?_
  obtain ⟨hg3, H⟩ := gg_e H
  obtain ⟨x4, S_5, hc6, H⟩ := gc_e H
  refine GA.callV (m_X12_isNumber hL hc6) xs_X12_485 dX12_readsNumber_354 (gs_500 hL) (by decide) rfl rfl (by omega) (by decide) rfl (Nat.le_of_ble_eq_true rfl) (by omega) (by omega) rfl (fun E S9 hx => hx.elim) (fun v S9 hq => ?_)
  obtain ⟨rfl, rfl⟩ := hq
  obtain ⟨hg7, H⟩ := gg_e H
  refine GV.if_ne (tgt := 367) hg7 dX12_readsNumber_357 (by decide) (fun c8 => ?_) (fun c8 => ?_)
  · have H := it_t H c8
    refine GA.iconst dX12_readsNumber_367 ?_
    cases H
    exact GV.zret (by decide) rfl dX12_readsNumber_368 (by omega) (by omega) ⟨rfl, rfl⟩
  · have H := it_f H c8
    refine GA.aload_n dX12_readsNumber_360 rfl ?_
    refine GA.iload_n dX12_readsNumber_361 rfl ?_
    obtain ⟨S_9, hx10, H⟩ := gv_e H
    refine GV.putI hx10 (xp_X12_468 _) dX12_readsNumber_362 (gs_500 hL) (by decide) (Nat.le_of_ble_eq_true rfl) (gs_500 hL) ?_
    refine GA.iconst dX12_readsNumber_365 ?_
    cases H
    exact GV.zret (by decide) rfl dX12_readsNumber_366 (by omega) (by omega) ⟨rfl, rfl⟩
theorem g_X12_readsNumber {l : Launch} {Z : XZ} {L : Nat → Nat} : ∀ n, P_X12_readsNumber_0 l Z L n ∧ P_X12_readsNumber_19 l Z L n ∧ P_X12_readsNumber_34 l Z L n ∧ P_X12_readsNumber_75 l Z L n ∧ P_X12_readsNumber_118 l Z L n ∧ P_X12_readsNumber_167 l Z L n ∧ P_X12_readsNumber_215 l Z L n ∧ P_X12_readsNumber_239 l Z L n ∧ P_X12_readsNumber_265 l Z L n ∧ P_X12_readsNumber_344 l Z L n
  | 0 => ⟨fun _ _ _ _ _ _ H => no_e H, fun _ _ _ _ _ _ _ _ H => no_e H, fun _ _ _ _ _ _ _ _ _ _ H => no_e H, fun _ _ _ _ _ _ _ _ _ _ _ _ _ H => no_e H, fun _ _ _ _ _ _ _ _ _ _ _ _ _ _ H => no_e H, fun _ _ _ _ _ _ _ _ _ _ _ _ H => no_e H, fun _ _ _ _ _ _ _ _ _ _ H => no_e H, fun _ _ _ _ _ _ _ _ _ _ _ H => no_e H, fun _ _ _ _ _ _ _ _ _ _ _ _ _ H => no_e H, fun _ _ _ _ _ _ _ _ _ _ _ H => no_e H⟩
  | n + 1 => have ⟨h0, h1, h2, h3, h4, h5, h6, h7, h8, h9⟩ := g_X12_readsNumber (l := l) (Z := Z) (L := L) n
    ⟨t_X12_readsNumber_0 n h0 h1 h2 h3 h4 h5 h6 h7 h8 h9, t_X12_readsNumber_19 n h0 h1 h2 h3 h4 h5 h6 h7 h8 h9, t_X12_readsNumber_34 n h0 h1 h2 h3 h4 h5 h6 h7 h8 h9, t_X12_readsNumber_75 n h0 h1 h2 h3 h4 h5 h6 h7 h8 h9, t_X12_readsNumber_118 n h0 h1 h2 h3 h4 h5 h6 h7 h8 h9, t_X12_readsNumber_167 n h0 h1 h2 h3 h4 h5 h6 h7 h8 h9, t_X12_readsNumber_215 n h0 h1 h2 h3 h4 h5 h6 h7 h8 h9, t_X12_readsNumber_239 n h0 h1 h2 h3 h4 h5 h6 h7 h8 h9, t_X12_readsNumber_265 n h0 h1 h2 h3 h4 h5 h6 h7 h8 h9, t_X12_readsNumber_344 n h0 h1 h2 h3 h4 h5 h6 h7 h8 h9⟩
theorem m_X12_readsNumber {l : Launch} {Z : XZ} {L : Nat → Nat} (hL : L 700 = 1) {n d : Nat} {S : GS} {a1 : Int} {x : Int} {S1 : GS} (H : f_X12_readsNumber n d 0 S [a1] = some (x, S1)) : GM l Z L yX12_readsNumber cX12_readsNumber 11 (some .boolean) [] d 0 0 [.ref (L 500), .int (J a1)] S (fun v S' => v = some (.int (J x)) ∧ S1 = S') (fun _ _ => False) := GM.of (by decide) (Nat.le_of_ble_eq_true rfl) ((g_X12_readsNumber n).1 hL _ _ _ _ _ H)

