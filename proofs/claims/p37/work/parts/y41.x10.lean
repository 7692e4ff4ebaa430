def P_X10_is_0 (l : Launch) (Z : XZ) (L : Nat → Nat) (n : Nat) : Prop := ∀ (d : Nat) (S : GS) (a0 : Nat) (a1 : Int) (a2 : Int) (x : Int) (S1 : GS), f_X10_is n d 0 S [((a0 : Nat) : Int), a1, a2] = some (x, S1) → GA l Z L yX10_is cX10_is 3 (some .boolean) [] d 0 0 (fun v S' => v = some (.int (J x)) ∧ S1 = S') (fun _ _ => False) 0 (gl [(0, .ref (L a0)), (1, .int (J a1)), (2, .int (J a2))]) [] S 0 0
theorem i_X10_is {l : Launch} {Z : XZ} {L : Nat → Nat} {n : Nat} (ih : P_X10_is_0 l Z L n) {d : Nat} {S : GS} {a0 : Nat} {a1 : Int} {a2 : Int} {x : Int} {S1 : GS} (H : f_X10_is n d 0 S [((a0 : Nat) : Int), a1, a2] = some (x, S1)) : GM l Z L yX10_is cX10_is 3 (some .boolean) [] d 0 0 [.ref (L a0), .int (J a1), .int (J a2)] S (fun v S' => v = some (.int (J x)) ∧ S1 = S') (fun _ _ => False) := GM.of (by decide) (Nat.le_of_ble_eq_true rfl) (ih _ _ _ _ _ _ _ H)
set_option maxHeartbeats 4000000 in
set_option maxRecDepth 20000 in
theorem t_X10_is_0 {l : Launch} {Z : XZ} {L : Nat → Nat} (n : Nat) (ih_X10_is_0 : P_X10_is_0 l Z L n) : P_X10_is_0 l Z L (n + 1) := by
  intro d S a0 a1 a2 x S1 H
  have H : b_X10_is_0 n d (f_X10_is n) S a0 a1 a2 = some (x, S1) := H
  unfold b_X10_is_0 at H
  refine GA.iload_n dX10_is_0 rfl ?_
  obtain ⟨hg1, H⟩ := gg_e H
  refine GV.if_lt (tgt := 32) hg1 dX10_is_1 (by decide) (fun c2 => ?_) (fun c2 => ?_)
  · have H := it_t H c2
    refine GA.iconst dX10_is_32 ?_
    cases H
    exact GV.zret (by decide) rfl dX10_is_33 (by omega) (by omega) ⟨rfl, rfl⟩
  · have H := it_f H c2
    refine GA.iload_n dX10_is_4 rfl ?_
    refine GA.aload_n dX10_is_5 rfl ?_
    obtain ⟨hg3, H⟩ := gg_e H
    obtain ⟨x4, hx5, H⟩ := gv_e H
    refine GV.getI hx5 xf_X10_34 dX10_is_6 (gsT hg3) (by omega) rfl ?_
    obtain ⟨hg6, H⟩ := gg_e H
    refine GV.icmp_ge (tgt := 32) hg1 hg6 dX10_is_9 (by decide) (fun c7 => ?_) (fun c7 => ?_)
    · have H := it_t H c7
      refine GA.iconst dX10_is_32 ?_
      cases H
      exact GV.zret (by decide) rfl dX10_is_33 (by omega) (by omega) ⟨rfl, rfl⟩
    · have H := it_f H c7
      refine GA.iload_n dX10_is_12 rfl ?_
      refine GA.bipush dX10_is_13 rfl ?_
      refine GV.icmp_ge (tgt := 32) hg1 (by decide) dX10_is_15 (by decide) (fun c8 => ?_) (fun c8 => ?_)
      · have H := it_t H c8
        refine GA.iconst dX10_is_32 ?_
        cases H
        exact GV.zret (by decide) rfl dX10_is_33 (by omega) (by omega) ⟨rfl, rfl⟩
      · have H := it_f H c8
        refine GA.aload_n dX10_is_18 rfl ?_
        refine GA.get xf_X10_9 dX10_is_19 (gsT hg3) (by omega) rfl ?_
        refine GA.iload_n dX10_is_22 rfl ?_
        obtain ⟨hg9, H⟩ := gg_e H
        obtain ⟨x10, hx11, H⟩ := gv_e H
        refine GV.iald hg9 hx11 dX10_is_23 (gsT1 hg3) (by omega) ?_
        refine GA.iload_n dX10_is_24 rfl ?_
        obtain ⟨hg12, H⟩ := gg_e H
        obtain ⟨hg13, H⟩ := gg_e H
        refine GV.icmp_ne (tgt := 32) hg12 hg13 dX10_is_25 (by decide) (fun c14 => ?_) (fun c14 => ?_)
        · have H := it_t H c14
          refine GA.iconst dX10_is_32 ?_
          cases H
          exact GV.zret (by decide) rfl dX10_is_33 (by omega) (by omega) ⟨rfl, rfl⟩
        · have H := it_f H c14
          refine GA.iconst dX10_is_28 ?_
          refine GA.goto (tgt := 33) dX10_is_29 (by decide) ?_
          cases H
          exact GV.zret (by decide) rfl dX10_is_33 (by omega) (by omega) ⟨rfl, rfl⟩
theorem g_X10_is {l : Launch} {Z : XZ} {L : Nat → Nat} : ∀ n, P_X10_is_0 l Z L n
  | 0 => fun _ _ _ _ _ _ _ H => no_e H
  | n + 1 => t_X10_is_0 n (g_X10_is n)
theorem m_X10_is {l : Launch} {Z : XZ} {L : Nat → Nat} {n d : Nat} {S : GS} {a0 : Nat} {a1 : Int} {a2 : Int} {x : Int} {S1 : GS} (H : f_X10_is n d 0 S [((a0 : Nat) : Int), a1, a2] = some (x, S1)) : GM l Z L yX10_is cX10_is 3 (some .boolean) [] d 0 0 [.ref (L a0), .int (J a1), .int (J a2)] S (fun v S' => v = some (.int (J x)) ∧ S1 = S') (fun _ _ => False) := GM.of (by decide) (Nat.le_of_ble_eq_true rfl) ((g_X10_is n) _ _ _ _ _ _ _ H)

def P_X10_isTrue_0 (l : Launch) (Z : XZ) (L : Nat → Nat) (n : Nat) : Prop := ∀ (d : Nat) (S : GS) (a0 : Nat) (a1 : Int) (x : Int) (S1 : GS), f_X10_isTrue n d 0 S [((a0 : Nat) : Int), a1] = some (x, S1) → GA l Z L yX10_isTrue cX10_isTrue 2 (some .boolean) [] d 0 0 (fun v S' => v = some (.int (J x)) ∧ S1 = S') (fun _ _ => False) 0 (gl [(0, .ref (L a0)), (1, .int (J a1))]) [] S 0 0
theorem i_X10_isTrue {l : Launch} {Z : XZ} {L : Nat → Nat} {n : Nat} (ih : P_X10_isTrue_0 l Z L n) {d : Nat} {S : GS} {a0 : Nat} {a1 : Int} {x : Int} {S1 : GS} (H : f_X10_isTrue n d 0 S [((a0 : Nat) : Int), a1] = some (x, S1)) : GM l Z L yX10_isTrue cX10_isTrue 2 (some .boolean) [] d 0 0 [.ref (L a0), .int (J a1)] S (fun v S' => v = some (.int (J x)) ∧ S1 = S') (fun _ _ => False) := GM.of (by decide) (Nat.le_of_ble_eq_true rfl) (ih _ _ _ _ _ _ H)
set_option maxHeartbeats 4000000 in
set_option maxRecDepth 20000 in
theorem t_X10_isTrue_0 {l : Launch} {Z : XZ} {L : Nat → Nat} (n : Nat) (ih_X10_isTrue_0 : P_X10_isTrue_0 l Z L n) : P_X10_isTrue_0 l Z L (n + 1) := by
  intro d S a0 a1 x S1 H
  have H : b_X10_isTrue_0 n d (f_X10_isTrue n) S a0 a1 = some (x, S1) := H
  unfold b_X10_isTrue_0 at H
  refine GA.aload_n dX10_isTrue_0 rfl ?_
  refine GA.iload_n dX10_isTrue_1 rfl ?_
  refine GA.iconst dX10_isTrue_2 ?_
  obtain ⟨hg1, H⟩ := gg_e H
  obtain ⟨hg2, H⟩ := gg_e H
  obtain ⟨x3, S_4, hc5, H⟩ := gc_e H
  refine GA.callV (m_X10_is hc5) xs_X10_42 dX10_isTrue_3 (gsT hg2) (by omega) rfl rfl (by omega) (by decide) rfl (Nat.le_of_ble_eq_true rfl) (by omega) (by omega) rfl (fun E S9 hx => hx.elim) (fun v S9 hq => ?_)
  obtain ⟨rfl, rfl⟩ := hq
  obtain ⟨hg6, H⟩ := gg_e H
  refine GV.if_eq (tgt := 23) hg6 dX10_isTrue_6 (by decide) (fun c7 => ?_) (fun c7 => ?_)
  · have H := it_t H c7
    refine GA.iconst dX10_isTrue_23 ?_
    cases H
    exact GV.zret (by decide) rfl dX10_isTrue_24 (by omega) (by omega) ⟨rfl, rfl⟩
  · have H := it_f H c7
    refine GA.aload_n dX10_isTrue_9 rfl ?_
    refine GA.get xf_X10_18 dX10_isTrue_10 (gsT hg2) (by omega) rfl ?_
    refine GA.iload_n dX10_isTrue_13 rfl ?_
    obtain ⟨hg8, H⟩ := gg_e H
    obtain ⟨x9, hx10, H⟩ := gv_e H
    refine GV.iald hg8 hx10 dX10_isTrue_14 (gsT3 hg2) (by omega) ?_
    refine GA.iconst dX10_isTrue_15 ?_
    obtain ⟨hg11, H⟩ := gg_e H
    refine GV.icmp_ne (tgt := 23) hg11 (by decide) dX10_isTrue_16 (by decide) (fun c12 => ?_) (fun c12 => ?_)
    · have H := it_t H c12
      refine GA.iconst dX10_isTrue_23 ?_
      cases H
      exact GV.zret (by decide) rfl dX10_isTrue_24 (by omega) (by omega) ⟨rfl, rfl⟩
    · have H := it_f H c12
      refine GA.iconst dX10_isTrue_19 ?_
      refine GA.goto (tgt := 24) dX10_isTrue_20 (by decide) ?_
      cases H
      exact GV.zret (by decide) rfl dX10_isTrue_24 (by omega) (by omega) ⟨rfl, rfl⟩
theorem g_X10_isTrue {l : Launch} {Z : XZ} {L : Nat → Nat} : ∀ n, P_X10_isTrue_0 l Z L n
  | 0 => fun _ _ _ _ _ _ H => no_e H
  | n + 1 => t_X10_isTrue_0 n (g_X10_isTrue n)
theorem m_X10_isTrue {l : Launch} {Z : XZ} {L : Nat → Nat} {n d : Nat} {S : GS} {a0 : Nat} {a1 : Int} {x : Int} {S1 : GS} (H : f_X10_isTrue n d 0 S [((a0 : Nat) : Int), a1] = some (x, S1)) : GM l Z L yX10_isTrue cX10_isTrue 2 (some .boolean) [] d 0 0 [.ref (L a0), .int (J a1)] S (fun v S' => v = some (.int (J x)) ∧ S1 = S') (fun _ _ => False) := GM.of (by decide) (Nat.le_of_ble_eq_true rfl) ((g_X10_isTrue n) _ _ _ _ _ _ H)

def P_X10_firstOfMap_0 (l : Launch) (Z : XZ) (L : Nat → Nat) (n : Nat) : Prop := ∀ (d : Nat) (S : GS) (a0 : Nat) (a1 : Int) (x : Int) (S1 : GS), f_X10_firstOfMap n d 0 S [((a0 : Nat) : Int), a1] = some (x, S1) → GA l Z L yX10_firstOfMap cX10_firstOfMap 3 (some .int) [] d 0 0 (fun v S' => v = some (.int (J x)) ∧ S1 = S') (fun _ _ => False) 0 (gl [(0, .ref (L a0)), (1, .int (J a1))]) [] S 0 0
def P_X10_firstOfMap_25 (l : Launch) (Z : XZ) (L : Nat → Nat) (n : Nat) : Prop := ∀ (d : Nat) (S : GS) (a0 : Nat) (a1 : Int) (s0 : Int) (x : Int) (S1 : GS), f_X10_firstOfMap n d 25 S [((a0 : Nat) : Int), a1, s0] = some (x, S1) → GA l Z L yX10_firstOfMap cX10_firstOfMap 3 (some .int) [] d 0 0 (fun v S' => v = some (.int (J x)) ∧ S1 = S') (fun _ _ => False) 25 (gl [(0, .ref (L a0)), (1, .int (J a1))]) [.int (J s0)] S 0 0
theorem i_X10_firstOfMap {l : Launch} {Z : XZ} {L : Nat → Nat} {n : Nat} (ih : P_X10_firstOfMap_0 l Z L n) {d : Nat} {S : GS} {a0 : Nat} {a1 : Int} {x : Int} {S1 : GS} (H : f_X10_firstOfMap n d 0 S [((a0 : Nat) : Int), a1] = some (x, S1)) : GM l Z L yX10_firstOfMap cX10_firstOfMap 3 (some .int) [] d 0 0 [.ref (L a0), .int (J a1)] S (fun v S' => v = some (.int (J x)) ∧ S1 = S') (fun _ _ => False) := GM.of (by decide) (Nat.le_of_ble_eq_true rfl) (ih _ _ _ _ _ _ H)
set_option maxHeartbeats 4000000 in
set_option maxRecDepth 20000 in
theorem t_X10_firstOfMap_0 {l : Launch} {Z : XZ} {L : Nat → Nat} (n : Nat) (ih_X10_firstOfMap_0 : P_X10_firstOfMap_0 l Z L n) (ih_X10_firstOfMap_25 : P_X10_firstOfMap_25 l Z L n) : P_X10_firstOfMap_0 l Z L (n + 1) := by
  intro d S a0 a1 x S1 H
  have H : b_X10_firstOfMap_0 n d (f_X10_firstOfMap n) S a0 a1 = some (x, S1) := H
  unfold b_X10_firstOfMap_0 at H
  refine GA.iload_n dX10_firstOfMap_0 rfl ?_
  obtain ⟨hg1, H⟩ := gg_e H
  refine GV.if_lt (tgt := 24) hg1 dX10_firstOfMap_1 (by decide) (fun c2 => ?_) (fun c2 => ?_)
  · have H := it_t H c2
    refine GA.iconst dX10_firstOfMap_24 ?_
    refine GA.locals [(0, .ref (L a0)), (1, .int (J a1))] ⟨rfl, rfl, trivial⟩ ?_
    exact ih_X10_firstOfMap_25 _ _ (a0) (a1) (0) _ _ H
  · have H := it_f H c2
    refine GA.iload_n dX10_firstOfMap_4 rfl ?_
    refine GA.aload_n dX10_firstOfMap_5 rfl ?_
    obtain ⟨hg3, H⟩ := gg_e H
    obtain ⟨x4, hx5, H⟩ := gv_e H
    refine GV.getI hx5 xf_X10_34 dX10_firstOfMap_6 (gsT hg3) (by omega) rfl ?_
    refine GA.iconst dX10_firstOfMap_9 ?_
    obtain ⟨x6, hx7, H⟩ := gv_e H
    refine GV.isub hx7 dX10_firstOfMap_10 ?_
    obtain ⟨hg8, H⟩ := gg_e H
    refine GV.icmp_ge (tgt := 24) hg1 hg8 dX10_firstOfMap_11 (by decide) (fun c9 => ?_) (fun c9 => ?_)
    · have H := it_t H c9
      refine GA.iconst dX10_firstOfMap_24 ?_
      refine GA.locals [(0, .ref (L a0)), (1, .int (J a1))] ⟨rfl, rfl, trivial⟩ ?_
      exact ih_X10_firstOfMap_25 _ _ (a0) (a1) (0) _ _ H
    · have H := it_f H c9
      refine GA.iload_n dX10_firstOfMap_14 rfl ?_
      refine GA.bipush dX10_firstOfMap_15 rfl ?_
      refine GV.icmp_ge (tgt := 24) hg1 (by decide) dX10_firstOfMap_17 (by decide) (fun c10 => ?_) (fun c10 => ?_)
      · have H := it_t H c10
        refine GA.iconst dX10_firstOfMap_24 ?_
        refine GA.locals [(0, .ref (L a0)), (1, .int (J a1))] ⟨rfl, rfl, trivial⟩ ?_
        exact ih_X10_firstOfMap_25 _ _ (a0) (a1) (0) _ _ H
      · have H := it_f H c10
        refine GA.iconst dX10_firstOfMap_20 ?_
        refine GA.goto (tgt := 25) dX10_firstOfMap_21 (by decide) ?_
        refine GA.locals [(0, .ref (L a0)), (1, .int (J a1))] ⟨rfl, rfl, trivial⟩ ?_
        exact ih_X10_firstOfMap_25 _ _ (a0) (a1) (1) _ _ H
set_option maxHeartbeats 4000000 in
set_option maxRecDepth 20000 in
theorem t_X10_firstOfMap_25 {l : Launch} {Z : XZ} {L : Nat → Nat} (n : Nat) (ih_X10_firstOfMap_0 : P_X10_firstOfMap_0 l Z L n) (ih_X10_firstOfMap_25 : P_X10_firstOfMap_25 l Z L n) : P_X10_firstOfMap_25 l Z L (n + 1) := by
  intro d S a0 a1 s0 x S1 H
  have H : b_X10_firstOfMap_25 n d (f_X10_firstOfMap n) S a0 a1 s0 = some (x, S1) := H
  unfold b_X10_firstOfMap_25 at H
  refine GA.istore_n dX10_firstOfMap_25 (by decide) ?_
  refine GA.iload_n dX10_firstOfMap_26 rfl ?_
  obtain ⟨hg1, H⟩ := gg_e H
  refine GV.if_eq (tgt := 56) hg1 dX10_firstOfMap_27 (by decide) (fun c2 => ?_) (fun c2 => ?_)
  · have H := it_t H c2
    refine GA.iconst dX10_firstOfMap_56 ?_
    cases H
    exact GA.iret rfl dX10_firstOfMap_57 (by omega) (by omega) ⟨rfl, rfl⟩
  · have H := it_f H c2
    refine GA.aload_n dX10_firstOfMap_30 rfl ?_
    obtain ⟨hg3, H⟩ := gg_e H
    refine GA.get xf_X10_9 dX10_firstOfMap_31 (gsT hg3) (by omega) rfl ?_
    refine GA.iload_n dX10_firstOfMap_34 rfl ?_
    obtain ⟨hg4, H⟩ := gg_e H
    obtain ⟨x5, hx6, H⟩ := gv_e H
    refine GV.iald hg4 hx6 dX10_firstOfMap_35 (gsT1 hg3) (by omega) ?_
    refine GA.iconst dX10_firstOfMap_36 ?_
    obtain ⟨hg7, H⟩ := gg_e H
    refine GV.icmp_ne (tgt := 56) hg7 (by decide) dX10_firstOfMap_37 (by decide) (fun c8 => ?_) (fun c8 => ?_)
    · have H := it_t H c8
      refine GA.iconst dX10_firstOfMap_56 ?_
      cases H
      exact GA.iret rfl dX10_firstOfMap_57 (by omega) (by omega) ⟨rfl, rfl⟩
    · have H := it_f H c8
      refine GA.aload_n dX10_firstOfMap_40 rfl ?_
      refine GA.get xf_X10_15 dX10_firstOfMap_41 (gsT hg3) (by omega) rfl ?_
      refine GA.iload_n dX10_firstOfMap_44 rfl ?_
      obtain ⟨x9, hx10, H⟩ := gv_e H
      refine GV.iald hg4 hx10 dX10_firstOfMap_45 (gsT2 hg3) (by omega) ?_
      refine GA.iconst dX10_firstOfMap_46 ?_
      obtain ⟨hg11, H⟩ := gg_e H
      refine GV.icmp_le (tgt := 56) hg11 (by decide) dX10_firstOfMap_47 (by decide) (fun c12 => ?_) (fun c12 => ?_)
      · have H := it_t H c12
        refine GA.iconst dX10_firstOfMap_56 ?_
        cases H
        exact GA.iret rfl dX10_firstOfMap_57 (by omega) (by omega) ⟨rfl, rfl⟩
      · have H := it_f H c12
        refine GA.iload_n dX10_firstOfMap_50 rfl ?_
        refine GA.iconst dX10_firstOfMap_51 ?_
        obtain ⟨x13, hx14, H⟩ := gv_e H
        refine GV.iadd hx14 dX10_firstOfMap_52 ?_
        refine GA.goto (tgt := 57) dX10_firstOfMap_53 (by decide) ?_
        cases H
        exact GA.iret rfl dX10_firstOfMap_57 (by omega) (by omega) ⟨rfl, rfl⟩
theorem g_X10_firstOfMap {l : Launch} {Z : XZ} {L : Nat → Nat} : ∀ n, P_X10_firstOfMap_0 l Z L n ∧ P_X10_firstOfMap_25 l Z L n
  | 0 => ⟨fun _ _ _ _ _ _ H => no_e H, fun _ _ _ _ _ _ _ H => no_e H⟩
  | n + 1 => have ⟨h0, h1⟩ := g_X10_firstOfMap (l := l) (Z := Z) (L := L) n
    ⟨t_X10_firstOfMap_0 n h0 h1, t_X10_firstOfMap_25 n h0 h1⟩
theorem m_X10_firstOfMap {l : Launch} {Z : XZ} {L : Nat → Nat} {n d : Nat} {S : GS} {a0 : Nat} {a1 : Int} {x : Int} {S1 : GS} (H : f_X10_firstOfMap n d 0 S [((a0 : Nat) : Int), a1] = some (x, S1)) : GM l Z L yX10_firstOfMap cX10_firstOfMap 3 (some .int) [] d 0 0 [.ref (L a0), .int (J a1)] S (fun v S' => v = some (.int (J x)) ∧ S1 = S') (fun _ _ => False) := GM.of (by decide) (Nat.le_of_ble_eq_true rfl) ((g_X10_firstOfMap n).1 _ _ _ _ _ _ H)

def P_X10_keyLength_0 (l : Launch) (Z : XZ) (L : Nat → Nat) (n : Nat) : Prop := ∀ (d : Nat) (S : GS) (a0 : Nat) (a1 : Int) (x : Int) (S1 : GS), f_X10_keyLength n d 0 S [((a0 : Nat) : Int), a1] = some (x, S1) → GA l Z L yX10_keyLength cX10_keyLength 2 (some .int) [] d 0 0 (fun v S' => v = some (.int (J x)) ∧ S1 = S') (fun _ _ => False) 0 (gl [(0, .ref (L a0)), (1, .int (J a1))]) [] S 0 0
theorem i_X10_keyLength {l : Launch} {Z : XZ} {L : Nat → Nat} {n : Nat} (ih : P_X10_keyLength_0 l Z L n) {d : Nat} {S : GS} {a0 : Nat} {a1 : Int} {x : Int} {S1 : GS} (H : f_X10_keyLength n d 0 S [((a0 : Nat) : Int), a1] = some (x, S1)) : GM l Z L yX10_keyLength cX10_keyLength 2 (some .int) [] d 0 0 [.ref (L a0), .int (J a1)] S (fun v S' => v = some (.int (J x)) ∧ S1 = S') (fun _ _ => False) := GM.of (by decide) (Nat.le_of_ble_eq_true rfl) (ih _ _ _ _ _ _ H)
set_option maxHeartbeats 4000000 in
set_option maxRecDepth 20000 in
theorem t_X10_keyLength_0 {l : Launch} {Z : XZ} {L : Nat → Nat} (n : Nat) (ih_X10_keyLength_0 : P_X10_keyLength_0 l Z L n) : P_X10_keyLength_0 l Z L (n + 1) := by
  intro d S a0 a1 x S1 H
  have H : b_X10_keyLength_0 n d (f_X10_keyLength n) S a0 a1 = some (x, S1) := H
  unfold b_X10_keyLength_0 at H
  refine GA.iload_n dX10_keyLength_0 rfl ?_
  obtain ⟨hg1, H⟩ := gg_e H
  refine GV.if_lt (tgt := 27) hg1 dX10_keyLength_1 (by decide) (fun c2 => ?_) (fun c2 => ?_)
  · have H := it_t H c2
    refine GA.iconst dX10_keyLength_27 ?_
    cases H
    exact GA.iret rfl dX10_keyLength_28 (by omega) (by omega) ⟨rfl, rfl⟩
  · have H := it_f H c2
    refine GA.iload_n dX10_keyLength_4 rfl ?_
    refine GA.aload_n dX10_keyLength_5 rfl ?_
    obtain ⟨hg3, H⟩ := gg_e H
    obtain ⟨x4, hx5, H⟩ := gv_e H
    refine GV.getI hx5 xf_X10_34 dX10_keyLength_6 (gsT hg3) (by omega) rfl ?_
    obtain ⟨hg6, H⟩ := gg_e H
    refine GV.icmp_ge (tgt := 27) hg1 hg6 dX10_keyLength_9 (by decide) (fun c7 => ?_) (fun c7 => ?_)
    · have H := it_t H c7
      refine GA.iconst dX10_keyLength_27 ?_
      cases H
      exact GA.iret rfl dX10_keyLength_28 (by omega) (by omega) ⟨rfl, rfl⟩
    · have H := it_f H c7
      refine GA.iload_n dX10_keyLength_12 rfl ?_
      refine GA.bipush dX10_keyLength_13 rfl ?_
      refine GV.icmp_ge (tgt := 27) hg1 (by decide) dX10_keyLength_15 (by decide) (fun c8 => ?_) (fun c8 => ?_)
      · have H := it_t H c8
        refine GA.iconst dX10_keyLength_27 ?_
        cases H
        exact GA.iret rfl dX10_keyLength_28 (by omega) (by omega) ⟨rfl, rfl⟩
      · have H := it_f H c8
        refine GA.aload_n dX10_keyLength_18 rfl ?_
        refine GA.get xf_X10_28 dX10_keyLength_19 (gsT hg3) (by omega) rfl ?_
        refine GA.iload_n dX10_keyLength_22 rfl ?_
        obtain ⟨hg9, H⟩ := gg_e H
        obtain ⟨x10, hx11, H⟩ := gv_e H
        refine GV.iald hg9 hx11 dX10_keyLength_23 (gsT6 hg3) (by omega) ?_
        refine GA.goto (tgt := 28) dX10_keyLength_24 (by decide) ?_
        cases H
        exact GA.iret rfl dX10_keyLength_28 (by omega) (by omega) ⟨rfl, rfl⟩
theorem g_X10_keyLength {l : Launch} {Z : XZ} {L : Nat → Nat} : ∀ n, P_X10_keyLength_0 l Z L n
  | 0 => fun _ _ _ _ _ _ H => no_e H
  | n + 1 => t_X10_keyLength_0 n (g_X10_keyLength n)
theorem m_X10_keyLength {l : Launch} {Z : XZ} {L : Nat → Nat} {n d : Nat} {S : GS} {a0 : Nat} {a1 : Int} {x : Int} {S1 : GS} (H : f_X10_keyLength n d 0 S [((a0 : Nat) : Int), a1] = some (x, S1)) : GM l Z L yX10_keyLength cX10_keyLength 2 (some .int) [] d 0 0 [.ref (L a0), .int (J a1)] S (fun v S' => v = some (.int (J x)) ∧ S1 = S') (fun _ _ => False) := GM.of (by decide) (Nat.le_of_ble_eq_true rfl) ((g_X10_keyLength n) _ _ _ _ _ _ H)

def P_X10_keySign_0 (l : Launch) (Z : XZ) (L : Nat → Nat) (n : Nat) : Prop := ∀ (d : Nat) (S : GS) (a0 : Nat) (a1 : Int) (a2 : Int) (x : Int) (S1 : GS), f_X10_keySign n d 0 S [((a0 : Nat) : Int), a1, a2] = some (x, S1) → GA l Z L yX10_keySign cX10_keySign 4 (some .int) [] d 0 0 (fun v S' => v = some (.int (J x)) ∧ S1 = S') (fun _ _ => False) 0 (gl [(0, .ref (L a0)), (1, .int (J a1)), (2, .int (J a2))]) [] S 0 0
def P_X10_keySign_33 (l : Launch) (Z : XZ) (L : Nat → Nat) (n : Nat) : Prop := ∀ (d : Nat) (S : GS) (a0 : Nat) (a1 : Int) (a2 : Int) (s0 : Int) (x : Int) (S1 : GS), f_X10_keySign n d 33 S [((a0 : Nat) : Int), a1, a2, s0] = some (x, S1) → GA l Z L yX10_keySign cX10_keySign 4 (some .int) [] d 0 0 (fun v S' => v = some (.int (J x)) ∧ S1 = S') (fun _ _ => False) 33 (gl [(0, .ref (L a0)), (1, .int (J a1)), (2, .int (J a2))]) [.int (J s0)] S 0 0
theorem i_X10_keySign {l : Launch} {Z : XZ} {L : Nat → Nat} {n : Nat} (ih : P_X10_keySign_0 l Z L n) {d : Nat} {S : GS} {a0 : Nat} {a1 : Int} {a2 : Int} {x : Int} {S1 : GS} (H : f_X10_keySign n d 0 S [((a0 : Nat) : Int), a1, a2] = some (x, S1)) : GM l Z L yX10_keySign cX10_keySign 4 (some .int) [] d 0 0 [.ref (L a0), .int (J a1), .int (J a2)] S (fun v S' => v = some (.int (J x)) ∧ S1 = S') (fun _ _ => False) := GM.of (by decide) (Nat.le_of_ble_eq_true rfl) (ih _ _ _ _ _ _ _ H)
set_option maxHeartbeats 4000000 in
set_option maxRecDepth 20000 in
theorem t_X10_keySign_0 {l : Launch} {Z : XZ} {L : Nat → Nat} (n : Nat) (ih_X10_keySign_0 : P_X10_keySign_0 l Z L n) (ih_X10_keySign_33 : P_X10_keySign_33 l Z L n) : P_X10_keySign_0 l Z L (n + 1) := by
  intro d S a0 a1 a2 x S1 H
  have H : b_X10_keySign_0 n d (f_X10_keySign n) S a0 a1 a2 = some (x, S1) := H
  unfold b_X10_keySign_0 at H
  refine GA.iload_n dX10_keySign_0 rfl ?_
  obtain ⟨hg1, H⟩ := gg_e H
  refine GV.if_lt (tgt := 32) hg1 dX10_keySign_1 (by decide) (fun c2 => ?_) (fun c2 => ?_)
  · have H := it_t H c2
    refine GA.iconst dX10_keySign_32 ?_
    refine GA.locals [(0, .ref (L a0)), (1, .int (J a1)), (2, .int (J a2))] ⟨rfl, rfl, rfl, trivial⟩ ?_
    exact ih_X10_keySign_33 _ _ (a0) (a1) (a2) (0) _ _ H
  · have H := it_f H c2
    refine GA.iload_n dX10_keySign_4 rfl ?_
    refine GA.aload_n dX10_keySign_5 rfl ?_
    obtain ⟨hg3, H⟩ := gg_e H
    obtain ⟨x4, hx5, H⟩ := gv_e H
    refine GV.getI hx5 xf_X10_34 dX10_keySign_6 (gsT hg3) (by omega) rfl ?_
    obtain ⟨hg6, H⟩ := gg_e H
    refine GV.icmp_ge (tgt := 32) hg1 hg6 dX10_keySign_9 (by decide) (fun c7 => ?_) (fun c7 => ?_)
    · have H := it_t H c7
      refine GA.iconst dX10_keySign_32 ?_
      refine GA.locals [(0, .ref (L a0)), (1, .int (J a1)), (2, .int (J a2))] ⟨rfl, rfl, rfl, trivial⟩ ?_
      exact ih_X10_keySign_33 _ _ (a0) (a1) (a2) (0) _ _ H
    · have H := it_f H c7
      refine GA.iload_n dX10_keySign_12 rfl ?_
      refine GA.bipush dX10_keySign_13 rfl ?_
      refine GV.icmp_ge (tgt := 32) hg1 (by decide) dX10_keySign_15 (by decide) (fun c8 => ?_) (fun c8 => ?_)
      · have H := it_t H c8
        refine GA.iconst dX10_keySign_32 ?_
        refine GA.locals [(0, .ref (L a0)), (1, .int (J a1)), (2, .int (J a2))] ⟨rfl, rfl, rfl, trivial⟩ ?_
        exact ih_X10_keySign_33 _ _ (a0) (a1) (a2) (0) _ _ H
      · have H := it_f H c8
        refine GA.iload_n dX10_keySign_18 rfl ?_
        obtain ⟨hg9, H⟩ := gg_e H
        refine GV.if_lt (tgt := 32) hg9 dX10_keySign_19 (by decide) (fun c10 => ?_) (fun c10 => ?_)
        · have H := it_t H c10
          refine GA.iconst dX10_keySign_32 ?_
          refine GA.locals [(0, .ref (L a0)), (1, .int (J a1)), (2, .int (J a2))] ⟨rfl, rfl, rfl, trivial⟩ ?_
          exact ih_X10_keySign_33 _ _ (a0) (a1) (a2) (0) _ _ H
        · have H := it_f H c10
          refine GA.iload_n dX10_keySign_22 rfl ?_
          refine GA.bipush dX10_keySign_23 rfl ?_
          refine GV.icmp_ge (tgt := 32) hg9 (by decide) dX10_keySign_25 (by decide) (fun c11 => ?_) (fun c11 => ?_)
          · have H := it_t H c11
            refine GA.iconst dX10_keySign_32 ?_
            refine GA.locals [(0, .ref (L a0)), (1, .int (J a1)), (2, .int (J a2))] ⟨rfl, rfl, rfl, trivial⟩ ?_
            exact ih_X10_keySign_33 _ _ (a0) (a1) (a2) (0) _ _ H
          · have H := it_f H c11
            refine GA.iconst dX10_keySign_28 ?_
            refine GA.goto (tgt := 33) dX10_keySign_29 (by decide) ?_
            refine GA.locals [(0, .ref (L a0)), (1, .int (J a1)), (2, .int (J a2))] ⟨rfl, rfl, rfl, trivial⟩ ?_
            exact ih_X10_keySign_33 _ _ (a0) (a1) (a2) (1) _ _ H
set_option maxHeartbeats 4000000 in
set_option maxRecDepth 20000 in
theorem t_X10_keySign_33 {l : Launch} {Z : XZ} {L : Nat → Nat} (n : Nat) (ih_X10_keySign_0 : P_X10_keySign_0 l Z L n) (ih_X10_keySign_33 : P_X10_keySign_33 l Z L n) : P_X10_keySign_33 l Z L (n + 1) := by
  intro d S a0 a1 a2 s0 x S1 H
  have H : b_X10_keySign_33 n d (f_X10_keySign n) S a0 a1 a2 s0 = some (x, S1) := H
  unfold b_X10_keySign_33 at H
  refine GA.istore_n dX10_keySign_33 (by decide) ?_
  refine GA.iload_n dX10_keySign_34 rfl ?_
  obtain ⟨hg1, H⟩ := gg_e H
  refine GV.if_eq (tgt := 62) hg1 dX10_keySign_35 (by decide) (fun c2 => ?_) (fun c2 => ?_)
  · have H := it_t H c2
    refine GA.iconst dX10_keySign_62 ?_
    cases H
    exact GA.iret rfl dX10_keySign_63 (by omega) (by omega) ⟨rfl, rfl⟩
  · have H := it_f H c2
    refine GA.iload_n dX10_keySign_38 rfl ?_
    refine GA.aload_n dX10_keySign_39 rfl ?_
    obtain ⟨hg3, H⟩ := gg_e H
    refine GA.get xf_X10_28 dX10_keySign_40 (gsT hg3) (by omega) rfl ?_
    refine GA.iload_n dX10_keySign_43 rfl ?_
    obtain ⟨hg4, H⟩ := gg_e H
    obtain ⟨x5, hx6, H⟩ := gv_e H
    refine GV.iald hg4 hx6 dX10_keySign_44 (gsT6 hg3) (by omega) ?_
    obtain ⟨hg7, H⟩ := gg_e H
    obtain ⟨hg8, H⟩ := gg_e H
    refine GV.icmp_ge (tgt := 62) hg7 hg8 dX10_keySign_45 (by decide) (fun c9 => ?_) (fun c9 => ?_)
    · have H := it_t H c9
      refine GA.iconst dX10_keySign_62 ?_
      cases H
      exact GA.iret rfl dX10_keySign_63 (by omega) (by omega) ⟨rfl, rfl⟩
    · have H := it_f H c9
      refine GA.aload_n dX10_keySign_48 rfl ?_
      refine GA.get xf_X10_31 dX10_keySign_49 (gsT hg3) (by omega) rfl ?_
      refine GA.iload_n dX10_keySign_52 rfl ?_
      refine GA.bipush dX10_keySign_53 rfl ?_
      obtain ⟨x10, hx11, H⟩ := gv_e H
      refine GV.imul hx11 dX10_keySign_55 ?_
      refine GA.iload_n dX10_keySign_56 rfl ?_
      obtain ⟨x12, hx13, H⟩ := gv_e H
      refine GV.iadd hx13 dX10_keySign_57 ?_
      obtain ⟨hg14, H⟩ := gg_e H
      obtain ⟨x15, hx16, H⟩ := gv_e H
      refine GV.cald hg14 hx16 dX10_keySign_58 (gsT7 hg3) (by omega) ?_
      refine GA.goto (tgt := 63) dX10_keySign_59 (by decide) ?_
      cases H
      exact GA.iret rfl dX10_keySign_63 (by omega) (by omega) ⟨rfl, rfl⟩
theorem g_X10_keySign {l : Launch} {Z : XZ} {L : Nat → Nat} : ∀ n, P_X10_keySign_0 l Z L n ∧ P_X10_keySign_33 l Z L n
  | 0 => ⟨fun _ _ _ _ _ _ _ H => no_e H, fun _ _ _ _ _ _ _ _ H => no_e H⟩
  | n + 1 => have ⟨h0, h1⟩ := g_X10_keySign (l := l) (Z := Z) (L := L) n
    ⟨t_X10_keySign_0 n h0 h1, t_X10_keySign_33 n h0 h1⟩
theorem m_X10_keySign {l : Launch} {Z : XZ} {L : Nat → Nat} {n d : Nat} {S : GS} {a0 : Nat} {a1 : Int} {a2 : Int} {x : Int} {S1 : GS} (H : f_X10_keySign n d 0 S [((a0 : Nat) : Int), a1, a2] = some (x, S1)) : GM l Z L yX10_keySign cX10_keySign 4 (some .int) [] d 0 0 [.ref (L a0), .int (J a1), .int (J a2)] S (fun v S' => v = some (.int (J x)) ∧ S1 = S') (fun _ _ => False) := GM.of (by decide) (Nat.le_of_ble_eq_true rfl) ((g_X10_keySign n).1 _ _ _ _ _ _ _ H)

def P_X10_hasKeyWord_0 (l : Launch) (Z : XZ) (L : Nat → Nat) (n : Nat) : Prop := ∀ (d : Nat) (S : GS) (a0 : Nat) (a1 : Int) (a2 : Nat) (x : Int) (S1 : GS), f_X10_hasKeyWord n d 0 S [((a0 : Nat) : Int), a1, ((a2 : Nat) : Int)] = some (x, S1) → GA l Z L yX10_hasKeyWord cX10_hasKeyWord 5 (some .boolean) [] d 0 0 (fun v S' => v = some (.int (J x)) ∧ S1 = S') (fun _ _ => False) 0 (gl [(0, .ref (L a0)), (1, .int (J a1)), (2, .ref (Z.2.1 a2))]) [] S 0 0
def P_X10_hasKeyWord_21 (l : Launch) (Z : XZ) (L : Nat → Nat) (n : Nat) : Prop := ∀ (d : Nat) (S : GS) (a0 : Nat) (a1 : Int) (a2 : Nat) (a3 : Int) (a4 : Int) (x : Int) (S1 : GS), f_X10_hasKeyWord n d 21 S [((a0 : Nat) : Int), a1, ((a2 : Nat) : Int), a3, a4] = some (x, S1) → GA l Z L yX10_hasKeyWord cX10_hasKeyWord 5 (some .boolean) [] d 0 0 (fun v S' => v = some (.int (J x)) ∧ S1 = S') (fun _ _ => False) 21 (gl [(0, .ref (L a0)), (1, .int (J a1)), (2, .ref (Z.2.1 a2)), (3, .int (J a3)), (4, .int (J a4))]) [] S 0 0
theorem i_X10_hasKeyWord {l : Launch} {Z : XZ} {L : Nat → Nat} {n : Nat} (ih : P_X10_hasKeyWord_0 l Z L n) {d : Nat} {S : GS} {a0 : Nat} {a1 : Int} {a2 : Nat} {x : Int} {S1 : GS} (H : f_X10_hasKeyWord n d 0 S [((a0 : Nat) : Int), a1, ((a2 : Nat) : Int)] = some (x, S1)) : GM l Z L yX10_hasKeyWord cX10_hasKeyWord 5 (some .boolean) [] d 0 0 [.ref (L a0), .int (J a1), .ref (Z.2.1 a2)] S (fun v S' => v = some (.int (J x)) ∧ S1 = S') (fun _ _ => False) := GM.of (by decide) (Nat.le_of_ble_eq_true rfl) (ih _ _ _ _ _ _ _ H)
set_option maxHeartbeats 4000000 in
set_option maxRecDepth 20000 in
theorem t_X10_hasKeyWord_0 {l : Launch} {Z : XZ} {L : Nat → Nat} (n : Nat) (ih_X10_hasKeyWord_0 : P_X10_hasKeyWord_0 l Z L n) (ih_X10_hasKeyWord_21 : P_X10_hasKeyWord_21 l Z L n) : P_X10_hasKeyWord_0 l Z L (n + 1) := by
  intro d S a0 a1 a2 x S1 H
  have H : b_X10_hasKeyWord_0 n d (f_X10_hasKeyWord n) S a0 a1 a2 = some (x, S1) := H
  unfold b_X10_hasKeyWord_0 at H
  refine GA.aload_n dX10_hasKeyWord_0 rfl ?_
  refine GA.iload_n dX10_hasKeyWord_1 rfl ?_
  obtain ⟨hg1, H⟩ := gg_e H
  obtain ⟨hg2, H⟩ := gg_e H
  obtain ⟨x3, S_4, hc5, H⟩ := gc_e H
  refine GA.callV (m_X10_keyLength hc5) xs_X10_117 dX10_hasKeyWord_2 (gsT hg2) (by omega) rfl rfl (by omega) (by decide) rfl (Nat.le_of_ble_eq_true rfl) (by omega) (by omega) rfl (fun E S9 hx => hx.elim) (fun v S9 hq => ?_)
  obtain ⟨rfl, rfl⟩ := hq
  refine GA.aload_n dX10_hasKeyWord_5 rfl ?_
  obtain ⟨hg6, H⟩ := gg_e H
  obtain ⟨hg7, H⟩ := gg_e H
  obtain ⟨x8, hx9, H⟩ := gv_e H
  refine GV.strLen hg6 hx9 xs_X10_149 dX10_hasKeyWord_6 hg7 (Nat.le_of_ble_eq_true rfl) (by omega) (by omega) ?_
  obtain ⟨hg10, H⟩ := gg_e H
  obtain ⟨hg11, H⟩ := gg_e H
  refine GV.icmp_ne (tgt := 16) hg10 hg11 dX10_hasKeyWord_9 (by decide) (fun c12 => ?_) (fun c12 => ?_)
  · have H := it_t H c12
    refine GA.iconst dX10_hasKeyWord_16 ?_
    refine GA.istore_n dX10_hasKeyWord_17 (by decide) ?_
    refine GA.iconst dX10_hasKeyWord_18 ?_
    refine GA.istore dX10_hasKeyWord_19 (by decide) ?_
    refine GA.locals [(0, .ref (L a0)), (1, .int (J a1)), (2, .ref (Z.2.1 a2)), (3, .int (J 0)), (4, .int (J 0))] ⟨rfl, rfl, rfl, rfl, rfl, trivial⟩ ?_
    exact ih_X10_hasKeyWord_21 _ _ (a0) (a1) (a2) (0) (0) _ _ H
  · have H := it_f H c12
    refine GA.iconst dX10_hasKeyWord_12 ?_
    refine GA.goto (tgt := 17) dX10_hasKeyWord_13 (by decide) ?_
    refine GA.istore_n dX10_hasKeyWord_17 (by decide) ?_
    refine GA.iconst dX10_hasKeyWord_18 ?_
    refine GA.istore dX10_hasKeyWord_19 (by decide) ?_
    refine GA.locals [(0, .ref (L a0)), (1, .int (J a1)), (2, .ref (Z.2.1 a2)), (3, .int (J 1)), (4, .int (J 0))] ⟨rfl, rfl, rfl, rfl, rfl, trivial⟩ ?_
    exact ih_X10_hasKeyWord_21 _ _ (a0) (a1) (a2) (1) (0) _ _ H
set_option maxHeartbeats 4000000 in
set_option maxRecDepth 20000 in
theorem t_X10_hasKeyWord_21 {l : Launch} {Z : XZ} {L : Nat → Nat} (n : Nat) (ih_X10_hasKeyWord_0 : P_X10_hasKeyWord_0 l Z L n) (ih_X10_hasKeyWord_21 : P_X10_hasKeyWord_21 l Z L n) : P_X10_hasKeyWord_21 l Z L (n + 1) := by
  intro d S a0 a1 a2 a3 a4 x S1 H
  have H : b_X10_hasKeyWord_21 n d (f_X10_hasKeyWord n) S a0 a1 a2 a3 a4 = some (x, S1) := H
  unfold b_X10_hasKeyWord_21 at H
  refine GA.iload dX10_hasKeyWord_21 rfl ?_
  refine GA.aload_n dX10_hasKeyWord_23 rfl ?_
  obtain ⟨hg1, H⟩ := gg_e H
  obtain ⟨hg2, H⟩ := gg_e H
  obtain ⟨x3, hx4, H⟩ := gv_e H
  refine GV.strLen hg1 hx4 xs_X10_149 dX10_hasKeyWord_24 hg2 (Nat.le_of_ble_eq_true rfl) (by omega) (by omega) ?_
  obtain ⟨hg5, H⟩ := gg_e H
  obtain ⟨hg6, H⟩ := gg_e H
  refine GV.icmp_ge (tgt := 62) hg5 hg6 dX10_hasKeyWord_27 (by decide) (fun c7 => ?_) (fun c7 => ?_)
  · have H := it_t H c7
    refine GA.iload_n dX10_hasKeyWord_62 rfl ?_
    obtain ⟨hg8, H⟩ := gg_e H
    cases H
    exact GV.zret hg8 rfl dX10_hasKeyWord_63 (by omega) (by omega) ⟨rfl, rfl⟩
  · have H := it_f H c7
    refine GA.iload_n dX10_hasKeyWord_30 rfl ?_
    obtain ⟨hg9, H⟩ := gg_e H
    refine GV.if_eq (tgt := 62) hg9 dX10_hasKeyWord_31 (by decide) (fun c10 => ?_) (fun c10 => ?_)
    · have H := it_t H c10
      refine GA.iload_n dX10_hasKeyWord_62 rfl ?_
      obtain ⟨hg11, H⟩ := gg_e H
      cases H
      exact GV.zret hg11 rfl dX10_hasKeyWord_63 (by omega) (by omega) ⟨rfl, rfl⟩
    · have H := it_f H c10
      refine GA.aload_n dX10_hasKeyWord_34 rfl ?_
      refine GA.iload_n dX10_hasKeyWord_35 rfl ?_
      refine GA.iload dX10_hasKeyWord_36 rfl ?_
      obtain ⟨hg12, H⟩ := gg_e H
      obtain ⟨hg13, H⟩ := gg_e H
      obtain ⟨x14, S_15, hc16, H⟩ := gc_e H
      refine GA.callV (m_X10_keySign hc16) xs_X10_162 dX10_hasKeyWord_38 (gsT hg13) (by omega) rfl rfl (by omega) (by decide) rfl (Nat.le_of_ble_eq_true rfl) (by omega) (by omega) rfl (fun E S9 hx => hx.elim) (fun v S9 hq => ?_)
      obtain ⟨rfl, rfl⟩ := hq
      refine GA.aload_n dX10_hasKeyWord_41 rfl ?_
      refine GA.iload dX10_hasKeyWord_42 rfl ?_
      obtain ⟨hg17, H⟩ := gg_e H
      obtain ⟨hg18, H⟩ := gg_e H
      obtain ⟨x19, hx20, H⟩ := gv_e H
      refine GV.strChar hg1 hg18 hx20 xs_X10_152 dX10_hasKeyWord_44 hg17 (Nat.le_of_ble_eq_true rfl) (by omega) (by omega) ?_
      obtain ⟨hg21, H⟩ := gg_e H
      obtain ⟨hg22, H⟩ := gg_e H
      refine GV.icmp_ne (tgt := 54) hg21 hg22 dX10_hasKeyWord_47 (by decide) (fun c23 => ?_) (fun c23 => ?_)
      · have H := it_t H c23
        refine GA.iconst dX10_hasKeyWord_54 ?_
        refine GA.istore_n dX10_hasKeyWord_55 (by decide) ?_
        obtain ⟨x24, hx25, H⟩ := gv_e H
        refine GV.iinc hx25 dX10_hasKeyWord_56 rfl (by decide) ?_
        refine GA.goto (tgt := 21) dX10_hasKeyWord_59 (by decide) ?_
        refine GA.locals [(0, .ref (L a0)), (1, .int (J a1)), (2, .ref (Z.2.1 a2)), (3, .int (J 0)), (4, .int (J x24))] ⟨rfl, rfl, rfl, rfl, rfl, trivial⟩ ?_
        exact ih_X10_hasKeyWord_21 _ _ (a0) (a1) (a2) (0) (x24) _ _ H
      · have H := it_f H c23
        refine GA.iconst dX10_hasKeyWord_50 ?_
        refine GA.goto (tgt := 55) dX10_hasKeyWord_51 (by decide) ?_
        refine GA.istore_n dX10_hasKeyWord_55 (by decide) ?_
        obtain ⟨x26, hx27, H⟩ := gv_e H
        refine GV.iinc hx27 dX10_hasKeyWord_56 rfl (by decide) ?_
        refine GA.goto (tgt := 21) dX10_hasKeyWord_59 (by decide) ?_
        refine GA.locals [(0, .ref (L a0)), (1, .int (J a1)), (2, .ref (Z.2.1 a2)), (3, .int (J 1)), (4, .int (J x26))] ⟨rfl, rfl, rfl, rfl, rfl, trivial⟩ ?_
        exact ih_X10_hasKeyWord_21 _ _ (a0) (a1) (a2) (1) (x26) _ _ H
theorem g_X10_hasKeyWord {l : Launch} {Z : XZ} {L : Nat → Nat} : ∀ n, P_X10_hasKeyWord_0 l Z L n ∧ P_X10_hasKeyWord_21 l Z L n
  | 0 => ⟨fun _ _ _ _ _ _ _ H => no_e H, fun _ _ _ _ _ _ _ _ _ H => no_e H⟩
  | n + 1 => have ⟨h0, h1⟩ := g_X10_hasKeyWord (l := l) (Z := Z) (L := L) n
    ⟨t_X10_hasKeyWord_0 n h0 h1, t_X10_hasKeyWord_21 n h0 h1⟩
theorem m_X10_hasKeyWord {l : Launch} {Z : XZ} {L : Nat → Nat} {n d : Nat} {S : GS} {a0 : Nat} {a1 : Int} {a2 : Nat} {x : Int} {S1 : GS} (H : f_X10_hasKeyWord n d 0 S [((a0 : Nat) : Int), a1, ((a2 : Nat) : Int)] = some (x, S1)) : GM l Z L yX10_hasKeyWord cX10_hasKeyWord 5 (some .boolean) [] d 0 0 [.ref (L a0), .int (J a1), .ref (Z.2.1 a2)] S (fun v S' => v = some (.int (J x)) ∧ S1 = S') (fun _ _ => False) := GM.of (by decide) (Nat.le_of_ble_eq_true rfl) ((g_X10_hasKeyWord n).1 _ _ _ _ _ _ _ H)

def P_X10_next_0 (l : Launch) (Z : XZ) (L : Nat → Nat) (n : Nat) : Prop := ∀ (d : Nat) (S : GS) (a0 : Nat) (a1 : Int) (a2 : Int) (x : Int) (S1 : GS), f_X10_next n d 0 S [((a0 : Nat) : Int), a1, a2] = some (x, S1) → GA l Z L yX10_next cX10_next 4 (some .int) [] d 0 0 (fun v S' => v = some (.int (J x)) ∧ S1 = S') (fun _ _ => False) 0 (gl [(0, .ref (L a0)), (1, .int (J a1)), (2, .int (J a2))]) [] S 0 0
theorem i_X10_next {l : Launch} {Z : XZ} {L : Nat → Nat} {n : Nat} (ih : P_X10_next_0 l Z L n) {d : Nat} {S : GS} {a0 : Nat} {a1 : Int} {a2 : Int} {x : Int} {S1 : GS} (H : f_X10_next n d 0 S [((a0 : Nat) : Int), a1, a2] = some (x, S1)) : GM l Z L yX10_next cX10_next 4 (some .int) [] d 0 0 [.ref (L a0), .int (J a1), .int (J a2)] S (fun v S' => v = some (.int (J x)) ∧ S1 = S') (fun _ _ => False) := GM.of (by decide) (Nat.le_of_ble_eq_true rfl) (ih _ _ _ _ _ _ _ H)
set_option maxHeartbeats 4000000 in
set_option maxRecDepth 20000 in
theorem t_X10_next_0 {l : Launch} {Z : XZ} {L : Nat → Nat} (n : Nat) (ih_X10_next_0 : P_X10_next_0 l Z L n) : P_X10_next_0 l Z L (n + 1) := by
  intro d S a0 a1 a2 x S1 H
  have H : b_X10_next_0 n d (f_X10_next n) S a0 a1 a2 = some (x, S1) := H
  unfold b_X10_next_0 at H
  refine GA.iload_n dX10_next_0 rfl ?_
  obtain ⟨hg1, H⟩ := gg_e H
  refine GV.if_lt (tgt := 23) hg1 dX10_next_1 (by decide) (fun c2 => ?_) (fun c2 => ?_)
  · have H := it_t H c2
    refine GA.iconst dX10_next_23 ?_
    cases H
    exact GA.iret rfl dX10_next_24 (by omega) (by omega) ⟨rfl, rfl⟩
  · have H := it_f H c2
    refine GA.iload_n dX10_next_4 rfl ?_
    refine GA.iload_n dX10_next_5 rfl ?_
    obtain ⟨hg3, H⟩ := gg_e H
    refine GV.icmp_le (tgt := 23) hg3 hg1 dX10_next_6 (by decide) (fun c4 => ?_) (fun c4 => ?_)
    · have H := it_t H c4
      refine GA.iconst dX10_next_23 ?_
      cases H
      exact GA.iret rfl dX10_next_24 (by omega) (by omega) ⟨rfl, rfl⟩
    · have H := it_f H c4
      refine GA.iload_n dX10_next_9 rfl ?_
      refine GA.aload_n dX10_next_10 rfl ?_
      obtain ⟨hg5, H⟩ := gg_e H
      obtain ⟨x6, hx7, H⟩ := gv_e H
      refine GV.getI hx7 xf_X10_34 dX10_next_11 (gsT hg5) (by omega) rfl ?_
      obtain ⟨hg8, H⟩ := gg_e H
      refine GV.icmp_ge (tgt := 23) hg3 hg8 dX10_next_14 (by decide) (fun c9 => ?_) (fun c9 => ?_)
      · have H := it_t H c9
        refine GA.iconst dX10_next_23 ?_
        cases H
        exact GA.iret rfl dX10_next_24 (by omega) (by omega) ⟨rfl, rfl⟩
      · have H := it_f H c9
        refine GA.iload_n dX10_next_17 rfl ?_
        refine GA.bipush dX10_next_18 rfl ?_
        refine GV.icmp_lt (tgt := 25) hg3 (by decide) dX10_next_20 (by decide) (fun c10 => ?_) (fun c10 => ?_)
        · have H := it_t H c10
          refine GA.iload_n dX10_next_25 rfl ?_
          refine GA.iconst dX10_next_26 ?_
          refine GA.aload_n dX10_next_27 rfl ?_
          refine GA.get xf_X10_15 dX10_next_28 (gsT hg5) (by omega) rfl ?_
          refine GA.iload_n dX10_next_31 rfl ?_
          obtain ⟨hg11, H⟩ := gg_e H
          obtain ⟨x12, hx13, H⟩ := gv_e H
          refine GV.iald hg11 hx13 dX10_next_32 (gsT2 hg5) (by omega) ?_
          obtain ⟨hg14, H⟩ := gg_e H
          obtain ⟨x15, hx16, H⟩ := gv_e H
          refine GV.mmax (by decide) hg14 hx16 xs_X10_46 dX10_next_33 (Nat.le_of_ble_eq_true rfl) (by omega) (by omega) ?_
          obtain ⟨x17, hx18, H⟩ := gv_e H
          refine GV.iadd hx18 dX10_next_36 ?_
          refine GA.istore_n dX10_next_37 (by decide) ?_
          refine GA.iload_n dX10_next_38 rfl ?_
          refine GA.aload_n dX10_next_39 rfl ?_
          obtain ⟨x19, hx20, H⟩ := gv_e H
          refine GV.getI hx20 xf_X10_34 dX10_next_40 (gsT hg5) (by omega) rfl ?_
          obtain ⟨hg21, H⟩ := gg_e H
          obtain ⟨hg22, H⟩ := gg_e H
          refine GV.icmp_ge (tgt := 62) hg21 hg22 dX10_next_43 (by decide) (fun c23 => ?_) (fun c23 => ?_)
          · have H := it_t H c23
            refine GA.iconst dX10_next_62 ?_
            cases H
            exact GA.iret rfl dX10_next_63 (by omega) (by omega) ⟨rfl, rfl⟩
          · have H := it_f H c23
            refine GA.iload_n dX10_next_46 rfl ?_
            refine GA.iload_n dX10_next_47 rfl ?_
            refine GA.aload_n dX10_next_48 rfl ?_
            refine GA.get xf_X10_15 dX10_next_49 (gsT hg5) (by omega) rfl ?_
            refine GA.iload_n dX10_next_52 rfl ?_
            obtain ⟨hg24, H⟩ := gg_e H
            obtain ⟨x25, hx26, H⟩ := gv_e H
            refine GV.iald hg24 hx26 dX10_next_53 (gsT2 hg5) (by omega) ?_
            obtain ⟨x27, hx28, H⟩ := gv_e H
            refine GV.iadd hx28 dX10_next_54 ?_
            obtain ⟨hg29, H⟩ := gg_e H
            refine GV.icmp_ge (tgt := 62) hg21 hg29 dX10_next_55 (by decide) (fun c30 => ?_) (fun c30 => ?_)
            · have H := it_t H c30
              refine GA.iconst dX10_next_62 ?_
              cases H
              exact GA.iret rfl dX10_next_63 (by omega) (by omega) ⟨rfl, rfl⟩
            · have H := it_f H c30
              refine GA.iload_n dX10_next_58 rfl ?_
              refine GA.goto (tgt := 63) dX10_next_59 (by decide) ?_
              cases H
              exact GA.iret rfl dX10_next_63 (by omega) (by omega) ⟨rfl, rfl⟩
        · have H := it_f H c10
          refine GA.iconst dX10_next_23 ?_
          cases H
          exact GA.iret rfl dX10_next_24 (by omega) (by omega) ⟨rfl, rfl⟩
theorem g_X10_next {l : Launch} {Z : XZ} {L : Nat → Nat} : ∀ n, P_X10_next_0 l Z L n
  | 0 => fun _ _ _ _ _ _ _ H => no_e H
  | n + 1 => t_X10_next_0 n (g_X10_next n)
theorem m_X10_next {l : Launch} {Z : XZ} {L : Nat → Nat} {n d : Nat} {S : GS} {a0 : Nat} {a1 : Int} {a2 : Int} {x : Int} {S1 : GS} (H : f_X10_next n d 0 S [((a0 : Nat) : Int), a1, a2] = some (x, S1)) : GM l Z L yX10_next cX10_next 4 (some .int) [] d 0 0 [.ref (L a0), .int (J a1), .int (J a2)] S (fun v S' => v = some (.int (J x)) ∧ S1 = S') (fun _ _ => False) := GM.of (by decide) (Nat.le_of_ble_eq_true rfl) ((g_X10_next n) _ _ _ _ _ _ _ H)

def P_X10_valueNamed_0 (l : Launch) (Z : XZ) (L : Nat → Nat) (n : Nat) : Prop := ∀ (d : Nat) (S : GS) (a0 : Nat) (a1 : Int) (a2 : Nat) (x : Int) (S1 : GS), f_X10_valueNamed n d 0 S [((a0 : Nat) : Int), a1, ((a2 : Nat) : Int)] = some (x, S1) → GA l Z L yX10_valueNamed cX10_valueNamed 5 (some .int) [] d 0 0 (fun v S' => v = some (.int (J x)) ∧ S1 = S') (fun _ _ => False) 0 (gl [(0, .ref (L a0)), (1, .int (J a1)), (2, .ref (Z.2.1 a2))]) [] S 0 0
def P_X10_valueNamed_9 (l : Launch) (Z : XZ) (L : Nat → Nat) (n : Nat) : Prop := ∀ (d : Nat) (S : GS) (a0 : Nat) (a1 : Int) (a2 : Nat) (a3 : Int) (a4 : Int) (x : Int) (S1 : GS), f_X10_valueNamed n d 9 S [((a0 : Nat) : Int), a1, ((a2 : Nat) : Int), a3, a4] = some (x, S1) → GA l Z L yX10_valueNamed cX10_valueNamed 5 (some .int) [] d 0 0 (fun v S' => v = some (.int (J x)) ∧ S1 = S') (fun _ _ => False) 9 (gl [(0, .ref (L a0)), (1, .int (J a1)), (2, .ref (Z.2.1 a2)), (3, .int (J a3)), (4, .int (J a4))]) [] S 0 0
theorem i_X10_valueNamed {l : Launch} {Z : XZ} {L : Nat → Nat} {n : Nat} (ih : P_X10_valueNamed_0 l Z L n) {d : Nat} {S : GS} {a0 : Nat} {a1 : Int} {a2 : Nat} {x : Int} {S1 : GS} (H : f_X10_valueNamed n d 0 S [((a0 : Nat) : Int), a1, ((a2 : Nat) : Int)] = some (x, S1)) : GM l Z L yX10_valueNamed cX10_valueNamed 5 (some .int) [] d 0 0 [.ref (L a0), .int (J a1), .ref (Z.2.1 a2)] S (fun v S' => v = some (.int (J x)) ∧ S1 = S') (fun _ _ => False) := GM.of (by decide) (Nat.le_of_ble_eq_true rfl) (ih _ _ _ _ _ _ _ H)
set_option maxHeartbeats 4000000 in
set_option maxRecDepth 20000 in
theorem t_X10_valueNamed_0 {l : Launch} {Z : XZ} {L : Nat → Nat} (n : Nat) (ih_X10_valueNamed_0 : P_X10_valueNamed_0 l Z L n) (ih_X10_valueNamed_9 : P_X10_valueNamed_9 l Z L n) : P_X10_valueNamed_0 l Z L (n + 1) := by
  intro d S a0 a1 a2 x S1 H
  have H : b_X10_valueNamed_0 n d (f_X10_valueNamed n) S a0 a1 a2 = some (x, S1) := H
  unfold b_X10_valueNamed_0 at H
  refine GA.aload_n dX10_valueNamed_0 rfl ?_
  refine GA.iload_n dX10_valueNamed_1 rfl ?_
  obtain ⟨hg1, H⟩ := gg_e H
  obtain ⟨hg2, H⟩ := gg_e H
  obtain ⟨x3, S_4, hc5, H⟩ := gc_e H
  refine GA.callV (m_X10_firstOfMap hc5) xs_X10_114 dX10_valueNamed_2 (gsT hg2) (by omega) rfl rfl (by omega) (by decide) rfl (Nat.le_of_ble_eq_true rfl) (by omega) (by omega) rfl (fun E S9 hx => hx.elim) (fun v S9 hq => ?_)
  obtain ⟨rfl, rfl⟩ := hq
  refine GA.istore_n dX10_valueNamed_5 (by decide) ?_
  refine GA.iconst dX10_valueNamed_6 ?_
  refine GA.istore dX10_valueNamed_7 (by decide) ?_
  refine GA.locals [(0, .ref (L a0)), (1, .int (J a1)), (2, .ref (Z.2.1 a2)), (3, .int (J x3)), (4, .int (J 0))] ⟨rfl, rfl, rfl, rfl, rfl, trivial⟩ ?_
  exact ih_X10_valueNamed_9 _ _ (a0) (a1) (a2) (x3) (0) _ _ H
set_option maxHeartbeats 4000000 in
set_option maxRecDepth 20000 in
theorem t_X10_valueNamed_9 {l : Launch} {Z : XZ} {L : Nat → Nat} (n : Nat) (ih_X10_valueNamed_0 : P_X10_valueNamed_0 l Z L n) (ih_X10_valueNamed_9 : P_X10_valueNamed_9 l Z L n) : P_X10_valueNamed_9 l Z L (n + 1) := by
  intro d S a0 a1 a2 a3 a4 x S1 H
  have H : b_X10_valueNamed_9 n d (f_X10_valueNamed n) S a0 a1 a2 a3 a4 = some (x, S1) := H
  unfold b_X10_valueNamed_9 at H
  refine GA.iload_n dX10_valueNamed_9 rfl ?_
  refine GA.iconst dX10_valueNamed_10 ?_
  obtain ⟨hg1, H⟩ := gg_e H
  refine GV.icmp_eq (tgt := 45) hg1 (by decide) dX10_valueNamed_11 (by decide) (fun c2 => ?_) (fun c2 => ?_)
  · have H := it_t H c2
    refine GA.iconst dX10_valueNamed_45 ?_
    cases H
    exact GA.iret rfl dX10_valueNamed_46 (by omega) (by omega) ⟨rfl, rfl⟩
  · have H := it_f H c2
    refine GA.iload dX10_valueNamed_14 rfl ?_
    refine GA.bipush dX10_valueNamed_16 rfl ?_
    obtain ⟨hg3, H⟩ := gg_e H
    refine GV.icmp_ge (tgt := 45) hg3 (by decide) dX10_valueNamed_18 (by decide) (fun c4 => ?_) (fun c4 => ?_)
    · have H := it_t H c4
      refine GA.iconst dX10_valueNamed_45 ?_
      cases H
      exact GA.iret rfl dX10_valueNamed_46 (by omega) (by omega) ⟨rfl, rfl⟩
    · have H := it_f H c4
      refine GA.aload_n dX10_valueNamed_21 rfl ?_
      refine GA.iload_n dX10_valueNamed_22 rfl ?_
      refine GA.aload_n dX10_valueNamed_23 rfl ?_
      obtain ⟨hg5, H⟩ := gg_e H
      obtain ⟨hg6, H⟩ := gg_e H
      obtain ⟨x7, S_8, hc9, H⟩ := gc_e H
      refine GA.callV (m_X10_hasKeyWord hc9) xs_X10_172 dX10_valueNamed_24 (gsT hg6) (by omega) rfl rfl (by omega) (by decide) rfl (Nat.le_of_ble_eq_true rfl) (by omega) (by omega) rfl (fun E S9 hx => hx.elim) (fun v S9 hq => ?_)
      obtain ⟨rfl, rfl⟩ := hq
      obtain ⟨hg10, H⟩ := gg_e H
      refine GV.if_eq (tgt := 32) hg10 dX10_valueNamed_27 (by decide) (fun c11 => ?_) (fun c11 => ?_)
      · have H := it_t H c11
        refine GA.aload_n dX10_valueNamed_32 rfl ?_
        refine GA.iload_n dX10_valueNamed_33 rfl ?_
        refine GA.iload_n dX10_valueNamed_34 rfl ?_
        obtain ⟨x12, S_13, hc14, H⟩ := gc_e H
        refine GA.callV (m_X10_next hc14) xs_X10_56 dX10_valueNamed_35 (gsT hg6) (by omega) rfl rfl (by omega) (by decide) rfl (Nat.le_of_ble_eq_true rfl) (by omega) (by omega) rfl (fun E S9 hx => hx.elim) (fun v S9 hq => ?_)
        obtain ⟨rfl, rfl⟩ := hq
        refine GA.istore_n dX10_valueNamed_38 (by decide) ?_
        obtain ⟨x15, hx16, H⟩ := gv_e H
        refine GV.iinc hx16 dX10_valueNamed_39 rfl (by decide) ?_
        refine GA.goto (tgt := 9) dX10_valueNamed_42 (by decide) ?_
        refine GA.locals [(0, .ref (L a0)), (1, .int (J a1)), (2, .ref (Z.2.1 a2)), (3, .int (J x12)), (4, .int (J x15))] ⟨rfl, rfl, rfl, rfl, rfl, trivial⟩ ?_
        exact ih_X10_valueNamed_9 _ _ (a0) (a1) (a2) (x12) (x15) _ _ H
      · have H := it_f H c11
        refine GA.iload_n dX10_valueNamed_30 rfl ?_
        cases H
        exact GA.iret rfl dX10_valueNamed_31 (by omega) (by omega) ⟨rfl, rfl⟩
theorem g_X10_valueNamed {l : Launch} {Z : XZ} {L : Nat → Nat} : ∀ n, P_X10_valueNamed_0 l Z L n ∧ P_X10_valueNamed_9 l Z L n
  | 0 => ⟨fun _ _ _ _ _ _ _ H => no_e H, fun _ _ _ _ _ _ _ _ _ H => no_e H⟩
  | n + 1 => have ⟨h0, h1⟩ := g_X10_valueNamed (l := l) (Z := Z) (L := L) n
    ⟨t_X10_valueNamed_0 n h0 h1, t_X10_valueNamed_9 n h0 h1⟩
theorem m_X10_valueNamed {l : Launch} {Z : XZ} {L : Nat → Nat} {n d : Nat} {S : GS} {a0 : Nat} {a1 : Int} {a2 : Nat} {x : Int} {S1 : GS} (H : f_X10_valueNamed n d 0 S [((a0 : Nat) : Int), a1, ((a2 : Nat) : Int)] = some (x, S1)) : GM l Z L yX10_valueNamed cX10_valueNamed 5 (some .int) [] d 0 0 [.ref (L a0), .int (J a1), .ref (Z.2.1 a2)] S (fun v S' => v = some (.int (J x)) ∧ S1 = S') (fun _ _ => False) := GM.of (by decide) (Nat.le_of_ble_eq_true rfl) ((g_X10_valueNamed n).1 _ _ _ _ _ _ _ H)

def P_X10_first_0 (l : Launch) (Z : XZ) (L : Nat → Nat) (n : Nat) : Prop := ∀ (d : Nat) (S : GS) (a0 : Nat) (a1 : Int) (x : Int) (S1 : GS), f_X10_first n d 0 S [((a0 : Nat) : Int), a1] = some (x, S1) → GA l Z L yX10_first cX10_first 3 (some .int) [] d 0 0 (fun v S' => v = some (.int (J x)) ∧ S1 = S') (fun _ _ => False) 0 (gl [(0, .ref (L a0)), (1, .int (J a1))]) [] S 0 0
def P_X10_first_25 (l : Launch) (Z : XZ) (L : Nat → Nat) (n : Nat) : Prop := ∀ (d : Nat) (S : GS) (a0 : Nat) (a1 : Int) (s0 : Int) (x : Int) (S1 : GS), f_X10_first n d 25 S [((a0 : Nat) : Int), a1, s0] = some (x, S1) → GA l Z L yX10_first cX10_first 3 (some .int) [] d 0 0 (fun v S' => v = some (.int (J x)) ∧ S1 = S') (fun _ _ => False) 25 (gl [(0, .ref (L a0)), (1, .int (J a1))]) [.int (J s0)] S 0 0
theorem i_X10_first {l : Launch} {Z : XZ} {L : Nat → Nat} {n : Nat} (ih : P_X10_first_0 l Z L n) {d : Nat} {S : GS} {a0 : Nat} {a1 : Int} {x : Int} {S1 : GS} (H : f_X10_first n d 0 S [((a0 : Nat) : Int), a1] = some (x, S1)) : GM l Z L yX10_first cX10_first 3 (some .int) [] d 0 0 [.ref (L a0), .int (J a1)] S (fun v S' => v = some (.int (J x)) ∧ S1 = S') (fun _ _ => False) := GM.of (by decide) (Nat.le_of_ble_eq_true rfl) (ih _ _ _ _ _ _ H)
set_option maxHeartbeats 4000000 in
set_option maxRecDepth 20000 in
theorem t_X10_first_0 {l : Launch} {Z : XZ} {L : Nat → Nat} (n : Nat) (ih_X10_first_0 : P_X10_first_0 l Z L n) (ih_X10_first_25 : P_X10_first_25 l Z L n) : P_X10_first_0 l Z L (n + 1) := by
  intro d S a0 a1 x S1 H
  have H : b_X10_first_0 n d (f_X10_first n) S a0 a1 = some (x, S1) := H
  unfold b_X10_first_0 at H
  refine GA.iload_n dX10_first_0 rfl ?_
  obtain ⟨hg1, H⟩ := gg_e H
  refine GV.if_lt (tgt := 24) hg1 dX10_first_1 (by decide) (fun c2 => ?_) (fun c2 => ?_)
  · have H := it_t H c2
    refine GA.iconst dX10_first_24 ?_
    refine GA.locals [(0, .ref (L a0)), (1, .int (J a1))] ⟨rfl, rfl, trivial⟩ ?_
    exact ih_X10_first_25 _ _ (a0) (a1) (0) _ _ H
  · have H := it_f H c2
    refine GA.iload_n dX10_first_4 rfl ?_
    refine GA.aload_n dX10_first_5 rfl ?_
    obtain ⟨hg3, H⟩ := gg_e H
    obtain ⟨x4, hx5, H⟩ := gv_e H
    refine GV.getI hx5 xf_X10_34 dX10_first_6 (gsT hg3) (by omega) rfl ?_
    refine GA.iconst dX10_first_9 ?_
    obtain ⟨x6, hx7, H⟩ := gv_e H
    refine GV.isub hx7 dX10_first_10 ?_
    obtain ⟨hg8, H⟩ := gg_e H
    refine GV.icmp_ge (tgt := 24) hg1 hg8 dX10_first_11 (by decide) (fun c9 => ?_) (fun c9 => ?_)
    · have H := it_t H c9
      refine GA.iconst dX10_first_24 ?_
      refine GA.locals [(0, .ref (L a0)), (1, .int (J a1))] ⟨rfl, rfl, trivial⟩ ?_
      exact ih_X10_first_25 _ _ (a0) (a1) (0) _ _ H
    · have H := it_f H c9
      refine GA.iload_n dX10_first_14 rfl ?_
      refine GA.bipush dX10_first_15 rfl ?_
      refine GV.icmp_ge (tgt := 24) hg1 (by decide) dX10_first_17 (by decide) (fun c10 => ?_) (fun c10 => ?_)
      · have H := it_t H c10
        refine GA.iconst dX10_first_24 ?_
        refine GA.locals [(0, .ref (L a0)), (1, .int (J a1))] ⟨rfl, rfl, trivial⟩ ?_
        exact ih_X10_first_25 _ _ (a0) (a1) (0) _ _ H
      · have H := it_f H c10
        refine GA.iconst dX10_first_20 ?_
        refine GA.goto (tgt := 25) dX10_first_21 (by decide) ?_
        refine GA.locals [(0, .ref (L a0)), (1, .int (J a1))] ⟨rfl, rfl, trivial⟩ ?_
        exact ih_X10_first_25 _ _ (a0) (a1) (1) _ _ H
set_option maxHeartbeats 4000000 in
set_option maxRecDepth 20000 in
theorem t_X10_first_25 {l : Launch} {Z : XZ} {L : Nat → Nat} (n : Nat) (ih_X10_first_0 : P_X10_first_0 l Z L n) (ih_X10_first_25 : P_X10_first_25 l Z L n) : P_X10_first_25 l Z L (n + 1) := by
  intro d S a0 a1 s0 x S1 H
  have H : b_X10_first_25 n d (f_X10_first n) S a0 a1 s0 = some (x, S1) := H
  unfold b_X10_first_25 at H
  refine GA.istore_n dX10_first_25 (by decide) ?_
  refine GA.iload_n dX10_first_26 rfl ?_
  obtain ⟨hg1, H⟩ := gg_e H
  refine GV.if_eq (tgt := 56) hg1 dX10_first_27 (by decide) (fun c2 => ?_) (fun c2 => ?_)
  · have H := it_t H c2
    refine GA.iconst dX10_first_56 ?_
    cases H
    exact GA.iret rfl dX10_first_57 (by omega) (by omega) ⟨rfl, rfl⟩
  · have H := it_f H c2
    refine GA.aload_n dX10_first_30 rfl ?_
    obtain ⟨hg3, H⟩ := gg_e H
    refine GA.get xf_X10_9 dX10_first_31 (gsT hg3) (by omega) rfl ?_
    refine GA.iload_n dX10_first_34 rfl ?_
    obtain ⟨hg4, H⟩ := gg_e H
    obtain ⟨x5, hx6, H⟩ := gv_e H
    refine GV.iald hg4 hx6 dX10_first_35 (gsT1 hg3) (by omega) ?_
    refine GA.iconst dX10_first_36 ?_
    obtain ⟨hg7, H⟩ := gg_e H
    refine GV.icmp_lt (tgt := 56) hg7 (by decide) dX10_first_37 (by decide) (fun c8 => ?_) (fun c8 => ?_)
    · have H := it_t H c8
      refine GA.iconst dX10_first_56 ?_
      cases H
      exact GA.iret rfl dX10_first_57 (by omega) (by omega) ⟨rfl, rfl⟩
    · have H := it_f H c8
      refine GA.aload_n dX10_first_40 rfl ?_
      refine GA.get xf_X10_15 dX10_first_41 (gsT hg3) (by omega) rfl ?_
      refine GA.iload_n dX10_first_44 rfl ?_
      obtain ⟨x9, hx10, H⟩ := gv_e H
      refine GV.iald hg4 hx10 dX10_first_45 (gsT2 hg3) (by omega) ?_
      refine GA.iconst dX10_first_46 ?_
      obtain ⟨hg11, H⟩ := gg_e H
      refine GV.icmp_le (tgt := 56) hg11 (by decide) dX10_first_47 (by decide) (fun c12 => ?_) (fun c12 => ?_)
      · have H := it_t H c12
        refine GA.iconst dX10_first_56 ?_
        cases H
        exact GA.iret rfl dX10_first_57 (by omega) (by omega) ⟨rfl, rfl⟩
      · have H := it_f H c12
        refine GA.iload_n dX10_first_50 rfl ?_
        refine GA.iconst dX10_first_51 ?_
        obtain ⟨x13, hx14, H⟩ := gv_e H
        refine GV.iadd hx14 dX10_first_52 ?_
        refine GA.goto (tgt := 57) dX10_first_53 (by decide) ?_
        cases H
        exact GA.iret rfl dX10_first_57 (by omega) (by omega) ⟨rfl, rfl⟩
theorem g_X10_first {l : Launch} {Z : XZ} {L : Nat → Nat} : ∀ n, P_X10_first_0 l Z L n ∧ P_X10_first_25 l Z L n
  | 0 => ⟨fun _ _ _ _ _ _ H => no_e H, fun _ _ _ _ _ _ _ H => no_e H⟩
  | n + 1 => have ⟨h0, h1⟩ := g_X10_first (l := l) (Z := Z) (L := L) n
    ⟨t_X10_first_0 n h0 h1, t_X10_first_25 n h0 h1⟩
theorem m_X10_first {l : Launch} {Z : XZ} {L : Nat → Nat} {n d : Nat} {S : GS} {a0 : Nat} {a1 : Int} {x : Int} {S1 : GS} (H : f_X10_first n d 0 S [((a0 : Nat) : Int), a1] = some (x, S1)) : GM l Z L yX10_first cX10_first 3 (some .int) [] d 0 0 [.ref (L a0), .int (J a1)] S (fun v S' => v = some (.int (J x)) ∧ S1 = S') (fun _ _ => False) := GM.of (by decide) (Nat.le_of_ble_eq_true rfl) ((g_X10_first n).1 _ _ _ _ _ _ H)

def P_X10_lengthOf_0 (l : Launch) (Z : XZ) (L : Nat → Nat) (n : Nat) : Prop := ∀ (d : Nat) (S : GS) (a0 : Nat) (a1 : Int) (x : Int) (S1 : GS), f_X10_lengthOf n d 0 S [((a0 : Nat) : Int), a1] = some (x, S1) → GA l Z L yX10_lengthOf cX10_lengthOf 2 (some .int) [] d 0 0 (fun v S' => v = some (.int (J x)) ∧ S1 = S') (fun _ _ => False) 0 (gl [(0, .ref (L a0)), (1, .int (J a1))]) [] S 0 0
theorem i_X10_lengthOf {l : Launch} {Z : XZ} {L : Nat → Nat} {n : Nat} (ih : P_X10_lengthOf_0 l Z L n) {d : Nat} {S : GS} {a0 : Nat} {a1 : Int} {x : Int} {S1 : GS} (H : f_X10_lengthOf n d 0 S [((a0 : Nat) : Int), a1] = some (x, S1)) : GM l Z L yX10_lengthOf cX10_lengthOf 2 (some .int) [] d 0 0 [.ref (L a0), .int (J a1)] S (fun v S' => v = some (.int (J x)) ∧ S1 = S') (fun _ _ => False) := GM.of (by decide) (Nat.le_of_ble_eq_true rfl) (ih _ _ _ _ _ _ H)
set_option maxHeartbeats 4000000 in
set_option maxRecDepth 20000 in
theorem t_X10_lengthOf_0 {l : Launch} {Z : XZ} {L : Nat → Nat} (n : Nat) (ih_X10_lengthOf_0 : P_X10_lengthOf_0 l Z L n) : P_X10_lengthOf_0 l Z L (n + 1) := by
  intro d S a0 a1 x S1 H
  have H : b_X10_lengthOf_0 n d (f_X10_lengthOf n) S a0 a1 = some (x, S1) := H
  unfold b_X10_lengthOf_0 at H
  refine GA.iload_n dX10_lengthOf_0 rfl ?_
  obtain ⟨hg1, H⟩ := gg_e H
  refine GV.if_lt (tgt := 27) hg1 dX10_lengthOf_1 (by decide) (fun c2 => ?_) (fun c2 => ?_)
  · have H := it_t H c2
    refine GA.iconst dX10_lengthOf_27 ?_
    cases H
    exact GA.iret rfl dX10_lengthOf_28 (by omega) (by omega) ⟨rfl, rfl⟩
  · have H := it_f H c2
    refine GA.iload_n dX10_lengthOf_4 rfl ?_
    refine GA.aload_n dX10_lengthOf_5 rfl ?_
    obtain ⟨hg3, H⟩ := gg_e H
    obtain ⟨x4, hx5, H⟩ := gv_e H
    refine GV.getI hx5 xf_X10_34 dX10_lengthOf_6 (gsT hg3) (by omega) rfl ?_
    obtain ⟨hg6, H⟩ := gg_e H
    refine GV.icmp_ge (tgt := 27) hg1 hg6 dX10_lengthOf_9 (by decide) (fun c7 => ?_) (fun c7 => ?_)
    · have H := it_t H c7
      refine GA.iconst dX10_lengthOf_27 ?_
      cases H
      exact GA.iret rfl dX10_lengthOf_28 (by omega) (by omega) ⟨rfl, rfl⟩
    · have H := it_f H c7
      refine GA.iload_n dX10_lengthOf_12 rfl ?_
      refine GA.bipush dX10_lengthOf_13 rfl ?_
      refine GV.icmp_ge (tgt := 27) hg1 (by decide) dX10_lengthOf_15 (by decide) (fun c8 => ?_) (fun c8 => ?_)
      · have H := it_t H c8
        refine GA.iconst dX10_lengthOf_27 ?_
        cases H
        exact GA.iret rfl dX10_lengthOf_28 (by omega) (by omega) ⟨rfl, rfl⟩
      · have H := it_f H c8
        refine GA.aload_n dX10_lengthOf_18 rfl ?_
        refine GA.get xf_X10_21 dX10_lengthOf_19 (gsT hg3) (by omega) rfl ?_
        refine GA.iload_n dX10_lengthOf_22 rfl ?_
        obtain ⟨hg9, H⟩ := gg_e H
        obtain ⟨x10, hx11, H⟩ := gv_e H
        refine GV.iald hg9 hx11 dX10_lengthOf_23 (gsT4 hg3) (by omega) ?_
        refine GA.goto (tgt := 28) dX10_lengthOf_24 (by decide) ?_
        cases H
        exact GA.iret rfl dX10_lengthOf_28 (by omega) (by omega) ⟨rfl, rfl⟩
theorem g_X10_lengthOf {l : Launch} {Z : XZ} {L : Nat → Nat} : ∀ n, P_X10_lengthOf_0 l Z L n
  | 0 => fun _ _ _ _ _ _ H => no_e H
  | n + 1 => t_X10_lengthOf_0 n (g_X10_lengthOf n)
theorem m_X10_lengthOf {l : Launch} {Z : XZ} {L : Nat → Nat} {n d : Nat} {S : GS} {a0 : Nat} {a1 : Int} {x : Int} {S1 : GS} (H : f_X10_lengthOf n d 0 S [((a0 : Nat) : Int), a1] = some (x, S1)) : GM l Z L yX10_lengthOf cX10_lengthOf 2 (some .int) [] d 0 0 [.ref (L a0), .int (J a1)] S (fun v S' => v = some (.int (J x)) ∧ S1 = S') (fun _ _ => False) := GM.of (by decide) (Nat.le_of_ble_eq_true rfl) ((g_X10_lengthOf n) _ _ _ _ _ _ H)

def P_X10_signAt_0 (l : Launch) (Z : XZ) (L : Nat → Nat) (n : Nat) : Prop := ∀ (d : Nat) (S : GS) (a0 : Nat) (a1 : Int) (a2 : Int) (x : Int) (S1 : GS), f_X10_signAt n d 0 S [((a0 : Nat) : Int), a1, a2] = some (x, S1) → GA l Z L yX10_signAt cX10_signAt 4 (some .int) [] d 0 0 (fun v S' => v = some (.int (J x)) ∧ S1 = S') (fun _ _ => False) 0 (gl [(0, .ref (L a0)), (1, .int (J a1)), (2, .int (J a2))]) [] S 0 0
def P_X10_signAt_33 (l : Launch) (Z : XZ) (L : Nat → Nat) (n : Nat) : Prop := ∀ (d : Nat) (S : GS) (a0 : Nat) (a1 : Int) (a2 : Int) (s0 : Int) (x : Int) (S1 : GS), f_X10_signAt n d 33 S [((a0 : Nat) : Int), a1, a2, s0] = some (x, S1) → GA l Z L yX10_signAt cX10_signAt 4 (some .int) [] d 0 0 (fun v S' => v = some (.int (J x)) ∧ S1 = S') (fun _ _ => False) 33 (gl [(0, .ref (L a0)), (1, .int (J a1)), (2, .int (J a2))]) [.int (J s0)] S 0 0
theorem i_X10_signAt {l : Launch} {Z : XZ} {L : Nat → Nat} {n : Nat} (ih : P_X10_signAt_0 l Z L n) {d : Nat} {S : GS} {a0 : Nat} {a1 : Int} {a2 : Int} {x : Int} {S1 : GS} (H : f_X10_signAt n d 0 S [((a0 : Nat) : Int), a1, a2] = some (x, S1)) : GM l Z L yX10_signAt cX10_signAt 4 (some .int) [] d 0 0 [.ref (L a0), .int (J a1), .int (J a2)] S (fun v S' => v = some (.int (J x)) ∧ S1 = S') (fun _ _ => False) := GM.of (by decide) (Nat.le_of_ble_eq_true rfl) (ih _ _ _ _ _ _ _ H)
set_option maxHeartbeats 4000000 in
set_option maxRecDepth 20000 in
theorem t_X10_signAt_0 {l : Launch} {Z : XZ} {L : Nat → Nat} (n : Nat) (ih_X10_signAt_0 : P_X10_signAt_0 l Z L n) (ih_X10_signAt_33 : P_X10_signAt_33 l Z L n) : P_X10_signAt_0 l Z L (n + 1) := by
  intro d S a0 a1 a2 x S1 H
  have H : b_X10_signAt_0 n d (f_X10_signAt n) S a0 a1 a2 = some (x, S1) := H
  unfold b_X10_signAt_0 at H
  refine GA.iload_n dX10_signAt_0 rfl ?_
  obtain ⟨hg1, H⟩ := gg_e H
  refine GV.if_lt (tgt := 32) hg1 dX10_signAt_1 (by decide) (fun c2 => ?_) (fun c2 => ?_)
  · have H := it_t H c2
    refine GA.iconst dX10_signAt_32 ?_
    refine GA.locals [(0, .ref (L a0)), (1, .int (J a1)), (2, .int (J a2))] ⟨rfl, rfl, rfl, trivial⟩ ?_
    exact ih_X10_signAt_33 _ _ (a0) (a1) (a2) (0) _ _ H
  · have H := it_f H c2
    refine GA.iload_n dX10_signAt_4 rfl ?_
    refine GA.aload_n dX10_signAt_5 rfl ?_
    obtain ⟨hg3, H⟩ := gg_e H
    obtain ⟨x4, hx5, H⟩ := gv_e H
    refine GV.getI hx5 xf_X10_34 dX10_signAt_6 (gsT hg3) (by omega) rfl ?_
    obtain ⟨hg6, H⟩ := gg_e H
    refine GV.icmp_ge (tgt := 32) hg1 hg6 dX10_signAt_9 (by decide) (fun c7 => ?_) (fun c7 => ?_)
    · have H := it_t H c7
      refine GA.iconst dX10_signAt_32 ?_
      refine GA.locals [(0, .ref (L a0)), (1, .int (J a1)), (2, .int (J a2))] ⟨rfl, rfl, rfl, trivial⟩ ?_
      exact ih_X10_signAt_33 _ _ (a0) (a1) (a2) (0) _ _ H
    · have H := it_f H c7
      refine GA.iload_n dX10_signAt_12 rfl ?_
      refine GA.bipush dX10_signAt_13 rfl ?_
      refine GV.icmp_ge (tgt := 32) hg1 (by decide) dX10_signAt_15 (by decide) (fun c8 => ?_) (fun c8 => ?_)
      · have H := it_t H c8
        refine GA.iconst dX10_signAt_32 ?_
        refine GA.locals [(0, .ref (L a0)), (1, .int (J a1)), (2, .int (J a2))] ⟨rfl, rfl, rfl, trivial⟩ ?_
        exact ih_X10_signAt_33 _ _ (a0) (a1) (a2) (0) _ _ H
      · have H := it_f H c8
        refine GA.iload_n dX10_signAt_18 rfl ?_
        obtain ⟨hg9, H⟩ := gg_e H
        refine GV.if_lt (tgt := 32) hg9 dX10_signAt_19 (by decide) (fun c10 => ?_) (fun c10 => ?_)
        · have H := it_t H c10
          refine GA.iconst dX10_signAt_32 ?_
          refine GA.locals [(0, .ref (L a0)), (1, .int (J a1)), (2, .int (J a2))] ⟨rfl, rfl, rfl, trivial⟩ ?_
          exact ih_X10_signAt_33 _ _ (a0) (a1) (a2) (0) _ _ H
        · have H := it_f H c10
          refine GA.iload_n dX10_signAt_22 rfl ?_
          refine GA.bipush dX10_signAt_23 rfl ?_
          refine GV.icmp_ge (tgt := 32) hg9 (by decide) dX10_signAt_25 (by decide) (fun c11 => ?_) (fun c11 => ?_)
          · have H := it_t H c11
            refine GA.iconst dX10_signAt_32 ?_
            refine GA.locals [(0, .ref (L a0)), (1, .int (J a1)), (2, .int (J a2))] ⟨rfl, rfl, rfl, trivial⟩ ?_
            exact ih_X10_signAt_33 _ _ (a0) (a1) (a2) (0) _ _ H
          · have H := it_f H c11
            refine GA.iconst dX10_signAt_28 ?_
            refine GA.goto (tgt := 33) dX10_signAt_29 (by decide) ?_
            refine GA.locals [(0, .ref (L a0)), (1, .int (J a1)), (2, .int (J a2))] ⟨rfl, rfl, rfl, trivial⟩ ?_
            exact ih_X10_signAt_33 _ _ (a0) (a1) (a2) (1) _ _ H
set_option maxHeartbeats 4000000 in
set_option maxRecDepth 20000 in
theorem t_X10_signAt_33 {l : Launch} {Z : XZ} {L : Nat → Nat} (n : Nat) (ih_X10_signAt_0 : P_X10_signAt_0 l Z L n) (ih_X10_signAt_33 : P_X10_signAt_33 l Z L n) : P_X10_signAt_33 l Z L (n + 1) := by
  intro d S a0 a1 a2 s0 x S1 H
  have H : b_X10_signAt_33 n d (f_X10_signAt n) S a0 a1 a2 s0 = some (x, S1) := H
  unfold b_X10_signAt_33 at H
  refine GA.istore_n dX10_signAt_33 (by decide) ?_
  refine GA.iload_n dX10_signAt_34 rfl ?_
  obtain ⟨hg1, H⟩ := gg_e H
  refine GV.if_eq (tgt := 62) hg1 dX10_signAt_35 (by decide) (fun c2 => ?_) (fun c2 => ?_)
  · have H := it_t H c2
    refine GA.iconst dX10_signAt_62 ?_
    cases H
    exact GA.iret rfl dX10_signAt_63 (by omega) (by omega) ⟨rfl, rfl⟩
  · have H := it_f H c2
    refine GA.iload_n dX10_signAt_38 rfl ?_
    refine GA.aload_n dX10_signAt_39 rfl ?_
    obtain ⟨hg3, H⟩ := gg_e H
    refine GA.get xf_X10_21 dX10_signAt_40 (gsT hg3) (by omega) rfl ?_
    refine GA.iload_n dX10_signAt_43 rfl ?_
    obtain ⟨hg4, H⟩ := gg_e H
    obtain ⟨x5, hx6, H⟩ := gv_e H
    refine GV.iald hg4 hx6 dX10_signAt_44 (gsT4 hg3) (by omega) ?_
    obtain ⟨hg7, H⟩ := gg_e H
    obtain ⟨hg8, H⟩ := gg_e H
    refine GV.icmp_ge (tgt := 62) hg7 hg8 dX10_signAt_45 (by decide) (fun c9 => ?_) (fun c9 => ?_)
    · have H := it_t H c9
      refine GA.iconst dX10_signAt_62 ?_
      cases H
      exact GA.iret rfl dX10_signAt_63 (by omega) (by omega) ⟨rfl, rfl⟩
    · have H := it_f H c9
      refine GA.aload_n dX10_signAt_48 rfl ?_
      refine GA.get xf_X10_24 dX10_signAt_49 (gsT hg3) (by omega) rfl ?_
      refine GA.iload_n dX10_signAt_52 rfl ?_
      refine GA.bipush dX10_signAt_53 rfl ?_
      obtain ⟨x10, hx11, H⟩ := gv_e H
      refine GV.imul hx11 dX10_signAt_55 ?_
      refine GA.iload_n dX10_signAt_56 rfl ?_
      obtain ⟨x12, hx13, H⟩ := gv_e H
      refine GV.iadd hx13 dX10_signAt_57 ?_
      obtain ⟨hg14, H⟩ := gg_e H
      obtain ⟨x15, hx16, H⟩ := gv_e H
      refine GV.cald hg14 hx16 dX10_signAt_58 (gsT5 hg3) (by omega) ?_
      refine GA.goto (tgt := 63) dX10_signAt_59 (by decide) ?_
      cases H
      exact GA.iret rfl dX10_signAt_63 (by omega) (by omega) ⟨rfl, rfl⟩
theorem g_X10_signAt {l : Launch} {Z : XZ} {L : Nat → Nat} : ∀ n, P_X10_signAt_0 l Z L n ∧ P_X10_signAt_33 l Z L n
  | 0 => ⟨fun _ _ _ _ _ _ _ H => no_e H, fun _ _ _ _ _ _ _ _ H => no_e H⟩
  | n + 1 => have ⟨h0, h1⟩ := g_X10_signAt (l := l) (Z := Z) (L := L) n
    ⟨t_X10_signAt_0 n h0 h1, t_X10_signAt_33 n h0 h1⟩
theorem m_X10_signAt {l : Launch} {Z : XZ} {L : Nat → Nat} {n d : Nat} {S : GS} {a0 : Nat} {a1 : Int} {a2 : Int} {x : Int} {S1 : GS} (H : f_X10_signAt n d 0 S [((a0 : Nat) : Int), a1, a2] = some (x, S1)) : GM l Z L yX10_signAt cX10_signAt 4 (some .int) [] d 0 0 [.ref (L a0), .int (J a1), .int (J a2)] S (fun v S' => v = some (.int (J x)) ∧ S1 = S') (fun _ _ => False) := GM.of (by decide) (Nat.le_of_ble_eq_true rfl) ((g_X10_signAt n).1 _ _ _ _ _ _ _ H)

def P_X10_signsTo_0 (l : Launch) (Z : XZ) (L : Nat → Nat) (n : Nat) : Prop := ∀ (d : Nat) (S : GS) (a0 : Nat) (a1 : Int) (a2 : Nat) (x : Int) (S1 : GS), f_X10_signsTo n d 0 S [((a0 : Nat) : Int), a1, ((a2 : Nat) : Int)] = some (x, S1) → GA l Z L yX10_signsTo cX10_signsTo 4 none [] d 0 0 (fun v S' => v = none ∧ S1 = S') (fun _ _ => False) 0 (gl [(0, .ref (L a0)), (1, .int (J a1)), (2, .ref (L a2))]) [] S 0 0
def P_X10_signsTo_2 (l : Launch) (Z : XZ) (L : Nat → Nat) (n : Nat) : Prop := ∀ (d : Nat) (S : GS) (a0 : Nat) (a1 : Int) (a2 : Nat) (a3 : Int) (x : Int) (S1 : GS), f_X10_signsTo n d 2 S [((a0 : Nat) : Int), a1, ((a2 : Nat) : Int), a3] = some (x, S1) → GA l Z L yX10_signsTo cX10_signsTo 4 none [] d 0 0 (fun v S' => v = none ∧ S1 = S') (fun _ _ => False) 2 (gl [(0, .ref (L a0)), (1, .int (J a1)), (2, .ref (L a2)), (3, .int (J a3))]) [] S 0 0
theorem i_X10_signsTo {l : Launch} {Z : XZ} {L : Nat → Nat} {n : Nat} (ih : P_X10_signsTo_0 l Z L n) {d : Nat} {S : GS} {a0 : Nat} {a1 : Int} {a2 : Nat} {x : Int} {S1 : GS} (H : f_X10_signsTo n d 0 S [((a0 : Nat) : Int), a1, ((a2 : Nat) : Int)] = some (x, S1)) : GM l Z L yX10_signsTo cX10_signsTo 4 none [] d 0 0 [.ref (L a0), .int (J a1), .ref (L a2)] S (fun v S' => v = none ∧ S1 = S') (fun _ _ => False) := GM.of (by decide) (Nat.le_of_ble_eq_true rfl) (ih _ _ _ _ _ _ _ H)
set_option maxHeartbeats 4000000 in
set_option maxRecDepth 20000 in
theorem t_X10_signsTo_0 {l : Launch} {Z : XZ} {L : Nat → Nat} (n : Nat) (ih_X10_signsTo_0 : P_X10_signsTo_0 l Z L n) (ih_X10_signsTo_2 : P_X10_signsTo_2 l Z L n) : P_X10_signsTo_0 l Z L (n + 1) := by
  intro d S a0 a1 a2 x S1 H
  have H : b_X10_signsTo_0 n d (f_X10_signsTo n) S a0 a1 a2 = some (x, S1) := H
  unfold b_X10_signsTo_0 at H
  refine GA.iconst dX10_signsTo_0 ?_
  refine GA.istore_n dX10_signsTo_1 (by decide) ?_
  refine GA.locals [(0, .ref (L a0)), (1, .int (J a1)), (2, .ref (L a2)), (3, .int (J 0))] ⟨rfl, rfl, rfl, rfl, trivial⟩ ?_
  exact ih_X10_signsTo_2 _ _ (a0) (a1) (a2) (0) _ _ H
set_option maxHeartbeats 4000000 in
set_option maxRecDepth 20000 in
theorem t_X10_signsTo_2 {l : Launch} {Z : XZ} {L : Nat → Nat} (n : Nat) (ih_X10_signsTo_0 : P_X10_signsTo_0 l Z L n) (ih_X10_signsTo_2 : P_X10_signsTo_2 l Z L n) : P_X10_signsTo_2 l Z L (n + 1) := by
  intro d S a0 a1 a2 a3 x S1 H
  have H : b_X10_signsTo_2 n d (f_X10_signsTo n) S a0 a1 a2 a3 = some (x, S1) := H
  unfold b_X10_signsTo_2 at H
  refine GA.iload_n dX10_signsTo_2 rfl ?_
  refine GA.aload_n dX10_signsTo_3 rfl ?_
  refine GA.iload_n dX10_signsTo_4 rfl ?_
  obtain ⟨hg1, H⟩ := gg_e H
  obtain ⟨hg2, H⟩ := gg_e H
  obtain ⟨x3, S_4, hc5, H⟩ := gc_e H
  refine GA.callV (m_X10_lengthOf hc5) xs_X10_139 dX10_signsTo_5 (gsT hg2) (by omega) rfl rfl (by omega) (by decide) rfl (Nat.le_of_ble_eq_true rfl) (by omega) (by omega) rfl (fun E S9 hx => hx.elim) (fun v S9 hq => ?_)
  obtain ⟨rfl, rfl⟩ := hq
  obtain ⟨hg6, H⟩ := gg_e H
  obtain ⟨hg7, H⟩ := gg_e H
  refine GV.icmp_ge (tgt := 27) hg6 hg7 dX10_signsTo_8 (by decide) (fun c8 => ?_) (fun c8 => ?_)
  · have H := it_t H c8
    cases H
    exact GA.vret rfl dX10_signsTo_27 (by omega) (by omega) ⟨rfl, rfl⟩
  · have H := it_f H c8
    refine GA.aload_n dX10_signsTo_11 rfl ?_
    refine GA.aload_n dX10_signsTo_12 rfl ?_
    refine GA.iload_n dX10_signsTo_13 rfl ?_
    refine GA.iload_n dX10_signsTo_14 rfl ?_
    obtain ⟨x9, S_10, hc11, H⟩ := gc_e H
    refine GA.callV (m_X10_signAt hc11) xs_X10_136 dX10_signsTo_15 (gsT hg2) (by omega) rfl rfl (by omega) (by decide) rfl (Nat.le_of_ble_eq_true rfl) (by omega) (by omega) rfl (fun E S9 hx => hx.elim) (fun v S9 hq => ?_)
    obtain ⟨rfl, rfl⟩ := hq
    obtain ⟨hg12, H⟩ := gg_e H
    obtain ⟨x13, S_14, hc15, H⟩ := gc_e H
    refine GA.callV (m_X9_add hc15) xs_X10_145 dX10_signsTo_18 (gsS hg12) (by omega) rfl rfl (by omega) (by decide) rfl (Nat.le_of_ble_eq_true rfl) (by omega) (by omega) rfl (fun E S9 hx => hx.elim) (fun v S9 hq => ?_)
    obtain ⟨rfl, rfl⟩ := hq
    obtain ⟨x16, hx17, H⟩ := gv_e H
    refine GV.iinc hx17 dX10_signsTo_21 rfl (by decide) ?_
    refine GA.goto (tgt := 2) dX10_signsTo_24 (by decide) ?_
    refine GA.locals [(0, .ref (L a0)), (1, .int (J a1)), (2, .ref (L a2)), (3, .int (J x16))] ⟨rfl, rfl, rfl, rfl, trivial⟩ ?_
    exact ih_X10_signsTo_2 _ _ (a0) (a1) (a2) (x16) _ _ H
theorem g_X10_signsTo {l : Launch} {Z : XZ} {L : Nat → Nat} : ∀ n, P_X10_signsTo_0 l Z L n ∧ P_X10_signsTo_2 l Z L n
  | 0 => ⟨fun _ _ _ _ _ _ _ H => no_e H, fun _ _ _ _ _ _ _ _ H => no_e H⟩
  | n + 1 => have ⟨h0, h1⟩ := g_X10_signsTo (l := l) (Z := Z) (L := L) n
    ⟨t_X10_signsTo_0 n h0 h1, t_X10_signsTo_2 n h0 h1⟩
theorem m_X10_signsTo {l : Launch} {Z : XZ} {L : Nat → Nat} {n d : Nat} {S : GS} {a0 : Nat} {a1 : Int} {a2 : Nat} {x : Int} {S1 : GS} (H : f_X10_signsTo n d 0 S [((a0 : Nat) : Int), a1, ((a2 : Nat) : Int)] = some (x, S1)) : GM l Z L yX10_signsTo cX10_signsTo 4 none [] d 0 0 [.ref (L a0), .int (J a1), .ref (L a2)] S (fun v S' => v = none ∧ S1 = S') (fun _ _ => False) := GM.of (by decide) (Nat.le_of_ble_eq_true rfl) ((g_X10_signsTo n).1 _ _ _ _ _ _ _ H)

def P_X10_hasKey_0 (l : Launch) (Z : XZ) (L : Nat → Nat) (n : Nat) : Prop := ∀ (d : Nat) (S : GS) (a0 : Nat) (a1 : Int) (a2 : Nat) (x : Int) (S1 : GS), f_X10_hasKey n d 0 S [((a0 : Nat) : Int), a1, ((a2 : Nat) : Int)] = some (x, S1) → GA l Z L yX10_hasKey cX10_hasKey 5 (some .boolean) [] d 0 0 (fun v S' => v = some (.int (J x)) ∧ S1 = S') (fun _ _ => False) 0 (gl [(0, .ref (L a0)), (1, .int (J a1)), (2, .ref (L a2))]) [] S 0 0
def P_X10_hasKey_21 (l : Launch) (Z : XZ) (L : Nat → Nat) (n : Nat) : Prop := ∀ (d : Nat) (S : GS) (a0 : Nat) (a1 : Int) (a2 : Nat) (a3 : Int) (a4 : Int) (x : Int) (S1 : GS), f_X10_hasKey n d 21 S [((a0 : Nat) : Int), a1, ((a2 : Nat) : Int), a3, a4] = some (x, S1) → GA l Z L yX10_hasKey cX10_hasKey 5 (some .boolean) [] d 0 0 (fun v S' => v = some (.int (J x)) ∧ S1 = S') (fun _ _ => False) 21 (gl [(0, .ref (L a0)), (1, .int (J a1)), (2, .ref (L a2)), (3, .int (J a3)), (4, .int (J a4))]) [] S 0 0
theorem i_X10_hasKey {l : Launch} {Z : XZ} {L : Nat → Nat} {n : Nat} (ih : P_X10_hasKey_0 l Z L n) {d : Nat} {S : GS} {a0 : Nat} {a1 : Int} {a2 : Nat} {x : Int} {S1 : GS} (H : f_X10_hasKey n d 0 S [((a0 : Nat) : Int), a1, ((a2 : Nat) : Int)] = some (x, S1)) : GM l Z L yX10_hasKey cX10_hasKey 5 (some .boolean) [] d 0 0 [.ref (L a0), .int (J a1), .ref (L a2)] S (fun v S' => v = some (.int (J x)) ∧ S1 = S') (fun _ _ => False) := GM.of (by decide) (Nat.le_of_ble_eq_true rfl) (ih _ _ _ _ _ _ _ H)
set_option maxHeartbeats 4000000 in
set_option maxRecDepth 20000 in
theorem t_X10_hasKey_0 {l : Launch} {Z : XZ} {L : Nat → Nat} (n : Nat) (ih_X10_hasKey_0 : P_X10_hasKey_0 l Z L n) (ih_X10_hasKey_21 : P_X10_hasKey_21 l Z L n) : P_X10_hasKey_0 l Z L (n + 1) := by
  intro d S a0 a1 a2 x S1 H
  have H : b_X10_hasKey_0 n d (f_X10_hasKey n) S a0 a1 a2 = some (x, S1) := H
  unfold b_X10_hasKey_0 at H
  refine GA.aload_n dX10_hasKey_0 rfl ?_
  refine GA.iload_n dX10_hasKey_1 rfl ?_
  obtain ⟨hg1, H⟩ := gg_e H
  obtain ⟨hg2, H⟩ := gg_e H
  obtain ⟨x3, S_4, hc5, H⟩ := gc_e H
  refine GA.callV (m_X10_keyLength hc5) xs_X10_117 dX10_hasKey_2 (gsT hg2) (by omega) rfl rfl (by omega) (by decide) rfl (Nat.le_of_ble_eq_true rfl) (by omega) (by omega) rfl (fun E S9 hx => hx.elim) (fun v S9 hq => ?_)
  obtain ⟨rfl, rfl⟩ := hq
  refine GA.aload_n dX10_hasKey_5 rfl ?_
  obtain ⟨hg6, H⟩ := gg_e H
  obtain ⟨x7, S_8, hc9, H⟩ := gc_e H
  refine GA.callV (m_X9_length hc9) xs_X10_124 dX10_hasKey_6 (gsS hg6) (by omega) rfl rfl (by omega) (by decide) rfl (Nat.le_of_ble_eq_true rfl) (by omega) (by omega) rfl (fun E S9 hx => hx.elim) (fun v S9 hq => ?_)
  obtain ⟨rfl, rfl⟩ := hq
  obtain ⟨hg10, H⟩ := gg_e H
  obtain ⟨hg11, H⟩ := gg_e H
  refine GV.icmp_ne (tgt := 16) hg10 hg11 dX10_hasKey_9 (by decide) (fun c12 => ?_) (fun c12 => ?_)
  · have H := it_t H c12
    refine GA.iconst dX10_hasKey_16 ?_
    refine GA.istore_n dX10_hasKey_17 (by decide) ?_
    refine GA.iconst dX10_hasKey_18 ?_
    refine GA.istore dX10_hasKey_19 (by decide) ?_
    refine GA.locals [(0, .ref (L a0)), (1, .int (J a1)), (2, .ref (L a2)), (3, .int (J 0)), (4, .int (J 0))] ⟨rfl, rfl, rfl, rfl, rfl, trivial⟩ ?_
    exact ih_X10_hasKey_21 _ _ (a0) (a1) (a2) (0) (0) _ _ H
  · have H := it_f H c12
    refine GA.iconst dX10_hasKey_12 ?_
    refine GA.goto (tgt := 17) dX10_hasKey_13 (by decide) ?_
    refine GA.istore_n dX10_hasKey_17 (by decide) ?_
    refine GA.iconst dX10_hasKey_18 ?_
    refine GA.istore dX10_hasKey_19 (by decide) ?_
    refine GA.locals [(0, .ref (L a0)), (1, .int (J a1)), (2, .ref (L a2)), (3, .int (J 1)), (4, .int (J 0))] ⟨rfl, rfl, rfl, rfl, rfl, trivial⟩ ?_
    exact ih_X10_hasKey_21 _ _ (a0) (a1) (a2) (1) (0) _ _ H
set_option maxHeartbeats 4000000 in
set_option maxRecDepth 20000 in
theorem t_X10_hasKey_21 {l : Launch} {Z : XZ} {L : Nat → Nat} (n : Nat) (ih_X10_hasKey_0 : P_X10_hasKey_0 l Z L n) (ih_X10_hasKey_21 : P_X10_hasKey_21 l Z L n) : P_X10_hasKey_21 l Z L (n + 1) := by
  intro d S a0 a1 a2 a3 a4 x S1 H
  have H : b_X10_hasKey_21 n d (f_X10_hasKey n) S a0 a1 a2 a3 a4 = some (x, S1) := H
  unfold b_X10_hasKey_21 at H
  refine GA.iload dX10_hasKey_21 rfl ?_
  refine GA.aload_n dX10_hasKey_23 rfl ?_
  obtain ⟨hg1, H⟩ := gg_e H
  obtain ⟨hg2, H⟩ := gg_e H
  obtain ⟨x3, S_4, hc5, H⟩ := gc_e H
  refine GA.callV (m_X9_length hc5) xs_X10_124 dX10_hasKey_24 (gsS hg2) (by omega) rfl rfl (by omega) (by decide) rfl (Nat.le_of_ble_eq_true rfl) (by omega) (by omega) rfl (fun E S9 hx => hx.elim) (fun v S9 hq => ?_)
  obtain ⟨rfl, rfl⟩ := hq
  obtain ⟨hg6, H⟩ := gg_e H
  obtain ⟨hg7, H⟩ := gg_e H
  refine GV.icmp_ge (tgt := 62) hg6 hg7 dX10_hasKey_27 (by decide) (fun c8 => ?_) (fun c8 => ?_)
  · have H := it_t H c8
    refine GA.iload_n dX10_hasKey_62 rfl ?_
    obtain ⟨hg9, H⟩ := gg_e H
    cases H
    exact GV.zret hg9 rfl dX10_hasKey_63 (by omega) (by omega) ⟨rfl, rfl⟩
  · have H := it_f H c8
    refine GA.iload_n dX10_hasKey_30 rfl ?_
    obtain ⟨hg10, H⟩ := gg_e H
    refine GV.if_eq (tgt := 62) hg10 dX10_hasKey_31 (by decide) (fun c11 => ?_) (fun c11 => ?_)
    · have H := it_t H c11
      refine GA.iload_n dX10_hasKey_62 rfl ?_
      obtain ⟨hg12, H⟩ := gg_e H
      cases H
      exact GV.zret hg12 rfl dX10_hasKey_63 (by omega) (by omega) ⟨rfl, rfl⟩
    · have H := it_f H c11
      refine GA.aload_n dX10_hasKey_34 rfl ?_
      refine GA.iload_n dX10_hasKey_35 rfl ?_
      refine GA.iload dX10_hasKey_36 rfl ?_
      obtain ⟨hg13, H⟩ := gg_e H
      obtain ⟨x14, S_15, hc16, H⟩ := gc_e H
      refine GA.callV (m_X10_keySign hc16) xs_X10_162 dX10_hasKey_38 (gsT hg13) (by omega) rfl rfl (by omega) (by decide) rfl (Nat.le_of_ble_eq_true rfl) (by omega) (by omega) rfl (fun E S9 hx => hx.elim) (fun v S9 hq => ?_)
      obtain ⟨rfl, rfl⟩ := hq
      refine GA.aload_n dX10_hasKey_41 rfl ?_
      refine GA.iload dX10_hasKey_42 rfl ?_
      obtain ⟨x17, S_18, hc19, H⟩ := gc_e H
      refine GA.callV (m_X9_at hc19) xs_X10_129 dX10_hasKey_44 (gsS hg2) (by omega) rfl rfl (by omega) (by decide) rfl (Nat.le_of_ble_eq_true rfl) (by omega) (by omega) rfl (fun E S9 hx => hx.elim) (fun v S9 hq => ?_)
      obtain ⟨rfl, rfl⟩ := hq
      obtain ⟨hg20, H⟩ := gg_e H
      obtain ⟨hg21, H⟩ := gg_e H
      refine GV.icmp_ne (tgt := 54) hg20 hg21 dX10_hasKey_47 (by decide) (fun c22 => ?_) (fun c22 => ?_)
      · have H := it_t H c22
        refine GA.iconst dX10_hasKey_54 ?_
        refine GA.istore_n dX10_hasKey_55 (by decide) ?_
        obtain ⟨x23, hx24, H⟩ := gv_e H
        refine GV.iinc hx24 dX10_hasKey_56 rfl (by decide) ?_
        refine GA.goto (tgt := 21) dX10_hasKey_59 (by decide) ?_
        refine GA.locals [(0, .ref (L a0)), (1, .int (J a1)), (2, .ref (L a2)), (3, .int (J 0)), (4, .int (J x23))] ⟨rfl, rfl, rfl, rfl, rfl, trivial⟩ ?_
        exact ih_X10_hasKey_21 _ _ (a0) (a1) (a2) (0) (x23) _ _ H
      · have H := it_f H c22
        refine GA.iconst dX10_hasKey_50 ?_
        refine GA.goto (tgt := 55) dX10_hasKey_51 (by decide) ?_
        refine GA.istore_n dX10_hasKey_55 (by decide) ?_
        obtain ⟨x25, hx26, H⟩ := gv_e H
        refine GV.iinc hx26 dX10_hasKey_56 rfl (by decide) ?_
        refine GA.goto (tgt := 21) dX10_hasKey_59 (by decide) ?_
        refine GA.locals [(0, .ref (L a0)), (1, .int (J a1)), (2, .ref (L a2)), (3, .int (J 1)), (4, .int (J x25))] ⟨rfl, rfl, rfl, rfl, rfl, trivial⟩ ?_
        exact ih_X10_hasKey_21 _ _ (a0) (a1) (a2) (1) (x25) _ _ H
theorem g_X10_hasKey {l : Launch} {Z : XZ} {L : Nat → Nat} : ∀ n, P_X10_hasKey_0 l Z L n ∧ P_X10_hasKey_21 l Z L n
  | 0 => ⟨fun _ _ _ _ _ _ _ H => no_e H, fun _ _ _ _ _ _ _ _ _ H => no_e H⟩
  | n + 1 => have ⟨h0, h1⟩ := g_X10_hasKey (l := l) (Z := Z) (L := L) n
    ⟨t_X10_hasKey_0 n h0 h1, t_X10_hasKey_21 n h0 h1⟩
theorem m_X10_hasKey {l : Launch} {Z : XZ} {L : Nat → Nat} {n d : Nat} {S : GS} {a0 : Nat} {a1 : Int} {a2 : Nat} {x : Int} {S1 : GS} (H : f_X10_hasKey n d 0 S [((a0 : Nat) : Int), a1, ((a2 : Nat) : Int)] = some (x, S1)) : GM l Z L yX10_hasKey cX10_hasKey 5 (some .boolean) [] d 0 0 [.ref (L a0), .int (J a1), .ref (L a2)] S (fun v S' => v = some (.int (J x)) ∧ S1 = S') (fun _ _ => False) := GM.of (by decide) (Nat.le_of_ble_eq_true rfl) ((g_X10_hasKey n).1 _ _ _ _ _ _ _ H)

def P_X10_valueOf_0 (l : Launch) (Z : XZ) (L : Nat → Nat) (n : Nat) : Prop := ∀ (d : Nat) (S : GS) (a0 : Nat) (a1 : Int) (a2 : Nat) (x : Int) (S1 : GS), f_X10_valueOf n d 0 S [((a0 : Nat) : Int), a1, ((a2 : Nat) : Int)] = some (x, S1) → GA l Z L yX10_valueOf cX10_valueOf 5 (some .int) [] d 0 0 (fun v S' => v = some (.int (J x)) ∧ S1 = S') (fun _ _ => False) 0 (gl [(0, .ref (L a0)), (1, .int (J a1)), (2, .ref (L a2))]) [] S 0 0
def P_X10_valueOf_9 (l : Launch) (Z : XZ) (L : Nat → Nat) (n : Nat) : Prop := ∀ (d : Nat) (S : GS) (a0 : Nat) (a1 : Int) (a2 : Nat) (a3 : Int) (a4 : Int) (x : Int) (S1 : GS), f_X10_valueOf n d 9 S [((a0 : Nat) : Int), a1, ((a2 : Nat) : Int), a3, a4] = some (x, S1) → GA l Z L yX10_valueOf cX10_valueOf 5 (some .int) [] d 0 0 (fun v S' => v = some (.int (J x)) ∧ S1 = S') (fun _ _ => False) 9 (gl [(0, .ref (L a0)), (1, .int (J a1)), (2, .ref (L a2)), (3, .int (J a3)), (4, .int (J a4))]) [] S 0 0
theorem i_X10_valueOf {l : Launch} {Z : XZ} {L : Nat → Nat} {n : Nat} (ih : P_X10_valueOf_0 l Z L n) {d : Nat} {S : GS} {a0 : Nat} {a1 : Int} {a2 : Nat} {x : Int} {S1 : GS} (H : f_X10_valueOf n d 0 S [((a0 : Nat) : Int), a1, ((a2 : Nat) : Int)] = some (x, S1)) : GM l Z L yX10_valueOf cX10_valueOf 5 (some .int) [] d 0 0 [.ref (L a0), .int (J a1), .ref (L a2)] S (fun v S' => v = some (.int (J x)) ∧ S1 = S') (fun _ _ => False) := GM.of (by decide) (Nat.le_of_ble_eq_true rfl) (ih _ _ _ _ _ _ _ H)
set_option maxHeartbeats 4000000 in
set_option maxRecDepth 20000 in
theorem t_X10_valueOf_0 {l : Launch} {Z : XZ} {L : Nat → Nat} (n : Nat) (ih_X10_valueOf_0 : P_X10_valueOf_0 l Z L n) (ih_X10_valueOf_9 : P_X10_valueOf_9 l Z L n) : P_X10_valueOf_0 l Z L (n + 1) := by
  intro d S a0 a1 a2 x S1 H
  have H : b_X10_valueOf_0 n d (f_X10_valueOf n) S a0 a1 a2 = some (x, S1) := H
  unfold b_X10_valueOf_0 at H
  refine GA.aload_n dX10_valueOf_0 rfl ?_
  refine GA.iload_n dX10_valueOf_1 rfl ?_
  obtain ⟨hg1, H⟩ := gg_e H
  obtain ⟨hg2, H⟩ := gg_e H
  obtain ⟨x3, S_4, hc5, H⟩ := gc_e H
  refine GA.callV (m_X10_firstOfMap hc5) xs_X10_114 dX10_valueOf_2 (gsT hg2) (by omega) rfl rfl (by omega) (by decide) rfl (Nat.le_of_ble_eq_true rfl) (by omega) (by omega) rfl (fun E S9 hx => hx.elim) (fun v S9 hq => ?_)
  obtain ⟨rfl, rfl⟩ := hq
  refine GA.istore_n dX10_valueOf_5 (by decide) ?_
  refine GA.iconst dX10_valueOf_6 ?_
  refine GA.istore dX10_valueOf_7 (by decide) ?_
  refine GA.locals [(0, .ref (L a0)), (1, .int (J a1)), (2, .ref (L a2)), (3, .int (J x3)), (4, .int (J 0))] ⟨rfl, rfl, rfl, rfl, rfl, trivial⟩ ?_
  exact ih_X10_valueOf_9 _ _ (a0) (a1) (a2) (x3) (0) _ _ H
set_option maxHeartbeats 4000000 in
set_option maxRecDepth 20000 in
theorem t_X10_valueOf_9 {l : Launch} {Z : XZ} {L : Nat → Nat} (n : Nat) (ih_X10_valueOf_0 : P_X10_valueOf_0 l Z L n) (ih_X10_valueOf_9 : P_X10_valueOf_9 l Z L n) : P_X10_valueOf_9 l Z L (n + 1) := by
  intro d S a0 a1 a2 a3 a4 x S1 H
  have H : b_X10_valueOf_9 n d (f_X10_valueOf n) S a0 a1 a2 a3 a4 = some (x, S1) := H
  unfold b_X10_valueOf_9 at H
  refine GA.iload_n dX10_valueOf_9 rfl ?_
  refine GA.iconst dX10_valueOf_10 ?_
  obtain ⟨hg1, H⟩ := gg_e H
  refine GV.icmp_eq (tgt := 45) hg1 (by decide) dX10_valueOf_11 (by decide) (fun c2 => ?_) (fun c2 => ?_)
  · have H := it_t H c2
    refine GA.iconst dX10_valueOf_45 ?_
    cases H
    exact GA.iret rfl dX10_valueOf_46 (by omega) (by omega) ⟨rfl, rfl⟩
  · have H := it_f H c2
    refine GA.iload dX10_valueOf_14 rfl ?_
    refine GA.bipush dX10_valueOf_16 rfl ?_
    obtain ⟨hg3, H⟩ := gg_e H
    refine GV.icmp_ge (tgt := 45) hg3 (by decide) dX10_valueOf_18 (by decide) (fun c4 => ?_) (fun c4 => ?_)
    · have H := it_t H c4
      refine GA.iconst dX10_valueOf_45 ?_
      cases H
      exact GA.iret rfl dX10_valueOf_46 (by omega) (by omega) ⟨rfl, rfl⟩
    · have H := it_f H c4
      refine GA.aload_n dX10_valueOf_21 rfl ?_
      refine GA.iload_n dX10_valueOf_22 rfl ?_
      refine GA.aload_n dX10_valueOf_23 rfl ?_
      obtain ⟨hg5, H⟩ := gg_e H
      obtain ⟨hg6, H⟩ := gg_e H
      obtain ⟨x7, S_8, hc9, H⟩ := gc_e H
      refine GA.callV (m_X10_hasKey hc9) xs_X10_168 dX10_valueOf_24 (gsT hg6) (by omega) rfl rfl (by omega) (by decide) rfl (Nat.le_of_ble_eq_true rfl) (by omega) (by omega) rfl (fun E S9 hx => hx.elim) (fun v S9 hq => ?_)
      obtain ⟨rfl, rfl⟩ := hq
      obtain ⟨hg10, H⟩ := gg_e H
      refine GV.if_eq (tgt := 32) hg10 dX10_valueOf_27 (by decide) (fun c11 => ?_) (fun c11 => ?_)
      · have H := it_t H c11
        refine GA.aload_n dX10_valueOf_32 rfl ?_
        refine GA.iload_n dX10_valueOf_33 rfl ?_
        refine GA.iload_n dX10_valueOf_34 rfl ?_
        obtain ⟨x12, S_13, hc14, H⟩ := gc_e H
        refine GA.callV (m_X10_next hc14) xs_X10_56 dX10_valueOf_35 (gsT hg6) (by omega) rfl rfl (by omega) (by decide) rfl (Nat.le_of_ble_eq_true rfl) (by omega) (by omega) rfl (fun E S9 hx => hx.elim) (fun v S9 hq => ?_)
        obtain ⟨rfl, rfl⟩ := hq
        refine GA.istore_n dX10_valueOf_38 (by decide) ?_
        obtain ⟨x15, hx16, H⟩ := gv_e H
        refine GV.iinc hx16 dX10_valueOf_39 rfl (by decide) ?_
        refine GA.goto (tgt := 9) dX10_valueOf_42 (by decide) ?_
        refine GA.locals [(0, .ref (L a0)), (1, .int (J a1)), (2, .ref (L a2)), (3, .int (J x12)), (4, .int (J x15))] ⟨rfl, rfl, rfl, rfl, rfl, trivial⟩ ?_
        exact ih_X10_valueOf_9 _ _ (a0) (a1) (a2) (x12) (x15) _ _ H
      · have H := it_f H c11
        refine GA.iload_n dX10_valueOf_30 rfl ?_
        cases H
        exact GA.iret rfl dX10_valueOf_31 (by omega) (by omega) ⟨rfl, rfl⟩
theorem g_X10_valueOf {l : Launch} {Z : XZ} {L : Nat → Nat} : ∀ n, P_X10_valueOf_0 l Z L n ∧ P_X10_valueOf_9 l Z L n
  | 0 => ⟨fun _ _ _ _ _ _ _ H => no_e H, fun _ _ _ _ _ _ _ _ _ H => no_e H⟩
  | n + 1 => have ⟨h0, h1⟩ := g_X10_valueOf (l := l) (Z := Z) (L := L) n
    ⟨t_X10_valueOf_0 n h0 h1, t_X10_valueOf_9 n h0 h1⟩
theorem m_X10_valueOf {l : Launch} {Z : XZ} {L : Nat → Nat} {n d : Nat} {S : GS} {a0 : Nat} {a1 : Int} {a2 : Nat} {x : Int} {S1 : GS} (H : f_X10_valueOf n d 0 S [((a0 : Nat) : Int), a1, ((a2 : Nat) : Int)] = some (x, S1)) : GM l Z L yX10_valueOf cX10_valueOf 5 (some .int) [] d 0 0 [.ref (L a0), .int (J a1), .ref (L a2)] S (fun v S' => v = some (.int (J x)) ∧ S1 = S') (fun _ _ => False) := GM.of (by decide) (Nat.le_of_ble_eq_true rfl) ((g_X10_valueOf n).1 _ _ _ _ _ _ _ H)

def P_X10_says_0 (l : Launch) (Z : XZ) (L : Nat → Nat) (n : Nat) : Prop := ∀ (d : Nat) (S : GS) (a0 : Nat) (a1 : Int) (a2 : Nat) (x : Int) (S1 : GS), f_X10_says n d 0 S [((a0 : Nat) : Int), a1, ((a2 : Nat) : Int)] = some (x, S1) → GA l Z L yX10_says cX10_says 5 (some .boolean) [] d 0 0 (fun v S' => v = some (.int (J x)) ∧ S1 = S') (fun _ _ => False) 0 (gl [(0, .ref (L a0)), (1, .int (J a1)), (2, .ref (Z.2.1 a2))]) [] S 0 0
def P_X10_says_30 (l : Launch) (Z : XZ) (L : Nat → Nat) (n : Nat) : Prop := ∀ (d : Nat) (S : GS) (a0 : Nat) (a1 : Int) (a2 : Nat) (a3 : Int) (a4 : Int) (x : Int) (S1 : GS), f_X10_says n d 30 S [((a0 : Nat) : Int), a1, ((a2 : Nat) : Int), a3, a4] = some (x, S1) → GA l Z L yX10_says cX10_says 5 (some .boolean) [] d 0 0 (fun v S' => v = some (.int (J x)) ∧ S1 = S') (fun _ _ => False) 30 (gl [(0, .ref (L a0)), (1, .int (J a1)), (2, .ref (Z.2.1 a2)), (3, .int (J a3)), (4, .int (J a4))]) [] S 0 0
theorem i_X10_says {l : Launch} {Z : XZ} {L : Nat → Nat} {n : Nat} (ih : P_X10_says_0 l Z L n) {d : Nat} {S : GS} {a0 : Nat} {a1 : Int} {a2 : Nat} {x : Int} {S1 : GS} (H : f_X10_says n d 0 S [((a0 : Nat) : Int), a1, ((a2 : Nat) : Int)] = some (x, S1)) : GM l Z L yX10_says cX10_says 5 (some .boolean) [] d 0 0 [.ref (L a0), .int (J a1), .ref (Z.2.1 a2)] S (fun v S' => v = some (.int (J x)) ∧ S1 = S') (fun _ _ => False) := GM.of (by decide) (Nat.le_of_ble_eq_true rfl) (ih _ _ _ _ _ _ _ H)
set_option maxHeartbeats 4000000 in
set_option maxRecDepth 20000 in
theorem t_X10_says_0 {l : Launch} {Z : XZ} {L : Nat → Nat} (n : Nat) (ih_X10_says_0 : P_X10_says_0 l Z L n) (ih_X10_says_30 : P_X10_says_30 l Z L n) : P_X10_says_0 l Z L (n + 1) := by
  intro d S a0 a1 a2 x S1 H
  have H : b_X10_says_0 n d (f_X10_says n) S a0 a1 a2 = some (x, S1) := H
  unfold b_X10_says_0 at H
  refine GA.aload_n dX10_says_0 rfl ?_
  refine GA.iload_n dX10_says_1 rfl ?_
  refine GA.iconst dX10_says_2 ?_
  obtain ⟨hg1, H⟩ := gg_e H
  obtain ⟨hg2, H⟩ := gg_e H
  obtain ⟨x3, S_4, hc5, H⟩ := gc_e H
  refine GA.callV (m_X10_is hc5) xs_X10_42 dX10_says_3 (gsT hg2) (by omega) rfl rfl (by omega) (by decide) rfl (Nat.le_of_ble_eq_true rfl) (by omega) (by omega) rfl (fun E S9 hx => hx.elim) (fun v S9 hq => ?_)
  obtain ⟨rfl, rfl⟩ := hq
  obtain ⟨hg6, H⟩ := gg_e H
  refine GV.if_eq (tgt := 25) hg6 dX10_says_6 (by decide) (fun c7 => ?_) (fun c7 => ?_)
  · have H := it_t H c7
    refine GA.iconst dX10_says_25 ?_
    refine GA.istore_n dX10_says_26 (by decide) ?_
    refine GA.iconst dX10_says_27 ?_
    refine GA.istore dX10_says_28 (by decide) ?_
    refine GA.locals [(0, .ref (L a0)), (1, .int (J a1)), (2, .ref (Z.2.1 a2)), (3, .int (J 0)), (4, .int (J 0))] ⟨rfl, rfl, rfl, rfl, rfl, trivial⟩ ?_
    exact ih_X10_says_30 _ _ (a0) (a1) (a2) (0) (0) _ _ H
  · have H := it_f H c7
    refine GA.aload_n dX10_says_9 rfl ?_
    refine GA.iload_n dX10_says_10 rfl ?_
    obtain ⟨x8, S_9, hc10, H⟩ := gc_e H
    refine GA.callV (m_X10_lengthOf hc10) xs_X10_139 dX10_says_11 (gsT hg2) (by omega) rfl rfl (by omega) (by decide) rfl (Nat.le_of_ble_eq_true rfl) (by omega) (by omega) rfl (fun E S9 hx => hx.elim) (fun v S9 hq => ?_)
    obtain ⟨rfl, rfl⟩ := hq
    refine GA.aload_n dX10_says_14 rfl ?_
    obtain ⟨hg11, H⟩ := gg_e H
    obtain ⟨hg12, H⟩ := gg_e H
    obtain ⟨x13, hx14, H⟩ := gv_e H
    refine GV.strLen hg11 hx14 xs_X10_149 dX10_says_15 hg12 (Nat.le_of_ble_eq_true rfl) (by omega) (by omega) ?_
    obtain ⟨hg15, H⟩ := gg_e H
    obtain ⟨hg16, H⟩ := gg_e H
    refine GV.icmp_ne (tgt := 25) hg15 hg16 dX10_says_18 (by decide) (fun c17 => ?_) (fun c17 => ?_)
    · have H := it_t H c17
      refine GA.iconst dX10_says_25 ?_
      refine GA.istore_n dX10_says_26 (by decide) ?_
      refine GA.iconst dX10_says_27 ?_
      refine GA.istore dX10_says_28 (by decide) ?_
      refine GA.locals [(0, .ref (L a0)), (1, .int (J a1)), (2, .ref (Z.2.1 a2)), (3, .int (J 0)), (4, .int (J 0))] ⟨rfl, rfl, rfl, rfl, rfl, trivial⟩ ?_
      exact ih_X10_says_30 _ _ (a0) (a1) (a2) (0) (0) _ _ H
    · have H := it_f H c17
      refine GA.iconst dX10_says_21 ?_
      refine GA.goto (tgt := 26) dX10_says_22 (by decide) ?_
      refine GA.istore_n dX10_says_26 (by decide) ?_
      refine GA.iconst dX10_says_27 ?_
      refine GA.istore dX10_says_28 (by decide) ?_
      refine GA.locals [(0, .ref (L a0)), (1, .int (J a1)), (2, .ref (Z.2.1 a2)), (3, .int (J 1)), (4, .int (J 0))] ⟨rfl, rfl, rfl, rfl, rfl, trivial⟩ ?_
      exact ih_X10_says_30 _ _ (a0) (a1) (a2) (1) (0) _ _ H
set_option maxHeartbeats 4000000 in
set_option maxRecDepth 20000 in
theorem t_X10_says_30 {l : Launch} {Z : XZ} {L : Nat → Nat} (n : Nat) (ih_X10_says_0 : P_X10_says_0 l Z L n) (ih_X10_says_30 : P_X10_says_30 l Z L n) : P_X10_says_30 l Z L (n + 1) := by
  intro d S a0 a1 a2 a3 a4 x S1 H
  have H : b_X10_says_30 n d (f_X10_says n) S a0 a1 a2 a3 a4 = some (x, S1) := H
  unfold b_X10_says_30 at H
  refine GA.iload dX10_says_30 rfl ?_
  refine GA.aload_n dX10_says_32 rfl ?_
  obtain ⟨hg1, H⟩ := gg_e H
  obtain ⟨hg2, H⟩ := gg_e H
  obtain ⟨x3, hx4, H⟩ := gv_e H
  refine GV.strLen hg1 hx4 xs_X10_149 dX10_says_33 hg2 (Nat.le_of_ble_eq_true rfl) (by omega) (by omega) ?_
  obtain ⟨hg5, H⟩ := gg_e H
  obtain ⟨hg6, H⟩ := gg_e H
  refine GV.icmp_ge (tgt := 71) hg5 hg6 dX10_says_36 (by decide) (fun c7 => ?_) (fun c7 => ?_)
  · have H := it_t H c7
    refine GA.iload_n dX10_says_71 rfl ?_
    obtain ⟨hg8, H⟩ := gg_e H
    cases H
    exact GV.zret hg8 rfl dX10_says_72 (by omega) (by omega) ⟨rfl, rfl⟩
  · have H := it_f H c7
    refine GA.iload_n dX10_says_39 rfl ?_
    obtain ⟨hg9, H⟩ := gg_e H
    refine GV.if_eq (tgt := 71) hg9 dX10_says_40 (by decide) (fun c10 => ?_) (fun c10 => ?_)
    · have H := it_t H c10
      refine GA.iload_n dX10_says_71 rfl ?_
      obtain ⟨hg11, H⟩ := gg_e H
      cases H
      exact GV.zret hg11 rfl dX10_says_72 (by omega) (by omega) ⟨rfl, rfl⟩
    · have H := it_f H c10
      refine GA.aload_n dX10_says_43 rfl ?_
      refine GA.iload_n dX10_says_44 rfl ?_
      refine GA.iload dX10_says_45 rfl ?_
      obtain ⟨hg12, H⟩ := gg_e H
      obtain ⟨hg13, H⟩ := gg_e H
      obtain ⟨x14, S_15, hc16, H⟩ := gc_e H
      refine GA.callV (m_X10_signAt hc16) xs_X10_136 dX10_says_47 (gsT hg13) (by omega) rfl rfl (by omega) (by decide) rfl (Nat.le_of_ble_eq_true rfl) (by omega) (by omega) rfl (fun E S9 hx => hx.elim) (fun v S9 hq => ?_)
      obtain ⟨rfl, rfl⟩ := hq
      refine GA.aload_n dX10_says_50 rfl ?_
      refine GA.iload dX10_says_51 rfl ?_
      obtain ⟨hg17, H⟩ := gg_e H
      obtain ⟨hg18, H⟩ := gg_e H
      obtain ⟨x19, hx20, H⟩ := gv_e H
      refine GV.strChar hg1 hg18 hx20 xs_X10_152 dX10_says_53 hg17 (Nat.le_of_ble_eq_true rfl) (by omega) (by omega) ?_
      obtain ⟨hg21, H⟩ := gg_e H
      obtain ⟨hg22, H⟩ := gg_e H
      refine GV.icmp_ne (tgt := 63) hg21 hg22 dX10_says_56 (by decide) (fun c23 => ?_) (fun c23 => ?_)
      · have H := it_t H c23
        refine GA.iconst dX10_says_63 ?_
        refine GA.istore_n dX10_says_64 (by decide) ?_
        obtain ⟨x24, hx25, H⟩ := gv_e H
        refine GV.iinc hx25 dX10_says_65 rfl (by decide) ?_
        refine GA.goto (tgt := 30) dX10_says_68 (by decide) ?_
        refine GA.locals [(0, .ref (L a0)), (1, .int (J a1)), (2, .ref (Z.2.1 a2)), (3, .int (J 0)), (4, .int (J x24))] ⟨rfl, rfl, rfl, rfl, rfl, trivial⟩ ?_
        exact ih_X10_says_30 _ _ (a0) (a1) (a2) (0) (x24) _ _ H
      · have H := it_f H c23
        refine GA.iconst dX10_says_59 ?_
        refine GA.goto (tgt := 64) dX10_says_60 (by decide) ?_
        refine GA.istore_n dX10_says_64 (by decide) ?_
        obtain ⟨x26, hx27, H⟩ := gv_e H
        refine GV.iinc hx27 dX10_says_65 rfl (by decide) ?_
        refine GA.goto (tgt := 30) dX10_says_68 (by decide) ?_
        refine GA.locals [(0, .ref (L a0)), (1, .int (J a1)), (2, .ref (Z.2.1 a2)), (3, .int (J 1)), (4, .int (J x26))] ⟨rfl, rfl, rfl, rfl, rfl, trivial⟩ ?_
        exact ih_X10_says_30 _ _ (a0) (a1) (a2) (1) (x26) _ _ H
theorem g_X10_says {l : Launch} {Z : XZ} {L : Nat → Nat} : ∀ n, P_X10_says_0 l Z L n ∧ P_X10_says_30 l Z L n
  | 0 => ⟨fun _ _ _ _ _ _ _ H => no_e H, fun _ _ _ _ _ _ _ _ _ H => no_e H⟩
  | n + 1 => have ⟨h0, h1⟩ := g_X10_says (l := l) (Z := Z) (L := L) n
    ⟨t_X10_says_0 n h0 h1, t_X10_says_30 n h0 h1⟩
theorem m_X10_says {l : Launch} {Z : XZ} {L : Nat → Nat} {n d : Nat} {S : GS} {a0 : Nat} {a1 : Int} {a2 : Nat} {x : Int} {S1 : GS} (H : f_X10_says n d 0 S [((a0 : Nat) : Int), a1, ((a2 : Nat) : Int)] = some (x, S1)) : GM l Z L yX10_says cX10_says 5 (some .boolean) [] d 0 0 [.ref (L a0), .int (J a1), .ref (Z.2.1 a2)] S (fun v S' => v = some (.int (J x)) ∧ S1 = S') (fun _ _ => False) := GM.of (by decide) (Nat.le_of_ble_eq_true rfl) ((g_X10_says n).1 _ _ _ _ _ _ _ H)

def P_X10_power_0 (l : Launch) (Z : XZ) (L : Nat → Nat) (n : Nat) : Prop := ∀ (d : Nat) (S : GS) (a0 : Nat) (a1 : Int) (x : Int) (S1 : GS), f_X10_power n d 0 S [((a0 : Nat) : Int), a1] = some (x, S1) → GA l Z L yX10_power cX10_power 2 (some .int) [] d 0 0 (fun v S' => v = some (.int (J x)) ∧ S1 = S') (fun _ _ => False) 0 (gl [(0, .ref (L a0)), (1, .int (J a1))]) [] S 0 0
theorem i_X10_power {l : Launch} {Z : XZ} {L : Nat → Nat} {n : Nat} (ih : P_X10_power_0 l Z L n) {d : Nat} {S : GS} {a0 : Nat} {a1 : Int} {x : Int} {S1 : GS} (H : f_X10_power n d 0 S [((a0 : Nat) : Int), a1] = some (x, S1)) : GM l Z L yX10_power cX10_power 2 (some .int) [] d 0 0 [.ref (L a0), .int (J a1)] S (fun v S' => v = some (.int (J x)) ∧ S1 = S') (fun _ _ => False) := GM.of (by decide) (Nat.le_of_ble_eq_true rfl) (ih _ _ _ _ _ _ H)
set_option maxHeartbeats 4000000 in
set_option maxRecDepth 20000 in
theorem t_X10_power_0 {l : Launch} {Z : XZ} {L : Nat → Nat} (n : Nat) (ih_X10_power_0 : P_X10_power_0 l Z L n) : P_X10_power_0 l Z L (n + 1) := by
  intro d S a0 a1 x S1 H
  have H : b_X10_power_0 n d (f_X10_power n) S a0 a1 = some (x, S1) := H
  unfold b_X10_power_0 at H
  refine GA.aload_n dX10_power_0 rfl ?_
  refine GA.iload_n dX10_power_1 rfl ?_
  refine GA.iconst dX10_power_2 ?_
  obtain ⟨hg1, H⟩ := gg_e H
  obtain ⟨hg2, H⟩ := gg_e H
  obtain ⟨x3, S_4, hc5, H⟩ := gc_e H
  refine GA.callV (m_X10_is hc5) xs_X10_42 dX10_power_3 (gsT hg2) (by omega) rfl rfl (by omega) (by decide) rfl (Nat.le_of_ble_eq_true rfl) (by omega) (by omega) rfl (fun E S9 hx => hx.elim) (fun v S9 hq => ?_)
  obtain ⟨rfl, rfl⟩ := hq
  obtain ⟨hg6, H⟩ := gg_e H
  refine GV.if_eq (tgt := 18) hg6 dX10_power_6 (by decide) (fun c7 => ?_) (fun c7 => ?_)
  · have H := it_t H c7
    refine GA.iconst dX10_power_18 ?_
    cases H
    exact GA.iret rfl dX10_power_19 (by omega) (by omega) ⟨rfl, rfl⟩
  · have H := it_f H c7
    refine GA.aload_n dX10_power_9 rfl ?_
    refine GA.get xf_X10_18 dX10_power_10 (gsT hg2) (by omega) rfl ?_
    refine GA.iload_n dX10_power_13 rfl ?_
    obtain ⟨hg8, H⟩ := gg_e H
    obtain ⟨x9, hx10, H⟩ := gv_e H
    refine GV.iald hg8 hx10 dX10_power_14 (gsT3 hg2) (by omega) ?_
    refine GA.goto (tgt := 19) dX10_power_15 (by decide) ?_
    cases H
    exact GA.iret rfl dX10_power_19 (by omega) (by omega) ⟨rfl, rfl⟩
theorem g_X10_power {l : Launch} {Z : XZ} {L : Nat → Nat} : ∀ n, P_X10_power_0 l Z L n
  | 0 => fun _ _ _ _ _ _ H => no_e H
  | n + 1 => t_X10_power_0 n (g_X10_power n)
theorem m_X10_power {l : Launch} {Z : XZ} {L : Nat → Nat} {n d : Nat} {S : GS} {a0 : Nat} {a1 : Int} {x : Int} {S1 : GS} (H : f_X10_power n d 0 S [((a0 : Nat) : Int), a1] = some (x, S1)) : GM l Z L yX10_power cX10_power 2 (some .int) [] d 0 0 [.ref (L a0), .int (J a1)] S (fun v S' => v = some (.int (J x)) ∧ S1 = S') (fun _ _ => False) := GM.of (by decide) (Nat.le_of_ble_eq_true rfl) ((g_X10_power n) _ _ _ _ _ _ H)

def P_X10_kind_0 (l : Launch) (Z : XZ) (L : Nat → Nat) (n : Nat) : Prop := ∀ (d : Nat) (S : GS) (a0 : Nat) (a1 : Int) (x : Int) (S1 : GS), f_X10_kind n d 0 S [((a0 : Nat) : Int), a1] = some (x, S1) → GA l Z L yX10_kind cX10_kind 2 (some .int) [] d 0 0 (fun v S' => v = some (.int (J x)) ∧ S1 = S') (fun _ _ => False) 0 (gl [(0, .ref (L a0)), (1, .int (J a1))]) [] S 0 0
theorem i_X10_kind {l : Launch} {Z : XZ} {L : Nat → Nat} {n : Nat} (ih : P_X10_kind_0 l Z L n) {d : Nat} {S : GS} {a0 : Nat} {a1 : Int} {x : Int} {S1 : GS} (H : f_X10_kind n d 0 S [((a0 : Nat) : Int), a1] = some (x, S1)) : GM l Z L yX10_kind cX10_kind 2 (some .int) [] d 0 0 [.ref (L a0), .int (J a1)] S (fun v S' => v = some (.int (J x)) ∧ S1 = S') (fun _ _ => False) := GM.of (by decide) (Nat.le_of_ble_eq_true rfl) (ih _ _ _ _ _ _ H)
set_option maxHeartbeats 4000000 in
set_option maxRecDepth 20000 in
theorem t_X10_kind_0 {l : Launch} {Z : XZ} {L : Nat → Nat} (n : Nat) (ih_X10_kind_0 : P_X10_kind_0 l Z L n) : P_X10_kind_0 l Z L (n + 1) := by
  intro d S a0 a1 x S1 H
  have H : b_X10_kind_0 n d (f_X10_kind n) S a0 a1 = some (x, S1) := H
  unfold b_X10_kind_0 at H
  refine GA.iload_n dX10_kind_0 rfl ?_
  obtain ⟨hg1, H⟩ := gg_e H
  refine GV.if_lt (tgt := 27) hg1 dX10_kind_1 (by decide) (fun c2 => ?_) (fun c2 => ?_)
  · have H := it_t H c2
    refine GA.iconst dX10_kind_27 ?_
    cases H
    exact GA.iret rfl dX10_kind_28 (by omega) (by omega) ⟨rfl, rfl⟩
  · have H := it_f H c2
    refine GA.iload_n dX10_kind_4 rfl ?_
    refine GA.aload_n dX10_kind_5 rfl ?_
    obtain ⟨hg3, H⟩ := gg_e H
    obtain ⟨x4, hx5, H⟩ := gv_e H
    refine GV.getI hx5 xf_X10_34 dX10_kind_6 (gsT hg3) (by omega) rfl ?_
    obtain ⟨hg6, H⟩ := gg_e H
    refine GV.icmp_ge (tgt := 27) hg1 hg6 dX10_kind_9 (by decide) (fun c7 => ?_) (fun c7 => ?_)
    · have H := it_t H c7
      refine GA.iconst dX10_kind_27 ?_
      cases H
      exact GA.iret rfl dX10_kind_28 (by omega) (by omega) ⟨rfl, rfl⟩
    · have H := it_f H c7
      refine GA.iload_n dX10_kind_12 rfl ?_
      refine GA.bipush dX10_kind_13 rfl ?_
      refine GV.icmp_ge (tgt := 27) hg1 (by decide) dX10_kind_15 (by decide) (fun c8 => ?_) (fun c8 => ?_)
      · have H := it_t H c8
        refine GA.iconst dX10_kind_27 ?_
        cases H
        exact GA.iret rfl dX10_kind_28 (by omega) (by omega) ⟨rfl, rfl⟩
      · have H := it_f H c8
        refine GA.aload_n dX10_kind_18 rfl ?_
        refine GA.get xf_X10_9 dX10_kind_19 (gsT hg3) (by omega) rfl ?_
        refine GA.iload_n dX10_kind_22 rfl ?_
        obtain ⟨hg9, H⟩ := gg_e H
        obtain ⟨x10, hx11, H⟩ := gv_e H
        refine GV.iald hg9 hx11 dX10_kind_23 (gsT1 hg3) (by omega) ?_
        refine GA.goto (tgt := 28) dX10_kind_24 (by decide) ?_
        cases H
        exact GA.iret rfl dX10_kind_28 (by omega) (by omega) ⟨rfl, rfl⟩
theorem g_X10_kind {l : Launch} {Z : XZ} {L : Nat → Nat} : ∀ n, P_X10_kind_0 l Z L n
  | 0 => fun _ _ _ _ _ _ H => no_e H
  | n + 1 => t_X10_kind_0 n (g_X10_kind n)
theorem m_X10_kind {l : Launch} {Z : XZ} {L : Nat → Nat} {n d : Nat} {S : GS} {a0 : Nat} {a1 : Int} {x : Int} {S1 : GS} (H : f_X10_kind n d 0 S [((a0 : Nat) : Int), a1] = some (x, S1)) : GM l Z L yX10_kind cX10_kind 2 (some .int) [] d 0 0 [.ref (L a0), .int (J a1)] S (fun v S' => v = some (.int (J x)) ∧ S1 = S') (fun _ _ => False) := GM.of (by decide) (Nat.le_of_ble_eq_true rfl) ((g_X10_kind n) _ _ _ _ _ _ H)

def P_X10_signOf_0 (l : Launch) (Z : XZ) (L : Nat → Nat) (n : Nat) : Prop := ∀ (d : Nat) (S : GS) (a0 : Nat) (a1 : Int) (x : Int) (S1 : GS), f_X10_signOf n d 0 S [((a0 : Nat) : Int), a1] = some (x, S1) → GA l Z L yX10_signOf cX10_signOf 3 (some .int) [] d 0 0 (fun v S' => v = some (.int (J x)) ∧ S1 = S') (fun _ _ => False) 0 (gl [(0, .ref (L a0)), (1, .int (J a1))]) [] S 0 0
theorem i_X10_signOf {l : Launch} {Z : XZ} {L : Nat → Nat} {n : Nat} (ih : P_X10_signOf_0 l Z L n) {d : Nat} {S : GS} {a0 : Nat} {a1 : Int} {x : Int} {S1 : GS} (H : f_X10_signOf n d 0 S [((a0 : Nat) : Int), a1] = some (x, S1)) : GM l Z L yX10_signOf cX10_signOf 3 (some .int) [] d 0 0 [.ref (L a0), .int (J a1)] S (fun v S' => v = some (.int (J x)) ∧ S1 = S') (fun _ _ => False) := GM.of (by decide) (Nat.le_of_ble_eq_true rfl) (ih _ _ _ _ _ _ H)
set_option maxHeartbeats 4000000 in
set_option maxRecDepth 20000 in
theorem t_X10_signOf_0 {l : Launch} {Z : XZ} {L : Nat → Nat} (n : Nat) (ih_X10_signOf_0 : P_X10_signOf_0 l Z L n) : P_X10_signOf_0 l Z L (n + 1) := by
  intro d S a0 a1 x S1 H
  have H : b_X10_signOf_0 n d (f_X10_signOf n) S a0 a1 = some (x, S1) := H
  unfold b_X10_signOf_0 at H
  refine GA.aload_n dX10_signOf_0 rfl ?_
  refine GA.iload_n dX10_signOf_1 rfl ?_
  refine GA.iconst dX10_signOf_2 ?_
  obtain ⟨hg1, H⟩ := gg_e H
  obtain ⟨hg2, H⟩ := gg_e H
  obtain ⟨x3, S_4, hc5, H⟩ := gc_e H
  refine GA.callV (m_X10_signAt hc5) xs_X10_136 dX10_signOf_3 (gsT hg2) (by omega) rfl rfl (by omega) (by decide) rfl (Nat.le_of_ble_eq_true rfl) (by omega) (by omega) rfl (fun E S9 hx => hx.elim) (fun v S9 hq => ?_)
  obtain ⟨rfl, rfl⟩ := hq
  refine GA.istore_n dX10_signOf_6 (by decide) ?_
  refine GA.iload_n dX10_signOf_7 rfl ?_
  refine GA.bipush dX10_signOf_8 rfl ?_
  obtain ⟨hg6, H⟩ := gg_e H
  refine GV.icmp_ne (tgt := 15) hg6 (by decide) dX10_signOf_10 (by decide) (fun c7 => ?_) (fun c7 => ?_)
  · have H := it_t H c7
    refine GA.iload_n dX10_signOf_15 rfl ?_
    refine GA.bipush dX10_signOf_16 rfl ?_
    refine GV.icmp_ne (tgt := 25) hg6 (by decide) dX10_signOf_18 (by decide) (fun c8 => ?_) (fun c8 => ?_)
    · have H := it_t H c8
      refine GA.iconst dX10_signOf_25 ?_
      cases H
      exact GA.iret rfl dX10_signOf_26 (by omega) (by omega) ⟨rfl, rfl⟩
    · have H := it_f H c8
      refine GA.iconst dX10_signOf_21 ?_
      refine GA.goto (tgt := 26) dX10_signOf_22 (by decide) ?_
      cases H
      exact GA.iret rfl dX10_signOf_26 (by omega) (by omega) ⟨rfl, rfl⟩
  · have H := it_f H c7
    refine GA.iconst dX10_signOf_13 ?_
    cases H
    exact GA.iret rfl dX10_signOf_14 (by omega) (by omega) ⟨rfl, rfl⟩
theorem g_X10_signOf {l : Launch} {Z : XZ} {L : Nat → Nat} : ∀ n, P_X10_signOf_0 l Z L n
  | 0 => fun _ _ _ _ _ _ H => no_e H
  | n + 1 => t_X10_signOf_0 n (g_X10_signOf n)
theorem m_X10_signOf {l : Launch} {Z : XZ} {L : Nat → Nat} {n d : Nat} {S : GS} {a0 : Nat} {a1 : Int} {x : Int} {S1 : GS} (H : f_X10_signOf n d 0 S [((a0 : Nat) : Int), a1] = some (x, S1)) : GM l Z L yX10_signOf cX10_signOf 3 (some .int) [] d 0 0 [.ref (L a0), .int (J a1)] S (fun v S' => v = some (.int (J x)) ∧ S1 = S') (fun _ _ => False) := GM.of (by decide) (Nat.le_of_ble_eq_true rfl) ((g_X10_signOf n) _ _ _ _ _ _ H)

def P_X10_order_0 (l : Launch) (Z : XZ) (L : Nat → Nat) (n : Nat) : Prop := ∀ (d : Nat) (S : GS) (a0 : Int) (a1 : Int) (x : Int) (S1 : GS), f_X10_order n d 0 S [a0, a1] = some (x, S1) → GA l Z L yX10_order cX10_order 2 (some .int) [] d 0 0 (fun v S' => v = some (.int (J x)) ∧ S1 = S') (fun _ _ => False) 0 (gl [(0, .int (J a0)), (1, .int (J a1))]) [] S 0 0
theorem i_X10_order {l : Launch} {Z : XZ} {L : Nat → Nat} {n : Nat} (ih : P_X10_order_0 l Z L n) {d : Nat} {S : GS} {a0 : Int} {a1 : Int} {x : Int} {S1 : GS} (H : f_X10_order n d 0 S [a0, a1] = some (x, S1)) : GM l Z L yX10_order cX10_order 2 (some .int) [] d 0 0 [.int (J a0), .int (J a1)] S (fun v S' => v = some (.int (J x)) ∧ S1 = S') (fun _ _ => False) := GM.of (by decide) (Nat.le_of_ble_eq_true rfl) (ih _ _ _ _ _ _ H)
set_option maxHeartbeats 4000000 in
set_option maxRecDepth 20000 in
theorem t_X10_order_0 {l : Launch} {Z : XZ} {L : Nat → Nat} (n : Nat) (ih_X10_order_0 : P_X10_order_0 l Z L n) : P_X10_order_0 l Z L (n + 1) := by
  intro d S a0 a1 x S1 H
  have H : b_X10_order_0 n d (f_X10_order n) S a0 a1 = some (x, S1) := H
  unfold b_X10_order_0 at H
  refine GA.iconst dX10_order_0 ?_
  refine GA.iconst dX10_order_1 ?_
  refine GA.iload_n dX10_order_2 rfl ?_
  refine GA.iload_n dX10_order_3 rfl ?_
  obtain ⟨x1, hx2, H⟩ := gv_e H
  refine GV.isub hx2 dX10_order_4 ?_
  obtain ⟨hg3, H⟩ := gg_e H
  obtain ⟨x4, hx5, H⟩ := gv_e H
  refine GV.mmin (by decide) hg3 hx5 xs_X10_66 dX10_order_5 (Nat.le_of_ble_eq_true rfl) (by omega) (by omega) ?_
  obtain ⟨hg6, H⟩ := gg_e H
  obtain ⟨x7, hx8, H⟩ := gv_e H
  refine GV.mmax (by decide) hg6 hx8 xs_X10_46 dX10_order_8 (Nat.le_of_ble_eq_true rfl) (by omega) (by omega) ?_
  cases H
  exact GA.iret rfl dX10_order_11 (by omega) (by omega) ⟨rfl, rfl⟩
theorem g_X10_order {l : Launch} {Z : XZ} {L : Nat → Nat} : ∀ n, P_X10_order_0 l Z L n
  | 0 => fun _ _ _ _ _ _ H => no_e H
  | n + 1 => t_X10_order_0 n (g_X10_order n)
theorem m_X10_order {l : Launch} {Z : XZ} {L : Nat → Nat} {n d : Nat} {S : GS} {a0 : Int} {a1 : Int} {x : Int} {S1 : GS} (H : f_X10_order n d 0 S [a0, a1] = some (x, S1)) : GM l Z L yX10_order cX10_order 2 (some .int) [] d 0 0 [.int (J a0), .int (J a1)] S (fun v S' => v = some (.int (J x)) ∧ S1 = S') (fun _ _ => False) := GM.of (by decide) (Nat.le_of_ble_eq_true rfl) ((g_X10_order n) _ _ _ _ _ _ H)

def P_X10_figures_0 (l : Launch) (Z : XZ) (L : Nat → Nat) (n : Nat) : Prop := ∀ (d : Nat) (S : GS) (a0 : Nat) (a1 : Int) (x : Int) (S1 : GS), f_X10_figures n d 0 S [((a0 : Nat) : Int), a1] = some (x, S1) → GA l Z L yX10_figures cX10_figures 2 (some .int) [] d 0 0 (fun v S' => v = some (.int (J x)) ∧ S1 = S') (fun _ _ => False) 0 (gl [(0, .ref (L a0)), (1, .int (J a1))]) [] S 0 0
theorem i_X10_figures {l : Launch} {Z : XZ} {L : Nat → Nat} {n : Nat} (ih : P_X10_figures_0 l Z L n) {d : Nat} {S : GS} {a0 : Nat} {a1 : Int} {x : Int} {S1 : GS} (H : f_X10_figures n d 0 S [((a0 : Nat) : Int), a1] = some (x, S1)) : GM l Z L yX10_figures cX10_figures 2 (some .int) [] d 0 0 [.ref (L a0), .int (J a1)] S (fun v S' => v = some (.int (J x)) ∧ S1 = S') (fun _ _ => False) := GM.of (by decide) (Nat.le_of_ble_eq_true rfl) (ih _ _ _ _ _ _ H)
set_option maxHeartbeats 4000000 in
set_option maxRecDepth 20000 in
theorem t_X10_figures_0 {l : Launch} {Z : XZ} {L : Nat → Nat} (n : Nat) (ih_X10_figures_0 : P_X10_figures_0 l Z L n) : P_X10_figures_0 l Z L (n + 1) := by
  intro d S a0 a1 x S1 H
  have H : b_X10_figures_0 n d (f_X10_figures n) S a0 a1 = some (x, S1) := H
  unfold b_X10_figures_0 at H
  refine GA.aload_n dX10_figures_0 rfl ?_
  refine GA.iload_n dX10_figures_1 rfl ?_
  refine GA.iconst dX10_figures_2 ?_
  obtain ⟨hg1, H⟩ := gg_e H
  obtain ⟨hg2, H⟩ := gg_e H
  obtain ⟨x3, S_4, hc5, H⟩ := gc_e H
  refine GA.callV (m_X10_is hc5) xs_X10_42 dX10_figures_3 (gsT hg2) (by omega) rfl rfl (by omega) (by decide) rfl (Nat.le_of_ble_eq_true rfl) (by omega) (by omega) rfl (fun E S9 hx => hx.elim) (fun v S9 hq => ?_)
  obtain ⟨rfl, rfl⟩ := hq
  obtain ⟨hg6, H⟩ := gg_e H
  refine GV.if_ne (tgt := 11) hg6 dX10_figures_6 (by decide) (fun c7 => ?_) (fun c7 => ?_)
  · have H := it_t H c7
    refine GA.aload_n dX10_figures_11 rfl ?_
    refine GA.get xf_X10_21 dX10_figures_12 (gsT hg2) (by omega) rfl ?_
    refine GA.iload_n dX10_figures_15 rfl ?_
    obtain ⟨hg8, H⟩ := gg_e H
    obtain ⟨x9, hx10, H⟩ := gv_e H
    refine GV.iald hg8 hx10 dX10_figures_16 (gsT4 hg2) (by omega) ?_
    refine GA.aload_n dX10_figures_17 rfl ?_
    refine GA.iload_n dX10_figures_18 rfl ?_
    refine GA.iconst dX10_figures_19 ?_
    obtain ⟨x11, S_12, hc13, H⟩ := gc_e H
    refine GA.callV (m_X10_signAt hc13) xs_X10_136 dX10_figures_20 (gsT hg2) (by omega) rfl rfl (by omega) (by decide) rfl (Nat.le_of_ble_eq_true rfl) (by omega) (by omega) rfl (fun E S9 hx => hx.elim) (fun v S9 hq => ?_)
    obtain ⟨rfl, rfl⟩ := hq
    refine GA.bipush dX10_figures_23 rfl ?_
    obtain ⟨hg14, H⟩ := gg_e H
    refine GV.icmp_ne (tgt := 32) hg14 (by decide) dX10_figures_25 (by decide) (fun c15 => ?_) (fun c15 => ?_)
    · have H := it_t H c15
      refine GA.iconst dX10_figures_32 ?_
      obtain ⟨x16, hx17, H⟩ := gv_e H
      refine GV.isub hx17 dX10_figures_33 ?_
      cases H
      exact GA.iret rfl dX10_figures_34 (by omega) (by omega) ⟨rfl, rfl⟩
    · have H := it_f H c15
      refine GA.iconst dX10_figures_28 ?_
      refine GA.goto (tgt := 33) dX10_figures_29 (by decide) ?_
      obtain ⟨x18, hx19, H⟩ := gv_e H
      refine GV.isub hx19 dX10_figures_33 ?_
      cases H
      exact GA.iret rfl dX10_figures_34 (by omega) (by omega) ⟨rfl, rfl⟩
  · have H := it_f H c7
    refine GA.iconst dX10_figures_9 ?_
    cases H
    exact GA.iret rfl dX10_figures_10 (by omega) (by omega) ⟨rfl, rfl⟩
theorem g_X10_figures {l : Launch} {Z : XZ} {L : Nat → Nat} : ∀ n, P_X10_figures_0 l Z L n
  | 0 => fun _ _ _ _ _ _ H => no_e H
  | n + 1 => t_X10_figures_0 n (g_X10_figures n)
theorem m_X10_figures {l : Launch} {Z : XZ} {L : Nat → Nat} {n d : Nat} {S : GS} {a0 : Nat} {a1 : Int} {x : Int} {S1 : GS} (H : f_X10_figures n d 0 S [((a0 : Nat) : Int), a1] = some (x, S1)) : GM l Z L yX10_figures cX10_figures 2 (some .int) [] d 0 0 [.ref (L a0), .int (J a1)] S (fun v S' => v = some (.int (J x)) ∧ S1 = S') (fun _ _ => False) := GM.of (by decide) (Nat.le_of_ble_eq_true rfl) ((g_X10_figures n) _ _ _ _ _ _ H)

def P_X10_digit_0 (l : Launch) (Z : XZ) (L : Nat → Nat) (n : Nat) : Prop := ∀ (d : Nat) (S : GS) (a0 : Nat) (a1 : Int) (a2 : Int) (x : Int) (S1 : GS), f_X10_digit n d 0 S [((a0 : Nat) : Int), a1, a2] = some (x, S1) → GA l Z L yX10_digit cX10_digit 4 (some .int) [] d 0 0 (fun v S' => v = some (.int (J x)) ∧ S1 = S') (fun _ _ => False) 0 (gl [(0, .ref (L a0)), (1, .int (J a1)), (2, .int (J a2))]) [] S 0 0
def P_X10_digit_17 (l : Launch) (Z : XZ) (L : Nat → Nat) (n : Nat) : Prop := ∀ (d : Nat) (S : GS) (a0 : Nat) (a1 : Int) (s0 : Int) (s1 : Int) (x : Int) (S1 : GS), f_X10_digit n d 17 S [((a0 : Nat) : Int), a1, s0, s1] = some (x, S1) → GA l Z L yX10_digit cX10_digit 4 (some .int) [] d 0 0 (fun v S' => v = some (.int (J x)) ∧ S1 = S') (fun _ _ => False) 17 (gl [(0, .ref (L a0)), (1, .int (J a1))]) [.int (J s0), .int (J s1)] S 0 0
theorem i_X10_digit {l : Launch} {Z : XZ} {L : Nat → Nat} {n : Nat} (ih : P_X10_digit_0 l Z L n) {d : Nat} {S : GS} {a0 : Nat} {a1 : Int} {a2 : Int} {x : Int} {S1 : GS} (H : f_X10_digit n d 0 S [((a0 : Nat) : Int), a1, a2] = some (x, S1)) : GM l Z L yX10_digit cX10_digit 4 (some .int) [] d 0 0 [.ref (L a0), .int (J a1), .int (J a2)] S (fun v S' => v = some (.int (J x)) ∧ S1 = S') (fun _ _ => False) := GM.of (by decide) (Nat.le_of_ble_eq_true rfl) (ih _ _ _ _ _ _ _ H)
set_option maxHeartbeats 4000000 in
set_option maxRecDepth 20000 in
theorem t_X10_digit_0 {l : Launch} {Z : XZ} {L : Nat → Nat} (n : Nat) (ih_X10_digit_0 : P_X10_digit_0 l Z L n) (ih_X10_digit_17 : P_X10_digit_17 l Z L n) : P_X10_digit_0 l Z L (n + 1) := by
  intro d S a0 a1 a2 x S1 H
  have H : b_X10_digit_0 n d (f_X10_digit n) S a0 a1 a2 = some (x, S1) := H
  unfold b_X10_digit_0 at H
  refine GA.iload_n dX10_digit_0 rfl ?_
  refine GA.aload_n dX10_digit_1 rfl ?_
  refine GA.iload_n dX10_digit_2 rfl ?_
  refine GA.iconst dX10_digit_3 ?_
  obtain ⟨hg1, H⟩ := gg_e H
  obtain ⟨hg2, H⟩ := gg_e H
  obtain ⟨x3, S_4, hc5, H⟩ := gc_e H
  refine GA.callV (m_X10_signAt hc5) xs_X10_136 dX10_digit_4 (gsT hg2) (by omega) rfl rfl (by omega) (by decide) rfl (Nat.le_of_ble_eq_true rfl) (by omega) (by omega) rfl (fun E S9 hx => hx.elim) (fun v S9 hq => ?_)
  obtain ⟨rfl, rfl⟩ := hq
  refine GA.bipush dX10_digit_7 rfl ?_
  obtain ⟨hg6, H⟩ := gg_e H
  refine GV.icmp_ne (tgt := 16) hg6 (by decide) dX10_digit_9 (by decide) (fun c7 => ?_) (fun c7 => ?_)
  · have H := it_t H c7
    refine GA.iconst dX10_digit_16 ?_
    refine GA.locals [(0, .ref (L a0)), (1, .int (J a1))] ⟨rfl, rfl, trivial⟩ ?_
    exact ih_X10_digit_17 _ _ (a0) (a1) (0) (a2) _ _ H
  · have H := it_f H c7
    refine GA.iconst dX10_digit_12 ?_
    refine GA.goto (tgt := 17) dX10_digit_13 (by decide) ?_
    refine GA.locals [(0, .ref (L a0)), (1, .int (J a1))] ⟨rfl, rfl, trivial⟩ ?_
    exact ih_X10_digit_17 _ _ (a0) (a1) (1) (a2) _ _ H
set_option maxHeartbeats 4000000 in
set_option maxRecDepth 20000 in
theorem t_X10_digit_17 {l : Launch} {Z : XZ} {L : Nat → Nat} (n : Nat) (ih_X10_digit_0 : P_X10_digit_0 l Z L n) (ih_X10_digit_17 : P_X10_digit_17 l Z L n) : P_X10_digit_17 l Z L (n + 1) := by
  intro d S a0 a1 s0 s1 x S1 H
  have H : b_X10_digit_17 n d (f_X10_digit n) S a0 a1 s0 s1 = some (x, S1) := H
  unfold b_X10_digit_17 at H
  obtain ⟨x1, hx2, H⟩ := gv_e H
  refine GV.iadd hx2 dX10_digit_17 ?_
  refine GA.istore_n dX10_digit_18 (by decide) ?_
  refine GA.iload_n dX10_digit_19 rfl ?_
  obtain ⟨hg3, H⟩ := gg_e H
  refine GV.if_lt (tgt := 41) hg3 dX10_digit_20 (by decide) (fun c4 => ?_) (fun c4 => ?_)
  · have H := it_t H c4
    refine GA.bipush dX10_digit_41 rfl ?_
    cases H
    exact GA.iret rfl dX10_digit_43 (by omega) (by omega) ⟨rfl, rfl⟩
  · have H := it_f H c4
    refine GA.iload_n dX10_digit_23 rfl ?_
    refine GA.aload_n dX10_digit_24 rfl ?_
    refine GA.iload_n dX10_digit_25 rfl ?_
    obtain ⟨hg5, H⟩ := gg_e H
    obtain ⟨hg6, H⟩ := gg_e H
    obtain ⟨x7, S_8, hc9, H⟩ := gc_e H
    refine GA.callV (m_X10_lengthOf hc9) xs_X10_139 dX10_digit_26 (gsT hg6) (by omega) rfl rfl (by omega) (by decide) rfl (Nat.le_of_ble_eq_true rfl) (by omega) (by omega) rfl (fun E S9 hx => hx.elim) (fun v S9 hq => ?_)
    obtain ⟨rfl, rfl⟩ := hq
    obtain ⟨hg10, H⟩ := gg_e H
    refine GV.icmp_ge (tgt := 41) hg3 hg10 dX10_digit_29 (by decide) (fun c11 => ?_) (fun c11 => ?_)
    · have H := it_t H c11
      refine GA.bipush dX10_digit_41 rfl ?_
      cases H
      exact GA.iret rfl dX10_digit_43 (by omega) (by omega) ⟨rfl, rfl⟩
    · have H := it_f H c11
      refine GA.aload_n dX10_digit_32 rfl ?_
      refine GA.iload_n dX10_digit_33 rfl ?_
      refine GA.iload_n dX10_digit_34 rfl ?_
      obtain ⟨x12, S_13, hc14, H⟩ := gc_e H
      refine GA.callV (m_X10_signAt hc14) xs_X10_136 dX10_digit_35 (gsT hg6) (by omega) rfl rfl (by omega) (by decide) rfl (Nat.le_of_ble_eq_true rfl) (by omega) (by omega) rfl (fun E S9 hx => hx.elim) (fun v S9 hq => ?_)
      obtain ⟨rfl, rfl⟩ := hq
      refine GA.goto (tgt := 43) dX10_digit_38 (by decide) ?_
      cases H
      exact GA.iret rfl dX10_digit_43 (by omega) (by omega) ⟨rfl, rfl⟩
theorem g_X10_digit {l : Launch} {Z : XZ} {L : Nat → Nat} : ∀ n, P_X10_digit_0 l Z L n ∧ P_X10_digit_17 l Z L n
  | 0 => ⟨fun _ _ _ _ _ _ _ H => no_e H, fun _ _ _ _ _ _ _ _ H => no_e H⟩
  | n + 1 => have ⟨h0, h1⟩ := g_X10_digit (l := l) (Z := Z) (L := L) n
    ⟨t_X10_digit_0 n h0 h1, t_X10_digit_17 n h0 h1⟩
theorem m_X10_digit {l : Launch} {Z : XZ} {L : Nat → Nat} {n d : Nat} {S : GS} {a0 : Nat} {a1 : Int} {a2 : Int} {x : Int} {S1 : GS} (H : f_X10_digit n d 0 S [((a0 : Nat) : Int), a1, a2] = some (x, S1)) : GM l Z L yX10_digit cX10_digit 4 (some .int) [] d 0 0 [.ref (L a0), .int (J a1), .int (J a2)] S (fun v S' => v = some (.int (J x)) ∧ S1 = S') (fun _ _ => False) := GM.of (by decide) (Nat.le_of_ble_eq_true rfl) ((g_X10_digit n).1 _ _ _ _ _ _ _ H)

def P_X10_orderOfNumbers_0 (l : Launch) (Z : XZ) (L : Nat → Nat) (n : Nat) : Prop := ∀ (d : Nat) (S : GS) (a0 : Nat) (a1 : Int) (a2 : Nat) (a3 : Int) (x : Int) (S1 : GS), f_X10_orderOfNumbers n d 0 S [((a0 : Nat) : Int), a1, ((a2 : Nat) : Int), a3] = some (x, S1) → GA l Z L yX10_orderOfNumbers cX10_orderOfNumbers 7 (some .int) [] d 0 0 (fun v S' => v = some (.int (J x)) ∧ S1 = S') (fun _ _ => False) 0 (gl [(0, .ref (L a0)), (1, .int (J a1)), (2, .ref (L a2)), (3, .int (J a3))]) [] S 0 0
def P_X10_orderOfNumbers_63 (l : Launch) (Z : XZ) (L : Nat → Nat) (n : Nat) : Prop := ∀ (d : Nat) (S : GS) (a0 : Nat) (a1 : Int) (a2 : Nat) (a3 : Int) (a4 : Int) (a5 : Int) (a6 : Int) (x : Int) (S1 : GS), f_X10_orderOfNumbers n d 63 S [((a0 : Nat) : Int), a1, ((a2 : Nat) : Int), a3, a4, a5, a6] = some (x, S1) → GA l Z L yX10_orderOfNumbers cX10_orderOfNumbers 7 (some .int) [] d 0 0 (fun v S' => v = some (.int (J x)) ∧ S1 = S') (fun _ _ => False) 63 (gl [(0, .ref (L a0)), (1, .int (J a1)), (2, .ref (L a2)), (3, .int (J a3)), (4, .int (J a4)), (5, .int (J a5)), (6, .int (J a6))]) [] S 0 0
theorem i_X10_orderOfNumbers {l : Launch} {Z : XZ} {L : Nat → Nat} {n : Nat} (ih : P_X10_orderOfNumbers_0 l Z L n) {d : Nat} {S : GS} {a0 : Nat} {a1 : Int} {a2 : Nat} {a3 : Int} {x : Int} {S1 : GS} (H : f_X10_orderOfNumbers n d 0 S [((a0 : Nat) : Int), a1, ((a2 : Nat) : Int), a3] = some (x, S1)) : GM l Z L yX10_orderOfNumbers cX10_orderOfNumbers 7 (some .int) [] d 0 0 [.ref (L a0), .int (J a1), .ref (L a2), .int (J a3)] S (fun v S' => v = some (.int (J x)) ∧ S1 = S') (fun _ _ => False) := GM.of (by decide) (Nat.le_of_ble_eq_true rfl) (ih _ _ _ _ _ _ _ _ H)
set_option maxHeartbeats 4000000 in
set_option maxRecDepth 20000 in
theorem t_X10_orderOfNumbers_0 {l : Launch} {Z : XZ} {L : Nat → Nat} (n : Nat) (ih_X10_orderOfNumbers_0 : P_X10_orderOfNumbers_0 l Z L n) (ih_X10_orderOfNumbers_63 : P_X10_orderOfNumbers_63 l Z L n) : P_X10_orderOfNumbers_0 l Z L (n + 1) := by
  intro d S a0 a1 a2 a3 x S1 H
  have H : b_X10_orderOfNumbers_0 n d (f_X10_orderOfNumbers n) S a0 a1 a2 a3 = some (x, S1) := H
  unfold b_X10_orderOfNumbers_0 at H
  refine GA.aload_n dX10_orderOfNumbers_0 rfl ?_
  refine GA.iload_n dX10_orderOfNumbers_1 rfl ?_
  obtain ⟨hg1, H⟩ := gg_e H
  obtain ⟨hg2, H⟩ := gg_e H
  obtain ⟨x3, S_4, hc5, H⟩ := gc_e H
  refine GA.callV (m_X10_signOf hc5) xs_X10_93 dX10_orderOfNumbers_2 (gsT hg2) (by omega) rfl rfl (by omega) (by decide) rfl (Nat.le_of_ble_eq_true rfl) (by omega) (by omega) rfl (fun E S9 hx => hx.elim) (fun v S9 hq => ?_)
  obtain ⟨rfl, rfl⟩ := hq
  refine GA.istore dX10_orderOfNumbers_5 (by decide) ?_
  refine GA.iload dX10_orderOfNumbers_7 rfl ?_
  refine GA.aload_n dX10_orderOfNumbers_9 rfl ?_
  refine GA.iload_n dX10_orderOfNumbers_10 rfl ?_
  obtain ⟨hg6, H⟩ := gg_e H
  obtain ⟨x7, S_8, hc9, H⟩ := gc_e H
  refine GA.callV (m_X10_signOf hc9) xs_X10_93 dX10_orderOfNumbers_11 (gsT hg6) (by omega) rfl rfl (by omega) (by decide) rfl (Nat.le_of_ble_eq_true rfl) (by omega) (by omega) rfl (fun E S9 hx => hx.elim) (fun v S9 hq => ?_)
  obtain ⟨rfl, rfl⟩ := hq
  obtain ⟨hg10, H⟩ := gg_e H
  obtain ⟨hg11, H⟩ := gg_e H
  refine GV.icmp_ne (tgt := 22) hg10 hg11 dX10_orderOfNumbers_14 (by decide) (fun c12 => ?_) (fun c12 => ?_)
  · have H := it_t H c12
    refine GA.iload dX10_orderOfNumbers_22 rfl ?_
    refine GA.aload_n dX10_orderOfNumbers_24 rfl ?_
    refine GA.iload_n dX10_orderOfNumbers_25 rfl ?_
    obtain ⟨x13, S_14, hc15, H⟩ := gc_e H
    refine GA.callV (m_X10_signOf hc15) xs_X10_93 dX10_orderOfNumbers_26 (gsT hg6) (by omega) rfl rfl (by omega) (by decide) rfl (Nat.le_of_ble_eq_true rfl) (by omega) (by omega) rfl (fun E S9 hx => hx.elim) (fun v S9 hq => ?_)
    obtain ⟨rfl, rfl⟩ := hq
    obtain ⟨x16, S_17, hc18, H⟩ := gc_e H
    refine GA.callS (m_X10_order hc18) xs_X10_142 dX10_orderOfNumbers_29 rfl (by omega) (by decide) rfl (Nat.le_of_ble_eq_true rfl) (by omega) (by omega) rfl (fun E S9 hx => hx.elim) (fun v S9 hq => ?_)
    obtain ⟨rfl, rfl⟩ := hq
    cases H
    exact GA.iret rfl dX10_orderOfNumbers_32 (by omega) (by omega) ⟨rfl, rfl⟩
  · have H := it_f H c12
    refine GA.iload dX10_orderOfNumbers_17 rfl ?_
    refine GV.if_ne (tgt := 33) hg10 dX10_orderOfNumbers_19 (by decide) (fun c19 => ?_) (fun c19 => ?_)
    · have H := it_t H c19
      refine GA.aload_n dX10_orderOfNumbers_33 rfl ?_
      refine GA.iload_n dX10_orderOfNumbers_34 rfl ?_
      obtain ⟨x20, S_21, hc22, H⟩ := gc_e H
      refine GA.callV (m_X10_figures hc22) xs_X10_90 dX10_orderOfNumbers_35 (gsT hg2) (by omega) rfl rfl (by omega) (by decide) rfl (Nat.le_of_ble_eq_true rfl) (by omega) (by omega) rfl (fun E S9 hx => hx.elim) (fun v S9 hq => ?_)
      obtain ⟨rfl, rfl⟩ := hq
      refine GA.aload_n dX10_orderOfNumbers_38 rfl ?_
      refine GA.iload_n dX10_orderOfNumbers_39 rfl ?_
      obtain ⟨x23, S_24, hc25, H⟩ := gc_e H
      refine GA.callV (m_X10_power hc25) xs_X10_87 dX10_orderOfNumbers_40 (gsT hg2) (by omega) rfl rfl (by omega) (by decide) rfl (Nat.le_of_ble_eq_true rfl) (by omega) (by omega) rfl (fun E S9 hx => hx.elim) (fun v S9 hq => ?_)
      obtain ⟨rfl, rfl⟩ := hq
      obtain ⟨x26, hx27, H⟩ := gv_e H
      refine GV.iadd hx27 dX10_orderOfNumbers_43 ?_
      refine GA.aload_n dX10_orderOfNumbers_44 rfl ?_
      refine GA.iload_n dX10_orderOfNumbers_45 rfl ?_
      obtain ⟨x28, S_29, hc30, H⟩ := gc_e H
      refine GA.callV (m_X10_figures hc30) xs_X10_90 dX10_orderOfNumbers_46 (gsT hg6) (by omega) rfl rfl (by omega) (by decide) rfl (Nat.le_of_ble_eq_true rfl) (by omega) (by omega) rfl (fun E S9 hx => hx.elim) (fun v S9 hq => ?_)
      obtain ⟨rfl, rfl⟩ := hq
      refine GA.aload_n dX10_orderOfNumbers_49 rfl ?_
      refine GA.iload_n dX10_orderOfNumbers_50 rfl ?_
      obtain ⟨x31, S_32, hc33, H⟩ := gc_e H
      refine GA.callV (m_X10_power hc33) xs_X10_87 dX10_orderOfNumbers_51 (gsT hg6) (by omega) rfl rfl (by omega) (by decide) rfl (Nat.le_of_ble_eq_true rfl) (by omega) (by omega) rfl (fun E S9 hx => hx.elim) (fun v S9 hq => ?_)
      obtain ⟨rfl, rfl⟩ := hq
      obtain ⟨x34, hx35, H⟩ := gv_e H
      refine GV.iadd hx35 dX10_orderOfNumbers_54 ?_
      obtain ⟨x36, S_37, hc38, H⟩ := gc_e H
      refine GA.callS (m_X10_order hc38) xs_X10_142 dX10_orderOfNumbers_55 rfl (by omega) (by decide) rfl (Nat.le_of_ble_eq_true rfl) (by omega) (by omega) rfl (fun E S9 hx => hx.elim) (fun v S9 hq => ?_)
      obtain ⟨rfl, rfl⟩ := hq
      refine GA.istore dX10_orderOfNumbers_58 (by decide) ?_
      refine GA.iconst dX10_orderOfNumbers_60 ?_
      refine GA.istore dX10_orderOfNumbers_61 (by decide) ?_
      refine GA.locals [(0, .ref (L a0)), (1, .int (J a1)), (2, .ref (L a2)), (3, .int (J a3)), (4, .int (J x3)), (5, .int (J x36)), (6, .int (J 0))] ⟨rfl, rfl, rfl, rfl, rfl, rfl, rfl, trivial⟩ ?_
      exact ih_X10_orderOfNumbers_63 _ _ (a0) (a1) (a2) (a3) (x3) (x36) (0) _ _ H
    · have H := it_f H c19
      refine GA.iload dX10_orderOfNumbers_22 rfl ?_
      refine GA.aload_n dX10_orderOfNumbers_24 rfl ?_
      refine GA.iload_n dX10_orderOfNumbers_25 rfl ?_
      obtain ⟨x39, S_40, hc41, H⟩ := gc_e H
      refine GA.callV (m_X10_signOf hc41) xs_X10_93 dX10_orderOfNumbers_26 (gsT hg6) (by omega) rfl rfl (by omega) (by decide) rfl (Nat.le_of_ble_eq_true rfl) (by omega) (by omega) rfl (fun E S9 hx => hx.elim) (fun v S9 hq => ?_)
      obtain ⟨rfl, rfl⟩ := hq
      obtain ⟨x42, S_43, hc44, H⟩ := gc_e H
      refine GA.callS (m_X10_order hc44) xs_X10_142 dX10_orderOfNumbers_29 rfl (by omega) (by decide) rfl (Nat.le_of_ble_eq_true rfl) (by omega) (by omega) rfl (fun E S9 hx => hx.elim) (fun v S9 hq => ?_)
      obtain ⟨rfl, rfl⟩ := hq
      cases H
      exact GA.iret rfl dX10_orderOfNumbers_32 (by omega) (by omega) ⟨rfl, rfl⟩
set_option maxHeartbeats 4000000 in
set_option maxRecDepth 20000 in
theorem t_X10_orderOfNumbers_63 {l : Launch} {Z : XZ} {L : Nat → Nat} (n : Nat) (ih_X10_orderOfNumbers_0 : P_X10_orderOfNumbers_0 l Z L n) (ih_X10_orderOfNumbers_63 : P_X10_orderOfNumbers_63 l Z L n) : P_X10_orderOfNumbers_63 l Z L (n + 1) := by
  intro d S a0 a1 a2 a3 a4 a5 a6 x S1 H
  have H : b_X10_orderOfNumbers_63 n d (f_X10_orderOfNumbers n) S a0 a1 a2 a3 a4 a5 a6 = some (x, S1) := H
  unfold b_X10_orderOfNumbers_63 at H
  refine GA.iload dX10_orderOfNumbers_63 rfl ?_
  refine GA.bipush dX10_orderOfNumbers_65 rfl ?_
  obtain ⟨hg1, H⟩ := gg_e H
  refine GV.icmp_ge (tgt := 100) hg1 (by decide) dX10_orderOfNumbers_67 (by decide) (fun c2 => ?_) (fun c2 => ?_)
  · have H := it_t H c2
    refine GA.iload dX10_orderOfNumbers_100 rfl ?_
    refine GA.iload dX10_orderOfNumbers_102 rfl ?_
    obtain ⟨x3, hx4, H⟩ := gv_e H
    refine GV.imul hx4 dX10_orderOfNumbers_104 ?_
    cases H
    exact GA.iret rfl dX10_orderOfNumbers_105 (by omega) (by omega) ⟨rfl, rfl⟩
  · have H := it_f H c2
    refine GA.iload dX10_orderOfNumbers_70 rfl ?_
    obtain ⟨hg5, H⟩ := gg_e H
    refine GV.if_ne (tgt := 100) hg5 dX10_orderOfNumbers_72 (by decide) (fun c6 => ?_) (fun c6 => ?_)
    · have H := it_t H c6
      refine GA.iload dX10_orderOfNumbers_100 rfl ?_
      refine GA.iload dX10_orderOfNumbers_102 rfl ?_
      obtain ⟨x7, hx8, H⟩ := gv_e H
      refine GV.imul hx8 dX10_orderOfNumbers_104 ?_
      cases H
      exact GA.iret rfl dX10_orderOfNumbers_105 (by omega) (by omega) ⟨rfl, rfl⟩
    · have H := it_f H c6
      refine GA.aload_n dX10_orderOfNumbers_75 rfl ?_
      refine GA.iload_n dX10_orderOfNumbers_76 rfl ?_
      refine GA.iload dX10_orderOfNumbers_77 rfl ?_
      obtain ⟨hg9, H⟩ := gg_e H
      obtain ⟨hg10, H⟩ := gg_e H
      obtain ⟨x11, S_12, hc13, H⟩ := gc_e H
      refine GA.callV (m_X10_digit hc13) xs_X10_108 dX10_orderOfNumbers_79 (gsT hg10) (by omega) rfl rfl (by omega) (by decide) rfl (Nat.le_of_ble_eq_true rfl) (by omega) (by omega) rfl (fun E S9 hx => hx.elim) (fun v S9 hq => ?_)
      obtain ⟨rfl, rfl⟩ := hq
      refine GA.aload_n dX10_orderOfNumbers_82 rfl ?_
      refine GA.iload_n dX10_orderOfNumbers_83 rfl ?_
      refine GA.iload dX10_orderOfNumbers_84 rfl ?_
      obtain ⟨hg14, H⟩ := gg_e H
      obtain ⟨x15, S_16, hc17, H⟩ := gc_e H
      refine GA.callV (m_X10_digit hc17) xs_X10_108 dX10_orderOfNumbers_86 (gsT hg14) (by omega) rfl rfl (by omega) (by decide) rfl (Nat.le_of_ble_eq_true rfl) (by omega) (by omega) rfl (fun E S9 hx => hx.elim) (fun v S9 hq => ?_)
      obtain ⟨rfl, rfl⟩ := hq
      obtain ⟨x18, S_19, hc20, H⟩ := gc_e H
      refine GA.callS (m_X10_order hc20) xs_X10_142 dX10_orderOfNumbers_89 rfl (by omega) (by decide) rfl (Nat.le_of_ble_eq_true rfl) (by omega) (by omega) rfl (fun E S9 hx => hx.elim) (fun v S9 hq => ?_)
      obtain ⟨rfl, rfl⟩ := hq
      refine GA.istore dX10_orderOfNumbers_92 (by decide) ?_
      obtain ⟨x21, hx22, H⟩ := gv_e H
      refine GV.iinc hx22 dX10_orderOfNumbers_94 rfl (by decide) ?_
      refine GA.goto (tgt := 63) dX10_orderOfNumbers_97 (by decide) ?_
      refine GA.locals [(0, .ref (L a0)), (1, .int (J a1)), (2, .ref (L a2)), (3, .int (J a3)), (4, .int (J a4)), (5, .int (J x18)), (6, .int (J x21))] ⟨rfl, rfl, rfl, rfl, rfl, rfl, rfl, trivial⟩ ?_
      exact ih_X10_orderOfNumbers_63 _ _ (a0) (a1) (a2) (a3) (a4) (x18) (x21) _ _ H
theorem g_X10_orderOfNumbers {l : Launch} {Z : XZ} {L : Nat → Nat} : ∀ n, P_X10_orderOfNumbers_0 l Z L n ∧ P_X10_orderOfNumbers_63 l Z L n
  | 0 => ⟨fun _ _ _ _ _ _ _ _ H => no_e H, fun _ _ _ _ _ _ _ _ _ _ _ H => no_e H⟩
  | n + 1 => have ⟨h0, h1⟩ := g_X10_orderOfNumbers (l := l) (Z := Z) (L := L) n
    ⟨t_X10_orderOfNumbers_0 n h0 h1, t_X10_orderOfNumbers_63 n h0 h1⟩
theorem m_X10_orderOfNumbers {l : Launch} {Z : XZ} {L : Nat → Nat} {n d : Nat} {S : GS} {a0 : Nat} {a1 : Int} {a2 : Nat} {a3 : Int} {x : Int} {S1 : GS} (H : f_X10_orderOfNumbers n d 0 S [((a0 : Nat) : Int), a1, ((a2 : Nat) : Int), a3] = some (x, S1)) : GM l Z L yX10_orderOfNumbers cX10_orderOfNumbers 7 (some .int) [] d 0 0 [.ref (L a0), .int (J a1), .ref (L a2), .int (J a3)] S (fun v S' => v = some (.int (J x)) ∧ S1 = S') (fun _ _ => False) := GM.of (by decide) (Nat.le_of_ble_eq_true rfl) ((g_X10_orderOfNumbers n).1 _ _ _ _ _ _ _ _ H)

def P_X10_isGroup_0 (l : Launch) (Z : XZ) (L : Nat → Nat) (n : Nat) : Prop := ∀ (d : Nat) (S : GS) (a0 : Nat) (a1 : Int) (x : Int) (S1 : GS), f_X10_isGroup n d 0 S [((a0 : Nat) : Int), a1] = some (x, S1) → GA l Z L yX10_isGroup cX10_isGroup 2 (some .boolean) [] d 0 0 (fun v S' => v = some (.int (J x)) ∧ S1 = S') (fun _ _ => False) 0 (gl [(0, .ref (L a0)), (1, .int (J a1))]) [] S 0 0
theorem i_X10_isGroup {l : Launch} {Z : XZ} {L : Nat → Nat} {n : Nat} (ih : P_X10_isGroup_0 l Z L n) {d : Nat} {S : GS} {a0 : Nat} {a1 : Int} {x : Int} {S1 : GS} (H : f_X10_isGroup n d 0 S [((a0 : Nat) : Int), a1] = some (x, S1)) : GM l Z L yX10_isGroup cX10_isGroup 2 (some .boolean) [] d 0 0 [.ref (L a0), .int (J a1)] S (fun v S' => v = some (.int (J x)) ∧ S1 = S') (fun _ _ => False) := GM.of (by decide) (Nat.le_of_ble_eq_true rfl) (ih _ _ _ _ _ _ H)
set_option maxHeartbeats 4000000 in
set_option maxRecDepth 20000 in
theorem t_X10_isGroup_0 {l : Launch} {Z : XZ} {L : Nat → Nat} (n : Nat) (ih_X10_isGroup_0 : P_X10_isGroup_0 l Z L n) : P_X10_isGroup_0 l Z L (n + 1) := by
  intro d S a0 a1 x S1 H
  have H : b_X10_isGroup_0 n d (f_X10_isGroup n) S a0 a1 = some (x, S1) := H
  unfold b_X10_isGroup_0 at H
  refine GA.iload_n dX10_isGroup_0 rfl ?_
  obtain ⟨hg1, H⟩ := gg_e H
  refine GV.if_lt (tgt := 42) hg1 dX10_isGroup_1 (by decide) (fun c2 => ?_) (fun c2 => ?_)
  · have H := it_t H c2
    refine GA.iconst dX10_isGroup_42 ?_
    cases H
    exact GV.zret (by decide) rfl dX10_isGroup_43 (by omega) (by omega) ⟨rfl, rfl⟩
  · have H := it_f H c2
    refine GA.iload_n dX10_isGroup_4 rfl ?_
    refine GA.aload_n dX10_isGroup_5 rfl ?_
    obtain ⟨hg3, H⟩ := gg_e H
    obtain ⟨x4, hx5, H⟩ := gv_e H
    refine GV.getI hx5 xf_X10_34 dX10_isGroup_6 (gsT hg3) (by omega) rfl ?_
    obtain ⟨hg6, H⟩ := gg_e H
    refine GV.icmp_ge (tgt := 42) hg1 hg6 dX10_isGroup_9 (by decide) (fun c7 => ?_) (fun c7 => ?_)
    · have H := it_t H c7
      refine GA.iconst dX10_isGroup_42 ?_
      cases H
      exact GV.zret (by decide) rfl dX10_isGroup_43 (by omega) (by omega) ⟨rfl, rfl⟩
    · have H := it_f H c7
      refine GA.iload_n dX10_isGroup_12 rfl ?_
      refine GA.bipush dX10_isGroup_13 rfl ?_
      refine GV.icmp_ge (tgt := 42) hg1 (by decide) dX10_isGroup_15 (by decide) (fun c8 => ?_) (fun c8 => ?_)
      · have H := it_t H c8
        refine GA.iconst dX10_isGroup_42 ?_
        cases H
        exact GV.zret (by decide) rfl dX10_isGroup_43 (by omega) (by omega) ⟨rfl, rfl⟩
      · have H := it_f H c8
        refine GA.aload_n dX10_isGroup_18 rfl ?_
        refine GA.get xf_X10_9 dX10_isGroup_19 (gsT hg3) (by omega) rfl ?_
        refine GA.iload_n dX10_isGroup_22 rfl ?_
        obtain ⟨hg9, H⟩ := gg_e H
        obtain ⟨x10, hx11, H⟩ := gv_e H
        refine GV.iald hg9 hx11 dX10_isGroup_23 (gsT1 hg3) (by omega) ?_
        refine GA.iconst dX10_isGroup_24 ?_
        obtain ⟨hg12, H⟩ := gg_e H
        refine GV.icmp_eq (tgt := 38) hg12 (by decide) dX10_isGroup_25 (by decide) (fun c13 => ?_) (fun c13 => ?_)
        · have H := it_t H c13
          refine GA.iconst dX10_isGroup_38 ?_
          refine GA.goto (tgt := 43) dX10_isGroup_39 (by decide) ?_
          cases H
          exact GV.zret (by decide) rfl dX10_isGroup_43 (by omega) (by omega) ⟨rfl, rfl⟩
        · have H := it_f H c13
          refine GA.aload_n dX10_isGroup_28 rfl ?_
          refine GA.get xf_X10_9 dX10_isGroup_29 (gsT hg3) (by omega) rfl ?_
          refine GA.iload_n dX10_isGroup_32 rfl ?_
          obtain ⟨x14, hx15, H⟩ := gv_e H
          refine GV.iald hg9 hx15 dX10_isGroup_33 (gsT1 hg3) (by omega) ?_
          refine GA.iconst dX10_isGroup_34 ?_
          obtain ⟨hg16, H⟩ := gg_e H
          refine GV.icmp_ne (tgt := 42) hg16 (by decide) dX10_isGroup_35 (by decide) (fun c17 => ?_) (fun c17 => ?_)
          · have H := it_t H c17
            refine GA.iconst dX10_isGroup_42 ?_
            cases H
            exact GV.zret (by decide) rfl dX10_isGroup_43 (by omega) (by omega) ⟨rfl, rfl⟩
          · have H := it_f H c17
            refine GA.iconst dX10_isGroup_38 ?_
            refine GA.goto (tgt := 43) dX10_isGroup_39 (by decide) ?_
            cases H
            exact GV.zret (by decide) rfl dX10_isGroup_43 (by omega) (by omega) ⟨rfl, rfl⟩
theorem g_X10_isGroup {l : Launch} {Z : XZ} {L : Nat → Nat} : ∀ n, P_X10_isGroup_0 l Z L n
  | 0 => fun _ _ _ _ _ _ H => no_e H
  | n + 1 => t_X10_isGroup_0 n (g_X10_isGroup n)
theorem m_X10_isGroup {l : Launch} {Z : XZ} {L : Nat → Nat} {n d : Nat} {S : GS} {a0 : Nat} {a1 : Int} {x : Int} {S1 : GS} (H : f_X10_isGroup n d 0 S [((a0 : Nat) : Int), a1] = some (x, S1)) : GM l Z L yX10_isGroup cX10_isGroup 2 (some .boolean) [] d 0 0 [.ref (L a0), .int (J a1)] S (fun v S' => v = some (.int (J x)) ∧ S1 = S') (fun _ _ => False) := GM.of (by decide) (Nat.le_of_ble_eq_true rfl) ((g_X10_isGroup n) _ _ _ _ _ _ H)

def P_X10_values_0 (l : Launch) (Z : XZ) (L : Nat → Nat) (n : Nat) : Prop := ∀ (d : Nat) (S : GS) (a0 : Nat) (a1 : Int) (x : Int) (S1 : GS), f_X10_values n d 0 S [((a0 : Nat) : Int), a1] = some (x, S1) → GA l Z L yX10_values cX10_values 4 (some .int) [] d 0 0 (fun v S' => v = some (.int (J x)) ∧ S1 = S') (fun _ _ => False) 0 (gl [(0, .ref (L a0)), (1, .int (J a1))]) [] S 0 0
def P_X10_values_8 (l : Launch) (Z : XZ) (L : Nat → Nat) (n : Nat) : Prop := ∀ (d : Nat) (S : GS) (a0 : Nat) (a1 : Int) (a2 : Int) (a3 : Int) (x : Int) (S1 : GS), f_X10_values n d 8 S [((a0 : Nat) : Int), a1, a2, a3] = some (x, S1) → GA l Z L yX10_values cX10_values 4 (some .int) [] d 0 0 (fun v S' => v = some (.int (J x)) ∧ S1 = S') (fun _ _ => False) 8 (gl [(0, .ref (L a0)), (1, .int (J a1)), (2, .int (J a2)), (3, .int (J a3))]) [] S 0 0
theorem i_X10_values {l : Launch} {Z : XZ} {L : Nat → Nat} {n : Nat} (ih : P_X10_values_0 l Z L n) {d : Nat} {S : GS} {a0 : Nat} {a1 : Int} {x : Int} {S1 : GS} (H : f_X10_values n d 0 S [((a0 : Nat) : Int), a1] = some (x, S1)) : GM l Z L yX10_values cX10_values 4 (some .int) [] d 0 0 [.ref (L a0), .int (J a1)] S (fun v S' => v = some (.int (J x)) ∧ S1 = S') (fun _ _ => False) := GM.of (by decide) (Nat.le_of_ble_eq_true rfl) (ih _ _ _ _ _ _ H)
set_option maxHeartbeats 4000000 in
set_option maxRecDepth 20000 in
theorem t_X10_values_0 {l : Launch} {Z : XZ} {L : Nat → Nat} (n : Nat) (ih_X10_values_0 : P_X10_values_0 l Z L n) (ih_X10_values_8 : P_X10_values_8 l Z L n) : P_X10_values_0 l Z L (n + 1) := by
  intro d S a0 a1 x S1 H
  have H : b_X10_values_0 n d (f_X10_values n) S a0 a1 = some (x, S1) := H
  unfold b_X10_values_0 at H
  refine GA.iconst dX10_values_0 ?_
  refine GA.istore_n dX10_values_1 (by decide) ?_
  refine GA.aload_n dX10_values_2 rfl ?_
  refine GA.iload_n dX10_values_3 rfl ?_
  obtain ⟨hg1, H⟩ := gg_e H
  obtain ⟨hg2, H⟩ := gg_e H
  obtain ⟨x3, S_4, hc5, H⟩ := gc_e H
  refine GA.callV (m_X10_first hc5) xs_X10_52 dX10_values_4 (gsT hg2) (by omega) rfl rfl (by omega) (by decide) rfl (Nat.le_of_ble_eq_true rfl) (by omega) (by omega) rfl (fun E S9 hx => hx.elim) (fun v S9 hq => ?_)
  obtain ⟨rfl, rfl⟩ := hq
  refine GA.istore_n dX10_values_7 (by decide) ?_
  refine GA.locals [(0, .ref (L a0)), (1, .int (J a1)), (2, .int (J 0)), (3, .int (J x3))] ⟨rfl, rfl, rfl, rfl, trivial⟩ ?_
  exact ih_X10_values_8 _ _ (a0) (a1) (0) (x3) _ _ H
set_option maxHeartbeats 4000000 in
set_option maxRecDepth 20000 in
theorem t_X10_values_8 {l : Launch} {Z : XZ} {L : Nat → Nat} (n : Nat) (ih_X10_values_0 : P_X10_values_0 l Z L n) (ih_X10_values_8 : P_X10_values_8 l Z L n) : P_X10_values_8 l Z L (n + 1) := by
  intro d S a0 a1 a2 a3 x S1 H
  have H : b_X10_values_8 n d (f_X10_values n) S a0 a1 a2 a3 = some (x, S1) := H
  unfold b_X10_values_8 at H
  refine GA.iload_n dX10_values_8 rfl ?_
  refine GA.iconst dX10_values_9 ?_
  obtain ⟨hg1, H⟩ := gg_e H
  refine GV.icmp_eq (tgt := 32) hg1 (by decide) dX10_values_10 (by decide) (fun c2 => ?_) (fun c2 => ?_)
  · have H := it_t H c2
    refine GA.iload_n dX10_values_32 rfl ?_
    cases H
    exact GA.iret rfl dX10_values_33 (by omega) (by omega) ⟨rfl, rfl⟩
  · have H := it_f H c2
    refine GA.iload_n dX10_values_13 rfl ?_
    refine GA.bipush dX10_values_14 rfl ?_
    obtain ⟨hg3, H⟩ := gg_e H
    refine GV.icmp_ge (tgt := 32) hg3 (by decide) dX10_values_16 (by decide) (fun c4 => ?_) (fun c4 => ?_)
    · have H := it_t H c4
      refine GA.iload_n dX10_values_32 rfl ?_
      cases H
      exact GA.iret rfl dX10_values_33 (by omega) (by omega) ⟨rfl, rfl⟩
    · have H := it_f H c4
      obtain ⟨x5, hx6, H⟩ := gv_e H
      refine GV.iinc hx6 dX10_values_19 rfl (by decide) ?_
      refine GA.aload_n dX10_values_22 rfl ?_
      refine GA.iload_n dX10_values_23 rfl ?_
      refine GA.iload_n dX10_values_24 rfl ?_
      obtain ⟨hg7, H⟩ := gg_e H
      obtain ⟨hg8, H⟩ := gg_e H
      obtain ⟨x9, S_10, hc11, H⟩ := gc_e H
      refine GA.callV (m_X10_next hc11) xs_X10_56 dX10_values_25 (gsT hg8) (by omega) rfl rfl (by omega) (by decide) rfl (Nat.le_of_ble_eq_true rfl) (by omega) (by omega) rfl (fun E S9 hx => hx.elim) (fun v S9 hq => ?_)
      obtain ⟨rfl, rfl⟩ := hq
      refine GA.istore_n dX10_values_28 (by decide) ?_
      refine GA.goto (tgt := 8) dX10_values_29 (by decide) ?_
      refine GA.locals [(0, .ref (L a0)), (1, .int (J a1)), (2, .int (J x5)), (3, .int (J x9))] ⟨rfl, rfl, rfl, rfl, trivial⟩ ?_
      exact ih_X10_values_8 _ _ (a0) (a1) (x5) (x9) _ _ H
theorem g_X10_values {l : Launch} {Z : XZ} {L : Nat → Nat} : ∀ n, P_X10_values_0 l Z L n ∧ P_X10_values_8 l Z L n
  | 0 => ⟨fun _ _ _ _ _ _ H => no_e H, fun _ _ _ _ _ _ _ _ H => no_e H⟩
  | n + 1 => have ⟨h0, h1⟩ := g_X10_values (l := l) (Z := Z) (L := L) n
    ⟨t_X10_values_0 n h0 h1, t_X10_values_8 n h0 h1⟩
theorem m_X10_values {l : Launch} {Z : XZ} {L : Nat → Nat} {n d : Nat} {S : GS} {a0 : Nat} {a1 : Int} {x : Int} {S1 : GS} (H : f_X10_values n d 0 S [((a0 : Nat) : Int), a1] = some (x, S1)) : GM l Z L yX10_values cX10_values 4 (some .int) [] d 0 0 [.ref (L a0), .int (J a1)] S (fun v S' => v = some (.int (J x)) ∧ S1 = S') (fun _ _ => False) := GM.of (by decide) (Nat.le_of_ble_eq_true rfl) ((g_X10_values n).1 _ _ _ _ _ _ H)

def P_X10_length_0 (l : Launch) (Z : XZ) (L : Nat → Nat) (n : Nat) : Prop := ∀ (d : Nat) (S : GS) (a0 : Nat) (a1 : Int) (x : Int) (S1 : GS), f_X10_length n d 0 S [((a0 : Nat) : Int), a1] = some (x, S1) → GA l Z L yX10_length cX10_length 2 (some .int) [] d 0 0 (fun v S' => v = some (.int (J x)) ∧ S1 = S') (fun _ _ => False) 0 (gl [(0, .ref (L a0)), (1, .int (J a1))]) [] S 0 0
theorem i_X10_length {l : Launch} {Z : XZ} {L : Nat → Nat} {n : Nat} (ih : P_X10_length_0 l Z L n) {d : Nat} {S : GS} {a0 : Nat} {a1 : Int} {x : Int} {S1 : GS} (H : f_X10_length n d 0 S [((a0 : Nat) : Int), a1] = some (x, S1)) : GM l Z L yX10_length cX10_length 2 (some .int) [] d 0 0 [.ref (L a0), .int (J a1)] S (fun v S' => v = some (.int (J x)) ∧ S1 = S') (fun _ _ => False) := GM.of (by decide) (Nat.le_of_ble_eq_true rfl) (ih _ _ _ _ _ _ H)
set_option maxHeartbeats 4000000 in
set_option maxRecDepth 20000 in
theorem t_X10_length_0 {l : Launch} {Z : XZ} {L : Nat → Nat} (n : Nat) (ih_X10_length_0 : P_X10_length_0 l Z L n) : P_X10_length_0 l Z L (n + 1) := by
  intro d S a0 a1 x S1 H
  have H : b_X10_length_0 n d (f_X10_length n) S a0 a1 = some (x, S1) := H
  unfold b_X10_length_0 at H
  refine GA.aload_n dX10_length_0 rfl ?_
  refine GA.iload_n dX10_length_1 rfl ?_
  refine GA.iconst dX10_length_2 ?_
  obtain ⟨hg1, H⟩ := gg_e H
  obtain ⟨hg2, H⟩ := gg_e H
  obtain ⟨x3, S_4, hc5, H⟩ := gc_e H
  refine GA.callV (m_X10_is hc5) xs_X10_42 dX10_length_3 (gsT hg2) (by omega) rfl rfl (by omega) (by decide) rfl (Nat.le_of_ble_eq_true rfl) (by omega) (by omega) rfl (fun E S9 hx => hx.elim) (fun v S9 hq => ?_)
  obtain ⟨rfl, rfl⟩ := hq
  obtain ⟨hg6, H⟩ := gg_e H
  refine GV.if_eq (tgt := 16) hg6 dX10_length_6 (by decide) (fun c7 => ?_) (fun c7 => ?_)
  · have H := it_t H c7
    refine GA.aload_n dX10_length_16 rfl ?_
    refine GA.iload_n dX10_length_17 rfl ?_
    obtain ⟨x8, S_9, hc10, H⟩ := gc_e H
    refine GA.callV (m_X10_isGroup hc10) xs_X10_59 dX10_length_18 (gsT hg2) (by omega) rfl rfl (by omega) (by decide) rfl (Nat.le_of_ble_eq_true rfl) (by omega) (by omega) rfl (fun E S9 hx => hx.elim) (fun v S9 hq => ?_)
    obtain ⟨rfl, rfl⟩ := hq
    obtain ⟨hg11, H⟩ := gg_e H
    refine GV.if_eq (tgt := 32) hg11 dX10_length_21 (by decide) (fun c12 => ?_) (fun c12 => ?_)
    · have H := it_t H c12
      refine GA.iconst dX10_length_32 ?_
      cases H
      exact GA.iret rfl dX10_length_33 (by omega) (by omega) ⟨rfl, rfl⟩
    · have H := it_f H c12
      refine GA.aload_n dX10_length_24 rfl ?_
      refine GA.iload_n dX10_length_25 rfl ?_
      obtain ⟨x13, S_14, hc15, H⟩ := gc_e H
      refine GA.callV (m_X10_values hc15) xs_X10_63 dX10_length_26 (gsT hg2) (by omega) rfl rfl (by omega) (by decide) rfl (Nat.le_of_ble_eq_true rfl) (by omega) (by omega) rfl (fun E S9 hx => hx.elim) (fun v S9 hq => ?_)
      obtain ⟨rfl, rfl⟩ := hq
      refine GA.goto (tgt := 33) dX10_length_29 (by decide) ?_
      cases H
      exact GA.iret rfl dX10_length_33 (by omega) (by omega) ⟨rfl, rfl⟩
  · have H := it_f H c7
    refine GA.aload_n dX10_length_9 rfl ?_
    refine GA.get xf_X10_21 dX10_length_10 (gsT hg2) (by omega) rfl ?_
    refine GA.iload_n dX10_length_13 rfl ?_
    obtain ⟨hg16, H⟩ := gg_e H
    obtain ⟨x17, hx18, H⟩ := gv_e H
    refine GV.iald hg16 hx18 dX10_length_14 (gsT4 hg2) (by omega) ?_
    cases H
    exact GA.iret rfl dX10_length_15 (by omega) (by omega) ⟨rfl, rfl⟩
theorem g_X10_length {l : Launch} {Z : XZ} {L : Nat → Nat} : ∀ n, P_X10_length_0 l Z L n
  | 0 => fun _ _ _ _ _ _ H => no_e H
  | n + 1 => t_X10_length_0 n (g_X10_length n)
theorem m_X10_length {l : Launch} {Z : XZ} {L : Nat → Nat} {n d : Nat} {S : GS} {a0 : Nat} {a1 : Int} {x : Int} {S1 : GS} (H : f_X10_length n d 0 S [((a0 : Nat) : Int), a1] = some (x, S1)) : GM l Z L yX10_length cX10_length 2 (some .int) [] d 0 0 [.ref (L a0), .int (J a1)] S (fun v S' => v = some (.int (J x)) ∧ S1 = S') (fun _ _ => False) := GM.of (by decide) (Nat.le_of_ble_eq_true rfl) ((g_X10_length n) _ _ _ _ _ _ H)

def P_X10_clear_0 (l : Launch) (Z : XZ) (L : Nat → Nat) (n : Nat) : Prop := ∀ (d : Nat) (S : GS) (a0 : Nat) (x : Int) (S1 : GS), f_X10_clear n d 0 S [((a0 : Nat) : Int)] = some (x, S1) → GA l Z L yX10_clear cX10_clear 1 none [] d 0 0 (fun v S' => v = none ∧ S1 = S') (fun _ _ => False) 0 (gl [(0, .ref (L a0))]) [] S 0 0
theorem i_X10_clear {l : Launch} {Z : XZ} {L : Nat → Nat} {n : Nat} (ih : P_X10_clear_0 l Z L n) {d : Nat} {S : GS} {a0 : Nat} {x : Int} {S1 : GS} (H : f_X10_clear n d 0 S [((a0 : Nat) : Int)] = some (x, S1)) : GM l Z L yX10_clear cX10_clear 1 none [] d 0 0 [.ref (L a0)] S (fun v S' => v = none ∧ S1 = S') (fun _ _ => False) := GM.of (by decide) (Nat.le_of_ble_eq_true rfl) (ih _ _ _ _ _ H)
set_option maxHeartbeats 4000000 in
set_option maxRecDepth 20000 in
theorem t_X10_clear_0 {l : Launch} {Z : XZ} {L : Nat → Nat} (n : Nat) (ih_X10_clear_0 : P_X10_clear_0 l Z L n) : P_X10_clear_0 l Z L (n + 1) := by
  intro d S a0 x S1 H
  have H : b_X10_clear_0 n d (f_X10_clear n) S a0 = some (x, S1) := H
  unfold b_X10_clear_0 at H
  refine GA.aload_n dX10_clear_0 rfl ?_
  refine GA.iconst dX10_clear_1 ?_
  obtain ⟨hg1, H⟩ := gg_e H
  obtain ⟨S_2, hx3, H⟩ := gv_e H
  refine GV.putI hx3 (xp_X10_34 _) dX10_clear_2 (gsT hg1) (by omega) (Nat.le_of_ble_eq_true rfl) (gsT hg1) ?_
  refine GA.aload_n dX10_clear_5 rfl ?_
  refine GA.iconst dX10_clear_6 ?_
  obtain ⟨S_4, hx5, H⟩ := gv_e H
  refine GV.putB (by decide) hx5 (xp_X10_38 (xb_01 _)) dX10_clear_7 (gsT hg1) (by omega) (Nat.le_of_ble_eq_true rfl) (gsT hg1) ?_
  cases H
  exact GA.vret rfl dX10_clear_10 (by omega) (by omega) ⟨rfl, rfl⟩
theorem g_X10_clear {l : Launch} {Z : XZ} {L : Nat → Nat} : ∀ n, P_X10_clear_0 l Z L n
  | 0 => fun _ _ _ _ _ H => no_e H
  | n + 1 => t_X10_clear_0 n (g_X10_clear n)
theorem m_X10_clear {l : Launch} {Z : XZ} {L : Nat → Nat} {n d : Nat} {S : GS} {a0 : Nat} {x : Int} {S1 : GS} (H : f_X10_clear n d 0 S [((a0 : Nat) : Int)] = some (x, S1)) : GM l Z L yX10_clear cX10_clear 1 none [] d 0 0 [.ref (L a0)] S (fun v S' => v = none ∧ S1 = S') (fun _ _ => False) := GM.of (by decide) (Nat.le_of_ble_eq_true rfl) ((g_X10_clear n) _ _ _ _ _ H)

def P_X10_add_0 (l : Launch) (Z : XZ) (L : Nat → Nat) (n : Nat) : Prop := ∀ (d : Nat) (S : GS) (a0 : Nat) (a1 : Int) (x : Int) (S1 : GS), f_X10_add n d 0 S [((a0 : Nat) : Int), a1] = some (x, S1) → GA l Z L yX10_add cX10_add 2 (some .int) [] d 0 0 (fun v S' => v = some (.int (J x)) ∧ S1 = S') (fun _ _ => False) 0 (gl [(0, .ref (L a0)), (1, .int (J a1))]) [] S 0 0
theorem i_X10_add {l : Launch} {Z : XZ} {L : Nat → Nat} {n : Nat} (ih : P_X10_add_0 l Z L n) {d : Nat} {S : GS} {a0 : Nat} {a1 : Int} {x : Int} {S1 : GS} (H : f_X10_add n d 0 S [((a0 : Nat) : Int), a1] = some (x, S1)) : GM l Z L yX10_add cX10_add 2 (some .int) [] d 0 0 [.ref (L a0), .int (J a1)] S (fun v S' => v = some (.int (J x)) ∧ S1 = S') (fun _ _ => False) := GM.of (by decide) (Nat.le_of_ble_eq_true rfl) (ih _ _ _ _ _ _ H)
set_option maxHeartbeats 4000000 in
set_option maxRecDepth 20000 in
theorem t_X10_add_0 {l : Launch} {Z : XZ} {L : Nat → Nat} (n : Nat) (ih_X10_add_0 : P_X10_add_0 l Z L n) : P_X10_add_0 l Z L (n + 1) := by
  intro d S a0 a1 x S1 H
  have H : b_X10_add_0 n d (f_X10_add n) S a0 a1 = some (x, S1) := H
  unfold b_X10_add_0 at H
  refine GA.aload_n dX10_add_0 rfl ?_
  obtain ⟨hg1, H⟩ := gg_e H
  obtain ⟨x2, hx3, H⟩ := gv_e H
  refine GV.getI hx3 xf_X10_34 dX10_add_1 (gsT hg1) (by omega) rfl ?_
  obtain ⟨hg4, H⟩ := gg_e H
  refine GV.if_lt (tgt := 16) hg4 dX10_add_4 (by decide) (fun c5 => ?_) (fun c5 => ?_)
  · have H := it_t H c5
    refine GA.aload_n dX10_add_16 rfl ?_
    refine GA.iconst dX10_add_17 ?_
    obtain ⟨S_6, hx7, H⟩ := gv_e H
    refine GV.putB (by decide) hx7 (xp_X10_38 (xb_01 _)) dX10_add_18 (gsT hg1) (by omega) (Nat.le_of_ble_eq_true rfl) (gsT hg1) ?_
    refine GA.iconst dX10_add_21 ?_
    cases H
    exact GA.iret rfl dX10_add_22 (by omega) (by omega) ⟨rfl, rfl⟩
  · have H := it_f H c5
    refine GA.aload_n dX10_add_7 rfl ?_
    obtain ⟨x8, hx9, H⟩ := gv_e H
    refine GV.getI hx9 xf_X10_34 dX10_add_8 (gsT hg1) (by omega) rfl ?_
    refine GA.bipush dX10_add_11 rfl ?_
    obtain ⟨hg10, H⟩ := gg_e H
    refine GV.icmp_lt (tgt := 23) hg10 (by decide) dX10_add_13 (by decide) (fun c11 => ?_) (fun c11 => ?_)
    · have H := it_t H c11
      refine GA.aload_n dX10_add_23 rfl ?_
      refine GA.get xf_X10_9 dX10_add_24 (gsT hg1) (by omega) rfl ?_
      refine GA.aload_n dX10_add_27 rfl ?_
      obtain ⟨x12, hx13, H⟩ := gv_e H
      refine GV.getI hx13 xf_X10_34 dX10_add_28 (gsT hg1) (by omega) rfl ?_
      refine GA.iload_n dX10_add_31 rfl ?_
      obtain ⟨hg14, H⟩ := gg_e H
      obtain ⟨S_15, hx16, H⟩ := gv_e H
      refine GV.iast hg14 hx16 dX10_add_32 (fun _ => (gsT1 hg1)) (by omega) ?_
      refine GA.aload_n dX10_add_33 rfl ?_
      refine GA.get xf_X10_15 dX10_add_34 (gsT hg1) (by omega) rfl ?_
      refine GA.aload_n dX10_add_37 rfl ?_
      obtain ⟨x17, hx18, H⟩ := gv_e H
      refine GV.getI hx18 xf_X10_34 dX10_add_38 (gsT hg1) (by omega) rfl ?_
      refine GA.iconst dX10_add_41 ?_
      obtain ⟨hg19, H⟩ := gg_e H
      obtain ⟨S_20, hx21, H⟩ := gv_e H
      refine GV.iast hg19 hx21 dX10_add_42 (fun _ => (gsT2 hg1)) (by omega) ?_
      refine GA.aload_n dX10_add_43 rfl ?_
      refine GA.get xf_X10_18 dX10_add_44 (gsT hg1) (by omega) rfl ?_
      refine GA.aload_n dX10_add_47 rfl ?_
      obtain ⟨x22, hx23, H⟩ := gv_e H
      refine GV.getI hx23 xf_X10_34 dX10_add_48 (gsT hg1) (by omega) rfl ?_
      refine GA.iconst dX10_add_51 ?_
      obtain ⟨hg24, H⟩ := gg_e H
      obtain ⟨S_25, hx26, H⟩ := gv_e H
      refine GV.iast hg24 hx26 dX10_add_52 (fun _ => (gsT3 hg1)) (by omega) ?_
      refine GA.aload_n dX10_add_53 rfl ?_
      refine GA.get xf_X10_21 dX10_add_54 (gsT hg1) (by omega) rfl ?_
      refine GA.aload_n dX10_add_57 rfl ?_
      obtain ⟨x27, hx28, H⟩ := gv_e H
      refine GV.getI hx28 xf_X10_34 dX10_add_58 (gsT hg1) (by omega) rfl ?_
      refine GA.iconst dX10_add_61 ?_
      obtain ⟨hg29, H⟩ := gg_e H
      obtain ⟨S_30, hx31, H⟩ := gv_e H
      refine GV.iast hg29 hx31 dX10_add_62 (fun _ => (gsT4 hg1)) (by omega) ?_
      refine GA.aload_n dX10_add_63 rfl ?_
      refine GA.get xf_X10_28 dX10_add_64 (gsT hg1) (by omega) rfl ?_
      refine GA.aload_n dX10_add_67 rfl ?_
      obtain ⟨x32, hx33, H⟩ := gv_e H
      refine GV.getI hx33 xf_X10_34 dX10_add_68 (gsT hg1) (by omega) rfl ?_
      refine GA.iconst dX10_add_71 ?_
      obtain ⟨hg34, H⟩ := gg_e H
      obtain ⟨S_35, hx36, H⟩ := gv_e H
      refine GV.iast hg34 hx36 dX10_add_72 (fun _ => (gsT6 hg1)) (by omega) ?_
      refine GA.aload_n dX10_add_73 rfl ?_
      refine GA.dup dX10_add_74 rfl ?_
      obtain ⟨x37, hx38, H⟩ := gv_e H
      refine GV.getI hx38 xf_X10_34 dX10_add_75 (gsT hg1) (by omega) rfl ?_
      refine GA.iconst dX10_add_78 ?_
      obtain ⟨x39, hx40, H⟩ := gv_e H
      refine GV.iadd hx40 dX10_add_79 ?_
      obtain ⟨S_41, hx42, H⟩ := gv_e H
      refine GV.putI hx42 (xp_X10_34 _) dX10_add_80 (gsT hg1) (by omega) (Nat.le_of_ble_eq_true rfl) (gsT hg1) ?_
      refine GA.aload_n dX10_add_83 rfl ?_
      obtain ⟨x43, hx44, H⟩ := gv_e H
      refine GV.getI hx44 xf_X10_34 dX10_add_84 (gsT hg1) (by omega) rfl ?_
      refine GA.iconst dX10_add_87 ?_
      obtain ⟨x45, hx46, H⟩ := gv_e H
      refine GV.isub hx46 dX10_add_88 ?_
      cases H
      exact GA.iret rfl dX10_add_89 (by omega) (by omega) ⟨rfl, rfl⟩
    · have H := it_f H c11
      refine GA.aload_n dX10_add_16 rfl ?_
      refine GA.iconst dX10_add_17 ?_
      obtain ⟨S_47, hx48, H⟩ := gv_e H
      refine GV.putB (by decide) hx48 (xp_X10_38 (xb_01 _)) dX10_add_18 (gsT hg1) (by omega) (Nat.le_of_ble_eq_true rfl) (gsT hg1) ?_
      refine GA.iconst dX10_add_21 ?_
      cases H
      exact GA.iret rfl dX10_add_22 (by omega) (by omega) ⟨rfl, rfl⟩
theorem g_X10_add {l : Launch} {Z : XZ} {L : Nat → Nat} : ∀ n, P_X10_add_0 l Z L n
  | 0 => fun _ _ _ _ _ _ H => no_e H
  | n + 1 => t_X10_add_0 n (g_X10_add n)
theorem m_X10_add {l : Launch} {Z : XZ} {L : Nat → Nat} {n d : Nat} {S : GS} {a0 : Nat} {a1 : Int} {x : Int} {S1 : GS} (H : f_X10_add n d 0 S [((a0 : Nat) : Int), a1] = some (x, S1)) : GM l Z L yX10_add cX10_add 2 (some .int) [] d 0 0 [.ref (L a0), .int (J a1)] S (fun v S' => v = some (.int (J x)) ∧ S1 = S') (fun _ _ => False) := GM.of (by decide) (Nat.le_of_ble_eq_true rfl) ((g_X10_add n) _ _ _ _ _ _ H)

def P_X10_has_0 (l : Launch) (Z : XZ) (L : Nat → Nat) (n : Nat) : Prop := ∀ (d : Nat) (S : GS) (a0 : Nat) (a1 : Int) (x : Int) (S1 : GS), f_X10_has n d 0 S [((a0 : Nat) : Int), a1] = some (x, S1) → GA l Z L yX10_has cX10_has 2 (some .boolean) [] d 0 0 (fun v S' => v = some (.int (J x)) ∧ S1 = S') (fun _ _ => False) 0 (gl [(0, .ref (L a0)), (1, .int (J a1))]) [] S 0 0
theorem i_X10_has {l : Launch} {Z : XZ} {L : Nat → Nat} {n : Nat} (ih : P_X10_has_0 l Z L n) {d : Nat} {S : GS} {a0 : Nat} {a1 : Int} {x : Int} {S1 : GS} (H : f_X10_has n d 0 S [((a0 : Nat) : Int), a1] = some (x, S1)) : GM l Z L yX10_has cX10_has 2 (some .boolean) [] d 0 0 [.ref (L a0), .int (J a1)] S (fun v S' => v = some (.int (J x)) ∧ S1 = S') (fun _ _ => False) := GM.of (by decide) (Nat.le_of_ble_eq_true rfl) (ih _ _ _ _ _ _ H)
set_option maxHeartbeats 4000000 in
set_option maxRecDepth 20000 in
theorem t_X10_has_0 {l : Launch} {Z : XZ} {L : Nat → Nat} (n : Nat) (ih_X10_has_0 : P_X10_has_0 l Z L n) : P_X10_has_0 l Z L (n + 1) := by
  intro d S a0 a1 x S1 H
  have H : b_X10_has_0 n d (f_X10_has n) S a0 a1 = some (x, S1) := H
  unfold b_X10_has_0 at H
  refine GA.iload_n dX10_has_0 rfl ?_
  obtain ⟨hg1, H⟩ := gg_e H
  refine GV.if_lt (tgt := 22) hg1 dX10_has_1 (by decide) (fun c2 => ?_) (fun c2 => ?_)
  · have H := it_t H c2
    refine GA.iconst dX10_has_22 ?_
    cases H
    exact GV.zret (by decide) rfl dX10_has_23 (by omega) (by omega) ⟨rfl, rfl⟩
  · have H := it_f H c2
    refine GA.iload_n dX10_has_4 rfl ?_
    refine GA.aload_n dX10_has_5 rfl ?_
    obtain ⟨hg3, H⟩ := gg_e H
    obtain ⟨x4, hx5, H⟩ := gv_e H
    refine GV.getI hx5 xf_X10_34 dX10_has_6 (gsT hg3) (by omega) rfl ?_
    obtain ⟨hg6, H⟩ := gg_e H
    refine GV.icmp_ge (tgt := 22) hg1 hg6 dX10_has_9 (by decide) (fun c7 => ?_) (fun c7 => ?_)
    · have H := it_t H c7
      refine GA.iconst dX10_has_22 ?_
      cases H
      exact GV.zret (by decide) rfl dX10_has_23 (by omega) (by omega) ⟨rfl, rfl⟩
    · have H := it_f H c7
      refine GA.iload_n dX10_has_12 rfl ?_
      refine GA.bipush dX10_has_13 rfl ?_
      refine GV.icmp_ge (tgt := 22) hg1 (by decide) dX10_has_15 (by decide) (fun c8 => ?_) (fun c8 => ?_)
      · have H := it_t H c8
        refine GA.iconst dX10_has_22 ?_
        cases H
        exact GV.zret (by decide) rfl dX10_has_23 (by omega) (by omega) ⟨rfl, rfl⟩
      · have H := it_f H c8
        refine GA.iconst dX10_has_18 ?_
        refine GA.goto (tgt := 23) dX10_has_19 (by decide) ?_
        cases H
        exact GV.zret (by decide) rfl dX10_has_23 (by omega) (by omega) ⟨rfl, rfl⟩
theorem g_X10_has {l : Launch} {Z : XZ} {L : Nat → Nat} : ∀ n, P_X10_has_0 l Z L n
  | 0 => fun _ _ _ _ _ _ H => no_e H
  | n + 1 => t_X10_has_0 n (g_X10_has n)
theorem m_X10_has {l : Launch} {Z : XZ} {L : Nat → Nat} {n d : Nat} {S : GS} {a0 : Nat} {a1 : Int} {x : Int} {S1 : GS} (H : f_X10_has n d 0 S [((a0 : Nat) : Int), a1] = some (x, S1)) : GM l Z L yX10_has cX10_has 2 (some .boolean) [] d 0 0 [.ref (L a0), .int (J a1)] S (fun v S' => v = some (.int (J x)) ∧ S1 = S') (fun _ _ => False) := GM.of (by decide) (Nat.le_of_ble_eq_true rfl) ((g_X10_has n) _ _ _ _ _ _ H)

def P_X10_addSign_0 (l : Launch) (Z : XZ) (L : Nat → Nat) (n : Nat) : Prop := ∀ (d : Nat) (S : GS) (a0 : Nat) (a1 : Int) (a2 : Int) (x : Int) (S1 : GS), f_X10_addSign n d 0 S [((a0 : Nat) : Int), a1, a2] = some (x, S1) → GA l Z L yX10_addSign cX10_addSign 4 none [] d 0 0 (fun v S' => v = none ∧ S1 = S') (fun _ _ => False) 0 (gl [(0, .ref (L a0)), (1, .int (J a1)), (2, .int (J a2))]) [] S 0 0
def P_X10_addSign_32 (l : Launch) (Z : XZ) (L : Nat → Nat) (n : Nat) : Prop := ∀ (d : Nat) (S : GS) (a0 : Nat) (a1 : Int) (a2 : Int) (s0 : Int) (x : Int) (S1 : GS), f_X10_addSign n d 32 S [((a0 : Nat) : Int), a1, a2, s0] = some (x, S1) → GA l Z L yX10_addSign cX10_addSign 4 none [] d 0 0 (fun v S' => v = none ∧ S1 = S') (fun _ _ => False) 32 (gl [(0, .ref (L a0)), (1, .int (J a1)), (2, .int (J a2))]) [.int (J s0)] S 0 0
theorem i_X10_addSign {l : Launch} {Z : XZ} {L : Nat → Nat} {n : Nat} (ih : P_X10_addSign_0 l Z L n) {d : Nat} {S : GS} {a0 : Nat} {a1 : Int} {a2 : Int} {x : Int} {S1 : GS} (H : f_X10_addSign n d 0 S [((a0 : Nat) : Int), a1, a2] = some (x, S1)) : GM l Z L yX10_addSign cX10_addSign 4 none [] d 0 0 [.ref (L a0), .int (J a1), .int (J a2)] S (fun v S' => v = none ∧ S1 = S') (fun _ _ => False) := GM.of (by decide) (Nat.le_of_ble_eq_true rfl) (ih _ _ _ _ _ _ _ H)
set_option maxHeartbeats 4000000 in
set_option maxRecDepth 20000 in
theorem t_X10_addSign_0 {l : Launch} {Z : XZ} {L : Nat → Nat} (n : Nat) (ih_X10_addSign_0 : P_X10_addSign_0 l Z L n) (ih_X10_addSign_32 : P_X10_addSign_32 l Z L n) : P_X10_addSign_0 l Z L (n + 1) := by
  intro d S a0 a1 a2 x S1 H
  have H : b_X10_addSign_0 n d (f_X10_addSign n) S a0 a1 a2 = some (x, S1) := H
  unfold b_X10_addSign_0 at H
  refine GA.iload_n dX10_addSign_0 rfl ?_
  obtain ⟨hg1, H⟩ := gg_e H
  refine GV.if_lt (tgt := 31) hg1 dX10_addSign_1 (by decide) (fun c2 => ?_) (fun c2 => ?_)
  · have H := it_t H c2
    refine GA.iconst dX10_addSign_31 ?_
    refine GA.locals [(0, .ref (L a0)), (1, .int (J a1)), (2, .int (J a2))] ⟨rfl, rfl, rfl, trivial⟩ ?_
    exact ih_X10_addSign_32 _ _ (a0) (a1) (a2) (0) _ _ H
  · have H := it_f H c2
    refine GA.iload_n dX10_addSign_4 rfl ?_
    refine GA.aload_n dX10_addSign_5 rfl ?_
    obtain ⟨hg3, H⟩ := gg_e H
    obtain ⟨x4, hx5, H⟩ := gv_e H
    refine GV.getI hx5 xf_X10_34 dX10_addSign_6 (gsT hg3) (by omega) rfl ?_
    obtain ⟨hg6, H⟩ := gg_e H
    refine GV.icmp_ge (tgt := 31) hg1 hg6 dX10_addSign_9 (by decide) (fun c7 => ?_) (fun c7 => ?_)
    · have H := it_t H c7
      refine GA.iconst dX10_addSign_31 ?_
      refine GA.locals [(0, .ref (L a0)), (1, .int (J a1)), (2, .int (J a2))] ⟨rfl, rfl, rfl, trivial⟩ ?_
      exact ih_X10_addSign_32 _ _ (a0) (a1) (a2) (0) _ _ H
    · have H := it_f H c7
      refine GA.iload_n dX10_addSign_12 rfl ?_
      refine GA.bipush dX10_addSign_13 rfl ?_
      refine GV.icmp_ge (tgt := 31) hg1 (by decide) dX10_addSign_15 (by decide) (fun c8 => ?_) (fun c8 => ?_)
      · have H := it_t H c8
        refine GA.iconst dX10_addSign_31 ?_
        refine GA.locals [(0, .ref (L a0)), (1, .int (J a1)), (2, .int (J a2))] ⟨rfl, rfl, rfl, trivial⟩ ?_
        exact ih_X10_addSign_32 _ _ (a0) (a1) (a2) (0) _ _ H
      · have H := it_f H c8
        refine GA.aload_n dX10_addSign_18 rfl ?_
        refine GA.get xf_X10_21 dX10_addSign_19 (gsT hg3) (by omega) rfl ?_
        refine GA.iload_n dX10_addSign_22 rfl ?_
        obtain ⟨hg9, H⟩ := gg_e H
        obtain ⟨x10, hx11, H⟩ := gv_e H
        refine GV.iald hg9 hx11 dX10_addSign_23 (gsT4 hg3) (by omega) ?_
        obtain ⟨hg12, H⟩ := gg_e H
        refine GV.if_lt (tgt := 31) hg12 dX10_addSign_24 (by decide) (fun c13 => ?_) (fun c13 => ?_)
        · have H := it_t H c13
          refine GA.iconst dX10_addSign_31 ?_
          refine GA.locals [(0, .ref (L a0)), (1, .int (J a1)), (2, .int (J a2))] ⟨rfl, rfl, rfl, trivial⟩ ?_
          exact ih_X10_addSign_32 _ _ (a0) (a1) (a2) (0) _ _ H
        · have H := it_f H c13
          refine GA.iconst dX10_addSign_27 ?_
          refine GA.goto (tgt := 32) dX10_addSign_28 (by decide) ?_
          refine GA.locals [(0, .ref (L a0)), (1, .int (J a1)), (2, .int (J a2))] ⟨rfl, rfl, rfl, trivial⟩ ?_
          exact ih_X10_addSign_32 _ _ (a0) (a1) (a2) (1) _ _ H
set_option maxHeartbeats 4000000 in
set_option maxRecDepth 20000 in
theorem t_X10_addSign_32 {l : Launch} {Z : XZ} {L : Nat → Nat} (n : Nat) (ih_X10_addSign_0 : P_X10_addSign_0 l Z L n) (ih_X10_addSign_32 : P_X10_addSign_32 l Z L n) : P_X10_addSign_32 l Z L (n + 1) := by
  intro d S a0 a1 a2 s0 x S1 H
  have H : b_X10_addSign_32 n d (f_X10_addSign n) S a0 a1 a2 s0 = some (x, S1) := H
  unfold b_X10_addSign_32 at H
  refine GA.istore_n dX10_addSign_32 (by decide) ?_
  refine GA.iload_n dX10_addSign_33 rfl ?_
  obtain ⟨hg1, H⟩ := gg_e H
  refine GV.if_eq (tgt := 79) hg1 dX10_addSign_34 (by decide) (fun c2 => ?_) (fun c2 => ?_)
  · have H := it_t H c2
    refine GA.aload_n dX10_addSign_79 rfl ?_
    refine GA.iconst dX10_addSign_80 ?_
    obtain ⟨hg3, H⟩ := gg_e H
    obtain ⟨S_4, hx5, H⟩ := gv_e H
    refine GV.putB (by decide) hx5 (xp_X10_38 (xb_01 _)) dX10_addSign_81 (gsT hg3) (by omega) (Nat.le_of_ble_eq_true rfl) (gsT hg3) ?_
    cases H
    exact GA.vret rfl dX10_addSign_84 (by omega) (by omega) ⟨rfl, rfl⟩
  · have H := it_f H c2
    refine GA.aload_n dX10_addSign_37 rfl ?_
    obtain ⟨hg6, H⟩ := gg_e H
    refine GA.get xf_X10_21 dX10_addSign_38 (gsT hg6) (by omega) rfl ?_
    refine GA.iload_n dX10_addSign_41 rfl ?_
    obtain ⟨hg7, H⟩ := gg_e H
    obtain ⟨x8, hx9, H⟩ := gv_e H
    refine GV.iald hg7 hx9 dX10_addSign_42 (gsT4 hg6) (by omega) ?_
    refine GA.bipush dX10_addSign_43 rfl ?_
    obtain ⟨hg10, H⟩ := gg_e H
    refine GV.icmp_ge (tgt := 79) hg10 (by decide) dX10_addSign_45 (by decide) (fun c11 => ?_) (fun c11 => ?_)
    · have H := it_t H c11
      refine GA.aload_n dX10_addSign_79 rfl ?_
      refine GA.iconst dX10_addSign_80 ?_
      obtain ⟨S_12, hx13, H⟩ := gv_e H
      refine GV.putB (by decide) hx13 (xp_X10_38 (xb_01 _)) dX10_addSign_81 (gsT hg6) (by omega) (Nat.le_of_ble_eq_true rfl) (gsT hg6) ?_
      cases H
      exact GA.vret rfl dX10_addSign_84 (by omega) (by omega) ⟨rfl, rfl⟩
    · have H := it_f H c11
      refine GA.aload_n dX10_addSign_48 rfl ?_
      refine GA.get xf_X10_24 dX10_addSign_49 (gsT hg6) (by omega) rfl ?_
      refine GA.iload_n dX10_addSign_52 rfl ?_
      refine GA.bipush dX10_addSign_53 rfl ?_
      obtain ⟨x14, hx15, H⟩ := gv_e H
      refine GV.imul hx15 dX10_addSign_55 ?_
      refine GA.aload_n dX10_addSign_56 rfl ?_
      refine GA.get xf_X10_21 dX10_addSign_57 (gsT hg6) (by omega) rfl ?_
      refine GA.iload_n dX10_addSign_60 rfl ?_
      obtain ⟨x16, hx17, H⟩ := gv_e H
      refine GV.iald hg7 hx17 dX10_addSign_61 (gsT4 hg6) (by omega) ?_
      obtain ⟨x18, hx19, H⟩ := gv_e H
      refine GV.iadd hx19 dX10_addSign_62 ?_
      refine GA.iload_n dX10_addSign_63 rfl ?_
      obtain ⟨hg20, H⟩ := gg_e H
      refine GA.i2c dX10_addSign_64 hg20 ?_
      obtain ⟨hg21, H⟩ := gg_e H
      obtain ⟨S_22, hx23, H⟩ := gv_e H
      refine GV.cast hg21 hg20 hx23 dX10_addSign_65 (fun _ => (gsT5 hg6)) (by omega) ?_
      refine GA.aload_n dX10_addSign_66 rfl ?_
      refine GA.get xf_X10_21 dX10_addSign_67 (gsT hg6) (by omega) rfl ?_
      refine GA.iload_n dX10_addSign_70 rfl ?_
      refine GA.dup2 dX10_addSign_71 rfl rfl ?_
      obtain ⟨x24, hx25, H⟩ := gv_e H
      refine GV.iald hg7 hx25 dX10_addSign_72 (gsT4 hg6) (by omega) ?_
      refine GA.iconst dX10_addSign_73 ?_
      obtain ⟨x26, hx27, H⟩ := gv_e H
      refine GV.iadd hx27 dX10_addSign_74 ?_
      obtain ⟨S_28, hx29, H⟩ := gv_e H
      refine GV.iast hg7 hx29 dX10_addSign_75 (fun _ => (gsT4 hg6)) (by omega) ?_
      refine GA.goto (tgt := 84) dX10_addSign_76 (by decide) ?_
      cases H
      exact GA.vret rfl dX10_addSign_84 (by omega) (by omega) ⟨rfl, rfl⟩
theorem g_X10_addSign {l : Launch} {Z : XZ} {L : Nat → Nat} : ∀ n, P_X10_addSign_0 l Z L n ∧ P_X10_addSign_32 l Z L n
  | 0 => ⟨fun _ _ _ _ _ _ _ H => no_e H, fun _ _ _ _ _ _ _ _ H => no_e H⟩
  | n + 1 => have ⟨h0, h1⟩ := g_X10_addSign (l := l) (Z := Z) (L := L) n
    ⟨t_X10_addSign_0 n h0 h1, t_X10_addSign_32 n h0 h1⟩
theorem m_X10_addSign {l : Launch} {Z : XZ} {L : Nat → Nat} {n d : Nat} {S : GS} {a0 : Nat} {a1 : Int} {a2 : Int} {x : Int} {S1 : GS} (H : f_X10_addSign n d 0 S [((a0 : Nat) : Int), a1, a2] = some (x, S1)) : GM l Z L yX10_addSign cX10_addSign 4 none [] d 0 0 [.ref (L a0), .int (J a1), .int (J a2)] S (fun v S' => v = none ∧ S1 = S') (fun _ _ => False) := GM.of (by decide) (Nat.le_of_ble_eq_true rfl) ((g_X10_addSign n).1 _ _ _ _ _ _ _ H)

def P_X10_setNumber_0 (l : Launch) (Z : XZ) (L : Nat → Nat) (n : Nat) : Prop := ∀ (d : Nat) (S : GS) (a0 : Nat) (a1 : Int) (a2 : Int) (a3 : Nat) (a4 : Int) (x : Int) (S1 : GS), f_X10_setNumber n d 0 S [((a0 : Nat) : Int), a1, a2, ((a3 : Nat) : Int), a4] = some (x, S1) → GA l Z L yX10_setNumber cX10_setNumber 8 (some .boolean) [] d 0 0 (fun v S' => v = some (.int (J x)) ∧ S1 = S') (fun _ _ => False) 0 (gl [(0, .ref (L a0)), (1, .int (J a1)), (2, .int (J a2)), (3, .ref (L a3)), (4, .int (J a4))]) [] S 0 0
def P_X10_setNumber_19 (l : Launch) (Z : XZ) (L : Nat → Nat) (n : Nat) : Prop := ∀ (d : Nat) (S : GS) (a0 : Nat) (a1 : Int) (a2 : Int) (a3 : Nat) (a4 : Int) (a5 : Int) (a6 : Int) (x : Int) (S1 : GS), f_X10_setNumber n d 19 S [((a0 : Nat) : Int), a1, a2, ((a3 : Nat) : Int), a4, a5, a6] = some (x, S1) → GA l Z L yX10_setNumber cX10_setNumber 8 (some .boolean) [] d 0 0 (fun v S' => v = some (.int (J x)) ∧ S1 = S') (fun _ _ => False) 19 (gl [(0, .ref (L a0)), (1, .int (J a1)), (2, .int (J a2)), (3, .ref (L a3)), (4, .int (J a4)), (5, .int (J a5)), (6, .int (J a6))]) [] S 0 0
def P_X10_setNumber_43 (l : Launch) (Z : XZ) (L : Nat → Nat) (n : Nat) : Prop := ∀ (d : Nat) (S : GS) (a0 : Nat) (a1 : Int) (a2 : Int) (a3 : Nat) (a4 : Int) (a5 : Int) (a6 : Int) (x : Int) (S1 : GS), f_X10_setNumber n d 43 S [((a0 : Nat) : Int), a1, a2, ((a3 : Nat) : Int), a4, a5, a6] = some (x, S1) → GA l Z L yX10_setNumber cX10_setNumber 8 (some .boolean) [] d 0 0 (fun v S' => v = some (.int (J x)) ∧ S1 = S') (fun _ _ => False) 43 (gl [(0, .ref (L a0)), (1, .int (J a1)), (2, .int (J a2)), (3, .ref (L a3)), (4, .int (J a4)), (5, .int (J a5)), (6, .int (J a6))]) [] S 0 0
def P_X10_setNumber_69 (l : Launch) (Z : XZ) (L : Nat → Nat) (n : Nat) : Prop := ∀ (d : Nat) (S : GS) (a0 : Nat) (a1 : Int) (a2 : Int) (a3 : Nat) (a4 : Int) (a5 : Int) (a6 : Int) (x : Int) (S1 : GS), f_X10_setNumber n d 69 S [((a0 : Nat) : Int), a1, a2, ((a3 : Nat) : Int), a4, a5, a6] = some (x, S1) → GA l Z L yX10_setNumber cX10_setNumber 8 (some .boolean) [] d 0 0 (fun v S' => v = some (.int (J x)) ∧ S1 = S') (fun _ _ => False) 69 (gl [(0, .ref (L a0)), (1, .int (J a1)), (2, .int (J a2)), (3, .ref (L a3)), (4, .int (J a4)), (5, .int (J a5)), (6, .int (J a6))]) [] S 0 0
def P_X10_setNumber_114 (l : Launch) (Z : XZ) (L : Nat → Nat) (n : Nat) : Prop := ∀ (d : Nat) (S : GS) (a0 : Nat) (a1 : Int) (a3 : Nat) (a4 : Int) (a6 : Int) (a7 : Int) (x : Int) (S1 : GS), f_X10_setNumber n d 114 S [((a0 : Nat) : Int), a1, ((a3 : Nat) : Int), a4, a6, a7] = some (x, S1) → GA l Z L yX10_setNumber cX10_setNumber 8 (some .boolean) [] d 0 0 (fun v S' => v = some (.int (J x)) ∧ S1 = S') (fun _ _ => False) 114 (gl [(0, .ref (L a0)), (1, .int (J a1)), (3, .ref (L a3)), (4, .int (J a4)), (6, .int (J a6)), (7, .int (J a7))]) [] S 0 0
theorem i_X10_setNumber {l : Launch} {Z : XZ} {L : Nat → Nat} {n : Nat} (ih : P_X10_setNumber_0 l Z L n) {d : Nat} {S : GS} {a0 : Nat} {a1 : Int} {a2 : Int} {a3 : Nat} {a4 : Int} {x : Int} {S1 : GS} (H : f_X10_setNumber n d 0 S [((a0 : Nat) : Int), a1, a2, ((a3 : Nat) : Int), a4] = some (x, S1)) : GM l Z L yX10_setNumber cX10_setNumber 8 (some .boolean) [] d 0 0 [.ref (L a0), .int (J a1), .int (J a2), .ref (L a3), .int (J a4)] S (fun v S' => v = some (.int (J x)) ∧ S1 = S') (fun _ _ => False) := GM.of (by decide) (Nat.le_of_ble_eq_true rfl) (ih _ _ _ _ _ _ _ _ _ H)
set_option maxHeartbeats 4000000 in
set_option maxRecDepth 20000 in
theorem t_X10_setNumber_0 {l : Launch} {Z : XZ} {L : Nat → Nat} (n : Nat) (ih_X10_setNumber_0 : P_X10_setNumber_0 l Z L n) (ih_X10_setNumber_19 : P_X10_setNumber_19 l Z L n) (ih_X10_setNumber_43 : P_X10_setNumber_43 l Z L n) (ih_X10_setNumber_69 : P_X10_setNumber_69 l Z L n) (ih_X10_setNumber_114 : P_X10_setNumber_114 l Z L n) : P_X10_setNumber_0 l Z L (n + 1) := by
  intro d S a0 a1 a2 a3 a4 x S1 H
  have H : b_X10_setNumber_0 n d (f_X10_setNumber n) S a0 a1 a2 a3 a4 = some (x, S1) := H
  unfold b_X10_setNumber_0 at H
  refine GA.aload_n dX10_setNumber_0 rfl ?_
  refine GA.iload_n dX10_setNumber_1 rfl ?_
  obtain ⟨hg1, H⟩ := gg_e H
  obtain ⟨hg2, H⟩ := gg_e H
  obtain ⟨x3, S_4, hc5, H⟩ := gc_e H
  refine GA.callV (m_X10_has hc5) xs_X10_105 dX10_setNumber_2 (gsT hg2) (by omega) rfl rfl (by omega) (by decide) rfl (Nat.le_of_ble_eq_true rfl) (by omega) (by omega) rfl (fun E S9 hx => hx.elim) (fun v S9 hq => ?_)
  obtain ⟨rfl, rfl⟩ := hq
  obtain ⟨hg6, H⟩ := gg_e H
  refine GV.if_ne (tgt := 10) hg6 dX10_setNumber_5 (by decide) (fun c7 => ?_) (fun c7 => ?_)
  · have H := it_t H c7
    refine GA.iconst dX10_setNumber_10 ?_
    refine GA.istore dX10_setNumber_11 (by decide) ?_
    refine GA.aload_n dX10_setNumber_13 rfl ?_
    obtain ⟨hg8, H⟩ := gg_e H
    obtain ⟨x9, S_10, hc11, H⟩ := gc_e H
    refine GA.callV (m_X9_length hc11) xs_X10_124 dX10_setNumber_14 (gsS hg8) (by omega) rfl rfl (by omega) (by decide) rfl (Nat.le_of_ble_eq_true rfl) (by omega) (by omega) rfl (fun E S9 hx => hx.elim) (fun v S9 hq => ?_)
    obtain ⟨rfl, rfl⟩ := hq
    refine GA.istore dX10_setNumber_17 (by decide) ?_
    refine GA.locals [(0, .ref (L a0)), (1, .int (J a1)), (2, .int (J a2)), (3, .ref (L a3)), (4, .int (J a4)), (5, .int (J 0)), (6, .int (J x9))] ⟨rfl, rfl, rfl, rfl, rfl, rfl, rfl, trivial⟩ ?_
    exact ih_X10_setNumber_19 _ _ (a0) (a1) (a2) (a3) (a4) (0) (x9) _ _ H
  · have H := it_f H c7
    refine GA.iconst dX10_setNumber_8 ?_
    cases H
    exact GV.zret (by decide) rfl dX10_setNumber_9 (by omega) (by omega) ⟨rfl, rfl⟩
set_option maxHeartbeats 4000000 in
set_option maxRecDepth 20000 in
theorem t_X10_setNumber_19 {l : Launch} {Z : XZ} {L : Nat → Nat} (n : Nat) (ih_X10_setNumber_0 : P_X10_setNumber_0 l Z L n) (ih_X10_setNumber_19 : P_X10_setNumber_19 l Z L n) (ih_X10_setNumber_43 : P_X10_setNumber_43 l Z L n) (ih_X10_setNumber_69 : P_X10_setNumber_69 l Z L n) (ih_X10_setNumber_114 : P_X10_setNumber_114 l Z L n) : P_X10_setNumber_19 l Z L (n + 1) := by
  intro d S a0 a1 a2 a3 a4 a5 a6 x S1 H
  have H : b_X10_setNumber_19 n d (f_X10_setNumber n) S a0 a1 a2 a3 a4 a5 a6 = some (x, S1) := H
  unfold b_X10_setNumber_19 at H
  refine GA.iload dX10_setNumber_19 rfl ?_
  refine GA.iload dX10_setNumber_21 rfl ?_
  obtain ⟨hg1, H⟩ := gg_e H
  obtain ⟨hg2, H⟩ := gg_e H
  refine GV.icmp_ge (tgt := 43) hg1 hg2 dX10_setNumber_23 (by decide) (fun c3 => ?_) (fun c3 => ?_)
  · have H := it_t H c3
    refine GA.locals [(0, .ref (L a0)), (1, .int (J a1)), (2, .int (J a2)), (3, .ref (L a3)), (4, .int (J a4)), (5, .int (J a5)), (6, .int (J a6))] ⟨rfl, rfl, rfl, rfl, rfl, rfl, rfl, trivial⟩ ?_
    exact ih_X10_setNumber_43 _ _ (a0) (a1) (a2) (a3) (a4) (a5) (a6) _ _ H
  · have H := it_f H c3
    refine GA.aload_n dX10_setNumber_26 rfl ?_
    refine GA.iload dX10_setNumber_27 rfl ?_
    obtain ⟨hg4, H⟩ := gg_e H
    obtain ⟨hg5, H⟩ := gg_e H
    obtain ⟨x6, S_7, hc8, H⟩ := gc_e H
    refine GA.callV (m_X9_at hc8) xs_X10_129 dX10_setNumber_29 (gsS hg5) (by omega) rfl rfl (by omega) (by decide) rfl (Nat.le_of_ble_eq_true rfl) (by omega) (by omega) rfl (fun E S9 hx => hx.elim) (fun v S9 hq => ?_)
    obtain ⟨rfl, rfl⟩ := hq
    refine GA.bipush dX10_setNumber_32 rfl ?_
    obtain ⟨hg9, H⟩ := gg_e H
    refine GV.icmp_ne (tgt := 43) hg9 (by decide) dX10_setNumber_34 (by decide) (fun c10 => ?_) (fun c10 => ?_)
    · have H := it_t H c10
      refine GA.locals [(0, .ref (L a0)), (1, .int (J a1)), (2, .int (J a2)), (3, .ref (L a3)), (4, .int (J a4)), (5, .int (J a5)), (6, .int (J a6))] ⟨rfl, rfl, rfl, rfl, rfl, rfl, rfl, trivial⟩ ?_
      exact ih_X10_setNumber_43 _ _ (a0) (a1) (a2) (a3) (a4) (a5) (a6) _ _ H
    · have H := it_f H c10
      obtain ⟨x11, hx12, H⟩ := gv_e H
      refine GV.iinc hx12 dX10_setNumber_37 rfl (by decide) ?_
      refine GA.goto (tgt := 19) dX10_setNumber_40 (by decide) ?_
      refine GA.locals [(0, .ref (L a0)), (1, .int (J a1)), (2, .int (J a2)), (3, .ref (L a3)), (4, .int (J a4)), (5, .int (J x11)), (6, .int (J a6))] ⟨rfl, rfl, rfl, rfl, rfl, rfl, rfl, trivial⟩ ?_
      exact ih_X10_setNumber_19 _ _ (a0) (a1) (a2) (a3) (a4) (x11) (a6) _ _ H
set_option maxHeartbeats 4000000 in
set_option maxRecDepth 20000 in
theorem t_X10_setNumber_43 {l : Launch} {Z : XZ} {L : Nat → Nat} (n : Nat) (ih_X10_setNumber_0 : P_X10_setNumber_0 l Z L n) (ih_X10_setNumber_19 : P_X10_setNumber_19 l Z L n) (ih_X10_setNumber_43 : P_X10_setNumber_43 l Z L n) (ih_X10_setNumber_69 : P_X10_setNumber_69 l Z L n) (ih_X10_setNumber_114 : P_X10_setNumber_114 l Z L n) : P_X10_setNumber_43 l Z L (n + 1) := by
  intro d S a0 a1 a2 a3 a4 a5 a6 x S1 H
  have H : b_X10_setNumber_43 n d (f_X10_setNumber n) S a0 a1 a2 a3 a4 a5 a6 = some (x, S1) := H
  unfold b_X10_setNumber_43 at H
  refine GA.iload dX10_setNumber_43 rfl ?_
  refine GA.iload dX10_setNumber_45 rfl ?_
  obtain ⟨hg1, H⟩ := gg_e H
  obtain ⟨hg2, H⟩ := gg_e H
  refine GV.icmp_le (tgt := 69) hg1 hg2 dX10_setNumber_47 (by decide) (fun c3 => ?_) (fun c3 => ?_)
  · have H := it_t H c3
    refine GA.locals [(0, .ref (L a0)), (1, .int (J a1)), (2, .int (J a2)), (3, .ref (L a3)), (4, .int (J a4)), (5, .int (J a5)), (6, .int (J a6))] ⟨rfl, rfl, rfl, rfl, rfl, rfl, rfl, trivial⟩ ?_
    exact ih_X10_setNumber_69 _ _ (a0) (a1) (a2) (a3) (a4) (a5) (a6) _ _ H
  · have H := it_f H c3
    refine GA.aload_n dX10_setNumber_50 rfl ?_
    refine GA.iload dX10_setNumber_51 rfl ?_
    refine GA.iconst dX10_setNumber_53 ?_
    obtain ⟨x4, hx5, H⟩ := gv_e H
    refine GV.isub hx5 dX10_setNumber_54 ?_
    obtain ⟨hg6, H⟩ := gg_e H
    obtain ⟨hg7, H⟩ := gg_e H
    obtain ⟨x8, S_9, hc10, H⟩ := gc_e H
    refine GA.callV (m_X9_at hc10) xs_X10_129 dX10_setNumber_55 (gsS hg7) (by omega) rfl rfl (by omega) (by decide) rfl (Nat.le_of_ble_eq_true rfl) (by omega) (by omega) rfl (fun E S9 hx => hx.elim) (fun v S9 hq => ?_)
    obtain ⟨rfl, rfl⟩ := hq
    refine GA.bipush dX10_setNumber_58 rfl ?_
    obtain ⟨hg11, H⟩ := gg_e H
    refine GV.icmp_ne (tgt := 69) hg11 (by decide) dX10_setNumber_60 (by decide) (fun c12 => ?_) (fun c12 => ?_)
    · have H := it_t H c12
      refine GA.locals [(0, .ref (L a0)), (1, .int (J a1)), (2, .int (J a2)), (3, .ref (L a3)), (4, .int (J a4)), (5, .int (J a5)), (6, .int (J a6))] ⟨rfl, rfl, rfl, rfl, rfl, rfl, rfl, trivial⟩ ?_
      exact ih_X10_setNumber_69 _ _ (a0) (a1) (a2) (a3) (a4) (a5) (a6) _ _ H
    · have H := it_f H c12
      obtain ⟨x13, hx14, H⟩ := gv_e H
      refine GV.iinc hx14 dX10_setNumber_63 rfl (by decide) ?_
      refine GA.goto (tgt := 43) dX10_setNumber_66 (by decide) ?_
      refine GA.locals [(0, .ref (L a0)), (1, .int (J a1)), (2, .int (J a2)), (3, .ref (L a3)), (4, .int (J a4)), (5, .int (J a5)), (6, .int (J x13))] ⟨rfl, rfl, rfl, rfl, rfl, rfl, rfl, trivial⟩ ?_
      exact ih_X10_setNumber_43 _ _ (a0) (a1) (a2) (a3) (a4) (a5) (x13) _ _ H
set_option maxHeartbeats 4000000 in
set_option maxRecDepth 20000 in
theorem t_X10_setNumber_69 {l : Launch} {Z : XZ} {L : Nat → Nat} (n : Nat) (ih_X10_setNumber_0 : P_X10_setNumber_0 l Z L n) (ih_X10_setNumber_19 : P_X10_setNumber_19 l Z L n) (ih_X10_setNumber_43 : P_X10_setNumber_43 l Z L n) (ih_X10_setNumber_69 : P_X10_setNumber_69 l Z L n) (ih_X10_setNumber_114 : P_X10_setNumber_114 l Z L n) : P_X10_setNumber_69 l Z L (n + 1) := by
  intro d S a0 a1 a2 a3 a4 a5 a6 x S1 H
  have H : b_X10_setNumber_69 n d (f_X10_setNumber n) S a0 a1 a2 a3 a4 a5 a6 = some (x, S1) := H
  unfold b_X10_setNumber_69 at H
  refine GA.aload_n dX10_setNumber_69 rfl ?_
  obtain ⟨hg1, H⟩ := gg_e H
  refine GA.get xf_X10_21 dX10_setNumber_70 (gsT hg1) (by omega) rfl ?_
  refine GA.iload_n dX10_setNumber_73 rfl ?_
  refine GA.iconst dX10_setNumber_74 ?_
  obtain ⟨hg2, H⟩ := gg_e H
  obtain ⟨S_3, hx4, H⟩ := gv_e H
  refine GV.iast hg2 hx4 dX10_setNumber_75 (fun _ => (gsT4 hg1)) (by omega) ?_
  refine GA.iload dX10_setNumber_76 rfl ?_
  refine GA.iload dX10_setNumber_78 rfl ?_
  obtain ⟨hg5, H⟩ := gg_e H
  obtain ⟨hg6, H⟩ := gg_e H
  refine GV.icmp_ne (tgt := 99) hg5 hg6 dX10_setNumber_80 (by decide) (fun c7 => ?_) (fun c7 => ?_)
  · have H := it_t H c7
    refine GA.iload_n dX10_setNumber_99 rfl ?_
    obtain ⟨hg8, H⟩ := gg_e H
    refine GV.if_eq (tgt := 110) hg8 dX10_setNumber_100 (by decide) (fun c9 => ?_) (fun c9 => ?_)
    · have H := it_t H c9
      refine GA.iload dX10_setNumber_110 rfl ?_
      refine GA.istore dX10_setNumber_112 (by decide) ?_
      refine GA.locals [(0, .ref (L a0)), (1, .int (J a1)), (3, .ref (L a3)), (4, .int (J a4)), (6, .int (J a6)), (7, .int (J a5))] ⟨rfl, rfl, rfl, rfl, rfl, rfl, trivial⟩ ?_
      exact ih_X10_setNumber_114 _ _ (a0) (a1) (a3) (a4) (a6) (a5) _ _ H
    · have H := it_f H c9
      refine GA.aload_n dX10_setNumber_103 rfl ?_
      refine GA.iload_n dX10_setNumber_104 rfl ?_
      refine GA.bipush dX10_setNumber_105 rfl ?_
      obtain ⟨hg10, H⟩ := gg_e H
      obtain ⟨x11, S_12, hc13, H⟩ := gc_e H
      refine GA.callV (m_X10_addSign hc13) xs_X10_132 dX10_setNumber_107 (gsT hg1) (by omega) rfl rfl (by omega) (by decide) rfl (Nat.le_of_ble_eq_true rfl) (by omega) (by omega) rfl (fun E S9 hx => hx.elim) (fun v S9 hq => ?_)
      obtain ⟨rfl, rfl⟩ := hq
      refine GA.iload dX10_setNumber_110 rfl ?_
      refine GA.istore dX10_setNumber_112 (by decide) ?_
      refine GA.locals [(0, .ref (L a0)), (1, .int (J a1)), (3, .ref (L a3)), (4, .int (J a4)), (6, .int (J a6)), (7, .int (J a5))] ⟨rfl, rfl, rfl, rfl, rfl, rfl, trivial⟩ ?_
      exact ih_X10_setNumber_114 _ _ (a0) (a1) (a3) (a4) (a6) (a5) _ _ H
  · have H := it_f H c7
    refine GA.aload_n dX10_setNumber_83 rfl ?_
    refine GA.iload_n dX10_setNumber_84 rfl ?_
    refine GA.bipush dX10_setNumber_85 rfl ?_
    obtain ⟨hg14, H⟩ := gg_e H
    obtain ⟨x15, S_16, hc17, H⟩ := gc_e H
    refine GA.callV (m_X10_addSign hc17) xs_X10_132 dX10_setNumber_87 (gsT hg1) (by omega) rfl rfl (by omega) (by decide) rfl (Nat.le_of_ble_eq_true rfl) (by omega) (by omega) rfl (fun E S9 hx => hx.elim) (fun v S9 hq => ?_)
    obtain ⟨rfl, rfl⟩ := hq
    refine GA.aload_n dX10_setNumber_90 rfl ?_
    refine GA.get xf_X10_18 dX10_setNumber_91 (gsT hg1) (by omega) rfl ?_
    refine GA.iload_n dX10_setNumber_94 rfl ?_
    refine GA.iconst dX10_setNumber_95 ?_
    obtain ⟨S_18, hx19, H⟩ := gv_e H
    refine GV.iast hg2 hx19 dX10_setNumber_96 (fun _ => (gsT3 hg1)) (by omega) ?_
    refine GA.iconst dX10_setNumber_97 ?_
    cases H
    exact GV.zret (by decide) rfl dX10_setNumber_98 (by omega) (by omega) ⟨rfl, rfl⟩
set_option maxHeartbeats 4000000 in
set_option maxRecDepth 20000 in
theorem t_X10_setNumber_114 {l : Launch} {Z : XZ} {L : Nat → Nat} (n : Nat) (ih_X10_setNumber_0 : P_X10_setNumber_0 l Z L n) (ih_X10_setNumber_19 : P_X10_setNumber_19 l Z L n) (ih_X10_setNumber_43 : P_X10_setNumber_43 l Z L n) (ih_X10_setNumber_69 : P_X10_setNumber_69 l Z L n) (ih_X10_setNumber_114 : P_X10_setNumber_114 l Z L n) : P_X10_setNumber_114 l Z L (n + 1) := by
  intro d S a0 a1 a3 a4 a6 a7 x S1 H
  have H : b_X10_setNumber_114 n d (f_X10_setNumber n) S a0 a1 a3 a4 a6 a7 = some (x, S1) := H
  unfold b_X10_setNumber_114 at H
  refine GA.iload dX10_setNumber_114 rfl ?_
  refine GA.iload dX10_setNumber_116 rfl ?_
  obtain ⟨hg1, H⟩ := gg_e H
  obtain ⟨hg2, H⟩ := gg_e H
  refine GV.icmp_ge (tgt := 138) hg1 hg2 dX10_setNumber_118 (by decide) (fun c3 => ?_) (fun c3 => ?_)
  · have H := it_t H c3
    refine GA.aload_n dX10_setNumber_138 rfl ?_
    obtain ⟨hg4, H⟩ := gg_e H
    refine GA.get xf_X10_18 dX10_setNumber_139 (gsT hg4) (by omega) rfl ?_
    refine GA.iload_n dX10_setNumber_142 rfl ?_
    refine GA.iload dX10_setNumber_143 rfl ?_
    refine GA.aload_n dX10_setNumber_145 rfl ?_
    obtain ⟨hg5, H⟩ := gg_e H
    obtain ⟨hg6, H⟩ := gg_e H
    obtain ⟨x7, S_8, hc9, H⟩ := gc_e H
    refine GA.callV (m_X9_length hc9) xs_X10_124 dX10_setNumber_146 (gsS hg6) (by omega) rfl rfl (by omega) (by decide) rfl (Nat.le_of_ble_eq_true rfl) (by omega) (by omega) rfl (fun E S9 hx => hx.elim) (fun v S9 hq => ?_)
    obtain ⟨rfl, rfl⟩ := hq
    obtain ⟨x10, hx11, H⟩ := gv_e H
    refine GV.iadd hx11 dX10_setNumber_149 ?_
    refine GA.iload dX10_setNumber_150 rfl ?_
    obtain ⟨x12, hx13, H⟩ := gv_e H
    refine GV.isub hx13 dX10_setNumber_152 ?_
    obtain ⟨hg14, H⟩ := gg_e H
    obtain ⟨S_15, hx16, H⟩ := gv_e H
    refine GV.iast hg14 hx16 dX10_setNumber_153 (fun _ => (gsT3 hg4)) (by omega) ?_
    refine GA.aload_n dX10_setNumber_154 rfl ?_
    refine GA.get xf_X10_18 dX10_setNumber_155 (gsT hg4) (by omega) rfl ?_
    refine GA.iload_n dX10_setNumber_158 rfl ?_
    obtain ⟨x17, hx18, H⟩ := gv_e H
    refine GV.iald hg14 hx18 dX10_setNumber_159 (gsT3 hg4) (by omega) ?_
    obtain ⟨hg19, H⟩ := gg_e H
    obtain ⟨x20, hx21, H⟩ := gv_e H
    refine GV.mabs hg19 hx21 xs_X10_111 dX10_setNumber_160 (Nat.le_of_ble_eq_true rfl) (by omega) (by omega) ?_
    refine GA.bipush dX10_setNumber_163 rfl ?_
    obtain ⟨hg22, H⟩ := gg_e H
    refine GV.icmp_gt (tgt := 172) hg22 (by decide) dX10_setNumber_165 (by decide) (fun c23 => ?_) (fun c23 => ?_)
    · have H := it_t H c23
      refine GA.iconst dX10_setNumber_172 ?_
      cases H
      exact GV.zret (by decide) rfl dX10_setNumber_173 (by omega) (by omega) ⟨rfl, rfl⟩
    · have H := it_f H c23
      refine GA.iconst dX10_setNumber_168 ?_
      refine GA.goto (tgt := 173) dX10_setNumber_169 (by decide) ?_
      cases H
      exact GV.zret (by decide) rfl dX10_setNumber_173 (by omega) (by omega) ⟨rfl, rfl⟩
  · have H := it_f H c3
    refine GA.aload_n dX10_setNumber_121 rfl ?_
    refine GA.iload_n dX10_setNumber_122 rfl ?_
    refine GA.aload_n dX10_setNumber_123 rfl ?_
    refine GA.iload dX10_setNumber_124 rfl ?_
    obtain ⟨hg24, H⟩ := gg_e H
    obtain ⟨hg25, H⟩ := gg_e H
    obtain ⟨x26, S_27, hc28, H⟩ := gc_e H
    refine GA.callV (m_X9_at hc28) xs_X10_129 dX10_setNumber_126 (gsS hg25) (by omega) rfl rfl (by omega) (by decide) rfl (Nat.le_of_ble_eq_true rfl) (by omega) (by omega) rfl (fun E S9 hx => hx.elim) (fun v S9 hq => ?_)
    obtain ⟨rfl, rfl⟩ := hq
    obtain ⟨hg29, H⟩ := gg_e H
    obtain ⟨x30, S_31, hc32, H⟩ := gc_e H
    refine GA.callV (m_X10_addSign hc32) xs_X10_132 dX10_setNumber_129 (gsT hg29) (by omega) rfl rfl (by omega) (by decide) rfl (Nat.le_of_ble_eq_true rfl) (by omega) (by omega) rfl (fun E S9 hx => hx.elim) (fun v S9 hq => ?_)
    obtain ⟨rfl, rfl⟩ := hq
    obtain ⟨x33, hx34, H⟩ := gv_e H
    refine GV.iinc hx34 dX10_setNumber_132 rfl (by decide) ?_
    refine GA.goto (tgt := 114) dX10_setNumber_135 (by decide) ?_
    refine GA.locals [(0, .ref (L a0)), (1, .int (J a1)), (3, .ref (L a3)), (4, .int (J a4)), (6, .int (J a6)), (7, .int (J x33))] ⟨rfl, rfl, rfl, rfl, rfl, rfl, trivial⟩ ?_
    exact ih_X10_setNumber_114 _ _ (a0) (a1) (a3) (a4) (a6) (x33) _ _ H
theorem g_X10_setNumber {l : Launch} {Z : XZ} {L : Nat → Nat} : ∀ n, P_X10_setNumber_0 l Z L n ∧ P_X10_setNumber_19 l Z L n ∧ P_X10_setNumber_43 l Z L n ∧ P_X10_setNumber_69 l Z L n ∧ P_X10_setNumber_114 l Z L n
  | 0 => ⟨fun _ _ _ _ _ _ _ _ _ H => no_e H, fun _ _ _ _ _ _ _ _ _ _ _ H => no_e H, fun _ _ _ _ _ _ _ _ _ _ _ H => no_e H, fun _ _ _ _ _ _ _ _ _ _ _ H => no_e H, fun _ _ _ _ _ _ _ _ _ _ H => no_e H⟩
  | n + 1 => have ⟨h0, h1, h2, h3, h4⟩ := g_X10_setNumber (l := l) (Z := Z) (L := L) n
    ⟨t_X10_setNumber_0 n h0 h1 h2 h3 h4, t_X10_setNumber_19 n h0 h1 h2 h3 h4, t_X10_setNumber_43 n h0 h1 h2 h3 h4, t_X10_setNumber_69 n h0 h1 h2 h3 h4, t_X10_setNumber_114 n h0 h1 h2 h3 h4⟩
theorem m_X10_setNumber {l : Launch} {Z : XZ} {L : Nat → Nat} {n d : Nat} {S : GS} {a0 : Nat} {a1 : Int} {a2 : Int} {a3 : Nat} {a4 : Int} {x : Int} {S1 : GS} (H : f_X10_setNumber n d 0 S [((a0 : Nat) : Int), a1, a2, ((a3 : Nat) : Int), a4] = some (x, S1)) : GM l Z L yX10_setNumber cX10_setNumber 8 (some .boolean) [] d 0 0 [.ref (L a0), .int (J a1), .int (J a2), .ref (L a3), .int (J a4)] S (fun v S' => v = some (.int (J x)) ∧ S1 = S') (fun _ _ => False) := GM.of (by decide) (Nat.le_of_ble_eq_true rfl) ((g_X10_setNumber n).1 _ _ _ _ _ _ _ _ _ H)

def P_X10_size_0 (l : Launch) (Z : XZ) (L : Nat → Nat) (n : Nat) : Prop := ∀ (d : Nat) (S : GS) (a0 : Nat) (a1 : Int) (x : Int) (S1 : GS), f_X10_size n d 0 S [((a0 : Nat) : Int), a1] = some (x, S1) → GA l Z L yX10_size cX10_size 2 (some .int) [] d 0 0 (fun v S' => v = some (.int (J x)) ∧ S1 = S') (fun _ _ => False) 0 (gl [(0, .ref (L a0)), (1, .int (J a1))]) [] S 0 0
theorem i_X10_size {l : Launch} {Z : XZ} {L : Nat → Nat} {n : Nat} (ih : P_X10_size_0 l Z L n) {d : Nat} {S : GS} {a0 : Nat} {a1 : Int} {x : Int} {S1 : GS} (H : f_X10_size n d 0 S [((a0 : Nat) : Int), a1] = some (x, S1)) : GM l Z L yX10_size cX10_size 2 (some .int) [] d 0 0 [.ref (L a0), .int (J a1)] S (fun v S' => v = some (.int (J x)) ∧ S1 = S') (fun _ _ => False) := GM.of (by decide) (Nat.le_of_ble_eq_true rfl) (ih _ _ _ _ _ _ H)
set_option maxHeartbeats 4000000 in
set_option maxRecDepth 20000 in
theorem t_X10_size_0 {l : Launch} {Z : XZ} {L : Nat → Nat} (n : Nat) (ih_X10_size_0 : P_X10_size_0 l Z L n) : P_X10_size_0 l Z L (n + 1) := by
  intro d S a0 a1 x S1 H
  have H : b_X10_size_0 n d (f_X10_size n) S a0 a1 = some (x, S1) := H
  unfold b_X10_size_0 at H
  refine GA.iload_n dX10_size_0 rfl ?_
  obtain ⟨hg1, H⟩ := gg_e H
  refine GV.if_lt (tgt := 27) hg1 dX10_size_1 (by decide) (fun c2 => ?_) (fun c2 => ?_)
  · have H := it_t H c2
    refine GA.iconst dX10_size_27 ?_
    cases H
    exact GA.iret rfl dX10_size_28 (by omega) (by omega) ⟨rfl, rfl⟩
  · have H := it_f H c2
    refine GA.iload_n dX10_size_4 rfl ?_
    refine GA.aload_n dX10_size_5 rfl ?_
    obtain ⟨hg3, H⟩ := gg_e H
    obtain ⟨x4, hx5, H⟩ := gv_e H
    refine GV.getI hx5 xf_X10_34 dX10_size_6 (gsT hg3) (by omega) rfl ?_
    obtain ⟨hg6, H⟩ := gg_e H
    refine GV.icmp_ge (tgt := 27) hg1 hg6 dX10_size_9 (by decide) (fun c7 => ?_) (fun c7 => ?_)
    · have H := it_t H c7
      refine GA.iconst dX10_size_27 ?_
      cases H
      exact GA.iret rfl dX10_size_28 (by omega) (by omega) ⟨rfl, rfl⟩
    · have H := it_f H c7
      refine GA.iload_n dX10_size_12 rfl ?_
      refine GA.bipush dX10_size_13 rfl ?_
      refine GV.icmp_ge (tgt := 27) hg1 (by decide) dX10_size_15 (by decide) (fun c8 => ?_) (fun c8 => ?_)
      · have H := it_t H c8
        refine GA.iconst dX10_size_27 ?_
        cases H
        exact GA.iret rfl dX10_size_28 (by omega) (by omega) ⟨rfl, rfl⟩
      · have H := it_f H c8
        refine GA.aload_n dX10_size_18 rfl ?_
        refine GA.get xf_X10_15 dX10_size_19 (gsT hg3) (by omega) rfl ?_
        refine GA.iload_n dX10_size_22 rfl ?_
        obtain ⟨hg9, H⟩ := gg_e H
        obtain ⟨x10, hx11, H⟩ := gv_e H
        refine GV.iald hg9 hx11 dX10_size_23 (gsT2 hg3) (by omega) ?_
        refine GA.goto (tgt := 28) dX10_size_24 (by decide) ?_
        cases H
        exact GA.iret rfl dX10_size_28 (by omega) (by omega) ⟨rfl, rfl⟩
theorem g_X10_size {l : Launch} {Z : XZ} {L : Nat → Nat} : ∀ n, P_X10_size_0 l Z L n
  | 0 => fun _ _ _ _ _ _ H => no_e H
  | n + 1 => t_X10_size_0 n (g_X10_size n)
theorem m_X10_size {l : Launch} {Z : XZ} {L : Nat → Nat} {n d : Nat} {S : GS} {a0 : Nat} {a1 : Int} {x : Int} {S1 : GS} (H : f_X10_size n d 0 S [((a0 : Nat) : Int), a1] = some (x, S1)) : GM l Z L yX10_size cX10_size 2 (some .int) [] d 0 0 [.ref (L a0), .int (J a1)] S (fun v S' => v = some (.int (J x)) ∧ S1 = S') (fun _ _ => False) := GM.of (by decide) (Nat.le_of_ble_eq_true rfl) ((g_X10_size n) _ _ _ _ _ _ H)

def P_X10_powerOrTruth_0 (l : Launch) (Z : XZ) (L : Nat → Nat) (n : Nat) : Prop := ∀ (d : Nat) (S : GS) (a0 : Nat) (a1 : Int) (x : Int) (S1 : GS), f_X10_powerOrTruth n d 0 S [((a0 : Nat) : Int), a1] = some (x, S1) → GA l Z L yX10_powerOrTruth cX10_powerOrTruth 2 (some .int) [] d 0 0 (fun v S' => v = some (.int (J x)) ∧ S1 = S') (fun _ _ => False) 0 (gl [(0, .ref (L a0)), (1, .int (J a1))]) [] S 0 0
theorem i_X10_powerOrTruth {l : Launch} {Z : XZ} {L : Nat → Nat} {n : Nat} (ih : P_X10_powerOrTruth_0 l Z L n) {d : Nat} {S : GS} {a0 : Nat} {a1 : Int} {x : Int} {S1 : GS} (H : f_X10_powerOrTruth n d 0 S [((a0 : Nat) : Int), a1] = some (x, S1)) : GM l Z L yX10_powerOrTruth cX10_powerOrTruth 2 (some .int) [] d 0 0 [.ref (L a0), .int (J a1)] S (fun v S' => v = some (.int (J x)) ∧ S1 = S') (fun _ _ => False) := GM.of (by decide) (Nat.le_of_ble_eq_true rfl) (ih _ _ _ _ _ _ H)
set_option maxHeartbeats 4000000 in
set_option maxRecDepth 20000 in
theorem t_X10_powerOrTruth_0 {l : Launch} {Z : XZ} {L : Nat → Nat} (n : Nat) (ih_X10_powerOrTruth_0 : P_X10_powerOrTruth_0 l Z L n) : P_X10_powerOrTruth_0 l Z L (n + 1) := by
  intro d S a0 a1 x S1 H
  have H : b_X10_powerOrTruth_0 n d (f_X10_powerOrTruth n) S a0 a1 = some (x, S1) := H
  unfold b_X10_powerOrTruth_0 at H
  refine GA.iload_n dX10_powerOrTruth_0 rfl ?_
  obtain ⟨hg1, H⟩ := gg_e H
  refine GV.if_lt (tgt := 27) hg1 dX10_powerOrTruth_1 (by decide) (fun c2 => ?_) (fun c2 => ?_)
  · have H := it_t H c2
    refine GA.iconst dX10_powerOrTruth_27 ?_
    cases H
    exact GA.iret rfl dX10_powerOrTruth_28 (by omega) (by omega) ⟨rfl, rfl⟩
  · have H := it_f H c2
    refine GA.iload_n dX10_powerOrTruth_4 rfl ?_
    refine GA.aload_n dX10_powerOrTruth_5 rfl ?_
    obtain ⟨hg3, H⟩ := gg_e H
    obtain ⟨x4, hx5, H⟩ := gv_e H
    refine GV.getI hx5 xf_X10_34 dX10_powerOrTruth_6 (gsT hg3) (by omega) rfl ?_
    obtain ⟨hg6, H⟩ := gg_e H
    refine GV.icmp_ge (tgt := 27) hg1 hg6 dX10_powerOrTruth_9 (by decide) (fun c7 => ?_) (fun c7 => ?_)
    · have H := it_t H c7
      refine GA.iconst dX10_powerOrTruth_27 ?_
      cases H
      exact GA.iret rfl dX10_powerOrTruth_28 (by omega) (by omega) ⟨rfl, rfl⟩
    · have H := it_f H c7
      refine GA.iload_n dX10_powerOrTruth_12 rfl ?_
      refine GA.bipush dX10_powerOrTruth_13 rfl ?_
      refine GV.icmp_ge (tgt := 27) hg1 (by decide) dX10_powerOrTruth_15 (by decide) (fun c8 => ?_) (fun c8 => ?_)
      · have H := it_t H c8
        refine GA.iconst dX10_powerOrTruth_27 ?_
        cases H
        exact GA.iret rfl dX10_powerOrTruth_28 (by omega) (by omega) ⟨rfl, rfl⟩
      · have H := it_f H c8
        refine GA.aload_n dX10_powerOrTruth_18 rfl ?_
        refine GA.get xf_X10_18 dX10_powerOrTruth_19 (gsT hg3) (by omega) rfl ?_
        refine GA.iload_n dX10_powerOrTruth_22 rfl ?_
        obtain ⟨hg9, H⟩ := gg_e H
        obtain ⟨x10, hx11, H⟩ := gv_e H
        refine GV.iald hg9 hx11 dX10_powerOrTruth_23 (gsT3 hg3) (by omega) ?_
        refine GA.goto (tgt := 28) dX10_powerOrTruth_24 (by decide) ?_
        cases H
        exact GA.iret rfl dX10_powerOrTruth_28 (by omega) (by omega) ⟨rfl, rfl⟩
theorem g_X10_powerOrTruth {l : Launch} {Z : XZ} {L : Nat → Nat} : ∀ n, P_X10_powerOrTruth_0 l Z L n
  | 0 => fun _ _ _ _ _ _ H => no_e H
  | n + 1 => t_X10_powerOrTruth_0 n (g_X10_powerOrTruth n)
theorem m_X10_powerOrTruth {l : Launch} {Z : XZ} {L : Nat → Nat} {n d : Nat} {S : GS} {a0 : Nat} {a1 : Int} {x : Int} {S1 : GS} (H : f_X10_powerOrTruth n d 0 S [((a0 : Nat) : Int), a1] = some (x, S1)) : GM l Z L yX10_powerOrTruth cX10_powerOrTruth 2 (some .int) [] d 0 0 [.ref (L a0), .int (J a1)] S (fun v S' => v = some (.int (J x)) ∧ S1 = S') (fun _ _ => False) := GM.of (by decide) (Nat.le_of_ble_eq_true rfl) ((g_X10_powerOrTruth n) _ _ _ _ _ _ H)

def P_X10_sameSigns_0 (l : Launch) (Z : XZ) (L : Nat → Nat) (n : Nat) : Prop := ∀ (d : Nat) (S : GS) (a0 : Nat) (a1 : Int) (a2 : Nat) (a3 : Int) (x : Int) (S1 : GS), f_X10_sameSigns n d 0 S [((a0 : Nat) : Int), a1, ((a2 : Nat) : Int), a3] = some (x, S1) → GA l Z L yX10_sameSigns cX10_sameSigns 6 (some .boolean) [] d 0 0 (fun v S' => v = some (.int (J x)) ∧ S1 = S') (fun _ _ => False) 0 (gl [(0, .ref (L a0)), (1, .int (J a1)), (2, .ref (L a2)), (3, .int (J a3))]) [] S 0 0
def P_X10_sameSigns_36 (l : Launch) (Z : XZ) (L : Nat → Nat) (n : Nat) : Prop := ∀ (d : Nat) (S : GS) (a0 : Nat) (a1 : Int) (a2 : Nat) (a3 : Int) (a4 : Int) (a5 : Int) (x : Int) (S1 : GS), f_X10_sameSigns n d 36 S [((a0 : Nat) : Int), a1, ((a2 : Nat) : Int), a3, a4, a5] = some (x, S1) → GA l Z L yX10_sameSigns cX10_sameSigns 6 (some .boolean) [] d 0 0 (fun v S' => v = some (.int (J x)) ∧ S1 = S') (fun _ _ => False) 36 (gl [(0, .ref (L a0)), (1, .int (J a1)), (2, .ref (L a2)), (3, .int (J a3)), (4, .int (J a4)), (5, .int (J a5))]) [] S 0 0
theorem i_X10_sameSigns {l : Launch} {Z : XZ} {L : Nat → Nat} {n : Nat} (ih : P_X10_sameSigns_0 l Z L n) {d : Nat} {S : GS} {a0 : Nat} {a1 : Int} {a2 : Nat} {a3 : Int} {x : Int} {S1 : GS} (H : f_X10_sameSigns n d 0 S [((a0 : Nat) : Int), a1, ((a2 : Nat) : Int), a3] = some (x, S1)) : GM l Z L yX10_sameSigns cX10_sameSigns 6 (some .boolean) [] d 0 0 [.ref (L a0), .int (J a1), .ref (L a2), .int (J a3)] S (fun v S' => v = some (.int (J x)) ∧ S1 = S') (fun _ _ => False) := GM.of (by decide) (Nat.le_of_ble_eq_true rfl) (ih _ _ _ _ _ _ _ _ H)
set_option maxHeartbeats 4000000 in
set_option maxRecDepth 20000 in
theorem t_X10_sameSigns_0 {l : Launch} {Z : XZ} {L : Nat → Nat} (n : Nat) (ih_X10_sameSigns_0 : P_X10_sameSigns_0 l Z L n) (ih_X10_sameSigns_36 : P_X10_sameSigns_36 l Z L n) : P_X10_sameSigns_0 l Z L (n + 1) := by
  intro d S a0 a1 a2 a3 x S1 H
  have H : b_X10_sameSigns_0 n d (f_X10_sameSigns n) S a0 a1 a2 a3 = some (x, S1) := H
  unfold b_X10_sameSigns_0 at H
  refine GA.aload_n dX10_sameSigns_0 rfl ?_
  refine GA.iload_n dX10_sameSigns_1 rfl ?_
  obtain ⟨hg1, H⟩ := gg_e H
  obtain ⟨hg2, H⟩ := gg_e H
  obtain ⟨x3, S_4, hc5, H⟩ := gc_e H
  refine GA.callV (m_X10_powerOrTruth hc5) xs_X10_184 dX10_sameSigns_2 (gsT hg2) (by omega) rfl rfl (by omega) (by decide) rfl (Nat.le_of_ble_eq_true rfl) (by omega) (by omega) rfl (fun E S9 hx => hx.elim) (fun v S9 hq => ?_)
  obtain ⟨rfl, rfl⟩ := hq
  refine GA.aload_n dX10_sameSigns_5 rfl ?_
  refine GA.iload_n dX10_sameSigns_6 rfl ?_
  obtain ⟨hg6, H⟩ := gg_e H
  obtain ⟨x7, S_8, hc9, H⟩ := gc_e H
  refine GA.callV (m_X10_powerOrTruth hc9) xs_X10_184 dX10_sameSigns_7 (gsT hg6) (by omega) rfl rfl (by omega) (by decide) rfl (Nat.le_of_ble_eq_true rfl) (by omega) (by omega) rfl (fun E S9 hx => hx.elim) (fun v S9 hq => ?_)
  obtain ⟨rfl, rfl⟩ := hq
  obtain ⟨hg10, H⟩ := gg_e H
  obtain ⟨hg11, H⟩ := gg_e H
  refine GV.icmp_ne (tgt := 30) hg10 hg11 dX10_sameSigns_10 (by decide) (fun c12 => ?_) (fun c12 => ?_)
  · have H := it_t H c12
    refine GA.iconst dX10_sameSigns_30 ?_
    refine GA.istore dX10_sameSigns_31 (by decide) ?_
    refine GA.iconst dX10_sameSigns_33 ?_
    refine GA.istore dX10_sameSigns_34 (by decide) ?_
    refine GA.locals [(0, .ref (L a0)), (1, .int (J a1)), (2, .ref (L a2)), (3, .int (J a3)), (4, .int (J 0)), (5, .int (J 0))] ⟨rfl, rfl, rfl, rfl, rfl, rfl, trivial⟩ ?_
    exact ih_X10_sameSigns_36 _ _ (a0) (a1) (a2) (a3) (0) (0) _ _ H
  · have H := it_f H c12
    refine GA.aload_n dX10_sameSigns_13 rfl ?_
    refine GA.iload_n dX10_sameSigns_14 rfl ?_
    obtain ⟨x13, S_14, hc15, H⟩ := gc_e H
    refine GA.callV (m_X10_lengthOf hc15) xs_X10_139 dX10_sameSigns_15 (gsT hg2) (by omega) rfl rfl (by omega) (by decide) rfl (Nat.le_of_ble_eq_true rfl) (by omega) (by omega) rfl (fun E S9 hx => hx.elim) (fun v S9 hq => ?_)
    obtain ⟨rfl, rfl⟩ := hq
    refine GA.aload_n dX10_sameSigns_18 rfl ?_
    refine GA.iload_n dX10_sameSigns_19 rfl ?_
    obtain ⟨x16, S_17, hc18, H⟩ := gc_e H
    refine GA.callV (m_X10_lengthOf hc18) xs_X10_139 dX10_sameSigns_20 (gsT hg6) (by omega) rfl rfl (by omega) (by decide) rfl (Nat.le_of_ble_eq_true rfl) (by omega) (by omega) rfl (fun E S9 hx => hx.elim) (fun v S9 hq => ?_)
    obtain ⟨rfl, rfl⟩ := hq
    obtain ⟨hg19, H⟩ := gg_e H
    obtain ⟨hg20, H⟩ := gg_e H
    refine GV.icmp_ne (tgt := 30) hg19 hg20 dX10_sameSigns_23 (by decide) (fun c21 => ?_) (fun c21 => ?_)
    · have H := it_t H c21
      refine GA.iconst dX10_sameSigns_30 ?_
      refine GA.istore dX10_sameSigns_31 (by decide) ?_
      refine GA.iconst dX10_sameSigns_33 ?_
      refine GA.istore dX10_sameSigns_34 (by decide) ?_
      refine GA.locals [(0, .ref (L a0)), (1, .int (J a1)), (2, .ref (L a2)), (3, .int (J a3)), (4, .int (J 0)), (5, .int (J 0))] ⟨rfl, rfl, rfl, rfl, rfl, rfl, trivial⟩ ?_
      exact ih_X10_sameSigns_36 _ _ (a0) (a1) (a2) (a3) (0) (0) _ _ H
    · have H := it_f H c21
      refine GA.iconst dX10_sameSigns_26 ?_
      refine GA.goto (tgt := 31) dX10_sameSigns_27 (by decide) ?_
      refine GA.istore dX10_sameSigns_31 (by decide) ?_
      refine GA.iconst dX10_sameSigns_33 ?_
      refine GA.istore dX10_sameSigns_34 (by decide) ?_
      refine GA.locals [(0, .ref (L a0)), (1, .int (J a1)), (2, .ref (L a2)), (3, .int (J a3)), (4, .int (J 1)), (5, .int (J 0))] ⟨rfl, rfl, rfl, rfl, rfl, rfl, trivial⟩ ?_
      exact ih_X10_sameSigns_36 _ _ (a0) (a1) (a2) (a3) (1) (0) _ _ H
set_option maxHeartbeats 4000000 in
set_option maxRecDepth 20000 in
theorem t_X10_sameSigns_36 {l : Launch} {Z : XZ} {L : Nat → Nat} (n : Nat) (ih_X10_sameSigns_0 : P_X10_sameSigns_0 l Z L n) (ih_X10_sameSigns_36 : P_X10_sameSigns_36 l Z L n) : P_X10_sameSigns_36 l Z L (n + 1) := by
  intro d S a0 a1 a2 a3 a4 a5 x S1 H
  have H : b_X10_sameSigns_36 n d (f_X10_sameSigns n) S a0 a1 a2 a3 a4 a5 = some (x, S1) := H
  unfold b_X10_sameSigns_36 at H
  refine GA.iload dX10_sameSigns_36 rfl ?_
  refine GA.aload_n dX10_sameSigns_38 rfl ?_
  refine GA.iload_n dX10_sameSigns_39 rfl ?_
  obtain ⟨hg1, H⟩ := gg_e H
  obtain ⟨hg2, H⟩ := gg_e H
  obtain ⟨x3, S_4, hc5, H⟩ := gc_e H
  refine GA.callV (m_X10_lengthOf hc5) xs_X10_139 dX10_sameSigns_40 (gsT hg2) (by omega) rfl rfl (by omega) (by decide) rfl (Nat.le_of_ble_eq_true rfl) (by omega) (by omega) rfl (fun E S9 hx => hx.elim) (fun v S9 hq => ?_)
  obtain ⟨rfl, rfl⟩ := hq
  obtain ⟨hg6, H⟩ := gg_e H
  obtain ⟨hg7, H⟩ := gg_e H
  refine GV.icmp_ge (tgt := 81) hg6 hg7 dX10_sameSigns_43 (by decide) (fun c8 => ?_) (fun c8 => ?_)
  · have H := it_t H c8
    refine GA.iload dX10_sameSigns_81 rfl ?_
    obtain ⟨hg9, H⟩ := gg_e H
    cases H
    exact GV.zret hg9 rfl dX10_sameSigns_83 (by omega) (by omega) ⟨rfl, rfl⟩
  · have H := it_f H c8
    refine GA.iload dX10_sameSigns_46 rfl ?_
    obtain ⟨hg10, H⟩ := gg_e H
    refine GV.if_eq (tgt := 81) hg10 dX10_sameSigns_48 (by decide) (fun c11 => ?_) (fun c11 => ?_)
    · have H := it_t H c11
      refine GA.iload dX10_sameSigns_81 rfl ?_
      obtain ⟨hg12, H⟩ := gg_e H
      cases H
      exact GV.zret hg12 rfl dX10_sameSigns_83 (by omega) (by omega) ⟨rfl, rfl⟩
    · have H := it_f H c11
      refine GA.aload_n dX10_sameSigns_51 rfl ?_
      refine GA.iload_n dX10_sameSigns_52 rfl ?_
      refine GA.iload dX10_sameSigns_53 rfl ?_
      obtain ⟨x13, S_14, hc15, H⟩ := gc_e H
      refine GA.callV (m_X10_signAt hc15) xs_X10_136 dX10_sameSigns_55 (gsT hg2) (by omega) rfl rfl (by omega) (by decide) rfl (Nat.le_of_ble_eq_true rfl) (by omega) (by omega) rfl (fun E S9 hx => hx.elim) (fun v S9 hq => ?_)
      obtain ⟨rfl, rfl⟩ := hq
      refine GA.aload_n dX10_sameSigns_58 rfl ?_
      refine GA.iload_n dX10_sameSigns_59 rfl ?_
      refine GA.iload dX10_sameSigns_60 rfl ?_
      obtain ⟨hg16, H⟩ := gg_e H
      obtain ⟨x17, S_18, hc19, H⟩ := gc_e H
      refine GA.callV (m_X10_signAt hc19) xs_X10_136 dX10_sameSigns_62 (gsT hg16) (by omega) rfl rfl (by omega) (by decide) rfl (Nat.le_of_ble_eq_true rfl) (by omega) (by omega) rfl (fun E S9 hx => hx.elim) (fun v S9 hq => ?_)
      obtain ⟨rfl, rfl⟩ := hq
      obtain ⟨hg20, H⟩ := gg_e H
      obtain ⟨hg21, H⟩ := gg_e H
      refine GV.icmp_ne (tgt := 72) hg20 hg21 dX10_sameSigns_65 (by decide) (fun c22 => ?_) (fun c22 => ?_)
      · have H := it_t H c22
        refine GA.iconst dX10_sameSigns_72 ?_
        refine GA.istore dX10_sameSigns_73 (by decide) ?_
        obtain ⟨x23, hx24, H⟩ := gv_e H
        refine GV.iinc hx24 dX10_sameSigns_75 rfl (by decide) ?_
        refine GA.goto (tgt := 36) dX10_sameSigns_78 (by decide) ?_
        refine GA.locals [(0, .ref (L a0)), (1, .int (J a1)), (2, .ref (L a2)), (3, .int (J a3)), (4, .int (J 0)), (5, .int (J x23))] ⟨rfl, rfl, rfl, rfl, rfl, rfl, trivial⟩ ?_
        exact ih_X10_sameSigns_36 _ _ (a0) (a1) (a2) (a3) (0) (x23) _ _ H
      · have H := it_f H c22
        refine GA.iconst dX10_sameSigns_68 ?_
        refine GA.goto (tgt := 73) dX10_sameSigns_69 (by decide) ?_
        refine GA.istore dX10_sameSigns_73 (by decide) ?_
        obtain ⟨x25, hx26, H⟩ := gv_e H
        refine GV.iinc hx26 dX10_sameSigns_75 rfl (by decide) ?_
        refine GA.goto (tgt := 36) dX10_sameSigns_78 (by decide) ?_
        refine GA.locals [(0, .ref (L a0)), (1, .int (J a1)), (2, .ref (L a2)), (3, .int (J a3)), (4, .int (J 1)), (5, .int (J x25))] ⟨rfl, rfl, rfl, rfl, rfl, rfl, trivial⟩ ?_
        exact ih_X10_sameSigns_36 _ _ (a0) (a1) (a2) (a3) (1) (x25) _ _ H
theorem g_X10_sameSigns {l : Launch} {Z : XZ} {L : Nat → Nat} : ∀ n, P_X10_sameSigns_0 l Z L n ∧ P_X10_sameSigns_36 l Z L n
  | 0 => ⟨fun _ _ _ _ _ _ _ _ H => no_e H, fun _ _ _ _ _ _ _ _ _ _ H => no_e H⟩
  | n + 1 => have ⟨h0, h1⟩ := g_X10_sameSigns (l := l) (Z := Z) (L := L) n
    ⟨t_X10_sameSigns_0 n h0 h1, t_X10_sameSigns_36 n h0 h1⟩
theorem m_X10_sameSigns {l : Launch} {Z : XZ} {L : Nat → Nat} {n d : Nat} {S : GS} {a0 : Nat} {a1 : Int} {a2 : Nat} {a3 : Int} {x : Int} {S1 : GS} (H : f_X10_sameSigns n d 0 S [((a0 : Nat) : Int), a1, ((a2 : Nat) : Int), a3] = some (x, S1)) : GM l Z L yX10_sameSigns cX10_sameSigns 6 (some .boolean) [] d 0 0 [.ref (L a0), .int (J a1), .ref (L a2), .int (J a3)] S (fun v S' => v = some (.int (J x)) ∧ S1 = S') (fun _ _ => False) := GM.of (by decide) (Nat.le_of_ble_eq_true rfl) ((g_X10_sameSigns n).1 _ _ _ _ _ _ _ _ H)

def P_X10_orderOfKeys_0 (l : Launch) (Z : XZ) (L : Nat → Nat) (n : Nat) : Prop := ∀ (d : Nat) (S : GS) (a0 : Nat) (a1 : Int) (a2 : Nat) (a3 : Int) (x : Int) (S1 : GS), f_X10_orderOfKeys n d 0 S [((a0 : Nat) : Int), a1, ((a2 : Nat) : Int), a3] = some (x, S1) → GA l Z L yX10_orderOfKeys cX10_orderOfKeys 7 (some .int) [] d 0 0 (fun v S' => v = some (.int (J x)) ∧ S1 = S') (fun _ _ => False) 0 (gl [(0, .ref (L a0)), (1, .int (J a1)), (2, .ref (L a2)), (3, .int (J a3))]) [] S 0 0
def P_X10_orderOfKeys_47 (l : Launch) (Z : XZ) (L : Nat → Nat) (n : Nat) : Prop := ∀ (d : Nat) (S : GS) (a0 : Nat) (a1 : Int) (a2 : Nat) (a3 : Int) (a4 : Int) (a5 : Int) (x : Int) (S1 : GS), f_X10_orderOfKeys n d 47 S [((a0 : Nat) : Int), a1, ((a2 : Nat) : Int), a3, a4, a5] = some (x, S1) → GA l Z L yX10_orderOfKeys cX10_orderOfKeys 7 (some .int) [] d 0 0 (fun v S' => v = some (.int (J x)) ∧ S1 = S') (fun _ _ => False) 47 (gl [(0, .ref (L a0)), (1, .int (J a1)), (2, .ref (L a2)), (3, .int (J a3)), (4, .int (J a4)), (5, .int (J a5))]) [] S 0 0
theorem i_X10_orderOfKeys {l : Launch} {Z : XZ} {L : Nat → Nat} {n : Nat} (ih : P_X10_orderOfKeys_0 l Z L n) {d : Nat} {S : GS} {a0 : Nat} {a1 : Int} {a2 : Nat} {a3 : Int} {x : Int} {S1 : GS} (H : f_X10_orderOfKeys n d 0 S [((a0 : Nat) : Int), a1, ((a2 : Nat) : Int), a3] = some (x, S1)) : GM l Z L yX10_orderOfKeys cX10_orderOfKeys 7 (some .int) [] d 0 0 [.ref (L a0), .int (J a1), .ref (L a2), .int (J a3)] S (fun v S' => v = some (.int (J x)) ∧ S1 = S') (fun _ _ => False) := GM.of (by decide) (Nat.le_of_ble_eq_true rfl) (ih _ _ _ _ _ _ _ _ H)
set_option maxHeartbeats 4000000 in
set_option maxRecDepth 20000 in
theorem t_X10_orderOfKeys_0 {l : Launch} {Z : XZ} {L : Nat → Nat} (n : Nat) (ih_X10_orderOfKeys_0 : P_X10_orderOfKeys_0 l Z L n) (ih_X10_orderOfKeys_47 : P_X10_orderOfKeys_47 l Z L n) : P_X10_orderOfKeys_0 l Z L (n + 1) := by
  intro d S a0 a1 a2 a3 x S1 H
  have H : b_X10_orderOfKeys_0 n d (f_X10_orderOfKeys n) S a0 a1 a2 a3 = some (x, S1) := H
  unfold b_X10_orderOfKeys_0 at H
  refine GA.iload_n dX10_orderOfKeys_0 rfl ?_
  obtain ⟨hg1, H⟩ := gg_e H
  refine GV.if_lt (tgt := 20) hg1 dX10_orderOfKeys_1 (by decide) (fun c2 => ?_) (fun c2 => ?_)
  · have H := it_t H c2
    refine GA.iconst dX10_orderOfKeys_20 ?_
    cases H
    exact GA.iret rfl dX10_orderOfKeys_21 (by omega) (by omega) ⟨rfl, rfl⟩
  · have H := it_f H c2
    refine GA.iload_n dX10_orderOfKeys_4 rfl ?_
    refine GA.bipush dX10_orderOfKeys_5 rfl ?_
    refine GV.icmp_ge (tgt := 20) hg1 (by decide) dX10_orderOfKeys_7 (by decide) (fun c3 => ?_) (fun c3 => ?_)
    · have H := it_t H c3
      refine GA.iconst dX10_orderOfKeys_20 ?_
      cases H
      exact GA.iret rfl dX10_orderOfKeys_21 (by omega) (by omega) ⟨rfl, rfl⟩
    · have H := it_f H c3
      refine GA.iload_n dX10_orderOfKeys_10 rfl ?_
      obtain ⟨hg4, H⟩ := gg_e H
      refine GV.if_lt (tgt := 20) hg4 dX10_orderOfKeys_11 (by decide) (fun c5 => ?_) (fun c5 => ?_)
      · have H := it_t H c5
        refine GA.iconst dX10_orderOfKeys_20 ?_
        cases H
        exact GA.iret rfl dX10_orderOfKeys_21 (by omega) (by omega) ⟨rfl, rfl⟩
      · have H := it_f H c5
        refine GA.iload_n dX10_orderOfKeys_14 rfl ?_
        refine GA.bipush dX10_orderOfKeys_15 rfl ?_
        refine GV.icmp_lt (tgt := 22) hg4 (by decide) dX10_orderOfKeys_17 (by decide) (fun c6 => ?_) (fun c6 => ?_)
        · have H := it_t H c6
          refine GA.aload_n dX10_orderOfKeys_22 rfl ?_
          obtain ⟨hg7, H⟩ := gg_e H
          refine GA.get xf_X10_28 dX10_orderOfKeys_23 (gsT hg7) (by omega) rfl ?_
          refine GA.iload_n dX10_orderOfKeys_26 rfl ?_
          obtain ⟨hg8, H⟩ := gg_e H
          obtain ⟨x9, hx10, H⟩ := gv_e H
          refine GV.iald hg8 hx10 dX10_orderOfKeys_27 (gsT6 hg7) (by omega) ?_
          refine GA.aload_n dX10_orderOfKeys_28 rfl ?_
          obtain ⟨hg11, H⟩ := gg_e H
          refine GA.get xf_X10_28 dX10_orderOfKeys_29 (gsT hg11) (by omega) rfl ?_
          refine GA.iload_n dX10_orderOfKeys_32 rfl ?_
          obtain ⟨hg12, H⟩ := gg_e H
          obtain ⟨x13, hx14, H⟩ := gv_e H
          refine GV.iald hg12 hx14 dX10_orderOfKeys_33 (gsT6 hg11) (by omega) ?_
          obtain ⟨hg15, H⟩ := gg_e H
          obtain ⟨hg16, H⟩ := gg_e H
          obtain ⟨x17, hx18, H⟩ := gv_e H
          refine GV.mmin hg15 hg16 hx18 xs_X10_66 dX10_orderOfKeys_34 (Nat.le_of_ble_eq_true rfl) (by omega) (by omega) ?_
          refine GA.bipush dX10_orderOfKeys_37 rfl ?_
          obtain ⟨hg19, H⟩ := gg_e H
          obtain ⟨x20, hx21, H⟩ := gv_e H
          refine GV.mmin hg19 (by decide) hx21 xs_X10_66 dX10_orderOfKeys_39 (Nat.le_of_ble_eq_true rfl) (by omega) (by omega) ?_
          refine GA.istore dX10_orderOfKeys_42 (by decide) ?_
          refine GA.iconst dX10_orderOfKeys_44 ?_
          refine GA.istore dX10_orderOfKeys_45 (by decide) ?_
          refine GA.locals [(0, .ref (L a0)), (1, .int (J a1)), (2, .ref (L a2)), (3, .int (J a3)), (4, .int (J x20)), (5, .int (J 0))] ⟨rfl, rfl, rfl, rfl, rfl, rfl, trivial⟩ ?_
          exact ih_X10_orderOfKeys_47 _ _ (a0) (a1) (a2) (a3) (x20) (0) _ _ H
        · have H := it_f H c6
          refine GA.iconst dX10_orderOfKeys_20 ?_
          cases H
          exact GA.iret rfl dX10_orderOfKeys_21 (by omega) (by omega) ⟨rfl, rfl⟩
set_option maxHeartbeats 4000000 in
set_option maxRecDepth 20000 in
theorem t_X10_orderOfKeys_47 {l : Launch} {Z : XZ} {L : Nat → Nat} (n : Nat) (ih_X10_orderOfKeys_0 : P_X10_orderOfKeys_0 l Z L n) (ih_X10_orderOfKeys_47 : P_X10_orderOfKeys_47 l Z L n) : P_X10_orderOfKeys_47 l Z L (n + 1) := by
  intro d S a0 a1 a2 a3 a4 a5 x S1 H
  have H : b_X10_orderOfKeys_47 n d (f_X10_orderOfKeys n) S a0 a1 a2 a3 a4 a5 = some (x, S1) := H
  unfold b_X10_orderOfKeys_47 at H
  refine GA.iload dX10_orderOfKeys_47 rfl ?_
  refine GA.iload dX10_orderOfKeys_49 rfl ?_
  obtain ⟨hg1, H⟩ := gg_e H
  obtain ⟨hg2, H⟩ := gg_e H
  refine GV.icmp_ge (tgt := 103) hg1 hg2 dX10_orderOfKeys_51 (by decide) (fun c3 => ?_) (fun c3 => ?_)
  · have H := it_t H c3
    refine GA.iconst dX10_orderOfKeys_103 ?_
    refine GA.iconst dX10_orderOfKeys_104 ?_
    refine GA.aload_n dX10_orderOfKeys_105 rfl ?_
    obtain ⟨hg4, H⟩ := gg_e H
    refine GA.get xf_X10_28 dX10_orderOfKeys_106 (gsT hg4) (by omega) rfl ?_
    refine GA.iload_n dX10_orderOfKeys_109 rfl ?_
    obtain ⟨hg5, H⟩ := gg_e H
    obtain ⟨x6, hx7, H⟩ := gv_e H
    refine GV.iald hg5 hx7 dX10_orderOfKeys_110 (gsT6 hg4) (by omega) ?_
    refine GA.aload_n dX10_orderOfKeys_111 rfl ?_
    obtain ⟨hg8, H⟩ := gg_e H
    refine GA.get xf_X10_28 dX10_orderOfKeys_112 (gsT hg8) (by omega) rfl ?_
    refine GA.iload_n dX10_orderOfKeys_115 rfl ?_
    obtain ⟨hg9, H⟩ := gg_e H
    obtain ⟨x10, hx11, H⟩ := gv_e H
    refine GV.iald hg9 hx11 dX10_orderOfKeys_116 (gsT6 hg8) (by omega) ?_
    obtain ⟨x12, hx13, H⟩ := gv_e H
    refine GV.isub hx13 dX10_orderOfKeys_117 ?_
    obtain ⟨hg14, H⟩ := gg_e H
    obtain ⟨x15, hx16, H⟩ := gv_e H
    refine GV.mmin (by decide) hg14 hx16 xs_X10_66 dX10_orderOfKeys_118 (Nat.le_of_ble_eq_true rfl) (by omega) (by omega) ?_
    obtain ⟨hg17, H⟩ := gg_e H
    obtain ⟨x18, hx19, H⟩ := gv_e H
    refine GV.mmax (by decide) hg17 hx19 xs_X10_46 dX10_orderOfKeys_121 (Nat.le_of_ble_eq_true rfl) (by omega) (by omega) ?_
    cases H
    exact GA.iret rfl dX10_orderOfKeys_124 (by omega) (by omega) ⟨rfl, rfl⟩
  · have H := it_f H c3
    refine GA.aload_n dX10_orderOfKeys_54 rfl ?_
    obtain ⟨hg20, H⟩ := gg_e H
    refine GA.get xf_X10_31 dX10_orderOfKeys_55 (gsT hg20) (by omega) rfl ?_
    refine GA.iload_n dX10_orderOfKeys_58 rfl ?_
    refine GA.bipush dX10_orderOfKeys_59 rfl ?_
    obtain ⟨x21, hx22, H⟩ := gv_e H
    refine GV.imul hx22 dX10_orderOfKeys_61 ?_
    refine GA.iload dX10_orderOfKeys_62 rfl ?_
    obtain ⟨x23, hx24, H⟩ := gv_e H
    refine GV.iadd hx24 dX10_orderOfKeys_64 ?_
    obtain ⟨hg25, H⟩ := gg_e H
    obtain ⟨x26, hx27, H⟩ := gv_e H
    refine GV.cald hg25 hx27 dX10_orderOfKeys_65 (gsT7 hg20) (by omega) ?_
    refine GA.aload_n dX10_orderOfKeys_66 rfl ?_
    obtain ⟨hg28, H⟩ := gg_e H
    refine GA.get xf_X10_31 dX10_orderOfKeys_67 (gsT hg28) (by omega) rfl ?_
    refine GA.iload_n dX10_orderOfKeys_70 rfl ?_
    refine GA.bipush dX10_orderOfKeys_71 rfl ?_
    obtain ⟨x29, hx30, H⟩ := gv_e H
    refine GV.imul hx30 dX10_orderOfKeys_73 ?_
    refine GA.iload dX10_orderOfKeys_74 rfl ?_
    obtain ⟨x31, hx32, H⟩ := gv_e H
    refine GV.iadd hx32 dX10_orderOfKeys_76 ?_
    obtain ⟨hg33, H⟩ := gg_e H
    obtain ⟨x34, hx35, H⟩ := gv_e H
    refine GV.cald hg33 hx35 dX10_orderOfKeys_77 (gsT7 hg28) (by omega) ?_
    obtain ⟨x36, hx37, H⟩ := gv_e H
    refine GV.isub hx37 dX10_orderOfKeys_78 ?_
    refine GA.istore dX10_orderOfKeys_79 (by decide) ?_
    refine GA.iload dX10_orderOfKeys_81 rfl ?_
    obtain ⟨hg38, H⟩ := gg_e H
    refine GV.if_eq (tgt := 97) hg38 dX10_orderOfKeys_83 (by decide) (fun c39 => ?_) (fun c39 => ?_)
    · have H := it_t H c39
      obtain ⟨x40, hx41, H⟩ := gv_e H
      refine GV.iinc hx41 dX10_orderOfKeys_97 rfl (by decide) ?_
      refine GA.goto (tgt := 47) dX10_orderOfKeys_100 (by decide) ?_
      refine GA.locals [(0, .ref (L a0)), (1, .int (J a1)), (2, .ref (L a2)), (3, .int (J a3)), (4, .int (J a4)), (5, .int (J x40))] ⟨rfl, rfl, rfl, rfl, rfl, rfl, trivial⟩ ?_
      exact ih_X10_orderOfKeys_47 _ _ (a0) (a1) (a2) (a3) (a4) (x40) _ _ H
    · have H := it_f H c39
      refine GA.iload dX10_orderOfKeys_86 rfl ?_
      refine GV.if_ge (tgt := 95) hg38 dX10_orderOfKeys_88 (by decide) (fun c42 => ?_) (fun c42 => ?_)
      · have H := it_t H c42
        refine GA.iconst dX10_orderOfKeys_95 ?_
        cases H
        exact GA.iret rfl dX10_orderOfKeys_96 (by omega) (by omega) ⟨rfl, rfl⟩
      · have H := it_f H c42
        refine GA.iconst dX10_orderOfKeys_91 ?_
        refine GA.goto (tgt := 96) dX10_orderOfKeys_92 (by decide) ?_
        cases H
        exact GA.iret rfl dX10_orderOfKeys_96 (by omega) (by omega) ⟨rfl, rfl⟩
theorem g_X10_orderOfKeys {l : Launch} {Z : XZ} {L : Nat → Nat} : ∀ n, P_X10_orderOfKeys_0 l Z L n ∧ P_X10_orderOfKeys_47 l Z L n
  | 0 => ⟨fun _ _ _ _ _ _ _ _ H => no_e H, fun _ _ _ _ _ _ _ _ _ _ H => no_e H⟩
  | n + 1 => have ⟨h0, h1⟩ := g_X10_orderOfKeys (l := l) (Z := Z) (L := L) n
    ⟨t_X10_orderOfKeys_0 n h0 h1, t_X10_orderOfKeys_47 n h0 h1⟩
theorem m_X10_orderOfKeys {l : Launch} {Z : XZ} {L : Nat → Nat} {n d : Nat} {S : GS} {a0 : Nat} {a1 : Int} {a2 : Nat} {a3 : Int} {x : Int} {S1 : GS} (H : f_X10_orderOfKeys n d 0 S [((a0 : Nat) : Int), a1, ((a2 : Nat) : Int), a3] = some (x, S1)) : GM l Z L yX10_orderOfKeys cX10_orderOfKeys 7 (some .int) [] d 0 0 [.ref (L a0), .int (J a1), .ref (L a2), .int (J a3)] S (fun v S' => v = some (.int (J x)) ∧ S1 = S') (fun _ _ => False) := GM.of (by decide) (Nat.le_of_ble_eq_true rfl) ((g_X10_orderOfKeys n).1 _ _ _ _ _ _ _ _ H)

def P_X10_valueLike_0 (l : Launch) (Z : XZ) (L : Nat → Nat) (n : Nat) : Prop := ∀ (d : Nat) (S : GS) (a0 : Nat) (a1 : Int) (a2 : Nat) (a3 : Int) (x : Int) (S1 : GS), f_X10_valueLike n d 0 S [((a0 : Nat) : Int), a1, ((a2 : Nat) : Int), a3] = some (x, S1) → GA l Z L yX10_valueLike cX10_valueLike 6 (some .int) [] d 0 0 (fun v S' => v = some (.int (J x)) ∧ S1 = S') (fun _ _ => False) 0 (gl [(0, .ref (L a0)), (1, .int (J a1)), (2, .ref (L a2)), (3, .int (J a3))]) [] S 0 0
def P_X10_valueLike_10 (l : Launch) (Z : XZ) (L : Nat → Nat) (n : Nat) : Prop := ∀ (d : Nat) (S : GS) (a0 : Nat) (a1 : Int) (a2 : Nat) (a3 : Int) (a4 : Int) (a5 : Int) (x : Int) (S1 : GS), f_X10_valueLike n d 10 S [((a0 : Nat) : Int), a1, ((a2 : Nat) : Int), a3, a4, a5] = some (x, S1) → GA l Z L yX10_valueLike cX10_valueLike 6 (some .int) [] d 0 0 (fun v S' => v = some (.int (J x)) ∧ S1 = S') (fun _ _ => False) 10 (gl [(0, .ref (L a0)), (1, .int (J a1)), (2, .ref (L a2)), (3, .int (J a3)), (4, .int (J a4)), (5, .int (J a5))]) [] S 0 0
theorem i_X10_valueLike {l : Launch} {Z : XZ} {L : Nat → Nat} {n : Nat} (ih : P_X10_valueLike_0 l Z L n) {d : Nat} {S : GS} {a0 : Nat} {a1 : Int} {a2 : Nat} {a3 : Int} {x : Int} {S1 : GS} (H : f_X10_valueLike n d 0 S [((a0 : Nat) : Int), a1, ((a2 : Nat) : Int), a3] = some (x, S1)) : GM l Z L yX10_valueLike cX10_valueLike 6 (some .int) [] d 0 0 [.ref (L a0), .int (J a1), .ref (L a2), .int (J a3)] S (fun v S' => v = some (.int (J x)) ∧ S1 = S') (fun _ _ => False) := GM.of (by decide) (Nat.le_of_ble_eq_true rfl) (ih _ _ _ _ _ _ _ _ H)
set_option maxHeartbeats 4000000 in
set_option maxRecDepth 20000 in
theorem t_X10_valueLike_0 {l : Launch} {Z : XZ} {L : Nat → Nat} (n : Nat) (ih_X10_valueLike_0 : P_X10_valueLike_0 l Z L n) (ih_X10_valueLike_10 : P_X10_valueLike_10 l Z L n) : P_X10_valueLike_0 l Z L (n + 1) := by
  intro d S a0 a1 a2 a3 x S1 H
  have H : b_X10_valueLike_0 n d (f_X10_valueLike n) S a0 a1 a2 a3 = some (x, S1) := H
  unfold b_X10_valueLike_0 at H
  refine GA.aload_n dX10_valueLike_0 rfl ?_
  refine GA.iload_n dX10_valueLike_1 rfl ?_
  obtain ⟨hg1, H⟩ := gg_e H
  obtain ⟨hg2, H⟩ := gg_e H
  obtain ⟨x3, S_4, hc5, H⟩ := gc_e H
  refine GA.callV (m_X10_firstOfMap hc5) xs_X10_114 dX10_valueLike_2 (gsT hg2) (by omega) rfl rfl (by omega) (by decide) rfl (Nat.le_of_ble_eq_true rfl) (by omega) (by omega) rfl (fun E S9 hx => hx.elim) (fun v S9 hq => ?_)
  obtain ⟨rfl, rfl⟩ := hq
  refine GA.istore dX10_valueLike_5 (by decide) ?_
  refine GA.iconst dX10_valueLike_7 ?_
  refine GA.istore dX10_valueLike_8 (by decide) ?_
  refine GA.locals [(0, .ref (L a0)), (1, .int (J a1)), (2, .ref (L a2)), (3, .int (J a3)), (4, .int (J x3)), (5, .int (J 0))] ⟨rfl, rfl, rfl, rfl, rfl, rfl, trivial⟩ ?_
  exact ih_X10_valueLike_10 _ _ (a0) (a1) (a2) (a3) (x3) (0) _ _ H
set_option maxHeartbeats 4000000 in
set_option maxRecDepth 20000 in
theorem t_X10_valueLike_10 {l : Launch} {Z : XZ} {L : Nat → Nat} (n : Nat) (ih_X10_valueLike_0 : P_X10_valueLike_0 l Z L n) (ih_X10_valueLike_10 : P_X10_valueLike_10 l Z L n) : P_X10_valueLike_10 l Z L (n + 1) := by
  intro d S a0 a1 a2 a3 a4 a5 x S1 H
  have H : b_X10_valueLike_10 n d (f_X10_valueLike n) S a0 a1 a2 a3 a4 a5 = some (x, S1) := H
  unfold b_X10_valueLike_10 at H
  refine GA.iload dX10_valueLike_10 rfl ?_
  refine GA.iconst dX10_valueLike_12 ?_
  obtain ⟨hg1, H⟩ := gg_e H
  refine GV.icmp_eq (tgt := 52) hg1 (by decide) dX10_valueLike_13 (by decide) (fun c2 => ?_) (fun c2 => ?_)
  · have H := it_t H c2
    refine GA.iconst dX10_valueLike_52 ?_
    cases H
    exact GA.iret rfl dX10_valueLike_53 (by omega) (by omega) ⟨rfl, rfl⟩
  · have H := it_f H c2
    refine GA.iload dX10_valueLike_16 rfl ?_
    refine GA.bipush dX10_valueLike_18 rfl ?_
    obtain ⟨hg3, H⟩ := gg_e H
    refine GV.icmp_ge (tgt := 52) hg3 (by decide) dX10_valueLike_20 (by decide) (fun c4 => ?_) (fun c4 => ?_)
    · have H := it_t H c4
      refine GA.iconst dX10_valueLike_52 ?_
      cases H
      exact GA.iret rfl dX10_valueLike_53 (by omega) (by omega) ⟨rfl, rfl⟩
    · have H := it_f H c4
      refine GA.aload_n dX10_valueLike_23 rfl ?_
      refine GA.iload dX10_valueLike_24 rfl ?_
      refine GA.aload_n dX10_valueLike_26 rfl ?_
      refine GA.iload_n dX10_valueLike_27 rfl ?_
      obtain ⟨hg5, H⟩ := gg_e H
      obtain ⟨hg6, H⟩ := gg_e H
      obtain ⟨x7, S_8, hc9, H⟩ := gc_e H
      refine GA.callV (m_X10_orderOfKeys hc9) xs_X10_165 dX10_valueLike_28 (gsT hg6) (by omega) rfl rfl (by omega) (by decide) rfl (Nat.le_of_ble_eq_true rfl) (by omega) (by omega) rfl (fun E S9 hx => hx.elim) (fun v S9 hq => ?_)
      obtain ⟨rfl, rfl⟩ := hq
      obtain ⟨hg10, H⟩ := gg_e H
      refine GV.if_ne (tgt := 37) hg10 dX10_valueLike_31 (by decide) (fun c11 => ?_) (fun c11 => ?_)
      · have H := it_t H c11
        refine GA.aload_n dX10_valueLike_37 rfl ?_
        refine GA.iload_n dX10_valueLike_38 rfl ?_
        refine GA.iload dX10_valueLike_39 rfl ?_
        obtain ⟨x12, S_13, hc14, H⟩ := gc_e H
        refine GA.callV (m_X10_next hc14) xs_X10_56 dX10_valueLike_41 (gsT hg6) (by omega) rfl rfl (by omega) (by decide) rfl (Nat.le_of_ble_eq_true rfl) (by omega) (by omega) rfl (fun E S9 hx => hx.elim) (fun v S9 hq => ?_)
        obtain ⟨rfl, rfl⟩ := hq
        refine GA.istore dX10_valueLike_44 (by decide) ?_
        obtain ⟨x15, hx16, H⟩ := gv_e H
        refine GV.iinc hx16 dX10_valueLike_46 rfl (by decide) ?_
        refine GA.goto (tgt := 10) dX10_valueLike_49 (by decide) ?_
        refine GA.locals [(0, .ref (L a0)), (1, .int (J a1)), (2, .ref (L a2)), (3, .int (J a3)), (4, .int (J x12)), (5, .int (J x15))] ⟨rfl, rfl, rfl, rfl, rfl, rfl, trivial⟩ ?_
        exact ih_X10_valueLike_10 _ _ (a0) (a1) (a2) (a3) (x12) (x15) _ _ H
      · have H := it_f H c11
        refine GA.iload dX10_valueLike_34 rfl ?_
        cases H
        exact GA.iret rfl dX10_valueLike_36 (by omega) (by omega) ⟨rfl, rfl⟩
theorem g_X10_valueLike {l : Launch} {Z : XZ} {L : Nat → Nat} : ∀ n, P_X10_valueLike_0 l Z L n ∧ P_X10_valueLike_10 l Z L n
  | 0 => ⟨fun _ _ _ _ _ _ _ _ H => no_e H, fun _ _ _ _ _ _ _ _ _ _ H => no_e H⟩
  | n + 1 => have ⟨h0, h1⟩ := g_X10_valueLike (l := l) (Z := Z) (L := L) n
    ⟨t_X10_valueLike_0 n h0 h1, t_X10_valueLike_10 n h0 h1⟩
theorem m_X10_valueLike {l : Launch} {Z : XZ} {L : Nat → Nat} {n d : Nat} {S : GS} {a0 : Nat} {a1 : Int} {a2 : Nat} {a3 : Int} {x : Int} {S1 : GS} (H : f_X10_valueLike n d 0 S [((a0 : Nat) : Int), a1, ((a2 : Nat) : Int), a3] = some (x, S1)) : GM l Z L yX10_valueLike cX10_valueLike 6 (some .int) [] d 0 0 [.ref (L a0), .int (J a1), .ref (L a2), .int (J a3)] S (fun v S' => v = some (.int (J x)) ∧ S1 = S') (fun _ _ => False) := GM.of (by decide) (Nat.le_of_ble_eq_true rfl) ((g_X10_valueLike n).1 _ _ _ _ _ _ _ _ H)

def P_X10_same_0 (l : Launch) (Z : XZ) (L : Nat → Nat) (n : Nat) : Prop := ∀ (d : Nat) (S : GS) (a0 : Nat) (a1 : Int) (a2 : Nat) (a3 : Int) (a4 : Int) (x : Int) (S1 : GS), f_X10_same n d 0 S [((a0 : Nat) : Int), a1, ((a2 : Nat) : Int), a3, a4] = some (x, S1) → GA l Z L yX10_same cX10_same 10 (some .boolean) [] d 0 0 (fun v S' => v = some (.int (J x)) ∧ S1 = S') (fun _ _ => False) 0 (gl [(0, .ref (L a0)), (1, .int (J a1)), (2, .ref (L a2)), (3, .int (J a3)), (4, .int (J a4))]) [] S 0 0
def P_X10_same_85 (l : Launch) (Z : XZ) (L : Nat → Nat) (n : Nat) : Prop := ∀ (d : Nat) (S : GS) (a0 : Nat) (a1 : Int) (a2 : Nat) (a3 : Int) (a4 : Int) (a5 : Int) (s0 : Int) (x : Int) (S1 : GS), f_X10_same n d 85 S [((a0 : Nat) : Int), a1, ((a2 : Nat) : Int), a3, a4, a5, s0] = some (x, S1) → GA l Z L yX10_same cX10_same 10 (some .boolean) [] d 0 0 (fun v S' => v = some (.int (J x)) ∧ S1 = S') (fun _ _ => False) 85 (gl [(0, .ref (L a0)), (1, .int (J a1)), (2, .ref (L a2)), (3, .int (J a3)), (4, .int (J a4)), (5, .int (J a5))]) [.int (J s0)] S 0 0
def P_X10_same_104 (l : Launch) (Z : XZ) (L : Nat → Nat) (n : Nat) : Prop := ∀ (d : Nat) (S : GS) (a0 : Nat) (a1 : Int) (a2 : Nat) (a3 : Int) (a4 : Int) (a5 : Int) (a6 : Int) (a7 : Int) (a8 : Int) (a9 : Int) (x : Int) (S1 : GS), f_X10_same n d 104 S [((a0 : Nat) : Int), a1, ((a2 : Nat) : Int), a3, a4, a5, a6, a7, a8, a9] = some (x, S1) → GA l Z L yX10_same cX10_same 10 (some .boolean) [] d 0 0 (fun v S' => v = some (.int (J x)) ∧ S1 = S') (fun _ _ => False) 104 (gl [(0, .ref (L a0)), (1, .int (J a1)), (2, .ref (L a2)), (3, .int (J a3)), (4, .int (J a4)), (5, .int (J a5)), (6, .int (J a6)), (7, .int (J a7)), (8, .int (J a8)), (9, .int (J a9))]) [] S 0 0
def P_X10_same_144 (l : Launch) (Z : XZ) (L : Nat → Nat) (n : Nat) : Prop := ∀ (d : Nat) (S : GS) (a0 : Nat) (a1 : Int) (a2 : Nat) (a3 : Int) (a4 : Int) (a5 : Int) (a7 : Int) (a8 : Int) (a9 : Int) (s0 : Int) (s1 : Nat) (s2 : Int) (s3 : Nat) (x : Int) (S1 : GS), f_X10_same n d 144 S [((a0 : Nat) : Int), a1, ((a2 : Nat) : Int), a3, a4, a5, a7, a8, a9, s0, ((s1 : Nat) : Int), s2, ((s3 : Nat) : Int)] = some (x, S1) → GA l Z L yX10_same cX10_same 10 (some .boolean) [] d 0 0 (fun v S' => v = some (.int (J x)) ∧ S1 = S') (fun _ _ => False) 144 (gl [(0, .ref (L a0)), (1, .int (J a1)), (2, .ref (L a2)), (3, .int (J a3)), (4, .int (J a4)), (5, .int (J a5)), (7, .int (J a7)), (8, .int (J a8)), (9, .int (J a9))]) [.int (J s0), .ref (L s1), .int (J s2), .ref (L s3)] S 0 0
theorem i_X10_same {l : Launch} {Z : XZ} {L : Nat → Nat} {n : Nat} (ih : P_X10_same_0 l Z L n) {d : Nat} {S : GS} {a0 : Nat} {a1 : Int} {a2 : Nat} {a3 : Int} {a4 : Int} {x : Int} {S1 : GS} (H : f_X10_same n d 0 S [((a0 : Nat) : Int), a1, ((a2 : Nat) : Int), a3, a4] = some (x, S1)) : GM l Z L yX10_same cX10_same 10 (some .boolean) [] d 0 0 [.ref (L a0), .int (J a1), .ref (L a2), .int (J a3), .int (J a4)] S (fun v S' => v = some (.int (J x)) ∧ S1 = S') (fun _ _ => False) := GM.of (by decide) (Nat.le_of_ble_eq_true rfl) (ih _ _ _ _ _ _ _ _ _ H)
set_option maxHeartbeats 4000000 in
set_option maxRecDepth 20000 in
theorem t_X10_same_0 {l : Launch} {Z : XZ} {L : Nat → Nat} (n : Nat) (ih_X10_same_0 : P_X10_same_0 l Z L n) (ih_X10_same_85 : P_X10_same_85 l Z L n) (ih_X10_same_104 : P_X10_same_104 l Z L n) (ih_X10_same_144 : P_X10_same_144 l Z L n) : P_X10_same_0 l Z L (n + 1) := by
  intro d S a0 a1 a2 a3 a4 x S1 H
  have H : b_X10_same_0 n d (f_X10_same n) S a0 a1 a2 a3 a4 = some (x, S1) := H
  unfold b_X10_same_0 at H
  refine GA.aload_n dX10_same_0 rfl ?_
  refine GA.iload_n dX10_same_1 rfl ?_
  obtain ⟨hg1, H⟩ := gg_e H
  obtain ⟨hg2, H⟩ := gg_e H
  obtain ⟨x3, S_4, hc5, H⟩ := gc_e H
  refine GA.callV (m_X10_has hc5) xs_X10_105 dX10_same_2 (gsT hg2) (by omega) rfl rfl (by omega) (by decide) rfl (Nat.le_of_ble_eq_true rfl) (by omega) (by omega) rfl (fun E S9 hx => hx.elim) (fun v S9 hq => ?_)
  obtain ⟨rfl, rfl⟩ := hq
  obtain ⟨hg6, H⟩ := gg_e H
  refine GV.if_eq (tgt := 41) hg6 dX10_same_5 (by decide) (fun c7 => ?_) (fun c7 => ?_)
  · have H := it_t H c7
    refine GA.iconst dX10_same_41 ?_
    cases H
    exact GV.zret (by decide) rfl dX10_same_42 (by omega) (by omega) ⟨rfl, rfl⟩
  · have H := it_f H c7
    refine GA.aload_n dX10_same_8 rfl ?_
    refine GA.iload_n dX10_same_9 rfl ?_
    obtain ⟨x8, S_9, hc10, H⟩ := gc_e H
    refine GA.callV (m_X10_kind hc10) xs_X10_75 dX10_same_10 (gsT hg2) (by omega) rfl rfl (by omega) (by decide) rfl (Nat.le_of_ble_eq_true rfl) (by omega) (by omega) rfl (fun E S9 hx => hx.elim) (fun v S9 hq => ?_)
    obtain ⟨rfl, rfl⟩ := hq
    refine GA.aload_n dX10_same_13 rfl ?_
    refine GA.iload_n dX10_same_14 rfl ?_
    obtain ⟨hg11, H⟩ := gg_e H
    obtain ⟨x12, S_13, hc14, H⟩ := gc_e H
    refine GA.callV (m_X10_kind hc14) xs_X10_75 dX10_same_15 (gsT hg11) (by omega) rfl rfl (by omega) (by decide) rfl (Nat.le_of_ble_eq_true rfl) (by omega) (by omega) rfl (fun E S9 hx => hx.elim) (fun v S9 hq => ?_)
    obtain ⟨rfl, rfl⟩ := hq
    obtain ⟨hg15, H⟩ := gg_e H
    obtain ⟨hg16, H⟩ := gg_e H
    refine GV.icmp_ne (tgt := 41) hg15 hg16 dX10_same_18 (by decide) (fun c17 => ?_) (fun c17 => ?_)
    · have H := it_t H c17
      refine GA.iconst dX10_same_41 ?_
      cases H
      exact GV.zret (by decide) rfl dX10_same_42 (by omega) (by omega) ⟨rfl, rfl⟩
    · have H := it_f H c17
      refine GA.aload_n dX10_same_21 rfl ?_
      refine GA.iload_n dX10_same_22 rfl ?_
      obtain ⟨x18, S_19, hc20, H⟩ := gc_e H
      refine GA.callV (m_X10_size hc20) xs_X10_81 dX10_same_23 (gsT hg2) (by omega) rfl rfl (by omega) (by decide) rfl (Nat.le_of_ble_eq_true rfl) (by omega) (by omega) rfl (fun E S9 hx => hx.elim) (fun v S9 hq => ?_)
      obtain ⟨rfl, rfl⟩ := hq
      refine GA.aload_n dX10_same_26 rfl ?_
      refine GA.iload_n dX10_same_27 rfl ?_
      obtain ⟨x21, S_22, hc23, H⟩ := gc_e H
      refine GA.callV (m_X10_size hc23) xs_X10_81 dX10_same_28 (gsT hg11) (by omega) rfl rfl (by omega) (by decide) rfl (Nat.le_of_ble_eq_true rfl) (by omega) (by omega) rfl (fun E S9 hx => hx.elim) (fun v S9 hq => ?_)
      obtain ⟨rfl, rfl⟩ := hq
      obtain ⟨hg24, H⟩ := gg_e H
      obtain ⟨hg25, H⟩ := gg_e H
      refine GV.icmp_ne (tgt := 41) hg24 hg25 dX10_same_31 (by decide) (fun c26 => ?_) (fun c26 => ?_)
      · have H := it_t H c26
        refine GA.iconst dX10_same_41 ?_
        cases H
        exact GV.zret (by decide) rfl dX10_same_42 (by omega) (by omega) ⟨rfl, rfl⟩
      · have H := it_f H c26
        refine GA.iload dX10_same_34 rfl ?_
        refine GA.bipush dX10_same_36 rfl ?_
        obtain ⟨hg27, H⟩ := gg_e H
        refine GV.icmp_le (tgt := 43) hg27 (by decide) dX10_same_38 (by decide) (fun c28 => ?_) (fun c28 => ?_)
        · have H := it_t H c28
          refine GA.aload_n dX10_same_43 rfl ?_
          refine GA.iload_n dX10_same_44 rfl ?_
          obtain ⟨x29, S_30, hc31, H⟩ := gc_e H
          refine GA.callV (m_X10_isGroup hc31) xs_X10_59 dX10_same_45 (gsT hg2) (by omega) rfl rfl (by omega) (by decide) rfl (Nat.le_of_ble_eq_true rfl) (by omega) (by omega) rfl (fun E S9 hx => hx.elim) (fun v S9 hq => ?_)
          obtain ⟨rfl, rfl⟩ := hq
          obtain ⟨hg32, H⟩ := gg_e H
          refine GV.if_ne (tgt := 59) hg32 dX10_same_48 (by decide) (fun c33 => ?_) (fun c33 => ?_)
          · have H := it_t H c33
            refine GA.aload_n dX10_same_59 rfl ?_
            refine GA.iload_n dX10_same_60 rfl ?_
            refine GA.iconst dX10_same_61 ?_
            obtain ⟨x34, S_35, hc36, H⟩ := gc_e H
            refine GA.callV (m_X10_is hc36) xs_X10_42 dX10_same_62 (gsT hg2) (by omega) rfl rfl (by omega) (by decide) rfl (Nat.le_of_ble_eq_true rfl) (by omega) (by omega) rfl (fun E S9 hx => hx.elim) (fun v S9 hq => ?_)
            obtain ⟨rfl, rfl⟩ := hq
            refine GA.istore dX10_same_65 (by decide) ?_
            refine GA.aload_n dX10_same_67 rfl ?_
            refine GA.iload_n dX10_same_68 rfl ?_
            obtain ⟨x37, S_38, hc39, H⟩ := gc_e H
            refine GA.callV (m_X10_values hc39) xs_X10_63 dX10_same_69 (gsT hg2) (by omega) rfl rfl (by omega) (by decide) rfl (Nat.le_of_ble_eq_true rfl) (by omega) (by omega) rfl (fun E S9 hx => hx.elim) (fun v S9 hq => ?_)
            obtain ⟨rfl, rfl⟩ := hq
            refine GA.aload_n dX10_same_72 rfl ?_
            refine GA.iload_n dX10_same_73 rfl ?_
            obtain ⟨x40, S_41, hc42, H⟩ := gc_e H
            refine GA.callV (m_X10_values hc42) xs_X10_63 dX10_same_74 (gsT hg11) (by omega) rfl rfl (by omega) (by decide) rfl (Nat.le_of_ble_eq_true rfl) (by omega) (by omega) rfl (fun E S9 hx => hx.elim) (fun v S9 hq => ?_)
            obtain ⟨rfl, rfl⟩ := hq
            obtain ⟨hg43, H⟩ := gg_e H
            obtain ⟨hg44, H⟩ := gg_e H
            refine GV.icmp_ne (tgt := 84) hg43 hg44 dX10_same_77 (by decide) (fun c45 => ?_) (fun c45 => ?_)
            · have H := it_t H c45
              refine GA.iconst dX10_same_84 ?_
              refine GA.locals [(0, .ref (L a0)), (1, .int (J a1)), (2, .ref (L a2)), (3, .int (J a3)), (4, .int (J a4)), (5, .int (J x34))] ⟨rfl, rfl, rfl, rfl, rfl, rfl, trivial⟩ ?_
              exact ih_X10_same_85 _ _ (a0) (a1) (a2) (a3) (a4) (x34) (0) _ _ H
            · have H := it_f H c45
              refine GA.iconst dX10_same_80 ?_
              refine GA.goto (tgt := 85) dX10_same_81 (by decide) ?_
              refine GA.locals [(0, .ref (L a0)), (1, .int (J a1)), (2, .ref (L a2)), (3, .int (J a3)), (4, .int (J a4)), (5, .int (J x34))] ⟨rfl, rfl, rfl, rfl, rfl, rfl, trivial⟩ ?_
              exact ih_X10_same_85 _ _ (a0) (a1) (a2) (a3) (a4) (x34) (1) _ _ H
          · have H := it_f H c33
            refine GA.aload_n dX10_same_51 rfl ?_
            refine GA.iload_n dX10_same_52 rfl ?_
            refine GA.aload_n dX10_same_53 rfl ?_
            refine GA.iload_n dX10_same_54 rfl ?_
            obtain ⟨x46, S_47, hc48, H⟩ := gc_e H
            refine GA.callV (m_X10_sameSigns hc48) xs_X10_176 dX10_same_55 (gsT hg2) (by omega) rfl rfl (by omega) (by decide) rfl (Nat.le_of_ble_eq_true rfl) (by omega) (by omega) rfl (fun E S9 hx => hx.elim) (fun v S9 hq => ?_)
            obtain ⟨rfl, rfl⟩ := hq
            obtain ⟨hg49, H⟩ := gg_e H
            cases H
            exact GV.zret hg49 rfl dX10_same_58 (by omega) (by omega) ⟨rfl, rfl⟩
        · have H := it_f H c28
          refine GA.iconst dX10_same_41 ?_
          cases H
          exact GV.zret (by decide) rfl dX10_same_42 (by omega) (by omega) ⟨rfl, rfl⟩
set_option maxHeartbeats 4000000 in
set_option maxRecDepth 20000 in
theorem t_X10_same_85 {l : Launch} {Z : XZ} {L : Nat → Nat} (n : Nat) (ih_X10_same_0 : P_X10_same_0 l Z L n) (ih_X10_same_85 : P_X10_same_85 l Z L n) (ih_X10_same_104 : P_X10_same_104 l Z L n) (ih_X10_same_144 : P_X10_same_144 l Z L n) : P_X10_same_85 l Z L (n + 1) := by
  intro d S a0 a1 a2 a3 a4 a5 s0 x S1 H
  have H : b_X10_same_85 n d (f_X10_same n) S a0 a1 a2 a3 a4 a5 s0 = some (x, S1) := H
  unfold b_X10_same_85 at H
  refine GA.istore dX10_same_85 (by decide) ?_
  refine GA.aload_n dX10_same_87 rfl ?_
  refine GA.iload_n dX10_same_88 rfl ?_
  obtain ⟨hg1, H⟩ := gg_e H
  obtain ⟨hg2, H⟩ := gg_e H
  obtain ⟨x3, S_4, hc5, H⟩ := gc_e H
  refine GA.callV (m_X10_first hc5) xs_X10_52 dX10_same_89 (gsT hg2) (by omega) rfl rfl (by omega) (by decide) rfl (Nat.le_of_ble_eq_true rfl) (by omega) (by omega) rfl (fun E S9 hx => hx.elim) (fun v S9 hq => ?_)
  obtain ⟨rfl, rfl⟩ := hq
  refine GA.istore dX10_same_92 (by decide) ?_
  refine GA.aload_n dX10_same_94 rfl ?_
  refine GA.iload_n dX10_same_95 rfl ?_
  obtain ⟨hg6, H⟩ := gg_e H
  obtain ⟨x7, S_8, hc9, H⟩ := gc_e H
  refine GA.callV (m_X10_first hc9) xs_X10_52 dX10_same_96 (gsT hg6) (by omega) rfl rfl (by omega) (by decide) rfl (Nat.le_of_ble_eq_true rfl) (by omega) (by omega) rfl (fun E S9 hx => hx.elim) (fun v S9 hq => ?_)
  obtain ⟨rfl, rfl⟩ := hq
  refine GA.istore dX10_same_99 (by decide) ?_
  refine GA.iconst dX10_same_101 ?_
  refine GA.istore dX10_same_102 (by decide) ?_
  refine GA.locals [(0, .ref (L a0)), (1, .int (J a1)), (2, .ref (L a2)), (3, .int (J a3)), (4, .int (J a4)), (5, .int (J a5)), (6, .int (J s0)), (7, .int (J x3)), (8, .int (J x7)), (9, .int (J 0))] ⟨rfl, rfl, rfl, rfl, rfl, rfl, rfl, rfl, rfl, rfl, trivial⟩ ?_
  exact ih_X10_same_104 _ _ (a0) (a1) (a2) (a3) (a4) (a5) (s0) (x3) (x7) (0) _ _ H
set_option maxHeartbeats 4000000 in
set_option maxRecDepth 20000 in
theorem t_X10_same_104 {l : Launch} {Z : XZ} {L : Nat → Nat} (n : Nat) (ih_X10_same_0 : P_X10_same_0 l Z L n) (ih_X10_same_85 : P_X10_same_85 l Z L n) (ih_X10_same_104 : P_X10_same_104 l Z L n) (ih_X10_same_144 : P_X10_same_144 l Z L n) : P_X10_same_104 l Z L (n + 1) := by
  intro d S a0 a1 a2 a3 a4 a5 a6 a7 a8 a9 x S1 H
  have H : b_X10_same_104 n d (f_X10_same n) S a0 a1 a2 a3 a4 a5 a6 a7 a8 a9 = some (x, S1) := H
  unfold b_X10_same_104 at H
  refine GA.iload dX10_same_104 rfl ?_
  refine GA.iconst dX10_same_106 ?_
  obtain ⟨hg1, H⟩ := gg_e H
  refine GV.icmp_eq (tgt := 177) hg1 (by decide) dX10_same_107 (by decide) (fun c2 => ?_) (fun c2 => ?_)
  · have H := it_t H c2
    refine GA.iload dX10_same_177 rfl ?_
    obtain ⟨hg3, H⟩ := gg_e H
    cases H
    exact GV.zret hg3 rfl dX10_same_179 (by omega) (by omega) ⟨rfl, rfl⟩
  · have H := it_f H c2
    refine GA.iload dX10_same_110 rfl ?_
    refine GA.bipush dX10_same_112 rfl ?_
    obtain ⟨hg4, H⟩ := gg_e H
    refine GV.icmp_ge (tgt := 177) hg4 (by decide) dX10_same_114 (by decide) (fun c5 => ?_) (fun c5 => ?_)
    · have H := it_t H c5
      refine GA.iload dX10_same_177 rfl ?_
      obtain ⟨hg6, H⟩ := gg_e H
      cases H
      exact GV.zret hg6 rfl dX10_same_179 (by omega) (by omega) ⟨rfl, rfl⟩
    · have H := it_f H c5
      refine GA.iload dX10_same_117 rfl ?_
      obtain ⟨hg7, H⟩ := gg_e H
      refine GV.if_eq (tgt := 177) hg7 dX10_same_119 (by decide) (fun c8 => ?_) (fun c8 => ?_)
      · have H := it_t H c8
        refine GA.iload dX10_same_177 rfl ?_
        obtain ⟨hg9, H⟩ := gg_e H
        cases H
        exact GV.zret hg9 rfl dX10_same_179 (by omega) (by omega) ⟨rfl, rfl⟩
      · have H := it_f H c8
        refine GA.aload_n dX10_same_122 rfl ?_
        refine GA.iload dX10_same_123 rfl ?_
        refine GA.aload_n dX10_same_125 rfl ?_
        refine GA.iload dX10_same_126 rfl ?_
        obtain ⟨hg10, H⟩ := gg_e H
        refine GV.if_eq (tgt := 136) hg10 dX10_same_128 (by decide) (fun c11 => ?_) (fun c11 => ?_)
        · have H := it_t H c11
          refine GA.aload_n dX10_same_136 rfl ?_
          refine GA.iload_n dX10_same_137 rfl ?_
          refine GA.aload_n dX10_same_138 rfl ?_
          refine GA.iload dX10_same_139 rfl ?_
          obtain ⟨hg12, H⟩ := gg_e H
          obtain ⟨hg13, H⟩ := gg_e H
          obtain ⟨x14, S_15, hc16, H⟩ := gc_e H
          refine GA.callV (m_X10_valueLike hc16) xs_X10_120 dX10_same_141 (gsT hg13) (by omega) rfl rfl (by omega) (by decide) rfl (Nat.le_of_ble_eq_true rfl) (by omega) (by omega) rfl (fun E S9 hx => hx.elim) (fun v S9 hq => ?_)
          obtain ⟨rfl, rfl⟩ := hq
          refine GA.locals [(0, .ref (L a0)), (1, .int (J a1)), (2, .ref (L a2)), (3, .int (J a3)), (4, .int (J a4)), (5, .int (J a5)), (7, .int (J a7)), (8, .int (J a8)), (9, .int (J a9))] ⟨rfl, rfl, rfl, rfl, rfl, rfl, rfl, rfl, rfl, trivial⟩ ?_
          exact ih_X10_same_144 _ _ (a0) (a1) (a2) (a3) (a4) (a5) (a7) (a8) (a9) (x14) (a2) (a8) (a0) _ _ H
        · have H := it_f H c11
          refine GA.iload dX10_same_131 rfl ?_
          refine GA.goto (tgt := 144) dX10_same_133 (by decide) ?_
          refine GA.locals [(0, .ref (L a0)), (1, .int (J a1)), (2, .ref (L a2)), (3, .int (J a3)), (4, .int (J a4)), (5, .int (J a5)), (7, .int (J a7)), (8, .int (J a8)), (9, .int (J a9))] ⟨rfl, rfl, rfl, rfl, rfl, rfl, rfl, rfl, rfl, trivial⟩ ?_
          exact ih_X10_same_144 _ _ (a0) (a1) (a2) (a3) (a4) (a5) (a7) (a8) (a9) (a7) (a2) (a8) (a0) _ _ H
set_option maxHeartbeats 4000000 in
set_option maxRecDepth 20000 in
theorem t_X10_same_144 {l : Launch} {Z : XZ} {L : Nat → Nat} (n : Nat) (ih_X10_same_0 : P_X10_same_0 l Z L n) (ih_X10_same_85 : P_X10_same_85 l Z L n) (ih_X10_same_104 : P_X10_same_104 l Z L n) (ih_X10_same_144 : P_X10_same_144 l Z L n) : P_X10_same_144 l Z L (n + 1) := by
  intro d S a0 a1 a2 a3 a4 a5 a7 a8 a9 s0 s1 s2 s3 x S1 H
  have H : b_X10_same_144 n d (f_X10_same n) S a0 a1 a2 a3 a4 a5 a7 a8 a9 s0 s1 s2 s3 = some (x, S1) := H
  unfold b_X10_same_144 at H
  refine GA.iload dX10_same_144 rfl ?_
  refine GA.iconst dX10_same_146 ?_
  obtain ⟨x1, hx2, H⟩ := gv_e H
  refine GV.iadd hx2 dX10_same_147 ?_
  obtain ⟨hg3, H⟩ := gg_e H
  obtain ⟨hg4, H⟩ := gg_e H
  obtain ⟨x5, S_6, hc7, H⟩ := gc_e H
  refine GA.callV (i_X10_same ih_X10_same_0 hc7) xs_X10_180 dX10_same_148 (gsT hg4) (by omega) rfl rfl (by omega) (by decide) rfl (Nat.le_of_ble_eq_true rfl) (by omega) (by omega) rfl (fun E S9 hx => hx.elim) (fun v S9 hq => ?_)
  obtain ⟨rfl, rfl⟩ := hq
  refine GA.istore dX10_same_151 (by decide) ?_
  refine GA.aload_n dX10_same_153 rfl ?_
  refine GA.iload_n dX10_same_154 rfl ?_
  refine GA.iload dX10_same_155 rfl ?_
  obtain ⟨hg8, H⟩ := gg_e H
  obtain ⟨x9, S_10, hc11, H⟩ := gc_e H
  refine GA.callV (m_X10_next hc11) xs_X10_56 dX10_same_157 (gsT hg8) (by omega) rfl rfl (by omega) (by decide) rfl (Nat.le_of_ble_eq_true rfl) (by omega) (by omega) rfl (fun E S9 hx => hx.elim) (fun v S9 hq => ?_)
  obtain ⟨rfl, rfl⟩ := hq
  refine GA.istore dX10_same_160 (by decide) ?_
  refine GA.aload_n dX10_same_162 rfl ?_
  refine GA.iload_n dX10_same_163 rfl ?_
  refine GA.iload dX10_same_164 rfl ?_
  obtain ⟨hg12, H⟩ := gg_e H
  obtain ⟨x13, S_14, hc15, H⟩ := gc_e H
  refine GA.callV (m_X10_next hc15) xs_X10_56 dX10_same_166 (gsT hg12) (by omega) rfl rfl (by omega) (by decide) rfl (Nat.le_of_ble_eq_true rfl) (by omega) (by omega) rfl (fun E S9 hx => hx.elim) (fun v S9 hq => ?_)
  obtain ⟨rfl, rfl⟩ := hq
  refine GA.istore dX10_same_169 (by decide) ?_
  obtain ⟨x16, hx17, H⟩ := gv_e H
  refine GV.iinc hx17 dX10_same_171 rfl (by decide) ?_
  refine GA.goto (tgt := 104) dX10_same_174 (by decide) ?_
  refine GA.locals [(0, .ref (L a0)), (1, .int (J a1)), (2, .ref (L a2)), (3, .int (J a3)), (4, .int (J a4)), (5, .int (J a5)), (6, .int (J x5)), (7, .int (J x9)), (8, .int (J x13)), (9, .int (J x16))] ⟨rfl, rfl, rfl, rfl, rfl, rfl, rfl, rfl, rfl, rfl, trivial⟩ ?_
  exact ih_X10_same_104 _ _ (a0) (a1) (a2) (a3) (a4) (a5) (x5) (x9) (x13) (x16) _ _ H
theorem g_X10_same {l : Launch} {Z : XZ} {L : Nat → Nat} : ∀ n, P_X10_same_0 l Z L n ∧ P_X10_same_85 l Z L n ∧ P_X10_same_104 l Z L n ∧ P_X10_same_144 l Z L n
  | 0 => ⟨fun _ _ _ _ _ _ _ _ _ H => no_e H, fun _ _ _ _ _ _ _ _ _ _ _ H => no_e H, fun _ _ _ _ _ _ _ _ _ _ _ _ _ _ H => no_e H, fun _ _ _ _ _ _ _ _ _ _ _ _ _ _ _ _ _ H => no_e H⟩
  | n + 1 => have ⟨h0, h1, h2, h3⟩ := g_X10_same (l := l) (Z := Z) (L := L) n
    ⟨t_X10_same_0 n h0 h1 h2 h3, t_X10_same_85 n h0 h1 h2 h3, t_X10_same_104 n h0 h1 h2 h3, t_X10_same_144 n h0 h1 h2 h3⟩
theorem m_X10_same {l : Launch} {Z : XZ} {L : Nat → Nat} {n d : Nat} {S : GS} {a0 : Nat} {a1 : Int} {a2 : Nat} {a3 : Int} {a4 : Int} {x : Int} {S1 : GS} (H : f_X10_same n d 0 S [((a0 : Nat) : Int), a1, ((a2 : Nat) : Int), a3, a4] = some (x, S1)) : GM l Z L yX10_same cX10_same 10 (some .boolean) [] d 0 0 [.ref (L a0), .int (J a1), .ref (L a2), .int (J a3), .int (J a4)] S (fun v S' => v = some (.int (J x)) ∧ S1 = S') (fun _ _ => False) := GM.of (by decide) (Nat.le_of_ble_eq_true rfl) ((g_X10_same n).1 _ _ _ _ _ _ _ _ _ H)

def P_X10_after_0 (l : Launch) (Z : XZ) (L : Nat → Nat) (n : Nat) : Prop := ∀ (d : Nat) (S : GS) (a0 : Nat) (a1 : Int) (x : Int) (S1 : GS), f_X10_after n d 0 S [((a0 : Nat) : Int), a1] = some (x, S1) → GA l Z L yX10_after cX10_after 2 (some .int) [] d 0 0 (fun v S' => v = some (.int (J x)) ∧ S1 = S') (fun _ _ => False) 0 (gl [(0, .ref (L a0)), (1, .int (J a1))]) [] S 0 0
theorem i_X10_after {l : Launch} {Z : XZ} {L : Nat → Nat} {n : Nat} (ih : P_X10_after_0 l Z L n) {d : Nat} {S : GS} {a0 : Nat} {a1 : Int} {x : Int} {S1 : GS} (H : f_X10_after n d 0 S [((a0 : Nat) : Int), a1] = some (x, S1)) : GM l Z L yX10_after cX10_after 2 (some .int) [] d 0 0 [.ref (L a0), .int (J a1)] S (fun v S' => v = some (.int (J x)) ∧ S1 = S') (fun _ _ => False) := GM.of (by decide) (Nat.le_of_ble_eq_true rfl) (ih _ _ _ _ _ _ H)
set_option maxHeartbeats 4000000 in
set_option maxRecDepth 20000 in
theorem t_X10_after_0 {l : Launch} {Z : XZ} {L : Nat → Nat} (n : Nat) (ih_X10_after_0 : P_X10_after_0 l Z L n) : P_X10_after_0 l Z L (n + 1) := by
  intro d S a0 a1 x S1 H
  have H : b_X10_after_0 n d (f_X10_after n) S a0 a1 = some (x, S1) := H
  unfold b_X10_after_0 at H
  refine GA.iload_n dX10_after_0 rfl ?_
  obtain ⟨hg1, H⟩ := gg_e H
  refine GV.if_lt (tgt := 33) hg1 dX10_after_1 (by decide) (fun c2 => ?_) (fun c2 => ?_)
  · have H := it_t H c2
    refine GA.iload_n dX10_after_33 rfl ?_
    refine GA.iconst dX10_after_34 ?_
    obtain ⟨x3, hx4, H⟩ := gv_e H
    refine GV.iadd hx4 dX10_after_35 ?_
    cases H
    exact GA.iret rfl dX10_after_36 (by omega) (by omega) ⟨rfl, rfl⟩
  · have H := it_f H c2
    refine GA.iload_n dX10_after_4 rfl ?_
    refine GA.aload_n dX10_after_5 rfl ?_
    obtain ⟨hg5, H⟩ := gg_e H
    obtain ⟨x6, hx7, H⟩ := gv_e H
    refine GV.getI hx7 xf_X10_34 dX10_after_6 (gsT hg5) (by omega) rfl ?_
    obtain ⟨hg8, H⟩ := gg_e H
    refine GV.icmp_ge (tgt := 33) hg1 hg8 dX10_after_9 (by decide) (fun c9 => ?_) (fun c9 => ?_)
    · have H := it_t H c9
      refine GA.iload_n dX10_after_33 rfl ?_
      refine GA.iconst dX10_after_34 ?_
      obtain ⟨x10, hx11, H⟩ := gv_e H
      refine GV.iadd hx11 dX10_after_35 ?_
      cases H
      exact GA.iret rfl dX10_after_36 (by omega) (by omega) ⟨rfl, rfl⟩
    · have H := it_f H c9
      refine GA.iload_n dX10_after_12 rfl ?_
      refine GA.bipush dX10_after_13 rfl ?_
      refine GV.icmp_ge (tgt := 33) hg1 (by decide) dX10_after_15 (by decide) (fun c12 => ?_) (fun c12 => ?_)
      · have H := it_t H c12
        refine GA.iload_n dX10_after_33 rfl ?_
        refine GA.iconst dX10_after_34 ?_
        obtain ⟨x13, hx14, H⟩ := gv_e H
        refine GV.iadd hx14 dX10_after_35 ?_
        cases H
        exact GA.iret rfl dX10_after_36 (by omega) (by omega) ⟨rfl, rfl⟩
      · have H := it_f H c12
        refine GA.iload_n dX10_after_18 rfl ?_
        refine GA.iconst dX10_after_19 ?_
        refine GA.aload_n dX10_after_20 rfl ?_
        refine GA.get xf_X10_15 dX10_after_21 (gsT hg5) (by omega) rfl ?_
        refine GA.iload_n dX10_after_24 rfl ?_
        obtain ⟨hg15, H⟩ := gg_e H
        obtain ⟨x16, hx17, H⟩ := gv_e H
        refine GV.iald hg15 hx17 dX10_after_25 (gsT2 hg5) (by omega) ?_
        obtain ⟨hg18, H⟩ := gg_e H
        obtain ⟨x19, hx20, H⟩ := gv_e H
        refine GV.mmax (by decide) hg18 hx20 xs_X10_46 dX10_after_26 (Nat.le_of_ble_eq_true rfl) (by omega) (by omega) ?_
        obtain ⟨x21, hx22, H⟩ := gv_e H
        refine GV.iadd hx22 dX10_after_29 ?_
        refine GA.goto (tgt := 36) dX10_after_30 (by decide) ?_
        cases H
        exact GA.iret rfl dX10_after_36 (by omega) (by omega) ⟨rfl, rfl⟩
theorem g_X10_after {l : Launch} {Z : XZ} {L : Nat → Nat} : ∀ n, P_X10_after_0 l Z L n
  | 0 => fun _ _ _ _ _ _ H => no_e H
  | n + 1 => t_X10_after_0 n (g_X10_after n)
theorem m_X10_after {l : Launch} {Z : XZ} {L : Nat → Nat} {n d : Nat} {S : GS} {a0 : Nat} {a1 : Int} {x : Int} {S1 : GS} (H : f_X10_after n d 0 S [((a0 : Nat) : Int), a1] = some (x, S1)) : GM l Z L yX10_after cX10_after 2 (some .int) [] d 0 0 [.ref (L a0), .int (J a1)] S (fun v S' => v = some (.int (J x)) ∧ S1 = S') (fun _ _ => False) := GM.of (by decide) (Nat.le_of_ble_eq_true rfl) ((g_X10_after n) _ _ _ _ _ _ H)

def P_X10_depth_0 (l : Launch) (Z : XZ) (L : Nat → Nat) (n : Nat) : Prop := ∀ (d : Nat) (S : GS) (a0 : Nat) (a1 : Int) (a2 : Int) (x : Int) (S1 : GS), f_X10_depth n d 0 S [((a0 : Nat) : Int), a1, a2] = some (x, S1) → GA l Z L yX10_depth cX10_depth 6 (some .int) [] d 0 0 (fun v S' => v = some (.int (J x)) ∧ S1 = S') (fun _ _ => False) 0 (gl [(0, .ref (L a0)), (1, .int (J a1)), (2, .int (J a2))]) [] S 0 0
def P_X10_depth_20 (l : Launch) (Z : XZ) (L : Nat → Nat) (n : Nat) : Prop := ∀ (d : Nat) (S : GS) (a0 : Nat) (a1 : Int) (a2 : Int) (a3 : Int) (a4 : Int) (a5 : Int) (x : Int) (S1 : GS), f_X10_depth n d 20 S [((a0 : Nat) : Int), a1, a2, a3, a4, a5] = some (x, S1) → GA l Z L yX10_depth cX10_depth 6 (some .int) [] d 0 0 (fun v S' => v = some (.int (J x)) ∧ S1 = S') (fun _ _ => False) 20 (gl [(0, .ref (L a0)), (1, .int (J a1)), (2, .int (J a2)), (3, .int (J a3)), (4, .int (J a4)), (5, .int (J a5))]) [] S 0 0
theorem i_X10_depth {l : Launch} {Z : XZ} {L : Nat → Nat} {n : Nat} (ih : P_X10_depth_0 l Z L n) {d : Nat} {S : GS} {a0 : Nat} {a1 : Int} {a2 : Int} {x : Int} {S1 : GS} (H : f_X10_depth n d 0 S [((a0 : Nat) : Int), a1, a2] = some (x, S1)) : GM l Z L yX10_depth cX10_depth 6 (some .int) [] d 0 0 [.ref (L a0), .int (J a1), .int (J a2)] S (fun v S' => v = some (.int (J x)) ∧ S1 = S') (fun _ _ => False) := GM.of (by decide) (Nat.le_of_ble_eq_true rfl) (ih _ _ _ _ _ _ _ H)
set_option maxHeartbeats 4000000 in
set_option maxRecDepth 20000 in
theorem t_X10_depth_0 {l : Launch} {Z : XZ} {L : Nat → Nat} (n : Nat) (ih_X10_depth_0 : P_X10_depth_0 l Z L n) (ih_X10_depth_20 : P_X10_depth_20 l Z L n) : P_X10_depth_0 l Z L (n + 1) := by
  intro d S a0 a1 a2 x S1 H
  have H : b_X10_depth_0 n d (f_X10_depth n) S a0 a1 a2 = some (x, S1) := H
  unfold b_X10_depth_0 at H
  refine GA.aload_n dX10_depth_0 rfl ?_
  refine GA.iload_n dX10_depth_1 rfl ?_
  obtain ⟨hg1, H⟩ := gg_e H
  obtain ⟨hg2, H⟩ := gg_e H
  obtain ⟨x3, S_4, hc5, H⟩ := gc_e H
  refine GA.callV (m_X10_isGroup hc5) xs_X10_59 dX10_depth_2 (gsT hg2) (by omega) rfl rfl (by omega) (by decide) rfl (Nat.le_of_ble_eq_true rfl) (by omega) (by omega) rfl (fun E S9 hx => hx.elim) (fun v S9 hq => ?_)
  obtain ⟨rfl, rfl⟩ := hq
  obtain ⟨hg6, H⟩ := gg_e H
  refine GV.if_ne (tgt := 10) hg6 dX10_depth_5 (by decide) (fun c7 => ?_) (fun c7 => ?_)
  · have H := it_t H c7
    refine GA.iconst dX10_depth_10 ?_
    refine GA.istore_n dX10_depth_11 (by decide) ?_
    refine GA.iload_n dX10_depth_12 rfl ?_
    refine GA.iconst dX10_depth_13 ?_
    obtain ⟨x8, hx9, H⟩ := gv_e H
    refine GV.iadd hx9 dX10_depth_14 ?_
    refine GA.istore dX10_depth_15 (by decide) ?_
    refine GA.iconst dX10_depth_17 ?_
    refine GA.istore dX10_depth_18 (by decide) ?_
    refine GA.locals [(0, .ref (L a0)), (1, .int (J a1)), (2, .int (J a2)), (3, .int (J 0)), (4, .int (J x8)), (5, .int (J 0))] ⟨rfl, rfl, rfl, rfl, rfl, rfl, trivial⟩ ?_
    exact ih_X10_depth_20 _ _ (a0) (a1) (a2) (0) (x8) (0) _ _ H
  · have H := it_f H c7
    refine GA.iconst dX10_depth_8 ?_
    cases H
    exact GA.iret rfl dX10_depth_9 (by omega) (by omega) ⟨rfl, rfl⟩
set_option maxHeartbeats 4000000 in
set_option maxRecDepth 20000 in
theorem t_X10_depth_20 {l : Launch} {Z : XZ} {L : Nat → Nat} (n : Nat) (ih_X10_depth_0 : P_X10_depth_0 l Z L n) (ih_X10_depth_20 : P_X10_depth_20 l Z L n) : P_X10_depth_20 l Z L (n + 1) := by
  intro d S a0 a1 a2 a3 a4 a5 x S1 H
  have H : b_X10_depth_20 n d (f_X10_depth n) S a0 a1 a2 a3 a4 a5 = some (x, S1) := H
  unfold b_X10_depth_20 at H
  refine GA.iload dX10_depth_20 rfl ?_
  refine GA.aload_n dX10_depth_22 rfl ?_
  refine GA.iload_n dX10_depth_23 rfl ?_
  obtain ⟨hg1, H⟩ := gg_e H
  obtain ⟨hg2, H⟩ := gg_e H
  obtain ⟨x3, S_4, hc5, H⟩ := gc_e H
  refine GA.callV (m_X10_after hc5) xs_X10_69 dX10_depth_24 (gsT hg2) (by omega) rfl rfl (by omega) (by decide) rfl (Nat.le_of_ble_eq_true rfl) (by omega) (by omega) rfl (fun E S9 hx => hx.elim) (fun v S9 hq => ?_)
  obtain ⟨rfl, rfl⟩ := hq
  obtain ⟨hg6, H⟩ := gg_e H
  obtain ⟨hg7, H⟩ := gg_e H
  refine GV.icmp_ge (tgt := 71) hg6 hg7 dX10_depth_27 (by decide) (fun c8 => ?_) (fun c8 => ?_)
  · have H := it_t H c8
    refine GA.iload_n dX10_depth_71 rfl ?_
    refine GA.iconst dX10_depth_72 ?_
    obtain ⟨x9, hx10, H⟩ := gv_e H
    refine GV.iadd hx10 dX10_depth_73 ?_
    cases H
    exact GA.iret rfl dX10_depth_74 (by omega) (by omega) ⟨rfl, rfl⟩
  · have H := it_f H c8
    refine GA.iload dX10_depth_30 rfl ?_
    refine GA.bipush dX10_depth_32 rfl ?_
    obtain ⟨hg11, H⟩ := gg_e H
    refine GV.icmp_ge (tgt := 71) hg11 (by decide) dX10_depth_34 (by decide) (fun c12 => ?_) (fun c12 => ?_)
    · have H := it_t H c12
      refine GA.iload_n dX10_depth_71 rfl ?_
      refine GA.iconst dX10_depth_72 ?_
      obtain ⟨x13, hx14, H⟩ := gv_e H
      refine GV.iadd hx14 dX10_depth_73 ?_
      cases H
      exact GA.iret rfl dX10_depth_74 (by omega) (by omega) ⟨rfl, rfl⟩
    · have H := it_f H c12
      refine GA.iload_n dX10_depth_37 rfl ?_
      refine GA.bipush dX10_depth_38 rfl ?_
      obtain ⟨hg15, H⟩ := gg_e H
      refine GV.icmp_gt (tgt := 71) hg15 (by decide) dX10_depth_40 (by decide) (fun c16 => ?_) (fun c16 => ?_)
      · have H := it_t H c16
        refine GA.iload_n dX10_depth_71 rfl ?_
        refine GA.iconst dX10_depth_72 ?_
        obtain ⟨x17, hx18, H⟩ := gv_e H
        refine GV.iadd hx18 dX10_depth_73 ?_
        cases H
        exact GA.iret rfl dX10_depth_74 (by omega) (by omega) ⟨rfl, rfl⟩
      · have H := it_f H c16
        refine GA.iload_n dX10_depth_43 rfl ?_
        refine GA.aload_n dX10_depth_44 rfl ?_
        refine GA.iload dX10_depth_45 rfl ?_
        refine GA.iload_n dX10_depth_47 rfl ?_
        refine GA.iconst dX10_depth_48 ?_
        obtain ⟨x19, hx20, H⟩ := gv_e H
        refine GV.iadd hx20 dX10_depth_49 ?_
        obtain ⟨x21, S_22, hc23, H⟩ := gc_e H
        refine GA.callV (i_X10_depth ih_X10_depth_0 hc23) xs_X10_78 dX10_depth_50 (gsT hg2) (by omega) rfl rfl (by omega) (by decide) rfl (Nat.le_of_ble_eq_true rfl) (by omega) (by omega) rfl (fun E S9 hx => hx.elim) (fun v S9 hq => ?_)
        obtain ⟨rfl, rfl⟩ := hq
        obtain ⟨hg24, H⟩ := gg_e H
        obtain ⟨hg25, H⟩ := gg_e H
        obtain ⟨x26, hx27, H⟩ := gv_e H
        refine GV.mmax hg24 hg25 hx27 xs_X10_46 dX10_depth_53 (Nat.le_of_ble_eq_true rfl) (by omega) (by omega) ?_
        refine GA.istore_n dX10_depth_56 (by decide) ?_
        refine GA.aload_n dX10_depth_57 rfl ?_
        refine GA.iload dX10_depth_58 rfl ?_
        obtain ⟨x28, S_29, hc30, H⟩ := gc_e H
        refine GA.callV (m_X10_after hc30) xs_X10_69 dX10_depth_60 (gsT hg2) (by omega) rfl rfl (by omega) (by decide) rfl (Nat.le_of_ble_eq_true rfl) (by omega) (by omega) rfl (fun E S9 hx => hx.elim) (fun v S9 hq => ?_)
        obtain ⟨rfl, rfl⟩ := hq
        refine GA.istore dX10_depth_63 (by decide) ?_
        obtain ⟨x31, hx32, H⟩ := gv_e H
        refine GV.iinc hx32 dX10_depth_65 rfl (by decide) ?_
        refine GA.goto (tgt := 20) dX10_depth_68 (by decide) ?_
        refine GA.locals [(0, .ref (L a0)), (1, .int (J a1)), (2, .int (J a2)), (3, .int (J x26)), (4, .int (J x28)), (5, .int (J x31))] ⟨rfl, rfl, rfl, rfl, rfl, rfl, trivial⟩ ?_
        exact ih_X10_depth_20 _ _ (a0) (a1) (a2) (x26) (x28) (x31) _ _ H
theorem g_X10_depth {l : Launch} {Z : XZ} {L : Nat → Nat} : ∀ n, P_X10_depth_0 l Z L n ∧ P_X10_depth_20 l Z L n
  | 0 => ⟨fun _ _ _ _ _ _ _ H => no_e H, fun _ _ _ _ _ _ _ _ _ _ H => no_e H⟩
  | n + 1 => have ⟨h0, h1⟩ := g_X10_depth (l := l) (Z := Z) (L := L) n
    ⟨t_X10_depth_0 n h0 h1, t_X10_depth_20 n h0 h1⟩
theorem m_X10_depth {l : Launch} {Z : XZ} {L : Nat → Nat} {n d : Nat} {S : GS} {a0 : Nat} {a1 : Int} {a2 : Int} {x : Int} {S1 : GS} (H : f_X10_depth n d 0 S [((a0 : Nat) : Int), a1, a2] = some (x, S1)) : GM l Z L yX10_depth cX10_depth 6 (some .int) [] d 0 0 [.ref (L a0), .int (J a1), .int (J a2)] S (fun v S' => v = some (.int (J x)) ∧ S1 = S') (fun _ _ => False) := GM.of (by decide) (Nat.le_of_ble_eq_true rfl) ((g_X10_depth n).1 _ _ _ _ _ _ _ H)

def P_X10_ownerOf_0 (l : Launch) (Z : XZ) (L : Nat → Nat) (n : Nat) : Prop := ∀ (d : Nat) (S : GS) (a0 : Nat) (a1 : Int) (x : Int) (S1 : GS), f_X10_ownerOf n d 0 S [((a0 : Nat) : Int), a1] = some (x, S1) → GA l Z L yX10_ownerOf cX10_ownerOf 3 (some .int) [] d 0 0 (fun v S' => v = some (.int (J x)) ∧ S1 = S') (fun _ _ => False) 0 (gl [(0, .ref (L a0)), (1, .int (J a1))]) [] S 0 0
def P_X10_ownerOf_11 (l : Launch) (Z : XZ) (L : Nat → Nat) (n : Nat) : Prop := ∀ (d : Nat) (S : GS) (a0 : Nat) (a1 : Int) (a2 : Int) (x : Int) (S1 : GS), f_X10_ownerOf n d 11 S [((a0 : Nat) : Int), a1, a2] = some (x, S1) → GA l Z L yX10_ownerOf cX10_ownerOf 3 (some .int) [] d 0 0 (fun v S' => v = some (.int (J x)) ∧ S1 = S') (fun _ _ => False) 11 (gl [(0, .ref (L a0)), (1, .int (J a1)), (2, .int (J a2))]) [] S 0 0
theorem i_X10_ownerOf {l : Launch} {Z : XZ} {L : Nat → Nat} {n : Nat} (ih : P_X10_ownerOf_0 l Z L n) {d : Nat} {S : GS} {a0 : Nat} {a1 : Int} {x : Int} {S1 : GS} (H : f_X10_ownerOf n d 0 S [((a0 : Nat) : Int), a1] = some (x, S1)) : GM l Z L yX10_ownerOf cX10_ownerOf 3 (some .int) [] d 0 0 [.ref (L a0), .int (J a1)] S (fun v S' => v = some (.int (J x)) ∧ S1 = S') (fun _ _ => False) := GM.of (by decide) (Nat.le_of_ble_eq_true rfl) (ih _ _ _ _ _ _ H)
set_option maxHeartbeats 4000000 in
set_option maxRecDepth 20000 in
theorem t_X10_ownerOf_0 {l : Launch} {Z : XZ} {L : Nat → Nat} (n : Nat) (ih_X10_ownerOf_0 : P_X10_ownerOf_0 l Z L n) (ih_X10_ownerOf_11 : P_X10_ownerOf_11 l Z L n) : P_X10_ownerOf_0 l Z L (n + 1) := by
  intro d S a0 a1 x S1 H
  have H : b_X10_ownerOf_0 n d (f_X10_ownerOf n) S a0 a1 = some (x, S1) := H
  unfold b_X10_ownerOf_0 at H
  refine GA.iload_n dX10_ownerOf_0 rfl ?_
  refine GA.aload_n dX10_ownerOf_1 rfl ?_
  obtain ⟨hg1, H⟩ := gg_e H
  obtain ⟨x2, hx3, H⟩ := gv_e H
  refine GV.getI hx3 xf_X10_34 dX10_ownerOf_2 (gsT hg1) (by omega) rfl ?_
  obtain ⟨hg4, H⟩ := gg_e H
  obtain ⟨hg5, H⟩ := gg_e H
  obtain ⟨x6, hx7, H⟩ := gv_e H
  refine GV.mmin hg4 hg5 hx7 xs_X10_66 dX10_ownerOf_5 (Nat.le_of_ble_eq_true rfl) (by omega) (by omega) ?_
  refine GA.iconst dX10_ownerOf_8 ?_
  obtain ⟨x8, hx9, H⟩ := gv_e H
  refine GV.isub hx9 dX10_ownerOf_9 ?_
  refine GA.istore_n dX10_ownerOf_10 (by decide) ?_
  refine GA.locals [(0, .ref (L a0)), (1, .int (J a1)), (2, .int (J x8))] ⟨rfl, rfl, rfl, trivial⟩ ?_
  exact ih_X10_ownerOf_11 _ _ (a0) (a1) (x8) _ _ H
set_option maxHeartbeats 4000000 in
set_option maxRecDepth 20000 in
theorem t_X10_ownerOf_11 {l : Launch} {Z : XZ} {L : Nat → Nat} (n : Nat) (ih_X10_ownerOf_0 : P_X10_ownerOf_0 l Z L n) (ih_X10_ownerOf_11 : P_X10_ownerOf_11 l Z L n) : P_X10_ownerOf_11 l Z L (n + 1) := by
  intro d S a0 a1 a2 x S1 H
  have H : b_X10_ownerOf_11 n d (f_X10_ownerOf n) S a0 a1 a2 = some (x, S1) := H
  unfold b_X10_ownerOf_11 at H
  refine GA.iload_n dX10_ownerOf_11 rfl ?_
  obtain ⟨hg1, H⟩ := gg_e H
  refine GV.if_lt (tgt := 32) hg1 dX10_ownerOf_12 (by decide) (fun c2 => ?_) (fun c2 => ?_)
  · have H := it_t H c2
    refine GA.iconst dX10_ownerOf_32 ?_
    cases H
    exact GA.iret rfl dX10_ownerOf_33 (by omega) (by omega) ⟨rfl, rfl⟩
  · have H := it_f H c2
    refine GA.aload_n dX10_ownerOf_15 rfl ?_
    refine GA.iload_n dX10_ownerOf_16 rfl ?_
    obtain ⟨hg3, H⟩ := gg_e H
    obtain ⟨hg4, H⟩ := gg_e H
    obtain ⟨x5, S_6, hc7, H⟩ := gc_e H
    refine GA.callV (m_X10_after hc7) xs_X10_69 dX10_ownerOf_17 (gsT hg4) (by omega) rfl rfl (by omega) (by decide) rfl (Nat.le_of_ble_eq_true rfl) (by omega) (by omega) rfl (fun E S9 hx => hx.elim) (fun v S9 hq => ?_)
    obtain ⟨rfl, rfl⟩ := hq
    refine GA.iload_n dX10_ownerOf_20 rfl ?_
    obtain ⟨hg8, H⟩ := gg_e H
    obtain ⟨hg9, H⟩ := gg_e H
    refine GV.icmp_le (tgt := 26) hg8 hg9 dX10_ownerOf_21 (by decide) (fun c10 => ?_) (fun c10 => ?_)
    · have H := it_t H c10
      obtain ⟨x11, hx12, H⟩ := gv_e H
      refine GV.iinc hx12 dX10_ownerOf_26 rfl (by decide) ?_
      refine GA.goto (tgt := 11) dX10_ownerOf_29 (by decide) ?_
      refine GA.locals [(0, .ref (L a0)), (1, .int (J a1)), (2, .int (J x11))] ⟨rfl, rfl, rfl, trivial⟩ ?_
      exact ih_X10_ownerOf_11 _ _ (a0) (a1) (x11) _ _ H
    · have H := it_f H c10
      refine GA.iload_n dX10_ownerOf_24 rfl ?_
      cases H
      exact GA.iret rfl dX10_ownerOf_25 (by omega) (by omega) ⟨rfl, rfl⟩
theorem g_X10_ownerOf {l : Launch} {Z : XZ} {L : Nat → Nat} : ∀ n, P_X10_ownerOf_0 l Z L n ∧ P_X10_ownerOf_11 l Z L n
  | 0 => ⟨fun _ _ _ _ _ _ H => no_e H, fun _ _ _ _ _ _ _ H => no_e H⟩
  | n + 1 => have ⟨h0, h1⟩ := g_X10_ownerOf (l := l) (Z := Z) (L := L) n
    ⟨t_X10_ownerOf_0 n h0 h1, t_X10_ownerOf_11 n h0 h1⟩
theorem m_X10_ownerOf {l : Launch} {Z : XZ} {L : Nat → Nat} {n d : Nat} {S : GS} {a0 : Nat} {a1 : Int} {x : Int} {S1 : GS} (H : f_X10_ownerOf n d 0 S [((a0 : Nat) : Int), a1] = some (x, S1)) : GM l Z L yX10_ownerOf cX10_ownerOf 3 (some .int) [] d 0 0 [.ref (L a0), .int (J a1)] S (fun v S' => v = some (.int (J x)) ∧ S1 = S') (fun _ _ => False) := GM.of (by decide) (Nat.le_of_ble_eq_true rfl) ((g_X10_ownerOf n).1 _ _ _ _ _ _ H)

def P_X10_placeOf_0 (l : Launch) (Z : XZ) (L : Nat → Nat) (n : Nat) : Prop := ∀ (d : Nat) (S : GS) (a0 : Nat) (a1 : Int) (x : Int) (S1 : GS), f_X10_placeOf n d 0 S [((a0 : Nat) : Int), a1] = some (x, S1) → GA l Z L yX10_placeOf cX10_placeOf 5 (some .int) [] d 0 0 (fun v S' => v = some (.int (J x)) ∧ S1 = S') (fun _ _ => False) 0 (gl [(0, .ref (L a0)), (1, .int (J a1))]) [] S 0 0
def P_X10_placeOf_15 (l : Launch) (Z : XZ) (L : Nat → Nat) (n : Nat) : Prop := ∀ (d : Nat) (S : GS) (a0 : Nat) (a1 : Int) (a2 : Int) (a3 : Int) (a4 : Int) (x : Int) (S1 : GS), f_X10_placeOf n d 15 S [((a0 : Nat) : Int), a1, a2, a3, a4] = some (x, S1) → GA l Z L yX10_placeOf cX10_placeOf 5 (some .int) [] d 0 0 (fun v S' => v = some (.int (J x)) ∧ S1 = S') (fun _ _ => False) 15 (gl [(0, .ref (L a0)), (1, .int (J a1)), (2, .int (J a2)), (3, .int (J a3)), (4, .int (J a4))]) [] S 0 0
theorem i_X10_placeOf {l : Launch} {Z : XZ} {L : Nat → Nat} {n : Nat} (ih : P_X10_placeOf_0 l Z L n) {d : Nat} {S : GS} {a0 : Nat} {a1 : Int} {x : Int} {S1 : GS} (H : f_X10_placeOf n d 0 S [((a0 : Nat) : Int), a1] = some (x, S1)) : GM l Z L yX10_placeOf cX10_placeOf 5 (some .int) [] d 0 0 [.ref (L a0), .int (J a1)] S (fun v S' => v = some (.int (J x)) ∧ S1 = S') (fun _ _ => False) := GM.of (by decide) (Nat.le_of_ble_eq_true rfl) (ih _ _ _ _ _ _ H)
set_option maxHeartbeats 4000000 in
set_option maxRecDepth 20000 in
theorem t_X10_placeOf_0 {l : Launch} {Z : XZ} {L : Nat → Nat} (n : Nat) (ih_X10_placeOf_0 : P_X10_placeOf_0 l Z L n) (ih_X10_placeOf_15 : P_X10_placeOf_15 l Z L n) : P_X10_placeOf_0 l Z L (n + 1) := by
  intro d S a0 a1 x S1 H
  have H : b_X10_placeOf_0 n d (f_X10_placeOf n) S a0 a1 = some (x, S1) := H
  unfold b_X10_placeOf_0 at H
  refine GA.aload_n dX10_placeOf_0 rfl ?_
  refine GA.iload_n dX10_placeOf_1 rfl ?_
  obtain ⟨hg1, H⟩ := gg_e H
  obtain ⟨hg2, H⟩ := gg_e H
  obtain ⟨x3, S_4, hc5, H⟩ := gc_e H
  refine GA.callV (m_X10_ownerOf hc5) xs_X10_72 dX10_placeOf_2 (gsT hg2) (by omega) rfl rfl (by omega) (by decide) rfl (Nat.le_of_ble_eq_true rfl) (by omega) (by omega) rfl (fun E S9 hx => hx.elim) (fun v S9 hq => ?_)
  obtain ⟨rfl, rfl⟩ := hq
  refine GA.istore_n dX10_placeOf_5 (by decide) ?_
  refine GA.aload_n dX10_placeOf_6 rfl ?_
  refine GA.iload_n dX10_placeOf_7 rfl ?_
  obtain ⟨x6, S_7, hc8, H⟩ := gc_e H
  refine GA.callV (m_X10_first hc8) xs_X10_52 dX10_placeOf_8 (gsT hg2) (by omega) rfl rfl (by omega) (by decide) rfl (Nat.le_of_ble_eq_true rfl) (by omega) (by omega) rfl (fun E S9 hx => hx.elim) (fun v S9 hq => ?_)
  obtain ⟨rfl, rfl⟩ := hq
  refine GA.istore_n dX10_placeOf_11 (by decide) ?_
  refine GA.iconst dX10_placeOf_12 ?_
  refine GA.istore dX10_placeOf_13 (by decide) ?_
  refine GA.locals [(0, .ref (L a0)), (1, .int (J a1)), (2, .int (J x3)), (3, .int (J x6)), (4, .int (J 0))] ⟨rfl, rfl, rfl, rfl, rfl, trivial⟩ ?_
  exact ih_X10_placeOf_15 _ _ (a0) (a1) (x3) (x6) (0) _ _ H
set_option maxHeartbeats 4000000 in
set_option maxRecDepth 20000 in
theorem t_X10_placeOf_15 {l : Launch} {Z : XZ} {L : Nat → Nat} (n : Nat) (ih_X10_placeOf_0 : P_X10_placeOf_0 l Z L n) (ih_X10_placeOf_15 : P_X10_placeOf_15 l Z L n) : P_X10_placeOf_15 l Z L (n + 1) := by
  intro d S a0 a1 a2 a3 a4 x S1 H
  have H : b_X10_placeOf_15 n d (f_X10_placeOf n) S a0 a1 a2 a3 a4 = some (x, S1) := H
  unfold b_X10_placeOf_15 at H
  refine GA.iload_n dX10_placeOf_15 rfl ?_
  refine GA.iconst dX10_placeOf_16 ?_
  obtain ⟨hg1, H⟩ := gg_e H
  refine GV.icmp_eq (tgt := 48) hg1 (by decide) dX10_placeOf_17 (by decide) (fun c2 => ?_) (fun c2 => ?_)
  · have H := it_t H c2
    refine GA.iconst dX10_placeOf_48 ?_
    cases H
    exact GA.iret rfl dX10_placeOf_49 (by omega) (by omega) ⟨rfl, rfl⟩
  · have H := it_f H c2
    refine GA.iload dX10_placeOf_20 rfl ?_
    refine GA.bipush dX10_placeOf_22 rfl ?_
    obtain ⟨hg3, H⟩ := gg_e H
    refine GV.icmp_ge (tgt := 48) hg3 (by decide) dX10_placeOf_24 (by decide) (fun c4 => ?_) (fun c4 => ?_)
    · have H := it_t H c4
      refine GA.iconst dX10_placeOf_48 ?_
      cases H
      exact GA.iret rfl dX10_placeOf_49 (by omega) (by omega) ⟨rfl, rfl⟩
    · have H := it_f H c4
      refine GA.iload_n dX10_placeOf_27 rfl ?_
      refine GA.iload_n dX10_placeOf_28 rfl ?_
      obtain ⟨hg5, H⟩ := gg_e H
      refine GV.icmp_ne (tgt := 35) hg1 hg5 dX10_placeOf_29 (by decide) (fun c6 => ?_) (fun c6 => ?_)
      · have H := it_t H c6
        refine GA.aload_n dX10_placeOf_35 rfl ?_
        refine GA.iload_n dX10_placeOf_36 rfl ?_
        refine GA.iload_n dX10_placeOf_37 rfl ?_
        obtain ⟨hg7, H⟩ := gg_e H
        obtain ⟨hg8, H⟩ := gg_e H
        obtain ⟨x9, S_10, hc11, H⟩ := gc_e H
        refine GA.callV (m_X10_next hc11) xs_X10_56 dX10_placeOf_38 (gsT hg8) (by omega) rfl rfl (by omega) (by decide) rfl (Nat.le_of_ble_eq_true rfl) (by omega) (by omega) rfl (fun E S9 hx => hx.elim) (fun v S9 hq => ?_)
        obtain ⟨rfl, rfl⟩ := hq
        refine GA.istore_n dX10_placeOf_41 (by decide) ?_
        obtain ⟨x12, hx13, H⟩ := gv_e H
        refine GV.iinc hx13 dX10_placeOf_42 rfl (by decide) ?_
        refine GA.goto (tgt := 15) dX10_placeOf_45 (by decide) ?_
        refine GA.locals [(0, .ref (L a0)), (1, .int (J a1)), (2, .int (J a2)), (3, .int (J x9)), (4, .int (J x12))] ⟨rfl, rfl, rfl, rfl, rfl, trivial⟩ ?_
        exact ih_X10_placeOf_15 _ _ (a0) (a1) (a2) (x9) (x12) _ _ H
      · have H := it_f H c6
        refine GA.iload dX10_placeOf_32 rfl ?_
        cases H
        exact GA.iret rfl dX10_placeOf_34 (by omega) (by omega) ⟨rfl, rfl⟩
theorem g_X10_placeOf {l : Launch} {Z : XZ} {L : Nat → Nat} : ∀ n, P_X10_placeOf_0 l Z L n ∧ P_X10_placeOf_15 l Z L n
  | 0 => ⟨fun _ _ _ _ _ _ H => no_e H, fun _ _ _ _ _ _ _ _ _ H => no_e H⟩
  | n + 1 => have ⟨h0, h1⟩ := g_X10_placeOf (l := l) (Z := Z) (L := L) n
    ⟨t_X10_placeOf_0 n h0 h1, t_X10_placeOf_15 n h0 h1⟩
theorem m_X10_placeOf {l : Launch} {Z : XZ} {L : Nat → Nat} {n d : Nat} {S : GS} {a0 : Nat} {a1 : Int} {x : Int} {S1 : GS} (H : f_X10_placeOf n d 0 S [((a0 : Nat) : Int), a1] = some (x, S1)) : GM l Z L yX10_placeOf cX10_placeOf 5 (some .int) [] d 0 0 [.ref (L a0), .int (J a1)] S (fun v S' => v = some (.int (J x)) ∧ S1 = S') (fun _ _ => False) := GM.of (by decide) (Nat.le_of_ble_eq_true rfl) ((g_X10_placeOf n).1 _ _ _ _ _ _ H)

def P_X10_about_0 (l : Launch) (Z : XZ) (L : Nat → Nat) (n : Nat) : Prop := ∀ (d : Nat) (S : GS) (a0 : Nat) (a1 : Int) (a2 : Int) (x : Int) (S1 : GS), f_X10_about n d 0 S [((a0 : Nat) : Int), a1, a2] = some (x, S1) → GA l Z L yX10_about cX10_about 3 (some .int) [] d 0 0 (fun v S' => v = some (.int (J x)) ∧ S1 = S') (fun _ _ => False) 0 (gl [(0, .ref (L a0)), (1, .int (J a1)), (2, .int (J a2))]) [] S 0 0
theorem i_X10_about {l : Launch} {Z : XZ} {L : Nat → Nat} {n : Nat} (ih : P_X10_about_0 l Z L n) {d : Nat} {S : GS} {a0 : Nat} {a1 : Int} {a2 : Int} {x : Int} {S1 : GS} (H : f_X10_about n d 0 S [((a0 : Nat) : Int), a1, a2] = some (x, S1)) : GM l Z L yX10_about cX10_about 3 (some .int) [] d 0 0 [.ref (L a0), .int (J a1), .int (J a2)] S (fun v S' => v = some (.int (J x)) ∧ S1 = S') (fun _ _ => False) := GM.of (by decide) (Nat.le_of_ble_eq_true rfl) (ih _ _ _ _ _ _ _ H)
set_option maxHeartbeats 4000000 in
set_option maxRecDepth 20000 in
theorem t_X10_about_0 {l : Launch} {Z : XZ} {L : Nat → Nat} (n : Nat) (ih_X10_about_0 : P_X10_about_0 l Z L n) : P_X10_about_0 l Z L (n + 1) := by
  intro d S a0 a1 a2 x S1 H
  have H : b_X10_about_0 n d (f_X10_about n) S a0 a1 a2 = some (x, S1) := H
  unfold b_X10_about_0 at H
  refine GA.iload_n dX10_about_0 rfl ?_
  obtain ⟨hg1, H⟩ := gg_e H
  by_cases c2 : a2 = 0
  · have H := it_t H c2
    refine GA.tableIn (tgt := 52) dX10_about_1 hg1 (by omega) (by omega) (by rw [c2] <;> rfl) (by decide) ?_
    refine GA.aload_n dX10_about_52 rfl ?_
    refine GA.iload_n dX10_about_53 rfl ?_
    obtain ⟨hg3, H⟩ := gg_e H
    obtain ⟨hg4, H⟩ := gg_e H
    obtain ⟨x5, S_6, hc7, H⟩ := gc_e H
    refine GA.callV (m_X10_kind hc7) xs_X10_75 dX10_about_54 (gsT hg4) (by omega) rfl rfl (by omega) (by decide) rfl (Nat.le_of_ble_eq_true rfl) (by omega) (by omega) rfl (fun E S9 hx => hx.elim) (fun v S9 hq => ?_)
    obtain ⟨rfl, rfl⟩ := hq
    cases H
    exact GA.iret rfl dX10_about_57 (by omega) (by omega) ⟨rfl, rfl⟩
  have H := it_f H c2
  by_cases c8 : a2 = 1
  · have H := it_t H c8
    refine GA.tableIn (tgt := 58) dX10_about_1 hg1 (by omega) (by omega) (by rw [c8] <;> rfl) (by decide) ?_
    refine GA.aload_n dX10_about_58 rfl ?_
    refine GA.iload_n dX10_about_59 rfl ?_
    refine GA.iconst dX10_about_60 ?_
    obtain ⟨hg9, H⟩ := gg_e H
    obtain ⟨hg10, H⟩ := gg_e H
    obtain ⟨x11, S_12, hc13, H⟩ := gc_e H
    refine GA.callV (m_X10_depth hc13) xs_X10_78 dX10_about_61 (gsT hg10) (by omega) rfl rfl (by omega) (by decide) rfl (Nat.le_of_ble_eq_true rfl) (by omega) (by omega) rfl (fun E S9 hx => hx.elim) (fun v S9 hq => ?_)
    obtain ⟨rfl, rfl⟩ := hq
    cases H
    exact GA.iret rfl dX10_about_64 (by omega) (by omega) ⟨rfl, rfl⟩
  have H := it_f H c8
  by_cases c14 : a2 = 2
  · have H := it_t H c14
    refine GA.tableIn (tgt := 65) dX10_about_1 hg1 (by omega) (by omega) (by rw [c14] <;> rfl) (by decide) ?_
    refine GA.aload_n dX10_about_65 rfl ?_
    refine GA.iload_n dX10_about_66 rfl ?_
    obtain ⟨hg15, H⟩ := gg_e H
    obtain ⟨hg16, H⟩ := gg_e H
    obtain ⟨x17, S_18, hc19, H⟩ := gc_e H
    refine GA.callV (m_X10_size hc19) xs_X10_81 dX10_about_67 (gsT hg16) (by omega) rfl rfl (by omega) (by decide) rfl (Nat.le_of_ble_eq_true rfl) (by omega) (by omega) rfl (fun E S9 hx => hx.elim) (fun v S9 hq => ?_)
    obtain ⟨rfl, rfl⟩ := hq
    cases H
    exact GA.iret rfl dX10_about_70 (by omega) (by omega) ⟨rfl, rfl⟩
  have H := it_f H c14
  by_cases c20 : a2 = 3
  · have H := it_t H c20
    refine GA.tableIn (tgt := 71) dX10_about_1 hg1 (by omega) (by omega) (by rw [c20] <;> rfl) (by decide) ?_
    refine GA.aload_n dX10_about_71 rfl ?_
    refine GA.iload_n dX10_about_72 rfl ?_
    obtain ⟨hg21, H⟩ := gg_e H
    obtain ⟨hg22, H⟩ := gg_e H
    obtain ⟨x23, S_24, hc25, H⟩ := gc_e H
    refine GA.callV (m_X10_length hc25) xs_X10_84 dX10_about_73 (gsT hg22) (by omega) rfl rfl (by omega) (by decide) rfl (Nat.le_of_ble_eq_true rfl) (by omega) (by omega) rfl (fun E S9 hx => hx.elim) (fun v S9 hq => ?_)
    obtain ⟨rfl, rfl⟩ := hq
    cases H
    exact GA.iret rfl dX10_about_76 (by omega) (by omega) ⟨rfl, rfl⟩
  have H := it_f H c20
  by_cases c26 : a2 = 4
  · have H := it_t H c26
    refine GA.tableIn (tgt := 77) dX10_about_1 hg1 (by omega) (by omega) (by rw [c26] <;> rfl) (by decide) ?_
    refine GA.aload_n dX10_about_77 rfl ?_
    refine GA.iload_n dX10_about_78 rfl ?_
    refine GA.iconst dX10_about_79 ?_
    obtain ⟨hg27, H⟩ := gg_e H
    obtain ⟨hg28, H⟩ := gg_e H
    obtain ⟨x29, S_30, hc31, H⟩ := gc_e H
    refine GA.callV (m_X10_is hc31) xs_X10_42 dX10_about_80 (gsT hg28) (by omega) rfl rfl (by omega) (by decide) rfl (Nat.le_of_ble_eq_true rfl) (by omega) (by omega) rfl (fun E S9 hx => hx.elim) (fun v S9 hq => ?_)
    obtain ⟨rfl, rfl⟩ := hq
    obtain ⟨hg32, H⟩ := gg_e H
    refine GV.if_eq (tgt := 95) hg32 dX10_about_83 (by decide) (fun c33 => ?_) (fun c33 => ?_)
    · have H := it_t H c33
      refine GA.iconst dX10_about_95 ?_
      cases H
      exact GA.iret rfl dX10_about_96 (by omega) (by omega) ⟨rfl, rfl⟩
    · have H := it_f H c33
      refine GA.aload_n dX10_about_86 rfl ?_
      refine GA.get xf_X10_18 dX10_about_87 (gsT hg28) (by omega) rfl ?_
      refine GA.iload_n dX10_about_90 rfl ?_
      obtain ⟨hg34, H⟩ := gg_e H
      obtain ⟨x35, hx36, H⟩ := gv_e H
      refine GV.iald hg34 hx36 dX10_about_91 (gsT3 hg28) (by omega) ?_
      refine GA.goto (tgt := 96) dX10_about_92 (by decide) ?_
      cases H
      exact GA.iret rfl dX10_about_96 (by omega) (by omega) ⟨rfl, rfl⟩
  have H := it_f H c26
  by_cases c37 : a2 = 5
  · have H := it_t H c37
    refine GA.tableIn (tgt := 97) dX10_about_1 hg1 (by omega) (by omega) (by rw [c37] <;> rfl) (by decide) ?_
    refine GA.aload_n dX10_about_97 rfl ?_
    refine GA.iload_n dX10_about_98 rfl ?_
    obtain ⟨hg38, H⟩ := gg_e H
    obtain ⟨hg39, H⟩ := gg_e H
    obtain ⟨x40, S_41, hc42, H⟩ := gc_e H
    refine GA.callV (m_X10_power hc42) xs_X10_87 dX10_about_99 (gsT hg39) (by omega) rfl rfl (by omega) (by decide) rfl (Nat.le_of_ble_eq_true rfl) (by omega) (by omega) rfl (fun E S9 hx => hx.elim) (fun v S9 hq => ?_)
    obtain ⟨rfl, rfl⟩ := hq
    cases H
    exact GA.iret rfl dX10_about_102 (by omega) (by omega) ⟨rfl, rfl⟩
  have H := it_f H c37
  by_cases c43 : a2 = 6
  · have H := it_t H c43
    refine GA.tableIn (tgt := 103) dX10_about_1 hg1 (by omega) (by omega) (by rw [c43] <;> rfl) (by decide) ?_
    refine GA.aload_n dX10_about_103 rfl ?_
    refine GA.iload_n dX10_about_104 rfl ?_
    obtain ⟨hg44, H⟩ := gg_e H
    obtain ⟨hg45, H⟩ := gg_e H
    obtain ⟨x46, S_47, hc48, H⟩ := gc_e H
    refine GA.callV (m_X10_figures hc48) xs_X10_90 dX10_about_105 (gsT hg45) (by omega) rfl rfl (by omega) (by decide) rfl (Nat.le_of_ble_eq_true rfl) (by omega) (by omega) rfl (fun E S9 hx => hx.elim) (fun v S9 hq => ?_)
    obtain ⟨rfl, rfl⟩ := hq
    cases H
    exact GA.iret rfl dX10_about_108 (by omega) (by omega) ⟨rfl, rfl⟩
  have H := it_f H c43
  by_cases c49 : a2 = 7
  · have H := it_t H c49
    refine GA.tableIn (tgt := 109) dX10_about_1 hg1 (by omega) (by omega) (by rw [c49] <;> rfl) (by decide) ?_
    refine GA.aload_n dX10_about_109 rfl ?_
    refine GA.iload_n dX10_about_110 rfl ?_
    refine GA.iconst dX10_about_111 ?_
    obtain ⟨hg50, H⟩ := gg_e H
    obtain ⟨hg51, H⟩ := gg_e H
    obtain ⟨x52, S_53, hc54, H⟩ := gc_e H
    refine GA.callV (m_X10_is hc54) xs_X10_42 dX10_about_112 (gsT hg51) (by omega) rfl rfl (by omega) (by decide) rfl (Nat.le_of_ble_eq_true rfl) (by omega) (by omega) rfl (fun E S9 hx => hx.elim) (fun v S9 hq => ?_)
    obtain ⟨rfl, rfl⟩ := hq
    obtain ⟨hg55, H⟩ := gg_e H
    refine GV.if_eq (tgt := 126) hg55 dX10_about_115 (by decide) (fun c56 => ?_) (fun c56 => ?_)
    · have H := it_t H c56
      refine GA.iconst dX10_about_126 ?_
      cases H
      exact GA.iret rfl dX10_about_127 (by omega) (by omega) ⟨rfl, rfl⟩
    · have H := it_f H c56
      refine GA.aload_n dX10_about_118 rfl ?_
      refine GA.iload_n dX10_about_119 rfl ?_
      obtain ⟨x57, S_58, hc59, H⟩ := gc_e H
      refine GA.callV (m_X10_signOf hc59) xs_X10_93 dX10_about_120 (gsT hg51) (by omega) rfl rfl (by omega) (by decide) rfl (Nat.le_of_ble_eq_true rfl) (by omega) (by omega) rfl (fun E S9 hx => hx.elim) (fun v S9 hq => ?_)
      obtain ⟨rfl, rfl⟩ := hq
      refine GA.goto (tgt := 127) dX10_about_123 (by decide) ?_
      cases H
      exact GA.iret rfl dX10_about_127 (by omega) (by omega) ⟨rfl, rfl⟩
  have H := it_f H c49
  by_cases c60 : a2 = 8
  · have H := it_t H c60
    refine GA.tableIn (tgt := 128) dX10_about_1 hg1 (by omega) (by omega) (by rw [c60] <;> rfl) (by decide) ?_
    refine GA.aload_n dX10_about_128 rfl ?_
    refine GA.iload_n dX10_about_129 rfl ?_
    obtain ⟨hg61, H⟩ := gg_e H
    obtain ⟨hg62, H⟩ := gg_e H
    obtain ⟨x63, S_64, hc65, H⟩ := gc_e H
    refine GA.callV (m_X10_ownerOf hc65) xs_X10_72 dX10_about_130 (gsT hg62) (by omega) rfl rfl (by omega) (by decide) rfl (Nat.le_of_ble_eq_true rfl) (by omega) (by omega) rfl (fun E S9 hx => hx.elim) (fun v S9 hq => ?_)
    obtain ⟨rfl, rfl⟩ := hq
    cases H
    exact GA.iret rfl dX10_about_133 (by omega) (by omega) ⟨rfl, rfl⟩
  have H := it_f H c60
  refine GA.tableOut (tgt := 134) dX10_about_1 hg1 (by omega) (by decide) ?_
  refine GA.aload_n dX10_about_134 rfl ?_
  refine GA.iload_n dX10_about_135 rfl ?_
  obtain ⟨hg66, H⟩ := gg_e H
  obtain ⟨hg67, H⟩ := gg_e H
  obtain ⟨x68, S_69, hc70, H⟩ := gc_e H
  refine GA.callV (m_X10_placeOf hc70) xs_X10_96 dX10_about_136 (gsT hg67) (by omega) rfl rfl (by omega) (by decide) rfl (Nat.le_of_ble_eq_true rfl) (by omega) (by omega) rfl (fun E S9 hx => hx.elim) (fun v S9 hq => ?_)
  obtain ⟨rfl, rfl⟩ := hq
  cases H
  exact GA.iret rfl dX10_about_139 (by omega) (by omega) ⟨rfl, rfl⟩
theorem g_X10_about {l : Launch} {Z : XZ} {L : Nat → Nat} : ∀ n, P_X10_about_0 l Z L n
  | 0 => fun _ _ _ _ _ _ _ H => no_e H
  | n + 1 => t_X10_about_0 n (g_X10_about n)
theorem m_X10_about {l : Launch} {Z : XZ} {L : Nat → Nat} {n d : Nat} {S : GS} {a0 : Nat} {a1 : Int} {a2 : Int} {x : Int} {S1 : GS} (H : f_X10_about n d 0 S [((a0 : Nat) : Int), a1, a2] = some (x, S1)) : GM l Z L yX10_about cX10_about 3 (some .int) [] d 0 0 [.ref (L a0), .int (J a1), .int (J a2)] S (fun v S' => v = some (.int (J x)) ∧ S1 = S') (fun _ _ => False) := GM.of (by decide) (Nat.le_of_ble_eq_true rfl) ((g_X10_about n) _ _ _ _ _ _ _ H)

def P_X10_addKeySign_0 (l : Launch) (Z : XZ) (L : Nat → Nat) (n : Nat) : Prop := ∀ (d : Nat) (S : GS) (a0 : Nat) (a1 : Int) (a2 : Int) (x : Int) (S1 : GS), f_X10_addKeySign n d 0 S [((a0 : Nat) : Int), a1, a2] = some (x, S1) → GA l Z L yX10_addKeySign cX10_addKeySign 4 none [] d 0 0 (fun v S' => v = none ∧ S1 = S') (fun _ _ => False) 0 (gl [(0, .ref (L a0)), (1, .int (J a1)), (2, .int (J a2))]) [] S 0 0
def P_X10_addKeySign_32 (l : Launch) (Z : XZ) (L : Nat → Nat) (n : Nat) : Prop := ∀ (d : Nat) (S : GS) (a0 : Nat) (a1 : Int) (a2 : Int) (s0 : Int) (x : Int) (S1 : GS), f_X10_addKeySign n d 32 S [((a0 : Nat) : Int), a1, a2, s0] = some (x, S1) → GA l Z L yX10_addKeySign cX10_addKeySign 4 none [] d 0 0 (fun v S' => v = none ∧ S1 = S') (fun _ _ => False) 32 (gl [(0, .ref (L a0)), (1, .int (J a1)), (2, .int (J a2))]) [.int (J s0)] S 0 0
theorem i_X10_addKeySign {l : Launch} {Z : XZ} {L : Nat → Nat} {n : Nat} (ih : P_X10_addKeySign_0 l Z L n) {d : Nat} {S : GS} {a0 : Nat} {a1 : Int} {a2 : Int} {x : Int} {S1 : GS} (H : f_X10_addKeySign n d 0 S [((a0 : Nat) : Int), a1, a2] = some (x, S1)) : GM l Z L yX10_addKeySign cX10_addKeySign 4 none [] d 0 0 [.ref (L a0), .int (J a1), .int (J a2)] S (fun v S' => v = none ∧ S1 = S') (fun _ _ => False) := GM.of (by decide) (Nat.le_of_ble_eq_true rfl) (ih _ _ _ _ _ _ _ H)
set_option maxHeartbeats 4000000 in
set_option maxRecDepth 20000 in
theorem t_X10_addKeySign_0 {l : Launch} {Z : XZ} {L : Nat → Nat} (n : Nat) (ih_X10_addKeySign_0 : P_X10_addKeySign_0 l Z L n) (ih_X10_addKeySign_32 : P_X10_addKeySign_32 l Z L n) : P_X10_addKeySign_0 l Z L (n + 1) := by
  intro d S a0 a1 a2 x S1 H
  have H : b_X10_addKeySign_0 n d (f_X10_addKeySign n) S a0 a1 a2 = some (x, S1) := H
  unfold b_X10_addKeySign_0 at H
  refine GA.iload_n dX10_addKeySign_0 rfl ?_
  obtain ⟨hg1, H⟩ := gg_e H
  refine GV.if_lt (tgt := 31) hg1 dX10_addKeySign_1 (by decide) (fun c2 => ?_) (fun c2 => ?_)
  · have H := it_t H c2
    refine GA.iconst dX10_addKeySign_31 ?_
    refine GA.locals [(0, .ref (L a0)), (1, .int (J a1)), (2, .int (J a2))] ⟨rfl, rfl, rfl, trivial⟩ ?_
    exact ih_X10_addKeySign_32 _ _ (a0) (a1) (a2) (0) _ _ H
  · have H := it_f H c2
    refine GA.iload_n dX10_addKeySign_4 rfl ?_
    refine GA.aload_n dX10_addKeySign_5 rfl ?_
    obtain ⟨hg3, H⟩ := gg_e H
    obtain ⟨x4, hx5, H⟩ := gv_e H
    refine GV.getI hx5 xf_X10_34 dX10_addKeySign_6 (gsT hg3) (by omega) rfl ?_
    obtain ⟨hg6, H⟩ := gg_e H
    refine GV.icmp_ge (tgt := 31) hg1 hg6 dX10_addKeySign_9 (by decide) (fun c7 => ?_) (fun c7 => ?_)
    · have H := it_t H c7
      refine GA.iconst dX10_addKeySign_31 ?_
      refine GA.locals [(0, .ref (L a0)), (1, .int (J a1)), (2, .int (J a2))] ⟨rfl, rfl, rfl, trivial⟩ ?_
      exact ih_X10_addKeySign_32 _ _ (a0) (a1) (a2) (0) _ _ H
    · have H := it_f H c7
      refine GA.iload_n dX10_addKeySign_12 rfl ?_
      refine GA.bipush dX10_addKeySign_13 rfl ?_
      refine GV.icmp_ge (tgt := 31) hg1 (by decide) dX10_addKeySign_15 (by decide) (fun c8 => ?_) (fun c8 => ?_)
      · have H := it_t H c8
        refine GA.iconst dX10_addKeySign_31 ?_
        refine GA.locals [(0, .ref (L a0)), (1, .int (J a1)), (2, .int (J a2))] ⟨rfl, rfl, rfl, trivial⟩ ?_
        exact ih_X10_addKeySign_32 _ _ (a0) (a1) (a2) (0) _ _ H
      · have H := it_f H c8
        refine GA.aload_n dX10_addKeySign_18 rfl ?_
        refine GA.get xf_X10_28 dX10_addKeySign_19 (gsT hg3) (by omega) rfl ?_
        refine GA.iload_n dX10_addKeySign_22 rfl ?_
        obtain ⟨hg9, H⟩ := gg_e H
        obtain ⟨x10, hx11, H⟩ := gv_e H
        refine GV.iald hg9 hx11 dX10_addKeySign_23 (gsT6 hg3) (by omega) ?_
        obtain ⟨hg12, H⟩ := gg_e H
        refine GV.if_lt (tgt := 31) hg12 dX10_addKeySign_24 (by decide) (fun c13 => ?_) (fun c13 => ?_)
        · have H := it_t H c13
          refine GA.iconst dX10_addKeySign_31 ?_
          refine GA.locals [(0, .ref (L a0)), (1, .int (J a1)), (2, .int (J a2))] ⟨rfl, rfl, rfl, trivial⟩ ?_
          exact ih_X10_addKeySign_32 _ _ (a0) (a1) (a2) (0) _ _ H
        · have H := it_f H c13
          refine GA.iconst dX10_addKeySign_27 ?_
          refine GA.goto (tgt := 32) dX10_addKeySign_28 (by decide) ?_
          refine GA.locals [(0, .ref (L a0)), (1, .int (J a1)), (2, .int (J a2))] ⟨rfl, rfl, rfl, trivial⟩ ?_
          exact ih_X10_addKeySign_32 _ _ (a0) (a1) (a2) (1) _ _ H
set_option maxHeartbeats 4000000 in
set_option maxRecDepth 20000 in
theorem t_X10_addKeySign_32 {l : Launch} {Z : XZ} {L : Nat → Nat} (n : Nat) (ih_X10_addKeySign_0 : P_X10_addKeySign_0 l Z L n) (ih_X10_addKeySign_32 : P_X10_addKeySign_32 l Z L n) : P_X10_addKeySign_32 l Z L (n + 1) := by
  intro d S a0 a1 a2 s0 x S1 H
  have H : b_X10_addKeySign_32 n d (f_X10_addKeySign n) S a0 a1 a2 s0 = some (x, S1) := H
  unfold b_X10_addKeySign_32 at H
  refine GA.istore_n dX10_addKeySign_32 (by decide) ?_
  refine GA.iload_n dX10_addKeySign_33 rfl ?_
  obtain ⟨hg1, H⟩ := gg_e H
  refine GV.if_eq (tgt := 79) hg1 dX10_addKeySign_34 (by decide) (fun c2 => ?_) (fun c2 => ?_)
  · have H := it_t H c2
    refine GA.aload_n dX10_addKeySign_79 rfl ?_
    refine GA.iconst dX10_addKeySign_80 ?_
    obtain ⟨hg3, H⟩ := gg_e H
    obtain ⟨S_4, hx5, H⟩ := gv_e H
    refine GV.putB (by decide) hx5 (xp_X10_38 (xb_01 _)) dX10_addKeySign_81 (gsT hg3) (by omega) (Nat.le_of_ble_eq_true rfl) (gsT hg3) ?_
    cases H
    exact GA.vret rfl dX10_addKeySign_84 (by omega) (by omega) ⟨rfl, rfl⟩
  · have H := it_f H c2
    refine GA.aload_n dX10_addKeySign_37 rfl ?_
    obtain ⟨hg6, H⟩ := gg_e H
    refine GA.get xf_X10_28 dX10_addKeySign_38 (gsT hg6) (by omega) rfl ?_
    refine GA.iload_n dX10_addKeySign_41 rfl ?_
    obtain ⟨hg7, H⟩ := gg_e H
    obtain ⟨x8, hx9, H⟩ := gv_e H
    refine GV.iald hg7 hx9 dX10_addKeySign_42 (gsT6 hg6) (by omega) ?_
    refine GA.bipush dX10_addKeySign_43 rfl ?_
    obtain ⟨hg10, H⟩ := gg_e H
    refine GV.icmp_ge (tgt := 79) hg10 (by decide) dX10_addKeySign_45 (by decide) (fun c11 => ?_) (fun c11 => ?_)
    · have H := it_t H c11
      refine GA.aload_n dX10_addKeySign_79 rfl ?_
      refine GA.iconst dX10_addKeySign_80 ?_
      obtain ⟨S_12, hx13, H⟩ := gv_e H
      refine GV.putB (by decide) hx13 (xp_X10_38 (xb_01 _)) dX10_addKeySign_81 (gsT hg6) (by omega) (Nat.le_of_ble_eq_true rfl) (gsT hg6) ?_
      cases H
      exact GA.vret rfl dX10_addKeySign_84 (by omega) (by omega) ⟨rfl, rfl⟩
    · have H := it_f H c11
      refine GA.aload_n dX10_addKeySign_48 rfl ?_
      refine GA.get xf_X10_31 dX10_addKeySign_49 (gsT hg6) (by omega) rfl ?_
      refine GA.iload_n dX10_addKeySign_52 rfl ?_
      refine GA.bipush dX10_addKeySign_53 rfl ?_
      obtain ⟨x14, hx15, H⟩ := gv_e H
      refine GV.imul hx15 dX10_addKeySign_55 ?_
      refine GA.aload_n dX10_addKeySign_56 rfl ?_
      refine GA.get xf_X10_28 dX10_addKeySign_57 (gsT hg6) (by omega) rfl ?_
      refine GA.iload_n dX10_addKeySign_60 rfl ?_
      obtain ⟨x16, hx17, H⟩ := gv_e H
      refine GV.iald hg7 hx17 dX10_addKeySign_61 (gsT6 hg6) (by omega) ?_
      obtain ⟨x18, hx19, H⟩ := gv_e H
      refine GV.iadd hx19 dX10_addKeySign_62 ?_
      refine GA.iload_n dX10_addKeySign_63 rfl ?_
      obtain ⟨hg20, H⟩ := gg_e H
      refine GA.i2c dX10_addKeySign_64 hg20 ?_
      obtain ⟨hg21, H⟩ := gg_e H
      obtain ⟨S_22, hx23, H⟩ := gv_e H
      refine GV.cast hg21 hg20 hx23 dX10_addKeySign_65 (fun _ => (gsT7 hg6)) (by omega) ?_
      refine GA.aload_n dX10_addKeySign_66 rfl ?_
      refine GA.get xf_X10_28 dX10_addKeySign_67 (gsT hg6) (by omega) rfl ?_
      refine GA.iload_n dX10_addKeySign_70 rfl ?_
      refine GA.dup2 dX10_addKeySign_71 rfl rfl ?_
      obtain ⟨x24, hx25, H⟩ := gv_e H
      refine GV.iald hg7 hx25 dX10_addKeySign_72 (gsT6 hg6) (by omega) ?_
      refine GA.iconst dX10_addKeySign_73 ?_
      obtain ⟨x26, hx27, H⟩ := gv_e H
      refine GV.iadd hx27 dX10_addKeySign_74 ?_
      obtain ⟨S_28, hx29, H⟩ := gv_e H
      refine GV.iast hg7 hx29 dX10_addKeySign_75 (fun _ => (gsT6 hg6)) (by omega) ?_
      refine GA.goto (tgt := 84) dX10_addKeySign_76 (by decide) ?_
      cases H
      exact GA.vret rfl dX10_addKeySign_84 (by omega) (by omega) ⟨rfl, rfl⟩
theorem g_X10_addKeySign {l : Launch} {Z : XZ} {L : Nat → Nat} : ∀ n, P_X10_addKeySign_0 l Z L n ∧ P_X10_addKeySign_32 l Z L n
  | 0 => ⟨fun _ _ _ _ _ _ _ H => no_e H, fun _ _ _ _ _ _ _ _ H => no_e H⟩
  | n + 1 => have ⟨h0, h1⟩ := g_X10_addKeySign (l := l) (Z := Z) (L := L) n
    ⟨t_X10_addKeySign_0 n h0 h1, t_X10_addKeySign_32 n h0 h1⟩
theorem m_X10_addKeySign {l : Launch} {Z : XZ} {L : Nat → Nat} {n d : Nat} {S : GS} {a0 : Nat} {a1 : Int} {a2 : Int} {x : Int} {S1 : GS} (H : f_X10_addKeySign n d 0 S [((a0 : Nat) : Int), a1, a2] = some (x, S1)) : GM l Z L yX10_addKeySign cX10_addKeySign 4 none [] d 0 0 [.ref (L a0), .int (J a1), .int (J a2)] S (fun v S' => v = none ∧ S1 = S') (fun _ _ => False) := GM.of (by decide) (Nat.le_of_ble_eq_true rfl) ((g_X10_addKeySign n).1 _ _ _ _ _ _ _ H)

def P_X10_addTruth_0 (l : Launch) (Z : XZ) (L : Nat → Nat) (n : Nat) : Prop := ∀ (d : Nat) (S : GS) (a0 : Nat) (a1 : Int) (x : Int) (S1 : GS), f_X10_addTruth n d 0 S [((a0 : Nat) : Int), a1] = some (x, S1) → GA l Z L yX10_addTruth cX10_addTruth 3 (some .int) [] d 0 0 (fun v S' => v = some (.int (J x)) ∧ S1 = S') (fun _ _ => False) 0 (gl [(0, .ref (L a0)), (1, .int (J a1))]) [] S 0 0
theorem i_X10_addTruth {l : Launch} {Z : XZ} {L : Nat → Nat} {n : Nat} (ih : P_X10_addTruth_0 l Z L n) {d : Nat} {S : GS} {a0 : Nat} {a1 : Int} {x : Int} {S1 : GS} (H : f_X10_addTruth n d 0 S [((a0 : Nat) : Int), a1] = some (x, S1)) : GM l Z L yX10_addTruth cX10_addTruth 3 (some .int) [] d 0 0 [.ref (L a0), .int (J a1)] S (fun v S' => v = some (.int (J x)) ∧ S1 = S') (fun _ _ => False) := GM.of (by decide) (Nat.le_of_ble_eq_true rfl) (ih _ _ _ _ _ _ H)
set_option maxHeartbeats 4000000 in
set_option maxRecDepth 20000 in
theorem t_X10_addTruth_0 {l : Launch} {Z : XZ} {L : Nat → Nat} (n : Nat) (ih_X10_addTruth_0 : P_X10_addTruth_0 l Z L n) : P_X10_addTruth_0 l Z L (n + 1) := by
  intro d S a0 a1 x S1 H
  have H : b_X10_addTruth_0 n d (f_X10_addTruth n) S a0 a1 = some (x, S1) := H
  unfold b_X10_addTruth_0 at H
  refine GA.aload_n dX10_addTruth_0 rfl ?_
  refine GA.iconst dX10_addTruth_1 ?_
  obtain ⟨hg1, H⟩ := gg_e H
  obtain ⟨hg2, H⟩ := gg_e H
  obtain ⟨x3, S_4, hc5, H⟩ := gc_e H
  refine GA.callV (m_X10_add hc5) xs_X10_194 dX10_addTruth_2 (gsT hg2) (by omega) rfl rfl (by omega) (by decide) rfl (Nat.le_of_ble_eq_true rfl) (by omega) (by omega) rfl (fun E S9 hx => hx.elim) (fun v S9 hq => ?_)
  obtain ⟨rfl, rfl⟩ := hq
  refine GA.istore_n dX10_addTruth_5 (by decide) ?_
  refine GA.aload_n dX10_addTruth_6 rfl ?_
  refine GA.iload_n dX10_addTruth_7 rfl ?_
  obtain ⟨x6, S_7, hc8, H⟩ := gc_e H
  refine GA.callV (m_X10_has hc8) xs_X10_105 dX10_addTruth_8 (gsT hg2) (by omega) rfl rfl (by omega) (by decide) rfl (Nat.le_of_ble_eq_true rfl) (by omega) (by omega) rfl (fun E S9 hx => hx.elim) (fun v S9 hq => ?_)
  obtain ⟨rfl, rfl⟩ := hq
  obtain ⟨hg9, H⟩ := gg_e H
  refine GV.if_eq (tgt := 25) hg9 dX10_addTruth_11 (by decide) (fun c10 => ?_) (fun c10 => ?_)
  · have H := it_t H c10
    refine GA.iload_n dX10_addTruth_25 rfl ?_
    cases H
    exact GA.iret rfl dX10_addTruth_26 (by omega) (by omega) ⟨rfl, rfl⟩
  · have H := it_f H c10
    refine GA.iload_n dX10_addTruth_14 rfl ?_
    obtain ⟨hg11, H⟩ := gg_e H
    refine GV.if_eq (tgt := 25) hg11 dX10_addTruth_15 (by decide) (fun c12 => ?_) (fun c12 => ?_)
    · have H := it_t H c12
      refine GA.iload_n dX10_addTruth_25 rfl ?_
      cases H
      exact GA.iret rfl dX10_addTruth_26 (by omega) (by omega) ⟨rfl, rfl⟩
    · have H := it_f H c12
      refine GA.aload_n dX10_addTruth_18 rfl ?_
      refine GA.get xf_X10_18 dX10_addTruth_19 (gsT hg2) (by omega) rfl ?_
      refine GA.iload_n dX10_addTruth_22 rfl ?_
      refine GA.iconst dX10_addTruth_23 ?_
      obtain ⟨hg13, H⟩ := gg_e H
      obtain ⟨S_14, hx15, H⟩ := gv_e H
      refine GV.iast hg13 hx15 dX10_addTruth_24 (fun _ => (gsT3 hg2)) (by omega) ?_
      refine GA.iload_n dX10_addTruth_25 rfl ?_
      cases H
      exact GA.iret rfl dX10_addTruth_26 (by omega) (by omega) ⟨rfl, rfl⟩
theorem g_X10_addTruth {l : Launch} {Z : XZ} {L : Nat → Nat} : ∀ n, P_X10_addTruth_0 l Z L n
  | 0 => fun _ _ _ _ _ _ H => no_e H
  | n + 1 => t_X10_addTruth_0 n (g_X10_addTruth n)
theorem m_X10_addTruth {l : Launch} {Z : XZ} {L : Nat → Nat} {n d : Nat} {S : GS} {a0 : Nat} {a1 : Int} {x : Int} {S1 : GS} (H : f_X10_addTruth n d 0 S [((a0 : Nat) : Int), a1] = some (x, S1)) : GM l Z L yX10_addTruth cX10_addTruth 3 (some .int) [] d 0 0 [.ref (L a0), .int (J a1)] S (fun v S' => v = some (.int (J x)) ∧ S1 = S') (fun _ _ => False) := GM.of (by decide) (Nat.le_of_ble_eq_true rfl) ((g_X10_addTruth n) _ _ _ _ _ _ H)

def P_X10_isOverfull_0 (l : Launch) (Z : XZ) (L : Nat → Nat) (n : Nat) : Prop := ∀ (d : Nat) (S : GS) (a0 : Nat) (x : Int) (S1 : GS), f_X10_isOverfull n d 0 S [((a0 : Nat) : Int)] = some (x, S1) → GA l Z L yX10_isOverfull cX10_isOverfull 1 (some .boolean) [] d 0 0 (fun v S' => v = some (.int (J x)) ∧ S1 = S') (fun _ _ => False) 0 (gl [(0, .ref (L a0))]) [] S 0 0
theorem i_X10_isOverfull {l : Launch} {Z : XZ} {L : Nat → Nat} {n : Nat} (ih : P_X10_isOverfull_0 l Z L n) {d : Nat} {S : GS} {a0 : Nat} {x : Int} {S1 : GS} (H : f_X10_isOverfull n d 0 S [((a0 : Nat) : Int)] = some (x, S1)) : GM l Z L yX10_isOverfull cX10_isOverfull 1 (some .boolean) [] d 0 0 [.ref (L a0)] S (fun v S' => v = some (.int (J x)) ∧ S1 = S') (fun _ _ => False) := GM.of (by decide) (Nat.le_of_ble_eq_true rfl) (ih _ _ _ _ _ H)
set_option maxHeartbeats 4000000 in
set_option maxRecDepth 20000 in
theorem t_X10_isOverfull_0 {l : Launch} {Z : XZ} {L : Nat → Nat} (n : Nat) (ih_X10_isOverfull_0 : P_X10_isOverfull_0 l Z L n) : P_X10_isOverfull_0 l Z L (n + 1) := by
  intro d S a0 x S1 H
  have H : b_X10_isOverfull_0 n d (f_X10_isOverfull n) S a0 = some (x, S1) := H
  unfold b_X10_isOverfull_0 at H
  refine GA.aload_n dX10_isOverfull_0 rfl ?_
  obtain ⟨hg1, H⟩ := gg_e H
  obtain ⟨x2, hx3, H⟩ := gv_e H
  refine GV.getB hx3 xf_X10_38 dX10_isOverfull_1 (gsT hg1) (by omega) rfl ?_
  obtain ⟨hg4, H⟩ := gg_e H
  cases H
  exact GV.zret hg4 rfl dX10_isOverfull_4 (by omega) (by omega) ⟨rfl, rfl⟩
theorem g_X10_isOverfull {l : Launch} {Z : XZ} {L : Nat → Nat} : ∀ n, P_X10_isOverfull_0 l Z L n
  | 0 => fun _ _ _ _ _ H => no_e H
  | n + 1 => t_X10_isOverfull_0 n (g_X10_isOverfull n)
theorem m_X10_isOverfull {l : Launch} {Z : XZ} {L : Nat → Nat} {n d : Nat} {S : GS} {a0 : Nat} {x : Int} {S1 : GS} (H : f_X10_isOverfull n d 0 S [((a0 : Nat) : Int)] = some (x, S1)) : GM l Z L yX10_isOverfull cX10_isOverfull 1 (some .boolean) [] d 0 0 [.ref (L a0)] S (fun v S' => v = some (.int (J x)) ∧ S1 = S') (fun _ _ => False) := GM.of (by decide) (Nat.le_of_ble_eq_true rfl) ((g_X10_isOverfull n) _ _ _ _ _ H)

def P_X10_copyNodes_0 (l : Launch) (Z : XZ) (L : Nat → Nat) (n : Nat) : Prop := ∀ (d : Nat) (S : GS) (a0 : Nat) (a1 : Int) (a2 : Nat) (a3 : Int) (a4 : Int) (x : Int) (S1 : GS), f_X10_copyNodes n d 0 S [((a0 : Nat) : Int), a1, ((a2 : Nat) : Int), a3, a4] = some (x, S1) → GA l Z L yX10_copyNodes cX10_copyNodes 5 none [] d 0 0 (fun v S' => v = none ∧ S1 = S') (fun _ _ => False) 0 (gl [(0, .ref (L a0)), (1, .int (J a1)), (2, .ref (L a2)), (3, .int (J a3)), (4, .int (J a4))]) [] S 0 0
theorem i_X10_copyNodes {l : Launch} {Z : XZ} {L : Nat → Nat} {n : Nat} (ih : P_X10_copyNodes_0 l Z L n) {d : Nat} {S : GS} {a0 : Nat} {a1 : Int} {a2 : Nat} {a3 : Int} {a4 : Int} {x : Int} {S1 : GS} (H : f_X10_copyNodes n d 0 S [((a0 : Nat) : Int), a1, ((a2 : Nat) : Int), a3, a4] = some (x, S1)) : GM l Z L yX10_copyNodes cX10_copyNodes 5 none [] d 0 0 [.ref (L a0), .int (J a1), .ref (L a2), .int (J a3), .int (J a4)] S (fun v S' => v = none ∧ S1 = S') (fun _ _ => False) := GM.of (by decide) (Nat.le_of_ble_eq_true rfl) (ih _ _ _ _ _ _ _ _ _ H)
set_option maxHeartbeats 4000000 in
set_option maxRecDepth 20000 in
theorem t_X10_copyNodes_0 {l : Launch} {Z : XZ} {L : Nat → Nat} (n : Nat) (ih_X10_copyNodes_0 : P_X10_copyNodes_0 l Z L n) : P_X10_copyNodes_0 l Z L (n + 1) := by
  intro d S a0 a1 a2 a3 a4 x S1 H
  have H : b_X10_copyNodes_0 n d (f_X10_copyNodes n) S a0 a1 a2 a3 a4 = some (x, S1) := H
  unfold b_X10_copyNodes_0 at H
  refine GA.iload_n dX10_copyNodes_0 rfl ?_
  obtain ⟨hg1, H⟩ := gg_e H
  refine GV.if_lt (tgt := 32) hg1 dX10_copyNodes_1 (by decide) (fun c2 => ?_) (fun c2 => ?_)
  · have H := it_t H c2
    cases H
    exact GA.vret rfl dX10_copyNodes_32 (by omega) (by omega) ⟨rfl, rfl⟩
  · have H := it_f H c2
    refine GA.iload_n dX10_copyNodes_4 rfl ?_
    obtain ⟨hg3, H⟩ := gg_e H
    refine GV.if_lt (tgt := 32) hg3 dX10_copyNodes_5 (by decide) (fun c4 => ?_) (fun c4 => ?_)
    · have H := it_t H c4
      cases H
      exact GA.vret rfl dX10_copyNodes_32 (by omega) (by omega) ⟨rfl, rfl⟩
    · have H := it_f H c4
      refine GA.iload dX10_copyNodes_8 rfl ?_
      refine GA.iconst dX10_copyNodes_10 ?_
      obtain ⟨hg5, H⟩ := gg_e H
      refine GV.icmp_lt (tgt := 32) hg5 (by decide) dX10_copyNodes_11 (by decide) (fun c6 => ?_) (fun c6 => ?_)
      · have H := it_t H c6
        cases H
        exact GA.vret rfl dX10_copyNodes_32 (by omega) (by omega) ⟨rfl, rfl⟩
      · have H := it_f H c6
        refine GA.iload_n dX10_copyNodes_14 rfl ?_
        refine GA.iload dX10_copyNodes_15 rfl ?_
        obtain ⟨x7, hx8, H⟩ := gv_e H
        refine GV.iadd hx8 dX10_copyNodes_17 ?_
        refine GA.bipush dX10_copyNodes_18 rfl ?_
        obtain ⟨hg9, H⟩ := gg_e H
        refine GV.icmp_gt (tgt := 32) hg9 (by decide) dX10_copyNodes_20 (by decide) (fun c10 => ?_) (fun c10 => ?_)
        · have H := it_t H c10
          cases H
          exact GA.vret rfl dX10_copyNodes_32 (by omega) (by omega) ⟨rfl, rfl⟩
        · have H := it_f H c10
          refine GA.iload_n dX10_copyNodes_23 rfl ?_
          refine GA.iload dX10_copyNodes_24 rfl ?_
          obtain ⟨x11, hx12, H⟩ := gv_e H
          refine GV.iadd hx12 dX10_copyNodes_26 ?_
          refine GA.bipush dX10_copyNodes_27 rfl ?_
          obtain ⟨hg13, H⟩ := gg_e H
          refine GV.icmp_le (tgt := 33) hg13 (by decide) dX10_copyNodes_29 (by decide) (fun c14 => ?_) (fun c14 => ?_)
          · have H := it_t H c14
            refine GA.aload_n dX10_copyNodes_33 rfl ?_
            obtain ⟨hg15, H⟩ := gg_e H
            refine GA.get xf_X10_9 dX10_copyNodes_34 (gsT hg15) (by omega) rfl ?_
            refine GA.iload_n dX10_copyNodes_37 rfl ?_
            refine GA.aload_n dX10_copyNodes_38 rfl ?_
            obtain ⟨hg16, H⟩ := gg_e H
            refine GA.get xf_X10_9 dX10_copyNodes_39 (gsT hg16) (by omega) rfl ?_
            refine GA.iload_n dX10_copyNodes_42 rfl ?_
            refine GA.iload dX10_copyNodes_43 rfl ?_
            obtain ⟨hg17, H⟩ := gg_e H
            obtain ⟨S_18, hx19, H⟩ := gv_e H
            refine GV.copy (t := 0) (by decide) hg17 (fun e _ _ => absurd e (by decide)) hx19 xs_X10_221 dX10_copyNodes_45 (gsT1 hg15) (by omega) (fun _ => (gsT1 hg16)) (by omega) (Nat.le_of_ble_eq_true rfl) ?_
            refine GA.aload_n dX10_copyNodes_48 rfl ?_
            refine GA.get xf_X10_15 dX10_copyNodes_49 (gsT hg15) (by omega) rfl ?_
            refine GA.iload_n dX10_copyNodes_52 rfl ?_
            refine GA.aload_n dX10_copyNodes_53 rfl ?_
            refine GA.get xf_X10_15 dX10_copyNodes_54 (gsT hg16) (by omega) rfl ?_
            refine GA.iload_n dX10_copyNodes_57 rfl ?_
            refine GA.iload dX10_copyNodes_58 rfl ?_
            obtain ⟨hg20, H⟩ := gg_e H
            obtain ⟨S_21, hx22, H⟩ := gv_e H
            refine GV.copy (t := 0) (by decide) hg20 (fun e _ _ => absurd e (by decide)) hx22 xs_X10_221 dX10_copyNodes_60 (gsT2 hg15) (by omega) (fun _ => (gsT2 hg16)) (by omega) (Nat.le_of_ble_eq_true rfl) ?_
            refine GA.aload_n dX10_copyNodes_63 rfl ?_
            refine GA.get xf_X10_18 dX10_copyNodes_64 (gsT hg15) (by omega) rfl ?_
            refine GA.iload_n dX10_copyNodes_67 rfl ?_
            refine GA.aload_n dX10_copyNodes_68 rfl ?_
            refine GA.get xf_X10_18 dX10_copyNodes_69 (gsT hg16) (by omega) rfl ?_
            refine GA.iload_n dX10_copyNodes_72 rfl ?_
            refine GA.iload dX10_copyNodes_73 rfl ?_
            obtain ⟨hg23, H⟩ := gg_e H
            obtain ⟨S_24, hx25, H⟩ := gv_e H
            refine GV.copy (t := 0) (by decide) hg23 (fun e _ _ => absurd e (by decide)) hx25 xs_X10_221 dX10_copyNodes_75 (gsT3 hg15) (by omega) (fun _ => (gsT3 hg16)) (by omega) (Nat.le_of_ble_eq_true rfl) ?_
            refine GA.aload_n dX10_copyNodes_78 rfl ?_
            refine GA.get xf_X10_21 dX10_copyNodes_79 (gsT hg15) (by omega) rfl ?_
            refine GA.iload_n dX10_copyNodes_82 rfl ?_
            refine GA.aload_n dX10_copyNodes_83 rfl ?_
            refine GA.get xf_X10_21 dX10_copyNodes_84 (gsT hg16) (by omega) rfl ?_
            refine GA.iload_n dX10_copyNodes_87 rfl ?_
            refine GA.iload dX10_copyNodes_88 rfl ?_
            obtain ⟨hg26, H⟩ := gg_e H
            obtain ⟨S_27, hx28, H⟩ := gv_e H
            refine GV.copy (t := 0) (by decide) hg26 (fun e _ _ => absurd e (by decide)) hx28 xs_X10_221 dX10_copyNodes_90 (gsT4 hg15) (by omega) (fun _ => (gsT4 hg16)) (by omega) (Nat.le_of_ble_eq_true rfl) ?_
            refine GA.aload_n dX10_copyNodes_93 rfl ?_
            refine GA.get xf_X10_24 dX10_copyNodes_94 (gsT hg15) (by omega) rfl ?_
            refine GA.iload_n dX10_copyNodes_97 rfl ?_
            refine GA.bipush dX10_copyNodes_98 rfl ?_
            obtain ⟨x29, hx30, H⟩ := gv_e H
            refine GV.imul hx30 dX10_copyNodes_100 ?_
            refine GA.aload_n dX10_copyNodes_101 rfl ?_
            refine GA.get xf_X10_24 dX10_copyNodes_102 (gsT hg16) (by omega) rfl ?_
            refine GA.iload_n dX10_copyNodes_105 rfl ?_
            refine GA.bipush dX10_copyNodes_106 rfl ?_
            obtain ⟨x31, hx32, H⟩ := gv_e H
            refine GV.imul hx32 dX10_copyNodes_108 ?_
            refine GA.iload dX10_copyNodes_109 rfl ?_
            refine GA.bipush dX10_copyNodes_111 rfl ?_
            obtain ⟨x33, hx34, H⟩ := gv_e H
            refine GV.imul hx34 dX10_copyNodes_113 ?_
            obtain ⟨hg35, H⟩ := gg_e H
            obtain ⟨hg36, H⟩ := gg_e H
            obtain ⟨S_37, hx38, H⟩ := gv_e H
            refine GV.copy (t := 2) (by decide) hg35 (fun _ => hg36) hx38 xs_X10_221 dX10_copyNodes_114 (gsT5 hg15) (by omega) (fun _ => (gsT5 hg16)) (by omega) (Nat.le_of_ble_eq_true rfl) ?_
            refine GA.aload_n dX10_copyNodes_117 rfl ?_
            refine GA.get xf_X10_28 dX10_copyNodes_118 (gsT hg15) (by omega) rfl ?_
            refine GA.iload_n dX10_copyNodes_121 rfl ?_
            refine GA.aload_n dX10_copyNodes_122 rfl ?_
            refine GA.get xf_X10_28 dX10_copyNodes_123 (gsT hg16) (by omega) rfl ?_
            refine GA.iload_n dX10_copyNodes_126 rfl ?_
            refine GA.iload dX10_copyNodes_127 rfl ?_
            obtain ⟨hg39, H⟩ := gg_e H
            obtain ⟨S_40, hx41, H⟩ := gv_e H
            refine GV.copy (t := 0) (by decide) hg39 (fun e _ _ => absurd e (by decide)) hx41 xs_X10_221 dX10_copyNodes_129 (gsT6 hg15) (by omega) (fun _ => (gsT6 hg16)) (by omega) (Nat.le_of_ble_eq_true rfl) ?_
            refine GA.aload_n dX10_copyNodes_132 rfl ?_
            refine GA.get xf_X10_31 dX10_copyNodes_133 (gsT hg15) (by omega) rfl ?_
            refine GA.iload_n dX10_copyNodes_136 rfl ?_
            refine GA.bipush dX10_copyNodes_137 rfl ?_
            obtain ⟨x42, hx43, H⟩ := gv_e H
            refine GV.imul hx43 dX10_copyNodes_139 ?_
            refine GA.aload_n dX10_copyNodes_140 rfl ?_
            refine GA.get xf_X10_31 dX10_copyNodes_141 (gsT hg16) (by omega) rfl ?_
            refine GA.iload_n dX10_copyNodes_144 rfl ?_
            refine GA.bipush dX10_copyNodes_145 rfl ?_
            obtain ⟨x44, hx45, H⟩ := gv_e H
            refine GV.imul hx45 dX10_copyNodes_147 ?_
            refine GA.iload dX10_copyNodes_148 rfl ?_
            refine GA.bipush dX10_copyNodes_150 rfl ?_
            obtain ⟨x46, hx47, H⟩ := gv_e H
            refine GV.imul hx47 dX10_copyNodes_152 ?_
            obtain ⟨hg48, H⟩ := gg_e H
            obtain ⟨hg49, H⟩ := gg_e H
            obtain ⟨S_50, hx51, H⟩ := gv_e H
            refine GV.copy (t := 2) (by decide) hg48 (fun _ => hg49) hx51 xs_X10_221 dX10_copyNodes_153 (gsT7 hg15) (by omega) (fun _ => (gsT7 hg16)) (by omega) (Nat.le_of_ble_eq_true rfl) ?_
            cases H
            exact GA.vret rfl dX10_copyNodes_156 (by omega) (by omega) ⟨rfl, rfl⟩
          · have H := it_f H c14
            cases H
            exact GA.vret rfl dX10_copyNodes_32 (by omega) (by omega) ⟨rfl, rfl⟩
theorem g_X10_copyNodes {l : Launch} {Z : XZ} {L : Nat → Nat} : ∀ n, P_X10_copyNodes_0 l Z L n
  | 0 => fun _ _ _ _ _ _ _ _ _ H => no_e H
  | n + 1 => t_X10_copyNodes_0 n (g_X10_copyNodes n)
theorem m_X10_copyNodes {l : Launch} {Z : XZ} {L : Nat → Nat} {n d : Nat} {S : GS} {a0 : Nat} {a1 : Int} {a2 : Nat} {a3 : Int} {a4 : Int} {x : Int} {S1 : GS} (H : f_X10_copyNodes n d 0 S [((a0 : Nat) : Int), a1, ((a2 : Nat) : Int), a3, a4] = some (x, S1)) : GM l Z L yX10_copyNodes cX10_copyNodes 5 none [] d 0 0 [.ref (L a0), .int (J a1), .ref (L a2), .int (J a3), .int (J a4)] S (fun v S' => v = none ∧ S1 = S') (fun _ _ => False) := GM.of (by decide) (Nat.le_of_ble_eq_true rfl) ((g_X10_copyNodes n) _ _ _ _ _ _ _ _ _ H)

def P_X10_append_0 (l : Launch) (Z : XZ) (L : Nat → Nat) (n : Nat) : Prop := ∀ (d : Nat) (S : GS) (a0 : Nat) (a1 : Nat) (a2 : Int) (x : Int) (S1 : GS), f_X10_append n d 0 S [((a0 : Nat) : Int), ((a1 : Nat) : Int), a2] = some (x, S1) → GA l Z L yX10_append cX10_append 4 (some .int) [] d 0 0 (fun v S' => v = some (.int (J x)) ∧ S1 = S') (fun _ _ => False) 0 (gl [(0, .ref (L a0)), (1, .ref (L a1)), (2, .int (J a2))]) [] S 0 0
theorem i_X10_append {l : Launch} {Z : XZ} {L : Nat → Nat} {n : Nat} (ih : P_X10_append_0 l Z L n) {d : Nat} {S : GS} {a0 : Nat} {a1 : Nat} {a2 : Int} {x : Int} {S1 : GS} (H : f_X10_append n d 0 S [((a0 : Nat) : Int), ((a1 : Nat) : Int), a2] = some (x, S1)) : GM l Z L yX10_append cX10_append 4 (some .int) [] d 0 0 [.ref (L a0), .ref (L a1), .int (J a2)] S (fun v S' => v = some (.int (J x)) ∧ S1 = S') (fun _ _ => False) := GM.of (by decide) (Nat.le_of_ble_eq_true rfl) (ih _ _ _ _ _ _ _ H)
set_option maxHeartbeats 4000000 in
set_option maxRecDepth 20000 in
theorem t_X10_append_0 {l : Launch} {Z : XZ} {L : Nat → Nat} (n : Nat) (ih_X10_append_0 : P_X10_append_0 l Z L n) : P_X10_append_0 l Z L (n + 1) := by
  intro d S a0 a1 a2 x S1 H
  have H : b_X10_append_0 n d (f_X10_append n) S a0 a1 a2 = some (x, S1) := H
  unfold b_X10_append_0 at H
  refine GA.aload_n dX10_append_0 rfl ?_
  refine GA.iload_n dX10_append_1 rfl ?_
  obtain ⟨hg1, H⟩ := gg_e H
  obtain ⟨hg2, H⟩ := gg_e H
  obtain ⟨x3, S_4, hc5, H⟩ := gc_e H
  refine GA.callV (m_X10_size hc5) xs_X10_81 dX10_append_2 (gsT hg2) (by omega) rfl rfl (by omega) (by decide) rfl (Nat.le_of_ble_eq_true rfl) (by omega) (by omega) rfl (fun E S9 hx => hx.elim) (fun v S9 hq => ?_)
  obtain ⟨rfl, rfl⟩ := hq
  refine GA.istore_n dX10_append_5 (by decide) ?_
  refine GA.aload_n dX10_append_6 rfl ?_
  obtain ⟨x6, S_7, hc8, H⟩ := gc_e H
  refine GA.callV (m_X10_isOverfull hc8) xs_X10_196 dX10_append_7 (gsT hg2) (by omega) rfl rfl (by omega) (by decide) rfl (Nat.le_of_ble_eq_true rfl) (by omega) (by omega) rfl (fun E S9 hx => hx.elim) (fun v S9 hq => ?_)
  obtain ⟨rfl, rfl⟩ := hq
  obtain ⟨hg9, H⟩ := gg_e H
  refine GV.if_ne (tgt := 29) hg9 dX10_append_10 (by decide) (fun c10 => ?_) (fun c10 => ?_)
  · have H := it_t H c10
    refine GA.aload_n dX10_append_29 rfl ?_
    refine GA.iconst dX10_append_30 ?_
    obtain ⟨hg11, H⟩ := gg_e H
    obtain ⟨S_12, hx13, H⟩ := gv_e H
    refine GV.putB (by decide) hx13 (xp_X10_38 (xb_01 _)) dX10_append_31 (gsT hg11) (by omega) (Nat.le_of_ble_eq_true rfl) (gsT hg11) ?_
    refine GA.iconst dX10_append_34 ?_
    cases H
    exact GA.iret rfl dX10_append_35 (by omega) (by omega) ⟨rfl, rfl⟩
  · have H := it_f H c10
    refine GA.iload_n dX10_append_13 rfl ?_
    refine GA.iconst dX10_append_14 ?_
    obtain ⟨hg14, H⟩ := gg_e H
    refine GV.icmp_lt (tgt := 29) hg14 (by decide) dX10_append_15 (by decide) (fun c15 => ?_) (fun c15 => ?_)
    · have H := it_t H c15
      refine GA.aload_n dX10_append_29 rfl ?_
      refine GA.iconst dX10_append_30 ?_
      obtain ⟨hg16, H⟩ := gg_e H
      obtain ⟨S_17, hx18, H⟩ := gv_e H
      refine GV.putB (by decide) hx18 (xp_X10_38 (xb_01 _)) dX10_append_31 (gsT hg16) (by omega) (Nat.le_of_ble_eq_true rfl) (gsT hg16) ?_
      refine GA.iconst dX10_append_34 ?_
      cases H
      exact GA.iret rfl dX10_append_35 (by omega) (by omega) ⟨rfl, rfl⟩
    · have H := it_f H c15
      refine GA.aload_n dX10_append_18 rfl ?_
      obtain ⟨hg19, H⟩ := gg_e H
      obtain ⟨x20, hx21, H⟩ := gv_e H
      refine GV.getI hx21 xf_X10_34 dX10_append_19 (gsT hg19) (by omega) rfl ?_
      refine GA.iload_n dX10_append_22 rfl ?_
      obtain ⟨x22, hx23, H⟩ := gv_e H
      refine GV.iadd hx23 dX10_append_23 ?_
      refine GA.bipush dX10_append_24 rfl ?_
      obtain ⟨hg24, H⟩ := gg_e H
      refine GV.icmp_le (tgt := 36) hg24 (by decide) dX10_append_26 (by decide) (fun c25 => ?_) (fun c25 => ?_)
      · have H := it_t H c25
        refine GA.aload_n dX10_append_36 rfl ?_
        refine GA.aload_n dX10_append_37 rfl ?_
        obtain ⟨x26, hx27, H⟩ := gv_e H
        refine GV.getI hx27 xf_X10_34 dX10_append_38 (gsT hg19) (by omega) rfl ?_
        refine GA.aload_n dX10_append_41 rfl ?_
        refine GA.iload_n dX10_append_42 rfl ?_
        refine GA.iload_n dX10_append_43 rfl ?_
        obtain ⟨x28, S_29, hc30, H⟩ := gc_e H
        refine GA.callV (m_X10_copyNodes hc30) xs_X10_200 dX10_append_44 (gsT hg19) (by omega) rfl rfl (by omega) (by decide) rfl (Nat.le_of_ble_eq_true rfl) (by omega) (by omega) rfl (fun E S9 hx => hx.elim) (fun v S9 hq => ?_)
        obtain ⟨rfl, rfl⟩ := hq
        refine GA.aload_n dX10_append_47 rfl ?_
        refine GA.dup dX10_append_48 rfl ?_
        obtain ⟨x31, hx32, H⟩ := gv_e H
        refine GV.getI hx32 xf_X10_34 dX10_append_49 (gsT hg19) (by omega) rfl ?_
        refine GA.iload_n dX10_append_52 rfl ?_
        obtain ⟨x33, hx34, H⟩ := gv_e H
        refine GV.iadd hx34 dX10_append_53 ?_
        obtain ⟨S_35, hx36, H⟩ := gv_e H
        refine GV.putI hx36 (xp_X10_34 _) dX10_append_54 (gsT hg19) (by omega) (Nat.le_of_ble_eq_true rfl) (gsT hg19) ?_
        refine GA.aload_n dX10_append_57 rfl ?_
        obtain ⟨x37, hx38, H⟩ := gv_e H
        refine GV.getI hx38 xf_X10_34 dX10_append_58 (gsT hg19) (by omega) rfl ?_
        refine GA.iload_n dX10_append_61 rfl ?_
        obtain ⟨x39, hx40, H⟩ := gv_e H
        refine GV.isub hx40 dX10_append_62 ?_
        cases H
        exact GA.iret rfl dX10_append_63 (by omega) (by omega) ⟨rfl, rfl⟩
      · have H := it_f H c25
        refine GA.aload_n dX10_append_29 rfl ?_
        refine GA.iconst dX10_append_30 ?_
        obtain ⟨S_41, hx42, H⟩ := gv_e H
        refine GV.putB (by decide) hx42 (xp_X10_38 (xb_01 _)) dX10_append_31 (gsT hg19) (by omega) (Nat.le_of_ble_eq_true rfl) (gsT hg19) ?_
        refine GA.iconst dX10_append_34 ?_
        cases H
        exact GA.iret rfl dX10_append_35 (by omega) (by omega) ⟨rfl, rfl⟩
theorem g_X10_append {l : Launch} {Z : XZ} {L : Nat → Nat} : ∀ n, P_X10_append_0 l Z L n
  | 0 => fun _ _ _ _ _ _ _ H => no_e H
  | n + 1 => t_X10_append_0 n (g_X10_append n)
theorem m_X10_append {l : Launch} {Z : XZ} {L : Nat → Nat} {n d : Nat} {S : GS} {a0 : Nat} {a1 : Nat} {a2 : Int} {x : Int} {S1 : GS} (H : f_X10_append n d 0 S [((a0 : Nat) : Int), ((a1 : Nat) : Int), a2] = some (x, S1)) : GM l Z L yX10_append cX10_append 4 (some .int) [] d 0 0 [.ref (L a0), .ref (L a1), .int (J a2)] S (fun v S' => v = some (.int (J x)) ∧ S1 = S') (fun _ _ => False) := GM.of (by decide) (Nat.le_of_ble_eq_true rfl) ((g_X10_append n) _ _ _ _ _ _ _ H)

def P_X10_nextByKey_0 (l : Launch) (Z : XZ) (L : Nat → Nat) (n : Nat) : Prop := ∀ (d : Nat) (S : GS) (a0 : Nat) (a1 : Int) (a2 : Int) (x : Int) (S1 : GS), f_X10_nextByKey n d 0 S [((a0 : Nat) : Int), a1, a2] = some (x, S1) → GA l Z L yX10_nextByKey cX10_nextByKey 7 (some .int) [] d 0 0 (fun v S' => v = some (.int (J x)) ∧ S1 = S') (fun _ _ => False) 0 (gl [(0, .ref (L a0)), (1, .int (J a1)), (2, .int (J a2))]) [] S 0 0
def P_X10_nextByKey_12 (l : Launch) (Z : XZ) (L : Nat → Nat) (n : Nat) : Prop := ∀ (d : Nat) (S : GS) (a0 : Nat) (a1 : Int) (a2 : Int) (a3 : Int) (a4 : Int) (a5 : Int) (x : Int) (S1 : GS), f_X10_nextByKey n d 12 S [((a0 : Nat) : Int), a1, a2, a3, a4, a5] = some (x, S1) → GA l Z L yX10_nextByKey cX10_nextByKey 7 (some .int) [] d 0 0 (fun v S' => v = some (.int (J x)) ∧ S1 = S') (fun _ _ => False) 12 (gl [(0, .ref (L a0)), (1, .int (J a1)), (2, .int (J a2)), (3, .int (J a3)), (4, .int (J a4)), (5, .int (J a5))]) [] S 0 0
def P_X10_nextByKey_46 (l : Launch) (Z : XZ) (L : Nat → Nat) (n : Nat) : Prop := ∀ (d : Nat) (S : GS) (a0 : Nat) (a1 : Int) (a2 : Int) (a3 : Int) (a4 : Int) (a5 : Int) (s0 : Int) (x : Int) (S1 : GS), f_X10_nextByKey n d 46 S [((a0 : Nat) : Int), a1, a2, a3, a4, a5, s0] = some (x, S1) → GA l Z L yX10_nextByKey cX10_nextByKey 7 (some .int) [] d 0 0 (fun v S' => v = some (.int (J x)) ∧ S1 = S') (fun _ _ => False) 46 (gl [(0, .ref (L a0)), (1, .int (J a1)), (2, .int (J a2)), (3, .int (J a3)), (4, .int (J a4)), (5, .int (J a5))]) [.int (J s0)] S 0 0
def P_X10_nextByKey_69 (l : Launch) (Z : XZ) (L : Nat → Nat) (n : Nat) : Prop := ∀ (d : Nat) (S : GS) (a0 : Nat) (a1 : Int) (a2 : Int) (a4 : Int) (a5 : Int) (x : Int) (S1 : GS), f_X10_nextByKey n d 69 S [((a0 : Nat) : Int), a1, a2, a4, a5] = some (x, S1) → GA l Z L yX10_nextByKey cX10_nextByKey 7 (some .int) [] d 0 0 (fun v S' => v = some (.int (J x)) ∧ S1 = S') (fun _ _ => False) 69 (gl [(0, .ref (L a0)), (1, .int (J a1)), (2, .int (J a2)), (4, .int (J a4)), (5, .int (J a5))]) [] S 0 0
theorem i_X10_nextByKey {l : Launch} {Z : XZ} {L : Nat → Nat} {n : Nat} (ih : P_X10_nextByKey_0 l Z L n) {d : Nat} {S : GS} {a0 : Nat} {a1 : Int} {a2 : Int} {x : Int} {S1 : GS} (H : f_X10_nextByKey n d 0 S [((a0 : Nat) : Int), a1, a2] = some (x, S1)) : GM l Z L yX10_nextByKey cX10_nextByKey 7 (some .int) [] d 0 0 [.ref (L a0), .int (J a1), .int (J a2)] S (fun v S' => v = some (.int (J x)) ∧ S1 = S') (fun _ _ => False) := GM.of (by decide) (Nat.le_of_ble_eq_true rfl) (ih _ _ _ _ _ _ _ H)
set_option maxHeartbeats 4000000 in
set_option maxRecDepth 20000 in
theorem t_X10_nextByKey_0 {l : Launch} {Z : XZ} {L : Nat → Nat} (n : Nat) (ih_X10_nextByKey_0 : P_X10_nextByKey_0 l Z L n) (ih_X10_nextByKey_12 : P_X10_nextByKey_12 l Z L n) (ih_X10_nextByKey_46 : P_X10_nextByKey_46 l Z L n) (ih_X10_nextByKey_69 : P_X10_nextByKey_69 l Z L n) : P_X10_nextByKey_0 l Z L (n + 1) := by
  intro d S a0 a1 a2 x S1 H
  have H : b_X10_nextByKey_0 n d (f_X10_nextByKey n) S a0 a1 a2 = some (x, S1) := H
  unfold b_X10_nextByKey_0 at H
  refine GA.iconst dX10_nextByKey_0 ?_
  refine GA.istore_n dX10_nextByKey_1 (by decide) ?_
  refine GA.aload_n dX10_nextByKey_2 rfl ?_
  refine GA.iload_n dX10_nextByKey_3 rfl ?_
  obtain ⟨hg1, H⟩ := gg_e H
  obtain ⟨hg2, H⟩ := gg_e H
  obtain ⟨x3, S_4, hc5, H⟩ := gc_e H
  refine GA.callV (m_X10_firstOfMap hc5) xs_X10_114 dX10_nextByKey_4 (gsT hg2) (by omega) rfl rfl (by omega) (by decide) rfl (Nat.le_of_ble_eq_true rfl) (by omega) (by omega) rfl (fun E S9 hx => hx.elim) (fun v S9 hq => ?_)
  obtain ⟨rfl, rfl⟩ := hq
  refine GA.istore dX10_nextByKey_7 (by decide) ?_
  refine GA.iconst dX10_nextByKey_9 ?_
  refine GA.istore dX10_nextByKey_10 (by decide) ?_
  refine GA.locals [(0, .ref (L a0)), (1, .int (J a1)), (2, .int (J a2)), (3, .int (J (-1))), (4, .int (J x3)), (5, .int (J 0))] ⟨rfl, rfl, rfl, rfl, rfl, rfl, trivial⟩ ?_
  exact ih_X10_nextByKey_12 _ _ (a0) (a1) (a2) ((-1)) (x3) (0) _ _ H
set_option maxHeartbeats 4000000 in
set_option maxRecDepth 20000 in
theorem t_X10_nextByKey_12 {l : Launch} {Z : XZ} {L : Nat → Nat} (n : Nat) (ih_X10_nextByKey_0 : P_X10_nextByKey_0 l Z L n) (ih_X10_nextByKey_12 : P_X10_nextByKey_12 l Z L n) (ih_X10_nextByKey_46 : P_X10_nextByKey_46 l Z L n) (ih_X10_nextByKey_69 : P_X10_nextByKey_69 l Z L n) : P_X10_nextByKey_12 l Z L (n + 1) := by
  intro d S a0 a1 a2 a3 a4 a5 x S1 H
  have H : b_X10_nextByKey_12 n d (f_X10_nextByKey n) S a0 a1 a2 a3 a4 a5 = some (x, S1) := H
  unfold b_X10_nextByKey_12 at H
  refine GA.iload dX10_nextByKey_12 rfl ?_
  refine GA.iconst dX10_nextByKey_14 ?_
  obtain ⟨hg1, H⟩ := gg_e H
  refine GV.icmp_eq (tgt := 87) hg1 (by decide) dX10_nextByKey_15 (by decide) (fun c2 => ?_) (fun c2 => ?_)
  · have H := it_t H c2
    refine GA.iload_n dX10_nextByKey_87 rfl ?_
    cases H
    exact GA.iret rfl dX10_nextByKey_88 (by omega) (by omega) ⟨rfl, rfl⟩
  · have H := it_f H c2
    refine GA.iload dX10_nextByKey_18 rfl ?_
    refine GA.bipush dX10_nextByKey_20 rfl ?_
    obtain ⟨hg3, H⟩ := gg_e H
    refine GV.icmp_ge (tgt := 87) hg3 (by decide) dX10_nextByKey_22 (by decide) (fun c4 => ?_) (fun c4 => ?_)
    · have H := it_t H c4
      refine GA.iload_n dX10_nextByKey_87 rfl ?_
      cases H
      exact GA.iret rfl dX10_nextByKey_88 (by omega) (by omega) ⟨rfl, rfl⟩
    · have H := it_f H c4
      refine GA.iload_n dX10_nextByKey_25 rfl ?_
      refine GA.iconst dX10_nextByKey_26 ?_
      obtain ⟨hg5, H⟩ := gg_e H
      refine GV.icmp_eq (tgt := 41) hg5 (by decide) dX10_nextByKey_27 (by decide) (fun c6 => ?_) (fun c6 => ?_)
      · have H := it_t H c6
        refine GA.iconst dX10_nextByKey_41 ?_
        refine GA.goto (tgt := 46) dX10_nextByKey_42 (by decide) ?_
        refine GA.locals [(0, .ref (L a0)), (1, .int (J a1)), (2, .int (J a2)), (3, .int (J a3)), (4, .int (J a4)), (5, .int (J a5))] ⟨rfl, rfl, rfl, rfl, rfl, rfl, trivial⟩ ?_
        exact ih_X10_nextByKey_46 _ _ (a0) (a1) (a2) (a3) (a4) (a5) (1) _ _ H
      · have H := it_f H c6
        refine GA.aload_n dX10_nextByKey_30 rfl ?_
        refine GA.iload dX10_nextByKey_31 rfl ?_
        refine GA.aload_n dX10_nextByKey_33 rfl ?_
        refine GA.iload_n dX10_nextByKey_34 rfl ?_
        obtain ⟨hg7, H⟩ := gg_e H
        obtain ⟨hg8, H⟩ := gg_e H
        obtain ⟨x9, S_10, hc11, H⟩ := gc_e H
        refine GA.callV (m_X10_orderOfKeys hc11) xs_X10_165 dX10_nextByKey_35 (gsT hg8) (by omega) rfl rfl (by omega) (by decide) rfl (Nat.le_of_ble_eq_true rfl) (by omega) (by omega) rfl (fun E S9 hx => hx.elim) (fun v S9 hq => ?_)
        obtain ⟨rfl, rfl⟩ := hq
        obtain ⟨hg12, H⟩ := gg_e H
        refine GV.if_le (tgt := 45) hg12 dX10_nextByKey_38 (by decide) (fun c13 => ?_) (fun c13 => ?_)
        · have H := it_t H c13
          refine GA.iconst dX10_nextByKey_45 ?_
          refine GA.locals [(0, .ref (L a0)), (1, .int (J a1)), (2, .int (J a2)), (3, .int (J a3)), (4, .int (J a4)), (5, .int (J a5))] ⟨rfl, rfl, rfl, rfl, rfl, rfl, trivial⟩ ?_
          exact ih_X10_nextByKey_46 _ _ (a0) (a1) (a2) (a3) (a4) (a5) (0) _ _ H
        · have H := it_f H c13
          refine GA.iconst dX10_nextByKey_41 ?_
          refine GA.goto (tgt := 46) dX10_nextByKey_42 (by decide) ?_
          refine GA.locals [(0, .ref (L a0)), (1, .int (J a1)), (2, .int (J a2)), (3, .int (J a3)), (4, .int (J a4)), (5, .int (J a5))] ⟨rfl, rfl, rfl, rfl, rfl, rfl, trivial⟩ ?_
          exact ih_X10_nextByKey_46 _ _ (a0) (a1) (a2) (a3) (a4) (a5) (1) _ _ H
set_option maxHeartbeats 4000000 in
set_option maxRecDepth 20000 in
theorem t_X10_nextByKey_46 {l : Launch} {Z : XZ} {L : Nat → Nat} (n : Nat) (ih_X10_nextByKey_0 : P_X10_nextByKey_0 l Z L n) (ih_X10_nextByKey_12 : P_X10_nextByKey_12 l Z L n) (ih_X10_nextByKey_46 : P_X10_nextByKey_46 l Z L n) (ih_X10_nextByKey_69 : P_X10_nextByKey_69 l Z L n) : P_X10_nextByKey_46 l Z L (n + 1) := by
  intro d S a0 a1 a2 a3 a4 a5 s0 x S1 H
  have H : b_X10_nextByKey_46 n d (f_X10_nextByKey n) S a0 a1 a2 a3 a4 a5 s0 = some (x, S1) := H
  unfold b_X10_nextByKey_46 at H
  refine GA.istore dX10_nextByKey_46 (by decide) ?_
  refine GA.iload dX10_nextByKey_48 rfl ?_
  obtain ⟨hg1, H⟩ := gg_e H
  refine GV.if_eq (tgt := 72) hg1 dX10_nextByKey_50 (by decide) (fun c2 => ?_) (fun c2 => ?_)
  · have H := it_t H c2
    refine GA.aload_n dX10_nextByKey_72 rfl ?_
    refine GA.iload_n dX10_nextByKey_73 rfl ?_
    refine GA.iload dX10_nextByKey_74 rfl ?_
    obtain ⟨hg3, H⟩ := gg_e H
    obtain ⟨hg4, H⟩ := gg_e H
    obtain ⟨x5, S_6, hc7, H⟩ := gc_e H
    refine GA.callV (m_X10_next hc7) xs_X10_56 dX10_nextByKey_76 (gsT hg4) (by omega) rfl rfl (by omega) (by decide) rfl (Nat.le_of_ble_eq_true rfl) (by omega) (by omega) rfl (fun E S9 hx => hx.elim) (fun v S9 hq => ?_)
    obtain ⟨rfl, rfl⟩ := hq
    refine GA.istore dX10_nextByKey_79 (by decide) ?_
    obtain ⟨x8, hx9, H⟩ := gv_e H
    refine GV.iinc hx9 dX10_nextByKey_81 rfl (by decide) ?_
    refine GA.goto (tgt := 12) dX10_nextByKey_84 (by decide) ?_
    refine GA.locals [(0, .ref (L a0)), (1, .int (J a1)), (2, .int (J a2)), (3, .int (J a3)), (4, .int (J x5)), (5, .int (J x8))] ⟨rfl, rfl, rfl, rfl, rfl, rfl, trivial⟩ ?_
    exact ih_X10_nextByKey_12 _ _ (a0) (a1) (a2) (a3) (x5) (x8) _ _ H
  · have H := it_f H c2
    refine GA.iload_n dX10_nextByKey_53 rfl ?_
    refine GA.iconst dX10_nextByKey_54 ?_
    obtain ⟨hg10, H⟩ := gg_e H
    refine GV.icmp_eq (tgt := 69) hg10 (by decide) dX10_nextByKey_55 (by decide) (fun c11 => ?_) (fun c11 => ?_)
    · have H := it_t H c11
      refine GA.locals [(0, .ref (L a0)), (1, .int (J a1)), (2, .int (J a2)), (4, .int (J a4)), (5, .int (J a5))] ⟨rfl, rfl, rfl, rfl, rfl, trivial⟩ ?_
      exact ih_X10_nextByKey_69 _ _ (a0) (a1) (a2) (a4) (a5) _ _ H
    · have H := it_f H c11
      refine GA.aload_n dX10_nextByKey_58 rfl ?_
      refine GA.iload dX10_nextByKey_59 rfl ?_
      refine GA.aload_n dX10_nextByKey_61 rfl ?_
      refine GA.iload_n dX10_nextByKey_62 rfl ?_
      obtain ⟨hg12, H⟩ := gg_e H
      obtain ⟨hg13, H⟩ := gg_e H
      obtain ⟨x14, S_15, hc16, H⟩ := gc_e H
      refine GA.callV (m_X10_orderOfKeys hc16) xs_X10_165 dX10_nextByKey_63 (gsT hg13) (by omega) rfl rfl (by omega) (by decide) rfl (Nat.le_of_ble_eq_true rfl) (by omega) (by omega) rfl (fun E S9 hx => hx.elim) (fun v S9 hq => ?_)
      obtain ⟨rfl, rfl⟩ := hq
      obtain ⟨hg17, H⟩ := gg_e H
      refine GV.if_ge (tgt := 72) hg17 dX10_nextByKey_66 (by decide) (fun c18 => ?_) (fun c18 => ?_)
      · have H := it_t H c18
        refine GA.aload_n dX10_nextByKey_72 rfl ?_
        refine GA.iload_n dX10_nextByKey_73 rfl ?_
        refine GA.iload dX10_nextByKey_74 rfl ?_
        obtain ⟨x19, S_20, hc21, H⟩ := gc_e H
        refine GA.callV (m_X10_next hc21) xs_X10_56 dX10_nextByKey_76 (gsT hg13) (by omega) rfl rfl (by omega) (by decide) rfl (Nat.le_of_ble_eq_true rfl) (by omega) (by omega) rfl (fun E S9 hx => hx.elim) (fun v S9 hq => ?_)
        obtain ⟨rfl, rfl⟩ := hq
        refine GA.istore dX10_nextByKey_79 (by decide) ?_
        obtain ⟨x22, hx23, H⟩ := gv_e H
        refine GV.iinc hx23 dX10_nextByKey_81 rfl (by decide) ?_
        refine GA.goto (tgt := 12) dX10_nextByKey_84 (by decide) ?_
        refine GA.locals [(0, .ref (L a0)), (1, .int (J a1)), (2, .int (J a2)), (3, .int (J a3)), (4, .int (J x19)), (5, .int (J x22))] ⟨rfl, rfl, rfl, rfl, rfl, rfl, trivial⟩ ?_
        exact ih_X10_nextByKey_12 _ _ (a0) (a1) (a2) (a3) (x19) (x22) _ _ H
      · have H := it_f H c18
        refine GA.locals [(0, .ref (L a0)), (1, .int (J a1)), (2, .int (J a2)), (4, .int (J a4)), (5, .int (J a5))] ⟨rfl, rfl, rfl, rfl, rfl, trivial⟩ ?_
        exact ih_X10_nextByKey_69 _ _ (a0) (a1) (a2) (a4) (a5) _ _ H
set_option maxHeartbeats 4000000 in
set_option maxRecDepth 20000 in
theorem t_X10_nextByKey_69 {l : Launch} {Z : XZ} {L : Nat → Nat} (n : Nat) (ih_X10_nextByKey_0 : P_X10_nextByKey_0 l Z L n) (ih_X10_nextByKey_12 : P_X10_nextByKey_12 l Z L n) (ih_X10_nextByKey_46 : P_X10_nextByKey_46 l Z L n) (ih_X10_nextByKey_69 : P_X10_nextByKey_69 l Z L n) : P_X10_nextByKey_69 l Z L (n + 1) := by
  intro d S a0 a1 a2 a4 a5 x S1 H
  have H : b_X10_nextByKey_69 n d (f_X10_nextByKey n) S a0 a1 a2 a4 a5 = some (x, S1) := H
  unfold b_X10_nextByKey_69 at H
  refine GA.iload dX10_nextByKey_69 rfl ?_
  refine GA.istore_n dX10_nextByKey_71 (by decide) ?_
  refine GA.aload_n dX10_nextByKey_72 rfl ?_
  refine GA.iload_n dX10_nextByKey_73 rfl ?_
  refine GA.iload dX10_nextByKey_74 rfl ?_
  obtain ⟨hg1, H⟩ := gg_e H
  obtain ⟨hg2, H⟩ := gg_e H
  obtain ⟨x3, S_4, hc5, H⟩ := gc_e H
  refine GA.callV (m_X10_next hc5) xs_X10_56 dX10_nextByKey_76 (gsT hg2) (by omega) rfl rfl (by omega) (by decide) rfl (Nat.le_of_ble_eq_true rfl) (by omega) (by omega) rfl (fun E S9 hx => hx.elim) (fun v S9 hq => ?_)
  obtain ⟨rfl, rfl⟩ := hq
  refine GA.istore dX10_nextByKey_79 (by decide) ?_
  obtain ⟨x6, hx7, H⟩ := gv_e H
  refine GV.iinc hx7 dX10_nextByKey_81 rfl (by decide) ?_
  refine GA.goto (tgt := 12) dX10_nextByKey_84 (by decide) ?_
  refine GA.locals [(0, .ref (L a0)), (1, .int (J a1)), (2, .int (J a2)), (3, .int (J a4)), (4, .int (J x3)), (5, .int (J x6))] ⟨rfl, rfl, rfl, rfl, rfl, rfl, trivial⟩ ?_
  exact ih_X10_nextByKey_12 _ _ (a0) (a1) (a2) (a4) (x3) (x6) _ _ H
theorem g_X10_nextByKey {l : Launch} {Z : XZ} {L : Nat → Nat} : ∀ n, P_X10_nextByKey_0 l Z L n ∧ P_X10_nextByKey_12 l Z L n ∧ P_X10_nextByKey_46 l Z L n ∧ P_X10_nextByKey_69 l Z L n
  | 0 => ⟨fun _ _ _ _ _ _ _ H => no_e H, fun _ _ _ _ _ _ _ _ _ _ H => no_e H, fun _ _ _ _ _ _ _ _ _ _ _ H => no_e H, fun _ _ _ _ _ _ _ _ _ H => no_e H⟩
  | n + 1 => have ⟨h0, h1, h2, h3⟩ := g_X10_nextByKey (l := l) (Z := Z) (L := L) n
    ⟨t_X10_nextByKey_0 n h0 h1 h2 h3, t_X10_nextByKey_12 n h0 h1 h2 h3, t_X10_nextByKey_46 n h0 h1 h2 h3, t_X10_nextByKey_69 n h0 h1 h2 h3⟩
theorem m_X10_nextByKey {l : Launch} {Z : XZ} {L : Nat → Nat} {n d : Nat} {S : GS} {a0 : Nat} {a1 : Int} {a2 : Int} {x : Int} {S1 : GS} (H : f_X10_nextByKey n d 0 S [((a0 : Nat) : Int), a1, a2] = some (x, S1)) : GM l Z L yX10_nextByKey cX10_nextByKey 7 (some .int) [] d 0 0 [.ref (L a0), .int (J a1), .int (J a2)] S (fun v S' => v = some (.int (J x)) ∧ S1 = S') (fun _ _ => False) := GM.of (by decide) (Nat.le_of_ble_eq_true rfl) ((g_X10_nextByKey n).1 _ _ _ _ _ _ _ H)

def P_X10_close_0 (l : Launch) (Z : XZ) (L : Nat → Nat) (n : Nat) : Prop := ∀ (d : Nat) (S : GS) (a0 : Nat) (a1 : Int) (x : Int) (S1 : GS), f_X10_close n d 0 S [((a0 : Nat) : Int), a1] = some (x, S1) → GA l Z L yX10_close cX10_close 2 none [] d 0 0 (fun v S' => v = none ∧ S1 = S') (fun _ _ => False) 0 (gl [(0, .ref (L a0)), (1, .int (J a1))]) [] S 0 0
theorem i_X10_close {l : Launch} {Z : XZ} {L : Nat → Nat} {n : Nat} (ih : P_X10_close_0 l Z L n) {d : Nat} {S : GS} {a0 : Nat} {a1 : Int} {x : Int} {S1 : GS} (H : f_X10_close n d 0 S [((a0 : Nat) : Int), a1] = some (x, S1)) : GM l Z L yX10_close cX10_close 2 none [] d 0 0 [.ref (L a0), .int (J a1)] S (fun v S' => v = none ∧ S1 = S') (fun _ _ => False) := GM.of (by decide) (Nat.le_of_ble_eq_true rfl) (ih _ _ _ _ _ _ H)
set_option maxHeartbeats 4000000 in
set_option maxRecDepth 20000 in
theorem t_X10_close_0 {l : Launch} {Z : XZ} {L : Nat → Nat} (n : Nat) (ih_X10_close_0 : P_X10_close_0 l Z L n) : P_X10_close_0 l Z L (n + 1) := by
  intro d S a0 a1 x S1 H
  have H : b_X10_close_0 n d (f_X10_close n) S a0 a1 = some (x, S1) := H
  unfold b_X10_close_0 at H
  refine GA.aload_n dX10_close_0 rfl ?_
  refine GA.iload_n dX10_close_1 rfl ?_
  obtain ⟨hg1, H⟩ := gg_e H
  obtain ⟨hg2, H⟩ := gg_e H
  obtain ⟨x3, S_4, hc5, H⟩ := gc_e H
  refine GA.callV (m_X10_has hc5) xs_X10_105 dX10_close_2 (gsT hg2) (by omega) rfl rfl (by omega) (by decide) rfl (Nat.le_of_ble_eq_true rfl) (by omega) (by omega) rfl (fun E S9 hx => hx.elim) (fun v S9 hq => ?_)
  obtain ⟨rfl, rfl⟩ := hq
  obtain ⟨hg6, H⟩ := gg_e H
  refine GV.if_eq (tgt := 20) hg6 dX10_close_5 (by decide) (fun c7 => ?_) (fun c7 => ?_)
  · have H := it_t H c7
    cases H
    exact GA.vret rfl dX10_close_20 (by omega) (by omega) ⟨rfl, rfl⟩
  · have H := it_f H c7
    refine GA.aload_n dX10_close_8 rfl ?_
    refine GA.get xf_X10_15 dX10_close_9 (gsT hg2) (by omega) rfl ?_
    refine GA.iload_n dX10_close_12 rfl ?_
    refine GA.aload_n dX10_close_13 rfl ?_
    obtain ⟨x8, hx9, H⟩ := gv_e H
    refine GV.getI hx9 xf_X10_34 dX10_close_14 (gsT hg2) (by omega) rfl ?_
    refine GA.iload_n dX10_close_17 rfl ?_
    obtain ⟨x10, hx11, H⟩ := gv_e H
    refine GV.isub hx11 dX10_close_18 ?_
    obtain ⟨hg12, H⟩ := gg_e H
    obtain ⟨S_13, hx14, H⟩ := gv_e H
    refine GV.iast hg12 hx14 dX10_close_19 (fun _ => (gsT2 hg2)) (by omega) ?_
    cases H
    exact GA.vret rfl dX10_close_20 (by omega) (by omega) ⟨rfl, rfl⟩
theorem g_X10_close {l : Launch} {Z : XZ} {L : Nat → Nat} : ∀ n, P_X10_close_0 l Z L n
  | 0 => fun _ _ _ _ _ _ H => no_e H
  | n + 1 => t_X10_close_0 n (g_X10_close n)
theorem m_X10_close {l : Launch} {Z : XZ} {L : Nat → Nat} {n d : Nat} {S : GS} {a0 : Nat} {a1 : Int} {x : Int} {S1 : GS} (H : f_X10_close n d 0 S [((a0 : Nat) : Int), a1] = some (x, S1)) : GM l Z L yX10_close cX10_close 2 none [] d 0 0 [.ref (L a0), .int (J a1)] S (fun v S' => v = none ∧ S1 = S') (fun _ _ => False) := GM.of (by decide) (Nat.le_of_ble_eq_true rfl) ((g_X10_close n) _ _ _ _ _ _ H)

def P_X10_appendInOrder_0 (l : Launch) (Z : XZ) (L : Nat → Nat) (n : Nat) : Prop := ∀ (d : Nat) (S : GS) (a0 : Nat) (a1 : Nat) (a2 : Int) (a3 : Int) (x : Int) (S1 : GS), f_X10_appendInOrder n d 0 S [((a0 : Nat) : Int), ((a1 : Nat) : Int), a2, a3] = some (x, S1) → GA l Z L yX10_appendInOrder cX10_appendInOrder 8 none [] d 0 0 (fun v S' => v = none ∧ S1 = S') (fun _ _ => False) 0 (gl [(0, .ref (L a0)), (1, .ref (L a1)), (2, .int (J a2)), (3, .int (J a3))]) [] S 0 0
def P_X10_appendInOrder_86 (l : Launch) (Z : XZ) (L : Nat → Nat) (n : Nat) : Prop := ∀ (d : Nat) (S : GS) (a0 : Nat) (a1 : Nat) (a2 : Int) (a3 : Int) (a4 : Int) (a5 : Int) (a6 : Int) (a7 : Int) (x : Int) (S1 : GS), f_X10_appendInOrder n d 86 S [((a0 : Nat) : Int), ((a1 : Nat) : Int), a2, a3, a4, a5, a6, a7] = some (x, S1) → GA l Z L yX10_appendInOrder cX10_appendInOrder 8 none [] d 0 0 (fun v S' => v = none ∧ S1 = S') (fun _ _ => False) 86 (gl [(0, .ref (L a0)), (1, .ref (L a1)), (2, .int (J a2)), (3, .int (J a3)), (4, .int (J a4)), (5, .int (J a5)), (6, .int (J a6)), (7, .int (J a7))]) [] S 0 0
theorem i_X10_appendInOrder {l : Launch} {Z : XZ} {L : Nat → Nat} {n : Nat} (ih : P_X10_appendInOrder_0 l Z L n) {d : Nat} {S : GS} {a0 : Nat} {a1 : Nat} {a2 : Int} {a3 : Int} {x : Int} {S1 : GS} (H : f_X10_appendInOrder n d 0 S [((a0 : Nat) : Int), ((a1 : Nat) : Int), a2, a3] = some (x, S1)) : GM l Z L yX10_appendInOrder cX10_appendInOrder 8 none [] d 0 0 [.ref (L a0), .ref (L a1), .int (J a2), .int (J a3)] S (fun v S' => v = none ∧ S1 = S') (fun _ _ => False) := GM.of (by decide) (Nat.le_of_ble_eq_true rfl) (ih _ _ _ _ _ _ _ _ H)
set_option maxHeartbeats 4000000 in
set_option maxRecDepth 20000 in
theorem t_X10_appendInOrder_0 {l : Launch} {Z : XZ} {L : Nat → Nat} (n : Nat) (ih_X10_appendInOrder_0 : P_X10_appendInOrder_0 l Z L n) (ih_X10_appendInOrder_86 : P_X10_appendInOrder_86 l Z L n) : P_X10_appendInOrder_0 l Z L (n + 1) := by
  intro d S a0 a1 a2 a3 x S1 H
  have H : b_X10_appendInOrder_0 n d (f_X10_appendInOrder n) S a0 a1 a2 a3 = some (x, S1) := H
  unfold b_X10_appendInOrder_0 at H
  refine GA.aload_n dX10_appendInOrder_0 rfl ?_
  refine GA.iload_n dX10_appendInOrder_1 rfl ?_
  obtain ⟨hg1, H⟩ := gg_e H
  obtain ⟨hg2, H⟩ := gg_e H
  obtain ⟨x3, S_4, hc5, H⟩ := gc_e H
  refine GA.callV (m_X10_has hc5) xs_X10_105 dX10_appendInOrder_2 (gsT hg2) (by omega) rfl rfl (by omega) (by decide) rfl (Nat.le_of_ble_eq_true rfl) (by omega) (by omega) rfl (fun E S9 hx => hx.elim) (fun v S9 hq => ?_)
  obtain ⟨rfl, rfl⟩ := hq
  obtain ⟨hg6, H⟩ := gg_e H
  refine GV.if_eq (tgt := 23) hg6 dX10_appendInOrder_5 (by decide) (fun c7 => ?_) (fun c7 => ?_)
  · have H := it_t H c7
    refine GA.aload_n dX10_appendInOrder_23 rfl ?_
    refine GA.iconst dX10_appendInOrder_24 ?_
    obtain ⟨hg8, H⟩ := gg_e H
    obtain ⟨S_9, hx10, H⟩ := gv_e H
    refine GV.putB (by decide) hx10 (xp_X10_38 (xb_01 _)) dX10_appendInOrder_25 (gsT hg8) (by omega) (Nat.le_of_ble_eq_true rfl) (gsT hg8) ?_
    cases H
    exact GA.vret rfl dX10_appendInOrder_28 (by omega) (by omega) ⟨rfl, rfl⟩
  · have H := it_f H c7
    refine GA.aload_n dX10_appendInOrder_8 rfl ?_
    obtain ⟨hg11, H⟩ := gg_e H
    obtain ⟨x12, hx13, H⟩ := gv_e H
    refine GV.getI hx13 xf_X10_34 dX10_appendInOrder_9 (gsT hg11) (by omega) rfl ?_
    refine GA.bipush dX10_appendInOrder_12 rfl ?_
    obtain ⟨hg14, H⟩ := gg_e H
    refine GV.icmp_ge (tgt := 23) hg14 (by decide) dX10_appendInOrder_14 (by decide) (fun c15 => ?_) (fun c15 => ?_)
    · have H := it_t H c15
      refine GA.aload_n dX10_appendInOrder_23 rfl ?_
      refine GA.iconst dX10_appendInOrder_24 ?_
      obtain ⟨S_16, hx17, H⟩ := gv_e H
      refine GV.putB (by decide) hx17 (xp_X10_38 (xb_01 _)) dX10_appendInOrder_25 (gsT hg11) (by omega) (Nat.le_of_ble_eq_true rfl) (gsT hg11) ?_
      cases H
      exact GA.vret rfl dX10_appendInOrder_28 (by omega) (by omega) ⟨rfl, rfl⟩
    · have H := it_f H c15
      refine GA.iload_n dX10_appendInOrder_17 rfl ?_
      refine GA.bipush dX10_appendInOrder_18 rfl ?_
      obtain ⟨hg18, H⟩ := gg_e H
      refine GV.icmp_le (tgt := 29) hg18 (by decide) dX10_appendInOrder_20 (by decide) (fun c19 => ?_) (fun c19 => ?_)
      · have H := it_t H c19
        refine GA.aload_n dX10_appendInOrder_29 rfl ?_
        obtain ⟨x20, hx21, H⟩ := gv_e H
        refine GV.getI hx21 xf_X10_34 dX10_appendInOrder_30 (gsT hg11) (by omega) rfl ?_
        refine GA.istore dX10_appendInOrder_33 (by decide) ?_
        refine GA.aload_n dX10_appendInOrder_35 rfl ?_
        refine GA.iload dX10_appendInOrder_36 rfl ?_
        refine GA.aload_n dX10_appendInOrder_38 rfl ?_
        refine GA.iload_n dX10_appendInOrder_39 rfl ?_
        refine GA.iconst dX10_appendInOrder_40 ?_
        obtain ⟨x22, S_23, hc24, H⟩ := gc_e H
        refine GA.callV (m_X10_copyNodes hc24) xs_X10_200 dX10_appendInOrder_41 (gsT hg11) (by omega) rfl rfl (by omega) (by decide) rfl (Nat.le_of_ble_eq_true rfl) (by omega) (by omega) rfl (fun E S9 hx => hx.elim) (fun v S9 hq => ?_)
        obtain ⟨rfl, rfl⟩ := hq
        refine GA.aload_n dX10_appendInOrder_44 rfl ?_
        refine GA.dup dX10_appendInOrder_45 rfl ?_
        obtain ⟨x25, hx26, H⟩ := gv_e H
        refine GV.getI hx26 xf_X10_34 dX10_appendInOrder_46 (gsT hg11) (by omega) rfl ?_
        refine GA.iconst dX10_appendInOrder_49 ?_
        obtain ⟨x27, hx28, H⟩ := gv_e H
        refine GV.iadd hx28 dX10_appendInOrder_50 ?_
        obtain ⟨S_29, hx30, H⟩ := gv_e H
        refine GV.putI hx30 (xp_X10_34 _) dX10_appendInOrder_51 (gsT hg11) (by omega) (Nat.le_of_ble_eq_true rfl) (gsT hg11) ?_
        refine GA.aload_n dX10_appendInOrder_54 rfl ?_
        refine GA.iload_n dX10_appendInOrder_55 rfl ?_
        refine GA.iconst dX10_appendInOrder_56 ?_
        obtain ⟨x31, S_32, hc33, H⟩ := gc_e H
        refine GA.callV (m_X10_is hc33) xs_X10_42 dX10_appendInOrder_57 (gsT hg2) (by omega) rfl rfl (by omega) (by decide) rfl (Nat.le_of_ble_eq_true rfl) (by omega) (by omega) rfl (fun E S9 hx => hx.elim) (fun v S9 hq => ?_)
        obtain ⟨rfl, rfl⟩ := hq
        refine GA.istore dX10_appendInOrder_60 (by decide) ?_
        refine GA.iload dX10_appendInOrder_62 rfl ?_
        obtain ⟨hg34, H⟩ := gg_e H
        refine GV.if_eq (tgt := 75) hg34 dX10_appendInOrder_64 (by decide) (fun c35 => ?_) (fun c35 => ?_)
        · have H := it_t H c35
          refine GA.aload_n dX10_appendInOrder_75 rfl ?_
          refine GA.iload_n dX10_appendInOrder_76 rfl ?_
          refine GA.iconst dX10_appendInOrder_77 ?_
          obtain ⟨x36, S_37, hc38, H⟩ := gc_e H
          refine GA.callV (m_X10_nextByKey hc38) xs_X10_211 dX10_appendInOrder_78 (gsT hg2) (by omega) rfl rfl (by omega) (by decide) rfl (Nat.le_of_ble_eq_true rfl) (by omega) (by omega) rfl (fun E S9 hx => hx.elim) (fun v S9 hq => ?_)
          obtain ⟨rfl, rfl⟩ := hq
          refine GA.istore dX10_appendInOrder_81 (by decide) ?_
          refine GA.iconst dX10_appendInOrder_83 ?_
          refine GA.istore dX10_appendInOrder_84 (by decide) ?_
          refine GA.locals [(0, .ref (L a0)), (1, .ref (L a1)), (2, .int (J a2)), (3, .int (J a3)), (4, .int (J x20)), (5, .int (J x31)), (6, .int (J x36)), (7, .int (J 0))] ⟨rfl, rfl, rfl, rfl, rfl, rfl, rfl, rfl, trivial⟩ ?_
          exact ih_X10_appendInOrder_86 _ _ (a0) (a1) (a2) (a3) (x20) (x31) (x36) (0) _ _ H
        · have H := it_f H c35
          refine GA.aload_n dX10_appendInOrder_67 rfl ?_
          refine GA.iload_n dX10_appendInOrder_68 rfl ?_
          obtain ⟨x39, S_40, hc41, H⟩ := gc_e H
          refine GA.callV (m_X10_first hc41) xs_X10_52 dX10_appendInOrder_69 (gsT hg2) (by omega) rfl rfl (by omega) (by decide) rfl (Nat.le_of_ble_eq_true rfl) (by omega) (by omega) rfl (fun E S9 hx => hx.elim) (fun v S9 hq => ?_)
          obtain ⟨rfl, rfl⟩ := hq
          refine GA.goto (tgt := 81) dX10_appendInOrder_72 (by decide) ?_
          refine GA.istore dX10_appendInOrder_81 (by decide) ?_
          refine GA.iconst dX10_appendInOrder_83 ?_
          refine GA.istore dX10_appendInOrder_84 (by decide) ?_
          refine GA.locals [(0, .ref (L a0)), (1, .ref (L a1)), (2, .int (J a2)), (3, .int (J a3)), (4, .int (J x20)), (5, .int (J x31)), (6, .int (J x39)), (7, .int (J 0))] ⟨rfl, rfl, rfl, rfl, rfl, rfl, rfl, rfl, trivial⟩ ?_
          exact ih_X10_appendInOrder_86 _ _ (a0) (a1) (a2) (a3) (x20) (x31) (x39) (0) _ _ H
      · have H := it_f H c19
        refine GA.aload_n dX10_appendInOrder_23 rfl ?_
        refine GA.iconst dX10_appendInOrder_24 ?_
        obtain ⟨S_42, hx43, H⟩ := gv_e H
        refine GV.putB (by decide) hx43 (xp_X10_38 (xb_01 _)) dX10_appendInOrder_25 (gsT hg11) (by omega) (Nat.le_of_ble_eq_true rfl) (gsT hg11) ?_
        cases H
        exact GA.vret rfl dX10_appendInOrder_28 (by omega) (by omega) ⟨rfl, rfl⟩
set_option maxHeartbeats 4000000 in
set_option maxRecDepth 20000 in
theorem t_X10_appendInOrder_86 {l : Launch} {Z : XZ} {L : Nat → Nat} (n : Nat) (ih_X10_appendInOrder_0 : P_X10_appendInOrder_0 l Z L n) (ih_X10_appendInOrder_86 : P_X10_appendInOrder_86 l Z L n) : P_X10_appendInOrder_86 l Z L (n + 1) := by
  intro d S a0 a1 a2 a3 a4 a5 a6 a7 x S1 H
  have H : b_X10_appendInOrder_86 n d (f_X10_appendInOrder n) S a0 a1 a2 a3 a4 a5 a6 a7 = some (x, S1) := H
  unfold b_X10_appendInOrder_86 at H
  refine GA.iload dX10_appendInOrder_86 rfl ?_
  refine GA.bipush dX10_appendInOrder_88 rfl ?_
  obtain ⟨hg1, H⟩ := gg_e H
  refine GV.icmp_ge (tgt := 139) hg1 (by decide) dX10_appendInOrder_90 (by decide) (fun c2 => ?_) (fun c2 => ?_)
  · have H := it_t H c2
    refine GA.aload_n dX10_appendInOrder_139 rfl ?_
    refine GA.iload dX10_appendInOrder_140 rfl ?_
    obtain ⟨hg3, H⟩ := gg_e H
    obtain ⟨hg4, H⟩ := gg_e H
    obtain ⟨x5, S_6, hc7, H⟩ := gc_e H
    refine GA.callV (m_X10_close hc7) xs_X10_218 dX10_appendInOrder_142 (gsT hg4) (by omega) rfl rfl (by omega) (by decide) rfl (Nat.le_of_ble_eq_true rfl) (by omega) (by omega) rfl (fun E S9 hx => hx.elim) (fun v S9 hq => ?_)
    obtain ⟨rfl, rfl⟩ := hq
    cases H
    exact GA.vret rfl dX10_appendInOrder_145 (by omega) (by omega) ⟨rfl, rfl⟩
  · have H := it_f H c2
    refine GA.iload dX10_appendInOrder_93 rfl ?_
    refine GA.iconst dX10_appendInOrder_95 ?_
    obtain ⟨hg8, H⟩ := gg_e H
    refine GV.icmp_eq (tgt := 139) hg8 (by decide) dX10_appendInOrder_96 (by decide) (fun c9 => ?_) (fun c9 => ?_)
    · have H := it_t H c9
      refine GA.aload_n dX10_appendInOrder_139 rfl ?_
      refine GA.iload dX10_appendInOrder_140 rfl ?_
      obtain ⟨hg10, H⟩ := gg_e H
      obtain ⟨hg11, H⟩ := gg_e H
      obtain ⟨x12, S_13, hc14, H⟩ := gc_e H
      refine GA.callV (m_X10_close hc14) xs_X10_218 dX10_appendInOrder_142 (gsT hg11) (by omega) rfl rfl (by omega) (by decide) rfl (Nat.le_of_ble_eq_true rfl) (by omega) (by omega) rfl (fun E S9 hx => hx.elim) (fun v S9 hq => ?_)
      obtain ⟨rfl, rfl⟩ := hq
      cases H
      exact GA.vret rfl dX10_appendInOrder_145 (by omega) (by omega) ⟨rfl, rfl⟩
    · have H := it_f H c9
      refine GA.aload_n dX10_appendInOrder_99 rfl ?_
      refine GA.aload_n dX10_appendInOrder_100 rfl ?_
      refine GA.iload dX10_appendInOrder_101 rfl ?_
      refine GA.iload_n dX10_appendInOrder_103 rfl ?_
      refine GA.iconst dX10_appendInOrder_104 ?_
      obtain ⟨x15, hx16, H⟩ := gv_e H
      refine GV.iadd hx16 dX10_appendInOrder_105 ?_
      obtain ⟨hg17, H⟩ := gg_e H
      obtain ⟨hg18, H⟩ := gg_e H
      obtain ⟨x19, S_20, hc21, H⟩ := gc_e H
      refine GA.callV (i_X10_appendInOrder ih_X10_appendInOrder_0 hc21) xs_X10_214 dX10_appendInOrder_106 (gsT hg18) (by omega) rfl rfl (by omega) (by decide) rfl (Nat.le_of_ble_eq_true rfl) (by omega) (by omega) rfl (fun E S9 hx => hx.elim) (fun v S9 hq => ?_)
      obtain ⟨rfl, rfl⟩ := hq
      refine GA.iload dX10_appendInOrder_109 rfl ?_
      obtain ⟨hg22, H⟩ := gg_e H
      refine GV.if_eq (tgt := 124) hg22 dX10_appendInOrder_111 (by decide) (fun c23 => ?_) (fun c23 => ?_)
      · have H := it_t H c23
        refine GA.aload_n dX10_appendInOrder_124 rfl ?_
        refine GA.iload_n dX10_appendInOrder_125 rfl ?_
        refine GA.iload dX10_appendInOrder_126 rfl ?_
        obtain ⟨hg24, H⟩ := gg_e H
        obtain ⟨x25, S_26, hc27, H⟩ := gc_e H
        refine GA.callV (m_X10_nextByKey hc27) xs_X10_211 dX10_appendInOrder_128 (gsT hg24) (by omega) rfl rfl (by omega) (by decide) rfl (Nat.le_of_ble_eq_true rfl) (by omega) (by omega) rfl (fun E S9 hx => hx.elim) (fun v S9 hq => ?_)
        obtain ⟨rfl, rfl⟩ := hq
        refine GA.istore dX10_appendInOrder_131 (by decide) ?_
        obtain ⟨x28, hx29, H⟩ := gv_e H
        refine GV.iinc hx29 dX10_appendInOrder_133 rfl (by decide) ?_
        refine GA.goto (tgt := 86) dX10_appendInOrder_136 (by decide) ?_
        refine GA.locals [(0, .ref (L a0)), (1, .ref (L a1)), (2, .int (J a2)), (3, .int (J a3)), (4, .int (J a4)), (5, .int (J a5)), (6, .int (J x25)), (7, .int (J x28))] ⟨rfl, rfl, rfl, rfl, rfl, rfl, rfl, rfl, trivial⟩ ?_
        exact ih_X10_appendInOrder_86 _ _ (a0) (a1) (a2) (a3) (a4) (a5) (x25) (x28) _ _ H
      · have H := it_f H c23
        refine GA.aload_n dX10_appendInOrder_114 rfl ?_
        refine GA.iload_n dX10_appendInOrder_115 rfl ?_
        refine GA.iload dX10_appendInOrder_116 rfl ?_
        obtain ⟨hg30, H⟩ := gg_e H
        obtain ⟨x31, S_32, hc33, H⟩ := gc_e H
        refine GA.callV (m_X10_next hc33) xs_X10_56 dX10_appendInOrder_118 (gsT hg30) (by omega) rfl rfl (by omega) (by decide) rfl (Nat.le_of_ble_eq_true rfl) (by omega) (by omega) rfl (fun E S9 hx => hx.elim) (fun v S9 hq => ?_)
        obtain ⟨rfl, rfl⟩ := hq
        refine GA.goto (tgt := 131) dX10_appendInOrder_121 (by decide) ?_
        refine GA.istore dX10_appendInOrder_131 (by decide) ?_
        obtain ⟨x34, hx35, H⟩ := gv_e H
        refine GV.iinc hx35 dX10_appendInOrder_133 rfl (by decide) ?_
        refine GA.goto (tgt := 86) dX10_appendInOrder_136 (by decide) ?_
        refine GA.locals [(0, .ref (L a0)), (1, .ref (L a1)), (2, .int (J a2)), (3, .int (J a3)), (4, .int (J a4)), (5, .int (J a5)), (6, .int (J x31)), (7, .int (J x34))] ⟨rfl, rfl, rfl, rfl, rfl, rfl, rfl, rfl, trivial⟩ ?_
        exact ih_X10_appendInOrder_86 _ _ (a0) (a1) (a2) (a3) (a4) (a5) (x31) (x34) _ _ H
theorem g_X10_appendInOrder {l : Launch} {Z : XZ} {L : Nat → Nat} : ∀ n, P_X10_appendInOrder_0 l Z L n ∧ P_X10_appendInOrder_86 l Z L n
  | 0 => ⟨fun _ _ _ _ _ _ _ _ H => no_e H, fun _ _ _ _ _ _ _ _ _ _ _ _ H => no_e H⟩
  | n + 1 => have ⟨h0, h1⟩ := g_X10_appendInOrder (l := l) (Z := Z) (L := L) n
    ⟨t_X10_appendInOrder_0 n h0 h1, t_X10_appendInOrder_86 n h0 h1⟩
theorem m_X10_appendInOrder {l : Launch} {Z : XZ} {L : Nat → Nat} {n d : Nat} {S : GS} {a0 : Nat} {a1 : Nat} {a2 : Int} {a3 : Int} {x : Int} {S1 : GS} (H : f_X10_appendInOrder n d 0 S [((a0 : Nat) : Int), ((a1 : Nat) : Int), a2, a3] = some (x, S1)) : GM l Z L yX10_appendInOrder cX10_appendInOrder 8 none [] d 0 0 [.ref (L a0), .ref (L a1), .int (J a2), .int (J a3)] S (fun v S' => v = none ∧ S1 = S') (fun _ _ => False) := GM.of (by decide) (Nat.le_of_ble_eq_true rfl) ((g_X10_appendInOrder n).1 _ _ _ _ _ _ _ _ H)

def P_X10_clearKey_0 (l : Launch) (Z : XZ) (L : Nat → Nat) (n : Nat) : Prop := ∀ (d : Nat) (S : GS) (a0 : Nat) (a1 : Int) (x : Int) (S1 : GS), f_X10_clearKey n d 0 S [((a0 : Nat) : Int), a1] = some (x, S1) → GA l Z L yX10_clearKey cX10_clearKey 2 none [] d 0 0 (fun v S' => v = none ∧ S1 = S') (fun _ _ => False) 0 (gl [(0, .ref (L a0)), (1, .int (J a1))]) [] S 0 0
theorem i_X10_clearKey {l : Launch} {Z : XZ} {L : Nat → Nat} {n : Nat} (ih : P_X10_clearKey_0 l Z L n) {d : Nat} {S : GS} {a0 : Nat} {a1 : Int} {x : Int} {S1 : GS} (H : f_X10_clearKey n d 0 S [((a0 : Nat) : Int), a1] = some (x, S1)) : GM l Z L yX10_clearKey cX10_clearKey 2 none [] d 0 0 [.ref (L a0), .int (J a1)] S (fun v S' => v = none ∧ S1 = S') (fun _ _ => False) := GM.of (by decide) (Nat.le_of_ble_eq_true rfl) (ih _ _ _ _ _ _ H)
set_option maxHeartbeats 4000000 in
set_option maxRecDepth 20000 in
theorem t_X10_clearKey_0 {l : Launch} {Z : XZ} {L : Nat → Nat} (n : Nat) (ih_X10_clearKey_0 : P_X10_clearKey_0 l Z L n) : P_X10_clearKey_0 l Z L (n + 1) := by
  intro d S a0 a1 x S1 H
  have H : b_X10_clearKey_0 n d (f_X10_clearKey n) S a0 a1 = some (x, S1) := H
  unfold b_X10_clearKey_0 at H
  refine GA.iload_n dX10_clearKey_0 rfl ?_
  obtain ⟨hg1, H⟩ := gg_e H
  refine GV.if_lt (tgt := 25) hg1 dX10_clearKey_1 (by decide) (fun c2 => ?_) (fun c2 => ?_)
  · have H := it_t H c2
    cases H
    exact GA.vret rfl dX10_clearKey_25 (by omega) (by omega) ⟨rfl, rfl⟩
  · have H := it_f H c2
    refine GA.iload_n dX10_clearKey_4 rfl ?_
    refine GA.aload_n dX10_clearKey_5 rfl ?_
    obtain ⟨hg3, H⟩ := gg_e H
    obtain ⟨x4, hx5, H⟩ := gv_e H
    refine GV.getI hx5 xf_X10_34 dX10_clearKey_6 (gsT hg3) (by omega) rfl ?_
    obtain ⟨hg6, H⟩ := gg_e H
    refine GV.icmp_ge (tgt := 25) hg1 hg6 dX10_clearKey_9 (by decide) (fun c7 => ?_) (fun c7 => ?_)
    · have H := it_t H c7
      cases H
      exact GA.vret rfl dX10_clearKey_25 (by omega) (by omega) ⟨rfl, rfl⟩
    · have H := it_f H c7
      refine GA.iload_n dX10_clearKey_12 rfl ?_
      refine GA.bipush dX10_clearKey_13 rfl ?_
      refine GV.icmp_ge (tgt := 25) hg1 (by decide) dX10_clearKey_15 (by decide) (fun c8 => ?_) (fun c8 => ?_)
      · have H := it_t H c8
        cases H
        exact GA.vret rfl dX10_clearKey_25 (by omega) (by omega) ⟨rfl, rfl⟩
      · have H := it_f H c8
        refine GA.aload_n dX10_clearKey_18 rfl ?_
        refine GA.get xf_X10_28 dX10_clearKey_19 (gsT hg3) (by omega) rfl ?_
        refine GA.iload_n dX10_clearKey_22 rfl ?_
        refine GA.iconst dX10_clearKey_23 ?_
        obtain ⟨hg9, H⟩ := gg_e H
        obtain ⟨S_10, hx11, H⟩ := gv_e H
        refine GV.iast hg9 hx11 dX10_clearKey_24 (fun _ => (gsT6 hg3)) (by omega) ?_
        cases H
        exact GA.vret rfl dX10_clearKey_25 (by omega) (by omega) ⟨rfl, rfl⟩
theorem g_X10_clearKey {l : Launch} {Z : XZ} {L : Nat → Nat} : ∀ n, P_X10_clearKey_0 l Z L n
  | 0 => fun _ _ _ _ _ _ H => no_e H
  | n + 1 => t_X10_clearKey_0 n (g_X10_clearKey n)
theorem m_X10_clearKey {l : Launch} {Z : XZ} {L : Nat → Nat} {n d : Nat} {S : GS} {a0 : Nat} {a1 : Int} {x : Int} {S1 : GS} (H : f_X10_clearKey n d 0 S [((a0 : Nat) : Int), a1] = some (x, S1)) : GM l Z L yX10_clearKey cX10_clearKey 2 none [] d 0 0 [.ref (L a0), .int (J a1)] S (fun v S' => v = none ∧ S1 = S') (fun _ _ => False) := GM.of (by decide) (Nat.le_of_ble_eq_true rfl) ((g_X10_clearKey n) _ _ _ _ _ _ H)

def P_X10_copyOf_0 (l : Launch) (Z : XZ) (L : Nat → Nat) (n : Nat) : Prop := ∀ (d : Nat) (S : GS) (a0 : Nat) (a1 : Nat) (a2 : Int) (x : Int) (S1 : GS), f_X10_copyOf n d 0 S [((a0 : Nat) : Int), ((a1 : Nat) : Int), a2] = some (x, S1) → GA l Z L yX10_copyOf cX10_copyOf 3 none [] d 0 0 (fun v S' => v = none ∧ S1 = S') (fun _ _ => False) 0 (gl [(0, .ref (L a0)), (1, .ref (L a1)), (2, .int (J a2))]) [] S 0 0
theorem i_X10_copyOf {l : Launch} {Z : XZ} {L : Nat → Nat} {n : Nat} (ih : P_X10_copyOf_0 l Z L n) {d : Nat} {S : GS} {a0 : Nat} {a1 : Nat} {a2 : Int} {x : Int} {S1 : GS} (H : f_X10_copyOf n d 0 S [((a0 : Nat) : Int), ((a1 : Nat) : Int), a2] = some (x, S1)) : GM l Z L yX10_copyOf cX10_copyOf 3 none [] d 0 0 [.ref (L a0), .ref (L a1), .int (J a2)] S (fun v S' => v = none ∧ S1 = S') (fun _ _ => False) := GM.of (by decide) (Nat.le_of_ble_eq_true rfl) (ih _ _ _ _ _ _ _ H)
set_option maxHeartbeats 4000000 in
set_option maxRecDepth 20000 in
theorem t_X10_copyOf_0 {l : Launch} {Z : XZ} {L : Nat → Nat} (n : Nat) (ih_X10_copyOf_0 : P_X10_copyOf_0 l Z L n) : P_X10_copyOf_0 l Z L (n + 1) := by
  intro d S a0 a1 a2 x S1 H
  have H : b_X10_copyOf_0 n d (f_X10_copyOf n) S a0 a1 a2 = some (x, S1) := H
  unfold b_X10_copyOf_0 at H
  refine GA.aload_n dX10_copyOf_0 rfl ?_
  obtain ⟨hg1, H⟩ := gg_e H
  obtain ⟨hg2, H⟩ := gg_e H
  obtain ⟨x3, S_4, hc5, H⟩ := gc_e H
  refine GA.callV (m_X10_clear hc5) xs_X10_204 dX10_copyOf_1 (gsT hg2) (by omega) rfl rfl (by omega) (by decide) rfl (Nat.le_of_ble_eq_true rfl) (by omega) (by omega) rfl (fun E S9 hx => hx.elim) (fun v S9 hq => ?_)
  obtain ⟨rfl, rfl⟩ := hq
  refine GA.aload_n dX10_copyOf_4 rfl ?_
  refine GA.aload_n dX10_copyOf_5 rfl ?_
  refine GA.iload_n dX10_copyOf_6 rfl ?_
  obtain ⟨x6, S_7, hc8, H⟩ := gc_e H
  refine GA.callV (m_X10_append hc8) xs_X10_207 dX10_copyOf_7 (gsT hg2) (by omega) rfl rfl (by omega) (by decide) rfl (Nat.le_of_ble_eq_true rfl) (by omega) (by omega) rfl (fun E S9 hx => hx.elim) (fun v S9 hq => ?_)
  obtain ⟨rfl, rfl⟩ := hq
  refine GA.pop dX10_copyOf_10 rfl ?_
  refine GA.aload_n dX10_copyOf_11 rfl ?_
  refine GA.iconst dX10_copyOf_12 ?_
  obtain ⟨x9, S_10, hc11, H⟩ := gc_e H
  refine GA.callV (m_X10_clearKey hc11) xs_X10_156 dX10_copyOf_13 (gsT hg2) (by omega) rfl rfl (by omega) (by decide) rfl (Nat.le_of_ble_eq_true rfl) (by omega) (by omega) rfl (fun E S9 hx => hx.elim) (fun v S9 hq => ?_)
  obtain ⟨rfl, rfl⟩ := hq
  cases H
  exact GA.vret rfl dX10_copyOf_16 (by omega) (by omega) ⟨rfl, rfl⟩
theorem g_X10_copyOf {l : Launch} {Z : XZ} {L : Nat → Nat} : ∀ n, P_X10_copyOf_0 l Z L n
  | 0 => fun _ _ _ _ _ _ _ H => no_e H
  | n + 1 => t_X10_copyOf_0 n (g_X10_copyOf n)
theorem m_X10_copyOf {l : Launch} {Z : XZ} {L : Nat → Nat} {n d : Nat} {S : GS} {a0 : Nat} {a1 : Nat} {a2 : Int} {x : Int} {S1 : GS} (H : f_X10_copyOf n d 0 S [((a0 : Nat) : Int), ((a1 : Nat) : Int), a2] = some (x, S1)) : GM l Z L yX10_copyOf cX10_copyOf 3 none [] d 0 0 [.ref (L a0), .ref (L a1), .int (J a2)] S (fun v S' => v = none ∧ S1 = S') (fun _ _ => False) := GM.of (by decide) (Nat.le_of_ble_eq_true rfl) ((g_X10_copyOf n) _ _ _ _ _ _ _ H)

def P_X10_count_0 (l : Launch) (Z : XZ) (L : Nat → Nat) (n : Nat) : Prop := ∀ (d : Nat) (S : GS) (a0 : Nat) (x : Int) (S1 : GS), f_X10_count n d 0 S [((a0 : Nat) : Int)] = some (x, S1) → GA l Z L yX10_count cX10_count 1 (some .int) [] d 0 0 (fun v S' => v = some (.int (J x)) ∧ S1 = S') (fun _ _ => False) 0 (gl [(0, .ref (L a0))]) [] S 0 0
theorem i_X10_count {l : Launch} {Z : XZ} {L : Nat → Nat} {n : Nat} (ih : P_X10_count_0 l Z L n) {d : Nat} {S : GS} {a0 : Nat} {x : Int} {S1 : GS} (H : f_X10_count n d 0 S [((a0 : Nat) : Int)] = some (x, S1)) : GM l Z L yX10_count cX10_count 1 (some .int) [] d 0 0 [.ref (L a0)] S (fun v S' => v = some (.int (J x)) ∧ S1 = S') (fun _ _ => False) := GM.of (by decide) (Nat.le_of_ble_eq_true rfl) (ih _ _ _ _ _ H)
set_option maxHeartbeats 4000000 in
set_option maxRecDepth 20000 in
theorem t_X10_count_0 {l : Launch} {Z : XZ} {L : Nat → Nat} (n : Nat) (ih_X10_count_0 : P_X10_count_0 l Z L n) : P_X10_count_0 l Z L (n + 1) := by
  intro d S a0 x S1 H
  have H : b_X10_count_0 n d (f_X10_count n) S a0 = some (x, S1) := H
  unfold b_X10_count_0 at H
  refine GA.aload_n dX10_count_0 rfl ?_
  obtain ⟨hg1, H⟩ := gg_e H
  obtain ⟨x2, hx3, H⟩ := gv_e H
  refine GV.getI hx3 xf_X10_34 dX10_count_1 (gsT hg1) (by omega) rfl ?_
  cases H
  exact GA.iret rfl dX10_count_4 (by omega) (by omega) ⟨rfl, rfl⟩
theorem g_X10_count {l : Launch} {Z : XZ} {L : Nat → Nat} : ∀ n, P_X10_count_0 l Z L n
  | 0 => fun _ _ _ _ _ H => no_e H
  | n + 1 => t_X10_count_0 n (g_X10_count n)
theorem m_X10_count {l : Launch} {Z : XZ} {L : Nat → Nat} {n d : Nat} {S : GS} {a0 : Nat} {x : Int} {S1 : GS} (H : f_X10_count n d 0 S [((a0 : Nat) : Int)] = some (x, S1)) : GM l Z L yX10_count cX10_count 1 (some .int) [] d 0 0 [.ref (L a0)] S (fun v S' => v = some (.int (J x)) ∧ S1 = S') (fun _ _ => False) := GM.of (by decide) (Nat.le_of_ble_eq_true rfl) ((g_X10_count n) _ _ _ _ _ H)

def P_X10_dropFrom_0 (l : Launch) (Z : XZ) (L : Nat → Nat) (n : Nat) : Prop := ∀ (d : Nat) (S : GS) (a0 : Nat) (a1 : Int) (x : Int) (S1 : GS), f_X10_dropFrom n d 0 S [((a0 : Nat) : Int), a1] = some (x, S1) → GA l Z L yX10_dropFrom cX10_dropFrom 2 none [] d 0 0 (fun v S' => v = none ∧ S1 = S') (fun _ _ => False) 0 (gl [(0, .ref (L a0)), (1, .int (J a1))]) [] S 0 0
theorem i_X10_dropFrom {l : Launch} {Z : XZ} {L : Nat → Nat} {n : Nat} (ih : P_X10_dropFrom_0 l Z L n) {d : Nat} {S : GS} {a0 : Nat} {a1 : Int} {x : Int} {S1 : GS} (H : f_X10_dropFrom n d 0 S [((a0 : Nat) : Int), a1] = some (x, S1)) : GM l Z L yX10_dropFrom cX10_dropFrom 2 none [] d 0 0 [.ref (L a0), .int (J a1)] S (fun v S' => v = none ∧ S1 = S') (fun _ _ => False) := GM.of (by decide) (Nat.le_of_ble_eq_true rfl) (ih _ _ _ _ _ _ H)
set_option maxHeartbeats 4000000 in
set_option maxRecDepth 20000 in
theorem t_X10_dropFrom_0 {l : Launch} {Z : XZ} {L : Nat → Nat} (n : Nat) (ih_X10_dropFrom_0 : P_X10_dropFrom_0 l Z L n) : P_X10_dropFrom_0 l Z L (n + 1) := by
  intro d S a0 a1 x S1 H
  have H : b_X10_dropFrom_0 n d (f_X10_dropFrom n) S a0 a1 = some (x, S1) := H
  unfold b_X10_dropFrom_0 at H
  refine GA.aload_n dX10_dropFrom_0 rfl ?_
  refine GA.iload_n dX10_dropFrom_1 rfl ?_
  obtain ⟨hg1, H⟩ := gg_e H
  obtain ⟨hg2, H⟩ := gg_e H
  obtain ⟨x3, S_4, hc5, H⟩ := gc_e H
  refine GA.callV (m_X10_has hc5) xs_X10_105 dX10_dropFrom_2 (gsT hg2) (by omega) rfl rfl (by omega) (by decide) rfl (Nat.le_of_ble_eq_true rfl) (by omega) (by omega) rfl (fun E S9 hx => hx.elim) (fun v S9 hq => ?_)
  obtain ⟨rfl, rfl⟩ := hq
  obtain ⟨hg6, H⟩ := gg_e H
  refine GV.if_eq (tgt := 13) hg6 dX10_dropFrom_5 (by decide) (fun c7 => ?_) (fun c7 => ?_)
  · have H := it_t H c7
    cases H
    exact GA.vret rfl dX10_dropFrom_13 (by omega) (by omega) ⟨rfl, rfl⟩
  · have H := it_f H c7
    refine GA.aload_n dX10_dropFrom_8 rfl ?_
    refine GA.iload_n dX10_dropFrom_9 rfl ?_
    obtain ⟨S_8, hx9, H⟩ := gv_e H
    refine GV.putI hx9 (xp_X10_34 _) dX10_dropFrom_10 (gsT hg2) (by omega) (Nat.le_of_ble_eq_true rfl) (gsT hg2) ?_
    cases H
    exact GA.vret rfl dX10_dropFrom_13 (by omega) (by omega) ⟨rfl, rfl⟩
theorem g_X10_dropFrom {l : Launch} {Z : XZ} {L : Nat → Nat} : ∀ n, P_X10_dropFrom_0 l Z L n
  | 0 => fun _ _ _ _ _ _ H => no_e H
  | n + 1 => t_X10_dropFrom_0 n (g_X10_dropFrom n)
theorem m_X10_dropFrom {l : Launch} {Z : XZ} {L : Nat → Nat} {n d : Nat} {S : GS} {a0 : Nat} {a1 : Int} {x : Int} {S1 : GS} (H : f_X10_dropFrom n d 0 S [((a0 : Nat) : Int), a1] = some (x, S1)) : GM l Z L yX10_dropFrom cX10_dropFrom 2 none [] d 0 0 [.ref (L a0), .int (J a1)] S (fun v S' => v = none ∧ S1 = S') (fun _ _ => False) := GM.of (by decide) (Nat.le_of_ble_eq_true rfl) ((g_X10_dropFrom n) _ _ _ _ _ _ H)

def P_X10_hasSoundKeys_0 (l : Launch) (Z : XZ) (L : Nat → Nat) (n : Nat) : Prop := ∀ (d : Nat) (S : GS) (a0 : Nat) (a1 : Int) (x : Int) (S1 : GS), f_X10_hasSoundKeys n d 0 S [((a0 : Nat) : Int), a1] = some (x, S1) → GA l Z L yX10_hasSoundKeys cX10_hasSoundKeys 5 (some .boolean) [] d 0 0 (fun v S' => v = some (.int (J x)) ∧ S1 = S') (fun _ _ => False) 0 (gl [(0, .ref (L a0)), (1, .int (J a1))]) [] S 0 0
def P_X10_hasSoundKeys_11 (l : Launch) (Z : XZ) (L : Nat → Nat) (n : Nat) : Prop := ∀ (d : Nat) (S : GS) (a0 : Nat) (a1 : Int) (a2 : Int) (a3 : Int) (a4 : Int) (x : Int) (S1 : GS), f_X10_hasSoundKeys n d 11 S [((a0 : Nat) : Int), a1, a2, a3, a4] = some (x, S1) → GA l Z L yX10_hasSoundKeys cX10_hasSoundKeys 5 (some .boolean) [] d 0 0 (fun v S' => v = some (.int (J x)) ∧ S1 = S') (fun _ _ => False) 11 (gl [(0, .ref (L a0)), (1, .int (J a1)), (2, .int (J a2)), (3, .int (J a3)), (4, .int (J a4))]) [] S 0 0
def P_X10_hasSoundKeys_53 (l : Launch) (Z : XZ) (L : Nat → Nat) (n : Nat) : Prop := ∀ (d : Nat) (S : GS) (a0 : Nat) (a1 : Int) (a3 : Int) (a4 : Int) (s0 : Int) (x : Int) (S1 : GS), f_X10_hasSoundKeys n d 53 S [((a0 : Nat) : Int), a1, a3, a4, s0] = some (x, S1) → GA l Z L yX10_hasSoundKeys cX10_hasSoundKeys 5 (some .boolean) [] d 0 0 (fun v S' => v = some (.int (J x)) ∧ S1 = S') (fun _ _ => False) 53 (gl [(0, .ref (L a0)), (1, .int (J a1)), (3, .int (J a3)), (4, .int (J a4))]) [.int (J s0)] S 0 0
theorem i_X10_hasSoundKeys {l : Launch} {Z : XZ} {L : Nat → Nat} {n : Nat} (ih : P_X10_hasSoundKeys_0 l Z L n) {d : Nat} {S : GS} {a0 : Nat} {a1 : Int} {x : Int} {S1 : GS} (H : f_X10_hasSoundKeys n d 0 S [((a0 : Nat) : Int), a1] = some (x, S1)) : GM l Z L yX10_hasSoundKeys cX10_hasSoundKeys 5 (some .boolean) [] d 0 0 [.ref (L a0), .int (J a1)] S (fun v S' => v = some (.int (J x)) ∧ S1 = S') (fun _ _ => False) := GM.of (by decide) (Nat.le_of_ble_eq_true rfl) (ih _ _ _ _ _ _ H)
set_option maxHeartbeats 4000000 in
set_option maxRecDepth 20000 in
theorem t_X10_hasSoundKeys_0 {l : Launch} {Z : XZ} {L : Nat → Nat} (n : Nat) (ih_X10_hasSoundKeys_0 : P_X10_hasSoundKeys_0 l Z L n) (ih_X10_hasSoundKeys_11 : P_X10_hasSoundKeys_11 l Z L n) (ih_X10_hasSoundKeys_53 : P_X10_hasSoundKeys_53 l Z L n) : P_X10_hasSoundKeys_0 l Z L (n + 1) := by
  intro d S a0 a1 x S1 H
  have H : b_X10_hasSoundKeys_0 n d (f_X10_hasSoundKeys n) S a0 a1 = some (x, S1) := H
  unfold b_X10_hasSoundKeys_0 at H
  refine GA.iconst dX10_hasSoundKeys_0 ?_
  refine GA.istore_n dX10_hasSoundKeys_1 (by decide) ?_
  refine GA.aload_n dX10_hasSoundKeys_2 rfl ?_
  refine GA.iload_n dX10_hasSoundKeys_3 rfl ?_
  obtain ⟨hg1, H⟩ := gg_e H
  obtain ⟨hg2, H⟩ := gg_e H
  obtain ⟨x3, S_4, hc5, H⟩ := gc_e H
  refine GA.callV (m_X10_firstOfMap hc5) xs_X10_114 dX10_hasSoundKeys_4 (gsT hg2) (by omega) rfl rfl (by omega) (by decide) rfl (Nat.le_of_ble_eq_true rfl) (by omega) (by omega) rfl (fun E S9 hx => hx.elim) (fun v S9 hq => ?_)
  obtain ⟨rfl, rfl⟩ := hq
  refine GA.istore_n dX10_hasSoundKeys_7 (by decide) ?_
  refine GA.iconst dX10_hasSoundKeys_8 ?_
  refine GA.istore dX10_hasSoundKeys_9 (by decide) ?_
  refine GA.locals [(0, .ref (L a0)), (1, .int (J a1)), (2, .int (J 1)), (3, .int (J x3)), (4, .int (J 0))] ⟨rfl, rfl, rfl, rfl, rfl, trivial⟩ ?_
  exact ih_X10_hasSoundKeys_11 _ _ (a0) (a1) (1) (x3) (0) _ _ H
set_option maxHeartbeats 4000000 in
set_option maxRecDepth 20000 in
theorem t_X10_hasSoundKeys_11 {l : Launch} {Z : XZ} {L : Nat → Nat} (n : Nat) (ih_X10_hasSoundKeys_0 : P_X10_hasSoundKeys_0 l Z L n) (ih_X10_hasSoundKeys_11 : P_X10_hasSoundKeys_11 l Z L n) (ih_X10_hasSoundKeys_53 : P_X10_hasSoundKeys_53 l Z L n) : P_X10_hasSoundKeys_11 l Z L (n + 1) := by
  intro d S a0 a1 a2 a3 a4 x S1 H
  have H : b_X10_hasSoundKeys_11 n d (f_X10_hasSoundKeys n) S a0 a1 a2 a3 a4 = some (x, S1) := H
  unfold b_X10_hasSoundKeys_11 at H
  refine GA.iload_n dX10_hasSoundKeys_11 rfl ?_
  refine GA.iconst dX10_hasSoundKeys_12 ?_
  obtain ⟨hg1, H⟩ := gg_e H
  refine GV.icmp_eq (tgt := 67) hg1 (by decide) dX10_hasSoundKeys_13 (by decide) (fun c2 => ?_) (fun c2 => ?_)
  · have H := it_t H c2
    refine GA.iload_n dX10_hasSoundKeys_67 rfl ?_
    obtain ⟨hg3, H⟩ := gg_e H
    cases H
    exact GV.zret hg3 rfl dX10_hasSoundKeys_68 (by omega) (by omega) ⟨rfl, rfl⟩
  · have H := it_f H c2
    refine GA.iload dX10_hasSoundKeys_16 rfl ?_
    refine GA.bipush dX10_hasSoundKeys_18 rfl ?_
    obtain ⟨hg4, H⟩ := gg_e H
    refine GV.icmp_ge (tgt := 67) hg4 (by decide) dX10_hasSoundKeys_20 (by decide) (fun c5 => ?_) (fun c5 => ?_)
    · have H := it_t H c5
      refine GA.iload_n dX10_hasSoundKeys_67 rfl ?_
      obtain ⟨hg6, H⟩ := gg_e H
      cases H
      exact GV.zret hg6 rfl dX10_hasSoundKeys_68 (by omega) (by omega) ⟨rfl, rfl⟩
    · have H := it_f H c5
      refine GA.iload_n dX10_hasSoundKeys_23 rfl ?_
      obtain ⟨hg7, H⟩ := gg_e H
      refine GV.if_eq (tgt := 67) hg7 dX10_hasSoundKeys_24 (by decide) (fun c8 => ?_) (fun c8 => ?_)
      · have H := it_t H c8
        refine GA.iload_n dX10_hasSoundKeys_67 rfl ?_
        obtain ⟨hg9, H⟩ := gg_e H
        cases H
        exact GV.zret hg9 rfl dX10_hasSoundKeys_68 (by omega) (by omega) ⟨rfl, rfl⟩
      · have H := it_f H c8
        refine GA.aload_n dX10_hasSoundKeys_27 rfl ?_
        refine GA.iload_n dX10_hasSoundKeys_28 rfl ?_
        obtain ⟨hg10, H⟩ := gg_e H
        obtain ⟨hg11, H⟩ := gg_e H
        obtain ⟨x12, S_13, hc14, H⟩ := gc_e H
        refine GA.callV (m_X10_keyLength hc14) xs_X10_117 dX10_hasSoundKeys_29 (gsT hg11) (by omega) rfl rfl (by omega) (by decide) rfl (Nat.le_of_ble_eq_true rfl) (by omega) (by omega) rfl (fun E S9 hx => hx.elim) (fun v S9 hq => ?_)
        obtain ⟨rfl, rfl⟩ := hq
        refine GA.bipush dX10_hasSoundKeys_32 rfl ?_
        obtain ⟨hg15, H⟩ := gg_e H
        refine GV.icmp_gt (tgt := 52) hg15 (by decide) dX10_hasSoundKeys_34 (by decide) (fun c16 => ?_) (fun c16 => ?_)
        · have H := it_t H c16
          refine GA.iconst dX10_hasSoundKeys_52 ?_
          refine GA.locals [(0, .ref (L a0)), (1, .int (J a1)), (3, .int (J a3)), (4, .int (J a4))] ⟨rfl, rfl, rfl, rfl, trivial⟩ ?_
          exact ih_X10_hasSoundKeys_53 _ _ (a0) (a1) (a3) (a4) (0) _ _ H
        · have H := it_f H c16
          refine GA.aload_n dX10_hasSoundKeys_37 rfl ?_
          refine GA.iload_n dX10_hasSoundKeys_38 rfl ?_
          refine GA.aload_n dX10_hasSoundKeys_39 rfl ?_
          refine GA.iload_n dX10_hasSoundKeys_40 rfl ?_
          obtain ⟨x17, S_18, hc19, H⟩ := gc_e H
          refine GA.callV (m_X10_valueLike hc19) xs_X10_120 dX10_hasSoundKeys_41 (gsT hg11) (by omega) rfl rfl (by omega) (by decide) rfl (Nat.le_of_ble_eq_true rfl) (by omega) (by omega) rfl (fun E S9 hx => hx.elim) (fun v S9 hq => ?_)
          obtain ⟨rfl, rfl⟩ := hq
          refine GA.iload_n dX10_hasSoundKeys_44 rfl ?_
          obtain ⟨hg20, H⟩ := gg_e H
          refine GV.icmp_ne (tgt := 52) hg20 hg1 dX10_hasSoundKeys_45 (by decide) (fun c21 => ?_) (fun c21 => ?_)
          · have H := it_t H c21
            refine GA.iconst dX10_hasSoundKeys_52 ?_
            refine GA.locals [(0, .ref (L a0)), (1, .int (J a1)), (3, .int (J a3)), (4, .int (J a4))] ⟨rfl, rfl, rfl, rfl, trivial⟩ ?_
            exact ih_X10_hasSoundKeys_53 _ _ (a0) (a1) (a3) (a4) (0) _ _ H
          · have H := it_f H c21
            refine GA.iconst dX10_hasSoundKeys_48 ?_
            refine GA.goto (tgt := 53) dX10_hasSoundKeys_49 (by decide) ?_
            refine GA.locals [(0, .ref (L a0)), (1, .int (J a1)), (3, .int (J a3)), (4, .int (J a4))] ⟨rfl, rfl, rfl, rfl, trivial⟩ ?_
            exact ih_X10_hasSoundKeys_53 _ _ (a0) (a1) (a3) (a4) (1) _ _ H
set_option maxHeartbeats 4000000 in
set_option maxRecDepth 20000 in
theorem t_X10_hasSoundKeys_53 {l : Launch} {Z : XZ} {L : Nat → Nat} (n : Nat) (ih_X10_hasSoundKeys_0 : P_X10_hasSoundKeys_0 l Z L n) (ih_X10_hasSoundKeys_11 : P_X10_hasSoundKeys_11 l Z L n) (ih_X10_hasSoundKeys_53 : P_X10_hasSoundKeys_53 l Z L n) : P_X10_hasSoundKeys_53 l Z L (n + 1) := by
  intro d S a0 a1 a3 a4 s0 x S1 H
  have H : b_X10_hasSoundKeys_53 n d (f_X10_hasSoundKeys n) S a0 a1 a3 a4 s0 = some (x, S1) := H
  unfold b_X10_hasSoundKeys_53 at H
  refine GA.istore_n dX10_hasSoundKeys_53 (by decide) ?_
  refine GA.aload_n dX10_hasSoundKeys_54 rfl ?_
  refine GA.iload_n dX10_hasSoundKeys_55 rfl ?_
  refine GA.iload_n dX10_hasSoundKeys_56 rfl ?_
  obtain ⟨hg1, H⟩ := gg_e H
  obtain ⟨hg2, H⟩ := gg_e H
  obtain ⟨x3, S_4, hc5, H⟩ := gc_e H
  refine GA.callV (m_X10_next hc5) xs_X10_56 dX10_hasSoundKeys_57 (gsT hg2) (by omega) rfl rfl (by omega) (by decide) rfl (Nat.le_of_ble_eq_true rfl) (by omega) (by omega) rfl (fun E S9 hx => hx.elim) (fun v S9 hq => ?_)
  obtain ⟨rfl, rfl⟩ := hq
  refine GA.istore_n dX10_hasSoundKeys_60 (by decide) ?_
  obtain ⟨x6, hx7, H⟩ := gv_e H
  refine GV.iinc hx7 dX10_hasSoundKeys_61 rfl (by decide) ?_
  refine GA.goto (tgt := 11) dX10_hasSoundKeys_64 (by decide) ?_
  refine GA.locals [(0, .ref (L a0)), (1, .int (J a1)), (2, .int (J s0)), (3, .int (J x3)), (4, .int (J x6))] ⟨rfl, rfl, rfl, rfl, rfl, trivial⟩ ?_
  exact ih_X10_hasSoundKeys_11 _ _ (a0) (a1) (s0) (x3) (x6) _ _ H
theorem g_X10_hasSoundKeys {l : Launch} {Z : XZ} {L : Nat → Nat} : ∀ n, P_X10_hasSoundKeys_0 l Z L n ∧ P_X10_hasSoundKeys_11 l Z L n ∧ P_X10_hasSoundKeys_53 l Z L n
  | 0 => ⟨fun _ _ _ _ _ _ H => no_e H, fun _ _ _ _ _ _ _ _ _ H => no_e H, fun _ _ _ _ _ _ _ _ _ H => no_e H⟩
  | n + 1 => have ⟨h0, h1, h2⟩ := g_X10_hasSoundKeys (l := l) (Z := Z) (L := L) n
    ⟨t_X10_hasSoundKeys_0 n h0 h1 h2, t_X10_hasSoundKeys_11 n h0 h1 h2, t_X10_hasSoundKeys_53 n h0 h1 h2⟩
theorem m_X10_hasSoundKeys {l : Launch} {Z : XZ} {L : Nat → Nat} {n d : Nat} {S : GS} {a0 : Nat} {a1 : Int} {x : Int} {S1 : GS} (H : f_X10_hasSoundKeys n d 0 S [((a0 : Nat) : Int), a1] = some (x, S1)) : GM l Z L yX10_hasSoundKeys cX10_hasSoundKeys 5 (some .boolean) [] d 0 0 [.ref (L a0), .int (J a1)] S (fun v S' => v = some (.int (J x)) ∧ S1 = S') (fun _ _ => False) := GM.of (by decide) (Nat.le_of_ble_eq_true rfl) ((g_X10_hasSoundKeys n).1 _ _ _ _ _ _ H)

def P_X10_hasSoundSigns_0 (l : Launch) (Z : XZ) (L : Nat → Nat) (n : Nat) : Prop := ∀ (d : Nat) (S : GS) (a0 : Nat) (a1 : Int) (x : Int) (S1 : GS), f_X10_hasSoundSigns n d 0 S [((a0 : Nat) : Int), a1] = some (x, S1) → GA l Z L yX10_hasSoundSigns cX10_hasSoundSigns 5 (some .boolean) [] d 0 0 (fun v S' => v = some (.int (J x)) ∧ S1 = S') (fun _ _ => False) 0 (gl [(0, .ref (L a0)), (1, .int (J a1))]) [] S 0 0
def P_X10_hasSoundSigns_18 (l : Launch) (Z : XZ) (L : Nat → Nat) (n : Nat) : Prop := ∀ (d : Nat) (S : GS) (a0 : Nat) (a1 : Int) (s0 : Int) (x : Int) (S1 : GS), f_X10_hasSoundSigns n d 18 S [((a0 : Nat) : Int), a1, s0] = some (x, S1) → GA l Z L yX10_hasSoundSigns cX10_hasSoundSigns 5 (some .boolean) [] d 0 0 (fun v S' => v = some (.int (J x)) ∧ S1 = S') (fun _ _ => False) 18 (gl [(0, .ref (L a0)), (1, .int (J a1))]) [.int (J s0)] S 0 0
def P_X10_hasSoundSigns_68 (l : Launch) (Z : XZ) (L : Nat → Nat) (n : Nat) : Prop := ∀ (d : Nat) (S : GS) (a0 : Nat) (a1 : Int) (s0 : Int) (x : Int) (S1 : GS), f_X10_hasSoundSigns n d 68 S [((a0 : Nat) : Int), a1, s0] = some (x, S1) → GA l Z L yX10_hasSoundSigns cX10_hasSoundSigns 5 (some .boolean) [] d 0 0 (fun v S' => v = some (.int (J x)) ∧ S1 = S') (fun _ _ => False) 68 (gl [(0, .ref (L a0)), (1, .int (J a1))]) [.int (J s0)] S 0 0
def P_X10_hasSoundSigns_120 (l : Launch) (Z : XZ) (L : Nat → Nat) (n : Nat) : Prop := ∀ (d : Nat) (S : GS) (a0 : Nat) (a1 : Int) (s0 : Int) (x : Int) (S1 : GS), f_X10_hasSoundSigns n d 120 S [((a0 : Nat) : Int), a1, s0] = some (x, S1) → GA l Z L yX10_hasSoundSigns cX10_hasSoundSigns 5 (some .boolean) [] d 0 0 (fun v S' => v = some (.int (J x)) ∧ S1 = S') (fun _ _ => False) 120 (gl [(0, .ref (L a0)), (1, .int (J a1))]) [.int (J s0)] S 0 0
theorem i_X10_hasSoundSigns {l : Launch} {Z : XZ} {L : Nat → Nat} {n : Nat} (ih : P_X10_hasSoundSigns_0 l Z L n) {d : Nat} {S : GS} {a0 : Nat} {a1 : Int} {x : Int} {S1 : GS} (H : f_X10_hasSoundSigns n d 0 S [((a0 : Nat) : Int), a1] = some (x, S1)) : GM l Z L yX10_hasSoundSigns cX10_hasSoundSigns 5 (some .boolean) [] d 0 0 [.ref (L a0), .int (J a1)] S (fun v S' => v = some (.int (J x)) ∧ S1 = S') (fun _ _ => False) := GM.of (by decide) (Nat.le_of_ble_eq_true rfl) (ih _ _ _ _ _ _ H)
set_option maxHeartbeats 4000000 in
set_option maxRecDepth 20000 in
theorem t_X10_hasSoundSigns_0 {l : Launch} {Z : XZ} {L : Nat → Nat} (n : Nat) (ih_X10_hasSoundSigns_0 : P_X10_hasSoundSigns_0 l Z L n) (ih_X10_hasSoundSigns_18 : P_X10_hasSoundSigns_18 l Z L n) (ih_X10_hasSoundSigns_68 : P_X10_hasSoundSigns_68 l Z L n) (ih_X10_hasSoundSigns_120 : P_X10_hasSoundSigns_120 l Z L n) : P_X10_hasSoundSigns_0 l Z L (n + 1) := by
  intro d S a0 a1 x S1 H
  have H : b_X10_hasSoundSigns_0 n d (f_X10_hasSoundSigns n) S a0 a1 = some (x, S1) := H
  unfold b_X10_hasSoundSigns_0 at H
  refine GA.aload_n dX10_hasSoundSigns_0 rfl ?_
  refine GA.iload_n dX10_hasSoundSigns_1 rfl ?_
  obtain ⟨hg1, H⟩ := gg_e H
  obtain ⟨hg2, H⟩ := gg_e H
  obtain ⟨x3, S_4, hc5, H⟩ := gc_e H
  refine GA.callV (m_X10_has hc5) xs_X10_105 dX10_hasSoundSigns_2 (gsT hg2) (by omega) rfl rfl (by omega) (by decide) rfl (Nat.le_of_ble_eq_true rfl) (by omega) (by omega) rfl (fun E S9 hx => hx.elim) (fun v S9 hq => ?_)
  obtain ⟨rfl, rfl⟩ := hq
  obtain ⟨hg6, H⟩ := gg_e H
  refine GV.if_eq (tgt := 17) hg6 dX10_hasSoundSigns_5 (by decide) (fun c7 => ?_) (fun c7 => ?_)
  · have H := it_t H c7
    refine GA.iconst dX10_hasSoundSigns_17 ?_
    refine GA.locals [(0, .ref (L a0)), (1, .int (J a1))] ⟨rfl, rfl, trivial⟩ ?_
    exact ih_X10_hasSoundSigns_18 _ _ (a0) (a1) ((-1)) _ _ H
  · have H := it_f H c7
    refine GA.aload_n dX10_hasSoundSigns_8 rfl ?_
    refine GA.get xf_X10_21 dX10_hasSoundSigns_9 (gsT hg2) (by omega) rfl ?_
    refine GA.iload_n dX10_hasSoundSigns_12 rfl ?_
    obtain ⟨hg8, H⟩ := gg_e H
    obtain ⟨x9, hx10, H⟩ := gv_e H
    refine GV.iald hg8 hx10 dX10_hasSoundSigns_13 (gsT4 hg2) (by omega) ?_
    refine GA.goto (tgt := 18) dX10_hasSoundSigns_14 (by decide) ?_
    refine GA.locals [(0, .ref (L a0)), (1, .int (J a1))] ⟨rfl, rfl, trivial⟩ ?_
    exact ih_X10_hasSoundSigns_18 _ _ (a0) (a1) (x9) _ _ H
set_option maxHeartbeats 4000000 in
set_option maxRecDepth 20000 in
theorem t_X10_hasSoundSigns_18 {l : Launch} {Z : XZ} {L : Nat → Nat} (n : Nat) (ih_X10_hasSoundSigns_0 : P_X10_hasSoundSigns_0 l Z L n) (ih_X10_hasSoundSigns_18 : P_X10_hasSoundSigns_18 l Z L n) (ih_X10_hasSoundSigns_68 : P_X10_hasSoundSigns_68 l Z L n) (ih_X10_hasSoundSigns_120 : P_X10_hasSoundSigns_120 l Z L n) : P_X10_hasSoundSigns_18 l Z L (n + 1) := by
  intro d S a0 a1 s0 x S1 H
  have H : b_X10_hasSoundSigns_18 n d (f_X10_hasSoundSigns n) S a0 a1 s0 = some (x, S1) := H
  unfold b_X10_hasSoundSigns_18 at H
  refine GA.istore_n dX10_hasSoundSigns_18 (by decide) ?_
  refine GA.aload_n dX10_hasSoundSigns_19 rfl ?_
  refine GA.iload_n dX10_hasSoundSigns_20 rfl ?_
  refine GA.iconst dX10_hasSoundSigns_21 ?_
  obtain ⟨hg1, H⟩ := gg_e H
  obtain ⟨hg2, H⟩ := gg_e H
  obtain ⟨x3, S_4, hc5, H⟩ := gc_e H
  refine GA.callV (m_X10_is hc5) xs_X10_42 dX10_hasSoundSigns_22 (gsT hg2) (by omega) rfl rfl (by omega) (by decide) rfl (Nat.le_of_ble_eq_true rfl) (by omega) (by omega) rfl (fun E S9 hx => hx.elim) (fun v S9 hq => ?_)
  obtain ⟨rfl, rfl⟩ := hq
  obtain ⟨hg6, H⟩ := gg_e H
  refine GV.if_eq (tgt := 44) hg6 dX10_hasSoundSigns_25 (by decide) (fun c7 => ?_) (fun c7 => ?_)
  · have H := it_t H c7
    refine GA.aload_n dX10_hasSoundSigns_44 rfl ?_
    refine GA.iload_n dX10_hasSoundSigns_45 rfl ?_
    refine GA.iconst dX10_hasSoundSigns_46 ?_
    obtain ⟨x8, S_9, hc10, H⟩ := gc_e H
    refine GA.callV (m_X10_is hc10) xs_X10_42 dX10_hasSoundSigns_47 (gsT hg2) (by omega) rfl rfl (by omega) (by decide) rfl (Nat.le_of_ble_eq_true rfl) (by omega) (by omega) rfl (fun E S9 hx => hx.elim) (fun v S9 hq => ?_)
    obtain ⟨rfl, rfl⟩ := hq
    obtain ⟨hg11, H⟩ := gg_e H
    refine GV.if_ne (tgt := 55) hg11 dX10_hasSoundSigns_50 (by decide) (fun c12 => ?_) (fun c12 => ?_)
    · have H := it_t H c12
      refine GA.aload_n dX10_hasSoundSigns_55 rfl ?_
      refine GA.iload_n dX10_hasSoundSigns_56 rfl ?_
      obtain ⟨x13, S_14, hc15, H⟩ := gc_e H
      refine GA.callV (m_X10_signOf hc15) xs_X10_93 dX10_hasSoundSigns_57 (gsT hg2) (by omega) rfl rfl (by omega) (by decide) rfl (Nat.le_of_ble_eq_true rfl) (by omega) (by omega) rfl (fun E S9 hx => hx.elim) (fun v S9 hq => ?_)
      obtain ⟨rfl, rfl⟩ := hq
      obtain ⟨hg16, H⟩ := gg_e H
      refine GV.if_ne (tgt := 67) hg16 dX10_hasSoundSigns_60 (by decide) (fun c17 => ?_) (fun c17 => ?_)
      · have H := it_t H c17
        refine GA.iconst dX10_hasSoundSigns_67 ?_
        refine GA.locals [(0, .ref (L a0)), (1, .int (J a1))] ⟨rfl, rfl, trivial⟩ ?_
        exact ih_X10_hasSoundSigns_68 _ _ (a0) (a1) (0) _ _ H
      · have H := it_f H c17
        refine GA.iconst dX10_hasSoundSigns_63 ?_
        refine GA.goto (tgt := 68) dX10_hasSoundSigns_64 (by decide) ?_
        refine GA.locals [(0, .ref (L a0)), (1, .int (J a1))] ⟨rfl, rfl, trivial⟩ ?_
        exact ih_X10_hasSoundSigns_68 _ _ (a0) (a1) (1) _ _ H
    · have H := it_f H c12
      refine GA.iconst dX10_hasSoundSigns_53 ?_
      cases H
      exact GV.zret (by decide) rfl dX10_hasSoundSigns_54 (by omega) (by omega) ⟨rfl, rfl⟩
  · have H := it_f H c7
    refine GA.iload_n dX10_hasSoundSigns_28 rfl ?_
    obtain ⟨hg18, H⟩ := gg_e H
    refine GV.if_lt (tgt := 42) hg18 dX10_hasSoundSigns_29 (by decide) (fun c19 => ?_) (fun c19 => ?_)
    · have H := it_t H c19
      refine GA.iconst dX10_hasSoundSigns_42 ?_
      cases H
      exact GV.zret (by decide) rfl dX10_hasSoundSigns_43 (by omega) (by omega) ⟨rfl, rfl⟩
    · have H := it_f H c19
      refine GA.iload_n dX10_hasSoundSigns_32 rfl ?_
      refine GA.bipush dX10_hasSoundSigns_33 rfl ?_
      refine GV.icmp_gt (tgt := 42) hg18 (by decide) dX10_hasSoundSigns_35 (by decide) (fun c20 => ?_) (fun c20 => ?_)
      · have H := it_t H c20
        refine GA.iconst dX10_hasSoundSigns_42 ?_
        cases H
        exact GV.zret (by decide) rfl dX10_hasSoundSigns_43 (by omega) (by omega) ⟨rfl, rfl⟩
      · have H := it_f H c20
        refine GA.iconst dX10_hasSoundSigns_38 ?_
        refine GA.goto (tgt := 43) dX10_hasSoundSigns_39 (by decide) ?_
        cases H
        exact GV.zret (by decide) rfl dX10_hasSoundSigns_43 (by omega) (by omega) ⟨rfl, rfl⟩
set_option maxHeartbeats 4000000 in
set_option maxRecDepth 20000 in
theorem t_X10_hasSoundSigns_68 {l : Launch} {Z : XZ} {L : Nat → Nat} (n : Nat) (ih_X10_hasSoundSigns_0 : P_X10_hasSoundSigns_0 l Z L n) (ih_X10_hasSoundSigns_18 : P_X10_hasSoundSigns_18 l Z L n) (ih_X10_hasSoundSigns_68 : P_X10_hasSoundSigns_68 l Z L n) (ih_X10_hasSoundSigns_120 : P_X10_hasSoundSigns_120 l Z L n) : P_X10_hasSoundSigns_68 l Z L (n + 1) := by
  intro d S a0 a1 s0 x S1 H
  have H : b_X10_hasSoundSigns_68 n d (f_X10_hasSoundSigns n) S a0 a1 s0 = some (x, S1) := H
  unfold b_X10_hasSoundSigns_68 at H
  refine GA.istore_n dX10_hasSoundSigns_68 (by decide) ?_
  refine GA.iload_n dX10_hasSoundSigns_69 rfl ?_
  obtain ⟨hg1, H⟩ := gg_e H
  refine GV.if_eq (tgt := 98) hg1 dX10_hasSoundSigns_70 (by decide) (fun c2 => ?_) (fun c2 => ?_)
  · have H := it_t H c2
    refine GA.aload_n dX10_hasSoundSigns_98 rfl ?_
    refine GA.iload_n dX10_hasSoundSigns_99 rfl ?_
    refine GA.aload_n dX10_hasSoundSigns_100 rfl ?_
    refine GA.iload_n dX10_hasSoundSigns_101 rfl ?_
    obtain ⟨hg3, H⟩ := gg_e H
    obtain ⟨hg4, H⟩ := gg_e H
    obtain ⟨x5, S_6, hc7, H⟩ := gc_e H
    refine GA.callV (m_X10_figures hc7) xs_X10_90 dX10_hasSoundSigns_102 (gsT hg4) (by omega) rfl rfl (by omega) (by decide) rfl (Nat.le_of_ble_eq_true rfl) (by omega) (by omega) rfl (fun E S9 hx => hx.elim) (fun v S9 hq => ?_)
    obtain ⟨rfl, rfl⟩ := hq
    refine GA.iconst dX10_hasSoundSigns_105 ?_
    obtain ⟨x8, hx9, H⟩ := gv_e H
    refine GV.isub hx9 dX10_hasSoundSigns_106 ?_
    obtain ⟨x10, S_11, hc12, H⟩ := gc_e H
    refine GA.callV (m_X10_digit hc12) xs_X10_108 dX10_hasSoundSigns_107 (gsT hg4) (by omega) rfl rfl (by omega) (by decide) rfl (Nat.le_of_ble_eq_true rfl) (by omega) (by omega) rfl (fun E S9 hx => hx.elim) (fun v S9 hq => ?_)
    obtain ⟨rfl, rfl⟩ := hq
    refine GA.bipush dX10_hasSoundSigns_110 rfl ?_
    obtain ⟨hg13, H⟩ := gg_e H
    refine GV.icmp_eq (tgt := 119) hg13 (by decide) dX10_hasSoundSigns_112 (by decide) (fun c14 => ?_) (fun c14 => ?_)
    · have H := it_t H c14
      refine GA.iconst dX10_hasSoundSigns_119 ?_
      refine GA.locals [(0, .ref (L a0)), (1, .int (J a1))] ⟨rfl, rfl, trivial⟩ ?_
      exact ih_X10_hasSoundSigns_120 _ _ (a0) (a1) (0) _ _ H
    · have H := it_f H c14
      refine GA.iconst dX10_hasSoundSigns_115 ?_
      refine GA.goto (tgt := 120) dX10_hasSoundSigns_116 (by decide) ?_
      refine GA.locals [(0, .ref (L a0)), (1, .int (J a1))] ⟨rfl, rfl, trivial⟩ ?_
      exact ih_X10_hasSoundSigns_120 _ _ (a0) (a1) (1) _ _ H
  · have H := it_f H c2
    refine GA.aload_n dX10_hasSoundSigns_73 rfl ?_
    refine GA.iload_n dX10_hasSoundSigns_74 rfl ?_
    obtain ⟨hg15, H⟩ := gg_e H
    obtain ⟨hg16, H⟩ := gg_e H
    obtain ⟨x17, S_18, hc19, H⟩ := gc_e H
    refine GA.callV (m_X10_power hc19) xs_X10_87 dX10_hasSoundSigns_75 (gsT hg16) (by omega) rfl rfl (by omega) (by decide) rfl (Nat.le_of_ble_eq_true rfl) (by omega) (by omega) rfl (fun E S9 hx => hx.elim) (fun v S9 hq => ?_)
    obtain ⟨rfl, rfl⟩ := hq
    obtain ⟨hg20, H⟩ := gg_e H
    refine GV.if_ne (tgt := 94) hg20 dX10_hasSoundSigns_78 (by decide) (fun c21 => ?_) (fun c21 => ?_)
    · have H := it_t H c21
      refine GA.iconst dX10_hasSoundSigns_94 ?_
      refine GA.goto (tgt := 120) dX10_hasSoundSigns_95 (by decide) ?_
      refine GA.locals [(0, .ref (L a0)), (1, .int (J a1))] ⟨rfl, rfl, trivial⟩ ?_
      exact ih_X10_hasSoundSigns_120 _ _ (a0) (a1) (0) _ _ H
    · have H := it_f H c21
      refine GA.aload_n dX10_hasSoundSigns_81 rfl ?_
      refine GA.iload_n dX10_hasSoundSigns_82 rfl ?_
      obtain ⟨x22, S_23, hc24, H⟩ := gc_e H
      refine GA.callV (m_X10_figures hc24) xs_X10_90 dX10_hasSoundSigns_83 (gsT hg16) (by omega) rfl rfl (by omega) (by decide) rfl (Nat.le_of_ble_eq_true rfl) (by omega) (by omega) rfl (fun E S9 hx => hx.elim) (fun v S9 hq => ?_)
      obtain ⟨rfl, rfl⟩ := hq
      refine GA.iconst dX10_hasSoundSigns_86 ?_
      obtain ⟨hg25, H⟩ := gg_e H
      refine GV.icmp_ne (tgt := 94) hg25 (by decide) dX10_hasSoundSigns_87 (by decide) (fun c26 => ?_) (fun c26 => ?_)
      · have H := it_t H c26
        refine GA.iconst dX10_hasSoundSigns_94 ?_
        refine GA.goto (tgt := 120) dX10_hasSoundSigns_95 (by decide) ?_
        refine GA.locals [(0, .ref (L a0)), (1, .int (J a1))] ⟨rfl, rfl, trivial⟩ ?_
        exact ih_X10_hasSoundSigns_120 _ _ (a0) (a1) (0) _ _ H
      · have H := it_f H c26
        refine GA.iconst dX10_hasSoundSigns_90 ?_
        refine GA.goto (tgt := 120) dX10_hasSoundSigns_91 (by decide) ?_
        refine GA.locals [(0, .ref (L a0)), (1, .int (J a1))] ⟨rfl, rfl, trivial⟩ ?_
        exact ih_X10_hasSoundSigns_120 _ _ (a0) (a1) (1) _ _ H
set_option maxHeartbeats 4000000 in
set_option maxRecDepth 20000 in
theorem t_X10_hasSoundSigns_120 {l : Launch} {Z : XZ} {L : Nat → Nat} (n : Nat) (ih_X10_hasSoundSigns_0 : P_X10_hasSoundSigns_0 l Z L n) (ih_X10_hasSoundSigns_18 : P_X10_hasSoundSigns_18 l Z L n) (ih_X10_hasSoundSigns_68 : P_X10_hasSoundSigns_68 l Z L n) (ih_X10_hasSoundSigns_120 : P_X10_hasSoundSigns_120 l Z L n) : P_X10_hasSoundSigns_120 l Z L (n + 1) := by
  intro d S a0 a1 s0 x S1 H
  have H : b_X10_hasSoundSigns_120 n d (f_X10_hasSoundSigns n) S a0 a1 s0 = some (x, S1) := H
  unfold b_X10_hasSoundSigns_120 at H
  refine GA.istore dX10_hasSoundSigns_120 (by decide) ?_
  refine GA.iload dX10_hasSoundSigns_122 rfl ?_
  obtain ⟨hg1, H⟩ := gg_e H
  refine GV.if_eq (tgt := 154) hg1 dX10_hasSoundSigns_124 (by decide) (fun c2 => ?_) (fun c2 => ?_)
  · have H := it_t H c2
    refine GA.iconst dX10_hasSoundSigns_154 ?_
    cases H
    exact GV.zret (by decide) rfl dX10_hasSoundSigns_155 (by omega) (by omega) ⟨rfl, rfl⟩
  · have H := it_f H c2
    refine GA.aload_n dX10_hasSoundSigns_127 rfl ?_
    refine GA.iload_n dX10_hasSoundSigns_128 rfl ?_
    obtain ⟨hg3, H⟩ := gg_e H
    obtain ⟨hg4, H⟩ := gg_e H
    obtain ⟨x5, S_6, hc7, H⟩ := gc_e H
    refine GA.callV (m_X10_figures hc7) xs_X10_90 dX10_hasSoundSigns_129 (gsT hg4) (by omega) rfl rfl (by omega) (by decide) rfl (Nat.le_of_ble_eq_true rfl) (by omega) (by omega) rfl (fun E S9 hx => hx.elim) (fun v S9 hq => ?_)
    obtain ⟨rfl, rfl⟩ := hq
    refine GA.bipush dX10_hasSoundSigns_132 rfl ?_
    obtain ⟨hg8, H⟩ := gg_e H
    refine GV.icmp_gt (tgt := 154) hg8 (by decide) dX10_hasSoundSigns_134 (by decide) (fun c9 => ?_) (fun c9 => ?_)
    · have H := it_t H c9
      refine GA.iconst dX10_hasSoundSigns_154 ?_
      cases H
      exact GV.zret (by decide) rfl dX10_hasSoundSigns_155 (by omega) (by omega) ⟨rfl, rfl⟩
    · have H := it_f H c9
      refine GA.aload_n dX10_hasSoundSigns_137 rfl ?_
      refine GA.iload_n dX10_hasSoundSigns_138 rfl ?_
      obtain ⟨x10, S_11, hc12, H⟩ := gc_e H
      refine GA.callV (m_X10_power hc12) xs_X10_87 dX10_hasSoundSigns_139 (gsT hg4) (by omega) rfl rfl (by omega) (by decide) rfl (Nat.le_of_ble_eq_true rfl) (by omega) (by omega) rfl (fun E S9 hx => hx.elim) (fun v S9 hq => ?_)
      obtain ⟨rfl, rfl⟩ := hq
      obtain ⟨hg13, H⟩ := gg_e H
      obtain ⟨x14, hx15, H⟩ := gv_e H
      refine GV.mabs hg13 hx15 xs_X10_111 dX10_hasSoundSigns_142 (Nat.le_of_ble_eq_true rfl) (by omega) (by omega) ?_
      refine GA.bipush dX10_hasSoundSigns_145 rfl ?_
      obtain ⟨hg16, H⟩ := gg_e H
      refine GV.icmp_gt (tgt := 154) hg16 (by decide) dX10_hasSoundSigns_147 (by decide) (fun c17 => ?_) (fun c17 => ?_)
      · have H := it_t H c17
        refine GA.iconst dX10_hasSoundSigns_154 ?_
        cases H
        exact GV.zret (by decide) rfl dX10_hasSoundSigns_155 (by omega) (by omega) ⟨rfl, rfl⟩
      · have H := it_f H c17
        refine GA.iconst dX10_hasSoundSigns_150 ?_
        refine GA.goto (tgt := 155) dX10_hasSoundSigns_151 (by decide) ?_
        cases H
        exact GV.zret (by decide) rfl dX10_hasSoundSigns_155 (by omega) (by omega) ⟨rfl, rfl⟩
theorem g_X10_hasSoundSigns {l : Launch} {Z : XZ} {L : Nat → Nat} : ∀ n, P_X10_hasSoundSigns_0 l Z L n ∧ P_X10_hasSoundSigns_18 l Z L n ∧ P_X10_hasSoundSigns_68 l Z L n ∧ P_X10_hasSoundSigns_120 l Z L n
  | 0 => ⟨fun _ _ _ _ _ _ H => no_e H, fun _ _ _ _ _ _ _ H => no_e H, fun _ _ _ _ _ _ _ H => no_e H, fun _ _ _ _ _ _ _ H => no_e H⟩
  | n + 1 => have ⟨h0, h1, h2, h3⟩ := g_X10_hasSoundSigns (l := l) (Z := Z) (L := L) n
    ⟨t_X10_hasSoundSigns_0 n h0 h1 h2 h3, t_X10_hasSoundSigns_18 n h0 h1 h2 h3, t_X10_hasSoundSigns_68 n h0 h1 h2 h3, t_X10_hasSoundSigns_120 n h0 h1 h2 h3⟩
theorem m_X10_hasSoundSigns {l : Launch} {Z : XZ} {L : Nat → Nat} {n d : Nat} {S : GS} {a0 : Nat} {a1 : Int} {x : Int} {S1 : GS} (H : f_X10_hasSoundSigns n d 0 S [((a0 : Nat) : Int), a1] = some (x, S1)) : GM l Z L yX10_hasSoundSigns cX10_hasSoundSigns 5 (some .boolean) [] d 0 0 [.ref (L a0), .int (J a1)] S (fun v S' => v = some (.int (J x)) ∧ S1 = S') (fun _ _ => False) := GM.of (by decide) (Nat.le_of_ble_eq_true rfl) ((g_X10_hasSoundSigns n).1 _ _ _ _ _ _ H)

def P_X10_splice_0 (l : Launch) (Z : XZ) (L : Nat → Nat) (n : Nat) : Prop := ∀ (d : Nat) (S : GS) (a0 : Nat) (a1 : Int) (a2 : Int) (a3 : Int) (a4 : Nat) (a5 : Int) (a6 : Int) (x : Int) (S1 : GS), f_X10_splice n d 0 S [((a0 : Nat) : Int), a1, a2, a3, ((a4 : Nat) : Int), a5, a6] = some (x, S1) → GA l Z L yX10_splice cX10_splice 9 (some .boolean) [] d 0 0 (fun v S' => v = some (.int (J x)) ∧ S1 = S') (fun _ _ => False) 0 (gl [(0, .ref (L a0)), (1, .int (J a1)), (2, .int (J a2)), (3, .int (J a3)), (4, .ref (L a4)), (5, .int (J a5)), (6, .int (J a6))]) [] S 0 0
def P_X10_splice_111 (l : Launch) (Z : XZ) (L : Nat → Nat) (n : Nat) : Prop := ∀ (d : Nat) (S : GS) (a0 : Nat) (a1 : Int) (a3 : Int) (a6 : Int) (a8 : Int) (x : Int) (S1 : GS), f_X10_splice n d 111 S [((a0 : Nat) : Int), a1, a3, a6, a8] = some (x, S1) → GA l Z L yX10_splice cX10_splice 9 (some .boolean) [] d 0 0 (fun v S' => v = some (.int (J x)) ∧ S1 = S') (fun _ _ => False) 111 (gl [(0, .ref (L a0)), (1, .int (J a1)), (3, .int (J a3)), (6, .int (J a6)), (8, .int (J a8))]) [] S 0 0
theorem i_X10_splice {l : Launch} {Z : XZ} {L : Nat → Nat} {n : Nat} (ih : P_X10_splice_0 l Z L n) {d : Nat} {S : GS} {a0 : Nat} {a1 : Int} {a2 : Int} {a3 : Int} {a4 : Nat} {a5 : Int} {a6 : Int} {x : Int} {S1 : GS} (H : f_X10_splice n d 0 S [((a0 : Nat) : Int), a1, a2, a3, ((a4 : Nat) : Int), a5, a6] = some (x, S1)) : GM l Z L yX10_splice cX10_splice 9 (some .boolean) [] d 0 0 [.ref (L a0), .int (J a1), .int (J a2), .int (J a3), .ref (L a4), .int (J a5), .int (J a6)] S (fun v S' => v = some (.int (J x)) ∧ S1 = S') (fun _ _ => False) := GM.of (by decide) (Nat.le_of_ble_eq_true rfl) (ih _ _ _ _ _ _ _ _ _ _ _ H)
set_option maxHeartbeats 4000000 in
set_option maxRecDepth 20000 in
theorem t_X10_splice_0 {l : Launch} {Z : XZ} {L : Nat → Nat} (n : Nat) (ih_X10_splice_0 : P_X10_splice_0 l Z L n) (ih_X10_splice_111 : P_X10_splice_111 l Z L n) : P_X10_splice_0 l Z L (n + 1) := by
  intro d S a0 a1 a2 a3 a4 a5 a6 x S1 H
  have H : b_X10_splice_0 n d (f_X10_splice n) S a0 a1 a2 a3 a4 a5 a6 = some (x, S1) := H
  unfold b_X10_splice_0 at H
  refine GA.iload_n dX10_splice_0 rfl ?_
  refine GA.iload_n dX10_splice_1 rfl ?_
  obtain ⟨x1, hx2, H⟩ := gv_e H
  refine GV.iadd hx2 dX10_splice_2 ?_
  refine GA.istore dX10_splice_3 (by decide) ?_
  refine GA.aload_n dX10_splice_5 rfl ?_
  refine GA.iload_n dX10_splice_6 rfl ?_
  obtain ⟨hg3, H⟩ := gg_e H
  obtain ⟨hg4, H⟩ := gg_e H
  obtain ⟨x5, S_6, hc7, H⟩ := gc_e H
  refine GA.callV (m_X10_has hc7) xs_X10_105 dX10_splice_7 (gsT hg4) (by omega) rfl rfl (by omega) (by decide) rfl (Nat.le_of_ble_eq_true rfl) (by omega) (by omega) rfl (fun E S9 hx => hx.elim) (fun v S9 hq => ?_)
  obtain ⟨rfl, rfl⟩ := hq
  obtain ⟨hg8, H⟩ := gg_e H
  refine GV.if_eq (tgt := 35) hg8 dX10_splice_10 (by decide) (fun c9 => ?_) (fun c9 => ?_)
  · have H := it_t H c9
    refine GA.iconst dX10_splice_35 ?_
    cases H
    exact GV.zret (by decide) rfl dX10_splice_36 (by omega) (by omega) ⟨rfl, rfl⟩
  · have H := it_f H c9
    refine GA.iload_n dX10_splice_13 rfl ?_
    obtain ⟨hg10, H⟩ := gg_e H
    refine GV.if_lt (tgt := 35) hg10 dX10_splice_14 (by decide) (fun c11 => ?_) (fun c11 => ?_)
    · have H := it_t H c11
      refine GA.iconst dX10_splice_35 ?_
      cases H
      exact GV.zret (by decide) rfl dX10_splice_36 (by omega) (by omega) ⟨rfl, rfl⟩
    · have H := it_f H c11
      refine GA.iload_n dX10_splice_17 rfl ?_
      obtain ⟨hg12, H⟩ := gg_e H
      refine GV.if_lt (tgt := 35) hg12 dX10_splice_18 (by decide) (fun c13 => ?_) (fun c13 => ?_)
      · have H := it_t H c13
        refine GA.iconst dX10_splice_35 ?_
        cases H
        exact GV.zret (by decide) rfl dX10_splice_36 (by omega) (by omega) ⟨rfl, rfl⟩
      · have H := it_f H c13
        refine GA.iload dX10_splice_21 rfl ?_
        obtain ⟨hg14, H⟩ := gg_e H
        refine GV.if_lt (tgt := 35) hg14 dX10_splice_23 (by decide) (fun c15 => ?_) (fun c15 => ?_)
        · have H := it_t H c15
          refine GA.iconst dX10_splice_35 ?_
          cases H
          exact GV.zret (by decide) rfl dX10_splice_36 (by omega) (by omega) ⟨rfl, rfl⟩
        · have H := it_f H c15
          refine GA.iload dX10_splice_26 rfl ?_
          refine GA.aload_n dX10_splice_28 rfl ?_
          obtain ⟨x16, hx17, H⟩ := gv_e H
          refine GV.getI hx17 xf_X10_34 dX10_splice_29 (gsT hg4) (by omega) rfl ?_
          obtain ⟨hg18, H⟩ := gg_e H
          obtain ⟨hg19, H⟩ := gg_e H
          refine GV.icmp_le (tgt := 37) hg18 hg19 dX10_splice_32 (by decide) (fun c20 => ?_) (fun c20 => ?_)
          · have H := it_t H c20
            refine GA.aload dX10_splice_37 rfl ?_
            obtain ⟨hg21, H⟩ := gg_e H
            obtain ⟨x22, S_23, hc24, H⟩ := gc_e H
            refine GA.callV (m_X10_isOverfull hc24) xs_X10_196 dX10_splice_39 (gsT hg21) (by omega) rfl rfl (by omega) (by decide) rfl (Nat.le_of_ble_eq_true rfl) (by omega) (by omega) rfl (fun E S9 hx => hx.elim) (fun v S9 hq => ?_)
            obtain ⟨rfl, rfl⟩ := hq
            obtain ⟨hg25, H⟩ := gg_e H
            refine GV.if_ne (tgt := 59) hg25 dX10_splice_42 (by decide) (fun c26 => ?_) (fun c26 => ?_)
            · have H := it_t H c26
              refine GA.aload_n dX10_splice_59 rfl ?_
              refine GA.iconst dX10_splice_60 ?_
              obtain ⟨S_27, hx28, H⟩ := gv_e H
              refine GV.putB (by decide) hx28 (xp_X10_38 (xb_01 _)) dX10_splice_61 (gsT hg4) (by omega) (Nat.le_of_ble_eq_true rfl) (gsT hg4) ?_
              refine GA.iconst dX10_splice_64 ?_
              cases H
              exact GV.zret (by decide) rfl dX10_splice_65 (by omega) (by omega) ⟨rfl, rfl⟩
            · have H := it_f H c26
              refine GA.aload_n dX10_splice_45 rfl ?_
              obtain ⟨x29, hx30, H⟩ := gv_e H
              refine GV.getI hx30 xf_X10_34 dX10_splice_46 (gsT hg4) (by omega) rfl ?_
              refine GA.iload_n dX10_splice_49 rfl ?_
              obtain ⟨x31, hx32, H⟩ := gv_e H
              refine GV.isub hx32 dX10_splice_50 ?_
              refine GA.iload dX10_splice_51 rfl ?_
              obtain ⟨x33, hx34, H⟩ := gv_e H
              refine GV.iadd hx34 dX10_splice_53 ?_
              refine GA.bipush dX10_splice_54 rfl ?_
              obtain ⟨hg35, H⟩ := gg_e H
              refine GV.icmp_le (tgt := 66) hg35 (by decide) dX10_splice_56 (by decide) (fun c36 => ?_) (fun c36 => ?_)
              · have H := it_t H c36
                refine GA.aload_n dX10_splice_66 rfl ?_
                refine GA.iload_n dX10_splice_67 rfl ?_
                refine GA.iload dX10_splice_68 rfl ?_
                obtain ⟨x37, hx38, H⟩ := gv_e H
                refine GV.iadd hx38 dX10_splice_70 ?_
                refine GA.aload_n dX10_splice_71 rfl ?_
                refine GA.iload dX10_splice_72 rfl ?_
                refine GA.aload_n dX10_splice_74 rfl ?_
                obtain ⟨x39, hx40, H⟩ := gv_e H
                refine GV.getI hx40 xf_X10_34 dX10_splice_75 (gsT hg4) (by omega) rfl ?_
                refine GA.iload dX10_splice_78 rfl ?_
                obtain ⟨x41, hx42, H⟩ := gv_e H
                refine GV.isub hx42 dX10_splice_80 ?_
                obtain ⟨x43, S_44, hc45, H⟩ := gc_e H
                refine GA.callV (m_X10_copyNodes hc45) xs_X10_200 dX10_splice_81 (gsT hg4) (by omega) rfl rfl (by omega) (by decide) rfl (Nat.le_of_ble_eq_true rfl) (by omega) (by omega) rfl (fun E S9 hx => hx.elim) (fun v S9 hq => ?_)
                obtain ⟨rfl, rfl⟩ := hq
                refine GA.aload_n dX10_splice_84 rfl ?_
                refine GA.iload_n dX10_splice_85 rfl ?_
                refine GA.aload dX10_splice_86 rfl ?_
                refine GA.iload dX10_splice_88 rfl ?_
                refine GA.iload dX10_splice_90 rfl ?_
                obtain ⟨x46, S_47, hc48, H⟩ := gc_e H
                refine GA.callV (m_X10_copyNodes hc48) xs_X10_200 dX10_splice_92 (gsT hg4) (by omega) rfl rfl (by omega) (by decide) rfl (Nat.le_of_ble_eq_true rfl) (by omega) (by omega) rfl (fun E S9 hx => hx.elim) (fun v S9 hq => ?_)
                obtain ⟨rfl, rfl⟩ := hq
                refine GA.aload_n dX10_splice_95 rfl ?_
                refine GA.dup dX10_splice_96 rfl ?_
                obtain ⟨x49, hx50, H⟩ := gv_e H
                refine GV.getI hx50 xf_X10_34 dX10_splice_97 (gsT hg4) (by omega) rfl ?_
                refine GA.iload dX10_splice_100 rfl ?_
                refine GA.iload_n dX10_splice_102 rfl ?_
                obtain ⟨x51, hx52, H⟩ := gv_e H
                refine GV.isub hx52 dX10_splice_103 ?_
                obtain ⟨x53, hx54, H⟩ := gv_e H
                refine GV.iadd hx54 dX10_splice_104 ?_
                obtain ⟨S_55, hx56, H⟩ := gv_e H
                refine GV.putI hx56 (xp_X10_34 _) dX10_splice_105 (gsT hg4) (by omega) (Nat.le_of_ble_eq_true rfl) (gsT hg4) ?_
                refine GA.iconst dX10_splice_108 ?_
                refine GA.istore dX10_splice_109 (by decide) ?_
                refine GA.locals [(0, .ref (L a0)), (1, .int (J a1)), (3, .int (J a3)), (6, .int (J a6)), (8, .int (J 0))] ⟨rfl, rfl, rfl, rfl, rfl, trivial⟩ ?_
                exact ih_X10_splice_111 _ _ (a0) (a1) (a3) (a6) (0) _ _ H
              · have H := it_f H c36
                refine GA.aload_n dX10_splice_59 rfl ?_
                refine GA.iconst dX10_splice_60 ?_
                obtain ⟨S_57, hx58, H⟩ := gv_e H
                refine GV.putB (by decide) hx58 (xp_X10_38 (xb_01 _)) dX10_splice_61 (gsT hg4) (by omega) (Nat.le_of_ble_eq_true rfl) (gsT hg4) ?_
                refine GA.iconst dX10_splice_64 ?_
                cases H
                exact GV.zret (by decide) rfl dX10_splice_65 (by omega) (by omega) ⟨rfl, rfl⟩
          · have H := it_f H c20
            refine GA.iconst dX10_splice_35 ?_
            cases H
            exact GV.zret (by decide) rfl dX10_splice_36 (by omega) (by omega) ⟨rfl, rfl⟩
set_option maxHeartbeats 4000000 in
set_option maxRecDepth 20000 in
theorem t_X10_splice_111 {l : Launch} {Z : XZ} {L : Nat → Nat} (n : Nat) (ih_X10_splice_0 : P_X10_splice_0 l Z L n) (ih_X10_splice_111 : P_X10_splice_111 l Z L n) : P_X10_splice_111 l Z L (n + 1) := by
  intro d S a0 a1 a3 a6 a8 x S1 H
  have H : b_X10_splice_111 n d (f_X10_splice n) S a0 a1 a3 a6 a8 = some (x, S1) := H
  unfold b_X10_splice_111 at H
  refine GA.iload dX10_splice_111 rfl ?_
  refine GA.iload_n dX10_splice_113 rfl ?_
  obtain ⟨hg1, H⟩ := gg_e H
  obtain ⟨hg2, H⟩ := gg_e H
  refine GV.icmp_gt (tgt := 151) hg1 hg2 dX10_splice_114 (by decide) (fun c3 => ?_) (fun c3 => ?_)
  · have H := it_t H c3
    refine GA.iconst dX10_splice_151 ?_
    cases H
    exact GV.zret (by decide) rfl dX10_splice_152 (by omega) (by omega) ⟨rfl, rfl⟩
  · have H := it_f H c3
    refine GA.iload dX10_splice_117 rfl ?_
    refine GA.aload_n dX10_splice_119 rfl ?_
    obtain ⟨hg4, H⟩ := gg_e H
    refine GA.get xf_X10_15 dX10_splice_120 (gsT hg4) (by omega) rfl ?_
    refine GA.iload dX10_splice_123 rfl ?_
    obtain ⟨hg5, H⟩ := gg_e H
    obtain ⟨x6, hx7, H⟩ := gv_e H
    refine GV.iald hg5 hx7 dX10_splice_125 (gsT2 hg4) (by omega) ?_
    obtain ⟨x8, hx9, H⟩ := gv_e H
    refine GV.iadd hx9 dX10_splice_126 ?_
    refine GA.iload_n dX10_splice_127 rfl ?_
    obtain ⟨hg10, H⟩ := gg_e H
    refine GV.icmp_le (tgt := 145) hg10 hg2 dX10_splice_128 (by decide) (fun c11 => ?_) (fun c11 => ?_)
    · have H := it_t H c11
      obtain ⟨x12, hx13, H⟩ := gv_e H
      refine GV.iinc hx13 dX10_splice_145 rfl (by decide) ?_
      refine GA.goto (tgt := 111) dX10_splice_148 (by decide) ?_
      refine GA.locals [(0, .ref (L a0)), (1, .int (J a1)), (3, .int (J a3)), (6, .int (J a6)), (8, .int (J x12))] ⟨rfl, rfl, rfl, rfl, rfl, trivial⟩ ?_
      exact ih_X10_splice_111 _ _ (a0) (a1) (a3) (a6) (x12) _ _ H
    · have H := it_f H c11
      refine GA.aload_n dX10_splice_131 rfl ?_
      refine GA.get xf_X10_15 dX10_splice_132 (gsT hg4) (by omega) rfl ?_
      refine GA.iload dX10_splice_135 rfl ?_
      refine GA.dup2 dX10_splice_137 rfl rfl ?_
      obtain ⟨x14, hx15, H⟩ := gv_e H
      refine GV.iald hg5 hx15 dX10_splice_138 (gsT2 hg4) (by omega) ?_
      refine GA.iload dX10_splice_139 rfl ?_
      refine GA.iload_n dX10_splice_141 rfl ?_
      obtain ⟨x16, hx17, H⟩ := gv_e H
      refine GV.isub hx17 dX10_splice_142 ?_
      obtain ⟨x18, hx19, H⟩ := gv_e H
      refine GV.iadd hx19 dX10_splice_143 ?_
      obtain ⟨S_20, hx21, H⟩ := gv_e H
      refine GV.iast hg5 hx21 dX10_splice_144 (fun _ => (gsT2 hg4)) (by omega) ?_
      obtain ⟨x22, hx23, H⟩ := gv_e H
      refine GV.iinc hx23 dX10_splice_145 rfl (by decide) ?_
      refine GA.goto (tgt := 111) dX10_splice_148 (by decide) ?_
      refine GA.locals [(0, .ref (L a0)), (1, .int (J a1)), (3, .int (J a3)), (6, .int (J a6)), (8, .int (J x22))] ⟨rfl, rfl, rfl, rfl, rfl, trivial⟩ ?_
      exact ih_X10_splice_111 _ _ (a0) (a1) (a3) (a6) (x22) _ _ H
theorem g_X10_splice {l : Launch} {Z : XZ} {L : Nat → Nat} : ∀ n, P_X10_splice_0 l Z L n ∧ P_X10_splice_111 l Z L n
  | 0 => ⟨fun _ _ _ _ _ _ _ _ _ _ _ H => no_e H, fun _ _ _ _ _ _ _ _ _ H => no_e H⟩
  | n + 1 => have ⟨h0, h1⟩ := g_X10_splice (l := l) (Z := Z) (L := L) n
    ⟨t_X10_splice_0 n h0 h1, t_X10_splice_111 n h0 h1⟩
theorem m_X10_splice {l : Launch} {Z : XZ} {L : Nat → Nat} {n d : Nat} {S : GS} {a0 : Nat} {a1 : Int} {a2 : Int} {a3 : Int} {a4 : Nat} {a5 : Int} {a6 : Int} {x : Int} {S1 : GS} (H : f_X10_splice n d 0 S [((a0 : Nat) : Int), a1, a2, a3, ((a4 : Nat) : Int), a5, a6] = some (x, S1)) : GM l Z L yX10_splice cX10_splice 9 (some .boolean) [] d 0 0 [.ref (L a0), .int (J a1), .int (J a2), .int (J a3), .ref (L a4), .int (J a5), .int (J a6)] S (fun v S' => v = some (.int (J x)) ∧ S1 = S') (fun _ _ => False) := GM.of (by decide) (Nat.le_of_ble_eq_true rfl) ((g_X10_splice n).1 _ _ _ _ _ _ _ _ _ _ _ H)

def P_X10_insert_0 (l : Launch) (Z : XZ) (L : Nat → Nat) (n : Nat) : Prop := ∀ (d : Nat) (S : GS) (a0 : Nat) (a1 : Int) (a2 : Int) (a3 : Nat) (a4 : Int) (x : Int) (S1 : GS), f_X10_insert n d 0 S [((a0 : Nat) : Int), a1, a2, ((a3 : Nat) : Int), a4] = some (x, S1) → GA l Z L yX10_insert cX10_insert 5 none [] d 0 0 (fun v S' => v = none ∧ S1 = S') (fun _ _ => False) 0 (gl [(0, .ref (L a0)), (1, .int (J a1)), (2, .int (J a2)), (3, .ref (L a3)), (4, .int (J a4))]) [] S 0 0
theorem i_X10_insert {l : Launch} {Z : XZ} {L : Nat → Nat} {n : Nat} (ih : P_X10_insert_0 l Z L n) {d : Nat} {S : GS} {a0 : Nat} {a1 : Int} {a2 : Int} {a3 : Nat} {a4 : Int} {x : Int} {S1 : GS} (H : f_X10_insert n d 0 S [((a0 : Nat) : Int), a1, a2, ((a3 : Nat) : Int), a4] = some (x, S1)) : GM l Z L yX10_insert cX10_insert 5 none [] d 0 0 [.ref (L a0), .int (J a1), .int (J a2), .ref (L a3), .int (J a4)] S (fun v S' => v = none ∧ S1 = S') (fun _ _ => False) := GM.of (by decide) (Nat.le_of_ble_eq_true rfl) (ih _ _ _ _ _ _ _ _ _ H)
set_option maxHeartbeats 4000000 in
set_option maxRecDepth 20000 in
theorem t_X10_insert_0 {l : Launch} {Z : XZ} {L : Nat → Nat} (n : Nat) (ih_X10_insert_0 : P_X10_insert_0 l Z L n) : P_X10_insert_0 l Z L (n + 1) := by
  intro d S a0 a1 a2 a3 a4 x S1 H
  have H : b_X10_insert_0 n d (f_X10_insert n) S a0 a1 a2 a3 a4 = some (x, S1) := H
  unfold b_X10_insert_0 at H
  refine GA.aload_n dX10_insert_0 rfl ?_
  refine GA.iload_n dX10_insert_1 rfl ?_
  refine GA.iload_n dX10_insert_2 rfl ?_
  refine GA.iconst dX10_insert_3 ?_
  refine GA.aload_n dX10_insert_4 rfl ?_
  refine GA.iload dX10_insert_5 rfl ?_
  refine GA.aload_n dX10_insert_7 rfl ?_
  refine GA.iload dX10_insert_8 rfl ?_
  obtain ⟨hg1, H⟩ := gg_e H
  obtain ⟨hg2, H⟩ := gg_e H
  obtain ⟨x3, S_4, hc5, H⟩ := gc_e H
  refine GA.callV (m_X10_size hc5) xs_X10_81 dX10_insert_10 (gsT hg2) (by omega) rfl rfl (by omega) (by decide) rfl (Nat.le_of_ble_eq_true rfl) (by omega) (by omega) rfl (fun E S9 hx => hx.elim) (fun v S9 hq => ?_)
  obtain ⟨rfl, rfl⟩ := hq
  obtain ⟨hg6, H⟩ := gg_e H
  obtain ⟨x7, S_8, hc9, H⟩ := gc_e H
  refine GA.callV (m_X10_splice hc9) xs_X10_227 dX10_insert_13 (gsT hg6) (by omega) rfl rfl (by omega) (by decide) rfl (Nat.le_of_ble_eq_true rfl) (by omega) (by omega) rfl (fun E S9 hx => hx.elim) (fun v S9 hq => ?_)
  obtain ⟨rfl, rfl⟩ := hq
  refine GA.pop dX10_insert_16 rfl ?_
  cases H
  exact GA.vret rfl dX10_insert_17 (by omega) (by omega) ⟨rfl, rfl⟩
theorem g_X10_insert {l : Launch} {Z : XZ} {L : Nat → Nat} : ∀ n, P_X10_insert_0 l Z L n
  | 0 => fun _ _ _ _ _ _ _ _ _ H => no_e H
  | n + 1 => t_X10_insert_0 n (g_X10_insert n)
theorem m_X10_insert {l : Launch} {Z : XZ} {L : Nat → Nat} {n d : Nat} {S : GS} {a0 : Nat} {a1 : Int} {a2 : Int} {a3 : Nat} {a4 : Int} {x : Int} {S1 : GS} (H : f_X10_insert n d 0 S [((a0 : Nat) : Int), a1, a2, ((a3 : Nat) : Int), a4] = some (x, S1)) : GM l Z L yX10_insert cX10_insert 5 none [] d 0 0 [.ref (L a0), .int (J a1), .int (J a2), .ref (L a3), .int (J a4)] S (fun v S' => v = none ∧ S1 = S') (fun _ _ => False) := GM.of (by decide) (Nat.le_of_ble_eq_true rfl) ((g_X10_insert n) _ _ _ _ _ _ _ _ _ H)

def P_X10_isDocument_0 (l : Launch) (Z : XZ) (L : Nat → Nat) (n : Nat) : Prop := ∀ (d : Nat) (S : GS) (a0 : Nat) (x : Int) (S1 : GS), f_X10_isDocument n d 0 S [((a0 : Nat) : Int)] = some (x, S1) → GA l Z L yX10_isDocument cX10_isDocument 1 (some .boolean) [] d 0 0 (fun v S' => v = some (.int (J x)) ∧ S1 = S') (fun _ _ => False) 0 (gl [(0, .ref (L a0))]) [] S 0 0
theorem i_X10_isDocument {l : Launch} {Z : XZ} {L : Nat → Nat} {n : Nat} (ih : P_X10_isDocument_0 l Z L n) {d : Nat} {S : GS} {a0 : Nat} {x : Int} {S1 : GS} (H : f_X10_isDocument n d 0 S [((a0 : Nat) : Int)] = some (x, S1)) : GM l Z L yX10_isDocument cX10_isDocument 1 (some .boolean) [] d 0 0 [.ref (L a0)] S (fun v S' => v = some (.int (J x)) ∧ S1 = S') (fun _ _ => False) := GM.of (by decide) (Nat.le_of_ble_eq_true rfl) (ih _ _ _ _ _ H)
set_option maxHeartbeats 4000000 in
set_option maxRecDepth 20000 in
theorem t_X10_isDocument_0 {l : Launch} {Z : XZ} {L : Nat → Nat} (n : Nat) (ih_X10_isDocument_0 : P_X10_isDocument_0 l Z L n) : P_X10_isDocument_0 l Z L (n + 1) := by
  intro d S a0 x S1 H
  have H : b_X10_isDocument_0 n d (f_X10_isDocument n) S a0 = some (x, S1) := H
  unfold b_X10_isDocument_0 at H
  refine GA.aload_n dX10_isDocument_0 rfl ?_
  obtain ⟨hg1, H⟩ := gg_e H
  obtain ⟨x2, hx3, H⟩ := gv_e H
  refine GV.getB hx3 xf_X10_38 dX10_isDocument_1 (gsT hg1) (by omega) rfl ?_
  obtain ⟨hg4, H⟩ := gg_e H
  refine GV.if_ne (tgt := 51) hg4 dX10_isDocument_4 (by decide) (fun c5 => ?_) (fun c5 => ?_)
  · have H := it_t H c5
    refine GA.iconst dX10_isDocument_51 ?_
    cases H
    exact GV.zret (by decide) rfl dX10_isDocument_52 (by omega) (by omega) ⟨rfl, rfl⟩
  · have H := it_f H c5
    refine GA.aload_n dX10_isDocument_7 rfl ?_
    obtain ⟨x6, hx7, H⟩ := gv_e H
    refine GV.getI hx7 xf_X10_34 dX10_isDocument_8 (gsT hg1) (by omega) rfl ?_
    refine GA.iconst dX10_isDocument_11 ?_
    obtain ⟨hg8, H⟩ := gg_e H
    refine GV.icmp_lt (tgt := 51) hg8 (by decide) dX10_isDocument_12 (by decide) (fun c9 => ?_) (fun c9 => ?_)
    · have H := it_t H c9
      refine GA.iconst dX10_isDocument_51 ?_
      cases H
      exact GV.zret (by decide) rfl dX10_isDocument_52 (by omega) (by omega) ⟨rfl, rfl⟩
    · have H := it_f H c9
      refine GA.aload_n dX10_isDocument_15 rfl ?_
      obtain ⟨x10, hx11, H⟩ := gv_e H
      refine GV.getI hx11 xf_X10_34 dX10_isDocument_16 (gsT hg1) (by omega) rfl ?_
      refine GA.bipush dX10_isDocument_19 rfl ?_
      obtain ⟨hg12, H⟩ := gg_e H
      refine GV.icmp_gt (tgt := 51) hg12 (by decide) dX10_isDocument_21 (by decide) (fun c13 => ?_) (fun c13 => ?_)
      · have H := it_t H c13
        refine GA.iconst dX10_isDocument_51 ?_
        cases H
        exact GV.zret (by decide) rfl dX10_isDocument_52 (by omega) (by omega) ⟨rfl, rfl⟩
      · have H := it_f H c13
        refine GA.aload_n dX10_isDocument_24 rfl ?_
        refine GA.iconst dX10_isDocument_25 ?_
        obtain ⟨hg14, H⟩ := gg_e H
        obtain ⟨x15, S_16, hc17, H⟩ := gc_e H
        refine GA.callV (m_X10_size hc17) xs_X10_81 dX10_isDocument_26 (gsT hg1) (by omega) rfl rfl (by omega) (by decide) rfl (Nat.le_of_ble_eq_true rfl) (by omega) (by omega) rfl (fun E S9 hx => hx.elim) (fun v S9 hq => ?_)
        obtain ⟨rfl, rfl⟩ := hq
        refine GA.aload_n dX10_isDocument_29 rfl ?_
        obtain ⟨x18, hx19, H⟩ := gv_e H
        refine GV.getI hx19 xf_X10_34 dX10_isDocument_30 (gsT hg1) (by omega) rfl ?_
        obtain ⟨hg20, H⟩ := gg_e H
        obtain ⟨hg21, H⟩ := gg_e H
        refine GV.icmp_ne (tgt := 51) hg20 hg21 dX10_isDocument_33 (by decide) (fun c22 => ?_) (fun c22 => ?_)
        · have H := it_t H c22
          refine GA.iconst dX10_isDocument_51 ?_
          cases H
          exact GV.zret (by decide) rfl dX10_isDocument_52 (by omega) (by omega) ⟨rfl, rfl⟩
        · have H := it_f H c22
          refine GA.aload_n dX10_isDocument_36 rfl ?_
          refine GA.iconst dX10_isDocument_37 ?_
          refine GA.iconst dX10_isDocument_38 ?_
          obtain ⟨x23, S_24, hc25, H⟩ := gc_e H
          refine GA.callV (m_X10_depth hc25) xs_X10_78 dX10_isDocument_39 (gsT hg1) (by omega) rfl rfl (by omega) (by decide) rfl (Nat.le_of_ble_eq_true rfl) (by omega) (by omega) rfl (fun E S9 hx => hx.elim) (fun v S9 hq => ?_)
          obtain ⟨rfl, rfl⟩ := hq
          refine GA.bipush dX10_isDocument_42 rfl ?_
          obtain ⟨hg26, H⟩ := gg_e H
          refine GV.icmp_gt (tgt := 51) hg26 (by decide) dX10_isDocument_44 (by decide) (fun c27 => ?_) (fun c27 => ?_)
          · have H := it_t H c27
            refine GA.iconst dX10_isDocument_51 ?_
            cases H
            exact GV.zret (by decide) rfl dX10_isDocument_52 (by omega) (by omega) ⟨rfl, rfl⟩
          · have H := it_f H c27
            refine GA.iconst dX10_isDocument_47 ?_
            refine GA.goto (tgt := 52) dX10_isDocument_48 (by decide) ?_
            cases H
            exact GV.zret (by decide) rfl dX10_isDocument_52 (by omega) (by omega) ⟨rfl, rfl⟩
theorem g_X10_isDocument {l : Launch} {Z : XZ} {L : Nat → Nat} : ∀ n, P_X10_isDocument_0 l Z L n
  | 0 => fun _ _ _ _ _ H => no_e H
  | n + 1 => t_X10_isDocument_0 n (g_X10_isDocument n)
theorem m_X10_isDocument {l : Launch} {Z : XZ} {L : Nat → Nat} {n d : Nat} {S : GS} {a0 : Nat} {x : Int} {S1 : GS} (H : f_X10_isDocument n d 0 S [((a0 : Nat) : Int)] = some (x, S1)) : GM l Z L yX10_isDocument cX10_isDocument 1 (some .boolean) [] d 0 0 [.ref (L a0)] S (fun v S' => v = some (.int (J x)) ∧ S1 = S') (fun _ _ => False) := GM.of (by decide) (Nat.le_of_ble_eq_true rfl) ((g_X10_isDocument n) _ _ _ _ _ H)

def P_X10_isWithinBounds_0 (l : Launch) (Z : XZ) (L : Nat → Nat) (n : Nat) : Prop := ∀ (d : Nat) (S : GS) (a0 : Nat) (x : Int) (S1 : GS), f_X10_isWithinBounds n d 0 S [((a0 : Nat) : Int)] = some (x, S1) → GA l Z L yX10_isWithinBounds cX10_isWithinBounds 3 (some .boolean) [] d 0 0 (fun v S' => v = some (.int (J x)) ∧ S1 = S') (fun _ _ => False) 0 (gl [(0, .ref (L a0))]) [] S 0 0
def P_X10_isWithinBounds_4 (l : Launch) (Z : XZ) (L : Nat → Nat) (n : Nat) : Prop := ∀ (d : Nat) (S : GS) (a0 : Nat) (a1 : Int) (a2 : Int) (x : Int) (S1 : GS), f_X10_isWithinBounds n d 4 S [((a0 : Nat) : Int), a1, a2] = some (x, S1) → GA l Z L yX10_isWithinBounds cX10_isWithinBounds 3 (some .boolean) [] d 0 0 (fun v S' => v = some (.int (J x)) ∧ S1 = S') (fun _ _ => False) 4 (gl [(0, .ref (L a0)), (1, .int (J a1)), (2, .int (J a2))]) [] S 0 0
theorem i_X10_isWithinBounds {l : Launch} {Z : XZ} {L : Nat → Nat} {n : Nat} (ih : P_X10_isWithinBounds_0 l Z L n) {d : Nat} {S : GS} {a0 : Nat} {x : Int} {S1 : GS} (H : f_X10_isWithinBounds n d 0 S [((a0 : Nat) : Int)] = some (x, S1)) : GM l Z L yX10_isWithinBounds cX10_isWithinBounds 3 (some .boolean) [] d 0 0 [.ref (L a0)] S (fun v S' => v = some (.int (J x)) ∧ S1 = S') (fun _ _ => False) := GM.of (by decide) (Nat.le_of_ble_eq_true rfl) (ih _ _ _ _ _ H)
set_option maxHeartbeats 4000000 in
set_option maxRecDepth 20000 in
theorem t_X10_isWithinBounds_0 {l : Launch} {Z : XZ} {L : Nat → Nat} (n : Nat) (ih_X10_isWithinBounds_0 : P_X10_isWithinBounds_0 l Z L n) (ih_X10_isWithinBounds_4 : P_X10_isWithinBounds_4 l Z L n) : P_X10_isWithinBounds_0 l Z L (n + 1) := by
  intro d S a0 x S1 H
  have H : b_X10_isWithinBounds_0 n d (f_X10_isWithinBounds n) S a0 = some (x, S1) := H
  unfold b_X10_isWithinBounds_0 at H
  refine GA.iconst dX10_isWithinBounds_0 ?_
  refine GA.istore_n dX10_isWithinBounds_1 (by decide) ?_
  refine GA.iconst dX10_isWithinBounds_2 ?_
  refine GA.istore_n dX10_isWithinBounds_3 (by decide) ?_
  refine GA.locals [(0, .ref (L a0)), (1, .int (J 1)), (2, .int (J 0))] ⟨rfl, rfl, rfl, trivial⟩ ?_
  exact ih_X10_isWithinBounds_4 _ _ (a0) (1) (0) _ _ H
set_option maxHeartbeats 4000000 in
set_option maxRecDepth 20000 in
theorem t_X10_isWithinBounds_4 {l : Launch} {Z : XZ} {L : Nat → Nat} (n : Nat) (ih_X10_isWithinBounds_0 : P_X10_isWithinBounds_0 l Z L n) (ih_X10_isWithinBounds_4 : P_X10_isWithinBounds_4 l Z L n) : P_X10_isWithinBounds_4 l Z L (n + 1) := by
  intro d S a0 a1 a2 x S1 H
  have H : b_X10_isWithinBounds_4 n d (f_X10_isWithinBounds n) S a0 a1 a2 = some (x, S1) := H
  unfold b_X10_isWithinBounds_4 at H
  refine GA.iload_n dX10_isWithinBounds_4 rfl ?_
  refine GA.aload_n dX10_isWithinBounds_5 rfl ?_
  obtain ⟨hg1, H⟩ := gg_e H
  obtain ⟨x2, hx3, H⟩ := gv_e H
  refine GV.getI hx3 xf_X10_34 dX10_isWithinBounds_6 (gsT hg1) (by omega) rfl ?_
  obtain ⟨hg4, H⟩ := gg_e H
  obtain ⟨hg5, H⟩ := gg_e H
  refine GV.icmp_ge (tgt := 65) hg4 hg5 dX10_isWithinBounds_9 (by decide) (fun c6 => ?_) (fun c6 => ?_)
  · have H := it_t H c6
    refine GA.iload_n dX10_isWithinBounds_65 rfl ?_
    obtain ⟨hg7, H⟩ := gg_e H
    cases H
    exact GV.zret hg7 rfl dX10_isWithinBounds_66 (by omega) (by omega) ⟨rfl, rfl⟩
  · have H := it_f H c6
    refine GA.iload_n dX10_isWithinBounds_12 rfl ?_
    obtain ⟨hg8, H⟩ := gg_e H
    refine GV.if_eq (tgt := 65) hg8 dX10_isWithinBounds_13 (by decide) (fun c9 => ?_) (fun c9 => ?_)
    · have H := it_t H c9
      refine GA.iload_n dX10_isWithinBounds_65 rfl ?_
      obtain ⟨hg10, H⟩ := gg_e H
      cases H
      exact GV.zret hg10 rfl dX10_isWithinBounds_66 (by omega) (by omega) ⟨rfl, rfl⟩
    · have H := it_f H c9
      refine GA.aload_n dX10_isWithinBounds_16 rfl ?_
      refine GA.iload_n dX10_isWithinBounds_17 rfl ?_
      obtain ⟨hg11, H⟩ := gg_e H
      obtain ⟨x12, S_13, hc14, H⟩ := gc_e H
      refine GA.callV (m_X10_size hc14) xs_X10_81 dX10_isWithinBounds_18 (gsT hg1) (by omega) rfl rfl (by omega) (by decide) rfl (Nat.le_of_ble_eq_true rfl) (by omega) (by omega) rfl (fun E S9 hx => hx.elim) (fun v S9 hq => ?_)
      obtain ⟨rfl, rfl⟩ := hq
      refine GA.iconst dX10_isWithinBounds_21 ?_
      obtain ⟨hg15, H⟩ := gg_e H
      refine GV.icmp_lt (tgt := 57) hg15 (by decide) dX10_isWithinBounds_22 (by decide) (fun c16 => ?_) (fun c16 => ?_)
      · have H := it_t H c16
        refine GA.iconst dX10_isWithinBounds_57 ?_
        refine GA.istore_n dX10_isWithinBounds_58 (by decide) ?_
        obtain ⟨x17, hx18, H⟩ := gv_e H
        refine GV.iinc hx18 dX10_isWithinBounds_59 rfl (by decide) ?_
        refine GA.goto (tgt := 4) dX10_isWithinBounds_62 (by decide) ?_
        refine GA.locals [(0, .ref (L a0)), (1, .int (J 0)), (2, .int (J x17))] ⟨rfl, rfl, rfl, trivial⟩ ?_
        exact ih_X10_isWithinBounds_4 _ _ (a0) (0) (x17) _ _ H
      · have H := it_f H c16
        refine GA.aload_n dX10_isWithinBounds_25 rfl ?_
        refine GA.iload_n dX10_isWithinBounds_26 rfl ?_
        obtain ⟨x19, S_20, hc21, H⟩ := gc_e H
        refine GA.callV (m_X10_after hc21) xs_X10_69 dX10_isWithinBounds_27 (gsT hg1) (by omega) rfl rfl (by omega) (by decide) rfl (Nat.le_of_ble_eq_true rfl) (by omega) (by omega) rfl (fun E S9 hx => hx.elim) (fun v S9 hq => ?_)
        obtain ⟨rfl, rfl⟩ := hq
        refine GA.aload_n dX10_isWithinBounds_30 rfl ?_
        obtain ⟨x22, hx23, H⟩ := gv_e H
        refine GV.getI hx23 xf_X10_34 dX10_isWithinBounds_31 (gsT hg1) (by omega) rfl ?_
        obtain ⟨hg24, H⟩ := gg_e H
        obtain ⟨hg25, H⟩ := gg_e H
        refine GV.icmp_gt (tgt := 57) hg24 hg25 dX10_isWithinBounds_34 (by decide) (fun c26 => ?_) (fun c26 => ?_)
        · have H := it_t H c26
          refine GA.iconst dX10_isWithinBounds_57 ?_
          refine GA.istore_n dX10_isWithinBounds_58 (by decide) ?_
          obtain ⟨x27, hx28, H⟩ := gv_e H
          refine GV.iinc hx28 dX10_isWithinBounds_59 rfl (by decide) ?_
          refine GA.goto (tgt := 4) dX10_isWithinBounds_62 (by decide) ?_
          refine GA.locals [(0, .ref (L a0)), (1, .int (J 0)), (2, .int (J x27))] ⟨rfl, rfl, rfl, trivial⟩ ?_
          exact ih_X10_isWithinBounds_4 _ _ (a0) (0) (x27) _ _ H
        · have H := it_f H c26
          refine GA.aload_n dX10_isWithinBounds_37 rfl ?_
          refine GA.iload_n dX10_isWithinBounds_38 rfl ?_
          obtain ⟨x29, S_30, hc31, H⟩ := gc_e H
          refine GA.callV (m_X10_hasSoundSigns hc31) xs_X10_99 dX10_isWithinBounds_39 (gsT hg1) (by omega) rfl rfl (by omega) (by decide) rfl (Nat.le_of_ble_eq_true rfl) (by omega) (by omega) rfl (fun E S9 hx => hx.elim) (fun v S9 hq => ?_)
          obtain ⟨rfl, rfl⟩ := hq
          obtain ⟨hg32, H⟩ := gg_e H
          refine GV.if_eq (tgt := 57) hg32 dX10_isWithinBounds_42 (by decide) (fun c33 => ?_) (fun c33 => ?_)
          · have H := it_t H c33
            refine GA.iconst dX10_isWithinBounds_57 ?_
            refine GA.istore_n dX10_isWithinBounds_58 (by decide) ?_
            obtain ⟨x34, hx35, H⟩ := gv_e H
            refine GV.iinc hx35 dX10_isWithinBounds_59 rfl (by decide) ?_
            refine GA.goto (tgt := 4) dX10_isWithinBounds_62 (by decide) ?_
            refine GA.locals [(0, .ref (L a0)), (1, .int (J 0)), (2, .int (J x34))] ⟨rfl, rfl, rfl, trivial⟩ ?_
            exact ih_X10_isWithinBounds_4 _ _ (a0) (0) (x34) _ _ H
          · have H := it_f H c33
            refine GA.aload_n dX10_isWithinBounds_45 rfl ?_
            refine GA.iload_n dX10_isWithinBounds_46 rfl ?_
            obtain ⟨x36, S_37, hc38, H⟩ := gc_e H
            refine GA.callV (m_X10_hasSoundKeys hc38) xs_X10_102 dX10_isWithinBounds_47 (gsT hg1) (by omega) rfl rfl (by omega) (by decide) rfl (Nat.le_of_ble_eq_true rfl) (by omega) (by omega) rfl (fun E S9 hx => hx.elim) (fun v S9 hq => ?_)
            obtain ⟨rfl, rfl⟩ := hq
            obtain ⟨hg39, H⟩ := gg_e H
            refine GV.if_eq (tgt := 57) hg39 dX10_isWithinBounds_50 (by decide) (fun c40 => ?_) (fun c40 => ?_)
            · have H := it_t H c40
              refine GA.iconst dX10_isWithinBounds_57 ?_
              refine GA.istore_n dX10_isWithinBounds_58 (by decide) ?_
              obtain ⟨x41, hx42, H⟩ := gv_e H
              refine GV.iinc hx42 dX10_isWithinBounds_59 rfl (by decide) ?_
              refine GA.goto (tgt := 4) dX10_isWithinBounds_62 (by decide) ?_
              refine GA.locals [(0, .ref (L a0)), (1, .int (J 0)), (2, .int (J x41))] ⟨rfl, rfl, rfl, trivial⟩ ?_
              exact ih_X10_isWithinBounds_4 _ _ (a0) (0) (x41) _ _ H
            · have H := it_f H c40
              refine GA.iconst dX10_isWithinBounds_53 ?_
              refine GA.goto (tgt := 58) dX10_isWithinBounds_54 (by decide) ?_
              refine GA.istore_n dX10_isWithinBounds_58 (by decide) ?_
              obtain ⟨x43, hx44, H⟩ := gv_e H
              refine GV.iinc hx44 dX10_isWithinBounds_59 rfl (by decide) ?_
              refine GA.goto (tgt := 4) dX10_isWithinBounds_62 (by decide) ?_
              refine GA.locals [(0, .ref (L a0)), (1, .int (J 1)), (2, .int (J x43))] ⟨rfl, rfl, rfl, trivial⟩ ?_
              exact ih_X10_isWithinBounds_4 _ _ (a0) (1) (x43) _ _ H
theorem g_X10_isWithinBounds {l : Launch} {Z : XZ} {L : Nat → Nat} : ∀ n, P_X10_isWithinBounds_0 l Z L n ∧ P_X10_isWithinBounds_4 l Z L n
  | 0 => ⟨fun _ _ _ _ _ H => no_e H, fun _ _ _ _ _ _ _ H => no_e H⟩
  | n + 1 => have ⟨h0, h1⟩ := g_X10_isWithinBounds (l := l) (Z := Z) (L := L) n
    ⟨t_X10_isWithinBounds_0 n h0 h1, t_X10_isWithinBounds_4 n h0 h1⟩
theorem m_X10_isWithinBounds {l : Launch} {Z : XZ} {L : Nat → Nat} {n d : Nat} {S : GS} {a0 : Nat} {x : Int} {S1 : GS} (H : f_X10_isWithinBounds n d 0 S [((a0 : Nat) : Int)] = some (x, S1)) : GM l Z L yX10_isWithinBounds cX10_isWithinBounds 3 (some .boolean) [] d 0 0 [.ref (L a0)] S (fun v S' => v = some (.int (J x)) ∧ S1 = S') (fun _ _ => False) := GM.of (by decide) (Nat.le_of_ble_eq_true rfl) ((g_X10_isWithinBounds n).1 _ _ _ _ _ H)

def P_X10_keyTo_0 (l : Launch) (Z : XZ) (L : Nat → Nat) (n : Nat) : Prop := ∀ (d : Nat) (S : GS) (a0 : Nat) (a1 : Int) (a2 : Nat) (x : Int) (S1 : GS), f_X10_keyTo n d 0 S [((a0 : Nat) : Int), a1, ((a2 : Nat) : Int)] = some (x, S1) → GA l Z L yX10_keyTo cX10_keyTo 4 none [] d 0 0 (fun v S' => v = none ∧ S1 = S') (fun _ _ => False) 0 (gl [(0, .ref (L a0)), (1, .int (J a1)), (2, .ref (L a2))]) [] S 0 0
def P_X10_keyTo_2 (l : Launch) (Z : XZ) (L : Nat → Nat) (n : Nat) : Prop := ∀ (d : Nat) (S : GS) (a0 : Nat) (a1 : Int) (a2 : Nat) (a3 : Int) (x : Int) (S1 : GS), f_X10_keyTo n d 2 S [((a0 : Nat) : Int), a1, ((a2 : Nat) : Int), a3] = some (x, S1) → GA l Z L yX10_keyTo cX10_keyTo 4 none [] d 0 0 (fun v S' => v = none ∧ S1 = S') (fun _ _ => False) 2 (gl [(0, .ref (L a0)), (1, .int (J a1)), (2, .ref (L a2)), (3, .int (J a3))]) [] S 0 0
theorem i_X10_keyTo {l : Launch} {Z : XZ} {L : Nat → Nat} {n : Nat} (ih : P_X10_keyTo_0 l Z L n) {d : Nat} {S : GS} {a0 : Nat} {a1 : Int} {a2 : Nat} {x : Int} {S1 : GS} (H : f_X10_keyTo n d 0 S [((a0 : Nat) : Int), a1, ((a2 : Nat) : Int)] = some (x, S1)) : GM l Z L yX10_keyTo cX10_keyTo 4 none [] d 0 0 [.ref (L a0), .int (J a1), .ref (L a2)] S (fun v S' => v = none ∧ S1 = S') (fun _ _ => False) := GM.of (by decide) (Nat.le_of_ble_eq_true rfl) (ih _ _ _ _ _ _ _ H)
set_option maxHeartbeats 4000000 in
set_option maxRecDepth 20000 in
theorem t_X10_keyTo_0 {l : Launch} {Z : XZ} {L : Nat → Nat} (n : Nat) (ih_X10_keyTo_0 : P_X10_keyTo_0 l Z L n) (ih_X10_keyTo_2 : P_X10_keyTo_2 l Z L n) : P_X10_keyTo_0 l Z L (n + 1) := by
  intro d S a0 a1 a2 x S1 H
  have H : b_X10_keyTo_0 n d (f_X10_keyTo n) S a0 a1 a2 = some (x, S1) := H
  unfold b_X10_keyTo_0 at H
  refine GA.iconst dX10_keyTo_0 ?_
  refine GA.istore_n dX10_keyTo_1 (by decide) ?_
  refine GA.locals [(0, .ref (L a0)), (1, .int (J a1)), (2, .ref (L a2)), (3, .int (J 0))] ⟨rfl, rfl, rfl, rfl, trivial⟩ ?_
  exact ih_X10_keyTo_2 _ _ (a0) (a1) (a2) (0) _ _ H
set_option maxHeartbeats 4000000 in
set_option maxRecDepth 20000 in
theorem t_X10_keyTo_2 {l : Launch} {Z : XZ} {L : Nat → Nat} (n : Nat) (ih_X10_keyTo_0 : P_X10_keyTo_0 l Z L n) (ih_X10_keyTo_2 : P_X10_keyTo_2 l Z L n) : P_X10_keyTo_2 l Z L (n + 1) := by
  intro d S a0 a1 a2 a3 x S1 H
  have H : b_X10_keyTo_2 n d (f_X10_keyTo n) S a0 a1 a2 a3 = some (x, S1) := H
  unfold b_X10_keyTo_2 at H
  refine GA.iload_n dX10_keyTo_2 rfl ?_
  refine GA.aload_n dX10_keyTo_3 rfl ?_
  refine GA.iload_n dX10_keyTo_4 rfl ?_
  obtain ⟨hg1, H⟩ := gg_e H
  obtain ⟨hg2, H⟩ := gg_e H
  obtain ⟨x3, S_4, hc5, H⟩ := gc_e H
  refine GA.callV (m_X10_keyLength hc5) xs_X10_117 dX10_keyTo_5 (gsT hg2) (by omega) rfl rfl (by omega) (by decide) rfl (Nat.le_of_ble_eq_true rfl) (by omega) (by omega) rfl (fun E S9 hx => hx.elim) (fun v S9 hq => ?_)
  obtain ⟨rfl, rfl⟩ := hq
  obtain ⟨hg6, H⟩ := gg_e H
  obtain ⟨hg7, H⟩ := gg_e H
  refine GV.icmp_ge (tgt := 27) hg6 hg7 dX10_keyTo_8 (by decide) (fun c8 => ?_) (fun c8 => ?_)
  · have H := it_t H c8
    cases H
    exact GA.vret rfl dX10_keyTo_27 (by omega) (by omega) ⟨rfl, rfl⟩
  · have H := it_f H c8
    refine GA.aload_n dX10_keyTo_11 rfl ?_
    refine GA.aload_n dX10_keyTo_12 rfl ?_
    refine GA.iload_n dX10_keyTo_13 rfl ?_
    refine GA.iload_n dX10_keyTo_14 rfl ?_
    obtain ⟨x9, S_10, hc11, H⟩ := gc_e H
    refine GA.callV (m_X10_keySign hc11) xs_X10_162 dX10_keyTo_15 (gsT hg2) (by omega) rfl rfl (by omega) (by decide) rfl (Nat.le_of_ble_eq_true rfl) (by omega) (by omega) rfl (fun E S9 hx => hx.elim) (fun v S9 hq => ?_)
    obtain ⟨rfl, rfl⟩ := hq
    obtain ⟨hg12, H⟩ := gg_e H
    obtain ⟨x13, S_14, hc15, H⟩ := gc_e H
    refine GA.callV (m_X9_add hc15) xs_X10_145 dX10_keyTo_18 (gsS hg12) (by omega) rfl rfl (by omega) (by decide) rfl (Nat.le_of_ble_eq_true rfl) (by omega) (by omega) rfl (fun E S9 hx => hx.elim) (fun v S9 hq => ?_)
    obtain ⟨rfl, rfl⟩ := hq
    obtain ⟨x16, hx17, H⟩ := gv_e H
    refine GV.iinc hx17 dX10_keyTo_21 rfl (by decide) ?_
    refine GA.goto (tgt := 2) dX10_keyTo_24 (by decide) ?_
    refine GA.locals [(0, .ref (L a0)), (1, .int (J a1)), (2, .ref (L a2)), (3, .int (J x16))] ⟨rfl, rfl, rfl, rfl, trivial⟩ ?_
    exact ih_X10_keyTo_2 _ _ (a0) (a1) (a2) (x16) _ _ H
theorem g_X10_keyTo {l : Launch} {Z : XZ} {L : Nat → Nat} : ∀ n, P_X10_keyTo_0 l Z L n ∧ P_X10_keyTo_2 l Z L n
  | 0 => ⟨fun _ _ _ _ _ _ _ H => no_e H, fun _ _ _ _ _ _ _ _ H => no_e H⟩
  | n + 1 => have ⟨h0, h1⟩ := g_X10_keyTo (l := l) (Z := Z) (L := L) n
    ⟨t_X10_keyTo_0 n h0 h1, t_X10_keyTo_2 n h0 h1⟩
theorem m_X10_keyTo {l : Launch} {Z : XZ} {L : Nat → Nat} {n d : Nat} {S : GS} {a0 : Nat} {a1 : Int} {a2 : Nat} {x : Int} {S1 : GS} (H : f_X10_keyTo n d 0 S [((a0 : Nat) : Int), a1, ((a2 : Nat) : Int)] = some (x, S1)) : GM l Z L yX10_keyTo cX10_keyTo 4 none [] d 0 0 [.ref (L a0), .int (J a1), .ref (L a2)] S (fun v S' => v = none ∧ S1 = S') (fun _ _ => False) := GM.of (by decide) (Nat.le_of_ble_eq_true rfl) ((g_X10_keyTo n).1 _ _ _ _ _ _ _ H)

def P_X10_stepTo_0 (l : Launch) (Z : XZ) (L : Nat → Nat) (n : Nat) : Prop := ∀ (d : Nat) (S : GS) (a0 : Nat) (a1 : Int) (a2 : Nat) (x : Int) (S1 : GS), f_X10_stepTo n d 0 S [((a0 : Nat) : Int), a1, ((a2 : Nat) : Int)] = some (x, S1) → GA l Z L yX10_stepTo cX10_stepTo 5 none [] d 0 0 (fun v S' => v = none ∧ S1 = S') (fun _ _ => False) 0 (gl [(0, .ref (L a0)), (1, .int (J a1)), (2, .ref (L a2))]) [] S 0 0
def P_X10_stepTo_35 (l : Launch) (Z : XZ) (L : Nat → Nat) (n : Nat) : Prop := ∀ (d : Nat) (S : GS) (a0 : Nat) (a1 : Int) (a2 : Nat) (a3 : Int) (x : Int) (S1 : GS), f_X10_stepTo n d 35 S [((a0 : Nat) : Int), a1, ((a2 : Nat) : Int), a3] = some (x, S1) → GA l Z L yX10_stepTo cX10_stepTo 5 none [] d 0 0 (fun v S' => v = none ∧ S1 = S') (fun _ _ => False) 35 (gl [(0, .ref (L a0)), (1, .int (J a1)), (2, .ref (L a2)), (3, .int (J a3))]) [] S 0 0
def P_X10_stepTo_66 (l : Launch) (Z : XZ) (L : Nat → Nat) (n : Nat) : Prop := ∀ (d : Nat) (S : GS) (a0 : Nat) (a1 : Int) (a2 : Nat) (a3 : Int) (a4 : Int) (x : Int) (S1 : GS), f_X10_stepTo n d 66 S [((a0 : Nat) : Int), a1, ((a2 : Nat) : Int), a3, a4] = some (x, S1) → GA l Z L yX10_stepTo cX10_stepTo 5 none [] d 0 0 (fun v S' => v = none ∧ S1 = S') (fun _ _ => False) 66 (gl [(0, .ref (L a0)), (1, .int (J a1)), (2, .ref (L a2)), (3, .int (J a3)), (4, .int (J a4))]) [] S 0 0
theorem i_X10_stepTo {l : Launch} {Z : XZ} {L : Nat → Nat} {n : Nat} (ih : P_X10_stepTo_0 l Z L n) {d : Nat} {S : GS} {a0 : Nat} {a1 : Int} {a2 : Nat} {x : Int} {S1 : GS} (H : f_X10_stepTo n d 0 S [((a0 : Nat) : Int), a1, ((a2 : Nat) : Int)] = some (x, S1)) : GM l Z L yX10_stepTo cX10_stepTo 5 none [] d 0 0 [.ref (L a0), .int (J a1), .ref (L a2)] S (fun v S' => v = none ∧ S1 = S') (fun _ _ => False) := GM.of (by decide) (Nat.le_of_ble_eq_true rfl) (ih _ _ _ _ _ _ _ H)
set_option maxHeartbeats 4000000 in
set_option maxRecDepth 20000 in
theorem t_X10_stepTo_0 {l : Launch} {Z : XZ} {L : Nat → Nat} (n : Nat) (ih_X10_stepTo_0 : P_X10_stepTo_0 l Z L n) (ih_X10_stepTo_35 : P_X10_stepTo_35 l Z L n) (ih_X10_stepTo_66 : P_X10_stepTo_66 l Z L n) : P_X10_stepTo_0 l Z L (n + 1) := by
  intro d S a0 a1 a2 x S1 H
  have H : b_X10_stepTo_0 n d (f_X10_stepTo n) S a0 a1 a2 = some (x, S1) := H
  unfold b_X10_stepTo_0 at H
  refine GA.aload_n dX10_stepTo_0 rfl ?_
  refine GA.bipush dX10_stepTo_1 rfl ?_
  obtain ⟨hg1, H⟩ := gg_e H
  obtain ⟨hg2, H⟩ := gg_e H
  obtain ⟨x3, S_4, hc5, H⟩ := gc_e H
  refine GA.callV (m_X9_add hc5) xs_X10_145 dX10_stepTo_3 (gsS hg2) (by omega) rfl rfl (by omega) (by decide) rfl (Nat.le_of_ble_eq_true rfl) (by omega) (by omega) rfl (fun E S9 hx => hx.elim) (fun v S9 hq => ?_)
  obtain ⟨rfl, rfl⟩ := hq
  refine GA.aload_n dX10_stepTo_6 rfl ?_
  refine GA.aload_n dX10_stepTo_7 rfl ?_
  refine GA.iload_n dX10_stepTo_8 rfl ?_
  obtain ⟨hg6, H⟩ := gg_e H
  obtain ⟨x7, S_8, hc9, H⟩ := gc_e H
  refine GA.callV (m_X10_ownerOf hc9) xs_X10_72 dX10_stepTo_9 (gsT hg6) (by omega) rfl rfl (by omega) (by decide) rfl (Nat.le_of_ble_eq_true rfl) (by omega) (by omega) rfl (fun E S9 hx => hx.elim) (fun v S9 hq => ?_)
  obtain ⟨rfl, rfl⟩ := hq
  refine GA.iconst dX10_stepTo_12 ?_
  obtain ⟨x10, S_11, hc12, H⟩ := gc_e H
  refine GA.callV (m_X10_is hc12) xs_X10_42 dX10_stepTo_13 (gsT hg6) (by omega) rfl rfl (by omega) (by decide) rfl (Nat.le_of_ble_eq_true rfl) (by omega) (by omega) rfl (fun E S9 hx => hx.elim) (fun v S9 hq => ?_)
  obtain ⟨rfl, rfl⟩ := hq
  obtain ⟨hg13, H⟩ := gg_e H
  refine GV.if_ne (tgt := 33) hg13 dX10_stepTo_16 (by decide) (fun c14 => ?_) (fun c14 => ?_)
  · have H := it_t H c14
    refine GA.iconst dX10_stepTo_33 ?_
    refine GA.istore_n dX10_stepTo_34 (by decide) ?_
    refine GA.locals [(0, .ref (L a0)), (1, .int (J a1)), (2, .ref (L a2)), (3, .int (J 0))] ⟨rfl, rfl, rfl, rfl, trivial⟩ ?_
    exact ih_X10_stepTo_35 _ _ (a0) (a1) (a2) (0) _ _ H
  · have H := it_f H c14
    refine GA.aload_n dX10_stepTo_19 rfl ?_
    refine GA.iconst dX10_stepTo_20 ?_
    refine GA.aload_n dX10_stepTo_21 rfl ?_
    refine GA.iload_n dX10_stepTo_22 rfl ?_
    obtain ⟨x15, S_16, hc17, H⟩ := gc_e H
    refine GA.callV (m_X10_placeOf hc17) xs_X10_96 dX10_stepTo_23 (gsT hg6) (by omega) rfl rfl (by omega) (by decide) rfl (Nat.le_of_ble_eq_true rfl) (by omega) (by omega) rfl (fun E S9 hx => hx.elim) (fun v S9 hq => ?_)
    obtain ⟨rfl, rfl⟩ := hq
    obtain ⟨hg18, H⟩ := gg_e H
    obtain ⟨x19, hx20, H⟩ := gv_e H
    refine GV.mmax (by decide) hg18 hx20 xs_X10_46 dX10_stepTo_26 (Nat.le_of_ble_eq_true rfl) (by omega) (by omega) ?_
    obtain ⟨x21, S_22, hc23, H⟩ := gc_e H
    refine GA.callV (m_X9_addNumber hc23) xs_X10_191 dX10_stepTo_29 (gsS hg2) (by omega) rfl rfl (by omega) (by decide) rfl (Nat.le_of_ble_eq_true rfl) (by omega) (by omega) rfl (fun E S9 hx => hx.elim) (fun v S9 hq => ?_)
    obtain ⟨rfl, rfl⟩ := hq
    cases H
    exact GA.vret rfl dX10_stepTo_32 (by omega) (by omega) ⟨rfl, rfl⟩
set_option maxHeartbeats 4000000 in
set_option maxRecDepth 20000 in
theorem t_X10_stepTo_35 {l : Launch} {Z : XZ} {L : Nat → Nat} (n : Nat) (ih_X10_stepTo_0 : P_X10_stepTo_0 l Z L n) (ih_X10_stepTo_35 : P_X10_stepTo_35 l Z L n) (ih_X10_stepTo_66 : P_X10_stepTo_66 l Z L n) : P_X10_stepTo_35 l Z L (n + 1) := by
  intro d S a0 a1 a2 a3 x S1 H
  have H : b_X10_stepTo_35 n d (f_X10_stepTo n) S a0 a1 a2 a3 = some (x, S1) := H
  unfold b_X10_stepTo_35 at H
  refine GA.iload_n dX10_stepTo_35 rfl ?_
  refine GA.aload_n dX10_stepTo_36 rfl ?_
  refine GA.iload_n dX10_stepTo_37 rfl ?_
  obtain ⟨hg1, H⟩ := gg_e H
  obtain ⟨hg2, H⟩ := gg_e H
  obtain ⟨x3, S_4, hc5, H⟩ := gc_e H
  refine GA.callV (m_X10_keyLength hc5) xs_X10_117 dX10_stepTo_38 (gsT hg2) (by omega) rfl rfl (by omega) (by decide) rfl (Nat.le_of_ble_eq_true rfl) (by omega) (by omega) rfl (fun E S9 hx => hx.elim) (fun v S9 hq => ?_)
  obtain ⟨rfl, rfl⟩ := hq
  obtain ⟨hg6, H⟩ := gg_e H
  obtain ⟨hg7, H⟩ := gg_e H
  refine GV.icmp_ge (tgt := 105) hg6 hg7 dX10_stepTo_41 (by decide) (fun c8 => ?_) (fun c8 => ?_)
  · have H := it_t H c8
    cases H
    exact GA.vret rfl dX10_stepTo_105 (by omega) (by omega) ⟨rfl, rfl⟩
  · have H := it_f H c8
    refine GA.aload_n dX10_stepTo_44 rfl ?_
    refine GA.iload_n dX10_stepTo_45 rfl ?_
    refine GA.iload_n dX10_stepTo_46 rfl ?_
    obtain ⟨x9, S_10, hc11, H⟩ := gc_e H
    refine GA.callV (m_X10_keySign hc11) xs_X10_162 dX10_stepTo_47 (gsT hg2) (by omega) rfl rfl (by omega) (by decide) rfl (Nat.le_of_ble_eq_true rfl) (by omega) (by omega) rfl (fun E S9 hx => hx.elim) (fun v S9 hq => ?_)
    obtain ⟨rfl, rfl⟩ := hq
    refine GA.istore dX10_stepTo_50 (by decide) ?_
    refine GA.iload dX10_stepTo_52 rfl ?_
    refine GA.bipush dX10_stepTo_54 rfl ?_
    obtain ⟨hg12, H⟩ := gg_e H
    refine GV.icmp_eq (tgt := 66) hg12 (by decide) dX10_stepTo_56 (by decide) (fun c13 => ?_) (fun c13 => ?_)
    · have H := it_t H c13
      refine GA.locals [(0, .ref (L a0)), (1, .int (J a1)), (2, .ref (L a2)), (3, .int (J a3)), (4, .int (J x9))] ⟨rfl, rfl, rfl, rfl, rfl, trivial⟩ ?_
      exact ih_X10_stepTo_66 _ _ (a0) (a1) (a2) (a3) (x9) _ _ H
    · have H := it_f H c13
      refine GA.iload dX10_stepTo_59 rfl ?_
      refine GA.bipush dX10_stepTo_61 rfl ?_
      refine GV.icmp_ne (tgt := 93) hg12 (by decide) dX10_stepTo_63 (by decide) (fun c14 => ?_) (fun c14 => ?_)
      · have H := it_t H c14
        refine GA.aload_n dX10_stepTo_93 rfl ?_
        refine GA.iload dX10_stepTo_94 rfl ?_
        obtain ⟨hg15, H⟩ := gg_e H
        obtain ⟨x16, S_17, hc18, H⟩ := gc_e H
        refine GA.callV (m_X9_add hc18) xs_X10_145 dX10_stepTo_96 (gsS hg15) (by omega) rfl rfl (by omega) (by decide) rfl (Nat.le_of_ble_eq_true rfl) (by omega) (by omega) rfl (fun E S9 hx => hx.elim) (fun v S9 hq => ?_)
        obtain ⟨rfl, rfl⟩ := hq
        obtain ⟨x19, hx20, H⟩ := gv_e H
        refine GV.iinc hx20 dX10_stepTo_99 rfl (by decide) ?_
        refine GA.goto (tgt := 35) dX10_stepTo_102 (by decide) ?_
        refine GA.locals [(0, .ref (L a0)), (1, .int (J a1)), (2, .ref (L a2)), (3, .int (J x19))] ⟨rfl, rfl, rfl, rfl, trivial⟩ ?_
        exact ih_X10_stepTo_35 _ _ (a0) (a1) (a2) (x19) _ _ H
      · have H := it_f H c14
        refine GA.locals [(0, .ref (L a0)), (1, .int (J a1)), (2, .ref (L a2)), (3, .int (J a3)), (4, .int (J x9))] ⟨rfl, rfl, rfl, rfl, rfl, trivial⟩ ?_
        exact ih_X10_stepTo_66 _ _ (a0) (a1) (a2) (a3) (x9) _ _ H
set_option maxHeartbeats 4000000 in
set_option maxRecDepth 20000 in
theorem t_X10_stepTo_66 {l : Launch} {Z : XZ} {L : Nat → Nat} (n : Nat) (ih_X10_stepTo_0 : P_X10_stepTo_0 l Z L n) (ih_X10_stepTo_35 : P_X10_stepTo_35 l Z L n) (ih_X10_stepTo_66 : P_X10_stepTo_66 l Z L n) : P_X10_stepTo_66 l Z L (n + 1) := by
  intro d S a0 a1 a2 a3 a4 x S1 H
  have H : b_X10_stepTo_66 n d (f_X10_stepTo n) S a0 a1 a2 a3 a4 = some (x, S1) := H
  unfold b_X10_stepTo_66 at H
  refine GA.aload_n dX10_stepTo_66 rfl ?_
  refine GA.bipush dX10_stepTo_67 rfl ?_
  obtain ⟨hg1, H⟩ := gg_e H
  obtain ⟨hg2, H⟩ := gg_e H
  obtain ⟨x3, S_4, hc5, H⟩ := gc_e H
  refine GA.callV (m_X9_add hc5) xs_X10_145 dX10_stepTo_69 (gsS hg2) (by omega) rfl rfl (by omega) (by decide) rfl (Nat.le_of_ble_eq_true rfl) (by omega) (by omega) rfl (fun E S9 hx => hx.elim) (fun v S9 hq => ?_)
  obtain ⟨rfl, rfl⟩ := hq
  refine GA.aload_n dX10_stepTo_72 rfl ?_
  refine GA.iload dX10_stepTo_73 rfl ?_
  refine GA.bipush dX10_stepTo_75 rfl ?_
  obtain ⟨hg6, H⟩ := gg_e H
  refine GV.icmp_ne (tgt := 85) hg6 (by decide) dX10_stepTo_77 (by decide) (fun c7 => ?_) (fun c7 => ?_)
  · have H := it_t H c7
    refine GA.bipush dX10_stepTo_85 rfl ?_
    obtain ⟨x8, S_9, hc10, H⟩ := gc_e H
    refine GA.callV (m_X9_add hc10) xs_X10_145 dX10_stepTo_87 (gsS hg2) (by omega) rfl rfl (by omega) (by decide) rfl (Nat.le_of_ble_eq_true rfl) (by omega) (by omega) rfl (fun E S9 hx => hx.elim) (fun v S9 hq => ?_)
    obtain ⟨rfl, rfl⟩ := hq
    refine GA.goto (tgt := 99) dX10_stepTo_90 (by decide) ?_
    obtain ⟨x11, hx12, H⟩ := gv_e H
    refine GV.iinc hx12 dX10_stepTo_99 rfl (by decide) ?_
    refine GA.goto (tgt := 35) dX10_stepTo_102 (by decide) ?_
    refine GA.locals [(0, .ref (L a0)), (1, .int (J a1)), (2, .ref (L a2)), (3, .int (J x11))] ⟨rfl, rfl, rfl, rfl, trivial⟩ ?_
    exact ih_X10_stepTo_35 _ _ (a0) (a1) (a2) (x11) _ _ H
  · have H := it_f H c7
    refine GA.bipush dX10_stepTo_80 rfl ?_
    refine GA.goto (tgt := 87) dX10_stepTo_82 (by decide) ?_
    obtain ⟨x13, S_14, hc15, H⟩ := gc_e H
    refine GA.callV (m_X9_add hc15) xs_X10_145 dX10_stepTo_87 (gsS hg2) (by omega) rfl rfl (by omega) (by decide) rfl (Nat.le_of_ble_eq_true rfl) (by omega) (by omega) rfl (fun E S9 hx => hx.elim) (fun v S9 hq => ?_)
    obtain ⟨rfl, rfl⟩ := hq
    refine GA.goto (tgt := 99) dX10_stepTo_90 (by decide) ?_
    obtain ⟨x16, hx17, H⟩ := gv_e H
    refine GV.iinc hx17 dX10_stepTo_99 rfl (by decide) ?_
    refine GA.goto (tgt := 35) dX10_stepTo_102 (by decide) ?_
    refine GA.locals [(0, .ref (L a0)), (1, .int (J a1)), (2, .ref (L a2)), (3, .int (J x16))] ⟨rfl, rfl, rfl, rfl, trivial⟩ ?_
    exact ih_X10_stepTo_35 _ _ (a0) (a1) (a2) (x16) _ _ H
theorem g_X10_stepTo {l : Launch} {Z : XZ} {L : Nat → Nat} : ∀ n, P_X10_stepTo_0 l Z L n ∧ P_X10_stepTo_35 l Z L n ∧ P_X10_stepTo_66 l Z L n
  | 0 => ⟨fun _ _ _ _ _ _ _ H => no_e H, fun _ _ _ _ _ _ _ _ H => no_e H, fun _ _ _ _ _ _ _ _ _ H => no_e H⟩
  | n + 1 => have ⟨h0, h1, h2⟩ := g_X10_stepTo (l := l) (Z := Z) (L := L) n
    ⟨t_X10_stepTo_0 n h0 h1 h2, t_X10_stepTo_35 n h0 h1 h2, t_X10_stepTo_66 n h0 h1 h2⟩
theorem m_X10_stepTo {l : Launch} {Z : XZ} {L : Nat → Nat} {n d : Nat} {S : GS} {a0 : Nat} {a1 : Int} {a2 : Nat} {x : Int} {S1 : GS} (H : f_X10_stepTo n d 0 S [((a0 : Nat) : Int), a1, ((a2 : Nat) : Int)] = some (x, S1)) : GM l Z L yX10_stepTo cX10_stepTo 5 none [] d 0 0 [.ref (L a0), .int (J a1), .ref (L a2)] S (fun v S' => v = none ∧ S1 = S') (fun _ _ => False) := GM.of (by decide) (Nat.le_of_ble_eq_true rfl) ((g_X10_stepTo n).1 _ _ _ _ _ _ _ H)

def P_X10_pathTo_0 (l : Launch) (Z : XZ) (L : Nat → Nat) (n : Nat) : Prop := ∀ (d : Nat) (S : GS) (a0 : Nat) (a1 : Int) (a2 : Nat) (x : Int) (S1 : GS), f_X10_pathTo n d 0 S [((a0 : Nat) : Int), a1, ((a2 : Nat) : Int)] = some (x, S1) → GA l Z L yX10_pathTo cX10_pathTo 4 none [] d 0 0 (fun v S' => v = none ∧ S1 = S') (fun _ _ => False) 0 (gl [(0, .ref (L a0)), (1, .int (J a1)), (2, .ref (L a2))]) [] S 0 0
def P_X10_pathTo_2 (l : Launch) (Z : XZ) (L : Nat → Nat) (n : Nat) : Prop := ∀ (d : Nat) (S : GS) (a0 : Nat) (a1 : Int) (a2 : Nat) (a3 : Int) (x : Int) (S1 : GS), f_X10_pathTo n d 2 S [((a0 : Nat) : Int), a1, ((a2 : Nat) : Int), a3] = some (x, S1) → GA l Z L yX10_pathTo cX10_pathTo 4 none [] d 0 0 (fun v S' => v = none ∧ S1 = S') (fun _ _ => False) 2 (gl [(0, .ref (L a0)), (1, .int (J a1)), (2, .ref (L a2)), (3, .int (J a3))]) [] S 0 0
theorem i_X10_pathTo {l : Launch} {Z : XZ} {L : Nat → Nat} {n : Nat} (ih : P_X10_pathTo_0 l Z L n) {d : Nat} {S : GS} {a0 : Nat} {a1 : Int} {a2 : Nat} {x : Int} {S1 : GS} (H : f_X10_pathTo n d 0 S [((a0 : Nat) : Int), a1, ((a2 : Nat) : Int)] = some (x, S1)) : GM l Z L yX10_pathTo cX10_pathTo 4 none [] d 0 0 [.ref (L a0), .int (J a1), .ref (L a2)] S (fun v S' => v = none ∧ S1 = S') (fun _ _ => False) := GM.of (by decide) (Nat.le_of_ble_eq_true rfl) (ih _ _ _ _ _ _ _ H)
set_option maxHeartbeats 4000000 in
set_option maxRecDepth 20000 in
theorem t_X10_pathTo_0 {l : Launch} {Z : XZ} {L : Nat → Nat} (n : Nat) (ih_X10_pathTo_0 : P_X10_pathTo_0 l Z L n) (ih_X10_pathTo_2 : P_X10_pathTo_2 l Z L n) : P_X10_pathTo_0 l Z L (n + 1) := by
  intro d S a0 a1 a2 x S1 H
  have H : b_X10_pathTo_0 n d (f_X10_pathTo n) S a0 a1 a2 = some (x, S1) := H
  unfold b_X10_pathTo_0 at H
  refine GA.iconst dX10_pathTo_0 ?_
  refine GA.istore_n dX10_pathTo_1 (by decide) ?_
  refine GA.locals [(0, .ref (L a0)), (1, .int (J a1)), (2, .ref (L a2)), (3, .int (J 1))] ⟨rfl, rfl, rfl, rfl, trivial⟩ ?_
  exact ih_X10_pathTo_2 _ _ (a0) (a1) (a2) (1) _ _ H
set_option maxHeartbeats 4000000 in
set_option maxRecDepth 20000 in
theorem t_X10_pathTo_2 {l : Launch} {Z : XZ} {L : Nat → Nat} (n : Nat) (ih_X10_pathTo_0 : P_X10_pathTo_0 l Z L n) (ih_X10_pathTo_2 : P_X10_pathTo_2 l Z L n) : P_X10_pathTo_2 l Z L (n + 1) := by
  intro d S a0 a1 a2 a3 x S1 H
  have H : b_X10_pathTo_2 n d (f_X10_pathTo n) S a0 a1 a2 a3 = some (x, S1) := H
  unfold b_X10_pathTo_2 at H
  refine GA.iload_n dX10_pathTo_2 rfl ?_
  refine GA.iload_n dX10_pathTo_3 rfl ?_
  obtain ⟨hg1, H⟩ := gg_e H
  obtain ⟨hg2, H⟩ := gg_e H
  refine GV.icmp_gt (tgt := 36) hg1 hg2 dX10_pathTo_4 (by decide) (fun c3 => ?_) (fun c3 => ?_)
  · have H := it_t H c3
    cases H
    exact GA.vret rfl dX10_pathTo_36 (by omega) (by omega) ⟨rfl, rfl⟩
  · have H := it_f H c3
    refine GA.iload_n dX10_pathTo_7 rfl ?_
    refine GA.aload_n dX10_pathTo_8 rfl ?_
    obtain ⟨hg4, H⟩ := gg_e H
    obtain ⟨x5, hx6, H⟩ := gv_e H
    refine GV.getI hx6 xf_X10_34 dX10_pathTo_9 (gsT hg4) (by omega) rfl ?_
    obtain ⟨hg7, H⟩ := gg_e H
    refine GV.icmp_ge (tgt := 36) hg1 hg7 dX10_pathTo_12 (by decide) (fun c8 => ?_) (fun c8 => ?_)
    · have H := it_t H c8
      cases H
      exact GA.vret rfl dX10_pathTo_36 (by omega) (by omega) ⟨rfl, rfl⟩
    · have H := it_f H c8
      refine GA.aload_n dX10_pathTo_15 rfl ?_
      refine GA.iload_n dX10_pathTo_16 rfl ?_
      obtain ⟨hg9, H⟩ := gg_e H
      obtain ⟨x10, S_11, hc12, H⟩ := gc_e H
      refine GA.callV (m_X10_after hc12) xs_X10_69 dX10_pathTo_17 (gsT hg4) (by omega) rfl rfl (by omega) (by decide) rfl (Nat.le_of_ble_eq_true rfl) (by omega) (by omega) rfl (fun E S9 hx => hx.elim) (fun v S9 hq => ?_)
      obtain ⟨rfl, rfl⟩ := hq
      refine GA.iload_n dX10_pathTo_20 rfl ?_
      obtain ⟨hg13, H⟩ := gg_e H
      refine GV.icmp_le (tgt := 30) hg13 hg2 dX10_pathTo_21 (by decide) (fun c14 => ?_) (fun c14 => ?_)
      · have H := it_t H c14
        obtain ⟨x15, hx16, H⟩ := gv_e H
        refine GV.iinc hx16 dX10_pathTo_30 rfl (by decide) ?_
        refine GA.goto (tgt := 2) dX10_pathTo_33 (by decide) ?_
        refine GA.locals [(0, .ref (L a0)), (1, .int (J a1)), (2, .ref (L a2)), (3, .int (J x15))] ⟨rfl, rfl, rfl, rfl, trivial⟩ ?_
        exact ih_X10_pathTo_2 _ _ (a0) (a1) (a2) (x15) _ _ H
      · have H := it_f H c14
        refine GA.aload_n dX10_pathTo_24 rfl ?_
        refine GA.iload_n dX10_pathTo_25 rfl ?_
        refine GA.aload_n dX10_pathTo_26 rfl ?_
        obtain ⟨x17, S_18, hc19, H⟩ := gc_e H
        refine GA.callV (m_X10_stepTo hc19) xs_X10_187 dX10_pathTo_27 (gsT hg4) (by omega) rfl rfl (by omega) (by decide) rfl (Nat.le_of_ble_eq_true rfl) (by omega) (by omega) rfl (fun E S9 hx => hx.elim) (fun v S9 hq => ?_)
        obtain ⟨rfl, rfl⟩ := hq
        obtain ⟨x20, hx21, H⟩ := gv_e H
        refine GV.iinc hx21 dX10_pathTo_30 rfl (by decide) ?_
        refine GA.goto (tgt := 2) dX10_pathTo_33 (by decide) ?_
        refine GA.locals [(0, .ref (L a0)), (1, .int (J a1)), (2, .ref (L a2)), (3, .int (J x20))] ⟨rfl, rfl, rfl, rfl, trivial⟩ ?_
        exact ih_X10_pathTo_2 _ _ (a0) (a1) (a2) (x20) _ _ H
theorem g_X10_pathTo {l : Launch} {Z : XZ} {L : Nat → Nat} : ∀ n, P_X10_pathTo_0 l Z L n ∧ P_X10_pathTo_2 l Z L n
  | 0 => ⟨fun _ _ _ _ _ _ _ H => no_e H, fun _ _ _ _ _ _ _ _ H => no_e H⟩
  | n + 1 => have ⟨h0, h1⟩ := g_X10_pathTo (l := l) (Z := Z) (L := L) n
    ⟨t_X10_pathTo_0 n h0 h1, t_X10_pathTo_2 n h0 h1⟩
theorem m_X10_pathTo {l : Launch} {Z : XZ} {L : Nat → Nat} {n d : Nat} {S : GS} {a0 : Nat} {a1 : Int} {a2 : Nat} {x : Int} {S1 : GS} (H : f_X10_pathTo n d 0 S [((a0 : Nat) : Int), a1, ((a2 : Nat) : Int)] = some (x, S1)) : GM l Z L yX10_pathTo cX10_pathTo 4 none [] d 0 0 [.ref (L a0), .int (J a1), .ref (L a2)] S (fun v S' => v = none ∧ S1 = S') (fun _ _ => False) := GM.of (by decide) (Nat.le_of_ble_eq_true rfl) ((g_X10_pathTo n).1 _ _ _ _ _ _ _ H)

def P_X10_remove_0 (l : Launch) (Z : XZ) (L : Nat → Nat) (n : Nat) : Prop := ∀ (d : Nat) (S : GS) (a0 : Nat) (a1 : Int) (x : Int) (S1 : GS), f_X10_remove n d 0 S [((a0 : Nat) : Int), a1] = some (x, S1) → GA l Z L yX10_remove cX10_remove 2 none [] d 0 0 (fun v S' => v = none ∧ S1 = S') (fun _ _ => False) 0 (gl [(0, .ref (L a0)), (1, .int (J a1))]) [] S 0 0
theorem i_X10_remove {l : Launch} {Z : XZ} {L : Nat → Nat} {n : Nat} (ih : P_X10_remove_0 l Z L n) {d : Nat} {S : GS} {a0 : Nat} {a1 : Int} {x : Int} {S1 : GS} (H : f_X10_remove n d 0 S [((a0 : Nat) : Int), a1] = some (x, S1)) : GM l Z L yX10_remove cX10_remove 2 none [] d 0 0 [.ref (L a0), .int (J a1)] S (fun v S' => v = none ∧ S1 = S') (fun _ _ => False) := GM.of (by decide) (Nat.le_of_ble_eq_true rfl) (ih _ _ _ _ _ _ H)
set_option maxHeartbeats 4000000 in
set_option maxRecDepth 20000 in
theorem t_X10_remove_0 {l : Launch} {Z : XZ} {L : Nat → Nat} (n : Nat) (ih_X10_remove_0 : P_X10_remove_0 l Z L n) : P_X10_remove_0 l Z L (n + 1) := by
  intro d S a0 a1 x S1 H
  have H : b_X10_remove_0 n d (f_X10_remove n) S a0 a1 = some (x, S1) := H
  unfold b_X10_remove_0 at H
  refine GA.aload_n dX10_remove_0 rfl ?_
  refine GA.aload_n dX10_remove_1 rfl ?_
  refine GA.iload_n dX10_remove_2 rfl ?_
  obtain ⟨hg1, H⟩ := gg_e H
  obtain ⟨hg2, H⟩ := gg_e H
  obtain ⟨x3, S_4, hc5, H⟩ := gc_e H
  refine GA.callV (m_X10_ownerOf hc5) xs_X10_72 dX10_remove_3 (gsT hg2) (by omega) rfl rfl (by omega) (by decide) rfl (Nat.le_of_ble_eq_true rfl) (by omega) (by omega) rfl (fun E S9 hx => hx.elim) (fun v S9 hq => ?_)
  obtain ⟨rfl, rfl⟩ := hq
  refine GA.iload_n dX10_remove_6 rfl ?_
  refine GA.aload_n dX10_remove_7 rfl ?_
  refine GA.iload_n dX10_remove_8 rfl ?_
  obtain ⟨x6, S_7, hc8, H⟩ := gc_e H
  refine GA.callV (m_X10_size hc8) xs_X10_81 dX10_remove_9 (gsT hg2) (by omega) rfl rfl (by omega) (by decide) rfl (Nat.le_of_ble_eq_true rfl) (by omega) (by omega) rfl (fun E S9 hx => hx.elim) (fun v S9 hq => ?_)
  obtain ⟨rfl, rfl⟩ := hq
  refine GA.aload_n dX10_remove_12 rfl ?_
  refine GA.iload_n dX10_remove_13 rfl ?_
  refine GA.iconst dX10_remove_14 ?_
  obtain ⟨x9, S_10, hc11, H⟩ := gc_e H
  refine GA.callV (m_X10_splice hc11) xs_X10_227 dX10_remove_15 (gsT hg2) (by omega) rfl rfl (by omega) (by decide) rfl (Nat.le_of_ble_eq_true rfl) (by omega) (by omega) rfl (fun E S9 hx => hx.elim) (fun v S9 hq => ?_)
  obtain ⟨rfl, rfl⟩ := hq
  refine GA.pop dX10_remove_18 rfl ?_
  cases H
  exact GA.vret rfl dX10_remove_19 (by omega) (by omega) ⟨rfl, rfl⟩
theorem g_X10_remove {l : Launch} {Z : XZ} {L : Nat → Nat} : ∀ n, P_X10_remove_0 l Z L n
  | 0 => fun _ _ _ _ _ _ H => no_e H
  | n + 1 => t_X10_remove_0 n (g_X10_remove n)
theorem m_X10_remove {l : Launch} {Z : XZ} {L : Nat → Nat} {n d : Nat} {S : GS} {a0 : Nat} {a1 : Int} {x : Int} {S1 : GS} (H : f_X10_remove n d 0 S [((a0 : Nat) : Int), a1] = some (x, S1)) : GM l Z L yX10_remove cX10_remove 2 none [] d 0 0 [.ref (L a0), .int (J a1)] S (fun v S' => v = none ∧ S1 = S') (fun _ _ => False) := GM.of (by decide) (Nat.le_of_ble_eq_true rfl) ((g_X10_remove n) _ _ _ _ _ _ H)

def P_X10_replace_0 (l : Launch) (Z : XZ) (L : Nat → Nat) (n : Nat) : Prop := ∀ (d : Nat) (S : GS) (a0 : Nat) (a1 : Int) (a2 : Nat) (a3 : Int) (x : Int) (S1 : GS), f_X10_replace n d 0 S [((a0 : Nat) : Int), a1, ((a2 : Nat) : Int), a3] = some (x, S1) → GA l Z L yX10_replace cX10_replace 4 none [] d 0 0 (fun v S' => v = none ∧ S1 = S') (fun _ _ => False) 0 (gl [(0, .ref (L a0)), (1, .int (J a1)), (2, .ref (L a2)), (3, .int (J a3))]) [] S 0 0
theorem i_X10_replace {l : Launch} {Z : XZ} {L : Nat → Nat} {n : Nat} (ih : P_X10_replace_0 l Z L n) {d : Nat} {S : GS} {a0 : Nat} {a1 : Int} {a2 : Nat} {a3 : Int} {x : Int} {S1 : GS} (H : f_X10_replace n d 0 S [((a0 : Nat) : Int), a1, ((a2 : Nat) : Int), a3] = some (x, S1)) : GM l Z L yX10_replace cX10_replace 4 none [] d 0 0 [.ref (L a0), .int (J a1), .ref (L a2), .int (J a3)] S (fun v S' => v = none ∧ S1 = S') (fun _ _ => False) := GM.of (by decide) (Nat.le_of_ble_eq_true rfl) (ih _ _ _ _ _ _ _ _ H)
set_option maxHeartbeats 4000000 in
set_option maxRecDepth 20000 in
theorem t_X10_replace_0 {l : Launch} {Z : XZ} {L : Nat → Nat} (n : Nat) (ih_X10_replace_0 : P_X10_replace_0 l Z L n) : P_X10_replace_0 l Z L (n + 1) := by
  intro d S a0 a1 a2 a3 x S1 H
  have H : b_X10_replace_0 n d (f_X10_replace n) S a0 a1 a2 a3 = some (x, S1) := H
  unfold b_X10_replace_0 at H
  refine GA.aload_n dX10_replace_0 rfl ?_
  refine GA.iload_n dX10_replace_1 rfl ?_
  obtain ⟨hg1, H⟩ := gg_e H
  obtain ⟨hg2, H⟩ := gg_e H
  obtain ⟨x3, S_4, hc5, H⟩ := gc_e H
  refine GA.callV (m_X10_has hc5) xs_X10_105 dX10_replace_2 (gsT hg2) (by omega) rfl rfl (by omega) (by decide) rfl (Nat.le_of_ble_eq_true rfl) (by omega) (by omega) rfl (fun E S9 hx => hx.elim) (fun v S9 hq => ?_)
  obtain ⟨rfl, rfl⟩ := hq
  obtain ⟨hg6, H⟩ := gg_e H
  refine GV.if_eq (tgt := 16) hg6 dX10_replace_5 (by decide) (fun c7 => ?_) (fun c7 => ?_)
  · have H := it_t H c7
    refine GA.aload_n dX10_replace_16 rfl ?_
    refine GA.iconst dX10_replace_17 ?_
    obtain ⟨S_8, hx9, H⟩ := gv_e H
    refine GV.putB (by decide) hx9 (xp_X10_38 (xb_01 _)) dX10_replace_18 (gsT hg2) (by omega) (Nat.le_of_ble_eq_true rfl) (gsT hg2) ?_
    cases H
    exact GA.vret rfl dX10_replace_21 (by omega) (by omega) ⟨rfl, rfl⟩
  · have H := it_f H c7
    refine GA.aload_n dX10_replace_8 rfl ?_
    refine GA.iload_n dX10_replace_9 rfl ?_
    obtain ⟨hg10, H⟩ := gg_e H
    obtain ⟨x11, S_12, hc13, H⟩ := gc_e H
    refine GA.callV (m_X10_has hc13) xs_X10_105 dX10_replace_10 (gsT hg10) (by omega) rfl rfl (by omega) (by decide) rfl (Nat.le_of_ble_eq_true rfl) (by omega) (by omega) rfl (fun E S9 hx => hx.elim) (fun v S9 hq => ?_)
    obtain ⟨rfl, rfl⟩ := hq
    obtain ⟨hg14, H⟩ := gg_e H
    refine GV.if_ne (tgt := 22) hg14 dX10_replace_13 (by decide) (fun c15 => ?_) (fun c15 => ?_)
    · have H := it_t H c15
      refine GA.aload_n dX10_replace_22 rfl ?_
      refine GA.iload_n dX10_replace_23 rfl ?_
      refine GA.iload_n dX10_replace_24 rfl ?_
      refine GA.iconst dX10_replace_25 ?_
      obtain ⟨x16, hx17, H⟩ := gv_e H
      refine GV.iadd hx17 dX10_replace_26 ?_
      refine GA.aload_n dX10_replace_27 rfl ?_
      refine GA.iload_n dX10_replace_28 rfl ?_
      obtain ⟨x18, S_19, hc20, H⟩ := gc_e H
      refine GA.callV (m_X10_size hc20) xs_X10_81 dX10_replace_29 (gsT hg2) (by omega) rfl rfl (by omega) (by decide) rfl (Nat.le_of_ble_eq_true rfl) (by omega) (by omega) rfl (fun E S9 hx => hx.elim) (fun v S9 hq => ?_)
      obtain ⟨rfl, rfl⟩ := hq
      refine GA.iconst dX10_replace_32 ?_
      obtain ⟨x21, hx22, H⟩ := gv_e H
      refine GV.isub hx22 dX10_replace_33 ?_
      refine GA.aload_n dX10_replace_34 rfl ?_
      refine GA.iload_n dX10_replace_35 rfl ?_
      refine GA.iconst dX10_replace_36 ?_
      obtain ⟨x23, hx24, H⟩ := gv_e H
      refine GV.iadd hx24 dX10_replace_37 ?_
      refine GA.aload_n dX10_replace_38 rfl ?_
      refine GA.iload_n dX10_replace_39 rfl ?_
      obtain ⟨x25, S_26, hc27, H⟩ := gc_e H
      refine GA.callV (m_X10_size hc27) xs_X10_81 dX10_replace_40 (gsT hg10) (by omega) rfl rfl (by omega) (by decide) rfl (Nat.le_of_ble_eq_true rfl) (by omega) (by omega) rfl (fun E S9 hx => hx.elim) (fun v S9 hq => ?_)
      obtain ⟨rfl, rfl⟩ := hq
      refine GA.iconst dX10_replace_43 ?_
      obtain ⟨x28, hx29, H⟩ := gv_e H
      refine GV.isub hx29 dX10_replace_44 ?_
      obtain ⟨x30, S_31, hc32, H⟩ := gc_e H
      refine GA.callV (m_X10_splice hc32) xs_X10_227 dX10_replace_45 (gsT hg2) (by omega) rfl rfl (by omega) (by decide) rfl (Nat.le_of_ble_eq_true rfl) (by omega) (by omega) rfl (fun E S9 hx => hx.elim) (fun v S9 hq => ?_)
      obtain ⟨rfl, rfl⟩ := hq
      obtain ⟨hg33, H⟩ := gg_e H
      refine GV.if_eq (tgt := 108) hg33 dX10_replace_48 (by decide) (fun c34 => ?_) (fun c34 => ?_)
      · have H := it_t H c34
        cases H
        exact GA.vret rfl dX10_replace_108 (by omega) (by omega) ⟨rfl, rfl⟩
      · have H := it_f H c34
        refine GA.aload_n dX10_replace_51 rfl ?_
        refine GA.get xf_X10_9 dX10_replace_52 (gsT hg2) (by omega) rfl ?_
        refine GA.iload_n dX10_replace_55 rfl ?_
        refine GA.aload_n dX10_replace_56 rfl ?_
        refine GA.get xf_X10_9 dX10_replace_57 (gsT hg10) (by omega) rfl ?_
        refine GA.iload_n dX10_replace_60 rfl ?_
        obtain ⟨hg35, H⟩ := gg_e H
        obtain ⟨x36, hx37, H⟩ := gv_e H
        refine GV.iald hg35 hx37 dX10_replace_61 (gsT1 hg10) (by omega) ?_
        obtain ⟨hg38, H⟩ := gg_e H
        obtain ⟨S_39, hx40, H⟩ := gv_e H
        refine GV.iast hg38 hx40 dX10_replace_62 (fun _ => (gsT1 hg2)) (by omega) ?_
        refine GA.aload_n dX10_replace_63 rfl ?_
        refine GA.get xf_X10_18 dX10_replace_64 (gsT hg2) (by omega) rfl ?_
        refine GA.iload_n dX10_replace_67 rfl ?_
        refine GA.aload_n dX10_replace_68 rfl ?_
        refine GA.get xf_X10_18 dX10_replace_69 (gsT hg10) (by omega) rfl ?_
        refine GA.iload_n dX10_replace_72 rfl ?_
        obtain ⟨x41, hx42, H⟩ := gv_e H
        refine GV.iald hg35 hx42 dX10_replace_73 (gsT3 hg10) (by omega) ?_
        obtain ⟨S_43, hx44, H⟩ := gv_e H
        refine GV.iast hg38 hx44 dX10_replace_74 (fun _ => (gsT3 hg2)) (by omega) ?_
        refine GA.aload_n dX10_replace_75 rfl ?_
        refine GA.get xf_X10_21 dX10_replace_76 (gsT hg2) (by omega) rfl ?_
        refine GA.iload_n dX10_replace_79 rfl ?_
        refine GA.aload_n dX10_replace_80 rfl ?_
        refine GA.get xf_X10_21 dX10_replace_81 (gsT hg10) (by omega) rfl ?_
        refine GA.iload_n dX10_replace_84 rfl ?_
        obtain ⟨x45, hx46, H⟩ := gv_e H
        refine GV.iald hg35 hx46 dX10_replace_85 (gsT4 hg10) (by omega) ?_
        obtain ⟨S_47, hx48, H⟩ := gv_e H
        refine GV.iast hg38 hx48 dX10_replace_86 (fun _ => (gsT4 hg2)) (by omega) ?_
        refine GA.aload_n dX10_replace_87 rfl ?_
        refine GA.get xf_X10_24 dX10_replace_88 (gsT hg10) (by omega) rfl ?_
        refine GA.iload_n dX10_replace_91 rfl ?_
        refine GA.bipush dX10_replace_92 rfl ?_
        obtain ⟨x49, hx50, H⟩ := gv_e H
        refine GV.imul hx50 dX10_replace_94 ?_
        refine GA.aload_n dX10_replace_95 rfl ?_
        refine GA.get xf_X10_24 dX10_replace_96 (gsT hg2) (by omega) rfl ?_
        refine GA.iload_n dX10_replace_99 rfl ?_
        refine GA.bipush dX10_replace_100 rfl ?_
        obtain ⟨x51, hx52, H⟩ := gv_e H
        refine GV.imul hx52 dX10_replace_102 ?_
        refine GA.bipush dX10_replace_103 rfl ?_
        obtain ⟨hg53, H⟩ := gg_e H
        obtain ⟨hg54, H⟩ := gg_e H
        obtain ⟨S_55, hx56, H⟩ := gv_e H
        refine GV.copy (t := 2) (by decide) hg53 (fun _ => hg54) hx56 xs_X10_221 dX10_replace_105 (gsT5 hg10) (by omega) (fun _ => (gsT5 hg2)) (by omega) (Nat.le_of_ble_eq_true rfl) ?_
        cases H
        exact GA.vret rfl dX10_replace_108 (by omega) (by omega) ⟨rfl, rfl⟩
    · have H := it_f H c15
      refine GA.aload_n dX10_replace_16 rfl ?_
      refine GA.iconst dX10_replace_17 ?_
      obtain ⟨S_57, hx58, H⟩ := gv_e H
      refine GV.putB (by decide) hx58 (xp_X10_38 (xb_01 _)) dX10_replace_18 (gsT hg2) (by omega) (Nat.le_of_ble_eq_true rfl) (gsT hg2) ?_
      cases H
      exact GA.vret rfl dX10_replace_21 (by omega) (by omega) ⟨rfl, rfl⟩
theorem g_X10_replace {l : Launch} {Z : XZ} {L : Nat → Nat} : ∀ n, P_X10_replace_0 l Z L n
  | 0 => fun _ _ _ _ _ _ _ _ H => no_e H
  | n + 1 => t_X10_replace_0 n (g_X10_replace n)
theorem m_X10_replace {l : Launch} {Z : XZ} {L : Nat → Nat} {n d : Nat} {S : GS} {a0 : Nat} {a1 : Int} {a2 : Nat} {a3 : Int} {x : Int} {S1 : GS} (H : f_X10_replace n d 0 S [((a0 : Nat) : Int), a1, ((a2 : Nat) : Int), a3] = some (x, S1)) : GM l Z L yX10_replace cX10_replace 4 none [] d 0 0 [.ref (L a0), .int (J a1), .ref (L a2), .int (J a3)] S (fun v S' => v = none ∧ S1 = S') (fun _ _ => False) := GM.of (by decide) (Nat.le_of_ble_eq_true rfl) ((g_X10_replace n) _ _ _ _ _ _ _ _ H)

def P_X10_replaceByLast_0 (l : Launch) (Z : XZ) (L : Nat → Nat) (n : Nat) : Prop := ∀ (d : Nat) (S : GS) (a0 : Nat) (a1 : Int) (a2 : Int) (a3 : Nat) (x : Int) (S1 : GS), f_X10_replaceByLast n d 0 S [((a0 : Nat) : Int), a1, a2, ((a3 : Nat) : Int)] = some (x, S1) → GA l Z L yX10_replaceByLast cX10_replaceByLast 4 none [] d 0 0 (fun v S' => v = none ∧ S1 = S') (fun _ _ => False) 0 (gl [(0, .ref (L a0)), (1, .int (J a1)), (2, .int (J a2)), (3, .ref (L a3))]) [] S 0 0
theorem i_X10_replaceByLast {l : Launch} {Z : XZ} {L : Nat → Nat} {n : Nat} (ih : P_X10_replaceByLast_0 l Z L n) {d : Nat} {S : GS} {a0 : Nat} {a1 : Int} {a2 : Int} {a3 : Nat} {x : Int} {S1 : GS} (H : f_X10_replaceByLast n d 0 S [((a0 : Nat) : Int), a1, a2, ((a3 : Nat) : Int)] = some (x, S1)) : GM l Z L yX10_replaceByLast cX10_replaceByLast 4 none [] d 0 0 [.ref (L a0), .int (J a1), .int (J a2), .ref (L a3)] S (fun v S' => v = none ∧ S1 = S') (fun _ _ => False) := GM.of (by decide) (Nat.le_of_ble_eq_true rfl) (ih _ _ _ _ _ _ _ _ H)
set_option maxHeartbeats 4000000 in
set_option maxRecDepth 20000 in
theorem t_X10_replaceByLast_0 {l : Launch} {Z : XZ} {L : Nat → Nat} (n : Nat) (ih_X10_replaceByLast_0 : P_X10_replaceByLast_0 l Z L n) : P_X10_replaceByLast_0 l Z L (n + 1) := by
  intro d S a0 a1 a2 a3 x S1 H
  have H : b_X10_replaceByLast_0 n d (f_X10_replaceByLast n) S a0 a1 a2 a3 = some (x, S1) := H
  unfold b_X10_replaceByLast_0 at H
  refine GA.aload_n dX10_replaceByLast_0 rfl ?_
  refine GA.aload_n dX10_replaceByLast_1 rfl ?_
  refine GA.iload_n dX10_replaceByLast_2 rfl ?_
  obtain ⟨hg1, H⟩ := gg_e H
  obtain ⟨hg2, H⟩ := gg_e H
  obtain ⟨x3, S_4, hc5, H⟩ := gc_e H
  refine GA.callV (m_X10_copyOf hc5) xs_X10_231 dX10_replaceByLast_3 (gsT hg2) (by omega) rfl rfl (by omega) (by decide) rfl (Nat.le_of_ble_eq_true rfl) (by omega) (by omega) rfl (fun E S9 hx => hx.elim) (fun v S9 hq => ?_)
  obtain ⟨rfl, rfl⟩ := hq
  refine GA.aload_n dX10_replaceByLast_6 rfl ?_
  refine GA.iload_n dX10_replaceByLast_7 rfl ?_
  obtain ⟨hg6, H⟩ := gg_e H
  obtain ⟨x7, S_8, hc9, H⟩ := gc_e H
  refine GA.callV (m_X10_dropFrom hc9) xs_X10_235 dX10_replaceByLast_8 (gsT hg6) (by omega) rfl rfl (by omega) (by decide) rfl (Nat.le_of_ble_eq_true rfl) (by omega) (by omega) rfl (fun E S9 hx => hx.elim) (fun v S9 hq => ?_)
  obtain ⟨rfl, rfl⟩ := hq
  refine GA.aload_n dX10_replaceByLast_11 rfl ?_
  refine GA.iload_n dX10_replaceByLast_12 rfl ?_
  refine GA.aload_n dX10_replaceByLast_13 rfl ?_
  refine GA.iconst dX10_replaceByLast_14 ?_
  obtain ⟨x10, S_11, hc12, H⟩ := gc_e H
  refine GA.callV (m_X10_replace hc12) xs_X10_238 dX10_replaceByLast_15 (gsT hg6) (by omega) rfl rfl (by omega) (by decide) rfl (Nat.le_of_ble_eq_true rfl) (by omega) (by omega) rfl (fun E S9 hx => hx.elim) (fun v S9 hq => ?_)
  obtain ⟨rfl, rfl⟩ := hq
  cases H
  exact GA.vret rfl dX10_replaceByLast_18 (by omega) (by omega) ⟨rfl, rfl⟩
theorem g_X10_replaceByLast {l : Launch} {Z : XZ} {L : Nat → Nat} : ∀ n, P_X10_replaceByLast_0 l Z L n
  | 0 => fun _ _ _ _ _ _ _ _ H => no_e H
  | n + 1 => t_X10_replaceByLast_0 n (g_X10_replaceByLast n)
theorem m_X10_replaceByLast {l : Launch} {Z : XZ} {L : Nat → Nat} {n d : Nat} {S : GS} {a0 : Nat} {a1 : Int} {a2 : Int} {a3 : Nat} {x : Int} {S1 : GS} (H : f_X10_replaceByLast n d 0 S [((a0 : Nat) : Int), a1, a2, ((a3 : Nat) : Int)] = some (x, S1)) : GM l Z L yX10_replaceByLast cX10_replaceByLast 4 none [] d 0 0 [.ref (L a0), .int (J a1), .int (J a2), .ref (L a3)] S (fun v S' => v = none ∧ S1 = S') (fun _ _ => False) := GM.of (by decide) (Nat.le_of_ble_eq_true rfl) ((g_X10_replaceByLast n) _ _ _ _ _ _ _ _ H)

def P_X10_setKey_0 (l : Launch) (Z : XZ) (L : Nat → Nat) (n : Nat) : Prop := ∀ (d : Nat) (S : GS) (a0 : Nat) (a1 : Int) (a2 : Nat) (x : Int) (S1 : GS), f_X10_setKey n d 0 S [((a0 : Nat) : Int), a1, ((a2 : Nat) : Int)] = some (x, S1) → GA l Z L yX10_setKey cX10_setKey 4 none [] d 0 0 (fun v S' => v = none ∧ S1 = S') (fun _ _ => False) 0 (gl [(0, .ref (L a0)), (1, .int (J a1)), (2, .ref (L a2))]) [] S 0 0
def P_X10_setKey_7 (l : Launch) (Z : XZ) (L : Nat → Nat) (n : Nat) : Prop := ∀ (d : Nat) (S : GS) (a0 : Nat) (a1 : Int) (a2 : Nat) (a3 : Int) (x : Int) (S1 : GS), f_X10_setKey n d 7 S [((a0 : Nat) : Int), a1, ((a2 : Nat) : Int), a3] = some (x, S1) → GA l Z L yX10_setKey cX10_setKey 4 none [] d 0 0 (fun v S' => v = none ∧ S1 = S') (fun _ _ => False) 7 (gl [(0, .ref (L a0)), (1, .int (J a1)), (2, .ref (L a2)), (3, .int (J a3))]) [] S 0 0
theorem i_X10_setKey {l : Launch} {Z : XZ} {L : Nat → Nat} {n : Nat} (ih : P_X10_setKey_0 l Z L n) {d : Nat} {S : GS} {a0 : Nat} {a1 : Int} {a2 : Nat} {x : Int} {S1 : GS} (H : f_X10_setKey n d 0 S [((a0 : Nat) : Int), a1, ((a2 : Nat) : Int)] = some (x, S1)) : GM l Z L yX10_setKey cX10_setKey 4 none [] d 0 0 [.ref (L a0), .int (J a1), .ref (L a2)] S (fun v S' => v = none ∧ S1 = S') (fun _ _ => False) := GM.of (by decide) (Nat.le_of_ble_eq_true rfl) (ih _ _ _ _ _ _ _ H)
set_option maxHeartbeats 4000000 in
set_option maxRecDepth 20000 in
theorem t_X10_setKey_0 {l : Launch} {Z : XZ} {L : Nat → Nat} (n : Nat) (ih_X10_setKey_0 : P_X10_setKey_0 l Z L n) (ih_X10_setKey_7 : P_X10_setKey_7 l Z L n) : P_X10_setKey_0 l Z L (n + 1) := by
  intro d S a0 a1 a2 x S1 H
  have H : b_X10_setKey_0 n d (f_X10_setKey n) S a0 a1 a2 = some (x, S1) := H
  unfold b_X10_setKey_0 at H
  refine GA.aload_n dX10_setKey_0 rfl ?_
  refine GA.iload_n dX10_setKey_1 rfl ?_
  obtain ⟨hg1, H⟩ := gg_e H
  obtain ⟨hg2, H⟩ := gg_e H
  obtain ⟨x3, S_4, hc5, H⟩ := gc_e H
  refine GA.callV (m_X10_clearKey hc5) xs_X10_156 dX10_setKey_2 (gsT hg2) (by omega) rfl rfl (by omega) (by decide) rfl (Nat.le_of_ble_eq_true rfl) (by omega) (by omega) rfl (fun E S9 hx => hx.elim) (fun v S9 hq => ?_)
  obtain ⟨rfl, rfl⟩ := hq
  refine GA.iconst dX10_setKey_5 ?_
  refine GA.istore_n dX10_setKey_6 (by decide) ?_
  refine GA.locals [(0, .ref (L a0)), (1, .int (J a1)), (2, .ref (L a2)), (3, .int (J 0))] ⟨rfl, rfl, rfl, rfl, trivial⟩ ?_
  exact ih_X10_setKey_7 _ _ (a0) (a1) (a2) (0) _ _ H
set_option maxHeartbeats 4000000 in
set_option maxRecDepth 20000 in
theorem t_X10_setKey_7 {l : Launch} {Z : XZ} {L : Nat → Nat} (n : Nat) (ih_X10_setKey_0 : P_X10_setKey_0 l Z L n) (ih_X10_setKey_7 : P_X10_setKey_7 l Z L n) : P_X10_setKey_7 l Z L (n + 1) := by
  intro d S a0 a1 a2 a3 x S1 H
  have H : b_X10_setKey_7 n d (f_X10_setKey n) S a0 a1 a2 a3 = some (x, S1) := H
  unfold b_X10_setKey_7 at H
  refine GA.iload_n dX10_setKey_7 rfl ?_
  refine GA.aload_n dX10_setKey_8 rfl ?_
  obtain ⟨hg1, H⟩ := gg_e H
  obtain ⟨hg2, H⟩ := gg_e H
  obtain ⟨x3, S_4, hc5, H⟩ := gc_e H
  refine GA.callV (m_X9_length hc5) xs_X10_124 dX10_setKey_9 (gsS hg2) (by omega) rfl rfl (by omega) (by decide) rfl (Nat.le_of_ble_eq_true rfl) (by omega) (by omega) rfl (fun E S9 hx => hx.elim) (fun v S9 hq => ?_)
  obtain ⟨rfl, rfl⟩ := hq
  obtain ⟨hg6, H⟩ := gg_e H
  obtain ⟨hg7, H⟩ := gg_e H
  refine GV.icmp_ge (tgt := 31) hg6 hg7 dX10_setKey_12 (by decide) (fun c8 => ?_) (fun c8 => ?_)
  · have H := it_t H c8
    cases H
    exact GA.vret rfl dX10_setKey_31 (by omega) (by omega) ⟨rfl, rfl⟩
  · have H := it_f H c8
    refine GA.aload_n dX10_setKey_15 rfl ?_
    refine GA.iload_n dX10_setKey_16 rfl ?_
    refine GA.aload_n dX10_setKey_17 rfl ?_
    refine GA.iload_n dX10_setKey_18 rfl ?_
    obtain ⟨x9, S_10, hc11, H⟩ := gc_e H
    refine GA.callV (m_X9_at hc11) xs_X10_129 dX10_setKey_19 (gsS hg2) (by omega) rfl rfl (by omega) (by decide) rfl (Nat.le_of_ble_eq_true rfl) (by omega) (by omega) rfl (fun E S9 hx => hx.elim) (fun v S9 hq => ?_)
    obtain ⟨rfl, rfl⟩ := hq
    obtain ⟨hg12, H⟩ := gg_e H
    obtain ⟨x13, S_14, hc15, H⟩ := gc_e H
    refine GA.callV (m_X10_addKeySign hc15) xs_X10_159 dX10_setKey_22 (gsT hg12) (by omega) rfl rfl (by omega) (by decide) rfl (Nat.le_of_ble_eq_true rfl) (by omega) (by omega) rfl (fun E S9 hx => hx.elim) (fun v S9 hq => ?_)
    obtain ⟨rfl, rfl⟩ := hq
    obtain ⟨x16, hx17, H⟩ := gv_e H
    refine GV.iinc hx17 dX10_setKey_25 rfl (by decide) ?_
    refine GA.goto (tgt := 7) dX10_setKey_28 (by decide) ?_
    refine GA.locals [(0, .ref (L a0)), (1, .int (J a1)), (2, .ref (L a2)), (3, .int (J x16))] ⟨rfl, rfl, rfl, rfl, trivial⟩ ?_
    exact ih_X10_setKey_7 _ _ (a0) (a1) (a2) (x16) _ _ H
theorem g_X10_setKey {l : Launch} {Z : XZ} {L : Nat → Nat} : ∀ n, P_X10_setKey_0 l Z L n ∧ P_X10_setKey_7 l Z L n
  | 0 => ⟨fun _ _ _ _ _ _ _ H => no_e H, fun _ _ _ _ _ _ _ _ H => no_e H⟩
  | n + 1 => have ⟨h0, h1⟩ := g_X10_setKey (l := l) (Z := Z) (L := L) n
    ⟨t_X10_setKey_0 n h0 h1, t_X10_setKey_7 n h0 h1⟩
theorem m_X10_setKey {l : Launch} {Z : XZ} {L : Nat → Nat} {n d : Nat} {S : GS} {a0 : Nat} {a1 : Int} {a2 : Nat} {x : Int} {S1 : GS} (H : f_X10_setKey n d 0 S [((a0 : Nat) : Int), a1, ((a2 : Nat) : Int)] = some (x, S1)) : GM l Z L yX10_setKey cX10_setKey 4 none [] d 0 0 [.ref (L a0), .int (J a1), .ref (L a2)] S (fun v S' => v = none ∧ S1 = S') (fun _ _ => False) := GM.of (by decide) (Nat.le_of_ble_eq_true rfl) ((g_X10_setKey n).1 _ _ _ _ _ _ _ H)

def P_X10_setKeyLike_0 (l : Launch) (Z : XZ) (L : Nat → Nat) (n : Nat) : Prop := ∀ (d : Nat) (S : GS) (a0 : Nat) (a1 : Int) (a2 : Nat) (a3 : Int) (x : Int) (S1 : GS), f_X10_setKeyLike n d 0 S [((a0 : Nat) : Int), a1, ((a2 : Nat) : Int), a3] = some (x, S1) → GA l Z L yX10_setKeyLike cX10_setKeyLike 5 none [] d 0 0 (fun v S' => v = none ∧ S1 = S') (fun _ _ => False) 0 (gl [(0, .ref (L a0)), (1, .int (J a1)), (2, .ref (L a2)), (3, .int (J a3))]) [] S 0 0
def P_X10_setKeyLike_8 (l : Launch) (Z : XZ) (L : Nat → Nat) (n : Nat) : Prop := ∀ (d : Nat) (S : GS) (a0 : Nat) (a1 : Int) (a2 : Nat) (a3 : Int) (a4 : Int) (x : Int) (S1 : GS), f_X10_setKeyLike n d 8 S [((a0 : Nat) : Int), a1, ((a2 : Nat) : Int), a3, a4] = some (x, S1) → GA l Z L yX10_setKeyLike cX10_setKeyLike 5 none [] d 0 0 (fun v S' => v = none ∧ S1 = S') (fun _ _ => False) 8 (gl [(0, .ref (L a0)), (1, .int (J a1)), (2, .ref (L a2)), (3, .int (J a3)), (4, .int (J a4))]) [] S 0 0
theorem i_X10_setKeyLike {l : Launch} {Z : XZ} {L : Nat → Nat} {n : Nat} (ih : P_X10_setKeyLike_0 l Z L n) {d : Nat} {S : GS} {a0 : Nat} {a1 : Int} {a2 : Nat} {a3 : Int} {x : Int} {S1 : GS} (H : f_X10_setKeyLike n d 0 S [((a0 : Nat) : Int), a1, ((a2 : Nat) : Int), a3] = some (x, S1)) : GM l Z L yX10_setKeyLike cX10_setKeyLike 5 none [] d 0 0 [.ref (L a0), .int (J a1), .ref (L a2), .int (J a3)] S (fun v S' => v = none ∧ S1 = S') (fun _ _ => False) := GM.of (by decide) (Nat.le_of_ble_eq_true rfl) (ih _ _ _ _ _ _ _ _ H)
set_option maxHeartbeats 4000000 in
set_option maxRecDepth 20000 in
theorem t_X10_setKeyLike_0 {l : Launch} {Z : XZ} {L : Nat → Nat} (n : Nat) (ih_X10_setKeyLike_0 : P_X10_setKeyLike_0 l Z L n) (ih_X10_setKeyLike_8 : P_X10_setKeyLike_8 l Z L n) : P_X10_setKeyLike_0 l Z L (n + 1) := by
  intro d S a0 a1 a2 a3 x S1 H
  have H : b_X10_setKeyLike_0 n d (f_X10_setKeyLike n) S a0 a1 a2 a3 = some (x, S1) := H
  unfold b_X10_setKeyLike_0 at H
  refine GA.aload_n dX10_setKeyLike_0 rfl ?_
  refine GA.iload_n dX10_setKeyLike_1 rfl ?_
  obtain ⟨hg1, H⟩ := gg_e H
  obtain ⟨hg2, H⟩ := gg_e H
  obtain ⟨x3, S_4, hc5, H⟩ := gc_e H
  refine GA.callV (m_X10_clearKey hc5) xs_X10_156 dX10_setKeyLike_2 (gsT hg2) (by omega) rfl rfl (by omega) (by decide) rfl (Nat.le_of_ble_eq_true rfl) (by omega) (by omega) rfl (fun E S9 hx => hx.elim) (fun v S9 hq => ?_)
  obtain ⟨rfl, rfl⟩ := hq
  refine GA.iconst dX10_setKeyLike_5 ?_
  refine GA.istore dX10_setKeyLike_6 (by decide) ?_
  refine GA.locals [(0, .ref (L a0)), (1, .int (J a1)), (2, .ref (L a2)), (3, .int (J a3)), (4, .int (J 0))] ⟨rfl, rfl, rfl, rfl, rfl, trivial⟩ ?_
  exact ih_X10_setKeyLike_8 _ _ (a0) (a1) (a2) (a3) (0) _ _ H
set_option maxHeartbeats 4000000 in
set_option maxRecDepth 20000 in
theorem t_X10_setKeyLike_8 {l : Launch} {Z : XZ} {L : Nat → Nat} (n : Nat) (ih_X10_setKeyLike_0 : P_X10_setKeyLike_0 l Z L n) (ih_X10_setKeyLike_8 : P_X10_setKeyLike_8 l Z L n) : P_X10_setKeyLike_8 l Z L (n + 1) := by
  intro d S a0 a1 a2 a3 a4 x S1 H
  have H : b_X10_setKeyLike_8 n d (f_X10_setKeyLike n) S a0 a1 a2 a3 a4 = some (x, S1) := H
  unfold b_X10_setKeyLike_8 at H
  refine GA.iload dX10_setKeyLike_8 rfl ?_
  refine GA.aload_n dX10_setKeyLike_10 rfl ?_
  refine GA.iload_n dX10_setKeyLike_11 rfl ?_
  obtain ⟨hg1, H⟩ := gg_e H
  obtain ⟨hg2, H⟩ := gg_e H
  obtain ⟨x3, S_4, hc5, H⟩ := gc_e H
  refine GA.callV (m_X10_keyLength hc5) xs_X10_117 dX10_setKeyLike_12 (gsT hg2) (by omega) rfl rfl (by omega) (by decide) rfl (Nat.le_of_ble_eq_true rfl) (by omega) (by omega) rfl (fun E S9 hx => hx.elim) (fun v S9 hq => ?_)
  obtain ⟨rfl, rfl⟩ := hq
  obtain ⟨hg6, H⟩ := gg_e H
  obtain ⟨hg7, H⟩ := gg_e H
  refine GV.icmp_ge (tgt := 36) hg6 hg7 dX10_setKeyLike_15 (by decide) (fun c8 => ?_) (fun c8 => ?_)
  · have H := it_t H c8
    cases H
    exact GA.vret rfl dX10_setKeyLike_36 (by omega) (by omega) ⟨rfl, rfl⟩
  · have H := it_f H c8
    refine GA.aload_n dX10_setKeyLike_18 rfl ?_
    refine GA.iload_n dX10_setKeyLike_19 rfl ?_
    refine GA.aload_n dX10_setKeyLike_20 rfl ?_
    refine GA.iload_n dX10_setKeyLike_21 rfl ?_
    refine GA.iload dX10_setKeyLike_22 rfl ?_
    obtain ⟨x9, S_10, hc11, H⟩ := gc_e H
    refine GA.callV (m_X10_keySign hc11) xs_X10_162 dX10_setKeyLike_24 (gsT hg2) (by omega) rfl rfl (by omega) (by decide) rfl (Nat.le_of_ble_eq_true rfl) (by omega) (by omega) rfl (fun E S9 hx => hx.elim) (fun v S9 hq => ?_)
    obtain ⟨rfl, rfl⟩ := hq
    obtain ⟨hg12, H⟩ := gg_e H
    obtain ⟨x13, S_14, hc15, H⟩ := gc_e H
    refine GA.callV (m_X10_addKeySign hc15) xs_X10_159 dX10_setKeyLike_27 (gsT hg12) (by omega) rfl rfl (by omega) (by decide) rfl (Nat.le_of_ble_eq_true rfl) (by omega) (by omega) rfl (fun E S9 hx => hx.elim) (fun v S9 hq => ?_)
    obtain ⟨rfl, rfl⟩ := hq
    obtain ⟨x16, hx17, H⟩ := gv_e H
    refine GV.iinc hx17 dX10_setKeyLike_30 rfl (by decide) ?_
    refine GA.goto (tgt := 8) dX10_setKeyLike_33 (by decide) ?_
    refine GA.locals [(0, .ref (L a0)), (1, .int (J a1)), (2, .ref (L a2)), (3, .int (J a3)), (4, .int (J x16))] ⟨rfl, rfl, rfl, rfl, rfl, trivial⟩ ?_
    exact ih_X10_setKeyLike_8 _ _ (a0) (a1) (a2) (a3) (x16) _ _ H
theorem g_X10_setKeyLike {l : Launch} {Z : XZ} {L : Nat → Nat} : ∀ n, P_X10_setKeyLike_0 l Z L n ∧ P_X10_setKeyLike_8 l Z L n
  | 0 => ⟨fun _ _ _ _ _ _ _ _ H => no_e H, fun _ _ _ _ _ _ _ _ _ H => no_e H⟩
  | n + 1 => have ⟨h0, h1⟩ := g_X10_setKeyLike (l := l) (Z := Z) (L := L) n
    ⟨t_X10_setKeyLike_0 n h0 h1, t_X10_setKeyLike_8 n h0 h1⟩
theorem m_X10_setKeyLike {l : Launch} {Z : XZ} {L : Nat → Nat} {n d : Nat} {S : GS} {a0 : Nat} {a1 : Int} {a2 : Nat} {a3 : Int} {x : Int} {S1 : GS} (H : f_X10_setKeyLike n d 0 S [((a0 : Nat) : Int), a1, ((a2 : Nat) : Int), a3] = some (x, S1)) : GM l Z L yX10_setKeyLike cX10_setKeyLike 5 none [] d 0 0 [.ref (L a0), .int (J a1), .ref (L a2), .int (J a3)] S (fun v S' => v = none ∧ S1 = S') (fun _ _ => False) := GM.of (by decide) (Nat.le_of_ble_eq_true rfl) ((g_X10_setKeyLike n).1 _ _ _ _ _ _ _ _ H)

def P_X10_setKeyWord_0 (l : Launch) (Z : XZ) (L : Nat → Nat) (n : Nat) : Prop := ∀ (d : Nat) (S : GS) (a0 : Nat) (a1 : Int) (a2 : Nat) (x : Int) (S1 : GS), f_X10_setKeyWord n d 0 S [((a0 : Nat) : Int), a1, ((a2 : Nat) : Int)] = some (x, S1) → GA l Z L yX10_setKeyWord cX10_setKeyWord 4 none [] d 0 0 (fun v S' => v = none ∧ S1 = S') (fun _ _ => False) 0 (gl [(0, .ref (L a0)), (1, .int (J a1)), (2, .ref (Z.2.1 a2))]) [] S 0 0
def P_X10_setKeyWord_7 (l : Launch) (Z : XZ) (L : Nat → Nat) (n : Nat) : Prop := ∀ (d : Nat) (S : GS) (a0 : Nat) (a1 : Int) (a2 : Nat) (a3 : Int) (x : Int) (S1 : GS), f_X10_setKeyWord n d 7 S [((a0 : Nat) : Int), a1, ((a2 : Nat) : Int), a3] = some (x, S1) → GA l Z L yX10_setKeyWord cX10_setKeyWord 4 none [] d 0 0 (fun v S' => v = none ∧ S1 = S') (fun _ _ => False) 7 (gl [(0, .ref (L a0)), (1, .int (J a1)), (2, .ref (Z.2.1 a2)), (3, .int (J a3))]) [] S 0 0
theorem i_X10_setKeyWord {l : Launch} {Z : XZ} {L : Nat → Nat} {n : Nat} (ih : P_X10_setKeyWord_0 l Z L n) {d : Nat} {S : GS} {a0 : Nat} {a1 : Int} {a2 : Nat} {x : Int} {S1 : GS} (H : f_X10_setKeyWord n d 0 S [((a0 : Nat) : Int), a1, ((a2 : Nat) : Int)] = some (x, S1)) : GM l Z L yX10_setKeyWord cX10_setKeyWord 4 none [] d 0 0 [.ref (L a0), .int (J a1), .ref (Z.2.1 a2)] S (fun v S' => v = none ∧ S1 = S') (fun _ _ => False) := GM.of (by decide) (Nat.le_of_ble_eq_true rfl) (ih _ _ _ _ _ _ _ H)
set_option maxHeartbeats 4000000 in
set_option maxRecDepth 20000 in
theorem t_X10_setKeyWord_0 {l : Launch} {Z : XZ} {L : Nat → Nat} (n : Nat) (ih_X10_setKeyWord_0 : P_X10_setKeyWord_0 l Z L n) (ih_X10_setKeyWord_7 : P_X10_setKeyWord_7 l Z L n) : P_X10_setKeyWord_0 l Z L (n + 1) := by
  intro d S a0 a1 a2 x S1 H
  have H : b_X10_setKeyWord_0 n d (f_X10_setKeyWord n) S a0 a1 a2 = some (x, S1) := H
  unfold b_X10_setKeyWord_0 at H
  refine GA.aload_n dX10_setKeyWord_0 rfl ?_
  refine GA.iload_n dX10_setKeyWord_1 rfl ?_
  obtain ⟨hg1, H⟩ := gg_e H
  obtain ⟨hg2, H⟩ := gg_e H
  obtain ⟨x3, S_4, hc5, H⟩ := gc_e H
  refine GA.callV (m_X10_clearKey hc5) xs_X10_156 dX10_setKeyWord_2 (gsT hg2) (by omega) rfl rfl (by omega) (by decide) rfl (Nat.le_of_ble_eq_true rfl) (by omega) (by omega) rfl (fun E S9 hx => hx.elim) (fun v S9 hq => ?_)
  obtain ⟨rfl, rfl⟩ := hq
  refine GA.iconst dX10_setKeyWord_5 ?_
  refine GA.istore_n dX10_setKeyWord_6 (by decide) ?_
  refine GA.locals [(0, .ref (L a0)), (1, .int (J a1)), (2, .ref (Z.2.1 a2)), (3, .int (J 0))] ⟨rfl, rfl, rfl, rfl, trivial⟩ ?_
  exact ih_X10_setKeyWord_7 _ _ (a0) (a1) (a2) (0) _ _ H
set_option maxHeartbeats 4000000 in
set_option maxRecDepth 20000 in
theorem t_X10_setKeyWord_7 {l : Launch} {Z : XZ} {L : Nat → Nat} (n : Nat) (ih_X10_setKeyWord_0 : P_X10_setKeyWord_0 l Z L n) (ih_X10_setKeyWord_7 : P_X10_setKeyWord_7 l Z L n) : P_X10_setKeyWord_7 l Z L (n + 1) := by
  intro d S a0 a1 a2 a3 x S1 H
  have H : b_X10_setKeyWord_7 n d (f_X10_setKeyWord n) S a0 a1 a2 a3 = some (x, S1) := H
  unfold b_X10_setKeyWord_7 at H
  refine GA.iload_n dX10_setKeyWord_7 rfl ?_
  refine GA.aload_n dX10_setKeyWord_8 rfl ?_
  obtain ⟨hg1, H⟩ := gg_e H
  obtain ⟨hg2, H⟩ := gg_e H
  obtain ⟨x3, hx4, H⟩ := gv_e H
  refine GV.strLen hg1 hx4 xs_X10_149 dX10_setKeyWord_9 hg2 (Nat.le_of_ble_eq_true rfl) (by omega) (by omega) ?_
  obtain ⟨hg5, H⟩ := gg_e H
  obtain ⟨hg6, H⟩ := gg_e H
  refine GV.icmp_ge (tgt := 31) hg5 hg6 dX10_setKeyWord_12 (by decide) (fun c7 => ?_) (fun c7 => ?_)
  · have H := it_t H c7
    cases H
    exact GA.vret rfl dX10_setKeyWord_31 (by omega) (by omega) ⟨rfl, rfl⟩
  · have H := it_f H c7
    refine GA.aload_n dX10_setKeyWord_15 rfl ?_
    refine GA.iload_n dX10_setKeyWord_16 rfl ?_
    refine GA.aload_n dX10_setKeyWord_17 rfl ?_
    refine GA.iload_n dX10_setKeyWord_18 rfl ?_
    obtain ⟨hg8, H⟩ := gg_e H
    obtain ⟨hg9, H⟩ := gg_e H
    obtain ⟨x10, hx11, H⟩ := gv_e H
    refine GV.strChar hg1 hg9 hx11 xs_X10_152 dX10_setKeyWord_19 hg8 (Nat.le_of_ble_eq_true rfl) (by omega) (by omega) ?_
    obtain ⟨hg12, H⟩ := gg_e H
    obtain ⟨hg13, H⟩ := gg_e H
    obtain ⟨x14, S_15, hc16, H⟩ := gc_e H
    refine GA.callV (m_X10_addKeySign hc16) xs_X10_159 dX10_setKeyWord_22 (gsT hg13) (by omega) rfl rfl (by omega) (by decide) rfl (Nat.le_of_ble_eq_true rfl) (by omega) (by omega) rfl (fun E S9 hx => hx.elim) (fun v S9 hq => ?_)
    obtain ⟨rfl, rfl⟩ := hq
    obtain ⟨x17, hx18, H⟩ := gv_e H
    refine GV.iinc hx18 dX10_setKeyWord_25 rfl (by decide) ?_
    refine GA.goto (tgt := 7) dX10_setKeyWord_28 (by decide) ?_
    refine GA.locals [(0, .ref (L a0)), (1, .int (J a1)), (2, .ref (Z.2.1 a2)), (3, .int (J x17))] ⟨rfl, rfl, rfl, rfl, trivial⟩ ?_
    exact ih_X10_setKeyWord_7 _ _ (a0) (a1) (a2) (x17) _ _ H
theorem g_X10_setKeyWord {l : Launch} {Z : XZ} {L : Nat → Nat} : ∀ n, P_X10_setKeyWord_0 l Z L n ∧ P_X10_setKeyWord_7 l Z L n
  | 0 => ⟨fun _ _ _ _ _ _ _ H => no_e H, fun _ _ _ _ _ _ _ _ H => no_e H⟩
  | n + 1 => have ⟨h0, h1⟩ := g_X10_setKeyWord (l := l) (Z := Z) (L := L) n
    ⟨t_X10_setKeyWord_0 n h0 h1, t_X10_setKeyWord_7 n h0 h1⟩
theorem m_X10_setKeyWord {l : Launch} {Z : XZ} {L : Nat → Nat} {n d : Nat} {S : GS} {a0 : Nat} {a1 : Int} {a2 : Nat} {x : Int} {S1 : GS} (H : f_X10_setKeyWord n d 0 S [((a0 : Nat) : Int), a1, ((a2 : Nat) : Int)] = some (x, S1)) : GM l Z L yX10_setKeyWord cX10_setKeyWord 4 none [] d 0 0 [.ref (L a0), .int (J a1), .ref (Z.2.1 a2)] S (fun v S' => v = none ∧ S1 = S') (fun _ _ => False) := GM.of (by decide) (Nat.le_of_ble_eq_true rfl) ((g_X10_setKeyWord n).1 _ _ _ _ _ _ _ H)

def P_X10_valueAt_0 (l : Launch) (Z : XZ) (L : Nat → Nat) (n : Nat) : Prop := ∀ (d : Nat) (S : GS) (a0 : Nat) (a1 : Int) (a2 : Int) (x : Int) (S1 : GS), f_X10_valueAt n d 0 S [((a0 : Nat) : Int), a1, a2] = some (x, S1) → GA l Z L yX10_valueAt cX10_valueAt 5 (some .int) [] d 0 0 (fun v S' => v = some (.int (J x)) ∧ S1 = S') (fun _ _ => False) 0 (gl [(0, .ref (L a0)), (1, .int (J a1)), (2, .int (J a2))]) [] S 0 0
def P_X10_valueAt_9 (l : Launch) (Z : XZ) (L : Nat → Nat) (n : Nat) : Prop := ∀ (d : Nat) (S : GS) (a0 : Nat) (a1 : Int) (a2 : Int) (a3 : Int) (a4 : Int) (x : Int) (S1 : GS), f_X10_valueAt n d 9 S [((a0 : Nat) : Int), a1, a2, a3, a4] = some (x, S1) → GA l Z L yX10_valueAt cX10_valueAt 5 (some .int) [] d 0 0 (fun v S' => v = some (.int (J x)) ∧ S1 = S') (fun _ _ => False) 9 (gl [(0, .ref (L a0)), (1, .int (J a1)), (2, .int (J a2)), (3, .int (J a3)), (4, .int (J a4))]) [] S 0 0
theorem i_X10_valueAt {l : Launch} {Z : XZ} {L : Nat → Nat} {n : Nat} (ih : P_X10_valueAt_0 l Z L n) {d : Nat} {S : GS} {a0 : Nat} {a1 : Int} {a2 : Int} {x : Int} {S1 : GS} (H : f_X10_valueAt n d 0 S [((a0 : Nat) : Int), a1, a2] = some (x, S1)) : GM l Z L yX10_valueAt cX10_valueAt 5 (some .int) [] d 0 0 [.ref (L a0), .int (J a1), .int (J a2)] S (fun v S' => v = some (.int (J x)) ∧ S1 = S') (fun _ _ => False) := GM.of (by decide) (Nat.le_of_ble_eq_true rfl) (ih _ _ _ _ _ _ _ H)
set_option maxHeartbeats 4000000 in
set_option maxRecDepth 20000 in
theorem t_X10_valueAt_0 {l : Launch} {Z : XZ} {L : Nat → Nat} (n : Nat) (ih_X10_valueAt_0 : P_X10_valueAt_0 l Z L n) (ih_X10_valueAt_9 : P_X10_valueAt_9 l Z L n) : P_X10_valueAt_0 l Z L (n + 1) := by
  intro d S a0 a1 a2 x S1 H
  have H : b_X10_valueAt_0 n d (f_X10_valueAt n) S a0 a1 a2 = some (x, S1) := H
  unfold b_X10_valueAt_0 at H
  refine GA.aload_n dX10_valueAt_0 rfl ?_
  refine GA.iload_n dX10_valueAt_1 rfl ?_
  obtain ⟨hg1, H⟩ := gg_e H
  obtain ⟨hg2, H⟩ := gg_e H
  obtain ⟨x3, S_4, hc5, H⟩ := gc_e H
  refine GA.callV (m_X10_first hc5) xs_X10_52 dX10_valueAt_2 (gsT hg2) (by omega) rfl rfl (by omega) (by decide) rfl (Nat.le_of_ble_eq_true rfl) (by omega) (by omega) rfl (fun E S9 hx => hx.elim) (fun v S9 hq => ?_)
  obtain ⟨rfl, rfl⟩ := hq
  refine GA.istore_n dX10_valueAt_5 (by decide) ?_
  refine GA.iconst dX10_valueAt_6 ?_
  refine GA.istore dX10_valueAt_7 (by decide) ?_
  refine GA.locals [(0, .ref (L a0)), (1, .int (J a1)), (2, .int (J a2)), (3, .int (J x3)), (4, .int (J 0))] ⟨rfl, rfl, rfl, rfl, rfl, trivial⟩ ?_
  exact ih_X10_valueAt_9 _ _ (a0) (a1) (a2) (x3) (0) _ _ H
set_option maxHeartbeats 4000000 in
set_option maxRecDepth 20000 in
theorem t_X10_valueAt_9 {l : Launch} {Z : XZ} {L : Nat → Nat} (n : Nat) (ih_X10_valueAt_0 : P_X10_valueAt_0 l Z L n) (ih_X10_valueAt_9 : P_X10_valueAt_9 l Z L n) : P_X10_valueAt_9 l Z L (n + 1) := by
  intro d S a0 a1 a2 a3 a4 x S1 H
  have H : b_X10_valueAt_9 n d (f_X10_valueAt n) S a0 a1 a2 a3 a4 = some (x, S1) := H
  unfold b_X10_valueAt_9 at H
  refine GA.iload_n dX10_valueAt_9 rfl ?_
  refine GA.iconst dX10_valueAt_10 ?_
  obtain ⟨hg1, H⟩ := gg_e H
  refine GV.icmp_eq (tgt := 42) hg1 (by decide) dX10_valueAt_11 (by decide) (fun c2 => ?_) (fun c2 => ?_)
  · have H := it_t H c2
    refine GA.iconst dX10_valueAt_42 ?_
    cases H
    exact GA.iret rfl dX10_valueAt_43 (by omega) (by omega) ⟨rfl, rfl⟩
  · have H := it_f H c2
    refine GA.iload dX10_valueAt_14 rfl ?_
    refine GA.bipush dX10_valueAt_16 rfl ?_
    obtain ⟨hg3, H⟩ := gg_e H
    refine GV.icmp_ge (tgt := 42) hg3 (by decide) dX10_valueAt_18 (by decide) (fun c4 => ?_) (fun c4 => ?_)
    · have H := it_t H c4
      refine GA.iconst dX10_valueAt_42 ?_
      cases H
      exact GA.iret rfl dX10_valueAt_43 (by omega) (by omega) ⟨rfl, rfl⟩
    · have H := it_f H c4
      refine GA.iload dX10_valueAt_21 rfl ?_
      refine GA.iload_n dX10_valueAt_23 rfl ?_
      obtain ⟨hg5, H⟩ := gg_e H
      refine GV.icmp_ne (tgt := 29) hg3 hg5 dX10_valueAt_24 (by decide) (fun c6 => ?_) (fun c6 => ?_)
      · have H := it_t H c6
        refine GA.aload_n dX10_valueAt_29 rfl ?_
        refine GA.iload_n dX10_valueAt_30 rfl ?_
        refine GA.iload_n dX10_valueAt_31 rfl ?_
        obtain ⟨hg7, H⟩ := gg_e H
        obtain ⟨hg8, H⟩ := gg_e H
        obtain ⟨x9, S_10, hc11, H⟩ := gc_e H
        refine GA.callV (m_X10_next hc11) xs_X10_56 dX10_valueAt_32 (gsT hg8) (by omega) rfl rfl (by omega) (by decide) rfl (Nat.le_of_ble_eq_true rfl) (by omega) (by omega) rfl (fun E S9 hx => hx.elim) (fun v S9 hq => ?_)
        obtain ⟨rfl, rfl⟩ := hq
        refine GA.istore_n dX10_valueAt_35 (by decide) ?_
        obtain ⟨x12, hx13, H⟩ := gv_e H
        refine GV.iinc hx13 dX10_valueAt_36 rfl (by decide) ?_
        refine GA.goto (tgt := 9) dX10_valueAt_39 (by decide) ?_
        refine GA.locals [(0, .ref (L a0)), (1, .int (J a1)), (2, .int (J a2)), (3, .int (J x9)), (4, .int (J x12))] ⟨rfl, rfl, rfl, rfl, rfl, trivial⟩ ?_
        exact ih_X10_valueAt_9 _ _ (a0) (a1) (a2) (x9) (x12) _ _ H
      · have H := it_f H c6
        refine GA.iload_n dX10_valueAt_27 rfl ?_
        cases H
        exact GA.iret rfl dX10_valueAt_28 (by omega) (by omega) ⟨rfl, rfl⟩
theorem g_X10_valueAt {l : Launch} {Z : XZ} {L : Nat → Nat} : ∀ n, P_X10_valueAt_0 l Z L n ∧ P_X10_valueAt_9 l Z L n
  | 0 => ⟨fun _ _ _ _ _ _ _ H => no_e H, fun _ _ _ _ _ _ _ _ _ H => no_e H⟩
  | n + 1 => have ⟨h0, h1⟩ := g_X10_valueAt (l := l) (Z := Z) (L := L) n
    ⟨t_X10_valueAt_0 n h0 h1, t_X10_valueAt_9 n h0 h1⟩
theorem m_X10_valueAt {l : Launch} {Z : XZ} {L : Nat → Nat} {n d : Nat} {S : GS} {a0 : Nat} {a1 : Int} {a2 : Int} {x : Int} {S1 : GS} (H : f_X10_valueAt n d 0 S [((a0 : Nat) : Int), a1, a2] = some (x, S1)) : GM l Z L yX10_valueAt cX10_valueAt 5 (some .int) [] d 0 0 [.ref (L a0), .int (J a1), .int (J a2)] S (fun v S' => v = some (.int (J x)) ∧ S1 = S') (fun _ _ => False) := GM.of (by decide) (Nat.le_of_ble_eq_true rfl) ((g_X10_valueAt n).1 _ _ _ _ _ _ _ H)

