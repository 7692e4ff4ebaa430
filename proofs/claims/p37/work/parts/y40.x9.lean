def P_X9_clear_0 (l : Launch) (Z : XZ) (L : Nat → Nat) (n : Nat) : Prop := ∀ (d : Nat) (S : GS) (a0 : Nat) (x : Int) (S1 : GS), f_X9_clear n d 0 S [((a0 : Nat) : Int)] = some (x, S1) → GA l Z L yX9_clear cX9_clear 1 none [] d 0 0 (fun v S' => v = none ∧ S1 = S') (fun _ _ => False) 0 (gl [(0, .ref (L a0))]) [] S 0 0
theorem i_X9_clear {l : Launch} {Z : XZ} {L : Nat → Nat} {n : Nat} (ih : P_X9_clear_0 l Z L n) {d : Nat} {S : GS} {a0 : Nat} {x : Int} {S1 : GS} (H : f_X9_clear n d 0 S [((a0 : Nat) : Int)] = some (x, S1)) : GM l Z L yX9_clear cX9_clear 1 none [] d 0 0 [.ref (L a0)] S (fun v S' => v = none ∧ S1 = S') (fun _ _ => False) := GM.of (by decide) (Nat.le_of_ble_eq_true rfl) (ih _ _ _ _ _ H)
set_option maxHeartbeats 4000000 in
set_option maxRecDepth 20000 in
theorem t_X9_clear_0 {l : Launch} {Z : XZ} {L : Nat → Nat} (n : Nat) (ih_X9_clear_0 : P_X9_clear_0 l Z L n) : P_X9_clear_0 l Z L (n + 1) := by
  intro d S a0 x S1 H
  have H : b_X9_clear_0 n d (f_X9_clear n) S a0 = some (x, S1) := H
  unfold b_X9_clear_0 at H
  refine GA.aload_n dX9_clear_0 rfl ?_
  refine GA.iconst dX9_clear_1 ?_
  obtain ⟨hg1, H⟩ := gg_e H
  obtain ⟨S_2, hx3, H⟩ := gv_e H
  refine GV.putI hx3 (xp_X9_21 _) dX9_clear_2 (gsS hg1) (by omega) (Nat.le_of_ble_eq_true rfl) (gsS hg1) ?_
  cases H
  exact GA.vret rfl dX9_clear_5 (by omega) (by omega) ⟨rfl, rfl⟩
theorem g_X9_clear {l : Launch} {Z : XZ} {L : Nat → Nat} : ∀ n, P_X9_clear_0 l Z L n
  | 0 => fun _ _ _ _ _ H => no_e H
  | n + 1 => t_X9_clear_0 n (g_X9_clear n)
theorem m_X9_clear {l : Launch} {Z : XZ} {L : Nat → Nat} {n d : Nat} {S : GS} {a0 : Nat} {x : Int} {S1 : GS} (H : f_X9_clear n d 0 S [((a0 : Nat) : Int)] = some (x, S1)) : GM l Z L yX9_clear cX9_clear 1 none [] d 0 0 [.ref (L a0)] S (fun v S' => v = none ∧ S1 = S') (fun _ _ => False) := GM.of (by decide) (Nat.le_of_ble_eq_true rfl) ((g_X9_clear n) _ _ _ _ _ H)

def P_X9_add_0 (l : Launch) (Z : XZ) (L : Nat → Nat) (n : Nat) : Prop := ∀ (d : Nat) (S : GS) (a0 : Nat) (a1 : Int) (x : Int) (S1 : GS), f_X9_add n d 0 S [((a0 : Nat) : Int), a1] = some (x, S1) → GA l Z L yX9_add cX9_add 2 none [] d 0 0 (fun v S' => v = none ∧ S1 = S') (fun _ _ => False) 0 (gl [(0, .ref (L a0)), (1, .int (J a1))]) [] S 0 0
theorem i_X9_add {l : Launch} {Z : XZ} {L : Nat → Nat} {n : Nat} (ih : P_X9_add_0 l Z L n) {d : Nat} {S : GS} {a0 : Nat} {a1 : Int} {x : Int} {S1 : GS} (H : f_X9_add n d 0 S [((a0 : Nat) : Int), a1] = some (x, S1)) : GM l Z L yX9_add cX9_add 2 none [] d 0 0 [.ref (L a0), .int (J a1)] S (fun v S' => v = none ∧ S1 = S') (fun _ _ => False) := GM.of (by decide) (Nat.le_of_ble_eq_true rfl) (ih _ _ _ _ _ _ H)
set_option maxHeartbeats 4000000 in
set_option maxRecDepth 20000 in
theorem t_X9_add_0 {l : Launch} {Z : XZ} {L : Nat → Nat} (n : Nat) (ih_X9_add_0 : P_X9_add_0 l Z L n) : P_X9_add_0 l Z L (n + 1) := by
  intro d S a0 a1 x S1 H
  have H : b_X9_add_0 n d (f_X9_add n) S a0 a1 = some (x, S1) := H
  unfold b_X9_add_0 at H
  refine GA.aload_n dX9_add_0 rfl ?_
  obtain ⟨hg1, H⟩ := gg_e H
  obtain ⟨x2, hx3, H⟩ := gv_e H
  refine GV.getI hx3 xf_X9_21 dX9_add_1 (gsS hg1) (by omega) rfl ?_
  obtain ⟨hg4, H⟩ := gg_e H
  refine GV.if_lt (tgt := 40) hg4 dX9_add_4 (by decide) (fun c5 => ?_) (fun c5 => ?_)
  · have H := it_t H c5
    cases H
    exact GA.vret rfl dX9_add_40 (by omega) (by omega) ⟨rfl, rfl⟩
  · have H := it_f H c5
    refine GA.aload_n dX9_add_7 rfl ?_
    obtain ⟨x6, hx7, H⟩ := gv_e H
    refine GV.getI hx7 xf_X9_21 dX9_add_8 (gsS hg1) (by omega) rfl ?_
    refine GA.aload_n dX9_add_11 rfl ?_
    refine GA.get xf_X9_15 dX9_add_12 (gsS hg1) (by omega) rfl ?_
    refine GA.alen (by decide) dX9_add_15 (gsS1 hg1) (by omega) ?_
    obtain ⟨hg8, H⟩ := gg_e H
    obtain ⟨hg9, H⟩ := gg_e H
    refine GV.icmp_ge (tgt := 40) hg8 hg9 dX9_add_16 (by decide) (fun c10 => ?_) (fun c10 => ?_)
    · have H := it_t H c10
      cases H
      exact GA.vret rfl dX9_add_40 (by omega) (by omega) ⟨rfl, rfl⟩
    · have H := it_f H c10
      refine GA.aload_n dX9_add_19 rfl ?_
      refine GA.get xf_X9_15 dX9_add_20 (gsS hg1) (by omega) rfl ?_
      refine GA.aload_n dX9_add_23 rfl ?_
      obtain ⟨x11, hx12, H⟩ := gv_e H
      refine GV.getI hx12 xf_X9_21 dX9_add_24 (gsS hg1) (by omega) rfl ?_
      refine GA.iload_n dX9_add_27 rfl ?_
      obtain ⟨hg13, H⟩ := gg_e H
      refine GA.i2c dX9_add_28 hg13 ?_
      obtain ⟨hg14, H⟩ := gg_e H
      obtain ⟨S_15, hx16, H⟩ := gv_e H
      refine GV.cast hg14 hg13 hx16 dX9_add_29 (fun _ => (gsS1 hg1)) (by omega) ?_
      refine GA.aload_n dX9_add_30 rfl ?_
      refine GA.dup dX9_add_31 rfl ?_
      obtain ⟨x17, hx18, H⟩ := gv_e H
      refine GV.getI hx18 xf_X9_21 dX9_add_32 (gsS hg1) (by omega) rfl ?_
      refine GA.iconst dX9_add_35 ?_
      obtain ⟨x19, hx20, H⟩ := gv_e H
      refine GV.iadd hx20 dX9_add_36 ?_
      obtain ⟨S_21, hx22, H⟩ := gv_e H
      refine GV.putI hx22 (xp_X9_21 _) dX9_add_37 (gsS hg1) (by omega) (Nat.le_of_ble_eq_true rfl) (gsS hg1) ?_
      cases H
      exact GA.vret rfl dX9_add_40 (by omega) (by omega) ⟨rfl, rfl⟩
theorem g_X9_add {l : Launch} {Z : XZ} {L : Nat → Nat} : ∀ n, P_X9_add_0 l Z L n
  | 0 => fun _ _ _ _ _ _ H => no_e H
  | n + 1 => t_X9_add_0 n (g_X9_add n)
theorem m_X9_add {l : Launch} {Z : XZ} {L : Nat → Nat} {n d : Nat} {S : GS} {a0 : Nat} {a1 : Int} {x : Int} {S1 : GS} (H : f_X9_add n d 0 S [((a0 : Nat) : Int), a1] = some (x, S1)) : GM l Z L yX9_add cX9_add 2 none [] d 0 0 [.ref (L a0), .int (J a1)] S (fun v S' => v = none ∧ S1 = S') (fun _ _ => False) := GM.of (by decide) (Nat.le_of_ble_eq_true rfl) ((g_X9_add n) _ _ _ _ _ _ H)

def P_X9_length_0 (l : Launch) (Z : XZ) (L : Nat → Nat) (n : Nat) : Prop := ∀ (d : Nat) (S : GS) (a0 : Nat) (x : Int) (S1 : GS), f_X9_length n d 0 S [((a0 : Nat) : Int)] = some (x, S1) → GA l Z L yX9_length cX9_length 1 (some .int) [] d 0 0 (fun v S' => v = some (.int (J x)) ∧ S1 = S') (fun _ _ => False) 0 (gl [(0, .ref (L a0))]) [] S 0 0
theorem i_X9_length {l : Launch} {Z : XZ} {L : Nat → Nat} {n : Nat} (ih : P_X9_length_0 l Z L n) {d : Nat} {S : GS} {a0 : Nat} {x : Int} {S1 : GS} (H : f_X9_length n d 0 S [((a0 : Nat) : Int)] = some (x, S1)) : GM l Z L yX9_length cX9_length 1 (some .int) [] d 0 0 [.ref (L a0)] S (fun v S' => v = some (.int (J x)) ∧ S1 = S') (fun _ _ => False) := GM.of (by decide) (Nat.le_of_ble_eq_true rfl) (ih _ _ _ _ _ H)
set_option maxHeartbeats 4000000 in
set_option maxRecDepth 20000 in
theorem t_X9_length_0 {l : Launch} {Z : XZ} {L : Nat → Nat} (n : Nat) (ih_X9_length_0 : P_X9_length_0 l Z L n) : P_X9_length_0 l Z L (n + 1) := by
  intro d S a0 x S1 H
  have H : b_X9_length_0 n d (f_X9_length n) S a0 = some (x, S1) := H
  unfold b_X9_length_0 at H
  refine GA.aload_n dX9_length_0 rfl ?_
  obtain ⟨hg1, H⟩ := gg_e H
  obtain ⟨x2, hx3, H⟩ := gv_e H
  refine GV.getI hx3 xf_X9_21 dX9_length_1 (gsS hg1) (by omega) rfl ?_
  cases H
  exact GA.iret rfl dX9_length_4 (by omega) (by omega) ⟨rfl, rfl⟩
theorem g_X9_length {l : Launch} {Z : XZ} {L : Nat → Nat} : ∀ n, P_X9_length_0 l Z L n
  | 0 => fun _ _ _ _ _ H => no_e H
  | n + 1 => t_X9_length_0 n (g_X9_length n)
theorem m_X9_length {l : Launch} {Z : XZ} {L : Nat → Nat} {n d : Nat} {S : GS} {a0 : Nat} {x : Int} {S1 : GS} (H : f_X9_length n d 0 S [((a0 : Nat) : Int)] = some (x, S1)) : GM l Z L yX9_length cX9_length 1 (some .int) [] d 0 0 [.ref (L a0)] S (fun v S' => v = some (.int (J x)) ∧ S1 = S') (fun _ _ => False) := GM.of (by decide) (Nat.le_of_ble_eq_true rfl) ((g_X9_length n) _ _ _ _ _ H)

def P_X9_at_0 (l : Launch) (Z : XZ) (L : Nat → Nat) (n : Nat) : Prop := ∀ (d : Nat) (S : GS) (a0 : Nat) (a1 : Int) (x : Int) (S1 : GS), f_X9_at n d 0 S [((a0 : Nat) : Int), a1] = some (x, S1) → GA l Z L yX9_at cX9_at 2 (some .int) [] d 0 0 (fun v S' => v = some (.int (J x)) ∧ S1 = S') (fun _ _ => False) 0 (gl [(0, .ref (L a0)), (1, .int (J a1))]) [] S 0 0
theorem i_X9_at {l : Launch} {Z : XZ} {L : Nat → Nat} {n : Nat} (ih : P_X9_at_0 l Z L n) {d : Nat} {S : GS} {a0 : Nat} {a1 : Int} {x : Int} {S1 : GS} (H : f_X9_at n d 0 S [((a0 : Nat) : Int), a1] = some (x, S1)) : GM l Z L yX9_at cX9_at 2 (some .int) [] d 0 0 [.ref (L a0), .int (J a1)] S (fun v S' => v = some (.int (J x)) ∧ S1 = S') (fun _ _ => False) := GM.of (by decide) (Nat.le_of_ble_eq_true rfl) (ih _ _ _ _ _ _ H)
set_option maxHeartbeats 4000000 in
set_option maxRecDepth 20000 in
theorem t_X9_at_0 {l : Launch} {Z : XZ} {L : Nat → Nat} (n : Nat) (ih_X9_at_0 : P_X9_at_0 l Z L n) : P_X9_at_0 l Z L (n + 1) := by
  intro d S a0 a1 x S1 H
  have H : b_X9_at_0 n d (f_X9_at n) S a0 a1 = some (x, S1) := H
  unfold b_X9_at_0 at H
  refine GA.iload_n dX9_at_0 rfl ?_
  obtain ⟨hg1, H⟩ := gg_e H
  refine GV.if_lt (tgt := 30) hg1 dX9_at_1 (by decide) (fun c2 => ?_) (fun c2 => ?_)
  · have H := it_t H c2
    refine GA.iconst dX9_at_30 ?_
    cases H
    exact GA.iret rfl dX9_at_31 (by omega) (by omega) ⟨rfl, rfl⟩
  · have H := it_f H c2
    refine GA.iload_n dX9_at_4 rfl ?_
    refine GA.aload_n dX9_at_5 rfl ?_
    obtain ⟨hg3, H⟩ := gg_e H
    obtain ⟨x4, hx5, H⟩ := gv_e H
    refine GV.getI hx5 xf_X9_21 dX9_at_6 (gsS hg3) (by omega) rfl ?_
    obtain ⟨hg6, H⟩ := gg_e H
    refine GV.icmp_ge (tgt := 30) hg1 hg6 dX9_at_9 (by decide) (fun c7 => ?_) (fun c7 => ?_)
    · have H := it_t H c7
      refine GA.iconst dX9_at_30 ?_
      cases H
      exact GA.iret rfl dX9_at_31 (by omega) (by omega) ⟨rfl, rfl⟩
    · have H := it_f H c7
      refine GA.iload_n dX9_at_12 rfl ?_
      refine GA.aload_n dX9_at_13 rfl ?_
      refine GA.get xf_X9_15 dX9_at_14 (gsS hg3) (by omega) rfl ?_
      refine GA.alen (by decide) dX9_at_17 (gsS1 hg3) (by omega) ?_
      obtain ⟨hg8, H⟩ := gg_e H
      refine GV.icmp_ge (tgt := 30) hg1 hg8 dX9_at_18 (by decide) (fun c9 => ?_) (fun c9 => ?_)
      · have H := it_t H c9
        refine GA.iconst dX9_at_30 ?_
        cases H
        exact GA.iret rfl dX9_at_31 (by omega) (by omega) ⟨rfl, rfl⟩
      · have H := it_f H c9
        refine GA.aload_n dX9_at_21 rfl ?_
        refine GA.get xf_X9_15 dX9_at_22 (gsS hg3) (by omega) rfl ?_
        refine GA.iload_n dX9_at_25 rfl ?_
        obtain ⟨hg10, H⟩ := gg_e H
        obtain ⟨x11, hx12, H⟩ := gv_e H
        refine GV.cald hg10 hx12 dX9_at_26 (gsS1 hg3) (by omega) ?_
        refine GA.goto (tgt := 31) dX9_at_27 (by decide) ?_
        cases H
        exact GA.iret rfl dX9_at_31 (by omega) (by omega) ⟨rfl, rfl⟩
theorem g_X9_at {l : Launch} {Z : XZ} {L : Nat → Nat} : ∀ n, P_X9_at_0 l Z L n
  | 0 => fun _ _ _ _ _ _ H => no_e H
  | n + 1 => t_X9_at_0 n (g_X9_at n)
theorem m_X9_at {l : Launch} {Z : XZ} {L : Nat → Nat} {n d : Nat} {S : GS} {a0 : Nat} {a1 : Int} {x : Int} {S1 : GS} (H : f_X9_at n d 0 S [((a0 : Nat) : Int), a1] = some (x, S1)) : GM l Z L yX9_at cX9_at 2 (some .int) [] d 0 0 [.ref (L a0), .int (J a1)] S (fun v S' => v = some (.int (J x)) ∧ S1 = S') (fun _ _ => False) := GM.of (by decide) (Nat.le_of_ble_eq_true rfl) ((g_X9_at n) _ _ _ _ _ _ H)

def P_X9_addNumber_0 (l : Launch) (Z : XZ) (L : Nat → Nat) (n : Nat) : Prop := ∀ (d : Nat) (S : GS) (a0 : Nat) (a1 : Int) (x : Int) (S1 : GS), f_X9_addNumber n d 0 S [((a0 : Nat) : Int), a1] = some (x, S1) → GA l Z L yX9_addNumber cX9_addNumber 3 none [] d 0 0 (fun v S' => v = none ∧ S1 = S') (fun _ _ => False) 0 (gl [(0, .ref (L a0)), (1, .int (J a1))]) [] S 0 0
def P_X9_addNumber_15 (l : Launch) (Z : XZ) (L : Nat → Nat) (n : Nat) : Prop := ∀ (d : Nat) (S : GS) (a0 : Nat) (a2 : Int) (x : Int) (S1 : GS), f_X9_addNumber n d 15 S [((a0 : Nat) : Int), a2] = some (x, S1) → GA l Z L yX9_addNumber cX9_addNumber 3 none [] d 0 0 (fun v S' => v = none ∧ S1 = S') (fun _ _ => False) 15 (gl [(0, .ref (L a0)), (2, .int (J a2))]) [] S 0 0
def P_X9_addNumber_35 (l : Launch) (Z : XZ) (L : Nat → Nat) (n : Nat) : Prop := ∀ (d : Nat) (S : GS) (a0 : Nat) (a2 : Int) (x : Int) (S1 : GS), f_X9_addNumber n d 35 S [((a0 : Nat) : Int), a2] = some (x, S1) → GA l Z L yX9_addNumber cX9_addNumber 3 none [] d 0 0 (fun v S' => v = none ∧ S1 = S') (fun _ _ => False) 35 (gl [(0, .ref (L a0)), (2, .int (J a2))]) [] S 0 0
def P_X9_addNumber_55 (l : Launch) (Z : XZ) (L : Nat → Nat) (n : Nat) : Prop := ∀ (d : Nat) (S : GS) (a0 : Nat) (a2 : Int) (x : Int) (S1 : GS), f_X9_addNumber n d 55 S [((a0 : Nat) : Int), a2] = some (x, S1) → GA l Z L yX9_addNumber cX9_addNumber 3 none [] d 0 0 (fun v S' => v = none ∧ S1 = S') (fun _ _ => False) 55 (gl [(0, .ref (L a0)), (2, .int (J a2))]) [] S 0 0
theorem i_X9_addNumber {l : Launch} {Z : XZ} {L : Nat → Nat} {n : Nat} (ih : P_X9_addNumber_0 l Z L n) {d : Nat} {S : GS} {a0 : Nat} {a1 : Int} {x : Int} {S1 : GS} (H : f_X9_addNumber n d 0 S [((a0 : Nat) : Int), a1] = some (x, S1)) : GM l Z L yX9_addNumber cX9_addNumber 3 none [] d 0 0 [.ref (L a0), .int (J a1)] S (fun v S' => v = none ∧ S1 = S') (fun _ _ => False) := GM.of (by decide) (Nat.le_of_ble_eq_true rfl) (ih _ _ _ _ _ _ H)
set_option maxHeartbeats 4000000 in
set_option maxRecDepth 20000 in
theorem t_X9_addNumber_0 {l : Launch} {Z : XZ} {L : Nat → Nat} (n : Nat) (ih_X9_addNumber_0 : P_X9_addNumber_0 l Z L n) (ih_X9_addNumber_15 : P_X9_addNumber_15 l Z L n) (ih_X9_addNumber_35 : P_X9_addNumber_35 l Z L n) (ih_X9_addNumber_55 : P_X9_addNumber_55 l Z L n) : P_X9_addNumber_0 l Z L (n + 1) := by
  intro d S a0 a1 x S1 H
  have H : b_X9_addNumber_0 n d (f_X9_addNumber n) S a0 a1 = some (x, S1) := H
  unfold b_X9_addNumber_0 at H
  refine GA.iload_n dX9_addNumber_0 rfl ?_
  obtain ⟨hg1, H⟩ := gg_e H
  obtain ⟨x2, hx3, H⟩ := gv_e H
  refine GV.mabs hg1 hx3 xs_X9_43 dX9_addNumber_1 (Nat.le_of_ble_eq_true rfl) (by omega) (by omega) ?_
  refine GA.istore_n dX9_addNumber_4 (by decide) ?_
  refine GA.iload_n dX9_addNumber_5 rfl ?_
  refine GV.if_ge (tgt := 15) hg1 dX9_addNumber_6 (by decide) (fun c4 => ?_) (fun c4 => ?_)
  · have H := it_t H c4
    refine GA.locals [(0, .ref (L a0)), (2, .int (J x2))] ⟨rfl, rfl, trivial⟩ ?_
    exact ih_X9_addNumber_15 _ _ (a0) (x2) _ _ H
  · have H := it_f H c4
    refine GA.aload_n dX9_addNumber_9 rfl ?_
    refine GA.bipush dX9_addNumber_10 rfl ?_
    obtain ⟨hg5, H⟩ := gg_e H
    obtain ⟨hg6, H⟩ := gg_e H
    obtain ⟨x7, S_8, hc9, H⟩ := gc_e H
    refine GA.callV (m_X9_add hc9) xs_X9_34 dX9_addNumber_12 (gsS hg6) (by omega) rfl rfl (by omega) (by decide) rfl (Nat.le_of_ble_eq_true rfl) (by omega) (by omega) rfl (fun E S9 hx => hx.elim) (fun v S9 hq => ?_)
    obtain ⟨rfl, rfl⟩ := hq
    refine GA.locals [(0, .ref (L a0)), (2, .int (J x2))] ⟨rfl, rfl, trivial⟩ ?_
    exact ih_X9_addNumber_15 _ _ (a0) (x2) _ _ H
set_option maxHeartbeats 4000000 in
set_option maxRecDepth 20000 in
theorem t_X9_addNumber_15 {l : Launch} {Z : XZ} {L : Nat → Nat} (n : Nat) (ih_X9_addNumber_0 : P_X9_addNumber_0 l Z L n) (ih_X9_addNumber_15 : P_X9_addNumber_15 l Z L n) (ih_X9_addNumber_35 : P_X9_addNumber_35 l Z L n) (ih_X9_addNumber_55 : P_X9_addNumber_55 l Z L n) : P_X9_addNumber_15 l Z L (n + 1) := by
  intro d S a0 a2 x S1 H
  have H : b_X9_addNumber_15 n d (f_X9_addNumber n) S a0 a2 = some (x, S1) := H
  unfold b_X9_addNumber_15 at H
  refine GA.iload_n dX9_addNumber_15 rfl ?_
  refine GA.bipush dX9_addNumber_16 rfl ?_
  obtain ⟨hg1, H⟩ := gg_e H
  refine GV.icmp_le (tgt := 35) hg1 (by decide) dX9_addNumber_18 (by decide) (fun c2 => ?_) (fun c2 => ?_)
  · have H := it_t H c2
    refine GA.locals [(0, .ref (L a0)), (2, .int (J a2))] ⟨rfl, rfl, trivial⟩ ?_
    exact ih_X9_addNumber_35 _ _ (a0) (a2) _ _ H
  · have H := it_f H c2
    refine GA.aload_n dX9_addNumber_21 rfl ?_
    refine GA.bipush dX9_addNumber_22 rfl ?_
    refine GA.iload_n dX9_addNumber_24 rfl ?_
    refine GA.bipush dX9_addNumber_25 rfl ?_
    obtain ⟨hg3, H⟩ := gg_e H
    obtain ⟨x4, hx5, H⟩ := gv_e H
    refine GV.idiv hg3 hx5 dX9_addNumber_27 ?_
    refine GA.bipush dX9_addNumber_28 rfl ?_
    obtain ⟨hg6, H⟩ := gg_e H
    obtain ⟨x7, hx8, H⟩ := gv_e H
    refine GV.irem hg6 hx8 dX9_addNumber_30 ?_
    obtain ⟨x9, hx10, H⟩ := gv_e H
    refine GV.iadd hx10 dX9_addNumber_31 ?_
    obtain ⟨hg11, H⟩ := gg_e H
    obtain ⟨hg12, H⟩ := gg_e H
    obtain ⟨x13, S_14, hc15, H⟩ := gc_e H
    refine GA.callV (m_X9_add hc15) xs_X9_34 dX9_addNumber_32 (gsS hg12) (by omega) rfl rfl (by omega) (by decide) rfl (Nat.le_of_ble_eq_true rfl) (by omega) (by omega) rfl (fun E S9 hx => hx.elim) (fun v S9 hq => ?_)
    obtain ⟨rfl, rfl⟩ := hq
    refine GA.locals [(0, .ref (L a0)), (2, .int (J a2))] ⟨rfl, rfl, trivial⟩ ?_
    exact ih_X9_addNumber_35 _ _ (a0) (a2) _ _ H
set_option maxHeartbeats 4000000 in
set_option maxRecDepth 20000 in
theorem t_X9_addNumber_35 {l : Launch} {Z : XZ} {L : Nat → Nat} (n : Nat) (ih_X9_addNumber_0 : P_X9_addNumber_0 l Z L n) (ih_X9_addNumber_15 : P_X9_addNumber_15 l Z L n) (ih_X9_addNumber_35 : P_X9_addNumber_35 l Z L n) (ih_X9_addNumber_55 : P_X9_addNumber_55 l Z L n) : P_X9_addNumber_35 l Z L (n + 1) := by
  intro d S a0 a2 x S1 H
  have H : b_X9_addNumber_35 n d (f_X9_addNumber n) S a0 a2 = some (x, S1) := H
  unfold b_X9_addNumber_35 at H
  refine GA.iload_n dX9_addNumber_35 rfl ?_
  refine GA.bipush dX9_addNumber_36 rfl ?_
  obtain ⟨hg1, H⟩ := gg_e H
  refine GV.icmp_le (tgt := 55) hg1 (by decide) dX9_addNumber_38 (by decide) (fun c2 => ?_) (fun c2 => ?_)
  · have H := it_t H c2
    refine GA.locals [(0, .ref (L a0)), (2, .int (J a2))] ⟨rfl, rfl, trivial⟩ ?_
    exact ih_X9_addNumber_55 _ _ (a0) (a2) _ _ H
  · have H := it_f H c2
    refine GA.aload_n dX9_addNumber_41 rfl ?_
    refine GA.bipush dX9_addNumber_42 rfl ?_
    refine GA.iload_n dX9_addNumber_44 rfl ?_
    refine GA.bipush dX9_addNumber_45 rfl ?_
    obtain ⟨hg3, H⟩ := gg_e H
    obtain ⟨x4, hx5, H⟩ := gv_e H
    refine GV.idiv hg3 hx5 dX9_addNumber_47 ?_
    refine GA.bipush dX9_addNumber_48 rfl ?_
    obtain ⟨hg6, H⟩ := gg_e H
    obtain ⟨x7, hx8, H⟩ := gv_e H
    refine GV.irem hg6 hx8 dX9_addNumber_50 ?_
    obtain ⟨x9, hx10, H⟩ := gv_e H
    refine GV.iadd hx10 dX9_addNumber_51 ?_
    obtain ⟨hg11, H⟩ := gg_e H
    obtain ⟨hg12, H⟩ := gg_e H
    obtain ⟨x13, S_14, hc15, H⟩ := gc_e H
    refine GA.callV (m_X9_add hc15) xs_X9_34 dX9_addNumber_52 (gsS hg12) (by omega) rfl rfl (by omega) (by decide) rfl (Nat.le_of_ble_eq_true rfl) (by omega) (by omega) rfl (fun E S9 hx => hx.elim) (fun v S9 hq => ?_)
    obtain ⟨rfl, rfl⟩ := hq
    refine GA.locals [(0, .ref (L a0)), (2, .int (J a2))] ⟨rfl, rfl, trivial⟩ ?_
    exact ih_X9_addNumber_55 _ _ (a0) (a2) _ _ H
set_option maxHeartbeats 4000000 in
set_option maxRecDepth 20000 in
theorem t_X9_addNumber_55 {l : Launch} {Z : XZ} {L : Nat → Nat} (n : Nat) (ih_X9_addNumber_0 : P_X9_addNumber_0 l Z L n) (ih_X9_addNumber_15 : P_X9_addNumber_15 l Z L n) (ih_X9_addNumber_35 : P_X9_addNumber_35 l Z L n) (ih_X9_addNumber_55 : P_X9_addNumber_55 l Z L n) : P_X9_addNumber_55 l Z L (n + 1) := by
  intro d S a0 a2 x S1 H
  have H : b_X9_addNumber_55 n d (f_X9_addNumber n) S a0 a2 = some (x, S1) := H
  unfold b_X9_addNumber_55 at H
  refine GA.aload_n dX9_addNumber_55 rfl ?_
  refine GA.bipush dX9_addNumber_56 rfl ?_
  refine GA.iload_n dX9_addNumber_58 rfl ?_
  refine GA.bipush dX9_addNumber_59 rfl ?_
  obtain ⟨hg1, H⟩ := gg_e H
  obtain ⟨x2, hx3, H⟩ := gv_e H
  refine GV.irem hg1 hx3 dX9_addNumber_61 ?_
  obtain ⟨x4, hx5, H⟩ := gv_e H
  refine GV.iadd hx5 dX9_addNumber_62 ?_
  obtain ⟨hg6, H⟩ := gg_e H
  obtain ⟨hg7, H⟩ := gg_e H
  obtain ⟨x8, S_9, hc10, H⟩ := gc_e H
  refine GA.callV (m_X9_add hc10) xs_X9_34 dX9_addNumber_63 (gsS hg7) (by omega) rfl rfl (by omega) (by decide) rfl (Nat.le_of_ble_eq_true rfl) (by omega) (by omega) rfl (fun E S9 hx => hx.elim) (fun v S9 hq => ?_)
  obtain ⟨rfl, rfl⟩ := hq
  cases H
  exact GA.vret rfl dX9_addNumber_66 (by omega) (by omega) ⟨rfl, rfl⟩
theorem g_X9_addNumber {l : Launch} {Z : XZ} {L : Nat → Nat} : ∀ n, P_X9_addNumber_0 l Z L n ∧ P_X9_addNumber_15 l Z L n ∧ P_X9_addNumber_35 l Z L n ∧ P_X9_addNumber_55 l Z L n
  | 0 => ⟨fun _ _ _ _ _ _ H => no_e H, fun _ _ _ _ _ _ H => no_e H, fun _ _ _ _ _ _ H => no_e H, fun _ _ _ _ _ _ H => no_e H⟩
  | n + 1 => have ⟨h0, h1, h2, h3⟩ := g_X9_addNumber (l := l) (Z := Z) (L := L) n
    ⟨t_X9_addNumber_0 n h0 h1 h2 h3, t_X9_addNumber_15 n h0 h1 h2 h3, t_X9_addNumber_35 n h0 h1 h2 h3, t_X9_addNumber_55 n h0 h1 h2 h3⟩
theorem m_X9_addNumber {l : Launch} {Z : XZ} {L : Nat → Nat} {n d : Nat} {S : GS} {a0 : Nat} {a1 : Int} {x : Int} {S1 : GS} (H : f_X9_addNumber n d 0 S [((a0 : Nat) : Int), a1] = some (x, S1)) : GM l Z L yX9_addNumber cX9_addNumber 3 none [] d 0 0 [.ref (L a0), .int (J a1)] S (fun v S' => v = none ∧ S1 = S') (fun _ _ => False) := GM.of (by decide) (Nat.le_of_ble_eq_true rfl) ((g_X9_addNumber n).1 _ _ _ _ _ _ H)

def P_X9_addAll_0 (l : Launch) (Z : XZ) (L : Nat → Nat) (n : Nat) : Prop := ∀ (d : Nat) (S : GS) (a0 : Nat) (a1 : Nat) (x : Int) (S1 : GS), f_X9_addAll n d 0 S [((a0 : Nat) : Int), ((a1 : Nat) : Int)] = some (x, S1) → GA l Z L yX9_addAll cX9_addAll 3 none [] d 0 0 (fun v S' => v = none ∧ S1 = S') (fun _ _ => False) 0 (gl [(0, .ref (L a0)), (1, .ref (Z.2.1 a1))]) [] S 0 0
def P_X9_addAll_2 (l : Launch) (Z : XZ) (L : Nat → Nat) (n : Nat) : Prop := ∀ (d : Nat) (S : GS) (a0 : Nat) (a1 : Nat) (a2 : Int) (x : Int) (S1 : GS), f_X9_addAll n d 2 S [((a0 : Nat) : Int), ((a1 : Nat) : Int), a2] = some (x, S1) → GA l Z L yX9_addAll cX9_addAll 3 none [] d 0 0 (fun v S' => v = none ∧ S1 = S') (fun _ _ => False) 2 (gl [(0, .ref (L a0)), (1, .ref (Z.2.1 a1)), (2, .int (J a2))]) [] S 0 0
theorem i_X9_addAll {l : Launch} {Z : XZ} {L : Nat → Nat} {n : Nat} (ih : P_X9_addAll_0 l Z L n) {d : Nat} {S : GS} {a0 : Nat} {a1 : Nat} {x : Int} {S1 : GS} (H : f_X9_addAll n d 0 S [((a0 : Nat) : Int), ((a1 : Nat) : Int)] = some (x, S1)) : GM l Z L yX9_addAll cX9_addAll 3 none [] d 0 0 [.ref (L a0), .ref (Z.2.1 a1)] S (fun v S' => v = none ∧ S1 = S') (fun _ _ => False) := GM.of (by decide) (Nat.le_of_ble_eq_true rfl) (ih _ _ _ _ _ _ H)
set_option maxHeartbeats 4000000 in
set_option maxRecDepth 20000 in
theorem t_X9_addAll_0 {l : Launch} {Z : XZ} {L : Nat → Nat} (n : Nat) (ih_X9_addAll_0 : P_X9_addAll_0 l Z L n) (ih_X9_addAll_2 : P_X9_addAll_2 l Z L n) : P_X9_addAll_0 l Z L (n + 1) := by
  intro d S a0 a1 x S1 H
  have H : b_X9_addAll_0 n d (f_X9_addAll n) S a0 a1 = some (x, S1) := H
  unfold b_X9_addAll_0 at H
  refine GA.iconst dX9_addAll_0 ?_
  refine GA.istore_n dX9_addAll_1 (by decide) ?_
  refine GA.locals [(0, .ref (L a0)), (1, .ref (Z.2.1 a1)), (2, .int (J 0))] ⟨rfl, rfl, rfl, trivial⟩ ?_
  exact ih_X9_addAll_2 _ _ (a0) (a1) (0) _ _ H
set_option maxHeartbeats 4000000 in
set_option maxRecDepth 20000 in
theorem t_X9_addAll_2 {l : Launch} {Z : XZ} {L : Nat → Nat} (n : Nat) (ih_X9_addAll_0 : P_X9_addAll_0 l Z L n) (ih_X9_addAll_2 : P_X9_addAll_2 l Z L n) : P_X9_addAll_2 l Z L (n + 1) := by
  intro d S a0 a1 a2 x S1 H
  have H : b_X9_addAll_2 n d (f_X9_addAll n) S a0 a1 a2 = some (x, S1) := H
  unfold b_X9_addAll_2 at H
  refine GA.iload_n dX9_addAll_2 rfl ?_
  refine GA.aload_n dX9_addAll_3 rfl ?_
  obtain ⟨hg1, H⟩ := gg_e H
  obtain ⟨hg2, H⟩ := gg_e H
  obtain ⟨x3, hx4, H⟩ := gv_e H
  refine GV.strLen hg1 hx4 xs_X9_25 dX9_addAll_4 hg2 (Nat.le_of_ble_eq_true rfl) (by omega) (by omega) ?_
  obtain ⟨hg5, H⟩ := gg_e H
  obtain ⟨hg6, H⟩ := gg_e H
  refine GV.icmp_ge (tgt := 25) hg5 hg6 dX9_addAll_7 (by decide) (fun c7 => ?_) (fun c7 => ?_)
  · have H := it_t H c7
    cases H
    exact GA.vret rfl dX9_addAll_25 (by omega) (by omega) ⟨rfl, rfl⟩
  · have H := it_f H c7
    refine GA.aload_n dX9_addAll_10 rfl ?_
    refine GA.aload_n dX9_addAll_11 rfl ?_
    refine GA.iload_n dX9_addAll_12 rfl ?_
    obtain ⟨hg8, H⟩ := gg_e H
    obtain ⟨hg9, H⟩ := gg_e H
    obtain ⟨x10, hx11, H⟩ := gv_e H
    refine GV.strChar hg1 hg9 hx11 xs_X9_30 dX9_addAll_13 hg8 (Nat.le_of_ble_eq_true rfl) (by omega) (by omega) ?_
    obtain ⟨hg12, H⟩ := gg_e H
    obtain ⟨hg13, H⟩ := gg_e H
    obtain ⟨x14, S_15, hc16, H⟩ := gc_e H
    refine GA.callV (m_X9_add hc16) xs_X9_34 dX9_addAll_16 (gsS hg13) (by omega) rfl rfl (by omega) (by decide) rfl (Nat.le_of_ble_eq_true rfl) (by omega) (by omega) rfl (fun E S9 hx => hx.elim) (fun v S9 hq => ?_)
    obtain ⟨rfl, rfl⟩ := hq
    obtain ⟨x17, hx18, H⟩ := gv_e H
    refine GV.iinc hx18 dX9_addAll_19 rfl (by decide) ?_
    refine GA.goto (tgt := 2) dX9_addAll_22 (by decide) ?_
    refine GA.locals [(0, .ref (L a0)), (1, .ref (Z.2.1 a1)), (2, .int (J x17))] ⟨rfl, rfl, rfl, trivial⟩ ?_
    exact ih_X9_addAll_2 _ _ (a0) (a1) (x17) _ _ H
theorem g_X9_addAll {l : Launch} {Z : XZ} {L : Nat → Nat} : ∀ n, P_X9_addAll_0 l Z L n ∧ P_X9_addAll_2 l Z L n
  | 0 => ⟨fun _ _ _ _ _ _ H => no_e H, fun _ _ _ _ _ _ _ H => no_e H⟩
  | n + 1 => have ⟨h0, h1⟩ := g_X9_addAll (l := l) (Z := Z) (L := L) n
    ⟨t_X9_addAll_0 n h0 h1, t_X9_addAll_2 n h0 h1⟩
theorem m_X9_addAll {l : Launch} {Z : XZ} {L : Nat → Nat} {n d : Nat} {S : GS} {a0 : Nat} {a1 : Nat} {x : Int} {S1 : GS} (H : f_X9_addAll n d 0 S [((a0 : Nat) : Int), ((a1 : Nat) : Int)] = some (x, S1)) : GM l Z L yX9_addAll cX9_addAll 3 none [] d 0 0 [.ref (L a0), .ref (Z.2.1 a1)] S (fun v S' => v = none ∧ S1 = S') (fun _ _ => False) := GM.of (by decide) (Nat.le_of_ble_eq_true rfl) ((g_X9_addAll n).1 _ _ _ _ _ _ H)

def P_X9_addWritten_0 (l : Launch) (Z : XZ) (L : Nat → Nat) (n : Nat) : Prop := ∀ (d : Nat) (S : GS) (a0 : Nat) (a1 : Int) (x : Int) (S1 : GS), f_X9_addWritten n d 0 S [((a0 : Nat) : Int), a1] = some (x, S1) → GA l Z L yX9_addWritten cX9_addWritten 2 none [] d 0 0 (fun v S' => v = none ∧ S1 = S') (fun _ _ => False) 0 (gl [(0, .ref (L a0)), (1, .int (J a1))]) [] S 0 0
def P_X9_addWritten_36 (l : Launch) (Z : XZ) (L : Nat → Nat) (n : Nat) : Prop := ∀ (d : Nat) (S : GS) (a0 : Nat) (a1 : Int) (x : Int) (S1 : GS), f_X9_addWritten n d 36 S [((a0 : Nat) : Int), a1] = some (x, S1) → GA l Z L yX9_addWritten cX9_addWritten 2 none [] d 0 0 (fun v S' => v = none ∧ S1 = S') (fun _ _ => False) 36 (gl [(0, .ref (L a0)), (1, .int (J a1))]) [] S 0 0
def P_X9_addWritten_96 (l : Launch) (Z : XZ) (L : Nat → Nat) (n : Nat) : Prop := ∀ (d : Nat) (S : GS) (a0 : Nat) (a1 : Int) (s0 : Int) (s1 : Nat) (x : Int) (S1 : GS), f_X9_addWritten n d 96 S [((a0 : Nat) : Int), a1, s0, ((s1 : Nat) : Int)] = some (x, S1) → GA l Z L yX9_addWritten cX9_addWritten 2 none [] d 0 0 (fun v S' => v = none ∧ S1 = S') (fun _ _ => False) 96 (gl [(0, .ref (L a0)), (1, .int (J a1))]) [.int (J s0), .ref (L s1)] S 0 0
theorem i_X9_addWritten {l : Launch} {Z : XZ} {L : Nat → Nat} {n : Nat} (ih : P_X9_addWritten_0 l Z L n) {d : Nat} {S : GS} {a0 : Nat} {a1 : Int} {x : Int} {S1 : GS} (H : f_X9_addWritten n d 0 S [((a0 : Nat) : Int), a1] = some (x, S1)) : GM l Z L yX9_addWritten cX9_addWritten 2 none [] d 0 0 [.ref (L a0), .int (J a1)] S (fun v S' => v = none ∧ S1 = S') (fun _ _ => False) := GM.of (by decide) (Nat.le_of_ble_eq_true rfl) (ih _ _ _ _ _ _ H)
set_option maxHeartbeats 4000000 in
set_option maxRecDepth 20000 in
theorem t_X9_addWritten_0 {l : Launch} {Z : XZ} {L : Nat → Nat} (n : Nat) (ih_X9_addWritten_0 : P_X9_addWritten_0 l Z L n) (ih_X9_addWritten_36 : P_X9_addWritten_36 l Z L n) (ih_X9_addWritten_96 : P_X9_addWritten_96 l Z L n) : P_X9_addWritten_0 l Z L (n + 1) := by
  intro d S a0 a1 x S1 H
  have H : b_X9_addWritten_0 n d (f_X9_addWritten n) S a0 a1 = some (x, S1) := H
  unfold b_X9_addWritten_0 at H
  refine GA.iload_n dX9_addWritten_0 rfl ?_
  refine GA.bipush dX9_addWritten_1 rfl ?_
  obtain ⟨hg1, H⟩ := gg_e H
  refine GV.icmp_lt (tgt := 36) hg1 (by decide) dX9_addWritten_3 (by decide) (fun c2 => ?_) (fun c2 => ?_)
  · have H := it_t H c2
    refine GA.locals [(0, .ref (L a0)), (1, .int (J a1))] ⟨rfl, rfl, trivial⟩ ?_
    exact ih_X9_addWritten_36 _ _ (a0) (a1) _ _ H
  · have H := it_f H c2
    refine GA.iload_n dX9_addWritten_6 rfl ?_
    refine GA.bipush dX9_addWritten_7 rfl ?_
    refine GV.icmp_gt (tgt := 36) hg1 (by decide) dX9_addWritten_9 (by decide) (fun c3 => ?_) (fun c3 => ?_)
    · have H := it_t H c3
      refine GA.locals [(0, .ref (L a0)), (1, .int (J a1))] ⟨rfl, rfl, trivial⟩ ?_
      exact ih_X9_addWritten_36 _ _ (a0) (a1) _ _ H
    · have H := it_f H c3
      refine GA.iload_n dX9_addWritten_12 rfl ?_
      refine GA.bipush dX9_addWritten_13 rfl ?_
      refine GV.icmp_eq (tgt := 24) hg1 (by decide) dX9_addWritten_15 (by decide) (fun c4 => ?_) (fun c4 => ?_)
      · have H := it_t H c4
        refine GA.aload_n dX9_addWritten_24 rfl ?_
        refine GA.bipush dX9_addWritten_25 rfl ?_
        obtain ⟨hg5, H⟩ := gg_e H
        obtain ⟨hg6, H⟩ := gg_e H
        obtain ⟨x7, S_8, hc9, H⟩ := gc_e H
        refine GA.callV (m_X9_add hc9) xs_X9_34 dX9_addWritten_27 (gsS hg6) (by omega) rfl rfl (by omega) (by decide) rfl (Nat.le_of_ble_eq_true rfl) (by omega) (by omega) rfl (fun E S9 hx => hx.elim) (fun v S9 hq => ?_)
        obtain ⟨rfl, rfl⟩ := hq
        refine GA.aload_n dX9_addWritten_30 rfl ?_
        refine GA.iload_n dX9_addWritten_31 rfl ?_
        obtain ⟨x10, S_11, hc12, H⟩ := gc_e H
        refine GA.callV (m_X9_add hc12) xs_X9_34 dX9_addWritten_32 (gsS hg6) (by omega) rfl rfl (by omega) (by decide) rfl (Nat.le_of_ble_eq_true rfl) (by omega) (by omega) rfl (fun E S9 hx => hx.elim) (fun v S9 hq => ?_)
        obtain ⟨rfl, rfl⟩ := hq
        cases H
        exact GA.vret rfl dX9_addWritten_35 (by omega) (by omega) ⟨rfl, rfl⟩
      · have H := it_f H c4
        refine GA.iload_n dX9_addWritten_18 rfl ?_
        refine GA.bipush dX9_addWritten_19 rfl ?_
        refine GV.icmp_ne (tgt := 30) hg1 (by decide) dX9_addWritten_21 (by decide) (fun c13 => ?_) (fun c13 => ?_)
        · have H := it_t H c13
          refine GA.aload_n dX9_addWritten_30 rfl ?_
          refine GA.iload_n dX9_addWritten_31 rfl ?_
          obtain ⟨hg14, H⟩ := gg_e H
          obtain ⟨hg15, H⟩ := gg_e H
          obtain ⟨x16, S_17, hc18, H⟩ := gc_e H
          refine GA.callV (m_X9_add hc18) xs_X9_34 dX9_addWritten_32 (gsS hg15) (by omega) rfl rfl (by omega) (by decide) rfl (Nat.le_of_ble_eq_true rfl) (by omega) (by omega) rfl (fun E S9 hx => hx.elim) (fun v S9 hq => ?_)
          obtain ⟨rfl, rfl⟩ := hq
          cases H
          exact GA.vret rfl dX9_addWritten_35 (by omega) (by omega) ⟨rfl, rfl⟩
        · have H := it_f H c13
          refine GA.aload_n dX9_addWritten_24 rfl ?_
          refine GA.bipush dX9_addWritten_25 rfl ?_
          obtain ⟨hg19, H⟩ := gg_e H
          obtain ⟨hg20, H⟩ := gg_e H
          obtain ⟨x21, S_22, hc23, H⟩ := gc_e H
          refine GA.callV (m_X9_add hc23) xs_X9_34 dX9_addWritten_27 (gsS hg20) (by omega) rfl rfl (by omega) (by decide) rfl (Nat.le_of_ble_eq_true rfl) (by omega) (by omega) rfl (fun E S9 hx => hx.elim) (fun v S9 hq => ?_)
          obtain ⟨rfl, rfl⟩ := hq
          refine GA.aload_n dX9_addWritten_30 rfl ?_
          refine GA.iload_n dX9_addWritten_31 rfl ?_
          obtain ⟨x24, S_25, hc26, H⟩ := gc_e H
          refine GA.callV (m_X9_add hc26) xs_X9_34 dX9_addWritten_32 (gsS hg20) (by omega) rfl rfl (by omega) (by decide) rfl (Nat.le_of_ble_eq_true rfl) (by omega) (by omega) rfl (fun E S9 hx => hx.elim) (fun v S9 hq => ?_)
          obtain ⟨rfl, rfl⟩ := hq
          cases H
          exact GA.vret rfl dX9_addWritten_35 (by omega) (by omega) ⟨rfl, rfl⟩
set_option maxHeartbeats 4000000 in
set_option maxRecDepth 20000 in
theorem t_X9_addWritten_36 {l : Launch} {Z : XZ} {L : Nat → Nat} (n : Nat) (ih_X9_addWritten_0 : P_X9_addWritten_0 l Z L n) (ih_X9_addWritten_36 : P_X9_addWritten_36 l Z L n) (ih_X9_addWritten_96 : P_X9_addWritten_96 l Z L n) : P_X9_addWritten_36 l Z L (n + 1) := by
  intro d S a0 a1 x S1 H
  have H : b_X9_addWritten_36 n d (f_X9_addWritten n) S a0 a1 = some (x, S1) := H
  unfold b_X9_addWritten_36 at H
  refine GA.aload_n dX9_addWritten_36 rfl ?_
  refine GA.bipush dX9_addWritten_37 rfl ?_
  obtain ⟨hg1, H⟩ := gg_e H
  obtain ⟨hg2, H⟩ := gg_e H
  obtain ⟨x3, S_4, hc5, H⟩ := gc_e H
  refine GA.callV (m_X9_add hc5) xs_X9_34 dX9_addWritten_39 (gsS hg2) (by omega) rfl rfl (by omega) (by decide) rfl (Nat.le_of_ble_eq_true rfl) (by omega) (by omega) rfl (fun E S9 hx => hx.elim) (fun v S9 hq => ?_)
  obtain ⟨rfl, rfl⟩ := hq
  refine GA.aload_n dX9_addWritten_42 rfl ?_
  refine GA.bipush dX9_addWritten_43 rfl ?_
  obtain ⟨x6, S_7, hc8, H⟩ := gc_e H
  refine GA.callV (m_X9_add hc8) xs_X9_34 dX9_addWritten_45 (gsS hg2) (by omega) rfl rfl (by omega) (by decide) rfl (Nat.le_of_ble_eq_true rfl) (by omega) (by omega) rfl (fun E S9 hx => hx.elim) (fun v S9 hq => ?_)
  obtain ⟨rfl, rfl⟩ := hq
  refine GA.aload_n dX9_addWritten_48 rfl ?_
  refine GA.bipush dX9_addWritten_49 rfl ?_
  obtain ⟨x9, S_10, hc11, H⟩ := gc_e H
  refine GA.callV (m_X9_add hc11) xs_X9_34 dX9_addWritten_51 (gsS hg2) (by omega) rfl rfl (by omega) (by decide) rfl (Nat.le_of_ble_eq_true rfl) (by omega) (by omega) rfl (fun E S9 hx => hx.elim) (fun v S9 hq => ?_)
  obtain ⟨rfl, rfl⟩ := hq
  refine GA.aload_n dX9_addWritten_54 rfl ?_
  refine GA.bipush dX9_addWritten_55 rfl ?_
  obtain ⟨x12, S_13, hc14, H⟩ := gc_e H
  refine GA.callV (m_X9_add hc14) xs_X9_34 dX9_addWritten_57 (gsS hg2) (by omega) rfl rfl (by omega) (by decide) rfl (Nat.le_of_ble_eq_true rfl) (by omega) (by omega) rfl (fun E S9 hx => hx.elim) (fun v S9 hq => ?_)
  obtain ⟨rfl, rfl⟩ := hq
  refine GA.aload_n dX9_addWritten_60 rfl ?_
  refine GA.iload_n dX9_addWritten_61 rfl ?_
  refine GA.bipush dX9_addWritten_62 rfl ?_
  obtain ⟨hg15, H⟩ := gg_e H
  obtain ⟨x16, hx17, H⟩ := gv_e H
  refine GV.idiv hg15 hx17 dX9_addWritten_64 ?_
  refine GA.bipush dX9_addWritten_65 rfl ?_
  obtain ⟨hg18, H⟩ := gg_e H
  obtain ⟨x19, hx20, H⟩ := gv_e H
  refine GV.irem hg18 hx20 dX9_addWritten_67 ?_
  refine GA.bipush dX9_addWritten_68 rfl ?_
  obtain ⟨hg21, H⟩ := gg_e H
  refine GV.icmp_ge (tgt := 86) hg21 (by decide) dX9_addWritten_70 (by decide) (fun c22 => ?_) (fun c22 => ?_)
  · have H := it_t H c22
    refine GA.bipush dX9_addWritten_86 rfl ?_
    refine GA.iload_n dX9_addWritten_88 rfl ?_
    refine GA.bipush dX9_addWritten_89 rfl ?_
    obtain ⟨hg23, H⟩ := gg_e H
    obtain ⟨x24, hx25, H⟩ := gv_e H
    refine GV.idiv hg23 hx25 dX9_addWritten_91 ?_
    refine GA.bipush dX9_addWritten_92 rfl ?_
    obtain ⟨hg26, H⟩ := gg_e H
    obtain ⟨x27, hx28, H⟩ := gv_e H
    refine GV.irem hg26 hx28 dX9_addWritten_94 ?_
    obtain ⟨x29, hx30, H⟩ := gv_e H
    refine GV.iadd hx30 dX9_addWritten_95 ?_
    refine GA.locals [(0, .ref (L a0)), (1, .int (J a1))] ⟨rfl, rfl, trivial⟩ ?_
    exact ih_X9_addWritten_96 _ _ (a0) (a1) (x29) (a0) _ _ H
  · have H := it_f H c22
    refine GA.bipush dX9_addWritten_73 rfl ?_
    refine GA.iload_n dX9_addWritten_75 rfl ?_
    refine GA.bipush dX9_addWritten_76 rfl ?_
    obtain ⟨hg31, H⟩ := gg_e H
    obtain ⟨x32, hx33, H⟩ := gv_e H
    refine GV.idiv hg31 hx33 dX9_addWritten_78 ?_
    refine GA.bipush dX9_addWritten_79 rfl ?_
    obtain ⟨hg34, H⟩ := gg_e H
    obtain ⟨x35, hx36, H⟩ := gv_e H
    refine GV.irem hg34 hx36 dX9_addWritten_81 ?_
    obtain ⟨x37, hx38, H⟩ := gv_e H
    refine GV.iadd hx38 dX9_addWritten_82 ?_
    refine GA.goto (tgt := 96) dX9_addWritten_83 (by decide) ?_
    refine GA.locals [(0, .ref (L a0)), (1, .int (J a1))] ⟨rfl, rfl, trivial⟩ ?_
    exact ih_X9_addWritten_96 _ _ (a0) (a1) (x37) (a0) _ _ H
set_option maxHeartbeats 4000000 in
set_option maxRecDepth 20000 in
theorem t_X9_addWritten_96 {l : Launch} {Z : XZ} {L : Nat → Nat} (n : Nat) (ih_X9_addWritten_0 : P_X9_addWritten_0 l Z L n) (ih_X9_addWritten_36 : P_X9_addWritten_36 l Z L n) (ih_X9_addWritten_96 : P_X9_addWritten_96 l Z L n) : P_X9_addWritten_96 l Z L (n + 1) := by
  intro d S a0 a1 s0 s1 x S1 H
  have H : b_X9_addWritten_96 n d (f_X9_addWritten n) S a0 a1 s0 s1 = some (x, S1) := H
  unfold b_X9_addWritten_96 at H
  obtain ⟨hg1, H⟩ := gg_e H
  obtain ⟨hg2, H⟩ := gg_e H
  obtain ⟨x3, S_4, hc5, H⟩ := gc_e H
  refine GA.callV (m_X9_add hc5) xs_X9_34 dX9_addWritten_96 (gsS hg2) (by omega) rfl rfl (by omega) (by decide) rfl (Nat.le_of_ble_eq_true rfl) (by omega) (by omega) rfl (fun E S9 hx => hx.elim) (fun v S9 hq => ?_)
  obtain ⟨rfl, rfl⟩ := hq
  refine GA.aload_n dX9_addWritten_99 rfl ?_
  refine GA.iload_n dX9_addWritten_100 rfl ?_
  refine GA.bipush dX9_addWritten_101 rfl ?_
  obtain ⟨hg6, H⟩ := gg_e H
  obtain ⟨x7, hx8, H⟩ := gv_e H
  refine GV.irem hg6 hx8 dX9_addWritten_103 ?_
  refine GA.bipush dX9_addWritten_104 rfl ?_
  obtain ⟨hg9, H⟩ := gg_e H
  refine GV.icmp_ge (tgt := 119) hg9 (by decide) dX9_addWritten_106 (by decide) (fun c10 => ?_) (fun c10 => ?_)
  · have H := it_t H c10
    refine GA.bipush dX9_addWritten_119 rfl ?_
    refine GA.iload_n dX9_addWritten_121 rfl ?_
    refine GA.bipush dX9_addWritten_122 rfl ?_
    obtain ⟨hg11, H⟩ := gg_e H
    obtain ⟨x12, hx13, H⟩ := gv_e H
    refine GV.irem hg11 hx13 dX9_addWritten_124 ?_
    obtain ⟨x14, hx15, H⟩ := gv_e H
    refine GV.iadd hx15 dX9_addWritten_125 ?_
    obtain ⟨hg16, H⟩ := gg_e H
    obtain ⟨x17, S_18, hc19, H⟩ := gc_e H
    refine GA.callV (m_X9_add hc19) xs_X9_34 dX9_addWritten_126 (gsS hg16) (by omega) rfl rfl (by omega) (by decide) rfl (Nat.le_of_ble_eq_true rfl) (by omega) (by omega) rfl (fun E S9 hx => hx.elim) (fun v S9 hq => ?_)
    obtain ⟨rfl, rfl⟩ := hq
    cases H
    exact GA.vret rfl dX9_addWritten_129 (by omega) (by omega) ⟨rfl, rfl⟩
  · have H := it_f H c10
    refine GA.bipush dX9_addWritten_109 rfl ?_
    refine GA.iload_n dX9_addWritten_111 rfl ?_
    refine GA.bipush dX9_addWritten_112 rfl ?_
    obtain ⟨hg20, H⟩ := gg_e H
    obtain ⟨x21, hx22, H⟩ := gv_e H
    refine GV.irem hg20 hx22 dX9_addWritten_114 ?_
    obtain ⟨x23, hx24, H⟩ := gv_e H
    refine GV.iadd hx24 dX9_addWritten_115 ?_
    refine GA.goto (tgt := 126) dX9_addWritten_116 (by decide) ?_
    obtain ⟨hg25, H⟩ := gg_e H
    obtain ⟨x26, S_27, hc28, H⟩ := gc_e H
    refine GA.callV (m_X9_add hc28) xs_X9_34 dX9_addWritten_126 (gsS hg25) (by omega) rfl rfl (by omega) (by decide) rfl (Nat.le_of_ble_eq_true rfl) (by omega) (by omega) rfl (fun E S9 hx => hx.elim) (fun v S9 hq => ?_)
    obtain ⟨rfl, rfl⟩ := hq
    cases H
    exact GA.vret rfl dX9_addWritten_129 (by omega) (by omega) ⟨rfl, rfl⟩
theorem g_X9_addWritten {l : Launch} {Z : XZ} {L : Nat → Nat} : ∀ n, P_X9_addWritten_0 l Z L n ∧ P_X9_addWritten_36 l Z L n ∧ P_X9_addWritten_96 l Z L n
  | 0 => ⟨fun _ _ _ _ _ _ H => no_e H, fun _ _ _ _ _ _ H => no_e H, fun _ _ _ _ _ _ _ _ H => no_e H⟩
  | n + 1 => have ⟨h0, h1, h2⟩ := g_X9_addWritten (l := l) (Z := Z) (L := L) n
    ⟨t_X9_addWritten_0 n h0 h1 h2, t_X9_addWritten_36 n h0 h1 h2, t_X9_addWritten_96 n h0 h1 h2⟩
theorem m_X9_addWritten {l : Launch} {Z : XZ} {L : Nat → Nat} {n d : Nat} {S : GS} {a0 : Nat} {a1 : Int} {x : Int} {S1 : GS} (H : f_X9_addWritten n d 0 S [((a0 : Nat) : Int), a1] = some (x, S1)) : GM l Z L yX9_addWritten cX9_addWritten 2 none [] d 0 0 [.ref (L a0), .int (J a1)] S (fun v S' => v = none ∧ S1 = S') (fun _ _ => False) := GM.of (by decide) (Nat.le_of_ble_eq_true rfl) ((g_X9_addWritten n).1 _ _ _ _ _ _ H)

def P_X9_digestOf_0 (l : Launch) (Z : XZ) (L : Nat → Nat) (n : Nat) : Prop := ∀ (d : Nat) (S : GS) (a0 : Nat) (x : Int) (S1 : GS), f_X9_digestOf n d 0 S [((a0 : Nat) : Int)] = some (x, S1) → GA l Z L yX9_digestOf cX9_digestOf 3 (some .int) [] d 0 0 (fun v S' => v = some (.int (J x)) ∧ S1 = S') (fun _ _ => False) 0 (gl [(0, .ref (L a0))]) [] S 0 0
def P_X9_digestOf_5 (l : Launch) (Z : XZ) (L : Nat → Nat) (n : Nat) : Prop := ∀ (d : Nat) (S : GS) (a0 : Nat) (a1 : Int) (a2 : Int) (x : Int) (S1 : GS), f_X9_digestOf n d 5 S [((a0 : Nat) : Int), a1, a2] = some (x, S1) → GA l Z L yX9_digestOf cX9_digestOf 3 (some .int) [] d 0 0 (fun v S' => v = some (.int (J x)) ∧ S1 = S') (fun _ _ => False) 5 (gl [(0, .ref (L a0)), (1, .int (J a1)), (2, .int (J a2))]) [] S 0 0
theorem i_X9_digestOf {l : Launch} {Z : XZ} {L : Nat → Nat} {n : Nat} (ih : P_X9_digestOf_0 l Z L n) {d : Nat} {S : GS} {a0 : Nat} {x : Int} {S1 : GS} (H : f_X9_digestOf n d 0 S [((a0 : Nat) : Int)] = some (x, S1)) : GM l Z L yX9_digestOf cX9_digestOf 3 (some .int) [] d 0 0 [.ref (L a0)] S (fun v S' => v = some (.int (J x)) ∧ S1 = S') (fun _ _ => False) := GM.of (by decide) (Nat.le_of_ble_eq_true rfl) (ih _ _ _ _ _ H)
set_option maxHeartbeats 4000000 in
set_option maxRecDepth 20000 in
theorem t_X9_digestOf_0 {l : Launch} {Z : XZ} {L : Nat → Nat} (n : Nat) (ih_X9_digestOf_0 : P_X9_digestOf_0 l Z L n) (ih_X9_digestOf_5 : P_X9_digestOf_5 l Z L n) : P_X9_digestOf_0 l Z L (n + 1) := by
  intro d S a0 x S1 H
  have H : b_X9_digestOf_0 n d (f_X9_digestOf n) S a0 = some (x, S1) := H
  unfold b_X9_digestOf_0 at H
  refine GA.bipush dX9_digestOf_0 rfl ?_
  refine GA.istore_n dX9_digestOf_2 (by decide) ?_
  refine GA.iconst dX9_digestOf_3 ?_
  refine GA.istore_n dX9_digestOf_4 (by decide) ?_
  refine GA.locals [(0, .ref (L a0)), (1, .int (J 7)), (2, .int (J 0))] ⟨rfl, rfl, rfl, trivial⟩ ?_
  exact ih_X9_digestOf_5 _ _ (a0) (7) (0) _ _ H
set_option maxHeartbeats 4000000 in
set_option maxRecDepth 20000 in
theorem t_X9_digestOf_5 {l : Launch} {Z : XZ} {L : Nat → Nat} (n : Nat) (ih_X9_digestOf_0 : P_X9_digestOf_0 l Z L n) (ih_X9_digestOf_5 : P_X9_digestOf_5 l Z L n) : P_X9_digestOf_5 l Z L (n + 1) := by
  intro d S a0 a1 a2 x S1 H
  have H : b_X9_digestOf_5 n d (f_X9_digestOf n) S a0 a1 a2 = some (x, S1) := H
  unfold b_X9_digestOf_5 at H
  refine GA.iload_n dX9_digestOf_5 rfl ?_
  refine GA.aload_n dX9_digestOf_6 rfl ?_
  obtain ⟨hg1, H⟩ := gg_e H
  obtain ⟨x2, hx3, H⟩ := gv_e H
  refine GV.getI hx3 xf_X9_21 dX9_digestOf_7 (gsS hg1) (by omega) rfl ?_
  obtain ⟨hg4, H⟩ := gg_e H
  obtain ⟨hg5, H⟩ := gg_e H
  refine GV.icmp_ge (tgt := 34) hg4 hg5 dX9_digestOf_10 (by decide) (fun c6 => ?_) (fun c6 => ?_)
  · have H := it_t H c6
    refine GA.iload_n dX9_digestOf_34 rfl ?_
    cases H
    exact GA.iret rfl dX9_digestOf_35 (by omega) (by omega) ⟨rfl, rfl⟩
  · have H := it_f H c6
    refine GA.sipush dX9_digestOf_13 rfl ?_
    refine GA.iload_n dX9_digestOf_16 rfl ?_
    obtain ⟨x7, hx8, H⟩ := gv_e H
    refine GV.imul hx8 dX9_digestOf_17 ?_
    refine GA.aload_n dX9_digestOf_18 rfl ?_
    refine GA.iload_n dX9_digestOf_19 rfl ?_
    obtain ⟨hg9, H⟩ := gg_e H
    obtain ⟨x10, S_11, hc12, H⟩ := gc_e H
    refine GA.callV (m_X9_at hc12) xs_X9_39 dX9_digestOf_20 (gsS hg1) (by omega) rfl rfl (by omega) (by decide) rfl (Nat.le_of_ble_eq_true rfl) (by omega) (by omega) rfl (fun E S9 hx => hx.elim) (fun v S9 hq => ?_)
    obtain ⟨rfl, rfl⟩ := hq
    obtain ⟨x13, hx14, H⟩ := gv_e H
    refine GV.iadd hx14 dX9_digestOf_23 ?_
    refine GA.ldc (v := 65521) xc_X9_46 dX9_digestOf_24 ?_
    obtain ⟨hg15, H⟩ := gg_e H
    obtain ⟨x16, hx17, H⟩ := gv_e H
    refine GV.irem hg15 hx17 dX9_digestOf_26 ?_
    refine GA.istore_n dX9_digestOf_27 (by decide) ?_
    obtain ⟨x18, hx19, H⟩ := gv_e H
    refine GV.iinc hx19 dX9_digestOf_28 rfl (by decide) ?_
    refine GA.goto (tgt := 5) dX9_digestOf_31 (by decide) ?_
    refine GA.locals [(0, .ref (L a0)), (1, .int (J x16)), (2, .int (J x18))] ⟨rfl, rfl, rfl, trivial⟩ ?_
    exact ih_X9_digestOf_5 _ _ (a0) (x16) (x18) _ _ H
theorem g_X9_digestOf {l : Launch} {Z : XZ} {L : Nat → Nat} : ∀ n, P_X9_digestOf_0 l Z L n ∧ P_X9_digestOf_5 l Z L n
  | 0 => ⟨fun _ _ _ _ _ H => no_e H, fun _ _ _ _ _ _ _ H => no_e H⟩
  | n + 1 => have ⟨h0, h1⟩ := g_X9_digestOf (l := l) (Z := Z) (L := L) n
    ⟨t_X9_digestOf_0 n h0 h1, t_X9_digestOf_5 n h0 h1⟩
theorem m_X9_digestOf {l : Launch} {Z : XZ} {L : Nat → Nat} {n d : Nat} {S : GS} {a0 : Nat} {x : Int} {S1 : GS} (H : f_X9_digestOf n d 0 S [((a0 : Nat) : Int)] = some (x, S1)) : GM l Z L yX9_digestOf cX9_digestOf 3 (some .int) [] d 0 0 [.ref (L a0)] S (fun v S' => v = some (.int (J x)) ∧ S1 = S') (fun _ _ => False) := GM.of (by decide) (Nat.le_of_ble_eq_true rfl) ((g_X9_digestOf n).1 _ _ _ _ _ H)

def P_X9_shorten_0 (l : Launch) (Z : XZ) (L : Nat → Nat) (n : Nat) : Prop := ∀ (d : Nat) (S : GS) (a0 : Nat) (a1 : Int) (x : Int) (S1 : GS), f_X9_shorten n d 0 S [((a0 : Nat) : Int), a1] = some (x, S1) → GA l Z L yX9_shorten cX9_shorten 2 none [] d 0 0 (fun v S' => v = none ∧ S1 = S') (fun _ _ => False) 0 (gl [(0, .ref (L a0)), (1, .int (J a1))]) [] S 0 0
theorem i_X9_shorten {l : Launch} {Z : XZ} {L : Nat → Nat} {n : Nat} (ih : P_X9_shorten_0 l Z L n) {d : Nat} {S : GS} {a0 : Nat} {a1 : Int} {x : Int} {S1 : GS} (H : f_X9_shorten n d 0 S [((a0 : Nat) : Int), a1] = some (x, S1)) : GM l Z L yX9_shorten cX9_shorten 2 none [] d 0 0 [.ref (L a0), .int (J a1)] S (fun v S' => v = none ∧ S1 = S') (fun _ _ => False) := GM.of (by decide) (Nat.le_of_ble_eq_true rfl) (ih _ _ _ _ _ _ H)
set_option maxHeartbeats 4000000 in
set_option maxRecDepth 20000 in
theorem t_X9_shorten_0 {l : Launch} {Z : XZ} {L : Nat → Nat} (n : Nat) (ih_X9_shorten_0 : P_X9_shorten_0 l Z L n) : P_X9_shorten_0 l Z L (n + 1) := by
  intro d S a0 a1 x S1 H
  have H : b_X9_shorten_0 n d (f_X9_shorten n) S a0 a1 = some (x, S1) := H
  unfold b_X9_shorten_0 at H
  refine GA.iload_n dX9_shorten_0 rfl ?_
  obtain ⟨hg1, H⟩ := gg_e H
  refine GV.if_lt (tgt := 17) hg1 dX9_shorten_1 (by decide) (fun c2 => ?_) (fun c2 => ?_)
  · have H := it_t H c2
    cases H
    exact GA.vret rfl dX9_shorten_17 (by omega) (by omega) ⟨rfl, rfl⟩
  · have H := it_f H c2
    refine GA.iload_n dX9_shorten_4 rfl ?_
    refine GA.aload_n dX9_shorten_5 rfl ?_
    obtain ⟨hg3, H⟩ := gg_e H
    obtain ⟨x4, hx5, H⟩ := gv_e H
    refine GV.getI hx5 xf_X9_21 dX9_shorten_6 (gsS hg3) (by omega) rfl ?_
    obtain ⟨hg6, H⟩ := gg_e H
    refine GV.icmp_ge (tgt := 17) hg1 hg6 dX9_shorten_9 (by decide) (fun c7 => ?_) (fun c7 => ?_)
    · have H := it_t H c7
      cases H
      exact GA.vret rfl dX9_shorten_17 (by omega) (by omega) ⟨rfl, rfl⟩
    · have H := it_f H c7
      refine GA.aload_n dX9_shorten_12 rfl ?_
      refine GA.iload_n dX9_shorten_13 rfl ?_
      obtain ⟨S_8, hx9, H⟩ := gv_e H
      refine GV.putI hx9 (xp_X9_21 _) dX9_shorten_14 (gsS hg3) (by omega) (Nat.le_of_ble_eq_true rfl) (gsS hg3) ?_
      cases H
      exact GA.vret rfl dX9_shorten_17 (by omega) (by omega) ⟨rfl, rfl⟩
theorem g_X9_shorten {l : Launch} {Z : XZ} {L : Nat → Nat} : ∀ n, P_X9_shorten_0 l Z L n
  | 0 => fun _ _ _ _ _ _ H => no_e H
  | n + 1 => t_X9_shorten_0 n (g_X9_shorten n)
theorem m_X9_shorten {l : Launch} {Z : XZ} {L : Nat → Nat} {n d : Nat} {S : GS} {a0 : Nat} {a1 : Int} {x : Int} {S1 : GS} (H : f_X9_shorten n d 0 S [((a0 : Nat) : Int), a1] = some (x, S1)) : GM l Z L yX9_shorten cX9_shorten 2 none [] d 0 0 [.ref (L a0), .int (J a1)] S (fun v S' => v = none ∧ S1 = S') (fun _ _ => False) := GM.of (by decide) (Nat.le_of_ble_eq_true rfl) ((g_X9_shorten n) _ _ _ _ _ _ H)

def P_X9_addPart_0 (l : Launch) (Z : XZ) (L : Nat → Nat) (n : Nat) : Prop := ∀ (d : Nat) (S : GS) (a0 : Nat) (a1 : Nat) (a2 : Int) (a3 : Int) (x : Int) (S1 : GS), f_X9_addPart n d 0 S [((a0 : Nat) : Int), ((a1 : Nat) : Int), a2, a3] = some (x, S1) → GA l Z L yX9_addPart cX9_addPart 5 none [] d 0 0 (fun v S' => v = none ∧ S1 = S') (fun _ _ => False) 0 (gl [(0, .ref (L a0)), (1, .ref (L a1)), (2, .int (J a2)), (3, .int (J a3))]) [] S 0 0
def P_X9_addPart_7 (l : Launch) (Z : XZ) (L : Nat → Nat) (n : Nat) : Prop := ∀ (d : Nat) (S : GS) (a0 : Nat) (a1 : Nat) (a3 : Int) (a4 : Int) (x : Int) (S1 : GS), f_X9_addPart n d 7 S [((a0 : Nat) : Int), ((a1 : Nat) : Int), a3, a4] = some (x, S1) → GA l Z L yX9_addPart cX9_addPart 5 none [] d 0 0 (fun v S' => v = none ∧ S1 = S') (fun _ _ => False) 7 (gl [(0, .ref (L a0)), (1, .ref (L a1)), (3, .int (J a3)), (4, .int (J a4))]) [] S 0 0
theorem i_X9_addPart {l : Launch} {Z : XZ} {L : Nat → Nat} {n : Nat} (ih : P_X9_addPart_0 l Z L n) {d : Nat} {S : GS} {a0 : Nat} {a1 : Nat} {a2 : Int} {a3 : Int} {x : Int} {S1 : GS} (H : f_X9_addPart n d 0 S [((a0 : Nat) : Int), ((a1 : Nat) : Int), a2, a3] = some (x, S1)) : GM l Z L yX9_addPart cX9_addPart 5 none [] d 0 0 [.ref (L a0), .ref (L a1), .int (J a2), .int (J a3)] S (fun v S' => v = none ∧ S1 = S') (fun _ _ => False) := GM.of (by decide) (Nat.le_of_ble_eq_true rfl) (ih _ _ _ _ _ _ _ _ H)
set_option maxHeartbeats 4000000 in
set_option maxRecDepth 20000 in
theorem t_X9_addPart_0 {l : Launch} {Z : XZ} {L : Nat → Nat} (n : Nat) (ih_X9_addPart_0 : P_X9_addPart_0 l Z L n) (ih_X9_addPart_7 : P_X9_addPart_7 l Z L n) : P_X9_addPart_0 l Z L (n + 1) := by
  intro d S a0 a1 a2 a3 x S1 H
  have H : b_X9_addPart_0 n d (f_X9_addPart n) S a0 a1 a2 a3 = some (x, S1) := H
  unfold b_X9_addPart_0 at H
  refine GA.iconst dX9_addPart_0 ?_
  refine GA.iload_n dX9_addPart_1 rfl ?_
  obtain ⟨hg1, H⟩ := gg_e H
  obtain ⟨x2, hx3, H⟩ := gv_e H
  refine GV.mmax (by decide) hg1 hx3 xs_X9_9 dX9_addPart_2 (Nat.le_of_ble_eq_true rfl) (by omega) (by omega) ?_
  refine GA.istore dX9_addPart_5 (by decide) ?_
  refine GA.locals [(0, .ref (L a0)), (1, .ref (L a1)), (3, .int (J a3)), (4, .int (J x2))] ⟨rfl, rfl, rfl, rfl, trivial⟩ ?_
  exact ih_X9_addPart_7 _ _ (a0) (a1) (a3) (x2) _ _ H
set_option maxHeartbeats 4000000 in
set_option maxRecDepth 20000 in
theorem t_X9_addPart_7 {l : Launch} {Z : XZ} {L : Nat → Nat} (n : Nat) (ih_X9_addPart_0 : P_X9_addPart_0 l Z L n) (ih_X9_addPart_7 : P_X9_addPart_7 l Z L n) : P_X9_addPart_7 l Z L (n + 1) := by
  intro d S a0 a1 a3 a4 x S1 H
  have H : b_X9_addPart_7 n d (f_X9_addPart n) S a0 a1 a3 a4 = some (x, S1) := H
  unfold b_X9_addPart_7 at H
  refine GA.iload dX9_addPart_7 rfl ?_
  refine GA.iload_n dX9_addPart_9 rfl ?_
  obtain ⟨hg1, H⟩ := gg_e H
  obtain ⟨hg2, H⟩ := gg_e H
  refine GV.icmp_ge (tgt := 38) hg1 hg2 dX9_addPart_10 (by decide) (fun c3 => ?_) (fun c3 => ?_)
  · have H := it_t H c3
    cases H
    exact GA.vret rfl dX9_addPart_38 (by omega) (by omega) ⟨rfl, rfl⟩
  · have H := it_f H c3
    refine GA.iload dX9_addPart_13 rfl ?_
    refine GA.aload_n dX9_addPart_15 rfl ?_
    obtain ⟨hg4, H⟩ := gg_e H
    obtain ⟨hg5, H⟩ := gg_e H
    obtain ⟨x6, S_7, hc8, H⟩ := gc_e H
    refine GA.callV (m_X9_length hc8) xs_X9_38 dX9_addPart_16 (gsS hg5) (by omega) rfl rfl (by omega) (by decide) rfl (Nat.le_of_ble_eq_true rfl) (by omega) (by omega) rfl (fun E S9 hx => hx.elim) (fun v S9 hq => ?_)
    obtain ⟨rfl, rfl⟩ := hq
    obtain ⟨hg9, H⟩ := gg_e H
    refine GV.icmp_ge (tgt := 38) hg1 hg9 dX9_addPart_19 (by decide) (fun c10 => ?_) (fun c10 => ?_)
    · have H := it_t H c10
      cases H
      exact GA.vret rfl dX9_addPart_38 (by omega) (by omega) ⟨rfl, rfl⟩
    · have H := it_f H c10
      refine GA.aload_n dX9_addPart_22 rfl ?_
      refine GA.aload_n dX9_addPart_23 rfl ?_
      refine GA.iload dX9_addPart_24 rfl ?_
      obtain ⟨x11, S_12, hc13, H⟩ := gc_e H
      refine GA.callV (m_X9_at hc13) xs_X9_39 dX9_addPart_26 (gsS hg5) (by omega) rfl rfl (by omega) (by decide) rfl (Nat.le_of_ble_eq_true rfl) (by omega) (by omega) rfl (fun E S9 hx => hx.elim) (fun v S9 hq => ?_)
      obtain ⟨rfl, rfl⟩ := hq
      obtain ⟨hg14, H⟩ := gg_e H
      obtain ⟨x15, S_16, hc17, H⟩ := gc_e H
      refine GA.callV (m_X9_add hc17) xs_X9_34 dX9_addPart_29 (gsS hg14) (by omega) rfl rfl (by omega) (by decide) rfl (Nat.le_of_ble_eq_true rfl) (by omega) (by omega) rfl (fun E S9 hx => hx.elim) (fun v S9 hq => ?_)
      obtain ⟨rfl, rfl⟩ := hq
      obtain ⟨x18, hx19, H⟩ := gv_e H
      refine GV.iinc hx19 dX9_addPart_32 rfl (by decide) ?_
      refine GA.goto (tgt := 7) dX9_addPart_35 (by decide) ?_
      refine GA.locals [(0, .ref (L a0)), (1, .ref (L a1)), (3, .int (J a3)), (4, .int (J x18))] ⟨rfl, rfl, rfl, rfl, trivial⟩ ?_
      exact ih_X9_addPart_7 _ _ (a0) (a1) (a3) (x18) _ _ H
theorem g_X9_addPart {l : Launch} {Z : XZ} {L : Nat → Nat} : ∀ n, P_X9_addPart_0 l Z L n ∧ P_X9_addPart_7 l Z L n
  | 0 => ⟨fun _ _ _ _ _ _ _ _ H => no_e H, fun _ _ _ _ _ _ _ _ H => no_e H⟩
  | n + 1 => have ⟨h0, h1⟩ := g_X9_addPart (l := l) (Z := Z) (L := L) n
    ⟨t_X9_addPart_0 n h0 h1, t_X9_addPart_7 n h0 h1⟩
theorem m_X9_addPart {l : Launch} {Z : XZ} {L : Nat → Nat} {n d : Nat} {S : GS} {a0 : Nat} {a1 : Nat} {a2 : Int} {a3 : Int} {x : Int} {S1 : GS} (H : f_X9_addPart n d 0 S [((a0 : Nat) : Int), ((a1 : Nat) : Int), a2, a3] = some (x, S1)) : GM l Z L yX9_addPart cX9_addPart 5 none [] d 0 0 [.ref (L a0), .ref (L a1), .int (J a2), .int (J a3)] S (fun v S' => v = none ∧ S1 = S') (fun _ _ => False) := GM.of (by decide) (Nat.le_of_ble_eq_true rfl) ((g_X9_addPart n).1 _ _ _ _ _ _ _ _ H)

def P_X9_says_0 (l : Launch) (Z : XZ) (L : Nat → Nat) (n : Nat) : Prop := ∀ (d : Nat) (S : GS) (a0 : Nat) (a1 : Nat) (x : Int) (S1 : GS), f_X9_says n d 0 S [((a0 : Nat) : Int), ((a1 : Nat) : Int)] = some (x, S1) → GA l Z L yX9_says cX9_says 4 (some .boolean) [] d 0 0 (fun v S' => v = some (.int (J x)) ∧ S1 = S') (fun _ _ => False) 0 (gl [(0, .ref (L a0)), (1, .ref (Z.2.1 a1))]) [] S 0 0
def P_X9_says_19 (l : Launch) (Z : XZ) (L : Nat → Nat) (n : Nat) : Prop := ∀ (d : Nat) (S : GS) (a0 : Nat) (a1 : Nat) (a2 : Int) (a3 : Int) (x : Int) (S1 : GS), f_X9_says n d 19 S [((a0 : Nat) : Int), ((a1 : Nat) : Int), a2, a3] = some (x, S1) → GA l Z L yX9_says cX9_says 4 (some .boolean) [] d 0 0 (fun v S' => v = some (.int (J x)) ∧ S1 = S') (fun _ _ => False) 19 (gl [(0, .ref (L a0)), (1, .ref (Z.2.1 a1)), (2, .int (J a2)), (3, .int (J a3))]) [] S 0 0
theorem i_X9_says {l : Launch} {Z : XZ} {L : Nat → Nat} {n : Nat} (ih : P_X9_says_0 l Z L n) {d : Nat} {S : GS} {a0 : Nat} {a1 : Nat} {x : Int} {S1 : GS} (H : f_X9_says n d 0 S [((a0 : Nat) : Int), ((a1 : Nat) : Int)] = some (x, S1)) : GM l Z L yX9_says cX9_says 4 (some .boolean) [] d 0 0 [.ref (L a0), .ref (Z.2.1 a1)] S (fun v S' => v = some (.int (J x)) ∧ S1 = S') (fun _ _ => False) := GM.of (by decide) (Nat.le_of_ble_eq_true rfl) (ih _ _ _ _ _ _ H)
set_option maxHeartbeats 4000000 in
set_option maxRecDepth 20000 in
theorem t_X9_says_0 {l : Launch} {Z : XZ} {L : Nat → Nat} (n : Nat) (ih_X9_says_0 : P_X9_says_0 l Z L n) (ih_X9_says_19 : P_X9_says_19 l Z L n) : P_X9_says_0 l Z L (n + 1) := by
  intro d S a0 a1 x S1 H
  have H : b_X9_says_0 n d (f_X9_says n) S a0 a1 = some (x, S1) := H
  unfold b_X9_says_0 at H
  refine GA.aload_n dX9_says_0 rfl ?_
  obtain ⟨hg1, H⟩ := gg_e H
  obtain ⟨x2, hx3, H⟩ := gv_e H
  refine GV.getI hx3 xf_X9_21 dX9_says_1 (gsS hg1) (by omega) rfl ?_
  refine GA.aload_n dX9_says_4 rfl ?_
  obtain ⟨hg4, H⟩ := gg_e H
  obtain ⟨hg5, H⟩ := gg_e H
  obtain ⟨x6, hx7, H⟩ := gv_e H
  refine GV.strLen hg4 hx7 xs_X9_25 dX9_says_5 hg5 (Nat.le_of_ble_eq_true rfl) (by omega) (by omega) ?_
  obtain ⟨hg8, H⟩ := gg_e H
  obtain ⟨hg9, H⟩ := gg_e H
  refine GV.icmp_ne (tgt := 15) hg8 hg9 dX9_says_8 (by decide) (fun c10 => ?_) (fun c10 => ?_)
  · have H := it_t H c10
    refine GA.iconst dX9_says_15 ?_
    refine GA.istore_n dX9_says_16 (by decide) ?_
    refine GA.iconst dX9_says_17 ?_
    refine GA.istore_n dX9_says_18 (by decide) ?_
    refine GA.locals [(0, .ref (L a0)), (1, .ref (Z.2.1 a1)), (2, .int (J 0)), (3, .int (J 0))] ⟨rfl, rfl, rfl, rfl, trivial⟩ ?_
    exact ih_X9_says_19 _ _ (a0) (a1) (0) (0) _ _ H
  · have H := it_f H c10
    refine GA.iconst dX9_says_11 ?_
    refine GA.goto (tgt := 16) dX9_says_12 (by decide) ?_
    refine GA.istore_n dX9_says_16 (by decide) ?_
    refine GA.iconst dX9_says_17 ?_
    refine GA.istore_n dX9_says_18 (by decide) ?_
    refine GA.locals [(0, .ref (L a0)), (1, .ref (Z.2.1 a1)), (2, .int (J 1)), (3, .int (J 0))] ⟨rfl, rfl, rfl, rfl, trivial⟩ ?_
    exact ih_X9_says_19 _ _ (a0) (a1) (1) (0) _ _ H
set_option maxHeartbeats 4000000 in
set_option maxRecDepth 20000 in
theorem t_X9_says_19 {l : Launch} {Z : XZ} {L : Nat → Nat} (n : Nat) (ih_X9_says_0 : P_X9_says_0 l Z L n) (ih_X9_says_19 : P_X9_says_19 l Z L n) : P_X9_says_19 l Z L (n + 1) := by
  intro d S a0 a1 a2 a3 x S1 H
  have H : b_X9_says_19 n d (f_X9_says n) S a0 a1 a2 a3 = some (x, S1) := H
  unfold b_X9_says_19 at H
  refine GA.iload_n dX9_says_19 rfl ?_
  refine GA.aload_n dX9_says_20 rfl ?_
  obtain ⟨hg1, H⟩ := gg_e H
  obtain ⟨x2, hx3, H⟩ := gv_e H
  refine GV.getI hx3 xf_X9_21 dX9_says_21 (gsS hg1) (by omega) rfl ?_
  obtain ⟨hg4, H⟩ := gg_e H
  obtain ⟨hg5, H⟩ := gg_e H
  refine GV.icmp_ge (tgt := 56) hg4 hg5 dX9_says_24 (by decide) (fun c6 => ?_) (fun c6 => ?_)
  · have H := it_t H c6
    refine GA.iload_n dX9_says_56 rfl ?_
    obtain ⟨hg7, H⟩ := gg_e H
    cases H
    exact GV.zret hg7 rfl dX9_says_57 (by omega) (by omega) ⟨rfl, rfl⟩
  · have H := it_f H c6
    refine GA.iload_n dX9_says_27 rfl ?_
    obtain ⟨hg8, H⟩ := gg_e H
    refine GV.if_eq (tgt := 56) hg8 dX9_says_28 (by decide) (fun c9 => ?_) (fun c9 => ?_)
    · have H := it_t H c9
      refine GA.iload_n dX9_says_56 rfl ?_
      obtain ⟨hg10, H⟩ := gg_e H
      cases H
      exact GV.zret hg10 rfl dX9_says_57 (by omega) (by omega) ⟨rfl, rfl⟩
    · have H := it_f H c9
      refine GA.aload_n dX9_says_31 rfl ?_
      refine GA.iload_n dX9_says_32 rfl ?_
      obtain ⟨hg11, H⟩ := gg_e H
      obtain ⟨x12, S_13, hc14, H⟩ := gc_e H
      refine GA.callV (m_X9_at hc14) xs_X9_39 dX9_says_33 (gsS hg1) (by omega) rfl rfl (by omega) (by decide) rfl (Nat.le_of_ble_eq_true rfl) (by omega) (by omega) rfl (fun E S9 hx => hx.elim) (fun v S9 hq => ?_)
      obtain ⟨rfl, rfl⟩ := hq
      refine GA.aload_n dX9_says_36 rfl ?_
      refine GA.iload_n dX9_says_37 rfl ?_
      obtain ⟨hg15, H⟩ := gg_e H
      obtain ⟨hg16, H⟩ := gg_e H
      obtain ⟨hg17, H⟩ := gg_e H
      obtain ⟨x18, hx19, H⟩ := gv_e H
      refine GV.strChar hg15 hg17 hx19 xs_X9_30 dX9_says_38 hg16 (Nat.le_of_ble_eq_true rfl) (by omega) (by omega) ?_
      obtain ⟨hg20, H⟩ := gg_e H
      obtain ⟨hg21, H⟩ := gg_e H
      refine GV.icmp_ne (tgt := 48) hg20 hg21 dX9_says_41 (by decide) (fun c22 => ?_) (fun c22 => ?_)
      · have H := it_t H c22
        refine GA.iconst dX9_says_48 ?_
        refine GA.istore_n dX9_says_49 (by decide) ?_
        obtain ⟨x23, hx24, H⟩ := gv_e H
        refine GV.iinc hx24 dX9_says_50 rfl (by decide) ?_
        refine GA.goto (tgt := 19) dX9_says_53 (by decide) ?_
        refine GA.locals [(0, .ref (L a0)), (1, .ref (Z.2.1 a1)), (2, .int (J 0)), (3, .int (J x23))] ⟨rfl, rfl, rfl, rfl, trivial⟩ ?_
        exact ih_X9_says_19 _ _ (a0) (a1) (0) (x23) _ _ H
      · have H := it_f H c22
        refine GA.iconst dX9_says_44 ?_
        refine GA.goto (tgt := 49) dX9_says_45 (by decide) ?_
        refine GA.istore_n dX9_says_49 (by decide) ?_
        obtain ⟨x25, hx26, H⟩ := gv_e H
        refine GV.iinc hx26 dX9_says_50 rfl (by decide) ?_
        refine GA.goto (tgt := 19) dX9_says_53 (by decide) ?_
        refine GA.locals [(0, .ref (L a0)), (1, .ref (Z.2.1 a1)), (2, .int (J 1)), (3, .int (J x25))] ⟨rfl, rfl, rfl, rfl, trivial⟩ ?_
        exact ih_X9_says_19 _ _ (a0) (a1) (1) (x25) _ _ H
theorem g_X9_says {l : Launch} {Z : XZ} {L : Nat → Nat} : ∀ n, P_X9_says_0 l Z L n ∧ P_X9_says_19 l Z L n
  | 0 => ⟨fun _ _ _ _ _ _ H => no_e H, fun _ _ _ _ _ _ _ _ H => no_e H⟩
  | n + 1 => have ⟨h0, h1⟩ := g_X9_says (l := l) (Z := Z) (L := L) n
    ⟨t_X9_says_0 n h0 h1, t_X9_says_19 n h0 h1⟩
theorem m_X9_says {l : Launch} {Z : XZ} {L : Nat → Nat} {n d : Nat} {S : GS} {a0 : Nat} {a1 : Nat} {x : Int} {S1 : GS} (H : f_X9_says n d 0 S [((a0 : Nat) : Int), ((a1 : Nat) : Int)] = some (x, S1)) : GM l Z L yX9_says cX9_says 4 (some .boolean) [] d 0 0 [.ref (L a0), .ref (Z.2.1 a1)] S (fun v S' => v = some (.int (J x)) ∧ S1 = S') (fun _ _ => False) := GM.of (by decide) (Nat.le_of_ble_eq_true rfl) ((g_X9_says n).1 _ _ _ _ _ _ H)

def P_X9_placeOf_0 (l : Launch) (Z : XZ) (L : Nat → Nat) (n : Nat) : Prop := ∀ (d : Nat) (S : GS) (a0 : Nat) (a1 : Int) (x : Int) (S1 : GS), f_X9_placeOf n d 0 S [((a0 : Nat) : Int), a1] = some (x, S1) → GA l Z L yX9_placeOf cX9_placeOf 3 (some .int) [] d 0 0 (fun v S' => v = some (.int (J x)) ∧ S1 = S') (fun _ _ => False) 0 (gl [(0, .ref (L a0)), (1, .int (J a1))]) [] S 0 0
def P_X9_placeOf_2 (l : Launch) (Z : XZ) (L : Nat → Nat) (n : Nat) : Prop := ∀ (d : Nat) (S : GS) (a0 : Nat) (a1 : Int) (a2 : Int) (x : Int) (S1 : GS), f_X9_placeOf n d 2 S [((a0 : Nat) : Int), a1, a2] = some (x, S1) → GA l Z L yX9_placeOf cX9_placeOf 3 (some .int) [] d 0 0 (fun v S' => v = some (.int (J x)) ∧ S1 = S') (fun _ _ => False) 2 (gl [(0, .ref (L a0)), (1, .int (J a1)), (2, .int (J a2))]) [] S 0 0
theorem i_X9_placeOf {l : Launch} {Z : XZ} {L : Nat → Nat} {n : Nat} (ih : P_X9_placeOf_0 l Z L n) {d : Nat} {S : GS} {a0 : Nat} {a1 : Int} {x : Int} {S1 : GS} (H : f_X9_placeOf n d 0 S [((a0 : Nat) : Int), a1] = some (x, S1)) : GM l Z L yX9_placeOf cX9_placeOf 3 (some .int) [] d 0 0 [.ref (L a0), .int (J a1)] S (fun v S' => v = some (.int (J x)) ∧ S1 = S') (fun _ _ => False) := GM.of (by decide) (Nat.le_of_ble_eq_true rfl) (ih _ _ _ _ _ _ H)
set_option maxHeartbeats 4000000 in
set_option maxRecDepth 20000 in
theorem t_X9_placeOf_0 {l : Launch} {Z : XZ} {L : Nat → Nat} (n : Nat) (ih_X9_placeOf_0 : P_X9_placeOf_0 l Z L n) (ih_X9_placeOf_2 : P_X9_placeOf_2 l Z L n) : P_X9_placeOf_0 l Z L (n + 1) := by
  intro d S a0 a1 x S1 H
  have H : b_X9_placeOf_0 n d (f_X9_placeOf n) S a0 a1 = some (x, S1) := H
  unfold b_X9_placeOf_0 at H
  refine GA.iconst dX9_placeOf_0 ?_
  refine GA.istore_n dX9_placeOf_1 (by decide) ?_
  refine GA.locals [(0, .ref (L a0)), (1, .int (J a1)), (2, .int (J 0))] ⟨rfl, rfl, rfl, trivial⟩ ?_
  exact ih_X9_placeOf_2 _ _ (a0) (a1) (0) _ _ H
set_option maxHeartbeats 4000000 in
set_option maxRecDepth 20000 in
theorem t_X9_placeOf_2 {l : Launch} {Z : XZ} {L : Nat → Nat} (n : Nat) (ih_X9_placeOf_0 : P_X9_placeOf_0 l Z L n) (ih_X9_placeOf_2 : P_X9_placeOf_2 l Z L n) : P_X9_placeOf_2 l Z L (n + 1) := by
  intro d S a0 a1 a2 x S1 H
  have H : b_X9_placeOf_2 n d (f_X9_placeOf n) S a0 a1 a2 = some (x, S1) := H
  unfold b_X9_placeOf_2 at H
  refine GA.iload_n dX9_placeOf_2 rfl ?_
  refine GA.aload_n dX9_placeOf_3 rfl ?_
  obtain ⟨hg1, H⟩ := gg_e H
  obtain ⟨x2, hx3, H⟩ := gv_e H
  refine GV.getI hx3 xf_X9_21 dX9_placeOf_4 (gsS hg1) (by omega) rfl ?_
  obtain ⟨hg4, H⟩ := gg_e H
  obtain ⟨hg5, H⟩ := gg_e H
  refine GV.icmp_ge (tgt := 27) hg4 hg5 dX9_placeOf_7 (by decide) (fun c6 => ?_) (fun c6 => ?_)
  · have H := it_t H c6
    refine GA.iconst dX9_placeOf_27 ?_
    cases H
    exact GA.iret rfl dX9_placeOf_28 (by omega) (by omega) ⟨rfl, rfl⟩
  · have H := it_f H c6
    refine GA.aload_n dX9_placeOf_10 rfl ?_
    refine GA.iload_n dX9_placeOf_11 rfl ?_
    obtain ⟨hg7, H⟩ := gg_e H
    obtain ⟨x8, S_9, hc10, H⟩ := gc_e H
    refine GA.callV (m_X9_at hc10) xs_X9_39 dX9_placeOf_12 (gsS hg1) (by omega) rfl rfl (by omega) (by decide) rfl (Nat.le_of_ble_eq_true rfl) (by omega) (by omega) rfl (fun E S9 hx => hx.elim) (fun v S9 hq => ?_)
    obtain ⟨rfl, rfl⟩ := hq
    refine GA.iload_n dX9_placeOf_15 rfl ?_
    obtain ⟨hg11, H⟩ := gg_e H
    obtain ⟨hg12, H⟩ := gg_e H
    refine GV.icmp_ne (tgt := 21) hg11 hg12 dX9_placeOf_16 (by decide) (fun c13 => ?_) (fun c13 => ?_)
    · have H := it_t H c13
      obtain ⟨x14, hx15, H⟩ := gv_e H
      refine GV.iinc hx15 dX9_placeOf_21 rfl (by decide) ?_
      refine GA.goto (tgt := 2) dX9_placeOf_24 (by decide) ?_
      refine GA.locals [(0, .ref (L a0)), (1, .int (J a1)), (2, .int (J x14))] ⟨rfl, rfl, rfl, trivial⟩ ?_
      exact ih_X9_placeOf_2 _ _ (a0) (a1) (x14) _ _ H
    · have H := it_f H c13
      refine GA.iload_n dX9_placeOf_19 rfl ?_
      cases H
      exact GA.iret rfl dX9_placeOf_20 (by omega) (by omega) ⟨rfl, rfl⟩
theorem g_X9_placeOf {l : Launch} {Z : XZ} {L : Nat → Nat} : ∀ n, P_X9_placeOf_0 l Z L n ∧ P_X9_placeOf_2 l Z L n
  | 0 => ⟨fun _ _ _ _ _ _ H => no_e H, fun _ _ _ _ _ _ _ H => no_e H⟩
  | n + 1 => have ⟨h0, h1⟩ := g_X9_placeOf (l := l) (Z := Z) (L := L) n
    ⟨t_X9_placeOf_0 n h0 h1, t_X9_placeOf_2 n h0 h1⟩
theorem m_X9_placeOf {l : Launch} {Z : XZ} {L : Nat → Nat} {n d : Nat} {S : GS} {a0 : Nat} {a1 : Int} {x : Int} {S1 : GS} (H : f_X9_placeOf n d 0 S [((a0 : Nat) : Int), a1] = some (x, S1)) : GM l Z L yX9_placeOf cX9_placeOf 3 (some .int) [] d 0 0 [.ref (L a0), .int (J a1)] S (fun v S' => v = some (.int (J x)) ∧ S1 = S') (fun _ _ => False) := GM.of (by decide) (Nat.le_of_ble_eq_true rfl) ((g_X9_placeOf n).1 _ _ _ _ _ _ H)

def P_X9_endsWith_0 (l : Launch) (Z : XZ) (L : Nat → Nat) (n : Nat) : Prop := ∀ (d : Nat) (S : GS) (a0 : Nat) (a1 : Nat) (a2 : Int) (x : Int) (S1 : GS), f_X9_endsWith n d 0 S [((a0 : Nat) : Int), ((a1 : Nat) : Int), a2] = some (x, S1) → GA l Z L yX9_endsWith cX9_endsWith 5 (some .boolean) [] d 0 0 (fun v S' => v = some (.int (J x)) ∧ S1 = S') (fun _ _ => False) 0 (gl [(0, .ref (L a0)), (1, .ref (L a1)), (2, .int (J a2))]) [] S 0 0
def P_X9_endsWith_22 (l : Launch) (Z : XZ) (L : Nat → Nat) (n : Nat) : Prop := ∀ (d : Nat) (S : GS) (a0 : Nat) (a1 : Nat) (a2 : Int) (a3 : Int) (a4 : Int) (x : Int) (S1 : GS), f_X9_endsWith n d 22 S [((a0 : Nat) : Int), ((a1 : Nat) : Int), a2, a3, a4] = some (x, S1) → GA l Z L yX9_endsWith cX9_endsWith 5 (some .boolean) [] d 0 0 (fun v S' => v = some (.int (J x)) ∧ S1 = S') (fun _ _ => False) 22 (gl [(0, .ref (L a0)), (1, .ref (L a1)), (2, .int (J a2)), (3, .int (J a3)), (4, .int (J a4))]) [] S 0 0
theorem i_X9_endsWith {l : Launch} {Z : XZ} {L : Nat → Nat} {n : Nat} (ih : P_X9_endsWith_0 l Z L n) {d : Nat} {S : GS} {a0 : Nat} {a1 : Nat} {a2 : Int} {x : Int} {S1 : GS} (H : f_X9_endsWith n d 0 S [((a0 : Nat) : Int), ((a1 : Nat) : Int), a2] = some (x, S1)) : GM l Z L yX9_endsWith cX9_endsWith 5 (some .boolean) [] d 0 0 [.ref (L a0), .ref (L a1), .int (J a2)] S (fun v S' => v = some (.int (J x)) ∧ S1 = S') (fun _ _ => False) := GM.of (by decide) (Nat.le_of_ble_eq_true rfl) (ih _ _ _ _ _ _ _ H)
set_option maxHeartbeats 4000000 in
set_option maxRecDepth 20000 in
theorem t_X9_endsWith_0 {l : Launch} {Z : XZ} {L : Nat → Nat} (n : Nat) (ih_X9_endsWith_0 : P_X9_endsWith_0 l Z L n) (ih_X9_endsWith_22 : P_X9_endsWith_22 l Z L n) : P_X9_endsWith_0 l Z L (n + 1) := by
  intro d S a0 a1 a2 x S1 H
  have H : b_X9_endsWith_0 n d (f_X9_endsWith n) S a0 a1 a2 = some (x, S1) := H
  unfold b_X9_endsWith_0 at H
  refine GA.aload_n dX9_endsWith_0 rfl ?_
  obtain ⟨hg1, H⟩ := gg_e H
  obtain ⟨x2, hx3, H⟩ := gv_e H
  refine GV.getI hx3 xf_X9_21 dX9_endsWith_1 (gsS hg1) (by omega) rfl ?_
  refine GA.iload_n dX9_endsWith_4 rfl ?_
  obtain ⟨x4, hx5, H⟩ := gv_e H
  refine GV.isub hx5 dX9_endsWith_5 ?_
  refine GA.aload_n dX9_endsWith_6 rfl ?_
  obtain ⟨hg6, H⟩ := gg_e H
  obtain ⟨hg7, H⟩ := gg_e H
  obtain ⟨x8, S_9, hc10, H⟩ := gc_e H
  refine GA.callV (m_X9_length hc10) xs_X9_38 dX9_endsWith_7 (gsS hg7) (by omega) rfl rfl (by omega) (by decide) rfl (Nat.le_of_ble_eq_true rfl) (by omega) (by omega) rfl (fun E S9 hx => hx.elim) (fun v S9 hq => ?_)
  obtain ⟨rfl, rfl⟩ := hq
  obtain ⟨hg11, H⟩ := gg_e H
  obtain ⟨hg12, H⟩ := gg_e H
  refine GV.icmp_ne (tgt := 17) hg11 hg12 dX9_endsWith_10 (by decide) (fun c13 => ?_) (fun c13 => ?_)
  · have H := it_t H c13
    refine GA.iconst dX9_endsWith_17 ?_
    refine GA.istore_n dX9_endsWith_18 (by decide) ?_
    refine GA.iconst dX9_endsWith_19 ?_
    refine GA.istore dX9_endsWith_20 (by decide) ?_
    refine GA.locals [(0, .ref (L a0)), (1, .ref (L a1)), (2, .int (J a2)), (3, .int (J 0)), (4, .int (J 0))] ⟨rfl, rfl, rfl, rfl, rfl, trivial⟩ ?_
    exact ih_X9_endsWith_22 _ _ (a0) (a1) (a2) (0) (0) _ _ H
  · have H := it_f H c13
    refine GA.iconst dX9_endsWith_13 ?_
    refine GA.goto (tgt := 18) dX9_endsWith_14 (by decide) ?_
    refine GA.istore_n dX9_endsWith_18 (by decide) ?_
    refine GA.iconst dX9_endsWith_19 ?_
    refine GA.istore dX9_endsWith_20 (by decide) ?_
    refine GA.locals [(0, .ref (L a0)), (1, .ref (L a1)), (2, .int (J a2)), (3, .int (J 1)), (4, .int (J 0))] ⟨rfl, rfl, rfl, rfl, rfl, trivial⟩ ?_
    exact ih_X9_endsWith_22 _ _ (a0) (a1) (a2) (1) (0) _ _ H
set_option maxHeartbeats 4000000 in
set_option maxRecDepth 20000 in
theorem t_X9_endsWith_22 {l : Launch} {Z : XZ} {L : Nat → Nat} (n : Nat) (ih_X9_endsWith_0 : P_X9_endsWith_0 l Z L n) (ih_X9_endsWith_22 : P_X9_endsWith_22 l Z L n) : P_X9_endsWith_22 l Z L (n + 1) := by
  intro d S a0 a1 a2 a3 a4 x S1 H
  have H : b_X9_endsWith_22 n d (f_X9_endsWith n) S a0 a1 a2 a3 a4 = some (x, S1) := H
  unfold b_X9_endsWith_22 at H
  refine GA.iload dX9_endsWith_22 rfl ?_
  refine GA.aload_n dX9_endsWith_24 rfl ?_
  obtain ⟨hg1, H⟩ := gg_e H
  obtain ⟨hg2, H⟩ := gg_e H
  obtain ⟨x3, S_4, hc5, H⟩ := gc_e H
  refine GA.callV (m_X9_length hc5) xs_X9_38 dX9_endsWith_25 (gsS hg2) (by omega) rfl rfl (by omega) (by decide) rfl (Nat.le_of_ble_eq_true rfl) (by omega) (by omega) rfl (fun E S9 hx => hx.elim) (fun v S9 hq => ?_)
  obtain ⟨rfl, rfl⟩ := hq
  obtain ⟨hg6, H⟩ := gg_e H
  obtain ⟨hg7, H⟩ := gg_e H
  refine GV.icmp_ge (tgt := 64) hg6 hg7 dX9_endsWith_28 (by decide) (fun c8 => ?_) (fun c8 => ?_)
  · have H := it_t H c8
    refine GA.iload_n dX9_endsWith_64 rfl ?_
    obtain ⟨hg9, H⟩ := gg_e H
    cases H
    exact GV.zret hg9 rfl dX9_endsWith_65 (by omega) (by omega) ⟨rfl, rfl⟩
  · have H := it_f H c8
    refine GA.iload_n dX9_endsWith_31 rfl ?_
    obtain ⟨hg10, H⟩ := gg_e H
    refine GV.if_eq (tgt := 64) hg10 dX9_endsWith_32 (by decide) (fun c11 => ?_) (fun c11 => ?_)
    · have H := it_t H c11
      refine GA.iload_n dX9_endsWith_64 rfl ?_
      obtain ⟨hg12, H⟩ := gg_e H
      cases H
      exact GV.zret hg12 rfl dX9_endsWith_65 (by omega) (by omega) ⟨rfl, rfl⟩
    · have H := it_f H c11
      refine GA.aload_n dX9_endsWith_35 rfl ?_
      refine GA.iload_n dX9_endsWith_36 rfl ?_
      refine GA.iload dX9_endsWith_37 rfl ?_
      obtain ⟨x13, hx14, H⟩ := gv_e H
      refine GV.iadd hx14 dX9_endsWith_39 ?_
      obtain ⟨hg15, H⟩ := gg_e H
      obtain ⟨x16, S_17, hc18, H⟩ := gc_e H
      refine GA.callV (m_X9_at hc18) xs_X9_39 dX9_endsWith_40 (gsS hg15) (by omega) rfl rfl (by omega) (by decide) rfl (Nat.le_of_ble_eq_true rfl) (by omega) (by omega) rfl (fun E S9 hx => hx.elim) (fun v S9 hq => ?_)
      obtain ⟨rfl, rfl⟩ := hq
      refine GA.aload_n dX9_endsWith_43 rfl ?_
      refine GA.iload dX9_endsWith_44 rfl ?_
      obtain ⟨x19, S_20, hc21, H⟩ := gc_e H
      refine GA.callV (m_X9_at hc21) xs_X9_39 dX9_endsWith_46 (gsS hg2) (by omega) rfl rfl (by omega) (by decide) rfl (Nat.le_of_ble_eq_true rfl) (by omega) (by omega) rfl (fun E S9 hx => hx.elim) (fun v S9 hq => ?_)
      obtain ⟨rfl, rfl⟩ := hq
      obtain ⟨hg22, H⟩ := gg_e H
      obtain ⟨hg23, H⟩ := gg_e H
      refine GV.icmp_ne (tgt := 56) hg22 hg23 dX9_endsWith_49 (by decide) (fun c24 => ?_) (fun c24 => ?_)
      · have H := it_t H c24
        refine GA.iconst dX9_endsWith_56 ?_
        refine GA.istore_n dX9_endsWith_57 (by decide) ?_
        obtain ⟨x25, hx26, H⟩ := gv_e H
        refine GV.iinc hx26 dX9_endsWith_58 rfl (by decide) ?_
        refine GA.goto (tgt := 22) dX9_endsWith_61 (by decide) ?_
        refine GA.locals [(0, .ref (L a0)), (1, .ref (L a1)), (2, .int (J a2)), (3, .int (J 0)), (4, .int (J x25))] ⟨rfl, rfl, rfl, rfl, rfl, trivial⟩ ?_
        exact ih_X9_endsWith_22 _ _ (a0) (a1) (a2) (0) (x25) _ _ H
      · have H := it_f H c24
        refine GA.iconst dX9_endsWith_52 ?_
        refine GA.goto (tgt := 57) dX9_endsWith_53 (by decide) ?_
        refine GA.istore_n dX9_endsWith_57 (by decide) ?_
        obtain ⟨x27, hx28, H⟩ := gv_e H
        refine GV.iinc hx28 dX9_endsWith_58 rfl (by decide) ?_
        refine GA.goto (tgt := 22) dX9_endsWith_61 (by decide) ?_
        refine GA.locals [(0, .ref (L a0)), (1, .ref (L a1)), (2, .int (J a2)), (3, .int (J 1)), (4, .int (J x27))] ⟨rfl, rfl, rfl, rfl, rfl, trivial⟩ ?_
        exact ih_X9_endsWith_22 _ _ (a0) (a1) (a2) (1) (x27) _ _ H
theorem g_X9_endsWith {l : Launch} {Z : XZ} {L : Nat → Nat} : ∀ n, P_X9_endsWith_0 l Z L n ∧ P_X9_endsWith_22 l Z L n
  | 0 => ⟨fun _ _ _ _ _ _ _ H => no_e H, fun _ _ _ _ _ _ _ _ _ H => no_e H⟩
  | n + 1 => have ⟨h0, h1⟩ := g_X9_endsWith (l := l) (Z := Z) (L := L) n
    ⟨t_X9_endsWith_0 n h0 h1, t_X9_endsWith_22 n h0 h1⟩
theorem m_X9_endsWith {l : Launch} {Z : XZ} {L : Nat → Nat} {n d : Nat} {S : GS} {a0 : Nat} {a1 : Nat} {a2 : Int} {x : Int} {S1 : GS} (H : f_X9_endsWith n d 0 S [((a0 : Nat) : Int), ((a1 : Nat) : Int), a2] = some (x, S1)) : GM l Z L yX9_endsWith cX9_endsWith 5 (some .boolean) [] d 0 0 [.ref (L a0), .ref (L a1), .int (J a2)] S (fun v S' => v = some (.int (J x)) ∧ S1 = S') (fun _ _ => False) := GM.of (by decide) (Nat.le_of_ble_eq_true rfl) ((g_X9_endsWith n).1 _ _ _ _ _ _ _ H)

