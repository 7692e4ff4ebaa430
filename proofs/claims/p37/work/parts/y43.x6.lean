def P_X6_here_0 (l : Launch) (Z : XZ) (L : Nat → Nat) (n : Nat) : Prop := ∀ (d : Nat) (S : GS) (x : Int) (S1 : GS), f_X6_here n d 0 S [] = some (x, S1) → GA l Z L yX6_here cX6_here 1 (some .int) [] d 0 0 (fun v S' => v = some (.int (J x)) ∧ S1 = S') (fun _ _ => False) 0 (gl [(0, .ref (L 470))]) [] S 0 0
theorem i_X6_here {l : Launch} {Z : XZ} {L : Nat → Nat} {n : Nat} (ih : P_X6_here_0 l Z L n) {d : Nat} {S : GS} {x : Int} {S1 : GS} (H : f_X6_here n d 0 S [] = some (x, S1)) : GM l Z L yX6_here cX6_here 1 (some .int) [] d 0 0 [.ref (L 470)] S (fun v S' => v = some (.int (J x)) ∧ S1 = S') (fun _ _ => False) := GM.of (by decide) (Nat.le_of_ble_eq_true rfl) (ih _ _ _ _ H)
set_option maxHeartbeats 4000000 in
set_option maxRecDepth 20000 in
theorem t_X6_here_0 {l : Launch} {Z : XZ} {L : Nat → Nat} (n : Nat) (ih_X6_here_0 : P_X6_here_0 l Z L n) : P_X6_here_0 l Z L (n + 1) := by
  intro d S  x S1 H
  have H : b_X6_here_0 n d (f_X6_here n) S  = some (x, S1) := H
  unfold b_X6_here_0 at H
  refine GA.aload_n dX6_here_0 rfl ?_
  obtain ⟨z1, hx2, H⟩ := gv_e H
  refine GV.getR hx2 xf_X6_36 dX6_here_1 gs_470 (by decide) rfl ?_
  refine GA.aload_n dX6_here_4 rfl ?_
  obtain ⟨x3, hx4, H⟩ := gv_e H
  refine GV.getI hx4 xf_X6_43 dX6_here_5 gs_470 (by decide) rfl ?_
  obtain ⟨hg5, H⟩ := gg_e H
  obtain ⟨hg6, H⟩ := gg_e H
  obtain ⟨x7, S_8, hc9, H⟩ := gc_e H
  refine GA.callV (m_X9_at hc9) xs_X6_70 dX6_here_8 (gsS hg6) (by omega) rfl rfl (by omega) (by decide) rfl (Nat.le_of_ble_eq_true rfl) (by omega) (by omega) rfl (fun E S9 hx => hx.elim) (fun v S9 hq => ?_)
  obtain ⟨rfl, rfl⟩ := hq
  cases H
  exact GA.iret rfl dX6_here_11 (by omega) (by omega) ⟨rfl, rfl⟩
theorem g_X6_here {l : Launch} {Z : XZ} {L : Nat → Nat} : ∀ n, P_X6_here_0 l Z L n
  | 0 => fun _ _ _ _ H => no_e H
  | n + 1 => t_X6_here_0 n (g_X6_here n)
theorem m_X6_here {l : Launch} {Z : XZ} {L : Nat → Nat} {n d : Nat} {S : GS} {x : Int} {S1 : GS} (H : f_X6_here n d 0 S [] = some (x, S1)) : GM l Z L yX6_here cX6_here 1 (some .int) [] d 0 0 [.ref (L 470)] S (fun v S' => v = some (.int (J x)) ∧ S1 = S') (fun _ _ => False) := GM.of (by decide) (Nat.le_of_ble_eq_true rfl) ((g_X6_here n) _ _ _ _ H)

def P_X6_skipBlanks_0 (l : Launch) (Z : XZ) (L : Nat → Nat) (n : Nat) : Prop := ∀ (d : Nat) (S : GS) (x : Int) (S1 : GS), f_X6_skipBlanks n d 0 S [] = some (x, S1) → GA l Z L yX6_skipBlanks cX6_skipBlanks 1 none [] d 0 0 (fun v S' => v = none ∧ S1 = S') (fun _ _ => False) 0 (gl [(0, .ref (L 470))]) [] S 0 0
theorem i_X6_skipBlanks {l : Launch} {Z : XZ} {L : Nat → Nat} {n : Nat} (ih : P_X6_skipBlanks_0 l Z L n) {d : Nat} {S : GS} {x : Int} {S1 : GS} (H : f_X6_skipBlanks n d 0 S [] = some (x, S1)) : GM l Z L yX6_skipBlanks cX6_skipBlanks 1 none [] d 0 0 [.ref (L 470)] S (fun v S' => v = none ∧ S1 = S') (fun _ _ => False) := GM.of (by decide) (Nat.le_of_ble_eq_true rfl) (ih _ _ _ _ H)
set_option maxHeartbeats 4000000 in
set_option maxRecDepth 20000 in
theorem t_X6_skipBlanks_0 {l : Launch} {Z : XZ} {L : Nat → Nat} (n : Nat) (ih_X6_skipBlanks_0 : P_X6_skipBlanks_0 l Z L n) : P_X6_skipBlanks_0 l Z L (n + 1) := by
  intro d S  x S1 H
  have H : b_X6_skipBlanks_0 n d (f_X6_skipBlanks n) S  = some (x, S1) := H
  unfold b_X6_skipBlanks_0 at H
  refine GA.aload_n dX6_skipBlanks_0 rfl ?_
  obtain ⟨x1, hx2, H⟩ := gv_e H
  refine GV.getI hx2 xf_X6_43 dX6_skipBlanks_1 gs_470 (by decide) rfl ?_
  refine GA.aload_n dX6_skipBlanks_4 rfl ?_
  obtain ⟨z3, hx4, H⟩ := gv_e H
  refine GV.getR hx4 xf_X6_36 dX6_skipBlanks_5 gs_470 (by decide) rfl ?_
  obtain ⟨hg5, H⟩ := gg_e H
  obtain ⟨hg6, H⟩ := gg_e H
  obtain ⟨x7, S_8, hc9, H⟩ := gc_e H
  refine GA.callV (m_X9_length hc9) xs_X6_73 dX6_skipBlanks_8 (gsS hg6) (by omega) rfl rfl (by omega) (by decide) rfl (Nat.le_of_ble_eq_true rfl) (by omega) (by omega) rfl (fun E S9 hx => hx.elim) (fun v S9 hq => ?_)
  obtain ⟨rfl, rfl⟩ := hq
  obtain ⟨hg10, H⟩ := gg_e H
  obtain ⟨hg11, H⟩ := gg_e H
  refine GV.icmp_ge (tgt := 45) hg10 hg11 dX6_skipBlanks_11 (by decide) (fun c12 => ?_) (fun c12 => ?_)
  · have H := it_t H c12
    cases H
    exact GA.vret rfl dX6_skipBlanks_45 (by omega) (by omega) ⟨rfl, rfl⟩
  · have H := it_f H c12
    refine GA.aload_n dX6_skipBlanks_14 rfl ?_
    obtain ⟨x13, S_14, hc15, H⟩ := gc_e H
    refine GA.callV (m_X6_here hc15) xs_X6_63 dX6_skipBlanks_15 gs_470 (by decide) rfl rfl (by omega) (by decide) rfl (Nat.le_of_ble_eq_true rfl) (by omega) (by omega) rfl (fun E S9 hx => hx.elim) (fun v S9 hq => ?_)
    obtain ⟨rfl, rfl⟩ := hq
    refine GA.bipush dX6_skipBlanks_18 rfl ?_
    obtain ⟨hg16, H⟩ := gg_e H
    refine GV.icmp_eq (tgt := 32) hg16 (by decide) dX6_skipBlanks_20 (by decide) (fun c17 => ?_) (fun c17 => ?_)
    · have H := it_t H c17
      refine GA.aload_n dX6_skipBlanks_32 rfl ?_
      refine GA.dup dX6_skipBlanks_33 rfl ?_
      obtain ⟨x18, hx19, H⟩ := gv_e H
      refine GV.getI hx19 xf_X6_43 dX6_skipBlanks_34 gs_470 (by decide) rfl ?_
      refine GA.iconst dX6_skipBlanks_37 ?_
      obtain ⟨x20, hx21, H⟩ := gv_e H
      refine GV.iadd hx21 dX6_skipBlanks_38 ?_
      obtain ⟨S_22, hx23, H⟩ := gv_e H
      refine GV.putI hx23 (xp_X6_43 _) dX6_skipBlanks_39 gs_470 (by decide) (Nat.le_of_ble_eq_true rfl) gs_470 ?_
      refine GA.goto (tgt := 0) dX6_skipBlanks_42 (by decide) ?_
      refine GA.locals [(0, .ref (L 470))] ⟨rfl, trivial⟩ ?_
      exact ih_X6_skipBlanks_0 _ _ _ _ H
    · have H := it_f H c17
      refine GA.aload_n dX6_skipBlanks_23 rfl ?_
      obtain ⟨x24, S_25, hc26, H⟩ := gc_e H
      refine GA.callV (m_X6_here hc26) xs_X6_63 dX6_skipBlanks_24 gs_470 (by decide) rfl rfl (by omega) (by decide) rfl (Nat.le_of_ble_eq_true rfl) (by omega) (by omega) rfl (fun E S9 hx => hx.elim) (fun v S9 hq => ?_)
      obtain ⟨rfl, rfl⟩ := hq
      refine GA.bipush dX6_skipBlanks_27 rfl ?_
      obtain ⟨hg27, H⟩ := gg_e H
      refine GV.icmp_ne (tgt := 45) hg27 (by decide) dX6_skipBlanks_29 (by decide) (fun c28 => ?_) (fun c28 => ?_)
      · have H := it_t H c28
        cases H
        exact GA.vret rfl dX6_skipBlanks_45 (by omega) (by omega) ⟨rfl, rfl⟩
      · have H := it_f H c28
        refine GA.aload_n dX6_skipBlanks_32 rfl ?_
        refine GA.dup dX6_skipBlanks_33 rfl ?_
        obtain ⟨x29, hx30, H⟩ := gv_e H
        refine GV.getI hx30 xf_X6_43 dX6_skipBlanks_34 gs_470 (by decide) rfl ?_
        refine GA.iconst dX6_skipBlanks_37 ?_
        obtain ⟨x31, hx32, H⟩ := gv_e H
        refine GV.iadd hx32 dX6_skipBlanks_38 ?_
        obtain ⟨S_33, hx34, H⟩ := gv_e H
        refine GV.putI hx34 (xp_X6_43 _) dX6_skipBlanks_39 gs_470 (by decide) (Nat.le_of_ble_eq_true rfl) gs_470 ?_
        refine GA.goto (tgt := 0) dX6_skipBlanks_42 (by decide) ?_
        refine GA.locals [(0, .ref (L 470))] ⟨rfl, trivial⟩ ?_
        exact ih_X6_skipBlanks_0 _ _ _ _ H
theorem g_X6_skipBlanks {l : Launch} {Z : XZ} {L : Nat → Nat} : ∀ n, P_X6_skipBlanks_0 l Z L n
  | 0 => fun _ _ _ _ H => no_e H
  | n + 1 => t_X6_skipBlanks_0 n (g_X6_skipBlanks n)
theorem m_X6_skipBlanks {l : Launch} {Z : XZ} {L : Nat → Nat} {n d : Nat} {S : GS} {x : Int} {S1 : GS} (H : f_X6_skipBlanks n d 0 S [] = some (x, S1)) : GM l Z L yX6_skipBlanks cX6_skipBlanks 1 none [] d 0 0 [.ref (L 470)] S (fun v S' => v = none ∧ S1 = S') (fun _ _ => False) := GM.of (by decide) (Nat.le_of_ble_eq_true rfl) ((g_X6_skipBlanks n) _ _ _ _ H)

def P_X6_fail_0 (l : Launch) (Z : XZ) (L : Nat → Nat) (n : Nat) : Prop := ∀ (d : Nat) (S : GS) (a1 : Int) (x : Int) (S1 : GS), f_X6_fail n d 0 S [a1] = some (x, S1) → GA l Z L yX6_fail cX6_fail 2 (some .int) [] d 0 0 (fun v S' => v = some (.int (J x)) ∧ S1 = S') (fun _ _ => False) 0 (gl [(0, .ref (L 470)), (1, .int (J a1))]) [] S 0 0
theorem i_X6_fail {l : Launch} {Z : XZ} {L : Nat → Nat} {n : Nat} (ih : P_X6_fail_0 l Z L n) {d : Nat} {S : GS} {a1 : Int} {x : Int} {S1 : GS} (H : f_X6_fail n d 0 S [a1] = some (x, S1)) : GM l Z L yX6_fail cX6_fail 2 (some .int) [] d 0 0 [.ref (L 470), .int (J a1)] S (fun v S' => v = some (.int (J x)) ∧ S1 = S') (fun _ _ => False) := GM.of (by decide) (Nat.le_of_ble_eq_true rfl) (ih _ _ _ _ _ H)
set_option maxHeartbeats 4000000 in
set_option maxRecDepth 20000 in
theorem t_X6_fail_0 {l : Launch} {Z : XZ} {L : Nat → Nat} (n : Nat) (ih_X6_fail_0 : P_X6_fail_0 l Z L n) : P_X6_fail_0 l Z L (n + 1) := by
  intro d S a1 x S1 H
  have H : b_X6_fail_0 n d (f_X6_fail n) S a1 = some (x, S1) := H
  unfold b_X6_fail_0 at H
  refine GA.aload_n dX6_fail_0 rfl ?_
  obtain ⟨x1, hx2, H⟩ := gv_e H
  refine GV.getI hx2 xf_X6_46 dX6_fail_1 gs_470 (by decide) rfl ?_
  refine GA.iconst dX6_fail_4 ?_
  obtain ⟨hg3, H⟩ := gg_e H
  refine GV.icmp_ne (tgt := 13) hg3 (by decide) dX6_fail_5 (by decide) (fun c4 => ?_) (fun c4 => ?_)
  · have H := it_t H c4
    refine GA.iconst dX6_fail_13 ?_
    cases H
    exact GA.iret rfl dX6_fail_14 (by omega) (by omega) ⟨rfl, rfl⟩
  · have H := it_f H c4
    refine GA.aload_n dX6_fail_8 rfl ?_
    refine GA.iload_n dX6_fail_9 rfl ?_
    obtain ⟨S_5, hx6, H⟩ := gv_e H
    refine GV.putI hx6 (xp_X6_46 _) dX6_fail_10 gs_470 (by decide) (Nat.le_of_ble_eq_true rfl) gs_470 ?_
    refine GA.iconst dX6_fail_13 ?_
    cases H
    exact GA.iret rfl dX6_fail_14 (by omega) (by omega) ⟨rfl, rfl⟩
theorem g_X6_fail {l : Launch} {Z : XZ} {L : Nat → Nat} : ∀ n, P_X6_fail_0 l Z L n
  | 0 => fun _ _ _ _ _ H => no_e H
  | n + 1 => t_X6_fail_0 n (g_X6_fail n)
theorem m_X6_fail {l : Launch} {Z : XZ} {L : Nat → Nat} {n d : Nat} {S : GS} {a1 : Int} {x : Int} {S1 : GS} (H : f_X6_fail n d 0 S [a1] = some (x, S1)) : GM l Z L yX6_fail cX6_fail 2 (some .int) [] d 0 0 [.ref (L 470), .int (J a1)] S (fun v S' => v = some (.int (J x)) ∧ S1 = S') (fun _ _ => False) := GM.of (by decide) (Nat.le_of_ble_eq_true rfl) ((g_X6_fail n) _ _ _ _ _ H)

def P_X6_begin_0 (l : Launch) (Z : XZ) (L : Nat → Nat) (n : Nat) : Prop := ∀ (d : Nat) (S : GS) (a1 : Int) (x : Int) (S1 : GS), f_X6_begin n d 0 S [a1] = some (x, S1) → GA l Z L yX6_begin cX6_begin 3 (some .int) [] d 0 0 (fun v S' => v = some (.int (J x)) ∧ S1 = S') (fun _ _ => False) 0 (gl [(0, .ref (L 470)), (1, .int (J a1))]) [] S 0 0
theorem i_X6_begin {l : Launch} {Z : XZ} {L : Nat → Nat} {n : Nat} (ih : P_X6_begin_0 l Z L n) {d : Nat} {S : GS} {a1 : Int} {x : Int} {S1 : GS} (H : f_X6_begin n d 0 S [a1] = some (x, S1)) : GM l Z L yX6_begin cX6_begin 3 (some .int) [] d 0 0 [.ref (L 470), .int (J a1)] S (fun v S' => v = some (.int (J x)) ∧ S1 = S') (fun _ _ => False) := GM.of (by decide) (Nat.le_of_ble_eq_true rfl) (ih _ _ _ _ _ H)
set_option maxHeartbeats 4000000 in
set_option maxRecDepth 20000 in
theorem t_X6_begin_0 {l : Launch} {Z : XZ} {L : Nat → Nat} (n : Nat) (ih_X6_begin_0 : P_X6_begin_0 l Z L n) : P_X6_begin_0 l Z L (n + 1) := by
  intro d S a1 x S1 H
  have H : b_X6_begin_0 n d (f_X6_begin n) S a1 = some (x, S1) := H
  unfold b_X6_begin_0 at H
  refine GA.aload_n dX6_begin_0 rfl ?_
  refine GA.get xf_X6_12 dX6_begin_1 gs_470 (by decide) rfl ?_
  refine GA.iload_n dX6_begin_4 rfl ?_
  obtain ⟨hg1, H⟩ := gg_e H
  obtain ⟨x2, S_3, hc4, H⟩ := gc_e H
  refine GA.callV (m_X10_add hc4) xs_X6_76 dX6_begin_5 (gsT (by decide)) (by decide) rfl rfl (by omega) (by decide) rfl (Nat.le_of_ble_eq_true rfl) (by omega) (by omega) rfl (fun E S9 hx => hx.elim) (fun v S9 hq => ?_)
  obtain ⟨rfl, rfl⟩ := hq
  refine GA.istore_n dX6_begin_8 (by decide) ?_
  refine GA.aload_n dX6_begin_9 rfl ?_
  refine GA.get xf_X6_12 dX6_begin_10 gs_470 (by decide) rfl ?_
  refine GA.iload_n dX6_begin_13 rfl ?_
  refine GA.aload_n dX6_begin_14 rfl ?_
  refine GA.get xf_X6_26 dX6_begin_15 gs_470 (by decide) rfl ?_
  obtain ⟨x5, S_6, hc7, H⟩ := gc_e H
  refine GA.callV (m_X10_setKey hc7) xs_X6_79 dX6_begin_18 (gsT (by decide)) (by decide) rfl rfl (by omega) (by decide) rfl (Nat.le_of_ble_eq_true rfl) (by omega) (by omega) rfl (fun E S9 hx => hx.elim) (fun v S9 hq => ?_)
  obtain ⟨rfl, rfl⟩ := hq
  refine GA.iload_n dX6_begin_21 rfl ?_
  cases H
  exact GA.iret rfl dX6_begin_22 (by omega) (by omega) ⟨rfl, rfl⟩
theorem g_X6_begin {l : Launch} {Z : XZ} {L : Nat → Nat} : ∀ n, P_X6_begin_0 l Z L n
  | 0 => fun _ _ _ _ _ H => no_e H
  | n + 1 => t_X6_begin_0 n (g_X6_begin n)
theorem m_X6_begin {l : Launch} {Z : XZ} {L : Nat → Nat} {n d : Nat} {S : GS} {a1 : Int} {x : Int} {S1 : GS} (H : f_X6_begin n d 0 S [a1] = some (x, S1)) : GM l Z L yX6_begin cX6_begin 3 (some .int) [] d 0 0 [.ref (L 470), .int (J a1)] S (fun v S' => v = some (.int (J x)) ∧ S1 = S') (fun _ _ => False) := GM.of (by decide) (Nat.le_of_ble_eq_true rfl) ((g_X6_begin n) _ _ _ _ _ H)

def P_X6_goesOn_0 (l : Launch) (Z : XZ) (L : Nat → Nat) (n : Nat) : Prop := ∀ (d : Nat) (S : GS) (x : Int) (S1 : GS), f_X6_goesOn n d 0 S [] = some (x, S1) → GA l Z L yX6_goesOn cX6_goesOn 1 (some .boolean) [] d 0 0 (fun v S' => v = some (.int (J x)) ∧ S1 = S') (fun _ _ => False) 0 (gl [(0, .ref (L 470))]) [] S 0 0
theorem i_X6_goesOn {l : Launch} {Z : XZ} {L : Nat → Nat} {n : Nat} (ih : P_X6_goesOn_0 l Z L n) {d : Nat} {S : GS} {x : Int} {S1 : GS} (H : f_X6_goesOn n d 0 S [] = some (x, S1)) : GM l Z L yX6_goesOn cX6_goesOn 1 (some .boolean) [] d 0 0 [.ref (L 470)] S (fun v S' => v = some (.int (J x)) ∧ S1 = S') (fun _ _ => False) := GM.of (by decide) (Nat.le_of_ble_eq_true rfl) (ih _ _ _ _ H)
set_option maxHeartbeats 4000000 in
set_option maxRecDepth 20000 in
theorem t_X6_goesOn_0 {l : Launch} {Z : XZ} {L : Nat → Nat} (n : Nat) (ih_X6_goesOn_0 : P_X6_goesOn_0 l Z L n) : P_X6_goesOn_0 l Z L (n + 1) := by
  intro d S  x S1 H
  have H : b_X6_goesOn_0 n d (f_X6_goesOn n) S  = some (x, S1) := H
  unfold b_X6_goesOn_0 at H
  refine GA.aload_n dX6_goesOn_0 rfl ?_
  obtain ⟨x1, hx2, H⟩ := gv_e H
  refine GV.getI hx2 xf_X6_46 dX6_goesOn_1 gs_470 (by decide) rfl ?_
  refine GA.iconst dX6_goesOn_4 ?_
  obtain ⟨hg3, H⟩ := gg_e H
  refine GV.icmp_ne (tgt := 12) hg3 (by decide) dX6_goesOn_5 (by decide) (fun c4 => ?_) (fun c4 => ?_)
  · have H := it_t H c4
    refine GA.iconst dX6_goesOn_12 ?_
    cases H
    exact GV.zret (by decide) rfl dX6_goesOn_13 (by omega) (by omega) ⟨rfl, rfl⟩
  · have H := it_f H c4
    refine GA.iconst dX6_goesOn_8 ?_
    refine GA.goto (tgt := 13) dX6_goesOn_9 (by decide) ?_
    cases H
    exact GV.zret (by decide) rfl dX6_goesOn_13 (by omega) (by omega) ⟨rfl, rfl⟩
theorem g_X6_goesOn {l : Launch} {Z : XZ} {L : Nat → Nat} : ∀ n, P_X6_goesOn_0 l Z L n
  | 0 => fun _ _ _ _ H => no_e H
  | n + 1 => t_X6_goesOn_0 n (g_X6_goesOn n)
theorem m_X6_goesOn {l : Launch} {Z : XZ} {L : Nat → Nat} {n d : Nat} {S : GS} {x : Int} {S1 : GS} (H : f_X6_goesOn n d 0 S [] = some (x, S1)) : GM l Z L yX6_goesOn cX6_goesOn 1 (some .boolean) [] d 0 0 [.ref (L 470)] S (fun v S' => v = some (.int (J x)) ∧ S1 = S') (fun _ _ => False) := GM.of (by decide) (Nat.le_of_ble_eq_true rfl) ((g_X6_goesOn n) _ _ _ _ H)

def P_X6_pass_0 (l : Launch) (Z : XZ) (L : Nat → Nat) (n : Nat) : Prop := ∀ (d : Nat) (S : GS) (a1 : Int) (x : Int) (S1 : GS), f_X6_pass n d 0 S [a1] = some (x, S1) → GA l Z L yX6_pass cX6_pass 2 none [] d 0 0 (fun v S' => v = none ∧ S1 = S') (fun _ _ => False) 0 (gl [(0, .ref (L 470)), (1, .int (J a1))]) [] S 0 0
theorem i_X6_pass {l : Launch} {Z : XZ} {L : Nat → Nat} {n : Nat} (ih : P_X6_pass_0 l Z L n) {d : Nat} {S : GS} {a1 : Int} {x : Int} {S1 : GS} (H : f_X6_pass n d 0 S [a1] = some (x, S1)) : GM l Z L yX6_pass cX6_pass 2 none [] d 0 0 [.ref (L 470), .int (J a1)] S (fun v S' => v = none ∧ S1 = S') (fun _ _ => False) := GM.of (by decide) (Nat.le_of_ble_eq_true rfl) (ih _ _ _ _ _ H)
set_option maxHeartbeats 4000000 in
set_option maxRecDepth 20000 in
theorem t_X6_pass_0 {l : Launch} {Z : XZ} {L : Nat → Nat} (n : Nat) (ih_X6_pass_0 : P_X6_pass_0 l Z L n) : P_X6_pass_0 l Z L (n + 1) := by
  intro d S a1 x S1 H
  have H : b_X6_pass_0 n d (f_X6_pass n) S a1 = some (x, S1) := H
  unfold b_X6_pass_0 at H
  refine GA.aload_n dX6_pass_0 rfl ?_
  obtain ⟨z1, hx2, H⟩ := gv_e H
  refine GV.getR hx2 xf_X6_36 dX6_pass_1 gs_470 (by decide) rfl ?_
  refine GA.aload_n dX6_pass_4 rfl ?_
  obtain ⟨x3, hx4, H⟩ := gv_e H
  refine GV.getI hx4 xf_X6_43 dX6_pass_5 gs_470 (by decide) rfl ?_
  obtain ⟨hg5, H⟩ := gg_e H
  obtain ⟨hg6, H⟩ := gg_e H
  obtain ⟨x7, S_8, hc9, H⟩ := gc_e H
  refine GA.callV (m_X9_at hc9) xs_X6_70 dX6_pass_8 (gsS hg6) (by omega) rfl rfl (by omega) (by decide) rfl (Nat.le_of_ble_eq_true rfl) (by omega) (by omega) rfl (fun E S9 hx => hx.elim) (fun v S9 hq => ?_)
  obtain ⟨rfl, rfl⟩ := hq
  refine GA.iload_n dX6_pass_11 rfl ?_
  obtain ⟨hg10, H⟩ := gg_e H
  obtain ⟨hg11, H⟩ := gg_e H
  refine GV.icmp_ne (tgt := 28) hg10 hg11 dX6_pass_12 (by decide) (fun c12 => ?_) (fun c12 => ?_)
  · have H := it_t H c12
    refine GA.aload_n dX6_pass_28 rfl ?_
    refine GA.aload_n dX6_pass_29 rfl ?_
    obtain ⟨x13, hx14, H⟩ := gv_e H
    refine GV.getI hx14 xf_X6_43 dX6_pass_30 gs_470 (by decide) rfl ?_
    obtain ⟨x15, S_16, hc17, H⟩ := gc_e H
    refine GA.callV (m_X6_fail hc17) xs_X6_67 dX6_pass_33 gs_470 (by decide) rfl rfl (by omega) (by decide) rfl (Nat.le_of_ble_eq_true rfl) (by omega) (by omega) rfl (fun E S9 hx => hx.elim) (fun v S9 hq => ?_)
    obtain ⟨rfl, rfl⟩ := hq
    refine GA.pop dX6_pass_36 rfl ?_
    cases H
    exact GA.vret rfl dX6_pass_37 (by omega) (by omega) ⟨rfl, rfl⟩
  · have H := it_f H c12
    refine GA.aload_n dX6_pass_15 rfl ?_
    refine GA.dup dX6_pass_16 rfl ?_
    obtain ⟨x18, hx19, H⟩ := gv_e H
    refine GV.getI hx19 xf_X6_43 dX6_pass_17 gs_470 (by decide) rfl ?_
    refine GA.iconst dX6_pass_20 ?_
    obtain ⟨x20, hx21, H⟩ := gv_e H
    refine GV.iadd hx21 dX6_pass_21 ?_
    obtain ⟨S_22, hx23, H⟩ := gv_e H
    refine GV.putI hx23 (xp_X6_43 _) dX6_pass_22 gs_470 (by decide) (Nat.le_of_ble_eq_true rfl) gs_470 ?_
    refine GA.goto (tgt := 37) dX6_pass_25 (by decide) ?_
    cases H
    exact GA.vret rfl dX6_pass_37 (by omega) (by omega) ⟨rfl, rfl⟩
theorem g_X6_pass {l : Launch} {Z : XZ} {L : Nat → Nat} : ∀ n, P_X6_pass_0 l Z L n
  | 0 => fun _ _ _ _ _ H => no_e H
  | n + 1 => t_X6_pass_0 n (g_X6_pass n)
theorem m_X6_pass {l : Launch} {Z : XZ} {L : Nat → Nat} {n d : Nat} {S : GS} {a1 : Int} {x : Int} {S1 : GS} (H : f_X6_pass n d 0 S [a1] = some (x, S1)) : GM l Z L yX6_pass cX6_pass 2 none [] d 0 0 [.ref (L 470), .int (J a1)] S (fun v S' => v = none ∧ S1 = S') (fun _ _ => False) := GM.of (by decide) (Nat.le_of_ble_eq_true rfl) ((g_X6_pass n) _ _ _ _ _ H)

def P_X6_isFigure_0 (l : Launch) (Z : XZ) (L : Nat → Nat) (n : Nat) : Prop := ∀ (d : Nat) (S : GS) (a0 : Int) (x : Int) (S1 : GS), f_X6_isFigure n d 0 S [a0] = some (x, S1) → GA l Z L yX6_isFigure cX6_isFigure 1 (some .boolean) [] d 0 0 (fun v S' => v = some (.int (J x)) ∧ S1 = S') (fun _ _ => False) 0 (gl [(0, .int (J a0))]) [] S 0 0
theorem i_X6_isFigure {l : Launch} {Z : XZ} {L : Nat → Nat} {n : Nat} (ih : P_X6_isFigure_0 l Z L n) {d : Nat} {S : GS} {a0 : Int} {x : Int} {S1 : GS} (H : f_X6_isFigure n d 0 S [a0] = some (x, S1)) : GM l Z L yX6_isFigure cX6_isFigure 1 (some .boolean) [] d 0 0 [.int (J a0)] S (fun v S' => v = some (.int (J x)) ∧ S1 = S') (fun _ _ => False) := GM.of (by decide) (Nat.le_of_ble_eq_true rfl) (ih _ _ _ _ _ H)
set_option maxHeartbeats 4000000 in
set_option maxRecDepth 20000 in
theorem t_X6_isFigure_0 {l : Launch} {Z : XZ} {L : Nat → Nat} (n : Nat) (ih_X6_isFigure_0 : P_X6_isFigure_0 l Z L n) : P_X6_isFigure_0 l Z L (n + 1) := by
  intro d S a0 x S1 H
  have H : b_X6_isFigure_0 n d (f_X6_isFigure n) S a0 = some (x, S1) := H
  unfold b_X6_isFigure_0 at H
  refine GA.iload_n dX6_isFigure_0 rfl ?_
  refine GA.bipush dX6_isFigure_1 rfl ?_
  obtain ⟨hg1, H⟩ := gg_e H
  refine GV.icmp_lt (tgt := 16) hg1 (by decide) dX6_isFigure_3 (by decide) (fun c2 => ?_) (fun c2 => ?_)
  · have H := it_t H c2
    refine GA.iconst dX6_isFigure_16 ?_
    cases H
    exact GV.zret (by decide) rfl dX6_isFigure_17 (by omega) (by omega) ⟨rfl, rfl⟩
  · have H := it_f H c2
    refine GA.iload_n dX6_isFigure_6 rfl ?_
    refine GA.bipush dX6_isFigure_7 rfl ?_
    refine GV.icmp_gt (tgt := 16) hg1 (by decide) dX6_isFigure_9 (by decide) (fun c3 => ?_) (fun c3 => ?_)
    · have H := it_t H c3
      refine GA.iconst dX6_isFigure_16 ?_
      cases H
      exact GV.zret (by decide) rfl dX6_isFigure_17 (by omega) (by omega) ⟨rfl, rfl⟩
    · have H := it_f H c3
      refine GA.iconst dX6_isFigure_12 ?_
      refine GA.goto (tgt := 17) dX6_isFigure_13 (by decide) ?_
      cases H
      exact GV.zret (by decide) rfl dX6_isFigure_17 (by omega) (by omega) ⟨rfl, rfl⟩
theorem g_X6_isFigure {l : Launch} {Z : XZ} {L : Nat → Nat} : ∀ n, P_X6_isFigure_0 l Z L n
  | 0 => fun _ _ _ _ _ H => no_e H
  | n + 1 => t_X6_isFigure_0 n (g_X6_isFigure n)
theorem m_X6_isFigure {l : Launch} {Z : XZ} {L : Nat → Nat} {n d : Nat} {S : GS} {a0 : Int} {x : Int} {S1 : GS} (H : f_X6_isFigure n d 0 S [a0] = some (x, S1)) : GM l Z L yX6_isFigure cX6_isFigure 1 (some .boolean) [] d 0 0 [.int (J a0)] S (fun v S' => v = some (.int (J x)) ∧ S1 = S') (fun _ _ => False) := GM.of (by decide) (Nat.le_of_ble_eq_true rfl) ((g_X6_isFigure n) _ _ _ _ _ H)

def P_X6_hexFigure_0 (l : Launch) (Z : XZ) (L : Nat → Nat) (n : Nat) : Prop := ∀ (d : Nat) (S : GS) (x : Int) (S1 : GS), f_X6_hexFigure n d 0 S [] = some (x, S1) → GA l Z L yX6_hexFigure cX6_hexFigure 2 (some .int) [] d 0 0 (fun v S' => v = some (.int (J x)) ∧ S1 = S') (fun _ _ => False) 0 (gl [(0, .ref (L 470))]) [] S 0 0
def P_X6_hexFigure_41 (l : Launch) (Z : XZ) (L : Nat → Nat) (n : Nat) : Prop := ∀ (d : Nat) (S : GS) (a1 : Int) (x : Int) (S1 : GS), f_X6_hexFigure n d 41 S [a1] = some (x, S1) → GA l Z L yX6_hexFigure cX6_hexFigure 2 (some .int) [] d 0 0 (fun v S' => v = some (.int (J x)) ∧ S1 = S') (fun _ _ => False) 41 (gl [(0, .ref (L 470)), (1, .int (J a1))]) [] S 0 0
def P_X6_hexFigure_60 (l : Launch) (Z : XZ) (L : Nat → Nat) (n : Nat) : Prop := ∀ (d : Nat) (S : GS) (a1 : Int) (x : Int) (S1 : GS), f_X6_hexFigure n d 60 S [a1] = some (x, S1) → GA l Z L yX6_hexFigure cX6_hexFigure 2 (some .int) [] d 0 0 (fun v S' => v = some (.int (J x)) ∧ S1 = S') (fun _ _ => False) 60 (gl [(0, .ref (L 470)), (1, .int (J a1))]) [] S 0 0
def P_X6_hexFigure_72 (l : Launch) (Z : XZ) (L : Nat → Nat) (n : Nat) : Prop := ∀ (d : Nat) (S : GS) (a1 : Int) (x : Int) (S1 : GS), f_X6_hexFigure n d 72 S [a1] = some (x, S1) → GA l Z L yX6_hexFigure cX6_hexFigure 2 (some .int) [] d 0 0 (fun v S' => v = some (.int (J x)) ∧ S1 = S') (fun _ _ => False) 72 (gl [(0, .ref (L 470)), (1, .int (J a1))]) [] S 0 0
theorem i_X6_hexFigure {l : Launch} {Z : XZ} {L : Nat → Nat} {n : Nat} (ih : P_X6_hexFigure_0 l Z L n) {d : Nat} {S : GS} {x : Int} {S1 : GS} (H : f_X6_hexFigure n d 0 S [] = some (x, S1)) : GM l Z L yX6_hexFigure cX6_hexFigure 2 (some .int) [] d 0 0 [.ref (L 470)] S (fun v S' => v = some (.int (J x)) ∧ S1 = S') (fun _ _ => False) := GM.of (by decide) (Nat.le_of_ble_eq_true rfl) (ih _ _ _ _ H)
set_option maxHeartbeats 4000000 in
set_option maxRecDepth 20000 in
theorem t_X6_hexFigure_0 {l : Launch} {Z : XZ} {L : Nat → Nat} (n : Nat) (ih_X6_hexFigure_0 : P_X6_hexFigure_0 l Z L n) (ih_X6_hexFigure_41 : P_X6_hexFigure_41 l Z L n) (ih_X6_hexFigure_60 : P_X6_hexFigure_60 l Z L n) (ih_X6_hexFigure_72 : P_X6_hexFigure_72 l Z L n) : P_X6_hexFigure_0 l Z L (n + 1) := by
  intro d S  x S1 H
  have H : b_X6_hexFigure_0 n d (f_X6_hexFigure n) S  = some (x, S1) := H
  unfold b_X6_hexFigure_0 at H
  refine GA.aload_n dX6_hexFigure_0 rfl ?_
  obtain ⟨z1, hx2, H⟩ := gv_e H
  refine GV.getR hx2 xf_X6_36 dX6_hexFigure_1 gs_470 (by decide) rfl ?_
  refine GA.aload_n dX6_hexFigure_4 rfl ?_
  obtain ⟨x3, hx4, H⟩ := gv_e H
  refine GV.getI hx4 xf_X6_43 dX6_hexFigure_5 gs_470 (by decide) rfl ?_
  obtain ⟨hg5, H⟩ := gg_e H
  obtain ⟨hg6, H⟩ := gg_e H
  obtain ⟨x7, S_8, hc9, H⟩ := gc_e H
  refine GA.callV (m_X9_at hc9) xs_X6_70 dX6_hexFigure_8 (gsS hg6) (by omega) rfl rfl (by omega) (by decide) rfl (Nat.le_of_ble_eq_true rfl) (by omega) (by omega) rfl (fun E S9 hx => hx.elim) (fun v S9 hq => ?_)
  obtain ⟨rfl, rfl⟩ := hq
  refine GA.istore_n dX6_hexFigure_11 (by decide) ?_
  refine GA.aload_n dX6_hexFigure_12 rfl ?_
  obtain ⟨x10, S_11, hc12, H⟩ := gc_e H
  refine GA.callV (m_X6_goesOn hc12) xs_X6_120 dX6_hexFigure_13 gs_470 (by decide) rfl rfl (by omega) (by decide) rfl (Nat.le_of_ble_eq_true rfl) (by omega) (by omega) rfl (fun E S9 hx => hx.elim) (fun v S9 hq => ?_)
  obtain ⟨rfl, rfl⟩ := hq
  obtain ⟨hg13, H⟩ := gg_e H
  refine GV.if_eq (tgt := 41) hg13 dX6_hexFigure_16 (by decide) (fun c14 => ?_) (fun c14 => ?_)
  · have H := it_t H c14
    refine GA.locals [(0, .ref (L 470)), (1, .int (J x7))] ⟨rfl, rfl, trivial⟩ ?_
    exact ih_X6_hexFigure_41 _ _ (x7) _ _ H
  · have H := it_f H c14
    refine GA.iload_n dX6_hexFigure_19 rfl ?_
    obtain ⟨x15, S_16, hc17, H⟩ := gc_e H
    refine GA.callS (m_X6_isFigure hc17) xs_X6_90 dX6_hexFigure_20 rfl (by omega) (by decide) rfl (Nat.le_of_ble_eq_true rfl) (by omega) (by omega) rfl (fun E S9 hx => hx.elim) (fun v S9 hq => ?_)
    obtain ⟨rfl, rfl⟩ := hq
    obtain ⟨hg18, H⟩ := gg_e H
    refine GV.if_eq (tgt := 41) hg18 dX6_hexFigure_23 (by decide) (fun c19 => ?_) (fun c19 => ?_)
    · have H := it_t H c19
      refine GA.locals [(0, .ref (L 470)), (1, .int (J x7))] ⟨rfl, rfl, trivial⟩ ?_
      exact ih_X6_hexFigure_41 _ _ (x7) _ _ H
    · have H := it_f H c19
      refine GA.aload_n dX6_hexFigure_26 rfl ?_
      refine GA.dup dX6_hexFigure_27 rfl ?_
      obtain ⟨x20, hx21, H⟩ := gv_e H
      refine GV.getI hx21 xf_X6_43 dX6_hexFigure_28 gs_470 (by decide) rfl ?_
      refine GA.iconst dX6_hexFigure_31 ?_
      obtain ⟨x22, hx23, H⟩ := gv_e H
      refine GV.iadd hx23 dX6_hexFigure_32 ?_
      obtain ⟨S_24, hx25, H⟩ := gv_e H
      refine GV.putI hx25 (xp_X6_43 _) dX6_hexFigure_33 gs_470 (by decide) (Nat.le_of_ble_eq_true rfl) gs_470 ?_
      refine GA.iload_n dX6_hexFigure_36 rfl ?_
      refine GA.bipush dX6_hexFigure_37 rfl ?_
      obtain ⟨x26, hx27, H⟩ := gv_e H
      refine GV.isub hx27 dX6_hexFigure_39 ?_
      cases H
      exact GA.iret rfl dX6_hexFigure_40 (by omega) (by omega) ⟨rfl, rfl⟩
set_option maxHeartbeats 4000000 in
set_option maxRecDepth 20000 in
theorem t_X6_hexFigure_41 {l : Launch} {Z : XZ} {L : Nat → Nat} (n : Nat) (ih_X6_hexFigure_0 : P_X6_hexFigure_0 l Z L n) (ih_X6_hexFigure_41 : P_X6_hexFigure_41 l Z L n) (ih_X6_hexFigure_60 : P_X6_hexFigure_60 l Z L n) (ih_X6_hexFigure_72 : P_X6_hexFigure_72 l Z L n) : P_X6_hexFigure_41 l Z L (n + 1) := by
  intro d S a1 x S1 H
  have H : b_X6_hexFigure_41 n d (f_X6_hexFigure n) S a1 = some (x, S1) := H
  unfold b_X6_hexFigure_41 at H
  refine GA.aload_n dX6_hexFigure_41 rfl ?_
  obtain ⟨hg1, H⟩ := gg_e H
  obtain ⟨x2, S_3, hc4, H⟩ := gc_e H
  refine GA.callV (m_X6_goesOn hc4) xs_X6_120 dX6_hexFigure_42 gs_470 (by decide) rfl rfl (by omega) (by decide) rfl (Nat.le_of_ble_eq_true rfl) (by omega) (by omega) rfl (fun E S9 hx => hx.elim) (fun v S9 hq => ?_)
  obtain ⟨rfl, rfl⟩ := hq
  obtain ⟨hg5, H⟩ := gg_e H
  refine GV.if_eq (tgt := 101) hg5 dX6_hexFigure_45 (by decide) (fun c6 => ?_) (fun c6 => ?_)
  · have H := it_t H c6
    refine GA.aload_n dX6_hexFigure_101 rfl ?_
    refine GA.aload_n dX6_hexFigure_102 rfl ?_
    obtain ⟨x7, hx8, H⟩ := gv_e H
    refine GV.getI hx8 xf_X6_43 dX6_hexFigure_103 gs_470 (by decide) rfl ?_
    obtain ⟨x9, S_10, hc11, H⟩ := gc_e H
    refine GA.callV (m_X6_fail hc11) xs_X6_67 dX6_hexFigure_106 gs_470 (by decide) rfl rfl (by omega) (by decide) rfl (Nat.le_of_ble_eq_true rfl) (by omega) (by omega) rfl (fun E S9 hx => hx.elim) (fun v S9 hq => ?_)
    obtain ⟨rfl, rfl⟩ := hq
    refine GA.pop dX6_hexFigure_109 rfl ?_
    refine GA.iconst dX6_hexFigure_110 ?_
    cases H
    exact GA.iret rfl dX6_hexFigure_111 (by omega) (by omega) ⟨rfl, rfl⟩
  · have H := it_f H c6
    refine GA.iload_n dX6_hexFigure_48 rfl ?_
    refine GA.bipush dX6_hexFigure_49 rfl ?_
    obtain ⟨hg12, H⟩ := gg_e H
    refine GV.icmp_lt (tgt := 60) hg12 (by decide) dX6_hexFigure_51 (by decide) (fun c13 => ?_) (fun c13 => ?_)
    · have H := it_t H c13
      refine GA.locals [(0, .ref (L 470)), (1, .int (J a1))] ⟨rfl, rfl, trivial⟩ ?_
      exact ih_X6_hexFigure_60 _ _ (a1) _ _ H
    · have H := it_f H c13
      refine GA.iload_n dX6_hexFigure_54 rfl ?_
      refine GA.bipush dX6_hexFigure_55 rfl ?_
      refine GV.icmp_le (tgt := 72) hg12 (by decide) dX6_hexFigure_57 (by decide) (fun c14 => ?_) (fun c14 => ?_)
      · have H := it_t H c14
        refine GA.locals [(0, .ref (L 470)), (1, .int (J a1))] ⟨rfl, rfl, trivial⟩ ?_
        exact ih_X6_hexFigure_72 _ _ (a1) _ _ H
      · have H := it_f H c14
        refine GA.locals [(0, .ref (L 470)), (1, .int (J a1))] ⟨rfl, rfl, trivial⟩ ?_
        exact ih_X6_hexFigure_60 _ _ (a1) _ _ H
set_option maxHeartbeats 4000000 in
set_option maxRecDepth 20000 in
theorem t_X6_hexFigure_60 {l : Launch} {Z : XZ} {L : Nat → Nat} (n : Nat) (ih_X6_hexFigure_0 : P_X6_hexFigure_0 l Z L n) (ih_X6_hexFigure_41 : P_X6_hexFigure_41 l Z L n) (ih_X6_hexFigure_60 : P_X6_hexFigure_60 l Z L n) (ih_X6_hexFigure_72 : P_X6_hexFigure_72 l Z L n) : P_X6_hexFigure_60 l Z L (n + 1) := by
  intro d S a1 x S1 H
  have H : b_X6_hexFigure_60 n d (f_X6_hexFigure n) S a1 = some (x, S1) := H
  unfold b_X6_hexFigure_60 at H
  refine GA.iload_n dX6_hexFigure_60 rfl ?_
  refine GA.bipush dX6_hexFigure_61 rfl ?_
  obtain ⟨hg1, H⟩ := gg_e H
  refine GV.icmp_lt (tgt := 101) hg1 (by decide) dX6_hexFigure_63 (by decide) (fun c2 => ?_) (fun c2 => ?_)
  · have H := it_t H c2
    refine GA.aload_n dX6_hexFigure_101 rfl ?_
    refine GA.aload_n dX6_hexFigure_102 rfl ?_
    obtain ⟨x3, hx4, H⟩ := gv_e H
    refine GV.getI hx4 xf_X6_43 dX6_hexFigure_103 gs_470 (by decide) rfl ?_
    obtain ⟨hg5, H⟩ := gg_e H
    obtain ⟨x6, S_7, hc8, H⟩ := gc_e H
    refine GA.callV (m_X6_fail hc8) xs_X6_67 dX6_hexFigure_106 gs_470 (by decide) rfl rfl (by omega) (by decide) rfl (Nat.le_of_ble_eq_true rfl) (by omega) (by omega) rfl (fun E S9 hx => hx.elim) (fun v S9 hq => ?_)
    obtain ⟨rfl, rfl⟩ := hq
    refine GA.pop dX6_hexFigure_109 rfl ?_
    refine GA.iconst dX6_hexFigure_110 ?_
    cases H
    exact GA.iret rfl dX6_hexFigure_111 (by omega) (by omega) ⟨rfl, rfl⟩
  · have H := it_f H c2
    refine GA.iload_n dX6_hexFigure_66 rfl ?_
    refine GA.bipush dX6_hexFigure_67 rfl ?_
    refine GV.icmp_gt (tgt := 101) hg1 (by decide) dX6_hexFigure_69 (by decide) (fun c9 => ?_) (fun c9 => ?_)
    · have H := it_t H c9
      refine GA.aload_n dX6_hexFigure_101 rfl ?_
      refine GA.aload_n dX6_hexFigure_102 rfl ?_
      obtain ⟨x10, hx11, H⟩ := gv_e H
      refine GV.getI hx11 xf_X6_43 dX6_hexFigure_103 gs_470 (by decide) rfl ?_
      obtain ⟨hg12, H⟩ := gg_e H
      obtain ⟨x13, S_14, hc15, H⟩ := gc_e H
      refine GA.callV (m_X6_fail hc15) xs_X6_67 dX6_hexFigure_106 gs_470 (by decide) rfl rfl (by omega) (by decide) rfl (Nat.le_of_ble_eq_true rfl) (by omega) (by omega) rfl (fun E S9 hx => hx.elim) (fun v S9 hq => ?_)
      obtain ⟨rfl, rfl⟩ := hq
      refine GA.pop dX6_hexFigure_109 rfl ?_
      refine GA.iconst dX6_hexFigure_110 ?_
      cases H
      exact GA.iret rfl dX6_hexFigure_111 (by omega) (by omega) ⟨rfl, rfl⟩
    · have H := it_f H c9
      refine GA.locals [(0, .ref (L 470)), (1, .int (J a1))] ⟨rfl, rfl, trivial⟩ ?_
      exact ih_X6_hexFigure_72 _ _ (a1) _ _ H
set_option maxHeartbeats 4000000 in
set_option maxRecDepth 20000 in
theorem t_X6_hexFigure_72 {l : Launch} {Z : XZ} {L : Nat → Nat} (n : Nat) (ih_X6_hexFigure_0 : P_X6_hexFigure_0 l Z L n) (ih_X6_hexFigure_41 : P_X6_hexFigure_41 l Z L n) (ih_X6_hexFigure_60 : P_X6_hexFigure_60 l Z L n) (ih_X6_hexFigure_72 : P_X6_hexFigure_72 l Z L n) : P_X6_hexFigure_72 l Z L (n + 1) := by
  intro d S a1 x S1 H
  have H : b_X6_hexFigure_72 n d (f_X6_hexFigure n) S a1 = some (x, S1) := H
  unfold b_X6_hexFigure_72 at H
  refine GA.aload_n dX6_hexFigure_72 rfl ?_
  refine GA.dup dX6_hexFigure_73 rfl ?_
  obtain ⟨x1, hx2, H⟩ := gv_e H
  refine GV.getI hx2 xf_X6_43 dX6_hexFigure_74 gs_470 (by decide) rfl ?_
  refine GA.iconst dX6_hexFigure_77 ?_
  obtain ⟨x3, hx4, H⟩ := gv_e H
  refine GV.iadd hx4 dX6_hexFigure_78 ?_
  obtain ⟨S_5, hx6, H⟩ := gv_e H
  refine GV.putI hx6 (xp_X6_43 _) dX6_hexFigure_79 gs_470 (by decide) (Nat.le_of_ble_eq_true rfl) gs_470 ?_
  refine GA.iload_n dX6_hexFigure_82 rfl ?_
  refine GA.iload_n dX6_hexFigure_83 rfl ?_
  refine GA.bipush dX6_hexFigure_84 rfl ?_
  obtain ⟨hg7, H⟩ := gg_e H
  refine GV.icmp_lt (tgt := 94) hg7 (by decide) dX6_hexFigure_86 (by decide) (fun c8 => ?_) (fun c8 => ?_)
  · have H := it_t H c8
    refine GA.bipush dX6_hexFigure_94 rfl ?_
    obtain ⟨x9, hx10, H⟩ := gv_e H
    refine GV.isub hx10 dX6_hexFigure_96 ?_
    refine GA.bipush dX6_hexFigure_97 rfl ?_
    obtain ⟨x11, hx12, H⟩ := gv_e H
    refine GV.iadd hx12 dX6_hexFigure_99 ?_
    cases H
    exact GA.iret rfl dX6_hexFigure_100 (by omega) (by omega) ⟨rfl, rfl⟩
  · have H := it_f H c8
    refine GA.bipush dX6_hexFigure_89 rfl ?_
    refine GA.goto (tgt := 96) dX6_hexFigure_91 (by decide) ?_
    obtain ⟨x13, hx14, H⟩ := gv_e H
    refine GV.isub hx14 dX6_hexFigure_96 ?_
    refine GA.bipush dX6_hexFigure_97 rfl ?_
    obtain ⟨x15, hx16, H⟩ := gv_e H
    refine GV.iadd hx16 dX6_hexFigure_99 ?_
    cases H
    exact GA.iret rfl dX6_hexFigure_100 (by omega) (by omega) ⟨rfl, rfl⟩
theorem g_X6_hexFigure {l : Launch} {Z : XZ} {L : Nat → Nat} : ∀ n, P_X6_hexFigure_0 l Z L n ∧ P_X6_hexFigure_41 l Z L n ∧ P_X6_hexFigure_60 l Z L n ∧ P_X6_hexFigure_72 l Z L n
  | 0 => ⟨fun _ _ _ _ H => no_e H, fun _ _ _ _ _ H => no_e H, fun _ _ _ _ _ H => no_e H, fun _ _ _ _ _ H => no_e H⟩
  | n + 1 => have ⟨h0, h1, h2, h3⟩ := g_X6_hexFigure (l := l) (Z := Z) (L := L) n
    ⟨t_X6_hexFigure_0 n h0 h1 h2 h3, t_X6_hexFigure_41 n h0 h1 h2 h3, t_X6_hexFigure_60 n h0 h1 h2 h3, t_X6_hexFigure_72 n h0 h1 h2 h3⟩
theorem m_X6_hexFigure {l : Launch} {Z : XZ} {L : Nat → Nat} {n d : Nat} {S : GS} {x : Int} {S1 : GS} (H : f_X6_hexFigure n d 0 S [] = some (x, S1)) : GM l Z L yX6_hexFigure cX6_hexFigure 2 (some .int) [] d 0 0 [.ref (L 470)] S (fun v S' => v = some (.int (J x)) ∧ S1 = S') (fun _ _ => False) := GM.of (by decide) (Nat.le_of_ble_eq_true rfl) ((g_X6_hexFigure n).1 _ _ _ _ H)

def P_X6_escaped_0 (l : Launch) (Z : XZ) (L : Nat → Nat) (n : Nat) : Prop := ∀ (d : Nat) (S : GS) (x : Int) (S1 : GS), f_X6_escaped n d 0 S [] = some (x, S1) → GA l Z L yX6_escaped cX6_escaped 3 (some .int) [] d 0 0 (fun v S' => v = some (.int (J x)) ∧ S1 = S') (fun _ _ => False) 0 (gl [(0, .ref (L 470))]) [] S 0 0
theorem i_X6_escaped {l : Launch} {Z : XZ} {L : Nat → Nat} {n : Nat} (ih : P_X6_escaped_0 l Z L n) {d : Nat} {S : GS} {x : Int} {S1 : GS} (H : f_X6_escaped n d 0 S [] = some (x, S1)) : GM l Z L yX6_escaped cX6_escaped 3 (some .int) [] d 0 0 [.ref (L 470)] S (fun v S' => v = some (.int (J x)) ∧ S1 = S') (fun _ _ => False) := GM.of (by decide) (Nat.le_of_ble_eq_true rfl) (ih _ _ _ _ H)
set_option maxHeartbeats 4000000 in
set_option maxRecDepth 20000 in
theorem t_X6_escaped_0 {l : Launch} {Z : XZ} {L : Nat → Nat} (n : Nat) (ih_X6_escaped_0 : P_X6_escaped_0 l Z L n) : P_X6_escaped_0 l Z L (n + 1) := by
  intro d S  x S1 H
  have H : b_X6_escaped_0 n d (f_X6_escaped n) S  = some (x, S1) := H
  unfold b_X6_escaped_0 at H
  refine GA.aload_n dX6_escaped_0 rfl ?_
  obtain ⟨hg1, H⟩ := gg_e H
  obtain ⟨x2, S_3, hc4, H⟩ := gc_e H
  refine GA.callV (m_X6_here hc4) xs_X6_63 dX6_escaped_1 gs_470 (by decide) rfl rfl (by omega) (by decide) rfl (Nat.le_of_ble_eq_true rfl) (by omega) (by omega) rfl (fun E S9 hx => hx.elim) (fun v S9 hq => ?_)
  obtain ⟨rfl, rfl⟩ := hq
  refine GA.istore_n dX6_escaped_4 (by decide) ?_
  refine GA.aload_n dX6_escaped_5 rfl ?_
  refine GA.dup dX6_escaped_6 rfl ?_
  obtain ⟨x5, hx6, H⟩ := gv_e H
  refine GV.getI hx6 xf_X6_43 dX6_escaped_7 gs_470 (by decide) rfl ?_
  refine GA.iconst dX6_escaped_10 ?_
  obtain ⟨x7, hx8, H⟩ := gv_e H
  refine GV.iadd hx8 dX6_escaped_11 ?_
  obtain ⟨S_9, hx10, H⟩ := gv_e H
  refine GV.putI hx10 (xp_X6_43 _) dX6_escaped_12 gs_470 (by decide) (Nat.le_of_ble_eq_true rfl) gs_470 ?_
  refine GA.iload_n dX6_escaped_15 rfl ?_
  obtain ⟨hg11, H⟩ := gg_e H
  by_cases c12 : x2 = 34
  · have H := it_t H c12
    refine GV.look (tgt := 100) hg11 dX6_escaped_16 rfl (by rw [c12] <;> rfl) (by decide) ?_
    refine GA.iload_n dX6_escaped_100 rfl ?_
    cases H
    exact GA.iret rfl dX6_escaped_101 (by omega) (by omega) ⟨rfl, rfl⟩
  have H := it_f H c12
  by_cases c13 : x2 = 47
  · have H := it_t H c13
    refine GV.look (tgt := 100) hg11 dX6_escaped_16 rfl (by rw [c13] <;> rfl) (by decide) ?_
    refine GA.iload_n dX6_escaped_100 rfl ?_
    cases H
    exact GA.iret rfl dX6_escaped_101 (by omega) (by omega) ⟨rfl, rfl⟩
  have H := it_f H c13
  by_cases c14 : x2 = 92
  · have H := it_t H c14
    refine GV.look (tgt := 100) hg11 dX6_escaped_16 rfl (by rw [c14] <;> rfl) (by decide) ?_
    refine GA.iload_n dX6_escaped_100 rfl ?_
    cases H
    exact GA.iret rfl dX6_escaped_101 (by omega) (by omega) ⟨rfl, rfl⟩
  have H := it_f H c14
  by_cases c15 : x2 = 98
  · have H := it_t H c15
    refine GV.look (tgt := 102) hg11 dX6_escaped_16 rfl (by rw [c15] <;> rfl) (by decide) ?_
    refine GA.bipush dX6_escaped_102 rfl ?_
    cases H
    exact GA.iret rfl dX6_escaped_104 (by omega) (by omega) ⟨rfl, rfl⟩
  have H := it_f H c15
  by_cases c16 : x2 = 102
  · have H := it_t H c16
    refine GV.look (tgt := 105) hg11 dX6_escaped_16 rfl (by rw [c16] <;> rfl) (by decide) ?_
    refine GA.bipush dX6_escaped_105 rfl ?_
    cases H
    exact GA.iret rfl dX6_escaped_107 (by omega) (by omega) ⟨rfl, rfl⟩
  have H := it_f H c16
  by_cases c17 : x2 = 110
  · have H := it_t H c17
    refine GV.look (tgt := 108) hg11 dX6_escaped_16 rfl (by rw [c17] <;> rfl) (by decide) ?_
    refine GA.bipush dX6_escaped_108 rfl ?_
    cases H
    exact GA.iret rfl dX6_escaped_110 (by omega) (by omega) ⟨rfl, rfl⟩
  have H := it_f H c17
  by_cases c18 : x2 = 114
  · have H := it_t H c18
    refine GV.look (tgt := 111) hg11 dX6_escaped_16 rfl (by rw [c18] <;> rfl) (by decide) ?_
    refine GA.bipush dX6_escaped_111 rfl ?_
    cases H
    exact GA.iret rfl dX6_escaped_113 (by omega) (by omega) ⟨rfl, rfl⟩
  have H := it_f H c18
  by_cases c19 : x2 = 116
  · have H := it_t H c19
    refine GV.look (tgt := 114) hg11 dX6_escaped_16 rfl (by rw [c19] <;> rfl) (by decide) ?_
    refine GA.bipush dX6_escaped_114 rfl ?_
    cases H
    exact GA.iret rfl dX6_escaped_116 (by omega) (by omega) ⟨rfl, rfl⟩
  have H := it_f H c19
  by_cases c20 : x2 = 117
  · have H := it_t H c20
    refine GV.look (tgt := 117) hg11 dX6_escaped_16 rfl (by rw [c20] <;> rfl) (by decide) ?_
    refine GA.aload_n dX6_escaped_117 rfl ?_
    refine GA.bipush dX6_escaped_118 rfl ?_
    obtain ⟨x21, S_22, hc23, H⟩ := gc_e H
    refine GA.callV (m_X6_pass hc23) xs_X6_128 dX6_escaped_120 gs_470 (by decide) rfl rfl (by omega) (by decide) rfl (Nat.le_of_ble_eq_true rfl) (by omega) (by omega) rfl (fun E S9 hx => hx.elim) (fun v S9 hq => ?_)
    obtain ⟨rfl, rfl⟩ := hq
    refine GA.aload_n dX6_escaped_123 rfl ?_
    refine GA.bipush dX6_escaped_124 rfl ?_
    obtain ⟨x24, S_25, hc26, H⟩ := gc_e H
    refine GA.callV (m_X6_pass hc26) xs_X6_128 dX6_escaped_126 gs_470 (by decide) rfl rfl (by omega) (by decide) rfl (Nat.le_of_ble_eq_true rfl) (by omega) (by omega) rfl (fun E S9 hx => hx.elim) (fun v S9 hq => ?_)
    obtain ⟨rfl, rfl⟩ := hq
    refine GA.aload_n dX6_escaped_129 rfl ?_
    obtain ⟨x27, S_28, hc29, H⟩ := gc_e H
    refine GA.callV (m_X6_hexFigure hc29) xs_X6_144 dX6_escaped_130 gs_470 (by decide) rfl rfl (by omega) (by decide) rfl (Nat.le_of_ble_eq_true rfl) (by omega) (by omega) rfl (fun E S9 hx => hx.elim) (fun v S9 hq => ?_)
    obtain ⟨rfl, rfl⟩ := hq
    refine GA.istore_n dX6_escaped_133 (by decide) ?_
    refine GA.bipush dX6_escaped_134 rfl ?_
    refine GA.iload_n dX6_escaped_136 rfl ?_
    obtain ⟨x30, hx31, H⟩ := gv_e H
    refine GV.imul hx31 dX6_escaped_137 ?_
    refine GA.aload_n dX6_escaped_138 rfl ?_
    obtain ⟨x32, S_33, hc34, H⟩ := gc_e H
    refine GA.callV (m_X6_hexFigure hc34) xs_X6_144 dX6_escaped_139 gs_470 (by decide) rfl rfl (by omega) (by decide) rfl (Nat.le_of_ble_eq_true rfl) (by omega) (by omega) rfl (fun E S9 hx => hx.elim) (fun v S9 hq => ?_)
    obtain ⟨rfl, rfl⟩ := hq
    obtain ⟨x35, hx36, H⟩ := gv_e H
    refine GV.iadd hx36 dX6_escaped_142 ?_
    cases H
    exact GA.iret rfl dX6_escaped_143 (by omega) (by omega) ⟨rfl, rfl⟩
  have H := it_f H c20
  refine GV.look (tgt := 144) hg11 dX6_escaped_16 rfl (look_no ⟨c12, c13, c14, c15, c16, c17, c18, c19, c20, trivial⟩) (by decide) ?_
  refine GA.aload_n dX6_escaped_144 rfl ?_
  refine GA.aload_n dX6_escaped_145 rfl ?_
  obtain ⟨x37, hx38, H⟩ := gv_e H
  refine GV.getI hx38 xf_X6_43 dX6_escaped_146 gs_470 (by decide) rfl ?_
  refine GA.iconst dX6_escaped_149 ?_
  obtain ⟨x39, hx40, H⟩ := gv_e H
  refine GV.isub hx40 dX6_escaped_150 ?_
  obtain ⟨x41, S_42, hc43, H⟩ := gc_e H
  refine GA.callV (m_X6_fail hc43) xs_X6_67 dX6_escaped_151 gs_470 (by decide) rfl rfl (by omega) (by decide) rfl (Nat.le_of_ble_eq_true rfl) (by omega) (by omega) rfl (fun E S9 hx => hx.elim) (fun v S9 hq => ?_)
  obtain ⟨rfl, rfl⟩ := hq
  cases H
  exact GA.iret rfl dX6_escaped_154 (by omega) (by omega) ⟨rfl, rfl⟩
theorem g_X6_escaped {l : Launch} {Z : XZ} {L : Nat → Nat} : ∀ n, P_X6_escaped_0 l Z L n
  | 0 => fun _ _ _ _ H => no_e H
  | n + 1 => t_X6_escaped_0 n (g_X6_escaped n)
theorem m_X6_escaped {l : Launch} {Z : XZ} {L : Nat → Nat} {n d : Nat} {S : GS} {x : Int} {S1 : GS} (H : f_X6_escaped n d 0 S [] = some (x, S1)) : GM l Z L yX6_escaped cX6_escaped 3 (some .int) [] d 0 0 [.ref (L 470)] S (fun v S' => v = some (.int (J x)) ∧ S1 = S') (fun _ _ => False) := GM.of (by decide) (Nat.le_of_ble_eq_true rfl) ((g_X6_escaped n) _ _ _ _ H)

def P_X6_readSigns_0 (l : Launch) (Z : XZ) (L : Nat → Nat) (n : Nat) : Prop := ∀ (d : Nat) (S : GS) (a1 : Nat) (a2 : Int) (x : Int) (S1 : GS), f_X6_readSigns n d 0 S [((a1 : Nat) : Int), a2] = some (x, S1) → GA l Z L yX6_readSigns cX6_readSigns 5 none [] d 0 0 (fun v S' => v = none ∧ S1 = S') (fun _ _ => False) 0 (gl [(0, .ref (L 470)), (1, .ref (L a1)), (2, .int (J a2))]) [] S 0 0
def P_X6_readSigns_12 (l : Launch) (Z : XZ) (L : Nat → Nat) (n : Nat) : Prop := ∀ (d : Nat) (S : GS) (a1 : Nat) (a2 : Int) (a3 : Int) (x : Int) (S1 : GS), f_X6_readSigns n d 12 S [((a1 : Nat) : Int), a2, a3] = some (x, S1) → GA l Z L yX6_readSigns cX6_readSigns 5 none [] d 0 0 (fun v S' => v = none ∧ S1 = S') (fun _ _ => False) 12 (gl [(0, .ref (L 470)), (1, .ref (L a1)), (2, .int (J a2)), (3, .int (J a3))]) [] S 0 0
def P_X6_readSigns_50 (l : Launch) (Z : XZ) (L : Nat → Nat) (n : Nat) : Prop := ∀ (d : Nat) (S : GS) (a1 : Nat) (a2 : Int) (a3 : Int) (x : Int) (S1 : GS), f_X6_readSigns n d 50 S [((a1 : Nat) : Int), a2, a3] = some (x, S1) → GA l Z L yX6_readSigns cX6_readSigns 5 none [] d 0 0 (fun v S' => v = none ∧ S1 = S') (fun _ _ => False) 50 (gl [(0, .ref (L 470)), (1, .ref (L a1)), (2, .int (J a2)), (3, .int (J a3))]) [] S 0 0
theorem i_X6_readSigns {l : Launch} {Z : XZ} {L : Nat → Nat} {n : Nat} (ih : P_X6_readSigns_0 l Z L n) {d : Nat} {S : GS} {a1 : Nat} {a2 : Int} {x : Int} {S1 : GS} (H : f_X6_readSigns n d 0 S [((a1 : Nat) : Int), a2] = some (x, S1)) : GM l Z L yX6_readSigns cX6_readSigns 5 none [] d 0 0 [.ref (L 470), .ref (L a1), .int (J a2)] S (fun v S' => v = none ∧ S1 = S') (fun _ _ => False) := GM.of (by decide) (Nat.le_of_ble_eq_true rfl) (ih _ _ _ _ _ _ H)
set_option maxHeartbeats 4000000 in
set_option maxRecDepth 20000 in
theorem t_X6_readSigns_0 {l : Launch} {Z : XZ} {L : Nat → Nat} (n : Nat) (ih_X6_readSigns_0 : P_X6_readSigns_0 l Z L n) (ih_X6_readSigns_12 : P_X6_readSigns_12 l Z L n) (ih_X6_readSigns_50 : P_X6_readSigns_50 l Z L n) : P_X6_readSigns_0 l Z L (n + 1) := by
  intro d S a1 a2 x S1 H
  have H : b_X6_readSigns_0 n d (f_X6_readSigns n) S a1 a2 = some (x, S1) := H
  unfold b_X6_readSigns_0 at H
  refine GA.aload_n dX6_readSigns_0 rfl ?_
  obtain ⟨hg1, H⟩ := gg_e H
  obtain ⟨hg2, H⟩ := gg_e H
  obtain ⟨x3, S_4, hc5, H⟩ := gc_e H
  refine GA.callV (m_X9_clear hc5) xs_X6_55 dX6_readSigns_1 (gsS hg2) (by omega) rfl rfl (by omega) (by decide) rfl (Nat.le_of_ble_eq_true rfl) (by omega) (by omega) rfl (fun E S9 hx => hx.elim) (fun v S9 hq => ?_)
  obtain ⟨rfl, rfl⟩ := hq
  refine GA.aload_n dX6_readSigns_4 rfl ?_
  refine GA.bipush dX6_readSigns_5 rfl ?_
  obtain ⟨x6, S_7, hc8, H⟩ := gc_e H
  refine GA.callV (m_X6_pass hc8) xs_X6_128 dX6_readSigns_7 gs_470 (by decide) rfl rfl (by omega) (by decide) rfl (Nat.le_of_ble_eq_true rfl) (by omega) (by omega) rfl (fun E S9 hx => hx.elim) (fun v S9 hq => ?_)
  obtain ⟨rfl, rfl⟩ := hq
  refine GA.iconst dX6_readSigns_10 ?_
  refine GA.istore_n dX6_readSigns_11 (by decide) ?_
  refine GA.locals [(0, .ref (L 470)), (1, .ref (L a1)), (2, .int (J a2)), (3, .int (J 0))] ⟨rfl, rfl, rfl, rfl, trivial⟩ ?_
  exact ih_X6_readSigns_12 _ _ (a1) (a2) (0) _ _ H
set_option maxHeartbeats 4000000 in
set_option maxRecDepth 20000 in
theorem t_X6_readSigns_12 {l : Launch} {Z : XZ} {L : Nat → Nat} (n : Nat) (ih_X6_readSigns_0 : P_X6_readSigns_0 l Z L n) (ih_X6_readSigns_12 : P_X6_readSigns_12 l Z L n) (ih_X6_readSigns_50 : P_X6_readSigns_50 l Z L n) : P_X6_readSigns_12 l Z L (n + 1) := by
  intro d S a1 a2 a3 x S1 H
  have H : b_X6_readSigns_12 n d (f_X6_readSigns n) S a1 a2 a3 = some (x, S1) := H
  unfold b_X6_readSigns_12 at H
  refine GA.iload_n dX6_readSigns_12 rfl ?_
  refine GA.iload_n dX6_readSigns_13 rfl ?_
  obtain ⟨hg1, H⟩ := gg_e H
  obtain ⟨hg2, H⟩ := gg_e H
  refine GV.icmp_gt (tgt := 127) hg1 hg2 dX6_readSigns_14 (by decide) (fun c3 => ?_) (fun c3 => ?_)
  · have H := it_t H c3
    refine GA.aload_n dX6_readSigns_127 rfl ?_
    refine GA.bipush dX6_readSigns_128 rfl ?_
    obtain ⟨hg4, H⟩ := gg_e H
    obtain ⟨x5, S_6, hc7, H⟩ := gc_e H
    refine GA.callV (m_X6_pass hc7) xs_X6_128 dX6_readSigns_130 gs_470 (by decide) rfl rfl (by omega) (by decide) rfl (Nat.le_of_ble_eq_true rfl) (by omega) (by omega) rfl (fun E S9 hx => hx.elim) (fun v S9 hq => ?_)
    obtain ⟨rfl, rfl⟩ := hq
    cases H
    exact GA.vret rfl dX6_readSigns_133 (by omega) (by omega) ⟨rfl, rfl⟩
  · have H := it_f H c3
    refine GA.aload_n dX6_readSigns_17 rfl ?_
    obtain ⟨hg8, H⟩ := gg_e H
    obtain ⟨x9, S_10, hc11, H⟩ := gc_e H
    refine GA.callV (m_X6_here hc11) xs_X6_63 dX6_readSigns_18 gs_470 (by decide) rfl rfl (by omega) (by decide) rfl (Nat.le_of_ble_eq_true rfl) (by omega) (by omega) rfl (fun E S9 hx => hx.elim) (fun v S9 hq => ?_)
    obtain ⟨rfl, rfl⟩ := hq
    refine GA.bipush dX6_readSigns_21 rfl ?_
    obtain ⟨hg12, H⟩ := gg_e H
    refine GV.icmp_eq (tgt := 127) hg12 (by decide) dX6_readSigns_23 (by decide) (fun c13 => ?_) (fun c13 => ?_)
    · have H := it_t H c13
      refine GA.aload_n dX6_readSigns_127 rfl ?_
      refine GA.bipush dX6_readSigns_128 rfl ?_
      obtain ⟨x14, S_15, hc16, H⟩ := gc_e H
      refine GA.callV (m_X6_pass hc16) xs_X6_128 dX6_readSigns_130 gs_470 (by decide) rfl rfl (by omega) (by decide) rfl (Nat.le_of_ble_eq_true rfl) (by omega) (by omega) rfl (fun E S9 hx => hx.elim) (fun v S9 hq => ?_)
      obtain ⟨rfl, rfl⟩ := hq
      cases H
      exact GA.vret rfl dX6_readSigns_133 (by omega) (by omega) ⟨rfl, rfl⟩
    · have H := it_f H c13
      refine GA.aload_n dX6_readSigns_26 rfl ?_
      obtain ⟨x17, S_18, hc19, H⟩ := gc_e H
      refine GA.callV (m_X6_goesOn hc19) xs_X6_120 dX6_readSigns_27 gs_470 (by decide) rfl rfl (by omega) (by decide) rfl (Nat.le_of_ble_eq_true rfl) (by omega) (by omega) rfl (fun E S9 hx => hx.elim) (fun v S9 hq => ?_)
      obtain ⟨rfl, rfl⟩ := hq
      obtain ⟨hg20, H⟩ := gg_e H
      refine GV.if_eq (tgt := 127) hg20 dX6_readSigns_30 (by decide) (fun c21 => ?_) (fun c21 => ?_)
      · have H := it_t H c21
        refine GA.aload_n dX6_readSigns_127 rfl ?_
        refine GA.bipush dX6_readSigns_128 rfl ?_
        obtain ⟨x22, S_23, hc24, H⟩ := gc_e H
        refine GA.callV (m_X6_pass hc24) xs_X6_128 dX6_readSigns_130 gs_470 (by decide) rfl rfl (by omega) (by decide) rfl (Nat.le_of_ble_eq_true rfl) (by omega) (by omega) rfl (fun E S9 hx => hx.elim) (fun v S9 hq => ?_)
        obtain ⟨rfl, rfl⟩ := hq
        cases H
        exact GA.vret rfl dX6_readSigns_133 (by omega) (by omega) ⟨rfl, rfl⟩
      · have H := it_f H c21
        refine GA.aload_n dX6_readSigns_33 rfl ?_
        obtain ⟨hg25, H⟩ := gg_e H
        obtain ⟨x26, S_27, hc28, H⟩ := gc_e H
        refine GA.callV (m_X9_length hc28) xs_X6_73 dX6_readSigns_34 (gsS hg25) (by omega) rfl rfl (by omega) (by decide) rfl (Nat.le_of_ble_eq_true rfl) (by omega) (by omega) rfl (fun E S9 hx => hx.elim) (fun v S9 hq => ?_)
        obtain ⟨rfl, rfl⟩ := hq
        refine GA.iload_n dX6_readSigns_37 rfl ?_
        obtain ⟨hg29, H⟩ := gg_e H
        refine GV.icmp_ge (tgt := 50) hg29 hg2 dX6_readSigns_38 (by decide) (fun c30 => ?_) (fun c30 => ?_)
        · have H := it_t H c30
          refine GA.locals [(0, .ref (L 470)), (1, .ref (L a1)), (2, .int (J a2)), (3, .int (J a3))] ⟨rfl, rfl, rfl, rfl, trivial⟩ ?_
          exact ih_X6_readSigns_50 _ _ (a1) (a2) (a3) _ _ H
        · have H := it_f H c30
          refine GA.aload_n dX6_readSigns_41 rfl ?_
          obtain ⟨x31, S_32, hc33, H⟩ := gc_e H
          refine GA.callV (m_X6_here hc33) xs_X6_63 dX6_readSigns_42 gs_470 (by decide) rfl rfl (by omega) (by decide) rfl (Nat.le_of_ble_eq_true rfl) (by omega) (by omega) rfl (fun E S9 hx => hx.elim) (fun v S9 hq => ?_)
          obtain ⟨rfl, rfl⟩ := hq
          refine GA.bipush dX6_readSigns_45 rfl ?_
          obtain ⟨hg34, H⟩ := gg_e H
          refine GV.icmp_ge (tgt := 62) hg34 (by decide) dX6_readSigns_47 (by decide) (fun c35 => ?_) (fun c35 => ?_)
          · have H := it_t H c35
            refine GA.aload_n dX6_readSigns_62 rfl ?_
            obtain ⟨x36, S_37, hc38, H⟩ := gc_e H
            refine GA.callV (m_X6_here hc38) xs_X6_63 dX6_readSigns_63 gs_470 (by decide) rfl rfl (by omega) (by decide) rfl (Nat.le_of_ble_eq_true rfl) (by omega) (by omega) rfl (fun E S9 hx => hx.elim) (fun v S9 hq => ?_)
            obtain ⟨rfl, rfl⟩ := hq
            refine GA.bipush dX6_readSigns_66 rfl ?_
            obtain ⟨hg39, H⟩ := gg_e H
            refine GV.icmp_ne (tgt := 103) hg39 (by decide) dX6_readSigns_68 (by decide) (fun c40 => ?_) (fun c40 => ?_)
            · have H := it_t H c40
              refine GA.aload_n dX6_readSigns_103 rfl ?_
              refine GA.aload_n dX6_readSigns_104 rfl ?_
              obtain ⟨x41, S_42, hc43, H⟩ := gc_e H
              refine GA.callV (m_X6_here hc43) xs_X6_63 dX6_readSigns_105 gs_470 (by decide) rfl rfl (by omega) (by decide) rfl (Nat.le_of_ble_eq_true rfl) (by omega) (by omega) rfl (fun E S9 hx => hx.elim) (fun v S9 hq => ?_)
              obtain ⟨rfl, rfl⟩ := hq
              obtain ⟨x44, S_45, hc46, H⟩ := gc_e H
              refine GA.callV (m_X9_add hc46) xs_X6_142 dX6_readSigns_108 (gsS hg25) (by omega) rfl rfl (by omega) (by decide) rfl (Nat.le_of_ble_eq_true rfl) (by omega) (by omega) rfl (fun E S9 hx => hx.elim) (fun v S9 hq => ?_)
              obtain ⟨rfl, rfl⟩ := hq
              refine GA.aload_n dX6_readSigns_111 rfl ?_
              refine GA.dup dX6_readSigns_112 rfl ?_
              obtain ⟨x47, hx48, H⟩ := gv_e H
              refine GV.getI hx48 xf_X6_43 dX6_readSigns_113 gs_470 (by decide) rfl ?_
              refine GA.iconst dX6_readSigns_116 ?_
              obtain ⟨x49, hx50, H⟩ := gv_e H
              refine GV.iadd hx50 dX6_readSigns_117 ?_
              obtain ⟨S_51, hx52, H⟩ := gv_e H
              refine GV.putI hx52 (xp_X6_43 _) dX6_readSigns_118 gs_470 (by decide) (Nat.le_of_ble_eq_true rfl) gs_470 ?_
              obtain ⟨x53, hx54, H⟩ := gv_e H
              refine GV.iinc hx54 dX6_readSigns_121 rfl (by decide) ?_
              refine GA.goto (tgt := 12) dX6_readSigns_124 (by decide) ?_
              refine GA.locals [(0, .ref (L 470)), (1, .ref (L a1)), (2, .int (J a2)), (3, .int (J x53))] ⟨rfl, rfl, rfl, rfl, trivial⟩ ?_
              exact ih_X6_readSigns_12 _ _ (a1) (a2) (x53) _ _ H
            · have H := it_f H c40
              refine GA.aload_n dX6_readSigns_71 rfl ?_
              refine GA.dup dX6_readSigns_72 rfl ?_
              obtain ⟨x55, hx56, H⟩ := gv_e H
              refine GV.getI hx56 xf_X6_43 dX6_readSigns_73 gs_470 (by decide) rfl ?_
              refine GA.iconst dX6_readSigns_76 ?_
              obtain ⟨x57, hx58, H⟩ := gv_e H
              refine GV.iadd hx58 dX6_readSigns_77 ?_
              obtain ⟨S_59, hx60, H⟩ := gv_e H
              refine GV.putI hx60 (xp_X6_43 _) dX6_readSigns_78 gs_470 (by decide) (Nat.le_of_ble_eq_true rfl) gs_470 ?_
              refine GA.aload_n dX6_readSigns_81 rfl ?_
              obtain ⟨x61, S_62, hc63, H⟩ := gc_e H
              refine GA.callV (m_X6_escaped hc63) xs_X6_139 dX6_readSigns_82 gs_470 (by decide) rfl rfl (by omega) (by decide) rfl (Nat.le_of_ble_eq_true rfl) (by omega) (by omega) rfl (fun E S9 hx => hx.elim) (fun v S9 hq => ?_)
              obtain ⟨rfl, rfl⟩ := hq
              refine GA.istore dX6_readSigns_85 (by decide) ?_
              refine GA.aload_n dX6_readSigns_87 rfl ?_
              obtain ⟨x64, S_65, hc66, H⟩ := gc_e H
              refine GA.callV (m_X6_goesOn hc66) xs_X6_120 dX6_readSigns_88 gs_470 (by decide) rfl rfl (by omega) (by decide) rfl (Nat.le_of_ble_eq_true rfl) (by omega) (by omega) rfl (fun E S9 hx => hx.elim) (fun v S9 hq => ?_)
              obtain ⟨rfl, rfl⟩ := hq
              obtain ⟨hg67, H⟩ := gg_e H
              refine GV.if_eq (tgt := 100) hg67 dX6_readSigns_91 (by decide) (fun c68 => ?_) (fun c68 => ?_)
              · have H := it_t H c68
                refine GA.goto (tgt := 121) dX6_readSigns_100 (by decide) ?_
                obtain ⟨x69, hx70, H⟩ := gv_e H
                refine GV.iinc hx70 dX6_readSigns_121 rfl (by decide) ?_
                refine GA.goto (tgt := 12) dX6_readSigns_124 (by decide) ?_
                refine GA.locals [(0, .ref (L 470)), (1, .ref (L a1)), (2, .int (J a2)), (3, .int (J x69))] ⟨rfl, rfl, rfl, rfl, trivial⟩ ?_
                exact ih_X6_readSigns_12 _ _ (a1) (a2) (x69) _ _ H
              · have H := it_f H c68
                refine GA.aload_n dX6_readSigns_94 rfl ?_
                refine GA.iload dX6_readSigns_95 rfl ?_
                obtain ⟨x71, S_72, hc73, H⟩ := gc_e H
                refine GA.callV (m_X9_add hc73) xs_X6_142 dX6_readSigns_97 (gsS hg25) (by omega) rfl rfl (by omega) (by decide) rfl (Nat.le_of_ble_eq_true rfl) (by omega) (by omega) rfl (fun E S9 hx => hx.elim) (fun v S9 hq => ?_)
                obtain ⟨rfl, rfl⟩ := hq
                refine GA.goto (tgt := 121) dX6_readSigns_100 (by decide) ?_
                obtain ⟨x74, hx75, H⟩ := gv_e H
                refine GV.iinc hx75 dX6_readSigns_121 rfl (by decide) ?_
                refine GA.goto (tgt := 12) dX6_readSigns_124 (by decide) ?_
                refine GA.locals [(0, .ref (L 470)), (1, .ref (L a1)), (2, .int (J a2)), (3, .int (J x74))] ⟨rfl, rfl, rfl, rfl, trivial⟩ ?_
                exact ih_X6_readSigns_12 _ _ (a1) (a2) (x74) _ _ H
          · have H := it_f H c35
            refine GA.locals [(0, .ref (L 470)), (1, .ref (L a1)), (2, .int (J a2)), (3, .int (J a3))] ⟨rfl, rfl, rfl, rfl, trivial⟩ ?_
            exact ih_X6_readSigns_50 _ _ (a1) (a2) (a3) _ _ H
set_option maxHeartbeats 4000000 in
set_option maxRecDepth 20000 in
theorem t_X6_readSigns_50 {l : Launch} {Z : XZ} {L : Nat → Nat} (n : Nat) (ih_X6_readSigns_0 : P_X6_readSigns_0 l Z L n) (ih_X6_readSigns_12 : P_X6_readSigns_12 l Z L n) (ih_X6_readSigns_50 : P_X6_readSigns_50 l Z L n) : P_X6_readSigns_50 l Z L (n + 1) := by
  intro d S a1 a2 a3 x S1 H
  have H : b_X6_readSigns_50 n d (f_X6_readSigns n) S a1 a2 a3 = some (x, S1) := H
  unfold b_X6_readSigns_50 at H
  refine GA.aload_n dX6_readSigns_50 rfl ?_
  refine GA.aload_n dX6_readSigns_51 rfl ?_
  obtain ⟨x1, hx2, H⟩ := gv_e H
  refine GV.getI hx2 xf_X6_43 dX6_readSigns_52 gs_470 (by decide) rfl ?_
  obtain ⟨hg3, H⟩ := gg_e H
  obtain ⟨x4, S_5, hc6, H⟩ := gc_e H
  refine GA.callV (m_X6_fail hc6) xs_X6_67 dX6_readSigns_55 gs_470 (by decide) rfl rfl (by omega) (by decide) rfl (Nat.le_of_ble_eq_true rfl) (by omega) (by omega) rfl (fun E S9 hx => hx.elim) (fun v S9 hq => ?_)
  obtain ⟨rfl, rfl⟩ := hq
  refine GA.pop dX6_readSigns_58 rfl ?_
  refine GA.goto (tgt := 121) dX6_readSigns_59 (by decide) ?_
  obtain ⟨x7, hx8, H⟩ := gv_e H
  refine GV.iinc hx8 dX6_readSigns_121 rfl (by decide) ?_
  refine GA.goto (tgt := 12) dX6_readSigns_124 (by decide) ?_
  refine GA.locals [(0, .ref (L 470)), (1, .ref (L a1)), (2, .int (J a2)), (3, .int (J x7))] ⟨rfl, rfl, rfl, rfl, trivial⟩ ?_
  exact ih_X6_readSigns_12 _ _ (a1) (a2) (x7) _ _ H
theorem g_X6_readSigns {l : Launch} {Z : XZ} {L : Nat → Nat} : ∀ n, P_X6_readSigns_0 l Z L n ∧ P_X6_readSigns_12 l Z L n ∧ P_X6_readSigns_50 l Z L n
  | 0 => ⟨fun _ _ _ _ _ _ H => no_e H, fun _ _ _ _ _ _ _ H => no_e H, fun _ _ _ _ _ _ _ H => no_e H⟩
  | n + 1 => have ⟨h0, h1, h2⟩ := g_X6_readSigns (l := l) (Z := Z) (L := L) n
    ⟨t_X6_readSigns_0 n h0 h1 h2, t_X6_readSigns_12 n h0 h1 h2, t_X6_readSigns_50 n h0 h1 h2⟩
theorem m_X6_readSigns {l : Launch} {Z : XZ} {L : Nat → Nat} {n d : Nat} {S : GS} {a1 : Nat} {a2 : Int} {x : Int} {S1 : GS} (H : f_X6_readSigns n d 0 S [((a1 : Nat) : Int), a2] = some (x, S1)) : GM l Z L yX6_readSigns cX6_readSigns 5 none [] d 0 0 [.ref (L 470), .ref (L a1), .int (J a2)] S (fun v S' => v = none ∧ S1 = S') (fun _ _ => False) := GM.of (by decide) (Nat.le_of_ble_eq_true rfl) ((g_X6_readSigns n).1 _ _ _ _ _ _ H)

def P_X6_text_0 (l : Launch) (Z : XZ) (L : Nat → Nat) (n : Nat) : Prop := ∀ (d : Nat) (S : GS) (x : Int) (S1 : GS), f_X6_text n d 0 S [] = some (x, S1) → GA l Z L yX6_text cX6_text 3 (some .int) [] d 0 0 (fun v S' => v = some (.int (J x)) ∧ S1 = S') (fun _ _ => False) 0 (gl [(0, .ref (L 470))]) [] S 0 0
def P_X6_text_18 (l : Launch) (Z : XZ) (L : Nat → Nat) (n : Nat) : Prop := ∀ (d : Nat) (S : GS) (a1 : Int) (a2 : Int) (x : Int) (S1 : GS), f_X6_text n d 18 S [a1, a2] = some (x, S1) → GA l Z L yX6_text cX6_text 3 (some .int) [] d 0 0 (fun v S' => v = some (.int (J x)) ∧ S1 = S') (fun _ _ => False) 18 (gl [(0, .ref (L 470)), (1, .int (J a1)), (2, .int (J a2))]) [] S 0 0
theorem i_X6_text {l : Launch} {Z : XZ} {L : Nat → Nat} {n : Nat} (ih : P_X6_text_0 l Z L n) {d : Nat} {S : GS} {x : Int} {S1 : GS} (H : f_X6_text n d 0 S [] = some (x, S1)) : GM l Z L yX6_text cX6_text 3 (some .int) [] d 0 0 [.ref (L 470)] S (fun v S' => v = some (.int (J x)) ∧ S1 = S') (fun _ _ => False) := GM.of (by decide) (Nat.le_of_ble_eq_true rfl) (ih _ _ _ _ H)
set_option maxHeartbeats 4000000 in
set_option maxRecDepth 20000 in
theorem t_X6_text_0 {l : Launch} {Z : XZ} {L : Nat → Nat} (n : Nat) (ih_X6_text_0 : P_X6_text_0 l Z L n) (ih_X6_text_18 : P_X6_text_18 l Z L n) : P_X6_text_0 l Z L (n + 1) := by
  intro d S  x S1 H
  have H : b_X6_text_0 n d (f_X6_text n) S  = some (x, S1) := H
  unfold b_X6_text_0 at H
  refine GA.aload_n dX6_text_0 rfl ?_
  refine GA.iconst dX6_text_1 ?_
  obtain ⟨hg1, H⟩ := gg_e H
  obtain ⟨x2, S_3, hc4, H⟩ := gc_e H
  refine GA.callV (m_X6_begin hc4) xs_X6_106 dX6_text_2 gs_470 (by decide) rfl rfl (by omega) (by decide) rfl (Nat.le_of_ble_eq_true rfl) (by omega) (by omega) rfl (fun E S9 hx => hx.elim) (fun v S9 hq => ?_)
  obtain ⟨rfl, rfl⟩ := hq
  refine GA.istore_n dX6_text_5 (by decide) ?_
  refine GA.aload_n dX6_text_6 rfl ?_
  refine GA.aload_n dX6_text_7 rfl ?_
  refine GA.get xf_X6_30 dX6_text_8 gs_470 (by decide) rfl ?_
  refine GA.bipush dX6_text_11 rfl ?_
  obtain ⟨x5, S_6, hc7, H⟩ := gc_e H
  refine GA.callV (m_X6_readSigns hc7) xs_X6_131 dX6_text_13 gs_470 (by decide) rfl rfl (by omega) (by decide) rfl (Nat.le_of_ble_eq_true rfl) (by omega) (by omega) rfl (fun E S9 hx => hx.elim) (fun v S9 hq => ?_)
  obtain ⟨rfl, rfl⟩ := hq
  refine GA.iconst dX6_text_16 ?_
  refine GA.istore_n dX6_text_17 (by decide) ?_
  refine GA.locals [(0, .ref (L 470)), (1, .int (J x2)), (2, .int (J 0))] ⟨rfl, rfl, rfl, trivial⟩ ?_
  exact ih_X6_text_18 _ _ (x2) (0) _ _ H
set_option maxHeartbeats 4000000 in
set_option maxRecDepth 20000 in
theorem t_X6_text_18 {l : Launch} {Z : XZ} {L : Nat → Nat} (n : Nat) (ih_X6_text_0 : P_X6_text_0 l Z L n) (ih_X6_text_18 : P_X6_text_18 l Z L n) : P_X6_text_18 l Z L (n + 1) := by
  intro d S a1 a2 x S1 H
  have H : b_X6_text_18 n d (f_X6_text n) S a1 a2 = some (x, S1) := H
  unfold b_X6_text_18 at H
  refine GA.iload_n dX6_text_18 rfl ?_
  refine GA.aload_n dX6_text_19 rfl ?_
  refine GA.get xf_X6_30 dX6_text_20 gs_470 (by decide) rfl ?_
  obtain ⟨hg1, H⟩ := gg_e H
  obtain ⟨x2, S_3, hc4, H⟩ := gc_e H
  refine GA.callV (m_X9_length hc4) xs_X6_73 dX6_text_23 (gsS (by decide)) (by decide) rfl rfl (by omega) (by decide) rfl (Nat.le_of_ble_eq_true rfl) (by omega) (by omega) rfl (fun E S9 hx => hx.elim) (fun v S9 hq => ?_)
  obtain ⟨rfl, rfl⟩ := hq
  obtain ⟨hg5, H⟩ := gg_e H
  obtain ⟨hg6, H⟩ := gg_e H
  refine GV.icmp_ge (tgt := 58) hg5 hg6 dX6_text_26 (by decide) (fun c7 => ?_) (fun c7 => ?_)
  · have H := it_t H c7
    refine GA.iload_n dX6_text_58 rfl ?_
    cases H
    exact GA.iret rfl dX6_text_59 (by omega) (by omega) ⟨rfl, rfl⟩
  · have H := it_f H c7
    refine GA.aload_n dX6_text_29 rfl ?_
    obtain ⟨x8, S_9, hc10, H⟩ := gc_e H
    refine GA.callV (m_X6_goesOn hc10) xs_X6_120 dX6_text_30 gs_470 (by decide) rfl rfl (by omega) (by decide) rfl (Nat.le_of_ble_eq_true rfl) (by omega) (by omega) rfl (fun E S9 hx => hx.elim) (fun v S9 hq => ?_)
    obtain ⟨rfl, rfl⟩ := hq
    obtain ⟨hg11, H⟩ := gg_e H
    refine GV.if_eq (tgt := 58) hg11 dX6_text_33 (by decide) (fun c12 => ?_) (fun c12 => ?_)
    · have H := it_t H c12
      refine GA.iload_n dX6_text_58 rfl ?_
      cases H
      exact GA.iret rfl dX6_text_59 (by omega) (by omega) ⟨rfl, rfl⟩
    · have H := it_f H c12
      refine GA.aload_n dX6_text_36 rfl ?_
      refine GA.get xf_X6_12 dX6_text_37 gs_470 (by decide) rfl ?_
      refine GA.iload_n dX6_text_40 rfl ?_
      refine GA.aload_n dX6_text_41 rfl ?_
      refine GA.get xf_X6_30 dX6_text_42 gs_470 (by decide) rfl ?_
      refine GA.iload_n dX6_text_45 rfl ?_
      obtain ⟨x13, S_14, hc15, H⟩ := gc_e H
      refine GA.callV (m_X9_at hc15) xs_X6_70 dX6_text_46 (gsS (by decide)) (by decide) rfl rfl (by omega) (by decide) rfl (Nat.le_of_ble_eq_true rfl) (by omega) (by omega) rfl (fun E S9 hx => hx.elim) (fun v S9 hq => ?_)
      obtain ⟨rfl, rfl⟩ := hq
      obtain ⟨x16, S_17, hc18, H⟩ := gc_e H
      refine GA.callV (m_X10_addSign hc18) xs_X6_135 dX6_text_49 (gsT (by decide)) (by decide) rfl rfl (by omega) (by decide) rfl (Nat.le_of_ble_eq_true rfl) (by omega) (by omega) rfl (fun E S9 hx => hx.elim) (fun v S9 hq => ?_)
      obtain ⟨rfl, rfl⟩ := hq
      obtain ⟨x19, hx20, H⟩ := gv_e H
      refine GV.iinc hx20 dX6_text_52 rfl (by decide) ?_
      refine GA.goto (tgt := 18) dX6_text_55 (by decide) ?_
      refine GA.locals [(0, .ref (L 470)), (1, .int (J a1)), (2, .int (J x19))] ⟨rfl, rfl, rfl, trivial⟩ ?_
      exact ih_X6_text_18 _ _ (a1) (x19) _ _ H
theorem g_X6_text {l : Launch} {Z : XZ} {L : Nat → Nat} : ∀ n, P_X6_text_0 l Z L n ∧ P_X6_text_18 l Z L n
  | 0 => ⟨fun _ _ _ _ H => no_e H, fun _ _ _ _ _ _ H => no_e H⟩
  | n + 1 => have ⟨h0, h1⟩ := g_X6_text (l := l) (Z := Z) (L := L) n
    ⟨t_X6_text_0 n h0 h1, t_X6_text_18 n h0 h1⟩
theorem m_X6_text {l : Launch} {Z : XZ} {L : Nat → Nat} {n d : Nat} {S : GS} {x : Int} {S1 : GS} (H : f_X6_text n d 0 S [] = some (x, S1)) : GM l Z L yX6_text cX6_text 3 (some .int) [] d 0 0 [.ref (L 470)] S (fun v S' => v = some (.int (J x)) ∧ S1 = S') (fun _ _ => False) := GM.of (by decide) (Nat.le_of_ble_eq_true rfl) ((g_X6_text n).1 _ _ _ _ H)

def P_X6_readFigure_0 (l : Launch) (Z : XZ) (L : Nat → Nat) (n : Nat) : Prop := ∀ (d : Nat) (S : GS) (x : Int) (S1 : GS), f_X6_readFigure n d 0 S [] = some (x, S1) → GA l Z L yX6_readFigure cX6_readFigure 1 none [] d 0 0 (fun v S' => v = none ∧ S1 = S') (fun _ _ => False) 0 (gl [(0, .ref (L 470))]) [] S 0 0
theorem i_X6_readFigure {l : Launch} {Z : XZ} {L : Nat → Nat} {n : Nat} (ih : P_X6_readFigure_0 l Z L n) {d : Nat} {S : GS} {x : Int} {S1 : GS} (H : f_X6_readFigure n d 0 S [] = some (x, S1)) : GM l Z L yX6_readFigure cX6_readFigure 1 none [] d 0 0 [.ref (L 470)] S (fun v S' => v = none ∧ S1 = S') (fun _ _ => False) := GM.of (by decide) (Nat.le_of_ble_eq_true rfl) (ih _ _ _ _ H)
set_option maxHeartbeats 4000000 in
set_option maxRecDepth 20000 in
theorem t_X6_readFigure_0 {l : Launch} {Z : XZ} {L : Nat → Nat} (n : Nat) (ih_X6_readFigure_0 : P_X6_readFigure_0 l Z L n) : P_X6_readFigure_0 l Z L (n + 1) := by
  intro d S  x S1 H
  have H : b_X6_readFigure_0 n d (f_X6_readFigure n) S  = some (x, S1) := H
  unfold b_X6_readFigure_0 at H
  refine GA.aload_n dX6_readFigure_0 rfl ?_
  refine GA.get xf_X6_33 dX6_readFigure_1 gs_470 (by decide) rfl ?_
  obtain ⟨hg1, H⟩ := gg_e H
  obtain ⟨x2, S_3, hc4, H⟩ := gc_e H
  refine GA.callV (m_X9_length hc4) xs_X6_73 dX6_readFigure_4 (gsS (by decide)) (by decide) rfl rfl (by omega) (by decide) rfl (Nat.le_of_ble_eq_true rfl) (by omega) (by omega) rfl (fun E S9 hx => hx.elim) (fun v S9 hq => ?_)
  obtain ⟨rfl, rfl⟩ := hq
  refine GA.bipush dX6_readFigure_7 rfl ?_
  obtain ⟨hg5, H⟩ := gg_e H
  refine GV.icmp_lt (tgt := 22) hg5 (by decide) dX6_readFigure_9 (by decide) (fun c6 => ?_) (fun c6 => ?_)
  · have H := it_t H c6
    refine GA.aload_n dX6_readFigure_22 rfl ?_
    refine GA.get xf_X6_33 dX6_readFigure_23 gs_470 (by decide) rfl ?_
    refine GA.aload_n dX6_readFigure_26 rfl ?_
    obtain ⟨x7, S_8, hc9, H⟩ := gc_e H
    refine GA.callV (m_X6_here hc9) xs_X6_63 dX6_readFigure_27 gs_470 (by decide) rfl rfl (by omega) (by decide) rfl (Nat.le_of_ble_eq_true rfl) (by omega) (by omega) rfl (fun E S9 hx => hx.elim) (fun v S9 hq => ?_)
    obtain ⟨rfl, rfl⟩ := hq
    obtain ⟨x10, S_11, hc12, H⟩ := gc_e H
    refine GA.callV (m_X9_add hc12) xs_X6_142 dX6_readFigure_30 (gsS (by decide)) (by decide) rfl rfl (by omega) (by decide) rfl (Nat.le_of_ble_eq_true rfl) (by omega) (by omega) rfl (fun E S9 hx => hx.elim) (fun v S9 hq => ?_)
    obtain ⟨rfl, rfl⟩ := hq
    refine GA.aload_n dX6_readFigure_33 rfl ?_
    refine GA.dup dX6_readFigure_34 rfl ?_
    obtain ⟨x13, hx14, H⟩ := gv_e H
    refine GV.getI hx14 xf_X6_43 dX6_readFigure_35 gs_470 (by decide) rfl ?_
    refine GA.iconst dX6_readFigure_38 ?_
    obtain ⟨x15, hx16, H⟩ := gv_e H
    refine GV.iadd hx16 dX6_readFigure_39 ?_
    obtain ⟨S_17, hx18, H⟩ := gv_e H
    refine GV.putI hx18 (xp_X6_43 _) dX6_readFigure_40 gs_470 (by decide) (Nat.le_of_ble_eq_true rfl) gs_470 ?_
    cases H
    exact GA.vret rfl dX6_readFigure_43 (by omega) (by omega) ⟨rfl, rfl⟩
  · have H := it_f H c6
    refine GA.aload_n dX6_readFigure_12 rfl ?_
    refine GA.aload_n dX6_readFigure_13 rfl ?_
    obtain ⟨x19, hx20, H⟩ := gv_e H
    refine GV.getI hx20 xf_X6_43 dX6_readFigure_14 gs_470 (by decide) rfl ?_
    obtain ⟨x21, S_22, hc23, H⟩ := gc_e H
    refine GA.callV (m_X6_fail hc23) xs_X6_67 dX6_readFigure_17 gs_470 (by decide) rfl rfl (by omega) (by decide) rfl (Nat.le_of_ble_eq_true rfl) (by omega) (by omega) rfl (fun E S9 hx => hx.elim) (fun v S9 hq => ?_)
    obtain ⟨rfl, rfl⟩ := hq
    refine GA.pop dX6_readFigure_20 rfl ?_
    cases H
    exact GA.vret rfl dX6_readFigure_21 (by omega) (by omega) ⟨rfl, rfl⟩
theorem g_X6_readFigure {l : Launch} {Z : XZ} {L : Nat → Nat} : ∀ n, P_X6_readFigure_0 l Z L n
  | 0 => fun _ _ _ _ H => no_e H
  | n + 1 => t_X6_readFigure_0 n (g_X6_readFigure n)
theorem m_X6_readFigure {l : Launch} {Z : XZ} {L : Nat → Nat} {n d : Nat} {S : GS} {x : Int} {S1 : GS} (H : f_X6_readFigure n d 0 S [] = some (x, S1)) : GM l Z L yX6_readFigure cX6_readFigure 1 none [] d 0 0 [.ref (L 470)] S (fun v S' => v = none ∧ S1 = S') (fun _ _ => False) := GM.of (by decide) (Nat.le_of_ble_eq_true rfl) ((g_X6_readFigure n) _ _ _ _ H)

def P_X6_readFigures_0 (l : Launch) (Z : XZ) (L : Nat → Nat) (n : Nat) : Prop := ∀ (d : Nat) (S : GS) (x : Int) (S1 : GS), f_X6_readFigures n d 0 S [] = some (x, S1) → GA l Z L yX6_readFigures cX6_readFigures 2 none [] d 0 0 (fun v S' => v = none ∧ S1 = S') (fun _ _ => False) 0 (gl [(0, .ref (L 470))]) [] S 0 0
def P_X6_readFigures_21 (l : Launch) (Z : XZ) (L : Nat → Nat) (n : Nat) : Prop := ∀ (d : Nat) (S : GS) (a1 : Int) (x : Int) (S1 : GS), f_X6_readFigures n d 21 S [a1] = some (x, S1) → GA l Z L yX6_readFigures cX6_readFigures 2 none [] d 0 0 (fun v S' => v = none ∧ S1 = S') (fun _ _ => False) 21 (gl [(0, .ref (L 470)), (1, .int (J a1))]) [] S 0 0
theorem i_X6_readFigures {l : Launch} {Z : XZ} {L : Nat → Nat} {n : Nat} (ih : P_X6_readFigures_0 l Z L n) {d : Nat} {S : GS} {x : Int} {S1 : GS} (H : f_X6_readFigures n d 0 S [] = some (x, S1)) : GM l Z L yX6_readFigures cX6_readFigures 2 none [] d 0 0 [.ref (L 470)] S (fun v S' => v = none ∧ S1 = S') (fun _ _ => False) := GM.of (by decide) (Nat.le_of_ble_eq_true rfl) (ih _ _ _ _ H)
set_option maxHeartbeats 4000000 in
set_option maxRecDepth 20000 in
theorem t_X6_readFigures_0 {l : Launch} {Z : XZ} {L : Nat → Nat} (n : Nat) (ih_X6_readFigures_0 : P_X6_readFigures_0 l Z L n) (ih_X6_readFigures_21 : P_X6_readFigures_21 l Z L n) : P_X6_readFigures_0 l Z L (n + 1) := by
  intro d S  x S1 H
  have H : b_X6_readFigures_0 n d (f_X6_readFigures n) S  = some (x, S1) := H
  unfold b_X6_readFigures_0 at H
  refine GA.aload_n dX6_readFigures_0 rfl ?_
  obtain ⟨hg1, H⟩ := gg_e H
  obtain ⟨x2, S_3, hc4, H⟩ := gc_e H
  refine GA.callV (m_X6_here hc4) xs_X6_63 dX6_readFigures_1 gs_470 (by decide) rfl rfl (by omega) (by decide) rfl (Nat.le_of_ble_eq_true rfl) (by omega) (by omega) rfl (fun E S9 hx => hx.elim) (fun v S9 hq => ?_)
  obtain ⟨rfl, rfl⟩ := hq
  obtain ⟨x5, S_6, hc7, H⟩ := gc_e H
  refine GA.callS (m_X6_isFigure hc7) xs_X6_90 dX6_readFigures_4 rfl (by omega) (by decide) rfl (Nat.le_of_ble_eq_true rfl) (by omega) (by omega) rfl (fun E S9 hx => hx.elim) (fun v S9 hq => ?_)
  obtain ⟨rfl, rfl⟩ := hq
  obtain ⟨hg8, H⟩ := gg_e H
  refine GV.if_ne (tgt := 19) hg8 dX6_readFigures_7 (by decide) (fun c9 => ?_) (fun c9 => ?_)
  · have H := it_t H c9
    refine GA.iconst dX6_readFigures_19 ?_
    refine GA.istore_n dX6_readFigures_20 (by decide) ?_
    refine GA.locals [(0, .ref (L 470)), (1, .int (J 0))] ⟨rfl, rfl, trivial⟩ ?_
    exact ih_X6_readFigures_21 _ _ (0) _ _ H
  · have H := it_f H c9
    refine GA.aload_n dX6_readFigures_10 rfl ?_
    refine GA.aload_n dX6_readFigures_11 rfl ?_
    obtain ⟨x10, hx11, H⟩ := gv_e H
    refine GV.getI hx11 xf_X6_43 dX6_readFigures_12 gs_470 (by decide) rfl ?_
    obtain ⟨x12, S_13, hc14, H⟩ := gc_e H
    refine GA.callV (m_X6_fail hc14) xs_X6_67 dX6_readFigures_15 gs_470 (by decide) rfl rfl (by omega) (by decide) rfl (Nat.le_of_ble_eq_true rfl) (by omega) (by omega) rfl (fun E S9 hx => hx.elim) (fun v S9 hq => ?_)
    obtain ⟨rfl, rfl⟩ := hq
    refine GA.pop dX6_readFigures_18 rfl ?_
    refine GA.iconst dX6_readFigures_19 ?_
    refine GA.istore_n dX6_readFigures_20 (by decide) ?_
    refine GA.locals [(0, .ref (L 470)), (1, .int (J 0))] ⟨rfl, rfl, trivial⟩ ?_
    exact ih_X6_readFigures_21 _ _ (0) _ _ H
set_option maxHeartbeats 4000000 in
set_option maxRecDepth 20000 in
theorem t_X6_readFigures_21 {l : Launch} {Z : XZ} {L : Nat → Nat} (n : Nat) (ih_X6_readFigures_0 : P_X6_readFigures_0 l Z L n) (ih_X6_readFigures_21 : P_X6_readFigures_21 l Z L n) : P_X6_readFigures_21 l Z L (n + 1) := by
  intro d S a1 x S1 H
  have H : b_X6_readFigures_21 n d (f_X6_readFigures n) S a1 = some (x, S1) := H
  unfold b_X6_readFigures_21 at H
  refine GA.iload_n dX6_readFigures_21 rfl ?_
  refine GA.bipush dX6_readFigures_22 rfl ?_
  obtain ⟨hg1, H⟩ := gg_e H
  refine GV.icmp_gt (tgt := 54) hg1 (by decide) dX6_readFigures_24 (by decide) (fun c2 => ?_) (fun c2 => ?_)
  · have H := it_t H c2
    cases H
    exact GA.vret rfl dX6_readFigures_54 (by omega) (by omega) ⟨rfl, rfl⟩
  · have H := it_f H c2
    refine GA.aload_n dX6_readFigures_27 rfl ?_
    obtain ⟨hg3, H⟩ := gg_e H
    obtain ⟨x4, S_5, hc6, H⟩ := gc_e H
    refine GA.callV (m_X6_here hc6) xs_X6_63 dX6_readFigures_28 gs_470 (by decide) rfl rfl (by omega) (by decide) rfl (Nat.le_of_ble_eq_true rfl) (by omega) (by omega) rfl (fun E S9 hx => hx.elim) (fun v S9 hq => ?_)
    obtain ⟨rfl, rfl⟩ := hq
    obtain ⟨x7, S_8, hc9, H⟩ := gc_e H
    refine GA.callS (m_X6_isFigure hc9) xs_X6_90 dX6_readFigures_31 rfl (by omega) (by decide) rfl (Nat.le_of_ble_eq_true rfl) (by omega) (by omega) rfl (fun E S9 hx => hx.elim) (fun v S9 hq => ?_)
    obtain ⟨rfl, rfl⟩ := hq
    obtain ⟨hg10, H⟩ := gg_e H
    refine GV.if_eq (tgt := 54) hg10 dX6_readFigures_34 (by decide) (fun c11 => ?_) (fun c11 => ?_)
    · have H := it_t H c11
      cases H
      exact GA.vret rfl dX6_readFigures_54 (by omega) (by omega) ⟨rfl, rfl⟩
    · have H := it_f H c11
      refine GA.aload_n dX6_readFigures_37 rfl ?_
      obtain ⟨x12, S_13, hc14, H⟩ := gc_e H
      refine GA.callV (m_X6_goesOn hc14) xs_X6_120 dX6_readFigures_38 gs_470 (by decide) rfl rfl (by omega) (by decide) rfl (Nat.le_of_ble_eq_true rfl) (by omega) (by omega) rfl (fun E S9 hx => hx.elim) (fun v S9 hq => ?_)
      obtain ⟨rfl, rfl⟩ := hq
      obtain ⟨hg15, H⟩ := gg_e H
      refine GV.if_eq (tgt := 54) hg15 dX6_readFigures_41 (by decide) (fun c16 => ?_) (fun c16 => ?_)
      · have H := it_t H c16
        cases H
        exact GA.vret rfl dX6_readFigures_54 (by omega) (by omega) ⟨rfl, rfl⟩
      · have H := it_f H c16
        refine GA.aload_n dX6_readFigures_44 rfl ?_
        obtain ⟨x17, S_18, hc19, H⟩ := gc_e H
        refine GA.callV (m_X6_readFigure hc19) xs_X6_147 dX6_readFigures_45 gs_470 (by decide) rfl rfl (by omega) (by decide) rfl (Nat.le_of_ble_eq_true rfl) (by omega) (by omega) rfl (fun E S9 hx => hx.elim) (fun v S9 hq => ?_)
        obtain ⟨rfl, rfl⟩ := hq
        obtain ⟨x20, hx21, H⟩ := gv_e H
        refine GV.iinc hx21 dX6_readFigures_48 rfl (by decide) ?_
        refine GA.goto (tgt := 21) dX6_readFigures_51 (by decide) ?_
        refine GA.locals [(0, .ref (L 470)), (1, .int (J x20))] ⟨rfl, rfl, trivial⟩ ?_
        exact ih_X6_readFigures_21 _ _ (x20) _ _ H
theorem g_X6_readFigures {l : Launch} {Z : XZ} {L : Nat → Nat} : ∀ n, P_X6_readFigures_0 l Z L n ∧ P_X6_readFigures_21 l Z L n
  | 0 => ⟨fun _ _ _ _ H => no_e H, fun _ _ _ _ _ H => no_e H⟩
  | n + 1 => have ⟨h0, h1⟩ := g_X6_readFigures (l := l) (Z := Z) (L := L) n
    ⟨t_X6_readFigures_0 n h0 h1, t_X6_readFigures_21 n h0 h1⟩
theorem m_X6_readFigures {l : Launch} {Z : XZ} {L : Nat → Nat} {n d : Nat} {S : GS} {x : Int} {S1 : GS} (H : f_X6_readFigures n d 0 S [] = some (x, S1)) : GM l Z L yX6_readFigures cX6_readFigures 2 none [] d 0 0 [.ref (L 470)] S (fun v S' => v = none ∧ S1 = S') (fun _ _ => False) := GM.of (by decide) (Nat.le_of_ble_eq_true rfl) ((g_X6_readFigures n).1 _ _ _ _ H)

def P_X6_exponent_0 (l : Launch) (Z : XZ) (L : Nat → Nat) (n : Nat) : Prop := ∀ (d : Nat) (S : GS) (x : Int) (S1 : GS), f_X6_exponent n d 0 S [] = some (x, S1) → GA l Z L yX6_exponent cX6_exponent 3 (some .int) [] d 0 0 (fun v S' => v = some (.int (J x)) ∧ S1 = S') (fun _ _ => False) 0 (gl [(0, .ref (L 470))]) [] S 0 0
def P_X6_exponent_24 (l : Launch) (Z : XZ) (L : Nat → Nat) (n : Nat) : Prop := ∀ (d : Nat) (S : GS) (s0 : Int) (x : Int) (S1 : GS), f_X6_exponent n d 24 S [s0] = some (x, S1) → GA l Z L yX6_exponent cX6_exponent 3 (some .int) [] d 0 0 (fun v S' => v = some (.int (J x)) ∧ S1 = S') (fun _ _ => False) 24 (gl [(0, .ref (L 470))]) [.int (J s0)] S 0 0
def P_X6_exponent_48 (l : Launch) (Z : XZ) (L : Nat → Nat) (n : Nat) : Prop := ∀ (d : Nat) (S : GS) (a1 : Int) (x : Int) (S1 : GS), f_X6_exponent n d 48 S [a1] = some (x, S1) → GA l Z L yX6_exponent cX6_exponent 3 (some .int) [] d 0 0 (fun v S' => v = some (.int (J x)) ∧ S1 = S') (fun _ _ => False) 48 (gl [(0, .ref (L 470)), (1, .int (J a1))]) [] S 0 0
theorem i_X6_exponent {l : Launch} {Z : XZ} {L : Nat → Nat} {n : Nat} (ih : P_X6_exponent_0 l Z L n) {d : Nat} {S : GS} {x : Int} {S1 : GS} (H : f_X6_exponent n d 0 S [] = some (x, S1)) : GM l Z L yX6_exponent cX6_exponent 3 (some .int) [] d 0 0 [.ref (L 470)] S (fun v S' => v = some (.int (J x)) ∧ S1 = S') (fun _ _ => False) := GM.of (by decide) (Nat.le_of_ble_eq_true rfl) (ih _ _ _ _ H)
set_option maxHeartbeats 4000000 in
set_option maxRecDepth 20000 in
theorem t_X6_exponent_0 {l : Launch} {Z : XZ} {L : Nat → Nat} (n : Nat) (ih_X6_exponent_0 : P_X6_exponent_0 l Z L n) (ih_X6_exponent_24 : P_X6_exponent_24 l Z L n) (ih_X6_exponent_48 : P_X6_exponent_48 l Z L n) : P_X6_exponent_0 l Z L (n + 1) := by
  intro d S  x S1 H
  have H : b_X6_exponent_0 n d (f_X6_exponent n) S  = some (x, S1) := H
  unfold b_X6_exponent_0 at H
  refine GA.aload_n dX6_exponent_0 rfl ?_
  refine GA.dup dX6_exponent_1 rfl ?_
  obtain ⟨x1, hx2, H⟩ := gv_e H
  refine GV.getI hx2 xf_X6_43 dX6_exponent_2 gs_470 (by decide) rfl ?_
  refine GA.iconst dX6_exponent_5 ?_
  obtain ⟨x3, hx4, H⟩ := gv_e H
  refine GV.iadd hx4 dX6_exponent_6 ?_
  obtain ⟨S_5, hx6, H⟩ := gv_e H
  refine GV.putI hx6 (xp_X6_43 _) dX6_exponent_7 gs_470 (by decide) (Nat.le_of_ble_eq_true rfl) gs_470 ?_
  refine GA.aload_n dX6_exponent_10 rfl ?_
  obtain ⟨hg7, H⟩ := gg_e H
  obtain ⟨x8, S_9, hc10, H⟩ := gc_e H
  refine GA.callV (m_X6_here hc10) xs_X6_63 dX6_exponent_11 gs_470 (by decide) rfl rfl (by omega) (by decide) rfl (Nat.le_of_ble_eq_true rfl) (by omega) (by omega) rfl (fun E S9 hx => hx.elim) (fun v S9 hq => ?_)
  obtain ⟨rfl, rfl⟩ := hq
  refine GA.bipush dX6_exponent_14 rfl ?_
  obtain ⟨hg11, H⟩ := gg_e H
  refine GV.icmp_ne (tgt := 23) hg11 (by decide) dX6_exponent_16 (by decide) (fun c12 => ?_) (fun c12 => ?_)
  · have H := it_t H c12
    refine GA.iconst dX6_exponent_23 ?_
    refine GA.locals [(0, .ref (L 470))] ⟨rfl, trivial⟩ ?_
    exact ih_X6_exponent_24 _ _ (0) _ _ H
  · have H := it_f H c12
    refine GA.iconst dX6_exponent_19 ?_
    refine GA.goto (tgt := 24) dX6_exponent_20 (by decide) ?_
    refine GA.locals [(0, .ref (L 470))] ⟨rfl, trivial⟩ ?_
    exact ih_X6_exponent_24 _ _ (1) _ _ H
set_option maxHeartbeats 4000000 in
set_option maxRecDepth 20000 in
theorem t_X6_exponent_24 {l : Launch} {Z : XZ} {L : Nat → Nat} (n : Nat) (ih_X6_exponent_0 : P_X6_exponent_0 l Z L n) (ih_X6_exponent_24 : P_X6_exponent_24 l Z L n) (ih_X6_exponent_48 : P_X6_exponent_48 l Z L n) : P_X6_exponent_24 l Z L (n + 1) := by
  intro d S s0 x S1 H
  have H : b_X6_exponent_24 n d (f_X6_exponent n) S s0 = some (x, S1) := H
  unfold b_X6_exponent_24 at H
  refine GA.istore_n dX6_exponent_24 (by decide) ?_
  refine GA.iload_n dX6_exponent_25 rfl ?_
  obtain ⟨hg1, H⟩ := gg_e H
  refine GV.if_ne (tgt := 38) hg1 dX6_exponent_26 (by decide) (fun c2 => ?_) (fun c2 => ?_)
  · have H := it_t H c2
    refine GA.aload_n dX6_exponent_38 rfl ?_
    refine GA.dup dX6_exponent_39 rfl ?_
    obtain ⟨x3, hx4, H⟩ := gv_e H
    refine GV.getI hx4 xf_X6_43 dX6_exponent_40 gs_470 (by decide) rfl ?_
    refine GA.iconst dX6_exponent_43 ?_
    obtain ⟨x5, hx6, H⟩ := gv_e H
    refine GV.iadd hx6 dX6_exponent_44 ?_
    obtain ⟨S_7, hx8, H⟩ := gv_e H
    refine GV.putI hx8 (xp_X6_43 _) dX6_exponent_45 gs_470 (by decide) (Nat.le_of_ble_eq_true rfl) gs_470 ?_
    refine GA.locals [(0, .ref (L 470)), (1, .int (J s0))] ⟨rfl, rfl, trivial⟩ ?_
    exact ih_X6_exponent_48 _ _ (s0) _ _ H
  · have H := it_f H c2
    refine GA.aload_n dX6_exponent_29 rfl ?_
    obtain ⟨hg9, H⟩ := gg_e H
    obtain ⟨x10, S_11, hc12, H⟩ := gc_e H
    refine GA.callV (m_X6_here hc12) xs_X6_63 dX6_exponent_30 gs_470 (by decide) rfl rfl (by omega) (by decide) rfl (Nat.le_of_ble_eq_true rfl) (by omega) (by omega) rfl (fun E S9 hx => hx.elim) (fun v S9 hq => ?_)
    obtain ⟨rfl, rfl⟩ := hq
    refine GA.bipush dX6_exponent_33 rfl ?_
    obtain ⟨hg13, H⟩ := gg_e H
    refine GV.icmp_ne (tgt := 48) hg13 (by decide) dX6_exponent_35 (by decide) (fun c14 => ?_) (fun c14 => ?_)
    · have H := it_t H c14
      refine GA.locals [(0, .ref (L 470)), (1, .int (J s0))] ⟨rfl, rfl, trivial⟩ ?_
      exact ih_X6_exponent_48 _ _ (s0) _ _ H
    · have H := it_f H c14
      refine GA.aload_n dX6_exponent_38 rfl ?_
      refine GA.dup dX6_exponent_39 rfl ?_
      obtain ⟨x15, hx16, H⟩ := gv_e H
      refine GV.getI hx16 xf_X6_43 dX6_exponent_40 gs_470 (by decide) rfl ?_
      refine GA.iconst dX6_exponent_43 ?_
      obtain ⟨x17, hx18, H⟩ := gv_e H
      refine GV.iadd hx18 dX6_exponent_44 ?_
      obtain ⟨S_19, hx20, H⟩ := gv_e H
      refine GV.putI hx20 (xp_X6_43 _) dX6_exponent_45 gs_470 (by decide) (Nat.le_of_ble_eq_true rfl) gs_470 ?_
      refine GA.locals [(0, .ref (L 470)), (1, .int (J s0))] ⟨rfl, rfl, trivial⟩ ?_
      exact ih_X6_exponent_48 _ _ (s0) _ _ H
set_option maxHeartbeats 4000000 in
set_option maxRecDepth 20000 in
theorem t_X6_exponent_48 {l : Launch} {Z : XZ} {L : Nat → Nat} (n : Nat) (ih_X6_exponent_0 : P_X6_exponent_0 l Z L n) (ih_X6_exponent_24 : P_X6_exponent_24 l Z L n) (ih_X6_exponent_48 : P_X6_exponent_48 l Z L n) : P_X6_exponent_48 l Z L (n + 1) := by
  intro d S a1 x S1 H
  have H : b_X6_exponent_48 n d (f_X6_exponent n) S a1 = some (x, S1) := H
  unfold b_X6_exponent_48 at H
  refine GA.aload_n dX6_exponent_48 rfl ?_
  obtain ⟨hg1, H⟩ := gg_e H
  obtain ⟨x2, S_3, hc4, H⟩ := gc_e H
  refine GA.callV (m_X6_here hc4) xs_X6_63 dX6_exponent_49 gs_470 (by decide) rfl rfl (by omega) (by decide) rfl (Nat.le_of_ble_eq_true rfl) (by omega) (by omega) rfl (fun E S9 hx => hx.elim) (fun v S9 hq => ?_)
  obtain ⟨rfl, rfl⟩ := hq
  obtain ⟨x5, S_6, hc7, H⟩ := gc_e H
  refine GA.callS (m_X6_isFigure hc7) xs_X6_90 dX6_exponent_52 rfl (by omega) (by decide) rfl (Nat.le_of_ble_eq_true rfl) (by omega) (by omega) rfl (fun E S9 hx => hx.elim) (fun v S9 hq => ?_)
  obtain ⟨rfl, rfl⟩ := hq
  obtain ⟨hg8, H⟩ := gg_e H
  refine GV.if_ne (tgt := 69) hg8 dX6_exponent_55 (by decide) (fun c9 => ?_) (fun c9 => ?_)
  · have H := it_t H c9
    refine GA.aload_n dX6_exponent_69 rfl ?_
    obtain ⟨x10, S_11, hc12, H⟩ := gc_e H
    refine GA.callV (m_X6_here hc12) xs_X6_63 dX6_exponent_70 gs_470 (by decide) rfl rfl (by omega) (by decide) rfl (Nat.le_of_ble_eq_true rfl) (by omega) (by omega) rfl (fun E S9 hx => hx.elim) (fun v S9 hq => ?_)
    obtain ⟨rfl, rfl⟩ := hq
    refine GA.bipush dX6_exponent_73 rfl ?_
    obtain ⟨x13, hx14, H⟩ := gv_e H
    refine GV.isub hx14 dX6_exponent_75 ?_
    refine GA.istore_n dX6_exponent_76 (by decide) ?_
    refine GA.aload_n dX6_exponent_77 rfl ?_
    refine GA.dup dX6_exponent_78 rfl ?_
    obtain ⟨x15, hx16, H⟩ := gv_e H
    refine GV.getI hx16 xf_X6_43 dX6_exponent_79 gs_470 (by decide) rfl ?_
    refine GA.iconst dX6_exponent_82 ?_
    obtain ⟨x17, hx18, H⟩ := gv_e H
    refine GV.iadd hx18 dX6_exponent_83 ?_
    obtain ⟨S_19, hx20, H⟩ := gv_e H
    refine GV.putI hx20 (xp_X6_43 _) dX6_exponent_84 gs_470 (by decide) (Nat.le_of_ble_eq_true rfl) gs_470 ?_
    refine GA.aload_n dX6_exponent_87 rfl ?_
    obtain ⟨x21, S_22, hc23, H⟩ := gc_e H
    refine GA.callV (m_X6_here hc23) xs_X6_63 dX6_exponent_88 gs_470 (by decide) rfl rfl (by omega) (by decide) rfl (Nat.le_of_ble_eq_true rfl) (by omega) (by omega) rfl (fun E S9 hx => hx.elim) (fun v S9 hq => ?_)
    obtain ⟨rfl, rfl⟩ := hq
    obtain ⟨x24, S_25, hc26, H⟩ := gc_e H
    refine GA.callS (m_X6_isFigure hc26) xs_X6_90 dX6_exponent_91 rfl (by omega) (by decide) rfl (Nat.le_of_ble_eq_true rfl) (by omega) (by omega) rfl (fun E S9 hx => hx.elim) (fun v S9 hq => ?_)
    obtain ⟨rfl, rfl⟩ := hq
    obtain ⟨hg27, H⟩ := gg_e H
    refine GV.if_eq (tgt := 120) hg27 dX6_exponent_94 (by decide) (fun c28 => ?_) (fun c28 => ?_)
    · have H := it_t H c28
      refine GA.iload_n dX6_exponent_120 rfl ?_
      obtain ⟨hg29, H⟩ := gg_e H
      refine GV.if_eq (tgt := 129) hg29 dX6_exponent_121 (by decide) (fun c30 => ?_) (fun c30 => ?_)
      · have H := it_t H c30
        refine GA.iload_n dX6_exponent_129 rfl ?_
        cases H
        exact GA.iret rfl dX6_exponent_130 (by omega) (by omega) ⟨rfl, rfl⟩
      · have H := it_f H c30
        refine GA.iload_n dX6_exponent_124 rfl ?_
        obtain ⟨x31, hx32, H⟩ := gv_e H
        refine GV.ineg hx32 dX6_exponent_125 ?_
        refine GA.goto (tgt := 130) dX6_exponent_126 (by decide) ?_
        cases H
        exact GA.iret rfl dX6_exponent_130 (by omega) (by omega) ⟨rfl, rfl⟩
    · have H := it_f H c28
      refine GA.iload_n dX6_exponent_97 rfl ?_
      refine GA.bipush dX6_exponent_98 rfl ?_
      obtain ⟨x33, hx34, H⟩ := gv_e H
      refine GV.imul hx34 dX6_exponent_100 ?_
      refine GA.aload_n dX6_exponent_101 rfl ?_
      obtain ⟨x35, S_36, hc37, H⟩ := gc_e H
      refine GA.callV (m_X6_here hc37) xs_X6_63 dX6_exponent_102 gs_470 (by decide) rfl rfl (by omega) (by decide) rfl (Nat.le_of_ble_eq_true rfl) (by omega) (by omega) rfl (fun E S9 hx => hx.elim) (fun v S9 hq => ?_)
      obtain ⟨rfl, rfl⟩ := hq
      obtain ⟨x38, hx39, H⟩ := gv_e H
      refine GV.iadd hx39 dX6_exponent_105 ?_
      refine GA.bipush dX6_exponent_106 rfl ?_
      obtain ⟨x40, hx41, H⟩ := gv_e H
      refine GV.isub hx41 dX6_exponent_108 ?_
      refine GA.istore_n dX6_exponent_109 (by decide) ?_
      refine GA.aload_n dX6_exponent_110 rfl ?_
      refine GA.dup dX6_exponent_111 rfl ?_
      obtain ⟨x42, hx43, H⟩ := gv_e H
      refine GV.getI hx43 xf_X6_43 dX6_exponent_112 gs_470 (by decide) rfl ?_
      refine GA.iconst dX6_exponent_115 ?_
      obtain ⟨x44, hx45, H⟩ := gv_e H
      refine GV.iadd hx45 dX6_exponent_116 ?_
      obtain ⟨S_46, hx47, H⟩ := gv_e H
      refine GV.putI hx47 (xp_X6_43 _) dX6_exponent_117 gs_470 (by decide) (Nat.le_of_ble_eq_true rfl) gs_470 ?_
      refine GA.iload_n dX6_exponent_120 rfl ?_
      obtain ⟨hg48, H⟩ := gg_e H
      refine GV.if_eq (tgt := 129) hg48 dX6_exponent_121 (by decide) (fun c49 => ?_) (fun c49 => ?_)
      · have H := it_t H c49
        refine GA.iload_n dX6_exponent_129 rfl ?_
        cases H
        exact GA.iret rfl dX6_exponent_130 (by omega) (by omega) ⟨rfl, rfl⟩
      · have H := it_f H c49
        refine GA.iload_n dX6_exponent_124 rfl ?_
        obtain ⟨x50, hx51, H⟩ := gv_e H
        refine GV.ineg hx51 dX6_exponent_125 ?_
        refine GA.goto (tgt := 130) dX6_exponent_126 (by decide) ?_
        cases H
        exact GA.iret rfl dX6_exponent_130 (by omega) (by omega) ⟨rfl, rfl⟩
  · have H := it_f H c9
    refine GA.aload_n dX6_exponent_58 rfl ?_
    refine GA.aload_n dX6_exponent_59 rfl ?_
    obtain ⟨x52, hx53, H⟩ := gv_e H
    refine GV.getI hx53 xf_X6_43 dX6_exponent_60 gs_470 (by decide) rfl ?_
    obtain ⟨x54, S_55, hc56, H⟩ := gc_e H
    refine GA.callV (m_X6_fail hc56) xs_X6_67 dX6_exponent_63 gs_470 (by decide) rfl rfl (by omega) (by decide) rfl (Nat.le_of_ble_eq_true rfl) (by omega) (by omega) rfl (fun E S9 hx => hx.elim) (fun v S9 hq => ?_)
    obtain ⟨rfl, rfl⟩ := hq
    refine GA.pop dX6_exponent_66 rfl ?_
    refine GA.iconst dX6_exponent_67 ?_
    cases H
    exact GA.iret rfl dX6_exponent_68 (by omega) (by omega) ⟨rfl, rfl⟩
theorem g_X6_exponent {l : Launch} {Z : XZ} {L : Nat → Nat} : ∀ n, P_X6_exponent_0 l Z L n ∧ P_X6_exponent_24 l Z L n ∧ P_X6_exponent_48 l Z L n
  | 0 => ⟨fun _ _ _ _ H => no_e H, fun _ _ _ _ _ H => no_e H, fun _ _ _ _ _ H => no_e H⟩
  | n + 1 => have ⟨h0, h1, h2⟩ := g_X6_exponent (l := l) (Z := Z) (L := L) n
    ⟨t_X6_exponent_0 n h0 h1 h2, t_X6_exponent_24 n h0 h1 h2, t_X6_exponent_48 n h0 h1 h2⟩
theorem m_X6_exponent {l : Launch} {Z : XZ} {L : Nat → Nat} {n d : Nat} {S : GS} {x : Int} {S1 : GS} (H : f_X6_exponent n d 0 S [] = some (x, S1)) : GM l Z L yX6_exponent cX6_exponent 3 (some .int) [] d 0 0 [.ref (L 470)] S (fun v S' => v = some (.int (J x)) ∧ S1 = S') (fun _ _ => False) := GM.of (by decide) (Nat.le_of_ble_eq_true rfl) ((g_X6_exponent n).1 _ _ _ _ H)

def P_X6_number_0 (l : Launch) (Z : XZ) (L : Nat → Nat) (n : Nat) : Prop := ∀ (d : Nat) (S : GS) (x : Int) (S1 : GS), f_X6_number n d 0 S [] = some (x, S1) → GA l Z L yX6_number cX6_number 6 (some .int) [] d 0 0 (fun v S' => v = some (.int (J x)) ∧ S1 = S') (fun _ _ => False) 0 (gl [(0, .ref (L 470))]) [] S 0 0
def P_X6_number_26 (l : Launch) (Z : XZ) (L : Nat → Nat) (n : Nat) : Prop := ∀ (d : Nat) (S : GS) (a1 : Int) (s0 : Int) (x : Int) (S1 : GS), f_X6_number n d 26 S [a1, s0] = some (x, S1) → GA l Z L yX6_number cX6_number 6 (some .int) [] d 0 0 (fun v S' => v = some (.int (J x)) ∧ S1 = S') (fun _ _ => False) 26 (gl [(0, .ref (L 470)), (1, .int (J a1))]) [.int (J s0)] S 0 0
def P_X6_number_41 (l : Launch) (Z : XZ) (L : Nat → Nat) (n : Nat) : Prop := ∀ (d : Nat) (S : GS) (a1 : Int) (a2 : Int) (x : Int) (S1 : GS), f_X6_number n d 41 S [a1, a2] = some (x, S1) → GA l Z L yX6_number cX6_number 6 (some .int) [] d 0 0 (fun v S' => v = some (.int (J x)) ∧ S1 = S') (fun _ _ => False) 41 (gl [(0, .ref (L 470)), (1, .int (J a1)), (2, .int (J a2))]) [] S 0 0
def P_X6_number_61 (l : Launch) (Z : XZ) (L : Nat → Nat) (n : Nat) : Prop := ∀ (d : Nat) (S : GS) (a1 : Int) (a2 : Int) (x : Int) (S1 : GS), f_X6_number n d 61 S [a1, a2] = some (x, S1) → GA l Z L yX6_number cX6_number 6 (some .int) [] d 0 0 (fun v S' => v = some (.int (J x)) ∧ S1 = S') (fun _ _ => False) 61 (gl [(0, .ref (L 470)), (1, .int (J a1)), (2, .int (J a2))]) [] S 0 0
def P_X6_number_99 (l : Launch) (Z : XZ) (L : Nat → Nat) (n : Nat) : Prop := ∀ (d : Nat) (S : GS) (a1 : Int) (a2 : Int) (a3 : Int) (x : Int) (S1 : GS), f_X6_number n d 99 S [a1, a2, a3] = some (x, S1) → GA l Z L yX6_number cX6_number 6 (some .int) [] d 0 0 (fun v S' => v = some (.int (J x)) ∧ S1 = S') (fun _ _ => False) 99 (gl [(0, .ref (L 470)), (1, .int (J a1)), (2, .int (J a2)), (3, .int (J a3))]) [] S 0 0
def P_X6_number_128 (l : Launch) (Z : XZ) (L : Nat → Nat) (n : Nat) : Prop := ∀ (d : Nat) (S : GS) (a1 : Int) (a2 : Int) (a4 : Int) (x : Int) (S1 : GS), f_X6_number n d 128 S [a1, a2, a4] = some (x, S1) → GA l Z L yX6_number cX6_number 6 (some .int) [] d 0 0 (fun v S' => v = some (.int (J x)) ∧ S1 = S') (fun _ _ => False) 128 (gl [(0, .ref (L 470)), (1, .int (J a1)), (2, .int (J a2)), (4, .int (J a4))]) [] S 0 0
def P_X6_number_144 (l : Launch) (Z : XZ) (L : Nat → Nat) (n : Nat) : Prop := ∀ (d : Nat) (S : GS) (a1 : Int) (a2 : Int) (a4 : Int) (x : Int) (S1 : GS), f_X6_number n d 144 S [a1, a2, a4] = some (x, S1) → GA l Z L yX6_number cX6_number 6 (some .int) [] d 0 0 (fun v S' => v = some (.int (J x)) ∧ S1 = S') (fun _ _ => False) 144 (gl [(0, .ref (L 470)), (1, .int (J a1)), (2, .int (J a2)), (4, .int (J a4))]) [] S 0 0
theorem i_X6_number {l : Launch} {Z : XZ} {L : Nat → Nat} {n : Nat} (ih : P_X6_number_0 l Z L n) {d : Nat} {S : GS} {x : Int} {S1 : GS} (H : f_X6_number n d 0 S [] = some (x, S1)) : GM l Z L yX6_number cX6_number 6 (some .int) [] d 0 0 [.ref (L 470)] S (fun v S' => v = some (.int (J x)) ∧ S1 = S') (fun _ _ => False) := GM.of (by decide) (Nat.le_of_ble_eq_true rfl) (ih _ _ _ _ H)
set_option maxHeartbeats 4000000 in
set_option maxRecDepth 20000 in
theorem t_X6_number_0 {l : Launch} {Z : XZ} {L : Nat → Nat} (n : Nat) (ih_X6_number_0 : P_X6_number_0 l Z L n) (ih_X6_number_26 : P_X6_number_26 l Z L n) (ih_X6_number_41 : P_X6_number_41 l Z L n) (ih_X6_number_61 : P_X6_number_61 l Z L n) (ih_X6_number_99 : P_X6_number_99 l Z L n) (ih_X6_number_128 : P_X6_number_128 l Z L n) (ih_X6_number_144 : P_X6_number_144 l Z L n) : P_X6_number_0 l Z L (n + 1) := by
  intro d S  x S1 H
  have H : b_X6_number_0 n d (f_X6_number n) S  = some (x, S1) := H
  unfold b_X6_number_0 at H
  refine GA.aload_n dX6_number_0 rfl ?_
  obtain ⟨x1, hx2, H⟩ := gv_e H
  refine GV.getI hx2 xf_X6_43 dX6_number_1 gs_470 (by decide) rfl ?_
  refine GA.istore_n dX6_number_4 (by decide) ?_
  refine GA.aload_n dX6_number_5 rfl ?_
  refine GA.get xf_X6_33 dX6_number_6 gs_470 (by decide) rfl ?_
  obtain ⟨hg3, H⟩ := gg_e H
  obtain ⟨x4, S_5, hc6, H⟩ := gc_e H
  refine GA.callV (m_X9_clear hc6) xs_X6_55 dX6_number_9 (gsS (by decide)) (by decide) rfl rfl (by omega) (by decide) rfl (Nat.le_of_ble_eq_true rfl) (by omega) (by omega) rfl (fun E S9 hx => hx.elim) (fun v S9 hq => ?_)
  obtain ⟨rfl, rfl⟩ := hq
  refine GA.aload_n dX6_number_12 rfl ?_
  obtain ⟨x7, S_8, hc9, H⟩ := gc_e H
  refine GA.callV (m_X6_here hc9) xs_X6_63 dX6_number_13 gs_470 (by decide) rfl rfl (by omega) (by decide) rfl (Nat.le_of_ble_eq_true rfl) (by omega) (by omega) rfl (fun E S9 hx => hx.elim) (fun v S9 hq => ?_)
  obtain ⟨rfl, rfl⟩ := hq
  refine GA.bipush dX6_number_16 rfl ?_
  obtain ⟨hg10, H⟩ := gg_e H
  refine GV.icmp_ne (tgt := 25) hg10 (by decide) dX6_number_18 (by decide) (fun c11 => ?_) (fun c11 => ?_)
  · have H := it_t H c11
    refine GA.iconst dX6_number_25 ?_
    refine GA.locals [(0, .ref (L 470)), (1, .int (J x1))] ⟨rfl, rfl, trivial⟩ ?_
    exact ih_X6_number_26 _ _ (x1) (0) _ _ H
  · have H := it_f H c11
    refine GA.iconst dX6_number_21 ?_
    refine GA.goto (tgt := 26) dX6_number_22 (by decide) ?_
    refine GA.locals [(0, .ref (L 470)), (1, .int (J x1))] ⟨rfl, rfl, trivial⟩ ?_
    exact ih_X6_number_26 _ _ (x1) (1) _ _ H
set_option maxHeartbeats 4000000 in
set_option maxRecDepth 20000 in
theorem t_X6_number_26 {l : Launch} {Z : XZ} {L : Nat → Nat} (n : Nat) (ih_X6_number_0 : P_X6_number_0 l Z L n) (ih_X6_number_26 : P_X6_number_26 l Z L n) (ih_X6_number_41 : P_X6_number_41 l Z L n) (ih_X6_number_61 : P_X6_number_61 l Z L n) (ih_X6_number_99 : P_X6_number_99 l Z L n) (ih_X6_number_128 : P_X6_number_128 l Z L n) (ih_X6_number_144 : P_X6_number_144 l Z L n) : P_X6_number_26 l Z L (n + 1) := by
  intro d S a1 s0 x S1 H
  have H : b_X6_number_26 n d (f_X6_number n) S a1 s0 = some (x, S1) := H
  unfold b_X6_number_26 at H
  refine GA.istore_n dX6_number_26 (by decide) ?_
  refine GA.iload_n dX6_number_27 rfl ?_
  obtain ⟨hg1, H⟩ := gg_e H
  refine GV.if_eq (tgt := 41) hg1 dX6_number_28 (by decide) (fun c2 => ?_) (fun c2 => ?_)
  · have H := it_t H c2
    refine GA.locals [(0, .ref (L 470)), (1, .int (J a1)), (2, .int (J s0))] ⟨rfl, rfl, rfl, trivial⟩ ?_
    exact ih_X6_number_41 _ _ (a1) (s0) _ _ H
  · have H := it_f H c2
    refine GA.aload_n dX6_number_31 rfl ?_
    refine GA.dup dX6_number_32 rfl ?_
    obtain ⟨x3, hx4, H⟩ := gv_e H
    refine GV.getI hx4 xf_X6_43 dX6_number_33 gs_470 (by decide) rfl ?_
    refine GA.iconst dX6_number_36 ?_
    obtain ⟨x5, hx6, H⟩ := gv_e H
    refine GV.iadd hx6 dX6_number_37 ?_
    obtain ⟨S_7, hx8, H⟩ := gv_e H
    refine GV.putI hx8 (xp_X6_43 _) dX6_number_38 gs_470 (by decide) (Nat.le_of_ble_eq_true rfl) gs_470 ?_
    refine GA.locals [(0, .ref (L 470)), (1, .int (J a1)), (2, .int (J s0))] ⟨rfl, rfl, rfl, trivial⟩ ?_
    exact ih_X6_number_41 _ _ (a1) (s0) _ _ H
set_option maxHeartbeats 4000000 in
set_option maxRecDepth 20000 in
theorem t_X6_number_41 {l : Launch} {Z : XZ} {L : Nat → Nat} (n : Nat) (ih_X6_number_0 : P_X6_number_0 l Z L n) (ih_X6_number_26 : P_X6_number_26 l Z L n) (ih_X6_number_41 : P_X6_number_41 l Z L n) (ih_X6_number_61 : P_X6_number_61 l Z L n) (ih_X6_number_99 : P_X6_number_99 l Z L n) (ih_X6_number_128 : P_X6_number_128 l Z L n) (ih_X6_number_144 : P_X6_number_144 l Z L n) : P_X6_number_41 l Z L (n + 1) := by
  intro d S a1 a2 x S1 H
  have H : b_X6_number_41 n d (f_X6_number n) S a1 a2 = some (x, S1) := H
  unfold b_X6_number_41 at H
  refine GA.aload_n dX6_number_41 rfl ?_
  obtain ⟨hg1, H⟩ := gg_e H
  obtain ⟨x2, S_3, hc4, H⟩ := gc_e H
  refine GA.callV (m_X6_here hc4) xs_X6_63 dX6_number_42 gs_470 (by decide) rfl rfl (by omega) (by decide) rfl (Nat.le_of_ble_eq_true rfl) (by omega) (by omega) rfl (fun E S9 hx => hx.elim) (fun v S9 hq => ?_)
  obtain ⟨rfl, rfl⟩ := hq
  refine GA.bipush dX6_number_45 rfl ?_
  obtain ⟨hg5, H⟩ := gg_e H
  refine GV.icmp_ne (tgt := 57) hg5 (by decide) dX6_number_47 (by decide) (fun c6 => ?_) (fun c6 => ?_)
  · have H := it_t H c6
    refine GA.aload_n dX6_number_57 rfl ?_
    obtain ⟨x7, S_8, hc9, H⟩ := gc_e H
    refine GA.callV (m_X6_readFigures hc9) xs_X6_150 dX6_number_58 gs_470 (by decide) rfl rfl (by omega) (by decide) rfl (Nat.le_of_ble_eq_true rfl) (by omega) (by omega) rfl (fun E S9 hx => hx.elim) (fun v S9 hq => ?_)
    obtain ⟨rfl, rfl⟩ := hq
    refine GA.locals [(0, .ref (L 470)), (1, .int (J a1)), (2, .int (J a2))] ⟨rfl, rfl, rfl, trivial⟩ ?_
    exact ih_X6_number_61 _ _ (a1) (a2) _ _ H
  · have H := it_f H c6
    refine GA.aload_n dX6_number_50 rfl ?_
    obtain ⟨x10, S_11, hc12, H⟩ := gc_e H
    refine GA.callV (m_X6_readFigure hc12) xs_X6_147 dX6_number_51 gs_470 (by decide) rfl rfl (by omega) (by decide) rfl (Nat.le_of_ble_eq_true rfl) (by omega) (by omega) rfl (fun E S9 hx => hx.elim) (fun v S9 hq => ?_)
    obtain ⟨rfl, rfl⟩ := hq
    refine GA.goto (tgt := 61) dX6_number_54 (by decide) ?_
    refine GA.locals [(0, .ref (L 470)), (1, .int (J a1)), (2, .int (J a2))] ⟨rfl, rfl, rfl, trivial⟩ ?_
    exact ih_X6_number_61 _ _ (a1) (a2) _ _ H
set_option maxHeartbeats 4000000 in
set_option maxRecDepth 20000 in
theorem t_X6_number_61 {l : Launch} {Z : XZ} {L : Nat → Nat} (n : Nat) (ih_X6_number_0 : P_X6_number_0 l Z L n) (ih_X6_number_26 : P_X6_number_26 l Z L n) (ih_X6_number_41 : P_X6_number_41 l Z L n) (ih_X6_number_61 : P_X6_number_61 l Z L n) (ih_X6_number_99 : P_X6_number_99 l Z L n) (ih_X6_number_128 : P_X6_number_128 l Z L n) (ih_X6_number_144 : P_X6_number_144 l Z L n) : P_X6_number_61 l Z L (n + 1) := by
  intro d S a1 a2 x S1 H
  have H : b_X6_number_61 n d (f_X6_number n) S a1 a2 = some (x, S1) := H
  unfold b_X6_number_61 at H
  refine GA.aload_n dX6_number_61 rfl ?_
  refine GA.get xf_X6_33 dX6_number_62 gs_470 (by decide) rfl ?_
  obtain ⟨hg1, H⟩ := gg_e H
  obtain ⟨x2, S_3, hc4, H⟩ := gc_e H
  refine GA.callV (m_X9_length hc4) xs_X6_73 dX6_number_65 (gsS (by decide)) (by decide) rfl rfl (by omega) (by decide) rfl (Nat.le_of_ble_eq_true rfl) (by omega) (by omega) rfl (fun E S9 hx => hx.elim) (fun v S9 hq => ?_)
  obtain ⟨rfl, rfl⟩ := hq
  refine GA.istore_n dX6_number_68 (by decide) ?_
  refine GA.aload_n dX6_number_69 rfl ?_
  obtain ⟨x5, S_6, hc7, H⟩ := gc_e H
  refine GA.callV (m_X6_here hc7) xs_X6_63 dX6_number_70 gs_470 (by decide) rfl rfl (by omega) (by decide) rfl (Nat.le_of_ble_eq_true rfl) (by omega) (by omega) rfl (fun E S9 hx => hx.elim) (fun v S9 hq => ?_)
  obtain ⟨rfl, rfl⟩ := hq
  refine GA.bipush dX6_number_73 rfl ?_
  obtain ⟨hg8, H⟩ := gg_e H
  refine GV.icmp_ne (tgt := 99) hg8 (by decide) dX6_number_75 (by decide) (fun c9 => ?_) (fun c9 => ?_)
  · have H := it_t H c9
    refine GA.locals [(0, .ref (L 470)), (1, .int (J a1)), (2, .int (J a2)), (3, .int (J x2))] ⟨rfl, rfl, rfl, rfl, trivial⟩ ?_
    exact ih_X6_number_99 _ _ (a1) (a2) (x2) _ _ H
  · have H := it_f H c9
    refine GA.aload_n dX6_number_78 rfl ?_
    obtain ⟨x10, S_11, hc12, H⟩ := gc_e H
    refine GA.callV (m_X6_goesOn hc12) xs_X6_120 dX6_number_79 gs_470 (by decide) rfl rfl (by omega) (by decide) rfl (Nat.le_of_ble_eq_true rfl) (by omega) (by omega) rfl (fun E S9 hx => hx.elim) (fun v S9 hq => ?_)
    obtain ⟨rfl, rfl⟩ := hq
    obtain ⟨hg13, H⟩ := gg_e H
    refine GV.if_eq (tgt := 99) hg13 dX6_number_82 (by decide) (fun c14 => ?_) (fun c14 => ?_)
    · have H := it_t H c14
      refine GA.locals [(0, .ref (L 470)), (1, .int (J a1)), (2, .int (J a2)), (3, .int (J x2))] ⟨rfl, rfl, rfl, rfl, trivial⟩ ?_
      exact ih_X6_number_99 _ _ (a1) (a2) (x2) _ _ H
    · have H := it_f H c14
      refine GA.aload_n dX6_number_85 rfl ?_
      refine GA.dup dX6_number_86 rfl ?_
      obtain ⟨x15, hx16, H⟩ := gv_e H
      refine GV.getI hx16 xf_X6_43 dX6_number_87 gs_470 (by decide) rfl ?_
      refine GA.iconst dX6_number_90 ?_
      obtain ⟨x17, hx18, H⟩ := gv_e H
      refine GV.iadd hx18 dX6_number_91 ?_
      obtain ⟨S_19, hx20, H⟩ := gv_e H
      refine GV.putI hx20 (xp_X6_43 _) dX6_number_92 gs_470 (by decide) (Nat.le_of_ble_eq_true rfl) gs_470 ?_
      refine GA.aload_n dX6_number_95 rfl ?_
      obtain ⟨x21, S_22, hc23, H⟩ := gc_e H
      refine GA.callV (m_X6_readFigures hc23) xs_X6_150 dX6_number_96 gs_470 (by decide) rfl rfl (by omega) (by decide) rfl (Nat.le_of_ble_eq_true rfl) (by omega) (by omega) rfl (fun E S9 hx => hx.elim) (fun v S9 hq => ?_)
      obtain ⟨rfl, rfl⟩ := hq
      refine GA.locals [(0, .ref (L 470)), (1, .int (J a1)), (2, .int (J a2)), (3, .int (J x2))] ⟨rfl, rfl, rfl, rfl, trivial⟩ ?_
      exact ih_X6_number_99 _ _ (a1) (a2) (x2) _ _ H
set_option maxHeartbeats 4000000 in
set_option maxRecDepth 20000 in
theorem t_X6_number_99 {l : Launch} {Z : XZ} {L : Nat → Nat} (n : Nat) (ih_X6_number_0 : P_X6_number_0 l Z L n) (ih_X6_number_26 : P_X6_number_26 l Z L n) (ih_X6_number_41 : P_X6_number_41 l Z L n) (ih_X6_number_61 : P_X6_number_61 l Z L n) (ih_X6_number_99 : P_X6_number_99 l Z L n) (ih_X6_number_128 : P_X6_number_128 l Z L n) (ih_X6_number_144 : P_X6_number_144 l Z L n) : P_X6_number_99 l Z L (n + 1) := by
  intro d S a1 a2 a3 x S1 H
  have H : b_X6_number_99 n d (f_X6_number n) S a1 a2 a3 = some (x, S1) := H
  unfold b_X6_number_99 at H
  refine GA.iload_n dX6_number_99 rfl ?_
  refine GA.aload_n dX6_number_100 rfl ?_
  refine GA.get xf_X6_33 dX6_number_101 gs_470 (by decide) rfl ?_
  obtain ⟨hg1, H⟩ := gg_e H
  obtain ⟨x2, S_3, hc4, H⟩ := gc_e H
  refine GA.callV (m_X9_length hc4) xs_X6_73 dX6_number_104 (gsS (by decide)) (by decide) rfl rfl (by omega) (by decide) rfl (Nat.le_of_ble_eq_true rfl) (by omega) (by omega) rfl (fun E S9 hx => hx.elim) (fun v S9 hq => ?_)
  obtain ⟨rfl, rfl⟩ := hq
  obtain ⟨x5, hx6, H⟩ := gv_e H
  refine GV.isub hx6 dX6_number_107 ?_
  refine GA.istore dX6_number_108 (by decide) ?_
  refine GA.aload_n dX6_number_110 rfl ?_
  obtain ⟨x7, S_8, hc9, H⟩ := gc_e H
  refine GA.callV (m_X6_here hc9) xs_X6_63 dX6_number_111 gs_470 (by decide) rfl rfl (by omega) (by decide) rfl (Nat.le_of_ble_eq_true rfl) (by omega) (by omega) rfl (fun E S9 hx => hx.elim) (fun v S9 hq => ?_)
  obtain ⟨rfl, rfl⟩ := hq
  refine GA.bipush dX6_number_114 rfl ?_
  obtain ⟨hg10, H⟩ := gg_e H
  refine GV.icmp_eq (tgt := 128) hg10 (by decide) dX6_number_116 (by decide) (fun c11 => ?_) (fun c11 => ?_)
  · have H := it_t H c11
    refine GA.locals [(0, .ref (L 470)), (1, .int (J a1)), (2, .int (J a2)), (4, .int (J x5))] ⟨rfl, rfl, rfl, rfl, trivial⟩ ?_
    exact ih_X6_number_128 _ _ (a1) (a2) (x5) _ _ H
  · have H := it_f H c11
    refine GA.aload_n dX6_number_119 rfl ?_
    obtain ⟨x12, S_13, hc14, H⟩ := gc_e H
    refine GA.callV (m_X6_here hc14) xs_X6_63 dX6_number_120 gs_470 (by decide) rfl rfl (by omega) (by decide) rfl (Nat.le_of_ble_eq_true rfl) (by omega) (by omega) rfl (fun E S9 hx => hx.elim) (fun v S9 hq => ?_)
    obtain ⟨rfl, rfl⟩ := hq
    refine GA.bipush dX6_number_123 rfl ?_
    obtain ⟨hg15, H⟩ := gg_e H
    refine GV.icmp_ne (tgt := 144) hg15 (by decide) dX6_number_125 (by decide) (fun c16 => ?_) (fun c16 => ?_)
    · have H := it_t H c16
      refine GA.locals [(0, .ref (L 470)), (1, .int (J a1)), (2, .int (J a2)), (4, .int (J x5))] ⟨rfl, rfl, rfl, rfl, trivial⟩ ?_
      exact ih_X6_number_144 _ _ (a1) (a2) (x5) _ _ H
    · have H := it_f H c16
      refine GA.locals [(0, .ref (L 470)), (1, .int (J a1)), (2, .int (J a2)), (4, .int (J x5))] ⟨rfl, rfl, rfl, rfl, trivial⟩ ?_
      exact ih_X6_number_128 _ _ (a1) (a2) (x5) _ _ H
set_option maxHeartbeats 4000000 in
set_option maxRecDepth 20000 in
theorem t_X6_number_128 {l : Launch} {Z : XZ} {L : Nat → Nat} (n : Nat) (ih_X6_number_0 : P_X6_number_0 l Z L n) (ih_X6_number_26 : P_X6_number_26 l Z L n) (ih_X6_number_41 : P_X6_number_41 l Z L n) (ih_X6_number_61 : P_X6_number_61 l Z L n) (ih_X6_number_99 : P_X6_number_99 l Z L n) (ih_X6_number_128 : P_X6_number_128 l Z L n) (ih_X6_number_144 : P_X6_number_144 l Z L n) : P_X6_number_128 l Z L (n + 1) := by
  intro d S a1 a2 a4 x S1 H
  have H : b_X6_number_128 n d (f_X6_number n) S a1 a2 a4 = some (x, S1) := H
  unfold b_X6_number_128 at H
  refine GA.aload_n dX6_number_128 rfl ?_
  obtain ⟨hg1, H⟩ := gg_e H
  obtain ⟨x2, S_3, hc4, H⟩ := gc_e H
  refine GA.callV (m_X6_goesOn hc4) xs_X6_120 dX6_number_129 gs_470 (by decide) rfl rfl (by omega) (by decide) rfl (Nat.le_of_ble_eq_true rfl) (by omega) (by omega) rfl (fun E S9 hx => hx.elim) (fun v S9 hq => ?_)
  obtain ⟨rfl, rfl⟩ := hq
  obtain ⟨hg5, H⟩ := gg_e H
  refine GV.if_eq (tgt := 144) hg5 dX6_number_132 (by decide) (fun c6 => ?_) (fun c6 => ?_)
  · have H := it_t H c6
    refine GA.locals [(0, .ref (L 470)), (1, .int (J a1)), (2, .int (J a2)), (4, .int (J a4))] ⟨rfl, rfl, rfl, rfl, trivial⟩ ?_
    exact ih_X6_number_144 _ _ (a1) (a2) (a4) _ _ H
  · have H := it_f H c6
    refine GA.iload dX6_number_135 rfl ?_
    refine GA.aload_n dX6_number_137 rfl ?_
    obtain ⟨x7, S_8, hc9, H⟩ := gc_e H
    refine GA.callV (m_X6_exponent hc9) xs_X6_153 dX6_number_138 gs_470 (by decide) rfl rfl (by omega) (by decide) rfl (Nat.le_of_ble_eq_true rfl) (by omega) (by omega) rfl (fun E S9 hx => hx.elim) (fun v S9 hq => ?_)
    obtain ⟨rfl, rfl⟩ := hq
    obtain ⟨x10, hx11, H⟩ := gv_e H
    refine GV.iadd hx11 dX6_number_141 ?_
    refine GA.istore dX6_number_142 (by decide) ?_
    refine GA.locals [(0, .ref (L 470)), (1, .int (J a1)), (2, .int (J a2)), (4, .int (J x10))] ⟨rfl, rfl, rfl, rfl, trivial⟩ ?_
    exact ih_X6_number_144 _ _ (a1) (a2) (x10) _ _ H
set_option maxHeartbeats 4000000 in
set_option maxRecDepth 20000 in
theorem t_X6_number_144 {l : Launch} {Z : XZ} {L : Nat → Nat} (n : Nat) (ih_X6_number_0 : P_X6_number_0 l Z L n) (ih_X6_number_26 : P_X6_number_26 l Z L n) (ih_X6_number_41 : P_X6_number_41 l Z L n) (ih_X6_number_61 : P_X6_number_61 l Z L n) (ih_X6_number_99 : P_X6_number_99 l Z L n) (ih_X6_number_128 : P_X6_number_128 l Z L n) (ih_X6_number_144 : P_X6_number_144 l Z L n) : P_X6_number_144 l Z L (n + 1) := by
  intro d S a1 a2 a4 x S1 H
  have H : b_X6_number_144 n d (f_X6_number n) S a1 a2 a4 = some (x, S1) := H
  unfold b_X6_number_144 at H
  refine GA.aload_n dX6_number_144 rfl ?_
  refine GA.iconst dX6_number_145 ?_
  obtain ⟨hg1, H⟩ := gg_e H
  obtain ⟨x2, S_3, hc4, H⟩ := gc_e H
  refine GA.callV (m_X6_begin hc4) xs_X6_106 dX6_number_146 gs_470 (by decide) rfl rfl (by omega) (by decide) rfl (Nat.le_of_ble_eq_true rfl) (by omega) (by omega) rfl (fun E S9 hx => hx.elim) (fun v S9 hq => ?_)
  obtain ⟨rfl, rfl⟩ := hq
  refine GA.istore dX6_number_149 (by decide) ?_
  refine GA.aload_n dX6_number_151 rfl ?_
  obtain ⟨x5, S_6, hc7, H⟩ := gc_e H
  refine GA.callV (m_X6_goesOn hc7) xs_X6_120 dX6_number_152 gs_470 (by decide) rfl rfl (by omega) (by decide) rfl (Nat.le_of_ble_eq_true rfl) (by omega) (by omega) rfl (fun E S9 hx => hx.elim) (fun v S9 hq => ?_)
  obtain ⟨rfl, rfl⟩ := hq
  obtain ⟨hg8, H⟩ := gg_e H
  refine GV.if_eq (tgt := 183) hg8 dX6_number_155 (by decide) (fun c9 => ?_) (fun c9 => ?_)
  · have H := it_t H c9
    refine GA.iload dX6_number_183 rfl ?_
    cases H
    exact GA.iret rfl dX6_number_185 (by omega) (by omega) ⟨rfl, rfl⟩
  · have H := it_f H c9
    refine GA.aload_n dX6_number_158 rfl ?_
    refine GA.get xf_X6_12 dX6_number_159 gs_470 (by decide) rfl ?_
    refine GA.iload dX6_number_162 rfl ?_
    refine GA.iload_n dX6_number_164 rfl ?_
    refine GA.aload_n dX6_number_165 rfl ?_
    refine GA.get xf_X6_33 dX6_number_166 gs_470 (by decide) rfl ?_
    refine GA.iload dX6_number_169 rfl ?_
    obtain ⟨x10, S_11, hc12, H⟩ := gc_e H
    refine GA.callV (m_X10_setNumber hc12) xs_X6_156 dX6_number_171 (gsT (by decide)) (by decide) rfl rfl (by omega) (by decide) rfl (Nat.le_of_ble_eq_true rfl) (by omega) (by omega) rfl (fun E S9 hx => hx.elim) (fun v S9 hq => ?_)
    obtain ⟨rfl, rfl⟩ := hq
    obtain ⟨hg13, H⟩ := gg_e H
    refine GV.if_ne (tgt := 183) hg13 dX6_number_174 (by decide) (fun c14 => ?_) (fun c14 => ?_)
    · have H := it_t H c14
      refine GA.iload dX6_number_183 rfl ?_
      cases H
      exact GA.iret rfl dX6_number_185 (by omega) (by omega) ⟨rfl, rfl⟩
    · have H := it_f H c14
      refine GA.aload_n dX6_number_177 rfl ?_
      refine GA.iload_n dX6_number_178 rfl ?_
      obtain ⟨x15, S_16, hc17, H⟩ := gc_e H
      refine GA.callV (m_X6_fail hc17) xs_X6_67 dX6_number_179 gs_470 (by decide) rfl rfl (by omega) (by decide) rfl (Nat.le_of_ble_eq_true rfl) (by omega) (by omega) rfl (fun E S9 hx => hx.elim) (fun v S9 hq => ?_)
      obtain ⟨rfl, rfl⟩ := hq
      refine GA.pop dX6_number_182 rfl ?_
      refine GA.iload dX6_number_183 rfl ?_
      cases H
      exact GA.iret rfl dX6_number_185 (by omega) (by omega) ⟨rfl, rfl⟩
theorem g_X6_number {l : Launch} {Z : XZ} {L : Nat → Nat} : ∀ n, P_X6_number_0 l Z L n ∧ P_X6_number_26 l Z L n ∧ P_X6_number_41 l Z L n ∧ P_X6_number_61 l Z L n ∧ P_X6_number_99 l Z L n ∧ P_X6_number_128 l Z L n ∧ P_X6_number_144 l Z L n
  | 0 => ⟨fun _ _ _ _ H => no_e H, fun _ _ _ _ _ _ H => no_e H, fun _ _ _ _ _ _ H => no_e H, fun _ _ _ _ _ _ H => no_e H, fun _ _ _ _ _ _ _ H => no_e H, fun _ _ _ _ _ _ _ H => no_e H, fun _ _ _ _ _ _ _ H => no_e H⟩
  | n + 1 => have ⟨h0, h1, h2, h3, h4, h5, h6⟩ := g_X6_number (l := l) (Z := Z) (L := L) n
    ⟨t_X6_number_0 n h0 h1 h2 h3 h4 h5 h6, t_X6_number_26 n h0 h1 h2 h3 h4 h5 h6, t_X6_number_41 n h0 h1 h2 h3 h4 h5 h6, t_X6_number_61 n h0 h1 h2 h3 h4 h5 h6, t_X6_number_99 n h0 h1 h2 h3 h4 h5 h6, t_X6_number_128 n h0 h1 h2 h3 h4 h5 h6, t_X6_number_144 n h0 h1 h2 h3 h4 h5 h6⟩
theorem m_X6_number {l : Launch} {Z : XZ} {L : Nat → Nat} {n d : Nat} {S : GS} {x : Int} {S1 : GS} (H : f_X6_number n d 0 S [] = some (x, S1)) : GM l Z L yX6_number cX6_number 6 (some .int) [] d 0 0 [.ref (L 470)] S (fun v S' => v = some (.int (J x)) ∧ S1 = S') (fun _ _ => False) := GM.of (by decide) (Nat.le_of_ble_eq_true rfl) ((g_X6_number n).1 _ _ _ _ H)

def P_X6_passAll_0 (l : Launch) (Z : XZ) (L : Nat → Nat) (n : Nat) : Prop := ∀ (d : Nat) (S : GS) (a1 : Nat) (x : Int) (S1 : GS), f_X6_passAll n d 0 S [((a1 : Nat) : Int)] = some (x, S1) → GA l Z L yX6_passAll cX6_passAll 3 none [] d 0 0 (fun v S' => v = none ∧ S1 = S') (fun _ _ => False) 0 (gl [(0, .ref (L 470)), (1, .ref (Z.2.1 a1))]) [] S 0 0
def P_X6_passAll_2 (l : Launch) (Z : XZ) (L : Nat → Nat) (n : Nat) : Prop := ∀ (d : Nat) (S : GS) (a1 : Nat) (a2 : Int) (x : Int) (S1 : GS), f_X6_passAll n d 2 S [((a1 : Nat) : Int), a2] = some (x, S1) → GA l Z L yX6_passAll cX6_passAll 3 none [] d 0 0 (fun v S' => v = none ∧ S1 = S') (fun _ _ => False) 2 (gl [(0, .ref (L 470)), (1, .ref (Z.2.1 a1)), (2, .int (J a2))]) [] S 0 0
theorem i_X6_passAll {l : Launch} {Z : XZ} {L : Nat → Nat} {n : Nat} (ih : P_X6_passAll_0 l Z L n) {d : Nat} {S : GS} {a1 : Nat} {x : Int} {S1 : GS} (H : f_X6_passAll n d 0 S [((a1 : Nat) : Int)] = some (x, S1)) : GM l Z L yX6_passAll cX6_passAll 3 none [] d 0 0 [.ref (L 470), .ref (Z.2.1 a1)] S (fun v S' => v = none ∧ S1 = S') (fun _ _ => False) := GM.of (by decide) (Nat.le_of_ble_eq_true rfl) (ih _ _ _ _ _ H)
set_option maxHeartbeats 4000000 in
set_option maxRecDepth 20000 in
theorem t_X6_passAll_0 {l : Launch} {Z : XZ} {L : Nat → Nat} (n : Nat) (ih_X6_passAll_0 : P_X6_passAll_0 l Z L n) (ih_X6_passAll_2 : P_X6_passAll_2 l Z L n) : P_X6_passAll_0 l Z L (n + 1) := by
  intro d S a1 x S1 H
  have H : b_X6_passAll_0 n d (f_X6_passAll n) S a1 = some (x, S1) := H
  unfold b_X6_passAll_0 at H
  refine GA.iconst dX6_passAll_0 ?_
  refine GA.istore_n dX6_passAll_1 (by decide) ?_
  refine GA.locals [(0, .ref (L 470)), (1, .ref (Z.2.1 a1)), (2, .int (J 0))] ⟨rfl, rfl, rfl, trivial⟩ ?_
  exact ih_X6_passAll_2 _ _ (a1) (0) _ _ H
set_option maxHeartbeats 4000000 in
set_option maxRecDepth 20000 in
theorem t_X6_passAll_2 {l : Launch} {Z : XZ} {L : Nat → Nat} (n : Nat) (ih_X6_passAll_0 : P_X6_passAll_0 l Z L n) (ih_X6_passAll_2 : P_X6_passAll_2 l Z L n) : P_X6_passAll_2 l Z L (n + 1) := by
  intro d S a1 a2 x S1 H
  have H : b_X6_passAll_2 n d (f_X6_passAll n) S a1 a2 = some (x, S1) := H
  unfold b_X6_passAll_2 at H
  refine GA.iload_n dX6_passAll_2 rfl ?_
  refine GA.aload_n dX6_passAll_3 rfl ?_
  obtain ⟨hg1, H⟩ := gg_e H
  obtain ⟨hg2, H⟩ := gg_e H
  obtain ⟨x3, hx4, H⟩ := gv_e H
  refine GV.strLen hg1 hx4 xs_X6_117 dX6_passAll_4 hg2 (Nat.le_of_ble_eq_true rfl) (by omega) (by omega) ?_
  obtain ⟨hg5, H⟩ := gg_e H
  obtain ⟨hg6, H⟩ := gg_e H
  refine GV.icmp_ge (tgt := 32) hg5 hg6 dX6_passAll_7 (by decide) (fun c7 => ?_) (fun c7 => ?_)
  · have H := it_t H c7
    cases H
    exact GA.vret rfl dX6_passAll_32 (by omega) (by omega) ⟨rfl, rfl⟩
  · have H := it_f H c7
    refine GA.aload_n dX6_passAll_10 rfl ?_
    obtain ⟨hg8, H⟩ := gg_e H
    obtain ⟨x9, S_10, hc11, H⟩ := gc_e H
    refine GA.callV (m_X6_goesOn hc11) xs_X6_120 dX6_passAll_11 gs_470 (by decide) rfl rfl (by omega) (by decide) rfl (Nat.le_of_ble_eq_true rfl) (by omega) (by omega) rfl (fun E S9 hx => hx.elim) (fun v S9 hq => ?_)
    obtain ⟨rfl, rfl⟩ := hq
    obtain ⟨hg12, H⟩ := gg_e H
    refine GV.if_eq (tgt := 32) hg12 dX6_passAll_14 (by decide) (fun c13 => ?_) (fun c13 => ?_)
    · have H := it_t H c13
      cases H
      exact GA.vret rfl dX6_passAll_32 (by omega) (by omega) ⟨rfl, rfl⟩
    · have H := it_f H c13
      refine GA.aload_n dX6_passAll_17 rfl ?_
      refine GA.aload_n dX6_passAll_18 rfl ?_
      refine GA.iload_n dX6_passAll_19 rfl ?_
      obtain ⟨hg14, H⟩ := gg_e H
      obtain ⟨hg15, H⟩ := gg_e H
      obtain ⟨x16, hx17, H⟩ := gv_e H
      refine GV.strChar hg1 hg15 hx17 xs_X6_124 dX6_passAll_20 hg14 (Nat.le_of_ble_eq_true rfl) (by omega) (by omega) ?_
      obtain ⟨x18, S_19, hc20, H⟩ := gc_e H
      refine GA.callV (m_X6_pass hc20) xs_X6_128 dX6_passAll_23 gs_470 (by decide) rfl rfl (by omega) (by decide) rfl (Nat.le_of_ble_eq_true rfl) (by omega) (by omega) rfl (fun E S9 hx => hx.elim) (fun v S9 hq => ?_)
      obtain ⟨rfl, rfl⟩ := hq
      obtain ⟨x21, hx22, H⟩ := gv_e H
      refine GV.iinc hx22 dX6_passAll_26 rfl (by decide) ?_
      refine GA.goto (tgt := 2) dX6_passAll_29 (by decide) ?_
      refine GA.locals [(0, .ref (L 470)), (1, .ref (Z.2.1 a1)), (2, .int (J x21))] ⟨rfl, rfl, rfl, trivial⟩ ?_
      exact ih_X6_passAll_2 _ _ (a1) (x21) _ _ H
theorem g_X6_passAll {l : Launch} {Z : XZ} {L : Nat → Nat} : ∀ n, P_X6_passAll_0 l Z L n ∧ P_X6_passAll_2 l Z L n
  | 0 => ⟨fun _ _ _ _ _ H => no_e H, fun _ _ _ _ _ _ H => no_e H⟩
  | n + 1 => have ⟨h0, h1⟩ := g_X6_passAll (l := l) (Z := Z) (L := L) n
    ⟨t_X6_passAll_0 n h0 h1, t_X6_passAll_2 n h0 h1⟩
theorem m_X6_passAll {l : Launch} {Z : XZ} {L : Nat → Nat} {n d : Nat} {S : GS} {a1 : Nat} {x : Int} {S1 : GS} (H : f_X6_passAll n d 0 S [((a1 : Nat) : Int)] = some (x, S1)) : GM l Z L yX6_passAll cX6_passAll 3 none [] d 0 0 [.ref (L 470), .ref (Z.2.1 a1)] S (fun v S' => v = none ∧ S1 = S') (fun _ _ => False) := GM.of (by decide) (Nat.le_of_ble_eq_true rfl) ((g_X6_passAll n).1 _ _ _ _ _ H)

def P_X6_constant_0 (l : Launch) (Z : XZ) (L : Nat → Nat) (n : Nat) : Prop := ∀ (d : Nat) (S : GS) (a1 : Int) (x : Int) (S1 : GS), f_X6_constant n d 0 S [a1] = some (x, S1) → GA l Z L yX6_constant cX6_constant 3 (some .int) [] d 0 0 (fun v S' => v = some (.int (J x)) ∧ S1 = S') (fun _ _ => False) 0 (gl [(0, .ref (L 470)), (1, .int (J a1))]) [] S 0 0
def P_X6_constant_53 (l : Launch) (Z : XZ) (L : Nat → Nat) (n : Nat) : Prop := ∀ (d : Nat) (S : GS) (a1 : Int) (s0 : Nat) (x : Int) (S1 : GS), f_X6_constant n d 53 S [a1, ((s0 : Nat) : Int)] = some (x, S1) → GA l Z L yX6_constant cX6_constant 3 (some .int) [] d 0 0 (fun v S' => v = some (.int (J x)) ∧ S1 = S') (fun _ _ => False) 53 (gl [(0, .ref (L 470)), (1, .int (J a1))]) [.ref (Z.2.1 s0), .ref (L 470)] S 0 0
def P_X6_constant_71 (l : Launch) (Z : XZ) (L : Nat → Nat) (n : Nat) : Prop := ∀ (d : Nat) (S : GS) (s0 : Int) (s1 : Nat) (x : Int) (S1 : GS), f_X6_constant n d 71 S [s0, ((s1 : Nat) : Int)] = some (x, S1) → GA l Z L yX6_constant cX6_constant 3 (some .int) [] d 0 0 (fun v S' => v = some (.int (J x)) ∧ S1 = S') (fun _ _ => False) 71 (gl [(0, .ref (L 470))]) [.int (J s0), .ref (L s1)] S 0 0
theorem i_X6_constant {l : Launch} {Z : XZ} {L : Nat → Nat} {n : Nat} (ih : P_X6_constant_0 l Z L n) {d : Nat} {S : GS} {a1 : Int} {x : Int} {S1 : GS} (H : f_X6_constant n d 0 S [a1] = some (x, S1)) : GM l Z L yX6_constant cX6_constant 3 (some .int) [] d 0 0 [.ref (L 470), .int (J a1)] S (fun v S' => v = some (.int (J x)) ∧ S1 = S') (fun _ _ => False) := GM.of (by decide) (Nat.le_of_ble_eq_true rfl) (ih _ _ _ _ _ H)
set_option maxHeartbeats 4000000 in
set_option maxRecDepth 20000 in
theorem t_X6_constant_0 {l : Launch} {Z : XZ} {L : Nat → Nat} (n : Nat) (ih_X6_constant_0 : P_X6_constant_0 l Z L n) (ih_X6_constant_53 : P_X6_constant_53 l Z L n) (ih_X6_constant_71 : P_X6_constant_71 l Z L n) : P_X6_constant_0 l Z L (n + 1) := by
  intro d S a1 x S1 H
  have H : b_X6_constant_0 n d (f_X6_constant n) S a1 = some (x, S1) := H
  unfold b_X6_constant_0 at H
  refine GA.iload_n dX6_constant_0 rfl ?_
  refine GA.bipush dX6_constant_1 rfl ?_
  obtain ⟨hg1, H⟩ := gg_e H
  refine GV.icmp_ne (tgt := 18) hg1 (by decide) dX6_constant_3 (by decide) (fun c2 => ?_) (fun c2 => ?_)
  · have H := it_t H c2
    refine GA.iload_n dX6_constant_18 rfl ?_
    refine GA.bipush dX6_constant_19 rfl ?_
    refine GV.icmp_eq (tgt := 39) hg1 (by decide) dX6_constant_21 (by decide) (fun c3 => ?_) (fun c3 => ?_)
    · have H := it_t H c3
      refine GA.aload_n dX6_constant_39 rfl ?_
      refine GA.iload_n dX6_constant_40 rfl ?_
      refine GA.bipush dX6_constant_41 rfl ?_
      refine GV.icmp_ne (tgt := 51) hg1 (by decide) dX6_constant_43 (by decide) (fun c4 => ?_) (fun c4 => ?_)
      · have H := it_t H c4
        refine GA.ldcS (i := 14) (tx := "false") (by decide +kernel) dX6_constant_51 ?_
        refine GA.locals [(0, .ref (L 470)), (1, .int (J a1))] ⟨rfl, rfl, trivial⟩ ?_
        exact ih_X6_constant_53 _ _ (a1) (14) _ _ H
      · have H := it_f H c4
        refine GA.ldcS (i := 13) (tx := "true") (by decide +kernel) dX6_constant_46 ?_
        refine GA.goto (tgt := 53) dX6_constant_48 (by decide) ?_
        refine GA.locals [(0, .ref (L 470)), (1, .int (J a1))] ⟨rfl, rfl, trivial⟩ ?_
        exact ih_X6_constant_53 _ _ (a1) (13) _ _ H
    · have H := it_f H c3
      refine GA.iload_n dX6_constant_24 rfl ?_
      refine GA.bipush dX6_constant_25 rfl ?_
      refine GV.icmp_eq (tgt := 39) hg1 (by decide) dX6_constant_27 (by decide) (fun c5 => ?_) (fun c5 => ?_)
      · have H := it_t H c5
        refine GA.aload_n dX6_constant_39 rfl ?_
        refine GA.iload_n dX6_constant_40 rfl ?_
        refine GA.bipush dX6_constant_41 rfl ?_
        refine GV.icmp_ne (tgt := 51) hg1 (by decide) dX6_constant_43 (by decide) (fun c6 => ?_) (fun c6 => ?_)
        · have H := it_t H c6
          refine GA.ldcS (i := 14) (tx := "false") (by decide +kernel) dX6_constant_51 ?_
          refine GA.locals [(0, .ref (L 470)), (1, .int (J a1))] ⟨rfl, rfl, trivial⟩ ?_
          exact ih_X6_constant_53 _ _ (a1) (14) _ _ H
        · have H := it_f H c6
          refine GA.ldcS (i := 13) (tx := "true") (by decide +kernel) dX6_constant_46 ?_
          refine GA.goto (tgt := 53) dX6_constant_48 (by decide) ?_
          refine GA.locals [(0, .ref (L 470)), (1, .int (J a1))] ⟨rfl, rfl, trivial⟩ ?_
          exact ih_X6_constant_53 _ _ (a1) (13) _ _ H
      · have H := it_f H c5
        refine GA.aload_n dX6_constant_30 rfl ?_
        refine GA.aload_n dX6_constant_31 rfl ?_
        obtain ⟨x7, hx8, H⟩ := gv_e H
        refine GV.getI hx8 xf_X6_43 dX6_constant_32 gs_470 (by decide) rfl ?_
        obtain ⟨hg9, H⟩ := gg_e H
        obtain ⟨x10, S_11, hc12, H⟩ := gc_e H
        refine GA.callV (m_X6_fail hc12) xs_X6_67 dX6_constant_35 gs_470 (by decide) rfl rfl (by omega) (by decide) rfl (Nat.le_of_ble_eq_true rfl) (by omega) (by omega) rfl (fun E S9 hx => hx.elim) (fun v S9 hq => ?_)
        obtain ⟨rfl, rfl⟩ := hq
        cases H
        exact GA.iret rfl dX6_constant_38 (by omega) (by omega) ⟨rfl, rfl⟩
  · have H := it_f H c2
    refine GA.aload_n dX6_constant_6 rfl ?_
    refine GA.ldcS (i := 12) (tx := "null") (by decide +kernel) dX6_constant_7 ?_
    obtain ⟨hg13, H⟩ := gg_e H
    obtain ⟨x14, S_15, hc16, H⟩ := gc_e H
    refine GA.callV (m_X6_passAll hc16) xs_X6_102 dX6_constant_9 gs_470 (by decide) rfl rfl (by omega) (by decide) rfl (Nat.le_of_ble_eq_true rfl) (by omega) (by omega) rfl (fun E S9 hx => hx.elim) (fun v S9 hq => ?_)
    obtain ⟨rfl, rfl⟩ := hq
    refine GA.aload_n dX6_constant_12 rfl ?_
    refine GA.iconst dX6_constant_13 ?_
    obtain ⟨x17, S_18, hc19, H⟩ := gc_e H
    refine GA.callV (m_X6_begin hc19) xs_X6_106 dX6_constant_14 gs_470 (by decide) rfl rfl (by omega) (by decide) rfl (Nat.le_of_ble_eq_true rfl) (by omega) (by omega) rfl (fun E S9 hx => hx.elim) (fun v S9 hq => ?_)
    obtain ⟨rfl, rfl⟩ := hq
    cases H
    exact GA.iret rfl dX6_constant_17 (by omega) (by omega) ⟨rfl, rfl⟩
set_option maxHeartbeats 4000000 in
set_option maxRecDepth 20000 in
theorem t_X6_constant_53 {l : Launch} {Z : XZ} {L : Nat → Nat} (n : Nat) (ih_X6_constant_0 : P_X6_constant_0 l Z L n) (ih_X6_constant_53 : P_X6_constant_53 l Z L n) (ih_X6_constant_71 : P_X6_constant_71 l Z L n) : P_X6_constant_53 l Z L (n + 1) := by
  intro d S a1 s0 x S1 H
  have H : b_X6_constant_53 n d (f_X6_constant n) S a1 s0 = some (x, S1) := H
  unfold b_X6_constant_53 at H
  obtain ⟨hg1, H⟩ := gg_e H
  obtain ⟨x2, S_3, hc4, H⟩ := gc_e H
  refine GA.callV (m_X6_passAll hc4) xs_X6_102 dX6_constant_53 gs_470 (by decide) rfl rfl (by omega) (by decide) rfl (Nat.le_of_ble_eq_true rfl) (by omega) (by omega) rfl (fun E S9 hx => hx.elim) (fun v S9 hq => ?_)
  obtain ⟨rfl, rfl⟩ := hq
  refine GA.aload_n dX6_constant_56 rfl ?_
  refine GA.get xf_X6_12 dX6_constant_57 gs_470 (by decide) rfl ?_
  refine GA.iload_n dX6_constant_60 rfl ?_
  refine GA.bipush dX6_constant_61 rfl ?_
  obtain ⟨hg5, H⟩ := gg_e H
  refine GV.icmp_ne (tgt := 70) hg5 (by decide) dX6_constant_63 (by decide) (fun c6 => ?_) (fun c6 => ?_)
  · have H := it_t H c6
    refine GA.iconst dX6_constant_70 ?_
    refine GA.locals [(0, .ref (L 470))] ⟨rfl, trivial⟩ ?_
    exact ih_X6_constant_71 _ _ (0) (336) _ _ H
  · have H := it_f H c6
    refine GA.iconst dX6_constant_66 ?_
    refine GA.goto (tgt := 71) dX6_constant_67 (by decide) ?_
    refine GA.locals [(0, .ref (L 470))] ⟨rfl, trivial⟩ ?_
    exact ih_X6_constant_71 _ _ (1) (336) _ _ H
set_option maxHeartbeats 4000000 in
set_option maxRecDepth 20000 in
theorem t_X6_constant_71 {l : Launch} {Z : XZ} {L : Nat → Nat} (n : Nat) (ih_X6_constant_0 : P_X6_constant_0 l Z L n) (ih_X6_constant_53 : P_X6_constant_53 l Z L n) (ih_X6_constant_71 : P_X6_constant_71 l Z L n) : P_X6_constant_71 l Z L (n + 1) := by
  intro d S s0 s1 x S1 H
  have H : b_X6_constant_71 n d (f_X6_constant n) S s0 s1 = some (x, S1) := H
  unfold b_X6_constant_71 at H
  obtain ⟨hg1, H⟩ := gg_e H
  obtain ⟨hg2, H⟩ := gg_e H
  obtain ⟨x3, S_4, hc5, H⟩ := gc_e H
  refine GA.callV (m_X10_addTruth hc5) xs_X6_113 dX6_constant_71 (gsT hg2) (by omega) rfl rfl (by omega) (by decide) rfl (Nat.le_of_ble_eq_true rfl) (by omega) (by omega) rfl (fun E S9 hx => hx.elim) (fun v S9 hq => ?_)
  obtain ⟨rfl, rfl⟩ := hq
  refine GA.istore_n dX6_constant_74 (by decide) ?_
  refine GA.aload_n dX6_constant_75 rfl ?_
  refine GA.get xf_X6_12 dX6_constant_76 gs_470 (by decide) rfl ?_
  refine GA.iload_n dX6_constant_79 rfl ?_
  refine GA.aload_n dX6_constant_80 rfl ?_
  refine GA.get xf_X6_26 dX6_constant_81 gs_470 (by decide) rfl ?_
  obtain ⟨x6, S_7, hc8, H⟩ := gc_e H
  refine GA.callV (m_X10_setKey hc8) xs_X6_79 dX6_constant_84 (gsT (by decide)) (by decide) rfl rfl (by omega) (by decide) rfl (Nat.le_of_ble_eq_true rfl) (by omega) (by omega) rfl (fun E S9 hx => hx.elim) (fun v S9 hq => ?_)
  obtain ⟨rfl, rfl⟩ := hq
  refine GA.iload_n dX6_constant_87 rfl ?_
  cases H
  exact GA.iret rfl dX6_constant_88 (by omega) (by omega) ⟨rfl, rfl⟩
theorem g_X6_constant {l : Launch} {Z : XZ} {L : Nat → Nat} : ∀ n, P_X6_constant_0 l Z L n ∧ P_X6_constant_53 l Z L n ∧ P_X6_constant_71 l Z L n
  | 0 => ⟨fun _ _ _ _ _ H => no_e H, fun _ _ _ _ _ _ H => no_e H, fun _ _ _ _ _ _ H => no_e H⟩
  | n + 1 => have ⟨h0, h1, h2⟩ := g_X6_constant (l := l) (Z := Z) (L := L) n
    ⟨t_X6_constant_0 n h0 h1 h2, t_X6_constant_53 n h0 h1 h2, t_X6_constant_71 n h0 h1 h2⟩
theorem m_X6_constant {l : Launch} {Z : XZ} {L : Nat → Nat} {n d : Nat} {S : GS} {a1 : Int} {x : Int} {S1 : GS} (H : f_X6_constant n d 0 S [a1] = some (x, S1)) : GM l Z L yX6_constant cX6_constant 3 (some .int) [] d 0 0 [.ref (L 470), .int (J a1)] S (fun v S' => v = some (.int (J x)) ∧ S1 = S') (fun _ _ => False) := GM.of (by decide) (Nat.le_of_ble_eq_true rfl) ((g_X6_constant n).1 _ _ _ _ _ H)

def P_X6_entry_0 (l : Launch) (Z : XZ) (L : Nat → Nat) (n : Nat) : Prop := ∀ (d : Nat) (S : GS) (a1 : Int) (a2 : Int) (x : Int) (S1 : GS), f_X6_entry n d 0 S [a1, a2] = some (x, S1) → GA l Z L yX6_entry cX6_entry 5 none [] d 0 0 (fun v S' => v = none ∧ S1 = S') (fun _ _ => False) 0 (gl [(0, .ref (L 470)), (1, .int (J a1)), (2, .int (J a2))]) [] S 0 0
def P_X6_entry_65 (l : Launch) (Z : XZ) (L : Nat → Nat) (n : Nat) : Prop := ∀ (d : Nat) (S : GS) (a2 : Int) (a3 : Int) (x : Int) (S1 : GS), f_X6_entry n d 65 S [a2, a3] = some (x, S1) → GA l Z L yX6_entry cX6_entry 5 none [] d 0 0 (fun v S' => v = none ∧ S1 = S') (fun _ _ => False) 65 (gl [(0, .ref (L 470)), (2, .int (J a2)), (3, .int (J a3))]) [] S 0 0
def P_X6_entry_122 (l : Launch) (Z : XZ) (L : Nat → Nat) (n : Nat) : Prop := ∀ (d : Nat) (S : GS) (a3 : Int) (a4 : Int) (x : Int) (S1 : GS), f_X6_entry n d 122 S [a3, a4] = some (x, S1) → GA l Z L yX6_entry cX6_entry 5 none [] d 0 0 (fun v S' => v = none ∧ S1 = S') (fun _ _ => False) 122 (gl [(0, .ref (L 470)), (3, .int (J a3)), (4, .int (J a4))]) [] S 0 0
def P_X6_group_0 (l : Launch) (Z : XZ) (L : Nat → Nat) (n : Nat) : Prop := ∀ (d : Nat) (S : GS) (a1 : Int) (a2 : Int) (x : Int) (S1 : GS), f_X6_entry n d 10000 S [a1, a2] = some (x, S1) → GA l Z L yX6_group cX6_group 7 (some .int) [] d 0 0 (fun v S' => v = some (.int (J x)) ∧ S1 = S') (fun _ _ => False) 0 (gl [(0, .ref (L 470)), (1, .int (J a1)), (2, .int (J a2))]) [] S 0 0
def P_X6_group_18 (l : Launch) (Z : XZ) (L : Nat → Nat) (n : Nat) : Prop := ∀ (d : Nat) (S : GS) (a1 : Int) (a2 : Int) (a3 : Int) (s0 : Int) (x : Int) (S1 : GS), f_X6_entry n d 10018 S [a1, a2, a3, s0] = some (x, S1) → GA l Z L yX6_group cX6_group 7 (some .int) [] d 0 0 (fun v S' => v = some (.int (J x)) ∧ S1 = S') (fun _ _ => False) 18 (gl [(0, .ref (L 470)), (1, .int (J a1)), (2, .int (J a2)), (3, .int (J a3))]) [.int (J s0)] S 0 0
def P_X6_group_53 (l : Launch) (Z : XZ) (L : Nat → Nat) (n : Nat) : Prop := ∀ (d : Nat) (S : GS) (a1 : Int) (a2 : Int) (a3 : Int) (a4 : Int) (a5 : Int) (a6 : Int) (x : Int) (S1 : GS), f_X6_entry n d 10053 S [a1, a2, a3, a4, a5, a6] = some (x, S1) → GA l Z L yX6_group cX6_group 7 (some .int) [] d 0 0 (fun v S' => v = some (.int (J x)) ∧ S1 = S') (fun _ _ => False) 53 (gl [(0, .ref (L 470)), (1, .int (J a1)), (2, .int (J a2)), (3, .int (J a3)), (4, .int (J a4)), (5, .int (J a5)), (6, .int (J a6))]) [] S 0 0
def P_X6_group_99 (l : Launch) (Z : XZ) (L : Nat → Nat) (n : Nat) : Prop := ∀ (d : Nat) (S : GS) (a1 : Int) (a2 : Int) (a3 : Int) (a4 : Int) (a6 : Int) (x : Int) (S1 : GS), f_X6_entry n d 10099 S [a1, a2, a3, a4, a6] = some (x, S1) → GA l Z L yX6_group cX6_group 7 (some .int) [] d 0 0 (fun v S' => v = some (.int (J x)) ∧ S1 = S') (fun _ _ => False) 99 (gl [(0, .ref (L 470)), (1, .int (J a1)), (2, .int (J a2)), (3, .int (J a3)), (4, .int (J a4)), (6, .int (J a6))]) [] S 0 0
def P_X6_group_117 (l : Launch) (Z : XZ) (L : Nat → Nat) (n : Nat) : Prop := ∀ (d : Nat) (S : GS) (a1 : Int) (a2 : Int) (a3 : Int) (a4 : Int) (a6 : Int) (s0 : Int) (x : Int) (S1 : GS), f_X6_entry n d 10117 S [a1, a2, a3, a4, a6, s0] = some (x, S1) → GA l Z L yX6_group cX6_group 7 (some .int) [] d 0 0 (fun v S' => v = some (.int (J x)) ∧ S1 = S') (fun _ _ => False) 117 (gl [(0, .ref (L 470)), (1, .int (J a1)), (2, .int (J a2)), (3, .int (J a3)), (4, .int (J a4)), (6, .int (J a6))]) [.int (J s0)] S 0 0
def P_X6_group_136 (l : Launch) (Z : XZ) (L : Nat → Nat) (n : Nat) : Prop := ∀ (d : Nat) (S : GS) (a3 : Int) (a4 : Int) (x : Int) (S1 : GS), f_X6_entry n d 10136 S [a3, a4] = some (x, S1) → GA l Z L yX6_group cX6_group 7 (some .int) [] d 0 0 (fun v S' => v = some (.int (J x)) ∧ S1 = S') (fun _ _ => False) 136 (gl [(0, .ref (L 470)), (3, .int (J a3)), (4, .int (J a4))]) [] S 0 0
def P_X6_value_0 (l : Launch) (Z : XZ) (L : Nat → Nat) (n : Nat) : Prop := ∀ (d : Nat) (S : GS) (a1 : Int) (x : Int) (S1 : GS), f_X6_entry n d 20000 S [a1] = some (x, S1) → GA l Z L yX6_value cX6_value 3 (some .int) [] d 0 0 (fun v S' => v = some (.int (J x)) ∧ S1 = S') (fun _ _ => False) 0 (gl [(0, .ref (L 470)), (1, .int (J a1))]) [] S 0 0
def P_X6_value_54 (l : Launch) (Z : XZ) (L : Nat → Nat) (n : Nat) : Prop := ∀ (d : Nat) (S : GS) (a1 : Int) (a2 : Int) (x : Int) (S1 : GS), f_X6_entry n d 20054 S [a1, a2] = some (x, S1) → GA l Z L yX6_value cX6_value 3 (some .int) [] d 0 0 (fun v S' => v = some (.int (J x)) ∧ S1 = S') (fun _ _ => False) 54 (gl [(0, .ref (L 470)), (1, .int (J a1)), (2, .int (J a2))]) [] S 0 0
theorem i_X6_entry {l : Launch} {Z : XZ} {L : Nat → Nat} {n : Nat} (ih : P_X6_entry_0 l Z L n) {d : Nat} {S : GS} {a1 : Int} {a2 : Int} {x : Int} {S1 : GS} (H : f_X6_entry n d 0 S [a1, a2] = some (x, S1)) : GM l Z L yX6_entry cX6_entry 5 none [] d 0 0 [.ref (L 470), .int (J a1), .int (J a2)] S (fun v S' => v = none ∧ S1 = S') (fun _ _ => False) := GM.of (by decide) (Nat.le_of_ble_eq_true rfl) (ih _ _ _ _ _ _ H)
theorem i_X6_group {l : Launch} {Z : XZ} {L : Nat → Nat} {n : Nat} (ih : P_X6_group_0 l Z L n) {d : Nat} {S : GS} {a1 : Int} {a2 : Int} {x : Int} {S1 : GS} (H : f_X6_entry n d 10000 S [a1, a2] = some (x, S1)) : GM l Z L yX6_group cX6_group 7 (some .int) [] d 0 0 [.ref (L 470), .int (J a1), .int (J a2)] S (fun v S' => v = some (.int (J x)) ∧ S1 = S') (fun _ _ => False) := GM.of (by decide) (Nat.le_of_ble_eq_true rfl) (ih _ _ _ _ _ _ H)
theorem i_X6_value {l : Launch} {Z : XZ} {L : Nat → Nat} {n : Nat} (ih : P_X6_value_0 l Z L n) {d : Nat} {S : GS} {a1 : Int} {x : Int} {S1 : GS} (H : f_X6_entry n d 20000 S [a1] = some (x, S1)) : GM l Z L yX6_value cX6_value 3 (some .int) [] d 0 0 [.ref (L 470), .int (J a1)] S (fun v S' => v = some (.int (J x)) ∧ S1 = S') (fun _ _ => False) := GM.of (by decide) (Nat.le_of_ble_eq_true rfl) (ih _ _ _ _ _ H)
set_option maxHeartbeats 4000000 in
set_option maxRecDepth 20000 in
theorem t_X6_entry_0 {l : Launch} {Z : XZ} {L : Nat → Nat} (n : Nat) (ih_X6_entry_0 : P_X6_entry_0 l Z L n) (ih_X6_entry_65 : P_X6_entry_65 l Z L n) (ih_X6_entry_122 : P_X6_entry_122 l Z L n) (ih_X6_group_0 : P_X6_group_0 l Z L n) (ih_X6_group_18 : P_X6_group_18 l Z L n) (ih_X6_group_53 : P_X6_group_53 l Z L n) (ih_X6_group_99 : P_X6_group_99 l Z L n) (ih_X6_group_117 : P_X6_group_117 l Z L n) (ih_X6_group_136 : P_X6_group_136 l Z L n) (ih_X6_value_0 : P_X6_value_0 l Z L n) (ih_X6_value_54 : P_X6_value_54 l Z L n) : P_X6_entry_0 l Z L (n + 1) := by
  intro d S a1 a2 x S1 H
  have H : b_X6_entry_0 n d (f_X6_entry n) S a1 a2 = some (x, S1) := H
  unfold b_X6_entry_0 at H
  refine GA.aload_n dX6_entry_0 rfl ?_
  obtain ⟨hg1, H⟩ := gg_e H
  obtain ⟨x2, S_3, hc4, H⟩ := gc_e H
  refine GA.callV (m_X6_skipBlanks hc4) xs_X6_60 dX6_entry_1 gs_470 (by decide) rfl rfl (by omega) (by decide) rfl (Nat.le_of_ble_eq_true rfl) (by omega) (by omega) rfl (fun E S9 hx => hx.elim) (fun v S9 hq => ?_)
  obtain ⟨rfl, rfl⟩ := hq
  refine GA.aload_n dX6_entry_4 rfl ?_
  refine GA.aload_n dX6_entry_5 rfl ?_
  refine GA.get xf_X6_26 dX6_entry_6 gs_470 (by decide) rfl ?_
  refine GA.bipush dX6_entry_9 rfl ?_
  obtain ⟨x5, S_6, hc7, H⟩ := gc_e H
  refine GA.callV (m_X6_readSigns hc7) xs_X6_131 dX6_entry_11 gs_470 (by decide) rfl rfl (by omega) (by decide) rfl (Nat.le_of_ble_eq_true rfl) (by omega) (by omega) rfl (fun E S9 hx => hx.elim) (fun v S9 hq => ?_)
  obtain ⟨rfl, rfl⟩ := hq
  refine GA.aload_n dX6_entry_14 rfl ?_
  refine GA.get xf_X6_12 dX6_entry_15 gs_470 (by decide) rfl ?_
  refine GA.iload_n dX6_entry_18 rfl ?_
  obtain ⟨x8, S_9, hc10, H⟩ := gc_e H
  refine GA.callV (m_X10_close hc10) xs_X6_163 dX6_entry_19 (gsT (by decide)) (by decide) rfl rfl (by omega) (by decide) rfl (Nat.le_of_ble_eq_true rfl) (by omega) (by omega) rfl (fun E S9 hx => hx.elim) (fun v S9 hq => ?_)
  obtain ⟨rfl, rfl⟩ := hq
  refine GA.aload_n dX6_entry_22 rfl ?_
  refine GA.get xf_X6_12 dX6_entry_23 gs_470 (by decide) rfl ?_
  refine GA.iload_n dX6_entry_26 rfl ?_
  refine GA.aload_n dX6_entry_27 rfl ?_
  refine GA.get xf_X6_26 dX6_entry_28 gs_470 (by decide) rfl ?_
  obtain ⟨x11, S_12, hc13, H⟩ := gc_e H
  refine GA.callV (m_X10_valueOf hc13) xs_X6_166 dX6_entry_31 (gsT (by decide)) (by decide) rfl rfl (by omega) (by decide) rfl (Nat.le_of_ble_eq_true rfl) (by omega) (by omega) rfl (fun E S9 hx => hx.elim) (fun v S9 hq => ?_)
  obtain ⟨rfl, rfl⟩ := hq
  refine GA.istore_n dX6_entry_34 (by decide) ?_
  refine GA.aload_n dX6_entry_35 rfl ?_
  obtain ⟨x14, S_15, hc16, H⟩ := gc_e H
  refine GA.callV (m_X6_goesOn hc16) xs_X6_120 dX6_entry_36 gs_470 (by decide) rfl rfl (by omega) (by decide) rfl (Nat.le_of_ble_eq_true rfl) (by omega) (by omega) rfl (fun E S9 hx => hx.elim) (fun v S9 hq => ?_)
  obtain ⟨rfl, rfl⟩ := hq
  obtain ⟨hg17, H⟩ := gg_e H
  refine GV.if_eq (tgt := 65) hg17 dX6_entry_39 (by decide) (fun c18 => ?_) (fun c18 => ?_)
  · have H := it_t H c18
    refine GA.locals [(0, .ref (L 470)), (2, .int (J a2)), (3, .int (J x11))] ⟨rfl, rfl, rfl, trivial⟩ ?_
    exact ih_X6_entry_65 _ _ (a2) (x11) _ _ H
  · have H := it_f H c18
    refine GA.iload_n dX6_entry_42 rfl ?_
    refine GA.iconst dX6_entry_43 ?_
    obtain ⟨hg19, H⟩ := gg_e H
    refine GV.icmp_eq (tgt := 65) hg19 (by decide) dX6_entry_44 (by decide) (fun c20 => ?_) (fun c20 => ?_)
    · have H := it_t H c20
      refine GA.locals [(0, .ref (L 470)), (2, .int (J a2)), (3, .int (J x11))] ⟨rfl, rfl, rfl, trivial⟩ ?_
      exact ih_X6_entry_65 _ _ (a2) (x11) _ _ H
    · have H := it_f H c20
      refine GA.aload_n dX6_entry_47 rfl ?_
      obtain ⟨x21, hx22, H⟩ := gv_e H
      refine GV.getI hx22 xf_X6_39 dX6_entry_48 gs_470 (by decide) rfl ?_
      obtain ⟨hg23, H⟩ := gg_e H
      refine GV.if_ne (tgt := 65) hg23 dX6_entry_51 (by decide) (fun c24 => ?_) (fun c24 => ?_)
      · have H := it_t H c24
        refine GA.locals [(0, .ref (L 470)), (2, .int (J a2)), (3, .int (J x11))] ⟨rfl, rfl, rfl, trivial⟩ ?_
        exact ih_X6_entry_65 _ _ (a2) (x11) _ _ H
      · have H := it_f H c24
        refine GA.aload_n dX6_entry_54 rfl ?_
        refine GA.aload_n dX6_entry_55 rfl ?_
        obtain ⟨x25, hx26, H⟩ := gv_e H
        refine GV.getI hx26 xf_X6_43 dX6_entry_56 gs_470 (by decide) rfl ?_
        refine GA.iconst dX6_entry_59 ?_
        obtain ⟨x27, hx28, H⟩ := gv_e H
        refine GV.isub hx28 dX6_entry_60 ?_
        obtain ⟨x29, S_30, hc31, H⟩ := gc_e H
        refine GA.callV (m_X6_fail hc31) xs_X6_67 dX6_entry_61 gs_470 (by decide) rfl rfl (by omega) (by decide) rfl (Nat.le_of_ble_eq_true rfl) (by omega) (by omega) rfl (fun E S9 hx => hx.elim) (fun v S9 hq => ?_)
        obtain ⟨rfl, rfl⟩ := hq
        refine GA.pop dX6_entry_64 rfl ?_
        refine GA.locals [(0, .ref (L 470)), (2, .int (J a2)), (3, .int (J x11))] ⟨rfl, rfl, rfl, trivial⟩ ?_
        exact ih_X6_entry_65 _ _ (a2) (x11) _ _ H
set_option maxHeartbeats 4000000 in
set_option maxRecDepth 20000 in
theorem t_X6_entry_65 {l : Launch} {Z : XZ} {L : Nat → Nat} (n : Nat) (ih_X6_entry_0 : P_X6_entry_0 l Z L n) (ih_X6_entry_65 : P_X6_entry_65 l Z L n) (ih_X6_entry_122 : P_X6_entry_122 l Z L n) (ih_X6_group_0 : P_X6_group_0 l Z L n) (ih_X6_group_18 : P_X6_group_18 l Z L n) (ih_X6_group_53 : P_X6_group_53 l Z L n) (ih_X6_group_99 : P_X6_group_99 l Z L n) (ih_X6_group_117 : P_X6_group_117 l Z L n) (ih_X6_group_136 : P_X6_group_136 l Z L n) (ih_X6_value_0 : P_X6_value_0 l Z L n) (ih_X6_value_54 : P_X6_value_54 l Z L n) : P_X6_entry_65 l Z L (n + 1) := by
  intro d S a2 a3 x S1 H
  have H : b_X6_entry_65 n d (f_X6_entry n) S a2 a3 = some (x, S1) := H
  unfold b_X6_entry_65 at H
  refine GA.aload_n dX6_entry_65 rfl ?_
  obtain ⟨hg1, H⟩ := gg_e H
  obtain ⟨x2, S_3, hc4, H⟩ := gc_e H
  refine GA.callV (m_X6_skipBlanks hc4) xs_X6_60 dX6_entry_66 gs_470 (by decide) rfl rfl (by omega) (by decide) rfl (Nat.le_of_ble_eq_true rfl) (by omega) (by omega) rfl (fun E S9 hx => hx.elim) (fun v S9 hq => ?_)
  obtain ⟨rfl, rfl⟩ := hq
  refine GA.aload_n dX6_entry_69 rfl ?_
  refine GA.bipush dX6_entry_70 rfl ?_
  obtain ⟨x5, S_6, hc7, H⟩ := gc_e H
  refine GA.callV (m_X6_pass hc7) xs_X6_128 dX6_entry_72 gs_470 (by decide) rfl rfl (by omega) (by decide) rfl (Nat.le_of_ble_eq_true rfl) (by omega) (by omega) rfl (fun E S9 hx => hx.elim) (fun v S9 hq => ?_)
  obtain ⟨rfl, rfl⟩ := hq
  refine GA.aload_n dX6_entry_75 rfl ?_
  obtain ⟨x8, S_9, hc10, H⟩ := gc_e H
  refine GA.callV (m_X6_goesOn hc10) xs_X6_120 dX6_entry_76 gs_470 (by decide) rfl rfl (by omega) (by decide) rfl (Nat.le_of_ble_eq_true rfl) (by omega) (by omega) rfl (fun E S9 hx => hx.elim) (fun v S9 hq => ?_)
  obtain ⟨rfl, rfl⟩ := hq
  obtain ⟨hg11, H⟩ := gg_e H
  refine GV.if_ne (tgt := 83) hg11 dX6_entry_79 (by decide) (fun c12 => ?_) (fun c12 => ?_)
  · have H := it_t H c12
    refine GA.aload_n dX6_entry_83 rfl ?_
    refine GA.iload_n dX6_entry_84 rfl ?_
    obtain ⟨x13, S_14, hc15, H⟩ := gc_e H
    refine GA.callV (i_X6_value ih_X6_value_0 hc15) xs_X6_56 dX6_entry_85 gs_470 (by decide) rfl rfl (by omega) (by decide) rfl (Nat.le_of_ble_eq_true rfl) (by omega) (by omega) rfl (fun E S9 hx => hx.elim) (fun v S9 hq => ?_)
    obtain ⟨rfl, rfl⟩ := hq
    refine GA.istore dX6_entry_88 (by decide) ?_
    refine GA.aload_n dX6_entry_90 rfl ?_
    obtain ⟨x16, S_17, hc18, H⟩ := gc_e H
    refine GA.callV (m_X6_goesOn hc18) xs_X6_120 dX6_entry_91 gs_470 (by decide) rfl rfl (by omega) (by decide) rfl (Nat.le_of_ble_eq_true rfl) (by omega) (by omega) rfl (fun E S9 hx => hx.elim) (fun v S9 hq => ?_)
    obtain ⟨rfl, rfl⟩ := hq
    obtain ⟨hg19, H⟩ := gg_e H
    refine GV.if_eq (tgt := 122) hg19 dX6_entry_94 (by decide) (fun c20 => ?_) (fun c20 => ?_)
    · have H := it_t H c20
      refine GA.locals [(0, .ref (L 470)), (3, .int (J a3)), (4, .int (J x13))] ⟨rfl, rfl, rfl, trivial⟩ ?_
      exact ih_X6_entry_122 _ _ (a3) (x13) _ _ H
    · have H := it_f H c20
      refine GA.iload_n dX6_entry_97 rfl ?_
      refine GA.iconst dX6_entry_98 ?_
      obtain ⟨hg21, H⟩ := gg_e H
      refine GV.icmp_eq (tgt := 122) hg21 (by decide) dX6_entry_99 (by decide) (fun c22 => ?_) (fun c22 => ?_)
      · have H := it_t H c22
        refine GA.locals [(0, .ref (L 470)), (3, .int (J a3)), (4, .int (J x13))] ⟨rfl, rfl, rfl, trivial⟩ ?_
        exact ih_X6_entry_122 _ _ (a3) (x13) _ _ H
      · have H := it_f H c22
        refine GA.aload_n dX6_entry_102 rfl ?_
        obtain ⟨x23, hx24, H⟩ := gv_e H
        refine GV.getI hx24 xf_X6_39 dX6_entry_103 gs_470 (by decide) rfl ?_
        refine GA.iconst dX6_entry_106 ?_
        obtain ⟨hg25, H⟩ := gg_e H
        refine GV.icmp_ne (tgt := 122) hg25 (by decide) dX6_entry_107 (by decide) (fun c26 => ?_) (fun c26 => ?_)
        · have H := it_t H c26
          refine GA.locals [(0, .ref (L 470)), (3, .int (J a3)), (4, .int (J x13))] ⟨rfl, rfl, rfl, trivial⟩ ?_
          exact ih_X6_entry_122 _ _ (a3) (x13) _ _ H
        · have H := it_f H c26
          refine GA.aload_n dX6_entry_110 rfl ?_
          refine GA.get xf_X6_12 dX6_entry_111 gs_470 (by decide) rfl ?_
          refine GA.iload dX6_entry_114 rfl ?_
          obtain ⟨x27, S_28, hc29, H⟩ := gc_e H
          refine GA.callV (m_X10_dropFrom hc29) xs_X6_170 dX6_entry_116 (gsT (by decide)) (by decide) rfl rfl (by omega) (by decide) rfl (Nat.le_of_ble_eq_true rfl) (by omega) (by omega) rfl (fun E S9 hx => hx.elim) (fun v S9 hq => ?_)
          obtain ⟨rfl, rfl⟩ := hq
          refine GA.goto (tgt := 148) dX6_entry_119 (by decide) ?_
          cases H
          exact GA.vret rfl dX6_entry_148 (by omega) (by omega) ⟨rfl, rfl⟩
  · have H := it_f H c12
    cases H
    exact GA.vret rfl dX6_entry_82 (by omega) (by omega) ⟨rfl, rfl⟩
set_option maxHeartbeats 4000000 in
set_option maxRecDepth 20000 in
theorem t_X6_entry_122 {l : Launch} {Z : XZ} {L : Nat → Nat} (n : Nat) (ih_X6_entry_0 : P_X6_entry_0 l Z L n) (ih_X6_entry_65 : P_X6_entry_65 l Z L n) (ih_X6_entry_122 : P_X6_entry_122 l Z L n) (ih_X6_group_0 : P_X6_group_0 l Z L n) (ih_X6_group_18 : P_X6_group_18 l Z L n) (ih_X6_group_53 : P_X6_group_53 l Z L n) (ih_X6_group_99 : P_X6_group_99 l Z L n) (ih_X6_group_117 : P_X6_group_117 l Z L n) (ih_X6_group_136 : P_X6_group_136 l Z L n) (ih_X6_value_0 : P_X6_value_0 l Z L n) (ih_X6_value_54 : P_X6_value_54 l Z L n) : P_X6_entry_122 l Z L (n + 1) := by
  intro d S a3 a4 x S1 H
  have H : b_X6_entry_122 n d (f_X6_entry n) S a3 a4 = some (x, S1) := H
  unfold b_X6_entry_122 at H
  refine GA.aload_n dX6_entry_122 rfl ?_
  obtain ⟨hg1, H⟩ := gg_e H
  obtain ⟨x2, S_3, hc4, H⟩ := gc_e H
  refine GA.callV (m_X6_goesOn hc4) xs_X6_120 dX6_entry_123 gs_470 (by decide) rfl rfl (by omega) (by decide) rfl (Nat.le_of_ble_eq_true rfl) (by omega) (by omega) rfl (fun E S9 hx => hx.elim) (fun v S9 hq => ?_)
  obtain ⟨rfl, rfl⟩ := hq
  obtain ⟨hg5, H⟩ := gg_e H
  refine GV.if_eq (tgt := 148) hg5 dX6_entry_126 (by decide) (fun c6 => ?_) (fun c6 => ?_)
  · have H := it_t H c6
    cases H
    exact GA.vret rfl dX6_entry_148 (by omega) (by omega) ⟨rfl, rfl⟩
  · have H := it_f H c6
    refine GA.iload_n dX6_entry_129 rfl ?_
    refine GA.iconst dX6_entry_130 ?_
    obtain ⟨hg7, H⟩ := gg_e H
    refine GV.icmp_eq (tgt := 148) hg7 (by decide) dX6_entry_131 (by decide) (fun c8 => ?_) (fun c8 => ?_)
    · have H := it_t H c8
      cases H
      exact GA.vret rfl dX6_entry_148 (by omega) (by omega) ⟨rfl, rfl⟩
    · have H := it_f H c8
      refine GA.aload_n dX6_entry_134 rfl ?_
      refine GA.get xf_X6_12 dX6_entry_135 gs_470 (by decide) rfl ?_
      refine GA.iload_n dX6_entry_138 rfl ?_
      refine GA.iload dX6_entry_139 rfl ?_
      refine GA.aload_n dX6_entry_141 rfl ?_
      refine GA.get xf_X6_18 dX6_entry_142 gs_470 (by decide) rfl ?_
      obtain ⟨x9, S_10, hc11, H⟩ := gc_e H
      refine GA.callV (m_X10_replaceByLast hc11) xs_X6_173 dX6_entry_145 (gsT (by decide)) (by decide) rfl rfl (by omega) (by decide) rfl (Nat.le_of_ble_eq_true rfl) (by omega) (by omega) rfl (fun E S9 hx => hx.elim) (fun v S9 hq => ?_)
      obtain ⟨rfl, rfl⟩ := hq
      cases H
      exact GA.vret rfl dX6_entry_148 (by omega) (by omega) ⟨rfl, rfl⟩
set_option maxHeartbeats 4000000 in
set_option maxRecDepth 20000 in
theorem t_X6_group_0 {l : Launch} {Z : XZ} {L : Nat → Nat} (n : Nat) (ih_X6_entry_0 : P_X6_entry_0 l Z L n) (ih_X6_entry_65 : P_X6_entry_65 l Z L n) (ih_X6_entry_122 : P_X6_entry_122 l Z L n) (ih_X6_group_0 : P_X6_group_0 l Z L n) (ih_X6_group_18 : P_X6_group_18 l Z L n) (ih_X6_group_53 : P_X6_group_53 l Z L n) (ih_X6_group_99 : P_X6_group_99 l Z L n) (ih_X6_group_117 : P_X6_group_117 l Z L n) (ih_X6_group_136 : P_X6_group_136 l Z L n) (ih_X6_value_0 : P_X6_value_0 l Z L n) (ih_X6_value_54 : P_X6_value_54 l Z L n) : P_X6_group_0 l Z L (n + 1) := by
  intro d S a1 a2 x S1 H
  have H : b_X6_group_0 n d (f_X6_entry n) S a1 a2 = some (x, S1) := H
  unfold b_X6_group_0 at H
  refine GA.aload_n dX6_group_0 rfl ?_
  refine GA.iload_n dX6_group_1 rfl ?_
  obtain ⟨hg1, H⟩ := gg_e H
  obtain ⟨x2, S_3, hc4, H⟩ := gc_e H
  refine GA.callV (m_X6_begin hc4) xs_X6_106 dX6_group_2 gs_470 (by decide) rfl rfl (by omega) (by decide) rfl (Nat.le_of_ble_eq_true rfl) (by omega) (by omega) rfl (fun E S9 hx => hx.elim) (fun v S9 hq => ?_)
  obtain ⟨rfl, rfl⟩ := hq
  refine GA.istore_n dX6_group_5 (by decide) ?_
  refine GA.iload_n dX6_group_6 rfl ?_
  refine GA.iconst dX6_group_7 ?_
  obtain ⟨hg5, H⟩ := gg_e H
  refine GV.icmp_ne (tgt := 16) hg5 (by decide) dX6_group_8 (by decide) (fun c6 => ?_) (fun c6 => ?_)
  · have H := it_t H c6
    refine GA.bipush dX6_group_16 rfl ?_
    refine GA.locals [(0, .ref (L 470)), (1, .int (J a1)), (2, .int (J a2)), (3, .int (J x2))] ⟨rfl, rfl, rfl, rfl, trivial⟩ ?_
    exact ih_X6_group_18 _ _ (a1) (a2) (x2) (125) _ _ H
  · have H := it_f H c6
    refine GA.bipush dX6_group_11 rfl ?_
    refine GA.goto (tgt := 18) dX6_group_13 (by decide) ?_
    refine GA.locals [(0, .ref (L 470)), (1, .int (J a1)), (2, .int (J a2)), (3, .int (J x2))] ⟨rfl, rfl, rfl, rfl, trivial⟩ ?_
    exact ih_X6_group_18 _ _ (a1) (a2) (x2) (93) _ _ H
set_option maxHeartbeats 4000000 in
set_option maxRecDepth 20000 in
theorem t_X6_group_18 {l : Launch} {Z : XZ} {L : Nat → Nat} (n : Nat) (ih_X6_entry_0 : P_X6_entry_0 l Z L n) (ih_X6_entry_65 : P_X6_entry_65 l Z L n) (ih_X6_entry_122 : P_X6_entry_122 l Z L n) (ih_X6_group_0 : P_X6_group_0 l Z L n) (ih_X6_group_18 : P_X6_group_18 l Z L n) (ih_X6_group_53 : P_X6_group_53 l Z L n) (ih_X6_group_99 : P_X6_group_99 l Z L n) (ih_X6_group_117 : P_X6_group_117 l Z L n) (ih_X6_group_136 : P_X6_group_136 l Z L n) (ih_X6_value_0 : P_X6_value_0 l Z L n) (ih_X6_value_54 : P_X6_value_54 l Z L n) : P_X6_group_18 l Z L (n + 1) := by
  intro d S a1 a2 a3 s0 x S1 H
  have H : b_X6_group_18 n d (f_X6_entry n) S a1 a2 a3 s0 = some (x, S1) := H
  unfold b_X6_group_18 at H
  refine GA.istore dX6_group_18 (by decide) ?_
  refine GA.aload_n dX6_group_20 rfl ?_
  refine GA.dup dX6_group_21 rfl ?_
  obtain ⟨x1, hx2, H⟩ := gv_e H
  refine GV.getI hx2 xf_X6_43 dX6_group_22 gs_470 (by decide) rfl ?_
  refine GA.iconst dX6_group_25 ?_
  obtain ⟨x3, hx4, H⟩ := gv_e H
  refine GV.iadd hx4 dX6_group_26 ?_
  obtain ⟨S_5, hx6, H⟩ := gv_e H
  refine GV.putI hx6 (xp_X6_43 _) dX6_group_27 gs_470 (by decide) (Nat.le_of_ble_eq_true rfl) gs_470 ?_
  refine GA.aload_n dX6_group_30 rfl ?_
  obtain ⟨hg7, H⟩ := gg_e H
  obtain ⟨x8, S_9, hc10, H⟩ := gc_e H
  refine GA.callV (m_X6_skipBlanks hc10) xs_X6_60 dX6_group_31 gs_470 (by decide) rfl rfl (by omega) (by decide) rfl (Nat.le_of_ble_eq_true rfl) (by omega) (by omega) rfl (fun E S9 hx => hx.elim) (fun v S9 hq => ?_)
  obtain ⟨rfl, rfl⟩ := hq
  refine GA.aload_n dX6_group_34 rfl ?_
  obtain ⟨x11, S_12, hc13, H⟩ := gc_e H
  refine GA.callV (m_X6_here hc13) xs_X6_63 dX6_group_35 gs_470 (by decide) rfl rfl (by omega) (by decide) rfl (Nat.le_of_ble_eq_true rfl) (by omega) (by omega) rfl (fun E S9 hx => hx.elim) (fun v S9 hq => ?_)
  obtain ⟨rfl, rfl⟩ := hq
  refine GA.iload dX6_group_38 rfl ?_
  obtain ⟨hg14, H⟩ := gg_e H
  obtain ⟨hg15, H⟩ := gg_e H
  refine GV.icmp_ne (tgt := 47) hg14 hg15 dX6_group_40 (by decide) (fun c16 => ?_) (fun c16 => ?_)
  · have H := it_t H c16
    refine GA.iconst dX6_group_47 ?_
    refine GA.istore dX6_group_48 (by decide) ?_
    refine GA.iconst dX6_group_50 ?_
    refine GA.istore dX6_group_51 (by decide) ?_
    refine GA.locals [(0, .ref (L 470)), (1, .int (J a1)), (2, .int (J a2)), (3, .int (J a3)), (4, .int (J s0)), (5, .int (J 0)), (6, .int (J 0))] ⟨rfl, rfl, rfl, rfl, rfl, rfl, rfl, trivial⟩ ?_
    exact ih_X6_group_53 _ _ (a1) (a2) (a3) (s0) (0) (0) _ _ H
  · have H := it_f H c16
    refine GA.iconst dX6_group_43 ?_
    refine GA.goto (tgt := 48) dX6_group_44 (by decide) ?_
    refine GA.istore dX6_group_48 (by decide) ?_
    refine GA.iconst dX6_group_50 ?_
    refine GA.istore dX6_group_51 (by decide) ?_
    refine GA.locals [(0, .ref (L 470)), (1, .int (J a1)), (2, .int (J a2)), (3, .int (J a3)), (4, .int (J s0)), (5, .int (J 1)), (6, .int (J 0))] ⟨rfl, rfl, rfl, rfl, rfl, rfl, rfl, trivial⟩ ?_
    exact ih_X6_group_53 _ _ (a1) (a2) (a3) (s0) (1) (0) _ _ H
set_option maxHeartbeats 4000000 in
set_option maxRecDepth 20000 in
theorem t_X6_group_53 {l : Launch} {Z : XZ} {L : Nat → Nat} (n : Nat) (ih_X6_entry_0 : P_X6_entry_0 l Z L n) (ih_X6_entry_65 : P_X6_entry_65 l Z L n) (ih_X6_entry_122 : P_X6_entry_122 l Z L n) (ih_X6_group_0 : P_X6_group_0 l Z L n) (ih_X6_group_18 : P_X6_group_18 l Z L n) (ih_X6_group_53 : P_X6_group_53 l Z L n) (ih_X6_group_99 : P_X6_group_99 l Z L n) (ih_X6_group_117 : P_X6_group_117 l Z L n) (ih_X6_group_136 : P_X6_group_136 l Z L n) (ih_X6_value_0 : P_X6_value_0 l Z L n) (ih_X6_value_54 : P_X6_value_54 l Z L n) : P_X6_group_53 l Z L (n + 1) := by
  intro d S a1 a2 a3 a4 a5 a6 x S1 H
  have H : b_X6_group_53 n d (f_X6_entry n) S a1 a2 a3 a4 a5 a6 = some (x, S1) := H
  unfold b_X6_group_53 at H
  refine GA.iload dX6_group_53 rfl ?_
  refine GA.bipush dX6_group_55 rfl ?_
  obtain ⟨hg1, H⟩ := gg_e H
  refine GV.icmp_gt (tgt := 136) hg1 (by decide) dX6_group_57 (by decide) (fun c2 => ?_) (fun c2 => ?_)
  · have H := it_t H c2
    refine GA.locals [(0, .ref (L 470)), (3, .int (J a3)), (4, .int (J a4))] ⟨rfl, rfl, rfl, trivial⟩ ?_
    exact ih_X6_group_136 _ _ (a3) (a4) _ _ H
  · have H := it_f H c2
    refine GA.iload dX6_group_60 rfl ?_
    obtain ⟨hg3, H⟩ := gg_e H
    refine GV.if_ne (tgt := 136) hg3 dX6_group_62 (by decide) (fun c4 => ?_) (fun c4 => ?_)
    · have H := it_t H c4
      refine GA.locals [(0, .ref (L 470)), (3, .int (J a3)), (4, .int (J a4))] ⟨rfl, rfl, rfl, trivial⟩ ?_
      exact ih_X6_group_136 _ _ (a3) (a4) _ _ H
    · have H := it_f H c4
      refine GA.aload_n dX6_group_65 rfl ?_
      obtain ⟨hg5, H⟩ := gg_e H
      obtain ⟨x6, S_7, hc8, H⟩ := gc_e H
      refine GA.callV (m_X6_goesOn hc8) xs_X6_120 dX6_group_66 gs_470 (by decide) rfl rfl (by omega) (by decide) rfl (Nat.le_of_ble_eq_true rfl) (by omega) (by omega) rfl (fun E S9 hx => hx.elim) (fun v S9 hq => ?_)
      obtain ⟨rfl, rfl⟩ := hq
      obtain ⟨hg9, H⟩ := gg_e H
      refine GV.if_eq (tgt := 136) hg9 dX6_group_69 (by decide) (fun c10 => ?_) (fun c10 => ?_)
      · have H := it_t H c10
        refine GA.locals [(0, .ref (L 470)), (3, .int (J a3)), (4, .int (J a4))] ⟨rfl, rfl, rfl, trivial⟩ ?_
        exact ih_X6_group_136 _ _ (a3) (a4) _ _ H
      · have H := it_f H c10
        refine GA.iload_n dX6_group_72 rfl ?_
        refine GA.iconst dX6_group_73 ?_
        obtain ⟨hg11, H⟩ := gg_e H
        refine GV.icmp_ne (tgt := 93) hg11 (by decide) dX6_group_74 (by decide) (fun c12 => ?_) (fun c12 => ?_)
        · have H := it_t H c12
          refine GA.aload_n dX6_group_93 rfl ?_
          refine GA.iload_n dX6_group_94 rfl ?_
          refine GA.iload_n dX6_group_95 rfl ?_
          obtain ⟨x13, S_14, hc15, H⟩ := gc_e H
          refine GA.callV (i_X6_entry ih_X6_entry_0 hc15) xs_X6_160 dX6_group_96 gs_470 (by decide) rfl rfl (by omega) (by decide) rfl (Nat.le_of_ble_eq_true rfl) (by omega) (by omega) rfl (fun E S9 hx => hx.elim) (fun v S9 hq => ?_)
          obtain ⟨rfl, rfl⟩ := hq
          refine GA.locals [(0, .ref (L 470)), (1, .int (J a1)), (2, .int (J a2)), (3, .int (J a3)), (4, .int (J a4)), (6, .int (J a6))] ⟨rfl, rfl, rfl, rfl, rfl, rfl, trivial⟩ ?_
          exact ih_X6_group_99 _ _ (a1) (a2) (a3) (a4) (a6) _ _ H
        · have H := it_f H c12
          refine GA.aload_n dX6_group_77 rfl ?_
          refine GA.get xf_X6_26 dX6_group_78 gs_470 (by decide) rfl ?_
          obtain ⟨x16, S_17, hc18, H⟩ := gc_e H
          refine GA.callV (m_X9_clear hc18) xs_X6_55 dX6_group_81 (gsS (by decide)) (by decide) rfl rfl (by omega) (by decide) rfl (Nat.le_of_ble_eq_true rfl) (by omega) (by omega) rfl (fun E S9 hx => hx.elim) (fun v S9 hq => ?_)
          obtain ⟨rfl, rfl⟩ := hq
          refine GA.aload_n dX6_group_84 rfl ?_
          refine GA.iload_n dX6_group_85 rfl ?_
          obtain ⟨x19, S_20, hc21, H⟩ := gc_e H
          refine GA.callV (i_X6_value ih_X6_value_0 hc21) xs_X6_56 dX6_group_86 gs_470 (by decide) rfl rfl (by omega) (by decide) rfl (Nat.le_of_ble_eq_true rfl) (by omega) (by omega) rfl (fun E S9 hx => hx.elim) (fun v S9 hq => ?_)
          obtain ⟨rfl, rfl⟩ := hq
          refine GA.pop dX6_group_89 rfl ?_
          refine GA.goto (tgt := 99) dX6_group_90 (by decide) ?_
          refine GA.locals [(0, .ref (L 470)), (1, .int (J a1)), (2, .int (J a2)), (3, .int (J a3)), (4, .int (J a4)), (6, .int (J a6))] ⟨rfl, rfl, rfl, rfl, rfl, rfl, trivial⟩ ?_
          exact ih_X6_group_99 _ _ (a1) (a2) (a3) (a4) (a6) _ _ H
set_option maxHeartbeats 4000000 in
set_option maxRecDepth 20000 in
theorem t_X6_group_99 {l : Launch} {Z : XZ} {L : Nat → Nat} (n : Nat) (ih_X6_entry_0 : P_X6_entry_0 l Z L n) (ih_X6_entry_65 : P_X6_entry_65 l Z L n) (ih_X6_entry_122 : P_X6_entry_122 l Z L n) (ih_X6_group_0 : P_X6_group_0 l Z L n) (ih_X6_group_18 : P_X6_group_18 l Z L n) (ih_X6_group_53 : P_X6_group_53 l Z L n) (ih_X6_group_99 : P_X6_group_99 l Z L n) (ih_X6_group_117 : P_X6_group_117 l Z L n) (ih_X6_group_136 : P_X6_group_136 l Z L n) (ih_X6_value_0 : P_X6_value_0 l Z L n) (ih_X6_value_54 : P_X6_value_54 l Z L n) : P_X6_group_99 l Z L (n + 1) := by
  intro d S a1 a2 a3 a4 a6 x S1 H
  have H : b_X6_group_99 n d (f_X6_entry n) S a1 a2 a3 a4 a6 = some (x, S1) := H
  unfold b_X6_group_99 at H
  refine GA.aload_n dX6_group_99 rfl ?_
  obtain ⟨hg1, H⟩ := gg_e H
  obtain ⟨x2, S_3, hc4, H⟩ := gc_e H
  refine GA.callV (m_X6_skipBlanks hc4) xs_X6_60 dX6_group_100 gs_470 (by decide) rfl rfl (by omega) (by decide) rfl (Nat.le_of_ble_eq_true rfl) (by omega) (by omega) rfl (fun E S9 hx => hx.elim) (fun v S9 hq => ?_)
  obtain ⟨rfl, rfl⟩ := hq
  refine GA.aload_n dX6_group_103 rfl ?_
  obtain ⟨x5, S_6, hc7, H⟩ := gc_e H
  refine GA.callV (m_X6_here hc7) xs_X6_63 dX6_group_104 gs_470 (by decide) rfl rfl (by omega) (by decide) rfl (Nat.le_of_ble_eq_true rfl) (by omega) (by omega) rfl (fun E S9 hx => hx.elim) (fun v S9 hq => ?_)
  obtain ⟨rfl, rfl⟩ := hq
  refine GA.iload dX6_group_107 rfl ?_
  obtain ⟨hg8, H⟩ := gg_e H
  obtain ⟨hg9, H⟩ := gg_e H
  refine GV.icmp_ne (tgt := 116) hg8 hg9 dX6_group_109 (by decide) (fun c10 => ?_) (fun c10 => ?_)
  · have H := it_t H c10
    refine GA.iconst dX6_group_116 ?_
    refine GA.locals [(0, .ref (L 470)), (1, .int (J a1)), (2, .int (J a2)), (3, .int (J a3)), (4, .int (J a4)), (6, .int (J a6))] ⟨rfl, rfl, rfl, rfl, rfl, rfl, trivial⟩ ?_
    exact ih_X6_group_117 _ _ (a1) (a2) (a3) (a4) (a6) (0) _ _ H
  · have H := it_f H c10
    refine GA.iconst dX6_group_112 ?_
    refine GA.goto (tgt := 117) dX6_group_113 (by decide) ?_
    refine GA.locals [(0, .ref (L 470)), (1, .int (J a1)), (2, .int (J a2)), (3, .int (J a3)), (4, .int (J a4)), (6, .int (J a6))] ⟨rfl, rfl, rfl, rfl, rfl, rfl, trivial⟩ ?_
    exact ih_X6_group_117 _ _ (a1) (a2) (a3) (a4) (a6) (1) _ _ H
set_option maxHeartbeats 4000000 in
set_option maxRecDepth 20000 in
theorem t_X6_group_117 {l : Launch} {Z : XZ} {L : Nat → Nat} (n : Nat) (ih_X6_entry_0 : P_X6_entry_0 l Z L n) (ih_X6_entry_65 : P_X6_entry_65 l Z L n) (ih_X6_entry_122 : P_X6_entry_122 l Z L n) (ih_X6_group_0 : P_X6_group_0 l Z L n) (ih_X6_group_18 : P_X6_group_18 l Z L n) (ih_X6_group_53 : P_X6_group_53 l Z L n) (ih_X6_group_99 : P_X6_group_99 l Z L n) (ih_X6_group_117 : P_X6_group_117 l Z L n) (ih_X6_group_136 : P_X6_group_136 l Z L n) (ih_X6_value_0 : P_X6_value_0 l Z L n) (ih_X6_value_54 : P_X6_value_54 l Z L n) : P_X6_group_117 l Z L (n + 1) := by
  intro d S a1 a2 a3 a4 a6 s0 x S1 H
  have H : b_X6_group_117 n d (f_X6_entry n) S a1 a2 a3 a4 a6 s0 = some (x, S1) := H
  unfold b_X6_group_117 at H
  refine GA.istore dX6_group_117 (by decide) ?_
  refine GA.iload dX6_group_119 rfl ?_
  obtain ⟨hg1, H⟩ := gg_e H
  refine GV.if_ne (tgt := 130) hg1 dX6_group_121 (by decide) (fun c2 => ?_) (fun c2 => ?_)
  · have H := it_t H c2
    obtain ⟨x3, hx4, H⟩ := gv_e H
    refine GV.iinc hx4 dX6_group_130 rfl (by decide) ?_
    refine GA.goto (tgt := 53) dX6_group_133 (by decide) ?_
    refine GA.locals [(0, .ref (L 470)), (1, .int (J a1)), (2, .int (J a2)), (3, .int (J a3)), (4, .int (J a4)), (5, .int (J s0)), (6, .int (J x3))] ⟨rfl, rfl, rfl, rfl, rfl, rfl, rfl, trivial⟩ ?_
    exact ih_X6_group_53 _ _ (a1) (a2) (a3) (a4) (s0) (x3) _ _ H
  · have H := it_f H c2
    refine GA.aload_n dX6_group_124 rfl ?_
    refine GA.bipush dX6_group_125 rfl ?_
    obtain ⟨hg5, H⟩ := gg_e H
    obtain ⟨x6, S_7, hc8, H⟩ := gc_e H
    refine GA.callV (m_X6_pass hc8) xs_X6_128 dX6_group_127 gs_470 (by decide) rfl rfl (by omega) (by decide) rfl (Nat.le_of_ble_eq_true rfl) (by omega) (by omega) rfl (fun E S9 hx => hx.elim) (fun v S9 hq => ?_)
    obtain ⟨rfl, rfl⟩ := hq
    obtain ⟨x9, hx10, H⟩ := gv_e H
    refine GV.iinc hx10 dX6_group_130 rfl (by decide) ?_
    refine GA.goto (tgt := 53) dX6_group_133 (by decide) ?_
    refine GA.locals [(0, .ref (L 470)), (1, .int (J a1)), (2, .int (J a2)), (3, .int (J a3)), (4, .int (J a4)), (5, .int (J s0)), (6, .int (J x9))] ⟨rfl, rfl, rfl, rfl, rfl, rfl, rfl, trivial⟩ ?_
    exact ih_X6_group_53 _ _ (a1) (a2) (a3) (a4) (s0) (x9) _ _ H
set_option maxHeartbeats 4000000 in
set_option maxRecDepth 20000 in
theorem t_X6_group_136 {l : Launch} {Z : XZ} {L : Nat → Nat} (n : Nat) (ih_X6_entry_0 : P_X6_entry_0 l Z L n) (ih_X6_entry_65 : P_X6_entry_65 l Z L n) (ih_X6_entry_122 : P_X6_entry_122 l Z L n) (ih_X6_group_0 : P_X6_group_0 l Z L n) (ih_X6_group_18 : P_X6_group_18 l Z L n) (ih_X6_group_53 : P_X6_group_53 l Z L n) (ih_X6_group_99 : P_X6_group_99 l Z L n) (ih_X6_group_117 : P_X6_group_117 l Z L n) (ih_X6_group_136 : P_X6_group_136 l Z L n) (ih_X6_value_0 : P_X6_value_0 l Z L n) (ih_X6_value_54 : P_X6_value_54 l Z L n) : P_X6_group_136 l Z L (n + 1) := by
  intro d S a3 a4 x S1 H
  have H : b_X6_group_136 n d (f_X6_entry n) S a3 a4 = some (x, S1) := H
  unfold b_X6_group_136 at H
  refine GA.aload_n dX6_group_136 rfl ?_
  refine GA.iload dX6_group_137 rfl ?_
  obtain ⟨hg1, H⟩ := gg_e H
  obtain ⟨x2, S_3, hc4, H⟩ := gc_e H
  refine GA.callV (m_X6_pass hc4) xs_X6_128 dX6_group_139 gs_470 (by decide) rfl rfl (by omega) (by decide) rfl (Nat.le_of_ble_eq_true rfl) (by omega) (by omega) rfl (fun E S9 hx => hx.elim) (fun v S9 hq => ?_)
  obtain ⟨rfl, rfl⟩ := hq
  refine GA.aload_n dX6_group_142 rfl ?_
  refine GA.get xf_X6_12 dX6_group_143 gs_470 (by decide) rfl ?_
  refine GA.iload_n dX6_group_146 rfl ?_
  obtain ⟨x5, S_6, hc7, H⟩ := gc_e H
  refine GA.callV (m_X10_close hc7) xs_X6_163 dX6_group_147 (gsT (by decide)) (by decide) rfl rfl (by omega) (by decide) rfl (Nat.le_of_ble_eq_true rfl) (by omega) (by omega) rfl (fun E S9 hx => hx.elim) (fun v S9 hq => ?_)
  obtain ⟨rfl, rfl⟩ := hq
  refine GA.iload_n dX6_group_150 rfl ?_
  cases H
  exact GA.iret rfl dX6_group_151 (by omega) (by omega) ⟨rfl, rfl⟩
set_option maxHeartbeats 4000000 in
set_option maxRecDepth 20000 in
theorem t_X6_value_0 {l : Launch} {Z : XZ} {L : Nat → Nat} (n : Nat) (ih_X6_entry_0 : P_X6_entry_0 l Z L n) (ih_X6_entry_65 : P_X6_entry_65 l Z L n) (ih_X6_entry_122 : P_X6_entry_122 l Z L n) (ih_X6_group_0 : P_X6_group_0 l Z L n) (ih_X6_group_18 : P_X6_group_18 l Z L n) (ih_X6_group_53 : P_X6_group_53 l Z L n) (ih_X6_group_99 : P_X6_group_99 l Z L n) (ih_X6_group_117 : P_X6_group_117 l Z L n) (ih_X6_group_136 : P_X6_group_136 l Z L n) (ih_X6_value_0 : P_X6_value_0 l Z L n) (ih_X6_value_54 : P_X6_value_54 l Z L n) : P_X6_value_0 l Z L (n + 1) := by
  intro d S a1 x S1 H
  have H : b_X6_value_0 n d (f_X6_entry n) S a1 = some (x, S1) := H
  unfold b_X6_value_0 at H
  refine GA.aload_n dX6_value_0 rfl ?_
  obtain ⟨hg1, H⟩ := gg_e H
  obtain ⟨x2, S_3, hc4, H⟩ := gc_e H
  refine GA.callV (m_X6_skipBlanks hc4) xs_X6_60 dX6_value_1 gs_470 (by decide) rfl rfl (by omega) (by decide) rfl (Nat.le_of_ble_eq_true rfl) (by omega) (by omega) rfl (fun E S9 hx => hx.elim) (fun v S9 hq => ?_)
  obtain ⟨rfl, rfl⟩ := hq
  refine GA.aload_n dX6_value_4 rfl ?_
  obtain ⟨x5, S_6, hc7, H⟩ := gc_e H
  refine GA.callV (m_X6_here hc7) xs_X6_63 dX6_value_5 gs_470 (by decide) rfl rfl (by omega) (by decide) rfl (Nat.le_of_ble_eq_true rfl) (by omega) (by omega) rfl (fun E S9 hx => hx.elim) (fun v S9 hq => ?_)
  obtain ⟨rfl, rfl⟩ := hq
  refine GA.istore_n dX6_value_8 (by decide) ?_
  refine GA.iload_n dX6_value_9 rfl ?_
  refine GA.iconst dX6_value_10 ?_
  obtain ⟨hg8, H⟩ := gg_e H
  refine GV.icmp_eq (tgt := 23) hg8 (by decide) dX6_value_11 (by decide) (fun c9 => ?_) (fun c9 => ?_)
  · have H := it_t H c9
    refine GA.aload_n dX6_value_23 rfl ?_
    refine GA.aload_n dX6_value_24 rfl ?_
    obtain ⟨x10, hx11, H⟩ := gv_e H
    refine GV.getI hx11 xf_X6_43 dX6_value_25 gs_470 (by decide) rfl ?_
    obtain ⟨x12, S_13, hc14, H⟩ := gc_e H
    refine GA.callV (m_X6_fail hc14) xs_X6_67 dX6_value_28 gs_470 (by decide) rfl rfl (by omega) (by decide) rfl (Nat.le_of_ble_eq_true rfl) (by omega) (by omega) rfl (fun E S9 hx => hx.elim) (fun v S9 hq => ?_)
    obtain ⟨rfl, rfl⟩ := hq
    cases H
    exact GA.iret rfl dX6_value_31 (by omega) (by omega) ⟨rfl, rfl⟩
  · have H := it_f H c9
    refine GA.aload_n dX6_value_14 rfl ?_
    obtain ⟨x15, hx16, H⟩ := gv_e H
    refine GV.getI hx16 xf_X6_49 dX6_value_15 gs_470 (by decide) rfl ?_
    refine GA.bipush dX6_value_18 rfl ?_
    obtain ⟨hg17, H⟩ := gg_e H
    refine GV.icmp_lt (tgt := 32) hg17 (by decide) dX6_value_20 (by decide) (fun c18 => ?_) (fun c18 => ?_)
    · have H := it_t H c18
      refine GA.aload_n dX6_value_32 rfl ?_
      refine GA.dup dX6_value_33 rfl ?_
      obtain ⟨x19, hx20, H⟩ := gv_e H
      refine GV.getI hx20 xf_X6_49 dX6_value_34 gs_470 (by decide) rfl ?_
      refine GA.iconst dX6_value_37 ?_
      obtain ⟨x21, hx22, H⟩ := gv_e H
      refine GV.iadd hx22 dX6_value_38 ?_
      obtain ⟨S_23, hx24, H⟩ := gv_e H
      refine GV.putI hx24 (xp_X6_49 _) dX6_value_39 gs_470 (by decide) (Nat.le_of_ble_eq_true rfl) gs_470 ?_
      refine GA.iload_n dX6_value_42 rfl ?_
      refine GA.bipush dX6_value_43 rfl ?_
      refine GV.icmp_eq (tgt := 54) hg8 (by decide) dX6_value_45 (by decide) (fun c25 => ?_) (fun c25 => ?_)
      · have H := it_t H c25
        refine GA.locals [(0, .ref (L 470)), (1, .int (J a1)), (2, .int (J x5))] ⟨rfl, rfl, rfl, trivial⟩ ?_
        exact ih_X6_value_54 _ _ (a1) (x5) _ _ H
      · have H := it_f H c25
        refine GA.iload_n dX6_value_48 rfl ?_
        refine GA.bipush dX6_value_49 rfl ?_
        refine GV.icmp_ne (tgt := 90) hg8 (by decide) dX6_value_51 (by decide) (fun c26 => ?_) (fun c26 => ?_)
        · have H := it_t H c26
          refine GA.iload_n dX6_value_90 rfl ?_
          refine GA.bipush dX6_value_91 rfl ?_
          refine GV.icmp_ne (tgt := 101) hg8 (by decide) dX6_value_93 (by decide) (fun c27 => ?_) (fun c27 => ?_)
          · have H := it_t H c27
            refine GA.iload_n dX6_value_101 rfl ?_
            refine GA.bipush dX6_value_102 rfl ?_
            refine GV.icmp_eq (tgt := 114) hg8 (by decide) dX6_value_104 (by decide) (fun c28 => ?_) (fun c28 => ?_)
            · have H := it_t H c28
              refine GA.aload_n dX6_value_114 rfl ?_
              obtain ⟨x29, S_30, hc31, H⟩ := gc_e H
              refine GA.callV (m_X6_number hc31) xs_X6_94 dX6_value_115 gs_470 (by decide) rfl rfl (by omega) (by decide) rfl (Nat.le_of_ble_eq_true rfl) (by omega) (by omega) rfl (fun E S9 hx => hx.elim) (fun v S9 hq => ?_)
              obtain ⟨rfl, rfl⟩ := hq
              refine GA.goto (tgt := 126) dX6_value_118 (by decide) ?_
              cases H
              exact GA.iret rfl dX6_value_126 (by omega) (by omega) ⟨rfl, rfl⟩
            · have H := it_f H c28
              refine GA.iload_n dX6_value_107 rfl ?_
              obtain ⟨x32, S_33, hc34, H⟩ := gc_e H
              refine GA.callS (m_X6_isFigure hc34) xs_X6_90 dX6_value_108 rfl (by omega) (by decide) rfl (Nat.le_of_ble_eq_true rfl) (by omega) (by omega) rfl (fun E S9 hx => hx.elim) (fun v S9 hq => ?_)
              obtain ⟨rfl, rfl⟩ := hq
              obtain ⟨hg35, H⟩ := gg_e H
              refine GV.if_eq (tgt := 121) hg35 dX6_value_111 (by decide) (fun c36 => ?_) (fun c36 => ?_)
              · have H := it_t H c36
                refine GA.aload_n dX6_value_121 rfl ?_
                refine GA.iload_n dX6_value_122 rfl ?_
                obtain ⟨x37, S_38, hc39, H⟩ := gc_e H
                refine GA.callV (m_X6_constant hc39) xs_X6_97 dX6_value_123 gs_470 (by decide) rfl rfl (by omega) (by decide) rfl (Nat.le_of_ble_eq_true rfl) (by omega) (by omega) rfl (fun E S9 hx => hx.elim) (fun v S9 hq => ?_)
                obtain ⟨rfl, rfl⟩ := hq
                cases H
                exact GA.iret rfl dX6_value_126 (by omega) (by omega) ⟨rfl, rfl⟩
              · have H := it_f H c36
                refine GA.aload_n dX6_value_114 rfl ?_
                obtain ⟨x40, S_41, hc42, H⟩ := gc_e H
                refine GA.callV (m_X6_number hc42) xs_X6_94 dX6_value_115 gs_470 (by decide) rfl rfl (by omega) (by decide) rfl (Nat.le_of_ble_eq_true rfl) (by omega) (by omega) rfl (fun E S9 hx => hx.elim) (fun v S9 hq => ?_)
                obtain ⟨rfl, rfl⟩ := hq
                refine GA.goto (tgt := 126) dX6_value_118 (by decide) ?_
                cases H
                exact GA.iret rfl dX6_value_126 (by omega) (by omega) ⟨rfl, rfl⟩
          · have H := it_f H c27
            refine GA.aload_n dX6_value_96 rfl ?_
            obtain ⟨x43, S_44, hc45, H⟩ := gc_e H
            refine GA.callV (m_X6_text hc45) xs_X6_87 dX6_value_97 gs_470 (by decide) rfl rfl (by omega) (by decide) rfl (Nat.le_of_ble_eq_true rfl) (by omega) (by omega) rfl (fun E S9 hx => hx.elim) (fun v S9 hq => ?_)
            obtain ⟨rfl, rfl⟩ := hq
            cases H
            exact GA.iret rfl dX6_value_100 (by omega) (by omega) ⟨rfl, rfl⟩
        · have H := it_f H c26
          refine GA.locals [(0, .ref (L 470)), (1, .int (J a1)), (2, .int (J x5))] ⟨rfl, rfl, rfl, trivial⟩ ?_
          exact ih_X6_value_54 _ _ (a1) (x5) _ _ H
    · have H := it_f H c18
      refine GA.aload_n dX6_value_23 rfl ?_
      refine GA.aload_n dX6_value_24 rfl ?_
      obtain ⟨x46, hx47, H⟩ := gv_e H
      refine GV.getI hx47 xf_X6_43 dX6_value_25 gs_470 (by decide) rfl ?_
      obtain ⟨x48, S_49, hc50, H⟩ := gc_e H
      refine GA.callV (m_X6_fail hc50) xs_X6_67 dX6_value_28 gs_470 (by decide) rfl rfl (by omega) (by decide) rfl (Nat.le_of_ble_eq_true rfl) (by omega) (by omega) rfl (fun E S9 hx => hx.elim) (fun v S9 hq => ?_)
      obtain ⟨rfl, rfl⟩ := hq
      cases H
      exact GA.iret rfl dX6_value_31 (by omega) (by omega) ⟨rfl, rfl⟩
set_option maxHeartbeats 4000000 in
set_option maxRecDepth 20000 in
theorem t_X6_value_54 {l : Launch} {Z : XZ} {L : Nat → Nat} (n : Nat) (ih_X6_entry_0 : P_X6_entry_0 l Z L n) (ih_X6_entry_65 : P_X6_entry_65 l Z L n) (ih_X6_entry_122 : P_X6_entry_122 l Z L n) (ih_X6_group_0 : P_X6_group_0 l Z L n) (ih_X6_group_18 : P_X6_group_18 l Z L n) (ih_X6_group_53 : P_X6_group_53 l Z L n) (ih_X6_group_99 : P_X6_group_99 l Z L n) (ih_X6_group_117 : P_X6_group_117 l Z L n) (ih_X6_group_136 : P_X6_group_136 l Z L n) (ih_X6_value_0 : P_X6_value_0 l Z L n) (ih_X6_value_54 : P_X6_value_54 l Z L n) : P_X6_value_54 l Z L (n + 1) := by
  intro d S a1 a2 x S1 H
  have H : b_X6_value_54 n d (f_X6_entry n) S a1 a2 = some (x, S1) := H
  unfold b_X6_value_54 at H
  refine GA.iload_n dX6_value_54 rfl ?_
  refine GA.bipush dX6_value_55 rfl ?_
  obtain ⟨hg1, H⟩ := gg_e H
  refine GV.icmp_lt (tgt := 71) hg1 (by decide) dX6_value_57 (by decide) (fun c2 => ?_) (fun c2 => ?_)
  · have H := it_t H c2
    refine GA.aload_n dX6_value_71 rfl ?_
    refine GA.iload_n dX6_value_72 rfl ?_
    refine GA.bipush dX6_value_73 rfl ?_
    obtain ⟨hg3, H⟩ := gg_e H
    refine GV.icmp_ne (tgt := 82) hg3 (by decide) dX6_value_75 (by decide) (fun c4 => ?_) (fun c4 => ?_)
    · have H := it_t H c4
      refine GA.iconst dX6_value_82 ?_
      refine GA.iload_n dX6_value_83 rfl ?_
      refine GA.iconst dX6_value_84 ?_
      obtain ⟨x5, hx6, H⟩ := gv_e H
      refine GV.iadd hx6 dX6_value_85 ?_
      obtain ⟨hg7, H⟩ := gg_e H
      obtain ⟨x8, S_9, hc10, H⟩ := gc_e H
      refine GA.callV (i_X6_group ih_X6_group_0 hc10) xs_X6_83 dX6_value_86 gs_470 (by decide) rfl rfl (by omega) (by decide) rfl (Nat.le_of_ble_eq_true rfl) (by omega) (by omega) rfl (fun E S9 hx => hx.elim) (fun v S9 hq => ?_)
      obtain ⟨rfl, rfl⟩ := hq
      cases H
      exact GA.iret rfl dX6_value_89 (by omega) (by omega) ⟨rfl, rfl⟩
    · have H := it_f H c4
      refine GA.iconst dX6_value_78 ?_
      refine GA.goto (tgt := 83) dX6_value_79 (by decide) ?_
      refine GA.iload_n dX6_value_83 rfl ?_
      refine GA.iconst dX6_value_84 ?_
      obtain ⟨x11, hx12, H⟩ := gv_e H
      refine GV.iadd hx12 dX6_value_85 ?_
      obtain ⟨hg13, H⟩ := gg_e H
      obtain ⟨x14, S_15, hc16, H⟩ := gc_e H
      refine GA.callV (i_X6_group ih_X6_group_0 hc16) xs_X6_83 dX6_value_86 gs_470 (by decide) rfl rfl (by omega) (by decide) rfl (Nat.le_of_ble_eq_true rfl) (by omega) (by omega) rfl (fun E S9 hx => hx.elim) (fun v S9 hq => ?_)
      obtain ⟨rfl, rfl⟩ := hq
      cases H
      exact GA.iret rfl dX6_value_89 (by omega) (by omega) ⟨rfl, rfl⟩
  · have H := it_f H c2
    refine GA.aload_n dX6_value_60 rfl ?_
    refine GA.aload_n dX6_value_61 rfl ?_
    obtain ⟨x17, hx18, H⟩ := gv_e H
    refine GV.getI hx18 xf_X6_43 dX6_value_62 gs_470 (by decide) rfl ?_
    obtain ⟨hg19, H⟩ := gg_e H
    obtain ⟨x20, S_21, hc22, H⟩ := gc_e H
    refine GA.callV (m_X6_fail hc22) xs_X6_67 dX6_value_65 gs_470 (by decide) rfl rfl (by omega) (by decide) rfl (Nat.le_of_ble_eq_true rfl) (by omega) (by omega) rfl (fun E S9 hx => hx.elim) (fun v S9 hq => ?_)
    obtain ⟨rfl, rfl⟩ := hq
    refine GA.goto (tgt := 89) dX6_value_68 (by decide) ?_
    cases H
    exact GA.iret rfl dX6_value_89 (by omega) (by omega) ⟨rfl, rfl⟩
theorem g_X6_entry {l : Launch} {Z : XZ} {L : Nat → Nat} : ∀ n, P_X6_entry_0 l Z L n ∧ P_X6_entry_65 l Z L n ∧ P_X6_entry_122 l Z L n ∧ P_X6_group_0 l Z L n ∧ P_X6_group_18 l Z L n ∧ P_X6_group_53 l Z L n ∧ P_X6_group_99 l Z L n ∧ P_X6_group_117 l Z L n ∧ P_X6_group_136 l Z L n ∧ P_X6_value_0 l Z L n ∧ P_X6_value_54 l Z L n
  | 0 => ⟨fun _ _ _ _ _ _ H => no_e H, fun _ _ _ _ _ _ H => no_e H, fun _ _ _ _ _ _ H => no_e H, fun _ _ _ _ _ _ H => no_e H, fun _ _ _ _ _ _ _ _ H => no_e H, fun _ _ _ _ _ _ _ _ _ _ H => no_e H, fun _ _ _ _ _ _ _ _ _ H => no_e H, fun _ _ _ _ _ _ _ _ _ _ H => no_e H, fun _ _ _ _ _ _ H => no_e H, fun _ _ _ _ _ H => no_e H, fun _ _ _ _ _ _ H => no_e H⟩
  | n + 1 => have ⟨h0, h1, h2, h3, h4, h5, h6, h7, h8, h9, h10⟩ := g_X6_entry (l := l) (Z := Z) (L := L) n
    ⟨t_X6_entry_0 n h0 h1 h2 h3 h4 h5 h6 h7 h8 h9 h10, t_X6_entry_65 n h0 h1 h2 h3 h4 h5 h6 h7 h8 h9 h10, t_X6_entry_122 n h0 h1 h2 h3 h4 h5 h6 h7 h8 h9 h10, t_X6_group_0 n h0 h1 h2 h3 h4 h5 h6 h7 h8 h9 h10, t_X6_group_18 n h0 h1 h2 h3 h4 h5 h6 h7 h8 h9 h10, t_X6_group_53 n h0 h1 h2 h3 h4 h5 h6 h7 h8 h9 h10, t_X6_group_99 n h0 h1 h2 h3 h4 h5 h6 h7 h8 h9 h10, t_X6_group_117 n h0 h1 h2 h3 h4 h5 h6 h7 h8 h9 h10, t_X6_group_136 n h0 h1 h2 h3 h4 h5 h6 h7 h8 h9 h10, t_X6_value_0 n h0 h1 h2 h3 h4 h5 h6 h7 h8 h9 h10, t_X6_value_54 n h0 h1 h2 h3 h4 h5 h6 h7 h8 h9 h10⟩
theorem m_X6_entry {l : Launch} {Z : XZ} {L : Nat → Nat} {n d : Nat} {S : GS} {a1 : Int} {a2 : Int} {x : Int} {S1 : GS} (H : f_X6_entry n d 0 S [a1, a2] = some (x, S1)) : GM l Z L yX6_entry cX6_entry 5 none [] d 0 0 [.ref (L 470), .int (J a1), .int (J a2)] S (fun v S' => v = none ∧ S1 = S') (fun _ _ => False) := GM.of (by decide) (Nat.le_of_ble_eq_true rfl) ((g_X6_entry n).1 _ _ _ _ _ _ H)
theorem m_X6_group {l : Launch} {Z : XZ} {L : Nat → Nat} {n d : Nat} {S : GS} {a1 : Int} {a2 : Int} {x : Int} {S1 : GS} (H : f_X6_entry n d 10000 S [a1, a2] = some (x, S1)) : GM l Z L yX6_group cX6_group 7 (some .int) [] d 0 0 [.ref (L 470), .int (J a1), .int (J a2)] S (fun v S' => v = some (.int (J x)) ∧ S1 = S') (fun _ _ => False) := GM.of (by decide) (Nat.le_of_ble_eq_true rfl) ((g_X6_entry n).2.2.2.1 _ _ _ _ _ _ H)
theorem m_X6_value {l : Launch} {Z : XZ} {L : Nat → Nat} {n d : Nat} {S : GS} {a1 : Int} {x : Int} {S1 : GS} (H : f_X6_entry n d 20000 S [a1] = some (x, S1)) : GM l Z L yX6_value cX6_value 3 (some .int) [] d 0 0 [.ref (L 470), .int (J a1)] S (fun v S' => v = some (.int (J x)) ∧ S1 = S') (fun _ _ => False) := GM.of (by decide) (Nat.le_of_ble_eq_true rfl) ((g_X6_entry n).2.2.2.2.2.2.2.2.2.1 _ _ _ _ _ H)

def P_X6_parse_0 (l : Launch) (Z : XZ) (L : Nat → Nat) (n : Nat) : Prop := ∀ (d : Nat) (S : GS) (a1 : Nat) (a2 : Int) (x : Int) (S1 : GS), f_X6_parse n d 0 S [((a1 : Nat) : Int), a2] = some (x, S1) → GA l Z L yX6_parse cX6_parse 3 (some .int) [] d 0 0 (fun v S' => v = some (.int (J x)) ∧ S1 = S') (fun _ _ => False) 0 (gl [(0, .ref (L 470)), (1, .ref (L a1)), (2, .int (J a2))]) [] S 0 0
theorem i_X6_parse {l : Launch} {Z : XZ} {L : Nat → Nat} {n : Nat} (ih : P_X6_parse_0 l Z L n) {d : Nat} {S : GS} {a1 : Nat} {a2 : Int} {x : Int} {S1 : GS} (H : f_X6_parse n d 0 S [((a1 : Nat) : Int), a2] = some (x, S1)) : GM l Z L yX6_parse cX6_parse 3 (some .int) [] d 0 0 [.ref (L 470), .ref (L a1), .int (J a2)] S (fun v S' => v = some (.int (J x)) ∧ S1 = S') (fun _ _ => False) := GM.of (by decide) (Nat.le_of_ble_eq_true rfl) (ih _ _ _ _ _ _ H)
set_option maxHeartbeats 4000000 in
set_option maxRecDepth 20000 in
theorem t_X6_parse_0 {l : Launch} {Z : XZ} {L : Nat → Nat} (n : Nat) (ih_X6_parse_0 : P_X6_parse_0 l Z L n) : P_X6_parse_0 l Z L (n + 1) := by
  intro d S a1 a2 x S1 H
  have H : b_X6_parse_0 n d (f_X6_parse n) S a1 a2 = some (x, S1) := H
  unfold b_X6_parse_0 at H
  refine GA.aload_n dX6_parse_0 rfl ?_
  refine GA.aload_n dX6_parse_1 rfl ?_
  obtain ⟨S_1, hx2, H⟩ := gv_e H
  refine GV.putR hx2 (xp_X6_36 _) dX6_parse_2 gs_470 (by decide) (Nat.le_of_ble_eq_true rfl) gs_470 ?_
  refine GA.aload_n dX6_parse_5 rfl ?_
  refine GA.iload_n dX6_parse_6 rfl ?_
  obtain ⟨S_3, hx4, H⟩ := gv_e H
  refine GV.putI hx4 (xp_X6_39 _) dX6_parse_7 gs_470 (by decide) (Nat.le_of_ble_eq_true rfl) gs_470 ?_
  refine GA.aload_n dX6_parse_10 rfl ?_
  refine GA.iconst dX6_parse_11 ?_
  obtain ⟨S_5, hx6, H⟩ := gv_e H
  refine GV.putI hx6 (xp_X6_43 _) dX6_parse_12 gs_470 (by decide) (Nat.le_of_ble_eq_true rfl) gs_470 ?_
  refine GA.aload_n dX6_parse_15 rfl ?_
  refine GA.iconst dX6_parse_16 ?_
  obtain ⟨S_7, hx8, H⟩ := gv_e H
  refine GV.putI hx8 (xp_X6_46 _) dX6_parse_17 gs_470 (by decide) (Nat.le_of_ble_eq_true rfl) gs_470 ?_
  refine GA.aload_n dX6_parse_20 rfl ?_
  refine GA.iconst dX6_parse_21 ?_
  obtain ⟨S_9, hx10, H⟩ := gv_e H
  refine GV.putI hx10 (xp_X6_49 _) dX6_parse_22 gs_470 (by decide) (Nat.le_of_ble_eq_true rfl) gs_470 ?_
  refine GA.aload_n dX6_parse_25 rfl ?_
  refine GA.get xf_X6_12 dX6_parse_26 gs_470 (by decide) rfl ?_
  obtain ⟨hg11, H⟩ := gg_e H
  obtain ⟨x12, S_13, hc14, H⟩ := gc_e H
  refine GA.callV (m_X10_clear hc14) xs_X6_52 dX6_parse_29 (gsT (by decide)) (by decide) rfl rfl (by omega) (by decide) rfl (Nat.le_of_ble_eq_true rfl) (by omega) (by omega) rfl (fun E S9 hx => hx.elim) (fun v S9 hq => ?_)
  obtain ⟨rfl, rfl⟩ := hq
  refine GA.aload_n dX6_parse_32 rfl ?_
  refine GA.get xf_X6_26 dX6_parse_33 gs_470 (by decide) rfl ?_
  obtain ⟨x15, S_16, hc17, H⟩ := gc_e H
  refine GA.callV (m_X9_clear hc17) xs_X6_55 dX6_parse_36 (gsS (by decide)) (by decide) rfl rfl (by omega) (by decide) rfl (Nat.le_of_ble_eq_true rfl) (by omega) (by omega) rfl (fun E S9 hx => hx.elim) (fun v S9 hq => ?_)
  obtain ⟨rfl, rfl⟩ := hq
  refine GA.aload_n dX6_parse_39 rfl ?_
  refine GA.iconst dX6_parse_40 ?_
  obtain ⟨x18, S_19, hc20, H⟩ := gc_e H
  refine GA.callV (m_X6_value hc20) xs_X6_56 dX6_parse_41 gs_470 (by decide) rfl rfl (by omega) (by decide) rfl (Nat.le_of_ble_eq_true rfl) (by omega) (by omega) rfl (fun E S9 hx => hx.elim) (fun v S9 hq => ?_)
  obtain ⟨rfl, rfl⟩ := hq
  refine GA.pop dX6_parse_44 rfl ?_
  refine GA.aload_n dX6_parse_45 rfl ?_
  obtain ⟨x21, S_22, hc23, H⟩ := gc_e H
  refine GA.callV (m_X6_skipBlanks hc23) xs_X6_60 dX6_parse_46 gs_470 (by decide) rfl rfl (by omega) (by decide) rfl (Nat.le_of_ble_eq_true rfl) (by omega) (by omega) rfl (fun E S9 hx => hx.elim) (fun v S9 hq => ?_)
  obtain ⟨rfl, rfl⟩ := hq
  refine GA.aload_n dX6_parse_49 rfl ?_
  obtain ⟨x24, S_25, hc26, H⟩ := gc_e H
  refine GA.callV (m_X6_here hc26) xs_X6_63 dX6_parse_50 gs_470 (by decide) rfl rfl (by omega) (by decide) rfl (Nat.le_of_ble_eq_true rfl) (by omega) (by omega) rfl (fun E S9 hx => hx.elim) (fun v S9 hq => ?_)
  obtain ⟨rfl, rfl⟩ := hq
  refine GA.iconst dX6_parse_53 ?_
  obtain ⟨hg27, H⟩ := gg_e H
  refine GV.icmp_eq (tgt := 66) hg27 (by decide) dX6_parse_54 (by decide) (fun c28 => ?_) (fun c28 => ?_)
  · have H := it_t H c28
    refine GA.aload_n dX6_parse_66 rfl ?_
    obtain ⟨x29, hx30, H⟩ := gv_e H
    refine GV.getI hx30 xf_X6_46 dX6_parse_67 gs_470 (by decide) rfl ?_
    cases H
    exact GA.iret rfl dX6_parse_70 (by omega) (by omega) ⟨rfl, rfl⟩
  · have H := it_f H c28
    refine GA.aload_n dX6_parse_57 rfl ?_
    refine GA.aload_n dX6_parse_58 rfl ?_
    obtain ⟨x31, hx32, H⟩ := gv_e H
    refine GV.getI hx32 xf_X6_43 dX6_parse_59 gs_470 (by decide) rfl ?_
    obtain ⟨x33, S_34, hc35, H⟩ := gc_e H
    refine GA.callV (m_X6_fail hc35) xs_X6_67 dX6_parse_62 gs_470 (by decide) rfl rfl (by omega) (by decide) rfl (Nat.le_of_ble_eq_true rfl) (by omega) (by omega) rfl (fun E S9 hx => hx.elim) (fun v S9 hq => ?_)
    obtain ⟨rfl, rfl⟩ := hq
    refine GA.pop dX6_parse_65 rfl ?_
    refine GA.aload_n dX6_parse_66 rfl ?_
    obtain ⟨x36, hx37, H⟩ := gv_e H
    refine GV.getI hx37 xf_X6_46 dX6_parse_67 gs_470 (by decide) rfl ?_
    cases H
    exact GA.iret rfl dX6_parse_70 (by omega) (by omega) ⟨rfl, rfl⟩
theorem g_X6_parse {l : Launch} {Z : XZ} {L : Nat → Nat} : ∀ n, P_X6_parse_0 l Z L n
  | 0 => fun _ _ _ _ _ _ H => no_e H
  | n + 1 => t_X6_parse_0 n (g_X6_parse n)
theorem m_X6_parse {l : Launch} {Z : XZ} {L : Nat → Nat} {n d : Nat} {S : GS} {a1 : Nat} {a2 : Int} {x : Int} {S1 : GS} (H : f_X6_parse n d 0 S [((a1 : Nat) : Int), a2] = some (x, S1)) : GM l Z L yX6_parse cX6_parse 3 (some .int) [] d 0 0 [.ref (L 470), .ref (L a1), .int (J a2)] S (fun v S' => v = some (.int (J x)) ∧ S1 = S') (fun _ _ => False) := GM.of (by decide) (Nat.le_of_ble_eq_true rfl) ((g_X6_parse n) _ _ _ _ _ _ H)

def P_X6_result_0 (l : Launch) (Z : XZ) (L : Nat → Nat) (n : Nat) : Prop := ∀ (d : Nat) (S : GS) (x : Int) (S1 : GS), f_X6_result n d 0 S [] = some (x, S1) → GA l Z L yX6_result cX6_result 1 (some (.object "Treeletter$Tree")) [] d 0 0 (fun v S' => v = some (.ref (L x.toNat)) ∧ S1 = S') (fun _ _ => False) 0 (gl [(0, .ref (L 470))]) [] S 0 0
theorem i_X6_result {l : Launch} {Z : XZ} {L : Nat → Nat} {n : Nat} (ih : P_X6_result_0 l Z L n) {d : Nat} {S : GS} {x : Int} {S1 : GS} (H : f_X6_result n d 0 S [] = some (x, S1)) : GM l Z L yX6_result cX6_result 1 (some (.object "Treeletter$Tree")) [] d 0 0 [.ref (L 470)] S (fun v S' => v = some (.ref (L x.toNat)) ∧ S1 = S') (fun _ _ => False) := GM.of (by decide) (Nat.le_of_ble_eq_true rfl) (ih _ _ _ _ H)
set_option maxHeartbeats 4000000 in
set_option maxRecDepth 20000 in
theorem t_X6_result_0 {l : Launch} {Z : XZ} {L : Nat → Nat} (n : Nat) (ih_X6_result_0 : P_X6_result_0 l Z L n) : P_X6_result_0 l Z L (n + 1) := by
  intro d S  x S1 H
  have H : b_X6_result_0 n d (f_X6_result n) S  = some (x, S1) := H
  unfold b_X6_result_0 at H
  refine GA.aload_n dX6_result_0 rfl ?_
  refine GA.get xf_X6_12 dX6_result_1 gs_470 (by decide) rfl ?_
  cases H
  exact GA.aret rfl dX6_result_4 (by omega) (by omega) ⟨rfl, rfl⟩
theorem g_X6_result {l : Launch} {Z : XZ} {L : Nat → Nat} : ∀ n, P_X6_result_0 l Z L n
  | 0 => fun _ _ _ _ H => no_e H
  | n + 1 => t_X6_result_0 n (g_X6_result n)
theorem m_X6_result {l : Launch} {Z : XZ} {L : Nat → Nat} {n d : Nat} {S : GS} {x : Int} {S1 : GS} (H : f_X6_result n d 0 S [] = some (x, S1)) : GM l Z L yX6_result cX6_result 1 (some (.object "Treeletter$Tree")) [] d 0 0 [.ref (L 470)] S (fun v S' => v = some (.ref (L x.toNat)) ∧ S1 = S') (fun _ _ => False) := GM.of (by decide) (Nat.le_of_ble_eq_true rfl) ((g_X6_result n) _ _ _ _ H)

