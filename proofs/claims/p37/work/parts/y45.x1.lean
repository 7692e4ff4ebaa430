def P_X4_alike_0 (l : Launch) (Z : XZ) (L : Nat → Nat) (n : Nat) : Prop := ∀ (d : Nat) (S : GS) (a0 : Nat) (a1 : Int) (a2 : Nat) (a3 : Int) (x : Int) (S1 : GS), f_X4_alike n d 0 S [((a0 : Nat) : Int), a1, ((a2 : Nat) : Int), a3] = some (x, S1) → GA l Z L yX4_alike cX4_alike 4 (some .boolean) [] d 0 0 (fun v S' => v = some (.int (J x)) ∧ S1 = S') (fun _ _ => False) 0 (gl [(0, .ref (L a0)), (1, .int (J a1)), (2, .ref (L a2)), (3, .int (J a3))]) [] S 0 0
def P_X4_alike_10 (l : Launch) (Z : XZ) (L : Nat → Nat) (n : Nat) : Prop := ∀ (d : Nat) (S : GS) (a1 : Int) (a3 : Int) (x : Int) (S1 : GS), f_X4_alike n d 10 S [a1, a3] = some (x, S1) → GA l Z L yX4_alike cX4_alike 4 (some .boolean) [] d 0 0 (fun v S' => v = some (.int (J x)) ∧ S1 = S') (fun _ _ => False) 10 (gl [(1, .int (J a1)), (3, .int (J a3))]) [] S 0 0
theorem i_X4_alike {l : Launch} {Z : XZ} {L : Nat → Nat} {n : Nat} (ih : P_X4_alike_0 l Z L n) {d : Nat} {S : GS} {a0 : Nat} {a1 : Int} {a2 : Nat} {a3 : Int} {x : Int} {S1 : GS} (H : f_X4_alike n d 0 S [((a0 : Nat) : Int), a1, ((a2 : Nat) : Int), a3] = some (x, S1)) : GM l Z L yX4_alike cX4_alike 4 (some .boolean) [] d 0 0 [.ref (L a0), .int (J a1), .ref (L a2), .int (J a3)] S (fun v S' => v = some (.int (J x)) ∧ S1 = S') (fun _ _ => False) := GM.of (by decide) (Nat.le_of_ble_eq_true rfl) (ih _ _ _ _ _ _ _ _ H)
set_option maxHeartbeats 4000000 in
set_option maxRecDepth 20000 in
theorem t_X4_alike_0 {l : Launch} {Z : XZ} {L : Nat → Nat} (n : Nat) (ih_X4_alike_0 : P_X4_alike_0 l Z L n) (ih_X4_alike_10 : P_X4_alike_10 l Z L n) : P_X4_alike_0 l Z L (n + 1) := by
  intro d S a0 a1 a2 a3 x S1 H
  have H : b_X4_alike_0 n d (f_X4_alike n) S a0 a1 a2 a3 = some (x, S1) := H
  unfold b_X4_alike_0 at H
  refine GA.iload_n dX4_alike_0 rfl ?_
  refine GA.iconst dX4_alike_1 ?_
  obtain ⟨hg1, H⟩ := gg_e H
  refine GV.icmp_eq (tgt := 10) hg1 (by decide) dX4_alike_2 (by decide) (fun c2 => ?_) (fun c2 => ?_)
  · have H := it_t H c2
    refine GA.locals [(1, .int (J a1)), (3, .int (J a3))] ⟨rfl, rfl, trivial⟩ ?_
    exact ih_X4_alike_10 _ _ (a1) (a3) _ _ H
  · have H := it_f H c2
    refine GA.iload_n dX4_alike_5 rfl ?_
    refine GA.iconst dX4_alike_6 ?_
    obtain ⟨hg3, H⟩ := gg_e H
    refine GV.icmp_ne (tgt := 23) hg3 (by decide) dX4_alike_7 (by decide) (fun c4 => ?_) (fun c4 => ?_)
    · have H := it_t H c4
      refine GA.aload_n dX4_alike_23 rfl ?_
      refine GA.iload_n dX4_alike_24 rfl ?_
      refine GA.aload_n dX4_alike_25 rfl ?_
      refine GA.iload_n dX4_alike_26 rfl ?_
      refine GA.iconst dX4_alike_27 ?_
      obtain ⟨hg5, H⟩ := gg_e H
      obtain ⟨hg6, H⟩ := gg_e H
      obtain ⟨x7, S_8, hc9, H⟩ := gc_e H
      refine GA.callN (m_X10_same hc9) xs_X4_68 dX4_alike_28 (gsT hg6) (by omega) rfl rfl (by omega) (by decide) rfl (Nat.le_of_ble_eq_true rfl) (by omega) (by omega) rfl (fun E S9 hx => hx.elim) (fun v S9 hq => ?_)
      obtain ⟨rfl, rfl⟩ := hq
      obtain ⟨hg10, H⟩ := gg_e H
      cases H
      exact GV.zret hg10 rfl dX4_alike_31 (by omega) (by omega) ⟨rfl, rfl⟩
    · have H := it_f H c4
      refine GA.locals [(1, .int (J a1)), (3, .int (J a3))] ⟨rfl, rfl, trivial⟩ ?_
      exact ih_X4_alike_10 _ _ (a1) (a3) _ _ H
set_option maxHeartbeats 4000000 in
set_option maxRecDepth 20000 in
theorem t_X4_alike_10 {l : Launch} {Z : XZ} {L : Nat → Nat} (n : Nat) (ih_X4_alike_0 : P_X4_alike_0 l Z L n) (ih_X4_alike_10 : P_X4_alike_10 l Z L n) : P_X4_alike_10 l Z L (n + 1) := by
  intro d S a1 a3 x S1 H
  have H : b_X4_alike_10 n d (f_X4_alike n) S a1 a3 = some (x, S1) := H
  unfold b_X4_alike_10 at H
  refine GA.iload_n dX4_alike_10 rfl ?_
  refine GA.iload_n dX4_alike_11 rfl ?_
  obtain ⟨hg1, H⟩ := gg_e H
  obtain ⟨hg2, H⟩ := gg_e H
  refine GV.icmp_ne (tgt := 19) hg1 hg2 dX4_alike_12 (by decide) (fun c3 => ?_) (fun c3 => ?_)
  · have H := it_t H c3
    refine GA.iconst dX4_alike_19 ?_
    refine GA.goto (tgt := 31) dX4_alike_20 (by decide) ?_
    cases H
    exact GV.zret (by decide) rfl dX4_alike_31 (by omega) (by omega) ⟨rfl, rfl⟩
  · have H := it_f H c3
    refine GA.iconst dX4_alike_15 ?_
    refine GA.goto (tgt := 31) dX4_alike_16 (by decide) ?_
    cases H
    exact GV.zret (by decide) rfl dX4_alike_31 (by omega) (by omega) ⟨rfl, rfl⟩
theorem g_X4_alike {l : Launch} {Z : XZ} {L : Nat → Nat} : ∀ n, P_X4_alike_0 l Z L n ∧ P_X4_alike_10 l Z L n
  | 0 => ⟨fun _ _ _ _ _ _ _ _ H => no_e H, fun _ _ _ _ _ _ H => no_e H⟩
  | n + 1 => have ⟨h0, h1⟩ := g_X4_alike (l := l) (Z := Z) (L := L) n
    ⟨t_X4_alike_0 n h0 h1, t_X4_alike_10 n h0 h1⟩
theorem m_X4_alike {l : Launch} {Z : XZ} {L : Nat → Nat} {n d : Nat} {S : GS} {a0 : Nat} {a1 : Int} {a2 : Nat} {a3 : Int} {x : Int} {S1 : GS} (H : f_X4_alike n d 0 S [((a0 : Nat) : Int), a1, ((a2 : Nat) : Int), a3] = some (x, S1)) : GM l Z L yX4_alike cX4_alike 4 (some .boolean) [] d 0 0 [.ref (L a0), .int (J a1), .ref (L a2), .int (J a3)] S (fun v S' => v = some (.int (J x)) ∧ S1 = S') (fun _ _ => False) := GM.of (by decide) (Nat.le_of_ble_eq_true rfl) ((g_X4_alike n).1 _ _ _ _ _ _ _ _ H)

def P_X4_accept_0 (l : Launch) (Z : XZ) (L : Nat → Nat) (n : Nat) : Prop := ∀ (d : Nat) (S : GS) (a1 : Nat) (a2 : Int) (x : Int) (S1 : GS), f_X4_accept n d 0 S [((a1 : Nat) : Int), a2] = some (x, S1) → GA l Z L yX4_accept cX4_accept 3 none [] d 0 0 (fun v S' => v = none ∧ S1 = S') (fun _ _ => False) 0 (gl [(0, .ref (L 485)), (1, .ref (L a1)), (2, .int (J a2))]) [] S 0 0
theorem i_X4_accept {l : Launch} {Z : XZ} {L : Nat → Nat} {n : Nat} (ih : P_X4_accept_0 l Z L n) {d : Nat} {S : GS} {a1 : Nat} {a2 : Int} {x : Int} {S1 : GS} (H : f_X4_accept n d 0 S [((a1 : Nat) : Int), a2] = some (x, S1)) : GM l Z L yX4_accept cX4_accept 3 none [] d 0 0 [.ref (L 485), .ref (L a1), .int (J a2)] S (fun v S' => v = none ∧ S1 = S') (fun _ _ => False) := GM.of (by decide) (Nat.le_of_ble_eq_true rfl) (ih _ _ _ _ _ _ H)
set_option maxHeartbeats 4000000 in
set_option maxRecDepth 20000 in
theorem t_X4_accept_0 {l : Launch} {Z : XZ} {L : Nat → Nat} (n : Nat) (ih_X4_accept_0 : P_X4_accept_0 l Z L n) : P_X4_accept_0 l Z L (n + 1) := by
  intro d S a1 a2 x S1 H
  have H : b_X4_accept_0 n d (f_X4_accept n) S a1 a2 = some (x, S1) := H
  unfold b_X4_accept_0 at H
  refine GA.iload_n dX4_accept_0 rfl ?_
  refine GA.iconst dX4_accept_1 ?_
  obtain ⟨hg1, H⟩ := gg_e H
  refine GV.icmp_eq (tgt := 15) hg1 (by decide) dX4_accept_2 (by decide) (fun c2 => ?_) (fun c2 => ?_)
  · have H := it_t H c2
    cases H
    exact GA.vret rfl dX4_accept_15 (by omega) (by omega) ⟨rfl, rfl⟩
  · have H := it_f H c2
    refine GA.aload_n dX4_accept_5 rfl ?_
    refine GA.get xf_X4_12 dX4_accept_6 gs_485 (by decide) rfl ?_
    refine GA.aload_n dX4_accept_9 rfl ?_
    refine GA.iload_n dX4_accept_10 rfl ?_
    obtain ⟨hg3, H⟩ := gg_e H
    obtain ⟨x4, S_5, hc6, H⟩ := gc_e H
    refine GA.callV (m_X10_append hc6) xs_X4_90 dX4_accept_11 (gsT (by decide)) (by decide) rfl rfl (by omega) (by decide) rfl (Nat.le_of_ble_eq_true rfl) (by omega) (by omega) rfl (fun E S9 hx => hx.elim) (fun v S9 hq => ?_)
    obtain ⟨rfl, rfl⟩ := hq
    refine GA.pop dX4_accept_14 rfl ?_
    cases H
    exact GA.vret rfl dX4_accept_15 (by omega) (by omega) ⟨rfl, rfl⟩
theorem g_X4_accept {l : Launch} {Z : XZ} {L : Nat → Nat} : ∀ n, P_X4_accept_0 l Z L n
  | 0 => fun _ _ _ _ _ _ H => no_e H
  | n + 1 => t_X4_accept_0 n (g_X4_accept n)
theorem m_X4_accept {l : Launch} {Z : XZ} {L : Nat → Nat} {n d : Nat} {S : GS} {a1 : Nat} {a2 : Int} {x : Int} {S1 : GS} (H : f_X4_accept n d 0 S [((a1 : Nat) : Int), a2] = some (x, S1)) : GM l Z L yX4_accept cX4_accept 3 none [] d 0 0 [.ref (L 485), .ref (L a1), .int (J a2)] S (fun v S' => v = none ∧ S1 = S') (fun _ _ => False) := GM.of (by decide) (Nat.le_of_ble_eq_true rfl) ((g_X4_accept n) _ _ _ _ _ _ H)

def P_X4_forget_0 (l : Launch) (Z : XZ) (L : Nat → Nat) (n : Nat) : Prop := ∀ (d : Nat) (S : GS) (x : Int) (S1 : GS), f_X4_forget n d 0 S [] = some (x, S1) → GA l Z L yX4_forget cX4_forget 1 none [] d 0 0 (fun v S' => v = none ∧ S1 = S') (fun _ _ => False) 0 (gl [(0, .ref (L 485))]) [] S 0 0
theorem i_X4_forget {l : Launch} {Z : XZ} {L : Nat → Nat} {n : Nat} (ih : P_X4_forget_0 l Z L n) {d : Nat} {S : GS} {x : Int} {S1 : GS} (H : f_X4_forget n d 0 S [] = some (x, S1)) : GM l Z L yX4_forget cX4_forget 1 none [] d 0 0 [.ref (L 485)] S (fun v S' => v = none ∧ S1 = S') (fun _ _ => False) := GM.of (by decide) (Nat.le_of_ble_eq_true rfl) (ih _ _ _ _ H)
set_option maxHeartbeats 4000000 in
set_option maxRecDepth 20000 in
theorem t_X4_forget_0 {l : Launch} {Z : XZ} {L : Nat → Nat} (n : Nat) (ih_X4_forget_0 : P_X4_forget_0 l Z L n) : P_X4_forget_0 l Z L (n + 1) := by
  intro d S  x S1 H
  have H : b_X4_forget_0 n d (f_X4_forget n) S  = some (x, S1) := H
  unfold b_X4_forget_0 at H
  refine GA.aload_n dX4_forget_0 rfl ?_
  refine GA.iconst dX4_forget_1 ?_
  obtain ⟨S_1, hx2, H⟩ := gv_e H
  refine GV.putI hx2 (xp_X4_44 _) dX4_forget_2 gs_485 (by decide) (Nat.le_of_ble_eq_true rfl) gs_485 ?_
  refine GA.aload_n dX4_forget_5 rfl ?_
  refine GA.get xf_X4_28 dX4_forget_6 gs_485 (by decide) rfl ?_
  obtain ⟨hg3, H⟩ := gg_e H
  obtain ⟨x4, S_5, hc6, H⟩ := gc_e H
  refine GA.callV (m_X9_clear hc6) xs_X4_48 dX4_forget_9 (gsS (by decide)) (by decide) rfl rfl (by omega) (by decide) rfl (Nat.le_of_ble_eq_true rfl) (by omega) (by omega) rfl (fun E S9 hx => hx.elim) (fun v S9 hq => ?_)
  obtain ⟨rfl, rfl⟩ := hq
  cases H
  exact GA.vret rfl dX4_forget_12 (by omega) (by omega) ⟨rfl, rfl⟩
theorem g_X4_forget {l : Launch} {Z : XZ} {L : Nat → Nat} : ∀ n, P_X4_forget_0 l Z L n
  | 0 => fun _ _ _ _ H => no_e H
  | n + 1 => t_X4_forget_0 n (g_X4_forget n)
theorem m_X4_forget {l : Launch} {Z : XZ} {L : Nat → Nat} {n d : Nat} {S : GS} {x : Int} {S1 : GS} (H : f_X4_forget n d 0 S [] = some (x, S1)) : GM l Z L yX4_forget cX4_forget 1 none [] d 0 0 [.ref (L 485)] S (fun v S' => v = none ∧ S1 = S') (fun _ _ => False) := GM.of (by decide) (Nat.le_of_ble_eq_true rfl) ((g_X4_forget n) _ _ _ _ H)

def P_X4_dispute_0 (l : Launch) (Z : XZ) (L : Nat → Nat) (n : Nat) : Prop := ∀ (d : Nat) (S : GS) (x : Int) (S1 : GS), f_X4_dispute n d 0 S [] = some (x, S1) → GA l Z L yX4_dispute cX4_dispute 1 none [] d 0 0 (fun v S' => v = none ∧ S1 = S') (fun _ _ => False) 0 (gl [(0, .ref (L 485))]) [] S 0 0
def P_X4_dispute_11 (l : Launch) (Z : XZ) (L : Nat → Nat) (n : Nat) : Prop := ∀ (d : Nat) (S : GS) (x : Int) (S1 : GS), f_X4_dispute n d 11 S [] = some (x, S1) → GA l Z L yX4_dispute cX4_dispute 1 none [] d 0 0 (fun v S' => v = none ∧ S1 = S') (fun _ _ => False) 11 (gl [(0, .ref (L 485))]) [] S 0 0
theorem i_X4_dispute {l : Launch} {Z : XZ} {L : Nat → Nat} {n : Nat} (ih : P_X4_dispute_0 l Z L n) {d : Nat} {S : GS} {x : Int} {S1 : GS} (H : f_X4_dispute n d 0 S [] = some (x, S1)) : GM l Z L yX4_dispute cX4_dispute 1 none [] d 0 0 [.ref (L 485)] S (fun v S' => v = none ∧ S1 = S') (fun _ _ => False) := GM.of (by decide) (Nat.le_of_ble_eq_true rfl) (ih _ _ _ _ H)
set_option maxHeartbeats 4000000 in
set_option maxRecDepth 20000 in
theorem t_X4_dispute_0 {l : Launch} {Z : XZ} {L : Nat → Nat} (n : Nat) (ih_X4_dispute_0 : P_X4_dispute_0 l Z L n) (ih_X4_dispute_11 : P_X4_dispute_11 l Z L n) : P_X4_dispute_0 l Z L (n + 1) := by
  intro d S  x S1 H
  have H : b_X4_dispute_0 n d (f_X4_dispute n) S  = some (x, S1) := H
  unfold b_X4_dispute_0 at H
  refine GA.aload_n dX4_dispute_0 rfl ?_
  obtain ⟨x1, hx2, H⟩ := gv_e H
  refine GV.getB hx2 xf_X4_59 dX4_dispute_1 gs_485 (by decide) rfl ?_
  obtain ⟨hg3, H⟩ := gg_e H
  refine GV.if_ne (tgt := 11) hg3 dX4_dispute_4 (by decide) (fun c4 => ?_) (fun c4 => ?_)
  · have H := it_t H c4
    refine GA.locals [(0, .ref (L 485))] ⟨rfl, trivial⟩ ?_
    exact ih_X4_dispute_11 _ _ _ _ H
  · have H := it_f H c4
    refine GA.aload_n dX4_dispute_7 rfl ?_
    obtain ⟨hg5, H⟩ := gg_e H
    obtain ⟨x6, S_7, hc8, H⟩ := gc_e H
    refine GA.callV (m_X4_forget hc8) xs_X4_126 dX4_dispute_8 gs_485 (by decide) rfl rfl (by omega) (by decide) rfl (Nat.le_of_ble_eq_true rfl) (by omega) (by omega) rfl (fun E S9 hx => hx.elim) (fun v S9 hq => ?_)
    obtain ⟨rfl, rfl⟩ := hq
    refine GA.locals [(0, .ref (L 485))] ⟨rfl, trivial⟩ ?_
    exact ih_X4_dispute_11 _ _ _ _ H
set_option maxHeartbeats 4000000 in
set_option maxRecDepth 20000 in
theorem t_X4_dispute_11 {l : Launch} {Z : XZ} {L : Nat → Nat} (n : Nat) (ih_X4_dispute_0 : P_X4_dispute_0 l Z L n) (ih_X4_dispute_11 : P_X4_dispute_11 l Z L n) : P_X4_dispute_11 l Z L (n + 1) := by
  intro d S  x S1 H
  have H : b_X4_dispute_11 n d (f_X4_dispute n) S  = some (x, S1) := H
  unfold b_X4_dispute_11 at H
  refine GA.aload_n dX4_dispute_11 rfl ?_
  refine GA.iconst dX4_dispute_12 ?_
  obtain ⟨S_1, hx2, H⟩ := gv_e H
  refine GV.putB (by decide) hx2 (xp_X4_59 (xb_01 _)) dX4_dispute_13 gs_485 (by decide) (Nat.le_of_ble_eq_true rfl) gs_485 ?_
  refine GA.aload_n dX4_dispute_16 rfl ?_
  obtain ⟨x3, hx4, H⟩ := gv_e H
  refine GV.getI hx4 xf_X4_44 dX4_dispute_17 gs_485 (by decide) rfl ?_
  obtain ⟨hg5, H⟩ := gg_e H
  refine GV.if_lt (tgt := 80) hg5 dX4_dispute_20 (by decide) (fun c6 => ?_) (fun c6 => ?_)
  · have H := it_t H c6
    cases H
    exact GA.vret rfl dX4_dispute_80 (by omega) (by omega) ⟨rfl, rfl⟩
  · have H := it_f H c6
    refine GA.aload_n dX4_dispute_23 rfl ?_
    obtain ⟨x7, hx8, H⟩ := gv_e H
    refine GV.getI hx8 xf_X4_44 dX4_dispute_24 gs_485 (by decide) rfl ?_
    refine GA.aload_n dX4_dispute_27 rfl ?_
    refine GA.get xf_X4_31 dX4_dispute_28 gs_485 (by decide) rfl ?_
    refine GA.alen (by decide) dX4_dispute_31 gs_486 (by decide) ?_
    obtain ⟨hg9, H⟩ := gg_e H
    obtain ⟨hg10, H⟩ := gg_e H
    refine GV.icmp_ge (tgt := 80) hg9 hg10 dX4_dispute_32 (by decide) (fun c11 => ?_) (fun c11 => ?_)
    · have H := it_t H c11
      cases H
      exact GA.vret rfl dX4_dispute_80 (by omega) (by omega) ⟨rfl, rfl⟩
    · have H := it_f H c11
      refine GA.aload_n dX4_dispute_35 rfl ?_
      refine GA.get xf_X4_28 dX4_dispute_36 gs_485 (by decide) rfl ?_
      refine GA.aload_n dX4_dispute_39 rfl ?_
      refine GA.get xf_X4_23 dX4_dispute_40 gs_485 (by decide) rfl ?_
      refine GA.iconst dX4_dispute_43 ?_
      refine GA.aload_n dX4_dispute_44 rfl ?_
      refine GA.get xf_X4_23 dX4_dispute_45 gs_485 (by decide) rfl ?_
      obtain ⟨hg12, H⟩ := gg_e H
      obtain ⟨x13, S_14, hc15, H⟩ := gc_e H
      refine GA.callV (m_X9_length hc15) xs_X4_101 dX4_dispute_48 (gsS (by decide)) (by decide) rfl rfl (by omega) (by decide) rfl (Nat.le_of_ble_eq_true rfl) (by omega) (by omega) rfl (fun E S9 hx => hx.elim) (fun v S9 hq => ?_)
      obtain ⟨rfl, rfl⟩ := hq
      obtain ⟨x16, S_17, hc18, H⟩ := gc_e H
      refine GA.callV (m_X9_addPart hc18) xs_X4_55 dX4_dispute_51 (gsS (by decide)) (by decide) rfl rfl (by omega) (by decide) rfl (Nat.le_of_ble_eq_true rfl) (by omega) (by omega) rfl (fun E S9 hx => hx.elim) (fun v S9 hq => ?_)
      obtain ⟨rfl, rfl⟩ := hq
      refine GA.aload_n dX4_dispute_54 rfl ?_
      refine GA.get xf_X4_31 dX4_dispute_55 gs_485 (by decide) rfl ?_
      refine GA.aload_n dX4_dispute_58 rfl ?_
      obtain ⟨x19, hx20, H⟩ := gv_e H
      refine GV.getI hx20 xf_X4_44 dX4_dispute_59 gs_485 (by decide) rfl ?_
      refine GA.aload_n dX4_dispute_62 rfl ?_
      refine GA.get xf_X4_28 dX4_dispute_63 gs_485 (by decide) rfl ?_
      obtain ⟨x21, S_22, hc23, H⟩ := gc_e H
      refine GA.callV (m_X9_length hc23) xs_X4_101 dX4_dispute_66 (gsS (by decide)) (by decide) rfl rfl (by omega) (by decide) rfl (Nat.le_of_ble_eq_true rfl) (by omega) (by omega) rfl (fun E S9 hx => hx.elim) (fun v S9 hq => ?_)
      obtain ⟨rfl, rfl⟩ := hq
      obtain ⟨hg24, H⟩ := gg_e H
      obtain ⟨S_25, hx26, H⟩ := gv_e H
      refine GV.iast hg24 hx26 dX4_dispute_69 (fun _ => gs_486) (by decide) ?_
      refine GA.aload_n dX4_dispute_70 rfl ?_
      refine GA.dup dX4_dispute_71 rfl ?_
      obtain ⟨x27, hx28, H⟩ := gv_e H
      refine GV.getI hx28 xf_X4_44 dX4_dispute_72 gs_485 (by decide) rfl ?_
      refine GA.iconst dX4_dispute_75 ?_
      obtain ⟨x29, hx30, H⟩ := gv_e H
      refine GV.iadd hx30 dX4_dispute_76 ?_
      obtain ⟨S_31, hx32, H⟩ := gv_e H
      refine GV.putI hx32 (xp_X4_44 _) dX4_dispute_77 gs_485 (by decide) (Nat.le_of_ble_eq_true rfl) gs_485 ?_
      cases H
      exact GA.vret rfl dX4_dispute_80 (by omega) (by omega) ⟨rfl, rfl⟩
theorem g_X4_dispute {l : Launch} {Z : XZ} {L : Nat → Nat} : ∀ n, P_X4_dispute_0 l Z L n ∧ P_X4_dispute_11 l Z L n
  | 0 => ⟨fun _ _ _ _ H => no_e H, fun _ _ _ _ H => no_e H⟩
  | n + 1 => have ⟨h0, h1⟩ := g_X4_dispute (l := l) (Z := Z) (L := L) n
    ⟨t_X4_dispute_0 n h0 h1, t_X4_dispute_11 n h0 h1⟩
theorem m_X4_dispute {l : Launch} {Z : XZ} {L : Nat → Nat} {n d : Nat} {S : GS} {x : Int} {S1 : GS} (H : f_X4_dispute n d 0 S [] = some (x, S1)) : GM l Z L yX4_dispute cX4_dispute 1 none [] d 0 0 [.ref (L 485)] S (fun v S' => v = none ∧ S1 = S') (fun _ _ => False) := GM.of (by decide) (Nat.le_of_ble_eq_true rfl) ((g_X4_dispute n).1 _ _ _ _ H)

def P_X4_uniteAt_0 (l : Launch) (Z : XZ) (L : Nat → Nat) (n : Nat) : Prop := ∀ (d : Nat) (S : GS) (a1 : Int) (a2 : Int) (a3 : Int) (a4 : Int) (x : Int) (S1 : GS), f_X4_uniteAt n d 0 S [a1, a2, a3, a4] = some (x, S1) → GA l Z L yX4_uniteAt cX4_uniteAt 5 none [] d 0 0 (fun v S' => v = none ∧ S1 = S') (fun _ _ => False) 0 (gl [(0, .ref (L 485)), (1, .int (J a1)), (2, .int (J a2)), (3, .int (J a3)), (4, .int (J a4))]) [] S 0 0
def P_X4_uniteAt_113 (l : Launch) (Z : XZ) (L : Nat → Nat) (n : Nat) : Prop := ∀ (d : Nat) (S : GS) (a1 : Int) (a2 : Int) (a3 : Int) (a4 : Int) (x : Int) (S1 : GS), f_X4_uniteAt n d 113 S [a1, a2, a3, a4] = some (x, S1) → GA l Z L yX4_uniteAt cX4_uniteAt 5 none [] d 0 0 (fun v S' => v = none ∧ S1 = S') (fun _ _ => False) 113 (gl [(0, .ref (L 485)), (1, .int (J a1)), (2, .int (J a2)), (3, .int (J a3)), (4, .int (J a4))]) [] S 0 0
def P_X4_uniteMaps_0 (l : Launch) (Z : XZ) (L : Nat → Nat) (n : Nat) : Prop := ∀ (d : Nat) (S : GS) (a1 : Int) (a2 : Int) (a3 : Int) (a4 : Int) (x : Int) (S1 : GS), f_X4_uniteAt n d 10000 S [a1, a2, a3, a4] = some (x, S1) → GA l Z L yX4_uniteMaps cX4_uniteMaps 9 none [] d 0 0 (fun v S' => v = none ∧ S1 = S') (fun _ _ => False) 0 (gl [(0, .ref (L 485)), (1, .int (J a1)), (2, .int (J a2)), (3, .int (J a3)), (4, .int (J a4))]) [] S 0 0
def P_X4_uniteMaps_46 (l : Launch) (Z : XZ) (L : Nat → Nat) (n : Nat) : Prop := ∀ (d : Nat) (S : GS) (a1 : Int) (a2 : Int) (a3 : Int) (a4 : Int) (a5 : Int) (a6 : Int) (a7 : Int) (a8 : Int) (x : Int) (S1 : GS), f_X4_uniteAt n d 10046 S [a1, a2, a3, a4, a5, a6, a7, a8] = some (x, S1) → GA l Z L yX4_uniteMaps cX4_uniteMaps 9 none [] d 0 0 (fun v S' => v = none ∧ S1 = S') (fun _ _ => False) 46 (gl [(0, .ref (L 485)), (1, .int (J a1)), (2, .int (J a2)), (3, .int (J a3)), (4, .int (J a4)), (5, .int (J a5)), (6, .int (J a6)), (7, .int (J a7)), (8, .int (J a8))]) [] S 0 0
def P_X4_uniteMaps_150 (l : Launch) (Z : XZ) (L : Nat → Nat) (n : Nat) : Prop := ∀ (d : Nat) (S : GS) (a1 : Int) (a2 : Int) (a3 : Int) (a4 : Int) (a5 : Int) (a6 : Int) (a7 : Int) (a8 : Int) (x : Int) (S1 : GS), f_X4_uniteAt n d 10150 S [a1, a2, a3, a4, a5, a6, a7, a8] = some (x, S1) → GA l Z L yX4_uniteMaps cX4_uniteMaps 9 none [] d 0 0 (fun v S' => v = none ∧ S1 = S') (fun _ _ => False) 150 (gl [(0, .ref (L 485)), (1, .int (J a1)), (2, .int (J a2)), (3, .int (J a3)), (4, .int (J a4)), (5, .int (J a5)), (6, .int (J a6)), (7, .int (J a7)), (8, .int (J a8))]) [] S 0 0
def P_X4_uniteMaps_228 (l : Launch) (Z : XZ) (L : Nat → Nat) (n : Nat) : Prop := ∀ (d : Nat) (S : GS) (a1 : Int) (a2 : Int) (a3 : Int) (a4 : Int) (a5 : Int) (a6 : Int) (a7 : Int) (a8 : Int) (x : Int) (S1 : GS), f_X4_uniteAt n d 10228 S [a1, a2, a3, a4, a5, a6, a7, a8] = some (x, S1) → GA l Z L yX4_uniteMaps cX4_uniteMaps 9 none [] d 0 0 (fun v S' => v = none ∧ S1 = S') (fun _ _ => False) 228 (gl [(0, .ref (L 485)), (1, .int (J a1)), (2, .int (J a2)), (3, .int (J a3)), (4, .int (J a4)), (5, .int (J a5)), (6, .int (J a6)), (7, .int (J a7)), (8, .int (J a8))]) [] S 0 0
def P_X4_uniteMaps_259 (l : Launch) (Z : XZ) (L : Nat → Nat) (n : Nat) : Prop := ∀ (d : Nat) (S : GS) (a1 : Int) (a2 : Int) (a3 : Int) (a5 : Int) (a7 : Int) (a8 : Int) (x : Int) (S1 : GS), f_X4_uniteAt n d 10259 S [a1, a2, a3, a5, a7, a8] = some (x, S1) → GA l Z L yX4_uniteMaps cX4_uniteMaps 9 none [] d 0 0 (fun v S' => v = none ∧ S1 = S') (fun _ _ => False) 259 (gl [(0, .ref (L 485)), (1, .int (J a1)), (2, .int (J a2)), (3, .int (J a3)), (5, .int (J a5)), (7, .int (J a7)), (8, .int (J a8))]) [] S 0 0
def P_X4_uniteMaps_318 (l : Launch) (Z : XZ) (L : Nat → Nat) (n : Nat) : Prop := ∀ (d : Nat) (S : GS) (a1 : Int) (a2 : Int) (a3 : Int) (a5 : Int) (a7 : Int) (a8 : Int) (x : Int) (S1 : GS), f_X4_uniteAt n d 10318 S [a1, a2, a3, a5, a7, a8] = some (x, S1) → GA l Z L yX4_uniteMaps cX4_uniteMaps 9 none [] d 0 0 (fun v S' => v = none ∧ S1 = S') (fun _ _ => False) 318 (gl [(0, .ref (L 485)), (1, .int (J a1)), (2, .int (J a2)), (3, .int (J a3)), (5, .int (J a5)), (7, .int (J a7)), (8, .int (J a8))]) [] S 0 0
theorem i_X4_uniteAt {l : Launch} {Z : XZ} {L : Nat → Nat} {n : Nat} (ih : P_X4_uniteAt_0 l Z L n) {d : Nat} {S : GS} {a1 : Int} {a2 : Int} {a3 : Int} {a4 : Int} {x : Int} {S1 : GS} (H : f_X4_uniteAt n d 0 S [a1, a2, a3, a4] = some (x, S1)) : GM l Z L yX4_uniteAt cX4_uniteAt 5 none [] d 0 0 [.ref (L 485), .int (J a1), .int (J a2), .int (J a3), .int (J a4)] S (fun v S' => v = none ∧ S1 = S') (fun _ _ => False) := GM.of (by decide) (Nat.le_of_ble_eq_true rfl) (ih _ _ _ _ _ _ _ _ H)
theorem i_X4_uniteMaps {l : Launch} {Z : XZ} {L : Nat → Nat} {n : Nat} (ih : P_X4_uniteMaps_0 l Z L n) {d : Nat} {S : GS} {a1 : Int} {a2 : Int} {a3 : Int} {a4 : Int} {x : Int} {S1 : GS} (H : f_X4_uniteAt n d 10000 S [a1, a2, a3, a4] = some (x, S1)) : GM l Z L yX4_uniteMaps cX4_uniteMaps 9 none [] d 0 0 [.ref (L 485), .int (J a1), .int (J a2), .int (J a3), .int (J a4)] S (fun v S' => v = none ∧ S1 = S') (fun _ _ => False) := GM.of (by decide) (Nat.le_of_ble_eq_true rfl) (ih _ _ _ _ _ _ _ _ H)
set_option maxHeartbeats 4000000 in
set_option maxRecDepth 20000 in
theorem t_X4_uniteAt_0 {l : Launch} {Z : XZ} {L : Nat → Nat} (n : Nat) (ih_X4_uniteAt_0 : P_X4_uniteAt_0 l Z L n) (ih_X4_uniteAt_113 : P_X4_uniteAt_113 l Z L n) (ih_X4_uniteMaps_0 : P_X4_uniteMaps_0 l Z L n) (ih_X4_uniteMaps_46 : P_X4_uniteMaps_46 l Z L n) (ih_X4_uniteMaps_150 : P_X4_uniteMaps_150 l Z L n) (ih_X4_uniteMaps_228 : P_X4_uniteMaps_228 l Z L n) (ih_X4_uniteMaps_259 : P_X4_uniteMaps_259 l Z L n) (ih_X4_uniteMaps_318 : P_X4_uniteMaps_318 l Z L n) : P_X4_uniteAt_0 l Z L (n + 1) := by
  intro d S a1 a2 a3 a4 x S1 H
  have H : b_X4_uniteAt_0 n d (f_X4_uniteAt n) S a1 a2 a3 a4 = some (x, S1) := H
  unfold b_X4_uniteAt_0 at H
  refine GA.aload_n dX4_uniteAt_0 rfl ?_
  obtain ⟨z1, hx2, H⟩ := gv_e H
  refine GV.getR hx2 xf_X4_38 dX4_uniteAt_1 gs_485 (by decide) rfl ?_
  refine GA.iload_n dX4_uniteAt_4 rfl ?_
  refine GA.aload_n dX4_uniteAt_5 rfl ?_
  obtain ⟨z3, hx4, H⟩ := gv_e H
  refine GV.getR hx4 xf_X4_41 dX4_uniteAt_6 gs_485 (by decide) rfl ?_
  refine GA.iload_n dX4_uniteAt_9 rfl ?_
  obtain ⟨hg5, H⟩ := gg_e H
  obtain ⟨x6, S_7, hc8, H⟩ := gc_e H
  refine GA.callS (m_X4_alike hc8) xs_X4_72 dX4_uniteAt_10 rfl (by omega) (by decide) rfl (Nat.le_of_ble_eq_true rfl) (by omega) (by omega) rfl (fun E S9 hx => hx.elim) (fun v S9 hq => ?_)
  obtain ⟨rfl, rfl⟩ := hq
  obtain ⟨hg9, H⟩ := gg_e H
  refine GV.if_ne (tgt := 32) hg9 dX4_uniteAt_13 (by decide) (fun c10 => ?_) (fun c10 => ?_)
  · have H := it_t H c10
    refine GA.aload_n dX4_uniteAt_32 rfl ?_
    refine GA.aload_n dX4_uniteAt_33 rfl ?_
    obtain ⟨z11, hx12, H⟩ := gv_e H
    refine GV.getR hx12 xf_X4_38 dX4_uniteAt_34 gs_485 (by decide) rfl ?_
    refine GA.iload_n dX4_uniteAt_37 rfl ?_
    obtain ⟨x13, S_14, hc15, H⟩ := gc_e H
    refine GA.callV (m_X4_accept hc15) xs_X4_76 dX4_uniteAt_38 gs_485 (by decide) rfl rfl (by omega) (by decide) rfl (Nat.le_of_ble_eq_true rfl) (by omega) (by omega) rfl (fun E S9 hx => hx.elim) (fun v S9 hq => ?_)
    obtain ⟨rfl, rfl⟩ := hq
    refine GA.goto (tgt := 136) dX4_uniteAt_41 (by decide) ?_
    cases H
    exact GA.vret rfl dX4_uniteAt_136 (by omega) (by omega) ⟨rfl, rfl⟩
  · have H := it_f H c10
    refine GA.aload_n dX4_uniteAt_16 rfl ?_
    obtain ⟨z16, hx17, H⟩ := gv_e H
    refine GV.getR hx17 xf_X4_41 dX4_uniteAt_17 gs_485 (by decide) rfl ?_
    refine GA.iload_n dX4_uniteAt_20 rfl ?_
    refine GA.aload_n dX4_uniteAt_21 rfl ?_
    obtain ⟨z18, hx19, H⟩ := gv_e H
    refine GV.getR hx19 xf_X4_35 dX4_uniteAt_22 gs_485 (by decide) rfl ?_
    refine GA.iload_n dX4_uniteAt_25 rfl ?_
    obtain ⟨x20, S_21, hc22, H⟩ := gc_e H
    refine GA.callS (m_X4_alike hc22) xs_X4_72 dX4_uniteAt_26 rfl (by omega) (by decide) rfl (Nat.le_of_ble_eq_true rfl) (by omega) (by omega) rfl (fun E S9 hx => hx.elim) (fun v S9 hq => ?_)
    obtain ⟨rfl, rfl⟩ := hq
    obtain ⟨hg23, H⟩ := gg_e H
    refine GV.if_eq (tgt := 44) hg23 dX4_uniteAt_29 (by decide) (fun c24 => ?_) (fun c24 => ?_)
    · have H := it_t H c24
      refine GA.aload_n dX4_uniteAt_44 rfl ?_
      obtain ⟨z25, hx26, H⟩ := gv_e H
      refine GV.getR hx26 xf_X4_38 dX4_uniteAt_45 gs_485 (by decide) rfl ?_
      refine GA.iload_n dX4_uniteAt_48 rfl ?_
      refine GA.aload_n dX4_uniteAt_49 rfl ?_
      obtain ⟨z27, hx28, H⟩ := gv_e H
      refine GV.getR hx28 xf_X4_35 dX4_uniteAt_50 gs_485 (by decide) rfl ?_
      refine GA.iload_n dX4_uniteAt_53 rfl ?_
      obtain ⟨x29, S_30, hc31, H⟩ := gc_e H
      refine GA.callS (m_X4_alike hc31) xs_X4_72 dX4_uniteAt_54 rfl (by omega) (by decide) rfl (Nat.le_of_ble_eq_true rfl) (by omega) (by omega) rfl (fun E S9 hx => hx.elim) (fun v S9 hq => ?_)
      obtain ⟨rfl, rfl⟩ := hq
      obtain ⟨hg32, H⟩ := gg_e H
      refine GV.if_eq (tgt := 72) hg32 dX4_uniteAt_57 (by decide) (fun c33 => ?_) (fun c33 => ?_)
      · have H := it_t H c33
        refine GA.aload_n dX4_uniteAt_72 rfl ?_
        obtain ⟨z34, hx35, H⟩ := gv_e H
        refine GV.getR hx35 xf_X4_38 dX4_uniteAt_73 gs_485 (by decide) rfl ?_
        refine GA.iload_n dX4_uniteAt_76 rfl ?_
        refine GA.iconst dX4_uniteAt_77 ?_
        obtain ⟨hg36, H⟩ := gg_e H
        obtain ⟨x37, S_38, hc39, H⟩ := gc_e H
        refine GA.callV (m_X10_is hc39) xs_X4_80 dX4_uniteAt_78 (gsT hg36) (by omega) rfl rfl (by omega) (by decide) rfl (Nat.le_of_ble_eq_true rfl) (by omega) (by omega) rfl (fun E S9 hx => hx.elim) (fun v S9 hq => ?_)
        obtain ⟨rfl, rfl⟩ := hq
        obtain ⟨hg40, H⟩ := gg_e H
        refine GV.if_eq (tgt := 132) hg40 dX4_uniteAt_81 (by decide) (fun c41 => ?_) (fun c41 => ?_)
        · have H := it_t H c41
          refine GA.aload_n dX4_uniteAt_132 rfl ?_
          obtain ⟨x42, S_43, hc44, H⟩ := gc_e H
          refine GA.callV (m_X4_dispute hc44) xs_X4_87 dX4_uniteAt_133 gs_485 (by decide) rfl rfl (by omega) (by decide) rfl (Nat.le_of_ble_eq_true rfl) (by omega) (by omega) rfl (fun E S9 hx => hx.elim) (fun v S9 hq => ?_)
          obtain ⟨rfl, rfl⟩ := hq
          cases H
          exact GA.vret rfl dX4_uniteAt_136 (by omega) (by omega) ⟨rfl, rfl⟩
        · have H := it_f H c41
          refine GA.aload_n dX4_uniteAt_84 rfl ?_
          obtain ⟨z45, hx46, H⟩ := gv_e H
          refine GV.getR hx46 xf_X4_41 dX4_uniteAt_85 gs_485 (by decide) rfl ?_
          refine GA.iload_n dX4_uniteAt_88 rfl ?_
          refine GA.iconst dX4_uniteAt_89 ?_
          obtain ⟨hg47, H⟩ := gg_e H
          obtain ⟨x48, S_49, hc50, H⟩ := gc_e H
          refine GA.callV (m_X10_is hc50) xs_X4_80 dX4_uniteAt_90 (gsT hg47) (by omega) rfl rfl (by omega) (by decide) rfl (Nat.le_of_ble_eq_true rfl) (by omega) (by omega) rfl (fun E S9 hx => hx.elim) (fun v S9 hq => ?_)
          obtain ⟨rfl, rfl⟩ := hq
          obtain ⟨hg51, H⟩ := gg_e H
          refine GV.if_eq (tgt := 132) hg51 dX4_uniteAt_93 (by decide) (fun c52 => ?_) (fun c52 => ?_)
          · have H := it_t H c52
            refine GA.aload_n dX4_uniteAt_132 rfl ?_
            obtain ⟨x53, S_54, hc55, H⟩ := gc_e H
            refine GA.callV (m_X4_dispute hc55) xs_X4_87 dX4_uniteAt_133 gs_485 (by decide) rfl rfl (by omega) (by decide) rfl (Nat.le_of_ble_eq_true rfl) (by omega) (by omega) rfl (fun E S9 hx => hx.elim) (fun v S9 hq => ?_)
            obtain ⟨rfl, rfl⟩ := hq
            cases H
            exact GA.vret rfl dX4_uniteAt_136 (by omega) (by omega) ⟨rfl, rfl⟩
          · have H := it_f H c52
            refine GA.iload_n dX4_uniteAt_96 rfl ?_
            refine GA.iconst dX4_uniteAt_97 ?_
            obtain ⟨hg56, H⟩ := gg_e H
            refine GV.icmp_eq (tgt := 113) hg56 (by decide) dX4_uniteAt_98 (by decide) (fun c57 => ?_) (fun c57 => ?_)
            · have H := it_t H c57
              refine GA.locals [(0, .ref (L 485)), (1, .int (J a1)), (2, .int (J a2)), (3, .int (J a3)), (4, .int (J a4))] ⟨rfl, rfl, rfl, rfl, rfl, trivial⟩ ?_
              exact ih_X4_uniteAt_113 _ _ (a1) (a2) (a3) (a4) _ _ H
            · have H := it_f H c57
              refine GA.aload_n dX4_uniteAt_101 rfl ?_
              obtain ⟨z58, hx59, H⟩ := gv_e H
              refine GV.getR hx59 xf_X4_35 dX4_uniteAt_102 gs_485 (by decide) rfl ?_
              refine GA.iload_n dX4_uniteAt_105 rfl ?_
              refine GA.iconst dX4_uniteAt_106 ?_
              obtain ⟨hg60, H⟩ := gg_e H
              obtain ⟨x61, S_62, hc63, H⟩ := gc_e H
              refine GA.callV (m_X10_is hc63) xs_X4_80 dX4_uniteAt_107 (gsT hg60) (by omega) rfl rfl (by omega) (by decide) rfl (Nat.le_of_ble_eq_true rfl) (by omega) (by omega) rfl (fun E S9 hx => hx.elim) (fun v S9 hq => ?_)
              obtain ⟨rfl, rfl⟩ := hq
              obtain ⟨hg64, H⟩ := gg_e H
              refine GV.if_eq (tgt := 132) hg64 dX4_uniteAt_110 (by decide) (fun c65 => ?_) (fun c65 => ?_)
              · have H := it_t H c65
                refine GA.aload_n dX4_uniteAt_132 rfl ?_
                obtain ⟨x66, S_67, hc68, H⟩ := gc_e H
                refine GA.callV (m_X4_dispute hc68) xs_X4_87 dX4_uniteAt_133 gs_485 (by decide) rfl rfl (by omega) (by decide) rfl (Nat.le_of_ble_eq_true rfl) (by omega) (by omega) rfl (fun E S9 hx => hx.elim) (fun v S9 hq => ?_)
                obtain ⟨rfl, rfl⟩ := hq
                cases H
                exact GA.vret rfl dX4_uniteAt_136 (by omega) (by omega) ⟨rfl, rfl⟩
              · have H := it_f H c65
                refine GA.locals [(0, .ref (L 485)), (1, .int (J a1)), (2, .int (J a2)), (3, .int (J a3)), (4, .int (J a4))] ⟨rfl, rfl, rfl, rfl, rfl, trivial⟩ ?_
                exact ih_X4_uniteAt_113 _ _ (a1) (a2) (a3) (a4) _ _ H
      · have H := it_f H c33
        refine GA.aload_n dX4_uniteAt_60 rfl ?_
        refine GA.aload_n dX4_uniteAt_61 rfl ?_
        obtain ⟨z69, hx70, H⟩ := gv_e H
        refine GV.getR hx70 xf_X4_41 dX4_uniteAt_62 gs_485 (by decide) rfl ?_
        refine GA.iload_n dX4_uniteAt_65 rfl ?_
        obtain ⟨x71, S_72, hc73, H⟩ := gc_e H
        refine GA.callV (m_X4_accept hc73) xs_X4_76 dX4_uniteAt_66 gs_485 (by decide) rfl rfl (by omega) (by decide) rfl (Nat.le_of_ble_eq_true rfl) (by omega) (by omega) rfl (fun E S9 hx => hx.elim) (fun v S9 hq => ?_)
        obtain ⟨rfl, rfl⟩ := hq
        refine GA.goto (tgt := 136) dX4_uniteAt_69 (by decide) ?_
        cases H
        exact GA.vret rfl dX4_uniteAt_136 (by omega) (by omega) ⟨rfl, rfl⟩
    · have H := it_f H c24
      refine GA.aload_n dX4_uniteAt_32 rfl ?_
      refine GA.aload_n dX4_uniteAt_33 rfl ?_
      obtain ⟨z74, hx75, H⟩ := gv_e H
      refine GV.getR hx75 xf_X4_38 dX4_uniteAt_34 gs_485 (by decide) rfl ?_
      refine GA.iload_n dX4_uniteAt_37 rfl ?_
      obtain ⟨x76, S_77, hc78, H⟩ := gc_e H
      refine GA.callV (m_X4_accept hc78) xs_X4_76 dX4_uniteAt_38 gs_485 (by decide) rfl rfl (by omega) (by decide) rfl (Nat.le_of_ble_eq_true rfl) (by omega) (by omega) rfl (fun E S9 hx => hx.elim) (fun v S9 hq => ?_)
      obtain ⟨rfl, rfl⟩ := hq
      refine GA.goto (tgt := 136) dX4_uniteAt_41 (by decide) ?_
      cases H
      exact GA.vret rfl dX4_uniteAt_136 (by omega) (by omega) ⟨rfl, rfl⟩
set_option maxHeartbeats 4000000 in
set_option maxRecDepth 20000 in
theorem t_X4_uniteAt_113 {l : Launch} {Z : XZ} {L : Nat → Nat} (n : Nat) (ih_X4_uniteAt_0 : P_X4_uniteAt_0 l Z L n) (ih_X4_uniteAt_113 : P_X4_uniteAt_113 l Z L n) (ih_X4_uniteMaps_0 : P_X4_uniteMaps_0 l Z L n) (ih_X4_uniteMaps_46 : P_X4_uniteMaps_46 l Z L n) (ih_X4_uniteMaps_150 : P_X4_uniteMaps_150 l Z L n) (ih_X4_uniteMaps_228 : P_X4_uniteMaps_228 l Z L n) (ih_X4_uniteMaps_259 : P_X4_uniteMaps_259 l Z L n) (ih_X4_uniteMaps_318 : P_X4_uniteMaps_318 l Z L n) : P_X4_uniteAt_113 l Z L (n + 1) := by
  intro d S a1 a2 a3 a4 x S1 H
  have H : b_X4_uniteAt_113 n d (f_X4_uniteAt n) S a1 a2 a3 a4 = some (x, S1) := H
  unfold b_X4_uniteAt_113 at H
  refine GA.iload dX4_uniteAt_113 rfl ?_
  refine GA.bipush dX4_uniteAt_115 rfl ?_
  obtain ⟨hg1, H⟩ := gg_e H
  refine GV.icmp_gt (tgt := 132) hg1 (by decide) dX4_uniteAt_117 (by decide) (fun c2 => ?_) (fun c2 => ?_)
  · have H := it_t H c2
    refine GA.aload_n dX4_uniteAt_132 rfl ?_
    obtain ⟨hg3, H⟩ := gg_e H
    obtain ⟨x4, S_5, hc6, H⟩ := gc_e H
    refine GA.callV (m_X4_dispute hc6) xs_X4_87 dX4_uniteAt_133 gs_485 (by decide) rfl rfl (by omega) (by decide) rfl (Nat.le_of_ble_eq_true rfl) (by omega) (by omega) rfl (fun E S9 hx => hx.elim) (fun v S9 hq => ?_)
    obtain ⟨rfl, rfl⟩ := hq
    cases H
    exact GA.vret rfl dX4_uniteAt_136 (by omega) (by omega) ⟨rfl, rfl⟩
  · have H := it_f H c2
    refine GA.aload_n dX4_uniteAt_120 rfl ?_
    refine GA.iload_n dX4_uniteAt_121 rfl ?_
    refine GA.iload_n dX4_uniteAt_122 rfl ?_
    refine GA.iload_n dX4_uniteAt_123 rfl ?_
    refine GA.iload dX4_uniteAt_124 rfl ?_
    obtain ⟨hg7, H⟩ := gg_e H
    obtain ⟨x8, S_9, hc10, H⟩ := gc_e H
    refine GA.callV (i_X4_uniteMaps ih_X4_uniteMaps_0 hc10) xs_X4_84 dX4_uniteAt_126 gs_485 (by decide) rfl rfl (by omega) (by decide) rfl (Nat.le_of_ble_eq_true rfl) (by omega) (by omega) rfl (fun E S9 hx => hx.elim) (fun v S9 hq => ?_)
    obtain ⟨rfl, rfl⟩ := hq
    refine GA.goto (tgt := 136) dX4_uniteAt_129 (by decide) ?_
    cases H
    exact GA.vret rfl dX4_uniteAt_136 (by omega) (by omega) ⟨rfl, rfl⟩
set_option maxHeartbeats 4000000 in
set_option maxRecDepth 20000 in
theorem t_X4_uniteMaps_0 {l : Launch} {Z : XZ} {L : Nat → Nat} (n : Nat) (ih_X4_uniteAt_0 : P_X4_uniteAt_0 l Z L n) (ih_X4_uniteAt_113 : P_X4_uniteAt_113 l Z L n) (ih_X4_uniteMaps_0 : P_X4_uniteMaps_0 l Z L n) (ih_X4_uniteMaps_46 : P_X4_uniteMaps_46 l Z L n) (ih_X4_uniteMaps_150 : P_X4_uniteMaps_150 l Z L n) (ih_X4_uniteMaps_228 : P_X4_uniteMaps_228 l Z L n) (ih_X4_uniteMaps_259 : P_X4_uniteMaps_259 l Z L n) (ih_X4_uniteMaps_318 : P_X4_uniteMaps_318 l Z L n) : P_X4_uniteMaps_0 l Z L (n + 1) := by
  intro d S a1 a2 a3 a4 x S1 H
  have H : b_X4_uniteMaps_0 n d (f_X4_uniteAt n) S a1 a2 a3 a4 = some (x, S1) := H
  unfold b_X4_uniteMaps_0 at H
  refine GA.aload_n dX4_uniteMaps_0 rfl ?_
  refine GA.get xf_X4_12 dX4_uniteMaps_1 gs_485 (by decide) rfl ?_
  refine GA.iconst dX4_uniteMaps_4 ?_
  obtain ⟨hg1, H⟩ := gg_e H
  obtain ⟨x2, S_3, hc4, H⟩ := gc_e H
  refine GA.callV (m_X10_add hc4) xs_X4_94 dX4_uniteMaps_5 (gsT (by decide)) (by decide) rfl rfl (by omega) (by decide) rfl (Nat.le_of_ble_eq_true rfl) (by omega) (by omega) rfl (fun E S9 hx => hx.elim) (fun v S9 hq => ?_)
  obtain ⟨rfl, rfl⟩ := hq
  refine GA.istore dX4_uniteMaps_8 (by decide) ?_
  refine GA.aload_n dX4_uniteMaps_10 rfl ?_
  refine GA.get xf_X4_12 dX4_uniteMaps_11 gs_485 (by decide) rfl ?_
  refine GA.iload dX4_uniteMaps_14 rfl ?_
  refine GA.aload_n dX4_uniteMaps_16 rfl ?_
  obtain ⟨z5, hx6, H⟩ := gv_e H
  refine GV.getR hx6 xf_X4_38 dX4_uniteMaps_17 gs_485 (by decide) rfl ?_
  refine GA.iload_n dX4_uniteMaps_20 rfl ?_
  obtain ⟨x7, S_8, hc9, H⟩ := gc_e H
  refine GA.callV (m_X10_setKeyLike hc9) xs_X4_97 dX4_uniteMaps_21 (gsT (by decide)) (by decide) rfl rfl (by omega) (by decide) rfl (Nat.le_of_ble_eq_true rfl) (by omega) (by omega) rfl (fun E S9 hx => hx.elim) (fun v S9 hq => ?_)
  obtain ⟨rfl, rfl⟩ := hq
  refine GA.aload_n dX4_uniteMaps_24 rfl ?_
  refine GA.get xf_X4_23 dX4_uniteMaps_25 gs_485 (by decide) rfl ?_
  obtain ⟨x10, S_11, hc12, H⟩ := gc_e H
  refine GA.callV (m_X9_length hc12) xs_X4_101 dX4_uniteMaps_28 (gsS (by decide)) (by decide) rfl rfl (by omega) (by decide) rfl (Nat.le_of_ble_eq_true rfl) (by omega) (by omega) rfl (fun E S9 hx => hx.elim) (fun v S9 hq => ?_)
  obtain ⟨rfl, rfl⟩ := hq
  refine GA.istore dX4_uniteMaps_31 (by decide) ?_
  refine GA.aload_n dX4_uniteMaps_33 rfl ?_
  obtain ⟨z13, hx14, H⟩ := gv_e H
  refine GV.getR hx14 xf_X4_35 dX4_uniteMaps_34 gs_485 (by decide) rfl ?_
  refine GA.iload_n dX4_uniteMaps_37 rfl ?_
  obtain ⟨hg15, H⟩ := gg_e H
  obtain ⟨x16, S_17, hc18, H⟩ := gc_e H
  refine GA.callV (m_X10_first hc18) xs_X4_105 dX4_uniteMaps_38 (gsT hg15) (by omega) rfl rfl (by omega) (by decide) rfl (Nat.le_of_ble_eq_true rfl) (by omega) (by omega) rfl (fun E S9 hx => hx.elim) (fun v S9 hq => ?_)
  obtain ⟨rfl, rfl⟩ := hq
  refine GA.istore dX4_uniteMaps_41 (by decide) ?_
  refine GA.iconst dX4_uniteMaps_43 ?_
  refine GA.istore dX4_uniteMaps_44 (by decide) ?_
  refine GA.locals [(0, .ref (L 485)), (1, .int (J a1)), (2, .int (J a2)), (3, .int (J a3)), (4, .int (J a4)), (5, .int (J x2)), (6, .int (J x10)), (7, .int (J x16)), (8, .int (J 0))] ⟨rfl, rfl, rfl, rfl, rfl, rfl, rfl, rfl, rfl, trivial⟩ ?_
  exact ih_X4_uniteMaps_46 _ _ (a1) (a2) (a3) (a4) (x2) (x10) (x16) (0) _ _ H
set_option maxHeartbeats 4000000 in
set_option maxRecDepth 20000 in
theorem t_X4_uniteMaps_46 {l : Launch} {Z : XZ} {L : Nat → Nat} (n : Nat) (ih_X4_uniteAt_0 : P_X4_uniteAt_0 l Z L n) (ih_X4_uniteAt_113 : P_X4_uniteAt_113 l Z L n) (ih_X4_uniteMaps_0 : P_X4_uniteMaps_0 l Z L n) (ih_X4_uniteMaps_46 : P_X4_uniteMaps_46 l Z L n) (ih_X4_uniteMaps_150 : P_X4_uniteMaps_150 l Z L n) (ih_X4_uniteMaps_228 : P_X4_uniteMaps_228 l Z L n) (ih_X4_uniteMaps_259 : P_X4_uniteMaps_259 l Z L n) (ih_X4_uniteMaps_318 : P_X4_uniteMaps_318 l Z L n) : P_X4_uniteMaps_46 l Z L (n + 1) := by
  intro d S a1 a2 a3 a4 a5 a6 a7 a8 x S1 H
  have H : b_X4_uniteMaps_46 n d (f_X4_uniteAt n) S a1 a2 a3 a4 a5 a6 a7 a8 = some (x, S1) := H
  unfold b_X4_uniteMaps_46 at H
  refine GA.iload dX4_uniteMaps_46 rfl ?_
  refine GA.iconst dX4_uniteMaps_48 ?_
  obtain ⟨hg1, H⟩ := gg_e H
  refine GV.icmp_eq (tgt := 137) hg1 (by decide) dX4_uniteMaps_49 (by decide) (fun c2 => ?_) (fun c2 => ?_)
  · have H := it_t H c2
    refine GA.aload_n dX4_uniteMaps_137 rfl ?_
    obtain ⟨z3, hx4, H⟩ := gv_e H
    refine GV.getR hx4 xf_X4_38 dX4_uniteMaps_138 gs_485 (by decide) rfl ?_
    refine GA.iload_n dX4_uniteMaps_141 rfl ?_
    obtain ⟨hg5, H⟩ := gg_e H
    obtain ⟨hg6, H⟩ := gg_e H
    obtain ⟨x7, S_8, hc9, H⟩ := gc_e H
    refine GA.callV (m_X10_first hc9) xs_X4_105 dX4_uniteMaps_142 (gsT hg6) (by omega) rfl rfl (by omega) (by decide) rfl (Nat.le_of_ble_eq_true rfl) (by omega) (by omega) rfl (fun E S9 hx => hx.elim) (fun v S9 hq => ?_)
    obtain ⟨rfl, rfl⟩ := hq
    refine GA.istore dX4_uniteMaps_145 (by decide) ?_
    refine GA.iconst dX4_uniteMaps_147 ?_
    refine GA.istore dX4_uniteMaps_148 (by decide) ?_
    refine GA.locals [(0, .ref (L 485)), (1, .int (J a1)), (2, .int (J a2)), (3, .int (J a3)), (4, .int (J a4)), (5, .int (J a5)), (6, .int (J a6)), (7, .int (J x7)), (8, .int (J 0))] ⟨rfl, rfl, rfl, rfl, rfl, rfl, rfl, rfl, rfl, trivial⟩ ?_
    exact ih_X4_uniteMaps_150 _ _ (a1) (a2) (a3) (a4) (a5) (a6) (x7) (0) _ _ H
  · have H := it_f H c2
    refine GA.iload dX4_uniteMaps_52 rfl ?_
    refine GA.bipush dX4_uniteMaps_54 rfl ?_
    obtain ⟨hg10, H⟩ := gg_e H
    refine GV.icmp_ge (tgt := 137) hg10 (by decide) dX4_uniteMaps_56 (by decide) (fun c11 => ?_) (fun c11 => ?_)
    · have H := it_t H c11
      refine GA.aload_n dX4_uniteMaps_137 rfl ?_
      obtain ⟨z12, hx13, H⟩ := gv_e H
      refine GV.getR hx13 xf_X4_38 dX4_uniteMaps_138 gs_485 (by decide) rfl ?_
      refine GA.iload_n dX4_uniteMaps_141 rfl ?_
      obtain ⟨hg14, H⟩ := gg_e H
      obtain ⟨hg15, H⟩ := gg_e H
      obtain ⟨x16, S_17, hc18, H⟩ := gc_e H
      refine GA.callV (m_X10_first hc18) xs_X4_105 dX4_uniteMaps_142 (gsT hg15) (by omega) rfl rfl (by omega) (by decide) rfl (Nat.le_of_ble_eq_true rfl) (by omega) (by omega) rfl (fun E S9 hx => hx.elim) (fun v S9 hq => ?_)
      obtain ⟨rfl, rfl⟩ := hq
      refine GA.istore dX4_uniteMaps_145 (by decide) ?_
      refine GA.iconst dX4_uniteMaps_147 ?_
      refine GA.istore dX4_uniteMaps_148 (by decide) ?_
      refine GA.locals [(0, .ref (L 485)), (1, .int (J a1)), (2, .int (J a2)), (3, .int (J a3)), (4, .int (J a4)), (5, .int (J a5)), (6, .int (J a6)), (7, .int (J x16)), (8, .int (J 0))] ⟨rfl, rfl, rfl, rfl, rfl, rfl, rfl, rfl, rfl, trivial⟩ ?_
      exact ih_X4_uniteMaps_150 _ _ (a1) (a2) (a3) (a4) (a5) (a6) (x16) (0) _ _ H
    · have H := it_f H c11
      refine GA.aload_n dX4_uniteMaps_59 rfl ?_
      obtain ⟨z19, hx20, H⟩ := gv_e H
      refine GV.getR hx20 xf_X4_35 dX4_uniteMaps_60 gs_485 (by decide) rfl ?_
      refine GA.iload dX4_uniteMaps_63 rfl ?_
      refine GA.aload_n dX4_uniteMaps_65 rfl ?_
      refine GA.get xf_X4_23 dX4_uniteMaps_66 gs_485 (by decide) rfl ?_
      obtain ⟨hg21, H⟩ := gg_e H
      obtain ⟨hg22, H⟩ := gg_e H
      obtain ⟨x23, S_24, hc25, H⟩ := gc_e H
      refine GA.callV (m_X10_stepTo hc25) xs_X4_108 dX4_uniteMaps_69 (gsT hg22) (by omega) rfl rfl (by omega) (by decide) rfl (Nat.le_of_ble_eq_true rfl) (by omega) (by omega) rfl (fun E S9 hx => hx.elim) (fun v S9 hq => ?_)
      obtain ⟨rfl, rfl⟩ := hq
      refine GA.aload_n dX4_uniteMaps_72 rfl ?_
      refine GA.iload dX4_uniteMaps_73 rfl ?_
      refine GA.aload_n dX4_uniteMaps_75 rfl ?_
      obtain ⟨z26, hx27, H⟩ := gv_e H
      refine GV.getR hx27 xf_X4_38 dX4_uniteMaps_76 gs_485 (by decide) rfl ?_
      refine GA.iload_n dX4_uniteMaps_79 rfl ?_
      refine GA.aload_n dX4_uniteMaps_80 rfl ?_
      obtain ⟨z28, hx29, H⟩ := gv_e H
      refine GV.getR hx29 xf_X4_35 dX4_uniteMaps_81 gs_485 (by decide) rfl ?_
      refine GA.iload dX4_uniteMaps_84 rfl ?_
      obtain ⟨hg30, H⟩ := gg_e H
      obtain ⟨x31, S_32, hc33, H⟩ := gc_e H
      refine GA.callV (m_X10_valueLike hc33) xs_X4_112 dX4_uniteMaps_86 (gsT hg30) (by omega) rfl rfl (by omega) (by decide) rfl (Nat.le_of_ble_eq_true rfl) (by omega) (by omega) rfl (fun E S9 hx => hx.elim) (fun v S9 hq => ?_)
      obtain ⟨rfl, rfl⟩ := hq
      refine GA.aload_n dX4_uniteMaps_89 rfl ?_
      obtain ⟨z34, hx35, H⟩ := gv_e H
      refine GV.getR hx35 xf_X4_41 dX4_uniteMaps_90 gs_485 (by decide) rfl ?_
      refine GA.iload_n dX4_uniteMaps_93 rfl ?_
      refine GA.aload_n dX4_uniteMaps_94 rfl ?_
      obtain ⟨z36, hx37, H⟩ := gv_e H
      refine GV.getR hx37 xf_X4_35 dX4_uniteMaps_95 gs_485 (by decide) rfl ?_
      refine GA.iload dX4_uniteMaps_98 rfl ?_
      obtain ⟨hg38, H⟩ := gg_e H
      obtain ⟨x39, S_40, hc41, H⟩ := gc_e H
      refine GA.callV (m_X10_valueLike hc41) xs_X4_112 dX4_uniteMaps_100 (gsT hg38) (by omega) rfl rfl (by omega) (by decide) rfl (Nat.le_of_ble_eq_true rfl) (by omega) (by omega) rfl (fun E S9 hx => hx.elim) (fun v S9 hq => ?_)
      obtain ⟨rfl, rfl⟩ := hq
      refine GA.iload dX4_uniteMaps_103 rfl ?_
      refine GA.iconst dX4_uniteMaps_105 ?_
      obtain ⟨x42, hx43, H⟩ := gv_e H
      refine GV.iadd hx43 dX4_uniteMaps_106 ?_
      obtain ⟨x44, S_45, hc46, H⟩ := gc_e H
      refine GA.callV (i_X4_uniteAt ih_X4_uniteAt_0 hc46) xs_X4_64 dX4_uniteMaps_107 gs_485 (by decide) rfl rfl (by omega) (by decide) rfl (Nat.le_of_ble_eq_true rfl) (by omega) (by omega) rfl (fun E S9 hx => hx.elim) (fun v S9 hq => ?_)
      obtain ⟨rfl, rfl⟩ := hq
      refine GA.aload_n dX4_uniteMaps_110 rfl ?_
      refine GA.get xf_X4_23 dX4_uniteMaps_111 gs_485 (by decide) rfl ?_
      refine GA.iload dX4_uniteMaps_114 rfl ?_
      obtain ⟨x47, S_48, hc49, H⟩ := gc_e H
      refine GA.callV (m_X9_shorten hc49) xs_X4_116 dX4_uniteMaps_116 (gsS (by decide)) (by decide) rfl rfl (by omega) (by decide) rfl (Nat.le_of_ble_eq_true rfl) (by omega) (by omega) rfl (fun E S9 hx => hx.elim) (fun v S9 hq => ?_)
      obtain ⟨rfl, rfl⟩ := hq
      refine GA.aload_n dX4_uniteMaps_119 rfl ?_
      obtain ⟨z50, hx51, H⟩ := gv_e H
      refine GV.getR hx51 xf_X4_35 dX4_uniteMaps_120 gs_485 (by decide) rfl ?_
      refine GA.iload_n dX4_uniteMaps_123 rfl ?_
      refine GA.iload dX4_uniteMaps_124 rfl ?_
      obtain ⟨hg52, H⟩ := gg_e H
      obtain ⟨x53, S_54, hc55, H⟩ := gc_e H
      refine GA.callV (m_X10_next hc55) xs_X4_119 dX4_uniteMaps_126 (gsT hg52) (by omega) rfl rfl (by omega) (by decide) rfl (Nat.le_of_ble_eq_true rfl) (by omega) (by omega) rfl (fun E S9 hx => hx.elim) (fun v S9 hq => ?_)
      obtain ⟨rfl, rfl⟩ := hq
      refine GA.istore dX4_uniteMaps_129 (by decide) ?_
      obtain ⟨x56, hx57, H⟩ := gv_e H
      refine GV.iinc hx57 dX4_uniteMaps_131 rfl (by decide) ?_
      refine GA.goto (tgt := 46) dX4_uniteMaps_134 (by decide) ?_
      refine GA.locals [(0, .ref (L 485)), (1, .int (J a1)), (2, .int (J a2)), (3, .int (J a3)), (4, .int (J a4)), (5, .int (J a5)), (6, .int (J a6)), (7, .int (J x53)), (8, .int (J x56))] ⟨rfl, rfl, rfl, rfl, rfl, rfl, rfl, rfl, rfl, trivial⟩ ?_
      exact ih_X4_uniteMaps_46 _ _ (a1) (a2) (a3) (a4) (a5) (a6) (x53) (x56) _ _ H
set_option maxHeartbeats 4000000 in
set_option maxRecDepth 20000 in
theorem t_X4_uniteMaps_150 {l : Launch} {Z : XZ} {L : Nat → Nat} (n : Nat) (ih_X4_uniteAt_0 : P_X4_uniteAt_0 l Z L n) (ih_X4_uniteAt_113 : P_X4_uniteAt_113 l Z L n) (ih_X4_uniteMaps_0 : P_X4_uniteMaps_0 l Z L n) (ih_X4_uniteMaps_46 : P_X4_uniteMaps_46 l Z L n) (ih_X4_uniteMaps_150 : P_X4_uniteMaps_150 l Z L n) (ih_X4_uniteMaps_228 : P_X4_uniteMaps_228 l Z L n) (ih_X4_uniteMaps_259 : P_X4_uniteMaps_259 l Z L n) (ih_X4_uniteMaps_318 : P_X4_uniteMaps_318 l Z L n) : P_X4_uniteMaps_150 l Z L (n + 1) := by
  intro d S a1 a2 a3 a4 a5 a6 a7 a8 x S1 H
  have H : b_X4_uniteMaps_150 n d (f_X4_uniteAt n) S a1 a2 a3 a4 a5 a6 a7 a8 = some (x, S1) := H
  unfold b_X4_uniteMaps_150 at H
  refine GA.iload dX4_uniteMaps_150 rfl ?_
  refine GA.iconst dX4_uniteMaps_152 ?_
  obtain ⟨hg1, H⟩ := gg_e H
  refine GV.icmp_eq (tgt := 246) hg1 (by decide) dX4_uniteMaps_153 (by decide) (fun c2 => ?_) (fun c2 => ?_)
  · have H := it_t H c2
    refine GA.aload_n dX4_uniteMaps_246 rfl ?_
    obtain ⟨z3, hx4, H⟩ := gv_e H
    refine GV.getR hx4 xf_X4_41 dX4_uniteMaps_247 gs_485 (by decide) rfl ?_
    refine GA.iload_n dX4_uniteMaps_250 rfl ?_
    obtain ⟨hg5, H⟩ := gg_e H
    obtain ⟨hg6, H⟩ := gg_e H
    obtain ⟨x7, S_8, hc9, H⟩ := gc_e H
    refine GA.callV (m_X10_first hc9) xs_X4_105 dX4_uniteMaps_251 (gsT hg6) (by omega) rfl rfl (by omega) (by decide) rfl (Nat.le_of_ble_eq_true rfl) (by omega) (by omega) rfl (fun E S9 hx => hx.elim) (fun v S9 hq => ?_)
    obtain ⟨rfl, rfl⟩ := hq
    refine GA.istore dX4_uniteMaps_254 (by decide) ?_
    refine GA.iconst dX4_uniteMaps_256 ?_
    refine GA.istore dX4_uniteMaps_257 (by decide) ?_
    refine GA.locals [(0, .ref (L 485)), (1, .int (J a1)), (2, .int (J a2)), (3, .int (J a3)), (5, .int (J a5)), (7, .int (J x7)), (8, .int (J 0))] ⟨rfl, rfl, rfl, rfl, rfl, rfl, rfl, trivial⟩ ?_
    exact ih_X4_uniteMaps_259 _ _ (a1) (a2) (a3) (a5) (x7) (0) _ _ H
  · have H := it_f H c2
    refine GA.iload dX4_uniteMaps_156 rfl ?_
    refine GA.bipush dX4_uniteMaps_158 rfl ?_
    obtain ⟨hg10, H⟩ := gg_e H
    refine GV.icmp_ge (tgt := 246) hg10 (by decide) dX4_uniteMaps_160 (by decide) (fun c11 => ?_) (fun c11 => ?_)
    · have H := it_t H c11
      refine GA.aload_n dX4_uniteMaps_246 rfl ?_
      obtain ⟨z12, hx13, H⟩ := gv_e H
      refine GV.getR hx13 xf_X4_41 dX4_uniteMaps_247 gs_485 (by decide) rfl ?_
      refine GA.iload_n dX4_uniteMaps_250 rfl ?_
      obtain ⟨hg14, H⟩ := gg_e H
      obtain ⟨hg15, H⟩ := gg_e H
      obtain ⟨x16, S_17, hc18, H⟩ := gc_e H
      refine GA.callV (m_X10_first hc18) xs_X4_105 dX4_uniteMaps_251 (gsT hg15) (by omega) rfl rfl (by omega) (by decide) rfl (Nat.le_of_ble_eq_true rfl) (by omega) (by omega) rfl (fun E S9 hx => hx.elim) (fun v S9 hq => ?_)
      obtain ⟨rfl, rfl⟩ := hq
      refine GA.istore dX4_uniteMaps_254 (by decide) ?_
      refine GA.iconst dX4_uniteMaps_256 ?_
      refine GA.istore dX4_uniteMaps_257 (by decide) ?_
      refine GA.locals [(0, .ref (L 485)), (1, .int (J a1)), (2, .int (J a2)), (3, .int (J a3)), (5, .int (J a5)), (7, .int (J x16)), (8, .int (J 0))] ⟨rfl, rfl, rfl, rfl, rfl, rfl, rfl, trivial⟩ ?_
      exact ih_X4_uniteMaps_259 _ _ (a1) (a2) (a3) (a5) (x16) (0) _ _ H
    · have H := it_f H c11
      refine GA.aload_n dX4_uniteMaps_163 rfl ?_
      obtain ⟨z19, hx20, H⟩ := gv_e H
      refine GV.getR hx20 xf_X4_35 dX4_uniteMaps_164 gs_485 (by decide) rfl ?_
      refine GA.iload_n dX4_uniteMaps_167 rfl ?_
      refine GA.aload_n dX4_uniteMaps_168 rfl ?_
      obtain ⟨z21, hx22, H⟩ := gv_e H
      refine GV.getR hx22 xf_X4_38 dX4_uniteMaps_169 gs_485 (by decide) rfl ?_
      refine GA.iload dX4_uniteMaps_172 rfl ?_
      obtain ⟨hg23, H⟩ := gg_e H
      obtain ⟨hg24, H⟩ := gg_e H
      obtain ⟨x25, S_26, hc27, H⟩ := gc_e H
      refine GA.callV (m_X10_valueLike hc27) xs_X4_112 dX4_uniteMaps_174 (gsT hg24) (by omega) rfl rfl (by omega) (by decide) rfl (Nat.le_of_ble_eq_true rfl) (by omega) (by omega) rfl (fun E S9 hx => hx.elim) (fun v S9 hq => ?_)
      obtain ⟨rfl, rfl⟩ := hq
      refine GA.iconst dX4_uniteMaps_177 ?_
      obtain ⟨hg28, H⟩ := gg_e H
      refine GV.icmp_ne (tgt := 228) hg28 (by decide) dX4_uniteMaps_178 (by decide) (fun c29 => ?_) (fun c29 => ?_)
      · have H := it_t H c29
        refine GA.locals [(0, .ref (L 485)), (1, .int (J a1)), (2, .int (J a2)), (3, .int (J a3)), (4, .int (J a4)), (5, .int (J a5)), (6, .int (J a6)), (7, .int (J a7)), (8, .int (J a8))] ⟨rfl, rfl, rfl, rfl, rfl, rfl, rfl, rfl, rfl, trivial⟩ ?_
        exact ih_X4_uniteMaps_228 _ _ (a1) (a2) (a3) (a4) (a5) (a6) (a7) (a8) _ _ H
      · have H := it_f H c29
        refine GA.aload_n dX4_uniteMaps_181 rfl ?_
        obtain ⟨z30, hx31, H⟩ := gv_e H
        refine GV.getR hx31 xf_X4_38 dX4_uniteMaps_182 gs_485 (by decide) rfl ?_
        refine GA.iload dX4_uniteMaps_185 rfl ?_
        refine GA.aload_n dX4_uniteMaps_187 rfl ?_
        refine GA.get xf_X4_23 dX4_uniteMaps_188 gs_485 (by decide) rfl ?_
        obtain ⟨hg32, H⟩ := gg_e H
        obtain ⟨x33, S_34, hc35, H⟩ := gc_e H
        refine GA.callV (m_X10_stepTo hc35) xs_X4_108 dX4_uniteMaps_191 (gsT hg32) (by omega) rfl rfl (by omega) (by decide) rfl (Nat.le_of_ble_eq_true rfl) (by omega) (by omega) rfl (fun E S9 hx => hx.elim) (fun v S9 hq => ?_)
        obtain ⟨rfl, rfl⟩ := hq
        refine GA.aload_n dX4_uniteMaps_194 rfl ?_
        refine GA.iconst dX4_uniteMaps_195 ?_
        refine GA.iload dX4_uniteMaps_196 rfl ?_
        refine GA.aload_n dX4_uniteMaps_198 rfl ?_
        obtain ⟨z36, hx37, H⟩ := gv_e H
        refine GV.getR hx37 xf_X4_41 dX4_uniteMaps_199 gs_485 (by decide) rfl ?_
        refine GA.iload_n dX4_uniteMaps_202 rfl ?_
        refine GA.aload_n dX4_uniteMaps_203 rfl ?_
        obtain ⟨z38, hx39, H⟩ := gv_e H
        refine GV.getR hx39 xf_X4_38 dX4_uniteMaps_204 gs_485 (by decide) rfl ?_
        refine GA.iload dX4_uniteMaps_207 rfl ?_
        obtain ⟨hg40, H⟩ := gg_e H
        obtain ⟨x41, S_42, hc43, H⟩ := gc_e H
        refine GA.callV (m_X10_valueLike hc43) xs_X4_112 dX4_uniteMaps_209 (gsT hg40) (by omega) rfl rfl (by omega) (by decide) rfl (Nat.le_of_ble_eq_true rfl) (by omega) (by omega) rfl (fun E S9 hx => hx.elim) (fun v S9 hq => ?_)
        obtain ⟨rfl, rfl⟩ := hq
        refine GA.iload dX4_uniteMaps_212 rfl ?_
        refine GA.iconst dX4_uniteMaps_214 ?_
        obtain ⟨x44, hx45, H⟩ := gv_e H
        refine GV.iadd hx45 dX4_uniteMaps_215 ?_
        obtain ⟨x46, S_47, hc48, H⟩ := gc_e H
        refine GA.callV (i_X4_uniteAt ih_X4_uniteAt_0 hc48) xs_X4_64 dX4_uniteMaps_216 gs_485 (by decide) rfl rfl (by omega) (by decide) rfl (Nat.le_of_ble_eq_true rfl) (by omega) (by omega) rfl (fun E S9 hx => hx.elim) (fun v S9 hq => ?_)
        obtain ⟨rfl, rfl⟩ := hq
        refine GA.aload_n dX4_uniteMaps_219 rfl ?_
        refine GA.get xf_X4_23 dX4_uniteMaps_220 gs_485 (by decide) rfl ?_
        refine GA.iload dX4_uniteMaps_223 rfl ?_
        obtain ⟨x49, S_50, hc51, H⟩ := gc_e H
        refine GA.callV (m_X9_shorten hc51) xs_X4_116 dX4_uniteMaps_225 (gsS (by decide)) (by decide) rfl rfl (by omega) (by decide) rfl (Nat.le_of_ble_eq_true rfl) (by omega) (by omega) rfl (fun E S9 hx => hx.elim) (fun v S9 hq => ?_)
        obtain ⟨rfl, rfl⟩ := hq
        refine GA.locals [(0, .ref (L 485)), (1, .int (J a1)), (2, .int (J a2)), (3, .int (J a3)), (4, .int (J a4)), (5, .int (J a5)), (6, .int (J a6)), (7, .int (J a7)), (8, .int (J a8))] ⟨rfl, rfl, rfl, rfl, rfl, rfl, rfl, rfl, rfl, trivial⟩ ?_
        exact ih_X4_uniteMaps_228 _ _ (a1) (a2) (a3) (a4) (a5) (a6) (a7) (a8) _ _ H
set_option maxHeartbeats 4000000 in
set_option maxRecDepth 20000 in
theorem t_X4_uniteMaps_228 {l : Launch} {Z : XZ} {L : Nat → Nat} (n : Nat) (ih_X4_uniteAt_0 : P_X4_uniteAt_0 l Z L n) (ih_X4_uniteAt_113 : P_X4_uniteAt_113 l Z L n) (ih_X4_uniteMaps_0 : P_X4_uniteMaps_0 l Z L n) (ih_X4_uniteMaps_46 : P_X4_uniteMaps_46 l Z L n) (ih_X4_uniteMaps_150 : P_X4_uniteMaps_150 l Z L n) (ih_X4_uniteMaps_228 : P_X4_uniteMaps_228 l Z L n) (ih_X4_uniteMaps_259 : P_X4_uniteMaps_259 l Z L n) (ih_X4_uniteMaps_318 : P_X4_uniteMaps_318 l Z L n) : P_X4_uniteMaps_228 l Z L (n + 1) := by
  intro d S a1 a2 a3 a4 a5 a6 a7 a8 x S1 H
  have H : b_X4_uniteMaps_228 n d (f_X4_uniteAt n) S a1 a2 a3 a4 a5 a6 a7 a8 = some (x, S1) := H
  unfold b_X4_uniteMaps_228 at H
  refine GA.aload_n dX4_uniteMaps_228 rfl ?_
  obtain ⟨z1, hx2, H⟩ := gv_e H
  refine GV.getR hx2 xf_X4_38 dX4_uniteMaps_229 gs_485 (by decide) rfl ?_
  refine GA.iload_n dX4_uniteMaps_232 rfl ?_
  refine GA.iload dX4_uniteMaps_233 rfl ?_
  obtain ⟨hg3, H⟩ := gg_e H
  obtain ⟨hg4, H⟩ := gg_e H
  obtain ⟨x5, S_6, hc7, H⟩ := gc_e H
  refine GA.callV (m_X10_next hc7) xs_X4_119 dX4_uniteMaps_235 (gsT hg4) (by omega) rfl rfl (by omega) (by decide) rfl (Nat.le_of_ble_eq_true rfl) (by omega) (by omega) rfl (fun E S9 hx => hx.elim) (fun v S9 hq => ?_)
  obtain ⟨rfl, rfl⟩ := hq
  refine GA.istore dX4_uniteMaps_238 (by decide) ?_
  obtain ⟨x8, hx9, H⟩ := gv_e H
  refine GV.iinc hx9 dX4_uniteMaps_240 rfl (by decide) ?_
  refine GA.goto (tgt := 150) dX4_uniteMaps_243 (by decide) ?_
  refine GA.locals [(0, .ref (L 485)), (1, .int (J a1)), (2, .int (J a2)), (3, .int (J a3)), (4, .int (J a4)), (5, .int (J a5)), (6, .int (J a6)), (7, .int (J x5)), (8, .int (J x8))] ⟨rfl, rfl, rfl, rfl, rfl, rfl, rfl, rfl, rfl, trivial⟩ ?_
  exact ih_X4_uniteMaps_150 _ _ (a1) (a2) (a3) (a4) (a5) (a6) (x5) (x8) _ _ H
set_option maxHeartbeats 4000000 in
set_option maxRecDepth 20000 in
theorem t_X4_uniteMaps_259 {l : Launch} {Z : XZ} {L : Nat → Nat} (n : Nat) (ih_X4_uniteAt_0 : P_X4_uniteAt_0 l Z L n) (ih_X4_uniteAt_113 : P_X4_uniteAt_113 l Z L n) (ih_X4_uniteMaps_0 : P_X4_uniteMaps_0 l Z L n) (ih_X4_uniteMaps_46 : P_X4_uniteMaps_46 l Z L n) (ih_X4_uniteMaps_150 : P_X4_uniteMaps_150 l Z L n) (ih_X4_uniteMaps_228 : P_X4_uniteMaps_228 l Z L n) (ih_X4_uniteMaps_259 : P_X4_uniteMaps_259 l Z L n) (ih_X4_uniteMaps_318 : P_X4_uniteMaps_318 l Z L n) : P_X4_uniteMaps_259 l Z L (n + 1) := by
  intro d S a1 a2 a3 a5 a7 a8 x S1 H
  have H : b_X4_uniteMaps_259 n d (f_X4_uniteAt n) S a1 a2 a3 a5 a7 a8 = some (x, S1) := H
  unfold b_X4_uniteMaps_259 at H
  refine GA.iload dX4_uniteMaps_259 rfl ?_
  refine GA.iconst dX4_uniteMaps_261 ?_
  obtain ⟨hg1, H⟩ := gg_e H
  refine GV.icmp_eq (tgt := 336) hg1 (by decide) dX4_uniteMaps_262 (by decide) (fun c2 => ?_) (fun c2 => ?_)
  · have H := it_t H c2
    refine GA.aload_n dX4_uniteMaps_336 rfl ?_
    refine GA.get xf_X4_12 dX4_uniteMaps_337 gs_485 (by decide) rfl ?_
    refine GA.iload dX4_uniteMaps_340 rfl ?_
    obtain ⟨hg3, H⟩ := gg_e H
    obtain ⟨x4, S_5, hc6, H⟩ := gc_e H
    refine GA.callV (m_X10_close hc6) xs_X4_123 dX4_uniteMaps_342 (gsT (by decide)) (by decide) rfl rfl (by omega) (by decide) rfl (Nat.le_of_ble_eq_true rfl) (by omega) (by omega) rfl (fun E S9 hx => hx.elim) (fun v S9 hq => ?_)
    obtain ⟨rfl, rfl⟩ := hq
    cases H
    exact GA.vret rfl dX4_uniteMaps_345 (by omega) (by omega) ⟨rfl, rfl⟩
  · have H := it_f H c2
    refine GA.iload dX4_uniteMaps_265 rfl ?_
    refine GA.bipush dX4_uniteMaps_267 rfl ?_
    obtain ⟨hg7, H⟩ := gg_e H
    refine GV.icmp_ge (tgt := 336) hg7 (by decide) dX4_uniteMaps_269 (by decide) (fun c8 => ?_) (fun c8 => ?_)
    · have H := it_t H c8
      refine GA.aload_n dX4_uniteMaps_336 rfl ?_
      refine GA.get xf_X4_12 dX4_uniteMaps_337 gs_485 (by decide) rfl ?_
      refine GA.iload dX4_uniteMaps_340 rfl ?_
      obtain ⟨hg9, H⟩ := gg_e H
      obtain ⟨x10, S_11, hc12, H⟩ := gc_e H
      refine GA.callV (m_X10_close hc12) xs_X4_123 dX4_uniteMaps_342 (gsT (by decide)) (by decide) rfl rfl (by omega) (by decide) rfl (Nat.le_of_ble_eq_true rfl) (by omega) (by omega) rfl (fun E S9 hx => hx.elim) (fun v S9 hq => ?_)
      obtain ⟨rfl, rfl⟩ := hq
      cases H
      exact GA.vret rfl dX4_uniteMaps_345 (by omega) (by omega) ⟨rfl, rfl⟩
    · have H := it_f H c8
      refine GA.aload_n dX4_uniteMaps_272 rfl ?_
      obtain ⟨z13, hx14, H⟩ := gv_e H
      refine GV.getR hx14 xf_X4_35 dX4_uniteMaps_273 gs_485 (by decide) rfl ?_
      refine GA.iload_n dX4_uniteMaps_276 rfl ?_
      refine GA.aload_n dX4_uniteMaps_277 rfl ?_
      obtain ⟨z15, hx16, H⟩ := gv_e H
      refine GV.getR hx16 xf_X4_41 dX4_uniteMaps_278 gs_485 (by decide) rfl ?_
      refine GA.iload dX4_uniteMaps_281 rfl ?_
      obtain ⟨hg17, H⟩ := gg_e H
      obtain ⟨hg18, H⟩ := gg_e H
      obtain ⟨x19, S_20, hc21, H⟩ := gc_e H
      refine GA.callV (m_X10_valueLike hc21) xs_X4_112 dX4_uniteMaps_283 (gsT hg18) (by omega) rfl rfl (by omega) (by decide) rfl (Nat.le_of_ble_eq_true rfl) (by omega) (by omega) rfl (fun E S9 hx => hx.elim) (fun v S9 hq => ?_)
      obtain ⟨rfl, rfl⟩ := hq
      refine GA.iconst dX4_uniteMaps_286 ?_
      obtain ⟨hg22, H⟩ := gg_e H
      refine GV.icmp_ne (tgt := 318) hg22 (by decide) dX4_uniteMaps_287 (by decide) (fun c23 => ?_) (fun c23 => ?_)
      · have H := it_t H c23
        refine GA.locals [(0, .ref (L 485)), (1, .int (J a1)), (2, .int (J a2)), (3, .int (J a3)), (5, .int (J a5)), (7, .int (J a7)), (8, .int (J a8))] ⟨rfl, rfl, rfl, rfl, rfl, rfl, rfl, trivial⟩ ?_
        exact ih_X4_uniteMaps_318 _ _ (a1) (a2) (a3) (a5) (a7) (a8) _ _ H
      · have H := it_f H c23
        refine GA.aload_n dX4_uniteMaps_290 rfl ?_
        obtain ⟨z24, hx25, H⟩ := gv_e H
        refine GV.getR hx25 xf_X4_38 dX4_uniteMaps_291 gs_485 (by decide) rfl ?_
        refine GA.iload_n dX4_uniteMaps_294 rfl ?_
        refine GA.aload_n dX4_uniteMaps_295 rfl ?_
        obtain ⟨z26, hx27, H⟩ := gv_e H
        refine GV.getR hx27 xf_X4_41 dX4_uniteMaps_296 gs_485 (by decide) rfl ?_
        refine GA.iload dX4_uniteMaps_299 rfl ?_
        obtain ⟨hg28, H⟩ := gg_e H
        obtain ⟨x29, S_30, hc31, H⟩ := gc_e H
        refine GA.callV (m_X10_valueLike hc31) xs_X4_112 dX4_uniteMaps_301 (gsT hg28) (by omega) rfl rfl (by omega) (by decide) rfl (Nat.le_of_ble_eq_true rfl) (by omega) (by omega) rfl (fun E S9 hx => hx.elim) (fun v S9 hq => ?_)
        obtain ⟨rfl, rfl⟩ := hq
        refine GA.iconst dX4_uniteMaps_304 ?_
        obtain ⟨hg32, H⟩ := gg_e H
        refine GV.icmp_ne (tgt := 318) hg32 (by decide) dX4_uniteMaps_305 (by decide) (fun c33 => ?_) (fun c33 => ?_)
        · have H := it_t H c33
          refine GA.locals [(0, .ref (L 485)), (1, .int (J a1)), (2, .int (J a2)), (3, .int (J a3)), (5, .int (J a5)), (7, .int (J a7)), (8, .int (J a8))] ⟨rfl, rfl, rfl, rfl, rfl, rfl, rfl, trivial⟩ ?_
          exact ih_X4_uniteMaps_318 _ _ (a1) (a2) (a3) (a5) (a7) (a8) _ _ H
        · have H := it_f H c33
          refine GA.aload_n dX4_uniteMaps_308 rfl ?_
          refine GA.aload_n dX4_uniteMaps_309 rfl ?_
          obtain ⟨z34, hx35, H⟩ := gv_e H
          refine GV.getR hx35 xf_X4_41 dX4_uniteMaps_310 gs_485 (by decide) rfl ?_
          refine GA.iload dX4_uniteMaps_313 rfl ?_
          obtain ⟨x36, S_37, hc38, H⟩ := gc_e H
          refine GA.callV (m_X4_accept hc38) xs_X4_76 dX4_uniteMaps_315 gs_485 (by decide) rfl rfl (by omega) (by decide) rfl (Nat.le_of_ble_eq_true rfl) (by omega) (by omega) rfl (fun E S9 hx => hx.elim) (fun v S9 hq => ?_)
          obtain ⟨rfl, rfl⟩ := hq
          refine GA.locals [(0, .ref (L 485)), (1, .int (J a1)), (2, .int (J a2)), (3, .int (J a3)), (5, .int (J a5)), (7, .int (J a7)), (8, .int (J a8))] ⟨rfl, rfl, rfl, rfl, rfl, rfl, rfl, trivial⟩ ?_
          exact ih_X4_uniteMaps_318 _ _ (a1) (a2) (a3) (a5) (a7) (a8) _ _ H
set_option maxHeartbeats 4000000 in
set_option maxRecDepth 20000 in
theorem t_X4_uniteMaps_318 {l : Launch} {Z : XZ} {L : Nat → Nat} (n : Nat) (ih_X4_uniteAt_0 : P_X4_uniteAt_0 l Z L n) (ih_X4_uniteAt_113 : P_X4_uniteAt_113 l Z L n) (ih_X4_uniteMaps_0 : P_X4_uniteMaps_0 l Z L n) (ih_X4_uniteMaps_46 : P_X4_uniteMaps_46 l Z L n) (ih_X4_uniteMaps_150 : P_X4_uniteMaps_150 l Z L n) (ih_X4_uniteMaps_228 : P_X4_uniteMaps_228 l Z L n) (ih_X4_uniteMaps_259 : P_X4_uniteMaps_259 l Z L n) (ih_X4_uniteMaps_318 : P_X4_uniteMaps_318 l Z L n) : P_X4_uniteMaps_318 l Z L (n + 1) := by
  intro d S a1 a2 a3 a5 a7 a8 x S1 H
  have H : b_X4_uniteMaps_318 n d (f_X4_uniteAt n) S a1 a2 a3 a5 a7 a8 = some (x, S1) := H
  unfold b_X4_uniteMaps_318 at H
  refine GA.aload_n dX4_uniteMaps_318 rfl ?_
  obtain ⟨z1, hx2, H⟩ := gv_e H
  refine GV.getR hx2 xf_X4_41 dX4_uniteMaps_319 gs_485 (by decide) rfl ?_
  refine GA.iload_n dX4_uniteMaps_322 rfl ?_
  refine GA.iload dX4_uniteMaps_323 rfl ?_
  obtain ⟨hg3, H⟩ := gg_e H
  obtain ⟨hg4, H⟩ := gg_e H
  obtain ⟨x5, S_6, hc7, H⟩ := gc_e H
  refine GA.callV (m_X10_next hc7) xs_X4_119 dX4_uniteMaps_325 (gsT hg4) (by omega) rfl rfl (by omega) (by decide) rfl (Nat.le_of_ble_eq_true rfl) (by omega) (by omega) rfl (fun E S9 hx => hx.elim) (fun v S9 hq => ?_)
  obtain ⟨rfl, rfl⟩ := hq
  refine GA.istore dX4_uniteMaps_328 (by decide) ?_
  obtain ⟨x8, hx9, H⟩ := gv_e H
  refine GV.iinc hx9 dX4_uniteMaps_330 rfl (by decide) ?_
  refine GA.goto (tgt := 259) dX4_uniteMaps_333 (by decide) ?_
  refine GA.locals [(0, .ref (L 485)), (1, .int (J a1)), (2, .int (J a2)), (3, .int (J a3)), (5, .int (J a5)), (7, .int (J x5)), (8, .int (J x8))] ⟨rfl, rfl, rfl, rfl, rfl, rfl, rfl, trivial⟩ ?_
  exact ih_X4_uniteMaps_259 _ _ (a1) (a2) (a3) (a5) (x5) (x8) _ _ H
theorem g_X4_uniteAt {l : Launch} {Z : XZ} {L : Nat → Nat} : ∀ n, P_X4_uniteAt_0 l Z L n ∧ P_X4_uniteAt_113 l Z L n ∧ P_X4_uniteMaps_0 l Z L n ∧ P_X4_uniteMaps_46 l Z L n ∧ P_X4_uniteMaps_150 l Z L n ∧ P_X4_uniteMaps_228 l Z L n ∧ P_X4_uniteMaps_259 l Z L n ∧ P_X4_uniteMaps_318 l Z L n
  | 0 => ⟨fun _ _ _ _ _ _ _ _ H => no_e H, fun _ _ _ _ _ _ _ _ H => no_e H, fun _ _ _ _ _ _ _ _ H => no_e H, fun _ _ _ _ _ _ _ _ _ _ _ _ H => no_e H, fun _ _ _ _ _ _ _ _ _ _ _ _ H => no_e H, fun _ _ _ _ _ _ _ _ _ _ _ _ H => no_e H, fun _ _ _ _ _ _ _ _ _ _ H => no_e H, fun _ _ _ _ _ _ _ _ _ _ H => no_e H⟩
  | n + 1 => have ⟨h0, h1, h2, h3, h4, h5, h6, h7⟩ := g_X4_uniteAt (l := l) (Z := Z) (L := L) n
    ⟨t_X4_uniteAt_0 n h0 h1 h2 h3 h4 h5 h6 h7, t_X4_uniteAt_113 n h0 h1 h2 h3 h4 h5 h6 h7, t_X4_uniteMaps_0 n h0 h1 h2 h3 h4 h5 h6 h7, t_X4_uniteMaps_46 n h0 h1 h2 h3 h4 h5 h6 h7, t_X4_uniteMaps_150 n h0 h1 h2 h3 h4 h5 h6 h7, t_X4_uniteMaps_228 n h0 h1 h2 h3 h4 h5 h6 h7, t_X4_uniteMaps_259 n h0 h1 h2 h3 h4 h5 h6 h7, t_X4_uniteMaps_318 n h0 h1 h2 h3 h4 h5 h6 h7⟩
theorem m_X4_uniteAt {l : Launch} {Z : XZ} {L : Nat → Nat} {n d : Nat} {S : GS} {a1 : Int} {a2 : Int} {a3 : Int} {a4 : Int} {x : Int} {S1 : GS} (H : f_X4_uniteAt n d 0 S [a1, a2, a3, a4] = some (x, S1)) : GM l Z L yX4_uniteAt cX4_uniteAt 5 none [] d 0 0 [.ref (L 485), .int (J a1), .int (J a2), .int (J a3), .int (J a4)] S (fun v S' => v = none ∧ S1 = S') (fun _ _ => False) := GM.of (by decide) (Nat.le_of_ble_eq_true rfl) ((g_X4_uniteAt n).1 _ _ _ _ _ _ _ _ H)
theorem m_X4_uniteMaps {l : Launch} {Z : XZ} {L : Nat → Nat} {n d : Nat} {S : GS} {a1 : Int} {a2 : Int} {a3 : Int} {a4 : Int} {x : Int} {S1 : GS} (H : f_X4_uniteAt n d 10000 S [a1, a2, a3, a4] = some (x, S1)) : GM l Z L yX4_uniteMaps cX4_uniteMaps 9 none [] d 0 0 [.ref (L 485), .int (J a1), .int (J a2), .int (J a3), .int (J a4)] S (fun v S' => v = none ∧ S1 = S') (fun _ _ => False) := GM.of (by decide) (Nat.le_of_ble_eq_true rfl) ((g_X4_uniteAt n).2.2.1 _ _ _ _ _ _ _ _ H)

def P_X4_unite_0 (l : Launch) (Z : XZ) (L : Nat → Nat) (n : Nat) : Prop := ∀ (d : Nat) (S : GS) (a1 : Nat) (a2 : Nat) (a3 : Nat) (x : Int) (S1 : GS), f_X4_unite n d 0 S [((a1 : Nat) : Int), ((a2 : Nat) : Int), ((a3 : Nat) : Int)] = some (x, S1) → GA l Z L yX4_unite cX4_unite 4 (some .boolean) [] d 0 0 (fun v S' => v = some (.int (J x)) ∧ S1 = S') (fun _ _ => False) 0 (gl [(0, .ref (L 485)), (1, .ref (L a1)), (2, .ref (L a2)), (3, .ref (L a3))]) [] S 0 0
theorem i_X4_unite {l : Launch} {Z : XZ} {L : Nat → Nat} {n : Nat} (ih : P_X4_unite_0 l Z L n) {d : Nat} {S : GS} {a1 : Nat} {a2 : Nat} {a3 : Nat} {x : Int} {S1 : GS} (H : f_X4_unite n d 0 S [((a1 : Nat) : Int), ((a2 : Nat) : Int), ((a3 : Nat) : Int)] = some (x, S1)) : GM l Z L yX4_unite cX4_unite 4 (some .boolean) [] d 0 0 [.ref (L 485), .ref (L a1), .ref (L a2), .ref (L a3)] S (fun v S' => v = some (.int (J x)) ∧ S1 = S') (fun _ _ => False) := GM.of (by decide) (Nat.le_of_ble_eq_true rfl) (ih _ _ _ _ _ _ _ H)
set_option maxHeartbeats 4000000 in
set_option maxRecDepth 20000 in
theorem t_X4_unite_0 {l : Launch} {Z : XZ} {L : Nat → Nat} (n : Nat) (ih_X4_unite_0 : P_X4_unite_0 l Z L n) : P_X4_unite_0 l Z L (n + 1) := by
  intro d S a1 a2 a3 x S1 H
  have H : b_X4_unite_0 n d (f_X4_unite n) S a1 a2 a3 = some (x, S1) := H
  unfold b_X4_unite_0 at H
  refine GA.aload_n dX4_unite_0 rfl ?_
  refine GA.aload_n dX4_unite_1 rfl ?_
  obtain ⟨S_1, hx2, H⟩ := gv_e H
  refine GV.putR hx2 (xp_X4_35 _) dX4_unite_2 gs_485 (by decide) (Nat.le_of_ble_eq_true rfl) gs_485 ?_
  refine GA.aload_n dX4_unite_5 rfl ?_
  refine GA.aload_n dX4_unite_6 rfl ?_
  obtain ⟨S_3, hx4, H⟩ := gv_e H
  refine GV.putR hx4 (xp_X4_38 _) dX4_unite_7 gs_485 (by decide) (Nat.le_of_ble_eq_true rfl) gs_485 ?_
  refine GA.aload_n dX4_unite_10 rfl ?_
  refine GA.aload_n dX4_unite_11 rfl ?_
  obtain ⟨S_5, hx6, H⟩ := gv_e H
  refine GV.putR hx6 (xp_X4_41 _) dX4_unite_12 gs_485 (by decide) (Nat.le_of_ble_eq_true rfl) gs_485 ?_
  refine GA.aload_n dX4_unite_15 rfl ?_
  refine GA.iconst dX4_unite_16 ?_
  obtain ⟨S_7, hx8, H⟩ := gv_e H
  refine GV.putB (by decide) hx8 (xp_X4_59 (xb_01 _)) dX4_unite_17 gs_485 (by decide) (Nat.le_of_ble_eq_true rfl) gs_485 ?_
  refine GA.aload_n dX4_unite_20 rfl ?_
  refine GA.get xf_X4_12 dX4_unite_21 gs_485 (by decide) rfl ?_
  obtain ⟨hg9, H⟩ := gg_e H
  obtain ⟨x10, S_11, hc12, H⟩ := gc_e H
  refine GA.callV (m_X10_clear hc12) xs_X4_63 dX4_unite_24 (gsT (by decide)) (by decide) rfl rfl (by omega) (by decide) rfl (Nat.le_of_ble_eq_true rfl) (by omega) (by omega) rfl (fun E S9 hx => hx.elim) (fun v S9 hq => ?_)
  obtain ⟨rfl, rfl⟩ := hq
  refine GA.aload_n dX4_unite_27 rfl ?_
  refine GA.get xf_X4_23 dX4_unite_28 gs_485 (by decide) rfl ?_
  obtain ⟨x13, S_14, hc15, H⟩ := gc_e H
  refine GA.callV (m_X9_clear hc15) xs_X4_48 dX4_unite_31 (gsS (by decide)) (by decide) rfl rfl (by omega) (by decide) rfl (Nat.le_of_ble_eq_true rfl) (by omega) (by omega) rfl (fun E S9 hx => hx.elim) (fun v S9 hq => ?_)
  obtain ⟨rfl, rfl⟩ := hq
  refine GA.aload_n dX4_unite_34 rfl ?_
  refine GA.iconst dX4_unite_35 ?_
  refine GA.iconst dX4_unite_36 ?_
  refine GA.iconst dX4_unite_37 ?_
  refine GA.iconst dX4_unite_38 ?_
  obtain ⟨x16, S_17, hc18, H⟩ := gc_e H
  refine GA.callV (m_X4_uniteAt hc18) xs_X4_64 dX4_unite_39 gs_485 (by decide) rfl rfl (by omega) (by decide) rfl (Nat.le_of_ble_eq_true rfl) (by omega) (by omega) rfl (fun E S9 hx => hx.elim) (fun v S9 hq => ?_)
  obtain ⟨rfl, rfl⟩ := hq
  refine GA.aload_n dX4_unite_42 rfl ?_
  obtain ⟨x19, hx20, H⟩ := gv_e H
  refine GV.getB hx20 xf_X4_59 dX4_unite_43 gs_485 (by decide) rfl ?_
  obtain ⟨hg21, H⟩ := gg_e H
  refine GV.if_ne (tgt := 53) hg21 dX4_unite_46 (by decide) (fun c22 => ?_) (fun c22 => ?_)
  · have H := it_t H c22
    refine GA.iconst dX4_unite_53 ?_
    cases H
    exact GV.zret (by decide) rfl dX4_unite_54 (by omega) (by omega) ⟨rfl, rfl⟩
  · have H := it_f H c22
    refine GA.iconst dX4_unite_49 ?_
    refine GA.goto (tgt := 54) dX4_unite_50 (by decide) ?_
    cases H
    exact GV.zret (by decide) rfl dX4_unite_54 (by omega) (by omega) ⟨rfl, rfl⟩
theorem g_X4_unite {l : Launch} {Z : XZ} {L : Nat → Nat} : ∀ n, P_X4_unite_0 l Z L n
  | 0 => fun _ _ _ _ _ _ _ H => no_e H
  | n + 1 => t_X4_unite_0 n (g_X4_unite n)
theorem m_X4_unite {l : Launch} {Z : XZ} {L : Nat → Nat} {n d : Nat} {S : GS} {a1 : Nat} {a2 : Nat} {a3 : Nat} {x : Int} {S1 : GS} (H : f_X4_unite n d 0 S [((a1 : Nat) : Int), ((a2 : Nat) : Int), ((a3 : Nat) : Int)] = some (x, S1)) : GM l Z L yX4_unite cX4_unite 4 (some .boolean) [] d 0 0 [.ref (L 485), .ref (L a1), .ref (L a2), .ref (L a3)] S (fun v S' => v = some (.int (J x)) ∧ S1 = S') (fun _ _ => False) := GM.of (by decide) (Nat.le_of_ble_eq_true rfl) ((g_X4_unite n) _ _ _ _ _ _ _ H)

def P_X4_result_0 (l : Launch) (Z : XZ) (L : Nat → Nat) (n : Nat) : Prop := ∀ (d : Nat) (S : GS) (x : Int) (S1 : GS), f_X4_result n d 0 S [] = some (x, S1) → GA l Z L yX4_result cX4_result 1 (some (.object "Treeletter$Tree")) [] d 0 0 (fun v S' => v = some (.ref (L x.toNat)) ∧ S1 = S') (fun _ _ => False) 0 (gl [(0, .ref (L 485))]) [] S 0 0
theorem i_X4_result {l : Launch} {Z : XZ} {L : Nat → Nat} {n : Nat} (ih : P_X4_result_0 l Z L n) {d : Nat} {S : GS} {x : Int} {S1 : GS} (H : f_X4_result n d 0 S [] = some (x, S1)) : GM l Z L yX4_result cX4_result 1 (some (.object "Treeletter$Tree")) [] d 0 0 [.ref (L 485)] S (fun v S' => v = some (.ref (L x.toNat)) ∧ S1 = S') (fun _ _ => False) := GM.of (by decide) (Nat.le_of_ble_eq_true rfl) (ih _ _ _ _ H)
set_option maxHeartbeats 4000000 in
set_option maxRecDepth 20000 in
theorem t_X4_result_0 {l : Launch} {Z : XZ} {L : Nat → Nat} (n : Nat) (ih_X4_result_0 : P_X4_result_0 l Z L n) : P_X4_result_0 l Z L (n + 1) := by
  intro d S  x S1 H
  have H : b_X4_result_0 n d (f_X4_result n) S  = some (x, S1) := H
  unfold b_X4_result_0 at H
  refine GA.aload_n dX4_result_0 rfl ?_
  refine GA.get xf_X4_12 dX4_result_1 gs_485 (by decide) rfl ?_
  cases H
  exact GA.aret rfl dX4_result_4 (by omega) (by omega) ⟨rfl, rfl⟩
theorem g_X4_result {l : Launch} {Z : XZ} {L : Nat → Nat} : ∀ n, P_X4_result_0 l Z L n
  | 0 => fun _ _ _ _ H => no_e H
  | n + 1 => t_X4_result_0 n (g_X4_result n)
theorem m_X4_result {l : Launch} {Z : XZ} {L : Nat → Nat} {n d : Nat} {S : GS} {x : Int} {S1 : GS} (H : f_X4_result n d 0 S [] = some (x, S1)) : GM l Z L yX4_result cX4_result 1 (some (.object "Treeletter$Tree")) [] d 0 0 [.ref (L 485)] S (fun v S' => v = some (.ref (L x.toNat)) ∧ S1 = S') (fun _ _ => False) := GM.of (by decide) (Nat.le_of_ble_eq_true rfl) ((g_X4_result n) _ _ _ _ H)

def P_X1_begin_0 (l : Launch) (Z : XZ) (L : Nat → Nat) (n : Nat) : Prop := ∀ (d : Nat) (S : GS) (a1 : Nat) (a2 : Int) (x : Int) (S1 : GS), f_X1_begin n d 0 S [((a1 : Nat) : Int), a2] = some (x, S1) → GA l Z L yX1_begin cX1_begin 3 none [] d 0 0 (fun v S' => v = none ∧ S1 = S') (fun _ _ => False) 0 (gl [(0, .ref (L 482)), (1, .ref (L a1)), (2, .int (J a2))]) [] S 0 0
theorem i_X1_begin {l : Launch} {Z : XZ} {L : Nat → Nat} {n : Nat} (ih : P_X1_begin_0 l Z L n) {d : Nat} {S : GS} {a1 : Nat} {a2 : Int} {x : Int} {S1 : GS} (H : f_X1_begin n d 0 S [((a1 : Nat) : Int), a2] = some (x, S1)) : GM l Z L yX1_begin cX1_begin 3 none [] d 0 0 [.ref (L 482), .ref (L a1), .int (J a2)] S (fun v S' => v = none ∧ S1 = S') (fun _ _ => False) := GM.of (by decide) (Nat.le_of_ble_eq_true rfl) (ih _ _ _ _ _ _ H)
set_option maxHeartbeats 4000000 in
set_option maxRecDepth 20000 in
theorem t_X1_begin_0 {l : Launch} {Z : XZ} {L : Nat → Nat} (n : Nat) (ih_X1_begin_0 : P_X1_begin_0 l Z L n) : P_X1_begin_0 l Z L (n + 1) := by
  intro d S a1 a2 x S1 H
  have H : b_X1_begin_0 n d (f_X1_begin n) S a1 a2 = some (x, S1) := H
  unfold b_X1_begin_0 at H
  refine GA.aload_n dX1_begin_0 rfl ?_
  refine GA.get xf_X1_12 dX1_begin_1 gs_482 (by decide) rfl ?_
  refine GA.aload_n dX1_begin_4 rfl ?_
  refine GA.iconst dX1_begin_5 ?_
  obtain ⟨hg1, H⟩ := gg_e H
  obtain ⟨x2, S_3, hc4, H⟩ := gc_e H
  refine GA.callV (m_X10_copyOf hc4) xs_X1_46 dX1_begin_6 (gsT (by decide)) (by decide) rfl rfl (by omega) (by decide) rfl (Nat.le_of_ble_eq_true rfl) (by omega) (by omega) rfl (fun E S9 hx => hx.elim) (fun v S9 hq => ?_)
  obtain ⟨rfl, rfl⟩ := hq
  refine GA.aload_n dX1_begin_9 rfl ?_
  refine GA.iload_n dX1_begin_10 rfl ?_
  obtain ⟨hg5, H⟩ := gg_e H
  obtain ⟨S_6, hx7, H⟩ := gv_e H
  refine GV.putB hg5 hx7 (xp_X1_50 (xb_01 _)) dX1_begin_11 gs_482 (by decide) (Nat.le_of_ble_eq_true rfl) gs_482 ?_
  refine GA.aload_n dX1_begin_14 rfl ?_
  refine GA.get xf_X1_24 dX1_begin_15 gs_482 (by decide) rfl ?_
  obtain ⟨x8, S_9, hc10, H⟩ := gc_e H
  refine GA.callV (m_X10_clear hc10) xs_X1_54 dX1_begin_18 (gsT (by decide)) (by decide) rfl rfl (by omega) (by decide) rfl (Nat.le_of_ble_eq_true rfl) (by omega) (by omega) rfl (fun E S9 hx => hx.elim) (fun v S9 hq => ?_)
  obtain ⟨rfl, rfl⟩ := hq
  refine GA.aload_n dX1_begin_21 rfl ?_
  refine GA.get xf_X1_24 dX1_begin_22 gs_482 (by decide) rfl ?_
  refine GA.iconst dX1_begin_25 ?_
  obtain ⟨x11, S_12, hc13, H⟩ := gc_e H
  refine GA.callV (m_X10_add hc13) xs_X1_57 dX1_begin_26 (gsT (by decide)) (by decide) rfl rfl (by omega) (by decide) rfl (Nat.le_of_ble_eq_true rfl) (by omega) (by omega) rfl (fun E S9 hx => hx.elim) (fun v S9 hq => ?_)
  obtain ⟨rfl, rfl⟩ := hq
  refine GA.pop dX1_begin_29 rfl ?_
  cases H
  exact GA.vret rfl dX1_begin_30 (by omega) (by omega) ⟨rfl, rfl⟩
theorem g_X1_begin {l : Launch} {Z : XZ} {L : Nat → Nat} : ∀ n, P_X1_begin_0 l Z L n
  | 0 => fun _ _ _ _ _ _ H => no_e H
  | n + 1 => t_X1_begin_0 n (g_X1_begin n)
theorem m_X1_begin {l : Launch} {Z : XZ} {L : Nat → Nat} {n d : Nat} {S : GS} {a1 : Nat} {a2 : Int} {x : Int} {S1 : GS} (H : f_X1_begin n d 0 S [((a1 : Nat) : Int), a2] = some (x, S1)) : GM l Z L yX1_begin cX1_begin 3 none [] d 0 0 [.ref (L 482), .ref (L a1), .int (J a2)] S (fun v S' => v = none ∧ S1 = S') (fun _ _ => False) := GM.of (by decide) (Nat.le_of_ble_eq_true rfl) ((g_X1_begin n) _ _ _ _ _ _ H)

def P_X1_record_0 (l : Launch) (Z : XZ) (L : Nat → Nat) (n : Nat) : Prop := ∀ (d : Nat) (S : GS) (a1 : Nat) (a2 : Nat) (a3 : Int) (x : Int) (S1 : GS), f_X1_record n d 0 S [((a1 : Nat) : Int), ((a2 : Nat) : Int), a3] = some (x, S1) → GA l Z L yX1_record cX1_record 4 none [] d 0 0 (fun v S' => v = none ∧ S1 = S') (fun _ _ => False) 0 (gl [(0, .ref (L 482)), (1, .ref (Z.2.1 a1)), (2, .ref (L a2)), (3, .int (J a3))]) [] S 0 0
theorem i_X1_record {l : Launch} {Z : XZ} {L : Nat → Nat} {n : Nat} (ih : P_X1_record_0 l Z L n) {d : Nat} {S : GS} {a1 : Nat} {a2 : Nat} {a3 : Int} {x : Int} {S1 : GS} (H : f_X1_record n d 0 S [((a1 : Nat) : Int), ((a2 : Nat) : Int), a3] = some (x, S1)) : GM l Z L yX1_record cX1_record 4 none [] d 0 0 [.ref (L 482), .ref (Z.2.1 a1), .ref (L a2), .int (J a3)] S (fun v S' => v = none ∧ S1 = S') (fun _ _ => False) := GM.of (by decide) (Nat.le_of_ble_eq_true rfl) (ih _ _ _ _ _ _ _ H)
set_option maxHeartbeats 4000000 in
set_option maxRecDepth 20000 in
theorem t_X1_record_0 {l : Launch} {Z : XZ} {L : Nat → Nat} (n : Nat) (ih_X1_record_0 : P_X1_record_0 l Z L n) : P_X1_record_0 l Z L (n + 1) := by
  intro d S a1 a2 a3 x S1 H
  have H : b_X1_record_0 n d (f_X1_record n) S a1 a2 a3 = some (x, S1) := H
  unfold b_X1_record_0 at H
  refine GA.aload_n dX1_record_0 rfl ?_
  refine GA.get xf_X1_21 dX1_record_1 gs_482 (by decide) rfl ?_
  obtain ⟨hg1, H⟩ := gg_e H
  obtain ⟨x2, S_3, hc4, H⟩ := gc_e H
  refine GA.callV (m_X10_clear hc4) xs_X1_54 dX1_record_4 (gsT (by decide)) (by decide) rfl rfl (by omega) (by decide) rfl (Nat.le_of_ble_eq_true rfl) (by omega) (by omega) rfl (fun E S9 hx => hx.elim) (fun v S9 hq => ?_)
  obtain ⟨rfl, rfl⟩ := hq
  refine GA.aload_n dX1_record_7 rfl ?_
  refine GA.get xf_X1_21 dX1_record_8 gs_482 (by decide) rfl ?_
  refine GA.aload_n dX1_record_11 rfl ?_
  refine GA.aload_n dX1_record_12 rfl ?_
  refine GA.get xf_X1_43 dX1_record_13 gs_482 (by decide) rfl ?_
  refine GA.aload_n dX1_record_16 rfl ?_
  refine GA.iload_n dX1_record_17 rfl ?_
  obtain ⟨x5, S_6, hc7, H⟩ := gc_e H
  refine GA.callS (m_X5_add hc7) xs_X1_160 dX1_record_18 rfl (by omega) (by decide) rfl (Nat.le_of_ble_eq_true rfl) (by omega) (by omega) rfl (fun E S9 hx => hx.elim) (fun v S9 hq => ?_)
  obtain ⟨rfl, rfl⟩ := hq
  refine GA.aload_n dX1_record_21 rfl ?_
  refine GA.get xf_X1_24 dX1_record_22 gs_482 (by decide) rfl ?_
  refine GA.iconst dX1_record_25 ?_
  refine GA.iconst dX1_record_26 ?_
  refine GA.aload_n dX1_record_27 rfl ?_
  refine GA.get xf_X1_21 dX1_record_28 gs_482 (by decide) rfl ?_
  refine GA.iconst dX1_record_31 ?_
  obtain ⟨x8, S_9, hc10, H⟩ := gc_e H
  refine GA.callV (m_X10_insert hc10) xs_X1_106 dX1_record_32 (gsT (by decide)) (by decide) rfl rfl (by omega) (by decide) rfl (Nat.le_of_ble_eq_true rfl) (by omega) (by omega) rfl (fun E S9 hx => hx.elim) (fun v S9 hq => ?_)
  obtain ⟨rfl, rfl⟩ := hq
  cases H
  exact GA.vret rfl dX1_record_35 (by omega) (by omega) ⟨rfl, rfl⟩
theorem g_X1_record {l : Launch} {Z : XZ} {L : Nat → Nat} : ∀ n, P_X1_record_0 l Z L n
  | 0 => fun _ _ _ _ _ _ _ H => no_e H
  | n + 1 => t_X1_record_0 n (g_X1_record n)
theorem m_X1_record {l : Launch} {Z : XZ} {L : Nat → Nat} {n d : Nat} {S : GS} {a1 : Nat} {a2 : Nat} {a3 : Int} {x : Int} {S1 : GS} (H : f_X1_record n d 0 S [((a1 : Nat) : Int), ((a2 : Nat) : Int), a3] = some (x, S1)) : GM l Z L yX1_record cX1_record 4 none [] d 0 0 [.ref (L 482), .ref (Z.2.1 a1), .ref (L a2), .int (J a3)] S (fun v S' => v = none ∧ S1 = S') (fun _ _ => False) := GM.of (by decide) (Nat.le_of_ble_eq_true rfl) ((g_X1_record n) _ _ _ _ _ _ _ H)

def P_X1_cutOut_0 (l : Launch) (Z : XZ) (L : Nat → Nat) (n : Nat) : Prop := ∀ (d : Nat) (S : GS) (a1 : Nat) (x : Int) (S1 : GS), f_X1_cutOut n d 0 S [((a1 : Nat) : Int)] = some (x, S1) → GA l Z L yX1_cutOut cX1_cutOut 3 (some .boolean) [] d 0 0 (fun v S' => v = some (.int (J x)) ∧ S1 = S') (fun _ _ => False) 0 (gl [(0, .ref (L 482)), (1, .ref (L a1))]) [] S 0 0
theorem i_X1_cutOut {l : Launch} {Z : XZ} {L : Nat → Nat} {n : Nat} (ih : P_X1_cutOut_0 l Z L n) {d : Nat} {S : GS} {a1 : Nat} {x : Int} {S1 : GS} (H : f_X1_cutOut n d 0 S [((a1 : Nat) : Int)] = some (x, S1)) : GM l Z L yX1_cutOut cX1_cutOut 3 (some .boolean) [] d 0 0 [.ref (L 482), .ref (L a1)] S (fun v S' => v = some (.int (J x)) ∧ S1 = S') (fun _ _ => False) := GM.of (by decide) (Nat.le_of_ble_eq_true rfl) (ih _ _ _ _ _ H)
set_option maxHeartbeats 4000000 in
set_option maxRecDepth 20000 in
theorem t_X1_cutOut_0 {l : Launch} {Z : XZ} {L : Nat → Nat} (n : Nat) (ih_X1_cutOut_0 : P_X1_cutOut_0 l Z L n) : P_X1_cutOut_0 l Z L (n + 1) := by
  intro d S a1 x S1 H
  have H : b_X1_cutOut_0 n d (f_X1_cutOut n) S a1 = some (x, S1) := H
  unfold b_X1_cutOut_0 at H
  refine GA.aload_n dX1_cutOut_0 rfl ?_
  refine GA.aload_n dX1_cutOut_1 rfl ?_
  refine GA.get xf_X1_12 dX1_cutOut_2 gs_482 (by decide) rfl ?_
  refine GA.aload_n dX1_cutOut_5 rfl ?_
  obtain ⟨hg1, H⟩ := gg_e H
  obtain ⟨hg2, H⟩ := gg_e H
  obtain ⟨x3, S_4, hc5, H⟩ := gc_e H
  refine GA.callV (m_X7_steps hc5) xs_X1_61 dX1_cutOut_6 (gsR hg2) (by omega) rfl rfl (by omega) (by decide) rfl (Nat.le_of_ble_eq_true rfl) (by omega) (by omega) rfl (fun E S9 hx => hx.elim) (fun v S9 hq => ?_)
  obtain ⟨rfl, rfl⟩ := hq
  obtain ⟨x6, S_7, hc8, H⟩ := gc_e H
  refine GA.callV (m_X7_leadsTo hc8) xs_X1_65 dX1_cutOut_9 (gsR hg2) (by omega) rfl rfl (by omega) (by decide) rfl (Nat.le_of_ble_eq_true rfl) (by omega) (by omega) rfl (fun E S9 hx => hx.elim) (fun v S9 hq => ?_)
  obtain ⟨rfl, rfl⟩ := hq
  refine GA.istore_n dX1_cutOut_12 (by decide) ?_
  refine GA.iload_n dX1_cutOut_13 rfl ?_
  refine GA.iconst dX1_cutOut_14 ?_
  obtain ⟨hg9, H⟩ := gg_e H
  refine GV.icmp_eq (tgt := 25) hg9 (by decide) dX1_cutOut_15 (by decide) (fun c10 => ?_) (fun c10 => ?_)
  · have H := it_t H c10
    refine GA.iconst dX1_cutOut_25 ?_
    cases H
    exact GV.zret (by decide) rfl dX1_cutOut_26 (by omega) (by omega) ⟨rfl, rfl⟩
  · have H := it_f H c10
    refine GA.aload_n dX1_cutOut_18 rfl ?_
    obtain ⟨x11, S_12, hc13, H⟩ := gc_e H
    refine GA.callV (m_X7_steps hc13) xs_X1_61 dX1_cutOut_19 (gsR hg2) (by omega) rfl rfl (by omega) (by decide) rfl (Nat.le_of_ble_eq_true rfl) (by omega) (by omega) rfl (fun E S9 hx => hx.elim) (fun v S9 hq => ?_)
    obtain ⟨rfl, rfl⟩ := hq
    obtain ⟨hg14, H⟩ := gg_e H
    refine GV.if_ne (tgt := 27) hg14 dX1_cutOut_22 (by decide) (fun c15 => ?_) (fun c15 => ?_)
    · have H := it_t H c15
      refine GA.aload_n dX1_cutOut_27 rfl ?_
      obtain ⟨x16, hx17, H⟩ := gv_e H
      refine GV.getB hx17 xf_X1_50 dX1_cutOut_28 gs_482 (by decide) rfl ?_
      obtain ⟨hg18, H⟩ := gg_e H
      refine GV.if_eq (tgt := 53) hg18 dX1_cutOut_31 (by decide) (fun c19 => ?_) (fun c19 => ?_)
      · have H := it_t H c19
        refine GA.aload_n dX1_cutOut_53 rfl ?_
        refine GA.get xf_X1_12 dX1_cutOut_54 gs_482 (by decide) rfl ?_
        refine GA.iload_n dX1_cutOut_57 rfl ?_
        obtain ⟨x20, S_21, hc22, H⟩ := gc_e H
        refine GA.callV (m_X10_remove hc22) xs_X1_158 dX1_cutOut_58 (gsT (by decide)) (by decide) rfl rfl (by omega) (by decide) rfl (Nat.le_of_ble_eq_true rfl) (by omega) (by omega) rfl (fun E S9 hx => hx.elim) (fun v S9 hq => ?_)
        obtain ⟨rfl, rfl⟩ := hq
        refine GA.iconst dX1_cutOut_61 ?_
        cases H
        exact GV.zret (by decide) rfl dX1_cutOut_62 (by omega) (by omega) ⟨rfl, rfl⟩
      · have H := it_f H c19
        refine GA.aload_n dX1_cutOut_34 rfl ?_
        refine GA.aload_n dX1_cutOut_35 rfl ?_
        refine GA.get xf_X1_43 dX1_cutOut_36 gs_482 (by decide) rfl ?_
        obtain ⟨x23, S_24, hc25, H⟩ := gc_e H
        refine GA.callV (m_X7_textTo hc25) xs_X1_80 dX1_cutOut_39 (gsR hg2) (by omega) rfl rfl (by omega) (by decide) rfl (Nat.le_of_ble_eq_true rfl) (by omega) (by omega) rfl (fun E S9 hx => hx.elim) (fun v S9 hq => ?_)
        obtain ⟨rfl, rfl⟩ := hq
        refine GA.aload_n dX1_cutOut_42 rfl ?_
        refine GA.ldcS (i := 26) (tx := "add") (by decide +kernel) dX1_cutOut_43 ?_
        refine GA.aload_n dX1_cutOut_45 rfl ?_
        refine GA.get xf_X1_12 dX1_cutOut_46 gs_482 (by decide) rfl ?_
        refine GA.iload_n dX1_cutOut_49 rfl ?_
        obtain ⟨x26, S_27, hc28, H⟩ := gc_e H
        refine GA.callV (m_X1_record hc28) xs_X1_89 dX1_cutOut_50 gs_482 (by decide) rfl rfl (by omega) (by decide) rfl (Nat.le_of_ble_eq_true rfl) (by omega) (by omega) rfl (fun E S9 hx => hx.elim) (fun v S9 hq => ?_)
        obtain ⟨rfl, rfl⟩ := hq
        refine GA.aload_n dX1_cutOut_53 rfl ?_
        refine GA.get xf_X1_12 dX1_cutOut_54 gs_482 (by decide) rfl ?_
        refine GA.iload_n dX1_cutOut_57 rfl ?_
        obtain ⟨x29, S_30, hc31, H⟩ := gc_e H
        refine GA.callV (m_X10_remove hc31) xs_X1_158 dX1_cutOut_58 (gsT (by decide)) (by decide) rfl rfl (by omega) (by decide) rfl (Nat.le_of_ble_eq_true rfl) (by omega) (by omega) rfl (fun E S9 hx => hx.elim) (fun v S9 hq => ?_)
        obtain ⟨rfl, rfl⟩ := hq
        refine GA.iconst dX1_cutOut_61 ?_
        cases H
        exact GV.zret (by decide) rfl dX1_cutOut_62 (by omega) (by omega) ⟨rfl, rfl⟩
    · have H := it_f H c15
      refine GA.iconst dX1_cutOut_25 ?_
      cases H
      exact GV.zret (by decide) rfl dX1_cutOut_26 (by omega) (by omega) ⟨rfl, rfl⟩
theorem g_X1_cutOut {l : Launch} {Z : XZ} {L : Nat → Nat} : ∀ n, P_X1_cutOut_0 l Z L n
  | 0 => fun _ _ _ _ _ H => no_e H
  | n + 1 => t_X1_cutOut_0 n (g_X1_cutOut n)
theorem m_X1_cutOut {l : Launch} {Z : XZ} {L : Nat → Nat} {n d : Nat} {S : GS} {a1 : Nat} {x : Int} {S1 : GS} (H : f_X1_cutOut n d 0 S [((a1 : Nat) : Int)] = some (x, S1)) : GM l Z L yX1_cutOut cX1_cutOut 3 (some .boolean) [] d 0 0 [.ref (L 482), .ref (L a1)] S (fun v S' => v = some (.int (J x)) ∧ S1 = S') (fun _ _ => False) := GM.of (by decide) (Nat.le_of_ble_eq_true rfl) ((g_X1_cutOut n) _ _ _ _ _ H)

def P_X1_holdAt_0 (l : Launch) (Z : XZ) (L : Nat → Nat) (n : Nat) : Prop := ∀ (d : Nat) (S : GS) (a1 : Nat) (a2 : Int) (x : Int) (S1 : GS), f_X1_holdAt n d 0 S [((a1 : Nat) : Int), a2] = some (x, S1) → GA l Z L yX1_holdAt cX1_holdAt 4 (some .boolean) [] d 0 0 (fun v S' => v = some (.int (J x)) ∧ S1 = S') (fun _ _ => False) 0 (gl [(0, .ref (L 482)), (1, .ref (L a1)), (2, .int (J a2))]) [] S 0 0
theorem i_X1_holdAt {l : Launch} {Z : XZ} {L : Nat → Nat} {n : Nat} (ih : P_X1_holdAt_0 l Z L n) {d : Nat} {S : GS} {a1 : Nat} {a2 : Int} {x : Int} {S1 : GS} (H : f_X1_holdAt n d 0 S [((a1 : Nat) : Int), a2] = some (x, S1)) : GM l Z L yX1_holdAt cX1_holdAt 4 (some .boolean) [] d 0 0 [.ref (L 482), .ref (L a1), .int (J a2)] S (fun v S' => v = some (.int (J x)) ∧ S1 = S') (fun _ _ => False) := GM.of (by decide) (Nat.le_of_ble_eq_true rfl) (ih _ _ _ _ _ _ H)
set_option maxHeartbeats 4000000 in
set_option maxRecDepth 20000 in
theorem t_X1_holdAt_0 {l : Launch} {Z : XZ} {L : Nat → Nat} (n : Nat) (ih_X1_holdAt_0 : P_X1_holdAt_0 l Z L n) : P_X1_holdAt_0 l Z L (n + 1) := by
  intro d S a1 a2 x S1 H
  have H : b_X1_holdAt_0 n d (f_X1_holdAt n) S a1 a2 = some (x, S1) := H
  unfold b_X1_holdAt_0 at H
  refine GA.aload_n dX1_holdAt_0 rfl ?_
  refine GA.get xf_X1_30 dX1_holdAt_1 gs_482 (by decide) rfl ?_
  refine GA.aload_n dX1_holdAt_4 rfl ?_
  refine GA.iload_n dX1_holdAt_5 rfl ?_
  obtain ⟨hg1, H⟩ := gg_e H
  obtain ⟨x2, S_3, hc4, H⟩ := gc_e H
  refine GA.callV (m_X7_loadText hc4) xs_X1_186 dX1_holdAt_6 (gsR (by decide)) (by decide) rfl rfl (by omega) (by decide) rfl (Nat.le_of_ble_eq_true rfl) (by omega) (by omega) rfl (fun E S9 hx => hx.elim) (fun v S9 hq => ?_)
  obtain ⟨rfl, rfl⟩ := hq
  obtain ⟨hg5, H⟩ := gg_e H
  refine GV.if_ne (tgt := 14) hg5 dX1_holdAt_9 (by decide) (fun c6 => ?_) (fun c6 => ?_)
  · have H := it_t H c6
    refine GA.aload_n dX1_holdAt_14 rfl ?_
    refine GA.get xf_X1_30 dX1_holdAt_15 gs_482 (by decide) rfl ?_
    refine GA.aload_n dX1_holdAt_18 rfl ?_
    refine GA.get xf_X1_12 dX1_holdAt_19 gs_482 (by decide) rfl ?_
    refine GA.aload_n dX1_holdAt_22 rfl ?_
    refine GA.get xf_X1_30 dX1_holdAt_23 gs_482 (by decide) rfl ?_
    obtain ⟨x7, S_8, hc9, H⟩ := gc_e H
    refine GA.callV (m_X7_steps hc9) xs_X1_61 dX1_holdAt_26 (gsR (by decide)) (by decide) rfl rfl (by omega) (by decide) rfl (Nat.le_of_ble_eq_true rfl) (by omega) (by omega) rfl (fun E S9 hx => hx.elim) (fun v S9 hq => ?_)
    obtain ⟨rfl, rfl⟩ := hq
    obtain ⟨x10, S_11, hc12, H⟩ := gc_e H
    refine GA.callV (m_X7_leadsTo hc12) xs_X1_65 dX1_holdAt_29 (gsR (by decide)) (by decide) rfl rfl (by omega) (by decide) rfl (Nat.le_of_ble_eq_true rfl) (by omega) (by omega) rfl (fun E S9 hx => hx.elim) (fun v S9 hq => ?_)
    obtain ⟨rfl, rfl⟩ := hq
    refine GA.istore_n dX1_holdAt_32 (by decide) ?_
    refine GA.aload_n dX1_holdAt_33 rfl ?_
    refine GA.get xf_X1_18 dX1_holdAt_34 gs_482 (by decide) rfl ?_
    refine GA.aload_n dX1_holdAt_37 rfl ?_
    refine GA.get xf_X1_12 dX1_holdAt_38 gs_482 (by decide) rfl ?_
    refine GA.iload_n dX1_holdAt_41 rfl ?_
    obtain ⟨x13, S_14, hc15, H⟩ := gc_e H
    refine GA.callV (m_X10_copyOf hc15) xs_X1_46 dX1_holdAt_42 (gsT (by decide)) (by decide) rfl rfl (by omega) (by decide) rfl (Nat.le_of_ble_eq_true rfl) (by omega) (by omega) rfl (fun E S9 hx => hx.elim) (fun v S9 hq => ?_)
    obtain ⟨rfl, rfl⟩ := hq
    refine GA.iload_n dX1_holdAt_45 rfl ?_
    refine GA.iconst dX1_holdAt_46 ?_
    obtain ⟨hg16, H⟩ := gg_e H
    refine GV.icmp_eq (tgt := 54) hg16 (by decide) dX1_holdAt_47 (by decide) (fun c17 => ?_) (fun c17 => ?_)
    · have H := it_t H c17
      refine GA.iconst dX1_holdAt_54 ?_
      cases H
      exact GV.zret (by decide) rfl dX1_holdAt_55 (by omega) (by omega) ⟨rfl, rfl⟩
    · have H := it_f H c17
      refine GA.iconst dX1_holdAt_50 ?_
      refine GA.goto (tgt := 55) dX1_holdAt_51 (by decide) ?_
      cases H
      exact GV.zret (by decide) rfl dX1_holdAt_55 (by omega) (by omega) ⟨rfl, rfl⟩
  · have H := it_f H c6
    refine GA.iconst dX1_holdAt_12 ?_
    cases H
    exact GV.zret (by decide) rfl dX1_holdAt_13 (by omega) (by omega) ⟨rfl, rfl⟩
theorem g_X1_holdAt {l : Launch} {Z : XZ} {L : Nat → Nat} : ∀ n, P_X1_holdAt_0 l Z L n
  | 0 => fun _ _ _ _ _ _ H => no_e H
  | n + 1 => t_X1_holdAt_0 n (g_X1_holdAt n)
theorem m_X1_holdAt {l : Launch} {Z : XZ} {L : Nat → Nat} {n d : Nat} {S : GS} {a1 : Nat} {a2 : Int} {x : Int} {S1 : GS} (H : f_X1_holdAt n d 0 S [((a1 : Nat) : Int), a2] = some (x, S1)) : GM l Z L yX1_holdAt cX1_holdAt 4 (some .boolean) [] d 0 0 [.ref (L 482), .ref (L a1), .int (J a2)] S (fun v S' => v = some (.int (J x)) ∧ S1 = S') (fun _ _ => False) := GM.of (by decide) (Nat.le_of_ble_eq_true rfl) ((g_X1_holdAt n) _ _ _ _ _ _ H)

def P_X1_aim_0 (l : Launch) (Z : XZ) (L : Nat → Nat) (n : Nat) : Prop := ∀ (d : Nat) (S : GS) (a1 : Nat) (x : Int) (S1 : GS), f_X1_aim n d 0 S [((a1 : Nat) : Int)] = some (x, S1) → GA l Z L yX1_aim cX1_aim 3 (some .boolean) [] d 0 0 (fun v S' => v = some (.int (J x)) ∧ S1 = S') (fun _ _ => False) 0 (gl [(0, .ref (L 482)), (1, .ref (L a1))]) [] S 0 0
def P_X1_aim_18 (l : Launch) (Z : XZ) (L : Nat → Nat) (n : Nat) : Prop := ∀ (d : Nat) (S : GS) (a1 : Nat) (s0 : Int) (x : Int) (S1 : GS), f_X1_aim n d 18 S [((a1 : Nat) : Int), s0] = some (x, S1) → GA l Z L yX1_aim cX1_aim 3 (some .boolean) [] d 0 0 (fun v S' => v = some (.int (J x)) ∧ S1 = S') (fun _ _ => False) 18 (gl [(0, .ref (L 482)), (1, .ref (L a1))]) [.int (J s0), .ref (L 482)] S 0 0
def P_X1_aim_92 (l : Launch) (Z : XZ) (L : Nat → Nat) (n : Nat) : Prop := ∀ (d : Nat) (S : GS) (s0 : Int) (x : Int) (S1 : GS), f_X1_aim n d 92 S [s0] = some (x, S1) → GA l Z L yX1_aim cX1_aim 3 (some .boolean) [] d 0 0 (fun v S' => v = some (.int (J x)) ∧ S1 = S') (fun _ _ => False) 92 (gl [(0, .ref (L 482))]) [.int (J s0), .ref (L 482)] S 0 0
def P_X1_aim_121 (l : Launch) (Z : XZ) (L : Nat → Nat) (n : Nat) : Prop := ∀ (d : Nat) (S : GS) (s0 : Int) (x : Int) (S1 : GS), f_X1_aim n d 121 S [s0] = some (x, S1) → GA l Z L yX1_aim cX1_aim 3 (some .boolean) [] d 0 0 (fun v S' => v = some (.int (J x)) ∧ S1 = S') (fun _ _ => False) 121 (gl [(0, .ref (L 482))]) [.int (J s0), .ref (L 482)] S 0 0
def P_X1_aim_196 (l : Launch) (Z : XZ) (L : Nat → Nat) (n : Nat) : Prop := ∀ (d : Nat) (S : GS) (a2 : Int) (s0 : Int) (x : Int) (S1 : GS), f_X1_aim n d 196 S [a2, s0] = some (x, S1) → GA l Z L yX1_aim cX1_aim 3 (some .boolean) [] d 0 0 (fun v S' => v = some (.int (J x)) ∧ S1 = S') (fun _ _ => False) 196 (gl [(0, .ref (L 482)), (2, .int (J a2))]) [.int (J s0), .ref (L 482)] S 0 0
def P_X1_aim_237 (l : Launch) (Z : XZ) (L : Nat → Nat) (n : Nat) : Prop := ∀ (d : Nat) (S : GS) (a2 : Int) (s0 : Int) (x : Int) (S1 : GS), f_X1_aim n d 237 S [a2, s0] = some (x, S1) → GA l Z L yX1_aim cX1_aim 3 (some .boolean) [] d 0 0 (fun v S' => v = some (.int (J x)) ∧ S1 = S') (fun _ _ => False) 237 (gl [(0, .ref (L 482)), (2, .int (J a2))]) [.int (J s0), .ref (L 482)] S 0 0
theorem i_X1_aim {l : Launch} {Z : XZ} {L : Nat → Nat} {n : Nat} (ih : P_X1_aim_0 l Z L n) {d : Nat} {S : GS} {a1 : Nat} {x : Int} {S1 : GS} (H : f_X1_aim n d 0 S [((a1 : Nat) : Int)] = some (x, S1)) : GM l Z L yX1_aim cX1_aim 3 (some .boolean) [] d 0 0 [.ref (L 482), .ref (L a1)] S (fun v S' => v = some (.int (J x)) ∧ S1 = S') (fun _ _ => False) := GM.of (by decide) (Nat.le_of_ble_eq_true rfl) (ih _ _ _ _ _ H)
set_option maxHeartbeats 4000000 in
set_option maxRecDepth 20000 in
theorem t_X1_aim_0 {l : Launch} {Z : XZ} {L : Nat → Nat} (n : Nat) (ih_X1_aim_0 : P_X1_aim_0 l Z L n) (ih_X1_aim_18 : P_X1_aim_18 l Z L n) (ih_X1_aim_92 : P_X1_aim_92 l Z L n) (ih_X1_aim_121 : P_X1_aim_121 l Z L n) (ih_X1_aim_196 : P_X1_aim_196 l Z L n) (ih_X1_aim_237 : P_X1_aim_237 l Z L n) : P_X1_aim_0 l Z L (n + 1) := by
  intro d S a1 x S1 H
  have H : b_X1_aim_0 n d (f_X1_aim n) S a1 = some (x, S1) := H
  unfold b_X1_aim_0 at H
  refine GA.aload_n dX1_aim_0 rfl ?_
  refine GA.iconst dX1_aim_1 ?_
  obtain ⟨S_1, hx2, H⟩ := gv_e H
  refine GV.putI hx2 (xp_X1_86 _) dX1_aim_2 gs_482 (by decide) (Nat.le_of_ble_eq_true rfl) gs_482 ?_
  refine GA.aload_n dX1_aim_5 rfl ?_
  refine GA.aload_n dX1_aim_6 rfl ?_
  obtain ⟨hg3, H⟩ := gg_e H
  obtain ⟨hg4, H⟩ := gg_e H
  obtain ⟨x5, S_6, hc7, H⟩ := gc_e H
  refine GA.callV (m_X7_steps hc7) xs_X1_61 dX1_aim_7 (gsR hg4) (by omega) rfl rfl (by omega) (by decide) rfl (Nat.le_of_ble_eq_true rfl) (by omega) (by omega) rfl (fun E S9 hx => hx.elim) (fun v S9 hq => ?_)
  obtain ⟨rfl, rfl⟩ := hq
  obtain ⟨hg8, H⟩ := gg_e H
  refine GV.if_ne (tgt := 17) hg8 dX1_aim_10 (by decide) (fun c9 => ?_) (fun c9 => ?_)
  · have H := it_t H c9
    refine GA.iconst dX1_aim_17 ?_
    refine GA.locals [(0, .ref (L 482)), (1, .ref (L a1))] ⟨rfl, rfl, trivial⟩ ?_
    exact ih_X1_aim_18 _ _ (a1) (0) _ _ H
  · have H := it_f H c9
    refine GA.iconst dX1_aim_13 ?_
    refine GA.goto (tgt := 18) dX1_aim_14 (by decide) ?_
    refine GA.locals [(0, .ref (L 482)), (1, .ref (L a1))] ⟨rfl, rfl, trivial⟩ ?_
    exact ih_X1_aim_18 _ _ (a1) (1) _ _ H
set_option maxHeartbeats 4000000 in
set_option maxRecDepth 20000 in
theorem t_X1_aim_18 {l : Launch} {Z : XZ} {L : Nat → Nat} (n : Nat) (ih_X1_aim_0 : P_X1_aim_0 l Z L n) (ih_X1_aim_18 : P_X1_aim_18 l Z L n) (ih_X1_aim_92 : P_X1_aim_92 l Z L n) (ih_X1_aim_121 : P_X1_aim_121 l Z L n) (ih_X1_aim_196 : P_X1_aim_196 l Z L n) (ih_X1_aim_237 : P_X1_aim_237 l Z L n) : P_X1_aim_18 l Z L (n + 1) := by
  intro d S a1 s0 x S1 H
  have H : b_X1_aim_18 n d (f_X1_aim n) S a1 s0 = some (x, S1) := H
  unfold b_X1_aim_18 at H
  obtain ⟨hg1, H⟩ := gg_e H
  obtain ⟨S_2, hx3, H⟩ := gv_e H
  refine GV.putB hg1 hx3 (xp_X1_77 (xb_01 _)) dX1_aim_18 gs_482 (by decide) (Nat.le_of_ble_eq_true rfl) gs_482 ?_
  refine GA.aload_n dX1_aim_21 rfl ?_
  obtain ⟨x4, hx5, H⟩ := gv_e H
  refine GV.getB hx5 xf_X1_77 dX1_aim_22 gs_482 (by decide) rfl ?_
  obtain ⟨hg6, H⟩ := gg_e H
  refine GV.if_eq (tgt := 30) hg6 dX1_aim_25 (by decide) (fun c7 => ?_) (fun c7 => ?_)
  · have H := it_t H c7
    refine GA.aload_n dX1_aim_30 rfl ?_
    refine GA.aload_n dX1_aim_31 rfl ?_
    obtain ⟨hg8, H⟩ := gg_e H
    obtain ⟨hg9, H⟩ := gg_e H
    obtain ⟨x10, S_11, hc12, H⟩ := gc_e H
    refine GA.callV (m_X7_steps hc12) xs_X1_61 dX1_aim_32 (gsR hg9) (by omega) rfl rfl (by omega) (by decide) rfl (Nat.le_of_ble_eq_true rfl) (by omega) (by omega) rfl (fun E S9 hx => hx.elim) (fun v S9 hq => ?_)
    obtain ⟨rfl, rfl⟩ := hq
    refine GA.iconst dX1_aim_35 ?_
    obtain ⟨x13, hx14, H⟩ := gv_e H
    refine GV.isub hx14 dX1_aim_36 ?_
    refine GA.aload_n dX1_aim_37 rfl ?_
    refine GA.get xf_X1_39 dX1_aim_38 gs_482 (by decide) rfl ?_
    obtain ⟨x15, S_16, hc17, H⟩ := gc_e H
    refine GA.callV (m_X7_wordTo hc17) xs_X1_127 dX1_aim_41 (gsR hg9) (by omega) rfl rfl (by omega) (by decide) rfl (Nat.le_of_ble_eq_true rfl) (by omega) (by omega) rfl (fun E S9 hx => hx.elim) (fun v S9 hq => ?_)
    obtain ⟨rfl, rfl⟩ := hq
    refine GA.aload_n dX1_aim_44 rfl ?_
    refine GA.get xf_X1_12 dX1_aim_45 gs_482 (by decide) rfl ?_
    refine GA.aload_n dX1_aim_48 rfl ?_
    obtain ⟨x18, hx19, H⟩ := gv_e H
    refine GV.getI hx19 xf_X1_69 dX1_aim_49 gs_482 (by decide) rfl ?_
    refine GA.iconst dX1_aim_52 ?_
    obtain ⟨x20, S_21, hc22, H⟩ := gc_e H
    refine GA.callV (m_X10_is hc22) xs_X1_113 dX1_aim_53 (gsT (by decide)) (by decide) rfl rfl (by omega) (by decide) rfl (Nat.le_of_ble_eq_true rfl) (by omega) (by omega) rfl (fun E S9 hx => hx.elim) (fun v S9 hq => ?_)
    obtain ⟨rfl, rfl⟩ := hq
    obtain ⟨hg23, H⟩ := gg_e H
    refine GV.if_eq (tgt := 142) hg23 dX1_aim_56 (by decide) (fun c24 => ?_) (fun c24 => ?_)
    · have H := it_t H c24
      refine GA.aload_n dX1_aim_142 rfl ?_
      refine GA.get xf_X1_12 dX1_aim_143 gs_482 (by decide) rfl ?_
      refine GA.aload_n dX1_aim_146 rfl ?_
      obtain ⟨x25, hx26, H⟩ := gv_e H
      refine GV.getI hx26 xf_X1_69 dX1_aim_147 gs_482 (by decide) rfl ?_
      refine GA.iconst dX1_aim_150 ?_
      obtain ⟨x27, S_28, hc29, H⟩ := gc_e H
      refine GA.callV (m_X10_is hc29) xs_X1_113 dX1_aim_151 (gsT (by decide)) (by decide) rfl rfl (by omega) (by decide) rfl (Nat.le_of_ble_eq_true rfl) (by omega) (by omega) rfl (fun E S9 hx => hx.elim) (fun v S9 hq => ?_)
      obtain ⟨rfl, rfl⟩ := hq
      obtain ⟨hg30, H⟩ := gg_e H
      refine GV.if_ne (tgt := 159) hg30 dX1_aim_154 (by decide) (fun c31 => ?_) (fun c31 => ?_)
      · have H := it_t H c31
        refine GA.aload_n dX1_aim_159 rfl ?_
        refine GA.get xf_X1_12 dX1_aim_160 gs_482 (by decide) rfl ?_
        refine GA.aload_n dX1_aim_163 rfl ?_
        obtain ⟨x32, hx33, H⟩ := gv_e H
        refine GV.getI hx33 xf_X1_69 dX1_aim_164 gs_482 (by decide) rfl ?_
        obtain ⟨x34, S_35, hc36, H⟩ := gc_e H
        refine GA.callV (m_X10_values hc36) xs_X1_140 dX1_aim_167 (gsT (by decide)) (by decide) rfl rfl (by omega) (by decide) rfl (Nat.le_of_ble_eq_true rfl) (by omega) (by omega) rfl (fun E S9 hx => hx.elim) (fun v S9 hq => ?_)
        obtain ⟨rfl, rfl⟩ := hq
        refine GA.istore_n dX1_aim_170 (by decide) ?_
        refine GA.aload_n dX1_aim_171 rfl ?_
        refine GA.aload_n dX1_aim_172 rfl ?_
        refine GA.get xf_X1_39 dX1_aim_173 gs_482 (by decide) rfl ?_
        refine GA.ldcS (i := 20) (tx := "-") (by decide +kernel) dX1_aim_176 ?_
        obtain ⟨x37, S_38, hc39, H⟩ := gc_e H
        refine GA.callV (m_X9_says hc39) xs_X1_145 dX1_aim_178 (gsS (by decide)) (by decide) rfl rfl (by omega) (by decide) rfl (Nat.le_of_ble_eq_true rfl) (by omega) (by omega) rfl (fun E S9 hx => hx.elim) (fun v S9 hq => ?_)
        obtain ⟨rfl, rfl⟩ := hq
        obtain ⟨hg40, H⟩ := gg_e H
        refine GV.if_eq (tgt := 188) hg40 dX1_aim_181 (by decide) (fun c41 => ?_) (fun c41 => ?_)
        · have H := it_t H c41
          refine GA.aload_n dX1_aim_188 rfl ?_
          refine GA.get xf_X1_39 dX1_aim_189 gs_482 (by decide) rfl ?_
          refine GA.iconst dX1_aim_192 ?_
          obtain ⟨x42, S_43, hc44, H⟩ := gc_e H
          refine GA.callS (m_X7_placeIn hc44) xs_X1_149 dX1_aim_193 rfl (by omega) (by decide) rfl (Nat.le_of_ble_eq_true rfl) (by omega) (by omega) rfl (fun E S9 hx => hx.elim) (fun v S9 hq => ?_)
          obtain ⟨rfl, rfl⟩ := hq
          refine GA.locals [(0, .ref (L 482)), (2, .int (J x34))] ⟨rfl, rfl, trivial⟩ ?_
          exact ih_X1_aim_196 _ _ (x34) (x42) _ _ H
        · have H := it_f H c41
          refine GA.iload_n dX1_aim_184 rfl ?_
          refine GA.goto (tgt := 196) dX1_aim_185 (by decide) ?_
          refine GA.locals [(0, .ref (L 482)), (2, .int (J x34))] ⟨rfl, rfl, trivial⟩ ?_
          exact ih_X1_aim_196 _ _ (x34) (x34) _ _ H
      · have H := it_f H c31
        refine GA.iconst dX1_aim_157 ?_
        cases H
        exact GV.zret (by decide) rfl dX1_aim_158 (by omega) (by omega) ⟨rfl, rfl⟩
    · have H := it_f H c24
      refine GA.aload_n dX1_aim_59 rfl ?_
      refine GA.aload_n dX1_aim_60 rfl ?_
      refine GA.get xf_X1_12 dX1_aim_61 gs_482 (by decide) rfl ?_
      refine GA.aload_n dX1_aim_64 rfl ?_
      obtain ⟨x45, hx46, H⟩ := gv_e H
      refine GV.getI hx46 xf_X1_69 dX1_aim_65 gs_482 (by decide) rfl ?_
      refine GA.aload_n dX1_aim_68 rfl ?_
      refine GA.get xf_X1_39 dX1_aim_69 gs_482 (by decide) rfl ?_
      obtain ⟨x47, S_48, hc49, H⟩ := gc_e H
      refine GA.callV (m_X10_valueOf hc49) xs_X1_130 dX1_aim_72 (gsT (by decide)) (by decide) rfl rfl (by omega) (by decide) rfl (Nat.le_of_ble_eq_true rfl) (by omega) (by omega) rfl (fun E S9 hx => hx.elim) (fun v S9 hq => ?_)
      obtain ⟨rfl, rfl⟩ := hq
      obtain ⟨S_50, hx51, H⟩ := gv_e H
      refine GV.putI hx51 (xp_X1_86 _) dX1_aim_75 gs_482 (by decide) (Nat.le_of_ble_eq_true rfl) gs_482 ?_
      refine GA.aload_n dX1_aim_78 rfl ?_
      refine GA.aload_n dX1_aim_79 rfl ?_
      obtain ⟨x52, hx53, H⟩ := gv_e H
      refine GV.getI hx53 xf_X1_86 dX1_aim_80 gs_482 (by decide) rfl ?_
      refine GA.iconst dX1_aim_83 ?_
      obtain ⟨hg54, H⟩ := gg_e H
      refine GV.icmp_eq (tgt := 91) hg54 (by decide) dX1_aim_84 (by decide) (fun c55 => ?_) (fun c55 => ?_)
      · have H := it_t H c55
        refine GA.iconst dX1_aim_91 ?_
        refine GA.locals [(0, .ref (L 482))] ⟨rfl, trivial⟩ ?_
        exact ih_X1_aim_92 _ _ (0) _ _ H
      · have H := it_f H c55
        refine GA.iconst dX1_aim_87 ?_
        refine GA.goto (tgt := 92) dX1_aim_88 (by decide) ?_
        refine GA.locals [(0, .ref (L 482))] ⟨rfl, trivial⟩ ?_
        exact ih_X1_aim_92 _ _ (1) _ _ H
  · have H := it_f H c7
    refine GA.iconst dX1_aim_28 ?_
    cases H
    exact GV.zret (by decide) rfl dX1_aim_29 (by omega) (by omega) ⟨rfl, rfl⟩
set_option maxHeartbeats 4000000 in
set_option maxRecDepth 20000 in
theorem t_X1_aim_92 {l : Launch} {Z : XZ} {L : Nat → Nat} (n : Nat) (ih_X1_aim_0 : P_X1_aim_0 l Z L n) (ih_X1_aim_18 : P_X1_aim_18 l Z L n) (ih_X1_aim_92 : P_X1_aim_92 l Z L n) (ih_X1_aim_121 : P_X1_aim_121 l Z L n) (ih_X1_aim_196 : P_X1_aim_196 l Z L n) (ih_X1_aim_237 : P_X1_aim_237 l Z L n) : P_X1_aim_92 l Z L (n + 1) := by
  intro d S s0 x S1 H
  have H : b_X1_aim_92 n d (f_X1_aim n) S s0 = some (x, S1) := H
  unfold b_X1_aim_92 at H
  obtain ⟨hg1, H⟩ := gg_e H
  obtain ⟨S_2, hx3, H⟩ := gv_e H
  refine GV.putB hg1 hx3 (xp_X1_77 (xb_01 _)) dX1_aim_92 gs_482 (by decide) (Nat.le_of_ble_eq_true rfl) gs_482 ?_
  refine GA.aload_n dX1_aim_95 rfl ?_
  refine GA.aload_n dX1_aim_96 rfl ?_
  obtain ⟨x4, hx5, H⟩ := gv_e H
  refine GV.getB hx5 xf_X1_77 dX1_aim_97 gs_482 (by decide) rfl ?_
  obtain ⟨hg6, H⟩ := gg_e H
  refine GV.if_eq (tgt := 110) hg6 dX1_aim_100 (by decide) (fun c7 => ?_) (fun c7 => ?_)
  · have H := it_t H c7
    refine GA.aload_n dX1_aim_110 rfl ?_
    refine GA.get xf_X1_12 dX1_aim_111 gs_482 (by decide) rfl ?_
    refine GA.aload_n dX1_aim_114 rfl ?_
    obtain ⟨x8, hx9, H⟩ := gv_e H
    refine GV.getI hx9 xf_X1_69 dX1_aim_115 gs_482 (by decide) rfl ?_
    obtain ⟨hg10, H⟩ := gg_e H
    obtain ⟨x11, S_12, hc13, H⟩ := gc_e H
    refine GA.callV (m_X10_after hc13) xs_X1_134 dX1_aim_118 (gsT (by decide)) (by decide) rfl rfl (by omega) (by decide) rfl (Nat.le_of_ble_eq_true rfl) (by omega) (by omega) rfl (fun E S9 hx => hx.elim) (fun v S9 hq => ?_)
    obtain ⟨rfl, rfl⟩ := hq
    refine GA.locals [(0, .ref (L 482))] ⟨rfl, trivial⟩ ?_
    exact ih_X1_aim_121 _ _ (x11) _ _ H
  · have H := it_f H c7
    refine GA.aload_n dX1_aim_103 rfl ?_
    obtain ⟨x14, hx15, H⟩ := gv_e H
    refine GV.getI hx15 xf_X1_86 dX1_aim_104 gs_482 (by decide) rfl ?_
    refine GA.goto (tgt := 121) dX1_aim_107 (by decide) ?_
    refine GA.locals [(0, .ref (L 482))] ⟨rfl, trivial⟩ ?_
    exact ih_X1_aim_121 _ _ (x14) _ _ H
set_option maxHeartbeats 4000000 in
set_option maxRecDepth 20000 in
theorem t_X1_aim_121 {l : Launch} {Z : XZ} {L : Nat → Nat} (n : Nat) (ih_X1_aim_0 : P_X1_aim_0 l Z L n) (ih_X1_aim_18 : P_X1_aim_18 l Z L n) (ih_X1_aim_92 : P_X1_aim_92 l Z L n) (ih_X1_aim_121 : P_X1_aim_121 l Z L n) (ih_X1_aim_196 : P_X1_aim_196 l Z L n) (ih_X1_aim_237 : P_X1_aim_237 l Z L n) : P_X1_aim_121 l Z L (n + 1) := by
  intro d S s0 x S1 H
  have H : b_X1_aim_121 n d (f_X1_aim n) S s0 = some (x, S1) := H
  unfold b_X1_aim_121 at H
  obtain ⟨S_1, hx2, H⟩ := gv_e H
  refine GV.putI hx2 (xp_X1_86 _) dX1_aim_121 gs_482 (by decide) (Nat.le_of_ble_eq_true rfl) gs_482 ?_
  refine GA.aload_n dX1_aim_124 rfl ?_
  refine GA.get xf_X1_39 dX1_aim_125 gs_482 (by decide) rfl ?_
  obtain ⟨hg3, H⟩ := gg_e H
  obtain ⟨x4, S_5, hc6, H⟩ := gc_e H
  refine GA.callV (m_X9_length hc6) xs_X1_137 dX1_aim_128 (gsS (by decide)) (by decide) rfl rfl (by omega) (by decide) rfl (Nat.le_of_ble_eq_true rfl) (by omega) (by omega) rfl (fun E S9 hx => hx.elim) (fun v S9 hq => ?_)
  obtain ⟨rfl, rfl⟩ := hq
  refine GA.bipush dX1_aim_131 rfl ?_
  obtain ⟨hg7, H⟩ := gg_e H
  refine GV.icmp_gt (tgt := 140) hg7 (by decide) dX1_aim_133 (by decide) (fun c8 => ?_) (fun c8 => ?_)
  · have H := it_t H c8
    refine GA.iconst dX1_aim_140 ?_
    cases H
    exact GV.zret (by decide) rfl dX1_aim_141 (by omega) (by omega) ⟨rfl, rfl⟩
  · have H := it_f H c8
    refine GA.iconst dX1_aim_136 ?_
    refine GA.goto (tgt := 141) dX1_aim_137 (by decide) ?_
    cases H
    exact GV.zret (by decide) rfl dX1_aim_141 (by omega) (by omega) ⟨rfl, rfl⟩
set_option maxHeartbeats 4000000 in
set_option maxRecDepth 20000 in
theorem t_X1_aim_196 {l : Launch} {Z : XZ} {L : Nat → Nat} (n : Nat) (ih_X1_aim_0 : P_X1_aim_0 l Z L n) (ih_X1_aim_18 : P_X1_aim_18 l Z L n) (ih_X1_aim_92 : P_X1_aim_92 l Z L n) (ih_X1_aim_121 : P_X1_aim_121 l Z L n) (ih_X1_aim_196 : P_X1_aim_196 l Z L n) (ih_X1_aim_237 : P_X1_aim_237 l Z L n) : P_X1_aim_196 l Z L (n + 1) := by
  intro d S a2 s0 x S1 H
  have H : b_X1_aim_196 n d (f_X1_aim n) S a2 s0 = some (x, S1) := H
  unfold b_X1_aim_196 at H
  obtain ⟨S_1, hx2, H⟩ := gv_e H
  refine GV.putI hx2 (xp_X1_121 _) dX1_aim_196 gs_482 (by decide) (Nat.le_of_ble_eq_true rfl) gs_482 ?_
  refine GA.aload_n dX1_aim_199 rfl ?_
  refine GA.aload_n dX1_aim_200 rfl ?_
  obtain ⟨x3, hx4, H⟩ := gv_e H
  refine GV.getI hx4 xf_X1_121 dX1_aim_201 gs_482 (by decide) rfl ?_
  refine GA.iload_n dX1_aim_204 rfl ?_
  obtain ⟨hg5, H⟩ := gg_e H
  obtain ⟨hg6, H⟩ := gg_e H
  refine GV.icmp_ge (tgt := 226) hg5 hg6 dX1_aim_205 (by decide) (fun c7 => ?_) (fun c7 => ?_)
  · have H := it_t H c7
    refine GA.aload_n dX1_aim_226 rfl ?_
    refine GA.get xf_X1_12 dX1_aim_227 gs_482 (by decide) rfl ?_
    refine GA.aload_n dX1_aim_230 rfl ?_
    obtain ⟨x8, hx9, H⟩ := gv_e H
    refine GV.getI hx9 xf_X1_69 dX1_aim_231 gs_482 (by decide) rfl ?_
    obtain ⟨hg10, H⟩ := gg_e H
    obtain ⟨x11, S_12, hc13, H⟩ := gc_e H
    refine GA.callV (m_X10_after hc13) xs_X1_134 dX1_aim_234 (gsT (by decide)) (by decide) rfl rfl (by omega) (by decide) rfl (Nat.le_of_ble_eq_true rfl) (by omega) (by omega) rfl (fun E S9 hx => hx.elim) (fun v S9 hq => ?_)
    obtain ⟨rfl, rfl⟩ := hq
    refine GA.locals [(0, .ref (L 482)), (2, .int (J a2))] ⟨rfl, rfl, trivial⟩ ?_
    exact ih_X1_aim_237 _ _ (a2) (x11) _ _ H
  · have H := it_f H c7
    refine GA.aload_n dX1_aim_208 rfl ?_
    refine GA.get xf_X1_12 dX1_aim_209 gs_482 (by decide) rfl ?_
    refine GA.aload_n dX1_aim_212 rfl ?_
    obtain ⟨x14, hx15, H⟩ := gv_e H
    refine GV.getI hx15 xf_X1_69 dX1_aim_213 gs_482 (by decide) rfl ?_
    refine GA.aload_n dX1_aim_216 rfl ?_
    obtain ⟨x16, hx17, H⟩ := gv_e H
    refine GV.getI hx17 xf_X1_121 dX1_aim_217 gs_482 (by decide) rfl ?_
    obtain ⟨hg18, H⟩ := gg_e H
    obtain ⟨x19, S_20, hc21, H⟩ := gc_e H
    refine GA.callV (m_X10_valueAt hc21) xs_X1_153 dX1_aim_220 (gsT (by decide)) (by decide) rfl rfl (by omega) (by decide) rfl (Nat.le_of_ble_eq_true rfl) (by omega) (by omega) rfl (fun E S9 hx => hx.elim) (fun v S9 hq => ?_)
    obtain ⟨rfl, rfl⟩ := hq
    refine GA.goto (tgt := 237) dX1_aim_223 (by decide) ?_
    refine GA.locals [(0, .ref (L 482)), (2, .int (J a2))] ⟨rfl, rfl, trivial⟩ ?_
    exact ih_X1_aim_237 _ _ (a2) (x19) _ _ H
set_option maxHeartbeats 4000000 in
set_option maxRecDepth 20000 in
theorem t_X1_aim_237 {l : Launch} {Z : XZ} {L : Nat → Nat} (n : Nat) (ih_X1_aim_0 : P_X1_aim_0 l Z L n) (ih_X1_aim_18 : P_X1_aim_18 l Z L n) (ih_X1_aim_92 : P_X1_aim_92 l Z L n) (ih_X1_aim_121 : P_X1_aim_121 l Z L n) (ih_X1_aim_196 : P_X1_aim_196 l Z L n) (ih_X1_aim_237 : P_X1_aim_237 l Z L n) : P_X1_aim_237 l Z L (n + 1) := by
  intro d S a2 s0 x S1 H
  have H : b_X1_aim_237 n d (f_X1_aim n) S a2 s0 = some (x, S1) := H
  unfold b_X1_aim_237 at H
  obtain ⟨S_1, hx2, H⟩ := gv_e H
  refine GV.putI hx2 (xp_X1_86 _) dX1_aim_237 gs_482 (by decide) (Nat.le_of_ble_eq_true rfl) gs_482 ?_
  refine GA.aload_n dX1_aim_240 rfl ?_
  obtain ⟨x3, hx4, H⟩ := gv_e H
  refine GV.getI hx4 xf_X1_121 dX1_aim_241 gs_482 (by decide) rfl ?_
  obtain ⟨hg5, H⟩ := gg_e H
  refine GV.if_lt (tgt := 259) hg5 dX1_aim_244 (by decide) (fun c6 => ?_) (fun c6 => ?_)
  · have H := it_t H c6
    refine GA.iconst dX1_aim_259 ?_
    cases H
    exact GV.zret (by decide) rfl dX1_aim_260 (by omega) (by omega) ⟨rfl, rfl⟩
  · have H := it_f H c6
    refine GA.aload_n dX1_aim_247 rfl ?_
    obtain ⟨x7, hx8, H⟩ := gv_e H
    refine GV.getI hx8 xf_X1_121 dX1_aim_248 gs_482 (by decide) rfl ?_
    refine GA.iload_n dX1_aim_251 rfl ?_
    obtain ⟨hg9, H⟩ := gg_e H
    obtain ⟨hg10, H⟩ := gg_e H
    refine GV.icmp_gt (tgt := 259) hg9 hg10 dX1_aim_252 (by decide) (fun c11 => ?_) (fun c11 => ?_)
    · have H := it_t H c11
      refine GA.iconst dX1_aim_259 ?_
      cases H
      exact GV.zret (by decide) rfl dX1_aim_260 (by omega) (by omega) ⟨rfl, rfl⟩
    · have H := it_f H c11
      refine GA.iconst dX1_aim_255 ?_
      refine GA.goto (tgt := 260) dX1_aim_256 (by decide) ?_
      cases H
      exact GV.zret (by decide) rfl dX1_aim_260 (by omega) (by omega) ⟨rfl, rfl⟩
theorem g_X1_aim {l : Launch} {Z : XZ} {L : Nat → Nat} : ∀ n, P_X1_aim_0 l Z L n ∧ P_X1_aim_18 l Z L n ∧ P_X1_aim_92 l Z L n ∧ P_X1_aim_121 l Z L n ∧ P_X1_aim_196 l Z L n ∧ P_X1_aim_237 l Z L n
  | 0 => ⟨fun _ _ _ _ _ H => no_e H, fun _ _ _ _ _ _ H => no_e H, fun _ _ _ _ _ H => no_e H, fun _ _ _ _ _ H => no_e H, fun _ _ _ _ _ _ H => no_e H, fun _ _ _ _ _ _ H => no_e H⟩
  | n + 1 => have ⟨h0, h1, h2, h3, h4, h5⟩ := g_X1_aim (l := l) (Z := Z) (L := L) n
    ⟨t_X1_aim_0 n h0 h1 h2 h3 h4 h5, t_X1_aim_18 n h0 h1 h2 h3 h4 h5, t_X1_aim_92 n h0 h1 h2 h3 h4 h5, t_X1_aim_121 n h0 h1 h2 h3 h4 h5, t_X1_aim_196 n h0 h1 h2 h3 h4 h5, t_X1_aim_237 n h0 h1 h2 h3 h4 h5⟩
theorem m_X1_aim {l : Launch} {Z : XZ} {L : Nat → Nat} {n d : Nat} {S : GS} {a1 : Nat} {x : Int} {S1 : GS} (H : f_X1_aim n d 0 S [((a1 : Nat) : Int)] = some (x, S1)) : GM l Z L yX1_aim cX1_aim 3 (some .boolean) [] d 0 0 [.ref (L 482), .ref (L a1)] S (fun v S' => v = some (.int (J x)) ∧ S1 = S') (fun _ _ => False) := GM.of (by decide) (Nat.le_of_ble_eq_true rfl) ((g_X1_aim n).1 _ _ _ _ _ H)

def P_X1_aimedPathTo_0 (l : Launch) (Z : XZ) (L : Nat → Nat) (n : Nat) : Prop := ∀ (d : Nat) (S : GS) (a1 : Nat) (x : Int) (S1 : GS), f_X1_aimedPathTo n d 0 S [((a1 : Nat) : Int)] = some (x, S1) → GA l Z L yX1_aimedPathTo cX1_aimedPathTo 2 none [] d 0 0 (fun v S' => v = none ∧ S1 = S') (fun _ _ => False) 0 (gl [(0, .ref (L 482)), (1, .ref (L a1))]) [] S 0 0
theorem i_X1_aimedPathTo {l : Launch} {Z : XZ} {L : Nat → Nat} {n : Nat} (ih : P_X1_aimedPathTo_0 l Z L n) {d : Nat} {S : GS} {a1 : Nat} {x : Int} {S1 : GS} (H : f_X1_aimedPathTo n d 0 S [((a1 : Nat) : Int)] = some (x, S1)) : GM l Z L yX1_aimedPathTo cX1_aimedPathTo 2 none [] d 0 0 [.ref (L 482), .ref (L a1)] S (fun v S' => v = none ∧ S1 = S') (fun _ _ => False) := GM.of (by decide) (Nat.le_of_ble_eq_true rfl) (ih _ _ _ _ _ H)
set_option maxHeartbeats 4000000 in
set_option maxRecDepth 20000 in
theorem t_X1_aimedPathTo_0 {l : Launch} {Z : XZ} {L : Nat → Nat} (n : Nat) (ih_X1_aimedPathTo_0 : P_X1_aimedPathTo_0 l Z L n) : P_X1_aimedPathTo_0 l Z L (n + 1) := by
  intro d S a1 x S1 H
  have H : b_X1_aimedPathTo_0 n d (f_X1_aimedPathTo n) S a1 = some (x, S1) := H
  unfold b_X1_aimedPathTo_0 at H
  refine GA.aload_n dX1_aimedPathTo_0 rfl ?_
  refine GA.get xf_X1_12 dX1_aimedPathTo_1 gs_482 (by decide) rfl ?_
  refine GA.aload_n dX1_aimedPathTo_4 rfl ?_
  obtain ⟨x1, hx2, H⟩ := gv_e H
  refine GV.getI hx2 xf_X1_69 dX1_aimedPathTo_5 gs_482 (by decide) rfl ?_
  refine GA.iconst dX1_aimedPathTo_8 ?_
  obtain ⟨hg3, H⟩ := gg_e H
  obtain ⟨x4, S_5, hc6, H⟩ := gc_e H
  refine GA.callV (m_X10_is hc6) xs_X1_113 dX1_aimedPathTo_9 (gsT (by decide)) (by decide) rfl rfl (by omega) (by decide) rfl (Nat.le_of_ble_eq_true rfl) (by omega) (by omega) rfl (fun E S9 hx => hx.elim) (fun v S9 hq => ?_)
  obtain ⟨rfl, rfl⟩ := hq
  obtain ⟨hg7, H⟩ := gg_e H
  refine GV.if_eq (tgt := 30) hg7 dX1_aimedPathTo_12 (by decide) (fun c8 => ?_) (fun c8 => ?_)
  · have H := it_t H c8
    refine GA.aload_n dX1_aimedPathTo_30 rfl ?_
    refine GA.aload_n dX1_aimedPathTo_31 rfl ?_
    refine GA.get xf_X1_43 dX1_aimedPathTo_32 gs_482 (by decide) rfl ?_
    obtain ⟨hg9, H⟩ := gg_e H
    obtain ⟨x10, S_11, hc12, H⟩ := gc_e H
    refine GA.callV (m_X7_textTo hc12) xs_X1_80 dX1_aimedPathTo_35 (gsR hg9) (by omega) rfl rfl (by omega) (by decide) rfl (Nat.le_of_ble_eq_true rfl) (by omega) (by omega) rfl (fun E S9 hx => hx.elim) (fun v S9 hq => ?_)
    obtain ⟨rfl, rfl⟩ := hq
    cases H
    exact GA.vret rfl dX1_aimedPathTo_38 (by omega) (by omega) ⟨rfl, rfl⟩
  · have H := it_f H c8
    refine GA.aload_n dX1_aimedPathTo_15 rfl ?_
    refine GA.aload_n dX1_aimedPathTo_16 rfl ?_
    obtain ⟨x13, hx14, H⟩ := gv_e H
    refine GV.getI hx14 xf_X1_121 dX1_aimedPathTo_17 gs_482 (by decide) rfl ?_
    refine GA.aload_n dX1_aimedPathTo_20 rfl ?_
    refine GA.get xf_X1_43 dX1_aimedPathTo_21 gs_482 (by decide) rfl ?_
    obtain ⟨hg15, H⟩ := gg_e H
    obtain ⟨x16, S_17, hc18, H⟩ := gc_e H
    refine GA.callV (m_X7_textWithPlace hc18) xs_X1_124 dX1_aimedPathTo_24 (gsR hg15) (by omega) rfl rfl (by omega) (by decide) rfl (Nat.le_of_ble_eq_true rfl) (by omega) (by omega) rfl (fun E S9 hx => hx.elim) (fun v S9 hq => ?_)
    obtain ⟨rfl, rfl⟩ := hq
    refine GA.goto (tgt := 38) dX1_aimedPathTo_27 (by decide) ?_
    cases H
    exact GA.vret rfl dX1_aimedPathTo_38 (by omega) (by omega) ⟨rfl, rfl⟩
theorem g_X1_aimedPathTo {l : Launch} {Z : XZ} {L : Nat → Nat} : ∀ n, P_X1_aimedPathTo_0 l Z L n
  | 0 => fun _ _ _ _ _ H => no_e H
  | n + 1 => t_X1_aimedPathTo_0 n (g_X1_aimedPathTo n)
theorem m_X1_aimedPathTo {l : Launch} {Z : XZ} {L : Nat → Nat} {n d : Nat} {S : GS} {a1 : Nat} {x : Int} {S1 : GS} (H : f_X1_aimedPathTo n d 0 S [((a1 : Nat) : Int)] = some (x, S1)) : GM l Z L yX1_aimedPathTo cX1_aimedPathTo 2 none [] d 0 0 [.ref (L 482), .ref (L a1)] S (fun v S' => v = none ∧ S1 = S') (fun _ _ => False) := GM.of (by decide) (Nat.le_of_ble_eq_true rfl) ((g_X1_aimedPathTo n) _ _ _ _ _ H)

def P_X1_putIn_0 (l : Launch) (Z : XZ) (L : Nat → Nat) (n : Nat) : Prop := ∀ (d : Nat) (S : GS) (a1 : Nat) (a2 : Nat) (a3 : Int) (x : Int) (S1 : GS), f_X1_putIn n d 0 S [((a1 : Nat) : Int), ((a2 : Nat) : Int), a3] = some (x, S1) → GA l Z L yX1_putIn cX1_putIn 4 (some .boolean) [] d 0 0 (fun v S' => v = some (.int (J x)) ∧ S1 = S') (fun _ _ => False) 0 (gl [(0, .ref (L 482)), (1, .ref (L a1)), (2, .ref (L a2)), (3, .int (J a3))]) [] S 0 0
def P_X1_putIn_67 (l : Launch) (Z : XZ) (L : Nat → Nat) (n : Nat) : Prop := ∀ (d : Nat) (S : GS) (a1 : Nat) (a2 : Nat) (a3 : Int) (x : Int) (S1 : GS), f_X1_putIn n d 67 S [((a1 : Nat) : Int), ((a2 : Nat) : Int), a3] = some (x, S1) → GA l Z L yX1_putIn cX1_putIn 4 (some .boolean) [] d 0 0 (fun v S' => v = some (.int (J x)) ∧ S1 = S') (fun _ _ => False) 67 (gl [(0, .ref (L 482)), (1, .ref (L a1)), (2, .ref (L a2)), (3, .int (J a3))]) [] S 0 0
def P_X1_putIn_90 (l : Launch) (Z : XZ) (L : Nat → Nat) (n : Nat) : Prop := ∀ (d : Nat) (S : GS) (a2 : Nat) (a3 : Int) (x : Int) (S1 : GS), f_X1_putIn n d 90 S [((a2 : Nat) : Int), a3] = some (x, S1) → GA l Z L yX1_putIn cX1_putIn 4 (some .boolean) [] d 0 0 (fun v S' => v = some (.int (J x)) ∧ S1 = S') (fun _ _ => False) 90 (gl [(0, .ref (L 482)), (2, .ref (L a2)), (3, .int (J a3))]) [] S 0 0
theorem i_X1_putIn {l : Launch} {Z : XZ} {L : Nat → Nat} {n : Nat} (ih : P_X1_putIn_0 l Z L n) {d : Nat} {S : GS} {a1 : Nat} {a2 : Nat} {a3 : Int} {x : Int} {S1 : GS} (H : f_X1_putIn n d 0 S [((a1 : Nat) : Int), ((a2 : Nat) : Int), a3] = some (x, S1)) : GM l Z L yX1_putIn cX1_putIn 4 (some .boolean) [] d 0 0 [.ref (L 482), .ref (L a1), .ref (L a2), .int (J a3)] S (fun v S' => v = some (.int (J x)) ∧ S1 = S') (fun _ _ => False) := GM.of (by decide) (Nat.le_of_ble_eq_true rfl) (ih _ _ _ _ _ _ _ H)
set_option maxHeartbeats 4000000 in
set_option maxRecDepth 20000 in
theorem t_X1_putIn_0 {l : Launch} {Z : XZ} {L : Nat → Nat} (n : Nat) (ih_X1_putIn_0 : P_X1_putIn_0 l Z L n) (ih_X1_putIn_67 : P_X1_putIn_67 l Z L n) (ih_X1_putIn_90 : P_X1_putIn_90 l Z L n) : P_X1_putIn_0 l Z L (n + 1) := by
  intro d S a1 a2 a3 x S1 H
  have H : b_X1_putIn_0 n d (f_X1_putIn n) S a1 a2 a3 = some (x, S1) := H
  unfold b_X1_putIn_0 at H
  refine GA.aload_n dX1_putIn_0 rfl ?_
  refine GA.aload_n dX1_putIn_1 rfl ?_
  refine GA.aload_n dX1_putIn_2 rfl ?_
  refine GA.get xf_X1_12 dX1_putIn_3 gs_482 (by decide) rfl ?_
  refine GA.aload_n dX1_putIn_6 rfl ?_
  obtain ⟨hg1, H⟩ := gg_e H
  obtain ⟨hg2, H⟩ := gg_e H
  obtain ⟨x3, S_4, hc5, H⟩ := gc_e H
  refine GA.callV (m_X7_steps hc5) xs_X1_61 dX1_putIn_7 (gsR hg2) (by omega) rfl rfl (by omega) (by decide) rfl (Nat.le_of_ble_eq_true rfl) (by omega) (by omega) rfl (fun E S9 hx => hx.elim) (fun v S9 hq => ?_)
  obtain ⟨rfl, rfl⟩ := hq
  refine GA.iconst dX1_putIn_10 ?_
  obtain ⟨x6, hx7, H⟩ := gv_e H
  refine GV.isub hx7 dX1_putIn_11 ?_
  obtain ⟨x8, S_9, hc10, H⟩ := gc_e H
  refine GA.callV (m_X7_leadsTo hc10) xs_X1_65 dX1_putIn_12 (gsR hg2) (by omega) rfl rfl (by omega) (by decide) rfl (Nat.le_of_ble_eq_true rfl) (by omega) (by omega) rfl (fun E S9 hx => hx.elim) (fun v S9 hq => ?_)
  obtain ⟨rfl, rfl⟩ := hq
  obtain ⟨S_11, hx12, H⟩ := gv_e H
  refine GV.putI hx12 (xp_X1_69 _) dX1_putIn_15 gs_482 (by decide) (Nat.le_of_ble_eq_true rfl) gs_482 ?_
  refine GA.aload_n dX1_putIn_18 rfl ?_
  refine GA.aload_n dX1_putIn_19 rfl ?_
  obtain ⟨x13, S_14, hc15, H⟩ := gc_e H
  refine GA.callV (m_X1_aim hc15) xs_X1_73 dX1_putIn_20 gs_482 (by decide) rfl rfl (by omega) (by decide) rfl (Nat.le_of_ble_eq_true rfl) (by omega) (by omega) rfl (fun E S9 hx => hx.elim) (fun v S9 hq => ?_)
  obtain ⟨rfl, rfl⟩ := hq
  obtain ⟨hg16, H⟩ := gg_e H
  refine GV.if_ne (tgt := 28) hg16 dX1_putIn_23 (by decide) (fun c17 => ?_) (fun c17 => ?_)
  · have H := it_t H c17
    refine GA.aload_n dX1_putIn_28 rfl ?_
    obtain ⟨x18, hx19, H⟩ := gv_e H
    refine GV.getB hx19 xf_X1_50 dX1_putIn_29 gs_482 (by decide) rfl ?_
    obtain ⟨hg20, H⟩ := gg_e H
    refine GV.if_eq (tgt := 67) hg20 dX1_putIn_32 (by decide) (fun c21 => ?_) (fun c21 => ?_)
    · have H := it_t H c21
      refine GA.locals [(0, .ref (L 482)), (1, .ref (L a1)), (2, .ref (L a2)), (3, .int (J a3))] ⟨rfl, rfl, rfl, rfl, trivial⟩ ?_
      exact ih_X1_putIn_67 _ _ (a1) (a2) (a3) _ _ H
    · have H := it_f H c21
      refine GA.aload_n dX1_putIn_35 rfl ?_
      obtain ⟨x22, hx23, H⟩ := gv_e H
      refine GV.getB hx23 xf_X1_77 dX1_putIn_36 gs_482 (by decide) rfl ?_
      obtain ⟨hg24, H⟩ := gg_e H
      refine GV.if_eq (tgt := 67) hg24 dX1_putIn_39 (by decide) (fun c25 => ?_) (fun c25 => ?_)
      · have H := it_t H c25
        refine GA.locals [(0, .ref (L 482)), (1, .ref (L a1)), (2, .ref (L a2)), (3, .int (J a3))] ⟨rfl, rfl, rfl, rfl, trivial⟩ ?_
        exact ih_X1_putIn_67 _ _ (a1) (a2) (a3) _ _ H
      · have H := it_f H c25
        refine GA.aload_n dX1_putIn_42 rfl ?_
        refine GA.aload_n dX1_putIn_43 rfl ?_
        refine GA.get xf_X1_43 dX1_putIn_44 gs_482 (by decide) rfl ?_
        obtain ⟨x26, S_27, hc28, H⟩ := gc_e H
        refine GA.callV (m_X7_textTo hc28) xs_X1_80 dX1_putIn_47 (gsR hg2) (by omega) rfl rfl (by omega) (by decide) rfl (Nat.le_of_ble_eq_true rfl) (by omega) (by omega) rfl (fun E S9 hx => hx.elim) (fun v S9 hq => ?_)
        obtain ⟨rfl, rfl⟩ := hq
        refine GA.aload_n dX1_putIn_50 rfl ?_
        refine GA.ldcS (i := 21) (tx := "replace") (by decide +kernel) dX1_putIn_51 ?_
        refine GA.aload_n dX1_putIn_53 rfl ?_
        refine GA.get xf_X1_12 dX1_putIn_54 gs_482 (by decide) rfl ?_
        refine GA.aload_n dX1_putIn_57 rfl ?_
        obtain ⟨x29, hx30, H⟩ := gv_e H
        refine GV.getI hx30 xf_X1_86 dX1_putIn_58 gs_482 (by decide) rfl ?_
        obtain ⟨x31, S_32, hc33, H⟩ := gc_e H
        refine GA.callV (m_X1_record hc33) xs_X1_89 dX1_putIn_61 gs_482 (by decide) rfl rfl (by omega) (by decide) rfl (Nat.le_of_ble_eq_true rfl) (by omega) (by omega) rfl (fun E S9 hx => hx.elim) (fun v S9 hq => ?_)
        obtain ⟨rfl, rfl⟩ := hq
        refine GA.goto (tgt := 90) dX1_putIn_64 (by decide) ?_
        refine GA.locals [(0, .ref (L 482)), (2, .ref (L a2)), (3, .int (J a3))] ⟨rfl, rfl, rfl, trivial⟩ ?_
        exact ih_X1_putIn_90 _ _ (a2) (a3) _ _ H
  · have H := it_f H c17
    refine GA.iconst dX1_putIn_26 ?_
    cases H
    exact GV.zret (by decide) rfl dX1_putIn_27 (by omega) (by omega) ⟨rfl, rfl⟩
set_option maxHeartbeats 4000000 in
set_option maxRecDepth 20000 in
theorem t_X1_putIn_67 {l : Launch} {Z : XZ} {L : Nat → Nat} (n : Nat) (ih_X1_putIn_0 : P_X1_putIn_0 l Z L n) (ih_X1_putIn_67 : P_X1_putIn_67 l Z L n) (ih_X1_putIn_90 : P_X1_putIn_90 l Z L n) : P_X1_putIn_67 l Z L (n + 1) := by
  intro d S a1 a2 a3 x S1 H
  have H : b_X1_putIn_67 n d (f_X1_putIn n) S a1 a2 a3 = some (x, S1) := H
  unfold b_X1_putIn_67 at H
  refine GA.aload_n dX1_putIn_67 rfl ?_
  obtain ⟨x1, hx2, H⟩ := gv_e H
  refine GV.getB hx2 xf_X1_50 dX1_putIn_68 gs_482 (by decide) rfl ?_
  obtain ⟨hg3, H⟩ := gg_e H
  refine GV.if_eq (tgt := 90) hg3 dX1_putIn_71 (by decide) (fun c4 => ?_) (fun c4 => ?_)
  · have H := it_t H c4
    refine GA.locals [(0, .ref (L 482)), (2, .ref (L a2)), (3, .int (J a3))] ⟨rfl, rfl, rfl, trivial⟩ ?_
    exact ih_X1_putIn_90 _ _ (a2) (a3) _ _ H
  · have H := it_f H c4
    refine GA.aload_n dX1_putIn_74 rfl ?_
    refine GA.aload_n dX1_putIn_75 rfl ?_
    obtain ⟨hg5, H⟩ := gg_e H
    obtain ⟨x6, S_7, hc8, H⟩ := gc_e H
    refine GA.callV (m_X1_aimedPathTo hc8) xs_X1_93 dX1_putIn_76 gs_482 (by decide) rfl rfl (by omega) (by decide) rfl (Nat.le_of_ble_eq_true rfl) (by omega) (by omega) rfl (fun E S9 hx => hx.elim) (fun v S9 hq => ?_)
    obtain ⟨rfl, rfl⟩ := hq
    refine GA.aload_n dX1_putIn_79 rfl ?_
    refine GA.ldcS (i := 25) (tx := "remove") (by decide +kernel) dX1_putIn_80 ?_
    refine GA.aload_n dX1_putIn_82 rfl ?_
    refine GA.get xf_X1_12 dX1_putIn_83 gs_482 (by decide) rfl ?_
    refine GA.iconst dX1_putIn_86 ?_
    obtain ⟨x9, S_10, hc11, H⟩ := gc_e H
    refine GA.callV (m_X1_record hc11) xs_X1_89 dX1_putIn_87 gs_482 (by decide) rfl rfl (by omega) (by decide) rfl (Nat.le_of_ble_eq_true rfl) (by omega) (by omega) rfl (fun E S9 hx => hx.elim) (fun v S9 hq => ?_)
    obtain ⟨rfl, rfl⟩ := hq
    refine GA.locals [(0, .ref (L 482)), (2, .ref (L a2)), (3, .int (J a3))] ⟨rfl, rfl, rfl, trivial⟩ ?_
    exact ih_X1_putIn_90 _ _ (a2) (a3) _ _ H
set_option maxHeartbeats 4000000 in
set_option maxRecDepth 20000 in
theorem t_X1_putIn_90 {l : Launch} {Z : XZ} {L : Nat → Nat} (n : Nat) (ih_X1_putIn_0 : P_X1_putIn_0 l Z L n) (ih_X1_putIn_67 : P_X1_putIn_67 l Z L n) (ih_X1_putIn_90 : P_X1_putIn_90 l Z L n) : P_X1_putIn_90 l Z L (n + 1) := by
  intro d S a2 a3 x S1 H
  have H : b_X1_putIn_90 n d (f_X1_putIn n) S a2 a3 = some (x, S1) := H
  unfold b_X1_putIn_90 at H
  refine GA.aload_n dX1_putIn_90 rfl ?_
  obtain ⟨x1, hx2, H⟩ := gv_e H
  refine GV.getB hx2 xf_X1_77 dX1_putIn_91 gs_482 (by decide) rfl ?_
  obtain ⟨hg3, H⟩ := gg_e H
  refine GV.if_eq (tgt := 118) hg3 dX1_putIn_94 (by decide) (fun c4 => ?_) (fun c4 => ?_)
  · have H := it_t H c4
    refine GA.aload_n dX1_putIn_118 rfl ?_
    refine GA.get xf_X1_12 dX1_putIn_119 gs_482 (by decide) rfl ?_
    refine GA.aload_n dX1_putIn_122 rfl ?_
    obtain ⟨x5, hx6, H⟩ := gv_e H
    refine GV.getI hx6 xf_X1_69 dX1_putIn_123 gs_482 (by decide) rfl ?_
    refine GA.aload_n dX1_putIn_126 rfl ?_
    obtain ⟨x7, hx8, H⟩ := gv_e H
    refine GV.getI hx8 xf_X1_86 dX1_putIn_127 gs_482 (by decide) rfl ?_
    refine GA.aload_n dX1_putIn_130 rfl ?_
    refine GA.iload_n dX1_putIn_131 rfl ?_
    obtain ⟨hg9, H⟩ := gg_e H
    obtain ⟨x10, S_11, hc12, H⟩ := gc_e H
    refine GA.callV (m_X10_insert hc12) xs_X1_106 dX1_putIn_132 (gsT (by decide)) (by decide) rfl rfl (by omega) (by decide) rfl (Nat.le_of_ble_eq_true rfl) (by omega) (by omega) rfl (fun E S9 hx => hx.elim) (fun v S9 hq => ?_)
    obtain ⟨rfl, rfl⟩ := hq
    refine GA.aload_n dX1_putIn_135 rfl ?_
    refine GA.get xf_X1_12 dX1_putIn_136 gs_482 (by decide) rfl ?_
    refine GA.aload_n dX1_putIn_139 rfl ?_
    obtain ⟨x13, hx14, H⟩ := gv_e H
    refine GV.getI hx14 xf_X1_86 dX1_putIn_140 gs_482 (by decide) rfl ?_
    obtain ⟨x15, S_16, hc17, H⟩ := gc_e H
    refine GA.callV (m_X10_clearKey hc17) xs_X1_110 dX1_putIn_143 (gsT (by decide)) (by decide) rfl rfl (by omega) (by decide) rfl (Nat.le_of_ble_eq_true rfl) (by omega) (by omega) rfl (fun E S9 hx => hx.elim) (fun v S9 hq => ?_)
    obtain ⟨rfl, rfl⟩ := hq
    refine GA.aload_n dX1_putIn_146 rfl ?_
    refine GA.get xf_X1_12 dX1_putIn_147 gs_482 (by decide) rfl ?_
    refine GA.aload_n dX1_putIn_150 rfl ?_
    obtain ⟨x18, hx19, H⟩ := gv_e H
    refine GV.getI hx19 xf_X1_69 dX1_putIn_151 gs_482 (by decide) rfl ?_
    refine GA.iconst dX1_putIn_154 ?_
    obtain ⟨x20, S_21, hc22, H⟩ := gc_e H
    refine GA.callV (m_X10_is hc22) xs_X1_113 dX1_putIn_155 (gsT (by decide)) (by decide) rfl rfl (by omega) (by decide) rfl (Nat.le_of_ble_eq_true rfl) (by omega) (by omega) rfl (fun E S9 hx => hx.elim) (fun v S9 hq => ?_)
    obtain ⟨rfl, rfl⟩ := hq
    obtain ⟨hg23, H⟩ := gg_e H
    refine GV.if_eq (tgt := 176) hg23 dX1_putIn_158 (by decide) (fun c24 => ?_) (fun c24 => ?_)
    · have H := it_t H c24
      refine GA.aload_n dX1_putIn_176 rfl ?_
      refine GA.get xf_X1_12 dX1_putIn_177 gs_482 (by decide) rfl ?_
      obtain ⟨x25, S_26, hc27, H⟩ := gc_e H
      refine GA.callV (m_X10_isDocument hc27) xs_X1_102 dX1_putIn_180 (gsT (by decide)) (by decide) rfl rfl (by omega) (by decide) rfl (Nat.le_of_ble_eq_true rfl) (by omega) (by omega) rfl (fun E S9 hx => hx.elim) (fun v S9 hq => ?_)
      obtain ⟨rfl, rfl⟩ := hq
      obtain ⟨hg28, H⟩ := gg_e H
      cases H
      exact GV.zret hg28 rfl dX1_putIn_183 (by omega) (by omega) ⟨rfl, rfl⟩
    · have H := it_f H c24
      refine GA.aload_n dX1_putIn_161 rfl ?_
      refine GA.get xf_X1_12 dX1_putIn_162 gs_482 (by decide) rfl ?_
      refine GA.aload_n dX1_putIn_165 rfl ?_
      obtain ⟨x29, hx30, H⟩ := gv_e H
      refine GV.getI hx30 xf_X1_86 dX1_putIn_166 gs_482 (by decide) rfl ?_
      refine GA.aload_n dX1_putIn_169 rfl ?_
      refine GA.get xf_X1_39 dX1_putIn_170 gs_482 (by decide) rfl ?_
      obtain ⟨x31, S_32, hc33, H⟩ := gc_e H
      refine GA.callV (m_X10_setKey hc33) xs_X1_117 dX1_putIn_173 (gsT (by decide)) (by decide) rfl rfl (by omega) (by decide) rfl (Nat.le_of_ble_eq_true rfl) (by omega) (by omega) rfl (fun E S9 hx => hx.elim) (fun v S9 hq => ?_)
      obtain ⟨rfl, rfl⟩ := hq
      refine GA.aload_n dX1_putIn_176 rfl ?_
      refine GA.get xf_X1_12 dX1_putIn_177 gs_482 (by decide) rfl ?_
      obtain ⟨x34, S_35, hc36, H⟩ := gc_e H
      refine GA.callV (m_X10_isDocument hc36) xs_X1_102 dX1_putIn_180 (gsT (by decide)) (by decide) rfl rfl (by omega) (by decide) rfl (Nat.le_of_ble_eq_true rfl) (by omega) (by omega) rfl (fun E S9 hx => hx.elim) (fun v S9 hq => ?_)
      obtain ⟨rfl, rfl⟩ := hq
      obtain ⟨hg37, H⟩ := gg_e H
      cases H
      exact GV.zret hg37 rfl dX1_putIn_183 (by omega) (by omega) ⟨rfl, rfl⟩
  · have H := it_f H c4
    refine GA.aload_n dX1_putIn_97 rfl ?_
    refine GA.get xf_X1_12 dX1_putIn_98 gs_482 (by decide) rfl ?_
    refine GA.aload_n dX1_putIn_101 rfl ?_
    obtain ⟨x38, hx39, H⟩ := gv_e H
    refine GV.getI hx39 xf_X1_86 dX1_putIn_102 gs_482 (by decide) rfl ?_
    refine GA.aload_n dX1_putIn_105 rfl ?_
    refine GA.iload_n dX1_putIn_106 rfl ?_
    obtain ⟨hg40, H⟩ := gg_e H
    obtain ⟨x41, S_42, hc43, H⟩ := gc_e H
    refine GA.callV (m_X10_replace hc43) xs_X1_99 dX1_putIn_107 (gsT (by decide)) (by decide) rfl rfl (by omega) (by decide) rfl (Nat.le_of_ble_eq_true rfl) (by omega) (by omega) rfl (fun E S9 hx => hx.elim) (fun v S9 hq => ?_)
    obtain ⟨rfl, rfl⟩ := hq
    refine GA.aload_n dX1_putIn_110 rfl ?_
    refine GA.get xf_X1_12 dX1_putIn_111 gs_482 (by decide) rfl ?_
    obtain ⟨x44, S_45, hc46, H⟩ := gc_e H
    refine GA.callV (m_X10_isDocument hc46) xs_X1_102 dX1_putIn_114 (gsT (by decide)) (by decide) rfl rfl (by omega) (by decide) rfl (Nat.le_of_ble_eq_true rfl) (by omega) (by omega) rfl (fun E S9 hx => hx.elim) (fun v S9 hq => ?_)
    obtain ⟨rfl, rfl⟩ := hq
    obtain ⟨hg47, H⟩ := gg_e H
    cases H
    exact GV.zret hg47 rfl dX1_putIn_117 (by omega) (by omega) ⟨rfl, rfl⟩
theorem g_X1_putIn {l : Launch} {Z : XZ} {L : Nat → Nat} : ∀ n, P_X1_putIn_0 l Z L n ∧ P_X1_putIn_67 l Z L n ∧ P_X1_putIn_90 l Z L n
  | 0 => ⟨fun _ _ _ _ _ _ _ H => no_e H, fun _ _ _ _ _ _ _ H => no_e H, fun _ _ _ _ _ _ H => no_e H⟩
  | n + 1 => have ⟨h0, h1, h2⟩ := g_X1_putIn (l := l) (Z := Z) (L := L) n
    ⟨t_X1_putIn_0 n h0 h1 h2, t_X1_putIn_67 n h0 h1 h2, t_X1_putIn_90 n h0 h1 h2⟩
theorem m_X1_putIn {l : Launch} {Z : XZ} {L : Nat → Nat} {n d : Nat} {S : GS} {a1 : Nat} {a2 : Nat} {a3 : Int} {x : Int} {S1 : GS} (H : f_X1_putIn n d 0 S [((a1 : Nat) : Int), ((a2 : Nat) : Int), a3] = some (x, S1)) : GM l Z L yX1_putIn cX1_putIn 4 (some .boolean) [] d 0 0 [.ref (L 482), .ref (L a1), .ref (L a2), .int (J a3)] S (fun v S' => v = some (.int (J x)) ∧ S1 = S') (fun _ _ => False) := GM.of (by decide) (Nat.le_of_ble_eq_true rfl) ((g_X1_putIn n).1 _ _ _ _ _ _ _ H)

def P_X1_exchange_0 (l : Launch) (Z : XZ) (L : Nat → Nat) (n : Nat) : Prop := ∀ (d : Nat) (S : GS) (a1 : Nat) (a2 : Int) (x : Int) (S1 : GS), f_X1_exchange n d 0 S [((a1 : Nat) : Int), a2] = some (x, S1) → GA l Z L yX1_exchange cX1_exchange 4 (some .boolean) [] d 0 0 (fun v S' => v = some (.int (J x)) ∧ S1 = S') (fun _ _ => False) 0 (gl [(0, .ref (L 482)), (1, .ref (L a1)), (2, .int (J a2))]) [] S 0 0
def P_X1_exchange_55 (l : Launch) (Z : XZ) (L : Nat → Nat) (n : Nat) : Prop := ∀ (d : Nat) (S : GS) (a1 : Nat) (a2 : Int) (a3 : Int) (x : Int) (S1 : GS), f_X1_exchange n d 55 S [((a1 : Nat) : Int), a2, a3] = some (x, S1) → GA l Z L yX1_exchange cX1_exchange 4 (some .boolean) [] d 0 0 (fun v S' => v = some (.int (J x)) ∧ S1 = S') (fun _ _ => False) 55 (gl [(0, .ref (L 482)), (1, .ref (L a1)), (2, .int (J a2)), (3, .int (J a3))]) [] S 0 0
theorem i_X1_exchange {l : Launch} {Z : XZ} {L : Nat → Nat} {n : Nat} (ih : P_X1_exchange_0 l Z L n) {d : Nat} {S : GS} {a1 : Nat} {a2 : Int} {x : Int} {S1 : GS} (H : f_X1_exchange n d 0 S [((a1 : Nat) : Int), a2] = some (x, S1)) : GM l Z L yX1_exchange cX1_exchange 4 (some .boolean) [] d 0 0 [.ref (L 482), .ref (L a1), .int (J a2)] S (fun v S' => v = some (.int (J x)) ∧ S1 = S') (fun _ _ => False) := GM.of (by decide) (Nat.le_of_ble_eq_true rfl) (ih _ _ _ _ _ _ H)
set_option maxHeartbeats 4000000 in
set_option maxRecDepth 20000 in
theorem t_X1_exchange_0 {l : Launch} {Z : XZ} {L : Nat → Nat} (n : Nat) (ih_X1_exchange_0 : P_X1_exchange_0 l Z L n) (ih_X1_exchange_55 : P_X1_exchange_55 l Z L n) : P_X1_exchange_0 l Z L (n + 1) := by
  intro d S a1 a2 x S1 H
  have H : b_X1_exchange_0 n d (f_X1_exchange n) S a1 a2 = some (x, S1) := H
  unfold b_X1_exchange_0 at H
  refine GA.aload_n dX1_exchange_0 rfl ?_
  refine GA.get xf_X1_30 dX1_exchange_1 gs_482 (by decide) rfl ?_
  refine GA.aload_n dX1_exchange_4 rfl ?_
  refine GA.get xf_X1_12 dX1_exchange_5 gs_482 (by decide) rfl ?_
  refine GA.aload_n dX1_exchange_8 rfl ?_
  refine GA.get xf_X1_30 dX1_exchange_9 gs_482 (by decide) rfl ?_
  obtain ⟨hg1, H⟩ := gg_e H
  obtain ⟨x2, S_3, hc4, H⟩ := gc_e H
  refine GA.callV (m_X7_steps hc4) xs_X1_61 dX1_exchange_12 (gsR (by decide)) (by decide) rfl rfl (by omega) (by decide) rfl (Nat.le_of_ble_eq_true rfl) (by omega) (by omega) rfl (fun E S9 hx => hx.elim) (fun v S9 hq => ?_)
  obtain ⟨rfl, rfl⟩ := hq
  obtain ⟨x5, S_6, hc7, H⟩ := gc_e H
  refine GA.callV (m_X7_leadsTo hc7) xs_X1_65 dX1_exchange_15 (gsR (by decide)) (by decide) rfl rfl (by omega) (by decide) rfl (Nat.le_of_ble_eq_true rfl) (by omega) (by omega) rfl (fun E S9 hx => hx.elim) (fun v S9 hq => ?_)
  obtain ⟨rfl, rfl⟩ := hq
  refine GA.istore_n dX1_exchange_18 (by decide) ?_
  refine GA.iload_n dX1_exchange_19 rfl ?_
  refine GA.iconst dX1_exchange_20 ?_
  obtain ⟨hg8, H⟩ := gg_e H
  refine GV.icmp_ne (tgt := 26) hg8 (by decide) dX1_exchange_21 (by decide) (fun c9 => ?_) (fun c9 => ?_)
  · have H := it_t H c9
    refine GA.aload_n dX1_exchange_26 rfl ?_
    obtain ⟨x10, hx11, H⟩ := gv_e H
    refine GV.getB hx11 xf_X1_50 dX1_exchange_27 gs_482 (by decide) rfl ?_
    obtain ⟨hg12, H⟩ := gg_e H
    refine GV.if_eq (tgt := 55) hg12 dX1_exchange_30 (by decide) (fun c13 => ?_) (fun c13 => ?_)
    · have H := it_t H c13
      refine GA.locals [(0, .ref (L 482)), (1, .ref (L a1)), (2, .int (J a2)), (3, .int (J x5))] ⟨rfl, rfl, rfl, rfl, trivial⟩ ?_
      exact ih_X1_exchange_55 _ _ (a1) (a2) (x5) _ _ H
    · have H := it_f H c13
      refine GA.aload_n dX1_exchange_33 rfl ?_
      refine GA.get xf_X1_30 dX1_exchange_34 gs_482 (by decide) rfl ?_
      refine GA.aload_n dX1_exchange_37 rfl ?_
      refine GA.get xf_X1_43 dX1_exchange_38 gs_482 (by decide) rfl ?_
      obtain ⟨x14, S_15, hc16, H⟩ := gc_e H
      refine GA.callV (m_X7_textTo hc16) xs_X1_80 dX1_exchange_41 (gsR (by decide)) (by decide) rfl rfl (by omega) (by decide) rfl (Nat.le_of_ble_eq_true rfl) (by omega) (by omega) rfl (fun E S9 hx => hx.elim) (fun v S9 hq => ?_)
      obtain ⟨rfl, rfl⟩ := hq
      refine GA.aload_n dX1_exchange_44 rfl ?_
      refine GA.ldcS (i := 21) (tx := "replace") (by decide +kernel) dX1_exchange_45 ?_
      refine GA.aload_n dX1_exchange_47 rfl ?_
      refine GA.get xf_X1_12 dX1_exchange_48 gs_482 (by decide) rfl ?_
      refine GA.iload_n dX1_exchange_51 rfl ?_
      obtain ⟨x17, S_18, hc19, H⟩ := gc_e H
      refine GA.callV (m_X1_record hc19) xs_X1_89 dX1_exchange_52 gs_482 (by decide) rfl rfl (by omega) (by decide) rfl (Nat.le_of_ble_eq_true rfl) (by omega) (by omega) rfl (fun E S9 hx => hx.elim) (fun v S9 hq => ?_)
      obtain ⟨rfl, rfl⟩ := hq
      refine GA.locals [(0, .ref (L 482)), (1, .ref (L a1)), (2, .int (J a2)), (3, .int (J x5))] ⟨rfl, rfl, rfl, rfl, trivial⟩ ?_
      exact ih_X1_exchange_55 _ _ (a1) (a2) (x5) _ _ H
  · have H := it_f H c9
    refine GA.iconst dX1_exchange_24 ?_
    cases H
    exact GV.zret (by decide) rfl dX1_exchange_25 (by omega) (by omega) ⟨rfl, rfl⟩
set_option maxHeartbeats 4000000 in
set_option maxRecDepth 20000 in
theorem t_X1_exchange_55 {l : Launch} {Z : XZ} {L : Nat → Nat} (n : Nat) (ih_X1_exchange_0 : P_X1_exchange_0 l Z L n) (ih_X1_exchange_55 : P_X1_exchange_55 l Z L n) : P_X1_exchange_55 l Z L (n + 1) := by
  intro d S a1 a2 a3 x S1 H
  have H : b_X1_exchange_55 n d (f_X1_exchange n) S a1 a2 a3 = some (x, S1) := H
  unfold b_X1_exchange_55 at H
  refine GA.aload_n dX1_exchange_55 rfl ?_
  refine GA.get xf_X1_12 dX1_exchange_56 gs_482 (by decide) rfl ?_
  refine GA.iload_n dX1_exchange_59 rfl ?_
  refine GA.aload_n dX1_exchange_60 rfl ?_
  refine GA.iload_n dX1_exchange_61 rfl ?_
  obtain ⟨hg1, H⟩ := gg_e H
  obtain ⟨x2, S_3, hc4, H⟩ := gc_e H
  refine GA.callV (m_X10_replace hc4) xs_X1_99 dX1_exchange_62 (gsT (by decide)) (by decide) rfl rfl (by omega) (by decide) rfl (Nat.le_of_ble_eq_true rfl) (by omega) (by omega) rfl (fun E S9 hx => hx.elim) (fun v S9 hq => ?_)
  obtain ⟨rfl, rfl⟩ := hq
  refine GA.iconst dX1_exchange_65 ?_
  cases H
  exact GV.zret (by decide) rfl dX1_exchange_66 (by omega) (by omega) ⟨rfl, rfl⟩
theorem g_X1_exchange {l : Launch} {Z : XZ} {L : Nat → Nat} : ∀ n, P_X1_exchange_0 l Z L n ∧ P_X1_exchange_55 l Z L n
  | 0 => ⟨fun _ _ _ _ _ _ H => no_e H, fun _ _ _ _ _ _ _ H => no_e H⟩
  | n + 1 => have ⟨h0, h1⟩ := g_X1_exchange (l := l) (Z := Z) (L := L) n
    ⟨t_X1_exchange_0 n h0 h1, t_X1_exchange_55 n h0 h1⟩
theorem m_X1_exchange {l : Launch} {Z : XZ} {L : Nat → Nat} {n d : Nat} {S : GS} {a1 : Nat} {a2 : Int} {x : Int} {S1 : GS} (H : f_X1_exchange n d 0 S [((a1 : Nat) : Int), a2] = some (x, S1)) : GM l Z L yX1_exchange cX1_exchange 4 (some .boolean) [] d 0 0 [.ref (L 482), .ref (L a1), .int (J a2)] S (fun v S' => v = some (.int (J x)) ∧ S1 = S') (fun _ _ => False) := GM.of (by decide) (Nat.le_of_ble_eq_true rfl) ((g_X1_exchange n).1 _ _ _ _ _ _ H)

def P_X1_isThere_0 (l : Launch) (Z : XZ) (L : Nat → Nat) (n : Nat) : Prop := ∀ (d : Nat) (S : GS) (a1 : Nat) (a2 : Int) (x : Int) (S1 : GS), f_X1_isThere n d 0 S [((a1 : Nat) : Int), a2] = some (x, S1) → GA l Z L yX1_isThere cX1_isThere 4 (some .boolean) [] d 0 0 (fun v S' => v = some (.int (J x)) ∧ S1 = S') (fun _ _ => False) 0 (gl [(0, .ref (L 482)), (1, .ref (L a1)), (2, .int (J a2))]) [] S 0 0
theorem i_X1_isThere {l : Launch} {Z : XZ} {L : Nat → Nat} {n : Nat} (ih : P_X1_isThere_0 l Z L n) {d : Nat} {S : GS} {a1 : Nat} {a2 : Int} {x : Int} {S1 : GS} (H : f_X1_isThere n d 0 S [((a1 : Nat) : Int), a2] = some (x, S1)) : GM l Z L yX1_isThere cX1_isThere 4 (some .boolean) [] d 0 0 [.ref (L 482), .ref (L a1), .int (J a2)] S (fun v S' => v = some (.int (J x)) ∧ S1 = S') (fun _ _ => False) := GM.of (by decide) (Nat.le_of_ble_eq_true rfl) (ih _ _ _ _ _ _ H)
set_option maxHeartbeats 4000000 in
set_option maxRecDepth 20000 in
theorem t_X1_isThere_0 {l : Launch} {Z : XZ} {L : Nat → Nat} (n : Nat) (ih_X1_isThere_0 : P_X1_isThere_0 l Z L n) : P_X1_isThere_0 l Z L (n + 1) := by
  intro d S a1 a2 x S1 H
  have H : b_X1_isThere_0 n d (f_X1_isThere n) S a1 a2 = some (x, S1) := H
  unfold b_X1_isThere_0 at H
  refine GA.aload_n dX1_isThere_0 rfl ?_
  refine GA.get xf_X1_30 dX1_isThere_1 gs_482 (by decide) rfl ?_
  refine GA.aload_n dX1_isThere_4 rfl ?_
  refine GA.get xf_X1_12 dX1_isThere_5 gs_482 (by decide) rfl ?_
  refine GA.aload_n dX1_isThere_8 rfl ?_
  refine GA.get xf_X1_30 dX1_isThere_9 gs_482 (by decide) rfl ?_
  obtain ⟨hg1, H⟩ := gg_e H
  obtain ⟨x2, S_3, hc4, H⟩ := gc_e H
  refine GA.callV (m_X7_steps hc4) xs_X1_61 dX1_isThere_12 (gsR (by decide)) (by decide) rfl rfl (by omega) (by decide) rfl (Nat.le_of_ble_eq_true rfl) (by omega) (by omega) rfl (fun E S9 hx => hx.elim) (fun v S9 hq => ?_)
  obtain ⟨rfl, rfl⟩ := hq
  obtain ⟨x5, S_6, hc7, H⟩ := gc_e H
  refine GA.callV (m_X7_leadsTo hc7) xs_X1_65 dX1_isThere_15 (gsR (by decide)) (by decide) rfl rfl (by omega) (by decide) rfl (Nat.le_of_ble_eq_true rfl) (by omega) (by omega) rfl (fun E S9 hx => hx.elim) (fun v S9 hq => ?_)
  obtain ⟨rfl, rfl⟩ := hq
  refine GA.istore_n dX1_isThere_18 (by decide) ?_
  refine GA.iload_n dX1_isThere_19 rfl ?_
  refine GA.iconst dX1_isThere_20 ?_
  obtain ⟨hg8, H⟩ := gg_e H
  refine GV.icmp_eq (tgt := 38) hg8 (by decide) dX1_isThere_21 (by decide) (fun c9 => ?_) (fun c9 => ?_)
  · have H := it_t H c9
    refine GA.iconst dX1_isThere_38 ?_
    cases H
    exact GV.zret (by decide) rfl dX1_isThere_39 (by omega) (by omega) ⟨rfl, rfl⟩
  · have H := it_f H c9
    refine GA.aload_n dX1_isThere_24 rfl ?_
    refine GA.get xf_X1_12 dX1_isThere_25 gs_482 (by decide) rfl ?_
    refine GA.iload_n dX1_isThere_28 rfl ?_
    refine GA.aload_n dX1_isThere_29 rfl ?_
    refine GA.iload_n dX1_isThere_30 rfl ?_
    refine GA.iconst dX1_isThere_31 ?_
    obtain ⟨x10, S_11, hc12, H⟩ := gc_e H
    refine GA.callN (m_X10_same hc12) xs_X1_214 dX1_isThere_32 (gsT (by decide)) (by decide) rfl rfl (by omega) (by decide) rfl (Nat.le_of_ble_eq_true rfl) (by omega) (by omega) rfl (fun E S9 hx => hx.elim) (fun v S9 hq => ?_)
    obtain ⟨rfl, rfl⟩ := hq
    obtain ⟨hg13, H⟩ := gg_e H
    refine GV.if_ne (tgt := 40) hg13 dX1_isThere_35 (by decide) (fun c14 => ?_) (fun c14 => ?_)
    · have H := it_t H c14
      refine GA.aload_n dX1_isThere_40 rfl ?_
      obtain ⟨x15, hx16, H⟩ := gv_e H
      refine GV.getB hx16 xf_X1_50 dX1_isThere_41 gs_482 (by decide) rfl ?_
      obtain ⟨hg17, H⟩ := gg_e H
      refine GV.if_eq (tgt := 66) hg17 dX1_isThere_44 (by decide) (fun c18 => ?_) (fun c18 => ?_)
      · have H := it_t H c18
        refine GA.iconst dX1_isThere_66 ?_
        cases H
        exact GV.zret (by decide) rfl dX1_isThere_67 (by omega) (by omega) ⟨rfl, rfl⟩
      · have H := it_f H c18
        refine GA.aload_n dX1_isThere_47 rfl ?_
        refine GA.get xf_X1_30 dX1_isThere_48 gs_482 (by decide) rfl ?_
        refine GA.aload_n dX1_isThere_51 rfl ?_
        refine GA.get xf_X1_43 dX1_isThere_52 gs_482 (by decide) rfl ?_
        obtain ⟨x19, S_20, hc21, H⟩ := gc_e H
        refine GA.callV (m_X7_textTo hc21) xs_X1_80 dX1_isThere_55 (gsR (by decide)) (by decide) rfl rfl (by omega) (by decide) rfl (Nat.le_of_ble_eq_true rfl) (by omega) (by omega) rfl (fun E S9 hx => hx.elim) (fun v S9 hq => ?_)
        obtain ⟨rfl, rfl⟩ := hq
        refine GA.aload_n dX1_isThere_58 rfl ?_
        refine GA.ldcS (i := 30) (tx := "test") (by decide +kernel) dX1_isThere_59 ?_
        refine GA.aload_n dX1_isThere_61 rfl ?_
        refine GA.iload_n dX1_isThere_62 rfl ?_
        obtain ⟨x22, S_23, hc24, H⟩ := gc_e H
        refine GA.callV (m_X1_record hc24) xs_X1_89 dX1_isThere_63 gs_482 (by decide) rfl rfl (by omega) (by decide) rfl (Nat.le_of_ble_eq_true rfl) (by omega) (by omega) rfl (fun E S9 hx => hx.elim) (fun v S9 hq => ?_)
        obtain ⟨rfl, rfl⟩ := hq
        refine GA.iconst dX1_isThere_66 ?_
        cases H
        exact GV.zret (by decide) rfl dX1_isThere_67 (by omega) (by omega) ⟨rfl, rfl⟩
    · have H := it_f H c14
      refine GA.iconst dX1_isThere_38 ?_
      cases H
      exact GV.zret (by decide) rfl dX1_isThere_39 (by omega) (by omega) ⟨rfl, rfl⟩
theorem g_X1_isThere {l : Launch} {Z : XZ} {L : Nat → Nat} : ∀ n, P_X1_isThere_0 l Z L n
  | 0 => fun _ _ _ _ _ _ H => no_e H
  | n + 1 => t_X1_isThere_0 n (g_X1_isThere n)
theorem m_X1_isThere {l : Launch} {Z : XZ} {L : Nat → Nat} {n d : Nat} {S : GS} {a1 : Nat} {a2 : Int} {x : Int} {S1 : GS} (H : f_X1_isThere n d 0 S [((a1 : Nat) : Int), a2] = some (x, S1)) : GM l Z L yX1_isThere cX1_isThere 4 (some .boolean) [] d 0 0 [.ref (L 482), .ref (L a1), .int (J a2)] S (fun v S' => v = some (.int (J x)) ∧ S1 = S') (fun _ _ => False) := GM.of (by decide) (Nat.le_of_ble_eq_true rfl) ((g_X1_isThere n) _ _ _ _ _ _ H)

def P_X1_layOne_0 (l : Launch) (Z : XZ) (L : Nat → Nat) (n : Nat) : Prop := ∀ (d : Nat) (S : GS) (a1 : Nat) (a2 : Int) (x : Int) (S1 : GS), f_X1_layOne n d 0 S [((a1 : Nat) : Int), a2] = some (x, S1) → GA l Z L yX1_layOne cX1_layOne 7 (some .boolean) [] d 0 0 (fun v S' => v = some (.int (J x)) ∧ S1 = S') (fun _ _ => False) 0 (gl [(0, .ref (L 482)), (1, .ref (L a1)), (2, .int (J a2))]) [] S 0 0
theorem i_X1_layOne {l : Launch} {Z : XZ} {L : Nat → Nat} {n : Nat} (ih : P_X1_layOne_0 l Z L n) {d : Nat} {S : GS} {a1 : Nat} {a2 : Int} {x : Int} {S1 : GS} (H : f_X1_layOne n d 0 S [((a1 : Nat) : Int), a2] = some (x, S1)) : GM l Z L yX1_layOne cX1_layOne 7 (some .boolean) [] d 0 0 [.ref (L 482), .ref (L a1), .int (J a2)] S (fun v S' => v = some (.int (J x)) ∧ S1 = S') (fun _ _ => False) := GM.of (by decide) (Nat.le_of_ble_eq_true rfl) (ih _ _ _ _ _ _ H)
set_option maxHeartbeats 4000000 in
set_option maxRecDepth 20000 in
theorem t_X1_layOne_0 {l : Launch} {Z : XZ} {L : Nat → Nat} (n : Nat) (ih_X1_layOne_0 : P_X1_layOne_0 l Z L n) : P_X1_layOne_0 l Z L (n + 1) := by
  intro d S a1 a2 x S1 H
  have H : b_X1_layOne_0 n d (f_X1_layOne n) S a1 a2 = some (x, S1) := H
  unfold b_X1_layOne_0 at H
  refine GA.aload_n dX1_layOne_0 rfl ?_
  refine GA.iload_n dX1_layOne_1 rfl ?_
  refine GA.ldcS (i := 22) (tx := "op") (by decide +kernel) dX1_layOne_2 ?_
  obtain ⟨hg1, H⟩ := gg_e H
  obtain ⟨hg2, H⟩ := gg_e H
  obtain ⟨x3, S_4, hc5, H⟩ := gc_e H
  refine GA.callV (m_X10_valueNamed hc5) xs_X1_177 dX1_layOne_4 (gsT hg2) (by omega) rfl rfl (by omega) (by decide) rfl (Nat.le_of_ble_eq_true rfl) (by omega) (by omega) rfl (fun E S9 hx => hx.elim) (fun v S9 hq => ?_)
  obtain ⟨rfl, rfl⟩ := hq
  refine GA.istore_n dX1_layOne_7 (by decide) ?_
  refine GA.aload_n dX1_layOne_8 rfl ?_
  refine GA.iload_n dX1_layOne_9 rfl ?_
  refine GA.ldcS (i := 23) (tx := "path") (by decide +kernel) dX1_layOne_10 ?_
  obtain ⟨x6, S_7, hc8, H⟩ := gc_e H
  refine GA.callV (m_X10_valueNamed hc8) xs_X1_177 dX1_layOne_12 (gsT hg2) (by omega) rfl rfl (by omega) (by decide) rfl (Nat.le_of_ble_eq_true rfl) (by omega) (by omega) rfl (fun E S9 hx => hx.elim) (fun v S9 hq => ?_)
  obtain ⟨rfl, rfl⟩ := hq
  refine GA.istore dX1_layOne_15 (by decide) ?_
  refine GA.aload_n dX1_layOne_17 rfl ?_
  refine GA.iload_n dX1_layOne_18 rfl ?_
  refine GA.ldcS (i := 27) (tx := "from") (by decide +kernel) dX1_layOne_19 ?_
  obtain ⟨x9, S_10, hc11, H⟩ := gc_e H
  refine GA.callV (m_X10_valueNamed hc11) xs_X1_177 dX1_layOne_21 (gsT hg2) (by omega) rfl rfl (by omega) (by decide) rfl (Nat.le_of_ble_eq_true rfl) (by omega) (by omega) rfl (fun E S9 hx => hx.elim) (fun v S9 hq => ?_)
  obtain ⟨rfl, rfl⟩ := hq
  refine GA.istore dX1_layOne_24 (by decide) ?_
  refine GA.aload_n dX1_layOne_26 rfl ?_
  refine GA.iload_n dX1_layOne_27 rfl ?_
  refine GA.ldcS (i := 24) (tx := "value") (by decide +kernel) dX1_layOne_28 ?_
  obtain ⟨x12, S_13, hc14, H⟩ := gc_e H
  refine GA.callV (m_X10_valueNamed hc14) xs_X1_177 dX1_layOne_30 (gsT hg2) (by omega) rfl rfl (by omega) (by decide) rfl (Nat.le_of_ble_eq_true rfl) (by omega) (by omega) rfl (fun E S9 hx => hx.elim) (fun v S9 hq => ?_)
  obtain ⟨rfl, rfl⟩ := hq
  refine GA.istore dX1_layOne_33 (by decide) ?_
  refine GA.aload_n dX1_layOne_35 rfl ?_
  refine GA.iload_n dX1_layOne_36 rfl ?_
  refine GA.iconst dX1_layOne_37 ?_
  obtain ⟨x15, S_16, hc17, H⟩ := gc_e H
  refine GA.callV (m_X10_is hc17) xs_X1_113 dX1_layOne_38 (gsT hg2) (by omega) rfl rfl (by omega) (by decide) rfl (Nat.le_of_ble_eq_true rfl) (by omega) (by omega) rfl (fun E S9 hx => hx.elim) (fun v S9 hq => ?_)
  obtain ⟨rfl, rfl⟩ := hq
  obtain ⟨hg18, H⟩ := gg_e H
  refine GV.if_eq (tgt := 57) hg18 dX1_layOne_41 (by decide) (fun c19 => ?_) (fun c19 => ?_)
  · have H := it_t H c19
    refine GA.iconst dX1_layOne_57 ?_
    cases H
    exact GV.zret (by decide) rfl dX1_layOne_58 (by omega) (by omega) ⟨rfl, rfl⟩
  · have H := it_f H c19
    refine GA.aload_n dX1_layOne_44 rfl ?_
    refine GA.get xf_X1_30 dX1_layOne_45 gs_482 (by decide) rfl ?_
    refine GA.aload_n dX1_layOne_48 rfl ?_
    refine GA.iload dX1_layOne_49 rfl ?_
    obtain ⟨x20, S_21, hc22, H⟩ := gc_e H
    refine GA.callV (m_X7_loadText hc22) xs_X1_186 dX1_layOne_51 (gsR (by decide)) (by decide) rfl rfl (by omega) (by decide) rfl (Nat.le_of_ble_eq_true rfl) (by omega) (by omega) rfl (fun E S9 hx => hx.elim) (fun v S9 hq => ?_)
    obtain ⟨rfl, rfl⟩ := hq
    obtain ⟨hg23, H⟩ := gg_e H
    refine GV.if_ne (tgt := 59) hg23 dX1_layOne_54 (by decide) (fun c24 => ?_) (fun c24 => ?_)
    · have H := it_t H c24
      refine GA.aload_n dX1_layOne_59 rfl ?_
      refine GA.iload_n dX1_layOne_60 rfl ?_
      refine GA.ldcS (i := 25) (tx := "remove") (by decide +kernel) dX1_layOne_61 ?_
      obtain ⟨x25, S_26, hc27, H⟩ := gc_e H
      refine GA.callV (m_X10_says hc27) xs_X1_189 dX1_layOne_63 (gsT hg2) (by omega) rfl rfl (by omega) (by decide) rfl (Nat.le_of_ble_eq_true rfl) (by omega) (by omega) rfl (fun E S9 hx => hx.elim) (fun v S9 hq => ?_)
      obtain ⟨rfl, rfl⟩ := hq
      obtain ⟨hg28, H⟩ := gg_e H
      refine GV.if_eq (tgt := 78) hg28 dX1_layOne_66 (by decide) (fun c29 => ?_) (fun c29 => ?_)
      · have H := it_t H c29
        refine GA.aload_n dX1_layOne_78 rfl ?_
        refine GA.iload_n dX1_layOne_79 rfl ?_
        refine GA.ldcS (i := 28) (tx := "move") (by decide +kernel) dX1_layOne_80 ?_
        obtain ⟨x30, S_31, hc32, H⟩ := gc_e H
        refine GA.callV (m_X10_says hc32) xs_X1_189 dX1_layOne_82 (gsT hg2) (by omega) rfl rfl (by omega) (by decide) rfl (Nat.le_of_ble_eq_true rfl) (by omega) (by omega) rfl (fun E S9 hx => hx.elim) (fun v S9 hq => ?_)
        obtain ⟨rfl, rfl⟩ := hq
        obtain ⟨hg33, H⟩ := gg_e H
        refine GV.if_eq (tgt := 144) hg33 dX1_layOne_85 (by decide) (fun c34 => ?_) (fun c34 => ?_)
        · have H := it_t H c34
          refine GA.aload_n dX1_layOne_144 rfl ?_
          refine GA.iload_n dX1_layOne_145 rfl ?_
          refine GA.ldcS (i := 29) (tx := "copy") (by decide +kernel) dX1_layOne_146 ?_
          obtain ⟨x35, S_36, hc37, H⟩ := gc_e H
          refine GA.callV (m_X10_says hc37) xs_X1_189 dX1_layOne_148 (gsT hg2) (by omega) rfl rfl (by omega) (by decide) rfl (Nat.le_of_ble_eq_true rfl) (by omega) (by omega) rfl (fun E S9 hx => hx.elim) (fun v S9 hq => ?_)
          obtain ⟨rfl, rfl⟩ := hq
          obtain ⟨hg38, H⟩ := gg_e H
          refine GV.if_eq (tgt := 199) hg38 dX1_layOne_151 (by decide) (fun c39 => ?_) (fun c39 => ?_)
          · have H := it_t H c39
            refine GA.iload dX1_layOne_199 rfl ?_
            refine GA.iconst dX1_layOne_201 ?_
            obtain ⟨hg40, H⟩ := gg_e H
            refine GV.icmp_ne (tgt := 207) hg40 (by decide) dX1_layOne_202 (by decide) (fun c41 => ?_) (fun c41 => ?_)
            · have H := it_t H c41
              refine GA.aload_n dX1_layOne_207 rfl ?_
              refine GA.iload_n dX1_layOne_208 rfl ?_
              refine GA.ldcS (i := 26) (tx := "add") (by decide +kernel) dX1_layOne_209 ?_
              obtain ⟨x42, S_43, hc44, H⟩ := gc_e H
              refine GA.callV (m_X10_says hc44) xs_X1_189 dX1_layOne_211 (gsT hg2) (by omega) rfl rfl (by omega) (by decide) rfl (Nat.le_of_ble_eq_true rfl) (by omega) (by omega) rfl (fun E S9 hx => hx.elim) (fun v S9 hq => ?_)
              obtain ⟨rfl, rfl⟩ := hq
              obtain ⟨hg45, H⟩ := gg_e H
              refine GV.if_eq (tgt := 229) hg45 dX1_layOne_214 (by decide) (fun c46 => ?_) (fun c46 => ?_)
              · have H := it_t H c46
                refine GA.aload_n dX1_layOne_229 rfl ?_
                refine GA.iload_n dX1_layOne_230 rfl ?_
                refine GA.ldcS (i := 21) (tx := "replace") (by decide +kernel) dX1_layOne_231 ?_
                obtain ⟨x47, S_48, hc49, H⟩ := gc_e H
                refine GA.callV (m_X10_says hc49) xs_X1_189 dX1_layOne_233 (gsT hg2) (by omega) rfl rfl (by omega) (by decide) rfl (Nat.le_of_ble_eq_true rfl) (by omega) (by omega) rfl (fun E S9 hx => hx.elim) (fun v S9 hq => ?_)
                obtain ⟨rfl, rfl⟩ := hq
                obtain ⟨hg50, H⟩ := gg_e H
                refine GV.if_eq (tgt := 247) hg50 dX1_layOne_236 (by decide) (fun c51 => ?_) (fun c51 => ?_)
                · have H := it_t H c51
                  refine GA.aload_n dX1_layOne_247 rfl ?_
                  refine GA.iload_n dX1_layOne_248 rfl ?_
                  refine GA.ldcS (i := 30) (tx := "test") (by decide +kernel) dX1_layOne_249 ?_
                  obtain ⟨x52, S_53, hc54, H⟩ := gc_e H
                  refine GA.callV (m_X10_says hc54) xs_X1_189 dX1_layOne_251 (gsT hg2) (by omega) rfl rfl (by omega) (by decide) rfl (Nat.le_of_ble_eq_true rfl) (by omega) (by omega) rfl (fun E S9 hx => hx.elim) (fun v S9 hq => ?_)
                  obtain ⟨rfl, rfl⟩ := hq
                  obtain ⟨hg55, H⟩ := gg_e H
                  refine GV.if_eq (tgt := 271) hg55 dX1_layOne_254 (by decide) (fun c56 => ?_) (fun c56 => ?_)
                  · have H := it_t H c56
                    refine GA.iconst dX1_layOne_271 ?_
                    cases H
                    exact GV.zret (by decide) rfl dX1_layOne_272 (by omega) (by omega) ⟨rfl, rfl⟩
                  · have H := it_f H c56
                    refine GA.aload_n dX1_layOne_257 rfl ?_
                    refine GA.aload_n dX1_layOne_258 rfl ?_
                    refine GA.iload dX1_layOne_259 rfl ?_
                    obtain ⟨x57, S_58, hc59, H⟩ := gc_e H
                    refine GA.callV (m_X1_isThere hc59) xs_X1_211 dX1_layOne_261 gs_482 (by decide) rfl rfl (by omega) (by decide) rfl (Nat.le_of_ble_eq_true rfl) (by omega) (by omega) rfl (fun E S9 hx => hx.elim) (fun v S9 hq => ?_)
                    obtain ⟨rfl, rfl⟩ := hq
                    obtain ⟨hg60, H⟩ := gg_e H
                    refine GV.if_eq (tgt := 271) hg60 dX1_layOne_264 (by decide) (fun c61 => ?_) (fun c61 => ?_)
                    · have H := it_t H c61
                      refine GA.iconst dX1_layOne_271 ?_
                      cases H
                      exact GV.zret (by decide) rfl dX1_layOne_272 (by omega) (by omega) ⟨rfl, rfl⟩
                    · have H := it_f H c61
                      refine GA.iconst dX1_layOne_267 ?_
                      refine GA.goto (tgt := 272) dX1_layOne_268 (by decide) ?_
                      cases H
                      exact GV.zret (by decide) rfl dX1_layOne_272 (by omega) (by omega) ⟨rfl, rfl⟩
                · have H := it_f H c51
                  refine GA.aload_n dX1_layOne_239 rfl ?_
                  refine GA.aload_n dX1_layOne_240 rfl ?_
                  refine GA.iload dX1_layOne_241 rfl ?_
                  obtain ⟨x62, S_63, hc64, H⟩ := gc_e H
                  refine GA.callV (m_X1_exchange hc64) xs_X1_206 dX1_layOne_243 gs_482 (by decide) rfl rfl (by omega) (by decide) rfl (Nat.le_of_ble_eq_true rfl) (by omega) (by omega) rfl (fun E S9 hx => hx.elim) (fun v S9 hq => ?_)
                  obtain ⟨rfl, rfl⟩ := hq
                  obtain ⟨hg65, H⟩ := gg_e H
                  cases H
                  exact GV.zret hg65 rfl dX1_layOne_246 (by omega) (by omega) ⟨rfl, rfl⟩
              · have H := it_f H c46
                refine GA.aload_n dX1_layOne_217 rfl ?_
                refine GA.aload_n dX1_layOne_218 rfl ?_
                refine GA.get xf_X1_30 dX1_layOne_219 gs_482 (by decide) rfl ?_
                refine GA.aload_n dX1_layOne_222 rfl ?_
                refine GA.iload dX1_layOne_223 rfl ?_
                obtain ⟨x66, S_67, hc68, H⟩ := gc_e H
                refine GA.callV (m_X1_putIn hc68) xs_X1_200 dX1_layOne_225 gs_482 (by decide) rfl rfl (by omega) (by decide) rfl (Nat.le_of_ble_eq_true rfl) (by omega) (by omega) rfl (fun E S9 hx => hx.elim) (fun v S9 hq => ?_)
                obtain ⟨rfl, rfl⟩ := hq
                obtain ⟨hg69, H⟩ := gg_e H
                cases H
                exact GV.zret hg69 rfl dX1_layOne_228 (by omega) (by omega) ⟨rfl, rfl⟩
            · have H := it_f H c41
              refine GA.iconst dX1_layOne_205 ?_
              cases H
              exact GV.zret (by decide) rfl dX1_layOne_206 (by omega) (by omega) ⟨rfl, rfl⟩
          · have H := it_f H c39
            refine GA.aload_n dX1_layOne_154 rfl ?_
            refine GA.aload_n dX1_layOne_155 rfl ?_
            refine GA.iload dX1_layOne_156 rfl ?_
            obtain ⟨x70, S_71, hc72, H⟩ := gc_e H
            refine GA.callV (m_X1_holdAt hc72) xs_X1_197 dX1_layOne_158 gs_482 (by decide) rfl rfl (by omega) (by decide) rfl (Nat.le_of_ble_eq_true rfl) (by omega) (by omega) rfl (fun E S9 hx => hx.elim) (fun v S9 hq => ?_)
            obtain ⟨rfl, rfl⟩ := hq
            obtain ⟨hg73, H⟩ := gg_e H
            refine GV.if_eq (tgt := 197) hg73 dX1_layOne_161 (by decide) (fun c74 => ?_) (fun c74 => ?_)
            · have H := it_t H c74
              refine GA.iconst dX1_layOne_197 ?_
              cases H
              exact GV.zret (by decide) rfl dX1_layOne_198 (by omega) (by omega) ⟨rfl, rfl⟩
            · have H := it_f H c74
              refine GA.aload_n dX1_layOne_164 rfl ?_
              refine GA.get xf_X1_30 dX1_layOne_165 gs_482 (by decide) rfl ?_
              refine GA.aload_n dX1_layOne_168 rfl ?_
              refine GA.iload dX1_layOne_169 rfl ?_
              obtain ⟨x75, S_76, hc77, H⟩ := gc_e H
              refine GA.callV (m_X7_loadText hc77) xs_X1_186 dX1_layOne_171 (gsR (by decide)) (by decide) rfl rfl (by omega) (by decide) rfl (Nat.le_of_ble_eq_true rfl) (by omega) (by omega) rfl (fun E S9 hx => hx.elim) (fun v S9 hq => ?_)
              obtain ⟨rfl, rfl⟩ := hq
              obtain ⟨hg78, H⟩ := gg_e H
              refine GV.if_eq (tgt := 197) hg78 dX1_layOne_174 (by decide) (fun c79 => ?_) (fun c79 => ?_)
              · have H := it_t H c79
                refine GA.iconst dX1_layOne_197 ?_
                cases H
                exact GV.zret (by decide) rfl dX1_layOne_198 (by omega) (by omega) ⟨rfl, rfl⟩
              · have H := it_f H c79
                refine GA.aload_n dX1_layOne_177 rfl ?_
                refine GA.aload_n dX1_layOne_178 rfl ?_
                refine GA.get xf_X1_30 dX1_layOne_179 gs_482 (by decide) rfl ?_
                refine GA.aload_n dX1_layOne_182 rfl ?_
                refine GA.get xf_X1_18 dX1_layOne_183 gs_482 (by decide) rfl ?_
                refine GA.iconst dX1_layOne_186 ?_
                obtain ⟨x80, S_81, hc82, H⟩ := gc_e H
                refine GA.callV (m_X1_putIn hc82) xs_X1_200 dX1_layOne_187 gs_482 (by decide) rfl rfl (by omega) (by decide) rfl (Nat.le_of_ble_eq_true rfl) (by omega) (by omega) rfl (fun E S9 hx => hx.elim) (fun v S9 hq => ?_)
                obtain ⟨rfl, rfl⟩ := hq
                obtain ⟨hg83, H⟩ := gg_e H
                refine GV.if_eq (tgt := 197) hg83 dX1_layOne_190 (by decide) (fun c84 => ?_) (fun c84 => ?_)
                · have H := it_t H c84
                  refine GA.iconst dX1_layOne_197 ?_
                  cases H
                  exact GV.zret (by decide) rfl dX1_layOne_198 (by omega) (by omega) ⟨rfl, rfl⟩
                · have H := it_f H c84
                  refine GA.iconst dX1_layOne_193 ?_
                  refine GA.goto (tgt := 198) dX1_layOne_194 (by decide) ?_
                  cases H
                  exact GV.zret (by decide) rfl dX1_layOne_198 (by omega) (by omega) ⟨rfl, rfl⟩
        · have H := it_f H c34
          refine GA.aload_n dX1_layOne_88 rfl ?_
          refine GA.aload_n dX1_layOne_89 rfl ?_
          refine GA.iload dX1_layOne_90 rfl ?_
          obtain ⟨x85, S_86, hc87, H⟩ := gc_e H
          refine GA.callV (m_X1_holdAt hc87) xs_X1_197 dX1_layOne_92 gs_482 (by decide) rfl rfl (by omega) (by decide) rfl (Nat.le_of_ble_eq_true rfl) (by omega) (by omega) rfl (fun E S9 hx => hx.elim) (fun v S9 hq => ?_)
          obtain ⟨rfl, rfl⟩ := hq
          obtain ⟨hg88, H⟩ := gg_e H
          refine GV.if_eq (tgt := 142) hg88 dX1_layOne_95 (by decide) (fun c89 => ?_) (fun c89 => ?_)
          · have H := it_t H c89
            refine GA.iconst dX1_layOne_142 ?_
            cases H
            exact GV.zret (by decide) rfl dX1_layOne_143 (by omega) (by omega) ⟨rfl, rfl⟩
          · have H := it_f H c89
            refine GA.aload_n dX1_layOne_98 rfl ?_
            refine GA.aload_n dX1_layOne_99 rfl ?_
            refine GA.get xf_X1_30 dX1_layOne_100 gs_482 (by decide) rfl ?_
            obtain ⟨x90, S_91, hc92, H⟩ := gc_e H
            refine GA.callV (m_X1_cutOut hc92) xs_X1_192 dX1_layOne_103 gs_482 (by decide) rfl rfl (by omega) (by decide) rfl (Nat.le_of_ble_eq_true rfl) (by omega) (by omega) rfl (fun E S9 hx => hx.elim) (fun v S9 hq => ?_)
            obtain ⟨rfl, rfl⟩ := hq
            obtain ⟨hg93, H⟩ := gg_e H
            refine GV.if_eq (tgt := 142) hg93 dX1_layOne_106 (by decide) (fun c94 => ?_) (fun c94 => ?_)
            · have H := it_t H c94
              refine GA.iconst dX1_layOne_142 ?_
              cases H
              exact GV.zret (by decide) rfl dX1_layOne_143 (by omega) (by omega) ⟨rfl, rfl⟩
            · have H := it_f H c94
              refine GA.aload_n dX1_layOne_109 rfl ?_
              refine GA.get xf_X1_30 dX1_layOne_110 gs_482 (by decide) rfl ?_
              refine GA.aload_n dX1_layOne_113 rfl ?_
              refine GA.iload dX1_layOne_114 rfl ?_
              obtain ⟨x95, S_96, hc97, H⟩ := gc_e H
              refine GA.callV (m_X7_loadText hc97) xs_X1_186 dX1_layOne_116 (gsR (by decide)) (by decide) rfl rfl (by omega) (by decide) rfl (Nat.le_of_ble_eq_true rfl) (by omega) (by omega) rfl (fun E S9 hx => hx.elim) (fun v S9 hq => ?_)
              obtain ⟨rfl, rfl⟩ := hq
              obtain ⟨hg98, H⟩ := gg_e H
              refine GV.if_eq (tgt := 142) hg98 dX1_layOne_119 (by decide) (fun c99 => ?_) (fun c99 => ?_)
              · have H := it_t H c99
                refine GA.iconst dX1_layOne_142 ?_
                cases H
                exact GV.zret (by decide) rfl dX1_layOne_143 (by omega) (by omega) ⟨rfl, rfl⟩
              · have H := it_f H c99
                refine GA.aload_n dX1_layOne_122 rfl ?_
                refine GA.aload_n dX1_layOne_123 rfl ?_
                refine GA.get xf_X1_30 dX1_layOne_124 gs_482 (by decide) rfl ?_
                refine GA.aload_n dX1_layOne_127 rfl ?_
                refine GA.get xf_X1_18 dX1_layOne_128 gs_482 (by decide) rfl ?_
                refine GA.iconst dX1_layOne_131 ?_
                obtain ⟨x100, S_101, hc102, H⟩ := gc_e H
                refine GA.callV (m_X1_putIn hc102) xs_X1_200 dX1_layOne_132 gs_482 (by decide) rfl rfl (by omega) (by decide) rfl (Nat.le_of_ble_eq_true rfl) (by omega) (by omega) rfl (fun E S9 hx => hx.elim) (fun v S9 hq => ?_)
                obtain ⟨rfl, rfl⟩ := hq
                obtain ⟨hg103, H⟩ := gg_e H
                refine GV.if_eq (tgt := 142) hg103 dX1_layOne_135 (by decide) (fun c104 => ?_) (fun c104 => ?_)
                · have H := it_t H c104
                  refine GA.iconst dX1_layOne_142 ?_
                  cases H
                  exact GV.zret (by decide) rfl dX1_layOne_143 (by omega) (by omega) ⟨rfl, rfl⟩
                · have H := it_f H c104
                  refine GA.iconst dX1_layOne_138 ?_
                  refine GA.goto (tgt := 143) dX1_layOne_139 (by decide) ?_
                  cases H
                  exact GV.zret (by decide) rfl dX1_layOne_143 (by omega) (by omega) ⟨rfl, rfl⟩
      · have H := it_f H c29
        refine GA.aload_n dX1_layOne_69 rfl ?_
        refine GA.aload_n dX1_layOne_70 rfl ?_
        refine GA.get xf_X1_30 dX1_layOne_71 gs_482 (by decide) rfl ?_
        obtain ⟨x105, S_106, hc107, H⟩ := gc_e H
        refine GA.callV (m_X1_cutOut hc107) xs_X1_192 dX1_layOne_74 gs_482 (by decide) rfl rfl (by omega) (by decide) rfl (Nat.le_of_ble_eq_true rfl) (by omega) (by omega) rfl (fun E S9 hx => hx.elim) (fun v S9 hq => ?_)
        obtain ⟨rfl, rfl⟩ := hq
        obtain ⟨hg108, H⟩ := gg_e H
        cases H
        exact GV.zret hg108 rfl dX1_layOne_77 (by omega) (by omega) ⟨rfl, rfl⟩
    · have H := it_f H c24
      refine GA.iconst dX1_layOne_57 ?_
      cases H
      exact GV.zret (by decide) rfl dX1_layOne_58 (by omega) (by omega) ⟨rfl, rfl⟩
theorem g_X1_layOne {l : Launch} {Z : XZ} {L : Nat → Nat} : ∀ n, P_X1_layOne_0 l Z L n
  | 0 => fun _ _ _ _ _ _ H => no_e H
  | n + 1 => t_X1_layOne_0 n (g_X1_layOne n)
theorem m_X1_layOne {l : Launch} {Z : XZ} {L : Nat → Nat} {n d : Nat} {S : GS} {a1 : Nat} {a2 : Int} {x : Int} {S1 : GS} (H : f_X1_layOne n d 0 S [((a1 : Nat) : Int), a2] = some (x, S1)) : GM l Z L yX1_layOne cX1_layOne 7 (some .boolean) [] d 0 0 [.ref (L 482), .ref (L a1), .int (J a2)] S (fun v S' => v = some (.int (J x)) ∧ S1 = S') (fun _ _ => False) := GM.of (by decide) (Nat.le_of_ble_eq_true rfl) ((g_X1_layOne n) _ _ _ _ _ _ H)

def P_X1_layAll_0 (l : Launch) (Z : XZ) (L : Nat → Nat) (n : Nat) : Prop := ∀ (d : Nat) (S : GS) (a1 : Nat) (x : Int) (S1 : GS), f_X1_layAll n d 0 S [((a1 : Nat) : Int)] = some (x, S1) → GA l Z L yX1_layAll cX1_layAll 4 (some .int) [] d 0 0 (fun v S' => v = some (.int (J x)) ∧ S1 = S') (fun _ _ => False) 0 (gl [(0, .ref (L 482)), (1, .ref (L a1))]) [] S 0 0
def P_X1_layAll_8 (l : Launch) (Z : XZ) (L : Nat → Nat) (n : Nat) : Prop := ∀ (d : Nat) (S : GS) (a1 : Nat) (a2 : Int) (a3 : Int) (x : Int) (S1 : GS), f_X1_layAll n d 8 S [((a1 : Nat) : Int), a2, a3] = some (x, S1) → GA l Z L yX1_layAll cX1_layAll 4 (some .int) [] d 0 0 (fun v S' => v = some (.int (J x)) ∧ S1 = S') (fun _ _ => False) 8 (gl [(0, .ref (L 482)), (1, .ref (L a1)), (2, .int (J a2)), (3, .int (J a3))]) [] S 0 0
theorem i_X1_layAll {l : Launch} {Z : XZ} {L : Nat → Nat} {n : Nat} (ih : P_X1_layAll_0 l Z L n) {d : Nat} {S : GS} {a1 : Nat} {x : Int} {S1 : GS} (H : f_X1_layAll n d 0 S [((a1 : Nat) : Int)] = some (x, S1)) : GM l Z L yX1_layAll cX1_layAll 4 (some .int) [] d 0 0 [.ref (L 482), .ref (L a1)] S (fun v S' => v = some (.int (J x)) ∧ S1 = S') (fun _ _ => False) := GM.of (by decide) (Nat.le_of_ble_eq_true rfl) (ih _ _ _ _ _ H)
set_option maxHeartbeats 4000000 in
set_option maxRecDepth 20000 in
theorem t_X1_layAll_0 {l : Launch} {Z : XZ} {L : Nat → Nat} (n : Nat) (ih_X1_layAll_0 : P_X1_layAll_0 l Z L n) (ih_X1_layAll_8 : P_X1_layAll_8 l Z L n) : P_X1_layAll_0 l Z L (n + 1) := by
  intro d S a1 x S1 H
  have H : b_X1_layAll_0 n d (f_X1_layAll n) S a1 = some (x, S1) := H
  unfold b_X1_layAll_0 at H
  refine GA.aload_n dX1_layAll_0 rfl ?_
  refine GA.iconst dX1_layAll_1 ?_
  obtain ⟨hg1, H⟩ := gg_e H
  obtain ⟨hg2, H⟩ := gg_e H
  obtain ⟨x3, S_4, hc5, H⟩ := gc_e H
  refine GA.callV (m_X10_first hc5) xs_X1_165 dX1_layAll_2 (gsT hg2) (by omega) rfl rfl (by omega) (by decide) rfl (Nat.le_of_ble_eq_true rfl) (by omega) (by omega) rfl (fun E S9 hx => hx.elim) (fun v S9 hq => ?_)
  obtain ⟨rfl, rfl⟩ := hq
  refine GA.istore_n dX1_layAll_5 (by decide) ?_
  refine GA.iconst dX1_layAll_6 ?_
  refine GA.istore_n dX1_layAll_7 (by decide) ?_
  refine GA.locals [(0, .ref (L 482)), (1, .ref (L a1)), (2, .int (J x3)), (3, .int (J 0))] ⟨rfl, rfl, rfl, rfl, trivial⟩ ?_
  exact ih_X1_layAll_8 _ _ (a1) (x3) (0) _ _ H
set_option maxHeartbeats 4000000 in
set_option maxRecDepth 20000 in
theorem t_X1_layAll_8 {l : Launch} {Z : XZ} {L : Nat → Nat} (n : Nat) (ih_X1_layAll_0 : P_X1_layAll_0 l Z L n) (ih_X1_layAll_8 : P_X1_layAll_8 l Z L n) : P_X1_layAll_8 l Z L (n + 1) := by
  intro d S a1 a2 a3 x S1 H
  have H : b_X1_layAll_8 n d (f_X1_layAll n) S a1 a2 a3 = some (x, S1) := H
  unfold b_X1_layAll_8 at H
  refine GA.iload_n dX1_layAll_8 rfl ?_
  refine GA.iconst dX1_layAll_9 ?_
  obtain ⟨hg1, H⟩ := gg_e H
  refine GV.icmp_eq (tgt := 53) hg1 (by decide) dX1_layAll_10 (by decide) (fun c2 => ?_) (fun c2 => ?_)
  · have H := it_t H c2
    refine GA.iconst dX1_layAll_53 ?_
    cases H
    exact GA.iret rfl dX1_layAll_54 (by omega) (by omega) ⟨rfl, rfl⟩
  · have H := it_f H c2
    refine GA.iload_n dX1_layAll_13 rfl ?_
    refine GA.bipush dX1_layAll_14 rfl ?_
    obtain ⟨hg3, H⟩ := gg_e H
    refine GV.icmp_ge (tgt := 53) hg3 (by decide) dX1_layAll_16 (by decide) (fun c4 => ?_) (fun c4 => ?_)
    · have H := it_t H c4
      refine GA.iconst dX1_layAll_53 ?_
      cases H
      exact GA.iret rfl dX1_layAll_54 (by omega) (by omega) ⟨rfl, rfl⟩
    · have H := it_f H c4
      refine GA.aload_n dX1_layAll_19 rfl ?_
      refine GA.aload_n dX1_layAll_20 rfl ?_
      refine GA.iload_n dX1_layAll_21 rfl ?_
      obtain ⟨hg5, H⟩ := gg_e H
      obtain ⟨x6, S_7, hc8, H⟩ := gc_e H
      refine GA.callV (m_X1_layOne hc8) xs_X1_168 dX1_layAll_22 gs_482 (by decide) rfl rfl (by omega) (by decide) rfl (Nat.le_of_ble_eq_true rfl) (by omega) (by omega) rfl (fun E S9 hx => hx.elim) (fun v S9 hq => ?_)
      obtain ⟨rfl, rfl⟩ := hq
      obtain ⟨hg9, H⟩ := gg_e H
      refine GV.if_eq (tgt := 38) hg9 dX1_layAll_25 (by decide) (fun c10 => ?_) (fun c10 => ?_)
      · have H := it_t H c10
        refine GA.iload_n dX1_layAll_38 rfl ?_
        cases H
        exact GA.iret rfl dX1_layAll_39 (by omega) (by omega) ⟨rfl, rfl⟩
      · have H := it_f H c10
        refine GA.aload_n dX1_layAll_28 rfl ?_
        refine GA.get xf_X1_12 dX1_layAll_29 gs_482 (by decide) rfl ?_
        obtain ⟨x11, S_12, hc13, H⟩ := gc_e H
        refine GA.callV (m_X10_isDocument hc13) xs_X1_102 dX1_layAll_32 (gsT (by decide)) (by decide) rfl rfl (by omega) (by decide) rfl (Nat.le_of_ble_eq_true rfl) (by omega) (by omega) rfl (fun E S9 hx => hx.elim) (fun v S9 hq => ?_)
        obtain ⟨rfl, rfl⟩ := hq
        obtain ⟨hg14, H⟩ := gg_e H
        refine GV.if_ne (tgt := 40) hg14 dX1_layAll_35 (by decide) (fun c15 => ?_) (fun c15 => ?_)
        · have H := it_t H c15
          refine GA.aload_n dX1_layAll_40 rfl ?_
          refine GA.iconst dX1_layAll_41 ?_
          refine GA.iload_n dX1_layAll_42 rfl ?_
          obtain ⟨hg16, H⟩ := gg_e H
          obtain ⟨x17, S_18, hc19, H⟩ := gc_e H
          refine GA.callV (m_X10_next hc19) xs_X1_172 dX1_layAll_43 (gsT hg16) (by omega) rfl rfl (by omega) (by decide) rfl (Nat.le_of_ble_eq_true rfl) (by omega) (by omega) rfl (fun E S9 hx => hx.elim) (fun v S9 hq => ?_)
          obtain ⟨rfl, rfl⟩ := hq
          refine GA.istore_n dX1_layAll_46 (by decide) ?_
          obtain ⟨x20, hx21, H⟩ := gv_e H
          refine GV.iinc hx21 dX1_layAll_47 rfl (by decide) ?_
          refine GA.goto (tgt := 8) dX1_layAll_50 (by decide) ?_
          refine GA.locals [(0, .ref (L 482)), (1, .ref (L a1)), (2, .int (J x17)), (3, .int (J x20))] ⟨rfl, rfl, rfl, rfl, trivial⟩ ?_
          exact ih_X1_layAll_8 _ _ (a1) (x17) (x20) _ _ H
        · have H := it_f H c15
          refine GA.iload_n dX1_layAll_38 rfl ?_
          cases H
          exact GA.iret rfl dX1_layAll_39 (by omega) (by omega) ⟨rfl, rfl⟩
theorem g_X1_layAll {l : Launch} {Z : XZ} {L : Nat → Nat} : ∀ n, P_X1_layAll_0 l Z L n ∧ P_X1_layAll_8 l Z L n
  | 0 => ⟨fun _ _ _ _ _ H => no_e H, fun _ _ _ _ _ _ _ H => no_e H⟩
  | n + 1 => have ⟨h0, h1⟩ := g_X1_layAll (l := l) (Z := Z) (L := L) n
    ⟨t_X1_layAll_0 n h0 h1, t_X1_layAll_8 n h0 h1⟩
theorem m_X1_layAll {l : Launch} {Z : XZ} {L : Nat → Nat} {n d : Nat} {S : GS} {a1 : Nat} {x : Int} {S1 : GS} (H : f_X1_layAll n d 0 S [((a1 : Nat) : Int)] = some (x, S1)) : GM l Z L yX1_layAll cX1_layAll 4 (some .int) [] d 0 0 [.ref (L 482), .ref (L a1)] S (fun v S' => v = some (.int (J x)) ∧ S1 = S') (fun _ _ => False) := GM.of (by decide) (Nat.le_of_ble_eq_true rfl) ((g_X1_layAll n).1 _ _ _ _ _ H)

def P_X1_result_0 (l : Launch) (Z : XZ) (L : Nat → Nat) (n : Nat) : Prop := ∀ (d : Nat) (S : GS) (x : Int) (S1 : GS), f_X1_result n d 0 S [] = some (x, S1) → GA l Z L yX1_result cX1_result 1 (some (.object "Treeletter$Tree")) [] d 0 0 (fun v S' => v = some (.ref (L x.toNat)) ∧ S1 = S') (fun _ _ => False) 0 (gl [(0, .ref (L 482))]) [] S 0 0
theorem i_X1_result {l : Launch} {Z : XZ} {L : Nat → Nat} {n : Nat} (ih : P_X1_result_0 l Z L n) {d : Nat} {S : GS} {x : Int} {S1 : GS} (H : f_X1_result n d 0 S [] = some (x, S1)) : GM l Z L yX1_result cX1_result 1 (some (.object "Treeletter$Tree")) [] d 0 0 [.ref (L 482)] S (fun v S' => v = some (.ref (L x.toNat)) ∧ S1 = S') (fun _ _ => False) := GM.of (by decide) (Nat.le_of_ble_eq_true rfl) (ih _ _ _ _ H)
set_option maxHeartbeats 4000000 in
set_option maxRecDepth 20000 in
theorem t_X1_result_0 {l : Launch} {Z : XZ} {L : Nat → Nat} (n : Nat) (ih_X1_result_0 : P_X1_result_0 l Z L n) : P_X1_result_0 l Z L (n + 1) := by
  intro d S  x S1 H
  have H : b_X1_result_0 n d (f_X1_result n) S  = some (x, S1) := H
  unfold b_X1_result_0 at H
  refine GA.aload_n dX1_result_0 rfl ?_
  refine GA.get xf_X1_12 dX1_result_1 gs_482 (by decide) rfl ?_
  cases H
  exact GA.aret rfl dX1_result_4 (by omega) (by omega) ⟨rfl, rfl⟩
theorem g_X1_result {l : Launch} {Z : XZ} {L : Nat → Nat} : ∀ n, P_X1_result_0 l Z L n
  | 0 => fun _ _ _ _ H => no_e H
  | n + 1 => t_X1_result_0 n (g_X1_result n)
theorem m_X1_result {l : Launch} {Z : XZ} {L : Nat → Nat} {n d : Nat} {S : GS} {x : Int} {S1 : GS} (H : f_X1_result n d 0 S [] = some (x, S1)) : GM l Z L yX1_result cX1_result 1 (some (.object "Treeletter$Tree")) [] d 0 0 [.ref (L 482)] S (fun v S' => v = some (.ref (L x.toNat)) ∧ S1 = S') (fun _ _ => False) := GM.of (by decide) (Nat.le_of_ble_eq_true rfl) ((g_X1_result n) _ _ _ _ H)

def P_X4_count_0 (l : Launch) (Z : XZ) (L : Nat → Nat) (n : Nat) : Prop := ∀ (d : Nat) (S : GS) (x : Int) (S1 : GS), f_X4_count n d 0 S [] = some (x, S1) → GA l Z L yX4_count cX4_count 1 (some .int) [] d 0 0 (fun v S' => v = some (.int (J x)) ∧ S1 = S') (fun _ _ => False) 0 (gl [(0, .ref (L 485))]) [] S 0 0
theorem i_X4_count {l : Launch} {Z : XZ} {L : Nat → Nat} {n : Nat} (ih : P_X4_count_0 l Z L n) {d : Nat} {S : GS} {x : Int} {S1 : GS} (H : f_X4_count n d 0 S [] = some (x, S1)) : GM l Z L yX4_count cX4_count 1 (some .int) [] d 0 0 [.ref (L 485)] S (fun v S' => v = some (.int (J x)) ∧ S1 = S') (fun _ _ => False) := GM.of (by decide) (Nat.le_of_ble_eq_true rfl) (ih _ _ _ _ H)
set_option maxHeartbeats 4000000 in
set_option maxRecDepth 20000 in
theorem t_X4_count_0 {l : Launch} {Z : XZ} {L : Nat → Nat} (n : Nat) (ih_X4_count_0 : P_X4_count_0 l Z L n) : P_X4_count_0 l Z L (n + 1) := by
  intro d S  x S1 H
  have H : b_X4_count_0 n d (f_X4_count n) S  = some (x, S1) := H
  unfold b_X4_count_0 at H
  refine GA.aload_n dX4_count_0 rfl ?_
  obtain ⟨x1, hx2, H⟩ := gv_e H
  refine GV.getI hx2 xf_X4_44 dX4_count_1 gs_485 (by decide) rfl ?_
  cases H
  exact GA.iret rfl dX4_count_4 (by omega) (by omega) ⟨rfl, rfl⟩
theorem g_X4_count {l : Launch} {Z : XZ} {L : Nat → Nat} : ∀ n, P_X4_count_0 l Z L n
  | 0 => fun _ _ _ _ H => no_e H
  | n + 1 => t_X4_count_0 n (g_X4_count n)
theorem m_X4_count {l : Launch} {Z : XZ} {L : Nat → Nat} {n d : Nat} {S : GS} {x : Int} {S1 : GS} (H : f_X4_count n d 0 S [] = some (x, S1)) : GM l Z L yX4_count cX4_count 1 (some .int) [] d 0 0 [.ref (L 485)] S (fun v S' => v = some (.int (J x)) ∧ S1 = S') (fun _ _ => False) := GM.of (by decide) (Nat.le_of_ble_eq_true rfl) ((g_X4_count n) _ _ _ _ H)

def P_X1_wayBack_0 (l : Launch) (Z : XZ) (L : Nat → Nat) (n : Nat) : Prop := ∀ (d : Nat) (S : GS) (x : Int) (S1 : GS), f_X1_wayBack n d 0 S [] = some (x, S1) → GA l Z L yX1_wayBack cX1_wayBack 1 (some (.object "Treeletter$Tree")) [] d 0 0 (fun v S' => v = some (.ref (L x.toNat)) ∧ S1 = S') (fun _ _ => False) 0 (gl [(0, .ref (L 482))]) [] S 0 0
theorem i_X1_wayBack {l : Launch} {Z : XZ} {L : Nat → Nat} {n : Nat} (ih : P_X1_wayBack_0 l Z L n) {d : Nat} {S : GS} {x : Int} {S1 : GS} (H : f_X1_wayBack n d 0 S [] = some (x, S1)) : GM l Z L yX1_wayBack cX1_wayBack 1 (some (.object "Treeletter$Tree")) [] d 0 0 [.ref (L 482)] S (fun v S' => v = some (.ref (L x.toNat)) ∧ S1 = S') (fun _ _ => False) := GM.of (by decide) (Nat.le_of_ble_eq_true rfl) (ih _ _ _ _ H)
set_option maxHeartbeats 4000000 in
set_option maxRecDepth 20000 in
theorem t_X1_wayBack_0 {l : Launch} {Z : XZ} {L : Nat → Nat} (n : Nat) (ih_X1_wayBack_0 : P_X1_wayBack_0 l Z L n) : P_X1_wayBack_0 l Z L (n + 1) := by
  intro d S  x S1 H
  have H : b_X1_wayBack_0 n d (f_X1_wayBack n) S  = some (x, S1) := H
  unfold b_X1_wayBack_0 at H
  refine GA.aload_n dX1_wayBack_0 rfl ?_
  refine GA.get xf_X1_24 dX1_wayBack_1 gs_482 (by decide) rfl ?_
  cases H
  exact GA.aret rfl dX1_wayBack_4 (by omega) (by omega) ⟨rfl, rfl⟩
theorem g_X1_wayBack {l : Launch} {Z : XZ} {L : Nat → Nat} : ∀ n, P_X1_wayBack_0 l Z L n
  | 0 => fun _ _ _ _ H => no_e H
  | n + 1 => t_X1_wayBack_0 n (g_X1_wayBack n)
theorem m_X1_wayBack {l : Launch} {Z : XZ} {L : Nat → Nat} {n d : Nat} {S : GS} {x : Int} {S1 : GS} (H : f_X1_wayBack n d 0 S [] = some (x, S1)) : GM l Z L yX1_wayBack cX1_wayBack 1 (some (.object "Treeletter$Tree")) [] d 0 0 [.ref (L 482)] S (fun v S' => v = some (.ref (L x.toNat)) ∧ S1 = S') (fun _ _ => False) := GM.of (by decide) (Nat.le_of_ble_eq_true rfl) ((g_X1_wayBack n) _ _ _ _ H)

