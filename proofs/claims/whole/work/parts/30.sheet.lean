/-! Treeletter$Sheet: contracts (by program: wip/gen/sheet.py) -/
theorem g_room_le (c : Nat) : g_room c ≤ 60000 := by
  unfold g_room
  split <;> omega
def WS (S : GS) (i : Nat) : Prop := 0 ≤ S.1 (424 + 2 * i) 1 ∧ S.1 (424 + 2 * i) 1 ≤ g_room (424 + 2 * i + 1)
abbrev sLen (S : GS) (i : Nat) : Int := S.1 (424 + 2 * i) 1
def sAt (S : GS) (i : Nat) (p : Int) : Int := if 0 ≤ p ∧ p < S.1 (424 + 2 * i) 1 then S.1 (424 + 2 * i + 1) p.toNat else -1
def sAdd (S : GS) (i : Nat) (x : Int) : GS := if S.1 (424 + 2 * i) 1 < g_room (424 + 2 * i + 1) then gI (gI S (424 + 2 * i + 1) (S.1 (424 + 2 * i) 1).toNat x) (424 + 2 * i) 1 (S.1 (424 + 2 * i) 1 + 1) else S
section SH
variable {l : Launch} {Z : XZ} {L : Nat → Nat} {d : Nat} {S : GS}
set_option maxHeartbeats 4000000 in
set_option maxRecDepth 20000 in
theorem m_X9_length  (i : Nat) (hi : i < 22) : GM l Z L yX9_length cX9_length 1 (some .int) [] d 0 0 [.ref (L (424 + 2 * i))] S (fun v S' => v = some (.int (J (sLen S i))) ∧ S' = S) (fun _ _ => False) := by
  refine GM.of (by decide) (Nat.le_of_ble_eq_true rfl) ?_
  have hr9 := g_room_le (424 + 2 * i + 1)
  refine GA.aload_n dX9_length_0 rfl ?_
  refine GA.get xf_X9_21 dX9_length_1 (gs_s hi) (by omega) rfl ?_
  refine GA.iret rfl dX9_length_4 (by omega) (by omega) ?_
  exact ⟨rfl, rfl⟩
set_option maxHeartbeats 4000000 in
set_option maxRecDepth 20000 in
theorem m_X9_clear  (i : Nat) (hi : i < 22) : GM l Z L yX9_clear cX9_clear 1 none [] d 0 0 [.ref (L (424 + 2 * i))] S (fun v S' => v = none ∧ S' = gI S (424 + 2 * i) 1 0) (fun _ _ => False) := by
  refine GM.of (by decide) (Nat.le_of_ble_eq_true rfl) ?_
  have hr9 := g_room_le (424 + 2 * i + 1)
  refine GA.aload_n dX9_clear_0 rfl ?_
  refine GA.iconst dX9_clear_1 ?_
  refine GA.putI (xp_X9_21 _) dX9_clear_2 (gs_s hi) (by omega) (Nat.le_of_ble_eq_true rfl) (gs_s hi) ?_
  refine GA.vret rfl dX9_clear_5 (by omega) (by omega) ?_
  exact ⟨rfl, rfl⟩
set_option maxHeartbeats 4000000 in
set_option maxRecDepth 20000 in
theorem m_X9_shorten {p : Int} (i : Nat) (hi : i < 22) (hw : WS S i) (hp : -2147483648 ≤ p ∧ p < 2147483648) : GM l Z L yX9_shorten cX9_shorten 2 none [] d 0 0 [.ref (L (424 + 2 * i)), .int (J p)] S (fun v S' => v = none ∧ S' = if 0 ≤ p ∧ p < S.1 (424 + 2 * i) 1 then gI S (424 + 2 * i) 1 p else S) (fun _ _ => False) := by
  refine GM.of (by decide) (Nat.le_of_ble_eq_true rfl) ?_
  have hr9 := g_room_le (424 + 2 * i + 1)
  have hw1 := hw.1
  have hw2 := hw.2
  refine GA.iload_n dX9_shorten_0 rfl ?_
  refine GA.if_lt (tgt := 17) dX9_shorten_1 (by decide) (by omega) (fun c_1 => ?_) (fun c_1 => ?_)
  · skip
    refine GA.vret rfl dX9_shorten_17 (by omega) (by omega) ?_
    exact ⟨rfl, by first | rw [if_pos (by omega)] | rw [if_neg (by omega)]⟩
  · skip
    refine GA.iload_n dX9_shorten_4 rfl ?_
    refine GA.aload_n dX9_shorten_5 rfl ?_
    refine GA.get xf_X9_21 dX9_shorten_6 (gs_s hi) (by omega) rfl ?_
    refine GA.icmp_ge (tgt := 17) dX9_shorten_9 (by decide) (by omega) (by omega) (fun c_9 => ?_) (fun c_9 => ?_)
    · skip
      refine GA.vret rfl dX9_shorten_17 (by omega) (by omega) ?_
      exact ⟨rfl, by first | rw [if_pos (by omega)] | rw [if_neg (by omega)]⟩
    · skip
      refine GA.aload_n dX9_shorten_12 rfl ?_
      refine GA.iload_n dX9_shorten_13 rfl ?_
      refine GA.putI (xp_X9_21 _) dX9_shorten_14 (gs_s hi) (by omega) (Nat.le_of_ble_eq_true rfl) (gs_s hi) ?_
      refine GA.vret rfl dX9_shorten_17 (by omega) (by omega) ?_
      exact ⟨rfl, by first | rw [if_pos (by omega)] | rw [if_neg (by omega)]⟩
set_option maxHeartbeats 4000000 in
set_option maxRecDepth 20000 in
theorem m_X9_at {p : Int} (i : Nat) (hi : i < 22) (hw : WS S i) (hp : -2147483648 ≤ p ∧ p < 2147483648) : GM l Z L yX9_at cX9_at 2 (some .int) [] d 0 0 [.ref (L (424 + 2 * i)), .int (J p)] S (fun v S' => v = some (.int (J (sAt S i p))) ∧ S' = S) (fun _ _ => False) := by
  refine GM.of (by decide) (Nat.le_of_ble_eq_true rfl) ?_
  have hr9 := g_room_le (424 + 2 * i + 1)
  have hw1 := hw.1
  have hw2 := hw.2
  refine GA.iload_n dX9_at_0 rfl ?_
  refine GA.if_lt (tgt := 30) dX9_at_1 (by decide) (by omega) (fun c_1 => ?_) (fun c_1 => ?_)
  · skip
    refine GA.iconst dX9_at_30 ?_
    refine GA.iret rfl dX9_at_31 (by omega) (by omega) ?_
    exact ⟨by unfold sAt; first | rw [if_pos (by omega)] | rw [if_neg (by omega)], rfl⟩
  · skip
    refine GA.iload_n dX9_at_4 rfl ?_
    refine GA.aload_n dX9_at_5 rfl ?_
    refine GA.get xf_X9_21 dX9_at_6 (gs_s hi) (by omega) rfl ?_
    refine GA.icmp_ge (tgt := 30) dX9_at_9 (by decide) (by omega) (by omega) (fun c_9 => ?_) (fun c_9 => ?_)
    · skip
      refine GA.iconst dX9_at_30 ?_
      refine GA.iret rfl dX9_at_31 (by omega) (by omega) ?_
      exact ⟨by unfold sAt; first | rw [if_pos (by omega)] | rw [if_neg (by omega)], rfl⟩
    · skip
      refine GA.iload_n dX9_at_12 rfl ?_
      refine GA.aload_n dX9_at_13 rfl ?_
      refine GA.get xf_X9_15 dX9_at_14 (gs_s hi) (by omega) rfl ?_
      refine GA.alen (by decide) dX9_at_17 (gs_sa hi) (by omega) ?_
      refine GA.icmp_ge (tgt := 30) dX9_at_18 (by decide) (by omega) (by omega) (fun c_18 => ?_) (fun c_18 => ?_)
      · skip
        refine GA.iconst dX9_at_30 ?_
        refine GA.iret rfl dX9_at_31 (by omega) (by omega) ?_
        exact ⟨by unfold sAt; first | rw [if_pos (by omega)] | rw [if_neg (by omega)], rfl⟩
      · skip
        refine GA.aload_n dX9_at_21 rfl ?_
        refine GA.get xf_X9_15 dX9_at_22 (gs_s hi) (by omega) rfl ?_
        refine GA.iload_n dX9_at_25 rfl ?_
        refine GA.cald dX9_at_26 (gs_sa hi) (by omega) (by omega) ?_
        refine GA.goto (tgt := 31) dX9_at_27 (by decide) ?_
        refine GA.iret rfl dX9_at_31 (by omega) (by omega) ?_
        exact ⟨by unfold sAt; first | rw [if_pos (by omega)] | rw [if_neg (by omega)], rfl⟩
set_option maxHeartbeats 4000000 in
set_option maxRecDepth 20000 in
theorem m_X9_add {x : Int} (i : Nat) (hi : i < 22) (hw : WS S i) (hx : 0 ≤ x ∧ x < 65536) : GM l Z L yX9_add cX9_add 2 none [] d 0 0 [.ref (L (424 + 2 * i)), .int (J x)] S (fun v S' => v = none ∧ S' = sAdd S i x) (fun _ _ => False) := by
  refine GM.of (by decide) (Nat.le_of_ble_eq_true rfl) ?_
  have hr9 := g_room_le (424 + 2 * i + 1)
  have hw1 := hw.1
  have hw2 := hw.2
  refine GA.aload_n dX9_add_0 rfl ?_
  refine GA.get xf_X9_21 dX9_add_1 (gs_s hi) (by omega) rfl ?_
  refine GA.if_lt (tgt := 40) dX9_add_4 (by decide) (by omega) (fun c_4 => ?_) (fun c_4 => ?_)
  · skip
    refine GA.vret rfl dX9_add_40 (by omega) (by omega) ?_
    exact ⟨rfl, by unfold sAdd; first | rw [if_pos (by omega)] | rw [if_neg (by omega)]⟩
  · skip
    refine GA.aload_n dX9_add_7 rfl ?_
    refine GA.get xf_X9_21 dX9_add_8 (gs_s hi) (by omega) rfl ?_
    refine GA.aload_n dX9_add_11 rfl ?_
    refine GA.get xf_X9_15 dX9_add_12 (gs_s hi) (by omega) rfl ?_
    refine GA.alen (by decide) dX9_add_15 (gs_sa hi) (by omega) ?_
    refine GA.icmp_ge (tgt := 40) dX9_add_16 (by decide) (by omega) (by omega) (fun c_16 => ?_) (fun c_16 => ?_)
    · skip
      refine GA.vret rfl dX9_add_40 (by omega) (by omega) ?_
      exact ⟨rfl, by unfold sAdd; first | rw [if_pos (by omega)] | rw [if_neg (by omega)]⟩
    · skip
      refine GA.aload_n dX9_add_19 rfl ?_
      refine GA.get xf_X9_15 dX9_add_20 (gs_s hi) (by omega) rfl ?_
      refine GA.aload_n dX9_add_23 rfl ?_
      refine GA.get xf_X9_21 dX9_add_24 (gs_s hi) (by omega) rfl ?_
      refine GA.iload_n dX9_add_27 rfl ?_
      refine GA.i2c dX9_add_28 (by omega) ?_
      refine GA.cast dX9_add_29 (fun _ => (gs_sa hi)) (by omega) (by omega) (by omega) ?_
      refine GA.aload_n dX9_add_30 rfl ?_
      refine GA.dup dX9_add_31 rfl ?_
      refine GA.get xf_X9_21 dX9_add_32 (gs_s hi) (by omega) rfl ?_
      refine GA.iconst dX9_add_35 ?_
      refine GA.iadd dX9_add_36 ?_
      refine GA.putI (xp_X9_21 _) dX9_add_37 (gs_s hi) (by omega) (Nat.le_of_ble_eq_true rfl) (gs_s hi) ?_
      refine GA.vret rfl dX9_add_40 (by omega) (by omega) ?_
      exact ⟨rfl, by unfold sAdd; first | rw [if_pos (by omega)] | rw [if_neg (by omega)]⟩
end SH
