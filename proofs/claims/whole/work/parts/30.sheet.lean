/-! Treeletter$Sheet: contracts (by program: wip/gen/sheet.py) -/
theorem g_room_le (c : Nat) : g_room c ≤ 60000 := by
  unfold g_room
  split <;> omega
def WS (S : GS) (i : Nat) : Prop := 0 ≤ S.1 (424 + 2 * i) 1 ∧ S.1 (424 + 2 * i) 1 ≤ g_room (424 + 2 * i + 1)
abbrev sLen (S : GS) (i : Nat) : Int := S.1 (424 + 2 * i) 1
def sAt (S : GS) (i : Nat) (p : Int) : Int := if 0 ≤ p ∧ p < S.1 (424 + 2 * i) 1 then S.1 (424 + 2 * i + 1) p.toNat else -1
def sAdd (S : GS) (i : Nat) (x : Int) : GS := if S.1 (424 + 2 * i) 1 < g_room (424 + 2 * i + 1) then gI (gI S (424 + 2 * i + 1) (S.1 (424 + 2 * i) 1).toNat x) (424 + 2 * i) 1 (S.1 (424 + 2 * i) 1 + 1) else S
def sAdds (S : GS) (i : Nat) : List Int → GS
  | [] => S
  | x :: r => sAdds (sAdd S i x) i r
theorem sAdds_app {S : GS} {i : Nat} : ∀ {a b : List Int}, sAdds S i (a ++ b) = sAdds (sAdds S i a) i b
  | [], _ => rfl
  | x :: r, b => by show sAdds (sAdd S i x) i (r ++ b) = _; rw [sAdds_app]; rfl
theorem WS.add {S : GS} {i : Nat} {x : Int} (h : WS S i) : WS (sAdd S i x) i := by
  unfold sAdd
  split
  · rename_i hl
    unfold WS
    rw [gI_1, xset_s]
    have := h.1
    omega
  · exact h
theorem WS.adds {i : Nat} : ∀ {xs : List Int} {S : GS}, WS S i → WS (sAdds S i xs) i
  | [], _, h => h
  | x :: r, S, h => WS.adds (xs := r) h.add
/-- what adding leaves -/
theorem sAdd_n {S : GS} {i c : Nat} {x : Int} (h1 : c ≠ 424 + 2 * i) (h2 : c ≠ 424 + 2 * i + 1) : (sAdd S i x).1 c = S.1 c := by
  unfold sAdd
  split
  · rw [gI_n h1, gI_n h2]
  · rfl
theorem sAdd_2 {S : GS} {i : Nat} {x : Int} : (sAdd S i x).2 = S.2 := by
  unfold sAdd
  split <;> rfl
theorem sAdds_n {i c : Nat} (h1 : c ≠ 424 + 2 * i) (h2 : c ≠ 424 + 2 * i + 1) : ∀ {xs : List Int} {S : GS}, (sAdds S i xs).1 c = S.1 c
  | [], _ => rfl
  | x :: r, S => by show (sAdds (sAdd S i x) i r).1 c = _; rw [sAdds_n h1 h2, sAdd_n h1 h2]
theorem sAdds_2 {i : Nat} : ∀ {xs : List Int} {S : GS}, (sAdds S i xs).2 = S.2
  | [], _ => rfl
  | x :: r, S => by show (sAdds (sAdd S i x) i r).2 = _; rw [sAdds_2, sAdd_2]
/-- a sign as it is written -/
def hexd (v : Int) : Int := if v < 10 then 48 + v else 87 + v
def wrS (x : Int) : List Int := if 32 ≤ x ∧ x ≤ 126 then (if x = 34 ∨ x = 92 then [92, x] else [x]) else [92, 117, 48, 48, hexd (x / 16 % 16), hexd (x % 16)]
def numL (n : Int) : List Int := let r := max n (-n)
  (if n < 0 then [45] else []) ++ ((if 99 < r then [48 + r / 100 % 10] else []) ++ ((if 9 < r then [48 + r / 10 % 10] else []) ++ [48 + r % 10]))
section SH
variable {l : Launch} {Z : XZ} {L : Nat → Nat} {d : Nat} {S : GS}
set_option maxHeartbeats 4000000 in
set_option maxRecDepth 20000 in
theorem m_X9_length  (i : Nat) (hi : i < 22) : GM l Z L yX9_length cX9_length 1 (some .int) [] d 0 0 [.ref (L (424 + 2 * i))] S (fun v S' => v = some (.int (J (sLen S i))) ∧ S = S') (fun _ _ => False) := by
  refine GM.of (by decide) (Nat.le_of_ble_eq_true rfl) ?_
  have hr9 := g_room_le (424 + 2 * i + 1)
  refine GA.aload_n dX9_length_0 rfl ?_
  refine GA.get xf_X9_21 dX9_length_1 (gs_s hi) (by omega) rfl ?_
  refine GA.iret rfl dX9_length_4 (by omega) (by omega) ?_
  exact ⟨rfl, rfl⟩
set_option maxHeartbeats 4000000 in
set_option maxRecDepth 20000 in
theorem m_X9_clear  (i : Nat) (hi : i < 22) : GM l Z L yX9_clear cX9_clear 1 none [] d 0 0 [.ref (L (424 + 2 * i))] S (fun v S' => v = none ∧ S' = gI S (424 + 2 * i) 1 0) (fun _ _ => False) := by
  refine GM.of (by decide) (Nat.le_of_ble_eq_true rfl) ?_
  have hr9 := g_room_le (424 + 2 * i + 1)
  refine GA.aload_n dX9_clear_0 rfl ?_
  refine GA.iconst dX9_clear_1 ?_
  refine GA.putI (xp_X9_21 _) dX9_clear_2 (gs_s hi) (by omega) (Nat.le_of_ble_eq_true rfl) (gs_s hi) ?_
  refine GA.vret rfl dX9_clear_5 (by omega) (by omega) ?_
  exact ⟨rfl, rfl⟩
set_option maxHeartbeats 4000000 in
set_option maxRecDepth 20000 in
theorem m_X9_shorten {p : Int} (i : Nat) (hi : i < 22) (hw : WS S i) (hp : -2147483648 ≤ p ∧ p < 2147483648) : GM l Z L yX9_shorten cX9_shorten 2 none [] d 0 0 [.ref (L (424 + 2 * i)), .int (J p)] S (fun v S' => v = none ∧ S' = if 0 ≤ p ∧ p < S.1 (424 + 2 * i) 1 then gI S (424 + 2 * i) 1 p else S) (fun _ _ => False) := by
  refine GM.of (by decide) (Nat.le_of_ble_eq_true rfl) ?_
  have hr9 := g_room_le (424 + 2 * i + 1)
  have hw1 := hw.1
  have hw2 := hw.2
  refine GA.iload_n dX9_shorten_0 rfl ?_
  refine GA.if_lt (tgt := 17) dX9_shorten_1 (by decide) (by omega) (fun c_1 => ?_) (fun c_1 => ?_)
  · skip
    refine GA.vret rfl dX9_shorten_17 (by omega) (by omega) ?_
    exact ⟨rfl, by first | rw [if_pos (by omega)] | rw [if_neg (by omega)]⟩
  · skip
    refine GA.iload_n dX9_shorten_4 rfl ?_
    refine GA.aload_n dX9_shorten_5 rfl ?_
    refine GA.get xf_X9_21 dX9_shorten_6 (gs_s hi) (by omega) rfl ?_
    refine GA.icmp_ge (tgt := 17) dX9_shorten_9 (by decide) (by omega) (by omega) (fun c_9 => ?_) (fun c_9 => ?_)
    · skip
      refine GA.vret rfl dX9_shorten_17 (by omega) (by omega) ?_
      exact ⟨rfl, by first | rw [if_pos (by omega)] | rw [if_neg (by omega)]⟩
    · skip
      refine GA.aload_n dX9_shorten_12 rfl ?_
      refine GA.iload_n dX9_shorten_13 rfl ?_
      refine GA.putI (xp_X9_21 _) dX9_shorten_14 (gs_s hi) (by omega) (Nat.le_of_ble_eq_true rfl) (gs_s hi) ?_
      refine GA.vret rfl dX9_shorten_17 (by omega) (by omega) ?_
      exact ⟨rfl, by first | rw [if_pos (by omega)] | rw [if_neg (by omega)]⟩
set_option maxHeartbeats 4000000 in
set_option maxRecDepth 20000 in
theorem m_X9_at {p : Int} (i : Nat) (hi : i < 22) (hw : WS S i) (hp : -2147483648 ≤ p ∧ p < 2147483648) : GM l Z L yX9_at cX9_at 2 (some .int) [] d 0 0 [.ref (L (424 + 2 * i)), .int (J p)] S (fun v S' => v = some (.int (J (sAt S i p))) ∧ S = S') (fun _ _ => False) := by
  refine GM.of (by decide) (Nat.le_of_ble_eq_true rfl) ?_
  have hr9 := g_room_le (424 + 2 * i + 1)
  have hw1 := hw.1
  have hw2 := hw.2
  refine GA.iload_n dX9_at_0 rfl ?_
  refine GA.if_lt (tgt := 30) dX9_at_1 (by decide) (by omega) (fun c_1 => ?_) (fun c_1 => ?_)
  · skip
    refine GA.iconst dX9_at_30 ?_
    refine GA.iret rfl dX9_at_31 (by omega) (by omega) ?_
    first | (exfalso; omega) | exact ⟨by unfold sAt; first | rw [if_pos (by omega)] | rw [if_neg (by omega)], rfl⟩
  · skip
    refine GA.iload_n dX9_at_4 rfl ?_
    refine GA.aload_n dX9_at_5 rfl ?_
    refine GA.get xf_X9_21 dX9_at_6 (gs_s hi) (by omega) rfl ?_
    refine GA.icmp_ge (tgt := 30) dX9_at_9 (by decide) (by omega) (by omega) (fun c_9 => ?_) (fun c_9 => ?_)
    · skip
      refine GA.iconst dX9_at_30 ?_
      refine GA.iret rfl dX9_at_31 (by omega) (by omega) ?_
      first | (exfalso; omega) | exact ⟨by unfold sAt; first | rw [if_pos (by omega)] | rw [if_neg (by omega)], rfl⟩
    · skip
      refine GA.iload_n dX9_at_12 rfl ?_
      refine GA.aload_n dX9_at_13 rfl ?_
      refine GA.get xf_X9_15 dX9_at_14 (gs_s hi) (by omega) rfl ?_
      refine GA.alen (by decide) dX9_at_17 (gs_sa hi) (by omega) ?_
      refine GA.icmp_ge (tgt := 30) dX9_at_18 (by decide) (by omega) (by omega) (fun c_18 => ?_) (fun c_18 => ?_)
      · skip
        refine GA.iconst dX9_at_30 ?_
        refine GA.iret rfl dX9_at_31 (by omega) (by omega) ?_
        first | (exfalso; omega) | exact ⟨by unfold sAt; first | rw [if_pos (by omega)] | rw [if_neg (by omega)], rfl⟩
      · skip
        refine GA.aload_n dX9_at_21 rfl ?_
        refine GA.get xf_X9_15 dX9_at_22 (gs_s hi) (by omega) rfl ?_
        refine GA.iload_n dX9_at_25 rfl ?_
        refine GA.cald dX9_at_26 (gs_sa hi) (by omega) (by omega) ?_
        refine GA.goto (tgt := 31) dX9_at_27 (by decide) ?_
        refine GA.iret rfl dX9_at_31 (by omega) (by omega) ?_
        first | (exfalso; omega) | exact ⟨by unfold sAt; first | rw [if_pos (by omega)] | rw [if_neg (by omega)], rfl⟩
set_option maxHeartbeats 4000000 in
set_option maxRecDepth 20000 in
theorem m_X9_add {x : Int} (i : Nat) (hi : i < 22) (hw : WS S i) (hx : 0 ≤ x ∧ x < 65536) : GM l Z L yX9_add cX9_add 2 none [] d 0 0 [.ref (L (424 + 2 * i)), .int (J x)] S (fun v S' => v = none ∧ S' = sAdd S i x) (fun _ _ => False) := by
  refine GM.of (by decide) (Nat.le_of_ble_eq_true rfl) ?_
  have hr9 := g_room_le (424 + 2 * i + 1)
  have hw1 := hw.1
  have hw2 := hw.2
  refine GA.aload_n dX9_add_0 rfl ?_
  refine GA.get xf_X9_21 dX9_add_1 (gs_s hi) (by omega) rfl ?_
  refine GA.if_lt (tgt := 40) dX9_add_4 (by decide) (by omega) (fun c_4 => ?_) (fun c_4 => ?_)
  · skip
    refine GA.vret rfl dX9_add_40 (by omega) (by omega) ?_
    first | (exfalso; omega) | (refine ⟨rfl, ?_⟩; unfold sAdd; first | rw [if_neg (by omega)] | (rw [if_pos (by omega), gI_n (by omega)]))
  · skip
    refine GA.aload_n dX9_add_7 rfl ?_
    refine GA.get xf_X9_21 dX9_add_8 (gs_s hi) (by omega) rfl ?_
    refine GA.aload_n dX9_add_11 rfl ?_
    refine GA.get xf_X9_15 dX9_add_12 (gs_s hi) (by omega) rfl ?_
    refine GA.alen (by decide) dX9_add_15 (gs_sa hi) (by omega) ?_
    refine GA.icmp_ge (tgt := 40) dX9_add_16 (by decide) (by omega) (by omega) (fun c_16 => ?_) (fun c_16 => ?_)
    · skip
      refine GA.vret rfl dX9_add_40 (by omega) (by omega) ?_
      first | (exfalso; omega) | (refine ⟨rfl, ?_⟩; unfold sAdd; first | rw [if_neg (by omega)] | (rw [if_pos (by omega), gI_n (by omega)]))
    · skip
      refine GA.aload_n dX9_add_19 rfl ?_
      refine GA.get xf_X9_15 dX9_add_20 (gs_s hi) (by omega) rfl ?_
      refine GA.aload_n dX9_add_23 rfl ?_
      refine GA.get xf_X9_21 dX9_add_24 (gs_s hi) (by omega) rfl ?_
      refine GA.iload_n dX9_add_27 rfl ?_
      refine GA.i2c dX9_add_28 (by omega) ?_
      refine GA.cast dX9_add_29 (fun _ => (gs_sa hi)) (by omega) (by omega) (by omega) ?_
      refine GA.aload_n dX9_add_30 rfl ?_
      refine GA.dup dX9_add_31 rfl ?_
      refine GA.get xf_X9_21 dX9_add_32 (gs_s hi) (by omega) rfl ?_
      refine GA.iconst dX9_add_35 ?_
      refine GA.iadd dX9_add_36 ?_
      refine GA.putI (xp_X9_21 _) dX9_add_37 (gs_s hi) (by omega) (Nat.le_of_ble_eq_true rfl) (gs_s hi) ?_
      refine GA.vret rfl dX9_add_40 (by omega) (by omega) ?_
      first | (exfalso; omega) | (refine ⟨rfl, ?_⟩; unfold sAdd; first | rw [if_neg (by omega)] | (rw [if_pos (by omega), gI_n (by omega)]))
theorem hexd_r {v : Int} (h : 0 ≤ v ∧ v < 16) : 0 ≤ hexd v ∧ hexd v < 65536 := by
  unfold hexd
  split <;> omega
set_option maxHeartbeats 4000000 in
set_option maxRecDepth 20000 in
theorem m_X9_addWritten {x : Int} (i : Nat) (hi : i < 22) (hw : WS S i) (hx : 0 ≤ x ∧ x < 256) (hd : 1 ≤ d) : GM l Z L yX9_addWritten cX9_addWritten 2 none [] d 0 0 [.ref (L (424 + 2 * i)), .int (J x)] S (fun v S' => v = none ∧ S' = sAdds S i (wrS x)) (fun _ _ => False) := by
  refine GM.of (by decide) (Nat.le_of_ble_eq_true rfl) ?_
  have hr9 := g_room_le (424 + 2 * i + 1)
  have hw1 := hw.1
  have hw2 := hw.2
  refine GA.iload_n dX9_addWritten_0 rfl ?_
  refine GA.bipush dX9_addWritten_1 rfl ?_
  refine GA.icmp_lt (tgt := 36) dX9_addWritten_3 (by decide) (by omega) (by omega) (fun c_3 => ?_) (fun c_3 => ?_)
  · skip
    refine GA.aload_n dX9_addWritten_36 rfl ?_
    refine GA.bipush dX9_addWritten_37 rfl ?_
    refine GA.callV (m_X9_add (d := d - 1) i hi hw (by omega)) xs_X9_34 dX9_addWritten_39 (gs_s hi) (by omega) rfl rfl (by omega) (by decide) rfl (Nat.le_of_ble_eq_true rfl) (by omega) (by omega) rfl (fun E S9 hx => hx.elim) (fun v S_39 hq => ?_)
    obtain ⟨rfl, e_39⟩ := hq
    have w_39 : WS S_39 i := by rw [e_39]; exact WS.add hw
    refine GA.aload_n dX9_addWritten_42 rfl ?_
    refine GA.bipush dX9_addWritten_43 rfl ?_
    refine GA.callV (m_X9_add (d := d - 1) i hi w_39 (by omega)) xs_X9_34 dX9_addWritten_45 (gs_s hi) (by omega) rfl rfl (by omega) (by decide) rfl (Nat.le_of_ble_eq_true rfl) (by omega) (by omega) rfl (fun E S9 hx => hx.elim) (fun v S_45 hq => ?_)
    obtain ⟨rfl, e_45⟩ := hq
    have w_45 : WS S_45 i := by rw [e_45]; exact WS.add w_39
    refine GA.aload_n dX9_addWritten_48 rfl ?_
    refine GA.bipush dX9_addWritten_49 rfl ?_
    refine GA.callV (m_X9_add (d := d - 1) i hi w_45 (by omega)) xs_X9_34 dX9_addWritten_51 (gs_s hi) (by omega) rfl rfl (by omega) (by decide) rfl (Nat.le_of_ble_eq_true rfl) (by omega) (by omega) rfl (fun E S9 hx => hx.elim) (fun v S_51 hq => ?_)
    obtain ⟨rfl, e_51⟩ := hq
    have w_51 : WS S_51 i := by rw [e_51]; exact WS.add w_45
    refine GA.aload_n dX9_addWritten_54 rfl ?_
    refine GA.bipush dX9_addWritten_55 rfl ?_
    refine GA.callV (m_X9_add (d := d - 1) i hi w_51 (by omega)) xs_X9_34 dX9_addWritten_57 (gs_s hi) (by omega) rfl rfl (by omega) (by decide) rfl (Nat.le_of_ble_eq_true rfl) (by omega) (by omega) rfl (fun E S9 hx => hx.elim) (fun v S_57 hq => ?_)
    obtain ⟨rfl, e_57⟩ := hq
    have w_57 : WS S_57 i := by rw [e_57]; exact WS.add w_51
    refine GA.aload_n dX9_addWritten_60 rfl ?_
    refine GA.iload_n dX9_addWritten_61 rfl ?_
    refine GA.bipush dX9_addWritten_62 rfl ?_
    refine GA.idiv dX9_addWritten_64 (by omega) (by omega) ?_
    refine GA.bipush dX9_addWritten_65 rfl ?_
    refine GA.irem dX9_addWritten_67 (by omega) (by omega) ?_
    refine GA.bipush dX9_addWritten_68 rfl ?_
    refine GA.icmp_ge (tgt := 86) dX9_addWritten_70 (by decide) (by omega) (by omega) (fun c_70 => ?_) (fun c_70 => ?_)
    · skip
      refine GA.bipush dX9_addWritten_86 rfl ?_
      refine GA.iload_n dX9_addWritten_88 rfl ?_
      refine GA.bipush dX9_addWritten_89 rfl ?_
      refine GA.idiv dX9_addWritten_91 (by omega) (by omega) ?_
      refine GA.bipush dX9_addWritten_92 rfl ?_
      refine GA.irem dX9_addWritten_94 (by omega) (by omega) ?_
      refine GA.iadd dX9_addWritten_95 ?_
      refine GA.callV (m_X9_add (d := d - 1) i hi w_57 (by omega)) xs_X9_34 dX9_addWritten_96 (gs_s hi) (by omega) rfl rfl (by omega) (by decide) rfl (Nat.le_of_ble_eq_true rfl) (by omega) (by omega) rfl (fun E S9 hx => hx.elim) (fun v S_96 hq => ?_)
      obtain ⟨rfl, e_96⟩ := hq
      have w_96 : WS S_96 i := by rw [e_96]; exact WS.add w_57
      refine GA.aload_n dX9_addWritten_99 rfl ?_
      refine GA.iload_n dX9_addWritten_100 rfl ?_
      refine GA.bipush dX9_addWritten_101 rfl ?_
      refine GA.irem dX9_addWritten_103 (by omega) (by omega) ?_
      refine GA.bipush dX9_addWritten_104 rfl ?_
      refine GA.icmp_ge (tgt := 119) dX9_addWritten_106 (by decide) (by omega) (by omega) (fun c_106 => ?_) (fun c_106 => ?_)
      · skip
        refine GA.bipush dX9_addWritten_119 rfl ?_
        refine GA.iload_n dX9_addWritten_121 rfl ?_
        refine GA.bipush dX9_addWritten_122 rfl ?_
        refine GA.irem dX9_addWritten_124 (by omega) (by omega) ?_
        refine GA.iadd dX9_addWritten_125 ?_
        refine GA.callV (m_X9_add (d := d - 1) i hi w_96 (by omega)) xs_X9_34 dX9_addWritten_126 (gs_s hi) (by omega) rfl rfl (by omega) (by decide) rfl (Nat.le_of_ble_eq_true rfl) (by omega) (by omega) rfl (fun E S9 hx => hx.elim) (fun v S_126 hq => ?_)
        obtain ⟨rfl, e_126⟩ := hq
        have w_126 : WS S_126 i := by rw [e_126]; exact WS.add w_96
        refine GA.vret rfl dX9_addWritten_129 (by omega) (by omega) ?_
        refine ⟨rfl, ?_⟩
        unfold wrS
        first | (rw [if_pos (by omega), if_pos (by omega)]; simp only [*]; rfl) | (rw [if_pos (by omega), if_neg (by omega)]; simp only [*]; rfl) | (rw [if_neg (by omega)]; unfold hexd; first | (rw [if_pos (by omega), if_pos (by omega)]; simp only [*]; rfl) | (rw [if_pos (by omega), if_neg (by omega)]; simp only [*]; rfl) | (rw [if_neg (by omega), if_pos (by omega)]; simp only [*]; rfl) | (rw [if_neg (by omega), if_neg (by omega)]; simp only [*]; rfl))
      · skip
        refine GA.bipush dX9_addWritten_109 rfl ?_
        refine GA.iload_n dX9_addWritten_111 rfl ?_
        refine GA.bipush dX9_addWritten_112 rfl ?_
        refine GA.irem dX9_addWritten_114 (by omega) (by omega) ?_
        refine GA.iadd dX9_addWritten_115 ?_
        refine GA.goto (tgt := 126) dX9_addWritten_116 (by decide) ?_
        refine GA.callV (m_X9_add (d := d - 1) i hi w_96 (by omega)) xs_X9_34 dX9_addWritten_126 (gs_s hi) (by omega) rfl rfl (by omega) (by decide) rfl (Nat.le_of_ble_eq_true rfl) (by omega) (by omega) rfl (fun E S9 hx => hx.elim) (fun v S_126 hq => ?_)
        obtain ⟨rfl, e_126⟩ := hq
        have w_126 : WS S_126 i := by rw [e_126]; exact WS.add w_96
        refine GA.vret rfl dX9_addWritten_129 (by omega) (by omega) ?_
        refine ⟨rfl, ?_⟩
        unfold wrS
        first | (rw [if_pos (by omega), if_pos (by omega)]; simp only [*]; rfl) | (rw [if_pos (by omega), if_neg (by omega)]; simp only [*]; rfl) | (rw [if_neg (by omega)]; unfold hexd; first | (rw [if_pos (by omega), if_pos (by omega)]; simp only [*]; rfl) | (rw [if_pos (by omega), if_neg (by omega)]; simp only [*]; rfl) | (rw [if_neg (by omega), if_pos (by omega)]; simp only [*]; rfl) | (rw [if_neg (by omega), if_neg (by omega)]; simp only [*]; rfl))
    · skip
      refine GA.bipush dX9_addWritten_73 rfl ?_
      refine GA.iload_n dX9_addWritten_75 rfl ?_
      refine GA.bipush dX9_addWritten_76 rfl ?_
      refine GA.idiv dX9_addWritten_78 (by omega) (by omega) ?_
      refine GA.bipush dX9_addWritten_79 rfl ?_
      refine GA.irem dX9_addWritten_81 (by omega) (by omega) ?_
      refine GA.iadd dX9_addWritten_82 ?_
      refine GA.goto (tgt := 96) dX9_addWritten_83 (by decide) ?_
      refine GA.callV (m_X9_add (d := d - 1) i hi w_57 (by omega)) xs_X9_34 dX9_addWritten_96 (gs_s hi) (by omega) rfl rfl (by omega) (by decide) rfl (Nat.le_of_ble_eq_true rfl) (by omega) (by omega) rfl (fun E S9 hx => hx.elim) (fun v S_96 hq => ?_)
      obtain ⟨rfl, e_96⟩ := hq
      have w_96 : WS S_96 i := by rw [e_96]; exact WS.add w_57
      refine GA.aload_n dX9_addWritten_99 rfl ?_
      refine GA.iload_n dX9_addWritten_100 rfl ?_
      refine GA.bipush dX9_addWritten_101 rfl ?_
      refine GA.irem dX9_addWritten_103 (by omega) (by omega) ?_
      refine GA.bipush dX9_addWritten_104 rfl ?_
      refine GA.icmp_ge (tgt := 119) dX9_addWritten_106 (by decide) (by omega) (by omega) (fun c_106 => ?_) (fun c_106 => ?_)
      · skip
        refine GA.bipush dX9_addWritten_119 rfl ?_
        refine GA.iload_n dX9_addWritten_121 rfl ?_
        refine GA.bipush dX9_addWritten_122 rfl ?_
        refine GA.irem dX9_addWritten_124 (by omega) (by omega) ?_
        refine GA.iadd dX9_addWritten_125 ?_
        refine GA.callV (m_X9_add (d := d - 1) i hi w_96 (by omega)) xs_X9_34 dX9_addWritten_126 (gs_s hi) (by omega) rfl rfl (by omega) (by decide) rfl (Nat.le_of_ble_eq_true rfl) (by omega) (by omega) rfl (fun E S9 hx => hx.elim) (fun v S_126 hq => ?_)
        obtain ⟨rfl, e_126⟩ := hq
        have w_126 : WS S_126 i := by rw [e_126]; exact WS.add w_96
        refine GA.vret rfl dX9_addWritten_129 (by omega) (by omega) ?_
        refine ⟨rfl, ?_⟩
        unfold wrS
        first | (rw [if_pos (by omega), if_pos (by omega)]; simp only [*]; rfl) | (rw [if_pos (by omega), if_neg (by omega)]; simp only [*]; rfl) | (rw [if_neg (by omega)]; unfold hexd; first | (rw [if_pos (by omega), if_pos (by omega)]; simp only [*]; rfl) | (rw [if_pos (by omega), if_neg (by omega)]; simp only [*]; rfl) | (rw [if_neg (by omega), if_pos (by omega)]; simp only [*]; rfl) | (rw [if_neg (by omega), if_neg (by omega)]; simp only [*]; rfl))
      · skip
        refine GA.bipush dX9_addWritten_109 rfl ?_
        refine GA.iload_n dX9_addWritten_111 rfl ?_
        refine GA.bipush dX9_addWritten_112 rfl ?_
        refine GA.irem dX9_addWritten_114 (by omega) (by omega) ?_
        refine GA.iadd dX9_addWritten_115 ?_
        refine GA.goto (tgt := 126) dX9_addWritten_116 (by decide) ?_
        refine GA.callV (m_X9_add (d := d - 1) i hi w_96 (by omega)) xs_X9_34 dX9_addWritten_126 (gs_s hi) (by omega) rfl rfl (by omega) (by decide) rfl (Nat.le_of_ble_eq_true rfl) (by omega) (by omega) rfl (fun E S9 hx => hx.elim) (fun v S_126 hq => ?_)
        obtain ⟨rfl, e_126⟩ := hq
        have w_126 : WS S_126 i := by rw [e_126]; exact WS.add w_96
        refine GA.vret rfl dX9_addWritten_129 (by omega) (by omega) ?_
        refine ⟨rfl, ?_⟩
        unfold wrS
        first | (rw [if_pos (by omega), if_pos (by omega)]; simp only [*]; rfl) | (rw [if_pos (by omega), if_neg (by omega)]; simp only [*]; rfl) | (rw [if_neg (by omega)]; unfold hexd; first | (rw [if_pos (by omega), if_pos (by omega)]; simp only [*]; rfl) | (rw [if_pos (by omega), if_neg (by omega)]; simp only [*]; rfl) | (rw [if_neg (by omega), if_pos (by omega)]; simp only [*]; rfl) | (rw [if_neg (by omega), if_neg (by omega)]; simp only [*]; rfl))
  · skip
    refine GA.iload_n dX9_addWritten_6 rfl ?_
    refine GA.bipush dX9_addWritten_7 rfl ?_
    refine GA.icmp_gt (tgt := 36) dX9_addWritten_9 (by decide) (by omega) (by omega) (fun c_9 => ?_) (fun c_9 => ?_)
    · skip
      refine GA.aload_n dX9_addWritten_36 rfl ?_
      refine GA.bipush dX9_addWritten_37 rfl ?_
      refine GA.callV (m_X9_add (d := d - 1) i hi hw (by omega)) xs_X9_34 dX9_addWritten_39 (gs_s hi) (by omega) rfl rfl (by omega) (by decide) rfl (Nat.le_of_ble_eq_true rfl) (by omega) (by omega) rfl (fun E S9 hx => hx.elim) (fun v S_39 hq => ?_)
      obtain ⟨rfl, e_39⟩ := hq
      have w_39 : WS S_39 i := by rw [e_39]; exact WS.add hw
      refine GA.aload_n dX9_addWritten_42 rfl ?_
      refine GA.bipush dX9_addWritten_43 rfl ?_
      refine GA.callV (m_X9_add (d := d - 1) i hi w_39 (by omega)) xs_X9_34 dX9_addWritten_45 (gs_s hi) (by omega) rfl rfl (by omega) (by decide) rfl (Nat.le_of_ble_eq_true rfl) (by omega) (by omega) rfl (fun E S9 hx => hx.elim) (fun v S_45 hq => ?_)
      obtain ⟨rfl, e_45⟩ := hq
      have w_45 : WS S_45 i := by rw [e_45]; exact WS.add w_39
      refine GA.aload_n dX9_addWritten_48 rfl ?_
      refine GA.bipush dX9_addWritten_49 rfl ?_
      refine GA.callV (m_X9_add (d := d - 1) i hi w_45 (by omega)) xs_X9_34 dX9_addWritten_51 (gs_s hi) (by omega) rfl rfl (by omega) (by decide) rfl (Nat.le_of_ble_eq_true rfl) (by omega) (by omega) rfl (fun E S9 hx => hx.elim) (fun v S_51 hq => ?_)
      obtain ⟨rfl, e_51⟩ := hq
      have w_51 : WS S_51 i := by rw [e_51]; exact WS.add w_45
      refine GA.aload_n dX9_addWritten_54 rfl ?_
      refine GA.bipush dX9_addWritten_55 rfl ?_
      refine GA.callV (m_X9_add (d := d - 1) i hi w_51 (by omega)) xs_X9_34 dX9_addWritten_57 (gs_s hi) (by omega) rfl rfl (by omega) (by decide) rfl (Nat.le_of_ble_eq_true rfl) (by omega) (by omega) rfl (fun E S9 hx => hx.elim) (fun v S_57 hq => ?_)
      obtain ⟨rfl, e_57⟩ := hq
      have w_57 : WS S_57 i := by rw [e_57]; exact WS.add w_51
      refine GA.aload_n dX9_addWritten_60 rfl ?_
      refine GA.iload_n dX9_addWritten_61 rfl ?_
      refine GA.bipush dX9_addWritten_62 rfl ?_
      refine GA.idiv dX9_addWritten_64 (by omega) (by omega) ?_
      refine GA.bipush dX9_addWritten_65 rfl ?_
      refine GA.irem dX9_addWritten_67 (by omega) (by omega) ?_
      refine GA.bipush dX9_addWritten_68 rfl ?_
      refine GA.icmp_ge (tgt := 86) dX9_addWritten_70 (by decide) (by omega) (by omega) (fun c_70 => ?_) (fun c_70 => ?_)
      · skip
        refine GA.bipush dX9_addWritten_86 rfl ?_
        refine GA.iload_n dX9_addWritten_88 rfl ?_
        refine GA.bipush dX9_addWritten_89 rfl ?_
        refine GA.idiv dX9_addWritten_91 (by omega) (by omega) ?_
        refine GA.bipush dX9_addWritten_92 rfl ?_
        refine GA.irem dX9_addWritten_94 (by omega) (by omega) ?_
        refine GA.iadd dX9_addWritten_95 ?_
        refine GA.callV (m_X9_add (d := d - 1) i hi w_57 (by omega)) xs_X9_34 dX9_addWritten_96 (gs_s hi) (by omega) rfl rfl (by omega) (by decide) rfl (Nat.le_of_ble_eq_true rfl) (by omega) (by omega) rfl (fun E S9 hx => hx.elim) (fun v S_96 hq => ?_)
        obtain ⟨rfl, e_96⟩ := hq
        have w_96 : WS S_96 i := by rw [e_96]; exact WS.add w_57
        refine GA.aload_n dX9_addWritten_99 rfl ?_
        refine GA.iload_n dX9_addWritten_100 rfl ?_
        refine GA.bipush dX9_addWritten_101 rfl ?_
        refine GA.irem dX9_addWritten_103 (by omega) (by omega) ?_
        refine GA.bipush dX9_addWritten_104 rfl ?_
        refine GA.icmp_ge (tgt := 119) dX9_addWritten_106 (by decide) (by omega) (by omega) (fun c_106 => ?_) (fun c_106 => ?_)
        · skip
          refine GA.bipush dX9_addWritten_119 rfl ?_
          refine GA.iload_n dX9_addWritten_121 rfl ?_
          refine GA.bipush dX9_addWritten_122 rfl ?_
          refine GA.irem dX9_addWritten_124 (by omega) (by omega) ?_
          refine GA.iadd dX9_addWritten_125 ?_
          refine GA.callV (m_X9_add (d := d - 1) i hi w_96 (by omega)) xs_X9_34 dX9_addWritten_126 (gs_s hi) (by omega) rfl rfl (by omega) (by decide) rfl (Nat.le_of_ble_eq_true rfl) (by omega) (by omega) rfl (fun E S9 hx => hx.elim) (fun v S_126 hq => ?_)
          obtain ⟨rfl, e_126⟩ := hq
          have w_126 : WS S_126 i := by rw [e_126]; exact WS.add w_96
          refine GA.vret rfl dX9_addWritten_129 (by omega) (by omega) ?_
          refine ⟨rfl, ?_⟩
          unfold wrS
          first | (rw [if_pos (by omega), if_pos (by omega)]; simp only [*]; rfl) | (rw [if_pos (by omega), if_neg (by omega)]; simp only [*]; rfl) | (rw [if_neg (by omega)]; unfold hexd; first | (rw [if_pos (by omega), if_pos (by omega)]; simp only [*]; rfl) | (rw [if_pos (by omega), if_neg (by omega)]; simp only [*]; rfl) | (rw [if_neg (by omega), if_pos (by omega)]; simp only [*]; rfl) | (rw [if_neg (by omega), if_neg (by omega)]; simp only [*]; rfl))
        · skip
          refine GA.bipush dX9_addWritten_109 rfl ?_
          refine GA.iload_n dX9_addWritten_111 rfl ?_
          refine GA.bipush dX9_addWritten_112 rfl ?_
          refine GA.irem dX9_addWritten_114 (by omega) (by omega) ?_
          refine GA.iadd dX9_addWritten_115 ?_
          refine GA.goto (tgt := 126) dX9_addWritten_116 (by decide) ?_
          refine GA.callV (m_X9_add (d := d - 1) i hi w_96 (by omega)) xs_X9_34 dX9_addWritten_126 (gs_s hi) (by omega) rfl rfl (by omega) (by decide) rfl (Nat.le_of_ble_eq_true rfl) (by omega) (by omega) rfl (fun E S9 hx => hx.elim) (fun v S_126 hq => ?_)
          obtain ⟨rfl, e_126⟩ := hq
          have w_126 : WS S_126 i := by rw [e_126]; exact WS.add w_96
          refine GA.vret rfl dX9_addWritten_129 (by omega) (by omega) ?_
          refine ⟨rfl, ?_⟩
          unfold wrS
          first | (rw [if_pos (by omega), if_pos (by omega)]; simp only [*]; rfl) | (rw [if_pos (by omega), if_neg (by omega)]; simp only [*]; rfl) | (rw [if_neg (by omega)]; unfold hexd; first | (rw [if_pos (by omega), if_pos (by omega)]; simp only [*]; rfl) | (rw [if_pos (by omega), if_neg (by omega)]; simp only [*]; rfl) | (rw [if_neg (by omega), if_pos (by omega)]; simp only [*]; rfl) | (rw [if_neg (by omega), if_neg (by omega)]; simp only [*]; rfl))
      · skip
        refine GA.bipush dX9_addWritten_73 rfl ?_
        refine GA.iload_n dX9_addWritten_75 rfl ?_
        refine GA.bipush dX9_addWritten_76 rfl ?_
        refine GA.idiv dX9_addWritten_78 (by omega) (by omega) ?_
        refine GA.bipush dX9_addWritten_79 rfl ?_
        refine GA.irem dX9_addWritten_81 (by omega) (by omega) ?_
        refine GA.iadd dX9_addWritten_82 ?_
        refine GA.goto (tgt := 96) dX9_addWritten_83 (by decide) ?_
        refine GA.callV (m_X9_add (d := d - 1) i hi w_57 (by omega)) xs_X9_34 dX9_addWritten_96 (gs_s hi) (by omega) rfl rfl (by omega) (by decide) rfl (Nat.le_of_ble_eq_true rfl) (by omega) (by omega) rfl (fun E S9 hx => hx.elim) (fun v S_96 hq => ?_)
        obtain ⟨rfl, e_96⟩ := hq
        have w_96 : WS S_96 i := by rw [e_96]; exact WS.add w_57
        refine GA.aload_n dX9_addWritten_99 rfl ?_
        refine GA.iload_n dX9_addWritten_100 rfl ?_
        refine GA.bipush dX9_addWritten_101 rfl ?_
        refine GA.irem dX9_addWritten_103 (by omega) (by omega) ?_
        refine GA.bipush dX9_addWritten_104 rfl ?_
        refine GA.icmp_ge (tgt := 119) dX9_addWritten_106 (by decide) (by omega) (by omega) (fun c_106 => ?_) (fun c_106 => ?_)
        · skip
          refine GA.bipush dX9_addWritten_119 rfl ?_
          refine GA.iload_n dX9_addWritten_121 rfl ?_
          refine GA.bipush dX9_addWritten_122 rfl ?_
          refine GA.irem dX9_addWritten_124 (by omega) (by omega) ?_
          refine GA.iadd dX9_addWritten_125 ?_
          refine GA.callV (m_X9_add (d := d - 1) i hi w_96 (by omega)) xs_X9_34 dX9_addWritten_126 (gs_s hi) (by omega) rfl rfl (by omega) (by decide) rfl (Nat.le_of_ble_eq_true rfl) (by omega) (by omega) rfl (fun E S9 hx => hx.elim) (fun v S_126 hq => ?_)
          obtain ⟨rfl, e_126⟩ := hq
          have w_126 : WS S_126 i := by rw [e_126]; exact WS.add w_96
          refine GA.vret rfl dX9_addWritten_129 (by omega) (by omega) ?_
          refine ⟨rfl, ?_⟩
          unfold wrS
          first | (rw [if_pos (by omega), if_pos (by omega)]; simp only [*]; rfl) | (rw [if_pos (by omega), if_neg (by omega)]; simp only [*]; rfl) | (rw [if_neg (by omega)]; unfold hexd; first | (rw [if_pos (by omega), if_pos (by omega)]; simp only [*]; rfl) | (rw [if_pos (by omega), if_neg (by omega)]; simp only [*]; rfl) | (rw [if_neg (by omega), if_pos (by omega)]; simp only [*]; rfl) | (rw [if_neg (by omega), if_neg (by omega)]; simp only [*]; rfl))
        · skip
          refine GA.bipush dX9_addWritten_109 rfl ?_
          refine GA.iload_n dX9_addWritten_111 rfl ?_
          refine GA.bipush dX9_addWritten_112 rfl ?_
          refine GA.irem dX9_addWritten_114 (by omega) (by omega) ?_
          refine GA.iadd dX9_addWritten_115 ?_
          refine GA.goto (tgt := 126) dX9_addWritten_116 (by decide) ?_
          refine GA.callV (m_X9_add (d := d - 1) i hi w_96 (by omega)) xs_X9_34 dX9_addWritten_126 (gs_s hi) (by omega) rfl rfl (by omega) (by decide) rfl (Nat.le_of_ble_eq_true rfl) (by omega) (by omega) rfl (fun E S9 hx => hx.elim) (fun v S_126 hq => ?_)
          obtain ⟨rfl, e_126⟩ := hq
          have w_126 : WS S_126 i := by rw [e_126]; exact WS.add w_96
          refine GA.vret rfl dX9_addWritten_129 (by omega) (by omega) ?_
          refine ⟨rfl, ?_⟩
          unfold wrS
          first | (rw [if_pos (by omega), if_pos (by omega)]; simp only [*]; rfl) | (rw [if_pos (by omega), if_neg (by omega)]; simp only [*]; rfl) | (rw [if_neg (by omega)]; unfold hexd; first | (rw [if_pos (by omega), if_pos (by omega)]; simp only [*]; rfl) | (rw [if_pos (by omega), if_neg (by omega)]; simp only [*]; rfl) | (rw [if_neg (by omega), if_pos (by omega)]; simp only [*]; rfl) | (rw [if_neg (by omega), if_neg (by omega)]; simp only [*]; rfl))
    · skip
      refine GA.iload_n dX9_addWritten_12 rfl ?_
      refine GA.bipush dX9_addWritten_13 rfl ?_
      refine GA.icmp_eq (tgt := 24) dX9_addWritten_15 (by decide) (by omega) (by omega) (fun c_15 => ?_) (fun c_15 => ?_)
      · skip
        refine GA.aload_n dX9_addWritten_24 rfl ?_
        refine GA.bipush dX9_addWritten_25 rfl ?_
        refine GA.callV (m_X9_add (d := d - 1) i hi hw (by omega)) xs_X9_34 dX9_addWritten_27 (gs_s hi) (by omega) rfl rfl (by omega) (by decide) rfl (Nat.le_of_ble_eq_true rfl) (by omega) (by omega) rfl (fun E S9 hx => hx.elim) (fun v S_27 hq => ?_)
        obtain ⟨rfl, e_27⟩ := hq
        have w_27 : WS S_27 i := by rw [e_27]; exact WS.add hw
        refine GA.aload_n dX9_addWritten_30 rfl ?_
        refine GA.iload_n dX9_addWritten_31 rfl ?_
        refine GA.callV (m_X9_add (d := d - 1) i hi w_27 (by omega)) xs_X9_34 dX9_addWritten_32 (gs_s hi) (by omega) rfl rfl (by omega) (by decide) rfl (Nat.le_of_ble_eq_true rfl) (by omega) (by omega) rfl (fun E S9 hx => hx.elim) (fun v S_32 hq => ?_)
        obtain ⟨rfl, e_32⟩ := hq
        have w_32 : WS S_32 i := by rw [e_32]; exact WS.add w_27
        refine GA.vret rfl dX9_addWritten_35 (by omega) (by omega) ?_
        refine ⟨rfl, ?_⟩
        unfold wrS
        first | (rw [if_pos (by omega), if_pos (by omega)]; simp only [*]; rfl) | (rw [if_pos (by omega), if_neg (by omega)]; simp only [*]; rfl) | (rw [if_neg (by omega)]; unfold hexd; first | (rw [if_pos (by omega), if_pos (by omega)]; simp only [*]; rfl) | (rw [if_pos (by omega), if_neg (by omega)]; simp only [*]; rfl) | (rw [if_neg (by omega), if_pos (by omega)]; simp only [*]; rfl) | (rw [if_neg (by omega), if_neg (by omega)]; simp only [*]; rfl))
      · skip
        refine GA.iload_n dX9_addWritten_18 rfl ?_
        refine GA.bipush dX9_addWritten_19 rfl ?_
        refine GA.icmp_ne (tgt := 30) dX9_addWritten_21 (by decide) (by omega) (by omega) (fun c_21 => ?_) (fun c_21 => ?_)
        · skip
          refine GA.aload_n dX9_addWritten_30 rfl ?_
          refine GA.iload_n dX9_addWritten_31 rfl ?_
          refine GA.callV (m_X9_add (d := d - 1) i hi hw (by omega)) xs_X9_34 dX9_addWritten_32 (gs_s hi) (by omega) rfl rfl (by omega) (by decide) rfl (Nat.le_of_ble_eq_true rfl) (by omega) (by omega) rfl (fun E S9 hx => hx.elim) (fun v S_32 hq => ?_)
          obtain ⟨rfl, e_32⟩ := hq
          have w_32 : WS S_32 i := by rw [e_32]; exact WS.add hw
          refine GA.vret rfl dX9_addWritten_35 (by omega) (by omega) ?_
          refine ⟨rfl, ?_⟩
          unfold wrS
          first | (rw [if_pos (by omega), if_pos (by omega)]; simp only [*]; rfl) | (rw [if_pos (by omega), if_neg (by omega)]; simp only [*]; rfl) | (rw [if_neg (by omega)]; unfold hexd; first | (rw [if_pos (by omega), if_pos (by omega)]; simp only [*]; rfl) | (rw [if_pos (by omega), if_neg (by omega)]; simp only [*]; rfl) | (rw [if_neg (by omega), if_pos (by omega)]; simp only [*]; rfl) | (rw [if_neg (by omega), if_neg (by omega)]; simp only [*]; rfl))
        · skip
          refine GA.aload_n dX9_addWritten_24 rfl ?_
          refine GA.bipush dX9_addWritten_25 rfl ?_
          refine GA.callV (m_X9_add (d := d - 1) i hi hw (by omega)) xs_X9_34 dX9_addWritten_27 (gs_s hi) (by omega) rfl rfl (by omega) (by decide) rfl (Nat.le_of_ble_eq_true rfl) (by omega) (by omega) rfl (fun E S9 hx => hx.elim) (fun v S_27 hq => ?_)
          obtain ⟨rfl, e_27⟩ := hq
          have w_27 : WS S_27 i := by rw [e_27]; exact WS.add hw
          refine GA.aload_n dX9_addWritten_30 rfl ?_
          refine GA.iload_n dX9_addWritten_31 rfl ?_
          refine GA.callV (m_X9_add (d := d - 1) i hi w_27 (by omega)) xs_X9_34 dX9_addWritten_32 (gs_s hi) (by omega) rfl rfl (by omega) (by decide) rfl (Nat.le_of_ble_eq_true rfl) (by omega) (by omega) rfl (fun E S9 hx => hx.elim) (fun v S_32 hq => ?_)
          obtain ⟨rfl, e_32⟩ := hq
          have w_32 : WS S_32 i := by rw [e_32]; exact WS.add w_27
          refine GA.vret rfl dX9_addWritten_35 (by omega) (by omega) ?_
          refine ⟨rfl, ?_⟩
          unfold wrS
          first | (rw [if_pos (by omega), if_pos (by omega)]; simp only [*]; rfl) | (rw [if_pos (by omega), if_neg (by omega)]; simp only [*]; rfl) | (rw [if_neg (by omega)]; unfold hexd; first | (rw [if_pos (by omega), if_pos (by omega)]; simp only [*]; rfl) | (rw [if_pos (by omega), if_neg (by omega)]; simp only [*]; rfl) | (rw [if_neg (by omega), if_pos (by omega)]; simp only [*]; rfl) | (rw [if_neg (by omega), if_neg (by omega)]; simp only [*]; rfl))
set_option maxHeartbeats 4000000 in
set_option maxRecDepth 20000 in
theorem m_X9_addNumber {x : Int} (i : Nat) (hi : i < 22) (hw : WS S i) (hx : -1000 < x ∧ x < 1000) (hd : 1 ≤ d) : GM l Z L yX9_addNumber cX9_addNumber 3 none [] d 0 0 [.ref (L (424 + 2 * i)), .int (J x)] S (fun v S' => v = none ∧ S' = sAdds S i (numL x)) (fun _ _ => False) := by
  refine GM.of (by decide) (Nat.le_of_ble_eq_true rfl) ?_
  have hr9 := g_room_le (424 + 2 * i + 1)
  have hw1 := hw.1
  have hw2 := hw.2
  refine GA.iload_n dX9_addNumber_0 rfl ?_
  refine GA.mabs xs_X9_43 dX9_addNumber_1 (by omega) (Nat.le_of_ble_eq_true rfl) (by omega) (by omega) ?_
  refine GA.istore_n dX9_addNumber_4 (by decide) ?_
  refine GA.iload_n dX9_addNumber_5 rfl ?_
  refine GA.if_ge (tgt := 15) dX9_addNumber_6 (by decide) (by omega) (fun c_6 => ?_) (fun c_6 => ?_)
  · skip
    refine GA.iload_n dX9_addNumber_15 rfl ?_
    refine GA.bipush dX9_addNumber_16 rfl ?_
    refine GA.icmp_le (tgt := 35) dX9_addNumber_18 (by decide) (by omega) (by omega) (fun c_18 => ?_) (fun c_18 => ?_)
    · skip
      refine GA.iload_n dX9_addNumber_35 rfl ?_
      refine GA.bipush dX9_addNumber_36 rfl ?_
      refine GA.icmp_le (tgt := 55) dX9_addNumber_38 (by decide) (by omega) (by omega) (fun c_38 => ?_) (fun c_38 => ?_)
      · skip
        refine GA.aload_n dX9_addNumber_55 rfl ?_
        refine GA.bipush dX9_addNumber_56 rfl ?_
        refine GA.iload_n dX9_addNumber_58 rfl ?_
        refine GA.bipush dX9_addNumber_59 rfl ?_
        refine GA.irem dX9_addNumber_61 (by omega) (by omega) ?_
        refine GA.iadd dX9_addNumber_62 ?_
        refine GA.callV (m_X9_add (d := d - 1) i hi hw (by omega)) xs_X9_34 dX9_addNumber_63 (gs_s hi) (by omega) rfl rfl (by omega) (by decide) rfl (Nat.le_of_ble_eq_true rfl) (by omega) (by omega) rfl (fun E S9 hx => hx.elim) (fun v S_63 hq => ?_)
        obtain ⟨rfl, e_63⟩ := hq
        have w_63 : WS S_63 i := by rw [e_63]; exact WS.add hw
        refine GA.vret rfl dX9_addNumber_66 (by omega) (by omega) ?_
        refine ⟨rfl, ?_⟩
        unfold numL
        dsimp only
        simp only [e_63]
        iterate 3 (all_goals (try split))
        all_goals first | (exfalso; omega) | rfl
      · skip
        refine GA.aload_n dX9_addNumber_41 rfl ?_
        refine GA.bipush dX9_addNumber_42 rfl ?_
        refine GA.iload_n dX9_addNumber_44 rfl ?_
        refine GA.bipush dX9_addNumber_45 rfl ?_
        refine GA.idiv dX9_addNumber_47 (by omega) (by omega) ?_
        refine GA.bipush dX9_addNumber_48 rfl ?_
        refine GA.irem dX9_addNumber_50 (by omega) (by omega) ?_
        refine GA.iadd dX9_addNumber_51 ?_
        refine GA.callV (m_X9_add (d := d - 1) i hi hw (by omega)) xs_X9_34 dX9_addNumber_52 (gs_s hi) (by omega) rfl rfl (by omega) (by decide) rfl (Nat.le_of_ble_eq_true rfl) (by omega) (by omega) rfl (fun E S9 hx => hx.elim) (fun v S_52 hq => ?_)
        obtain ⟨rfl, e_52⟩ := hq
        have w_52 : WS S_52 i := by rw [e_52]; exact WS.add hw
        refine GA.aload_n dX9_addNumber_55 rfl ?_
        refine GA.bipush dX9_addNumber_56 rfl ?_
        refine GA.iload_n dX9_addNumber_58 rfl ?_
        refine GA.bipush dX9_addNumber_59 rfl ?_
        refine GA.irem dX9_addNumber_61 (by omega) (by omega) ?_
        refine GA.iadd dX9_addNumber_62 ?_
        refine GA.callV (m_X9_add (d := d - 1) i hi w_52 (by omega)) xs_X9_34 dX9_addNumber_63 (gs_s hi) (by omega) rfl rfl (by omega) (by decide) rfl (Nat.le_of_ble_eq_true rfl) (by omega) (by omega) rfl (fun E S9 hx => hx.elim) (fun v S_63 hq => ?_)
        obtain ⟨rfl, e_63⟩ := hq
        have w_63 : WS S_63 i := by rw [e_63]; exact WS.add w_52
        refine GA.vret rfl dX9_addNumber_66 (by omega) (by omega) ?_
        refine ⟨rfl, ?_⟩
        unfold numL
        dsimp only
        simp only [e_63, e_52]
        iterate 3 (all_goals (try split))
        all_goals first | (exfalso; omega) | rfl
    · skip
      refine GA.aload_n dX9_addNumber_21 rfl ?_
      refine GA.bipush dX9_addNumber_22 rfl ?_
      refine GA.iload_n dX9_addNumber_24 rfl ?_
      refine GA.bipush dX9_addNumber_25 rfl ?_
      refine GA.idiv dX9_addNumber_27 (by omega) (by omega) ?_
      refine GA.bipush dX9_addNumber_28 rfl ?_
      refine GA.irem dX9_addNumber_30 (by omega) (by omega) ?_
      refine GA.iadd dX9_addNumber_31 ?_
      refine GA.callV (m_X9_add (d := d - 1) i hi hw (by omega)) xs_X9_34 dX9_addNumber_32 (gs_s hi) (by omega) rfl rfl (by omega) (by decide) rfl (Nat.le_of_ble_eq_true rfl) (by omega) (by omega) rfl (fun E S9 hx => hx.elim) (fun v S_32 hq => ?_)
      obtain ⟨rfl, e_32⟩ := hq
      have w_32 : WS S_32 i := by rw [e_32]; exact WS.add hw
      refine GA.iload_n dX9_addNumber_35 rfl ?_
      refine GA.bipush dX9_addNumber_36 rfl ?_
      refine GA.icmp_le (tgt := 55) dX9_addNumber_38 (by decide) (by omega) (by omega) (fun c_38 => ?_) (fun c_38 => ?_)
      · skip
        refine GA.aload_n dX9_addNumber_55 rfl ?_
        refine GA.bipush dX9_addNumber_56 rfl ?_
        refine GA.iload_n dX9_addNumber_58 rfl ?_
        refine GA.bipush dX9_addNumber_59 rfl ?_
        refine GA.irem dX9_addNumber_61 (by omega) (by omega) ?_
        refine GA.iadd dX9_addNumber_62 ?_
        refine GA.callV (m_X9_add (d := d - 1) i hi w_32 (by omega)) xs_X9_34 dX9_addNumber_63 (gs_s hi) (by omega) rfl rfl (by omega) (by decide) rfl (Nat.le_of_ble_eq_true rfl) (by omega) (by omega) rfl (fun E S9 hx => hx.elim) (fun v S_63 hq => ?_)
        obtain ⟨rfl, e_63⟩ := hq
        have w_63 : WS S_63 i := by rw [e_63]; exact WS.add w_32
        refine GA.vret rfl dX9_addNumber_66 (by omega) (by omega) ?_
        refine ⟨rfl, ?_⟩
        unfold numL
        dsimp only
        simp only [e_63, e_32]
        iterate 3 (all_goals (try split))
        all_goals first | (exfalso; omega) | rfl
      · skip
        refine GA.aload_n dX9_addNumber_41 rfl ?_
        refine GA.bipush dX9_addNumber_42 rfl ?_
        refine GA.iload_n dX9_addNumber_44 rfl ?_
        refine GA.bipush dX9_addNumber_45 rfl ?_
        refine GA.idiv dX9_addNumber_47 (by omega) (by omega) ?_
        refine GA.bipush dX9_addNumber_48 rfl ?_
        refine GA.irem dX9_addNumber_50 (by omega) (by omega) ?_
        refine GA.iadd dX9_addNumber_51 ?_
        refine GA.callV (m_X9_add (d := d - 1) i hi w_32 (by omega)) xs_X9_34 dX9_addNumber_52 (gs_s hi) (by omega) rfl rfl (by omega) (by decide) rfl (Nat.le_of_ble_eq_true rfl) (by omega) (by omega) rfl (fun E S9 hx => hx.elim) (fun v S_52 hq => ?_)
        obtain ⟨rfl, e_52⟩ := hq
        have w_52 : WS S_52 i := by rw [e_52]; exact WS.add w_32
        refine GA.aload_n dX9_addNumber_55 rfl ?_
        refine GA.bipush dX9_addNumber_56 rfl ?_
        refine GA.iload_n dX9_addNumber_58 rfl ?_
        refine GA.bipush dX9_addNumber_59 rfl ?_
        refine GA.irem dX9_addNumber_61 (by omega) (by omega) ?_
        refine GA.iadd dX9_addNumber_62 ?_
        refine GA.callV (m_X9_add (d := d - 1) i hi w_52 (by omega)) xs_X9_34 dX9_addNumber_63 (gs_s hi) (by omega) rfl rfl (by omega) (by decide) rfl (Nat.le_of_ble_eq_true rfl) (by omega) (by omega) rfl (fun E S9 hx => hx.elim) (fun v S_63 hq => ?_)
        obtain ⟨rfl, e_63⟩ := hq
        have w_63 : WS S_63 i := by rw [e_63]; exact WS.add w_52
        refine GA.vret rfl dX9_addNumber_66 (by omega) (by omega) ?_
        refine ⟨rfl, ?_⟩
        unfold numL
        dsimp only
        simp only [e_63, e_52, e_32]
        iterate 3 (all_goals (try split))
        all_goals first | (exfalso; omega) | rfl
  · skip
    refine GA.aload_n dX9_addNumber_9 rfl ?_
    refine GA.bipush dX9_addNumber_10 rfl ?_
    refine GA.callV (m_X9_add (d := d - 1) i hi hw (by omega)) xs_X9_34 dX9_addNumber_12 (gs_s hi) (by omega) rfl rfl (by omega) (by decide) rfl (Nat.le_of_ble_eq_true rfl) (by omega) (by omega) rfl (fun E S9 hx => hx.elim) (fun v S_12 hq => ?_)
    obtain ⟨rfl, e_12⟩ := hq
    have w_12 : WS S_12 i := by rw [e_12]; exact WS.add hw
    refine GA.iload_n dX9_addNumber_15 rfl ?_
    refine GA.bipush dX9_addNumber_16 rfl ?_
    refine GA.icmp_le (tgt := 35) dX9_addNumber_18 (by decide) (by omega) (by omega) (fun c_18 => ?_) (fun c_18 => ?_)
    · skip
      refine GA.iload_n dX9_addNumber_35 rfl ?_
      refine GA.bipush dX9_addNumber_36 rfl ?_
      refine GA.icmp_le (tgt := 55) dX9_addNumber_38 (by decide) (by omega) (by omega) (fun c_38 => ?_) (fun c_38 => ?_)
      · skip
        refine GA.aload_n dX9_addNumber_55 rfl ?_
        refine GA.bipush dX9_addNumber_56 rfl ?_
        refine GA.iload_n dX9_addNumber_58 rfl ?_
        refine GA.bipush dX9_addNumber_59 rfl ?_
        refine GA.irem dX9_addNumber_61 (by omega) (by omega) ?_
        refine GA.iadd dX9_addNumber_62 ?_
        refine GA.callV (m_X9_add (d := d - 1) i hi w_12 (by omega)) xs_X9_34 dX9_addNumber_63 (gs_s hi) (by omega) rfl rfl (by omega) (by decide) rfl (Nat.le_of_ble_eq_true rfl) (by omega) (by omega) rfl (fun E S9 hx => hx.elim) (fun v S_63 hq => ?_)
        obtain ⟨rfl, e_63⟩ := hq
        have w_63 : WS S_63 i := by rw [e_63]; exact WS.add w_12
        refine GA.vret rfl dX9_addNumber_66 (by omega) (by omega) ?_
        refine ⟨rfl, ?_⟩
        unfold numL
        dsimp only
        simp only [e_63, e_12]
        iterate 3 (all_goals (try split))
        all_goals first | (exfalso; omega) | rfl
      · skip
        refine GA.aload_n dX9_addNumber_41 rfl ?_
        refine GA.bipush dX9_addNumber_42 rfl ?_
        refine GA.iload_n dX9_addNumber_44 rfl ?_
        refine GA.bipush dX9_addNumber_45 rfl ?_
        refine GA.idiv dX9_addNumber_47 (by omega) (by omega) ?_
        refine GA.bipush dX9_addNumber_48 rfl ?_
        refine GA.irem dX9_addNumber_50 (by omega) (by omega) ?_
        refine GA.iadd dX9_addNumber_51 ?_
        refine GA.callV (m_X9_add (d := d - 1) i hi w_12 (by omega)) xs_X9_34 dX9_addNumber_52 (gs_s hi) (by omega) rfl rfl (by omega) (by decide) rfl (Nat.le_of_ble_eq_true rfl) (by omega) (by omega) rfl (fun E S9 hx => hx.elim) (fun v S_52 hq => ?_)
        obtain ⟨rfl, e_52⟩ := hq
        have w_52 : WS S_52 i := by rw [e_52]; exact WS.add w_12
        refine GA.aload_n dX9_addNumber_55 rfl ?_
        refine GA.bipush dX9_addNumber_56 rfl ?_
        refine GA.iload_n dX9_addNumber_58 rfl ?_
        refine GA.bipush dX9_addNumber_59 rfl ?_
        refine GA.irem dX9_addNumber_61 (by omega) (by omega) ?_
        refine GA.iadd dX9_addNumber_62 ?_
        refine GA.callV (m_X9_add (d := d - 1) i hi w_52 (by omega)) xs_X9_34 dX9_addNumber_63 (gs_s hi) (by omega) rfl rfl (by omega) (by decide) rfl (Nat.le_of_ble_eq_true rfl) (by omega) (by omega) rfl (fun E S9 hx => hx.elim) (fun v S_63 hq => ?_)
        obtain ⟨rfl, e_63⟩ := hq
        have w_63 : WS S_63 i := by rw [e_63]; exact WS.add w_52
        refine GA.vret rfl dX9_addNumber_66 (by omega) (by omega) ?_
        refine ⟨rfl, ?_⟩
        unfold numL
        dsimp only
        simp only [e_63, e_52, e_12]
        iterate 3 (all_goals (try split))
        all_goals first | (exfalso; omega) | rfl
    · skip
      refine GA.aload_n dX9_addNumber_21 rfl ?_
      refine GA.bipush dX9_addNumber_22 rfl ?_
      refine GA.iload_n dX9_addNumber_24 rfl ?_
      refine GA.bipush dX9_addNumber_25 rfl ?_
      refine GA.idiv dX9_addNumber_27 (by omega) (by omega) ?_
      refine GA.bipush dX9_addNumber_28 rfl ?_
      refine GA.irem dX9_addNumber_30 (by omega) (by omega) ?_
      refine GA.iadd dX9_addNumber_31 ?_
      refine GA.callV (m_X9_add (d := d - 1) i hi w_12 (by omega)) xs_X9_34 dX9_addNumber_32 (gs_s hi) (by omega) rfl rfl (by omega) (by decide) rfl (Nat.le_of_ble_eq_true rfl) (by omega) (by omega) rfl (fun E S9 hx => hx.elim) (fun v S_32 hq => ?_)
      obtain ⟨rfl, e_32⟩ := hq
      have w_32 : WS S_32 i := by rw [e_32]; exact WS.add w_12
      refine GA.iload_n dX9_addNumber_35 rfl ?_
      refine GA.bipush dX9_addNumber_36 rfl ?_
      refine GA.icmp_le (tgt := 55) dX9_addNumber_38 (by decide) (by omega) (by omega) (fun c_38 => ?_) (fun c_38 => ?_)
      · skip
        refine GA.aload_n dX9_addNumber_55 rfl ?_
        refine GA.bipush dX9_addNumber_56 rfl ?_
        refine GA.iload_n dX9_addNumber_58 rfl ?_
        refine GA.bipush dX9_addNumber_59 rfl ?_
        refine GA.irem dX9_addNumber_61 (by omega) (by omega) ?_
        refine GA.iadd dX9_addNumber_62 ?_
        refine GA.callV (m_X9_add (d := d - 1) i hi w_32 (by omega)) xs_X9_34 dX9_addNumber_63 (gs_s hi) (by omega) rfl rfl (by omega) (by decide) rfl (Nat.le_of_ble_eq_true rfl) (by omega) (by omega) rfl (fun E S9 hx => hx.elim) (fun v S_63 hq => ?_)
        obtain ⟨rfl, e_63⟩ := hq
        have w_63 : WS S_63 i := by rw [e_63]; exact WS.add w_32
        refine GA.vret rfl dX9_addNumber_66 (by omega) (by omega) ?_
        refine ⟨rfl, ?_⟩
        unfold numL
        dsimp only
        simp only [e_63, e_32, e_12]
        iterate 3 (all_goals (try split))
        all_goals first | (exfalso; omega) | rfl
      · skip
        refine GA.aload_n dX9_addNumber_41 rfl ?_
        refine GA.bipush dX9_addNumber_42 rfl ?_
        refine GA.iload_n dX9_addNumber_44 rfl ?_
        refine GA.bipush dX9_addNumber_45 rfl ?_
        refine GA.idiv dX9_addNumber_47 (by omega) (by omega) ?_
        refine GA.bipush dX9_addNumber_48 rfl ?_
        refine GA.irem dX9_addNumber_50 (by omega) (by omega) ?_
        refine GA.iadd dX9_addNumber_51 ?_
        refine GA.callV (m_X9_add (d := d - 1) i hi w_32 (by omega)) xs_X9_34 dX9_addNumber_52 (gs_s hi) (by omega) rfl rfl (by omega) (by decide) rfl (Nat.le_of_ble_eq_true rfl) (by omega) (by omega) rfl (fun E S9 hx => hx.elim) (fun v S_52 hq => ?_)
        obtain ⟨rfl, e_52⟩ := hq
        have w_52 : WS S_52 i := by rw [e_52]; exact WS.add w_32
        refine GA.aload_n dX9_addNumber_55 rfl ?_
        refine GA.bipush dX9_addNumber_56 rfl ?_
        refine GA.iload_n dX9_addNumber_58 rfl ?_
        refine GA.bipush dX9_addNumber_59 rfl ?_
        refine GA.irem dX9_addNumber_61 (by omega) (by omega) ?_
        refine GA.iadd dX9_addNumber_62 ?_
        refine GA.callV (m_X9_add (d := d - 1) i hi w_52 (by omega)) xs_X9_34 dX9_addNumber_63 (gs_s hi) (by omega) rfl rfl (by omega) (by decide) rfl (Nat.le_of_ble_eq_true rfl) (by omega) (by omega) rfl (fun E S9 hx => hx.elim) (fun v S_63 hq => ?_)
        obtain ⟨rfl, e_63⟩ := hq
        have w_63 : WS S_63 i := by rw [e_63]; exact WS.add w_52
        refine GA.vret rfl dX9_addNumber_66 (by omega) (by omega) ?_
        refine ⟨rfl, ?_⟩
        unfold numL
        dsimp only
        simp only [e_63, e_52, e_32, e_12]
        iterate 3 (all_goals (try split))
        all_goals first | (exfalso; omega) | rfl
/-- a constant's signs -/
def xstL (i0 : Nat) : List Int := (List.range (xlen.getD i0 0)).map (xch i0)
theorem xstL_drop {i0 k : Nat} (h : k < xlen.getD i0 0) : (xstL i0).drop k = xch i0 k :: (xstL i0).drop (k + 1) := by
  have hl : k < (xstL i0).length := by unfold xstL; simp; exact h
  rw [List.drop_eq_getElem_cons hl]
  congr 1
  unfold xstL
  simp
set_option maxHeartbeats 4000000 in
set_option maxRecDepth 20000 in
theorem l_X9_addAll {i0 : Nat} (n : Nat) (i : Nat) (hi : i < 22) (h0 : i0 < 54) (hd : 4 ≤ d) (k : Nat) (hk : k ≤ xlen.getD i0 0) (hn : xlen.getD i0 0 - k < n) (S : GS) (hw : WS S i) : GA l Z L yX9_addAll cX9_addAll 3 none [] d 0 0 (fun v S' => v = none ∧ S' = sAdds S i ((xstL i0).drop k)) (fun _ _ => False) 2 (gl [(0, .ref (L (424 + 2 * i))), (1, .ref (Z.2.1 i0)), (2, .int (J k))]) [] S 0 0 := by
  induction n generalizing k S with
  | zero => omega
  | succ n ih =>
  have hle := xlen_le i0 h0
  refine GA.iload_n dX9_addAll_2 rfl ?_
  refine GA.aload_n dX9_addAll_3 rfl ?_
  refine GA.strLen (i := i0) (by omega) xs_X9_25 dX9_addAll_4 (by omega) (Nat.le_of_ble_eq_true rfl) (by omega) (by omega) ?_
  refine GA.icmp_ge (tgt := 25) dX9_addAll_7 (by decide) (by omega) (by omega) (fun c_7 => ?_) (fun c_7 => ?_)
  · skip
    refine GA.vret rfl dX9_addAll_25 (by omega) (by omega) ?_
    refine ⟨rfl, ?_⟩
    rw [List.drop_eq_nil_of_le (by unfold xstL; simp; omega)]
    rfl
  · skip
    refine GA.aload_n dX9_addAll_10 rfl ?_
    refine GA.aload_n dX9_addAll_11 rfl ?_
    refine GA.iload_n dX9_addAll_12 rfl ?_
    refine GA.strChar (i := i0) (by omega) xs_X9_30 dX9_addAll_13 (by omega) (by omega) (Nat.le_of_ble_eq_true rfl) (by omega) (by omega) ?_
    have hx9 := xch_ok (i := i0) (j := (k : Int).toNat) h0 (by omega)
    refine GA.callV (m_X9_add (d := d - 1) i hi hw (by omega)) xs_X9_34 dX9_addAll_16 (gs_s hi) (by omega) rfl rfl (by omega) (by decide) rfl (Nat.le_of_ble_eq_true rfl) (by omega) (by omega) rfl (fun E S9 hx => hx.elim) (fun v S_16 hq => ?_)
    obtain ⟨rfl, e_16⟩ := hq
    have w_16 : WS S_16 i := by rw [e_16]; exact WS.add hw
    refine GA.iinc dX9_addAll_19 rfl (by decide) ?_
    refine GA.goto (tgt := 2) dX9_addAll_22 (by decide) ?_
    refine GA.locals [(0, .ref (L (424 + 2 * i))), (1, .ref (Z.2.1 i0)), (2, .int (J ((k + 1 : Nat) : Int)))] ⟨rfl, rfl, rfl, trivial⟩ ?_
    have h9 : sAdds S i ((xstL i0).drop k) = sAdds S_16 i ((xstL i0).drop (k + 1)) := by rw [xstL_drop (by omega), e_16]; rfl
    rw [h9]
    exact ih (k + 1) (by omega) (by omega) _ w_16
end SH
