def P_X0_begin_0 (l : Launch) (Z : XZ) (L : Nat → Nat) (n : Nat) : Prop := ∀ (d : Nat) (S : GS) (a1 : Nat) (a2 : Nat) (a3 : Int) (x : Int) (S1 : GS), f_X0_begin n d 0 S [((a1 : Nat) : Int), ((a2 : Nat) : Int), a3] = some (x, S1) → GA l Z L yX0_begin cX0_begin 4 none [] d 0 0 (fun v S' => v = none ∧ S1 = S') (fun _ _ => False) 0 (gl [(0, .ref (L 487)), (1, .ref (L a1)), (2, .ref (L a2)), (3, .int (J a3))]) [] S 0 0
theorem i_X0_begin {l : Launch} {Z : XZ} {L : Nat → Nat} {n : Nat} (ih : P_X0_begin_0 l Z L n) {d : Nat} {S : GS} {a1 : Nat} {a2 : Nat} {a3 : Int} {x : Int} {S1 : GS} (H : f_X0_begin n d 0 S [((a1 : Nat) : Int), ((a2 : Nat) : Int), a3] = some (x, S1)) : GM l Z L yX0_begin cX0_begin 4 none [] d 0 0 [.ref (L 487), .ref (L a1), .ref (L a2), .int (J a3)] S (fun v S' => v = none ∧ S1 = S') (fun _ _ => False) := GM.of (by decide) (Nat.le_of_ble_eq_true rfl) (ih _ _ _ _ _ _ _ H)
set_option maxHeartbeats 4000000 in
set_option maxRecDepth 20000 in
theorem t_X0_begin_0 {l : Launch} {Z : XZ} {L : Nat → Nat} (n : Nat) (ih_X0_begin_0 : P_X0_begin_0 l Z L n) : P_X0_begin_0 l Z L (n + 1) := by
  intro d S a1 a2 a3 x S1 H
  have H : b_X0_begin_0 n d (f_X0_begin n) S a1 a2 a3 = some (x, S1) := H
  unfold b_X0_begin_0 at H
  refine GA.aload_n dX0_begin_0 rfl ?_
  refine GA.aload_n dX0_begin_1 rfl ?_
  obtain ⟨S_1, hx2, H⟩ := gv_e H
  refine GV.putR hx2 (xp_X0_49 _) dX0_begin_2 gs_487 (by decide) (Nat.le_of_ble_eq_true rfl) gs_487 ?_
  refine GA.aload_n dX0_begin_5 rfl ?_
  refine GA.aload_n dX0_begin_6 rfl ?_
  obtain ⟨S_3, hx4, H⟩ := gv_e H
  refine GV.putR hx4 (xp_X0_52 _) dX0_begin_7 gs_487 (by decide) (Nat.le_of_ble_eq_true rfl) gs_487 ?_
  refine GA.aload_n dX0_begin_10 rfl ?_
  refine GA.iload_n dX0_begin_11 rfl ?_
  obtain ⟨S_5, hx6, H⟩ := gv_e H
  refine GV.putI hx6 (xp_X0_75 _) dX0_begin_12 gs_487 (by decide) (Nat.le_of_ble_eq_true rfl) gs_487 ?_
  refine GA.aload_n dX0_begin_15 rfl ?_
  refine GA.iconst dX0_begin_16 ?_
  obtain ⟨S_7, hx8, H⟩ := gv_e H
  refine GV.putI hx8 (xp_X0_78 _) dX0_begin_17 gs_487 (by decide) (Nat.le_of_ble_eq_true rfl) gs_487 ?_
  refine GA.aload_n dX0_begin_20 rfl ?_
  refine GA.iconst dX0_begin_21 ?_
  obtain ⟨S_9, hx10, H⟩ := gv_e H
  refine GV.putI hx10 (xp_X0_81 _) dX0_begin_22 gs_487 (by decide) (Nat.le_of_ble_eq_true rfl) gs_487 ?_
  refine GA.aload_n dX0_begin_25 rfl ?_
  refine GA.iconst dX0_begin_26 ?_
  obtain ⟨S_11, hx12, H⟩ := gv_e H
  refine GV.putI hx12 (xp_X0_72 _) dX0_begin_27 gs_487 (by decide) (Nat.le_of_ble_eq_true rfl) gs_487 ?_
  refine GA.aload_n dX0_begin_30 rfl ?_
  refine GA.iconst dX0_begin_31 ?_
  obtain ⟨S_13, hx14, H⟩ := gv_e H
  refine GV.putB (by decide) hx14 (xp_X0_68 (xb_01 _)) dX0_begin_32 gs_487 (by decide) (Nat.le_of_ble_eq_true rfl) gs_487 ?_
  cases H
  exact GA.vret rfl dX0_begin_35 (by omega) (by omega) ⟨rfl, rfl⟩
theorem g_X0_begin {l : Launch} {Z : XZ} {L : Nat → Nat} : ∀ n, P_X0_begin_0 l Z L n
  | 0 => fun _ _ _ _ _ _ _ H => no_e H
  | n + 1 => t_X0_begin_0 n (g_X0_begin n)
theorem m_X0_begin {l : Launch} {Z : XZ} {L : Nat → Nat} {n d : Nat} {S : GS} {a1 : Nat} {a2 : Nat} {a3 : Int} {x : Int} {S1 : GS} (H : f_X0_begin n d 0 S [((a1 : Nat) : Int), ((a2 : Nat) : Int), a3] = some (x, S1)) : GM l Z L yX0_begin cX0_begin 4 none [] d 0 0 [.ref (L 487), .ref (L a1), .ref (L a2), .int (J a3)] S (fun v S' => v = none ∧ S1 = S') (fun _ _ => False) := GM.of (by decide) (Nat.le_of_ble_eq_true rfl) ((g_X0_begin n) _ _ _ _ _ _ _ H)

def P_X0_complain_0 (l : Launch) (Z : XZ) (L : Nat → Nat) (n : Nat) : Prop := ∀ (d : Nat) (S : GS) (a1 : Int) (a2 : Int) (a3 : Int) (x : Int) (S1 : GS), f_X0_complain n d 0 S [a1, a2, a3] = some (x, S1) → GA l Z L yX0_complain cX0_complain 4 none [] d 0 0 (fun v S' => v = none ∧ S1 = S') (fun _ _ => False) 0 (gl [(0, .ref (L 487)), (1, .int (J a1)), (2, .int (J a2)), (3, .int (J a3))]) [] S 0 0
theorem i_X0_complain {l : Launch} {Z : XZ} {L : Nat → Nat} {n : Nat} (ih : P_X0_complain_0 l Z L n) {d : Nat} {S : GS} {a1 : Int} {a2 : Int} {a3 : Int} {x : Int} {S1 : GS} (H : f_X0_complain n d 0 S [a1, a2, a3] = some (x, S1)) : GM l Z L yX0_complain cX0_complain 4 none [] d 0 0 [.ref (L 487), .int (J a1), .int (J a2), .int (J a3)] S (fun v S' => v = none ∧ S1 = S') (fun _ _ => False) := GM.of (by decide) (Nat.le_of_ble_eq_true rfl) (ih _ _ _ _ _ _ _ H)
set_option maxHeartbeats 4000000 in
set_option maxRecDepth 20000 in
theorem t_X0_complain_0 {l : Launch} {Z : XZ} {L : Nat → Nat} (n : Nat) (ih_X0_complain_0 : P_X0_complain_0 l Z L n) : P_X0_complain_0 l Z L (n + 1) := by
  intro d S a1 a2 a3 x S1 H
  have H : b_X0_complain_0 n d (f_X0_complain n) S a1 a2 a3 = some (x, S1) := H
  unfold b_X0_complain_0 at H
  refine GA.iload_n dX0_complain_0 rfl ?_
  obtain ⟨hg1, H⟩ := gg_e H
  refine GV.if_eq (tgt := 5) hg1 dX0_complain_1 (by decide) (fun c2 => ?_) (fun c2 => ?_)
  · have H := it_t H c2
    refine GA.aload_n dX0_complain_5 rfl ?_
    obtain ⟨x3, hx4, H⟩ := gv_e H
    refine GV.getI hx4 xf_X0_72 dX0_complain_6 gs_487 (by decide) rfl ?_
    obtain ⟨hg5, H⟩ := gg_e H
    refine GV.if_lt (tgt := 22) hg5 dX0_complain_9 (by decide) (fun c6 => ?_) (fun c6 => ?_)
    · have H := it_t H c6
      refine GA.aload_n dX0_complain_22 rfl ?_
      refine GA.iconst dX0_complain_23 ?_
      obtain ⟨S_7, hx8, H⟩ := gv_e H
      refine GV.putB (by decide) hx8 (xp_X0_68 (xb_01 _)) dX0_complain_24 gs_487 (by decide) (Nat.le_of_ble_eq_true rfl) gs_487 ?_
      cases H
      exact GA.vret rfl dX0_complain_27 (by omega) (by omega) ⟨rfl, rfl⟩
    · have H := it_f H c6
      refine GA.aload_n dX0_complain_12 rfl ?_
      obtain ⟨x9, hx10, H⟩ := gv_e H
      refine GV.getI hx10 xf_X0_72 dX0_complain_13 gs_487 (by decide) rfl ?_
      refine GA.sipush dX0_complain_16 rfl ?_
      obtain ⟨hg11, H⟩ := gg_e H
      refine GV.icmp_lt (tgt := 28) hg11 (by decide) dX0_complain_19 (by decide) (fun c12 => ?_) (fun c12 => ?_)
      · have H := it_t H c12
        refine GA.aload_n dX0_complain_28 rfl ?_
        refine GA.get xf_X0_37 dX0_complain_29 gs_487 (by decide) rfl ?_
        refine GA.aload_n dX0_complain_32 rfl ?_
        obtain ⟨x13, hx14, H⟩ := gv_e H
        refine GV.getI hx14 xf_X0_72 dX0_complain_33 gs_487 (by decide) rfl ?_
        refine GA.iload_n dX0_complain_36 rfl ?_
        obtain ⟨hg15, H⟩ := gg_e H
        obtain ⟨S_16, hx17, H⟩ := gv_e H
        refine GV.iast hg15 hx17 dX0_complain_37 (fun _ => gs_490) (by decide) ?_
        refine GA.aload_n dX0_complain_38 rfl ?_
        refine GA.get xf_X0_40 dX0_complain_39 gs_487 (by decide) rfl ?_
        refine GA.aload_n dX0_complain_42 rfl ?_
        obtain ⟨x18, hx19, H⟩ := gv_e H
        refine GV.getI hx19 xf_X0_72 dX0_complain_43 gs_487 (by decide) rfl ?_
        refine GA.iload_n dX0_complain_46 rfl ?_
        obtain ⟨hg20, H⟩ := gg_e H
        obtain ⟨S_21, hx22, H⟩ := gv_e H
        refine GV.iast hg20 hx22 dX0_complain_47 (fun _ => gs_491) (by decide) ?_
        refine GA.aload_n dX0_complain_48 rfl ?_
        refine GA.dup dX0_complain_49 rfl ?_
        obtain ⟨x23, hx24, H⟩ := gv_e H
        refine GV.getI hx24 xf_X0_72 dX0_complain_50 gs_487 (by decide) rfl ?_
        refine GA.iconst dX0_complain_53 ?_
        obtain ⟨x25, hx26, H⟩ := gv_e H
        refine GV.iadd hx26 dX0_complain_54 ?_
        obtain ⟨S_27, hx28, H⟩ := gv_e H
        refine GV.putI hx28 (xp_X0_72 _) dX0_complain_55 gs_487 (by decide) (Nat.le_of_ble_eq_true rfl) gs_487 ?_
        cases H
        exact GA.vret rfl dX0_complain_58 (by omega) (by omega) ⟨rfl, rfl⟩
      · have H := it_f H c12
        refine GA.aload_n dX0_complain_22 rfl ?_
        refine GA.iconst dX0_complain_23 ?_
        obtain ⟨S_29, hx30, H⟩ := gv_e H
        refine GV.putB (by decide) hx30 (xp_X0_68 (xb_01 _)) dX0_complain_24 gs_487 (by decide) (Nat.le_of_ble_eq_true rfl) gs_487 ?_
        cases H
        exact GA.vret rfl dX0_complain_27 (by omega) (by omega) ⟨rfl, rfl⟩
  · have H := it_f H c2
    cases H
    exact GA.vret rfl dX0_complain_4 (by omega) (by omega) ⟨rfl, rfl⟩
theorem g_X0_complain {l : Launch} {Z : XZ} {L : Nat → Nat} : ∀ n, P_X0_complain_0 l Z L n
  | 0 => fun _ _ _ _ _ _ _ H => no_e H
  | n + 1 => t_X0_complain_0 n (g_X0_complain n)
theorem m_X0_complain {l : Launch} {Z : XZ} {L : Nat → Nat} {n d : Nat} {S : GS} {a1 : Int} {a2 : Int} {a3 : Int} {x : Int} {S1 : GS} (H : f_X0_complain n d 0 S [a1, a2, a3] = some (x, S1)) : GM l Z L yX0_complain cX0_complain 4 none [] d 0 0 [.ref (L 487), .int (J a1), .int (J a2), .int (J a3)] S (fun v S' => v = none ∧ S1 = S') (fun _ _ => False) := GM.of (by decide) (Nat.le_of_ble_eq_true rfl) ((g_X0_complain n) _ _ _ _ _ _ _ H)

def P_X0_wordOf_0 (l : Launch) (Z : XZ) (L : Nat → Nat) (n : Nat) : Prop := ∀ (d : Nat) (S : GS) (a0 : Int) (x : Int) (S1 : GS), f_X0_wordOf n d 0 S [a0] = some (x, S1) → GA l Z L yX0_wordOf cX0_wordOf 1 (some (.object "java/lang/String")) [] d 0 0 (fun v S' => v = some (.ref (Z.2.1 x.toNat)) ∧ S1 = S') (fun _ _ => False) 0 (gl [(0, .int (J a0))]) [] S 0 0
theorem i_X0_wordOf {l : Launch} {Z : XZ} {L : Nat → Nat} {n : Nat} (ih : P_X0_wordOf_0 l Z L n) {d : Nat} {S : GS} {a0 : Int} {x : Int} {S1 : GS} (H : f_X0_wordOf n d 0 S [a0] = some (x, S1)) : GM l Z L yX0_wordOf cX0_wordOf 1 (some (.object "java/lang/String")) [] d 0 0 [.int (J a0)] S (fun v S' => v = some (.ref (Z.2.1 x.toNat)) ∧ S1 = S') (fun _ _ => False) := GM.of (by decide) (Nat.le_of_ble_eq_true rfl) (ih _ _ _ _ _ H)
set_option maxHeartbeats 4000000 in
set_option maxRecDepth 20000 in
theorem t_X0_wordOf_0 {l : Launch} {Z : XZ} {L : Nat → Nat} (n : Nat) (ih_X0_wordOf_0 : P_X0_wordOf_0 l Z L n) : P_X0_wordOf_0 l Z L (n + 1) := by
  intro d S a0 x S1 H
  have H : b_X0_wordOf_0 n d (f_X0_wordOf n) S a0 = some (x, S1) := H
  unfold b_X0_wordOf_0 at H
  refine GA.iload_n dX0_wordOf_0 rfl ?_
  obtain ⟨hg1, H⟩ := gg_e H
  by_cases c2 : a0 = 1
  · have H := it_t H c2
    refine GA.tableIn (tgt := 72) dX0_wordOf_1 hg1 (by omega) (by omega) (by rw [c2] <;> rfl) (by decide) ?_
    refine GA.ldcS (i := 31) (tx := "kind") (by decide +kernel) dX0_wordOf_72 ?_
    cases H
    exact GA.aret rfl dX0_wordOf_74 (by omega) (by omega) ⟨rfl, rfl⟩
  have H := it_f H c2
  by_cases c3 : a0 = 2
  · have H := it_t H c3
    refine GA.tableIn (tgt := 75) dX0_wordOf_1 hg1 (by omega) (by omega) (by rw [c3] <;> rfl) (by decide) ?_
    refine GA.ldcS (i := 32) (tx := "least") (by decide +kernel) dX0_wordOf_75 ?_
    cases H
    exact GA.aret rfl dX0_wordOf_77 (by omega) (by omega) ⟨rfl, rfl⟩
  have H := it_f H c3
  by_cases c4 : a0 = 3
  · have H := it_t H c4
    refine GA.tableIn (tgt := 78) dX0_wordOf_1 hg1 (by omega) (by omega) (by rw [c4] <;> rfl) (by decide) ?_
    refine GA.ldcS (i := 33) (tx := "most") (by decide +kernel) dX0_wordOf_78 ?_
    cases H
    exact GA.aret rfl dX0_wordOf_80 (by omega) (by omega) ⟨rfl, rfl⟩
  have H := it_f H c4
  by_cases c5 : a0 = 4
  · have H := it_t H c5
    refine GA.tableIn (tgt := 81) dX0_wordOf_1 hg1 (by omega) (by omega) (by rw [c5] <;> rfl) (by decide) ?_
    refine GA.ldcS (i := 34) (tx := "shortest") (by decide +kernel) dX0_wordOf_81 ?_
    cases H
    exact GA.aret rfl dX0_wordOf_83 (by omega) (by omega) ⟨rfl, rfl⟩
  have H := it_f H c5
  by_cases c6 : a0 = 5
  · have H := it_t H c6
    refine GA.tableIn (tgt := 84) dX0_wordOf_1 hg1 (by omega) (by omega) (by rw [c6] <;> rfl) (by decide) ?_
    refine GA.ldcS (i := 35) (tx := "longest") (by decide +kernel) dX0_wordOf_84 ?_
    cases H
    exact GA.aret rfl dX0_wordOf_86 (by omega) (by omega) ⟨rfl, rfl⟩
  have H := it_f H c6
  by_cases c7 : a0 = 6
  · have H := it_t H c7
    refine GA.tableIn (tgt := 87) dX0_wordOf_1 hg1 (by omega) (by omega) (by rw [c7] <;> rfl) (by decide) ?_
    refine GA.ldcS (i := 36) (tx := "needs") (by decide +kernel) dX0_wordOf_87 ?_
    cases H
    exact GA.aret rfl dX0_wordOf_89 (by omega) (by omega) ⟨rfl, rfl⟩
  have H := it_f H c7
  by_cases c8 : a0 = 7
  · have H := it_t H c8
    refine GA.tableIn (tgt := 90) dX0_wordOf_1 hg1 (by omega) (by omega) (by rw [c8] <;> rfl) (by decide) ?_
    refine GA.ldcS (i := 37) (tx := "keys") (by decide +kernel) dX0_wordOf_90 ?_
    cases H
    exact GA.aret rfl dX0_wordOf_92 (by omega) (by omega) ⟨rfl, rfl⟩
  have H := it_f H c8
  by_cases c9 : a0 = 8
  · have H := it_t H c9
    refine GA.tableIn (tgt := 93) dX0_wordOf_1 hg1 (by omega) (by omega) (by rw [c9] <;> rfl) (by decide) ?_
    refine GA.ldcS (i := 38) (tx := "others") (by decide +kernel) dX0_wordOf_93 ?_
    cases H
    exact GA.aret rfl dX0_wordOf_95 (by omega) (by omega) ⟨rfl, rfl⟩
  have H := it_f H c9
  by_cases c10 : a0 = 9
  · have H := it_t H c10
    refine GA.tableIn (tgt := 96) dX0_wordOf_1 hg1 (by omega) (by omega) (by rw [c10] <;> rfl) (by decide) ?_
    refine GA.ldcS (i := 39) (tx := "items") (by decide +kernel) dX0_wordOf_96 ?_
    cases H
    exact GA.aret rfl dX0_wordOf_98 (by omega) (by omega) ⟨rfl, rfl⟩
  have H := it_f H c10
  by_cases c11 : a0 = 10
  · have H := it_t H c11
    refine GA.tableIn (tgt := 99) dX0_wordOf_1 hg1 (by omega) (by omega) (by rw [c11] <;> rfl) (by decide) ?_
    refine GA.ldcS (i := 40) (tx := "only") (by decide +kernel) dX0_wordOf_99 ?_
    cases H
    exact GA.aret rfl dX0_wordOf_101 (by omega) (by omega) ⟨rfl, rfl⟩
  have H := it_f H c11
  by_cases c12 : a0 = 11
  · have H := it_t H c12
    refine GA.tableIn (tgt := 102) dX0_wordOf_1 hg1 (by omega) (by omega) (by rw [c12] <;> rfl) (by decide) ?_
    refine GA.ldcS (i := 41) (tx := "all") (by decide +kernel) dX0_wordOf_102 ?_
    cases H
    exact GA.aret rfl dX0_wordOf_104 (by omega) (by omega) ⟨rfl, rfl⟩
  have H := it_f H c12
  by_cases c13 : a0 = 12
  · have H := it_t H c13
    refine GA.tableIn (tgt := 105) dX0_wordOf_1 hg1 (by omega) (by omega) (by rw [c13] <;> rfl) (by decide) ?_
    refine GA.ldcS (i := 42) (tx := "some") (by decide +kernel) dX0_wordOf_105 ?_
    cases H
    exact GA.aret rfl dX0_wordOf_107 (by omega) (by omega) ⟨rfl, rfl⟩
  have H := it_f H c13
  by_cases c14 : a0 = 13
  · have H := it_t H c14
    refine GA.tableIn (tgt := 108) dX0_wordOf_1 hg1 (by omega) (by omega) (by rw [c14] <;> rfl) (by decide) ?_
    refine GA.ldcS (i := 43) (tx := "one") (by decide +kernel) dX0_wordOf_108 ?_
    cases H
    exact GA.aret rfl dX0_wordOf_110 (by omega) (by omega) ⟨rfl, rfl⟩
  have H := it_f H c14
  by_cases c15 : a0 = 14
  · have H := it_t H c15
    refine GA.tableIn (tgt := 111) dX0_wordOf_1 hg1 (by omega) (by omega) (by rw [c15] <;> rfl) (by decide) ?_
    refine GA.ldcS (i := 44) (tx := "not") (by decide +kernel) dX0_wordOf_111 ?_
    cases H
    exact GA.aret rfl dX0_wordOf_113 (by omega) (by omega) ⟨rfl, rfl⟩
  have H := it_f H c15
  refine GA.tableOut (tgt := 114) dX0_wordOf_1 hg1 (by omega) (by decide) ?_
  refine GA.ldcS (i := 45) (tx := "ref") (by decide +kernel) dX0_wordOf_114 ?_
  cases H
  exact GA.aret rfl dX0_wordOf_116 (by omega) (by omega) ⟨rfl, rfl⟩
theorem g_X0_wordOf {l : Launch} {Z : XZ} {L : Nat → Nat} : ∀ n, P_X0_wordOf_0 l Z L n
  | 0 => fun _ _ _ _ _ H => no_e H
  | n + 1 => t_X0_wordOf_0 n (g_X0_wordOf n)
theorem m_X0_wordOf {l : Launch} {Z : XZ} {L : Nat → Nat} {n d : Nat} {S : GS} {a0 : Int} {x : Int} {S1 : GS} (H : f_X0_wordOf n d 0 S [a0] = some (x, S1)) : GM l Z L yX0_wordOf cX0_wordOf 1 (some (.object "java/lang/String")) [] d 0 0 [.int (J a0)] S (fun v S' => v = some (.ref (Z.2.1 x.toNat)) ∧ S1 = S') (fun _ _ => False) := GM.of (by decide) (Nat.le_of_ble_eq_true rfl) ((g_X0_wordOf n) _ _ _ _ _ H)

def P_X0_hasAll_0 (l : Launch) (Z : XZ) (L : Nat → Nat) (n : Nat) : Prop := ∀ (d : Nat) (S : GS) (a1 : Int) (a2 : Int) (a3 : Int) (x : Int) (S1 : GS), f_X0_hasAll n d 0 S [a1, a2, a3] = some (x, S1) → GA l Z L yX0_hasAll cX0_hasAll 7 (some .boolean) [] d 0 0 (fun v S' => v = some (.int (J x)) ∧ S1 = S') (fun _ _ => False) 0 (gl [(0, .ref (L 487)), (1, .int (J a1)), (2, .int (J a2)), (3, .int (J a3))]) [] S 0 0
def P_X0_hasAll_16 (l : Launch) (Z : XZ) (L : Nat → Nat) (n : Nat) : Prop := ∀ (d : Nat) (S : GS) (a1 : Int) (a2 : Int) (a3 : Int) (a4 : Int) (a5 : Int) (a6 : Int) (x : Int) (S1 : GS), f_X0_hasAll n d 16 S [a1, a2, a3, a4, a5, a6] = some (x, S1) → GA l Z L yX0_hasAll cX0_hasAll 7 (some .boolean) [] d 0 0 (fun v S' => v = some (.int (J x)) ∧ S1 = S') (fun _ _ => False) 16 (gl [(0, .ref (L 487)), (1, .int (J a1)), (2, .int (J a2)), (3, .int (J a3)), (4, .int (J a4)), (5, .int (J a5)), (6, .int (J a6))]) [] S 0 0
def P_X0_hasAll_88 (l : Launch) (Z : XZ) (L : Nat → Nat) (n : Nat) : Prop := ∀ (d : Nat) (S : GS) (a1 : Int) (a2 : Int) (a3 : Int) (a4 : Int) (a5 : Int) (a6 : Int) (x : Int) (S1 : GS), f_X0_hasAll n d 88 S [a1, a2, a3, a4, a5, a6] = some (x, S1) → GA l Z L yX0_hasAll cX0_hasAll 7 (some .boolean) [] d 0 0 (fun v S' => v = some (.int (J x)) ∧ S1 = S') (fun _ _ => False) 88 (gl [(0, .ref (L 487)), (1, .int (J a1)), (2, .int (J a2)), (3, .int (J a3)), (4, .int (J a4)), (5, .int (J a5)), (6, .int (J a6))]) [] S 0 0
theorem i_X0_hasAll {l : Launch} {Z : XZ} {L : Nat → Nat} {n : Nat} (ih : P_X0_hasAll_0 l Z L n) {d : Nat} {S : GS} {a1 : Int} {a2 : Int} {a3 : Int} {x : Int} {S1 : GS} (H : f_X0_hasAll n d 0 S [a1, a2, a3] = some (x, S1)) : GM l Z L yX0_hasAll cX0_hasAll 7 (some .boolean) [] d 0 0 [.ref (L 487), .int (J a1), .int (J a2), .int (J a3)] S (fun v S' => v = some (.int (J x)) ∧ S1 = S') (fun _ _ => False) := GM.of (by decide) (Nat.le_of_ble_eq_true rfl) (ih _ _ _ _ _ _ _ H)
set_option maxHeartbeats 4000000 in
set_option maxRecDepth 20000 in
theorem t_X0_hasAll_0 {l : Launch} {Z : XZ} {L : Nat → Nat} (n : Nat) (ih_X0_hasAll_0 : P_X0_hasAll_0 l Z L n) (ih_X0_hasAll_16 : P_X0_hasAll_16 l Z L n) (ih_X0_hasAll_88 : P_X0_hasAll_88 l Z L n) : P_X0_hasAll_0 l Z L (n + 1) := by
  intro d S a1 a2 a3 x S1 H
  have H : b_X0_hasAll_0 n d (f_X0_hasAll n) S a1 a2 a3 = some (x, S1) := H
  unfold b_X0_hasAll_0 at H
  refine GA.iconst dX0_hasAll_0 ?_
  refine GA.istore dX0_hasAll_1 (by decide) ?_
  refine GA.aload_n dX0_hasAll_3 rfl ?_
  obtain ⟨z1, hx2, H⟩ := gv_e H
  refine GV.getR hx2 xf_X0_49 dX0_hasAll_4 gs_487 (by decide) rfl ?_
  refine GA.iload_n dX0_hasAll_7 rfl ?_
  obtain ⟨hg3, H⟩ := gg_e H
  obtain ⟨hg4, H⟩ := gg_e H
  obtain ⟨x5, S_6, hc7, H⟩ := gc_e H
  refine GA.callV (m_X10_first hc7) xs_X0_179 dX0_hasAll_8 (gsT hg4) (by omega) rfl rfl (by omega) (by decide) rfl (Nat.le_of_ble_eq_true rfl) (by omega) (by omega) rfl (fun E S9 hx => hx.elim) (fun v S9 hq => ?_)
  obtain ⟨rfl, rfl⟩ := hq
  refine GA.istore dX0_hasAll_11 (by decide) ?_
  refine GA.iconst dX0_hasAll_13 ?_
  refine GA.istore dX0_hasAll_14 (by decide) ?_
  refine GA.locals [(0, .ref (L 487)), (1, .int (J a1)), (2, .int (J a2)), (3, .int (J a3)), (4, .int (J 1)), (5, .int (J x5)), (6, .int (J 0))] ⟨rfl, rfl, rfl, rfl, rfl, rfl, rfl, trivial⟩ ?_
  exact ih_X0_hasAll_16 _ _ (a1) (a2) (a3) (1) (x5) (0) _ _ H
set_option maxHeartbeats 4000000 in
set_option maxRecDepth 20000 in
theorem t_X0_hasAll_16 {l : Launch} {Z : XZ} {L : Nat → Nat} (n : Nat) (ih_X0_hasAll_0 : P_X0_hasAll_0 l Z L n) (ih_X0_hasAll_16 : P_X0_hasAll_16 l Z L n) (ih_X0_hasAll_88 : P_X0_hasAll_88 l Z L n) : P_X0_hasAll_16 l Z L (n + 1) := by
  intro d S a1 a2 a3 a4 a5 a6 x S1 H
  have H : b_X0_hasAll_16 n d (f_X0_hasAll n) S a1 a2 a3 a4 a5 a6 = some (x, S1) := H
  unfold b_X0_hasAll_16 at H
  refine GA.iload dX0_hasAll_16 rfl ?_
  refine GA.iconst dX0_hasAll_18 ?_
  obtain ⟨hg1, H⟩ := gg_e H
  refine GV.icmp_eq (tgt := 106) hg1 (by decide) dX0_hasAll_19 (by decide) (fun c2 => ?_) (fun c2 => ?_)
  · have H := it_t H c2
    refine GA.iload dX0_hasAll_106 rfl ?_
    obtain ⟨hg3, H⟩ := gg_e H
    cases H
    exact GV.zret hg3 rfl dX0_hasAll_108 (by omega) (by omega) ⟨rfl, rfl⟩
  · have H := it_f H c2
    refine GA.iload dX0_hasAll_22 rfl ?_
    refine GA.bipush dX0_hasAll_24 rfl ?_
    obtain ⟨hg4, H⟩ := gg_e H
    refine GV.icmp_ge (tgt := 106) hg4 (by decide) dX0_hasAll_26 (by decide) (fun c5 => ?_) (fun c5 => ?_)
    · have H := it_t H c5
      refine GA.iload dX0_hasAll_106 rfl ?_
      obtain ⟨hg6, H⟩ := gg_e H
      cases H
      exact GV.zret hg6 rfl dX0_hasAll_108 (by omega) (by omega) ⟨rfl, rfl⟩
    · have H := it_f H c5
      refine GA.aload_n dX0_hasAll_29 rfl ?_
      refine GA.get xf_X0_23 dX0_hasAll_30 gs_487 (by decide) rfl ?_
      obtain ⟨hg7, H⟩ := gg_e H
      obtain ⟨x8, S_9, hc10, H⟩ := gc_e H
      refine GA.callV (m_X9_clear hc10) xs_X0_193 dX0_hasAll_33 (gsS (by decide)) (by decide) rfl rfl (by omega) (by decide) rfl (Nat.le_of_ble_eq_true rfl) (by omega) (by omega) rfl (fun E S9 hx => hx.elim) (fun v S9 hq => ?_)
      obtain ⟨rfl, rfl⟩ := hq
      refine GA.aload_n dX0_hasAll_36 rfl ?_
      obtain ⟨z11, hx12, H⟩ := gv_e H
      refine GV.getR hx12 xf_X0_49 dX0_hasAll_37 gs_487 (by decide) rfl ?_
      refine GA.iload dX0_hasAll_40 rfl ?_
      refine GA.aload_n dX0_hasAll_42 rfl ?_
      refine GA.get xf_X0_23 dX0_hasAll_43 gs_487 (by decide) rfl ?_
      obtain ⟨hg13, H⟩ := gg_e H
      obtain ⟨x14, S_15, hc16, H⟩ := gc_e H
      refine GA.callV (m_X10_signsTo hc16) xs_X0_196 dX0_hasAll_46 (gsT hg13) (by omega) rfl rfl (by omega) (by decide) rfl (Nat.le_of_ble_eq_true rfl) (by omega) (by omega) rfl (fun E S9 hx => hx.elim) (fun v S9 hq => ?_)
      obtain ⟨rfl, rfl⟩ := hq
      refine GA.aload_n dX0_hasAll_49 rfl ?_
      obtain ⟨z17, hx18, H⟩ := gv_e H
      refine GV.getR hx18 xf_X0_52 dX0_hasAll_50 gs_487 (by decide) rfl ?_
      refine GA.iload_n dX0_hasAll_53 rfl ?_
      refine GA.iconst dX0_hasAll_54 ?_
      obtain ⟨hg19, H⟩ := gg_e H
      obtain ⟨x20, S_21, hc22, H⟩ := gc_e H
      refine GA.callV (m_X10_is hc22) xs_X0_126 dX0_hasAll_55 (gsT hg19) (by omega) rfl rfl (by omega) (by decide) rfl (Nat.le_of_ble_eq_true rfl) (by omega) (by omega) rfl (fun E S9 hx => hx.elim) (fun v S9 hq => ?_)
      obtain ⟨rfl, rfl⟩ := hq
      obtain ⟨hg23, H⟩ := gg_e H
      refine GV.if_eq (tgt := 88) hg23 dX0_hasAll_58 (by decide) (fun c24 => ?_) (fun c24 => ?_)
      · have H := it_t H c24
        refine GA.locals [(0, .ref (L 487)), (1, .int (J a1)), (2, .int (J a2)), (3, .int (J a3)), (4, .int (J a4)), (5, .int (J a5)), (6, .int (J a6))] ⟨rfl, rfl, rfl, rfl, rfl, rfl, rfl, trivial⟩ ?_
        exact ih_X0_hasAll_88 _ _ (a1) (a2) (a3) (a4) (a5) (a6) _ _ H
      · have H := it_f H c24
        refine GA.aload_n dX0_hasAll_61 rfl ?_
        obtain ⟨z25, hx26, H⟩ := gv_e H
        refine GV.getR hx26 xf_X0_52 dX0_hasAll_62 gs_487 (by decide) rfl ?_
        refine GA.iload_n dX0_hasAll_65 rfl ?_
        refine GA.aload_n dX0_hasAll_66 rfl ?_
        refine GA.get xf_X0_23 dX0_hasAll_67 gs_487 (by decide) rfl ?_
        obtain ⟨hg27, H⟩ := gg_e H
        obtain ⟨x28, S_29, hc30, H⟩ := gc_e H
        refine GA.callV (m_X10_valueOf hc30) xs_X0_202 dX0_hasAll_70 (gsT hg27) (by omega) rfl rfl (by omega) (by decide) rfl (Nat.le_of_ble_eq_true rfl) (by omega) (by omega) rfl (fun E S9 hx => hx.elim) (fun v S9 hq => ?_)
        obtain ⟨rfl, rfl⟩ := hq
        refine GA.iconst dX0_hasAll_73 ?_
        obtain ⟨hg31, H⟩ := gg_e H
        refine GV.icmp_ne (tgt := 88) hg31 (by decide) dX0_hasAll_74 (by decide) (fun c32 => ?_) (fun c32 => ?_)
        · have H := it_t H c32
          refine GA.locals [(0, .ref (L 487)), (1, .int (J a1)), (2, .int (J a2)), (3, .int (J a3)), (4, .int (J a4)), (5, .int (J a5)), (6, .int (J a6))] ⟨rfl, rfl, rfl, rfl, rfl, rfl, rfl, trivial⟩ ?_
          exact ih_X0_hasAll_88 _ _ (a1) (a2) (a3) (a4) (a5) (a6) _ _ H
        · have H := it_f H c32
          refine GA.iconst dX0_hasAll_77 ?_
          refine GA.istore dX0_hasAll_78 (by decide) ?_
          refine GA.aload_n dX0_hasAll_80 rfl ?_
          refine GA.iload_n dX0_hasAll_81 rfl ?_
          refine GA.bipush dX0_hasAll_82 rfl ?_
          refine GA.iload_n dX0_hasAll_84 rfl ?_
          obtain ⟨x33, S_34, hc35, H⟩ := gc_e H
          refine GA.callV (m_X0_complain hc35) xs_X0_134 dX0_hasAll_85 gs_487 (by decide) rfl rfl (by omega) (by decide) rfl (Nat.le_of_ble_eq_true rfl) (by omega) (by omega) rfl (fun E S9 hx => hx.elim) (fun v S9 hq => ?_)
          obtain ⟨rfl, rfl⟩ := hq
          refine GA.locals [(0, .ref (L 487)), (1, .int (J a1)), (2, .int (J a2)), (3, .int (J a3)), (4, .int (J 0)), (5, .int (J a5)), (6, .int (J a6))] ⟨rfl, rfl, rfl, rfl, rfl, rfl, rfl, trivial⟩ ?_
          exact ih_X0_hasAll_88 _ _ (a1) (a2) (a3) (0) (a5) (a6) _ _ H
set_option maxHeartbeats 4000000 in
set_option maxRecDepth 20000 in
theorem t_X0_hasAll_88 {l : Launch} {Z : XZ} {L : Nat → Nat} (n : Nat) (ih_X0_hasAll_0 : P_X0_hasAll_0 l Z L n) (ih_X0_hasAll_16 : P_X0_hasAll_16 l Z L n) (ih_X0_hasAll_88 : P_X0_hasAll_88 l Z L n) : P_X0_hasAll_88 l Z L (n + 1) := by
  intro d S a1 a2 a3 a4 a5 a6 x S1 H
  have H : b_X0_hasAll_88 n d (f_X0_hasAll n) S a1 a2 a3 a4 a5 a6 = some (x, S1) := H
  unfold b_X0_hasAll_88 at H
  refine GA.aload_n dX0_hasAll_88 rfl ?_
  obtain ⟨z1, hx2, H⟩ := gv_e H
  refine GV.getR hx2 xf_X0_49 dX0_hasAll_89 gs_487 (by decide) rfl ?_
  refine GA.iload_n dX0_hasAll_92 rfl ?_
  refine GA.iload dX0_hasAll_93 rfl ?_
  obtain ⟨hg3, H⟩ := gg_e H
  obtain ⟨hg4, H⟩ := gg_e H
  obtain ⟨x5, S_6, hc7, H⟩ := gc_e H
  refine GA.callV (m_X10_next hc7) xs_X0_186 dX0_hasAll_95 (gsT hg4) (by omega) rfl rfl (by omega) (by decide) rfl (Nat.le_of_ble_eq_true rfl) (by omega) (by omega) rfl (fun E S9 hx => hx.elim) (fun v S9 hq => ?_)
  obtain ⟨rfl, rfl⟩ := hq
  refine GA.istore dX0_hasAll_98 (by decide) ?_
  obtain ⟨x8, hx9, H⟩ := gv_e H
  refine GV.iinc hx9 dX0_hasAll_100 rfl (by decide) ?_
  refine GA.goto (tgt := 16) dX0_hasAll_103 (by decide) ?_
  refine GA.locals [(0, .ref (L 487)), (1, .int (J a1)), (2, .int (J a2)), (3, .int (J a3)), (4, .int (J a4)), (5, .int (J x5)), (6, .int (J x8))] ⟨rfl, rfl, rfl, rfl, rfl, rfl, rfl, trivial⟩ ?_
  exact ih_X0_hasAll_16 _ _ (a1) (a2) (a3) (a4) (x5) (x8) _ _ H
theorem g_X0_hasAll {l : Launch} {Z : XZ} {L : Nat → Nat} : ∀ n, P_X0_hasAll_0 l Z L n ∧ P_X0_hasAll_16 l Z L n ∧ P_X0_hasAll_88 l Z L n
  | 0 => ⟨fun _ _ _ _ _ _ _ H => no_e H, fun _ _ _ _ _ _ _ _ _ _ H => no_e H, fun _ _ _ _ _ _ _ _ _ _ H => no_e H⟩
  | n + 1 => have ⟨h0, h1, h2⟩ := g_X0_hasAll (l := l) (Z := Z) (L := L) n
    ⟨t_X0_hasAll_0 n h0 h1 h2, t_X0_hasAll_16 n h0 h1 h2, t_X0_hasAll_88 n h0 h1 h2⟩
theorem m_X0_hasAll {l : Launch} {Z : XZ} {L : Nat → Nat} {n d : Nat} {S : GS} {a1 : Int} {a2 : Int} {a3 : Int} {x : Int} {S1 : GS} (H : f_X0_hasAll n d 0 S [a1, a2, a3] = some (x, S1)) : GM l Z L yX0_hasAll cX0_hasAll 7 (some .boolean) [] d 0 0 [.ref (L 487), .int (J a1), .int (J a2), .int (J a3)] S (fun v S' => v = some (.int (J x)) ∧ S1 = S') (fun _ _ => False) := GM.of (by decide) (Nat.le_of_ble_eq_true rfl) ((g_X0_hasAll n).1 _ _ _ _ _ _ _ H)

def P_X0_kindOf_0 (l : Launch) (Z : XZ) (L : Nat → Nat) (n : Nat) : Prop := ∀ (d : Nat) (S : GS) (a0 : Int) (x : Int) (S1 : GS), f_X0_kindOf n d 0 S [a0] = some (x, S1) → GA l Z L yX0_kindOf cX0_kindOf 1 (some (.object "java/lang/String")) [] d 0 0 (fun v S' => v = some (.ref (Z.2.1 x.toNat)) ∧ S1 = S') (fun _ _ => False) 0 (gl [(0, .int (J a0))]) [] S 0 0
theorem i_X0_kindOf {l : Launch} {Z : XZ} {L : Nat → Nat} {n : Nat} (ih : P_X0_kindOf_0 l Z L n) {d : Nat} {S : GS} {a0 : Int} {x : Int} {S1 : GS} (H : f_X0_kindOf n d 0 S [a0] = some (x, S1)) : GM l Z L yX0_kindOf cX0_kindOf 1 (some (.object "java/lang/String")) [] d 0 0 [.int (J a0)] S (fun v S' => v = some (.ref (Z.2.1 x.toNat)) ∧ S1 = S') (fun _ _ => False) := GM.of (by decide) (Nat.le_of_ble_eq_true rfl) (ih _ _ _ _ _ H)
set_option maxHeartbeats 4000000 in
set_option maxRecDepth 20000 in
theorem t_X0_kindOf_0 {l : Launch} {Z : XZ} {L : Nat → Nat} (n : Nat) (ih_X0_kindOf_0 : P_X0_kindOf_0 l Z L n) : P_X0_kindOf_0 l Z L (n + 1) := by
  intro d S a0 x S1 H
  have H : b_X0_kindOf_0 n d (f_X0_kindOf n) S a0 = some (x, S1) := H
  unfold b_X0_kindOf_0 at H
  refine GA.iload_n dX0_kindOf_0 rfl ?_
  obtain ⟨hg1, H⟩ := gg_e H
  by_cases c2 : a0 = 0
  · have H := it_t H c2
    refine GA.tableIn (tgt := 36) dX0_kindOf_1 hg1 (by omega) (by omega) (by rw [c2] <;> rfl) (by decide) ?_
    refine GA.ldcS (i := 47) (tx := "nothing") (by decide +kernel) dX0_kindOf_36 ?_
    cases H
    exact GA.aret rfl dX0_kindOf_38 (by omega) (by omega) ⟨rfl, rfl⟩
  have H := it_f H c2
  by_cases c3 : a0 = 1
  · have H := it_t H c3
    refine GA.tableIn (tgt := 39) dX0_kindOf_1 hg1 (by omega) (by omega) (by rw [c3] <;> rfl) (by decide) ?_
    refine GA.ldcS (i := 48) (tx := "truth") (by decide +kernel) dX0_kindOf_39 ?_
    cases H
    exact GA.aret rfl dX0_kindOf_41 (by omega) (by omega) ⟨rfl, rfl⟩
  have H := it_f H c3
  by_cases c4 : a0 = 2
  · have H := it_t H c4
    refine GA.tableIn (tgt := 42) dX0_kindOf_1 hg1 (by omega) (by omega) (by rw [c4] <;> rfl) (by decide) ?_
    refine GA.ldcS (i := 49) (tx := "number") (by decide +kernel) dX0_kindOf_42 ?_
    cases H
    exact GA.aret rfl dX0_kindOf_44 (by omega) (by omega) ⟨rfl, rfl⟩
  have H := it_f H c4
  by_cases c5 : a0 = 3
  · have H := it_t H c5
    refine GA.tableIn (tgt := 45) dX0_kindOf_1 hg1 (by omega) (by omega) (by rw [c5] <;> rfl) (by decide) ?_
    refine GA.ldcS (i := 50) (tx := "text") (by decide +kernel) dX0_kindOf_45 ?_
    cases H
    exact GA.aret rfl dX0_kindOf_47 (by omega) (by omega) ⟨rfl, rfl⟩
  have H := it_f H c5
  by_cases c6 : a0 = 4
  · have H := it_t H c6
    refine GA.tableIn (tgt := 48) dX0_kindOf_1 hg1 (by omega) (by omega) (by rw [c6] <;> rfl) (by decide) ?_
    refine GA.ldcS (i := 51) (tx := "row") (by decide +kernel) dX0_kindOf_48 ?_
    cases H
    exact GA.aret rfl dX0_kindOf_50 (by omega) (by omega) ⟨rfl, rfl⟩
  have H := it_f H c6
  refine GA.tableOut (tgt := 51) dX0_kindOf_1 hg1 (by omega) (by decide) ?_
  refine GA.ldcS (i := 52) (tx := "map") (by decide +kernel) dX0_kindOf_51 ?_
  cases H
  exact GA.aret rfl dX0_kindOf_53 (by omega) (by omega) ⟨rfl, rfl⟩
theorem g_X0_kindOf {l : Launch} {Z : XZ} {L : Nat → Nat} : ∀ n, P_X0_kindOf_0 l Z L n
  | 0 => fun _ _ _ _ _ H => no_e H
  | n + 1 => t_X0_kindOf_0 n (g_X0_kindOf n)
theorem m_X0_kindOf {l : Launch} {Z : XZ} {L : Nat → Nat} {n d : Nat} {S : GS} {a0 : Int} {x : Int} {S1 : GS} (H : f_X0_kindOf n d 0 S [a0] = some (x, S1)) : GM l Z L yX0_kindOf cX0_kindOf 1 (some (.object "java/lang/String")) [] d 0 0 [.int (J a0)] S (fun v S' => v = some (.ref (Z.2.1 x.toNat)) ∧ S1 = S') (fun _ _ => False) := GM.of (by decide) (Nat.le_of_ble_eq_true rfl) ((g_X0_kindOf n) _ _ _ _ _ H)

def P_X0_isOfKind_0 (l : Launch) (Z : XZ) (L : Nat → Nat) (n : Nat) : Prop := ∀ (d : Nat) (S : GS) (a1 : Int) (a2 : Int) (x : Int) (S1 : GS), f_X0_isOfKind n d 0 S [a1, a2] = some (x, S1) → GA l Z L yX0_isOfKind cX0_isOfKind 3 (some .boolean) [] d 0 0 (fun v S' => v = some (.int (J x)) ∧ S1 = S') (fun _ _ => False) 0 (gl [(0, .ref (L 487)), (1, .int (J a1)), (2, .int (J a2))]) [] S 0 0
theorem i_X0_isOfKind {l : Launch} {Z : XZ} {L : Nat → Nat} {n : Nat} (ih : P_X0_isOfKind_0 l Z L n) {d : Nat} {S : GS} {a1 : Int} {a2 : Int} {x : Int} {S1 : GS} (H : f_X0_isOfKind n d 0 S [a1, a2] = some (x, S1)) : GM l Z L yX0_isOfKind cX0_isOfKind 3 (some .boolean) [] d 0 0 [.ref (L 487), .int (J a1), .int (J a2)] S (fun v S' => v = some (.int (J x)) ∧ S1 = S') (fun _ _ => False) := GM.of (by decide) (Nat.le_of_ble_eq_true rfl) (ih _ _ _ _ _ _ H)
set_option maxHeartbeats 4000000 in
set_option maxRecDepth 20000 in
theorem t_X0_isOfKind_0 {l : Launch} {Z : XZ} {L : Nat → Nat} (n : Nat) (ih_X0_isOfKind_0 : P_X0_isOfKind_0 l Z L n) : P_X0_isOfKind_0 l Z L (n + 1) := by
  intro d S a1 a2 x S1 H
  have H : b_X0_isOfKind_0 n d (f_X0_isOfKind n) S a1 a2 = some (x, S1) := H
  unfold b_X0_isOfKind_0 at H
  refine GA.aload_n dX0_isOfKind_0 rfl ?_
  obtain ⟨z1, hx2, H⟩ := gv_e H
  refine GV.getR hx2 xf_X0_49 dX0_isOfKind_1 gs_487 (by decide) rfl ?_
  refine GA.iload_n dX0_isOfKind_4 rfl ?_
  refine GA.ldcS (i := 46) (tx := "whole") (by decide +kernel) dX0_isOfKind_5 ?_
  obtain ⟨hg3, H⟩ := gg_e H
  obtain ⟨hg4, H⟩ := gg_e H
  obtain ⟨x5, S_6, hc7, H⟩ := gc_e H
  refine GA.callV (m_X10_says hc7) xs_X0_230 dX0_isOfKind_7 (gsT hg4) (by omega) rfl rfl (by omega) (by decide) rfl (Nat.le_of_ble_eq_true rfl) (by omega) (by omega) rfl (fun E S9 hx => hx.elim) (fun v S9 hq => ?_)
  obtain ⟨rfl, rfl⟩ := hq
  obtain ⟨hg8, H⟩ := gg_e H
  refine GV.if_eq (tgt := 42) hg8 dX0_isOfKind_10 (by decide) (fun c9 => ?_) (fun c9 => ?_)
  · have H := it_t H c9
    refine GA.aload_n dX0_isOfKind_42 rfl ?_
    obtain ⟨z10, hx11, H⟩ := gv_e H
    refine GV.getR hx11 xf_X0_49 dX0_isOfKind_43 gs_487 (by decide) rfl ?_
    refine GA.iload_n dX0_isOfKind_46 rfl ?_
    refine GA.aload_n dX0_isOfKind_47 rfl ?_
    obtain ⟨z12, hx13, H⟩ := gv_e H
    refine GV.getR hx13 xf_X0_52 dX0_isOfKind_48 gs_487 (by decide) rfl ?_
    refine GA.iload_n dX0_isOfKind_51 rfl ?_
    obtain ⟨hg14, H⟩ := gg_e H
    obtain ⟨x15, S_16, hc17, H⟩ := gc_e H
    refine GA.callV (m_X10_kind hc17) xs_X0_237 dX0_isOfKind_52 (gsT hg14) (by omega) rfl rfl (by omega) (by decide) rfl (Nat.le_of_ble_eq_true rfl) (by omega) (by omega) rfl (fun E S9 hx => hx.elim) (fun v S9 hq => ?_)
    obtain ⟨rfl, rfl⟩ := hq
    obtain ⟨x18, S_19, hc20, H⟩ := gc_e H
    refine GA.callS (m_X0_kindOf hc20) xs_X0_239 dX0_isOfKind_55 rfl (by omega) (by decide) rfl (Nat.le_of_ble_eq_true rfl) (by omega) (by omega) rfl (fun E S9 hx => hx.elim) (fun v S9 hq => ?_)
    obtain ⟨rfl, rfl⟩ := hq
    obtain ⟨hg21, H⟩ := gg_e H
    obtain ⟨x22, S_23, hc24, H⟩ := gc_e H
    refine GA.callV (m_X10_says hc24) xs_X0_230 dX0_isOfKind_58 (gsT hg21) (by omega) rfl rfl (by omega) (by decide) rfl (Nat.le_of_ble_eq_true rfl) (by omega) (by omega) rfl (fun E S9 hx => hx.elim) (fun v S9 hq => ?_)
    obtain ⟨rfl, rfl⟩ := hq
    obtain ⟨hg25, H⟩ := gg_e H
    cases H
    exact GV.zret hg25 rfl dX0_isOfKind_61 (by omega) (by omega) ⟨rfl, rfl⟩
  · have H := it_f H c9
    refine GA.aload_n dX0_isOfKind_13 rfl ?_
    obtain ⟨z26, hx27, H⟩ := gv_e H
    refine GV.getR hx27 xf_X0_52 dX0_isOfKind_14 gs_487 (by decide) rfl ?_
    refine GA.iload_n dX0_isOfKind_17 rfl ?_
    refine GA.iconst dX0_isOfKind_18 ?_
    obtain ⟨hg28, H⟩ := gg_e H
    obtain ⟨x29, S_30, hc31, H⟩ := gc_e H
    refine GA.callV (m_X10_is hc31) xs_X0_126 dX0_isOfKind_19 (gsT hg28) (by omega) rfl rfl (by omega) (by decide) rfl (Nat.le_of_ble_eq_true rfl) (by omega) (by omega) rfl (fun E S9 hx => hx.elim) (fun v S9 hq => ?_)
    obtain ⟨rfl, rfl⟩ := hq
    obtain ⟨hg32, H⟩ := gg_e H
    refine GV.if_eq (tgt := 40) hg32 dX0_isOfKind_22 (by decide) (fun c33 => ?_) (fun c33 => ?_)
    · have H := it_t H c33
      refine GA.iconst dX0_isOfKind_40 ?_
      cases H
      exact GV.zret (by decide) rfl dX0_isOfKind_41 (by omega) (by omega) ⟨rfl, rfl⟩
    · have H := it_f H c33
      refine GA.aload_n dX0_isOfKind_25 rfl ?_
      obtain ⟨z34, hx35, H⟩ := gv_e H
      refine GV.getR hx35 xf_X0_52 dX0_isOfKind_26 gs_487 (by decide) rfl ?_
      refine GA.iload_n dX0_isOfKind_29 rfl ?_
      obtain ⟨hg36, H⟩ := gg_e H
      obtain ⟨x37, S_38, hc39, H⟩ := gc_e H
      refine GA.callV (m_X10_power hc39) xs_X0_234 dX0_isOfKind_30 (gsT hg36) (by omega) rfl rfl (by omega) (by decide) rfl (Nat.le_of_ble_eq_true rfl) (by omega) (by omega) rfl (fun E S9 hx => hx.elim) (fun v S9 hq => ?_)
      obtain ⟨rfl, rfl⟩ := hq
      obtain ⟨hg40, H⟩ := gg_e H
      refine GV.if_lt (tgt := 40) hg40 dX0_isOfKind_33 (by decide) (fun c41 => ?_) (fun c41 => ?_)
      · have H := it_t H c41
        refine GA.iconst dX0_isOfKind_40 ?_
        cases H
        exact GV.zret (by decide) rfl dX0_isOfKind_41 (by omega) (by omega) ⟨rfl, rfl⟩
      · have H := it_f H c41
        refine GA.iconst dX0_isOfKind_36 ?_
        refine GA.goto (tgt := 41) dX0_isOfKind_37 (by decide) ?_
        cases H
        exact GV.zret (by decide) rfl dX0_isOfKind_41 (by omega) (by omega) ⟨rfl, rfl⟩
theorem g_X0_isOfKind {l : Launch} {Z : XZ} {L : Nat → Nat} : ∀ n, P_X0_isOfKind_0 l Z L n
  | 0 => fun _ _ _ _ _ _ H => no_e H
  | n + 1 => t_X0_isOfKind_0 n (g_X0_isOfKind n)
theorem m_X0_isOfKind {l : Launch} {Z : XZ} {L : Nat → Nat} {n d : Nat} {S : GS} {a1 : Int} {a2 : Int} {x : Int} {S1 : GS} (H : f_X0_isOfKind n d 0 S [a1, a2] = some (x, S1)) : GM l Z L yX0_isOfKind cX0_isOfKind 3 (some .boolean) [] d 0 0 [.ref (L 487), .int (J a1), .int (J a2)] S (fun v S' => v = some (.int (J x)) ∧ S1 = S') (fun _ _ => False) := GM.of (by decide) (Nat.le_of_ble_eq_true rfl) ((g_X0_isOfKind n) _ _ _ _ _ _ H)

def P_X0_isOfKinds_0 (l : Launch) (Z : XZ) (L : Nat → Nat) (n : Nat) : Prop := ∀ (d : Nat) (S : GS) (a1 : Int) (a2 : Int) (x : Int) (S1 : GS), f_X0_isOfKinds n d 0 S [a1, a2] = some (x, S1) → GA l Z L yX0_isOfKinds cX0_isOfKinds 6 (some .boolean) [] d 0 0 (fun v S' => v = some (.int (J x)) ∧ S1 = S') (fun _ _ => False) 0 (gl [(0, .ref (L 487)), (1, .int (J a1)), (2, .int (J a2))]) [] S 0 0
def P_X0_isOfKinds_20 (l : Launch) (Z : XZ) (L : Nat → Nat) (n : Nat) : Prop := ∀ (d : Nat) (S : GS) (a1 : Int) (a2 : Int) (a3 : Int) (a4 : Int) (a5 : Int) (x : Int) (S1 : GS), f_X0_isOfKinds n d 20 S [a1, a2, a3, a4, a5] = some (x, S1) → GA l Z L yX0_isOfKinds cX0_isOfKinds 6 (some .boolean) [] d 0 0 (fun v S' => v = some (.int (J x)) ∧ S1 = S') (fun _ _ => False) 20 (gl [(0, .ref (L 487)), (1, .int (J a1)), (2, .int (J a2)), (3, .int (J a3)), (4, .int (J a4)), (5, .int (J a5))]) [] S 0 0
def P_X0_isOfKinds_52 (l : Launch) (Z : XZ) (L : Nat → Nat) (n : Nat) : Prop := ∀ (d : Nat) (S : GS) (a1 : Int) (a2 : Int) (a4 : Int) (a5 : Int) (s0 : Int) (x : Int) (S1 : GS), f_X0_isOfKinds n d 52 S [a1, a2, a4, a5, s0] = some (x, S1) → GA l Z L yX0_isOfKinds cX0_isOfKinds 6 (some .boolean) [] d 0 0 (fun v S' => v = some (.int (J x)) ∧ S1 = S') (fun _ _ => False) 52 (gl [(0, .ref (L 487)), (1, .int (J a1)), (2, .int (J a2)), (4, .int (J a4)), (5, .int (J a5))]) [.int (J s0)] S 0 0
theorem i_X0_isOfKinds {l : Launch} {Z : XZ} {L : Nat → Nat} {n : Nat} (ih : P_X0_isOfKinds_0 l Z L n) {d : Nat} {S : GS} {a1 : Int} {a2 : Int} {x : Int} {S1 : GS} (H : f_X0_isOfKinds n d 0 S [a1, a2] = some (x, S1)) : GM l Z L yX0_isOfKinds cX0_isOfKinds 6 (some .boolean) [] d 0 0 [.ref (L 487), .int (J a1), .int (J a2)] S (fun v S' => v = some (.int (J x)) ∧ S1 = S') (fun _ _ => False) := GM.of (by decide) (Nat.le_of_ble_eq_true rfl) (ih _ _ _ _ _ _ H)
set_option maxHeartbeats 4000000 in
set_option maxRecDepth 20000 in
theorem t_X0_isOfKinds_0 {l : Launch} {Z : XZ} {L : Nat → Nat} (n : Nat) (ih_X0_isOfKinds_0 : P_X0_isOfKinds_0 l Z L n) (ih_X0_isOfKinds_20 : P_X0_isOfKinds_20 l Z L n) (ih_X0_isOfKinds_52 : P_X0_isOfKinds_52 l Z L n) : P_X0_isOfKinds_0 l Z L (n + 1) := by
  intro d S a1 a2 x S1 H
  have H : b_X0_isOfKinds_0 n d (f_X0_isOfKinds n) S a1 a2 = some (x, S1) := H
  unfold b_X0_isOfKinds_0 at H
  refine GA.aload_n dX0_isOfKinds_0 rfl ?_
  refine GA.iload_n dX0_isOfKinds_1 rfl ?_
  refine GA.iload_n dX0_isOfKinds_2 rfl ?_
  obtain ⟨hg1, H⟩ := gg_e H
  obtain ⟨x2, S_3, hc4, H⟩ := gc_e H
  refine GA.callV (m_X0_isOfKind hc4) xs_X0_225 dX0_isOfKinds_3 gs_487 (by decide) rfl rfl (by omega) (by decide) rfl (Nat.le_of_ble_eq_true rfl) (by omega) (by omega) rfl (fun E S9 hx => hx.elim) (fun v S9 hq => ?_)
  obtain ⟨rfl, rfl⟩ := hq
  refine GA.istore_n dX0_isOfKinds_6 (by decide) ?_
  refine GA.aload_n dX0_isOfKinds_7 rfl ?_
  obtain ⟨z5, hx6, H⟩ := gv_e H
  refine GV.getR hx6 xf_X0_49 dX0_isOfKinds_8 gs_487 (by decide) rfl ?_
  refine GA.iload_n dX0_isOfKinds_11 rfl ?_
  obtain ⟨hg7, H⟩ := gg_e H
  obtain ⟨x8, S_9, hc10, H⟩ := gc_e H
  refine GA.callV (m_X10_first hc10) xs_X0_179 dX0_isOfKinds_12 (gsT hg7) (by omega) rfl rfl (by omega) (by decide) rfl (Nat.le_of_ble_eq_true rfl) (by omega) (by omega) rfl (fun E S9 hx => hx.elim) (fun v S9 hq => ?_)
  obtain ⟨rfl, rfl⟩ := hq
  refine GA.istore dX0_isOfKinds_15 (by decide) ?_
  refine GA.iconst dX0_isOfKinds_17 ?_
  refine GA.istore dX0_isOfKinds_18 (by decide) ?_
  refine GA.locals [(0, .ref (L 487)), (1, .int (J a1)), (2, .int (J a2)), (3, .int (J x2)), (4, .int (J x8)), (5, .int (J 0))] ⟨rfl, rfl, rfl, rfl, rfl, rfl, trivial⟩ ?_
  exact ih_X0_isOfKinds_20 _ _ (a1) (a2) (x2) (x8) (0) _ _ H
set_option maxHeartbeats 4000000 in
set_option maxRecDepth 20000 in
theorem t_X0_isOfKinds_20 {l : Launch} {Z : XZ} {L : Nat → Nat} (n : Nat) (ih_X0_isOfKinds_0 : P_X0_isOfKinds_0 l Z L n) (ih_X0_isOfKinds_20 : P_X0_isOfKinds_20 l Z L n) (ih_X0_isOfKinds_52 : P_X0_isOfKinds_52 l Z L n) : P_X0_isOfKinds_20 l Z L (n + 1) := by
  intro d S a1 a2 a3 a4 a5 x S1 H
  have H : b_X0_isOfKinds_20 n d (f_X0_isOfKinds n) S a1 a2 a3 a4 a5 = some (x, S1) := H
  unfold b_X0_isOfKinds_20 at H
  refine GA.iload dX0_isOfKinds_20 rfl ?_
  refine GA.iconst dX0_isOfKinds_22 ?_
  obtain ⟨hg1, H⟩ := gg_e H
  refine GV.icmp_eq (tgt := 71) hg1 (by decide) dX0_isOfKinds_23 (by decide) (fun c2 => ?_) (fun c2 => ?_)
  · have H := it_t H c2
    refine GA.iload_n dX0_isOfKinds_71 rfl ?_
    obtain ⟨hg3, H⟩ := gg_e H
    cases H
    exact GV.zret hg3 rfl dX0_isOfKinds_72 (by omega) (by omega) ⟨rfl, rfl⟩
  · have H := it_f H c2
    refine GA.iload dX0_isOfKinds_26 rfl ?_
    refine GA.bipush dX0_isOfKinds_28 rfl ?_
    obtain ⟨hg4, H⟩ := gg_e H
    refine GV.icmp_ge (tgt := 71) hg4 (by decide) dX0_isOfKinds_30 (by decide) (fun c5 => ?_) (fun c5 => ?_)
    · have H := it_t H c5
      refine GA.iload_n dX0_isOfKinds_71 rfl ?_
      obtain ⟨hg6, H⟩ := gg_e H
      cases H
      exact GV.zret hg6 rfl dX0_isOfKinds_72 (by omega) (by omega) ⟨rfl, rfl⟩
    · have H := it_f H c5
      refine GA.iload_n dX0_isOfKinds_33 rfl ?_
      obtain ⟨hg7, H⟩ := gg_e H
      refine GV.if_ne (tgt := 47) hg7 dX0_isOfKinds_34 (by decide) (fun c8 => ?_) (fun c8 => ?_)
      · have H := it_t H c8
        refine GA.iconst dX0_isOfKinds_47 ?_
        refine GA.goto (tgt := 52) dX0_isOfKinds_48 (by decide) ?_
        refine GA.locals [(0, .ref (L 487)), (1, .int (J a1)), (2, .int (J a2)), (4, .int (J a4)), (5, .int (J a5))] ⟨rfl, rfl, rfl, rfl, rfl, trivial⟩ ?_
        exact ih_X0_isOfKinds_52 _ _ (a1) (a2) (a4) (a5) (1) _ _ H
      · have H := it_f H c8
        refine GA.aload_n dX0_isOfKinds_37 rfl ?_
        refine GA.iload dX0_isOfKinds_38 rfl ?_
        refine GA.iload_n dX0_isOfKinds_40 rfl ?_
        obtain ⟨hg9, H⟩ := gg_e H
        obtain ⟨x10, S_11, hc12, H⟩ := gc_e H
        refine GA.callV (m_X0_isOfKind hc12) xs_X0_225 dX0_isOfKinds_41 gs_487 (by decide) rfl rfl (by omega) (by decide) rfl (Nat.le_of_ble_eq_true rfl) (by omega) (by omega) rfl (fun E S9 hx => hx.elim) (fun v S9 hq => ?_)
        obtain ⟨rfl, rfl⟩ := hq
        obtain ⟨hg13, H⟩ := gg_e H
        refine GV.if_eq (tgt := 51) hg13 dX0_isOfKinds_44 (by decide) (fun c14 => ?_) (fun c14 => ?_)
        · have H := it_t H c14
          refine GA.iconst dX0_isOfKinds_51 ?_
          refine GA.locals [(0, .ref (L 487)), (1, .int (J a1)), (2, .int (J a2)), (4, .int (J a4)), (5, .int (J a5))] ⟨rfl, rfl, rfl, rfl, rfl, trivial⟩ ?_
          exact ih_X0_isOfKinds_52 _ _ (a1) (a2) (a4) (a5) (0) _ _ H
        · have H := it_f H c14
          refine GA.iconst dX0_isOfKinds_47 ?_
          refine GA.goto (tgt := 52) dX0_isOfKinds_48 (by decide) ?_
          refine GA.locals [(0, .ref (L 487)), (1, .int (J a1)), (2, .int (J a2)), (4, .int (J a4)), (5, .int (J a5))] ⟨rfl, rfl, rfl, rfl, rfl, trivial⟩ ?_
          exact ih_X0_isOfKinds_52 _ _ (a1) (a2) (a4) (a5) (1) _ _ H
set_option maxHeartbeats 4000000 in
set_option maxRecDepth 20000 in
theorem t_X0_isOfKinds_52 {l : Launch} {Z : XZ} {L : Nat → Nat} (n : Nat) (ih_X0_isOfKinds_0 : P_X0_isOfKinds_0 l Z L n) (ih_X0_isOfKinds_20 : P_X0_isOfKinds_20 l Z L n) (ih_X0_isOfKinds_52 : P_X0_isOfKinds_52 l Z L n) : P_X0_isOfKinds_52 l Z L (n + 1) := by
  intro d S a1 a2 a4 a5 s0 x S1 H
  have H : b_X0_isOfKinds_52 n d (f_X0_isOfKinds n) S a1 a2 a4 a5 s0 = some (x, S1) := H
  unfold b_X0_isOfKinds_52 at H
  refine GA.istore_n dX0_isOfKinds_52 (by decide) ?_
  refine GA.aload_n dX0_isOfKinds_53 rfl ?_
  obtain ⟨z1, hx2, H⟩ := gv_e H
  refine GV.getR hx2 xf_X0_49 dX0_isOfKinds_54 gs_487 (by decide) rfl ?_
  refine GA.iload_n dX0_isOfKinds_57 rfl ?_
  refine GA.iload dX0_isOfKinds_58 rfl ?_
  obtain ⟨hg3, H⟩ := gg_e H
  obtain ⟨hg4, H⟩ := gg_e H
  obtain ⟨x5, S_6, hc7, H⟩ := gc_e H
  refine GA.callV (m_X10_next hc7) xs_X0_186 dX0_isOfKinds_60 (gsT hg4) (by omega) rfl rfl (by omega) (by decide) rfl (Nat.le_of_ble_eq_true rfl) (by omega) (by omega) rfl (fun E S9 hx => hx.elim) (fun v S9 hq => ?_)
  obtain ⟨rfl, rfl⟩ := hq
  refine GA.istore dX0_isOfKinds_63 (by decide) ?_
  obtain ⟨x8, hx9, H⟩ := gv_e H
  refine GV.iinc hx9 dX0_isOfKinds_65 rfl (by decide) ?_
  refine GA.goto (tgt := 20) dX0_isOfKinds_68 (by decide) ?_
  refine GA.locals [(0, .ref (L 487)), (1, .int (J a1)), (2, .int (J a2)), (3, .int (J s0)), (4, .int (J x5)), (5, .int (J x8))] ⟨rfl, rfl, rfl, rfl, rfl, rfl, trivial⟩ ?_
  exact ih_X0_isOfKinds_20 _ _ (a1) (a2) (s0) (x5) (x8) _ _ H
theorem g_X0_isOfKinds {l : Launch} {Z : XZ} {L : Nat → Nat} : ∀ n, P_X0_isOfKinds_0 l Z L n ∧ P_X0_isOfKinds_20 l Z L n ∧ P_X0_isOfKinds_52 l Z L n
  | 0 => ⟨fun _ _ _ _ _ _ H => no_e H, fun _ _ _ _ _ _ _ _ _ H => no_e H, fun _ _ _ _ _ _ _ _ _ H => no_e H⟩
  | n + 1 => have ⟨h0, h1, h2⟩ := g_X0_isOfKinds (l := l) (Z := Z) (L := L) n
    ⟨t_X0_isOfKinds_0 n h0 h1 h2, t_X0_isOfKinds_20 n h0 h1 h2, t_X0_isOfKinds_52 n h0 h1 h2⟩
theorem m_X0_isOfKinds {l : Launch} {Z : XZ} {L : Nat → Nat} {n d : Nat} {S : GS} {a1 : Int} {a2 : Int} {x : Int} {S1 : GS} (H : f_X0_isOfKinds n d 0 S [a1, a2] = some (x, S1)) : GM l Z L yX0_isOfKinds cX0_isOfKinds 6 (some .boolean) [] d 0 0 [.ref (L 487), .int (J a1), .int (J a2)] S (fun v S' => v = some (.int (J x)) ∧ S1 = S') (fun _ _ => False) := GM.of (by decide) (Nat.le_of_ble_eq_true rfl) ((g_X0_isOfKinds n).1 _ _ _ _ _ _ H)

def P_X0_orderOfLength_0 (l : Launch) (Z : XZ) (L : Nat → Nat) (n : Nat) : Prop := ∀ (d : Nat) (S : GS) (a1 : Int) (a2 : Int) (x : Int) (S1 : GS), f_X0_orderOfLength n d 0 S [a1, a2] = some (x, S1) → GA l Z L yX0_orderOfLength cX0_orderOfLength 3 (some .int) [] d 0 0 (fun v S' => v = some (.int (J x)) ∧ S1 = S') (fun _ _ => False) 0 (gl [(0, .ref (L 487)), (1, .int (J a1)), (2, .int (J a2))]) [] S 0 0
theorem i_X0_orderOfLength {l : Launch} {Z : XZ} {L : Nat → Nat} {n : Nat} (ih : P_X0_orderOfLength_0 l Z L n) {d : Nat} {S : GS} {a1 : Int} {a2 : Int} {x : Int} {S1 : GS} (H : f_X0_orderOfLength n d 0 S [a1, a2] = some (x, S1)) : GM l Z L yX0_orderOfLength cX0_orderOfLength 3 (some .int) [] d 0 0 [.ref (L 487), .int (J a1), .int (J a2)] S (fun v S' => v = some (.int (J x)) ∧ S1 = S') (fun _ _ => False) := GM.of (by decide) (Nat.le_of_ble_eq_true rfl) (ih _ _ _ _ _ _ H)
set_option maxHeartbeats 4000000 in
set_option maxRecDepth 20000 in
theorem t_X0_orderOfLength_0 {l : Launch} {Z : XZ} {L : Nat → Nat} (n : Nat) (ih_X0_orderOfLength_0 : P_X0_orderOfLength_0 l Z L n) : P_X0_orderOfLength_0 l Z L (n + 1) := by
  intro d S a1 a2 x S1 H
  have H : b_X0_orderOfLength_0 n d (f_X0_orderOfLength n) S a1 a2 = some (x, S1) := H
  unfold b_X0_orderOfLength_0 at H
  refine GA.aload_n dX0_orderOfLength_0 rfl ?_
  refine GA.get xf_X0_27 dX0_orderOfLength_1 gs_487 (by decide) rfl ?_
  obtain ⟨hg1, H⟩ := gg_e H
  obtain ⟨x2, S_3, hc4, H⟩ := gc_e H
  refine GA.callV (m_X9_clear hc4) xs_X0_193 dX0_orderOfLength_4 (gsS (by decide)) (by decide) rfl rfl (by omega) (by decide) rfl (Nat.le_of_ble_eq_true rfl) (by omega) (by omega) rfl (fun E S9 hx => hx.elim) (fun v S9 hq => ?_)
  obtain ⟨rfl, rfl⟩ := hq
  refine GA.aload_n dX0_orderOfLength_7 rfl ?_
  refine GA.get xf_X0_27 dX0_orderOfLength_8 gs_487 (by decide) rfl ?_
  refine GA.aload_n dX0_orderOfLength_11 rfl ?_
  obtain ⟨z5, hx6, H⟩ := gv_e H
  refine GV.getR hx6 xf_X0_52 dX0_orderOfLength_12 gs_487 (by decide) rfl ?_
  refine GA.iload_n dX0_orderOfLength_15 rfl ?_
  obtain ⟨hg7, H⟩ := gg_e H
  obtain ⟨x8, S_9, hc10, H⟩ := gc_e H
  refine GA.callV (m_X10_length hc10) xs_X0_216 dX0_orderOfLength_16 (gsT hg7) (by omega) rfl rfl (by omega) (by decide) rfl (Nat.le_of_ble_eq_true rfl) (by omega) (by omega) rfl (fun E S9 hx => hx.elim) (fun v S9 hq => ?_)
  obtain ⟨rfl, rfl⟩ := hq
  obtain ⟨x11, S_12, hc13, H⟩ := gc_e H
  refine GA.callV (m_X9_addNumber hc13) xs_X0_242 dX0_orderOfLength_19 (gsS (by decide)) (by decide) rfl rfl (by omega) (by decide) rfl (Nat.le_of_ble_eq_true rfl) (by omega) (by omega) rfl (fun E S9 hx => hx.elim) (fun v S9 hq => ?_)
  obtain ⟨rfl, rfl⟩ := hq
  refine GA.aload_n dX0_orderOfLength_22 rfl ?_
  refine GA.get xf_X0_12 dX0_orderOfLength_23 gs_487 (by decide) rfl ?_
  obtain ⟨x14, S_15, hc16, H⟩ := gc_e H
  refine GA.callV (m_X10_clear hc16) xs_X0_245 dX0_orderOfLength_26 (gsT (by decide)) (by decide) rfl rfl (by omega) (by decide) rfl (Nat.le_of_ble_eq_true rfl) (by omega) (by omega) rfl (fun E S9 hx => hx.elim) (fun v S9 hq => ?_)
  obtain ⟨rfl, rfl⟩ := hq
  refine GA.aload_n dX0_orderOfLength_29 rfl ?_
  refine GA.get xf_X0_12 dX0_orderOfLength_30 gs_487 (by decide) rfl ?_
  refine GA.aload_n dX0_orderOfLength_33 rfl ?_
  refine GA.get xf_X0_12 dX0_orderOfLength_34 gs_487 (by decide) rfl ?_
  refine GA.iconst dX0_orderOfLength_37 ?_
  obtain ⟨x17, S_18, hc19, H⟩ := gc_e H
  refine GA.callV (m_X10_add hc19) xs_X0_246 dX0_orderOfLength_38 (gsT (by decide)) (by decide) rfl rfl (by omega) (by decide) rfl (Nat.le_of_ble_eq_true rfl) (by omega) (by omega) rfl (fun E S9 hx => hx.elim) (fun v S9 hq => ?_)
  obtain ⟨rfl, rfl⟩ := hq
  refine GA.iconst dX0_orderOfLength_41 ?_
  refine GA.aload_n dX0_orderOfLength_42 rfl ?_
  refine GA.get xf_X0_27 dX0_orderOfLength_43 gs_487 (by decide) rfl ?_
  refine GA.iconst dX0_orderOfLength_46 ?_
  obtain ⟨x20, S_21, hc22, H⟩ := gc_e H
  refine GA.callV (m_X10_setNumber hc22) xs_X0_249 dX0_orderOfLength_47 (gsT (by decide)) (by decide) rfl rfl (by omega) (by decide) rfl (Nat.le_of_ble_eq_true rfl) (by omega) (by omega) rfl (fun E S9 hx => hx.elim) (fun v S9 hq => ?_)
  obtain ⟨rfl, rfl⟩ := hq
  refine GA.pop dX0_orderOfLength_50 rfl ?_
  refine GA.aload_n dX0_orderOfLength_51 rfl ?_
  refine GA.get xf_X0_12 dX0_orderOfLength_52 gs_487 (by decide) rfl ?_
  refine GA.iconst dX0_orderOfLength_55 ?_
  refine GA.aload_n dX0_orderOfLength_56 rfl ?_
  obtain ⟨z23, hx24, H⟩ := gv_e H
  refine GV.getR hx24 xf_X0_49 dX0_orderOfLength_57 gs_487 (by decide) rfl ?_
  refine GA.iload_n dX0_orderOfLength_60 rfl ?_
  obtain ⟨x25, S_26, hc27, H⟩ := gc_e H
  refine GA.callV (m_X10_orderOfNumbers hc27) xs_X0_213 dX0_orderOfLength_61 (gsT (by decide)) (by decide) rfl rfl (by omega) (by decide) rfl (Nat.le_of_ble_eq_true rfl) (by omega) (by omega) rfl (fun E S9 hx => hx.elim) (fun v S9 hq => ?_)
  obtain ⟨rfl, rfl⟩ := hq
  cases H
  exact GA.iret rfl dX0_orderOfLength_64 (by omega) (by omega) ⟨rfl, rfl⟩
theorem g_X0_orderOfLength {l : Launch} {Z : XZ} {L : Nat → Nat} : ∀ n, P_X0_orderOfLength_0 l Z L n
  | 0 => fun _ _ _ _ _ _ H => no_e H
  | n + 1 => t_X0_orderOfLength_0 n (g_X0_orderOfLength n)
theorem m_X0_orderOfLength {l : Launch} {Z : XZ} {L : Nat → Nat} {n d : Nat} {S : GS} {a1 : Int} {a2 : Int} {x : Int} {S1 : GS} (H : f_X0_orderOfLength n d 0 S [a1, a2] = some (x, S1)) : GM l Z L yX0_orderOfLength cX0_orderOfLength 3 (some .int) [] d 0 0 [.ref (L 487), .int (J a1), .int (J a2)] S (fun v S' => v = some (.int (J x)) ∧ S1 = S') (fun _ _ => False) := GM.of (by decide) (Nat.le_of_ble_eq_true rfl) ((g_X0_orderOfLength n) _ _ _ _ _ _ H)

def P_X0_isOneOf_0 (l : Launch) (Z : XZ) (L : Nat → Nat) (n : Nat) : Prop := ∀ (d : Nat) (S : GS) (a1 : Int) (a2 : Int) (x : Int) (S1 : GS), f_X0_isOneOf n d 0 S [a1, a2] = some (x, S1) → GA l Z L yX0_isOneOf cX0_isOneOf 6 (some .boolean) [] d 0 0 (fun v S' => v = some (.int (J x)) ∧ S1 = S') (fun _ _ => False) 0 (gl [(0, .ref (L 487)), (1, .int (J a1)), (2, .int (J a2))]) [] S 0 0
def P_X0_isOneOf_15 (l : Launch) (Z : XZ) (L : Nat → Nat) (n : Nat) : Prop := ∀ (d : Nat) (S : GS) (a1 : Int) (a2 : Int) (a3 : Int) (a4 : Int) (a5 : Int) (x : Int) (S1 : GS), f_X0_isOneOf n d 15 S [a1, a2, a3, a4, a5] = some (x, S1) → GA l Z L yX0_isOneOf cX0_isOneOf 6 (some .boolean) [] d 0 0 (fun v S' => v = some (.int (J x)) ∧ S1 = S') (fun _ _ => False) 15 (gl [(0, .ref (L 487)), (1, .int (J a1)), (2, .int (J a2)), (3, .int (J a3)), (4, .int (J a4)), (5, .int (J a5))]) [] S 0 0
def P_X0_isOneOf_55 (l : Launch) (Z : XZ) (L : Nat → Nat) (n : Nat) : Prop := ∀ (d : Nat) (S : GS) (a1 : Int) (a2 : Int) (a4 : Int) (a5 : Int) (s0 : Int) (x : Int) (S1 : GS), f_X0_isOneOf n d 55 S [a1, a2, a4, a5, s0] = some (x, S1) → GA l Z L yX0_isOneOf cX0_isOneOf 6 (some .boolean) [] d 0 0 (fun v S' => v = some (.int (J x)) ∧ S1 = S') (fun _ _ => False) 55 (gl [(0, .ref (L 487)), (1, .int (J a1)), (2, .int (J a2)), (4, .int (J a4)), (5, .int (J a5))]) [.int (J s0)] S 0 0
theorem i_X0_isOneOf {l : Launch} {Z : XZ} {L : Nat → Nat} {n : Nat} (ih : P_X0_isOneOf_0 l Z L n) {d : Nat} {S : GS} {a1 : Int} {a2 : Int} {x : Int} {S1 : GS} (H : f_X0_isOneOf n d 0 S [a1, a2] = some (x, S1)) : GM l Z L yX0_isOneOf cX0_isOneOf 6 (some .boolean) [] d 0 0 [.ref (L 487), .int (J a1), .int (J a2)] S (fun v S' => v = some (.int (J x)) ∧ S1 = S') (fun _ _ => False) := GM.of (by decide) (Nat.le_of_ble_eq_true rfl) (ih _ _ _ _ _ _ H)
set_option maxHeartbeats 4000000 in
set_option maxRecDepth 20000 in
theorem t_X0_isOneOf_0 {l : Launch} {Z : XZ} {L : Nat → Nat} (n : Nat) (ih_X0_isOneOf_0 : P_X0_isOneOf_0 l Z L n) (ih_X0_isOneOf_15 : P_X0_isOneOf_15 l Z L n) (ih_X0_isOneOf_55 : P_X0_isOneOf_55 l Z L n) : P_X0_isOneOf_0 l Z L (n + 1) := by
  intro d S a1 a2 x S1 H
  have H : b_X0_isOneOf_0 n d (f_X0_isOneOf n) S a1 a2 = some (x, S1) := H
  unfold b_X0_isOneOf_0 at H
  refine GA.iconst dX0_isOneOf_0 ?_
  refine GA.istore_n dX0_isOneOf_1 (by decide) ?_
  refine GA.aload_n dX0_isOneOf_2 rfl ?_
  obtain ⟨z1, hx2, H⟩ := gv_e H
  refine GV.getR hx2 xf_X0_49 dX0_isOneOf_3 gs_487 (by decide) rfl ?_
  refine GA.iload_n dX0_isOneOf_6 rfl ?_
  obtain ⟨hg3, H⟩ := gg_e H
  obtain ⟨hg4, H⟩ := gg_e H
  obtain ⟨x5, S_6, hc7, H⟩ := gc_e H
  refine GA.callV (m_X10_first hc7) xs_X0_179 dX0_isOneOf_7 (gsT hg4) (by omega) rfl rfl (by omega) (by decide) rfl (Nat.le_of_ble_eq_true rfl) (by omega) (by omega) rfl (fun E S9 hx => hx.elim) (fun v S9 hq => ?_)
  obtain ⟨rfl, rfl⟩ := hq
  refine GA.istore dX0_isOneOf_10 (by decide) ?_
  refine GA.iconst dX0_isOneOf_12 ?_
  refine GA.istore dX0_isOneOf_13 (by decide) ?_
  refine GA.locals [(0, .ref (L 487)), (1, .int (J a1)), (2, .int (J a2)), (3, .int (J 0)), (4, .int (J x5)), (5, .int (J 0))] ⟨rfl, rfl, rfl, rfl, rfl, rfl, trivial⟩ ?_
  exact ih_X0_isOneOf_15 _ _ (a1) (a2) (0) (x5) (0) _ _ H
set_option maxHeartbeats 4000000 in
set_option maxRecDepth 20000 in
theorem t_X0_isOneOf_15 {l : Launch} {Z : XZ} {L : Nat → Nat} (n : Nat) (ih_X0_isOneOf_0 : P_X0_isOneOf_0 l Z L n) (ih_X0_isOneOf_15 : P_X0_isOneOf_15 l Z L n) (ih_X0_isOneOf_55 : P_X0_isOneOf_55 l Z L n) : P_X0_isOneOf_15 l Z L (n + 1) := by
  intro d S a1 a2 a3 a4 a5 x S1 H
  have H : b_X0_isOneOf_15 n d (f_X0_isOneOf n) S a1 a2 a3 a4 a5 = some (x, S1) := H
  unfold b_X0_isOneOf_15 at H
  refine GA.iload dX0_isOneOf_15 rfl ?_
  refine GA.iconst dX0_isOneOf_17 ?_
  obtain ⟨hg1, H⟩ := gg_e H
  refine GV.icmp_eq (tgt := 74) hg1 (by decide) dX0_isOneOf_18 (by decide) (fun c2 => ?_) (fun c2 => ?_)
  · have H := it_t H c2
    refine GA.iload_n dX0_isOneOf_74 rfl ?_
    obtain ⟨hg3, H⟩ := gg_e H
    cases H
    exact GV.zret hg3 rfl dX0_isOneOf_75 (by omega) (by omega) ⟨rfl, rfl⟩
  · have H := it_f H c2
    refine GA.iload dX0_isOneOf_21 rfl ?_
    refine GA.bipush dX0_isOneOf_23 rfl ?_
    obtain ⟨hg4, H⟩ := gg_e H
    refine GV.icmp_ge (tgt := 74) hg4 (by decide) dX0_isOneOf_25 (by decide) (fun c5 => ?_) (fun c5 => ?_)
    · have H := it_t H c5
      refine GA.iload_n dX0_isOneOf_74 rfl ?_
      obtain ⟨hg6, H⟩ := gg_e H
      cases H
      exact GV.zret hg6 rfl dX0_isOneOf_75 (by omega) (by omega) ⟨rfl, rfl⟩
    · have H := it_f H c5
      refine GA.iload_n dX0_isOneOf_28 rfl ?_
      obtain ⟨hg7, H⟩ := gg_e H
      refine GV.if_ne (tgt := 50) hg7 dX0_isOneOf_29 (by decide) (fun c8 => ?_) (fun c8 => ?_)
      · have H := it_t H c8
        refine GA.iconst dX0_isOneOf_50 ?_
        refine GA.goto (tgt := 55) dX0_isOneOf_51 (by decide) ?_
        refine GA.locals [(0, .ref (L 487)), (1, .int (J a1)), (2, .int (J a2)), (4, .int (J a4)), (5, .int (J a5))] ⟨rfl, rfl, rfl, rfl, rfl, trivial⟩ ?_
        exact ih_X0_isOneOf_55 _ _ (a1) (a2) (a4) (a5) (1) _ _ H
      · have H := it_f H c8
        refine GA.aload_n dX0_isOneOf_32 rfl ?_
        obtain ⟨z9, hx10, H⟩ := gv_e H
        refine GV.getR hx10 xf_X0_49 dX0_isOneOf_33 gs_487 (by decide) rfl ?_
        refine GA.iload dX0_isOneOf_36 rfl ?_
        refine GA.aload_n dX0_isOneOf_38 rfl ?_
        obtain ⟨z11, hx12, H⟩ := gv_e H
        refine GV.getR hx12 xf_X0_52 dX0_isOneOf_39 gs_487 (by decide) rfl ?_
        refine GA.iload_n dX0_isOneOf_42 rfl ?_
        refine GA.iconst dX0_isOneOf_43 ?_
        obtain ⟨hg13, H⟩ := gg_e H
        obtain ⟨hg14, H⟩ := gg_e H
        obtain ⟨x15, S_16, hc17, H⟩ := gc_e H
        refine GA.callN (m_X10_same hc17) xs_X0_253 dX0_isOneOf_44 (gsT hg14) (by omega) rfl rfl (by omega) (by decide) rfl (Nat.le_of_ble_eq_true rfl) (by omega) (by omega) rfl (fun E S9 hx => hx.elim) (fun v S9 hq => ?_)
        obtain ⟨rfl, rfl⟩ := hq
        obtain ⟨hg18, H⟩ := gg_e H
        refine GV.if_eq (tgt := 54) hg18 dX0_isOneOf_47 (by decide) (fun c19 => ?_) (fun c19 => ?_)
        · have H := it_t H c19
          refine GA.iconst dX0_isOneOf_54 ?_
          refine GA.locals [(0, .ref (L 487)), (1, .int (J a1)), (2, .int (J a2)), (4, .int (J a4)), (5, .int (J a5))] ⟨rfl, rfl, rfl, rfl, rfl, trivial⟩ ?_
          exact ih_X0_isOneOf_55 _ _ (a1) (a2) (a4) (a5) (0) _ _ H
        · have H := it_f H c19
          refine GA.iconst dX0_isOneOf_50 ?_
          refine GA.goto (tgt := 55) dX0_isOneOf_51 (by decide) ?_
          refine GA.locals [(0, .ref (L 487)), (1, .int (J a1)), (2, .int (J a2)), (4, .int (J a4)), (5, .int (J a5))] ⟨rfl, rfl, rfl, rfl, rfl, trivial⟩ ?_
          exact ih_X0_isOneOf_55 _ _ (a1) (a2) (a4) (a5) (1) _ _ H
set_option maxHeartbeats 4000000 in
set_option maxRecDepth 20000 in
theorem t_X0_isOneOf_55 {l : Launch} {Z : XZ} {L : Nat → Nat} (n : Nat) (ih_X0_isOneOf_0 : P_X0_isOneOf_0 l Z L n) (ih_X0_isOneOf_15 : P_X0_isOneOf_15 l Z L n) (ih_X0_isOneOf_55 : P_X0_isOneOf_55 l Z L n) : P_X0_isOneOf_55 l Z L (n + 1) := by
  intro d S a1 a2 a4 a5 s0 x S1 H
  have H : b_X0_isOneOf_55 n d (f_X0_isOneOf n) S a1 a2 a4 a5 s0 = some (x, S1) := H
  unfold b_X0_isOneOf_55 at H
  refine GA.istore_n dX0_isOneOf_55 (by decide) ?_
  refine GA.aload_n dX0_isOneOf_56 rfl ?_
  obtain ⟨z1, hx2, H⟩ := gv_e H
  refine GV.getR hx2 xf_X0_49 dX0_isOneOf_57 gs_487 (by decide) rfl ?_
  refine GA.iload_n dX0_isOneOf_60 rfl ?_
  refine GA.iload dX0_isOneOf_61 rfl ?_
  obtain ⟨hg3, H⟩ := gg_e H
  obtain ⟨hg4, H⟩ := gg_e H
  obtain ⟨x5, S_6, hc7, H⟩ := gc_e H
  refine GA.callV (m_X10_next hc7) xs_X0_186 dX0_isOneOf_63 (gsT hg4) (by omega) rfl rfl (by omega) (by decide) rfl (Nat.le_of_ble_eq_true rfl) (by omega) (by omega) rfl (fun E S9 hx => hx.elim) (fun v S9 hq => ?_)
  obtain ⟨rfl, rfl⟩ := hq
  refine GA.istore dX0_isOneOf_66 (by decide) ?_
  obtain ⟨x8, hx9, H⟩ := gv_e H
  refine GV.iinc hx9 dX0_isOneOf_68 rfl (by decide) ?_
  refine GA.goto (tgt := 15) dX0_isOneOf_71 (by decide) ?_
  refine GA.locals [(0, .ref (L 487)), (1, .int (J a1)), (2, .int (J a2)), (3, .int (J s0)), (4, .int (J x5)), (5, .int (J x8))] ⟨rfl, rfl, rfl, rfl, rfl, rfl, trivial⟩ ?_
  exact ih_X0_isOneOf_15 _ _ (a1) (a2) (s0) (x5) (x8) _ _ H
theorem g_X0_isOneOf {l : Launch} {Z : XZ} {L : Nat → Nat} : ∀ n, P_X0_isOneOf_0 l Z L n ∧ P_X0_isOneOf_15 l Z L n ∧ P_X0_isOneOf_55 l Z L n
  | 0 => ⟨fun _ _ _ _ _ _ H => no_e H, fun _ _ _ _ _ _ _ _ _ H => no_e H, fun _ _ _ _ _ _ _ _ _ H => no_e H⟩
  | n + 1 => have ⟨h0, h1, h2⟩ := g_X0_isOneOf (l := l) (Z := Z) (L := L) n
    ⟨t_X0_isOneOf_0 n h0 h1 h2, t_X0_isOneOf_15 n h0 h1 h2, t_X0_isOneOf_55 n h0 h1 h2⟩
theorem m_X0_isOneOf {l : Launch} {Z : XZ} {L : Nat → Nat} {n d : Nat} {S : GS} {a1 : Int} {a2 : Int} {x : Int} {S1 : GS} (H : f_X0_isOneOf n d 0 S [a1, a2] = some (x, S1)) : GM l Z L yX0_isOneOf cX0_isOneOf 6 (some .boolean) [] d 0 0 [.ref (L 487), .int (J a1), .int (J a2)] S (fun v S' => v = some (.int (J x)) ∧ S1 = S') (fun _ _ => False) := GM.of (by decide) (Nat.le_of_ble_eq_true rfl) ((g_X0_isOneOf n).1 _ _ _ _ _ _ H)

def P_X0_plainly_0 (l : Launch) (Z : XZ) (L : Nat → Nat) (n : Nat) : Prop := ∀ (d : Nat) (S : GS) (a1 : Int) (a2 : Int) (a3 : Int) (a4 : Int) (x : Int) (S1 : GS), f_X0_plainly n d 0 S [a1, a2, a3, a4] = some (x, S1) → GA l Z L yX0_plainly cX0_plainly 6 (some .boolean) [] d 0 0 (fun v S' => v = some (.int (J x)) ∧ S1 = S') (fun _ _ => False) 0 (gl [(0, .ref (L 487)), (1, .int (J a1)), (2, .int (J a2)), (3, .int (J a3)), (4, .int (J a4))]) [] S 0 0
def P_X0_plainly_209 (l : Launch) (Z : XZ) (L : Nat → Nat) (n : Nat) : Prop := ∀ (d : Nat) (S : GS) (a1 : Int) (a3 : Int) (a4 : Int) (a5 : Int) (x : Int) (S1 : GS), f_X0_plainly n d 209 S [a1, a3, a4, a5] = some (x, S1) → GA l Z L yX0_plainly cX0_plainly 6 (some .boolean) [] d 0 0 (fun v S' => v = some (.int (J x)) ∧ S1 = S') (fun _ _ => False) 209 (gl [(0, .ref (L 487)), (1, .int (J a1)), (3, .int (J a3)), (4, .int (J a4)), (5, .int (J a5))]) [] S 0 0
theorem i_X0_plainly {l : Launch} {Z : XZ} {L : Nat → Nat} {n : Nat} (ih : P_X0_plainly_0 l Z L n) {d : Nat} {S : GS} {a1 : Int} {a2 : Int} {a3 : Int} {a4 : Int} {x : Int} {S1 : GS} (H : f_X0_plainly n d 0 S [a1, a2, a3, a4] = some (x, S1)) : GM l Z L yX0_plainly cX0_plainly 6 (some .boolean) [] d 0 0 [.ref (L 487), .int (J a1), .int (J a2), .int (J a3), .int (J a4)] S (fun v S' => v = some (.int (J x)) ∧ S1 = S') (fun _ _ => False) := GM.of (by decide) (Nat.le_of_ble_eq_true rfl) (ih _ _ _ _ _ _ _ _ H)
set_option maxHeartbeats 4000000 in
set_option maxRecDepth 20000 in
theorem t_X0_plainly_0 {l : Launch} {Z : XZ} {L : Nat → Nat} (n : Nat) (ih_X0_plainly_0 : P_X0_plainly_0 l Z L n) (ih_X0_plainly_209 : P_X0_plainly_209 l Z L n) : P_X0_plainly_0 l Z L (n + 1) := by
  intro d S a1 a2 a3 a4 x S1 H
  have H : b_X0_plainly_0 n d (f_X0_plainly n) S a1 a2 a3 a4 = some (x, S1) := H
  unfold b_X0_plainly_0 at H
  refine GA.iload_n dX0_plainly_0 rfl ?_
  refine GA.bipush dX0_plainly_1 rfl ?_
  obtain ⟨hg1, H⟩ := gg_e H
  refine GV.icmp_ne (tgt := 15) hg1 (by decide) dX0_plainly_3 (by decide) (fun c2 => ?_) (fun c2 => ?_)
  · have H := it_t H c2
    refine GA.iconst dX0_plainly_15 ?_
    refine GA.istore dX0_plainly_16 (by decide) ?_
    refine GA.iload_n dX0_plainly_18 rfl ?_
    by_cases c3 : a1 = 1
    · have H := it_t H c3
      refine GA.tableIn (tgt := 52) dX0_plainly_19 hg1 (by omega) (by omega) (by rw [c3] <;> rfl) (by decide) ?_
      refine GA.aload_n dX0_plainly_52 rfl ?_
      refine GA.iload_n dX0_plainly_53 rfl ?_
      refine GA.iload_n dX0_plainly_54 rfl ?_
      obtain ⟨hg4, H⟩ := gg_e H
      obtain ⟨x5, S_6, hc7, H⟩ := gc_e H
      refine GA.callV (m_X0_isOfKinds hc7) xs_X0_210 dX0_plainly_55 gs_487 (by decide) rfl rfl (by omega) (by decide) rfl (Nat.le_of_ble_eq_true rfl) (by omega) (by omega) rfl (fun E S9 hx => hx.elim) (fun v S9 hq => ?_)
      obtain ⟨rfl, rfl⟩ := hq
      refine GA.istore dX0_plainly_58 (by decide) ?_
      refine GA.goto (tgt := 209) dX0_plainly_60 (by decide) ?_
      refine GA.locals [(0, .ref (L 487)), (1, .int (J a1)), (3, .int (J a3)), (4, .int (J a4)), (5, .int (J x5))] ⟨rfl, rfl, rfl, rfl, rfl, trivial⟩ ?_
      exact ih_X0_plainly_209 _ _ (a1) (a3) (a4) (x5) _ _ H
    have H := it_f H c3
    by_cases c8 : a1 = 2
    · have H := it_t H c8
      refine GA.tableIn (tgt := 63) dX0_plainly_19 hg1 (by omega) (by omega) (by rw [c8] <;> rfl) (by decide) ?_
      refine GA.aload_n dX0_plainly_63 rfl ?_
      obtain ⟨z9, hx10, H⟩ := gv_e H
      refine GV.getR hx10 xf_X0_52 dX0_plainly_64 gs_487 (by decide) rfl ?_
      refine GA.iload_n dX0_plainly_67 rfl ?_
      refine GA.iconst dX0_plainly_68 ?_
      obtain ⟨hg11, H⟩ := gg_e H
      obtain ⟨hg12, H⟩ := gg_e H
      obtain ⟨x13, S_14, hc15, H⟩ := gc_e H
      refine GA.callV (m_X10_is hc15) xs_X0_126 dX0_plainly_69 (gsT hg12) (by omega) rfl rfl (by omega) (by decide) rfl (Nat.le_of_ble_eq_true rfl) (by omega) (by omega) rfl (fun E S9 hx => hx.elim) (fun v S9 hq => ?_)
      obtain ⟨rfl, rfl⟩ := hq
      obtain ⟨hg16, H⟩ := gg_e H
      refine GV.if_eq (tgt := 91) hg16 dX0_plainly_72 (by decide) (fun c17 => ?_) (fun c17 => ?_)
      · have H := it_t H c17
        refine GA.iconst dX0_plainly_91 ?_
        refine GA.goto (tgt := 96) dX0_plainly_92 (by decide) ?_
        refine GA.istore dX0_plainly_96 (by decide) ?_
        refine GA.goto (tgt := 209) dX0_plainly_98 (by decide) ?_
        refine GA.locals [(0, .ref (L 487)), (1, .int (J a1)), (3, .int (J a3)), (4, .int (J a4)), (5, .int (J 1))] ⟨rfl, rfl, rfl, rfl, rfl, trivial⟩ ?_
        exact ih_X0_plainly_209 _ _ (a1) (a3) (a4) (1) _ _ H
      · have H := it_f H c17
        refine GA.aload_n dX0_plainly_75 rfl ?_
        obtain ⟨z18, hx19, H⟩ := gv_e H
        refine GV.getR hx19 xf_X0_52 dX0_plainly_76 gs_487 (by decide) rfl ?_
        refine GA.iload_n dX0_plainly_79 rfl ?_
        refine GA.aload_n dX0_plainly_80 rfl ?_
        obtain ⟨z20, hx21, H⟩ := gv_e H
        refine GV.getR hx21 xf_X0_49 dX0_plainly_81 gs_487 (by decide) rfl ?_
        refine GA.iload_n dX0_plainly_84 rfl ?_
        obtain ⟨hg22, H⟩ := gg_e H
        obtain ⟨x23, S_24, hc25, H⟩ := gc_e H
        refine GA.callV (m_X10_orderOfNumbers hc25) xs_X0_213 dX0_plainly_85 (gsT hg22) (by omega) rfl rfl (by omega) (by decide) rfl (Nat.le_of_ble_eq_true rfl) (by omega) (by omega) rfl (fun E S9 hx => hx.elim) (fun v S9 hq => ?_)
        obtain ⟨rfl, rfl⟩ := hq
        obtain ⟨hg26, H⟩ := gg_e H
        refine GV.if_lt (tgt := 95) hg26 dX0_plainly_88 (by decide) (fun c27 => ?_) (fun c27 => ?_)
        · have H := it_t H c27
          refine GA.iconst dX0_plainly_95 ?_
          refine GA.istore dX0_plainly_96 (by decide) ?_
          refine GA.goto (tgt := 209) dX0_plainly_98 (by decide) ?_
          refine GA.locals [(0, .ref (L 487)), (1, .int (J a1)), (3, .int (J a3)), (4, .int (J a4)), (5, .int (J 0))] ⟨rfl, rfl, rfl, rfl, rfl, trivial⟩ ?_
          exact ih_X0_plainly_209 _ _ (a1) (a3) (a4) (0) _ _ H
        · have H := it_f H c27
          refine GA.iconst dX0_plainly_91 ?_
          refine GA.goto (tgt := 96) dX0_plainly_92 (by decide) ?_
          refine GA.istore dX0_plainly_96 (by decide) ?_
          refine GA.goto (tgt := 209) dX0_plainly_98 (by decide) ?_
          refine GA.locals [(0, .ref (L 487)), (1, .int (J a1)), (3, .int (J a3)), (4, .int (J a4)), (5, .int (J 1))] ⟨rfl, rfl, rfl, rfl, rfl, trivial⟩ ?_
          exact ih_X0_plainly_209 _ _ (a1) (a3) (a4) (1) _ _ H
    have H := it_f H c8
    by_cases c28 : a1 = 3
    · have H := it_t H c28
      refine GA.tableIn (tgt := 101) dX0_plainly_19 hg1 (by omega) (by omega) (by rw [c28] <;> rfl) (by decide) ?_
      refine GA.aload_n dX0_plainly_101 rfl ?_
      obtain ⟨z29, hx30, H⟩ := gv_e H
      refine GV.getR hx30 xf_X0_52 dX0_plainly_102 gs_487 (by decide) rfl ?_
      refine GA.iload_n dX0_plainly_105 rfl ?_
      refine GA.iconst dX0_plainly_106 ?_
      obtain ⟨hg31, H⟩ := gg_e H
      obtain ⟨hg32, H⟩ := gg_e H
      obtain ⟨x33, S_34, hc35, H⟩ := gc_e H
      refine GA.callV (m_X10_is hc35) xs_X0_126 dX0_plainly_107 (gsT hg32) (by omega) rfl rfl (by omega) (by decide) rfl (Nat.le_of_ble_eq_true rfl) (by omega) (by omega) rfl (fun E S9 hx => hx.elim) (fun v S9 hq => ?_)
      obtain ⟨rfl, rfl⟩ := hq
      obtain ⟨hg36, H⟩ := gg_e H
      refine GV.if_eq (tgt := 129) hg36 dX0_plainly_110 (by decide) (fun c37 => ?_) (fun c37 => ?_)
      · have H := it_t H c37
        refine GA.iconst dX0_plainly_129 ?_
        refine GA.goto (tgt := 134) dX0_plainly_130 (by decide) ?_
        refine GA.istore dX0_plainly_134 (by decide) ?_
        refine GA.goto (tgt := 209) dX0_plainly_136 (by decide) ?_
        refine GA.locals [(0, .ref (L 487)), (1, .int (J a1)), (3, .int (J a3)), (4, .int (J a4)), (5, .int (J 1))] ⟨rfl, rfl, rfl, rfl, rfl, trivial⟩ ?_
        exact ih_X0_plainly_209 _ _ (a1) (a3) (a4) (1) _ _ H
      · have H := it_f H c37
        refine GA.aload_n dX0_plainly_113 rfl ?_
        obtain ⟨z38, hx39, H⟩ := gv_e H
        refine GV.getR hx39 xf_X0_52 dX0_plainly_114 gs_487 (by decide) rfl ?_
        refine GA.iload_n dX0_plainly_117 rfl ?_
        refine GA.aload_n dX0_plainly_118 rfl ?_
        obtain ⟨z40, hx41, H⟩ := gv_e H
        refine GV.getR hx41 xf_X0_49 dX0_plainly_119 gs_487 (by decide) rfl ?_
        refine GA.iload_n dX0_plainly_122 rfl ?_
        obtain ⟨hg42, H⟩ := gg_e H
        obtain ⟨x43, S_44, hc45, H⟩ := gc_e H
        refine GA.callV (m_X10_orderOfNumbers hc45) xs_X0_213 dX0_plainly_123 (gsT hg42) (by omega) rfl rfl (by omega) (by decide) rfl (Nat.le_of_ble_eq_true rfl) (by omega) (by omega) rfl (fun E S9 hx => hx.elim) (fun v S9 hq => ?_)
        obtain ⟨rfl, rfl⟩ := hq
        obtain ⟨hg46, H⟩ := gg_e H
        refine GV.if_gt (tgt := 133) hg46 dX0_plainly_126 (by decide) (fun c47 => ?_) (fun c47 => ?_)
        · have H := it_t H c47
          refine GA.iconst dX0_plainly_133 ?_
          refine GA.istore dX0_plainly_134 (by decide) ?_
          refine GA.goto (tgt := 209) dX0_plainly_136 (by decide) ?_
          refine GA.locals [(0, .ref (L 487)), (1, .int (J a1)), (3, .int (J a3)), (4, .int (J a4)), (5, .int (J 0))] ⟨rfl, rfl, rfl, rfl, rfl, trivial⟩ ?_
          exact ih_X0_plainly_209 _ _ (a1) (a3) (a4) (0) _ _ H
        · have H := it_f H c47
          refine GA.iconst dX0_plainly_129 ?_
          refine GA.goto (tgt := 134) dX0_plainly_130 (by decide) ?_
          refine GA.istore dX0_plainly_134 (by decide) ?_
          refine GA.goto (tgt := 209) dX0_plainly_136 (by decide) ?_
          refine GA.locals [(0, .ref (L 487)), (1, .int (J a1)), (3, .int (J a3)), (4, .int (J a4)), (5, .int (J 1))] ⟨rfl, rfl, rfl, rfl, rfl, trivial⟩ ?_
          exact ih_X0_plainly_209 _ _ (a1) (a3) (a4) (1) _ _ H
    have H := it_f H c28
    by_cases c48 : a1 = 4
    · have H := it_t H c48
      refine GA.tableIn (tgt := 139) dX0_plainly_19 hg1 (by omega) (by omega) (by rw [c48] <;> rfl) (by decide) ?_
      refine GA.aload_n dX0_plainly_139 rfl ?_
      obtain ⟨z49, hx50, H⟩ := gv_e H
      refine GV.getR hx50 xf_X0_52 dX0_plainly_140 gs_487 (by decide) rfl ?_
      refine GA.iload_n dX0_plainly_143 rfl ?_
      obtain ⟨hg51, H⟩ := gg_e H
      obtain ⟨hg52, H⟩ := gg_e H
      obtain ⟨x53, S_54, hc55, H⟩ := gc_e H
      refine GA.callV (m_X10_length hc55) xs_X0_216 dX0_plainly_144 (gsT hg52) (by omega) rfl rfl (by omega) (by decide) rfl (Nat.le_of_ble_eq_true rfl) (by omega) (by omega) rfl (fun E S9 hx => hx.elim) (fun v S9 hq => ?_)
      obtain ⟨rfl, rfl⟩ := hq
      refine GA.iconst dX0_plainly_147 ?_
      obtain ⟨hg56, H⟩ := gg_e H
      refine GV.icmp_eq (tgt := 160) hg56 (by decide) dX0_plainly_148 (by decide) (fun c57 => ?_) (fun c57 => ?_)
      · have H := it_t H c57
        refine GA.iconst dX0_plainly_160 ?_
        refine GA.goto (tgt := 165) dX0_plainly_161 (by decide) ?_
        refine GA.istore dX0_plainly_165 (by decide) ?_
        refine GA.goto (tgt := 209) dX0_plainly_167 (by decide) ?_
        refine GA.locals [(0, .ref (L 487)), (1, .int (J a1)), (3, .int (J a3)), (4, .int (J a4)), (5, .int (J 1))] ⟨rfl, rfl, rfl, rfl, rfl, trivial⟩ ?_
        exact ih_X0_plainly_209 _ _ (a1) (a3) (a4) (1) _ _ H
      · have H := it_f H c57
        refine GA.aload_n dX0_plainly_151 rfl ?_
        refine GA.iload_n dX0_plainly_152 rfl ?_
        refine GA.iload_n dX0_plainly_153 rfl ?_
        obtain ⟨x58, S_59, hc60, H⟩ := gc_e H
        refine GA.callV (m_X0_orderOfLength hc60) xs_X0_219 dX0_plainly_154 gs_487 (by decide) rfl rfl (by omega) (by decide) rfl (Nat.le_of_ble_eq_true rfl) (by omega) (by omega) rfl (fun E S9 hx => hx.elim) (fun v S9 hq => ?_)
        obtain ⟨rfl, rfl⟩ := hq
        obtain ⟨hg61, H⟩ := gg_e H
        refine GV.if_lt (tgt := 164) hg61 dX0_plainly_157 (by decide) (fun c62 => ?_) (fun c62 => ?_)
        · have H := it_t H c62
          refine GA.iconst dX0_plainly_164 ?_
          refine GA.istore dX0_plainly_165 (by decide) ?_
          refine GA.goto (tgt := 209) dX0_plainly_167 (by decide) ?_
          refine GA.locals [(0, .ref (L 487)), (1, .int (J a1)), (3, .int (J a3)), (4, .int (J a4)), (5, .int (J 0))] ⟨rfl, rfl, rfl, rfl, rfl, trivial⟩ ?_
          exact ih_X0_plainly_209 _ _ (a1) (a3) (a4) (0) _ _ H
        · have H := it_f H c62
          refine GA.iconst dX0_plainly_160 ?_
          refine GA.goto (tgt := 165) dX0_plainly_161 (by decide) ?_
          refine GA.istore dX0_plainly_165 (by decide) ?_
          refine GA.goto (tgt := 209) dX0_plainly_167 (by decide) ?_
          refine GA.locals [(0, .ref (L 487)), (1, .int (J a1)), (3, .int (J a3)), (4, .int (J a4)), (5, .int (J 1))] ⟨rfl, rfl, rfl, rfl, rfl, trivial⟩ ?_
          exact ih_X0_plainly_209 _ _ (a1) (a3) (a4) (1) _ _ H
    have H := it_f H c48
    by_cases c63 : a1 = 5
    · have H := it_t H c63
      refine GA.tableIn (tgt := 170) dX0_plainly_19 hg1 (by omega) (by omega) (by rw [c63] <;> rfl) (by decide) ?_
      refine GA.aload_n dX0_plainly_170 rfl ?_
      obtain ⟨z64, hx65, H⟩ := gv_e H
      refine GV.getR hx65 xf_X0_52 dX0_plainly_171 gs_487 (by decide) rfl ?_
      refine GA.iload_n dX0_plainly_174 rfl ?_
      obtain ⟨hg66, H⟩ := gg_e H
      obtain ⟨hg67, H⟩ := gg_e H
      obtain ⟨x68, S_69, hc70, H⟩ := gc_e H
      refine GA.callV (m_X10_length hc70) xs_X0_216 dX0_plainly_175 (gsT hg67) (by omega) rfl rfl (by omega) (by decide) rfl (Nat.le_of_ble_eq_true rfl) (by omega) (by omega) rfl (fun E S9 hx => hx.elim) (fun v S9 hq => ?_)
      obtain ⟨rfl, rfl⟩ := hq
      refine GA.iconst dX0_plainly_178 ?_
      obtain ⟨hg71, H⟩ := gg_e H
      refine GV.icmp_eq (tgt := 191) hg71 (by decide) dX0_plainly_179 (by decide) (fun c72 => ?_) (fun c72 => ?_)
      · have H := it_t H c72
        refine GA.iconst dX0_plainly_191 ?_
        refine GA.goto (tgt := 196) dX0_plainly_192 (by decide) ?_
        refine GA.istore dX0_plainly_196 (by decide) ?_
        refine GA.goto (tgt := 209) dX0_plainly_198 (by decide) ?_
        refine GA.locals [(0, .ref (L 487)), (1, .int (J a1)), (3, .int (J a3)), (4, .int (J a4)), (5, .int (J 1))] ⟨rfl, rfl, rfl, rfl, rfl, trivial⟩ ?_
        exact ih_X0_plainly_209 _ _ (a1) (a3) (a4) (1) _ _ H
      · have H := it_f H c72
        refine GA.aload_n dX0_plainly_182 rfl ?_
        refine GA.iload_n dX0_plainly_183 rfl ?_
        refine GA.iload_n dX0_plainly_184 rfl ?_
        obtain ⟨x73, S_74, hc75, H⟩ := gc_e H
        refine GA.callV (m_X0_orderOfLength hc75) xs_X0_219 dX0_plainly_185 gs_487 (by decide) rfl rfl (by omega) (by decide) rfl (Nat.le_of_ble_eq_true rfl) (by omega) (by omega) rfl (fun E S9 hx => hx.elim) (fun v S9 hq => ?_)
        obtain ⟨rfl, rfl⟩ := hq
        obtain ⟨hg76, H⟩ := gg_e H
        refine GV.if_gt (tgt := 195) hg76 dX0_plainly_188 (by decide) (fun c77 => ?_) (fun c77 => ?_)
        · have H := it_t H c77
          refine GA.iconst dX0_plainly_195 ?_
          refine GA.istore dX0_plainly_196 (by decide) ?_
          refine GA.goto (tgt := 209) dX0_plainly_198 (by decide) ?_
          refine GA.locals [(0, .ref (L 487)), (1, .int (J a1)), (3, .int (J a3)), (4, .int (J a4)), (5, .int (J 0))] ⟨rfl, rfl, rfl, rfl, rfl, trivial⟩ ?_
          exact ih_X0_plainly_209 _ _ (a1) (a3) (a4) (0) _ _ H
        · have H := it_f H c77
          refine GA.iconst dX0_plainly_191 ?_
          refine GA.goto (tgt := 196) dX0_plainly_192 (by decide) ?_
          refine GA.istore dX0_plainly_196 (by decide) ?_
          refine GA.goto (tgt := 209) dX0_plainly_198 (by decide) ?_
          refine GA.locals [(0, .ref (L 487)), (1, .int (J a1)), (3, .int (J a3)), (4, .int (J a4)), (5, .int (J 1))] ⟨rfl, rfl, rfl, rfl, rfl, trivial⟩ ?_
          exact ih_X0_plainly_209 _ _ (a1) (a3) (a4) (1) _ _ H
    have H := it_f H c63
    refine GA.tableOut (tgt := 201) dX0_plainly_19 hg1 (by omega) (by decide) ?_
    refine GA.aload_n dX0_plainly_201 rfl ?_
    refine GA.iload_n dX0_plainly_202 rfl ?_
    refine GA.iload_n dX0_plainly_203 rfl ?_
    obtain ⟨hg78, H⟩ := gg_e H
    obtain ⟨x79, S_80, hc81, H⟩ := gc_e H
    refine GA.callV (m_X0_isOneOf hc81) xs_X0_222 dX0_plainly_204 gs_487 (by decide) rfl rfl (by omega) (by decide) rfl (Nat.le_of_ble_eq_true rfl) (by omega) (by omega) rfl (fun E S9 hx => hx.elim) (fun v S9 hq => ?_)
    obtain ⟨rfl, rfl⟩ := hq
    refine GA.istore dX0_plainly_207 (by decide) ?_
    refine GA.locals [(0, .ref (L 487)), (1, .int (J a1)), (3, .int (J a3)), (4, .int (J a4)), (5, .int (J x79))] ⟨rfl, rfl, rfl, rfl, rfl, trivial⟩ ?_
    exact ih_X0_plainly_209 _ _ (a1) (a3) (a4) (x79) _ _ H
  · have H := it_f H c2
    refine GA.aload_n dX0_plainly_6 rfl ?_
    refine GA.iload_n dX0_plainly_7 rfl ?_
    refine GA.iload_n dX0_plainly_8 rfl ?_
    refine GA.iload dX0_plainly_9 rfl ?_
    obtain ⟨hg82, H⟩ := gg_e H
    obtain ⟨x83, S_84, hc85, H⟩ := gc_e H
    refine GA.callV (m_X0_hasAll hc85) xs_X0_206 dX0_plainly_11 gs_487 (by decide) rfl rfl (by omega) (by decide) rfl (Nat.le_of_ble_eq_true rfl) (by omega) (by omega) rfl (fun E S9 hx => hx.elim) (fun v S9 hq => ?_)
    obtain ⟨rfl, rfl⟩ := hq
    obtain ⟨hg86, H⟩ := gg_e H
    cases H
    exact GV.zret hg86 rfl dX0_plainly_14 (by omega) (by omega) ⟨rfl, rfl⟩
set_option maxHeartbeats 4000000 in
set_option maxRecDepth 20000 in
theorem t_X0_plainly_209 {l : Launch} {Z : XZ} {L : Nat → Nat} (n : Nat) (ih_X0_plainly_0 : P_X0_plainly_0 l Z L n) (ih_X0_plainly_209 : P_X0_plainly_209 l Z L n) : P_X0_plainly_209 l Z L (n + 1) := by
  intro d S a1 a3 a4 a5 x S1 H
  have H : b_X0_plainly_209 n d (f_X0_plainly n) S a1 a3 a4 a5 = some (x, S1) := H
  unfold b_X0_plainly_209 at H
  refine GA.iload dX0_plainly_209 rfl ?_
  obtain ⟨hg1, H⟩ := gg_e H
  refine GV.if_ne (tgt := 222) hg1 dX0_plainly_211 (by decide) (fun c2 => ?_) (fun c2 => ?_)
  · have H := it_t H c2
    refine GA.iload dX0_plainly_222 rfl ?_
    obtain ⟨hg3, H⟩ := gg_e H
    cases H
    exact GV.zret hg3 rfl dX0_plainly_224 (by omega) (by omega) ⟨rfl, rfl⟩
  · have H := it_f H c2
    refine GA.aload_n dX0_plainly_214 rfl ?_
    refine GA.iload_n dX0_plainly_215 rfl ?_
    refine GA.iload_n dX0_plainly_216 rfl ?_
    refine GA.iload dX0_plainly_217 rfl ?_
    obtain ⟨hg4, H⟩ := gg_e H
    obtain ⟨x5, S_6, hc7, H⟩ := gc_e H
    refine GA.callV (m_X0_complain hc7) xs_X0_134 dX0_plainly_219 gs_487 (by decide) rfl rfl (by omega) (by decide) rfl (Nat.le_of_ble_eq_true rfl) (by omega) (by omega) rfl (fun E S9 hx => hx.elim) (fun v S9 hq => ?_)
    obtain ⟨rfl, rfl⟩ := hq
    refine GA.iload dX0_plainly_222 rfl ?_
    obtain ⟨hg8, H⟩ := gg_e H
    cases H
    exact GV.zret hg8 rfl dX0_plainly_224 (by omega) (by omega) ⟨rfl, rfl⟩
theorem g_X0_plainly {l : Launch} {Z : XZ} {L : Nat → Nat} : ∀ n, P_X0_plainly_0 l Z L n ∧ P_X0_plainly_209 l Z L n
  | 0 => ⟨fun _ _ _ _ _ _ _ _ H => no_e H, fun _ _ _ _ _ _ _ _ H => no_e H⟩
  | n + 1 => have ⟨h0, h1⟩ := g_X0_plainly (l := l) (Z := Z) (L := L) n
    ⟨t_X0_plainly_0 n h0 h1, t_X0_plainly_209 n h0 h1⟩
theorem m_X0_plainly {l : Launch} {Z : XZ} {L : Nat → Nat} {n d : Nat} {S : GS} {a1 : Int} {a2 : Int} {a3 : Int} {a4 : Int} {x : Int} {S1 : GS} (H : f_X0_plainly n d 0 S [a1, a2, a3, a4] = some (x, S1)) : GM l Z L yX0_plainly cX0_plainly 6 (some .boolean) [] d 0 0 [.ref (L 487), .int (J a1), .int (J a2), .int (J a3), .int (J a4)] S (fun v S' => v = some (.int (J x)) ∧ S1 = S') (fun _ _ => False) := GM.of (by decide) (Nat.le_of_ble_eq_true rfl) ((g_X0_plainly n).1 _ _ _ _ _ _ _ _ H)

def P_X0_target_0 (l : Launch) (Z : XZ) (L : Nat → Nat) (n : Nat) : Prop := ∀ (d : Nat) (S : GS) (a1 : Int) (a2 : Int) (x : Int) (S1 : GS), f_X0_target n d 0 S [a1, a2] = some (x, S1) → GA l Z L yX0_target cX0_target 5 (some .int) [] d 0 0 (fun v S' => v = some (.int (J x)) ∧ S1 = S') (fun _ _ => False) 0 (gl [(0, .ref (L 487)), (1, .int (J a1)), (2, .int (J a2))]) [] S 0 0
def P_X0_target_52 (l : Launch) (Z : XZ) (L : Nat → Nat) (n : Nat) : Prop := ∀ (d : Nat) (S : GS) (a2 : Int) (a3 : Int) (a4 : Int) (x : Int) (S1 : GS), f_X0_target n d 52 S [a2, a3, a4] = some (x, S1) → GA l Z L yX0_target cX0_target 5 (some .int) [] d 0 0 (fun v S' => v = some (.int (J x)) ∧ S1 = S') (fun _ _ => False) 52 (gl [(0, .ref (L 487)), (2, .int (J a2)), (3, .int (J a3)), (4, .int (J a4))]) [] S 0 0
def P_X0_target_98 (l : Launch) (Z : XZ) (L : Nat → Nat) (n : Nat) : Prop := ∀ (d : Nat) (S : GS) (a3 : Int) (x : Int) (S1 : GS), f_X0_target n d 98 S [a3] = some (x, S1) → GA l Z L yX0_target cX0_target 5 (some .int) [] d 0 0 (fun v S' => v = some (.int (J x)) ∧ S1 = S') (fun _ _ => False) 98 (gl [(0, .ref (L 487)), (3, .int (J a3))]) [] S 0 0
theorem i_X0_target {l : Launch} {Z : XZ} {L : Nat → Nat} {n : Nat} (ih : P_X0_target_0 l Z L n) {d : Nat} {S : GS} {a1 : Int} {a2 : Int} {x : Int} {S1 : GS} (H : f_X0_target n d 0 S [a1, a2] = some (x, S1)) : GM l Z L yX0_target cX0_target 5 (some .int) [] d 0 0 [.ref (L 487), .int (J a1), .int (J a2)] S (fun v S' => v = some (.int (J x)) ∧ S1 = S') (fun _ _ => False) := GM.of (by decide) (Nat.le_of_ble_eq_true rfl) (ih _ _ _ _ _ _ H)
set_option maxHeartbeats 4000000 in
set_option maxRecDepth 20000 in
theorem t_X0_target_0 {l : Launch} {Z : XZ} {L : Nat → Nat} (n : Nat) (ih_X0_target_0 : P_X0_target_0 l Z L n) (ih_X0_target_52 : P_X0_target_52 l Z L n) (ih_X0_target_98 : P_X0_target_98 l Z L n) : P_X0_target_0 l Z L (n + 1) := by
  intro d S a1 a2 x S1 H
  have H : b_X0_target_0 n d (f_X0_target n) S a1 a2 = some (x, S1) := H
  unfold b_X0_target_0 at H
  refine GA.aload_n dX0_target_0 rfl ?_
  refine GA.get xf_X0_23 dX0_target_1 gs_487 (by decide) rfl ?_
  obtain ⟨hg1, H⟩ := gg_e H
  obtain ⟨x2, S_3, hc4, H⟩ := gc_e H
  refine GA.callV (m_X9_clear hc4) xs_X0_193 dX0_target_4 (gsS (by decide)) (by decide) rfl rfl (by omega) (by decide) rfl (Nat.le_of_ble_eq_true rfl) (by omega) (by omega) rfl (fun E S9 hx => hx.elim) (fun v S9 hq => ?_)
  obtain ⟨rfl, rfl⟩ := hq
  refine GA.aload_n dX0_target_7 rfl ?_
  obtain ⟨z5, hx6, H⟩ := gv_e H
  refine GV.getR hx6 xf_X0_49 dX0_target_8 gs_487 (by decide) rfl ?_
  refine GA.iload_n dX0_target_11 rfl ?_
  refine GA.aload_n dX0_target_12 rfl ?_
  refine GA.get xf_X0_23 dX0_target_13 gs_487 (by decide) rfl ?_
  obtain ⟨hg7, H⟩ := gg_e H
  obtain ⟨x8, S_9, hc10, H⟩ := gc_e H
  refine GA.callV (m_X10_signsTo hc10) xs_X0_196 dX0_target_16 (gsT hg7) (by omega) rfl rfl (by omega) (by decide) rfl (Nat.le_of_ble_eq_true rfl) (by omega) (by omega) rfl (fun E S9 hx => hx.elim) (fun v S9 hq => ?_)
  obtain ⟨rfl, rfl⟩ := hq
  refine GA.aload_n dX0_target_19 rfl ?_
  obtain ⟨z11, hx12, H⟩ := gv_e H
  refine GV.getR hx12 xf_X0_49 dX0_target_20 gs_487 (by decide) rfl ?_
  refine GA.aload_n dX0_target_23 rfl ?_
  obtain ⟨z13, hx14, H⟩ := gv_e H
  refine GV.getR hx14 xf_X0_49 dX0_target_24 gs_487 (by decide) rfl ?_
  refine GA.iconst dX0_target_27 ?_
  refine GA.ldcS (i := 53) (tx := "names") (by decide +kernel) dX0_target_28 ?_
  obtain ⟨hg15, H⟩ := gg_e H
  obtain ⟨x16, S_17, hc18, H⟩ := gc_e H
  refine GA.callV (m_X10_valueNamed hc18) xs_X0_142 dX0_target_30 (gsT hg15) (by omega) rfl rfl (by omega) (by decide) rfl (Nat.le_of_ble_eq_true rfl) (by omega) (by omega) rfl (fun E S9 hx => hx.elim) (fun v S9 hq => ?_)
  obtain ⟨rfl, rfl⟩ := hq
  refine GA.aload_n dX0_target_33 rfl ?_
  refine GA.get xf_X0_23 dX0_target_34 gs_487 (by decide) rfl ?_
  obtain ⟨hg19, H⟩ := gg_e H
  obtain ⟨x20, S_21, hc22, H⟩ := gc_e H
  refine GA.callV (m_X10_valueOf hc22) xs_X0_202 dX0_target_37 (gsT hg19) (by omega) rfl rfl (by omega) (by decide) rfl (Nat.le_of_ble_eq_true rfl) (by omega) (by omega) rfl (fun E S9 hx => hx.elim) (fun v S9 hq => ?_)
  obtain ⟨rfl, rfl⟩ := hq
  refine GA.istore_n dX0_target_40 (by decide) ?_
  refine GA.iload_n dX0_target_41 rfl ?_
  refine GA.iconst dX0_target_42 ?_
  obtain ⟨hg23, H⟩ := gg_e H
  refine GV.icmp_ne (tgt := 49) hg23 (by decide) dX0_target_43 (by decide) (fun c24 => ?_) (fun c24 => ?_)
  · have H := it_t H c24
    refine GA.iconst dX0_target_49 ?_
    refine GA.istore dX0_target_50 (by decide) ?_
    refine GA.locals [(0, .ref (L 487)), (2, .int (J a2)), (3, .int (J x20)), (4, .int (J 0))] ⟨rfl, rfl, rfl, rfl, trivial⟩ ?_
    exact ih_X0_target_52 _ _ (a2) (x20) (0) _ _ H
  · have H := it_f H c24
    refine GA.bipush dX0_target_46 rfl ?_
    cases H
    exact GA.iret rfl dX0_target_48 (by omega) (by omega) ⟨rfl, rfl⟩
set_option maxHeartbeats 4000000 in
set_option maxRecDepth 20000 in
theorem t_X0_target_52 {l : Launch} {Z : XZ} {L : Nat → Nat} (n : Nat) (ih_X0_target_0 : P_X0_target_0 l Z L n) (ih_X0_target_52 : P_X0_target_52 l Z L n) (ih_X0_target_98 : P_X0_target_98 l Z L n) : P_X0_target_52 l Z L (n + 1) := by
  intro d S a2 a3 a4 x S1 H
  have H : b_X0_target_52 n d (f_X0_target n) S a2 a3 a4 = some (x, S1) := H
  unfold b_X0_target_52 at H
  refine GA.iload dX0_target_52 rfl ?_
  refine GA.aload_n dX0_target_54 rfl ?_
  obtain ⟨x1, hx2, H⟩ := gv_e H
  refine GV.getI hx2 xf_X0_81 dX0_target_55 gs_487 (by decide) rfl ?_
  obtain ⟨hg3, H⟩ := gg_e H
  obtain ⟨hg4, H⟩ := gg_e H
  refine GV.icmp_ge (tgt := 98) hg3 hg4 dX0_target_58 (by decide) (fun c5 => ?_) (fun c5 => ?_)
  · have H := it_t H c5
    refine GA.locals [(0, .ref (L 487)), (3, .int (J a3))] ⟨rfl, rfl, trivial⟩ ?_
    exact ih_X0_target_98 _ _ (a3) _ _ H
  · have H := it_f H c5
    refine GA.iload dX0_target_61 rfl ?_
    refine GA.bipush dX0_target_63 rfl ?_
    refine GV.icmp_ge (tgt := 98) hg3 (by decide) dX0_target_65 (by decide) (fun c6 => ?_) (fun c6 => ?_)
    · have H := it_t H c6
      refine GA.locals [(0, .ref (L 487)), (3, .int (J a3))] ⟨rfl, rfl, trivial⟩ ?_
      exact ih_X0_target_98 _ _ (a3) _ _ H
    · have H := it_f H c6
      refine GA.aload_n dX0_target_68 rfl ?_
      refine GA.get xf_X0_30 dX0_target_69 gs_487 (by decide) rfl ?_
      refine GA.iload dX0_target_72 rfl ?_
      obtain ⟨hg7, H⟩ := gg_e H
      obtain ⟨x8, hx9, H⟩ := gv_e H
      refine GV.iald hg7 hx9 dX0_target_74 gs_488 (by decide) ?_
      refine GA.iload_n dX0_target_75 rfl ?_
      obtain ⟨hg10, H⟩ := gg_e H
      obtain ⟨hg11, H⟩ := gg_e H
      refine GV.icmp_ne (tgt := 92) hg10 hg11 dX0_target_76 (by decide) (fun c12 => ?_) (fun c12 => ?_)
      · have H := it_t H c12
        obtain ⟨x13, hx14, H⟩ := gv_e H
        refine GV.iinc hx14 dX0_target_92 rfl (by decide) ?_
        refine GA.goto (tgt := 52) dX0_target_95 (by decide) ?_
        refine GA.locals [(0, .ref (L 487)), (2, .int (J a2)), (3, .int (J a3)), (4, .int (J x13))] ⟨rfl, rfl, rfl, rfl, trivial⟩ ?_
        exact ih_X0_target_52 _ _ (a2) (a3) (x13) _ _ H
      · have H := it_f H c12
        refine GA.aload_n dX0_target_79 rfl ?_
        refine GA.get xf_X0_34 dX0_target_80 gs_487 (by decide) rfl ?_
        refine GA.iload dX0_target_83 rfl ?_
        obtain ⟨x15, hx16, H⟩ := gv_e H
        refine GV.iald hg7 hx16 dX0_target_85 gs_489 (by decide) ?_
        refine GA.iload_n dX0_target_86 rfl ?_
        obtain ⟨hg17, H⟩ := gg_e H
        obtain ⟨hg18, H⟩ := gg_e H
        refine GV.icmp_ne (tgt := 92) hg17 hg18 dX0_target_87 (by decide) (fun c19 => ?_) (fun c19 => ?_)
        · have H := it_t H c19
          obtain ⟨x20, hx21, H⟩ := gv_e H
          refine GV.iinc hx21 dX0_target_92 rfl (by decide) ?_
          refine GA.goto (tgt := 52) dX0_target_95 (by decide) ?_
          refine GA.locals [(0, .ref (L 487)), (2, .int (J a2)), (3, .int (J a3)), (4, .int (J x20))] ⟨rfl, rfl, rfl, rfl, trivial⟩ ?_
          exact ih_X0_target_52 _ _ (a2) (a3) (x20) _ _ H
        · have H := it_f H c19
          refine GA.iconst dX0_target_90 ?_
          cases H
          exact GA.iret rfl dX0_target_91 (by omega) (by omega) ⟨rfl, rfl⟩
set_option maxHeartbeats 4000000 in
set_option maxRecDepth 20000 in
theorem t_X0_target_98 {l : Launch} {Z : XZ} {L : Nat → Nat} (n : Nat) (ih_X0_target_0 : P_X0_target_0 l Z L n) (ih_X0_target_52 : P_X0_target_52 l Z L n) (ih_X0_target_98 : P_X0_target_98 l Z L n) : P_X0_target_98 l Z L (n + 1) := by
  intro d S a3 x S1 H
  have H : b_X0_target_98 n d (f_X0_target n) S a3 = some (x, S1) := H
  unfold b_X0_target_98 at H
  refine GA.aload_n dX0_target_98 rfl ?_
  obtain ⟨x1, hx2, H⟩ := gv_e H
  refine GV.getI hx2 xf_X0_81 dX0_target_99 gs_487 (by decide) rfl ?_
  refine GA.bipush dX0_target_102 rfl ?_
  obtain ⟨hg3, H⟩ := gg_e H
  refine GV.icmp_lt (tgt := 112) hg3 (by decide) dX0_target_104 (by decide) (fun c4 => ?_) (fun c4 => ?_)
  · have H := it_t H c4
    refine GA.iload_n dX0_target_112 rfl ?_
    cases H
    exact GA.iret rfl dX0_target_113 (by omega) (by omega) ⟨rfl, rfl⟩
  · have H := it_f H c4
    refine GA.bipush dX0_target_107 rfl ?_
    refine GA.goto (tgt := 113) dX0_target_109 (by decide) ?_
    cases H
    exact GA.iret rfl dX0_target_113 (by omega) (by omega) ⟨rfl, rfl⟩
theorem g_X0_target {l : Launch} {Z : XZ} {L : Nat → Nat} : ∀ n, P_X0_target_0 l Z L n ∧ P_X0_target_52 l Z L n ∧ P_X0_target_98 l Z L n
  | 0 => ⟨fun _ _ _ _ _ _ H => no_e H, fun _ _ _ _ _ _ _ H => no_e H, fun _ _ _ _ _ H => no_e H⟩
  | n + 1 => have ⟨h0, h1, h2⟩ := g_X0_target (l := l) (Z := Z) (L := L) n
    ⟨t_X0_target_0 n h0 h1 h2, t_X0_target_52 n h0 h1 h2, t_X0_target_98 n h0 h1 h2⟩
theorem m_X0_target {l : Launch} {Z : XZ} {L : Nat → Nat} {n d : Nat} {S : GS} {a1 : Int} {a2 : Int} {x : Int} {S1 : GS} (H : f_X0_target n d 0 S [a1, a2] = some (x, S1)) : GM l Z L yX0_target cX0_target 5 (some .int) [] d 0 0 [.ref (L 487), .int (J a1), .int (J a2)] S (fun v S' => v = some (.int (J x)) ∧ S1 = S') (fun _ _ => False) := GM.of (by decide) (Nat.le_of_ble_eq_true rfl) ((g_X0_target n).1 _ _ _ _ _ _ H)

def P_X0_firstQuestion_0 (l : Launch) (Z : XZ) (L : Nat → Nat) (n : Nat) : Prop := ∀ (d : Nat) (S : GS) (a1 : Int) (a2 : Int) (a3 : Int) (x : Int) (S1 : GS), f_X0_firstQuestion n d 0 S [a1, a2, a3] = some (x, S1) → GA l Z L yX0_firstQuestion cX0_firstQuestion 4 (some .int) [] d 0 0 (fun v S' => v = some (.int (J x)) ∧ S1 = S') (fun _ _ => False) 0 (gl [(0, .ref (L 487)), (1, .int (J a1)), (2, .int (J a2)), (3, .int (J a3))]) [] S 0 0
theorem i_X0_firstQuestion {l : Launch} {Z : XZ} {L : Nat → Nat} {n : Nat} (ih : P_X0_firstQuestion_0 l Z L n) {d : Nat} {S : GS} {a1 : Int} {a2 : Int} {a3 : Int} {x : Int} {S1 : GS} (H : f_X0_firstQuestion n d 0 S [a1, a2, a3] = some (x, S1)) : GM l Z L yX0_firstQuestion cX0_firstQuestion 4 (some .int) [] d 0 0 [.ref (L 487), .int (J a1), .int (J a2), .int (J a3)] S (fun v S' => v = some (.int (J x)) ∧ S1 = S') (fun _ _ => False) := GM.of (by decide) (Nat.le_of_ble_eq_true rfl) (ih _ _ _ _ _ _ _ H)
set_option maxHeartbeats 4000000 in
set_option maxRecDepth 20000 in
theorem t_X0_firstQuestion_0 {l : Launch} {Z : XZ} {L : Nat → Nat} (n : Nat) (ih_X0_firstQuestion_0 : P_X0_firstQuestion_0 l Z L n) : P_X0_firstQuestion_0 l Z L (n + 1) := by
  intro d S a1 a2 a3 x S1 H
  have H : b_X0_firstQuestion_0 n d (f_X0_firstQuestion n) S a1 a2 a3 = some (x, S1) := H
  unfold b_X0_firstQuestion_0 at H
  refine GA.iload_n dX0_firstQuestion_0 rfl ?_
  obtain ⟨hg1, H⟩ := gg_e H
  by_cases c2 : a1 = 7
  · have H := it_t H c2
    refine GA.tableIn (tgt := 52) dX0_firstQuestion_1 hg1 (by omega) (by omega) (by rw [c2] <;> rfl) (by decide) ?_
    refine GA.aload_n dX0_firstQuestion_52 rfl ?_
    obtain ⟨z3, hx4, H⟩ := gv_e H
    refine GV.getR hx4 xf_X0_52 dX0_firstQuestion_53 gs_487 (by decide) rfl ?_
    refine GA.iload_n dX0_firstQuestion_56 rfl ?_
    obtain ⟨hg5, H⟩ := gg_e H
    obtain ⟨hg6, H⟩ := gg_e H
    obtain ⟨x7, S_8, hc9, H⟩ := gc_e H
    refine GA.callV (m_X10_firstOfMap hc9) xs_X0_175 dX0_firstQuestion_57 (gsT hg6) (by omega) rfl rfl (by omega) (by decide) rfl (Nat.le_of_ble_eq_true rfl) (by omega) (by omega) rfl (fun E S9 hx => hx.elim) (fun v S9 hq => ?_)
    obtain ⟨rfl, rfl⟩ := hq
    cases H
    exact GA.iret rfl dX0_firstQuestion_60 (by omega) (by omega) ⟨rfl, rfl⟩
  have H := it_f H c2
  by_cases c10 : a1 = 8
  · have H := it_t H c10
    refine GA.tableIn (tgt := 52) dX0_firstQuestion_1 hg1 (by omega) (by omega) (by rw [c10] <;> rfl) (by decide) ?_
    refine GA.aload_n dX0_firstQuestion_52 rfl ?_
    obtain ⟨z11, hx12, H⟩ := gv_e H
    refine GV.getR hx12 xf_X0_52 dX0_firstQuestion_53 gs_487 (by decide) rfl ?_
    refine GA.iload_n dX0_firstQuestion_56 rfl ?_
    obtain ⟨hg13, H⟩ := gg_e H
    obtain ⟨hg14, H⟩ := gg_e H
    obtain ⟨x15, S_16, hc17, H⟩ := gc_e H
    refine GA.callV (m_X10_firstOfMap hc17) xs_X0_175 dX0_firstQuestion_57 (gsT hg14) (by omega) rfl rfl (by omega) (by decide) rfl (Nat.le_of_ble_eq_true rfl) (by omega) (by omega) rfl (fun E S9 hx => hx.elim) (fun v S9 hq => ?_)
    obtain ⟨rfl, rfl⟩ := hq
    cases H
    exact GA.iret rfl dX0_firstQuestion_60 (by omega) (by omega) ⟨rfl, rfl⟩
  have H := it_f H c10
  by_cases c18 : a1 = 9
  · have H := it_t H c18
    refine GA.tableIn (tgt := 61) dX0_firstQuestion_1 hg1 (by omega) (by omega) (by rw [c18] <;> rfl) (by decide) ?_
    refine GA.aload_n dX0_firstQuestion_61 rfl ?_
    obtain ⟨z19, hx20, H⟩ := gv_e H
    refine GV.getR hx20 xf_X0_52 dX0_firstQuestion_62 gs_487 (by decide) rfl ?_
    refine GA.iload_n dX0_firstQuestion_65 rfl ?_
    refine GA.iconst dX0_firstQuestion_66 ?_
    obtain ⟨hg21, H⟩ := gg_e H
    obtain ⟨hg22, H⟩ := gg_e H
    obtain ⟨x23, S_24, hc25, H⟩ := gc_e H
    refine GA.callV (m_X10_is hc25) xs_X0_126 dX0_firstQuestion_67 (gsT hg22) (by omega) rfl rfl (by omega) (by decide) rfl (Nat.le_of_ble_eq_true rfl) (by omega) (by omega) rfl (fun E S9 hx => hx.elim) (fun v S9 hq => ?_)
    obtain ⟨rfl, rfl⟩ := hq
    obtain ⟨hg26, H⟩ := gg_e H
    refine GV.if_eq (tgt := 84) hg26 dX0_firstQuestion_70 (by decide) (fun c27 => ?_) (fun c27 => ?_)
    · have H := it_t H c27
      refine GA.iconst dX0_firstQuestion_84 ?_
      cases H
      exact GA.iret rfl dX0_firstQuestion_85 (by omega) (by omega) ⟨rfl, rfl⟩
    · have H := it_f H c27
      refine GA.aload_n dX0_firstQuestion_73 rfl ?_
      obtain ⟨z28, hx29, H⟩ := gv_e H
      refine GV.getR hx29 xf_X0_52 dX0_firstQuestion_74 gs_487 (by decide) rfl ?_
      refine GA.iload_n dX0_firstQuestion_77 rfl ?_
      obtain ⟨hg30, H⟩ := gg_e H
      obtain ⟨x31, S_32, hc33, H⟩ := gc_e H
      refine GA.callV (m_X10_first hc33) xs_X0_179 dX0_firstQuestion_78 (gsT hg30) (by omega) rfl rfl (by omega) (by decide) rfl (Nat.le_of_ble_eq_true rfl) (by omega) (by omega) rfl (fun E S9 hx => hx.elim) (fun v S9 hq => ?_)
      obtain ⟨rfl, rfl⟩ := hq
      refine GA.goto (tgt := 85) dX0_firstQuestion_81 (by decide) ?_
      cases H
      exact GA.iret rfl dX0_firstQuestion_85 (by omega) (by omega) ⟨rfl, rfl⟩
  have H := it_f H c18
  by_cases c34 : a1 = 10
  · have H := it_t H c34
    refine GA.tableIn (tgt := 95) dX0_firstQuestion_1 hg1 (by omega) (by omega) (by rw [c34] <;> rfl) (by decide) ?_
    refine GA.aload_n dX0_firstQuestion_95 rfl ?_
    obtain ⟨z35, hx36, H⟩ := gv_e H
    refine GV.getR hx36 xf_X0_49 dX0_firstQuestion_96 gs_487 (by decide) rfl ?_
    refine GA.iload_n dX0_firstQuestion_99 rfl ?_
    obtain ⟨hg37, H⟩ := gg_e H
    obtain ⟨hg38, H⟩ := gg_e H
    obtain ⟨x39, S_40, hc41, H⟩ := gc_e H
    refine GA.callV (m_X10_first hc41) xs_X0_179 dX0_firstQuestion_100 (gsT hg38) (by omega) rfl rfl (by omega) (by decide) rfl (Nat.le_of_ble_eq_true rfl) (by omega) (by omega) rfl (fun E S9 hx => hx.elim) (fun v S9 hq => ?_)
    obtain ⟨rfl, rfl⟩ := hq
    cases H
    exact GA.iret rfl dX0_firstQuestion_103 (by omega) (by omega) ⟨rfl, rfl⟩
  have H := it_f H c34
  by_cases c42 : a1 = 11
  · have H := it_t H c42
    refine GA.tableIn (tgt := 95) dX0_firstQuestion_1 hg1 (by omega) (by omega) (by rw [c42] <;> rfl) (by decide) ?_
    refine GA.aload_n dX0_firstQuestion_95 rfl ?_
    obtain ⟨z43, hx44, H⟩ := gv_e H
    refine GV.getR hx44 xf_X0_49 dX0_firstQuestion_96 gs_487 (by decide) rfl ?_
    refine GA.iload_n dX0_firstQuestion_99 rfl ?_
    obtain ⟨hg45, H⟩ := gg_e H
    obtain ⟨hg46, H⟩ := gg_e H
    obtain ⟨x47, S_48, hc49, H⟩ := gc_e H
    refine GA.callV (m_X10_first hc49) xs_X0_179 dX0_firstQuestion_100 (gsT hg46) (by omega) rfl rfl (by omega) (by decide) rfl (Nat.le_of_ble_eq_true rfl) (by omega) (by omega) rfl (fun E S9 hx => hx.elim) (fun v S9 hq => ?_)
    obtain ⟨rfl, rfl⟩ := hq
    cases H
    exact GA.iret rfl dX0_firstQuestion_103 (by omega) (by omega) ⟨rfl, rfl⟩
  have H := it_f H c42
  by_cases c50 : a1 = 12
  · have H := it_t H c50
    refine GA.tableIn (tgt := 95) dX0_firstQuestion_1 hg1 (by omega) (by omega) (by rw [c50] <;> rfl) (by decide) ?_
    refine GA.aload_n dX0_firstQuestion_95 rfl ?_
    obtain ⟨z51, hx52, H⟩ := gv_e H
    refine GV.getR hx52 xf_X0_49 dX0_firstQuestion_96 gs_487 (by decide) rfl ?_
    refine GA.iload_n dX0_firstQuestion_99 rfl ?_
    obtain ⟨hg53, H⟩ := gg_e H
    obtain ⟨hg54, H⟩ := gg_e H
    obtain ⟨x55, S_56, hc57, H⟩ := gc_e H
    refine GA.callV (m_X10_first hc57) xs_X0_179 dX0_firstQuestion_100 (gsT hg54) (by omega) rfl rfl (by omega) (by decide) rfl (Nat.le_of_ble_eq_true rfl) (by omega) (by omega) rfl (fun E S9 hx => hx.elim) (fun v S9 hq => ?_)
    obtain ⟨rfl, rfl⟩ := hq
    cases H
    exact GA.iret rfl dX0_firstQuestion_103 (by omega) (by omega) ⟨rfl, rfl⟩
  have H := it_f H c50
  by_cases c58 : a1 = 13
  · have H := it_t H c58
    refine GA.tableIn (tgt := 95) dX0_firstQuestion_1 hg1 (by omega) (by omega) (by rw [c58] <;> rfl) (by decide) ?_
    refine GA.aload_n dX0_firstQuestion_95 rfl ?_
    obtain ⟨z59, hx60, H⟩ := gv_e H
    refine GV.getR hx60 xf_X0_49 dX0_firstQuestion_96 gs_487 (by decide) rfl ?_
    refine GA.iload_n dX0_firstQuestion_99 rfl ?_
    obtain ⟨hg61, H⟩ := gg_e H
    obtain ⟨hg62, H⟩ := gg_e H
    obtain ⟨x63, S_64, hc65, H⟩ := gc_e H
    refine GA.callV (m_X10_first hc65) xs_X0_179 dX0_firstQuestion_100 (gsT hg62) (by omega) rfl rfl (by omega) (by decide) rfl (Nat.le_of_ble_eq_true rfl) (by omega) (by omega) rfl (fun E S9 hx => hx.elim) (fun v S9 hq => ?_)
    obtain ⟨rfl, rfl⟩ := hq
    cases H
    exact GA.iret rfl dX0_firstQuestion_103 (by omega) (by omega) ⟨rfl, rfl⟩
  have H := it_f H c58
  by_cases c66 : a1 = 14
  · have H := it_t H c66
    refine GA.tableIn (tgt := 86) dX0_firstQuestion_1 hg1 (by omega) (by omega) (by rw [c66] <;> rfl) (by decide) ?_
    refine GA.iload_n dX0_firstQuestion_86 rfl ?_
    cases H
    exact GA.iret rfl dX0_firstQuestion_87 (by omega) (by omega) ⟨rfl, rfl⟩
  have H := it_f H c66
  by_cases c67 : a1 = 15
  · have H := it_t H c67
    refine GA.tableIn (tgt := 88) dX0_firstQuestion_1 hg1 (by omega) (by omega) (by rw [c67] <;> rfl) (by decide) ?_
    refine GA.aload_n dX0_firstQuestion_88 rfl ?_
    refine GA.iload_n dX0_firstQuestion_89 rfl ?_
    refine GA.iload_n dX0_firstQuestion_90 rfl ?_
    obtain ⟨hg68, H⟩ := gg_e H
    obtain ⟨x69, S_70, hc71, H⟩ := gc_e H
    refine GA.callV (m_X0_target hc71) xs_X0_182 dX0_firstQuestion_91 gs_487 (by decide) rfl rfl (by omega) (by decide) rfl (Nat.le_of_ble_eq_true rfl) (by omega) (by omega) rfl (fun E S9 hx => hx.elim) (fun v S9 hq => ?_)
    obtain ⟨rfl, rfl⟩ := hq
    cases H
    exact GA.iret rfl dX0_firstQuestion_94 (by omega) (by omega) ⟨rfl, rfl⟩
  have H := it_f H c67
  refine GA.tableOut (tgt := 95) dX0_firstQuestion_1 hg1 (by omega) (by decide) ?_
  refine GA.aload_n dX0_firstQuestion_95 rfl ?_
  obtain ⟨z72, hx73, H⟩ := gv_e H
  refine GV.getR hx73 xf_X0_49 dX0_firstQuestion_96 gs_487 (by decide) rfl ?_
  refine GA.iload_n dX0_firstQuestion_99 rfl ?_
  obtain ⟨hg74, H⟩ := gg_e H
  obtain ⟨hg75, H⟩ := gg_e H
  obtain ⟨x76, S_77, hc78, H⟩ := gc_e H
  refine GA.callV (m_X10_first hc78) xs_X0_179 dX0_firstQuestion_100 (gsT hg75) (by omega) rfl rfl (by omega) (by decide) rfl (Nat.le_of_ble_eq_true rfl) (by omega) (by omega) rfl (fun E S9 hx => hx.elim) (fun v S9 hq => ?_)
  obtain ⟨rfl, rfl⟩ := hq
  cases H
  exact GA.iret rfl dX0_firstQuestion_103 (by omega) (by omega) ⟨rfl, rfl⟩
theorem g_X0_firstQuestion {l : Launch} {Z : XZ} {L : Nat → Nat} : ∀ n, P_X0_firstQuestion_0 l Z L n
  | 0 => fun _ _ _ _ _ _ _ H => no_e H
  | n + 1 => t_X0_firstQuestion_0 n (g_X0_firstQuestion n)
theorem m_X0_firstQuestion {l : Launch} {Z : XZ} {L : Nat → Nat} {n d : Nat} {S : GS} {a1 : Int} {a2 : Int} {a3 : Int} {x : Int} {S1 : GS} (H : f_X0_firstQuestion n d 0 S [a1, a2, a3] = some (x, S1)) : GM l Z L yX0_firstQuestion cX0_firstQuestion 4 (some .int) [] d 0 0 [.ref (L 487), .int (J a1), .int (J a2), .int (J a3)] S (fun v S' => v = some (.int (J x)) ∧ S1 = S') (fun _ _ => False) := GM.of (by decide) (Nat.le_of_ble_eq_true rfl) ((g_X0_firstQuestion n) _ _ _ _ _ _ _ H)

def P_X0_schemaOf_0 (l : Launch) (Z : XZ) (L : Nat → Nat) (n : Nat) : Prop := ∀ (d : Nat) (S : GS) (a1 : Int) (a2 : Int) (a3 : Int) (a4 : Int) (x : Int) (S1 : GS), f_X0_schemaOf n d 0 S [a1, a2, a3, a4] = some (x, S1) → GA l Z L yX0_schemaOf cX0_schemaOf 5 (some .int) [] d 0 0 (fun v S' => v = some (.int (J x)) ∧ S1 = S') (fun _ _ => False) 0 (gl [(0, .ref (L 487)), (1, .int (J a1)), (2, .int (J a2)), (3, .int (J a3)), (4, .int (J a4))]) [] S 0 0
theorem i_X0_schemaOf {l : Launch} {Z : XZ} {L : Nat → Nat} {n : Nat} (ih : P_X0_schemaOf_0 l Z L n) {d : Nat} {S : GS} {a1 : Int} {a2 : Int} {a3 : Int} {a4 : Int} {x : Int} {S1 : GS} (H : f_X0_schemaOf n d 0 S [a1, a2, a3, a4] = some (x, S1)) : GM l Z L yX0_schemaOf cX0_schemaOf 5 (some .int) [] d 0 0 [.ref (L 487), .int (J a1), .int (J a2), .int (J a3), .int (J a4)] S (fun v S' => v = some (.int (J x)) ∧ S1 = S') (fun _ _ => False) := GM.of (by decide) (Nat.le_of_ble_eq_true rfl) (ih _ _ _ _ _ _ _ _ H)
set_option maxHeartbeats 4000000 in
set_option maxRecDepth 20000 in
theorem t_X0_schemaOf_0 {l : Launch} {Z : XZ} {L : Nat → Nat} (n : Nat) (ih_X0_schemaOf_0 : P_X0_schemaOf_0 l Z L n) : P_X0_schemaOf_0 l Z L (n + 1) := by
  intro d S a1 a2 a3 a4 x S1 H
  have H : b_X0_schemaOf_0 n d (f_X0_schemaOf n) S a1 a2 a3 a4 = some (x, S1) := H
  unfold b_X0_schemaOf_0 at H
  refine GA.iload_n dX0_schemaOf_0 rfl ?_
  obtain ⟨hg1, H⟩ := gg_e H
  by_cases c2 : a1 = 7
  · have H := it_t H c2
    refine GA.tableIn (tgt := 28) dX0_schemaOf_1 hg1 (by omega) (by omega) (by rw [c2] <;> rfl) (by decide) ?_
    refine GA.aload_n dX0_schemaOf_28 rfl ?_
    obtain ⟨z3, hx4, H⟩ := gv_e H
    refine GV.getR hx4 xf_X0_49 dX0_schemaOf_29 gs_487 (by decide) rfl ?_
    refine GA.iload_n dX0_schemaOf_32 rfl ?_
    refine GA.aload_n dX0_schemaOf_33 rfl ?_
    obtain ⟨z5, hx6, H⟩ := gv_e H
    refine GV.getR hx6 xf_X0_52 dX0_schemaOf_34 gs_487 (by decide) rfl ?_
    refine GA.iload dX0_schemaOf_37 rfl ?_
    obtain ⟨hg7, H⟩ := gg_e H
    obtain ⟨hg8, H⟩ := gg_e H
    obtain ⟨x9, S_10, hc11, H⟩ := gc_e H
    refine GA.callV (m_X10_valueLike hc11) xs_X0_189 dX0_schemaOf_39 (gsT hg8) (by omega) rfl rfl (by omega) (by decide) rfl (Nat.le_of_ble_eq_true rfl) (by omega) (by omega) rfl (fun E S9 hx => hx.elim) (fun v S9 hq => ?_)
    obtain ⟨rfl, rfl⟩ := hq
    cases H
    exact GA.iret rfl dX0_schemaOf_42 (by omega) (by omega) ⟨rfl, rfl⟩
  have H := it_f H c2
  by_cases c12 : a1 = 8
  · have H := it_t H c12
    refine GA.tableIn (tgt := 43) dX0_schemaOf_1 hg1 (by omega) (by omega) (by rw [c12] <;> rfl) (by decide) ?_
    refine GA.aload_n dX0_schemaOf_43 rfl ?_
    obtain ⟨z13, hx14, H⟩ := gv_e H
    refine GV.getR hx14 xf_X0_49 dX0_schemaOf_44 gs_487 (by decide) rfl ?_
    refine GA.aload_n dX0_schemaOf_47 rfl ?_
    obtain ⟨z15, hx16, H⟩ := gv_e H
    refine GV.getR hx16 xf_X0_49 dX0_schemaOf_48 gs_487 (by decide) rfl ?_
    refine GA.iload_n dX0_schemaOf_51 rfl ?_
    refine GA.ldcS (i := 37) (tx := "keys") (by decide +kernel) dX0_schemaOf_52 ?_
    obtain ⟨hg17, H⟩ := gg_e H
    obtain ⟨hg18, H⟩ := gg_e H
    obtain ⟨x19, S_20, hc21, H⟩ := gc_e H
    refine GA.callV (m_X10_valueNamed hc21) xs_X0_142 dX0_schemaOf_54 (gsT hg18) (by omega) rfl rfl (by omega) (by decide) rfl (Nat.le_of_ble_eq_true rfl) (by omega) (by omega) rfl (fun E S9 hx => hx.elim) (fun v S9 hq => ?_)
    obtain ⟨rfl, rfl⟩ := hq
    refine GA.aload_n dX0_schemaOf_57 rfl ?_
    obtain ⟨z22, hx23, H⟩ := gv_e H
    refine GV.getR hx23 xf_X0_52 dX0_schemaOf_58 gs_487 (by decide) rfl ?_
    refine GA.iload dX0_schemaOf_61 rfl ?_
    obtain ⟨hg24, H⟩ := gg_e H
    obtain ⟨x25, S_26, hc27, H⟩ := gc_e H
    refine GA.callV (m_X10_valueLike hc27) xs_X0_189 dX0_schemaOf_63 (gsT hg24) (by omega) rfl rfl (by omega) (by decide) rfl (Nat.le_of_ble_eq_true rfl) (by omega) (by omega) rfl (fun E S9 hx => hx.elim) (fun v S9 hq => ?_)
    obtain ⟨rfl, rfl⟩ := hq
    refine GA.iconst dX0_schemaOf_66 ?_
    obtain ⟨hg28, H⟩ := gg_e H
    refine GV.icmp_ne (tgt := 74) hg28 (by decide) dX0_schemaOf_67 (by decide) (fun c29 => ?_) (fun c29 => ?_)
    · have H := it_t H c29
      refine GA.iconst dX0_schemaOf_74 ?_
      cases H
      exact GA.iret rfl dX0_schemaOf_75 (by omega) (by omega) ⟨rfl, rfl⟩
    · have H := it_f H c29
      refine GA.iload_n dX0_schemaOf_70 rfl ?_
      refine GA.goto (tgt := 75) dX0_schemaOf_71 (by decide) ?_
      cases H
      exact GA.iret rfl dX0_schemaOf_75 (by omega) (by omega) ⟨rfl, rfl⟩
  have H := it_f H c12
  by_cases c30 : a1 = 9
  · have H := it_t H c30
    refine GA.tableIn (tgt := 76) dX0_schemaOf_1 hg1 (by omega) (by omega) (by rw [c30] <;> rfl) (by decide) ?_
    refine GA.iload_n dX0_schemaOf_76 rfl ?_
    cases H
    exact GA.iret rfl dX0_schemaOf_77 (by omega) (by omega) ⟨rfl, rfl⟩
  have H := it_f H c30
  refine GA.tableOut (tgt := 78) dX0_schemaOf_1 hg1 (by omega) (by decide) ?_
  refine GA.iload dX0_schemaOf_78 rfl ?_
  cases H
  exact GA.iret rfl dX0_schemaOf_80 (by omega) (by omega) ⟨rfl, rfl⟩
theorem g_X0_schemaOf {l : Launch} {Z : XZ} {L : Nat → Nat} : ∀ n, P_X0_schemaOf_0 l Z L n
  | 0 => fun _ _ _ _ _ _ _ _ H => no_e H
  | n + 1 => t_X0_schemaOf_0 n (g_X0_schemaOf n)
theorem m_X0_schemaOf {l : Launch} {Z : XZ} {L : Nat → Nat} {n d : Nat} {S : GS} {a1 : Int} {a2 : Int} {a3 : Int} {a4 : Int} {x : Int} {S1 : GS} (H : f_X0_schemaOf n d 0 S [a1, a2, a3, a4] = some (x, S1)) : GM l Z L yX0_schemaOf cX0_schemaOf 5 (some .int) [] d 0 0 [.ref (L 487), .int (J a1), .int (J a2), .int (J a3), .int (J a4)] S (fun v S' => v = some (.int (J x)) ∧ S1 = S') (fun _ _ => False) := GM.of (by decide) (Nat.le_of_ble_eq_true rfl) ((g_X0_schemaOf n) _ _ _ _ _ _ _ _ H)

def P_X0_openRef_0 (l : Launch) (Z : XZ) (L : Nat → Nat) (n : Nat) : Prop := ∀ (d : Nat) (S : GS) (a1 : Int) (a2 : Int) (a3 : Int) (x : Int) (S1 : GS), f_X0_openRef n d 0 S [a1, a2, a3] = some (x, S1) → GA l Z L yX0_openRef cX0_openRef 4 none [] d 0 0 (fun v S' => v = none ∧ S1 = S') (fun _ _ => False) 0 (gl [(0, .ref (L 487)), (1, .int (J a1)), (2, .int (J a2)), (3, .int (J a3))]) [] S 0 0
theorem i_X0_openRef {l : Launch} {Z : XZ} {L : Nat → Nat} {n : Nat} (ih : P_X0_openRef_0 l Z L n) {d : Nat} {S : GS} {a1 : Int} {a2 : Int} {a3 : Int} {x : Int} {S1 : GS} (H : f_X0_openRef n d 0 S [a1, a2, a3] = some (x, S1)) : GM l Z L yX0_openRef cX0_openRef 4 none [] d 0 0 [.ref (L 487), .int (J a1), .int (J a2), .int (J a3)] S (fun v S' => v = none ∧ S1 = S') (fun _ _ => False) := GM.of (by decide) (Nat.le_of_ble_eq_true rfl) (ih _ _ _ _ _ _ _ H)
set_option maxHeartbeats 4000000 in
set_option maxRecDepth 20000 in
theorem t_X0_openRef_0 {l : Launch} {Z : XZ} {L : Nat → Nat} (n : Nat) (ih_X0_openRef_0 : P_X0_openRef_0 l Z L n) : P_X0_openRef_0 l Z L (n + 1) := by
  intro d S a1 a2 a3 x S1 H
  have H : b_X0_openRef_0 n d (f_X0_openRef n) S a1 a2 a3 = some (x, S1) := H
  unfold b_X0_openRef_0 at H
  refine GA.iload_n dX0_openRef_0 rfl ?_
  refine GA.bipush dX0_openRef_1 rfl ?_
  obtain ⟨hg1, H⟩ := gg_e H
  refine GV.icmp_ne (tgt := 52) hg1 (by decide) dX0_openRef_3 (by decide) (fun c2 => ?_) (fun c2 => ?_)
  · have H := it_t H c2
    cases H
    exact GA.vret rfl dX0_openRef_52 (by omega) (by omega) ⟨rfl, rfl⟩
  · have H := it_f H c2
    refine GA.aload_n dX0_openRef_6 rfl ?_
    obtain ⟨x3, hx4, H⟩ := gv_e H
    refine GV.getI hx4 xf_X0_81 dX0_openRef_7 gs_487 (by decide) rfl ?_
    obtain ⟨hg5, H⟩ := gg_e H
    refine GV.if_lt (tgt := 52) hg5 dX0_openRef_10 (by decide) (fun c6 => ?_) (fun c6 => ?_)
    · have H := it_t H c6
      cases H
      exact GA.vret rfl dX0_openRef_52 (by omega) (by omega) ⟨rfl, rfl⟩
    · have H := it_f H c6
      refine GA.aload_n dX0_openRef_13 rfl ?_
      obtain ⟨x7, hx8, H⟩ := gv_e H
      refine GV.getI hx8 xf_X0_81 dX0_openRef_14 gs_487 (by decide) rfl ?_
      refine GA.bipush dX0_openRef_17 rfl ?_
      obtain ⟨hg9, H⟩ := gg_e H
      refine GV.icmp_ge (tgt := 52) hg9 (by decide) dX0_openRef_19 (by decide) (fun c10 => ?_) (fun c10 => ?_)
      · have H := it_t H c10
        cases H
        exact GA.vret rfl dX0_openRef_52 (by omega) (by omega) ⟨rfl, rfl⟩
      · have H := it_f H c10
        refine GA.aload_n dX0_openRef_22 rfl ?_
        refine GA.get xf_X0_30 dX0_openRef_23 gs_487 (by decide) rfl ?_
        refine GA.aload_n dX0_openRef_26 rfl ?_
        obtain ⟨x11, hx12, H⟩ := gv_e H
        refine GV.getI hx12 xf_X0_81 dX0_openRef_27 gs_487 (by decide) rfl ?_
        refine GA.iload_n dX0_openRef_30 rfl ?_
        obtain ⟨hg13, H⟩ := gg_e H
        obtain ⟨S_14, hx15, H⟩ := gv_e H
        refine GV.iast hg13 hx15 dX0_openRef_31 (fun _ => gs_488) (by decide) ?_
        refine GA.aload_n dX0_openRef_32 rfl ?_
        refine GA.get xf_X0_34 dX0_openRef_33 gs_487 (by decide) rfl ?_
        refine GA.aload_n dX0_openRef_36 rfl ?_
        obtain ⟨x16, hx17, H⟩ := gv_e H
        refine GV.getI hx17 xf_X0_81 dX0_openRef_37 gs_487 (by decide) rfl ?_
        refine GA.iload_n dX0_openRef_40 rfl ?_
        obtain ⟨hg18, H⟩ := gg_e H
        obtain ⟨S_19, hx20, H⟩ := gv_e H
        refine GV.iast hg18 hx20 dX0_openRef_41 (fun _ => gs_489) (by decide) ?_
        refine GA.aload_n dX0_openRef_42 rfl ?_
        refine GA.dup dX0_openRef_43 rfl ?_
        obtain ⟨x21, hx22, H⟩ := gv_e H
        refine GV.getI hx22 xf_X0_81 dX0_openRef_44 gs_487 (by decide) rfl ?_
        refine GA.iconst dX0_openRef_47 ?_
        obtain ⟨x23, hx24, H⟩ := gv_e H
        refine GV.iadd hx24 dX0_openRef_48 ?_
        obtain ⟨S_25, hx26, H⟩ := gv_e H
        refine GV.putI hx26 (xp_X0_81 _) dX0_openRef_49 gs_487 (by decide) (Nat.le_of_ble_eq_true rfl) gs_487 ?_
        cases H
        exact GA.vret rfl dX0_openRef_52 (by omega) (by omega) ⟨rfl, rfl⟩
theorem g_X0_openRef {l : Launch} {Z : XZ} {L : Nat → Nat} : ∀ n, P_X0_openRef_0 l Z L n
  | 0 => fun _ _ _ _ _ _ _ H => no_e H
  | n + 1 => t_X0_openRef_0 n (g_X0_openRef n)
theorem m_X0_openRef {l : Launch} {Z : XZ} {L : Nat → Nat} {n d : Nat} {S : GS} {a1 : Int} {a2 : Int} {a3 : Int} {x : Int} {S1 : GS} (H : f_X0_openRef n d 0 S [a1, a2, a3] = some (x, S1)) : GM l Z L yX0_openRef cX0_openRef 4 none [] d 0 0 [.ref (L 487), .int (J a1), .int (J a2), .int (J a3)] S (fun v S' => v = none ∧ S1 = S') (fun _ _ => False) := GM.of (by decide) (Nat.le_of_ble_eq_true rfl) ((g_X0_openRef n) _ _ _ _ _ _ _ H)

def P_X0_closeRef_0 (l : Launch) (Z : XZ) (L : Nat → Nat) (n : Nat) : Prop := ∀ (d : Nat) (S : GS) (a1 : Int) (x : Int) (S1 : GS), f_X0_closeRef n d 0 S [a1] = some (x, S1) → GA l Z L yX0_closeRef cX0_closeRef 2 none [] d 0 0 (fun v S' => v = none ∧ S1 = S') (fun _ _ => False) 0 (gl [(0, .ref (L 487)), (1, .int (J a1))]) [] S 0 0
theorem i_X0_closeRef {l : Launch} {Z : XZ} {L : Nat → Nat} {n : Nat} (ih : P_X0_closeRef_0 l Z L n) {d : Nat} {S : GS} {a1 : Int} {x : Int} {S1 : GS} (H : f_X0_closeRef n d 0 S [a1] = some (x, S1)) : GM l Z L yX0_closeRef cX0_closeRef 2 none [] d 0 0 [.ref (L 487), .int (J a1)] S (fun v S' => v = none ∧ S1 = S') (fun _ _ => False) := GM.of (by decide) (Nat.le_of_ble_eq_true rfl) (ih _ _ _ _ _ H)
set_option maxHeartbeats 4000000 in
set_option maxRecDepth 20000 in
theorem t_X0_closeRef_0 {l : Launch} {Z : XZ} {L : Nat → Nat} (n : Nat) (ih_X0_closeRef_0 : P_X0_closeRef_0 l Z L n) : P_X0_closeRef_0 l Z L (n + 1) := by
  intro d S a1 x S1 H
  have H : b_X0_closeRef_0 n d (f_X0_closeRef n) S a1 = some (x, S1) := H
  unfold b_X0_closeRef_0 at H
  refine GA.iload_n dX0_closeRef_0 rfl ?_
  refine GA.bipush dX0_closeRef_1 rfl ?_
  obtain ⟨hg1, H⟩ := gg_e H
  refine GV.icmp_ne (tgt := 23) hg1 (by decide) dX0_closeRef_3 (by decide) (fun c2 => ?_) (fun c2 => ?_)
  · have H := it_t H c2
    cases H
    exact GA.vret rfl dX0_closeRef_23 (by omega) (by omega) ⟨rfl, rfl⟩
  · have H := it_f H c2
    refine GA.aload_n dX0_closeRef_6 rfl ?_
    obtain ⟨x3, hx4, H⟩ := gv_e H
    refine GV.getI hx4 xf_X0_81 dX0_closeRef_7 gs_487 (by decide) rfl ?_
    obtain ⟨hg5, H⟩ := gg_e H
    refine GV.if_le (tgt := 23) hg5 dX0_closeRef_10 (by decide) (fun c6 => ?_) (fun c6 => ?_)
    · have H := it_t H c6
      cases H
      exact GA.vret rfl dX0_closeRef_23 (by omega) (by omega) ⟨rfl, rfl⟩
    · have H := it_f H c6
      refine GA.aload_n dX0_closeRef_13 rfl ?_
      refine GA.dup dX0_closeRef_14 rfl ?_
      obtain ⟨x7, hx8, H⟩ := gv_e H
      refine GV.getI hx8 xf_X0_81 dX0_closeRef_15 gs_487 (by decide) rfl ?_
      refine GA.iconst dX0_closeRef_18 ?_
      obtain ⟨x9, hx10, H⟩ := gv_e H
      refine GV.isub hx10 dX0_closeRef_19 ?_
      obtain ⟨S_11, hx12, H⟩ := gv_e H
      refine GV.putI hx12 (xp_X0_81 _) dX0_closeRef_20 gs_487 (by decide) (Nat.le_of_ble_eq_true rfl) gs_487 ?_
      cases H
      exact GA.vret rfl dX0_closeRef_23 (by omega) (by omega) ⟨rfl, rfl⟩
theorem g_X0_closeRef {l : Launch} {Z : XZ} {L : Nat → Nat} : ∀ n, P_X0_closeRef_0 l Z L n
  | 0 => fun _ _ _ _ _ H => no_e H
  | n + 1 => t_X0_closeRef_0 n (g_X0_closeRef n)
theorem m_X0_closeRef {l : Launch} {Z : XZ} {L : Nat → Nat} {n d : Nat} {S : GS} {a1 : Int} {x : Int} {S1 : GS} (H : f_X0_closeRef n d 0 S [a1] = some (x, S1)) : GM l Z L yX0_closeRef cX0_closeRef 2 none [] d 0 0 [.ref (L 487), .int (J a1)] S (fun v S' => v = none ∧ S1 = S') (fun _ _ => False) := GM.of (by decide) (Nat.le_of_ble_eq_true rfl) ((g_X0_closeRef n) _ _ _ _ _ H)

def P_X0_nextQuestion_0 (l : Launch) (Z : XZ) (L : Nat → Nat) (n : Nat) : Prop := ∀ (d : Nat) (S : GS) (a1 : Int) (a2 : Int) (a3 : Int) (a4 : Int) (x : Int) (S1 : GS), f_X0_nextQuestion n d 0 S [a1, a2, a3, a4] = some (x, S1) → GA l Z L yX0_nextQuestion cX0_nextQuestion 5 (some .int) [] d 0 0 (fun v S' => v = some (.int (J x)) ∧ S1 = S') (fun _ _ => False) 0 (gl [(0, .ref (L 487)), (1, .int (J a1)), (2, .int (J a2)), (3, .int (J a3)), (4, .int (J a4))]) [] S 0 0
theorem i_X0_nextQuestion {l : Launch} {Z : XZ} {L : Nat → Nat} {n : Nat} (ih : P_X0_nextQuestion_0 l Z L n) {d : Nat} {S : GS} {a1 : Int} {a2 : Int} {a3 : Int} {a4 : Int} {x : Int} {S1 : GS} (H : f_X0_nextQuestion n d 0 S [a1, a2, a3, a4] = some (x, S1)) : GM l Z L yX0_nextQuestion cX0_nextQuestion 5 (some .int) [] d 0 0 [.ref (L 487), .int (J a1), .int (J a2), .int (J a3), .int (J a4)] S (fun v S' => v = some (.int (J x)) ∧ S1 = S') (fun _ _ => False) := GM.of (by decide) (Nat.le_of_ble_eq_true rfl) (ih _ _ _ _ _ _ _ _ H)
set_option maxHeartbeats 4000000 in
set_option maxRecDepth 20000 in
theorem t_X0_nextQuestion_0 {l : Launch} {Z : XZ} {L : Nat → Nat} (n : Nat) (ih_X0_nextQuestion_0 : P_X0_nextQuestion_0 l Z L n) : P_X0_nextQuestion_0 l Z L (n + 1) := by
  intro d S a1 a2 a3 a4 x S1 H
  have H : b_X0_nextQuestion_0 n d (f_X0_nextQuestion n) S a1 a2 a3 a4 = some (x, S1) := H
  unfold b_X0_nextQuestion_0 at H
  refine GA.iload_n dX0_nextQuestion_0 rfl ?_
  refine GA.bipush dX0_nextQuestion_1 rfl ?_
  obtain ⟨hg1, H⟩ := gg_e H
  refine GV.icmp_ge (tgt := 17) hg1 (by decide) dX0_nextQuestion_3 (by decide) (fun c2 => ?_) (fun c2 => ?_)
  · have H := it_t H c2
    refine GA.iload_n dX0_nextQuestion_17 rfl ?_
    refine GA.bipush dX0_nextQuestion_18 rfl ?_
    refine GV.icmp_ge (tgt := 36) hg1 (by decide) dX0_nextQuestion_20 (by decide) (fun c3 => ?_) (fun c3 => ?_)
    · have H := it_t H c3
      refine GA.iconst dX0_nextQuestion_36 ?_
      cases H
      exact GA.iret rfl dX0_nextQuestion_37 (by omega) (by omega) ⟨rfl, rfl⟩
    · have H := it_f H c3
      refine GA.aload_n dX0_nextQuestion_23 rfl ?_
      obtain ⟨z4, hx5, H⟩ := gv_e H
      refine GV.getR hx5 xf_X0_49 dX0_nextQuestion_24 gs_487 (by decide) rfl ?_
      refine GA.iload_n dX0_nextQuestion_27 rfl ?_
      refine GA.iload dX0_nextQuestion_28 rfl ?_
      obtain ⟨hg6, H⟩ := gg_e H
      obtain ⟨hg7, H⟩ := gg_e H
      obtain ⟨x8, S_9, hc10, H⟩ := gc_e H
      refine GA.callV (m_X10_next hc10) xs_X0_186 dX0_nextQuestion_30 (gsT hg7) (by omega) rfl rfl (by omega) (by decide) rfl (Nat.le_of_ble_eq_true rfl) (by omega) (by omega) rfl (fun E S9 hx => hx.elim) (fun v S9 hq => ?_)
      obtain ⟨rfl, rfl⟩ := hq
      refine GA.goto (tgt := 37) dX0_nextQuestion_33 (by decide) ?_
      cases H
      exact GA.iret rfl dX0_nextQuestion_37 (by omega) (by omega) ⟨rfl, rfl⟩
  · have H := it_f H c2
    refine GA.aload_n dX0_nextQuestion_6 rfl ?_
    obtain ⟨z11, hx12, H⟩ := gv_e H
    refine GV.getR hx12 xf_X0_52 dX0_nextQuestion_7 gs_487 (by decide) rfl ?_
    refine GA.iload_n dX0_nextQuestion_10 rfl ?_
    refine GA.iload dX0_nextQuestion_11 rfl ?_
    obtain ⟨hg13, H⟩ := gg_e H
    obtain ⟨hg14, H⟩ := gg_e H
    obtain ⟨x15, S_16, hc17, H⟩ := gc_e H
    refine GA.callV (m_X10_next hc17) xs_X0_186 dX0_nextQuestion_13 (gsT hg14) (by omega) rfl rfl (by omega) (by decide) rfl (Nat.le_of_ble_eq_true rfl) (by omega) (by omega) rfl (fun E S9 hx => hx.elim) (fun v S9 hq => ?_)
    obtain ⟨rfl, rfl⟩ := hq
    cases H
    exact GA.iret rfl dX0_nextQuestion_16 (by omega) (by omega) ⟨rfl, rfl⟩
theorem g_X0_nextQuestion {l : Launch} {Z : XZ} {L : Nat → Nat} : ∀ n, P_X0_nextQuestion_0 l Z L n
  | 0 => fun _ _ _ _ _ _ _ _ H => no_e H
  | n + 1 => t_X0_nextQuestion_0 n (g_X0_nextQuestion n)
theorem m_X0_nextQuestion {l : Launch} {Z : XZ} {L : Nat → Nat} {n d : Nat} {S : GS} {a1 : Int} {a2 : Int} {a3 : Int} {a4 : Int} {x : Int} {S1 : GS} (H : f_X0_nextQuestion n d 0 S [a1, a2, a3, a4] = some (x, S1)) : GM l Z L yX0_nextQuestion cX0_nextQuestion 5 (some .int) [] d 0 0 [.ref (L 487), .int (J a1), .int (J a2), .int (J a3), .int (J a4)] S (fun v S' => v = some (.int (J x)) ∧ S1 = S') (fun _ _ => False) := GM.of (by decide) (Nat.le_of_ble_eq_true rfl) ((g_X0_nextQuestion n) _ _ _ _ _ _ _ _ H)

def P_X0_holds_0 (l : Launch) (Z : XZ) (L : Nat → Nat) (n : Nat) : Prop := ∀ (d : Nat) (S : GS) (a0 : Int) (a1 : Int) (a2 : Int) (a3 : Int) (x : Int) (S1 : GS), f_X0_holds n d 0 S [a0, a1, a2, a3] = some (x, S1) → GA l Z L yX0_holds cX0_holds 4 (some .boolean) [] d 0 0 (fun v S' => v = some (.int (J x)) ∧ S1 = S') (fun _ _ => False) 0 (gl [(0, .int (J a0)), (1, .int (J a1)), (2, .int (J a2)), (3, .int (J a3))]) [] S 0 0
theorem i_X0_holds {l : Launch} {Z : XZ} {L : Nat → Nat} {n : Nat} (ih : P_X0_holds_0 l Z L n) {d : Nat} {S : GS} {a0 : Int} {a1 : Int} {a2 : Int} {a3 : Int} {x : Int} {S1 : GS} (H : f_X0_holds n d 0 S [a0, a1, a2, a3] = some (x, S1)) : GM l Z L yX0_holds cX0_holds 4 (some .boolean) [] d 0 0 [.int (J a0), .int (J a1), .int (J a2), .int (J a3)] S (fun v S' => v = some (.int (J x)) ∧ S1 = S') (fun _ _ => False) := GM.of (by decide) (Nat.le_of_ble_eq_true rfl) (ih _ _ _ _ _ _ _ _ H)
set_option maxHeartbeats 4000000 in
set_option maxRecDepth 20000 in
theorem t_X0_holds_0 {l : Launch} {Z : XZ} {L : Nat → Nat} (n : Nat) (ih_X0_holds_0 : P_X0_holds_0 l Z L n) : P_X0_holds_0 l Z L (n + 1) := by
  intro d S a0 a1 a2 a3 x S1 H
  have H : b_X0_holds_0 n d (f_X0_holds n) S a0 a1 a2 a3 = some (x, S1) := H
  unfold b_X0_holds_0 at H
  refine GA.iload_n dX0_holds_0 rfl ?_
  obtain ⟨hg1, H⟩ := gg_e H
  by_cases c2 : a0 = 12
  · have H := it_t H c2
    refine GA.tableIn (tgt := 28) dX0_holds_1 hg1 (by omega) (by omega) (by rw [c2] <;> rfl) (by decide) ?_
    refine GA.iload_n dX0_holds_28 rfl ?_
    obtain ⟨hg3, H⟩ := gg_e H
    refine GV.if_le (tgt := 36) hg3 dX0_holds_29 (by decide) (fun c4 => ?_) (fun c4 => ?_)
    · have H := it_t H c4
      refine GA.iconst dX0_holds_36 ?_
      cases H
      exact GV.zret (by decide) rfl dX0_holds_37 (by omega) (by omega) ⟨rfl, rfl⟩
    · have H := it_f H c4
      refine GA.iconst dX0_holds_32 ?_
      refine GA.goto (tgt := 37) dX0_holds_33 (by decide) ?_
      cases H
      exact GV.zret (by decide) rfl dX0_holds_37 (by omega) (by omega) ⟨rfl, rfl⟩
  have H := it_f H c2
  by_cases c5 : a0 = 13
  · have H := it_t H c5
    refine GA.tableIn (tgt := 38) dX0_holds_1 hg1 (by omega) (by omega) (by rw [c5] <;> rfl) (by decide) ?_
    refine GA.iload_n dX0_holds_38 rfl ?_
    refine GA.iconst dX0_holds_39 ?_
    obtain ⟨hg6, H⟩ := gg_e H
    refine GV.icmp_ne (tgt := 47) hg6 (by decide) dX0_holds_40 (by decide) (fun c7 => ?_) (fun c7 => ?_)
    · have H := it_t H c7
      refine GA.iconst dX0_holds_47 ?_
      cases H
      exact GV.zret (by decide) rfl dX0_holds_48 (by omega) (by omega) ⟨rfl, rfl⟩
    · have H := it_f H c7
      refine GA.iconst dX0_holds_43 ?_
      refine GA.goto (tgt := 48) dX0_holds_44 (by decide) ?_
      cases H
      exact GV.zret (by decide) rfl dX0_holds_48 (by omega) (by omega) ⟨rfl, rfl⟩
  have H := it_f H c5
  by_cases c8 : a0 = 14
  · have H := it_t H c8
    refine GA.tableIn (tgt := 49) dX0_holds_1 hg1 (by omega) (by omega) (by rw [c8] <;> rfl) (by decide) ?_
    refine GA.iload_n dX0_holds_49 rfl ?_
    obtain ⟨hg9, H⟩ := gg_e H
    refine GV.if_ne (tgt := 57) hg9 dX0_holds_50 (by decide) (fun c10 => ?_) (fun c10 => ?_)
    · have H := it_t H c10
      refine GA.iconst dX0_holds_57 ?_
      cases H
      exact GV.zret (by decide) rfl dX0_holds_58 (by omega) (by omega) ⟨rfl, rfl⟩
    · have H := it_f H c10
      refine GA.iconst dX0_holds_53 ?_
      refine GA.goto (tgt := 58) dX0_holds_54 (by decide) ?_
      cases H
      exact GV.zret (by decide) rfl dX0_holds_58 (by omega) (by omega) ⟨rfl, rfl⟩
  have H := it_f H c8
  refine GA.tableOut (tgt := 59) dX0_holds_1 hg1 (by omega) (by decide) ?_
  refine GA.iload_n dX0_holds_59 rfl ?_
  refine GA.iload_n dX0_holds_60 rfl ?_
  obtain ⟨hg11, H⟩ := gg_e H
  obtain ⟨hg12, H⟩ := gg_e H
  refine GV.icmp_ne (tgt := 74) hg11 hg12 dX0_holds_61 (by decide) (fun c13 => ?_) (fun c13 => ?_)
  · have H := it_t H c13
    refine GA.iconst dX0_holds_74 ?_
    cases H
    exact GV.zret (by decide) rfl dX0_holds_75 (by omega) (by omega) ⟨rfl, rfl⟩
  · have H := it_f H c13
    refine GA.iload_n dX0_holds_64 rfl ?_
    refine GA.bipush dX0_holds_65 rfl ?_
    obtain ⟨hg14, H⟩ := gg_e H
    refine GV.icmp_eq (tgt := 74) hg14 (by decide) dX0_holds_67 (by decide) (fun c15 => ?_) (fun c15 => ?_)
    · have H := it_t H c15
      refine GA.iconst dX0_holds_74 ?_
      cases H
      exact GV.zret (by decide) rfl dX0_holds_75 (by omega) (by omega) ⟨rfl, rfl⟩
    · have H := it_f H c15
      refine GA.iconst dX0_holds_70 ?_
      refine GA.goto (tgt := 75) dX0_holds_71 (by decide) ?_
      cases H
      exact GV.zret (by decide) rfl dX0_holds_75 (by omega) (by omega) ⟨rfl, rfl⟩
theorem g_X0_holds {l : Launch} {Z : XZ} {L : Nat → Nat} : ∀ n, P_X0_holds_0 l Z L n
  | 0 => fun _ _ _ _ _ _ _ _ H => no_e H
  | n + 1 => t_X0_holds_0 n (g_X0_holds n)
theorem m_X0_holds {l : Launch} {Z : XZ} {L : Nat → Nat} {n d : Nat} {S : GS} {a0 : Int} {a1 : Int} {a2 : Int} {a3 : Int} {x : Int} {S1 : GS} (H : f_X0_holds n d 0 S [a0, a1, a2, a3] = some (x, S1)) : GM l Z L yX0_holds cX0_holds 4 (some .boolean) [] d 0 0 [.int (J a0), .int (J a1), .int (J a2), .int (J a3)] S (fun v S' => v = some (.int (J x)) ∧ S1 = S') (fun _ _ => False) := GM.of (by decide) (Nat.le_of_ble_eq_true rfl) ((g_X0_holds n) _ _ _ _ _ _ _ _ H)

def P_X0_holdsItself_0 (l : Launch) (Z : XZ) (L : Nat → Nat) (n : Nat) : Prop := ∀ (d : Nat) (S : GS) (a0 : Int) (a1 : Int) (a2 : Int) (a3 : Int) (x : Int) (S1 : GS), f_X0_holdsItself n d 0 S [a0, a1, a2, a3] = some (x, S1) → GA l Z L yX0_holdsItself cX0_holdsItself 4 (some .boolean) [] d 0 0 (fun v S' => v = some (.int (J x)) ∧ S1 = S') (fun _ _ => False) 0 (gl [(0, .int (J a0)), (1, .int (J a1)), (2, .int (J a2)), (3, .int (J a3))]) [] S 0 0
theorem i_X0_holdsItself {l : Launch} {Z : XZ} {L : Nat → Nat} {n : Nat} (ih : P_X0_holdsItself_0 l Z L n) {d : Nat} {S : GS} {a0 : Int} {a1 : Int} {a2 : Int} {a3 : Int} {x : Int} {S1 : GS} (H : f_X0_holdsItself n d 0 S [a0, a1, a2, a3] = some (x, S1)) : GM l Z L yX0_holdsItself cX0_holdsItself 4 (some .boolean) [] d 0 0 [.int (J a0), .int (J a1), .int (J a2), .int (J a3)] S (fun v S' => v = some (.int (J x)) ∧ S1 = S') (fun _ _ => False) := GM.of (by decide) (Nat.le_of_ble_eq_true rfl) (ih _ _ _ _ _ _ _ _ H)
set_option maxHeartbeats 4000000 in
set_option maxRecDepth 20000 in
theorem t_X0_holdsItself_0 {l : Launch} {Z : XZ} {L : Nat → Nat} (n : Nat) (ih_X0_holdsItself_0 : P_X0_holdsItself_0 l Z L n) : P_X0_holdsItself_0 l Z L (n + 1) := by
  intro d S a0 a1 a2 a3 x S1 H
  have H : b_X0_holdsItself_0 n d (f_X0_holdsItself n) S a0 a1 a2 a3 = some (x, S1) := H
  unfold b_X0_holdsItself_0 at H
  refine GA.iload_n dX0_holdsItself_0 rfl ?_
  refine GA.bipush dX0_holdsItself_1 rfl ?_
  obtain ⟨hg1, H⟩ := gg_e H
  refine GV.icmp_ge (tgt := 8) hg1 (by decide) dX0_holdsItself_3 (by decide) (fun c2 => ?_) (fun c2 => ?_)
  · have H := it_t H c2
    refine GA.iload_n dX0_holdsItself_8 rfl ?_
    refine GA.bipush dX0_holdsItself_9 rfl ?_
    refine GV.icmp_ne (tgt := 28) hg1 (by decide) dX0_holdsItself_11 (by decide) (fun c3 => ?_) (fun c3 => ?_)
    · have H := it_t H c3
      refine GA.iload_n dX0_holdsItself_28 rfl ?_
      refine GA.iload_n dX0_holdsItself_29 rfl ?_
      refine GA.iload_n dX0_holdsItself_30 rfl ?_
      refine GA.iload_n dX0_holdsItself_31 rfl ?_
      obtain ⟨hg4, H⟩ := gg_e H
      obtain ⟨x5, S_6, hc7, H⟩ := gc_e H
      refine GA.callS (m_X0_holds hc7) xs_X0_168 dX0_holdsItself_32 rfl (by omega) (by decide) rfl (Nat.le_of_ble_eq_true rfl) (by omega) (by omega) rfl (fun E S9 hx => hx.elim) (fun v S9 hq => ?_)
      obtain ⟨rfl, rfl⟩ := hq
      obtain ⟨hg8, H⟩ := gg_e H
      cases H
      exact GV.zret hg8 rfl dX0_holdsItself_35 (by omega) (by omega) ⟨rfl, rfl⟩
    · have H := it_f H c3
      refine GA.iload_n dX0_holdsItself_14 rfl ?_
      refine GA.bipush dX0_holdsItself_15 rfl ?_
      obtain ⟨hg9, H⟩ := gg_e H
      refine GV.icmp_eq (tgt := 24) hg9 (by decide) dX0_holdsItself_17 (by decide) (fun c10 => ?_) (fun c10 => ?_)
      · have H := it_t H c10
        refine GA.iconst dX0_holdsItself_24 ?_
        refine GA.goto (tgt := 35) dX0_holdsItself_25 (by decide) ?_
        cases H
        exact GV.zret (by decide) rfl dX0_holdsItself_35 (by omega) (by omega) ⟨rfl, rfl⟩
      · have H := it_f H c10
        refine GA.iconst dX0_holdsItself_20 ?_
        refine GA.goto (tgt := 35) dX0_holdsItself_21 (by decide) ?_
        cases H
        exact GV.zret (by decide) rfl dX0_holdsItself_35 (by omega) (by omega) ⟨rfl, rfl⟩
  · have H := it_f H c2
    refine GA.iconst dX0_holdsItself_6 ?_
    cases H
    exact GV.zret (by decide) rfl dX0_holdsItself_7 (by omega) (by omega) ⟨rfl, rfl⟩
theorem g_X0_holdsItself {l : Launch} {Z : XZ} {L : Nat → Nat} : ∀ n, P_X0_holdsItself_0 l Z L n
  | 0 => fun _ _ _ _ _ _ _ _ H => no_e H
  | n + 1 => t_X0_holdsItself_0 n (g_X0_holdsItself n)
theorem m_X0_holdsItself {l : Launch} {Z : XZ} {L : Nat → Nat} {n d : Nat} {S : GS} {a0 : Int} {a1 : Int} {a2 : Int} {a3 : Int} {x : Int} {S1 : GS} (H : f_X0_holdsItself n d 0 S [a0, a1, a2, a3] = some (x, S1)) : GM l Z L yX0_holdsItself cX0_holdsItself 4 (some .boolean) [] d 0 0 [.int (J a0), .int (J a1), .int (J a2), .int (J a3)] S (fun v S' => v = some (.int (J x)) ∧ S1 = S') (fun _ _ => False) := GM.of (by decide) (Nat.le_of_ble_eq_true rfl) ((g_X0_holdsItself n) _ _ _ _ _ _ _ _ H)

def P_X0_ask_0 (l : Launch) (Z : XZ) (L : Nat → Nat) (n : Nat) : Prop := ∀ (d : Nat) (S : GS) (a1 : Int) (a2 : Int) (a3 : Int) (a4 : Int) (x : Int) (S1 : GS), f_X0_ask n d 0 S [a1, a2, a3, a4] = some (x, S1) → GA l Z L yX0_ask cX0_ask 14 (some .boolean) [] d 0 0 (fun v S' => v = some (.int (J x)) ∧ S1 = S') (fun _ _ => False) 0 (gl [(0, .ref (L 487)), (1, .int (J a1)), (2, .int (J a2)), (3, .int (J a3)), (4, .int (J a4))]) [] S 0 0
def P_X0_ask_42 (l : Launch) (Z : XZ) (L : Nat → Nat) (n : Nat) : Prop := ∀ (d : Nat) (S : GS) (a1 : Int) (a2 : Int) (a3 : Int) (a4 : Int) (s0 : Int) (x : Int) (S1 : GS), f_X0_ask n d 42 S [a1, a2, a3, a4, s0] = some (x, S1) → GA l Z L yX0_ask cX0_ask 14 (some .boolean) [] d 0 0 (fun v S' => v = some (.int (J x)) ∧ S1 = S') (fun _ _ => False) 42 (gl [(0, .ref (L 487)), (1, .int (J a1)), (2, .int (J a2)), (3, .int (J a3)), (4, .int (J a4))]) [.int (J s0), .ref (L 487)] S 0 0
def P_X0_ask_97 (l : Launch) (Z : XZ) (L : Nat → Nat) (n : Nat) : Prop := ∀ (d : Nat) (S : GS) (a1 : Int) (a2 : Int) (a3 : Int) (a4 : Int) (a5 : Int) (a6 : Int) (x : Int) (S1 : GS), f_X0_ask n d 97 S [a1, a2, a3, a4, a5, a6] = some (x, S1) → GA l Z L yX0_ask cX0_ask 14 (some .boolean) [] d 0 0 (fun v S' => v = some (.int (J x)) ∧ S1 = S') (fun _ _ => False) 97 (gl [(0, .ref (L 487)), (1, .int (J a1)), (2, .int (J a2)), (3, .int (J a3)), (4, .int (J a4)), (5, .int (J a5)), (6, .int (J a6))]) [] S 0 0
def P_X0_ask_139 (l : Launch) (Z : XZ) (L : Nat → Nat) (n : Nat) : Prop := ∀ (d : Nat) (S : GS) (a1 : Int) (a2 : Int) (a3 : Int) (a4 : Int) (a5 : Int) (a6 : Int) (a7 : Int) (x : Int) (S1 : GS), f_X0_ask n d 139 S [a1, a2, a3, a4, a5, a6, a7] = some (x, S1) → GA l Z L yX0_ask cX0_ask 14 (some .boolean) [] d 0 0 (fun v S' => v = some (.int (J x)) ∧ S1 = S') (fun _ _ => False) 139 (gl [(0, .ref (L 487)), (1, .int (J a1)), (2, .int (J a2)), (3, .int (J a3)), (4, .int (J a4)), (5, .int (J a5)), (6, .int (J a6)), (7, .int (J a7))]) [] S 0 0
def P_X0_ask_167 (l : Launch) (Z : XZ) (L : Nat → Nat) (n : Nat) : Prop := ∀ (d : Nat) (S : GS) (a1 : Int) (a2 : Int) (a3 : Int) (a4 : Int) (a5 : Int) (a6 : Int) (a7 : Int) (x : Int) (S1 : GS), f_X0_ask n d 167 S [a1, a2, a3, a4, a5, a6, a7] = some (x, S1) → GA l Z L yX0_ask cX0_ask 14 (some .boolean) [] d 0 0 (fun v S' => v = some (.int (J x)) ∧ S1 = S') (fun _ _ => False) 167 (gl [(0, .ref (L 487)), (1, .int (J a1)), (2, .int (J a2)), (3, .int (J a3)), (4, .int (J a4)), (5, .int (J a5)), (6, .int (J a6)), (7, .int (J a7))]) [] S 0 0
def P_X0_ask_193 (l : Launch) (Z : XZ) (L : Nat → Nat) (n : Nat) : Prop := ∀ (d : Nat) (S : GS) (a1 : Int) (a2 : Int) (a3 : Int) (a4 : Int) (a5 : Int) (a6 : Int) (a7 : Int) (a8 : Int) (a9 : Int) (a10 : Int) (a11 : Int) (x : Int) (S1 : GS), f_X0_ask n d 193 S [a1, a2, a3, a4, a5, a6, a7, a8, a9, a10, a11] = some (x, S1) → GA l Z L yX0_ask cX0_ask 14 (some .boolean) [] d 0 0 (fun v S' => v = some (.int (J x)) ∧ S1 = S') (fun _ _ => False) 193 (gl [(0, .ref (L 487)), (1, .int (J a1)), (2, .int (J a2)), (3, .int (J a3)), (4, .int (J a4)), (5, .int (J a5)), (6, .int (J a6)), (7, .int (J a7)), (8, .int (J a8)), (9, .int (J a9)), (10, .int (J a10)), (11, .int (J a11))]) [] S 0 0
def P_X0_ask_248 (l : Launch) (Z : XZ) (L : Nat → Nat) (n : Nat) : Prop := ∀ (d : Nat) (S : GS) (a1 : Int) (a2 : Int) (a3 : Int) (a4 : Int) (a5 : Int) (a6 : Int) (a7 : Int) (a8 : Int) (a9 : Int) (a10 : Int) (a11 : Int) (a12 : Int) (s0 : Int) (x : Int) (S1 : GS), f_X0_ask n d 248 S [a1, a2, a3, a4, a5, a6, a7, a8, a9, a10, a11, a12, s0] = some (x, S1) → GA l Z L yX0_ask cX0_ask 14 (some .boolean) [] d 0 0 (fun v S' => v = some (.int (J x)) ∧ S1 = S') (fun _ _ => False) 248 (gl [(0, .ref (L 487)), (1, .int (J a1)), (2, .int (J a2)), (3, .int (J a3)), (4, .int (J a4)), (5, .int (J a5)), (6, .int (J a6)), (7, .int (J a7)), (8, .int (J a8)), (9, .int (J a9)), (10, .int (J a10)), (11, .int (J a11)), (12, .int (J a12))]) [.int (J s0)] S 0 0
def P_X0_ask_286 (l : Launch) (Z : XZ) (L : Nat → Nat) (n : Nat) : Prop := ∀ (d : Nat) (S : GS) (a1 : Int) (a2 : Int) (a3 : Int) (a4 : Int) (a5 : Int) (a6 : Int) (a7 : Int) (a8 : Int) (a10 : Int) (a11 : Int) (a13 : Int) (s0 : Int) (s1 : Int) (s3 : Int) (x : Int) (S1 : GS), f_X0_ask n d 286 S [a1, a2, a3, a4, a5, a6, a7, a8, a10, a11, a13, s0, s1, s3] = some (x, S1) → GA l Z L yX0_ask cX0_ask 14 (some .boolean) [] d 0 0 (fun v S' => v = some (.int (J x)) ∧ S1 = S') (fun _ _ => False) 286 (gl [(0, .ref (L 487)), (1, .int (J a1)), (2, .int (J a2)), (3, .int (J a3)), (4, .int (J a4)), (5, .int (J a5)), (6, .int (J a6)), (7, .int (J a7)), (8, .int (J a8)), (10, .int (J a10)), (11, .int (J a11)), (13, .int (J a13))]) [.int (J s0), .int (J s1), .ref (L 487), .int (J s3)] S 0 0
def P_X0_ask_312 (l : Launch) (Z : XZ) (L : Nat → Nat) (n : Nat) : Prop := ∀ (d : Nat) (S : GS) (a1 : Int) (a2 : Int) (a3 : Int) (a4 : Int) (a5 : Int) (a6 : Int) (a7 : Int) (a8 : Int) (a9 : Int) (a10 : Int) (a11 : Int) (x : Int) (S1 : GS), f_X0_ask n d 312 S [a1, a2, a3, a4, a5, a6, a7, a8, a9, a10, a11] = some (x, S1) → GA l Z L yX0_ask cX0_ask 14 (some .boolean) [] d 0 0 (fun v S' => v = some (.int (J x)) ∧ S1 = S') (fun _ _ => False) 312 (gl [(0, .ref (L 487)), (1, .int (J a1)), (2, .int (J a2)), (3, .int (J a3)), (4, .int (J a4)), (5, .int (J a5)), (6, .int (J a6)), (7, .int (J a7)), (8, .int (J a8)), (9, .int (J a9)), (10, .int (J a10)), (11, .int (J a11))]) [] S 0 0
def P_X0_ask_331 (l : Launch) (Z : XZ) (L : Nat → Nat) (n : Nat) : Prop := ∀ (d : Nat) (S : GS) (a1 : Int) (a2 : Int) (a3 : Int) (a4 : Int) (a5 : Int) (a6 : Int) (a8 : Int) (a9 : Int) (a10 : Int) (x : Int) (S1 : GS), f_X0_ask n d 331 S [a1, a2, a3, a4, a5, a6, a8, a9, a10] = some (x, S1) → GA l Z L yX0_ask cX0_ask 14 (some .boolean) [] d 0 0 (fun v S' => v = some (.int (J x)) ∧ S1 = S') (fun _ _ => False) 331 (gl [(0, .ref (L 487)), (1, .int (J a1)), (2, .int (J a2)), (3, .int (J a3)), (4, .int (J a4)), (5, .int (J a5)), (6, .int (J a6)), (8, .int (J a8)), (9, .int (J a9)), (10, .int (J a10))]) [] S 0 0
def P_X0_ask_355 (l : Launch) (Z : XZ) (L : Nat → Nat) (n : Nat) : Prop := ∀ (d : Nat) (S : GS) (a1 : Int) (a2 : Int) (a3 : Int) (a4 : Int) (a6 : Int) (a8 : Int) (a9 : Int) (a10 : Int) (s0 : Int) (x : Int) (S1 : GS), f_X0_ask n d 355 S [a1, a2, a3, a4, a6, a8, a9, a10, s0] = some (x, S1) → GA l Z L yX0_ask cX0_ask 14 (some .boolean) [] d 0 0 (fun v S' => v = some (.int (J x)) ∧ S1 = S') (fun _ _ => False) 355 (gl [(0, .ref (L 487)), (1, .int (J a1)), (2, .int (J a2)), (3, .int (J a3)), (4, .int (J a4)), (6, .int (J a6)), (8, .int (J a8)), (9, .int (J a9)), (10, .int (J a10))]) [.int (J s0)] S 0 0
theorem i_X0_ask {l : Launch} {Z : XZ} {L : Nat → Nat} {n : Nat} (ih : P_X0_ask_0 l Z L n) {d : Nat} {S : GS} {a1 : Int} {a2 : Int} {a3 : Int} {a4 : Int} {x : Int} {S1 : GS} (H : f_X0_ask n d 0 S [a1, a2, a3, a4] = some (x, S1)) : GM l Z L yX0_ask cX0_ask 14 (some .boolean) [] d 0 0 [.ref (L 487), .int (J a1), .int (J a2), .int (J a3), .int (J a4)] S (fun v S' => v = some (.int (J x)) ∧ S1 = S') (fun _ _ => False) := GM.of (by decide) (Nat.le_of_ble_eq_true rfl) (ih _ _ _ _ _ _ _ _ H)
set_option maxHeartbeats 4000000 in
set_option maxRecDepth 20000 in
theorem t_X0_ask_0 {l : Launch} {Z : XZ} {L : Nat → Nat} (n : Nat) (ih_X0_ask_0 : P_X0_ask_0 l Z L n) (ih_X0_ask_42 : P_X0_ask_42 l Z L n) (ih_X0_ask_97 : P_X0_ask_97 l Z L n) (ih_X0_ask_139 : P_X0_ask_139 l Z L n) (ih_X0_ask_167 : P_X0_ask_167 l Z L n) (ih_X0_ask_193 : P_X0_ask_193 l Z L n) (ih_X0_ask_248 : P_X0_ask_248 l Z L n) (ih_X0_ask_286 : P_X0_ask_286 l Z L n) (ih_X0_ask_312 : P_X0_ask_312 l Z L n) (ih_X0_ask_331 : P_X0_ask_331 l Z L n) (ih_X0_ask_355 : P_X0_ask_355 l Z L n) : P_X0_ask_0 l Z L (n + 1) := by
  intro d S a1 a2 a3 a4 x S1 H
  have H : b_X0_ask_0 n d (f_X0_ask n) S a1 a2 a3 a4 = some (x, S1) := H
  unfold b_X0_ask_0 at H
  refine GA.aload_n dX0_ask_0 rfl ?_
  refine GA.dup dX0_ask_1 rfl ?_
  obtain ⟨x1, hx2, H⟩ := gv_e H
  refine GV.getI hx2 xf_X0_78 dX0_ask_2 gs_487 (by decide) rfl ?_
  refine GA.iconst dX0_ask_5 ?_
  obtain ⟨x3, hx4, H⟩ := gv_e H
  refine GV.iadd hx4 dX0_ask_6 ?_
  obtain ⟨S_5, hx6, H⟩ := gv_e H
  refine GV.putI hx6 (xp_X0_78 _) dX0_ask_7 gs_487 (by decide) (Nat.le_of_ble_eq_true rfl) gs_487 ?_
  refine GA.aload_n dX0_ask_10 rfl ?_
  refine GA.aload_n dX0_ask_11 rfl ?_
  obtain ⟨x7, hx8, H⟩ := gv_e H
  refine GV.getB hx8 xf_X0_68 dX0_ask_12 gs_487 (by decide) rfl ?_
  obtain ⟨hg9, H⟩ := gg_e H
  refine GV.if_ne (tgt := 37) hg9 dX0_ask_15 (by decide) (fun c10 => ?_) (fun c10 => ?_)
  · have H := it_t H c10
    refine GA.iconst dX0_ask_37 ?_
    refine GA.goto (tgt := 42) dX0_ask_38 (by decide) ?_
    refine GA.locals [(0, .ref (L 487)), (1, .int (J a1)), (2, .int (J a2)), (3, .int (J a3)), (4, .int (J a4))] ⟨rfl, rfl, rfl, rfl, rfl, trivial⟩ ?_
    exact ih_X0_ask_42 _ _ (a1) (a2) (a3) (a4) (1) _ _ H
  · have H := it_f H c10
    refine GA.aload_n dX0_ask_18 rfl ?_
    obtain ⟨x11, hx12, H⟩ := gv_e H
    refine GV.getI hx12 xf_X0_78 dX0_ask_19 gs_487 (by decide) rfl ?_
    refine GA.aload_n dX0_ask_22 rfl ?_
    obtain ⟨x13, hx14, H⟩ := gv_e H
    refine GV.getI hx14 xf_X0_75 dX0_ask_23 gs_487 (by decide) rfl ?_
    obtain ⟨hg15, H⟩ := gg_e H
    obtain ⟨hg16, H⟩ := gg_e H
    refine GV.icmp_gt (tgt := 37) hg15 hg16 dX0_ask_26 (by decide) (fun c17 => ?_) (fun c17 => ?_)
    · have H := it_t H c17
      refine GA.iconst dX0_ask_37 ?_
      refine GA.goto (tgt := 42) dX0_ask_38 (by decide) ?_
      refine GA.locals [(0, .ref (L 487)), (1, .int (J a1)), (2, .int (J a2)), (3, .int (J a3)), (4, .int (J a4))] ⟨rfl, rfl, rfl, rfl, rfl, trivial⟩ ?_
      exact ih_X0_ask_42 _ _ (a1) (a2) (a3) (a4) (1) _ _ H
    · have H := it_f H c17
      refine GA.iload dX0_ask_29 rfl ?_
      refine GA.sipush dX0_ask_31 rfl ?_
      obtain ⟨hg18, H⟩ := gg_e H
      refine GV.icmp_le (tgt := 41) hg18 (by decide) dX0_ask_34 (by decide) (fun c19 => ?_) (fun c19 => ?_)
      · have H := it_t H c19
        refine GA.iconst dX0_ask_41 ?_
        refine GA.locals [(0, .ref (L 487)), (1, .int (J a1)), (2, .int (J a2)), (3, .int (J a3)), (4, .int (J a4))] ⟨rfl, rfl, rfl, rfl, rfl, trivial⟩ ?_
        exact ih_X0_ask_42 _ _ (a1) (a2) (a3) (a4) (0) _ _ H
      · have H := it_f H c19
        refine GA.iconst dX0_ask_37 ?_
        refine GA.goto (tgt := 42) dX0_ask_38 (by decide) ?_
        refine GA.locals [(0, .ref (L 487)), (1, .int (J a1)), (2, .int (J a2)), (3, .int (J a3)), (4, .int (J a4))] ⟨rfl, rfl, rfl, rfl, rfl, trivial⟩ ?_
        exact ih_X0_ask_42 _ _ (a1) (a2) (a3) (a4) (1) _ _ H
set_option maxHeartbeats 4000000 in
set_option maxRecDepth 20000 in
theorem t_X0_ask_42 {l : Launch} {Z : XZ} {L : Nat → Nat} (n : Nat) (ih_X0_ask_0 : P_X0_ask_0 l Z L n) (ih_X0_ask_42 : P_X0_ask_42 l Z L n) (ih_X0_ask_97 : P_X0_ask_97 l Z L n) (ih_X0_ask_139 : P_X0_ask_139 l Z L n) (ih_X0_ask_167 : P_X0_ask_167 l Z L n) (ih_X0_ask_193 : P_X0_ask_193 l Z L n) (ih_X0_ask_248 : P_X0_ask_248 l Z L n) (ih_X0_ask_286 : P_X0_ask_286 l Z L n) (ih_X0_ask_312 : P_X0_ask_312 l Z L n) (ih_X0_ask_331 : P_X0_ask_331 l Z L n) (ih_X0_ask_355 : P_X0_ask_355 l Z L n) : P_X0_ask_42 l Z L (n + 1) := by
  intro d S a1 a2 a3 a4 s0 x S1 H
  have H : b_X0_ask_42 n d (f_X0_ask n) S a1 a2 a3 a4 s0 = some (x, S1) := H
  unfold b_X0_ask_42 at H
  obtain ⟨hg1, H⟩ := gg_e H
  obtain ⟨S_2, hx3, H⟩ := gv_e H
  refine GV.putB hg1 hx3 (xp_X0_68 (xb_01 _)) dX0_ask_42 gs_487 (by decide) (Nat.le_of_ble_eq_true rfl) gs_487 ?_
  refine GA.aload_n dX0_ask_45 rfl ?_
  obtain ⟨x4, hx5, H⟩ := gv_e H
  refine GV.getB hx5 xf_X0_68 dX0_ask_46 gs_487 (by decide) rfl ?_
  obtain ⟨hg6, H⟩ := gg_e H
  refine GV.if_eq (tgt := 54) hg6 dX0_ask_49 (by decide) (fun c7 => ?_) (fun c7 => ?_)
  · have H := it_t H c7
    refine GA.aload_n dX0_ask_54 rfl ?_
    obtain ⟨z8, hx9, H⟩ := gv_e H
    refine GV.getR hx9 xf_X0_49 dX0_ask_55 gs_487 (by decide) rfl ?_
    refine GA.iload_n dX0_ask_58 rfl ?_
    refine GA.iconst dX0_ask_59 ?_
    obtain ⟨hg10, H⟩ := gg_e H
    obtain ⟨hg11, H⟩ := gg_e H
    obtain ⟨x12, S_13, hc14, H⟩ := gc_e H
    refine GA.callV (m_X10_is hc14) xs_X0_126 dX0_ask_60 (gsT hg11) (by omega) rfl rfl (by omega) (by decide) rfl (Nat.le_of_ble_eq_true rfl) (by omega) (by omega) rfl (fun E S9 hx => hx.elim) (fun v S9 hq => ?_)
    obtain ⟨rfl, rfl⟩ := hq
    obtain ⟨hg15, H⟩ := gg_e H
    refine GV.if_ne (tgt := 91) hg15 dX0_ask_63 (by decide) (fun c16 => ?_) (fun c16 => ?_)
    · have H := it_t H c16
      refine GA.iconst dX0_ask_91 ?_
      refine GA.istore dX0_ask_92 (by decide) ?_
      refine GA.iconst dX0_ask_94 ?_
      refine GA.istore dX0_ask_95 (by decide) ?_
      refine GA.locals [(0, .ref (L 487)), (1, .int (J a1)), (2, .int (J a2)), (3, .int (J a3)), (4, .int (J a4)), (5, .int (J 1)), (6, .int (J 1))] ⟨rfl, rfl, rfl, rfl, rfl, rfl, rfl, trivial⟩ ?_
      exact ih_X0_ask_97 _ _ (a1) (a2) (a3) (a4) (1) (1) _ _ H
    · have H := it_f H c16
      refine GA.aload_n dX0_ask_66 rfl ?_
      obtain ⟨z17, hx18, H⟩ := gv_e H
      refine GV.getR hx18 xf_X0_49 dX0_ask_67 gs_487 (by decide) rfl ?_
      refine GA.iload_n dX0_ask_70 rfl ?_
      obtain ⟨hg19, H⟩ := gg_e H
      obtain ⟨x20, S_21, hc22, H⟩ := gc_e H
      refine GA.callV (m_X10_isTrue hc22) xs_X0_130 dX0_ask_71 (gsT hg19) (by omega) rfl rfl (by omega) (by decide) rfl (Nat.le_of_ble_eq_true rfl) (by omega) (by omega) rfl (fun E S9 hx => hx.elim) (fun v S9 hq => ?_)
      obtain ⟨rfl, rfl⟩ := hq
      refine GA.istore dX0_ask_74 (by decide) ?_
      refine GA.iload dX0_ask_76 rfl ?_
      obtain ⟨hg23, H⟩ := gg_e H
      refine GV.if_ne (tgt := 88) hg23 dX0_ask_78 (by decide) (fun c24 => ?_) (fun c24 => ?_)
      · have H := it_t H c24
        refine GA.iload dX0_ask_88 rfl ?_
        obtain ⟨hg25, H⟩ := gg_e H
        cases H
        exact GV.zret hg25 rfl dX0_ask_90 (by omega) (by omega) ⟨rfl, rfl⟩
      · have H := it_f H c24
        refine GA.aload_n dX0_ask_81 rfl ?_
        refine GA.iload_n dX0_ask_82 rfl ?_
        refine GA.iconst dX0_ask_83 ?_
        refine GA.iload_n dX0_ask_84 rfl ?_
        obtain ⟨x26, S_27, hc28, H⟩ := gc_e H
        refine GA.callV (m_X0_complain hc28) xs_X0_134 dX0_ask_85 gs_487 (by decide) rfl rfl (by omega) (by decide) rfl (Nat.le_of_ble_eq_true rfl) (by omega) (by omega) rfl (fun E S9 hx => hx.elim) (fun v S9 hq => ?_)
        obtain ⟨rfl, rfl⟩ := hq
        refine GA.iload dX0_ask_88 rfl ?_
        obtain ⟨hg29, H⟩ := gg_e H
        cases H
        exact GV.zret hg29 rfl dX0_ask_90 (by omega) (by omega) ⟨rfl, rfl⟩
  · have H := it_f H c7
    refine GA.iconst dX0_ask_52 ?_
    cases H
    exact GV.zret (by decide) rfl dX0_ask_53 (by omega) (by omega) ⟨rfl, rfl⟩
set_option maxHeartbeats 4000000 in
set_option maxRecDepth 20000 in
theorem t_X0_ask_97 {l : Launch} {Z : XZ} {L : Nat → Nat} (n : Nat) (ih_X0_ask_0 : P_X0_ask_0 l Z L n) (ih_X0_ask_42 : P_X0_ask_42 l Z L n) (ih_X0_ask_97 : P_X0_ask_97 l Z L n) (ih_X0_ask_139 : P_X0_ask_139 l Z L n) (ih_X0_ask_167 : P_X0_ask_167 l Z L n) (ih_X0_ask_193 : P_X0_ask_193 l Z L n) (ih_X0_ask_248 : P_X0_ask_248 l Z L n) (ih_X0_ask_286 : P_X0_ask_286 l Z L n) (ih_X0_ask_312 : P_X0_ask_312 l Z L n) (ih_X0_ask_331 : P_X0_ask_331 l Z L n) (ih_X0_ask_355 : P_X0_ask_355 l Z L n) : P_X0_ask_97 l Z L (n + 1) := by
  intro d S a1 a2 a3 a4 a5 a6 x S1 H
  have H : b_X0_ask_97 n d (f_X0_ask n) S a1 a2 a3 a4 a5 a6 = some (x, S1) := H
  unfold b_X0_ask_97 at H
  refine GA.iload dX0_ask_97 rfl ?_
  refine GA.bipush dX0_ask_99 rfl ?_
  obtain ⟨hg1, H⟩ := gg_e H
  refine GV.icmp_gt (tgt := 385) hg1 (by decide) dX0_ask_101 (by decide) (fun c2 => ?_) (fun c2 => ?_)
  · have H := it_t H c2
    refine GA.iload dX0_ask_385 rfl ?_
    obtain ⟨hg3, H⟩ := gg_e H
    cases H
    exact GV.zret hg3 rfl dX0_ask_387 (by omega) (by omega) ⟨rfl, rfl⟩
  · have H := it_f H c2
    refine GA.aload_n dX0_ask_104 rfl ?_
    obtain ⟨z4, hx5, H⟩ := gv_e H
    refine GV.getR hx5 xf_X0_49 dX0_ask_105 gs_487 (by decide) rfl ?_
    refine GA.iload_n dX0_ask_108 rfl ?_
    refine GA.iload dX0_ask_109 rfl ?_
    obtain ⟨hg6, H⟩ := gg_e H
    obtain ⟨x7, S_8, hc9, H⟩ := gc_e H
    refine GA.callS (m_X0_wordOf hc9) xs_X0_138 dX0_ask_111 rfl (by omega) (by decide) rfl (Nat.le_of_ble_eq_true rfl) (by omega) (by omega) rfl (fun E S9 hx => hx.elim) (fun v S9 hq => ?_)
    obtain ⟨rfl, rfl⟩ := hq
    obtain ⟨hg10, H⟩ := gg_e H
    obtain ⟨x11, S_12, hc13, H⟩ := gc_e H
    refine GA.callV (m_X10_valueNamed hc13) xs_X0_142 dX0_ask_114 (gsT hg10) (by omega) rfl rfl (by omega) (by decide) rfl (Nat.le_of_ble_eq_true rfl) (by omega) (by omega) rfl (fun E S9 hx => hx.elim) (fun v S9 hq => ?_)
    obtain ⟨rfl, rfl⟩ := hq
    refine GA.istore dX0_ask_117 (by decide) ?_
    refine GA.iload dX0_ask_119 rfl ?_
    refine GA.iconst dX0_ask_121 ?_
    obtain ⟨hg14, H⟩ := gg_e H
    refine GV.icmp_eq (tgt := 167) hg14 (by decide) dX0_ask_122 (by decide) (fun c15 => ?_) (fun c15 => ?_)
    · have H := it_t H c15
      refine GA.locals [(0, .ref (L 487)), (1, .int (J a1)), (2, .int (J a2)), (3, .int (J a3)), (4, .int (J a4)), (5, .int (J a5)), (6, .int (J a6)), (7, .int (J x11))] ⟨rfl, rfl, rfl, rfl, rfl, rfl, rfl, rfl, trivial⟩ ?_
      exact ih_X0_ask_167 _ _ (a1) (a2) (a3) (a4) (a5) (a6) (x11) _ _ H
    · have H := it_f H c15
      refine GA.iload dX0_ask_125 rfl ?_
      refine GA.bipush dX0_ask_127 rfl ?_
      refine GV.icmp_le (tgt := 139) hg1 (by decide) dX0_ask_129 (by decide) (fun c16 => ?_) (fun c16 => ?_)
      · have H := it_t H c16
        refine GA.locals [(0, .ref (L 487)), (1, .int (J a1)), (2, .int (J a2)), (3, .int (J a3)), (4, .int (J a4)), (5, .int (J a5)), (6, .int (J a6)), (7, .int (J x11))] ⟨rfl, rfl, rfl, rfl, rfl, rfl, rfl, rfl, trivial⟩ ?_
        exact ih_X0_ask_139 _ _ (a1) (a2) (a3) (a4) (a5) (a6) (x11) _ _ H
      · have H := it_f H c16
        refine GA.iload dX0_ask_132 rfl ?_
        refine GA.bipush dX0_ask_134 rfl ?_
        refine GV.icmp_ne (tgt := 167) hg1 (by decide) dX0_ask_136 (by decide) (fun c17 => ?_) (fun c17 => ?_)
        · have H := it_t H c17
          refine GA.locals [(0, .ref (L 487)), (1, .int (J a1)), (2, .int (J a2)), (3, .int (J a3)), (4, .int (J a4)), (5, .int (J a5)), (6, .int (J a6)), (7, .int (J x11))] ⟨rfl, rfl, rfl, rfl, rfl, rfl, rfl, rfl, trivial⟩ ?_
          exact ih_X0_ask_167 _ _ (a1) (a2) (a3) (a4) (a5) (a6) (x11) _ _ H
        · have H := it_f H c17
          refine GA.locals [(0, .ref (L 487)), (1, .int (J a1)), (2, .int (J a2)), (3, .int (J a3)), (4, .int (J a4)), (5, .int (J a5)), (6, .int (J a6)), (7, .int (J x11))] ⟨rfl, rfl, rfl, rfl, rfl, rfl, rfl, rfl, trivial⟩ ?_
          exact ih_X0_ask_139 _ _ (a1) (a2) (a3) (a4) (a5) (a6) (x11) _ _ H
set_option maxHeartbeats 4000000 in
set_option maxRecDepth 20000 in
theorem t_X0_ask_139 {l : Launch} {Z : XZ} {L : Nat → Nat} (n : Nat) (ih_X0_ask_0 : P_X0_ask_0 l Z L n) (ih_X0_ask_42 : P_X0_ask_42 l Z L n) (ih_X0_ask_97 : P_X0_ask_97 l Z L n) (ih_X0_ask_139 : P_X0_ask_139 l Z L n) (ih_X0_ask_167 : P_X0_ask_167 l Z L n) (ih_X0_ask_193 : P_X0_ask_193 l Z L n) (ih_X0_ask_248 : P_X0_ask_248 l Z L n) (ih_X0_ask_286 : P_X0_ask_286 l Z L n) (ih_X0_ask_312 : P_X0_ask_312 l Z L n) (ih_X0_ask_331 : P_X0_ask_331 l Z L n) (ih_X0_ask_355 : P_X0_ask_355 l Z L n) : P_X0_ask_139 l Z L (n + 1) := by
  intro d S a1 a2 a3 a4 a5 a6 a7 x S1 H
  have H : b_X0_ask_139 n d (f_X0_ask n) S a1 a2 a3 a4 a5 a6 a7 = some (x, S1) := H
  unfold b_X0_ask_139 at H
  refine GA.aload_n dX0_ask_139 rfl ?_
  refine GA.iload dX0_ask_140 rfl ?_
  refine GA.iload dX0_ask_142 rfl ?_
  refine GA.iload_n dX0_ask_144 rfl ?_
  refine GA.iload_n dX0_ask_145 rfl ?_
  obtain ⟨hg1, H⟩ := gg_e H
  obtain ⟨x2, S_3, hc4, H⟩ := gc_e H
  refine GA.callV (m_X0_plainly hc4) xs_X0_146 dX0_ask_146 gs_487 (by decide) rfl rfl (by omega) (by decide) rfl (Nat.le_of_ble_eq_true rfl) (by omega) (by omega) rfl (fun E S9 hx => hx.elim) (fun v S9 hq => ?_)
  obtain ⟨rfl, rfl⟩ := hq
  obtain ⟨hg5, H⟩ := gg_e H
  refine GV.if_eq (tgt := 161) hg5 dX0_ask_149 (by decide) (fun c6 => ?_) (fun c6 => ?_)
  · have H := it_t H c6
    refine GA.iconst dX0_ask_161 ?_
    refine GA.istore dX0_ask_162 (by decide) ?_
    refine GA.goto (tgt := 379) dX0_ask_164 (by decide) ?_
    obtain ⟨x7, hx8, H⟩ := gv_e H
    refine GV.iinc hx8 dX0_ask_379 rfl (by decide) ?_
    refine GA.goto (tgt := 97) dX0_ask_382 (by decide) ?_
    refine GA.locals [(0, .ref (L 487)), (1, .int (J a1)), (2, .int (J a2)), (3, .int (J a3)), (4, .int (J a4)), (5, .int (J 0)), (6, .int (J x7))] ⟨rfl, rfl, rfl, rfl, rfl, rfl, rfl, trivial⟩ ?_
    exact ih_X0_ask_97 _ _ (a1) (a2) (a3) (a4) (0) (x7) _ _ H
  · have H := it_f H c6
    refine GA.iload dX0_ask_152 rfl ?_
    obtain ⟨hg9, H⟩ := gg_e H
    refine GV.if_eq (tgt := 161) hg9 dX0_ask_154 (by decide) (fun c10 => ?_) (fun c10 => ?_)
    · have H := it_t H c10
      refine GA.iconst dX0_ask_161 ?_
      refine GA.istore dX0_ask_162 (by decide) ?_
      refine GA.goto (tgt := 379) dX0_ask_164 (by decide) ?_
      obtain ⟨x11, hx12, H⟩ := gv_e H
      refine GV.iinc hx12 dX0_ask_379 rfl (by decide) ?_
      refine GA.goto (tgt := 97) dX0_ask_382 (by decide) ?_
      refine GA.locals [(0, .ref (L 487)), (1, .int (J a1)), (2, .int (J a2)), (3, .int (J a3)), (4, .int (J a4)), (5, .int (J 0)), (6, .int (J x11))] ⟨rfl, rfl, rfl, rfl, rfl, rfl, rfl, trivial⟩ ?_
      exact ih_X0_ask_97 _ _ (a1) (a2) (a3) (a4) (0) (x11) _ _ H
    · have H := it_f H c10
      refine GA.iconst dX0_ask_157 ?_
      refine GA.goto (tgt := 162) dX0_ask_158 (by decide) ?_
      refine GA.istore dX0_ask_162 (by decide) ?_
      refine GA.goto (tgt := 379) dX0_ask_164 (by decide) ?_
      obtain ⟨x13, hx14, H⟩ := gv_e H
      refine GV.iinc hx14 dX0_ask_379 rfl (by decide) ?_
      refine GA.goto (tgt := 97) dX0_ask_382 (by decide) ?_
      refine GA.locals [(0, .ref (L 487)), (1, .int (J a1)), (2, .int (J a2)), (3, .int (J a3)), (4, .int (J a4)), (5, .int (J 1)), (6, .int (J x13))] ⟨rfl, rfl, rfl, rfl, rfl, rfl, rfl, trivial⟩ ?_
      exact ih_X0_ask_97 _ _ (a1) (a2) (a3) (a4) (1) (x13) _ _ H
set_option maxHeartbeats 4000000 in
set_option maxRecDepth 20000 in
theorem t_X0_ask_167 {l : Launch} {Z : XZ} {L : Nat → Nat} (n : Nat) (ih_X0_ask_0 : P_X0_ask_0 l Z L n) (ih_X0_ask_42 : P_X0_ask_42 l Z L n) (ih_X0_ask_97 : P_X0_ask_97 l Z L n) (ih_X0_ask_139 : P_X0_ask_139 l Z L n) (ih_X0_ask_167 : P_X0_ask_167 l Z L n) (ih_X0_ask_193 : P_X0_ask_193 l Z L n) (ih_X0_ask_248 : P_X0_ask_248 l Z L n) (ih_X0_ask_286 : P_X0_ask_286 l Z L n) (ih_X0_ask_312 : P_X0_ask_312 l Z L n) (ih_X0_ask_331 : P_X0_ask_331 l Z L n) (ih_X0_ask_355 : P_X0_ask_355 l Z L n) : P_X0_ask_167 l Z L (n + 1) := by
  intro d S a1 a2 a3 a4 a5 a6 a7 x S1 H
  have H : b_X0_ask_167 n d (f_X0_ask n) S a1 a2 a3 a4 a5 a6 a7 = some (x, S1) := H
  unfold b_X0_ask_167 at H
  refine GA.iload dX0_ask_167 rfl ?_
  refine GA.iconst dX0_ask_169 ?_
  obtain ⟨hg1, H⟩ := gg_e H
  refine GV.icmp_eq (tgt := 379) hg1 (by decide) dX0_ask_170 (by decide) (fun c2 => ?_) (fun c2 => ?_)
  · have H := it_t H c2
    obtain ⟨x3, hx4, H⟩ := gv_e H
    refine GV.iinc hx4 dX0_ask_379 rfl (by decide) ?_
    refine GA.goto (tgt := 97) dX0_ask_382 (by decide) ?_
    refine GA.locals [(0, .ref (L 487)), (1, .int (J a1)), (2, .int (J a2)), (3, .int (J a3)), (4, .int (J a4)), (5, .int (J a5)), (6, .int (J x3))] ⟨rfl, rfl, rfl, rfl, rfl, rfl, rfl, trivial⟩ ?_
    exact ih_X0_ask_97 _ _ (a1) (a2) (a3) (a4) (a5) (x3) _ _ H
  · have H := it_f H c2
    refine GA.iconst dX0_ask_173 ?_
    refine GA.istore dX0_ask_174 (by decide) ?_
    refine GA.iconst dX0_ask_176 ?_
    refine GA.istore dX0_ask_177 (by decide) ?_
    refine GA.aload_n dX0_ask_179 rfl ?_
    refine GA.iload dX0_ask_180 rfl ?_
    refine GA.iload dX0_ask_182 rfl ?_
    refine GA.iload_n dX0_ask_184 rfl ?_
    obtain ⟨hg5, H⟩ := gg_e H
    obtain ⟨x6, S_7, hc8, H⟩ := gc_e H
    refine GA.callV (m_X0_firstQuestion hc8) xs_X0_150 dX0_ask_185 gs_487 (by decide) rfl rfl (by omega) (by decide) rfl (Nat.le_of_ble_eq_true rfl) (by omega) (by omega) rfl (fun E S9 hx => hx.elim) (fun v S9 hq => ?_)
    obtain ⟨rfl, rfl⟩ := hq
    refine GA.istore dX0_ask_188 (by decide) ?_
    refine GA.iconst dX0_ask_190 ?_
    refine GA.istore dX0_ask_191 (by decide) ?_
    refine GA.locals [(0, .ref (L 487)), (1, .int (J a1)), (2, .int (J a2)), (3, .int (J a3)), (4, .int (J a4)), (5, .int (J a5)), (6, .int (J a6)), (7, .int (J a7)), (8, .int (J 0)), (9, .int (J 0)), (10, .int (J x6)), (11, .int (J 0))] ⟨rfl, rfl, rfl, rfl, rfl, rfl, rfl, rfl, rfl, rfl, rfl, rfl, trivial⟩ ?_
    exact ih_X0_ask_193 _ _ (a1) (a2) (a3) (a4) (a5) (a6) (a7) (0) (0) (x6) (0) _ _ H
set_option maxHeartbeats 4000000 in
set_option maxRecDepth 20000 in
theorem t_X0_ask_193 {l : Launch} {Z : XZ} {L : Nat → Nat} (n : Nat) (ih_X0_ask_0 : P_X0_ask_0 l Z L n) (ih_X0_ask_42 : P_X0_ask_42 l Z L n) (ih_X0_ask_97 : P_X0_ask_97 l Z L n) (ih_X0_ask_139 : P_X0_ask_139 l Z L n) (ih_X0_ask_167 : P_X0_ask_167 l Z L n) (ih_X0_ask_193 : P_X0_ask_193 l Z L n) (ih_X0_ask_248 : P_X0_ask_248 l Z L n) (ih_X0_ask_286 : P_X0_ask_286 l Z L n) (ih_X0_ask_312 : P_X0_ask_312 l Z L n) (ih_X0_ask_331 : P_X0_ask_331 l Z L n) (ih_X0_ask_355 : P_X0_ask_355 l Z L n) : P_X0_ask_193 l Z L (n + 1) := by
  intro d S a1 a2 a3 a4 a5 a6 a7 a8 a9 a10 a11 x S1 H
  have H : b_X0_ask_193 n d (f_X0_ask n) S a1 a2 a3 a4 a5 a6 a7 a8 a9 a10 a11 = some (x, S1) := H
  unfold b_X0_ask_193 at H
  refine GA.iload dX0_ask_193 rfl ?_
  refine GA.bipush dX0_ask_195 rfl ?_
  obtain ⟨hg1, H⟩ := gg_e H
  refine GV.icmp_ge (tgt := 331) hg1 (by decide) dX0_ask_197 (by decide) (fun c2 => ?_) (fun c2 => ?_)
  · have H := it_t H c2
    refine GA.locals [(0, .ref (L 487)), (1, .int (J a1)), (2, .int (J a2)), (3, .int (J a3)), (4, .int (J a4)), (5, .int (J a5)), (6, .int (J a6)), (8, .int (J a8)), (9, .int (J a9)), (10, .int (J a10))] ⟨rfl, rfl, rfl, rfl, rfl, rfl, rfl, rfl, rfl, rfl, trivial⟩ ?_
    exact ih_X0_ask_331 _ _ (a1) (a2) (a3) (a4) (a5) (a6) (a8) (a9) (a10) _ _ H
  · have H := it_f H c2
    refine GA.iload dX0_ask_200 rfl ?_
    obtain ⟨hg3, H⟩ := gg_e H
    refine GV.if_lt (tgt := 331) hg3 dX0_ask_202 (by decide) (fun c4 => ?_) (fun c4 => ?_)
    · have H := it_t H c4
      refine GA.locals [(0, .ref (L 487)), (1, .int (J a1)), (2, .int (J a2)), (3, .int (J a3)), (4, .int (J a4)), (5, .int (J a5)), (6, .int (J a6)), (8, .int (J a8)), (9, .int (J a9)), (10, .int (J a10))] ⟨rfl, rfl, rfl, rfl, rfl, rfl, rfl, rfl, rfl, rfl, trivial⟩ ?_
      exact ih_X0_ask_331 _ _ (a1) (a2) (a3) (a4) (a5) (a6) (a8) (a9) (a10) _ _ H
    · have H := it_f H c4
      refine GA.aload_n dX0_ask_205 rfl ?_
      obtain ⟨x5, hx6, H⟩ := gv_e H
      refine GV.getB hx6 xf_X0_68 dX0_ask_206 gs_487 (by decide) rfl ?_
      obtain ⟨hg7, H⟩ := gg_e H
      refine GV.if_ne (tgt := 331) hg7 dX0_ask_209 (by decide) (fun c8 => ?_) (fun c8 => ?_)
      · have H := it_t H c8
        refine GA.locals [(0, .ref (L 487)), (1, .int (J a1)), (2, .int (J a2)), (3, .int (J a3)), (4, .int (J a4)), (5, .int (J a5)), (6, .int (J a6)), (8, .int (J a8)), (9, .int (J a9)), (10, .int (J a10))] ⟨rfl, rfl, rfl, rfl, rfl, rfl, rfl, rfl, rfl, rfl, trivial⟩ ?_
        exact ih_X0_ask_331 _ _ (a1) (a2) (a3) (a4) (a5) (a6) (a8) (a9) (a10) _ _ H
      · have H := it_f H c8
        refine GA.aload_n dX0_ask_212 rfl ?_
        refine GA.iload dX0_ask_213 rfl ?_
        refine GA.iload_n dX0_ask_215 rfl ?_
        refine GA.iload dX0_ask_216 rfl ?_
        refine GA.iload dX0_ask_218 rfl ?_
        obtain ⟨hg9, H⟩ := gg_e H
        obtain ⟨x10, S_11, hc12, H⟩ := gc_e H
        refine GA.callV (m_X0_schemaOf hc12) xs_X0_154 dX0_ask_220 gs_487 (by decide) rfl rfl (by omega) (by decide) rfl (Nat.le_of_ble_eq_true rfl) (by omega) (by omega) rfl (fun E S9 hx => hx.elim) (fun v S9 hq => ?_)
        obtain ⟨rfl, rfl⟩ := hq
        refine GA.istore dX0_ask_223 (by decide) ?_
        refine GA.iload_n dX0_ask_225 rfl ?_
        obtain ⟨hg13, H⟩ := gg_e H
        refine GV.if_ne (tgt := 243) hg13 dX0_ask_226 (by decide) (fun c14 => ?_) (fun c14 => ?_)
        · have H := it_t H c14
          refine GA.iconst dX0_ask_243 ?_
          refine GA.goto (tgt := 248) dX0_ask_244 (by decide) ?_
          refine GA.locals [(0, .ref (L 487)), (1, .int (J a1)), (2, .int (J a2)), (3, .int (J a3)), (4, .int (J a4)), (5, .int (J a5)), (6, .int (J a6)), (7, .int (J a7)), (8, .int (J a8)), (9, .int (J a9)), (10, .int (J a10)), (11, .int (J a11)), (12, .int (J x10))] ⟨rfl, rfl, rfl, rfl, rfl, rfl, rfl, rfl, rfl, rfl, rfl, rfl, rfl, trivial⟩ ?_
          exact ih_X0_ask_248 _ _ (a1) (a2) (a3) (a4) (a5) (a6) (a7) (a8) (a9) (a10) (a11) (x10) (1) _ _ H
        · have H := it_f H c14
          refine GA.iload dX0_ask_229 rfl ?_
          refine GA.bipush dX0_ask_231 rfl ?_
          obtain ⟨hg15, H⟩ := gg_e H
          refine GV.icmp_lt (tgt := 247) hg15 (by decide) dX0_ask_233 (by decide) (fun c16 => ?_) (fun c16 => ?_)
          · have H := it_t H c16
            refine GA.iconst dX0_ask_247 ?_
            refine GA.locals [(0, .ref (L 487)), (1, .int (J a1)), (2, .int (J a2)), (3, .int (J a3)), (4, .int (J a4)), (5, .int (J a5)), (6, .int (J a6)), (7, .int (J a7)), (8, .int (J a8)), (9, .int (J a9)), (10, .int (J a10)), (11, .int (J a11)), (12, .int (J x10))] ⟨rfl, rfl, rfl, rfl, rfl, rfl, rfl, rfl, rfl, rfl, rfl, rfl, rfl, trivial⟩ ?_
            exact ih_X0_ask_248 _ _ (a1) (a2) (a3) (a4) (a5) (a6) (a7) (a8) (a9) (a10) (a11) (x10) (0) _ _ H
          · have H := it_f H c16
            refine GA.iload dX0_ask_236 rfl ?_
            refine GA.bipush dX0_ask_238 rfl ?_
            refine GV.icmp_gt (tgt := 247) hg15 (by decide) dX0_ask_240 (by decide) (fun c17 => ?_) (fun c17 => ?_)
            · have H := it_t H c17
              refine GA.iconst dX0_ask_247 ?_
              refine GA.locals [(0, .ref (L 487)), (1, .int (J a1)), (2, .int (J a2)), (3, .int (J a3)), (4, .int (J a4)), (5, .int (J a5)), (6, .int (J a6)), (7, .int (J a7)), (8, .int (J a8)), (9, .int (J a9)), (10, .int (J a10)), (11, .int (J a11)), (12, .int (J x10))] ⟨rfl, rfl, rfl, rfl, rfl, rfl, rfl, rfl, rfl, rfl, rfl, rfl, rfl, trivial⟩ ?_
              exact ih_X0_ask_248 _ _ (a1) (a2) (a3) (a4) (a5) (a6) (a7) (a8) (a9) (a10) (a11) (x10) (0) _ _ H
            · have H := it_f H c17
              refine GA.iconst dX0_ask_243 ?_
              refine GA.goto (tgt := 248) dX0_ask_244 (by decide) ?_
              refine GA.locals [(0, .ref (L 487)), (1, .int (J a1)), (2, .int (J a2)), (3, .int (J a3)), (4, .int (J a4)), (5, .int (J a5)), (6, .int (J a6)), (7, .int (J a7)), (8, .int (J a8)), (9, .int (J a9)), (10, .int (J a10)), (11, .int (J a11)), (12, .int (J x10))] ⟨rfl, rfl, rfl, rfl, rfl, rfl, rfl, rfl, rfl, rfl, rfl, rfl, rfl, trivial⟩ ?_
              exact ih_X0_ask_248 _ _ (a1) (a2) (a3) (a4) (a5) (a6) (a7) (a8) (a9) (a10) (a11) (x10) (1) _ _ H
set_option maxHeartbeats 4000000 in
set_option maxRecDepth 20000 in
theorem t_X0_ask_248 {l : Launch} {Z : XZ} {L : Nat → Nat} (n : Nat) (ih_X0_ask_0 : P_X0_ask_0 l Z L n) (ih_X0_ask_42 : P_X0_ask_42 l Z L n) (ih_X0_ask_97 : P_X0_ask_97 l Z L n) (ih_X0_ask_139 : P_X0_ask_139 l Z L n) (ih_X0_ask_167 : P_X0_ask_167 l Z L n) (ih_X0_ask_193 : P_X0_ask_193 l Z L n) (ih_X0_ask_248 : P_X0_ask_248 l Z L n) (ih_X0_ask_286 : P_X0_ask_286 l Z L n) (ih_X0_ask_312 : P_X0_ask_312 l Z L n) (ih_X0_ask_331 : P_X0_ask_331 l Z L n) (ih_X0_ask_355 : P_X0_ask_355 l Z L n) : P_X0_ask_248 l Z L (n + 1) := by
  intro d S a1 a2 a3 a4 a5 a6 a7 a8 a9 a10 a11 a12 s0 x S1 H
  have H : b_X0_ask_248 n d (f_X0_ask n) S a1 a2 a3 a4 a5 a6 a7 a8 a9 a10 a11 a12 s0 = some (x, S1) := H
  unfold b_X0_ask_248 at H
  refine GA.istore dX0_ask_248 (by decide) ?_
  refine GA.iload dX0_ask_250 rfl ?_
  refine GA.iconst dX0_ask_252 ?_
  obtain ⟨hg1, H⟩ := gg_e H
  refine GV.icmp_eq (tgt := 312) hg1 (by decide) dX0_ask_253 (by decide) (fun c2 => ?_) (fun c2 => ?_)
  · have H := it_t H c2
    refine GA.locals [(0, .ref (L 487)), (1, .int (J a1)), (2, .int (J a2)), (3, .int (J a3)), (4, .int (J a4)), (5, .int (J a5)), (6, .int (J a6)), (7, .int (J a7)), (8, .int (J a8)), (9, .int (J a9)), (10, .int (J a10)), (11, .int (J a11))] ⟨rfl, rfl, rfl, rfl, rfl, rfl, rfl, rfl, rfl, rfl, rfl, rfl, trivial⟩ ?_
    exact ih_X0_ask_312 _ _ (a1) (a2) (a3) (a4) (a5) (a6) (a7) (a8) (a9) (a10) (a11) _ _ H
  · have H := it_f H c2
    obtain ⟨x3, hx4, H⟩ := gv_e H
    refine GV.iinc hx4 dX0_ask_256 rfl (by decide) ?_
    refine GA.aload_n dX0_ask_259 rfl ?_
    refine GA.iload dX0_ask_260 rfl ?_
    refine GA.iload dX0_ask_262 rfl ?_
    refine GA.iload_n dX0_ask_264 rfl ?_
    obtain ⟨hg5, H⟩ := gg_e H
    obtain ⟨x6, S_7, hc8, H⟩ := gc_e H
    refine GA.callV (m_X0_openRef hc8) xs_X0_158 dX0_ask_265 gs_487 (by decide) rfl rfl (by omega) (by decide) rfl (Nat.le_of_ble_eq_true rfl) (by omega) (by omega) rfl (fun E S9 hx => hx.elim) (fun v S9 hq => ?_)
    obtain ⟨rfl, rfl⟩ := hq
    refine GA.iload dX0_ask_268 rfl ?_
    refine GA.aload_n dX0_ask_270 rfl ?_
    refine GA.iload dX0_ask_271 rfl ?_
    refine GA.iload dX0_ask_273 rfl ?_
    refine GA.bipush dX0_ask_275 rfl ?_
    obtain ⟨hg9, H⟩ := gg_e H
    refine GV.icmp_ge (tgt := 285) hg9 (by decide) dX0_ask_277 (by decide) (fun c10 => ?_) (fun c10 => ?_)
    · have H := it_t H c10
      refine GA.iload_n dX0_ask_285 rfl ?_
      refine GA.locals [(0, .ref (L 487)), (1, .int (J a1)), (2, .int (J a2)), (3, .int (J a3)), (4, .int (J a4)), (5, .int (J a5)), (6, .int (J a6)), (7, .int (J a7)), (8, .int (J x3)), (10, .int (J a10)), (11, .int (J a11)), (13, .int (J s0))] ⟨rfl, rfl, rfl, rfl, rfl, rfl, rfl, rfl, rfl, rfl, rfl, rfl, trivial⟩ ?_
      exact ih_X0_ask_286 _ _ (a1) (a2) (a3) (a4) (a5) (a6) (a7) (x3) (a10) (a11) (s0) (a2) (a12) (a9) _ _ H
    · have H := it_f H c10
      refine GA.iload dX0_ask_280 rfl ?_
      refine GA.goto (tgt := 286) dX0_ask_282 (by decide) ?_
      refine GA.locals [(0, .ref (L 487)), (1, .int (J a1)), (2, .int (J a2)), (3, .int (J a3)), (4, .int (J a4)), (5, .int (J a5)), (6, .int (J a6)), (7, .int (J a7)), (8, .int (J x3)), (10, .int (J a10)), (11, .int (J a11)), (13, .int (J s0))] ⟨rfl, rfl, rfl, rfl, rfl, rfl, rfl, rfl, rfl, rfl, rfl, rfl, trivial⟩ ?_
      exact ih_X0_ask_286 _ _ (a1) (a2) (a3) (a4) (a5) (a6) (a7) (x3) (a10) (a11) (s0) (a10) (a12) (a9) _ _ H
set_option maxHeartbeats 4000000 in
set_option maxRecDepth 20000 in
theorem t_X0_ask_286 {l : Launch} {Z : XZ} {L : Nat → Nat} (n : Nat) (ih_X0_ask_0 : P_X0_ask_0 l Z L n) (ih_X0_ask_42 : P_X0_ask_42 l Z L n) (ih_X0_ask_97 : P_X0_ask_97 l Z L n) (ih_X0_ask_139 : P_X0_ask_139 l Z L n) (ih_X0_ask_167 : P_X0_ask_167 l Z L n) (ih_X0_ask_193 : P_X0_ask_193 l Z L n) (ih_X0_ask_248 : P_X0_ask_248 l Z L n) (ih_X0_ask_286 : P_X0_ask_286 l Z L n) (ih_X0_ask_312 : P_X0_ask_312 l Z L n) (ih_X0_ask_331 : P_X0_ask_331 l Z L n) (ih_X0_ask_355 : P_X0_ask_355 l Z L n) : P_X0_ask_286 l Z L (n + 1) := by
  intro d S a1 a2 a3 a4 a5 a6 a7 a8 a10 a11 a13 s0 s1 s3 x S1 H
  have H : b_X0_ask_286 n d (f_X0_ask n) S a1 a2 a3 a4 a5 a6 a7 a8 a10 a11 a13 s0 s1 s3 = some (x, S1) := H
  unfold b_X0_ask_286 at H
  refine GA.iload dX0_ask_286 rfl ?_
  refine GA.iload dX0_ask_288 rfl ?_
  refine GA.iconst dX0_ask_290 ?_
  obtain ⟨x1, hx2, H⟩ := gv_e H
  refine GV.iadd hx2 dX0_ask_291 ?_
  obtain ⟨hg3, H⟩ := gg_e H
  obtain ⟨x4, S_5, hc6, H⟩ := gc_e H
  refine GA.callV (i_X0_ask ih_X0_ask_0 hc6) xs_X0_64 dX0_ask_292 gs_487 (by decide) rfl rfl (by omega) (by decide) rfl (Nat.le_of_ble_eq_true rfl) (by omega) (by omega) rfl (fun E S9 hx => hx.elim) (fun v S9 hq => ?_)
  obtain ⟨rfl, rfl⟩ := hq
  obtain ⟨hg7, H⟩ := gg_e H
  refine GV.if_eq (tgt := 302) hg7 dX0_ask_295 (by decide) (fun c8 => ?_) (fun c8 => ?_)
  · have H := it_t H c8
    refine GA.iconst dX0_ask_302 ?_
    obtain ⟨x9, hx10, H⟩ := gv_e H
    refine GV.iadd hx10 dX0_ask_303 ?_
    refine GA.istore dX0_ask_304 (by decide) ?_
    refine GA.aload_n dX0_ask_306 rfl ?_
    refine GA.iload dX0_ask_307 rfl ?_
    obtain ⟨x11, S_12, hc13, H⟩ := gc_e H
    refine GA.callV (m_X0_closeRef hc13) xs_X0_162 dX0_ask_309 gs_487 (by decide) rfl rfl (by omega) (by decide) rfl (Nat.le_of_ble_eq_true rfl) (by omega) (by omega) rfl (fun E S9 hx => hx.elim) (fun v S9 hq => ?_)
    obtain ⟨rfl, rfl⟩ := hq
    refine GA.locals [(0, .ref (L 487)), (1, .int (J a1)), (2, .int (J a2)), (3, .int (J a3)), (4, .int (J a4)), (5, .int (J a5)), (6, .int (J a6)), (7, .int (J a7)), (8, .int (J a8)), (9, .int (J x9)), (10, .int (J a10)), (11, .int (J a11))] ⟨rfl, rfl, rfl, rfl, rfl, rfl, rfl, rfl, rfl, rfl, rfl, rfl, trivial⟩ ?_
    exact ih_X0_ask_312 _ _ (a1) (a2) (a3) (a4) (a5) (a6) (a7) (a8) (x9) (a10) (a11) _ _ H
  · have H := it_f H c8
    refine GA.iconst dX0_ask_298 ?_
    refine GA.goto (tgt := 303) dX0_ask_299 (by decide) ?_
    obtain ⟨x14, hx15, H⟩ := gv_e H
    refine GV.iadd hx15 dX0_ask_303 ?_
    refine GA.istore dX0_ask_304 (by decide) ?_
    refine GA.aload_n dX0_ask_306 rfl ?_
    refine GA.iload dX0_ask_307 rfl ?_
    obtain ⟨x16, S_17, hc18, H⟩ := gc_e H
    refine GA.callV (m_X0_closeRef hc18) xs_X0_162 dX0_ask_309 gs_487 (by decide) rfl rfl (by omega) (by decide) rfl (Nat.le_of_ble_eq_true rfl) (by omega) (by omega) rfl (fun E S9 hx => hx.elim) (fun v S9 hq => ?_)
    obtain ⟨rfl, rfl⟩ := hq
    refine GA.locals [(0, .ref (L 487)), (1, .int (J a1)), (2, .int (J a2)), (3, .int (J a3)), (4, .int (J a4)), (5, .int (J a5)), (6, .int (J a6)), (7, .int (J a7)), (8, .int (J a8)), (9, .int (J x14)), (10, .int (J a10)), (11, .int (J a11))] ⟨rfl, rfl, rfl, rfl, rfl, rfl, rfl, rfl, rfl, rfl, rfl, rfl, trivial⟩ ?_
    exact ih_X0_ask_312 _ _ (a1) (a2) (a3) (a4) (a5) (a6) (a7) (a8) (x14) (a10) (a11) _ _ H
set_option maxHeartbeats 4000000 in
set_option maxRecDepth 20000 in
theorem t_X0_ask_312 {l : Launch} {Z : XZ} {L : Nat → Nat} (n : Nat) (ih_X0_ask_0 : P_X0_ask_0 l Z L n) (ih_X0_ask_42 : P_X0_ask_42 l Z L n) (ih_X0_ask_97 : P_X0_ask_97 l Z L n) (ih_X0_ask_139 : P_X0_ask_139 l Z L n) (ih_X0_ask_167 : P_X0_ask_167 l Z L n) (ih_X0_ask_193 : P_X0_ask_193 l Z L n) (ih_X0_ask_248 : P_X0_ask_248 l Z L n) (ih_X0_ask_286 : P_X0_ask_286 l Z L n) (ih_X0_ask_312 : P_X0_ask_312 l Z L n) (ih_X0_ask_331 : P_X0_ask_331 l Z L n) (ih_X0_ask_355 : P_X0_ask_355 l Z L n) : P_X0_ask_312 l Z L (n + 1) := by
  intro d S a1 a2 a3 a4 a5 a6 a7 a8 a9 a10 a11 x S1 H
  have H : b_X0_ask_312 n d (f_X0_ask n) S a1 a2 a3 a4 a5 a6 a7 a8 a9 a10 a11 = some (x, S1) := H
  unfold b_X0_ask_312 at H
  refine GA.aload_n dX0_ask_312 rfl ?_
  refine GA.iload dX0_ask_313 rfl ?_
  refine GA.iload dX0_ask_315 rfl ?_
  refine GA.iload_n dX0_ask_317 rfl ?_
  refine GA.iload dX0_ask_318 rfl ?_
  obtain ⟨hg1, H⟩ := gg_e H
  obtain ⟨x2, S_3, hc4, H⟩ := gc_e H
  refine GA.callV (m_X0_nextQuestion hc4) xs_X0_165 dX0_ask_320 gs_487 (by decide) rfl rfl (by omega) (by decide) rfl (Nat.le_of_ble_eq_true rfl) (by omega) (by omega) rfl (fun E S9 hx => hx.elim) (fun v S9 hq => ?_)
  obtain ⟨rfl, rfl⟩ := hq
  refine GA.istore dX0_ask_323 (by decide) ?_
  obtain ⟨x5, hx6, H⟩ := gv_e H
  refine GV.iinc hx6 dX0_ask_325 rfl (by decide) ?_
  refine GA.goto (tgt := 193) dX0_ask_328 (by decide) ?_
  refine GA.locals [(0, .ref (L 487)), (1, .int (J a1)), (2, .int (J a2)), (3, .int (J a3)), (4, .int (J a4)), (5, .int (J a5)), (6, .int (J a6)), (7, .int (J a7)), (8, .int (J a8)), (9, .int (J a9)), (10, .int (J x2)), (11, .int (J x5))] ⟨rfl, rfl, rfl, rfl, rfl, rfl, rfl, rfl, rfl, rfl, rfl, rfl, trivial⟩ ?_
  exact ih_X0_ask_193 _ _ (a1) (a2) (a3) (a4) (a5) (a6) (a7) (a8) (a9) (x2) (x5) _ _ H
set_option maxHeartbeats 4000000 in
set_option maxRecDepth 20000 in
theorem t_X0_ask_331 {l : Launch} {Z : XZ} {L : Nat → Nat} (n : Nat) (ih_X0_ask_0 : P_X0_ask_0 l Z L n) (ih_X0_ask_42 : P_X0_ask_42 l Z L n) (ih_X0_ask_97 : P_X0_ask_97 l Z L n) (ih_X0_ask_139 : P_X0_ask_139 l Z L n) (ih_X0_ask_167 : P_X0_ask_167 l Z L n) (ih_X0_ask_193 : P_X0_ask_193 l Z L n) (ih_X0_ask_248 : P_X0_ask_248 l Z L n) (ih_X0_ask_286 : P_X0_ask_286 l Z L n) (ih_X0_ask_312 : P_X0_ask_312 l Z L n) (ih_X0_ask_331 : P_X0_ask_331 l Z L n) (ih_X0_ask_355 : P_X0_ask_355 l Z L n) : P_X0_ask_331 l Z L (n + 1) := by
  intro d S a1 a2 a3 a4 a5 a6 a8 a9 a10 x S1 H
  have H : b_X0_ask_331 n d (f_X0_ask n) S a1 a2 a3 a4 a5 a6 a8 a9 a10 = some (x, S1) := H
  unfold b_X0_ask_331 at H
  refine GA.iload dX0_ask_331 rfl ?_
  refine GA.iload dX0_ask_333 rfl ?_
  refine GA.iload dX0_ask_335 rfl ?_
  refine GA.iload dX0_ask_337 rfl ?_
  obtain ⟨hg1, H⟩ := gg_e H
  obtain ⟨x2, S_3, hc4, H⟩ := gc_e H
  refine GA.callS (m_X0_holds hc4) xs_X0_168 dX0_ask_339 rfl (by omega) (by decide) rfl (Nat.le_of_ble_eq_true rfl) (by omega) (by omega) rfl (fun E S9 hx => hx.elim) (fun v S9 hq => ?_)
  obtain ⟨rfl, rfl⟩ := hq
  obtain ⟨hg5, H⟩ := gg_e H
  refine GV.if_eq (tgt := 354) hg5 dX0_ask_342 (by decide) (fun c6 => ?_) (fun c6 => ?_)
  · have H := it_t H c6
    refine GA.iconst dX0_ask_354 ?_
    refine GA.locals [(0, .ref (L 487)), (1, .int (J a1)), (2, .int (J a2)), (3, .int (J a3)), (4, .int (J a4)), (6, .int (J a6)), (8, .int (J a8)), (9, .int (J a9)), (10, .int (J a10))] ⟨rfl, rfl, rfl, rfl, rfl, rfl, rfl, rfl, rfl, trivial⟩ ?_
    exact ih_X0_ask_355 _ _ (a1) (a2) (a3) (a4) (a6) (a8) (a9) (a10) (0) _ _ H
  · have H := it_f H c6
    refine GA.iload dX0_ask_345 rfl ?_
    obtain ⟨hg7, H⟩ := gg_e H
    refine GV.if_eq (tgt := 354) hg7 dX0_ask_347 (by decide) (fun c8 => ?_) (fun c8 => ?_)
    · have H := it_t H c8
      refine GA.iconst dX0_ask_354 ?_
      refine GA.locals [(0, .ref (L 487)), (1, .int (J a1)), (2, .int (J a2)), (3, .int (J a3)), (4, .int (J a4)), (6, .int (J a6)), (8, .int (J a8)), (9, .int (J a9)), (10, .int (J a10))] ⟨rfl, rfl, rfl, rfl, rfl, rfl, rfl, rfl, rfl, trivial⟩ ?_
      exact ih_X0_ask_355 _ _ (a1) (a2) (a3) (a4) (a6) (a8) (a9) (a10) (0) _ _ H
    · have H := it_f H c8
      refine GA.iconst dX0_ask_350 ?_
      refine GA.goto (tgt := 355) dX0_ask_351 (by decide) ?_
      refine GA.locals [(0, .ref (L 487)), (1, .int (J a1)), (2, .int (J a2)), (3, .int (J a3)), (4, .int (J a4)), (6, .int (J a6)), (8, .int (J a8)), (9, .int (J a9)), (10, .int (J a10))] ⟨rfl, rfl, rfl, rfl, rfl, rfl, rfl, rfl, rfl, trivial⟩ ?_
      exact ih_X0_ask_355 _ _ (a1) (a2) (a3) (a4) (a6) (a8) (a9) (a10) (1) _ _ H
set_option maxHeartbeats 4000000 in
set_option maxRecDepth 20000 in
theorem t_X0_ask_355 {l : Launch} {Z : XZ} {L : Nat → Nat} (n : Nat) (ih_X0_ask_0 : P_X0_ask_0 l Z L n) (ih_X0_ask_42 : P_X0_ask_42 l Z L n) (ih_X0_ask_97 : P_X0_ask_97 l Z L n) (ih_X0_ask_139 : P_X0_ask_139 l Z L n) (ih_X0_ask_167 : P_X0_ask_167 l Z L n) (ih_X0_ask_193 : P_X0_ask_193 l Z L n) (ih_X0_ask_248 : P_X0_ask_248 l Z L n) (ih_X0_ask_286 : P_X0_ask_286 l Z L n) (ih_X0_ask_312 : P_X0_ask_312 l Z L n) (ih_X0_ask_331 : P_X0_ask_331 l Z L n) (ih_X0_ask_355 : P_X0_ask_355 l Z L n) : P_X0_ask_355 l Z L (n + 1) := by
  intro d S a1 a2 a3 a4 a6 a8 a9 a10 s0 x S1 H
  have H : b_X0_ask_355 n d (f_X0_ask n) S a1 a2 a3 a4 a6 a8 a9 a10 s0 = some (x, S1) := H
  unfold b_X0_ask_355 at H
  refine GA.istore dX0_ask_355 (by decide) ?_
  refine GA.iload dX0_ask_357 rfl ?_
  refine GA.iload dX0_ask_359 rfl ?_
  refine GA.iload dX0_ask_361 rfl ?_
  refine GA.iload dX0_ask_363 rfl ?_
  obtain ⟨hg1, H⟩ := gg_e H
  obtain ⟨x2, S_3, hc4, H⟩ := gc_e H
  refine GA.callS (m_X0_holdsItself hc4) xs_X0_172 dX0_ask_365 rfl (by omega) (by decide) rfl (Nat.le_of_ble_eq_true rfl) (by omega) (by omega) rfl (fun E S9 hx => hx.elim) (fun v S9 hq => ?_)
  obtain ⟨rfl, rfl⟩ := hq
  obtain ⟨hg5, H⟩ := gg_e H
  refine GV.if_ne (tgt := 379) hg5 dX0_ask_368 (by decide) (fun c6 => ?_) (fun c6 => ?_)
  · have H := it_t H c6
    obtain ⟨x7, hx8, H⟩ := gv_e H
    refine GV.iinc hx8 dX0_ask_379 rfl (by decide) ?_
    refine GA.goto (tgt := 97) dX0_ask_382 (by decide) ?_
    refine GA.locals [(0, .ref (L 487)), (1, .int (J a1)), (2, .int (J a2)), (3, .int (J a3)), (4, .int (J a4)), (5, .int (J s0)), (6, .int (J x7))] ⟨rfl, rfl, rfl, rfl, rfl, rfl, rfl, trivial⟩ ?_
    exact ih_X0_ask_97 _ _ (a1) (a2) (a3) (a4) (s0) (x7) _ _ H
  · have H := it_f H c6
    refine GA.aload_n dX0_ask_371 rfl ?_
    refine GA.iload_n dX0_ask_372 rfl ?_
    refine GA.iload dX0_ask_373 rfl ?_
    refine GA.iload_n dX0_ask_375 rfl ?_
    obtain ⟨x9, S_10, hc11, H⟩ := gc_e H
    refine GA.callV (m_X0_complain hc11) xs_X0_134 dX0_ask_376 gs_487 (by decide) rfl rfl (by omega) (by decide) rfl (Nat.le_of_ble_eq_true rfl) (by omega) (by omega) rfl (fun E S9 hx => hx.elim) (fun v S9 hq => ?_)
    obtain ⟨rfl, rfl⟩ := hq
    obtain ⟨x12, hx13, H⟩ := gv_e H
    refine GV.iinc hx13 dX0_ask_379 rfl (by decide) ?_
    refine GA.goto (tgt := 97) dX0_ask_382 (by decide) ?_
    refine GA.locals [(0, .ref (L 487)), (1, .int (J a1)), (2, .int (J a2)), (3, .int (J a3)), (4, .int (J a4)), (5, .int (J s0)), (6, .int (J x12))] ⟨rfl, rfl, rfl, rfl, rfl, rfl, rfl, trivial⟩ ?_
    exact ih_X0_ask_97 _ _ (a1) (a2) (a3) (a4) (s0) (x12) _ _ H
theorem g_X0_ask {l : Launch} {Z : XZ} {L : Nat → Nat} : ∀ n, P_X0_ask_0 l Z L n ∧ P_X0_ask_42 l Z L n ∧ P_X0_ask_97 l Z L n ∧ P_X0_ask_139 l Z L n ∧ P_X0_ask_167 l Z L n ∧ P_X0_ask_193 l Z L n ∧ P_X0_ask_248 l Z L n ∧ P_X0_ask_286 l Z L n ∧ P_X0_ask_312 l Z L n ∧ P_X0_ask_331 l Z L n ∧ P_X0_ask_355 l Z L n
  | 0 => ⟨fun _ _ _ _ _ _ _ _ H => no_e H, fun _ _ _ _ _ _ _ _ _ H => no_e H, fun _ _ _ _ _ _ _ _ _ _ H => no_e H, fun _ _ _ _ _ _ _ _ _ _ _ H => no_e H, fun _ _ _ _ _ _ _ _ _ _ _ H => no_e H, fun _ _ _ _ _ _ _ _ _ _ _ _ _ _ _ H => no_e H, fun _ _ _ _ _ _ _ _ _ _ _ _ _ _ _ _ _ H => no_e H, fun _ _ _ _ _ _ _ _ _ _ _ _ _ _ _ _ _ _ H => no_e H, fun _ _ _ _ _ _ _ _ _ _ _ _ _ _ _ H => no_e H, fun _ _ _ _ _ _ _ _ _ _ _ _ _ H => no_e H, fun _ _ _ _ _ _ _ _ _ _ _ _ _ H => no_e H⟩
  | n + 1 => have ⟨h0, h1, h2, h3, h4, h5, h6, h7, h8, h9, h10⟩ := g_X0_ask (l := l) (Z := Z) (L := L) n
    ⟨t_X0_ask_0 n h0 h1 h2 h3 h4 h5 h6 h7 h8 h9 h10, t_X0_ask_42 n h0 h1 h2 h3 h4 h5 h6 h7 h8 h9 h10, t_X0_ask_97 n h0 h1 h2 h3 h4 h5 h6 h7 h8 h9 h10, t_X0_ask_139 n h0 h1 h2 h3 h4 h5 h6 h7 h8 h9 h10, t_X0_ask_167 n h0 h1 h2 h3 h4 h5 h6 h7 h8 h9 h10, t_X0_ask_193 n h0 h1 h2 h3 h4 h5 h6 h7 h8 h9 h10, t_X0_ask_248 n h0 h1 h2 h3 h4 h5 h6 h7 h8 h9 h10, t_X0_ask_286 n h0 h1 h2 h3 h4 h5 h6 h7 h8 h9 h10, t_X0_ask_312 n h0 h1 h2 h3 h4 h5 h6 h7 h8 h9 h10, t_X0_ask_331 n h0 h1 h2 h3 h4 h5 h6 h7 h8 h9 h10, t_X0_ask_355 n h0 h1 h2 h3 h4 h5 h6 h7 h8 h9 h10⟩
theorem m_X0_ask {l : Launch} {Z : XZ} {L : Nat → Nat} {n d : Nat} {S : GS} {a1 : Int} {a2 : Int} {a3 : Int} {a4 : Int} {x : Int} {S1 : GS} (H : f_X0_ask n d 0 S [a1, a2, a3, a4] = some (x, S1)) : GM l Z L yX0_ask cX0_ask 14 (some .boolean) [] d 0 0 [.ref (L 487), .int (J a1), .int (J a2), .int (J a3), .int (J a4)] S (fun v S' => v = some (.int (J x)) ∧ S1 = S') (fun _ _ => False) := GM.of (by decide) (Nat.le_of_ble_eq_true rfl) ((g_X0_ask n).1 _ _ _ _ _ _ _ _ H)

def P_X0_agrees_0 (l : Launch) (Z : XZ) (L : Nat → Nat) (n : Nat) : Prop := ∀ (d : Nat) (S : GS) (a1 : Nat) (a2 : Nat) (x : Int) (S1 : GS), f_X0_agrees n d 0 S [((a1 : Nat) : Int), ((a2 : Nat) : Int)] = some (x, S1) → GA l Z L yX0_agrees cX0_agrees 3 (some .boolean) [] d 0 0 (fun v S' => v = some (.int (J x)) ∧ S1 = S') (fun _ _ => False) 0 (gl [(0, .ref (L 487)), (1, .ref (L a1)), (2, .ref (L a2))]) [] S 0 0
theorem i_X0_agrees {l : Launch} {Z : XZ} {L : Nat → Nat} {n : Nat} (ih : P_X0_agrees_0 l Z L n) {d : Nat} {S : GS} {a1 : Nat} {a2 : Nat} {x : Int} {S1 : GS} (H : f_X0_agrees n d 0 S [((a1 : Nat) : Int), ((a2 : Nat) : Int)] = some (x, S1)) : GM l Z L yX0_agrees cX0_agrees 3 (some .boolean) [] d 0 0 [.ref (L 487), .ref (L a1), .ref (L a2)] S (fun v S' => v = some (.int (J x)) ∧ S1 = S') (fun _ _ => False) := GM.of (by decide) (Nat.le_of_ble_eq_true rfl) (ih _ _ _ _ _ _ H)
set_option maxHeartbeats 4000000 in
set_option maxRecDepth 20000 in
theorem t_X0_agrees_0 {l : Launch} {Z : XZ} {L : Nat → Nat} (n : Nat) (ih_X0_agrees_0 : P_X0_agrees_0 l Z L n) : P_X0_agrees_0 l Z L (n + 1) := by
  intro d S a1 a2 x S1 H
  have H : b_X0_agrees_0 n d (f_X0_agrees n) S a1 a2 = some (x, S1) := H
  unfold b_X0_agrees_0 at H
  refine GA.aload_n dX0_agrees_0 rfl ?_
  refine GA.aload_n dX0_agrees_1 rfl ?_
  refine GA.aload_n dX0_agrees_2 rfl ?_
  refine GA.ldc (v := 1000000) xc_X0_59 dX0_agrees_3 ?_
  obtain ⟨hg1, H⟩ := gg_e H
  obtain ⟨x2, S_3, hc4, H⟩ := gc_e H
  refine GA.callV (m_X0_begin hc4) xs_X0_60 dX0_agrees_5 gs_487 (by decide) rfl rfl (by omega) (by decide) rfl (Nat.le_of_ble_eq_true rfl) (by omega) (by omega) rfl (fun E S9 hx => hx.elim) (fun v S9 hq => ?_)
  obtain ⟨rfl, rfl⟩ := hq
  refine GA.aload_n dX0_agrees_8 rfl ?_
  refine GA.iconst dX0_agrees_9 ?_
  refine GA.iconst dX0_agrees_10 ?_
  refine GA.iconst dX0_agrees_11 ?_
  refine GA.iconst dX0_agrees_12 ?_
  obtain ⟨x5, S_6, hc7, H⟩ := gc_e H
  refine GA.callV (m_X0_ask hc7) xs_X0_64 dX0_agrees_13 gs_487 (by decide) rfl rfl (by omega) (by decide) rfl (Nat.le_of_ble_eq_true rfl) (by omega) (by omega) rfl (fun E S9 hx => hx.elim) (fun v S9 hq => ?_)
  obtain ⟨rfl, rfl⟩ := hq
  obtain ⟨hg8, H⟩ := gg_e H
  refine GV.if_eq (tgt := 30) hg8 dX0_agrees_16 (by decide) (fun c9 => ?_) (fun c9 => ?_)
  · have H := it_t H c9
    refine GA.iconst dX0_agrees_30 ?_
    cases H
    exact GV.zret (by decide) rfl dX0_agrees_31 (by omega) (by omega) ⟨rfl, rfl⟩
  · have H := it_f H c9
    refine GA.aload_n dX0_agrees_19 rfl ?_
    obtain ⟨x10, hx11, H⟩ := gv_e H
    refine GV.getB hx11 xf_X0_68 dX0_agrees_20 gs_487 (by decide) rfl ?_
    obtain ⟨hg12, H⟩ := gg_e H
    refine GV.if_ne (tgt := 30) hg12 dX0_agrees_23 (by decide) (fun c13 => ?_) (fun c13 => ?_)
    · have H := it_t H c13
      refine GA.iconst dX0_agrees_30 ?_
      cases H
      exact GV.zret (by decide) rfl dX0_agrees_31 (by omega) (by omega) ⟨rfl, rfl⟩
    · have H := it_f H c13
      refine GA.iconst dX0_agrees_26 ?_
      refine GA.goto (tgt := 31) dX0_agrees_27 (by decide) ?_
      cases H
      exact GV.zret (by decide) rfl dX0_agrees_31 (by omega) (by omega) ⟨rfl, rfl⟩
theorem g_X0_agrees {l : Launch} {Z : XZ} {L : Nat → Nat} : ∀ n, P_X0_agrees_0 l Z L n
  | 0 => fun _ _ _ _ _ _ H => no_e H
  | n + 1 => t_X0_agrees_0 n (g_X0_agrees n)
theorem m_X0_agrees {l : Launch} {Z : XZ} {L : Nat → Nat} {n d : Nat} {S : GS} {a1 : Nat} {a2 : Nat} {x : Int} {S1 : GS} (H : f_X0_agrees n d 0 S [((a1 : Nat) : Int), ((a2 : Nat) : Int)] = some (x, S1)) : GM l Z L yX0_agrees cX0_agrees 3 (some .boolean) [] d 0 0 [.ref (L 487), .ref (L a1), .ref (L a2)] S (fun v S' => v = some (.int (J x)) ∧ S1 = S') (fun _ _ => False) := GM.of (by decide) (Nat.le_of_ble_eq_true rfl) ((g_X0_agrees n) _ _ _ _ _ _ H)

def P_X0_count_0 (l : Launch) (Z : XZ) (L : Nat → Nat) (n : Nat) : Prop := ∀ (d : Nat) (S : GS) (x : Int) (S1 : GS), f_X0_count n d 0 S [] = some (x, S1) → GA l Z L yX0_count cX0_count 1 (some .int) [] d 0 0 (fun v S' => v = some (.int (J x)) ∧ S1 = S') (fun _ _ => False) 0 (gl [(0, .ref (L 487))]) [] S 0 0
theorem i_X0_count {l : Launch} {Z : XZ} {L : Nat → Nat} {n : Nat} (ih : P_X0_count_0 l Z L n) {d : Nat} {S : GS} {x : Int} {S1 : GS} (H : f_X0_count n d 0 S [] = some (x, S1)) : GM l Z L yX0_count cX0_count 1 (some .int) [] d 0 0 [.ref (L 487)] S (fun v S' => v = some (.int (J x)) ∧ S1 = S') (fun _ _ => False) := GM.of (by decide) (Nat.le_of_ble_eq_true rfl) (ih _ _ _ _ H)
set_option maxHeartbeats 4000000 in
set_option maxRecDepth 20000 in
theorem t_X0_count_0 {l : Launch} {Z : XZ} {L : Nat → Nat} (n : Nat) (ih_X0_count_0 : P_X0_count_0 l Z L n) : P_X0_count_0 l Z L (n + 1) := by
  intro d S  x S1 H
  have H : b_X0_count_0 n d (f_X0_count n) S  = some (x, S1) := H
  unfold b_X0_count_0 at H
  refine GA.aload_n dX0_count_0 rfl ?_
  obtain ⟨x1, hx2, H⟩ := gv_e H
  refine GV.getI hx2 xf_X0_55 dX0_count_1 gs_487 (by decide) rfl ?_
  cases H
  exact GA.iret rfl dX0_count_4 (by omega) (by omega) ⟨rfl, rfl⟩
theorem g_X0_count {l : Launch} {Z : XZ} {L : Nat → Nat} : ∀ n, P_X0_count_0 l Z L n
  | 0 => fun _ _ _ _ H => no_e H
  | n + 1 => t_X0_count_0 n (g_X0_count n)
theorem m_X0_count {l : Launch} {Z : XZ} {L : Nat → Nat} {n d : Nat} {S : GS} {x : Int} {S1 : GS} (H : f_X0_count n d 0 S [] = some (x, S1)) : GM l Z L yX0_count cX0_count 1 (some .int) [] d 0 0 [.ref (L 487)] S (fun v S' => v = some (.int (J x)) ∧ S1 = S') (fun _ _ => False) := GM.of (by decide) (Nat.le_of_ble_eq_true rfl) ((g_X0_count n) _ _ _ _ H)

def P_X0_examine_0 (l : Launch) (Z : XZ) (L : Nat → Nat) (n : Nat) : Prop := ∀ (d : Nat) (S : GS) (a1 : Nat) (a2 : Nat) (x : Int) (S1 : GS), f_X0_examine n d 0 S [((a1 : Nat) : Int), ((a2 : Nat) : Int)] = some (x, S1) → GA l Z L yX0_examine cX0_examine 4 (some .boolean) [] d 0 0 (fun v S' => v = some (.int (J x)) ∧ S1 = S') (fun _ _ => False) 0 (gl [(0, .ref (L 487)), (1, .ref (L a1)), (2, .ref (L a2))]) [] S 0 0
def P_X0_examine_20 (l : Launch) (Z : XZ) (L : Nat → Nat) (n : Nat) : Prop := ∀ (d : Nat) (S : GS) (a3 : Int) (x : Int) (S1 : GS), f_X0_examine n d 20 S [a3] = some (x, S1) → GA l Z L yX0_examine cX0_examine 4 (some .boolean) [] d 0 0 (fun v S' => v = some (.int (J x)) ∧ S1 = S') (fun _ _ => False) 20 (gl [(0, .ref (L 487)), (3, .int (J a3))]) [] S 0 0
def P_X0_examine_79 (l : Launch) (Z : XZ) (L : Nat → Nat) (n : Nat) : Prop := ∀ (d : Nat) (S : GS) (x : Int) (S1 : GS), f_X0_examine n d 79 S [] = some (x, S1) → GA l Z L yX0_examine cX0_examine 4 (some .boolean) [] d 0 0 (fun v S' => v = some (.int (J x)) ∧ S1 = S') (fun _ _ => False) 79 (gl [(0, .ref (L 487))]) [] S 0 0
theorem i_X0_examine {l : Launch} {Z : XZ} {L : Nat → Nat} {n : Nat} (ih : P_X0_examine_0 l Z L n) {d : Nat} {S : GS} {a1 : Nat} {a2 : Nat} {x : Int} {S1 : GS} (H : f_X0_examine n d 0 S [((a1 : Nat) : Int), ((a2 : Nat) : Int)] = some (x, S1)) : GM l Z L yX0_examine cX0_examine 4 (some .boolean) [] d 0 0 [.ref (L 487), .ref (L a1), .ref (L a2)] S (fun v S' => v = some (.int (J x)) ∧ S1 = S') (fun _ _ => False) := GM.of (by decide) (Nat.le_of_ble_eq_true rfl) (ih _ _ _ _ _ _ H)
set_option maxHeartbeats 4000000 in
set_option maxRecDepth 20000 in
theorem t_X0_examine_0 {l : Launch} {Z : XZ} {L : Nat → Nat} (n : Nat) (ih_X0_examine_0 : P_X0_examine_0 l Z L n) (ih_X0_examine_20 : P_X0_examine_20 l Z L n) (ih_X0_examine_79 : P_X0_examine_79 l Z L n) : P_X0_examine_0 l Z L (n + 1) := by
  intro d S a1 a2 x S1 H
  have H : b_X0_examine_0 n d (f_X0_examine n) S a1 a2 = some (x, S1) := H
  unfold b_X0_examine_0 at H
  refine GA.aload_n dX0_examine_0 rfl ?_
  refine GA.aload_n dX0_examine_1 rfl ?_
  refine GA.aload_n dX0_examine_2 rfl ?_
  refine GA.sipush dX0_examine_3 rfl ?_
  obtain ⟨hg1, H⟩ := gg_e H
  obtain ⟨x2, S_3, hc4, H⟩ := gc_e H
  refine GA.callV (m_X0_begin hc4) xs_X0_60 dX0_examine_6 gs_487 (by decide) rfl rfl (by omega) (by decide) rfl (Nat.le_of_ble_eq_true rfl) (by omega) (by omega) rfl (fun E S9 hx => hx.elim) (fun v S9 hq => ?_)
  obtain ⟨rfl, rfl⟩ := hq
  refine GA.aload_n dX0_examine_9 rfl ?_
  refine GA.iconst dX0_examine_10 ?_
  refine GA.iconst dX0_examine_11 ?_
  refine GA.iconst dX0_examine_12 ?_
  refine GA.iconst dX0_examine_13 ?_
  obtain ⟨x5, S_6, hc7, H⟩ := gc_e H
  refine GA.callV (m_X0_ask hc7) xs_X0_64 dX0_examine_14 gs_487 (by decide) rfl rfl (by omega) (by decide) rfl (Nat.le_of_ble_eq_true rfl) (by omega) (by omega) rfl (fun E S9 hx => hx.elim) (fun v S9 hq => ?_)
  obtain ⟨rfl, rfl⟩ := hq
  refine GA.pop dX0_examine_17 rfl ?_
  refine GA.iconst dX0_examine_18 ?_
  refine GA.istore_n dX0_examine_19 (by decide) ?_
  refine GA.locals [(0, .ref (L 487)), (3, .int (J 0))] ⟨rfl, rfl, trivial⟩ ?_
  exact ih_X0_examine_20 _ _ (0) _ _ H
set_option maxHeartbeats 4000000 in
set_option maxRecDepth 20000 in
theorem t_X0_examine_20 {l : Launch} {Z : XZ} {L : Nat → Nat} (n : Nat) (ih_X0_examine_0 : P_X0_examine_0 l Z L n) (ih_X0_examine_20 : P_X0_examine_20 l Z L n) (ih_X0_examine_79 : P_X0_examine_79 l Z L n) : P_X0_examine_20 l Z L (n + 1) := by
  intro d S a3 x S1 H
  have H : b_X0_examine_20 n d (f_X0_examine n) S a3 = some (x, S1) := H
  unfold b_X0_examine_20 at H
  refine GA.iload_n dX0_examine_20 rfl ?_
  refine GA.aload_n dX0_examine_21 rfl ?_
  obtain ⟨x1, hx2, H⟩ := gv_e H
  refine GV.getI hx2 xf_X0_72 dX0_examine_22 gs_487 (by decide) rfl ?_
  obtain ⟨hg3, H⟩ := gg_e H
  obtain ⟨hg4, H⟩ := gg_e H
  refine GV.icmp_ge (tgt := 79) hg3 hg4 dX0_examine_25 (by decide) (fun c5 => ?_) (fun c5 => ?_)
  · have H := it_t H c5
    refine GA.locals [(0, .ref (L 487))] ⟨rfl, trivial⟩ ?_
    exact ih_X0_examine_79 _ _ _ _ H
  · have H := it_f H c5
    refine GA.iload_n dX0_examine_28 rfl ?_
    refine GA.sipush dX0_examine_29 rfl ?_
    refine GV.icmp_ge (tgt := 79) hg3 (by decide) dX0_examine_32 (by decide) (fun c6 => ?_) (fun c6 => ?_)
    · have H := it_t H c6
      refine GA.locals [(0, .ref (L 487))] ⟨rfl, trivial⟩ ?_
      exact ih_X0_examine_79 _ _ _ _ H
    · have H := it_f H c6
      refine GA.aload_n dX0_examine_35 rfl ?_
      obtain ⟨x7, hx8, H⟩ := gv_e H
      refine GV.getB hx8 xf_X0_68 dX0_examine_36 gs_487 (by decide) rfl ?_
      obtain ⟨hg9, H⟩ := gg_e H
      refine GV.if_ne (tgt := 79) hg9 dX0_examine_39 (by decide) (fun c10 => ?_) (fun c10 => ?_)
      · have H := it_t H c10
        refine GA.locals [(0, .ref (L 487))] ⟨rfl, trivial⟩ ?_
        exact ih_X0_examine_79 _ _ _ _ H
      · have H := it_f H c10
        refine GA.aload_n dX0_examine_42 rfl ?_
        refine GA.get xf_X0_43 dX0_examine_43 gs_487 (by decide) rfl ?_
        refine GA.iload_n dX0_examine_46 rfl ?_
        refine GA.aload_n dX0_examine_47 rfl ?_
        refine GA.get xf_X0_37 dX0_examine_48 gs_487 (by decide) rfl ?_
        refine GA.iload_n dX0_examine_51 rfl ?_
        obtain ⟨hg11, H⟩ := gg_e H
        obtain ⟨x12, hx13, H⟩ := gv_e H
        refine GV.iald hg11 hx13 dX0_examine_52 gs_490 (by decide) ?_
        obtain ⟨S_14, hx15, H⟩ := gv_e H
        refine GV.iast hg11 hx15 dX0_examine_53 (fun _ => gs_492) (by decide) ?_
        refine GA.aload_n dX0_examine_54 rfl ?_
        refine GA.get xf_X0_46 dX0_examine_55 gs_487 (by decide) rfl ?_
        refine GA.iload_n dX0_examine_58 rfl ?_
        refine GA.aload_n dX0_examine_59 rfl ?_
        refine GA.get xf_X0_40 dX0_examine_60 gs_487 (by decide) rfl ?_
        refine GA.iload_n dX0_examine_63 rfl ?_
        obtain ⟨x16, hx17, H⟩ := gv_e H
        refine GV.iald hg11 hx17 dX0_examine_64 gs_491 (by decide) ?_
        obtain ⟨S_18, hx19, H⟩ := gv_e H
        refine GV.iast hg11 hx19 dX0_examine_65 (fun _ => gs_493) (by decide) ?_
        refine GA.aload_n dX0_examine_66 rfl ?_
        refine GA.iload_n dX0_examine_67 rfl ?_
        refine GA.iconst dX0_examine_68 ?_
        obtain ⟨x20, hx21, H⟩ := gv_e H
        refine GV.iadd hx21 dX0_examine_69 ?_
        obtain ⟨S_22, hx23, H⟩ := gv_e H
        refine GV.putI hx23 (xp_X0_55 _) dX0_examine_70 gs_487 (by decide) (Nat.le_of_ble_eq_true rfl) gs_487 ?_
        obtain ⟨x24, hx25, H⟩ := gv_e H
        refine GV.iinc hx25 dX0_examine_73 rfl (by decide) ?_
        refine GA.goto (tgt := 20) dX0_examine_76 (by decide) ?_
        refine GA.locals [(0, .ref (L 487)), (3, .int (J x24))] ⟨rfl, rfl, trivial⟩ ?_
        exact ih_X0_examine_20 _ _ (x24) _ _ H
set_option maxHeartbeats 4000000 in
set_option maxRecDepth 20000 in
theorem t_X0_examine_79 {l : Launch} {Z : XZ} {L : Nat → Nat} (n : Nat) (ih_X0_examine_0 : P_X0_examine_0 l Z L n) (ih_X0_examine_20 : P_X0_examine_20 l Z L n) (ih_X0_examine_79 : P_X0_examine_79 l Z L n) : P_X0_examine_79 l Z L (n + 1) := by
  intro d S  x S1 H
  have H : b_X0_examine_79 n d (f_X0_examine n) S  = some (x, S1) := H
  unfold b_X0_examine_79 at H
  refine GA.aload_n dX0_examine_79 rfl ?_
  obtain ⟨x1, hx2, H⟩ := gv_e H
  refine GV.getI hx2 xf_X0_72 dX0_examine_80 gs_487 (by decide) rfl ?_
  obtain ⟨hg3, H⟩ := gg_e H
  refine GV.if_ne (tgt := 98) hg3 dX0_examine_83 (by decide) (fun c4 => ?_) (fun c4 => ?_)
  · have H := it_t H c4
    refine GA.aload_n dX0_examine_98 rfl ?_
    obtain ⟨x5, hx6, H⟩ := gv_e H
    refine GV.getB hx6 xf_X0_68 dX0_examine_99 gs_487 (by decide) rfl ?_
    obtain ⟨hg7, H⟩ := gg_e H
    refine GV.if_ne (tgt := 109) hg7 dX0_examine_102 (by decide) (fun c8 => ?_) (fun c8 => ?_)
    · have H := it_t H c8
      refine GA.iconst dX0_examine_109 ?_
      cases H
      exact GV.zret (by decide) rfl dX0_examine_110 (by omega) (by omega) ⟨rfl, rfl⟩
    · have H := it_f H c8
      refine GA.iconst dX0_examine_105 ?_
      refine GA.goto (tgt := 110) dX0_examine_106 (by decide) ?_
      cases H
      exact GV.zret (by decide) rfl dX0_examine_110 (by omega) (by omega) ⟨rfl, rfl⟩
  · have H := it_f H c4
    refine GA.aload_n dX0_examine_86 rfl ?_
    obtain ⟨x9, hx10, H⟩ := gv_e H
    refine GV.getB hx10 xf_X0_68 dX0_examine_87 gs_487 (by decide) rfl ?_
    obtain ⟨hg11, H⟩ := gg_e H
    refine GV.if_ne (tgt := 98) hg11 dX0_examine_90 (by decide) (fun c12 => ?_) (fun c12 => ?_)
    · have H := it_t H c12
      refine GA.aload_n dX0_examine_98 rfl ?_
      obtain ⟨x13, hx14, H⟩ := gv_e H
      refine GV.getB hx14 xf_X0_68 dX0_examine_99 gs_487 (by decide) rfl ?_
      obtain ⟨hg15, H⟩ := gg_e H
      refine GV.if_ne (tgt := 109) hg15 dX0_examine_102 (by decide) (fun c16 => ?_) (fun c16 => ?_)
      · have H := it_t H c16
        refine GA.iconst dX0_examine_109 ?_
        cases H
        exact GV.zret (by decide) rfl dX0_examine_110 (by omega) (by omega) ⟨rfl, rfl⟩
      · have H := it_f H c16
        refine GA.iconst dX0_examine_105 ?_
        refine GA.goto (tgt := 110) dX0_examine_106 (by decide) ?_
        cases H
        exact GV.zret (by decide) rfl dX0_examine_110 (by omega) (by omega) ⟨rfl, rfl⟩
    · have H := it_f H c12
      refine GA.aload_n dX0_examine_93 rfl ?_
      refine GA.iconst dX0_examine_94 ?_
      obtain ⟨S_17, hx18, H⟩ := gv_e H
      refine GV.putI hx18 (xp_X0_55 _) dX0_examine_95 gs_487 (by decide) (Nat.le_of_ble_eq_true rfl) gs_487 ?_
      refine GA.aload_n dX0_examine_98 rfl ?_
      obtain ⟨x19, hx20, H⟩ := gv_e H
      refine GV.getB hx20 xf_X0_68 dX0_examine_99 gs_487 (by decide) rfl ?_
      obtain ⟨hg21, H⟩ := gg_e H
      refine GV.if_ne (tgt := 109) hg21 dX0_examine_102 (by decide) (fun c22 => ?_) (fun c22 => ?_)
      · have H := it_t H c22
        refine GA.iconst dX0_examine_109 ?_
        cases H
        exact GV.zret (by decide) rfl dX0_examine_110 (by omega) (by omega) ⟨rfl, rfl⟩
      · have H := it_f H c22
        refine GA.iconst dX0_examine_105 ?_
        refine GA.goto (tgt := 110) dX0_examine_106 (by decide) ?_
        cases H
        exact GV.zret (by decide) rfl dX0_examine_110 (by omega) (by omega) ⟨rfl, rfl⟩
theorem g_X0_examine {l : Launch} {Z : XZ} {L : Nat → Nat} : ∀ n, P_X0_examine_0 l Z L n ∧ P_X0_examine_20 l Z L n ∧ P_X0_examine_79 l Z L n
  | 0 => ⟨fun _ _ _ _ _ _ H => no_e H, fun _ _ _ _ _ H => no_e H, fun _ _ _ _ H => no_e H⟩
  | n + 1 => have ⟨h0, h1, h2⟩ := g_X0_examine (l := l) (Z := Z) (L := L) n
    ⟨t_X0_examine_0 n h0 h1 h2, t_X0_examine_20 n h0 h1 h2, t_X0_examine_79 n h0 h1 h2⟩
theorem m_X0_examine {l : Launch} {Z : XZ} {L : Nat → Nat} {n d : Nat} {S : GS} {a1 : Nat} {a2 : Nat} {x : Int} {S1 : GS} (H : f_X0_examine n d 0 S [((a1 : Nat) : Int), ((a2 : Nat) : Int)] = some (x, S1)) : GM l Z L yX0_examine cX0_examine 4 (some .boolean) [] d 0 0 [.ref (L 487), .ref (L a1), .ref (L a2)] S (fun v S' => v = some (.int (J x)) ∧ S1 = S') (fun _ _ => False) := GM.of (by decide) (Nat.le_of_ble_eq_true rfl) ((g_X0_examine n).1 _ _ _ _ _ _ H)

def P_X3_begin_0 (l : Launch) (Z : XZ) (L : Nat → Nat) (n : Nat) : Prop := ∀ (d : Nat) (S : GS) (a1 : Int) (x : Int) (S1 : GS), f_X3_begin n d 0 S [a1] = some (x, S1) → GA l Z L yX3_begin cX3_begin 2 none [] d 0 0 (fun v S' => v = none ∧ S1 = S') (fun _ _ => False) 0 (gl [(0, .ref (L 494)), (1, .int (J a1))]) [] S 0 0
theorem i_X3_begin {l : Launch} {Z : XZ} {L : Nat → Nat} {n : Nat} (ih : P_X3_begin_0 l Z L n) {d : Nat} {S : GS} {a1 : Int} {x : Int} {S1 : GS} (H : f_X3_begin n d 0 S [a1] = some (x, S1)) : GM l Z L yX3_begin cX3_begin 2 none [] d 0 0 [.ref (L 494), .int (J a1)] S (fun v S' => v = none ∧ S1 = S') (fun _ _ => False) := GM.of (by decide) (Nat.le_of_ble_eq_true rfl) (ih _ _ _ _ _ H)
set_option maxHeartbeats 4000000 in
set_option maxRecDepth 20000 in
theorem t_X3_begin_0 {l : Launch} {Z : XZ} {L : Nat → Nat} (n : Nat) (ih_X3_begin_0 : P_X3_begin_0 l Z L n) : P_X3_begin_0 l Z L (n + 1) := by
  intro d S a1 x S1 H
  have H : b_X3_begin_0 n d (f_X3_begin n) S a1 = some (x, S1) := H
  unfold b_X3_begin_0 at H
  refine GA.aload_n dX3_begin_0 rfl ?_
  refine GA.iload_n dX3_begin_1 rfl ?_
  obtain ⟨S_1, hx2, H⟩ := gv_e H
  refine GV.putI hx2 (xp_X3_33 _) dX3_begin_2 gs_494 (by decide) (Nat.le_of_ble_eq_true rfl) gs_494 ?_
  refine GA.aload_n dX3_begin_5 rfl ?_
  refine GA.get xf_X3_12 dX3_begin_6 gs_494 (by decide) rfl ?_
  obtain ⟨hg3, H⟩ := gg_e H
  obtain ⟨x4, S_5, hc6, H⟩ := gc_e H
  refine GA.callV (m_X10_clear hc6) xs_X3_37 dX3_begin_9 (gsT (by decide)) (by decide) rfl rfl (by omega) (by decide) rfl (Nat.le_of_ble_eq_true rfl) (by omega) (by omega) rfl (fun E S9 hx => hx.elim) (fun v S9 hq => ?_)
  obtain ⟨rfl, rfl⟩ := hq
  cases H
  exact GA.vret rfl dX3_begin_12 (by omega) (by omega) ⟨rfl, rfl⟩
theorem g_X3_begin {l : Launch} {Z : XZ} {L : Nat → Nat} : ∀ n, P_X3_begin_0 l Z L n
  | 0 => fun _ _ _ _ _ H => no_e H
  | n + 1 => t_X3_begin_0 n (g_X3_begin n)
theorem m_X3_begin {l : Launch} {Z : XZ} {L : Nat → Nat} {n d : Nat} {S : GS} {a1 : Int} {x : Int} {S1 : GS} (H : f_X3_begin n d 0 S [a1] = some (x, S1)) : GM l Z L yX3_begin cX3_begin 2 none [] d 0 0 [.ref (L 494), .int (J a1)] S (fun v S' => v = none ∧ S1 = S') (fun _ _ => False) := GM.of (by decide) (Nat.le_of_ble_eq_true rfl) ((g_X3_begin n) _ _ _ _ _ H)

def P_X3_draw_0 (l : Launch) (Z : XZ) (L : Nat → Nat) (n : Nat) : Prop := ∀ (d : Nat) (S : GS) (a1 : Int) (x : Int) (S1 : GS), f_X3_draw n d 0 S [a1] = some (x, S1) → GA l Z L yX3_draw cX3_draw 2 (some .int) [] d 0 0 (fun v S' => v = some (.int (J x)) ∧ S1 = S') (fun _ _ => False) 0 (gl [(0, .ref (L 494)), (1, .int (J a1))]) [] S 0 0
theorem i_X3_draw {l : Launch} {Z : XZ} {L : Nat → Nat} {n : Nat} (ih : P_X3_draw_0 l Z L n) {d : Nat} {S : GS} {a1 : Int} {x : Int} {S1 : GS} (H : f_X3_draw n d 0 S [a1] = some (x, S1)) : GM l Z L yX3_draw cX3_draw 2 (some .int) [] d 0 0 [.ref (L 494), .int (J a1)] S (fun v S' => v = some (.int (J x)) ∧ S1 = S') (fun _ _ => False) := GM.of (by decide) (Nat.le_of_ble_eq_true rfl) (ih _ _ _ _ _ H)
set_option maxHeartbeats 4000000 in
set_option maxRecDepth 20000 in
theorem t_X3_draw_0 {l : Launch} {Z : XZ} {L : Nat → Nat} (n : Nat) (ih_X3_draw_0 : P_X3_draw_0 l Z L n) : P_X3_draw_0 l Z L (n + 1) := by
  intro d S a1 x S1 H
  have H : b_X3_draw_0 n d (f_X3_draw n) S a1 = some (x, S1) := H
  unfold b_X3_draw_0 at H
  refine GA.aload_n dX3_draw_0 rfl ?_
  refine GA.sipush dX3_draw_1 rfl ?_
  refine GA.aload_n dX3_draw_4 rfl ?_
  obtain ⟨x1, hx2, H⟩ := gv_e H
  refine GV.getI hx2 xf_X3_33 dX3_draw_5 gs_494 (by decide) rfl ?_
  obtain ⟨x3, hx4, H⟩ := gv_e H
  refine GV.imul hx4 dX3_draw_8 ?_
  refine GA.sipush dX3_draw_9 rfl ?_
  obtain ⟨x5, hx6, H⟩ := gv_e H
  refine GV.iadd hx6 dX3_draw_12 ?_
  refine GA.ldc (v := 65536) xc_X3_40 dX3_draw_13 ?_
  obtain ⟨hg7, H⟩ := gg_e H
  obtain ⟨x8, hx9, H⟩ := gv_e H
  refine GV.irem hg7 hx9 dX3_draw_15 ?_
  obtain ⟨S_10, hx11, H⟩ := gv_e H
  refine GV.putI hx11 (xp_X3_33 _) dX3_draw_16 gs_494 (by decide) (Nat.le_of_ble_eq_true rfl) gs_494 ?_
  refine GA.iload_n dX3_draw_19 rfl ?_
  obtain ⟨hg12, H⟩ := gg_e H
  refine GV.if_le (tgt := 35) hg12 dX3_draw_20 (by decide) (fun c13 => ?_) (fun c13 => ?_)
  · have H := it_t H c13
    refine GA.iconst dX3_draw_35 ?_
    cases H
    exact GA.iret rfl dX3_draw_36 (by omega) (by omega) ⟨rfl, rfl⟩
  · have H := it_f H c13
    refine GA.aload_n dX3_draw_23 rfl ?_
    obtain ⟨x14, hx15, H⟩ := gv_e H
    refine GV.getI hx15 xf_X3_33 dX3_draw_24 gs_494 (by decide) rfl ?_
    refine GA.bipush dX3_draw_27 rfl ?_
    obtain ⟨hg16, H⟩ := gg_e H
    obtain ⟨x17, hx18, H⟩ := gv_e H
    refine GV.idiv hg16 hx18 dX3_draw_29 ?_
    refine GA.iload_n dX3_draw_30 rfl ?_
    obtain ⟨hg19, H⟩ := gg_e H
    obtain ⟨x20, hx21, H⟩ := gv_e H
    refine GV.irem hg19 hx21 dX3_draw_31 ?_
    refine GA.goto (tgt := 36) dX3_draw_32 (by decide) ?_
    cases H
    exact GA.iret rfl dX3_draw_36 (by omega) (by omega) ⟨rfl, rfl⟩
theorem g_X3_draw {l : Launch} {Z : XZ} {L : Nat → Nat} : ∀ n, P_X3_draw_0 l Z L n
  | 0 => fun _ _ _ _ _ H => no_e H
  | n + 1 => t_X3_draw_0 n (g_X3_draw n)
theorem m_X3_draw {l : Launch} {Z : XZ} {L : Nat → Nat} {n d : Nat} {S : GS} {a1 : Int} {x : Int} {S1 : GS} (H : f_X3_draw n d 0 S [a1] = some (x, S1)) : GM l Z L yX3_draw cX3_draw 2 (some .int) [] d 0 0 [.ref (L 494), .int (J a1)] S (fun v S' => v = some (.int (J x)) ∧ S1 = S') (fun _ _ => False) := GM.of (by decide) (Nat.le_of_ble_eq_true rfl) ((g_X3_draw n) _ _ _ _ _ H)

def P_X3_number_0 (l : Launch) (Z : XZ) (L : Nat → Nat) (n : Nat) : Prop := ∀ (d : Nat) (S : GS) (x : Int) (S1 : GS), f_X3_number n d 0 S [] = some (x, S1) → GA l Z L yX3_number cX3_number 2 (some .int) [] d 0 0 (fun v S' => v = some (.int (J x)) ∧ S1 = S') (fun _ _ => False) 0 (gl [(0, .ref (L 494))]) [] S 0 0
theorem i_X3_number {l : Launch} {Z : XZ} {L : Nat → Nat} {n : Nat} (ih : P_X3_number_0 l Z L n) {d : Nat} {S : GS} {x : Int} {S1 : GS} (H : f_X3_number n d 0 S [] = some (x, S1)) : GM l Z L yX3_number cX3_number 2 (some .int) [] d 0 0 [.ref (L 494)] S (fun v S' => v = some (.int (J x)) ∧ S1 = S') (fun _ _ => False) := GM.of (by decide) (Nat.le_of_ble_eq_true rfl) (ih _ _ _ _ H)
set_option maxHeartbeats 4000000 in
set_option maxRecDepth 20000 in
theorem t_X3_number_0 {l : Launch} {Z : XZ} {L : Nat → Nat} (n : Nat) (ih_X3_number_0 : P_X3_number_0 l Z L n) : P_X3_number_0 l Z L (n + 1) := by
  intro d S  x S1 H
  have H : b_X3_number_0 n d (f_X3_number n) S  = some (x, S1) := H
  unfold b_X3_number_0 at H
  refine GA.aload_n dX3_number_0 rfl ?_
  refine GA.get xf_X3_12 dX3_number_1 gs_494 (by decide) rfl ?_
  refine GA.iconst dX3_number_4 ?_
  obtain ⟨hg1, H⟩ := gg_e H
  obtain ⟨x2, S_3, hc4, H⟩ := gc_e H
  refine GA.callV (m_X10_add hc4) xs_X3_45 dX3_number_5 (gsT (by decide)) (by decide) rfl rfl (by omega) (by decide) rfl (Nat.le_of_ble_eq_true rfl) (by omega) (by omega) rfl (fun E S9 hx => hx.elim) (fun v S9 hq => ?_)
  obtain ⟨rfl, rfl⟩ := hq
  refine GA.istore_n dX3_number_8 (by decide) ?_
  refine GA.aload_n dX3_number_9 rfl ?_
  refine GA.get xf_X3_26 dX3_number_10 gs_494 (by decide) rfl ?_
  obtain ⟨x5, S_6, hc7, H⟩ := gc_e H
  refine GA.callV (m_X9_clear hc7) xs_X3_63 dX3_number_13 (gsS (by decide)) (by decide) rfl rfl (by omega) (by decide) rfl (Nat.le_of_ble_eq_true rfl) (by omega) (by omega) rfl (fun E S9 hx => hx.elim) (fun v S9 hq => ?_)
  obtain ⟨rfl, rfl⟩ := hq
  refine GA.aload_n dX3_number_16 rfl ?_
  refine GA.get xf_X3_26 dX3_number_17 gs_494 (by decide) rfl ?_
  refine GA.aload_n dX3_number_20 rfl ?_
  refine GA.sipush dX3_number_21 rfl ?_
  obtain ⟨x8, S_9, hc10, H⟩ := gc_e H
  refine GA.callV (m_X3_draw hc10) xs_X3_41 dX3_number_24 gs_494 (by decide) rfl rfl (by omega) (by decide) rfl (Nat.le_of_ble_eq_true rfl) (by omega) (by omega) rfl (fun E S9 hx => hx.elim) (fun v S9 hq => ?_)
  obtain ⟨rfl, rfl⟩ := hq
  obtain ⟨x11, S_12, hc13, H⟩ := gc_e H
  refine GA.callV (m_X9_addNumber hc13) xs_X3_64 dX3_number_27 (gsS (by decide)) (by decide) rfl rfl (by omega) (by decide) rfl (Nat.le_of_ble_eq_true rfl) (by omega) (by omega) rfl (fun E S9 hx => hx.elim) (fun v S9 hq => ?_)
  obtain ⟨rfl, rfl⟩ := hq
  refine GA.aload_n dX3_number_30 rfl ?_
  refine GA.get xf_X3_12 dX3_number_31 gs_494 (by decide) rfl ?_
  refine GA.iload_n dX3_number_34 rfl ?_
  refine GA.iconst dX3_number_35 ?_
  refine GA.aload_n dX3_number_36 rfl ?_
  refine GA.get xf_X3_26 dX3_number_37 gs_494 (by decide) rfl ?_
  refine GA.aload_n dX3_number_40 rfl ?_
  refine GA.iconst dX3_number_41 ?_
  obtain ⟨x14, S_15, hc16, H⟩ := gc_e H
  refine GA.callV (m_X3_draw hc16) xs_X3_41 dX3_number_42 gs_494 (by decide) rfl rfl (by omega) (by decide) rfl (Nat.le_of_ble_eq_true rfl) (by omega) (by omega) rfl (fun E S9 hx => hx.elim) (fun v S9 hq => ?_)
  obtain ⟨rfl, rfl⟩ := hq
  refine GA.iconst dX3_number_45 ?_
  obtain ⟨x17, hx18, H⟩ := gv_e H
  refine GV.isub hx18 dX3_number_46 ?_
  obtain ⟨x19, S_20, hc21, H⟩ := gc_e H
  refine GA.callV (m_X10_setNumber hc21) xs_X3_67 dX3_number_47 (gsT (by decide)) (by decide) rfl rfl (by omega) (by decide) rfl (Nat.le_of_ble_eq_true rfl) (by omega) (by omega) rfl (fun E S9 hx => hx.elim) (fun v S9 hq => ?_)
  obtain ⟨rfl, rfl⟩ := hq
  refine GA.pop dX3_number_50 rfl ?_
  refine GA.iload_n dX3_number_51 rfl ?_
  cases H
  exact GA.iret rfl dX3_number_52 (by omega) (by omega) ⟨rfl, rfl⟩
theorem g_X3_number {l : Launch} {Z : XZ} {L : Nat → Nat} : ∀ n, P_X3_number_0 l Z L n
  | 0 => fun _ _ _ _ H => no_e H
  | n + 1 => t_X3_number_0 n (g_X3_number n)
theorem m_X3_number {l : Launch} {Z : XZ} {L : Nat → Nat} {n d : Nat} {S : GS} {x : Int} {S1 : GS} (H : f_X3_number n d 0 S [] = some (x, S1)) : GM l Z L yX3_number cX3_number 2 (some .int) [] d 0 0 [.ref (L 494)] S (fun v S' => v = some (.int (J x)) ∧ S1 = S') (fun _ _ => False) := GM.of (by decide) (Nat.le_of_ble_eq_true rfl) ((g_X3_number n) _ _ _ _ H)

def P_X3_text_0 (l : Launch) (Z : XZ) (L : Nat → Nat) (n : Nat) : Prop := ∀ (d : Nat) (S : GS) (x : Int) (S1 : GS), f_X3_text n d 0 S [] = some (x, S1) → GA l Z L yX3_text cX3_text 4 (some .int) [] d 0 0 (fun v S' => v = some (.int (J x)) ∧ S1 = S') (fun _ _ => False) 0 (gl [(0, .ref (L 494))]) [] S 0 0
def P_X3_text_17 (l : Launch) (Z : XZ) (L : Nat → Nat) (n : Nat) : Prop := ∀ (d : Nat) (S : GS) (a1 : Int) (a2 : Int) (a3 : Int) (x : Int) (S1 : GS), f_X3_text n d 17 S [a1, a2, a3] = some (x, S1) → GA l Z L yX3_text cX3_text 4 (some .int) [] d 0 0 (fun v S' => v = some (.int (J x)) ∧ S1 = S') (fun _ _ => False) 17 (gl [(0, .ref (L 494)), (1, .int (J a1)), (2, .int (J a2)), (3, .int (J a3))]) [] S 0 0
theorem i_X3_text {l : Launch} {Z : XZ} {L : Nat → Nat} {n : Nat} (ih : P_X3_text_0 l Z L n) {d : Nat} {S : GS} {x : Int} {S1 : GS} (H : f_X3_text n d 0 S [] = some (x, S1)) : GM l Z L yX3_text cX3_text 4 (some .int) [] d 0 0 [.ref (L 494)] S (fun v S' => v = some (.int (J x)) ∧ S1 = S') (fun _ _ => False) := GM.of (by decide) (Nat.le_of_ble_eq_true rfl) (ih _ _ _ _ H)
set_option maxHeartbeats 4000000 in
set_option maxRecDepth 20000 in
theorem t_X3_text_0 {l : Launch} {Z : XZ} {L : Nat → Nat} (n : Nat) (ih_X3_text_0 : P_X3_text_0 l Z L n) (ih_X3_text_17 : P_X3_text_17 l Z L n) : P_X3_text_0 l Z L (n + 1) := by
  intro d S  x S1 H
  have H : b_X3_text_0 n d (f_X3_text n) S  = some (x, S1) := H
  unfold b_X3_text_0 at H
  refine GA.aload_n dX3_text_0 rfl ?_
  refine GA.get xf_X3_12 dX3_text_1 gs_494 (by decide) rfl ?_
  refine GA.iconst dX3_text_4 ?_
  obtain ⟨hg1, H⟩ := gg_e H
  obtain ⟨x2, S_3, hc4, H⟩ := gc_e H
  refine GA.callV (m_X10_add hc4) xs_X3_45 dX3_text_5 (gsT (by decide)) (by decide) rfl rfl (by omega) (by decide) rfl (Nat.le_of_ble_eq_true rfl) (by omega) (by omega) rfl (fun E S9 hx => hx.elim) (fun v S9 hq => ?_)
  obtain ⟨rfl, rfl⟩ := hq
  refine GA.istore_n dX3_text_8 (by decide) ?_
  refine GA.aload_n dX3_text_9 rfl ?_
  refine GA.iconst dX3_text_10 ?_
  obtain ⟨x5, S_6, hc7, H⟩ := gc_e H
  refine GA.callV (m_X3_draw hc7) xs_X3_41 dX3_text_11 gs_494 (by decide) rfl rfl (by omega) (by decide) rfl (Nat.le_of_ble_eq_true rfl) (by omega) (by omega) rfl (fun E S9 hx => hx.elim) (fun v S9 hq => ?_)
  obtain ⟨rfl, rfl⟩ := hq
  refine GA.istore_n dX3_text_14 (by decide) ?_
  refine GA.iconst dX3_text_15 ?_
  refine GA.istore_n dX3_text_16 (by decide) ?_
  refine GA.locals [(0, .ref (L 494)), (1, .int (J x2)), (2, .int (J x5)), (3, .int (J 0))] ⟨rfl, rfl, rfl, rfl, trivial⟩ ?_
  exact ih_X3_text_17 _ _ (x2) (x5) (0) _ _ H
set_option maxHeartbeats 4000000 in
set_option maxRecDepth 20000 in
theorem t_X3_text_17 {l : Launch} {Z : XZ} {L : Nat → Nat} (n : Nat) (ih_X3_text_0 : P_X3_text_0 l Z L n) (ih_X3_text_17 : P_X3_text_17 l Z L n) : P_X3_text_17 l Z L (n + 1) := by
  intro d S a1 a2 a3 x S1 H
  have H : b_X3_text_17 n d (f_X3_text n) S a1 a2 a3 = some (x, S1) := H
  unfold b_X3_text_17 at H
  refine GA.iload_n dX3_text_17 rfl ?_
  refine GA.iload_n dX3_text_18 rfl ?_
  obtain ⟨hg1, H⟩ := gg_e H
  obtain ⟨hg2, H⟩ := gg_e H
  refine GV.icmp_ge (tgt := 44) hg1 hg2 dX3_text_19 (by decide) (fun c3 => ?_) (fun c3 => ?_)
  · have H := it_t H c3
    refine GA.iload_n dX3_text_44 rfl ?_
    cases H
    exact GA.iret rfl dX3_text_45 (by omega) (by omega) ⟨rfl, rfl⟩
  · have H := it_f H c3
    refine GA.aload_n dX3_text_22 rfl ?_
    refine GA.get xf_X3_12 dX3_text_23 gs_494 (by decide) rfl ?_
    refine GA.iload_n dX3_text_26 rfl ?_
    refine GA.bipush dX3_text_27 rfl ?_
    refine GA.aload_n dX3_text_29 rfl ?_
    refine GA.iconst dX3_text_30 ?_
    obtain ⟨hg4, H⟩ := gg_e H
    obtain ⟨x5, S_6, hc7, H⟩ := gc_e H
    refine GA.callV (m_X3_draw hc7) xs_X3_41 dX3_text_31 gs_494 (by decide) rfl rfl (by omega) (by decide) rfl (Nat.le_of_ble_eq_true rfl) (by omega) (by omega) rfl (fun E S9 hx => hx.elim) (fun v S9 hq => ?_)
    obtain ⟨rfl, rfl⟩ := hq
    obtain ⟨x8, hx9, H⟩ := gv_e H
    refine GV.iadd hx9 dX3_text_34 ?_
    obtain ⟨x10, S_11, hc12, H⟩ := gc_e H
    refine GA.callV (m_X10_addSign hc12) xs_X3_71 dX3_text_35 (gsT (by decide)) (by decide) rfl rfl (by omega) (by decide) rfl (Nat.le_of_ble_eq_true rfl) (by omega) (by omega) rfl (fun E S9 hx => hx.elim) (fun v S9 hq => ?_)
    obtain ⟨rfl, rfl⟩ := hq
    obtain ⟨x13, hx14, H⟩ := gv_e H
    refine GV.iinc hx14 dX3_text_38 rfl (by decide) ?_
    refine GA.goto (tgt := 17) dX3_text_41 (by decide) ?_
    refine GA.locals [(0, .ref (L 494)), (1, .int (J a1)), (2, .int (J a2)), (3, .int (J x13))] ⟨rfl, rfl, rfl, rfl, trivial⟩ ?_
    exact ih_X3_text_17 _ _ (a1) (a2) (x13) _ _ H
theorem g_X3_text {l : Launch} {Z : XZ} {L : Nat → Nat} : ∀ n, P_X3_text_0 l Z L n ∧ P_X3_text_17 l Z L n
  | 0 => ⟨fun _ _ _ _ H => no_e H, fun _ _ _ _ _ _ _ H => no_e H⟩
  | n + 1 => have ⟨h0, h1⟩ := g_X3_text (l := l) (Z := Z) (L := L) n
    ⟨t_X3_text_0 n h0 h1, t_X3_text_17 n h0 h1⟩
theorem m_X3_text {l : Launch} {Z : XZ} {L : Nat → Nat} {n d : Nat} {S : GS} {x : Int} {S1 : GS} (H : f_X3_text n d 0 S [] = some (x, S1)) : GM l Z L yX3_text cX3_text 4 (some .int) [] d 0 0 [.ref (L 494)] S (fun v S' => v = some (.int (J x)) ∧ S1 = S') (fun _ _ => False) := GM.of (by decide) (Nat.le_of_ble_eq_true rfl) ((g_X3_text n).1 _ _ _ _ H)

def P_X3_entry_0 (l : Launch) (Z : XZ) (L : Nat → Nat) (n : Nat) : Prop := ∀ (d : Nat) (S : GS) (a1 : Int) (a2 : Int) (a3 : Int) (x : Int) (S1 : GS), f_X3_entry n d 0 S [a1, a2, a3] = some (x, S1) → GA l Z L yX3_entry cX3_entry 7 none [] d 0 0 (fun v S' => v = none ∧ S1 = S') (fun _ _ => False) 0 (gl [(0, .ref (L 494)), (1, .int (J a1)), (2, .int (J a2)), (3, .int (J a3))]) [] S 0 0
def P_X3_group_0 (l : Launch) (Z : XZ) (L : Nat → Nat) (n : Nat) : Prop := ∀ (d : Nat) (S : GS) (a1 : Int) (a2 : Int) (a3 : Int) (x : Int) (S1 : GS), f_X3_entry n d 10000 S [a1, a2, a3] = some (x, S1) → GA l Z L yX3_group cX3_group 7 (some .int) [] d 0 0 (fun v S' => v = some (.int (J x)) ∧ S1 = S') (fun _ _ => False) 0 (gl [(0, .ref (L 494)), (1, .int (J a1)), (2, .int (J a2)), (3, .int (J a3))]) [] S 0 0
def P_X3_group_22 (l : Launch) (Z : XZ) (L : Nat → Nat) (n : Nat) : Prop := ∀ (d : Nat) (S : GS) (a1 : Int) (a2 : Int) (a3 : Int) (a4 : Int) (a5 : Int) (a6 : Int) (x : Int) (S1 : GS), f_X3_entry n d 10022 S [a1, a2, a3, a4, a5, a6] = some (x, S1) → GA l Z L yX3_group cX3_group 7 (some .int) [] d 0 0 (fun v S' => v = some (.int (J x)) ∧ S1 = S') (fun _ _ => False) 22 (gl [(0, .ref (L 494)), (1, .int (J a1)), (2, .int (J a2)), (3, .int (J a3)), (4, .int (J a4)), (5, .int (J a5)), (6, .int (J a6))]) [] S 0 0
def P_X3_sprout_0 (l : Launch) (Z : XZ) (L : Nat → Nat) (n : Nat) : Prop := ∀ (d : Nat) (S : GS) (a1 : Int) (a2 : Int) (x : Int) (S1 : GS), f_X3_entry n d 20000 S [a1, a2] = some (x, S1) → GA l Z L yX3_sprout cX3_sprout 4 (some .int) [] d 0 0 (fun v S' => v = some (.int (J x)) ∧ S1 = S') (fun _ _ => False) 0 (gl [(0, .ref (L 494)), (1, .int (J a1)), (2, .int (J a2))]) [] S 0 0
def P_X3_sprout_10 (l : Launch) (Z : XZ) (L : Nat → Nat) (n : Nat) : Prop := ∀ (d : Nat) (S : GS) (a1 : Int) (a2 : Int) (x : Int) (S1 : GS), f_X3_entry n d 20010 S [a1, a2] = some (x, S1) → GA l Z L yX3_sprout cX3_sprout 4 (some .int) [] d 0 0 (fun v S' => v = some (.int (J x)) ∧ S1 = S') (fun _ _ => False) 10 (gl [(0, .ref (L 494)), (1, .int (J a1)), (2, .int (J a2))]) [.ref (L 494)] S 0 0
def P_X3_sprout_28 (l : Launch) (Z : XZ) (L : Nat → Nat) (n : Nat) : Prop := ∀ (d : Nat) (S : GS) (a1 : Int) (a2 : Int) (s0 : Int) (s1 : Int) (x : Int) (S1 : GS), f_X3_entry n d 20028 S [a1, a2, s0, s1] = some (x, S1) → GA l Z L yX3_sprout cX3_sprout 4 (some .int) [] d 0 0 (fun v S' => v = some (.int (J x)) ∧ S1 = S') (fun _ _ => False) 28 (gl [(0, .ref (L 494)), (1, .int (J a1)), (2, .int (J a2))]) [.int (J s0), .int (J s1)] S 0 0
theorem i_X3_entry {l : Launch} {Z : XZ} {L : Nat → Nat} {n : Nat} (ih : P_X3_entry_0 l Z L n) {d : Nat} {S : GS} {a1 : Int} {a2 : Int} {a3 : Int} {x : Int} {S1 : GS} (H : f_X3_entry n d 0 S [a1, a2, a3] = some (x, S1)) : GM l Z L yX3_entry cX3_entry 7 none [] d 0 0 [.ref (L 494), .int (J a1), .int (J a2), .int (J a3)] S (fun v S' => v = none ∧ S1 = S') (fun _ _ => False) := GM.of (by decide) (Nat.le_of_ble_eq_true rfl) (ih _ _ _ _ _ _ _ H)
theorem i_X3_group {l : Launch} {Z : XZ} {L : Nat → Nat} {n : Nat} (ih : P_X3_group_0 l Z L n) {d : Nat} {S : GS} {a1 : Int} {a2 : Int} {a3 : Int} {x : Int} {S1 : GS} (H : f_X3_entry n d 10000 S [a1, a2, a3] = some (x, S1)) : GM l Z L yX3_group cX3_group 7 (some .int) [] d 0 0 [.ref (L 494), .int (J a1), .int (J a2), .int (J a3)] S (fun v S' => v = some (.int (J x)) ∧ S1 = S') (fun _ _ => False) := GM.of (by decide) (Nat.le_of_ble_eq_true rfl) (ih _ _ _ _ _ _ _ H)
theorem i_X3_sprout {l : Launch} {Z : XZ} {L : Nat → Nat} {n : Nat} (ih : P_X3_sprout_0 l Z L n) {d : Nat} {S : GS} {a1 : Int} {a2 : Int} {x : Int} {S1 : GS} (H : f_X3_entry n d 20000 S [a1, a2] = some (x, S1)) : GM l Z L yX3_sprout cX3_sprout 4 (some .int) [] d 0 0 [.ref (L 494), .int (J a1), .int (J a2)] S (fun v S' => v = some (.int (J x)) ∧ S1 = S') (fun _ _ => False) := GM.of (by decide) (Nat.le_of_ble_eq_true rfl) (ih _ _ _ _ _ _ H)
set_option maxHeartbeats 4000000 in
set_option maxRecDepth 20000 in
theorem t_X3_entry_0 {l : Launch} {Z : XZ} {L : Nat → Nat} (n : Nat) (ih_X3_entry_0 : P_X3_entry_0 l Z L n) (ih_X3_group_0 : P_X3_group_0 l Z L n) (ih_X3_group_22 : P_X3_group_22 l Z L n) (ih_X3_sprout_0 : P_X3_sprout_0 l Z L n) (ih_X3_sprout_10 : P_X3_sprout_10 l Z L n) (ih_X3_sprout_28 : P_X3_sprout_28 l Z L n) : P_X3_entry_0 l Z L (n + 1) := by
  intro d S a1 a2 a3 x S1 H
  have H : b_X3_entry_0 n d (f_X3_entry n) S a1 a2 a3 = some (x, S1) := H
  unfold b_X3_entry_0 at H
  refine GA.aload_n dX3_entry_0 rfl ?_
  refine GA.get xf_X3_30 dX3_entry_1 gs_494 (by decide) rfl ?_
  obtain ⟨hg1, H⟩ := gg_e H
  obtain ⟨x2, S_3, hc4, H⟩ := gc_e H
  refine GA.callV (m_X9_clear hc4) xs_X3_63 dX3_entry_4 (gsS (by decide)) (by decide) rfl rfl (by omega) (by decide) rfl (Nat.le_of_ble_eq_true rfl) (by omega) (by omega) rfl (fun E S9 hx => hx.elim) (fun v S9 hq => ?_)
  obtain ⟨rfl, rfl⟩ := hq
  refine GA.aload_n dX3_entry_7 rfl ?_
  refine GA.get xf_X3_30 dX3_entry_8 gs_494 (by decide) rfl ?_
  refine GA.bipush dX3_entry_11 rfl ?_
  refine GA.aload_n dX3_entry_13 rfl ?_
  refine GA.iconst dX3_entry_14 ?_
  obtain ⟨x5, S_6, hc7, H⟩ := gc_e H
  refine GA.callV (m_X3_draw hc7) xs_X3_41 dX3_entry_15 gs_494 (by decide) rfl rfl (by omega) (by decide) rfl (Nat.le_of_ble_eq_true rfl) (by omega) (by omega) rfl (fun E S9 hx => hx.elim) (fun v S9 hq => ?_)
  obtain ⟨rfl, rfl⟩ := hq
  obtain ⟨x8, hx9, H⟩ := gv_e H
  refine GV.iadd hx9 dX3_entry_18 ?_
  obtain ⟨x10, S_11, hc12, H⟩ := gc_e H
  refine GA.callV (m_X9_add hc12) xs_X3_86 dX3_entry_19 (gsS (by decide)) (by decide) rfl rfl (by omega) (by decide) rfl (Nat.le_of_ble_eq_true rfl) (by omega) (by omega) rfl (fun E S9 hx => hx.elim) (fun v S9 hq => ?_)
  obtain ⟨rfl, rfl⟩ := hq
  refine GA.aload_n dX3_entry_22 rfl ?_
  refine GA.get xf_X3_12 dX3_entry_23 gs_494 (by decide) rfl ?_
  refine GA.iload_n dX3_entry_26 rfl ?_
  obtain ⟨x13, S_14, hc15, H⟩ := gc_e H
  refine GA.callV (m_X10_close hc15) xs_X3_83 dX3_entry_27 (gsT (by decide)) (by decide) rfl rfl (by omega) (by decide) rfl (Nat.le_of_ble_eq_true rfl) (by omega) (by omega) rfl (fun E S9 hx => hx.elim) (fun v S9 hq => ?_)
  obtain ⟨rfl, rfl⟩ := hq
  refine GA.aload_n dX3_entry_30 rfl ?_
  refine GA.get xf_X3_12 dX3_entry_31 gs_494 (by decide) rfl ?_
  refine GA.iload_n dX3_entry_34 rfl ?_
  refine GA.aload_n dX3_entry_35 rfl ?_
  refine GA.get xf_X3_30 dX3_entry_36 gs_494 (by decide) rfl ?_
  obtain ⟨x16, S_17, hc18, H⟩ := gc_e H
  refine GA.callV (m_X10_valueOf hc18) xs_X3_88 dX3_entry_39 (gsT (by decide)) (by decide) rfl rfl (by omega) (by decide) rfl (Nat.le_of_ble_eq_true rfl) (by omega) (by omega) rfl (fun E S9 hx => hx.elim) (fun v S9 hq => ?_)
  obtain ⟨rfl, rfl⟩ := hq
  refine GA.istore dX3_entry_42 (by decide) ?_
  refine GA.aload_n dX3_entry_44 rfl ?_
  refine GA.get xf_X3_30 dX3_entry_45 gs_494 (by decide) rfl ?_
  refine GA.iconst dX3_entry_48 ?_
  obtain ⟨x19, S_20, hc21, H⟩ := gc_e H
  refine GA.callV (m_X9_at hc21) xs_X3_92 dX3_entry_49 (gsS (by decide)) (by decide) rfl rfl (by omega) (by decide) rfl (Nat.le_of_ble_eq_true rfl) (by omega) (by omega) rfl (fun E S9 hx => hx.elim) (fun v S9 hq => ?_)
  obtain ⟨rfl, rfl⟩ := hq
  refine GA.istore dX3_entry_52 (by decide) ?_
  refine GA.aload_n dX3_entry_54 rfl ?_
  refine GA.iload_n dX3_entry_55 rfl ?_
  refine GA.iconst dX3_entry_56 ?_
  obtain ⟨x22, hx23, H⟩ := gv_e H
  refine GV.iadd hx23 dX3_entry_57 ?_
  refine GA.iload_n dX3_entry_58 rfl ?_
  obtain ⟨x24, S_25, hc26, H⟩ := gc_e H
  refine GA.callV (i_X3_sprout ih_X3_sprout_0 hc26) xs_X3_75 dX3_entry_59 gs_494 (by decide) rfl rfl (by omega) (by decide) rfl (Nat.le_of_ble_eq_true rfl) (by omega) (by omega) rfl (fun E S9 hx => hx.elim) (fun v S9 hq => ?_)
  obtain ⟨rfl, rfl⟩ := hq
  refine GA.istore dX3_entry_62 (by decide) ?_
  refine GA.iload dX3_entry_64 rfl ?_
  refine GA.iconst dX3_entry_66 ?_
  obtain ⟨hg27, H⟩ := gg_e H
  refine GV.icmp_ne (tgt := 84) hg27 (by decide) dX3_entry_67 (by decide) (fun c28 => ?_) (fun c28 => ?_)
  · have H := it_t H c28
    refine GA.aload_n dX3_entry_84 rfl ?_
    refine GA.get xf_X3_12 dX3_entry_85 gs_494 (by decide) rfl ?_
    refine GA.iload dX3_entry_88 rfl ?_
    refine GA.iload dX3_entry_90 rfl ?_
    refine GA.aload_n dX3_entry_92 rfl ?_
    refine GA.get xf_X3_18 dX3_entry_93 gs_494 (by decide) rfl ?_
    obtain ⟨x29, S_30, hc31, H⟩ := gc_e H
    refine GA.callV (m_X10_replaceByLast hc31) xs_X3_98 dX3_entry_96 (gsT (by decide)) (by decide) rfl rfl (by omega) (by decide) rfl (Nat.le_of_ble_eq_true rfl) (by omega) (by omega) rfl (fun E S9 hx => hx.elim) (fun v S9 hq => ?_)
    obtain ⟨rfl, rfl⟩ := hq
    cases H
    exact GA.vret rfl dX3_entry_99 (by omega) (by omega) ⟨rfl, rfl⟩
  · have H := it_f H c28
    refine GA.aload_n dX3_entry_70 rfl ?_
    refine GA.get xf_X3_12 dX3_entry_71 gs_494 (by decide) rfl ?_
    refine GA.iload dX3_entry_74 rfl ?_
    refine GA.iload dX3_entry_76 rfl ?_
    obtain ⟨x32, S_33, hc34, H⟩ := gc_e H
    refine GA.callV (m_X10_addKeySign hc34) xs_X3_95 dX3_entry_78 (gsT (by decide)) (by decide) rfl rfl (by omega) (by decide) rfl (Nat.le_of_ble_eq_true rfl) (by omega) (by omega) rfl (fun E S9 hx => hx.elim) (fun v S9 hq => ?_)
    obtain ⟨rfl, rfl⟩ := hq
    refine GA.goto (tgt := 99) dX3_entry_81 (by decide) ?_
    cases H
    exact GA.vret rfl dX3_entry_99 (by omega) (by omega) ⟨rfl, rfl⟩
set_option maxHeartbeats 4000000 in
set_option maxRecDepth 20000 in
theorem t_X3_group_0 {l : Launch} {Z : XZ} {L : Nat → Nat} (n : Nat) (ih_X3_entry_0 : P_X3_entry_0 l Z L n) (ih_X3_group_0 : P_X3_group_0 l Z L n) (ih_X3_group_22 : P_X3_group_22 l Z L n) (ih_X3_sprout_0 : P_X3_sprout_0 l Z L n) (ih_X3_sprout_10 : P_X3_sprout_10 l Z L n) (ih_X3_sprout_28 : P_X3_sprout_28 l Z L n) : P_X3_group_0 l Z L (n + 1) := by
  intro d S a1 a2 a3 x S1 H
  have H : b_X3_group_0 n d (f_X3_entry n) S a1 a2 a3 = some (x, S1) := H
  unfold b_X3_group_0 at H
  refine GA.aload_n dX3_group_0 rfl ?_
  refine GA.get xf_X3_12 dX3_group_1 gs_494 (by decide) rfl ?_
  refine GA.iload_n dX3_group_4 rfl ?_
  obtain ⟨hg1, H⟩ := gg_e H
  obtain ⟨x2, S_3, hc4, H⟩ := gc_e H
  refine GA.callV (m_X10_add hc4) xs_X3_45 dX3_group_5 (gsT (by decide)) (by decide) rfl rfl (by omega) (by decide) rfl (Nat.le_of_ble_eq_true rfl) (by omega) (by omega) rfl (fun E S9 hx => hx.elim) (fun v S9 hq => ?_)
  obtain ⟨rfl, rfl⟩ := hq
  refine GA.istore dX3_group_8 (by decide) ?_
  refine GA.aload_n dX3_group_10 rfl ?_
  refine GA.iload_n dX3_group_11 rfl ?_
  refine GA.iconst dX3_group_12 ?_
  obtain ⟨x5, hx6, H⟩ := gv_e H
  refine GV.iadd hx6 dX3_group_13 ?_
  obtain ⟨x7, S_8, hc9, H⟩ := gc_e H
  refine GA.callV (m_X3_draw hc9) xs_X3_41 dX3_group_14 gs_494 (by decide) rfl rfl (by omega) (by decide) rfl (Nat.le_of_ble_eq_true rfl) (by omega) (by omega) rfl (fun E S9 hx => hx.elim) (fun v S9 hq => ?_)
  obtain ⟨rfl, rfl⟩ := hq
  refine GA.istore dX3_group_17 (by decide) ?_
  refine GA.iconst dX3_group_19 ?_
  refine GA.istore dX3_group_20 (by decide) ?_
  refine GA.locals [(0, .ref (L 494)), (1, .int (J a1)), (2, .int (J a2)), (3, .int (J a3)), (4, .int (J x2)), (5, .int (J x7)), (6, .int (J 0))] ⟨rfl, rfl, rfl, rfl, rfl, rfl, rfl, trivial⟩ ?_
  exact ih_X3_group_22 _ _ (a1) (a2) (a3) (x2) (x7) (0) _ _ H
set_option maxHeartbeats 4000000 in
set_option maxRecDepth 20000 in
theorem t_X3_group_22 {l : Launch} {Z : XZ} {L : Nat → Nat} (n : Nat) (ih_X3_entry_0 : P_X3_entry_0 l Z L n) (ih_X3_group_0 : P_X3_group_0 l Z L n) (ih_X3_group_22 : P_X3_group_22 l Z L n) (ih_X3_sprout_0 : P_X3_sprout_0 l Z L n) (ih_X3_sprout_10 : P_X3_sprout_10 l Z L n) (ih_X3_sprout_28 : P_X3_sprout_28 l Z L n) : P_X3_group_22 l Z L (n + 1) := by
  intro d S a1 a2 a3 a4 a5 a6 x S1 H
  have H : b_X3_group_22 n d (f_X3_entry n) S a1 a2 a3 a4 a5 a6 = some (x, S1) := H
  unfold b_X3_group_22 at H
  refine GA.iload dX3_group_22 rfl ?_
  refine GA.iload dX3_group_24 rfl ?_
  obtain ⟨hg1, H⟩ := gg_e H
  obtain ⟨hg2, H⟩ := gg_e H
  refine GV.icmp_ge (tgt := 65) hg1 hg2 dX3_group_26 (by decide) (fun c3 => ?_) (fun c3 => ?_)
  · have H := it_t H c3
    refine GA.aload_n dX3_group_65 rfl ?_
    refine GA.get xf_X3_12 dX3_group_66 gs_494 (by decide) rfl ?_
    refine GA.iload dX3_group_69 rfl ?_
    obtain ⟨hg4, H⟩ := gg_e H
    obtain ⟨x5, S_6, hc7, H⟩ := gc_e H
    refine GA.callV (m_X10_close hc7) xs_X3_83 dX3_group_71 (gsT (by decide)) (by decide) rfl rfl (by omega) (by decide) rfl (Nat.le_of_ble_eq_true rfl) (by omega) (by omega) rfl (fun E S9 hx => hx.elim) (fun v S9 hq => ?_)
    obtain ⟨rfl, rfl⟩ := hq
    refine GA.iload dX3_group_74 rfl ?_
    cases H
    exact GA.iret rfl dX3_group_76 (by omega) (by omega) ⟨rfl, rfl⟩
  · have H := it_f H c3
    refine GA.iload_n dX3_group_29 rfl ?_
    refine GA.iconst dX3_group_30 ?_
    obtain ⟨hg8, H⟩ := gg_e H
    refine GV.icmp_ge (tgt := 65) hg8 (by decide) dX3_group_31 (by decide) (fun c9 => ?_) (fun c9 => ?_)
    · have H := it_t H c9
      refine GA.aload_n dX3_group_65 rfl ?_
      refine GA.get xf_X3_12 dX3_group_66 gs_494 (by decide) rfl ?_
      refine GA.iload dX3_group_69 rfl ?_
      obtain ⟨hg10, H⟩ := gg_e H
      obtain ⟨x11, S_12, hc13, H⟩ := gc_e H
      refine GA.callV (m_X10_close hc13) xs_X3_83 dX3_group_71 (gsT (by decide)) (by decide) rfl rfl (by omega) (by decide) rfl (Nat.le_of_ble_eq_true rfl) (by omega) (by omega) rfl (fun E S9 hx => hx.elim) (fun v S9 hq => ?_)
      obtain ⟨rfl, rfl⟩ := hq
      refine GA.iload dX3_group_74 rfl ?_
      cases H
      exact GA.iret rfl dX3_group_76 (by omega) (by omega) ⟨rfl, rfl⟩
    · have H := it_f H c9
      refine GA.iload_n dX3_group_34 rfl ?_
      refine GA.iconst dX3_group_35 ?_
      obtain ⟨hg14, H⟩ := gg_e H
      refine GV.icmp_ne (tgt := 51) hg14 (by decide) dX3_group_36 (by decide) (fun c15 => ?_) (fun c15 => ?_)
      · have H := it_t H c15
        refine GA.aload_n dX3_group_51 rfl ?_
        refine GA.iload dX3_group_52 rfl ?_
        refine GA.iload_n dX3_group_54 rfl ?_
        refine GA.iload_n dX3_group_55 rfl ?_
        obtain ⟨hg16, H⟩ := gg_e H
        obtain ⟨x17, S_18, hc19, H⟩ := gc_e H
        refine GA.callV (i_X3_entry ih_X3_entry_0 hc19) xs_X3_79 dX3_group_56 gs_494 (by decide) rfl rfl (by omega) (by decide) rfl (Nat.le_of_ble_eq_true rfl) (by omega) (by omega) rfl (fun E S9 hx => hx.elim) (fun v S9 hq => ?_)
        obtain ⟨rfl, rfl⟩ := hq
        obtain ⟨x20, hx21, H⟩ := gv_e H
        refine GV.iinc hx21 dX3_group_59 rfl (by decide) ?_
        refine GA.goto (tgt := 22) dX3_group_62 (by decide) ?_
        refine GA.locals [(0, .ref (L 494)), (1, .int (J a1)), (2, .int (J a2)), (3, .int (J a3)), (4, .int (J a4)), (5, .int (J a5)), (6, .int (J x20))] ⟨rfl, rfl, rfl, rfl, rfl, rfl, rfl, trivial⟩ ?_
        exact ih_X3_group_22 _ _ (a1) (a2) (a3) (a4) (a5) (x20) _ _ H
      · have H := it_f H c15
        refine GA.aload_n dX3_group_39 rfl ?_
        refine GA.iload_n dX3_group_40 rfl ?_
        refine GA.iconst dX3_group_41 ?_
        obtain ⟨x22, hx23, H⟩ := gv_e H
        refine GV.iadd hx23 dX3_group_42 ?_
        refine GA.iload_n dX3_group_43 rfl ?_
        obtain ⟨hg24, H⟩ := gg_e H
        obtain ⟨x25, S_26, hc27, H⟩ := gc_e H
        refine GA.callV (i_X3_sprout ih_X3_sprout_0 hc27) xs_X3_75 dX3_group_44 gs_494 (by decide) rfl rfl (by omega) (by decide) rfl (Nat.le_of_ble_eq_true rfl) (by omega) (by omega) rfl (fun E S9 hx => hx.elim) (fun v S9 hq => ?_)
        obtain ⟨rfl, rfl⟩ := hq
        refine GA.pop dX3_group_47 rfl ?_
        refine GA.goto (tgt := 59) dX3_group_48 (by decide) ?_
        obtain ⟨x28, hx29, H⟩ := gv_e H
        refine GV.iinc hx29 dX3_group_59 rfl (by decide) ?_
        refine GA.goto (tgt := 22) dX3_group_62 (by decide) ?_
        refine GA.locals [(0, .ref (L 494)), (1, .int (J a1)), (2, .int (J a2)), (3, .int (J a3)), (4, .int (J a4)), (5, .int (J a5)), (6, .int (J x28))] ⟨rfl, rfl, rfl, rfl, rfl, rfl, rfl, trivial⟩ ?_
        exact ih_X3_group_22 _ _ (a1) (a2) (a3) (a4) (a5) (x28) _ _ H
set_option maxHeartbeats 4000000 in
set_option maxRecDepth 20000 in
theorem t_X3_sprout_0 {l : Launch} {Z : XZ} {L : Nat → Nat} (n : Nat) (ih_X3_entry_0 : P_X3_entry_0 l Z L n) (ih_X3_group_0 : P_X3_group_0 l Z L n) (ih_X3_group_22 : P_X3_group_22 l Z L n) (ih_X3_sprout_0 : P_X3_sprout_0 l Z L n) (ih_X3_sprout_10 : P_X3_sprout_10 l Z L n) (ih_X3_sprout_28 : P_X3_sprout_28 l Z L n) : P_X3_sprout_0 l Z L (n + 1) := by
  intro d S a1 a2 x S1 H
  have H : b_X3_sprout_0 n d (f_X3_entry n) S a1 a2 = some (x, S1) := H
  unfold b_X3_sprout_0 at H
  refine GA.aload_n dX3_sprout_0 rfl ?_
  refine GA.iload_n dX3_sprout_1 rfl ?_
  obtain ⟨hg1, H⟩ := gg_e H
  refine GV.if_eq (tgt := 10) hg1 dX3_sprout_2 (by decide) (fun c2 => ?_) (fun c2 => ?_)
  · have H := it_t H c2
    refine GA.locals [(0, .ref (L 494)), (1, .int (J a1)), (2, .int (J a2))] ⟨rfl, rfl, rfl, trivial⟩ ?_
    exact ih_X3_sprout_10 _ _ (a1) (a2) _ _ H
  · have H := it_f H c2
    refine GA.iload_n dX3_sprout_5 rfl ?_
    refine GA.iconst dX3_sprout_6 ?_
    refine GV.icmp_lt (tgt := 14) hg1 (by decide) dX3_sprout_7 (by decide) (fun c3 => ?_) (fun c3 => ?_)
    · have H := it_t H c3
      refine GA.bipush dX3_sprout_14 rfl ?_
      obtain ⟨hg4, H⟩ := gg_e H
      obtain ⟨x5, S_6, hc7, H⟩ := gc_e H
      refine GA.callV (m_X3_draw hc7) xs_X3_41 dX3_sprout_16 gs_494 (by decide) rfl rfl (by omega) (by decide) rfl (Nat.le_of_ble_eq_true rfl) (by omega) (by omega) rfl (fun E S9 hx => hx.elim) (fun v S9 hq => ?_)
      obtain ⟨rfl, rfl⟩ := hq
      refine GA.iload_n dX3_sprout_19 rfl ?_
      refine GV.if_ne (tgt := 27) hg1 dX3_sprout_20 (by decide) (fun c8 => ?_) (fun c8 => ?_)
      · have H := it_t H c8
        refine GA.iconst dX3_sprout_27 ?_
        refine GA.locals [(0, .ref (L 494)), (1, .int (J a1)), (2, .int (J a2))] ⟨rfl, rfl, rfl, trivial⟩ ?_
        exact ih_X3_sprout_28 _ _ (a1) (a2) (0) (x5) _ _ H
      · have H := it_f H c8
        refine GA.iconst dX3_sprout_23 ?_
        refine GA.goto (tgt := 28) dX3_sprout_24 (by decide) ?_
        refine GA.locals [(0, .ref (L 494)), (1, .int (J a1)), (2, .int (J a2))] ⟨rfl, rfl, rfl, trivial⟩ ?_
        exact ih_X3_sprout_28 _ _ (a1) (a2) (4) (x5) _ _ H
    · have H := it_f H c3
      refine GA.locals [(0, .ref (L 494)), (1, .int (J a1)), (2, .int (J a2))] ⟨rfl, rfl, rfl, trivial⟩ ?_
      exact ih_X3_sprout_10 _ _ (a1) (a2) _ _ H
set_option maxHeartbeats 4000000 in
set_option maxRecDepth 20000 in
theorem t_X3_sprout_10 {l : Launch} {Z : XZ} {L : Nat → Nat} (n : Nat) (ih_X3_entry_0 : P_X3_entry_0 l Z L n) (ih_X3_group_0 : P_X3_group_0 l Z L n) (ih_X3_group_22 : P_X3_group_22 l Z L n) (ih_X3_sprout_0 : P_X3_sprout_0 l Z L n) (ih_X3_sprout_10 : P_X3_sprout_10 l Z L n) (ih_X3_sprout_28 : P_X3_sprout_28 l Z L n) : P_X3_sprout_10 l Z L (n + 1) := by
  intro d S a1 a2 x S1 H
  have H : b_X3_sprout_10 n d (f_X3_entry n) S a1 a2 = some (x, S1) := H
  unfold b_X3_sprout_10 at H
  refine GA.iconst dX3_sprout_10 ?_
  refine GA.goto (tgt := 16) dX3_sprout_11 (by decide) ?_
  obtain ⟨hg1, H⟩ := gg_e H
  obtain ⟨x2, S_3, hc4, H⟩ := gc_e H
  refine GA.callV (m_X3_draw hc4) xs_X3_41 dX3_sprout_16 gs_494 (by decide) rfl rfl (by omega) (by decide) rfl (Nat.le_of_ble_eq_true rfl) (by omega) (by omega) rfl (fun E S9 hx => hx.elim) (fun v S9 hq => ?_)
  obtain ⟨rfl, rfl⟩ := hq
  refine GA.iload_n dX3_sprout_19 rfl ?_
  obtain ⟨hg5, H⟩ := gg_e H
  refine GV.if_ne (tgt := 27) hg5 dX3_sprout_20 (by decide) (fun c6 => ?_) (fun c6 => ?_)
  · have H := it_t H c6
    refine GA.iconst dX3_sprout_27 ?_
    refine GA.locals [(0, .ref (L 494)), (1, .int (J a1)), (2, .int (J a2))] ⟨rfl, rfl, rfl, trivial⟩ ?_
    exact ih_X3_sprout_28 _ _ (a1) (a2) (0) (x2) _ _ H
  · have H := it_f H c6
    refine GA.iconst dX3_sprout_23 ?_
    refine GA.goto (tgt := 28) dX3_sprout_24 (by decide) ?_
    refine GA.locals [(0, .ref (L 494)), (1, .int (J a1)), (2, .int (J a2))] ⟨rfl, rfl, rfl, trivial⟩ ?_
    exact ih_X3_sprout_28 _ _ (a1) (a2) (4) (x2) _ _ H
set_option maxHeartbeats 4000000 in
set_option maxRecDepth 20000 in
theorem t_X3_sprout_28 {l : Launch} {Z : XZ} {L : Nat → Nat} (n : Nat) (ih_X3_entry_0 : P_X3_entry_0 l Z L n) (ih_X3_group_0 : P_X3_group_0 l Z L n) (ih_X3_group_22 : P_X3_group_22 l Z L n) (ih_X3_sprout_0 : P_X3_sprout_0 l Z L n) (ih_X3_sprout_10 : P_X3_sprout_10 l Z L n) (ih_X3_sprout_28 : P_X3_sprout_28 l Z L n) : P_X3_sprout_28 l Z L (n + 1) := by
  intro d S a1 a2 s0 s1 x S1 H
  have H : b_X3_sprout_28 n d (f_X3_entry n) S a1 a2 s0 s1 = some (x, S1) := H
  unfold b_X3_sprout_28 at H
  obtain ⟨x1, hx2, H⟩ := gv_e H
  refine GV.iadd hx2 dX3_sprout_28 ?_
  refine GA.istore_n dX3_sprout_29 (by decide) ?_
  refine GA.iload_n dX3_sprout_30 rfl ?_
  obtain ⟨hg3, H⟩ := gg_e H
  by_cases c4 : x1 = 0
  · have H := it_t H c4
    refine GA.tableIn (tgt := 60) dX3_sprout_31 hg3 (by omega) (by omega) (by rw [c4] <;> rfl) (by decide) ?_
    refine GA.aload_n dX3_sprout_60 rfl ?_
    refine GA.get xf_X3_12 dX3_sprout_61 gs_494 (by decide) rfl ?_
    refine GA.iconst dX3_sprout_64 ?_
    obtain ⟨hg5, H⟩ := gg_e H
    obtain ⟨x6, S_7, hc8, H⟩ := gc_e H
    refine GA.callV (m_X10_add hc8) xs_X3_45 dX3_sprout_65 (gsT (by decide)) (by decide) rfl rfl (by omega) (by decide) rfl (Nat.le_of_ble_eq_true rfl) (by omega) (by omega) rfl (fun E S9 hx => hx.elim) (fun v S9 hq => ?_)
    obtain ⟨rfl, rfl⟩ := hq
    cases H
    exact GA.iret rfl dX3_sprout_68 (by omega) (by omega) ⟨rfl, rfl⟩
  have H := it_f H c4
  by_cases c9 : x1 = 1
  · have H := it_t H c9
    refine GA.tableIn (tgt := 69) dX3_sprout_31 hg3 (by omega) (by omega) (by rw [c9] <;> rfl) (by decide) ?_
    refine GA.aload_n dX3_sprout_69 rfl ?_
    refine GA.get xf_X3_12 dX3_sprout_70 gs_494 (by decide) rfl ?_
    refine GA.aload_n dX3_sprout_73 rfl ?_
    refine GA.iconst dX3_sprout_74 ?_
    obtain ⟨hg10, H⟩ := gg_e H
    obtain ⟨x11, S_12, hc13, H⟩ := gc_e H
    refine GA.callV (m_X3_draw hc13) xs_X3_41 dX3_sprout_75 gs_494 (by decide) rfl rfl (by omega) (by decide) rfl (Nat.le_of_ble_eq_true rfl) (by omega) (by omega) rfl (fun E S9 hx => hx.elim) (fun v S9 hq => ?_)
    obtain ⟨rfl, rfl⟩ := hq
    refine GA.iconst dX3_sprout_78 ?_
    obtain ⟨hg14, H⟩ := gg_e H
    refine GV.icmp_ne (tgt := 86) hg14 (by decide) dX3_sprout_79 (by decide) (fun c15 => ?_) (fun c15 => ?_)
    · have H := it_t H c15
      refine GA.iconst dX3_sprout_86 ?_
      obtain ⟨x16, S_17, hc18, H⟩ := gc_e H
      refine GA.callV (m_X10_addTruth hc18) xs_X3_48 dX3_sprout_87 (gsT (by decide)) (by decide) rfl rfl (by omega) (by decide) rfl (Nat.le_of_ble_eq_true rfl) (by omega) (by omega) rfl (fun E S9 hx => hx.elim) (fun v S9 hq => ?_)
      obtain ⟨rfl, rfl⟩ := hq
      cases H
      exact GA.iret rfl dX3_sprout_90 (by omega) (by omega) ⟨rfl, rfl⟩
    · have H := it_f H c15
      refine GA.iconst dX3_sprout_82 ?_
      refine GA.goto (tgt := 87) dX3_sprout_83 (by decide) ?_
      obtain ⟨x19, S_20, hc21, H⟩ := gc_e H
      refine GA.callV (m_X10_addTruth hc21) xs_X3_48 dX3_sprout_87 (gsT (by decide)) (by decide) rfl rfl (by omega) (by decide) rfl (Nat.le_of_ble_eq_true rfl) (by omega) (by omega) rfl (fun E S9 hx => hx.elim) (fun v S9 hq => ?_)
      obtain ⟨rfl, rfl⟩ := hq
      cases H
      exact GA.iret rfl dX3_sprout_90 (by omega) (by omega) ⟨rfl, rfl⟩
  have H := it_f H c9
  by_cases c22 : x1 = 2
  · have H := it_t H c22
    refine GA.tableIn (tgt := 91) dX3_sprout_31 hg3 (by omega) (by omega) (by rw [c22] <;> rfl) (by decide) ?_
    refine GA.aload_n dX3_sprout_91 rfl ?_
    obtain ⟨hg23, H⟩ := gg_e H
    obtain ⟨x24, S_25, hc26, H⟩ := gc_e H
    refine GA.callV (m_X3_number hc26) xs_X3_52 dX3_sprout_92 gs_494 (by decide) rfl rfl (by omega) (by decide) rfl (Nat.le_of_ble_eq_true rfl) (by omega) (by omega) rfl (fun E S9 hx => hx.elim) (fun v S9 hq => ?_)
    obtain ⟨rfl, rfl⟩ := hq
    cases H
    exact GA.iret rfl dX3_sprout_95 (by omega) (by omega) ⟨rfl, rfl⟩
  have H := it_f H c22
  by_cases c27 : x1 = 3
  · have H := it_t H c27
    refine GA.tableIn (tgt := 96) dX3_sprout_31 hg3 (by omega) (by omega) (by rw [c27] <;> rfl) (by decide) ?_
    refine GA.aload_n dX3_sprout_96 rfl ?_
    obtain ⟨hg28, H⟩ := gg_e H
    obtain ⟨x29, S_30, hc31, H⟩ := gc_e H
    refine GA.callV (m_X3_text hc31) xs_X3_56 dX3_sprout_97 gs_494 (by decide) rfl rfl (by omega) (by decide) rfl (Nat.le_of_ble_eq_true rfl) (by omega) (by omega) rfl (fun E S9 hx => hx.elim) (fun v S9 hq => ?_)
    obtain ⟨rfl, rfl⟩ := hq
    cases H
    exact GA.iret rfl dX3_sprout_100 (by omega) (by omega) ⟨rfl, rfl⟩
  have H := it_f H c27
  refine GA.tableOut (tgt := 101) dX3_sprout_31 hg3 (by omega) (by decide) ?_
  refine GA.aload_n dX3_sprout_101 rfl ?_
  refine GA.iload_n dX3_sprout_102 rfl ?_
  refine GA.bipush dX3_sprout_103 rfl ?_
  refine GV.icmp_ge (tgt := 112) hg3 (by decide) dX3_sprout_105 (by decide) (fun c32 => ?_) (fun c32 => ?_)
  · have H := it_t H c32
    refine GA.iconst dX3_sprout_112 ?_
    refine GA.iload_n dX3_sprout_113 rfl ?_
    refine GA.iload_n dX3_sprout_114 rfl ?_
    obtain ⟨hg33, H⟩ := gg_e H
    obtain ⟨x34, S_35, hc36, H⟩ := gc_e H
    refine GA.callV (i_X3_group ih_X3_group_0 hc36) xs_X3_59 dX3_sprout_115 gs_494 (by decide) rfl rfl (by omega) (by decide) rfl (Nat.le_of_ble_eq_true rfl) (by omega) (by omega) rfl (fun E S9 hx => hx.elim) (fun v S9 hq => ?_)
    obtain ⟨rfl, rfl⟩ := hq
    cases H
    exact GA.iret rfl dX3_sprout_118 (by omega) (by omega) ⟨rfl, rfl⟩
  · have H := it_f H c32
    refine GA.iconst dX3_sprout_108 ?_
    refine GA.goto (tgt := 113) dX3_sprout_109 (by decide) ?_
    refine GA.iload_n dX3_sprout_113 rfl ?_
    refine GA.iload_n dX3_sprout_114 rfl ?_
    obtain ⟨hg37, H⟩ := gg_e H
    obtain ⟨x38, S_39, hc40, H⟩ := gc_e H
    refine GA.callV (i_X3_group ih_X3_group_0 hc40) xs_X3_59 dX3_sprout_115 gs_494 (by decide) rfl rfl (by omega) (by decide) rfl (Nat.le_of_ble_eq_true rfl) (by omega) (by omega) rfl (fun E S9 hx => hx.elim) (fun v S9 hq => ?_)
    obtain ⟨rfl, rfl⟩ := hq
    cases H
    exact GA.iret rfl dX3_sprout_118 (by omega) (by omega) ⟨rfl, rfl⟩
theorem g_X3_entry {l : Launch} {Z : XZ} {L : Nat → Nat} : ∀ n, P_X3_entry_0 l Z L n ∧ P_X3_group_0 l Z L n ∧ P_X3_group_22 l Z L n ∧ P_X3_sprout_0 l Z L n ∧ P_X3_sprout_10 l Z L n ∧ P_X3_sprout_28 l Z L n
  | 0 => ⟨fun _ _ _ _ _ _ _ H => no_e H, fun _ _ _ _ _ _ _ H => no_e H, fun _ _ _ _ _ _ _ _ _ _ H => no_e H, fun _ _ _ _ _ _ H => no_e H, fun _ _ _ _ _ _ H => no_e H, fun _ _ _ _ _ _ _ _ H => no_e H⟩
  | n + 1 => have ⟨h0, h1, h2, h3, h4, h5⟩ := g_X3_entry (l := l) (Z := Z) (L := L) n
    ⟨t_X3_entry_0 n h0 h1 h2 h3 h4 h5, t_X3_group_0 n h0 h1 h2 h3 h4 h5, t_X3_group_22 n h0 h1 h2 h3 h4 h5, t_X3_sprout_0 n h0 h1 h2 h3 h4 h5, t_X3_sprout_10 n h0 h1 h2 h3 h4 h5, t_X3_sprout_28 n h0 h1 h2 h3 h4 h5⟩
theorem m_X3_entry {l : Launch} {Z : XZ} {L : Nat → Nat} {n d : Nat} {S : GS} {a1 : Int} {a2 : Int} {a3 : Int} {x : Int} {S1 : GS} (H : f_X3_entry n d 0 S [a1, a2, a3] = some (x, S1)) : GM l Z L yX3_entry cX3_entry 7 none [] d 0 0 [.ref (L 494), .int (J a1), .int (J a2), .int (J a3)] S (fun v S' => v = none ∧ S1 = S') (fun _ _ => False) := GM.of (by decide) (Nat.le_of_ble_eq_true rfl) ((g_X3_entry n).1 _ _ _ _ _ _ _ H)
theorem m_X3_group {l : Launch} {Z : XZ} {L : Nat → Nat} {n d : Nat} {S : GS} {a1 : Int} {a2 : Int} {a3 : Int} {x : Int} {S1 : GS} (H : f_X3_entry n d 10000 S [a1, a2, a3] = some (x, S1)) : GM l Z L yX3_group cX3_group 7 (some .int) [] d 0 0 [.ref (L 494), .int (J a1), .int (J a2), .int (J a3)] S (fun v S' => v = some (.int (J x)) ∧ S1 = S') (fun _ _ => False) := GM.of (by decide) (Nat.le_of_ble_eq_true rfl) ((g_X3_entry n).2.1 _ _ _ _ _ _ _ H)
theorem m_X3_sprout {l : Launch} {Z : XZ} {L : Nat → Nat} {n d : Nat} {S : GS} {a1 : Int} {a2 : Int} {x : Int} {S1 : GS} (H : f_X3_entry n d 20000 S [a1, a2] = some (x, S1)) : GM l Z L yX3_sprout cX3_sprout 4 (some .int) [] d 0 0 [.ref (L 494), .int (J a1), .int (J a2)] S (fun v S' => v = some (.int (J x)) ∧ S1 = S') (fun _ _ => False) := GM.of (by decide) (Nat.le_of_ble_eq_true rfl) ((g_X3_entry n).2.2.2.1 _ _ _ _ _ _ H)

def P_X3_result_0 (l : Launch) (Z : XZ) (L : Nat → Nat) (n : Nat) : Prop := ∀ (d : Nat) (S : GS) (x : Int) (S1 : GS), f_X3_result n d 0 S [] = some (x, S1) → GA l Z L yX3_result cX3_result 1 (some (.object "Treeletter$Tree")) [] d 0 0 (fun v S' => v = some (.ref (L x.toNat)) ∧ S1 = S') (fun _ _ => False) 0 (gl [(0, .ref (L 494))]) [] S 0 0
theorem i_X3_result {l : Launch} {Z : XZ} {L : Nat → Nat} {n : Nat} (ih : P_X3_result_0 l Z L n) {d : Nat} {S : GS} {x : Int} {S1 : GS} (H : f_X3_result n d 0 S [] = some (x, S1)) : GM l Z L yX3_result cX3_result 1 (some (.object "Treeletter$Tree")) [] d 0 0 [.ref (L 494)] S (fun v S' => v = some (.ref (L x.toNat)) ∧ S1 = S') (fun _ _ => False) := GM.of (by decide) (Nat.le_of_ble_eq_true rfl) (ih _ _ _ _ H)
set_option maxHeartbeats 4000000 in
set_option maxRecDepth 20000 in
theorem t_X3_result_0 {l : Launch} {Z : XZ} {L : Nat → Nat} (n : Nat) (ih_X3_result_0 : P_X3_result_0 l Z L n) : P_X3_result_0 l Z L (n + 1) := by
  intro d S  x S1 H
  have H : b_X3_result_0 n d (f_X3_result n) S  = some (x, S1) := H
  unfold b_X3_result_0 at H
  refine GA.aload_n dX3_result_0 rfl ?_
  refine GA.get xf_X3_12 dX3_result_1 gs_494 (by decide) rfl ?_
  cases H
  exact GA.aret rfl dX3_result_4 (by omega) (by omega) ⟨rfl, rfl⟩
theorem g_X3_result {l : Launch} {Z : XZ} {L : Nat → Nat} : ∀ n, P_X3_result_0 l Z L n
  | 0 => fun _ _ _ _ H => no_e H
  | n + 1 => t_X3_result_0 n (g_X3_result n)
theorem m_X3_result {l : Launch} {Z : XZ} {L : Nat → Nat} {n d : Nat} {S : GS} {x : Int} {S1 : GS} (H : f_X3_result n d 0 S [] = some (x, S1)) : GM l Z L yX3_result cX3_result 1 (some (.object "Treeletter$Tree")) [] d 0 0 [.ref (L 494)] S (fun v S' => v = some (.ref (L x.toNat)) ∧ S1 = S') (fun _ _ => False) := GM.of (by decide) (Nat.le_of_ble_eq_true rfl) ((g_X3_result n) _ _ _ _ H)

