def P_X12_childByWord_0 (l : Launch) (Z : XZ) (L : Nat → Nat) (n : Nat) : Prop := ∀ (hL : L 700 = 1), ∀ (d : Nat) (S : GS) (a1 : Int) (a2 : Int) (x : Int) (S1 : GS), f_X12_childByWord n d 0 S [a1, a2] = some (x, S1) → GA l Z L yX12_childByWord cX12_childByWord 7 (some .int) [] d 0 0 (fun v S' => v = some (.int (J x)) ∧ S1 = S') (fun _ _ => False) 0 (gl [(0, .ref (L 500)), (1, .int (J a1)), (2, .int (J a2))]) [] S 0 0
def P_X12_childByWord_7 (l : Launch) (Z : XZ) (L : Nat → Nat) (n : Nat) : Prop := ∀ (hL : L 700 = 1), ∀ (d : Nat) (S : GS) (a1 : Int) (a2 : Int) (a3 : Int) (a4 : Int) (x : Int) (S1 : GS), f_X12_childByWord n d 7 S [a1, a2, a3, a4] = some (x, S1) → GA l Z L yX12_childByWord cX12_childByWord 7 (some .int) [] d 0 0 (fun v S' => v = some (.int (J x)) ∧ S1 = S') (fun _ _ => False) 7 (gl [(0, .ref (L 500)), (1, .int (J a1)), (2, .int (J a2)), (3, .int (J a3)), (4, .int (J a4))]) [] S 0 0
def P_X12_childByWord_43 (l : Launch) (Z : XZ) (L : Nat → Nat) (n : Nat) : Prop := ∀ (hL : L 700 = 1), ∀ (d : Nat) (S : GS) (a1 : Int) (a2 : Int) (a3 : Int) (a4 : Int) (a5 : Int) (a6 : Int) (x : Int) (S1 : GS), f_X12_childByWord n d 43 S [a1, a2, a3, a4, a5, a6] = some (x, S1) → GA l Z L yX12_childByWord cX12_childByWord 7 (some .int) [] d 0 0 (fun v S' => v = some (.int (J x)) ∧ S1 = S') (fun _ _ => False) 43 (gl [(0, .ref (L 500)), (1, .int (J a1)), (2, .int (J a2)), (3, .int (J a3)), (4, .int (J a4)), (5, .int (J a5)), (6, .int (J a6))]) [] S 0 0
def P_X12_childByWord_91 (l : Launch) (Z : XZ) (L : Nat → Nat) (n : Nat) : Prop := ∀ (hL : L 700 = 1), ∀ (d : Nat) (S : GS) (a1 : Int) (a2 : Int) (a3 : Int) (a4 : Int) (a5 : Int) (x : Int) (S1 : GS), f_X12_childByWord n d 91 S [a1, a2, a3, a4, a5] = some (x, S1) → GA l Z L yX12_childByWord cX12_childByWord 7 (some .int) [] d 0 0 (fun v S' => v = some (.int (J x)) ∧ S1 = S') (fun _ _ => False) 91 (gl [(0, .ref (L 500)), (1, .int (J a1)), (2, .int (J a2)), (3, .int (J a3)), (4, .int (J a4)), (5, .int (J a5))]) [] S 0 0
theorem i_X12_childByWord {l : Launch} {Z : XZ} {L : Nat → Nat} (hL : L 700 = 1) {n : Nat} (ih : P_X12_childByWord_0 l Z L n) {d : Nat} {S : GS} {a1 : Int} {a2 : Int} {x : Int} {S1 : GS} (H : f_X12_childByWord n d 0 S [a1, a2] = some (x, S1)) : GM l Z L yX12_childByWord cX12_childByWord 7 (some .int) [] d 0 0 [.ref (L 500), .int (J a1), .int (J a2)] S (fun v S' => v = some (.int (J x)) ∧ S1 = S') (fun _ _ => False) := GM.of (by decide) (Nat.le_of_ble_eq_true rfl) (ih hL _ _ _ _ _ _ H)
set_option maxHeartbeats 4000000 in
set_option maxRecDepth 20000 in
theorem t_X12_childByWord_0 {l : Launch} {Z : XZ} {L : Nat → Nat} (n : Nat) (ih_X12_childByWord_0 : P_X12_childByWord_0 l Z L n) (ih_X12_childByWord_7 : P_X12_childByWord_7 l Z L n) (ih_X12_childByWord_43 : P_X12_childByWord_43 l Z L n) (ih_X12_childByWord_91 : P_X12_childByWord_91 l Z L n) : P_X12_childByWord_0 l Z L (n + 1) := by
  intro hL d S a1 a2 x S1 H
  have H : b_X12_childByWord_0 n d (f_X12_childByWord n) S a1 a2 = some (x, S1) := H
  unfold b_X12_childByWord_0 at H
  refine GA.iload_n dX12_childByWord_0 rfl ?_
  refine GA.iconst dX12_childByWord_1 ?_
  obtain ⟨x1, hx2, H⟩ := gv_e H
  refine GV.iadd hx2 dX12_childByWord_2 ?_
  refine GA.istore_n dX12_childByWord_3 (by decide) ?_
  refine GA.iconst dX12_childByWord_4 ?_
  refine GA.istore dX12_childByWord_5 (by decide) ?_
  refine GA.locals [(0, .ref (L 500)), (1, .int (J a1)), (2, .int (J a2)), (3, .int (J x1)), (4, .int (J 0))] ⟨rfl, rfl, rfl, rfl, rfl, trivial⟩ ?_
  exact ih_X12_childByWord_7 hL _ _ (a1) (a2) (x1) (0) _ _ H
set_option maxHeartbeats 4000000 in
set_option maxRecDepth 20000 in
theorem t_X12_childByWord_7 {l : Launch} {Z : XZ} {L : Nat → Nat} (n : Nat) (ih_X12_childByWord_0 : P_X12_childByWord_0 l Z L n) (ih_X12_childByWord_7 : P_X12_childByWord_7 l Z L n) (ih_X12_childByWord_43 : P_X12_childByWord_43 l Z L n) (ih_X12_childByWord_91 : P_X12_childByWord_91 l Z L n) : P_X12_childByWord_7 l Z L (n + 1) := by
  intro hL d S a1 a2 a3 a4 x S1 H
  have H : b_X12_childByWord_7 n d (f_X12_childByWord n) S a1 a2 a3 a4 = some (x, S1) := H
  unfold b_X12_childByWord_7 at H
  refine GA.iload dX12_childByWord_7 rfl ?_
  refine GA.aload_n dX12_childByWord_9 rfl ?_
  refine GA.iload_n dX12_childByWord_10 rfl ?_
  refine GA.iload_n dX12_childByWord_11 rfl ?_
  refine GA.iconst dX12_childByWord_12 ?_
  obtain ⟨hg1, H⟩ := gg_e H
  obtain ⟨x2, S_3, hc4, H⟩ := gc_e H
  refine GA.callV (m_X12_part hL hc4) xs_X12_36 dX12_childByWord_13 (gs_500 hL) (by decide) rfl rfl (by omega) (by decide) rfl (Nat.le_of_ble_eq_true rfl) (by omega) (by omega) rfl (fun E S9 hx => hx.elim) (fun v S9 hq => ?_)
  obtain ⟨rfl, rfl⟩ := hq
  obtain ⟨hg5, H⟩ := gg_e H
  obtain ⟨hg6, H⟩ := gg_e H
  refine GV.icmp_ge (tgt := 111) hg5 hg6 dX12_childByWord_16 (by decide) (fun c7 => ?_) (fun c7 => ?_)
  · have H := it_t H c7
    refine GA.iconst dX12_childByWord_111 ?_
    cases H
    exact GA.iret rfl dX12_childByWord_112 (by omega) (by omega) ⟨rfl, rfl⟩
  · have H := it_f H c7
    refine GA.aload_n dX12_childByWord_19 rfl ?_
    refine GA.iload_n dX12_childByWord_20 rfl ?_
    refine GA.iload_n dX12_childByWord_21 rfl ?_
    refine GA.iconst dX12_childByWord_22 ?_
    obtain ⟨x8, S_9, hc10, H⟩ := gc_e H
    refine GA.callV (m_X12_part hL hc10) xs_X12_36 dX12_childByWord_23 (gs_500 hL) (by decide) rfl rfl (by omega) (by decide) rfl (Nat.le_of_ble_eq_true rfl) (by omega) (by omega) rfl (fun E S9 hx => hx.elim) (fun v S9 hq => ?_)
    obtain ⟨rfl, rfl⟩ := hq
    refine GA.aload_n dX12_childByWord_26 rfl ?_
    obtain ⟨x11, hx12, H⟩ := gv_e H
    refine GV.getI hx12 xf_X12_66 dX12_childByWord_27 (gs_500 hL) (by decide) rfl ?_
    obtain ⟨hg13, H⟩ := gg_e H
    obtain ⟨hg14, H⟩ := gg_e H
    refine GV.icmp_ne (tgt := 37) hg13 hg14 dX12_childByWord_30 (by decide) (fun c15 => ?_) (fun c15 => ?_)
    · have H := it_t H c15
      refine GA.iconst dX12_childByWord_37 ?_
      refine GA.istore dX12_childByWord_38 (by decide) ?_
      refine GA.iconst dX12_childByWord_40 ?_
      refine GA.istore dX12_childByWord_41 (by decide) ?_
      refine GA.locals [(0, .ref (L 500)), (1, .int (J a1)), (2, .int (J a2)), (3, .int (J a3)), (4, .int (J a4)), (5, .int (J 0)), (6, .int (J 0))] ⟨rfl, rfl, rfl, rfl, rfl, rfl, rfl, trivial⟩ ?_
      exact ih_X12_childByWord_43 hL _ _ (a1) (a2) (a3) (a4) (0) (0) _ _ H
    · have H := it_f H c15
      refine GA.iconst dX12_childByWord_33 ?_
      refine GA.goto (tgt := 38) dX12_childByWord_34 (by decide) ?_
      refine GA.istore dX12_childByWord_38 (by decide) ?_
      refine GA.iconst dX12_childByWord_40 ?_
      refine GA.istore dX12_childByWord_41 (by decide) ?_
      refine GA.locals [(0, .ref (L 500)), (1, .int (J a1)), (2, .int (J a2)), (3, .int (J a3)), (4, .int (J a4)), (5, .int (J 1)), (6, .int (J 0))] ⟨rfl, rfl, rfl, rfl, rfl, rfl, rfl, trivial⟩ ?_
      exact ih_X12_childByWord_43 hL _ _ (a1) (a2) (a3) (a4) (1) (0) _ _ H
set_option maxHeartbeats 4000000 in
set_option maxRecDepth 20000 in
theorem t_X12_childByWord_43 {l : Launch} {Z : XZ} {L : Nat → Nat} (n : Nat) (ih_X12_childByWord_0 : P_X12_childByWord_0 l Z L n) (ih_X12_childByWord_7 : P_X12_childByWord_7 l Z L n) (ih_X12_childByWord_43 : P_X12_childByWord_43 l Z L n) (ih_X12_childByWord_91 : P_X12_childByWord_91 l Z L n) : P_X12_childByWord_43 l Z L (n + 1) := by
  intro hL d S a1 a2 a3 a4 a5 a6 x S1 H
  have H : b_X12_childByWord_43 n d (f_X12_childByWord n) S a1 a2 a3 a4 a5 a6 = some (x, S1) := H
  unfold b_X12_childByWord_43 at H
  refine GA.iload dX12_childByWord_43 rfl ?_
  refine GA.aload_n dX12_childByWord_45 rfl ?_
  obtain ⟨x1, hx2, H⟩ := gv_e H
  refine GV.getI hx2 xf_X12_66 dX12_childByWord_46 (gs_500 hL) (by decide) rfl ?_
  obtain ⟨hg3, H⟩ := gg_e H
  obtain ⟨hg4, H⟩ := gg_e H
  refine GV.icmp_ge (tgt := 91) hg3 hg4 dX12_childByWord_49 (by decide) (fun c5 => ?_) (fun c5 => ?_)
  · have H := it_t H c5
    refine GA.locals [(0, .ref (L 500)), (1, .int (J a1)), (2, .int (J a2)), (3, .int (J a3)), (4, .int (J a4)), (5, .int (J a5))] ⟨rfl, rfl, rfl, rfl, rfl, rfl, trivial⟩ ?_
    exact ih_X12_childByWord_91 hL _ _ (a1) (a2) (a3) (a4) (a5) _ _ H
  · have H := it_f H c5
    refine GA.iload dX12_childByWord_52 rfl ?_
    obtain ⟨hg6, H⟩ := gg_e H
    refine GV.if_eq (tgt := 91) hg6 dX12_childByWord_54 (by decide) (fun c7 => ?_) (fun c7 => ?_)
    · have H := it_t H c7
      refine GA.locals [(0, .ref (L 500)), (1, .int (J a1)), (2, .int (J a2)), (3, .int (J a3)), (4, .int (J a4)), (5, .int (J a5))] ⟨rfl, rfl, rfl, rfl, rfl, rfl, trivial⟩ ?_
      exact ih_X12_childByWord_91 hL _ _ (a1) (a2) (a3) (a4) (a5) _ _ H
    · have H := it_f H c7
      refine GA.aload_n dX12_childByWord_57 rfl ?_
      refine GA.iload_n dX12_childByWord_58 rfl ?_
      refine GA.iload_n dX12_childByWord_59 rfl ?_
      refine GA.bipush dX12_childByWord_60 rfl ?_
      refine GA.iload dX12_childByWord_62 rfl ?_
      obtain ⟨x8, hx9, H⟩ := gv_e H
      refine GV.iadd hx9 dX12_childByWord_64 ?_
      obtain ⟨hg10, H⟩ := gg_e H
      obtain ⟨x11, S_12, hc13, H⟩ := gc_e H
      refine GA.callV (m_X12_part hL hc13) xs_X12_36 dX12_childByWord_65 (gs_500 hL) (by decide) rfl rfl (by omega) (by decide) rfl (Nat.le_of_ble_eq_true rfl) (by omega) (by omega) rfl (fun E S9 hx => hx.elim) (fun v S9 hq => ?_)
      obtain ⟨rfl, rfl⟩ := hq
      refine GA.aload_n dX12_childByWord_68 rfl ?_
      refine GA.get xf_X12_69 dX12_childByWord_69 (gs_500 hL) (by decide) rfl ?_
      refine GA.iload dX12_childByWord_72 rfl ?_
      obtain ⟨hg14, H⟩ := gg_e H
      obtain ⟨x15, hx16, H⟩ := gv_e H
      refine GV.iald hg14 hx16 dX12_childByWord_74 (gs_507 hL) (by decide) ?_
      obtain ⟨hg17, H⟩ := gg_e H
      obtain ⟨hg18, H⟩ := gg_e H
      refine GV.icmp_ne (tgt := 82) hg17 hg18 dX12_childByWord_75 (by decide) (fun c19 => ?_) (fun c19 => ?_)
      · have H := it_t H c19
        refine GA.iconst dX12_childByWord_82 ?_
        refine GA.istore dX12_childByWord_83 (by decide) ?_
        obtain ⟨x20, hx21, H⟩ := gv_e H
        refine GV.iinc hx21 dX12_childByWord_85 rfl (by decide) ?_
        refine GA.goto (tgt := 43) dX12_childByWord_88 (by decide) ?_
        refine GA.locals [(0, .ref (L 500)), (1, .int (J a1)), (2, .int (J a2)), (3, .int (J a3)), (4, .int (J a4)), (5, .int (J 0)), (6, .int (J x20))] ⟨rfl, rfl, rfl, rfl, rfl, rfl, rfl, trivial⟩ ?_
        exact ih_X12_childByWord_43 hL _ _ (a1) (a2) (a3) (a4) (0) (x20) _ _ H
      · have H := it_f H c19
        refine GA.iconst dX12_childByWord_78 ?_
        refine GA.goto (tgt := 83) dX12_childByWord_79 (by decide) ?_
        refine GA.istore dX12_childByWord_83 (by decide) ?_
        obtain ⟨x22, hx23, H⟩ := gv_e H
        refine GV.iinc hx23 dX12_childByWord_85 rfl (by decide) ?_
        refine GA.goto (tgt := 43) dX12_childByWord_88 (by decide) ?_
        refine GA.locals [(0, .ref (L 500)), (1, .int (J a1)), (2, .int (J a2)), (3, .int (J a3)), (4, .int (J a4)), (5, .int (J 1)), (6, .int (J x22))] ⟨rfl, rfl, rfl, rfl, rfl, rfl, rfl, trivial⟩ ?_
        exact ih_X12_childByWord_43 hL _ _ (a1) (a2) (a3) (a4) (1) (x22) _ _ H
set_option maxHeartbeats 4000000 in
set_option maxRecDepth 20000 in
theorem t_X12_childByWord_91 {l : Launch} {Z : XZ} {L : Nat → Nat} (n : Nat) (ih_X12_childByWord_0 : P_X12_childByWord_0 l Z L n) (ih_X12_childByWord_7 : P_X12_childByWord_7 l Z L n) (ih_X12_childByWord_43 : P_X12_childByWord_43 l Z L n) (ih_X12_childByWord_91 : P_X12_childByWord_91 l Z L n) : P_X12_childByWord_91 l Z L (n + 1) := by
  intro hL d S a1 a2 a3 a4 a5 x S1 H
  have H : b_X12_childByWord_91 n d (f_X12_childByWord n) S a1 a2 a3 a4 a5 = some (x, S1) := H
  unfold b_X12_childByWord_91 at H
  refine GA.iload dX12_childByWord_91 rfl ?_
  obtain ⟨hg1, H⟩ := gg_e H
  refine GV.if_eq (tgt := 98) hg1 dX12_childByWord_93 (by decide) (fun c2 => ?_) (fun c2 => ?_)
  · have H := it_t H c2
    refine GA.aload_n dX12_childByWord_98 rfl ?_
    refine GA.iload_n dX12_childByWord_99 rfl ?_
    refine GA.iload_n dX12_childByWord_100 rfl ?_
    obtain ⟨hg3, H⟩ := gg_e H
    obtain ⟨x4, S_5, hc6, H⟩ := gc_e H
    refine GA.callV (m_X12_endOf hL hc6) xs_X12_49 dX12_childByWord_101 (gs_500 hL) (by decide) rfl rfl (by omega) (by decide) rfl (Nat.le_of_ble_eq_true rfl) (by omega) (by omega) rfl (fun E S9 hx => hx.elim) (fun v S9 hq => ?_)
    obtain ⟨rfl, rfl⟩ := hq
    refine GA.istore_n dX12_childByWord_104 (by decide) ?_
    obtain ⟨x7, hx8, H⟩ := gv_e H
    refine GV.iinc hx8 dX12_childByWord_105 rfl (by decide) ?_
    refine GA.goto (tgt := 7) dX12_childByWord_108 (by decide) ?_
    refine GA.locals [(0, .ref (L 500)), (1, .int (J a1)), (2, .int (J a2)), (3, .int (J x4)), (4, .int (J x7))] ⟨rfl, rfl, rfl, rfl, rfl, trivial⟩ ?_
    exact ih_X12_childByWord_7 hL _ _ (a1) (a2) (x4) (x7) _ _ H
  · have H := it_f H c2
    refine GA.iload_n dX12_childByWord_96 rfl ?_
    cases H
    exact GA.iret rfl dX12_childByWord_97 (by omega) (by omega) ⟨rfl, rfl⟩
theorem g_X12_childByWord {l : Launch} {Z : XZ} {L : Nat → Nat} : ∀ n, P_X12_childByWord_0 l Z L n ∧ P_X12_childByWord_7 l Z L n ∧ P_X12_childByWord_43 l Z L n ∧ P_X12_childByWord_91 l Z L n
  | 0 => ⟨fun _ _ _ _ _ _ _ H => no_e H, fun _ _ _ _ _ _ _ _ _ H => no_e H, fun _ _ _ _ _ _ _ _ _ _ _ H => no_e H, fun _ _ _ _ _ _ _ _ _ _ H => no_e H⟩
  | n + 1 => have ⟨h0, h1, h2, h3⟩ := g_X12_childByWord (l := l) (Z := Z) (L := L) n
    ⟨t_X12_childByWord_0 n h0 h1 h2 h3, t_X12_childByWord_7 n h0 h1 h2 h3, t_X12_childByWord_43 n h0 h1 h2 h3, t_X12_childByWord_91 n h0 h1 h2 h3⟩
theorem m_X12_childByWord {l : Launch} {Z : XZ} {L : Nat → Nat} (hL : L 700 = 1) {n d : Nat} {S : GS} {a1 : Int} {a2 : Int} {x : Int} {S1 : GS} (H : f_X12_childByWord n d 0 S [a1, a2] = some (x, S1)) : GM l Z L yX12_childByWord cX12_childByWord 7 (some .int) [] d 0 0 [.ref (L 500), .int (J a1), .int (J a2)] S (fun v S' => v = some (.int (J x)) ∧ S1 = S') (fun _ _ => False) := GM.of (by decide) (Nat.le_of_ble_eq_true rfl) ((g_X12_childByWord n).1 hL _ _ _ _ _ _ H)

def P_X12_childNamed_0 (l : Launch) (Z : XZ) (L : Nat → Nat) (n : Nat) : Prop := ∀ (hL : L 700 = 1), ∀ (d : Nat) (S : GS) (a1 : Int) (a2 : Int) (a3 : Int) (x : Int) (S1 : GS), f_X12_childNamed n d 0 S [a1, a2, a3] = some (x, S1) → GA l Z L yX12_childNamed cX12_childNamed 5 (some .int) [] d 0 0 (fun v S' => v = some (.int (J x)) ∧ S1 = S') (fun _ _ => False) 0 (gl [(0, .ref (L 500)), (1, .int (J a1)), (2, .int (J a2)), (3, .long (K a3))]) [] S 0 0
theorem i_X12_childNamed {l : Launch} {Z : XZ} {L : Nat → Nat} (hL : L 700 = 1) {n : Nat} (ih : P_X12_childNamed_0 l Z L n) {d : Nat} {S : GS} {a1 : Int} {a2 : Int} {a3 : Int} {x : Int} {S1 : GS} (H : f_X12_childNamed n d 0 S [a1, a2, a3] = some (x, S1)) : GM l Z L yX12_childNamed cX12_childNamed 5 (some .int) [] d 0 0 [.ref (L 500), .int (J a1), .int (J a2), .long (K a3)] S (fun v S' => v = some (.int (J x)) ∧ S1 = S') (fun _ _ => False) := GM.of (by decide) (Nat.le_of_ble_eq_true rfl) (ih hL _ _ _ _ _ _ _ H)
set_option maxHeartbeats 4000000 in
set_option maxRecDepth 20000 in
theorem t_X12_childNamed_0 {l : Launch} {Z : XZ} {L : Nat → Nat} (n : Nat) (ih_X12_childNamed_0 : P_X12_childNamed_0 l Z L n) : P_X12_childNamed_0 l Z L (n + 1) := by
  intro hL d S a1 a2 a3 x S1 H
  have H : b_X12_childNamed_0 n d (f_X12_childNamed n) S a1 a2 a3 = some (x, S1) := H
  unfold b_X12_childNamed_0 at H
  refine GA.aload_n dX12_childNamed_0 rfl ?_
  refine GA.lload_n dX12_childNamed_1 rfl ?_
  obtain ⟨hg1, H⟩ := gg_e H
  obtain ⟨x2, S_3, hc4, H⟩ := gc_e H
  refine GA.callV (m_X12_says hL hc4) xs_X12_74 dX12_childNamed_2 (gs_500 hL) (by decide) rfl rfl (by omega) (by decide) rfl (Nat.le_of_ble_eq_true rfl) (by omega) (by omega) rfl (fun E S9 hx => hx.elim) (fun v S9 hq => ?_)
  obtain ⟨rfl, rfl⟩ := hq
  refine GA.aload_n dX12_childNamed_5 rfl ?_
  refine GA.iload_n dX12_childNamed_6 rfl ?_
  refine GA.iload_n dX12_childNamed_7 rfl ?_
  obtain ⟨x5, S_6, hc7, H⟩ := gc_e H
  refine GA.callV (m_X12_childByWord hL hc7) xs_X12_78 dX12_childNamed_8 (gs_500 hL) (by decide) rfl rfl (by omega) (by decide) rfl (Nat.le_of_ble_eq_true rfl) (by omega) (by omega) rfl (fun E S9 hx => hx.elim) (fun v S9 hq => ?_)
  obtain ⟨rfl, rfl⟩ := hq
  cases H
  exact GA.iret rfl dX12_childNamed_11 (by omega) (by omega) ⟨rfl, rfl⟩
theorem g_X12_childNamed {l : Launch} {Z : XZ} {L : Nat → Nat} : ∀ n, P_X12_childNamed_0 l Z L n
  | 0 => fun _ _ _ _ _ _ _ _ H => no_e H
  | n + 1 => t_X12_childNamed_0 n (g_X12_childNamed n)
theorem m_X12_childNamed {l : Launch} {Z : XZ} {L : Nat → Nat} (hL : L 700 = 1) {n d : Nat} {S : GS} {a1 : Int} {a2 : Int} {a3 : Int} {x : Int} {S1 : GS} (H : f_X12_childNamed n d 0 S [a1, a2, a3] = some (x, S1)) : GM l Z L yX12_childNamed cX12_childNamed 5 (some .int) [] d 0 0 [.ref (L 500), .int (J a1), .int (J a2), .long (K a3)] S (fun v S' => v = some (.int (J x)) ∧ S1 = S') (fun _ _ => False) := GM.of (by decide) (Nat.le_of_ble_eq_true rfl) ((g_X12_childNamed n) hL _ _ _ _ _ _ _ H)

def P_X12_isText_0 (l : Launch) (Z : XZ) (L : Nat → Nat) (n : Nat) : Prop := ∀ (hL : L 700 = 1), ∀ (d : Nat) (S : GS) (a1 : Int) (a2 : Int) (a3 : Int) (x : Int) (S1 : GS), f_X12_isText n d 0 S [a1, a2, a3] = some (x, S1) → GA l Z L yX12_isText cX12_isText 7 (some .boolean) [] d 0 0 (fun v S' => v = some (.int (J x)) ∧ S1 = S') (fun _ _ => False) 0 (gl [(0, .ref (L 500)), (1, .int (J a1)), (2, .int (J a2)), (3, .long (K a3))]) [] S 0 0
def P_X12_isText_40 (l : Launch) (Z : XZ) (L : Nat → Nat) (n : Nat) : Prop := ∀ (hL : L 700 = 1), ∀ (d : Nat) (S : GS) (a1 : Int) (a2 : Int) (a5 : Int) (a6 : Int) (x : Int) (S1 : GS), f_X12_isText n d 40 S [a1, a2, a5, a6] = some (x, S1) → GA l Z L yX12_isText cX12_isText 7 (some .boolean) [] d 0 0 (fun v S' => v = some (.int (J x)) ∧ S1 = S') (fun _ _ => False) 40 (gl [(0, .ref (L 500)), (1, .int (J a1)), (2, .int (J a2)), (5, .int (J a5)), (6, .int (J a6))]) [] S 0 0
theorem i_X12_isText {l : Launch} {Z : XZ} {L : Nat → Nat} (hL : L 700 = 1) {n : Nat} (ih : P_X12_isText_0 l Z L n) {d : Nat} {S : GS} {a1 : Int} {a2 : Int} {a3 : Int} {x : Int} {S1 : GS} (H : f_X12_isText n d 0 S [a1, a2, a3] = some (x, S1)) : GM l Z L yX12_isText cX12_isText 7 (some .boolean) [] d 0 0 [.ref (L 500), .int (J a1), .int (J a2), .long (K a3)] S (fun v S' => v = some (.int (J x)) ∧ S1 = S') (fun _ _ => False) := GM.of (by decide) (Nat.le_of_ble_eq_true rfl) (ih hL _ _ _ _ _ _ _ H)
set_option maxHeartbeats 4000000 in
set_option maxRecDepth 20000 in
theorem t_X12_isText_0 {l : Launch} {Z : XZ} {L : Nat → Nat} (n : Nat) (ih_X12_isText_0 : P_X12_isText_0 l Z L n) (ih_X12_isText_40 : P_X12_isText_40 l Z L n) : P_X12_isText_0 l Z L (n + 1) := by
  intro hL d S a1 a2 a3 x S1 H
  have H : b_X12_isText_0 n d (f_X12_isText n) S a1 a2 a3 = some (x, S1) := H
  unfold b_X12_isText_0 at H
  refine GA.aload_n dX12_isText_0 rfl ?_
  refine GA.lload_n dX12_isText_1 rfl ?_
  obtain ⟨hg1, H⟩ := gg_e H
  obtain ⟨x2, S_3, hc4, H⟩ := gc_e H
  refine GA.callV (m_X12_says hL hc4) xs_X12_74 dX12_isText_2 (gs_500 hL) (by decide) rfl rfl (by omega) (by decide) rfl (Nat.le_of_ble_eq_true rfl) (by omega) (by omega) rfl (fun E S9 hx => hx.elim) (fun v S9 hq => ?_)
  obtain ⟨rfl, rfl⟩ := hq
  refine GA.aload_n dX12_isText_5 rfl ?_
  refine GA.iload_n dX12_isText_6 rfl ?_
  refine GA.iload_n dX12_isText_7 rfl ?_
  obtain ⟨x5, S_6, hc7, H⟩ := gc_e H
  refine GA.callV (m_X12_kind hL hc7) xs_X12_52 dX12_isText_8 (gs_500 hL) (by decide) rfl rfl (by omega) (by decide) rfl (Nat.le_of_ble_eq_true rfl) (by omega) (by omega) rfl (fun E S9 hx => hx.elim) (fun v S9 hq => ?_)
  obtain ⟨rfl, rfl⟩ := hq
  refine GA.iconst dX12_isText_11 ?_
  obtain ⟨hg8, H⟩ := gg_e H
  refine GV.icmp_ne (tgt := 34) hg8 (by decide) dX12_isText_12 (by decide) (fun c9 => ?_) (fun c9 => ?_)
  · have H := it_t H c9
    refine GA.iconst dX12_isText_34 ?_
    refine GA.istore dX12_isText_35 (by decide) ?_
    refine GA.iconst dX12_isText_37 ?_
    refine GA.istore dX12_isText_38 (by decide) ?_
    refine GA.locals [(0, .ref (L 500)), (1, .int (J a1)), (2, .int (J a2)), (5, .int (J 0)), (6, .int (J 0))] ⟨rfl, rfl, rfl, rfl, rfl, trivial⟩ ?_
    exact ih_X12_isText_40 hL _ _ (a1) (a2) (0) (0) _ _ H
  · have H := it_f H c9
    refine GA.aload_n dX12_isText_15 rfl ?_
    refine GA.iload_n dX12_isText_16 rfl ?_
    refine GA.iload_n dX12_isText_17 rfl ?_
    refine GA.bipush dX12_isText_18 rfl ?_
    obtain ⟨x10, S_11, hc12, H⟩ := gc_e H
    refine GA.callV (m_X12_part hL hc12) xs_X12_36 dX12_isText_20 (gs_500 hL) (by decide) rfl rfl (by omega) (by decide) rfl (Nat.le_of_ble_eq_true rfl) (by omega) (by omega) rfl (fun E S9 hx => hx.elim) (fun v S9 hq => ?_)
    obtain ⟨rfl, rfl⟩ := hq
    refine GA.aload_n dX12_isText_23 rfl ?_
    obtain ⟨x13, hx14, H⟩ := gv_e H
    refine GV.getI hx14 xf_X12_66 dX12_isText_24 (gs_500 hL) (by decide) rfl ?_
    obtain ⟨hg15, H⟩ := gg_e H
    obtain ⟨hg16, H⟩ := gg_e H
    refine GV.icmp_ne (tgt := 34) hg15 hg16 dX12_isText_27 (by decide) (fun c17 => ?_) (fun c17 => ?_)
    · have H := it_t H c17
      refine GA.iconst dX12_isText_34 ?_
      refine GA.istore dX12_isText_35 (by decide) ?_
      refine GA.iconst dX12_isText_37 ?_
      refine GA.istore dX12_isText_38 (by decide) ?_
      refine GA.locals [(0, .ref (L 500)), (1, .int (J a1)), (2, .int (J a2)), (5, .int (J 0)), (6, .int (J 0))] ⟨rfl, rfl, rfl, rfl, rfl, trivial⟩ ?_
      exact ih_X12_isText_40 hL _ _ (a1) (a2) (0) (0) _ _ H
    · have H := it_f H c17
      refine GA.iconst dX12_isText_30 ?_
      refine GA.goto (tgt := 35) dX12_isText_31 (by decide) ?_
      refine GA.istore dX12_isText_35 (by decide) ?_
      refine GA.iconst dX12_isText_37 ?_
      refine GA.istore dX12_isText_38 (by decide) ?_
      refine GA.locals [(0, .ref (L 500)), (1, .int (J a1)), (2, .int (J a2)), (5, .int (J 1)), (6, .int (J 0))] ⟨rfl, rfl, rfl, rfl, rfl, trivial⟩ ?_
      exact ih_X12_isText_40 hL _ _ (a1) (a2) (1) (0) _ _ H
set_option maxHeartbeats 4000000 in
set_option maxRecDepth 20000 in
theorem t_X12_isText_40 {l : Launch} {Z : XZ} {L : Nat → Nat} (n : Nat) (ih_X12_isText_0 : P_X12_isText_0 l Z L n) (ih_X12_isText_40 : P_X12_isText_40 l Z L n) : P_X12_isText_40 l Z L (n + 1) := by
  intro hL d S a1 a2 a5 a6 x S1 H
  have H : b_X12_isText_40 n d (f_X12_isText n) S a1 a2 a5 a6 = some (x, S1) := H
  unfold b_X12_isText_40 at H
  refine GA.iload dX12_isText_40 rfl ?_
  refine GA.aload_n dX12_isText_42 rfl ?_
  obtain ⟨x1, hx2, H⟩ := gv_e H
  refine GV.getI hx2 xf_X12_66 dX12_isText_43 (gs_500 hL) (by decide) rfl ?_
  obtain ⟨hg3, H⟩ := gg_e H
  obtain ⟨hg4, H⟩ := gg_e H
  refine GV.icmp_ge (tgt := 88) hg3 hg4 dX12_isText_46 (by decide) (fun c5 => ?_) (fun c5 => ?_)
  · have H := it_t H c5
    refine GA.iload dX12_isText_88 rfl ?_
    obtain ⟨hg6, H⟩ := gg_e H
    cases H
    exact GV.zret hg6 rfl dX12_isText_90 (by omega) (by omega) ⟨rfl, rfl⟩
  · have H := it_f H c5
    refine GA.iload dX12_isText_49 rfl ?_
    obtain ⟨hg7, H⟩ := gg_e H
    refine GV.if_eq (tgt := 88) hg7 dX12_isText_51 (by decide) (fun c8 => ?_) (fun c8 => ?_)
    · have H := it_t H c8
      refine GA.iload dX12_isText_88 rfl ?_
      obtain ⟨hg9, H⟩ := gg_e H
      cases H
      exact GV.zret hg9 rfl dX12_isText_90 (by omega) (by omega) ⟨rfl, rfl⟩
    · have H := it_f H c8
      refine GA.aload_n dX12_isText_54 rfl ?_
      refine GA.iload_n dX12_isText_55 rfl ?_
      refine GA.iload_n dX12_isText_56 rfl ?_
      refine GA.bipush dX12_isText_57 rfl ?_
      refine GA.iload dX12_isText_59 rfl ?_
      obtain ⟨x10, hx11, H⟩ := gv_e H
      refine GV.iadd hx11 dX12_isText_61 ?_
      obtain ⟨hg12, H⟩ := gg_e H
      obtain ⟨x13, S_14, hc15, H⟩ := gc_e H
      refine GA.callV (m_X12_part hL hc15) xs_X12_36 dX12_isText_62 (gs_500 hL) (by decide) rfl rfl (by omega) (by decide) rfl (Nat.le_of_ble_eq_true rfl) (by omega) (by omega) rfl (fun E S9 hx => hx.elim) (fun v S9 hq => ?_)
      obtain ⟨rfl, rfl⟩ := hq
      refine GA.aload_n dX12_isText_65 rfl ?_
      refine GA.get xf_X12_69 dX12_isText_66 (gs_500 hL) (by decide) rfl ?_
      refine GA.iload dX12_isText_69 rfl ?_
      obtain ⟨hg16, H⟩ := gg_e H
      obtain ⟨x17, hx18, H⟩ := gv_e H
      refine GV.iald hg16 hx18 dX12_isText_71 (gs_507 hL) (by decide) ?_
      obtain ⟨hg19, H⟩ := gg_e H
      obtain ⟨hg20, H⟩ := gg_e H
      refine GV.icmp_ne (tgt := 79) hg19 hg20 dX12_isText_72 (by decide) (fun c21 => ?_) (fun c21 => ?_)
      · have H := it_t H c21
        refine GA.iconst dX12_isText_79 ?_
        refine GA.istore dX12_isText_80 (by decide) ?_
        obtain ⟨x22, hx23, H⟩ := gv_e H
        refine GV.iinc hx23 dX12_isText_82 rfl (by decide) ?_
        refine GA.goto (tgt := 40) dX12_isText_85 (by decide) ?_
        refine GA.locals [(0, .ref (L 500)), (1, .int (J a1)), (2, .int (J a2)), (5, .int (J 0)), (6, .int (J x22))] ⟨rfl, rfl, rfl, rfl, rfl, trivial⟩ ?_
        exact ih_X12_isText_40 hL _ _ (a1) (a2) (0) (x22) _ _ H
      · have H := it_f H c21
        refine GA.iconst dX12_isText_75 ?_
        refine GA.goto (tgt := 80) dX12_isText_76 (by decide) ?_
        refine GA.istore dX12_isText_80 (by decide) ?_
        obtain ⟨x24, hx25, H⟩ := gv_e H
        refine GV.iinc hx25 dX12_isText_82 rfl (by decide) ?_
        refine GA.goto (tgt := 40) dX12_isText_85 (by decide) ?_
        refine GA.locals [(0, .ref (L 500)), (1, .int (J a1)), (2, .int (J a2)), (5, .int (J 1)), (6, .int (J x24))] ⟨rfl, rfl, rfl, rfl, rfl, trivial⟩ ?_
        exact ih_X12_isText_40 hL _ _ (a1) (a2) (1) (x24) _ _ H
theorem g_X12_isText {l : Launch} {Z : XZ} {L : Nat → Nat} : ∀ n, P_X12_isText_0 l Z L n ∧ P_X12_isText_40 l Z L n
  | 0 => ⟨fun _ _ _ _ _ _ _ _ H => no_e H, fun _ _ _ _ _ _ _ _ _ H => no_e H⟩
  | n + 1 => have ⟨h0, h1⟩ := g_X12_isText (l := l) (Z := Z) (L := L) n
    ⟨t_X12_isText_0 n h0 h1, t_X12_isText_40 n h0 h1⟩
theorem m_X12_isText {l : Launch} {Z : XZ} {L : Nat → Nat} (hL : L 700 = 1) {n d : Nat} {S : GS} {a1 : Int} {a2 : Int} {a3 : Int} {x : Int} {S1 : GS} (H : f_X12_isText n d 0 S [a1, a2, a3] = some (x, S1)) : GM l Z L yX12_isText cX12_isText 7 (some .boolean) [] d 0 0 [.ref (L 500), .int (J a1), .int (J a2), .long (K a3)] S (fun v S' => v = some (.int (J x)) ∧ S1 = S') (fun _ _ => False) := GM.of (by decide) (Nat.le_of_ble_eq_true rfl) ((g_X12_isText n).1 hL _ _ _ _ _ _ _ H)

def P_X12_isKind_0 (l : Launch) (Z : XZ) (L : Nat → Nat) (n : Nat) : Prop := ∀ (hL : L 700 = 1), ∀ (d : Nat) (S : GS) (a1 : Int) (a2 : Int) (x : Int) (S1 : GS), f_X12_isKind n d 0 S [a1, a2] = some (x, S1) → GA l Z L yX12_isKind cX12_isKind 5 (some .boolean) [] d 0 0 (fun v S' => v = some (.int (J x)) ∧ S1 = S') (fun _ _ => False) 0 (gl [(0, .ref (L 500)), (1, .int (J a1)), (2, .int (J a2))]) [] S 0 0
def P_X12_isKind_5 (l : Launch) (Z : XZ) (L : Nat → Nat) (n : Nat) : Prop := ∀ (hL : L 700 = 1), ∀ (d : Nat) (S : GS) (a1 : Int) (a2 : Int) (a3 : Int) (a4 : Int) (x : Int) (S1 : GS), f_X12_isKind n d 5 S [a1, a2, a3, a4] = some (x, S1) → GA l Z L yX12_isKind cX12_isKind 5 (some .boolean) [] d 0 0 (fun v S' => v = some (.int (J x)) ∧ S1 = S') (fun _ _ => False) 5 (gl [(0, .ref (L 500)), (1, .int (J a1)), (2, .int (J a2)), (3, .int (J a3)), (4, .int (J a4))]) [] S 0 0
theorem i_X12_isKind {l : Launch} {Z : XZ} {L : Nat → Nat} (hL : L 700 = 1) {n : Nat} (ih : P_X12_isKind_0 l Z L n) {d : Nat} {S : GS} {a1 : Int} {a2 : Int} {x : Int} {S1 : GS} (H : f_X12_isKind n d 0 S [a1, a2] = some (x, S1)) : GM l Z L yX12_isKind cX12_isKind 5 (some .boolean) [] d 0 0 [.ref (L 500), .int (J a1), .int (J a2)] S (fun v S' => v = some (.int (J x)) ∧ S1 = S') (fun _ _ => False) := GM.of (by decide) (Nat.le_of_ble_eq_true rfl) (ih hL _ _ _ _ _ _ H)
set_option maxHeartbeats 4000000 in
set_option maxRecDepth 20000 in
theorem t_X12_isKind_0 {l : Launch} {Z : XZ} {L : Nat → Nat} (n : Nat) (ih_X12_isKind_0 : P_X12_isKind_0 l Z L n) (ih_X12_isKind_5 : P_X12_isKind_5 l Z L n) : P_X12_isKind_0 l Z L (n + 1) := by
  intro hL d S a1 a2 x S1 H
  have H : b_X12_isKind_0 n d (f_X12_isKind n) S a1 a2 = some (x, S1) := H
  unfold b_X12_isKind_0 at H
  refine GA.iconst dX12_isKind_0 ?_
  refine GA.istore_n dX12_isKind_1 (by decide) ?_
  refine GA.iconst dX12_isKind_2 ?_
  refine GA.istore dX12_isKind_3 (by decide) ?_
  refine GA.locals [(0, .ref (L 500)), (1, .int (J a1)), (2, .int (J a2)), (3, .int (J 0)), (4, .int (J 0))] ⟨rfl, rfl, rfl, rfl, rfl, trivial⟩ ?_
  exact ih_X12_isKind_5 hL _ _ (a1) (a2) (0) (0) _ _ H
set_option maxHeartbeats 4000000 in
set_option maxRecDepth 20000 in
theorem t_X12_isKind_5 {l : Launch} {Z : XZ} {L : Nat → Nat} (n : Nat) (ih_X12_isKind_0 : P_X12_isKind_0 l Z L n) (ih_X12_isKind_5 : P_X12_isKind_5 l Z L n) : P_X12_isKind_5 l Z L (n + 1) := by
  intro hL d S a1 a2 a3 a4 x S1 H
  have H : b_X12_isKind_5 n d (f_X12_isKind n) S a1 a2 a3 a4 = some (x, S1) := H
  unfold b_X12_isKind_5 at H
  refine GA.iload dX12_isKind_5 rfl ?_
  refine GA.bipush dX12_isKind_7 rfl ?_
  obtain ⟨hg1, H⟩ := gg_e H
  refine GV.icmp_ge (tgt := 98) hg1 (by decide) dX12_isKind_9 (by decide) (fun c2 => ?_) (fun c2 => ?_)
  · have H := it_t H c2
    refine GA.iload_n dX12_isKind_98 rfl ?_
    obtain ⟨hg3, H⟩ := gg_e H
    cases H
    exact GV.zret hg3 rfl dX12_isKind_99 (by omega) (by omega) ⟨rfl, rfl⟩
  · have H := it_f H c2
    refine GA.iload_n dX12_isKind_12 rfl ?_
    obtain ⟨hg4, H⟩ := gg_e H
    refine GV.if_ne (tgt := 86) hg4 dX12_isKind_13 (by decide) (fun c5 => ?_) (fun c5 => ?_)
    · have H := it_t H c5
      refine GA.iconst dX12_isKind_86 ?_
      refine GA.goto (tgt := 91) dX12_isKind_87 (by decide) ?_
      refine GA.istore_n dX12_isKind_91 (by decide) ?_
      obtain ⟨x6, hx7, H⟩ := gv_e H
      refine GV.iinc hx7 dX12_isKind_92 rfl (by decide) ?_
      refine GA.goto (tgt := 5) dX12_isKind_95 (by decide) ?_
      refine GA.locals [(0, .ref (L 500)), (1, .int (J a1)), (2, .int (J a2)), (3, .int (J 1)), (4, .int (J x6))] ⟨rfl, rfl, rfl, rfl, rfl, trivial⟩ ?_
      exact ih_X12_isKind_5 hL _ _ (a1) (a2) (1) (x6) _ _ H
    · have H := it_f H c5
      refine GA.aload_n dX12_isKind_16 rfl ?_
      refine GA.aload_n dX12_isKind_17 rfl ?_
      obtain ⟨x8, hx9, H⟩ := gv_e H
      refine GV.getI hx9 xf_X12_802 dX12_isKind_18 (gs_500 hL) (by decide) rfl ?_
      refine GA.iload_n dX12_isKind_21 rfl ?_
      refine GA.aload_n dX12_isKind_22 rfl ?_
      refine GA.get xf_X12_399 dX12_isKind_23 (gs_500 hL) (by decide) rfl ?_
      refine GA.iload dX12_isKind_26 rfl ?_
      obtain ⟨hg10, H⟩ := gg_e H
      obtain ⟨x11, hx12, H⟩ := gv_e H
      refine GV.lald (g := fun k => gl_kinds.getD k 0) hg10 hx12 dX12_isKind_28 (gs_540 hL) (by decide) ?_
      obtain ⟨hg13, H⟩ := gg_e H
      obtain ⟨x14, S_15, hc16, H⟩ := gc_e H
      refine GA.callV (m_X12_isText hL hc16) xs_X12_690 dX12_isKind_29 (gs_500 hL) (by decide) rfl rfl (by omega) (by decide) rfl (Nat.le_of_ble_eq_true rfl) (by omega) (by omega) rfl (fun E S9 hx => hx.elim) (fun v S9 hq => ?_)
      obtain ⟨rfl, rfl⟩ := hq
      obtain ⟨hg17, H⟩ := gg_e H
      refine GV.if_eq (tgt := 90) hg17 dX12_isKind_32 (by decide) (fun c18 => ?_) (fun c18 => ?_)
      · have H := it_t H c18
        refine GA.iconst dX12_isKind_90 ?_
        refine GA.istore_n dX12_isKind_91 (by decide) ?_
        obtain ⟨x19, hx20, H⟩ := gv_e H
        refine GV.iinc hx20 dX12_isKind_92 rfl (by decide) ?_
        refine GA.goto (tgt := 5) dX12_isKind_95 (by decide) ?_
        refine GA.locals [(0, .ref (L 500)), (1, .int (J a1)), (2, .int (J a2)), (3, .int (J 0)), (4, .int (J x19))] ⟨rfl, rfl, rfl, rfl, rfl, trivial⟩ ?_
        exact ih_X12_isKind_5 hL _ _ (a1) (a2) (0) (x19) _ _ H
      · have H := it_f H c18
        refine GA.iload dX12_isKind_35 rfl ?_
        refine GA.bipush dX12_isKind_37 rfl ?_
        refine GV.icmp_ge (tgt := 59) hg1 (by decide) dX12_isKind_39 (by decide) (fun c21 => ?_) (fun c21 => ?_)
        · have H := it_t H c21
          refine GA.aload_n dX12_isKind_59 rfl ?_
          refine GA.aload_n dX12_isKind_60 rfl ?_
          obtain ⟨x22, hx23, H⟩ := gv_e H
          refine GV.getI hx23 xf_X12_805 dX12_isKind_61 (gs_500 hL) (by decide) rfl ?_
          refine GA.iload_n dX12_isKind_64 rfl ?_
          obtain ⟨x24, S_25, hc26, H⟩ := gc_e H
          refine GA.callV (m_X12_kind hL hc26) xs_X12_52 dX12_isKind_65 (gs_500 hL) (by decide) rfl rfl (by omega) (by decide) rfl (Nat.le_of_ble_eq_true rfl) (by omega) (by omega) rfl (fun E S9 hx => hx.elim) (fun v S9 hq => ?_)
          obtain ⟨rfl, rfl⟩ := hq
          refine GA.iconst dX12_isKind_68 ?_
          obtain ⟨hg27, H⟩ := gg_e H
          refine GV.icmp_ne (tgt := 90) hg27 (by decide) dX12_isKind_69 (by decide) (fun c28 => ?_) (fun c28 => ?_)
          · have H := it_t H c28
            refine GA.iconst dX12_isKind_90 ?_
            refine GA.istore_n dX12_isKind_91 (by decide) ?_
            obtain ⟨x29, hx30, H⟩ := gv_e H
            refine GV.iinc hx30 dX12_isKind_92 rfl (by decide) ?_
            refine GA.goto (tgt := 5) dX12_isKind_95 (by decide) ?_
            refine GA.locals [(0, .ref (L 500)), (1, .int (J a1)), (2, .int (J a2)), (3, .int (J 0)), (4, .int (J x29))] ⟨rfl, rfl, rfl, rfl, rfl, trivial⟩ ?_
            exact ih_X12_isKind_5 hL _ _ (a1) (a2) (0) (x29) _ _ H
          · have H := it_f H c28
            refine GA.aload_n dX12_isKind_72 rfl ?_
            refine GA.aload_n dX12_isKind_73 rfl ?_
            obtain ⟨x31, hx32, H⟩ := gv_e H
            refine GV.getI hx32 xf_X12_805 dX12_isKind_74 (gs_500 hL) (by decide) rfl ?_
            refine GA.iload_n dX12_isKind_77 rfl ?_
            refine GA.bipush dX12_isKind_78 rfl ?_
            obtain ⟨x33, S_34, hc35, H⟩ := gc_e H
            refine GA.callV (m_X12_part hL hc35) xs_X12_36 dX12_isKind_80 (gs_500 hL) (by decide) rfl rfl (by omega) (by decide) rfl (Nat.le_of_ble_eq_true rfl) (by omega) (by omega) rfl (fun E S9 hx => hx.elim) (fun v S9 hq => ?_)
            obtain ⟨rfl, rfl⟩ := hq
            obtain ⟨hg36, H⟩ := gg_e H
            refine GV.if_lt (tgt := 90) hg36 dX12_isKind_83 (by decide) (fun c37 => ?_) (fun c37 => ?_)
            · have H := it_t H c37
              refine GA.iconst dX12_isKind_90 ?_
              refine GA.istore_n dX12_isKind_91 (by decide) ?_
              obtain ⟨x38, hx39, H⟩ := gv_e H
              refine GV.iinc hx39 dX12_isKind_92 rfl (by decide) ?_
              refine GA.goto (tgt := 5) dX12_isKind_95 (by decide) ?_
              refine GA.locals [(0, .ref (L 500)), (1, .int (J a1)), (2, .int (J a2)), (3, .int (J 0)), (4, .int (J x38))] ⟨rfl, rfl, rfl, rfl, rfl, trivial⟩ ?_
              exact ih_X12_isKind_5 hL _ _ (a1) (a2) (0) (x38) _ _ H
            · have H := it_f H c37
              refine GA.iconst dX12_isKind_86 ?_
              refine GA.goto (tgt := 91) dX12_isKind_87 (by decide) ?_
              refine GA.istore_n dX12_isKind_91 (by decide) ?_
              obtain ⟨x40, hx41, H⟩ := gv_e H
              refine GV.iinc hx41 dX12_isKind_92 rfl (by decide) ?_
              refine GA.goto (tgt := 5) dX12_isKind_95 (by decide) ?_
              refine GA.locals [(0, .ref (L 500)), (1, .int (J a1)), (2, .int (J a2)), (3, .int (J 1)), (4, .int (J x40))] ⟨rfl, rfl, rfl, rfl, rfl, trivial⟩ ?_
              exact ih_X12_isKind_5 hL _ _ (a1) (a2) (1) (x40) _ _ H
        · have H := it_f H c21
          refine GA.aload_n dX12_isKind_42 rfl ?_
          refine GA.aload_n dX12_isKind_43 rfl ?_
          obtain ⟨x42, hx43, H⟩ := gv_e H
          refine GV.getI hx43 xf_X12_805 dX12_isKind_44 (gs_500 hL) (by decide) rfl ?_
          refine GA.iload_n dX12_isKind_47 rfl ?_
          obtain ⟨x44, S_45, hc46, H⟩ := gc_e H
          refine GA.callV (m_X12_kind hL hc46) xs_X12_52 dX12_isKind_48 (gs_500 hL) (by decide) rfl rfl (by omega) (by decide) rfl (Nat.le_of_ble_eq_true rfl) (by omega) (by omega) rfl (fun E S9 hx => hx.elim) (fun v S9 hq => ?_)
          obtain ⟨rfl, rfl⟩ := hq
          refine GA.iload dX12_isKind_51 rfl ?_
          obtain ⟨hg47, H⟩ := gg_e H
          refine GV.icmp_ne (tgt := 90) hg47 hg1 dX12_isKind_53 (by decide) (fun c48 => ?_) (fun c48 => ?_)
          · have H := it_t H c48
            refine GA.iconst dX12_isKind_90 ?_
            refine GA.istore_n dX12_isKind_91 (by decide) ?_
            obtain ⟨x49, hx50, H⟩ := gv_e H
            refine GV.iinc hx50 dX12_isKind_92 rfl (by decide) ?_
            refine GA.goto (tgt := 5) dX12_isKind_95 (by decide) ?_
            refine GA.locals [(0, .ref (L 500)), (1, .int (J a1)), (2, .int (J a2)), (3, .int (J 0)), (4, .int (J x49))] ⟨rfl, rfl, rfl, rfl, rfl, trivial⟩ ?_
            exact ih_X12_isKind_5 hL _ _ (a1) (a2) (0) (x49) _ _ H
          · have H := it_f H c48
            refine GA.goto (tgt := 86) dX12_isKind_56 (by decide) ?_
            refine GA.iconst dX12_isKind_86 ?_
            refine GA.goto (tgt := 91) dX12_isKind_87 (by decide) ?_
            refine GA.istore_n dX12_isKind_91 (by decide) ?_
            obtain ⟨x51, hx52, H⟩ := gv_e H
            refine GV.iinc hx52 dX12_isKind_92 rfl (by decide) ?_
            refine GA.goto (tgt := 5) dX12_isKind_95 (by decide) ?_
            refine GA.locals [(0, .ref (L 500)), (1, .int (J a1)), (2, .int (J a2)), (3, .int (J 1)), (4, .int (J x51))] ⟨rfl, rfl, rfl, rfl, rfl, trivial⟩ ?_
            exact ih_X12_isKind_5 hL _ _ (a1) (a2) (1) (x51) _ _ H
theorem g_X12_isKind {l : Launch} {Z : XZ} {L : Nat → Nat} : ∀ n, P_X12_isKind_0 l Z L n ∧ P_X12_isKind_5 l Z L n
  | 0 => ⟨fun _ _ _ _ _ _ _ H => no_e H, fun _ _ _ _ _ _ _ _ _ H => no_e H⟩
  | n + 1 => have ⟨h0, h1⟩ := g_X12_isKind (l := l) (Z := Z) (L := L) n
    ⟨t_X12_isKind_0 n h0 h1, t_X12_isKind_5 n h0 h1⟩
theorem m_X12_isKind {l : Launch} {Z : XZ} {L : Nat → Nat} (hL : L 700 = 1) {n d : Nat} {S : GS} {a1 : Int} {a2 : Int} {x : Int} {S1 : GS} (H : f_X12_isKind n d 0 S [a1, a2] = some (x, S1)) : GM l Z L yX12_isKind cX12_isKind 5 (some .boolean) [] d 0 0 [.ref (L 500), .int (J a1), .int (J a2)] S (fun v S' => v = some (.int (J x)) ∧ S1 = S') (fun _ _ => False) := GM.of (by decide) (Nat.le_of_ble_eq_true rfl) ((g_X12_isKind n).1 hL _ _ _ _ _ _ H)

def P_X12_compared_0 (l : Launch) (Z : XZ) (L : Nat → Nat) (n : Nat) : Prop := ∀ (hL : L 700 = 1), ∀ (d : Nat) (S : GS) (a1 : Int) (a2 : Int) (a3 : Int) (a4 : Int) (x : Int) (S1 : GS), f_X12_compared n d 0 S [a1, a2, a3, a4] = some (x, S1) → GA l Z L yX12_compared cX12_compared 10 (some .int) [] d 0 0 (fun v S' => v = some (.int (J x)) ∧ S1 = S') (fun _ _ => False) 0 (gl [(0, .ref (L 500)), (1, .int (J a1)), (2, .int (J a2)), (3, .int (J a3)), (4, .int (J a4))]) [] S 0 0
def P_X12_compared_130 (l : Launch) (Z : XZ) (L : Nat → Nat) (n : Nat) : Prop := ∀ (hL : L 700 = 1), ∀ (d : Nat) (S : GS) (a5 : Int) (a6 : Int) (a7 : Int) (a8 : Int) (x : Int) (S1 : GS), f_X12_compared n d 130 S [a5, a6, a7, a8] = some (x, S1) → GA l Z L yX12_compared cX12_compared 10 (some .int) [] d 0 0 (fun v S' => v = some (.int (J x)) ∧ S1 = S') (fun _ _ => False) 130 (gl [(0, .ref (L 500)), (5, .int (J a5)), (6, .int (J a6)), (7, .int (J a7)), (8, .int (J a8))]) [] S 0 0
def P_X12_compared_175 (l : Launch) (Z : XZ) (L : Nat → Nat) (n : Nat) : Prop := ∀ (hL : L 700 = 1), ∀ (d : Nat) (S : GS) (a5 : Int) (a6 : Int) (a8 : Int) (s0 : Int) (x : Int) (S1 : GS), f_X12_compared n d 175 S [a5, a6, a8, s0] = some (x, S1) → GA l Z L yX12_compared cX12_compared 10 (some .int) [] d 0 0 (fun v S' => v = some (.int (J x)) ∧ S1 = S') (fun _ _ => False) 175 (gl [(0, .ref (L 500)), (5, .int (J a5)), (6, .int (J a6)), (8, .int (J a8))]) [.int (J s0)] S 0 0
def P_X12_compared_221 (l : Launch) (Z : XZ) (L : Nat → Nat) (n : Nat) : Prop := ∀ (hL : L 700 = 1), ∀ (d : Nat) (S : GS) (a5 : Int) (a7 : Int) (x : Int) (S1 : GS), f_X12_compared n d 221 S [a5, a7] = some (x, S1) → GA l Z L yX12_compared cX12_compared 10 (some .int) [] d 0 0 (fun v S' => v = some (.int (J x)) ∧ S1 = S') (fun _ _ => False) 221 (gl [(0, .ref (L 500)), (5, .int (J a5)), (7, .int (J a7))]) [] S 0 0
def P_X12_compared_240 (l : Launch) (Z : XZ) (L : Nat → Nat) (n : Nat) : Prop := ∀ (hL : L 700 = 1), ∀ (d : Nat) (S : GS) (a5 : Int) (s0 : Int) (x : Int) (S1 : GS), f_X12_compared n d 240 S [a5, s0] = some (x, S1) → GA l Z L yX12_compared cX12_compared 10 (some .int) [] d 0 0 (fun v S' => v = some (.int (J x)) ∧ S1 = S') (fun _ _ => False) 240 (gl [(0, .ref (L 500)), (5, .int (J a5))]) [.int (J s0)] S 0 0
theorem i_X12_compared {l : Launch} {Z : XZ} {L : Nat → Nat} (hL : L 700 = 1) {n : Nat} (ih : P_X12_compared_0 l Z L n) {d : Nat} {S : GS} {a1 : Int} {a2 : Int} {a3 : Int} {a4 : Int} {x : Int} {S1 : GS} (H : f_X12_compared n d 0 S [a1, a2, a3, a4] = some (x, S1)) : GM l Z L yX12_compared cX12_compared 10 (some .int) [] d 0 0 [.ref (L 500), .int (J a1), .int (J a2), .int (J a3), .int (J a4)] S (fun v S' => v = some (.int (J x)) ∧ S1 = S') (fun _ _ => False) := GM.of (by decide) (Nat.le_of_ble_eq_true rfl) (ih hL _ _ _ _ _ _ _ _ H)
set_option maxHeartbeats 4000000 in
set_option maxRecDepth 20000 in
theorem t_X12_compared_0 {l : Launch} {Z : XZ} {L : Nat → Nat} (n : Nat) (ih_X12_compared_0 : P_X12_compared_0 l Z L n) (ih_X12_compared_130 : P_X12_compared_130 l Z L n) (ih_X12_compared_175 : P_X12_compared_175 l Z L n) (ih_X12_compared_221 : P_X12_compared_221 l Z L n) (ih_X12_compared_240 : P_X12_compared_240 l Z L n) : P_X12_compared_0 l Z L (n + 1) := by
  intro hL d S a1 a2 a3 a4 x S1 H
  have H : b_X12_compared_0 n d (f_X12_compared n) S a1 a2 a3 a4 = some (x, S1) := H
  unfold b_X12_compared_0 at H
  refine GA.iload_n dX12_compared_0 rfl ?_
  refine GA.iload_n dX12_compared_1 rfl ?_
  obtain ⟨hg1, H⟩ := gg_e H
  obtain ⟨x2, S_3, hc4, H⟩ := gc_e H
  refine GA.callS (m_X12_at hL hc4) xs_X12_11 dX12_compared_2 rfl (by omega) (by decide) rfl (Nat.le_of_ble_eq_true rfl) (by omega) (by omega) rfl (fun E S9 hx => hx.elim) (fun v S9 hq => ?_)
  obtain ⟨rfl, rfl⟩ := hq
  refine GA.istore dX12_compared_5 (by decide) ?_
  refine GA.iload_n dX12_compared_7 rfl ?_
  refine GA.iload dX12_compared_8 rfl ?_
  obtain ⟨x5, S_6, hc7, H⟩ := gc_e H
  refine GA.callS (m_X12_at hL hc7) xs_X12_11 dX12_compared_10 rfl (by omega) (by decide) rfl (Nat.le_of_ble_eq_true rfl) (by omega) (by omega) rfl (fun E S9 hx => hx.elim) (fun v S9 hq => ?_)
  obtain ⟨rfl, rfl⟩ := hq
  refine GA.istore dX12_compared_13 (by decide) ?_
  refine GA.aload_n dX12_compared_15 rfl ?_
  refine GA.get xf_X12_7 dX12_compared_16 (gs_500 hL) (by decide) rfl ?_
  refine GA.iload dX12_compared_19 rfl ?_
  refine GA.bipush dX12_compared_21 rfl ?_
  obtain ⟨x8, hx9, H⟩ := gv_e H
  refine GV.iadd hx9 dX12_compared_23 ?_
  obtain ⟨hg10, H⟩ := gg_e H
  obtain ⟨x11, hx12, H⟩ := gv_e H
  refine GV.iald hg10 hx12 dX12_compared_24 (gs_501 hL) (by decide) ?_
  refine GA.aload_n dX12_compared_25 rfl ?_
  refine GA.get xf_X12_7 dX12_compared_26 (gs_500 hL) (by decide) rfl ?_
  refine GA.iload dX12_compared_29 rfl ?_
  refine GA.bipush dX12_compared_31 rfl ?_
  obtain ⟨x13, hx14, H⟩ := gv_e H
  refine GV.iadd hx14 dX12_compared_33 ?_
  obtain ⟨hg15, H⟩ := gg_e H
  obtain ⟨x16, hx17, H⟩ := gv_e H
  refine GV.iald hg15 hx17 dX12_compared_34 (gs_501 hL) (by decide) ?_
  obtain ⟨hg18, H⟩ := gg_e H
  obtain ⟨hg19, H⟩ := gg_e H
  refine GV.icmp_eq (tgt := 67) hg18 hg19 dX12_compared_35 (by decide) (fun c20 => ?_) (fun c20 => ?_)
  · have H := it_t H c20
    refine GA.aload_n dX12_compared_67 rfl ?_
    refine GA.get xf_X12_7 dX12_compared_68 (gs_500 hL) (by decide) rfl ?_
    refine GA.iload dX12_compared_71 rfl ?_
    refine GA.bipush dX12_compared_73 rfl ?_
    obtain ⟨x21, hx22, H⟩ := gv_e H
    refine GV.iadd hx22 dX12_compared_75 ?_
    obtain ⟨hg23, H⟩ := gg_e H
    obtain ⟨x24, hx25, H⟩ := gv_e H
    refine GV.iald hg23 hx25 dX12_compared_76 (gs_501 hL) (by decide) ?_
    obtain ⟨hg26, H⟩ := gg_e H
    refine GV.if_ne (tgt := 82) hg26 dX12_compared_77 (by decide) (fun c27 => ?_) (fun c27 => ?_)
    · have H := it_t H c27
      refine GA.aload_n dX12_compared_82 rfl ?_
      refine GA.get xf_X12_7 dX12_compared_83 (gs_500 hL) (by decide) rfl ?_
      refine GA.iload dX12_compared_86 rfl ?_
      refine GA.bipush dX12_compared_88 rfl ?_
      obtain ⟨x28, hx29, H⟩ := gv_e H
      refine GV.iadd hx29 dX12_compared_90 ?_
      obtain ⟨hg30, H⟩ := gg_e H
      obtain ⟨x31, hx32, H⟩ := gv_e H
      refine GV.iald hg30 hx32 dX12_compared_91 (gs_501 hL) (by decide) ?_
      refine GA.aload_n dX12_compared_92 rfl ?_
      refine GA.get xf_X12_7 dX12_compared_93 (gs_500 hL) (by decide) rfl ?_
      refine GA.iload dX12_compared_96 rfl ?_
      refine GA.bipush dX12_compared_98 rfl ?_
      obtain ⟨x33, hx34, H⟩ := gv_e H
      refine GV.iadd hx34 dX12_compared_100 ?_
      obtain ⟨hg35, H⟩ := gg_e H
      obtain ⟨x36, hx37, H⟩ := gv_e H
      refine GV.iald hg35 hx37 dX12_compared_101 (gs_501 hL) (by decide) ?_
      obtain ⟨x38, hx39, H⟩ := gv_e H
      refine GV.iadd hx39 dX12_compared_102 ?_
      refine GA.aload_n dX12_compared_103 rfl ?_
      refine GA.get xf_X12_7 dX12_compared_104 (gs_500 hL) (by decide) rfl ?_
      refine GA.iload dX12_compared_107 rfl ?_
      refine GA.bipush dX12_compared_109 rfl ?_
      obtain ⟨x40, hx41, H⟩ := gv_e H
      refine GV.iadd hx41 dX12_compared_111 ?_
      obtain ⟨hg42, H⟩ := gg_e H
      obtain ⟨x43, hx44, H⟩ := gv_e H
      refine GV.iald hg42 hx44 dX12_compared_112 (gs_501 hL) (by decide) ?_
      obtain ⟨x45, hx46, H⟩ := gv_e H
      refine GV.isub hx46 dX12_compared_113 ?_
      refine GA.aload_n dX12_compared_114 rfl ?_
      refine GA.get xf_X12_7 dX12_compared_115 (gs_500 hL) (by decide) rfl ?_
      refine GA.iload dX12_compared_118 rfl ?_
      refine GA.bipush dX12_compared_120 rfl ?_
      obtain ⟨x47, hx48, H⟩ := gv_e H
      refine GV.iadd hx48 dX12_compared_122 ?_
      obtain ⟨hg49, H⟩ := gg_e H
      obtain ⟨x50, hx51, H⟩ := gv_e H
      refine GV.iald hg49 hx51 dX12_compared_123 (gs_501 hL) (by decide) ?_
      obtain ⟨x52, hx53, H⟩ := gv_e H
      refine GV.isub hx53 dX12_compared_124 ?_
      refine GA.istore dX12_compared_125 (by decide) ?_
      refine GA.iconst dX12_compared_127 ?_
      refine GA.istore dX12_compared_128 (by decide) ?_
      refine GA.locals [(0, .ref (L 500)), (5, .int (J x2)), (6, .int (J x5)), (7, .int (J x52)), (8, .int (J 0))] ⟨rfl, rfl, rfl, rfl, rfl, trivial⟩ ?_
      exact ih_X12_compared_130 hL _ _ (x2) (x5) (x52) (0) _ _ H
    · have H := it_f H c27
      refine GA.iconst dX12_compared_80 ?_
      cases H
      exact GA.iret rfl dX12_compared_81 (by omega) (by omega) ⟨rfl, rfl⟩
  · have H := it_f H c20
    refine GA.aload_n dX12_compared_38 rfl ?_
    refine GA.get xf_X12_7 dX12_compared_39 (gs_500 hL) (by decide) rfl ?_
    refine GA.iload dX12_compared_42 rfl ?_
    refine GA.bipush dX12_compared_44 rfl ?_
    obtain ⟨x54, hx55, H⟩ := gv_e H
    refine GV.iadd hx55 dX12_compared_46 ?_
    obtain ⟨hg56, H⟩ := gg_e H
    obtain ⟨x57, hx58, H⟩ := gv_e H
    refine GV.iald hg56 hx58 dX12_compared_47 (gs_501 hL) (by decide) ?_
    refine GA.aload_n dX12_compared_48 rfl ?_
    refine GA.get xf_X12_7 dX12_compared_49 (gs_500 hL) (by decide) rfl ?_
    refine GA.iload dX12_compared_52 rfl ?_
    refine GA.bipush dX12_compared_54 rfl ?_
    obtain ⟨x59, hx60, H⟩ := gv_e H
    refine GV.iadd hx60 dX12_compared_56 ?_
    obtain ⟨hg61, H⟩ := gg_e H
    obtain ⟨x62, hx63, H⟩ := gv_e H
    refine GV.iald hg61 hx63 dX12_compared_57 (gs_501 hL) (by decide) ?_
    obtain ⟨hg64, H⟩ := gg_e H
    obtain ⟨hg65, H⟩ := gg_e H
    refine GV.icmp_ge (tgt := 65) hg64 hg65 dX12_compared_58 (by decide) (fun c66 => ?_) (fun c66 => ?_)
    · have H := it_t H c66
      refine GA.iconst dX12_compared_65 ?_
      cases H
      exact GA.iret rfl dX12_compared_66 (by omega) (by omega) ⟨rfl, rfl⟩
    · have H := it_f H c66
      refine GA.iconst dX12_compared_61 ?_
      refine GA.goto (tgt := 66) dX12_compared_62 (by decide) ?_
      cases H
      exact GA.iret rfl dX12_compared_66 (by omega) (by omega) ⟨rfl, rfl⟩
set_option maxHeartbeats 4000000 in
set_option maxRecDepth 20000 in
theorem t_X12_compared_130 {l : Launch} {Z : XZ} {L : Nat → Nat} (n : Nat) (ih_X12_compared_0 : P_X12_compared_0 l Z L n) (ih_X12_compared_130 : P_X12_compared_130 l Z L n) (ih_X12_compared_175 : P_X12_compared_175 l Z L n) (ih_X12_compared_221 : P_X12_compared_221 l Z L n) (ih_X12_compared_240 : P_X12_compared_240 l Z L n) : P_X12_compared_130 l Z L (n + 1) := by
  intro hL d S a5 a6 a7 a8 x S1 H
  have H : b_X12_compared_130 n d (f_X12_compared n) S a5 a6 a7 a8 = some (x, S1) := H
  unfold b_X12_compared_130 at H
  refine GA.iload dX12_compared_130 rfl ?_
  refine GA.bipush dX12_compared_132 rfl ?_
  obtain ⟨hg1, H⟩ := gg_e H
  refine GV.icmp_ge (tgt := 221) hg1 (by decide) dX12_compared_134 (by decide) (fun c2 => ?_) (fun c2 => ?_)
  · have H := it_t H c2
    refine GA.locals [(0, .ref (L 500)), (5, .int (J a5)), (7, .int (J a7))] ⟨rfl, rfl, rfl, trivial⟩ ?_
    exact ih_X12_compared_221 hL _ _ (a5) (a7) _ _ H
  · have H := it_f H c2
    refine GA.iload dX12_compared_137 rfl ?_
    obtain ⟨hg3, H⟩ := gg_e H
    refine GV.if_ne (tgt := 221) hg3 dX12_compared_139 (by decide) (fun c4 => ?_) (fun c4 => ?_)
    · have H := it_t H c4
      refine GA.locals [(0, .ref (L 500)), (5, .int (J a5)), (7, .int (J a7))] ⟨rfl, rfl, rfl, trivial⟩ ?_
      exact ih_X12_compared_221 hL _ _ (a5) (a7) _ _ H
    · have H := it_f H c4
      refine GA.iload dX12_compared_142 rfl ?_
      refine GA.aload_n dX12_compared_144 rfl ?_
      refine GA.get xf_X12_7 dX12_compared_145 (gs_500 hL) (by decide) rfl ?_
      refine GA.iload dX12_compared_148 rfl ?_
      refine GA.bipush dX12_compared_150 rfl ?_
      obtain ⟨x5, hx6, H⟩ := gv_e H
      refine GV.iadd hx6 dX12_compared_152 ?_
      obtain ⟨hg7, H⟩ := gg_e H
      obtain ⟨x8, hx9, H⟩ := gv_e H
      refine GV.iald hg7 hx9 dX12_compared_153 (gs_501 hL) (by decide) ?_
      obtain ⟨hg10, H⟩ := gg_e H
      refine GV.icmp_ge (tgt := 173) hg1 hg10 dX12_compared_154 (by decide) (fun c11 => ?_) (fun c11 => ?_)
      · have H := it_t H c11
        refine GA.bipush dX12_compared_173 rfl ?_
        refine GA.locals [(0, .ref (L 500)), (5, .int (J a5)), (6, .int (J a6)), (8, .int (J a8))] ⟨rfl, rfl, rfl, rfl, trivial⟩ ?_
        exact ih_X12_compared_175 hL _ _ (a5) (a6) (a8) (48) _ _ H
      · have H := it_f H c11
        refine GA.aload_n dX12_compared_157 rfl ?_
        refine GA.get xf_X12_7 dX12_compared_158 (gs_500 hL) (by decide) rfl ?_
        refine GA.iload dX12_compared_161 rfl ?_
        refine GA.bipush dX12_compared_163 rfl ?_
        obtain ⟨x12, hx13, H⟩ := gv_e H
        refine GV.iadd hx13 dX12_compared_165 ?_
        refine GA.iload dX12_compared_166 rfl ?_
        obtain ⟨x14, hx15, H⟩ := gv_e H
        refine GV.iadd hx15 dX12_compared_168 ?_
        obtain ⟨hg16, H⟩ := gg_e H
        obtain ⟨x17, hx18, H⟩ := gv_e H
        refine GV.iald hg16 hx18 dX12_compared_169 (gs_501 hL) (by decide) ?_
        refine GA.goto (tgt := 175) dX12_compared_170 (by decide) ?_
        refine GA.locals [(0, .ref (L 500)), (5, .int (J a5)), (6, .int (J a6)), (8, .int (J a8))] ⟨rfl, rfl, rfl, rfl, trivial⟩ ?_
        exact ih_X12_compared_175 hL _ _ (a5) (a6) (a8) (x17) _ _ H
set_option maxHeartbeats 4000000 in
set_option maxRecDepth 20000 in
theorem t_X12_compared_175 {l : Launch} {Z : XZ} {L : Nat → Nat} (n : Nat) (ih_X12_compared_0 : P_X12_compared_0 l Z L n) (ih_X12_compared_130 : P_X12_compared_130 l Z L n) (ih_X12_compared_175 : P_X12_compared_175 l Z L n) (ih_X12_compared_221 : P_X12_compared_221 l Z L n) (ih_X12_compared_240 : P_X12_compared_240 l Z L n) : P_X12_compared_175 l Z L (n + 1) := by
  intro hL d S a5 a6 a8 s0 x S1 H
  have H : b_X12_compared_175 n d (f_X12_compared n) S a5 a6 a8 s0 = some (x, S1) := H
  unfold b_X12_compared_175 at H
  refine GA.istore dX12_compared_175 (by decide) ?_
  refine GA.iload dX12_compared_177 rfl ?_
  refine GA.iload dX12_compared_179 rfl ?_
  refine GA.aload_n dX12_compared_181 rfl ?_
  refine GA.get xf_X12_7 dX12_compared_182 (gs_500 hL) (by decide) rfl ?_
  refine GA.iload dX12_compared_185 rfl ?_
  refine GA.bipush dX12_compared_187 rfl ?_
  obtain ⟨x1, hx2, H⟩ := gv_e H
  refine GV.iadd hx2 dX12_compared_189 ?_
  obtain ⟨hg3, H⟩ := gg_e H
  obtain ⟨x4, hx5, H⟩ := gv_e H
  refine GV.iald hg3 hx5 dX12_compared_190 (gs_501 hL) (by decide) ?_
  obtain ⟨hg6, H⟩ := gg_e H
  obtain ⟨hg7, H⟩ := gg_e H
  refine GV.icmp_ge (tgt := 210) hg6 hg7 dX12_compared_191 (by decide) (fun c8 => ?_) (fun c8 => ?_)
  · have H := it_t H c8
    refine GA.bipush dX12_compared_210 rfl ?_
    obtain ⟨x9, hx10, H⟩ := gv_e H
    refine GV.isub hx10 dX12_compared_212 ?_
    refine GA.istore dX12_compared_213 (by decide) ?_
    obtain ⟨x11, hx12, H⟩ := gv_e H
    refine GV.iinc hx12 dX12_compared_215 rfl (by decide) ?_
    refine GA.goto (tgt := 130) dX12_compared_218 (by decide) ?_
    refine GA.locals [(0, .ref (L 500)), (5, .int (J a5)), (6, .int (J a6)), (7, .int (J x9)), (8, .int (J x11))] ⟨rfl, rfl, rfl, rfl, rfl, trivial⟩ ?_
    exact ih_X12_compared_130 hL _ _ (a5) (a6) (x9) (x11) _ _ H
  · have H := it_f H c8
    refine GA.aload_n dX12_compared_194 rfl ?_
    refine GA.get xf_X12_7 dX12_compared_195 (gs_500 hL) (by decide) rfl ?_
    refine GA.iload dX12_compared_198 rfl ?_
    refine GA.bipush dX12_compared_200 rfl ?_
    obtain ⟨x13, hx14, H⟩ := gv_e H
    refine GV.iadd hx14 dX12_compared_202 ?_
    refine GA.iload dX12_compared_203 rfl ?_
    obtain ⟨x15, hx16, H⟩ := gv_e H
    refine GV.iadd hx16 dX12_compared_205 ?_
    obtain ⟨hg17, H⟩ := gg_e H
    obtain ⟨x18, hx19, H⟩ := gv_e H
    refine GV.iald hg17 hx19 dX12_compared_206 (gs_501 hL) (by decide) ?_
    refine GA.goto (tgt := 212) dX12_compared_207 (by decide) ?_
    obtain ⟨x20, hx21, H⟩ := gv_e H
    refine GV.isub hx21 dX12_compared_212 ?_
    refine GA.istore dX12_compared_213 (by decide) ?_
    obtain ⟨x22, hx23, H⟩ := gv_e H
    refine GV.iinc hx23 dX12_compared_215 rfl (by decide) ?_
    refine GA.goto (tgt := 130) dX12_compared_218 (by decide) ?_
    refine GA.locals [(0, .ref (L 500)), (5, .int (J a5)), (6, .int (J a6)), (7, .int (J x20)), (8, .int (J x22))] ⟨rfl, rfl, rfl, rfl, rfl, trivial⟩ ?_
    exact ih_X12_compared_130 hL _ _ (a5) (a6) (x20) (x22) _ _ H
set_option maxHeartbeats 4000000 in
set_option maxRecDepth 20000 in
theorem t_X12_compared_221 {l : Launch} {Z : XZ} {L : Nat → Nat} (n : Nat) (ih_X12_compared_0 : P_X12_compared_0 l Z L n) (ih_X12_compared_130 : P_X12_compared_130 l Z L n) (ih_X12_compared_175 : P_X12_compared_175 l Z L n) (ih_X12_compared_221 : P_X12_compared_221 l Z L n) (ih_X12_compared_240 : P_X12_compared_240 l Z L n) : P_X12_compared_221 l Z L (n + 1) := by
  intro hL d S a5 a7 x S1 H
  have H : b_X12_compared_221 n d (f_X12_compared n) S a5 a7 = some (x, S1) := H
  unfold b_X12_compared_221 at H
  refine GA.iload dX12_compared_221 rfl ?_
  obtain ⟨hg1, H⟩ := gg_e H
  refine GV.if_ge (tgt := 230) hg1 dX12_compared_223 (by decide) (fun c2 => ?_) (fun c2 => ?_)
  · have H := it_t H c2
    refine GA.iload dX12_compared_230 rfl ?_
    refine GV.if_le (tgt := 239) hg1 dX12_compared_232 (by decide) (fun c3 => ?_) (fun c3 => ?_)
    · have H := it_t H c3
      refine GA.iconst dX12_compared_239 ?_
      refine GA.locals [(0, .ref (L 500)), (5, .int (J a5))] ⟨rfl, rfl, trivial⟩ ?_
      exact ih_X12_compared_240 hL _ _ (a5) (0) _ _ H
    · have H := it_f H c3
      refine GA.iconst dX12_compared_235 ?_
      refine GA.goto (tgt := 240) dX12_compared_236 (by decide) ?_
      refine GA.locals [(0, .ref (L 500)), (5, .int (J a5))] ⟨rfl, rfl, trivial⟩ ?_
      exact ih_X12_compared_240 hL _ _ (a5) (1) _ _ H
  · have H := it_f H c2
    refine GA.iconst dX12_compared_226 ?_
    refine GA.goto (tgt := 240) dX12_compared_227 (by decide) ?_
    refine GA.locals [(0, .ref (L 500)), (5, .int (J a5))] ⟨rfl, rfl, trivial⟩ ?_
    exact ih_X12_compared_240 hL _ _ (a5) ((-1)) _ _ H
set_option maxHeartbeats 4000000 in
set_option maxRecDepth 20000 in
theorem t_X12_compared_240 {l : Launch} {Z : XZ} {L : Nat → Nat} (n : Nat) (ih_X12_compared_0 : P_X12_compared_0 l Z L n) (ih_X12_compared_130 : P_X12_compared_130 l Z L n) (ih_X12_compared_175 : P_X12_compared_175 l Z L n) (ih_X12_compared_221 : P_X12_compared_221 l Z L n) (ih_X12_compared_240 : P_X12_compared_240 l Z L n) : P_X12_compared_240 l Z L (n + 1) := by
  intro hL d S a5 s0 x S1 H
  have H : b_X12_compared_240 n d (f_X12_compared n) S a5 s0 = some (x, S1) := H
  unfold b_X12_compared_240 at H
  refine GA.istore dX12_compared_240 (by decide) ?_
  refine GA.aload_n dX12_compared_242 rfl ?_
  refine GA.get xf_X12_7 dX12_compared_243 (gs_500 hL) (by decide) rfl ?_
  refine GA.iload dX12_compared_246 rfl ?_
  refine GA.bipush dX12_compared_248 rfl ?_
  obtain ⟨x1, hx2, H⟩ := gv_e H
  refine GV.iadd hx2 dX12_compared_250 ?_
  obtain ⟨hg3, H⟩ := gg_e H
  obtain ⟨x4, hx5, H⟩ := gv_e H
  refine GV.iald hg3 hx5 dX12_compared_251 (gs_501 hL) (by decide) ?_
  refine GA.iload dX12_compared_252 rfl ?_
  obtain ⟨x6, hx7, H⟩ := gv_e H
  refine GV.imul hx7 dX12_compared_254 ?_
  cases H
  exact GA.iret rfl dX12_compared_255 (by omega) (by omega) ⟨rfl, rfl⟩
theorem g_X12_compared {l : Launch} {Z : XZ} {L : Nat → Nat} : ∀ n, P_X12_compared_0 l Z L n ∧ P_X12_compared_130 l Z L n ∧ P_X12_compared_175 l Z L n ∧ P_X12_compared_221 l Z L n ∧ P_X12_compared_240 l Z L n
  | 0 => ⟨fun _ _ _ _ _ _ _ _ _ H => no_e H, fun _ _ _ _ _ _ _ _ _ H => no_e H, fun _ _ _ _ _ _ _ _ _ H => no_e H, fun _ _ _ _ _ _ _ H => no_e H, fun _ _ _ _ _ _ _ H => no_e H⟩
  | n + 1 => have ⟨h0, h1, h2, h3, h4⟩ := g_X12_compared (l := l) (Z := Z) (L := L) n
    ⟨t_X12_compared_0 n h0 h1 h2 h3 h4, t_X12_compared_130 n h0 h1 h2 h3 h4, t_X12_compared_175 n h0 h1 h2 h3 h4, t_X12_compared_221 n h0 h1 h2 h3 h4, t_X12_compared_240 n h0 h1 h2 h3 h4⟩
theorem m_X12_compared {l : Launch} {Z : XZ} {L : Nat → Nat} (hL : L 700 = 1) {n d : Nat} {S : GS} {a1 : Int} {a2 : Int} {a3 : Int} {a4 : Int} {x : Int} {S1 : GS} (H : f_X12_compared n d 0 S [a1, a2, a3, a4] = some (x, S1)) : GM l Z L yX12_compared cX12_compared 10 (some .int) [] d 0 0 [.ref (L 500), .int (J a1), .int (J a2), .int (J a3), .int (J a4)] S (fun v S' => v = some (.int (J x)) ∧ S1 = S') (fun _ _ => False) := GM.of (by decide) (Nat.le_of_ble_eq_true rfl) ((g_X12_compared n).1 hL _ _ _ _ _ _ _ _ H)

def P_X12_begin_0 (l : Launch) (Z : XZ) (L : Nat → Nat) (n : Nat) : Prop := ∀ (hL : L 700 = 1), ∀ (d : Nat) (S : GS) (a1 : Int) (x : Int) (S1 : GS), f_X12_begin n d 0 S [a1] = some (x, S1) → GA l Z L yX12_begin cX12_begin 2 none [] d 0 0 (fun v S' => v = none ∧ S1 = S') (fun _ _ => False) 0 (gl [(0, .ref (L 500)), (1, .int (J a1))]) [] S 0 0
theorem i_X12_begin {l : Launch} {Z : XZ} {L : Nat → Nat} (hL : L 700 = 1) {n : Nat} (ih : P_X12_begin_0 l Z L n) {d : Nat} {S : GS} {a1 : Int} {x : Int} {S1 : GS} (H : f_X12_begin n d 0 S [a1] = some (x, S1)) : GM l Z L yX12_begin cX12_begin 2 none [] d 0 0 [.ref (L 500), .int (J a1)] S (fun v S' => v = none ∧ S1 = S') (fun _ _ => False) := GM.of (by decide) (Nat.le_of_ble_eq_true rfl) (ih hL _ _ _ _ _ H)
set_option maxHeartbeats 4000000 in
set_option maxRecDepth 20000 in
theorem t_X12_begin_0 {l : Launch} {Z : XZ} {L : Nat → Nat} (n : Nat) (ih_X12_begin_0 : P_X12_begin_0 l Z L n) : P_X12_begin_0 l Z L (n + 1) := by
  intro hL d S a1 x S1 H
  have H : b_X12_begin_0 n d (f_X12_begin n) S a1 = some (x, S1) := H
  unfold b_X12_begin_0 at H
  refine GA.aload_n dX12_begin_0 rfl ?_
  refine GA.get xf_X12_26 dX12_begin_1 (gs_500 hL) (by decide) rfl ?_
  refine GA.iload_n dX12_begin_4 rfl ?_
  refine GA.iconst dX12_begin_5 ?_
  obtain ⟨hg1, H⟩ := gg_e H
  obtain ⟨S_2, hx3, H⟩ := gv_e H
  refine GV.iast hg1 hx3 dX12_begin_6 (fun _ => (gs_502 hL)) (by decide) ?_
  refine GA.aload_n dX12_begin_7 rfl ?_
  refine GA.iconst dX12_begin_8 ?_
  obtain ⟨S_4, hx5, H⟩ := gv_e H
  refine GV.putB (by decide) hx5 (xp_X12_29 (xb_01 _)) dX12_begin_9 (gs_500 hL) (by decide) (Nat.le_of_ble_eq_true rfl) (gs_500 hL) ?_
  cases H
  exact GA.vret rfl dX12_begin_12 (by omega) (by omega) ⟨rfl, rfl⟩
theorem g_X12_begin {l : Launch} {Z : XZ} {L : Nat → Nat} : ∀ n, P_X12_begin_0 l Z L n
  | 0 => fun _ _ _ _ _ _ H => no_e H
  | n + 1 => t_X12_begin_0 n (g_X12_begin n)
theorem m_X12_begin {l : Launch} {Z : XZ} {L : Nat → Nat} (hL : L 700 = 1) {n d : Nat} {S : GS} {a1 : Int} {x : Int} {S1 : GS} (H : f_X12_begin n d 0 S [a1] = some (x, S1)) : GM l Z L yX12_begin cX12_begin 2 none [] d 0 0 [.ref (L 500), .int (J a1)] S (fun v S' => v = none ∧ S1 = S') (fun _ _ => False) := GM.of (by decide) (Nat.le_of_ble_eq_true rfl) ((g_X12_begin n) hL _ _ _ _ _ H)

def P_X12_in_0 (l : Launch) (Z : XZ) (L : Nat → Nat) (n : Nat) : Prop := ∀ (hL : L 700 = 1), ∀ (d : Nat) (S : GS) (a0 : Int) (a1 : Int) (a2 : Int) (x : Int) (S1 : GS), f_X12_in n d 0 S [a0, a1, a2] = some (x, S1) → GA l Z L yX12_in cX12_in 3 (some .boolean) [] d 0 0 (fun v S' => v = some (.int (J x)) ∧ S1 = S') (fun _ _ => False) 0 (gl [(0, .int (J a0)), (1, .int (J a1)), (2, .int (J a2))]) [] S 0 0
theorem i_X12_in {l : Launch} {Z : XZ} {L : Nat → Nat} (hL : L 700 = 1) {n : Nat} (ih : P_X12_in_0 l Z L n) {d : Nat} {S : GS} {a0 : Int} {a1 : Int} {a2 : Int} {x : Int} {S1 : GS} (H : f_X12_in n d 0 S [a0, a1, a2] = some (x, S1)) : GM l Z L yX12_in cX12_in 3 (some .boolean) [] d 0 0 [.int (J a0), .int (J a1), .int (J a2)] S (fun v S' => v = some (.int (J x)) ∧ S1 = S') (fun _ _ => False) := GM.of (by decide) (Nat.le_of_ble_eq_true rfl) (ih hL _ _ _ _ _ _ _ H)
set_option maxHeartbeats 4000000 in
set_option maxRecDepth 20000 in
theorem t_X12_in_0 {l : Launch} {Z : XZ} {L : Nat → Nat} (n : Nat) (ih_X12_in_0 : P_X12_in_0 l Z L n) : P_X12_in_0 l Z L (n + 1) := by
  intro hL d S a0 a1 a2 x S1 H
  have H : b_X12_in_0 n d (f_X12_in n) S a0 a1 a2 = some (x, S1) := H
  unfold b_X12_in_0 at H
  refine GA.iload_n dX12_in_0 rfl ?_
  refine GA.iload_n dX12_in_1 rfl ?_
  obtain ⟨hg1, H⟩ := gg_e H
  obtain ⟨hg2, H⟩ := gg_e H
  refine GV.icmp_lt (tgt := 14) hg1 hg2 dX12_in_2 (by decide) (fun c3 => ?_) (fun c3 => ?_)
  · have H := it_t H c3
    refine GA.iconst dX12_in_14 ?_
    cases H
    exact GV.zret (by decide) rfl dX12_in_15 (by omega) (by omega) ⟨rfl, rfl⟩
  · have H := it_f H c3
    refine GA.iload_n dX12_in_5 rfl ?_
    refine GA.iload_n dX12_in_6 rfl ?_
    obtain ⟨hg4, H⟩ := gg_e H
    refine GV.icmp_gt (tgt := 14) hg1 hg4 dX12_in_7 (by decide) (fun c5 => ?_) (fun c5 => ?_)
    · have H := it_t H c5
      refine GA.iconst dX12_in_14 ?_
      cases H
      exact GV.zret (by decide) rfl dX12_in_15 (by omega) (by omega) ⟨rfl, rfl⟩
    · have H := it_f H c5
      refine GA.iconst dX12_in_10 ?_
      refine GA.goto (tgt := 15) dX12_in_11 (by decide) ?_
      cases H
      exact GV.zret (by decide) rfl dX12_in_15 (by omega) (by omega) ⟨rfl, rfl⟩
theorem g_X12_in {l : Launch} {Z : XZ} {L : Nat → Nat} : ∀ n, P_X12_in_0 l Z L n
  | 0 => fun _ _ _ _ _ _ _ _ H => no_e H
  | n + 1 => t_X12_in_0 n (g_X12_in n)
theorem m_X12_in {l : Launch} {Z : XZ} {L : Nat → Nat} (hL : L 700 = 1) {n d : Nat} {S : GS} {a0 : Int} {a1 : Int} {a2 : Int} {x : Int} {S1 : GS} (H : f_X12_in n d 0 S [a0, a1, a2] = some (x, S1)) : GM l Z L yX12_in cX12_in 3 (some .boolean) [] d 0 0 [.int (J a0), .int (J a1), .int (J a2)] S (fun v S' => v = some (.int (J x)) ∧ S1 = S') (fun _ _ => False) := GM.of (by decide) (Nat.le_of_ble_eq_true rfl) ((g_X12_in n) hL _ _ _ _ _ _ _ H)

def P_X12_isNumber_0 (l : Launch) (Z : XZ) (L : Nat → Nat) (n : Nat) : Prop := ∀ (hL : L 700 = 1), ∀ (d : Nat) (S : GS) (a1 : Int) (a2 : Int) (a3 : Int) (a4 : Int) (x : Int) (S1 : GS), f_X12_isNumber n d 0 S [a1, a2, a3, a4] = some (x, S1) → GA l Z L yX12_isNumber cX12_isNumber 10 (some .boolean) [] d 0 0 (fun v S' => v = some (.int (J x)) ∧ S1 = S') (fun _ _ => False) 0 (gl [(0, .ref (L 500)), (1, .int (J a1)), (2, .int (J a2)), (3, .int (J a3)), (4, .int (J a4))]) [] S 0 0
def P_X12_isNumber_10 (l : Launch) (Z : XZ) (L : Nat → Nat) (n : Nat) : Prop := ∀ (hL : L 700 = 1), ∀ (d : Nat) (S : GS) (a1 : Int) (a2 : Int) (a5 : Int) (a6 : Int) (a7 : Int) (x : Int) (S1 : GS), f_X12_isNumber n d 10 S [a1, a2, a5, a6, a7] = some (x, S1) → GA l Z L yX12_isNumber cX12_isNumber 10 (some .boolean) [] d 0 0 (fun v S' => v = some (.int (J x)) ∧ S1 = S') (fun _ _ => False) 10 (gl [(0, .ref (L 500)), (1, .int (J a1)), (2, .int (J a2)), (5, .int (J a5)), (6, .int (J a6)), (7, .int (J a7))]) [] S 0 0
def P_X12_isNumber_33 (l : Launch) (Z : XZ) (L : Nat → Nat) (n : Nat) : Prop := ∀ (hL : L 700 = 1), ∀ (d : Nat) (S : GS) (a1 : Int) (a2 : Int) (a5 : Int) (a6 : Int) (a7 : Int) (x : Int) (S1 : GS), f_X12_isNumber n d 33 S [a1, a2, a5, a6, a7] = some (x, S1) → GA l Z L yX12_isNumber cX12_isNumber 10 (some .boolean) [] d 0 0 (fun v S' => v = some (.int (J x)) ∧ S1 = S') (fun _ _ => False) 33 (gl [(0, .ref (L 500)), (1, .int (J a1)), (2, .int (J a2)), (5, .int (J a5)), (6, .int (J a6)), (7, .int (J a7))]) [] S 0 0
def P_X12_isNumber_61 (l : Launch) (Z : XZ) (L : Nat → Nat) (n : Nat) : Prop := ∀ (hL : L 700 = 1), ∀ (d : Nat) (S : GS) (a1 : Int) (a2 : Int) (a5 : Int) (a6 : Int) (a7 : Int) (x : Int) (S1 : GS), f_X12_isNumber n d 61 S [a1, a2, a5, a6, a7] = some (x, S1) → GA l Z L yX12_isNumber cX12_isNumber 10 (some .boolean) [] d 0 0 (fun v S' => v = some (.int (J x)) ∧ S1 = S') (fun _ _ => False) 61 (gl [(0, .ref (L 500)), (1, .int (J a1)), (2, .int (J a2)), (5, .int (J a5)), (6, .int (J a6)), (7, .int (J a7))]) [] S 0 0
def P_X12_isNumber_156 (l : Launch) (Z : XZ) (L : Nat → Nat) (n : Nat) : Prop := ∀ (hL : L 700 = 1), ∀ (d : Nat) (S : GS) (a5 : Int) (a6 : Int) (a7 : Int) (a8 : Int) (s0 : Int) (s1 : Int) (x : Int) (S1 : GS), f_X12_isNumber n d 156 S [a5, a6, a7, a8, s0, s1] = some (x, S1) → GA l Z L yX12_isNumber cX12_isNumber 10 (some .boolean) [] d 0 0 (fun v S' => v = some (.int (J x)) ∧ S1 = S') (fun _ _ => False) 156 (gl [(0, .ref (L 500)), (5, .int (J a5)), (6, .int (J a6)), (7, .int (J a7)), (8, .int (J a8))]) [.int (J s0), .int (J s1), .ref (L 501)] S 0 0
def P_X12_isNumber_173 (l : Launch) (Z : XZ) (L : Nat → Nat) (n : Nat) : Prop := ∀ (hL : L 700 = 1), ∀ (d : Nat) (S : GS) (a5 : Int) (a6 : Int) (a7 : Int) (a8 : Int) (a9 : Int) (x : Int) (S1 : GS), f_X12_isNumber n d 173 S [a5, a6, a7, a8, a9] = some (x, S1) → GA l Z L yX12_isNumber cX12_isNumber 10 (some .boolean) [] d 0 0 (fun v S' => v = some (.int (J x)) ∧ S1 = S') (fun _ _ => False) 173 (gl [(0, .ref (L 500)), (5, .int (J a5)), (6, .int (J a6)), (7, .int (J a7)), (8, .int (J a8)), (9, .int (J a9))]) [] S 0 0
theorem i_X12_isNumber {l : Launch} {Z : XZ} {L : Nat → Nat} (hL : L 700 = 1) {n : Nat} (ih : P_X12_isNumber_0 l Z L n) {d : Nat} {S : GS} {a1 : Int} {a2 : Int} {a3 : Int} {a4 : Int} {x : Int} {S1 : GS} (H : f_X12_isNumber n d 0 S [a1, a2, a3, a4] = some (x, S1)) : GM l Z L yX12_isNumber cX12_isNumber 10 (some .boolean) [] d 0 0 [.ref (L 500), .int (J a1), .int (J a2), .int (J a3), .int (J a4)] S (fun v S' => v = some (.int (J x)) ∧ S1 = S') (fun _ _ => False) := GM.of (by decide) (Nat.le_of_ble_eq_true rfl) (ih hL _ _ _ _ _ _ _ _ H)
set_option maxHeartbeats 4000000 in
set_option maxRecDepth 20000 in
theorem t_X12_isNumber_0 {l : Launch} {Z : XZ} {L : Nat → Nat} (n : Nat) (ih_X12_isNumber_0 : P_X12_isNumber_0 l Z L n) (ih_X12_isNumber_10 : P_X12_isNumber_10 l Z L n) (ih_X12_isNumber_33 : P_X12_isNumber_33 l Z L n) (ih_X12_isNumber_61 : P_X12_isNumber_61 l Z L n) (ih_X12_isNumber_156 : P_X12_isNumber_156 l Z L n) (ih_X12_isNumber_173 : P_X12_isNumber_173 l Z L n) : P_X12_isNumber_0 l Z L (n + 1) := by
  intro hL d S a1 a2 a3 a4 x S1 H
  have H : b_X12_isNumber_0 n d (f_X12_isNumber n) S a1 a2 a3 a4 = some (x, S1) := H
  unfold b_X12_isNumber_0 at H
  refine GA.iload_n dX12_isNumber_0 rfl ?_
  refine GA.istore dX12_isNumber_1 (by decide) ?_
  refine GA.iload dX12_isNumber_3 rfl ?_
  refine GA.istore dX12_isNumber_5 (by decide) ?_
  refine GA.iconst dX12_isNumber_7 ?_
  refine GA.istore dX12_isNumber_8 (by decide) ?_
  refine GA.locals [(0, .ref (L 500)), (1, .int (J a1)), (2, .int (J a2)), (5, .int (J a3)), (6, .int (J a4)), (7, .int (J 0))] ⟨rfl, rfl, rfl, rfl, rfl, rfl, trivial⟩ ?_
  exact ih_X12_isNumber_10 hL _ _ (a1) (a2) (a3) (a4) (0) _ _ H
set_option maxHeartbeats 4000000 in
set_option maxRecDepth 20000 in
theorem t_X12_isNumber_10 {l : Launch} {Z : XZ} {L : Nat → Nat} (n : Nat) (ih_X12_isNumber_0 : P_X12_isNumber_0 l Z L n) (ih_X12_isNumber_10 : P_X12_isNumber_10 l Z L n) (ih_X12_isNumber_33 : P_X12_isNumber_33 l Z L n) (ih_X12_isNumber_61 : P_X12_isNumber_61 l Z L n) (ih_X12_isNumber_156 : P_X12_isNumber_156 l Z L n) (ih_X12_isNumber_173 : P_X12_isNumber_173 l Z L n) : P_X12_isNumber_10 l Z L (n + 1) := by
  intro hL d S a1 a2 a5 a6 a7 x S1 H
  have H : b_X12_isNumber_10 n d (f_X12_isNumber n) S a1 a2 a5 a6 a7 = some (x, S1) := H
  unfold b_X12_isNumber_10 at H
  refine GA.iload dX12_isNumber_10 rfl ?_
  refine GA.iload dX12_isNumber_12 rfl ?_
  obtain ⟨hg1, H⟩ := gg_e H
  obtain ⟨hg2, H⟩ := gg_e H
  refine GV.icmp_ge (tgt := 33) hg1 hg2 dX12_isNumber_14 (by decide) (fun c3 => ?_) (fun c3 => ?_)
  · have H := it_t H c3
    refine GA.locals [(0, .ref (L 500)), (1, .int (J a1)), (2, .int (J a2)), (5, .int (J a5)), (6, .int (J a6)), (7, .int (J a7))] ⟨rfl, rfl, rfl, rfl, rfl, rfl, trivial⟩ ?_
    exact ih_X12_isNumber_33 hL _ _ (a1) (a2) (a5) (a6) (a7) _ _ H
  · have H := it_f H c3
    refine GA.aload_n dX12_isNumber_17 rfl ?_
    refine GA.get xf_X12_250 dX12_isNumber_18 (gs_500 hL) (by decide) rfl ?_
    refine GA.iload dX12_isNumber_21 rfl ?_
    obtain ⟨hg4, H⟩ := gg_e H
    obtain ⟨x5, hx6, H⟩ := gv_e H
    refine GV.iald hg4 hx6 dX12_isNumber_23 (gs_510 hL) (by decide) ?_
    obtain ⟨hg7, H⟩ := gg_e H
    refine GV.if_ne (tgt := 33) hg7 dX12_isNumber_24 (by decide) (fun c8 => ?_) (fun c8 => ?_)
    · have H := it_t H c8
      refine GA.locals [(0, .ref (L 500)), (1, .int (J a1)), (2, .int (J a2)), (5, .int (J a5)), (6, .int (J a6)), (7, .int (J a7))] ⟨rfl, rfl, rfl, rfl, rfl, rfl, trivial⟩ ?_
      exact ih_X12_isNumber_33 hL _ _ (a1) (a2) (a5) (a6) (a7) _ _ H
    · have H := it_f H c8
      obtain ⟨x9, hx10, H⟩ := gv_e H
      refine GV.iinc hx10 dX12_isNumber_27 rfl (by decide) ?_
      refine GA.goto (tgt := 10) dX12_isNumber_30 (by decide) ?_
      refine GA.locals [(0, .ref (L 500)), (1, .int (J a1)), (2, .int (J a2)), (5, .int (J a5)), (6, .int (J a6)), (7, .int (J x9))] ⟨rfl, rfl, rfl, rfl, rfl, rfl, trivial⟩ ?_
      exact ih_X12_isNumber_10 hL _ _ (a1) (a2) (a5) (a6) (x9) _ _ H
set_option maxHeartbeats 4000000 in
set_option maxRecDepth 20000 in
theorem t_X12_isNumber_33 {l : Launch} {Z : XZ} {L : Nat → Nat} (n : Nat) (ih_X12_isNumber_0 : P_X12_isNumber_0 l Z L n) (ih_X12_isNumber_10 : P_X12_isNumber_10 l Z L n) (ih_X12_isNumber_33 : P_X12_isNumber_33 l Z L n) (ih_X12_isNumber_61 : P_X12_isNumber_61 l Z L n) (ih_X12_isNumber_156 : P_X12_isNumber_156 l Z L n) (ih_X12_isNumber_173 : P_X12_isNumber_173 l Z L n) : P_X12_isNumber_33 l Z L (n + 1) := by
  intro hL d S a1 a2 a5 a6 a7 x S1 H
  have H : b_X12_isNumber_33 n d (f_X12_isNumber n) S a1 a2 a5 a6 a7 = some (x, S1) := H
  unfold b_X12_isNumber_33 at H
  refine GA.iload dX12_isNumber_33 rfl ?_
  refine GA.iload dX12_isNumber_35 rfl ?_
  obtain ⟨hg1, H⟩ := gg_e H
  obtain ⟨hg2, H⟩ := gg_e H
  refine GV.icmp_le (tgt := 61) hg1 hg2 dX12_isNumber_37 (by decide) (fun c3 => ?_) (fun c3 => ?_)
  · have H := it_t H c3
    refine GA.locals [(0, .ref (L 500)), (1, .int (J a1)), (2, .int (J a2)), (5, .int (J a5)), (6, .int (J a6)), (7, .int (J a7))] ⟨rfl, rfl, rfl, rfl, rfl, rfl, trivial⟩ ?_
    exact ih_X12_isNumber_61 hL _ _ (a1) (a2) (a5) (a6) (a7) _ _ H
  · have H := it_f H c3
    refine GA.aload_n dX12_isNumber_40 rfl ?_
    refine GA.get xf_X12_250 dX12_isNumber_41 (gs_500 hL) (by decide) rfl ?_
    refine GA.iload dX12_isNumber_44 rfl ?_
    refine GA.iconst dX12_isNumber_46 ?_
    obtain ⟨x4, hx5, H⟩ := gv_e H
    refine GV.isub hx5 dX12_isNumber_47 ?_
    obtain ⟨hg6, H⟩ := gg_e H
    obtain ⟨x7, hx8, H⟩ := gv_e H
    refine GV.iald hg6 hx8 dX12_isNumber_48 (gs_510 hL) (by decide) ?_
    obtain ⟨hg9, H⟩ := gg_e H
    refine GV.if_ne (tgt := 61) hg9 dX12_isNumber_49 (by decide) (fun c10 => ?_) (fun c10 => ?_)
    · have H := it_t H c10
      refine GA.locals [(0, .ref (L 500)), (1, .int (J a1)), (2, .int (J a2)), (5, .int (J a5)), (6, .int (J a6)), (7, .int (J a7))] ⟨rfl, rfl, rfl, rfl, rfl, rfl, trivial⟩ ?_
      exact ih_X12_isNumber_61 hL _ _ (a1) (a2) (a5) (a6) (a7) _ _ H
    · have H := it_f H c10
      obtain ⟨x11, hx12, H⟩ := gv_e H
      refine GV.iinc hx12 dX12_isNumber_52 rfl (by decide) ?_
      obtain ⟨x13, hx14, H⟩ := gv_e H
      refine GV.iinc hx14 dX12_isNumber_55 rfl (by decide) ?_
      refine GA.goto (tgt := 33) dX12_isNumber_58 (by decide) ?_
      refine GA.locals [(0, .ref (L 500)), (1, .int (J a1)), (2, .int (J a2)), (5, .int (J x11)), (6, .int (J x13)), (7, .int (J a7))] ⟨rfl, rfl, rfl, rfl, rfl, rfl, trivial⟩ ?_
      exact ih_X12_isNumber_33 hL _ _ (a1) (a2) (x11) (x13) (a7) _ _ H
set_option maxHeartbeats 4000000 in
set_option maxRecDepth 20000 in
theorem t_X12_isNumber_61 {l : Launch} {Z : XZ} {L : Nat → Nat} (n : Nat) (ih_X12_isNumber_0 : P_X12_isNumber_0 l Z L n) (ih_X12_isNumber_10 : P_X12_isNumber_10 l Z L n) (ih_X12_isNumber_33 : P_X12_isNumber_33 l Z L n) (ih_X12_isNumber_61 : P_X12_isNumber_61 l Z L n) (ih_X12_isNumber_156 : P_X12_isNumber_156 l Z L n) (ih_X12_isNumber_173 : P_X12_isNumber_173 l Z L n) : P_X12_isNumber_61 l Z L (n + 1) := by
  intro hL d S a1 a2 a5 a6 a7 x S1 H
  have H : b_X12_isNumber_61 n d (f_X12_isNumber n) S a1 a2 a5 a6 a7 = some (x, S1) := H
  unfold b_X12_isNumber_61 at H
  refine GA.bipush dX12_isNumber_61 rfl ?_
  refine GA.iload_n dX12_isNumber_63 rfl ?_
  obtain ⟨hg1, H⟩ := gg_e H
  obtain ⟨x2, S_3, hc4, H⟩ := gc_e H
  refine GA.callS (m_X12_at hL hc4) xs_X12_11 dX12_isNumber_64 rfl (by omega) (by decide) rfl (Nat.le_of_ble_eq_true rfl) (by omega) (by omega) rfl (fun E S9 hx => hx.elim) (fun v S9 hq => ?_)
  obtain ⟨rfl, rfl⟩ := hq
  refine GA.istore dX12_isNumber_67 (by decide) ?_
  refine GA.iload dX12_isNumber_69 rfl ?_
  refine GA.iload dX12_isNumber_71 rfl ?_
  obtain ⟨hg5, H⟩ := gg_e H
  obtain ⟨hg6, H⟩ := gg_e H
  refine GV.icmp_ne (tgt := 123) hg5 hg6 dX12_isNumber_73 (by decide) (fun c7 => ?_) (fun c7 => ?_)
  · have H := it_t H c7
    refine GA.aload_n dX12_isNumber_123 rfl ?_
    refine GA.get xf_X12_7 dX12_isNumber_124 (gs_500 hL) (by decide) rfl ?_
    refine GA.iload dX12_isNumber_127 rfl ?_
    refine GA.bipush dX12_isNumber_129 rfl ?_
    obtain ⟨x8, hx9, H⟩ := gv_e H
    refine GV.iadd hx9 dX12_isNumber_131 ?_
    refine GA.iload dX12_isNumber_132 rfl ?_
    refine GA.iload dX12_isNumber_134 rfl ?_
    obtain ⟨x10, hx11, H⟩ := gv_e H
    refine GV.isub hx11 dX12_isNumber_136 ?_
    obtain ⟨hg12, H⟩ := gg_e H
    obtain ⟨S_13, hx14, H⟩ := gv_e H
    refine GV.iast hg12 hx14 dX12_isNumber_137 (fun _ => (gs_501 hL)) (by decide) ?_
    refine GA.aload_n dX12_isNumber_138 rfl ?_
    refine GA.get xf_X12_7 dX12_isNumber_139 (gs_500 hL) (by decide) rfl ?_
    refine GA.iload dX12_isNumber_142 rfl ?_
    refine GA.bipush dX12_isNumber_144 rfl ?_
    obtain ⟨x15, hx16, H⟩ := gv_e H
    refine GV.iadd hx16 dX12_isNumber_146 ?_
    refine GA.iload_n dX12_isNumber_147 rfl ?_
    obtain ⟨hg17, H⟩ := gg_e H
    refine GV.if_eq (tgt := 155) hg17 dX12_isNumber_148 (by decide) (fun c18 => ?_) (fun c18 => ?_)
    · have H := it_t H c18
      refine GA.iconst dX12_isNumber_155 ?_
      refine GA.locals [(0, .ref (L 500)), (5, .int (J a5)), (6, .int (J a6)), (7, .int (J a7)), (8, .int (J x2))] ⟨rfl, rfl, rfl, rfl, rfl, trivial⟩ ?_
      exact ih_X12_isNumber_156 hL _ _ (a5) (a6) (a7) (x2) (1) (x15) _ _ H
    · have H := it_f H c18
      refine GA.iconst dX12_isNumber_151 ?_
      refine GA.goto (tgt := 156) dX12_isNumber_152 (by decide) ?_
      refine GA.locals [(0, .ref (L 500)), (5, .int (J a5)), (6, .int (J a6)), (7, .int (J a7)), (8, .int (J x2))] ⟨rfl, rfl, rfl, rfl, rfl, trivial⟩ ?_
      exact ih_X12_isNumber_156 hL _ _ (a5) (a6) (a7) (x2) ((-1)) (x15) _ _ H
  · have H := it_f H c7
    refine GA.aload_n dX12_isNumber_76 rfl ?_
    refine GA.get xf_X12_7 dX12_isNumber_77 (gs_500 hL) (by decide) rfl ?_
    refine GA.iload dX12_isNumber_80 rfl ?_
    refine GA.bipush dX12_isNumber_82 rfl ?_
    obtain ⟨x19, hx20, H⟩ := gv_e H
    refine GV.iadd hx20 dX12_isNumber_84 ?_
    refine GA.iconst dX12_isNumber_85 ?_
    obtain ⟨hg21, H⟩ := gg_e H
    obtain ⟨S_22, hx23, H⟩ := gv_e H
    refine GV.iast hg21 hx23 dX12_isNumber_86 (fun _ => (gs_501 hL)) (by decide) ?_
    refine GA.aload_n dX12_isNumber_87 rfl ?_
    refine GA.get xf_X12_7 dX12_isNumber_88 (gs_500 hL) (by decide) rfl ?_
    refine GA.iload dX12_isNumber_91 rfl ?_
    refine GA.bipush dX12_isNumber_93 rfl ?_
    obtain ⟨x24, hx25, H⟩ := gv_e H
    refine GV.iadd hx25 dX12_isNumber_95 ?_
    refine GA.iconst dX12_isNumber_96 ?_
    obtain ⟨hg26, H⟩ := gg_e H
    obtain ⟨S_27, hx28, H⟩ := gv_e H
    refine GV.iast hg26 hx28 dX12_isNumber_97 (fun _ => (gs_501 hL)) (by decide) ?_
    refine GA.aload_n dX12_isNumber_98 rfl ?_
    refine GA.get xf_X12_7 dX12_isNumber_99 (gs_500 hL) (by decide) rfl ?_
    refine GA.iload dX12_isNumber_102 rfl ?_
    refine GA.bipush dX12_isNumber_104 rfl ?_
    obtain ⟨x29, hx30, H⟩ := gv_e H
    refine GV.iadd hx30 dX12_isNumber_106 ?_
    refine GA.iconst dX12_isNumber_107 ?_
    obtain ⟨hg31, H⟩ := gg_e H
    obtain ⟨S_32, hx33, H⟩ := gv_e H
    refine GV.iast hg31 hx33 dX12_isNumber_108 (fun _ => (gs_501 hL)) (by decide) ?_
    refine GA.aload_n dX12_isNumber_109 rfl ?_
    refine GA.get xf_X12_7 dX12_isNumber_110 (gs_500 hL) (by decide) rfl ?_
    refine GA.iload dX12_isNumber_113 rfl ?_
    refine GA.bipush dX12_isNumber_115 rfl ?_
    obtain ⟨x34, hx35, H⟩ := gv_e H
    refine GV.iadd hx35 dX12_isNumber_117 ?_
    refine GA.bipush dX12_isNumber_118 rfl ?_
    obtain ⟨hg36, H⟩ := gg_e H
    obtain ⟨S_37, hx38, H⟩ := gv_e H
    refine GV.iast hg36 hx38 dX12_isNumber_120 (fun _ => (gs_501 hL)) (by decide) ?_
    refine GA.iconst dX12_isNumber_121 ?_
    cases H
    exact GV.zret (by decide) rfl dX12_isNumber_122 (by omega) (by omega) ⟨rfl, rfl⟩
set_option maxHeartbeats 4000000 in
set_option maxRecDepth 20000 in
theorem t_X12_isNumber_156 {l : Launch} {Z : XZ} {L : Nat → Nat} (n : Nat) (ih_X12_isNumber_0 : P_X12_isNumber_0 l Z L n) (ih_X12_isNumber_10 : P_X12_isNumber_10 l Z L n) (ih_X12_isNumber_33 : P_X12_isNumber_33 l Z L n) (ih_X12_isNumber_61 : P_X12_isNumber_61 l Z L n) (ih_X12_isNumber_156 : P_X12_isNumber_156 l Z L n) (ih_X12_isNumber_173 : P_X12_isNumber_173 l Z L n) : P_X12_isNumber_156 l Z L (n + 1) := by
  intro hL d S a5 a6 a7 a8 s0 s1 x S1 H
  have H : b_X12_isNumber_156 n d (f_X12_isNumber n) S a5 a6 a7 a8 s0 s1 = some (x, S1) := H
  unfold b_X12_isNumber_156 at H
  obtain ⟨hg1, H⟩ := gg_e H
  obtain ⟨S_2, hx3, H⟩ := gv_e H
  refine GV.iast hg1 hx3 dX12_isNumber_156 (fun _ => (gs_501 hL)) (by decide) ?_
  refine GA.aload_n dX12_isNumber_157 rfl ?_
  refine GA.get xf_X12_7 dX12_isNumber_158 (gs_500 hL) (by decide) rfl ?_
  refine GA.iload dX12_isNumber_161 rfl ?_
  refine GA.bipush dX12_isNumber_163 rfl ?_
  obtain ⟨x4, hx5, H⟩ := gv_e H
  refine GV.iadd hx5 dX12_isNumber_165 ?_
  refine GA.iload dX12_isNumber_166 rfl ?_
  obtain ⟨hg6, H⟩ := gg_e H
  obtain ⟨S_7, hx8, H⟩ := gv_e H
  refine GV.iast hg6 hx8 dX12_isNumber_168 (fun _ => (gs_501 hL)) (by decide) ?_
  refine GA.iload dX12_isNumber_169 rfl ?_
  refine GA.istore dX12_isNumber_171 (by decide) ?_
  refine GA.locals [(0, .ref (L 500)), (5, .int (J a5)), (6, .int (J a6)), (7, .int (J a7)), (8, .int (J a8)), (9, .int (J a7))] ⟨rfl, rfl, rfl, rfl, rfl, rfl, trivial⟩ ?_
  exact ih_X12_isNumber_173 hL _ _ (a5) (a6) (a7) (a8) (a7) _ _ H
set_option maxHeartbeats 4000000 in
set_option maxRecDepth 20000 in
theorem t_X12_isNumber_173 {l : Launch} {Z : XZ} {L : Nat → Nat} (n : Nat) (ih_X12_isNumber_0 : P_X12_isNumber_0 l Z L n) (ih_X12_isNumber_10 : P_X12_isNumber_10 l Z L n) (ih_X12_isNumber_33 : P_X12_isNumber_33 l Z L n) (ih_X12_isNumber_61 : P_X12_isNumber_61 l Z L n) (ih_X12_isNumber_156 : P_X12_isNumber_156 l Z L n) (ih_X12_isNumber_173 : P_X12_isNumber_173 l Z L n) : P_X12_isNumber_173 l Z L (n + 1) := by
  intro hL d S a5 a6 a7 a8 a9 x S1 H
  have H : b_X12_isNumber_173 n d (f_X12_isNumber n) S a5 a6 a7 a8 a9 = some (x, S1) := H
  unfold b_X12_isNumber_173 at H
  refine GA.iload dX12_isNumber_173 rfl ?_
  refine GA.iload dX12_isNumber_175 rfl ?_
  obtain ⟨hg1, H⟩ := gg_e H
  obtain ⟨hg2, H⟩ := gg_e H
  refine GV.icmp_ge (tgt := 212) hg1 hg2 dX12_isNumber_177 (by decide) (fun c3 => ?_) (fun c3 => ?_)
  · have H := it_t H c3
    refine GA.iload dX12_isNumber_212 rfl ?_
    refine GA.bipush dX12_isNumber_214 rfl ?_
    refine GA.bipush dX12_isNumber_216 rfl ?_
    obtain ⟨hg4, H⟩ := gg_e H
    obtain ⟨x5, S_6, hc7, H⟩ := gc_e H
    refine GA.callS (m_X12_in hL hc7) xs_X12_18 dX12_isNumber_218 rfl (by omega) (by decide) rfl (Nat.le_of_ble_eq_true rfl) (by omega) (by omega) rfl (fun E S9 hx => hx.elim) (fun v S9 hq => ?_)
    obtain ⟨rfl, rfl⟩ := hq
    obtain ⟨hg8, H⟩ := gg_e H
    cases H
    exact GV.zret hg8 rfl dX12_isNumber_221 (by omega) (by omega) ⟨rfl, rfl⟩
  · have H := it_f H c3
    refine GA.aload_n dX12_isNumber_180 rfl ?_
    refine GA.get xf_X12_7 dX12_isNumber_181 (gs_500 hL) (by decide) rfl ?_
    refine GA.iload dX12_isNumber_184 rfl ?_
    refine GA.bipush dX12_isNumber_186 rfl ?_
    obtain ⟨x9, hx10, H⟩ := gv_e H
    refine GV.iadd hx10 dX12_isNumber_188 ?_
    refine GA.iload dX12_isNumber_189 rfl ?_
    obtain ⟨x11, hx12, H⟩ := gv_e H
    refine GV.iadd hx12 dX12_isNumber_191 ?_
    refine GA.iload dX12_isNumber_192 rfl ?_
    obtain ⟨x13, hx14, H⟩ := gv_e H
    refine GV.isub hx14 dX12_isNumber_194 ?_
    refine GA.bipush dX12_isNumber_195 rfl ?_
    refine GA.aload_n dX12_isNumber_197 rfl ?_
    refine GA.get xf_X12_250 dX12_isNumber_198 (gs_500 hL) (by decide) rfl ?_
    refine GA.iload dX12_isNumber_201 rfl ?_
    obtain ⟨hg15, H⟩ := gg_e H
    obtain ⟨x16, hx17, H⟩ := gv_e H
    refine GV.iald hg15 hx17 dX12_isNumber_203 (gs_510 hL) (by decide) ?_
    obtain ⟨x18, hx19, H⟩ := gv_e H
    refine GV.iadd hx19 dX12_isNumber_204 ?_
    obtain ⟨hg20, H⟩ := gg_e H
    obtain ⟨S_21, hx22, H⟩ := gv_e H
    refine GV.iast hg20 hx22 dX12_isNumber_205 (fun _ => (gs_501 hL)) (by decide) ?_
    obtain ⟨x23, hx24, H⟩ := gv_e H
    refine GV.iinc hx24 dX12_isNumber_206 rfl (by decide) ?_
    refine GA.goto (tgt := 173) dX12_isNumber_209 (by decide) ?_
    refine GA.locals [(0, .ref (L 500)), (5, .int (J a5)), (6, .int (J a6)), (7, .int (J a7)), (8, .int (J a8)), (9, .int (J x23))] ⟨rfl, rfl, rfl, rfl, rfl, rfl, trivial⟩ ?_
    exact ih_X12_isNumber_173 hL _ _ (a5) (a6) (a7) (a8) (x23) _ _ H
theorem g_X12_isNumber {l : Launch} {Z : XZ} {L : Nat → Nat} : ∀ n, P_X12_isNumber_0 l Z L n ∧ P_X12_isNumber_10 l Z L n ∧ P_X12_isNumber_33 l Z L n ∧ P_X12_isNumber_61 l Z L n ∧ P_X12_isNumber_156 l Z L n ∧ P_X12_isNumber_173 l Z L n
  | 0 => ⟨fun _ _ _ _ _ _ _ _ _ H => no_e H, fun _ _ _ _ _ _ _ _ _ _ H => no_e H, fun _ _ _ _ _ _ _ _ _ _ H => no_e H, fun _ _ _ _ _ _ _ _ _ _ H => no_e H, fun _ _ _ _ _ _ _ _ _ _ _ H => no_e H, fun _ _ _ _ _ _ _ _ _ _ H => no_e H⟩
  | n + 1 => have ⟨h0, h1, h2, h3, h4, h5⟩ := g_X12_isNumber (l := l) (Z := Z) (L := L) n
    ⟨t_X12_isNumber_0 n h0 h1 h2 h3 h4 h5, t_X12_isNumber_10 n h0 h1 h2 h3 h4 h5, t_X12_isNumber_33 n h0 h1 h2 h3 h4 h5, t_X12_isNumber_61 n h0 h1 h2 h3 h4 h5, t_X12_isNumber_156 n h0 h1 h2 h3 h4 h5, t_X12_isNumber_173 n h0 h1 h2 h3 h4 h5⟩
theorem m_X12_isNumber {l : Launch} {Z : XZ} {L : Nat → Nat} (hL : L 700 = 1) {n d : Nat} {S : GS} {a1 : Int} {a2 : Int} {a3 : Int} {a4 : Int} {x : Int} {S1 : GS} (H : f_X12_isNumber n d 0 S [a1, a2, a3, a4] = some (x, S1)) : GM l Z L yX12_isNumber cX12_isNumber 10 (some .boolean) [] d 0 0 [.ref (L 500), .int (J a1), .int (J a2), .int (J a3), .int (J a4)] S (fun v S' => v = some (.int (J x)) ∧ S1 = S') (fun _ _ => False) := GM.of (by decide) (Nat.le_of_ble_eq_true rfl) ((g_X12_isNumber n).1 hL _ _ _ _ _ _ _ _ H)

def P_X12_beside_0 (l : Launch) (Z : XZ) (L : Nat → Nat) (n : Nat) : Prop := ∀ (hL : L 700 = 1), ∀ (d : Nat) (S : GS) (a1 : Int) (a2 : Int) (x : Int) (S1 : GS), f_X12_beside n d 0 S [a1, a2] = some (x, S1) → GA l Z L yX12_beside cX12_beside 5 (some .int) [] d 0 0 (fun v S' => v = some (.int (J x)) ∧ S1 = S') (fun _ _ => False) 0 (gl [(0, .ref (L 500)), (1, .int (J a1)), (2, .int (J a2))]) [] S 0 0
theorem i_X12_beside {l : Launch} {Z : XZ} {L : Nat → Nat} (hL : L 700 = 1) {n : Nat} (ih : P_X12_beside_0 l Z L n) {d : Nat} {S : GS} {a1 : Int} {a2 : Int} {x : Int} {S1 : GS} (H : f_X12_beside n d 0 S [a1, a2] = some (x, S1)) : GM l Z L yX12_beside cX12_beside 5 (some .int) [] d 0 0 [.ref (L 500), .int (J a1), .int (J a2)] S (fun v S' => v = some (.int (J x)) ∧ S1 = S') (fun _ _ => False) := GM.of (by decide) (Nat.le_of_ble_eq_true rfl) (ih hL _ _ _ _ _ _ H)
set_option maxHeartbeats 4000000 in
set_option maxRecDepth 20000 in
theorem t_X12_beside_0 {l : Launch} {Z : XZ} {L : Nat → Nat} (n : Nat) (ih_X12_beside_0 : P_X12_beside_0 l Z L n) : P_X12_beside_0 l Z L (n + 1) := by
  intro hL d S a1 a2 x S1 H
  have H : b_X12_beside_0 n d (f_X12_beside n) S a1 a2 = some (x, S1) := H
  unfold b_X12_beside_0 at H
  refine GA.aload_n dX12_beside_0 rfl ?_
  refine GA.bipush dX12_beside_1 rfl ?_
  obtain ⟨hg1, H⟩ := gg_e H
  obtain ⟨x2, S_3, hc4, H⟩ := gc_e H
  refine GA.callV (m_X12_begin hL hc4) xs_X12_517 dX12_beside_3 (gs_500 hL) (by decide) rfl rfl (by omega) (by decide) rfl (Nat.le_of_ble_eq_true rfl) (by omega) (by omega) rfl (fun E S9 hx => hx.elim) (fun v S9 hq => ?_)
  obtain ⟨rfl, rfl⟩ := hq
  refine GA.aload_n dX12_beside_6 rfl ?_
  refine GA.bipush dX12_beside_7 rfl ?_
  refine GA.iconst dX12_beside_9 ?_
  obtain ⟨x5, S_6, hc7, H⟩ := gc_e H
  refine GA.callV (m_X12_added hL hc7) xs_X12_33 dX12_beside_10 (gs_500 hL) (by decide) rfl rfl (by omega) (by decide) rfl (Nat.le_of_ble_eq_true rfl) (by omega) (by omega) rfl (fun E S9 hx => hx.elim) (fun v S9 hq => ?_)
  obtain ⟨rfl, rfl⟩ := hq
  refine GA.istore_n dX12_beside_13 (by decide) ?_
  refine GA.aload_n dX12_beside_14 rfl ?_
  refine GA.get xf_X12_250 dX12_beside_15 (gs_500 hL) (by decide) rfl ?_
  refine GA.iconst dX12_beside_18 ?_
  refine GA.iload_n dX12_beside_19 rfl ?_
  refine GA.bipush dX12_beside_20 rfl ?_
  obtain ⟨hg8, H⟩ := gg_e H
  obtain ⟨x9, hx10, H⟩ := gv_e H
  refine GV.idiv hg8 hx10 dX12_beside_22 ?_
  obtain ⟨hg11, H⟩ := gg_e H
  obtain ⟨S_12, hx13, H⟩ := gv_e H
  refine GV.iast hg11 hx13 dX12_beside_23 (fun _ => (gs_510 hL)) (by decide) ?_
  refine GA.aload_n dX12_beside_24 rfl ?_
  refine GA.get xf_X12_250 dX12_beside_25 (gs_500 hL) (by decide) rfl ?_
  refine GA.iconst dX12_beside_28 ?_
  refine GA.iload_n dX12_beside_29 rfl ?_
  refine GA.bipush dX12_beside_30 rfl ?_
  obtain ⟨hg14, H⟩ := gg_e H
  obtain ⟨x15, hx16, H⟩ := gv_e H
  refine GV.idiv hg14 hx16 dX12_beside_32 ?_
  refine GA.bipush dX12_beside_33 rfl ?_
  obtain ⟨hg17, H⟩ := gg_e H
  obtain ⟨x18, hx19, H⟩ := gv_e H
  refine GV.irem hg17 hx19 dX12_beside_35 ?_
  obtain ⟨hg20, H⟩ := gg_e H
  obtain ⟨S_21, hx22, H⟩ := gv_e H
  refine GV.iast hg20 hx22 dX12_beside_36 (fun _ => (gs_510 hL)) (by decide) ?_
  refine GA.aload_n dX12_beside_37 rfl ?_
  refine GA.get xf_X12_250 dX12_beside_38 (gs_500 hL) (by decide) rfl ?_
  refine GA.iconst dX12_beside_41 ?_
  refine GA.iload_n dX12_beside_42 rfl ?_
  refine GA.bipush dX12_beside_43 rfl ?_
  obtain ⟨hg23, H⟩ := gg_e H
  obtain ⟨x24, hx25, H⟩ := gv_e H
  refine GV.irem hg23 hx25 dX12_beside_45 ?_
  obtain ⟨hg26, H⟩ := gg_e H
  obtain ⟨S_27, hx28, H⟩ := gv_e H
  refine GV.iast hg26 hx28 dX12_beside_46 (fun _ => (gs_510 hL)) (by decide) ?_
  refine GA.aload_n dX12_beside_47 rfl ?_
  refine GA.iload_n dX12_beside_48 rfl ?_
  refine GA.iconst dX12_beside_49 ?_
  refine GA.iconst dX12_beside_50 ?_
  refine GA.iconst dX12_beside_51 ?_
  obtain ⟨x29, S_30, hc31, H⟩ := gc_e H
  refine GA.callV (m_X12_isNumber hL hc31) xs_X12_485 dX12_beside_52 (gs_500 hL) (by decide) rfl rfl (by omega) (by decide) rfl (Nat.le_of_ble_eq_true rfl) (by omega) (by omega) rfl (fun E S9 hx => hx.elim) (fun v S9 hq => ?_)
  obtain ⟨rfl, rfl⟩ := hq
  refine GA.istore dX12_beside_55 (by decide) ?_
  refine GA.aload_n dX12_beside_57 rfl ?_
  refine GA.bipush dX12_beside_58 rfl ?_
  refine GA.iload_n dX12_beside_60 rfl ?_
  refine GA.aload_n dX12_beside_61 rfl ?_
  obtain ⟨x32, hx33, H⟩ := gv_e H
  refine GV.getI hx33 xf_X12_802 dX12_beside_62 (gs_500 hL) (by decide) rfl ?_
  refine GA.iload_n dX12_beside_65 rfl ?_
  obtain ⟨x34, S_35, hc36, H⟩ := gc_e H
  refine GA.callV (m_X12_compared hL hc36) xs_X12_594 dX12_beside_66 (gs_500 hL) (by decide) rfl rfl (by omega) (by decide) rfl (Nat.le_of_ble_eq_true rfl) (by omega) (by omega) rfl (fun E S9 hx => hx.elim) (fun v S9 hq => ?_)
  obtain ⟨rfl, rfl⟩ := hq
  cases H
  exact GA.iret rfl dX12_beside_69 (by omega) (by omega) ⟨rfl, rfl⟩
theorem g_X12_beside {l : Launch} {Z : XZ} {L : Nat → Nat} : ∀ n, P_X12_beside_0 l Z L n
  | 0 => fun _ _ _ _ _ _ _ H => no_e H
  | n + 1 => t_X12_beside_0 n (g_X12_beside n)
theorem m_X12_beside {l : Launch} {Z : XZ} {L : Nat → Nat} (hL : L 700 = 1) {n d : Nat} {S : GS} {a1 : Int} {a2 : Int} {x : Int} {S1 : GS} (H : f_X12_beside n d 0 S [a1, a2] = some (x, S1)) : GM l Z L yX12_beside cX12_beside 5 (some .int) [] d 0 0 [.ref (L 500), .int (J a1), .int (J a2)] S (fun v S' => v = some (.int (J x)) ∧ S1 = S') (fun _ _ => False) := GM.of (by decide) (Nat.le_of_ble_eq_true rfl) ((g_X12_beside n) hL _ _ _ _ _ _ H)

def P_X12_wordOfText_0 (l : Launch) (Z : XZ) (L : Nat → Nat) (n : Nat) : Prop := ∀ (hL : L 700 = 1), ∀ (d : Nat) (S : GS) (a1 : Int) (a2 : Int) (x : Int) (S1 : GS), f_X12_wordOfText n d 0 S [a1, a2] = some (x, S1) → GA l Z L yX12_wordOfText cX12_wordOfText 4 none [] d 0 0 (fun v S' => v = none ∧ S1 = S') (fun _ _ => False) 0 (gl [(0, .ref (L 500)), (1, .int (J a1)), (2, .int (J a2))]) [] S 0 0
def P_X12_wordOfText_14 (l : Launch) (Z : XZ) (L : Nat → Nat) (n : Nat) : Prop := ∀ (hL : L 700 = 1), ∀ (d : Nat) (S : GS) (a1 : Int) (a2 : Int) (a3 : Int) (x : Int) (S1 : GS), f_X12_wordOfText n d 14 S [a1, a2, a3] = some (x, S1) → GA l Z L yX12_wordOfText cX12_wordOfText 4 none [] d 0 0 (fun v S' => v = none ∧ S1 = S') (fun _ _ => False) 14 (gl [(0, .ref (L 500)), (1, .int (J a1)), (2, .int (J a2)), (3, .int (J a3))]) [] S 0 0
theorem i_X12_wordOfText {l : Launch} {Z : XZ} {L : Nat → Nat} (hL : L 700 = 1) {n : Nat} (ih : P_X12_wordOfText_0 l Z L n) {d : Nat} {S : GS} {a1 : Int} {a2 : Int} {x : Int} {S1 : GS} (H : f_X12_wordOfText n d 0 S [a1, a2] = some (x, S1)) : GM l Z L yX12_wordOfText cX12_wordOfText 4 none [] d 0 0 [.ref (L 500), .int (J a1), .int (J a2)] S (fun v S' => v = none ∧ S1 = S') (fun _ _ => False) := GM.of (by decide) (Nat.le_of_ble_eq_true rfl) (ih hL _ _ _ _ _ _ H)
set_option maxHeartbeats 4000000 in
set_option maxRecDepth 20000 in
theorem t_X12_wordOfText_0 {l : Launch} {Z : XZ} {L : Nat → Nat} (n : Nat) (ih_X12_wordOfText_0 : P_X12_wordOfText_0 l Z L n) (ih_X12_wordOfText_14 : P_X12_wordOfText_14 l Z L n) : P_X12_wordOfText_0 l Z L (n + 1) := by
  intro hL d S a1 a2 x S1 H
  have H : b_X12_wordOfText_0 n d (f_X12_wordOfText n) S a1 a2 = some (x, S1) := H
  unfold b_X12_wordOfText_0 at H
  refine GA.aload_n dX12_wordOfText_0 rfl ?_
  refine GA.aload_n dX12_wordOfText_1 rfl ?_
  refine GA.iload_n dX12_wordOfText_2 rfl ?_
  refine GA.iload_n dX12_wordOfText_3 rfl ?_
  refine GA.bipush dX12_wordOfText_4 rfl ?_
  obtain ⟨hg1, H⟩ := gg_e H
  obtain ⟨x2, S_3, hc4, H⟩ := gc_e H
  refine GA.callV (m_X12_part hL hc4) xs_X12_36 dX12_wordOfText_6 (gs_500 hL) (by decide) rfl rfl (by omega) (by decide) rfl (Nat.le_of_ble_eq_true rfl) (by omega) (by omega) rfl (fun E S9 hx => hx.elim) (fun v S9 hq => ?_)
  obtain ⟨rfl, rfl⟩ := hq
  obtain ⟨S_5, hx6, H⟩ := gv_e H
  refine GV.putI hx6 (xp_X12_66 _) dX12_wordOfText_9 (gs_500 hL) (by decide) (Nat.le_of_ble_eq_true rfl) (gs_500 hL) ?_
  refine GA.iconst dX12_wordOfText_12 ?_
  refine GA.istore_n dX12_wordOfText_13 (by decide) ?_
  refine GA.locals [(0, .ref (L 500)), (1, .int (J a1)), (2, .int (J a2)), (3, .int (J 0))] ⟨rfl, rfl, rfl, rfl, trivial⟩ ?_
  exact ih_X12_wordOfText_14 hL _ _ (a1) (a2) (0) _ _ H
set_option maxHeartbeats 4000000 in
set_option maxRecDepth 20000 in
theorem t_X12_wordOfText_14 {l : Launch} {Z : XZ} {L : Nat → Nat} (n : Nat) (ih_X12_wordOfText_0 : P_X12_wordOfText_0 l Z L n) (ih_X12_wordOfText_14 : P_X12_wordOfText_14 l Z L n) : P_X12_wordOfText_14 l Z L (n + 1) := by
  intro hL d S a1 a2 a3 x S1 H
  have H : b_X12_wordOfText_14 n d (f_X12_wordOfText n) S a1 a2 a3 = some (x, S1) := H
  unfold b_X12_wordOfText_14 at H
  refine GA.iload_n dX12_wordOfText_14 rfl ?_
  refine GA.aload_n dX12_wordOfText_15 rfl ?_
  obtain ⟨x1, hx2, H⟩ := gv_e H
  refine GV.getI hx2 xf_X12_66 dX12_wordOfText_16 (gs_500 hL) (by decide) rfl ?_
  obtain ⟨hg3, H⟩ := gg_e H
  obtain ⟨hg4, H⟩ := gg_e H
  refine GV.icmp_ge (tgt := 44) hg3 hg4 dX12_wordOfText_19 (by decide) (fun c5 => ?_) (fun c5 => ?_)
  · have H := it_t H c5
    cases H
    exact GA.vret rfl dX12_wordOfText_44 (by omega) (by omega) ⟨rfl, rfl⟩
  · have H := it_f H c5
    refine GA.aload_n dX12_wordOfText_22 rfl ?_
    refine GA.get xf_X12_69 dX12_wordOfText_23 (gs_500 hL) (by decide) rfl ?_
    refine GA.iload_n dX12_wordOfText_26 rfl ?_
    refine GA.aload_n dX12_wordOfText_27 rfl ?_
    refine GA.iload_n dX12_wordOfText_28 rfl ?_
    refine GA.iload_n dX12_wordOfText_29 rfl ?_
    refine GA.bipush dX12_wordOfText_30 rfl ?_
    refine GA.iload_n dX12_wordOfText_32 rfl ?_
    obtain ⟨x6, hx7, H⟩ := gv_e H
    refine GV.iadd hx7 dX12_wordOfText_33 ?_
    obtain ⟨hg8, H⟩ := gg_e H
    obtain ⟨x9, S_10, hc11, H⟩ := gc_e H
    refine GA.callV (m_X12_part hL hc11) xs_X12_36 dX12_wordOfText_34 (gs_500 hL) (by decide) rfl rfl (by omega) (by decide) rfl (Nat.le_of_ble_eq_true rfl) (by omega) (by omega) rfl (fun E S9 hx => hx.elim) (fun v S9 hq => ?_)
    obtain ⟨rfl, rfl⟩ := hq
    obtain ⟨hg12, H⟩ := gg_e H
    obtain ⟨S_13, hx14, H⟩ := gv_e H
    refine GV.iast hg12 hx14 dX12_wordOfText_37 (fun _ => (gs_507 hL)) (by decide) ?_
    obtain ⟨x15, hx16, H⟩ := gv_e H
    refine GV.iinc hx16 dX12_wordOfText_38 rfl (by decide) ?_
    refine GA.goto (tgt := 14) dX12_wordOfText_41 (by decide) ?_
    refine GA.locals [(0, .ref (L 500)), (1, .int (J a1)), (2, .int (J a2)), (3, .int (J x15))] ⟨rfl, rfl, rfl, rfl, trivial⟩ ?_
    exact ih_X12_wordOfText_14 hL _ _ (a1) (a2) (x15) _ _ H
theorem g_X12_wordOfText {l : Launch} {Z : XZ} {L : Nat → Nat} : ∀ n, P_X12_wordOfText_0 l Z L n ∧ P_X12_wordOfText_14 l Z L n
  | 0 => ⟨fun _ _ _ _ _ _ _ H => no_e H, fun _ _ _ _ _ _ _ _ H => no_e H⟩
  | n + 1 => have ⟨h0, h1⟩ := g_X12_wordOfText (l := l) (Z := Z) (L := L) n
    ⟨t_X12_wordOfText_0 n h0 h1, t_X12_wordOfText_14 n h0 h1⟩
theorem m_X12_wordOfText {l : Launch} {Z : XZ} {L : Nat → Nat} (hL : L 700 = 1) {n d : Nat} {S : GS} {a1 : Int} {a2 : Int} {x : Int} {S1 : GS} (H : f_X12_wordOfText n d 0 S [a1, a2] = some (x, S1)) : GM l Z L yX12_wordOfText cX12_wordOfText 4 none [] d 0 0 [.ref (L 500), .int (J a1), .int (J a2)] S (fun v S' => v = none ∧ S1 = S') (fun _ _ => False) := GM.of (by decide) (Nat.le_of_ble_eq_true rfl) ((g_X12_wordOfText n).1 hL _ _ _ _ _ _ H)

def P_X12_says__0 (l : Launch) (Z : XZ) (L : Nat → Nat) (n : Nat) : Prop := ∀ (hL : L 700 = 1), ∀ (d : Nat) (S : GS) (a1 : Int) (a2 : Int) (a3 : Int) (x : Int) (S1 : GS), f_X12_says_ n d 0 S [a1, a2, a3] = some (x, S1) → GA l Z L yX12_says_ cX12_says_ 8 none [] d 0 0 (fun v S' => v = none ∧ S1 = S') (fun _ _ => False) 0 (gl [(0, .ref (L 500)), (1, .int (J a1)), (2, .int (J a2)), (3, .int (J a3))]) [] S 0 0
def P_X12_says__41 (l : Launch) (Z : XZ) (L : Nat → Nat) (n : Nat) : Prop := ∀ (hL : L 700 = 1), ∀ (d : Nat) (S : GS) (a1 : Int) (a2 : Int) (a3 : Int) (a4 : Int) (s0 : Int) (x : Int) (S1 : GS), f_X12_says_ n d 41 S [a1, a2, a3, a4, s0] = some (x, S1) → GA l Z L yX12_says_ cX12_says_ 8 none [] d 0 0 (fun v S' => v = none ∧ S1 = S') (fun _ _ => False) 41 (gl [(0, .ref (L 500)), (1, .int (J a1)), (2, .int (J a2)), (3, .int (J a3)), (4, .int (J a4))]) [.int (J s0)] S 0 0
def P_X12_says__62 (l : Launch) (Z : XZ) (L : Nat → Nat) (n : Nat) : Prop := ∀ (hL : L 700 = 1), ∀ (d : Nat) (S : GS) (a1 : Int) (a2 : Int) (a3 : Int) (a6 : Int) (a7 : Int) (x : Int) (S1 : GS), f_X12_says_ n d 62 S [a1, a2, a3, a6, a7] = some (x, S1) → GA l Z L yX12_says_ cX12_says_ 8 none [] d 0 0 (fun v S' => v = none ∧ S1 = S') (fun _ _ => False) 62 (gl [(0, .ref (L 500)), (1, .int (J a1)), (2, .int (J a2)), (3, .int (J a3)), (6, .int (J a6)), (7, .int (J a7))]) [] S 0 0
def P_X12_says__150 (l : Launch) (Z : XZ) (L : Nat → Nat) (n : Nat) : Prop := ∀ (hL : L 700 = 1), ∀ (d : Nat) (S : GS) (a1 : Int) (a3 : Int) (s0 : Int) (x : Int) (S1 : GS), f_X12_says_ n d 150 S [a1, a3, s0] = some (x, S1) → GA l Z L yX12_says_ cX12_says_ 8 none [] d 0 0 (fun v S' => v = none ∧ S1 = S') (fun _ _ => False) 150 (gl [(0, .ref (L 500)), (1, .int (J a1)), (3, .int (J a3))]) [.int (J s0)] S 0 0
def P_X12_says__188 (l : Launch) (Z : XZ) (L : Nat → Nat) (n : Nat) : Prop := ∀ (hL : L 700 = 1), ∀ (d : Nat) (S : GS) (a1 : Int) (a3 : Int) (s0 : Int) (x : Int) (S1 : GS), f_X12_says_ n d 188 S [a1, a3, s0] = some (x, S1) → GA l Z L yX12_says_ cX12_says_ 8 none [] d 0 0 (fun v S' => v = none ∧ S1 = S') (fun _ _ => False) 188 (gl [(0, .ref (L 500)), (1, .int (J a1)), (3, .int (J a3))]) [.int (J s0)] S 0 0
def P_X12_says__219 (l : Launch) (Z : XZ) (L : Nat → Nat) (n : Nat) : Prop := ∀ (hL : L 700 = 1), ∀ (d : Nat) (S : GS) (a1 : Int) (a3 : Int) (s0 : Int) (x : Int) (S1 : GS), f_X12_says_ n d 219 S [a1, a3, s0] = some (x, S1) → GA l Z L yX12_says_ cX12_says_ 8 none [] d 0 0 (fun v S' => v = none ∧ S1 = S') (fun _ _ => False) 219 (gl [(0, .ref (L 500)), (1, .int (J a1)), (3, .int (J a3))]) [.int (J s0)] S 0 0
def P_X12_says__250 (l : Launch) (Z : XZ) (L : Nat → Nat) (n : Nat) : Prop := ∀ (hL : L 700 = 1), ∀ (d : Nat) (S : GS) (a1 : Int) (a3 : Int) (s0 : Int) (x : Int) (S1 : GS), f_X12_says_ n d 250 S [a1, a3, s0] = some (x, S1) → GA l Z L yX12_says_ cX12_says_ 8 none [] d 0 0 (fun v S' => v = none ∧ S1 = S') (fun _ _ => False) 250 (gl [(0, .ref (L 500)), (1, .int (J a1)), (3, .int (J a3))]) [.int (J s0)] S 0 0
def P_X12_says__264 (l : Launch) (Z : XZ) (L : Nat → Nat) (n : Nat) : Prop := ∀ (hL : L 700 = 1), ∀ (d : Nat) (S : GS) (a1 : Int) (a2 : Int) (a3 : Int) (a4 : Int) (a6 : Int) (a7 : Int) (x : Int) (S1 : GS), f_X12_says_ n d 264 S [a1, a2, a3, a4, a6, a7] = some (x, S1) → GA l Z L yX12_says_ cX12_says_ 8 none [] d 0 0 (fun v S' => v = none ∧ S1 = S') (fun _ _ => False) 264 (gl [(0, .ref (L 500)), (1, .int (J a1)), (2, .int (J a2)), (3, .int (J a3)), (4, .int (J a4)), (6, .int (J a6)), (7, .int (J a7))]) [] S 0 0
def P_X12_says__330 (l : Launch) (Z : XZ) (L : Nat → Nat) (n : Nat) : Prop := ∀ (hL : L 700 = 1), ∀ (d : Nat) (S : GS) (a1 : Int) (a3 : Int) (a6 : Int) (x : Int) (S1 : GS), f_X12_says_ n d 330 S [a1, a3, a6] = some (x, S1) → GA l Z L yX12_says_ cX12_says_ 8 none [] d 0 0 (fun v S' => v = none ∧ S1 = S') (fun _ _ => False) 330 (gl [(0, .ref (L 500)), (1, .int (J a1)), (3, .int (J a3)), (6, .int (J a6))]) [] S 0 0
def P_X12_says__339 (l : Launch) (Z : XZ) (L : Nat → Nat) (n : Nat) : Prop := ∀ (hL : L 700 = 1), ∀ (d : Nat) (S : GS) (a1 : Int) (a2 : Int) (a3 : Int) (a6 : Int) (a7 : Int) (x : Int) (S1 : GS), f_X12_says_ n d 339 S [a1, a2, a3, a6, a7] = some (x, S1) → GA l Z L yX12_says_ cX12_says_ 8 none [] d 0 0 (fun v S' => v = none ∧ S1 = S') (fun _ _ => False) 339 (gl [(0, .ref (L 500)), (1, .int (J a1)), (2, .int (J a2)), (3, .int (J a3)), (6, .int (J a6)), (7, .int (J a7))]) [] S 0 0
theorem i_X12_says_ {l : Launch} {Z : XZ} {L : Nat → Nat} (hL : L 700 = 1) {n : Nat} (ih : P_X12_says__0 l Z L n) {d : Nat} {S : GS} {a1 : Int} {a2 : Int} {a3 : Int} {x : Int} {S1 : GS} (H : f_X12_says_ n d 0 S [a1, a2, a3] = some (x, S1)) : GM l Z L yX12_says_ cX12_says_ 8 none [] d 0 0 [.ref (L 500), .int (J a1), .int (J a2), .int (J a3)] S (fun v S' => v = none ∧ S1 = S') (fun _ _ => False) := GM.of (by decide) (Nat.le_of_ble_eq_true rfl) (ih hL _ _ _ _ _ _ _ H)
set_option maxHeartbeats 4000000 in
set_option maxRecDepth 20000 in
theorem t_X12_says__0 {l : Launch} {Z : XZ} {L : Nat → Nat} (n : Nat) (ih_X12_says__0 : P_X12_says__0 l Z L n) (ih_X12_says__41 : P_X12_says__41 l Z L n) (ih_X12_says__62 : P_X12_says__62 l Z L n) (ih_X12_says__150 : P_X12_says__150 l Z L n) (ih_X12_says__188 : P_X12_says__188 l Z L n) (ih_X12_says__219 : P_X12_says__219 l Z L n) (ih_X12_says__250 : P_X12_says__250 l Z L n) (ih_X12_says__264 : P_X12_says__264 l Z L n) (ih_X12_says__330 : P_X12_says__330 l Z L n) (ih_X12_says__339 : P_X12_says__339 l Z L n) : P_X12_says__0 l Z L (n + 1) := by
  intro hL d S a1 a2 a3 x S1 H
  have H : b_X12_says__0 n d (f_X12_says_ n) S a1 a2 a3 = some (x, S1) := H
  unfold b_X12_says__0 at H
  refine GA.aload_n dX12_says__0 rfl ?_
  refine GA.aload_n dX12_says__1 rfl ?_
  obtain ⟨x1, hx2, H⟩ := gv_e H
  refine GV.getI hx2 xf_X12_805 dX12_says__2 (gs_500 hL) (by decide) rfl ?_
  refine GA.iload_n dX12_says__5 rfl ?_
  obtain ⟨hg3, H⟩ := gg_e H
  obtain ⟨x4, S_5, hc6, H⟩ := gc_e H
  refine GA.callV (m_X12_kind hL hc6) xs_X12_52 dX12_says__6 (gs_500 hL) (by decide) rfl rfl (by omega) (by decide) rfl (Nat.le_of_ble_eq_true rfl) (by omega) (by omega) rfl (fun E S9 hx => hx.elim) (fun v S9 hq => ?_)
  obtain ⟨rfl, rfl⟩ := hq
  refine GA.istore dX12_says__9 (by decide) ?_
  refine GA.iload dX12_says__11 rfl ?_
  refine GA.iconst dX12_says__13 ?_
  obtain ⟨hg7, H⟩ := gg_e H
  refine GV.icmp_ne (tgt := 31) hg7 (by decide) dX12_says__14 (by decide) (fun c8 => ?_) (fun c8 => ?_)
  · have H := it_t H c8
    refine GA.aload_n dX12_says__31 rfl ?_
    refine GA.aload_n dX12_says__32 rfl ?_
    obtain ⟨x9, hx10, H⟩ := gv_e H
    refine GV.getI hx10 xf_X12_805 dX12_says__33 (gs_500 hL) (by decide) rfl ?_
    refine GA.iload_n dX12_says__36 rfl ?_
    refine GA.iconst dX12_says__37 ?_
    obtain ⟨x11, S_12, hc13, H⟩ := gc_e H
    refine GA.callV (m_X12_part hL hc13) xs_X12_36 dX12_says__38 (gs_500 hL) (by decide) rfl rfl (by omega) (by decide) rfl (Nat.le_of_ble_eq_true rfl) (by omega) (by omega) rfl (fun E S9 hx => hx.elim) (fun v S9 hq => ?_)
    obtain ⟨rfl, rfl⟩ := hq
    refine GA.locals [(0, .ref (L 500)), (1, .int (J a1)), (2, .int (J a2)), (3, .int (J a3)), (4, .int (J x4))] ⟨rfl, rfl, rfl, rfl, rfl, trivial⟩ ?_
    exact ih_X12_says__41 hL _ _ (a1) (a2) (a3) (x4) (x11) _ _ H
  · have H := it_f H c8
    refine GA.aload_n dX12_says__17 rfl ?_
    refine GA.aload_n dX12_says__18 rfl ?_
    obtain ⟨x14, hx15, H⟩ := gv_e H
    refine GV.getI hx15 xf_X12_805 dX12_says__19 (gs_500 hL) (by decide) rfl ?_
    refine GA.iload_n dX12_says__22 rfl ?_
    refine GA.bipush dX12_says__23 rfl ?_
    obtain ⟨x16, S_17, hc18, H⟩ := gc_e H
    refine GA.callV (m_X12_part hL hc18) xs_X12_36 dX12_says__25 (gs_500 hL) (by decide) rfl rfl (by omega) (by decide) rfl (Nat.le_of_ble_eq_true rfl) (by omega) (by omega) rfl (fun E S9 hx => hx.elim) (fun v S9 hq => ?_)
    obtain ⟨rfl, rfl⟩ := hq
    refine GA.goto (tgt := 41) dX12_says__28 (by decide) ?_
    refine GA.locals [(0, .ref (L 500)), (1, .int (J a1)), (2, .int (J a2)), (3, .int (J a3)), (4, .int (J x4))] ⟨rfl, rfl, rfl, rfl, rfl, trivial⟩ ?_
    exact ih_X12_says__41 hL _ _ (a1) (a2) (a3) (x4) (x16) _ _ H
set_option maxHeartbeats 4000000 in
set_option maxRecDepth 20000 in
theorem t_X12_says__41 {l : Launch} {Z : XZ} {L : Nat → Nat} (n : Nat) (ih_X12_says__0 : P_X12_says__0 l Z L n) (ih_X12_says__41 : P_X12_says__41 l Z L n) (ih_X12_says__62 : P_X12_says__62 l Z L n) (ih_X12_says__150 : P_X12_says__150 l Z L n) (ih_X12_says__188 : P_X12_says__188 l Z L n) (ih_X12_says__219 : P_X12_says__219 l Z L n) (ih_X12_says__250 : P_X12_says__250 l Z L n) (ih_X12_says__264 : P_X12_says__264 l Z L n) (ih_X12_says__330 : P_X12_says__330 l Z L n) (ih_X12_says__339 : P_X12_says__339 l Z L n) : P_X12_says__41 l Z L (n + 1) := by
  intro hL d S a1 a2 a3 a4 s0 x S1 H
  have H : b_X12_says__41 n d (f_X12_says_ n) S a1 a2 a3 a4 s0 = some (x, S1) := H
  unfold b_X12_says__41 at H
  refine GA.istore dX12_says__41 (by decide) ?_
  refine GA.iconst dX12_says__43 ?_
  refine GA.istore dX12_says__44 (by decide) ?_
  refine GA.iload_n dX12_says__46 rfl ?_
  refine GA.iconst dX12_says__47 ?_
  obtain ⟨hg1, H⟩ := gg_e H
  refine GV.icmp_ne (tgt := 117) hg1 (by decide) dX12_says__48 (by decide) (fun c2 => ?_) (fun c2 => ?_)
  · have H := it_t H c2
    refine GA.iload_n dX12_says__117 rfl ?_
    refine GA.iconst dX12_says__118 ?_
    refine GV.icmp_ne (tgt := 155) hg1 (by decide) dX12_says__119 (by decide) (fun c3 => ?_) (fun c3 => ?_)
    · have H := it_t H c3
      refine GA.iload_n dX12_says__155 rfl ?_
      refine GA.iconst dX12_says__156 ?_
      refine GV.icmp_ne (tgt := 193) hg1 (by decide) dX12_says__157 (by decide) (fun c4 => ?_) (fun c4 => ?_)
      · have H := it_t H c4
        refine GA.iload_n dX12_says__193 rfl ?_
        refine GA.iconst dX12_says__194 ?_
        refine GV.icmp_ne (tgt := 224) hg1 (by decide) dX12_says__195 (by decide) (fun c5 => ?_) (fun c5 => ?_)
        · have H := it_t H c5
          refine GA.iload_n dX12_says__224 rfl ?_
          refine GA.iconst dX12_says__225 ?_
          refine GV.icmp_ne (tgt := 255) hg1 (by decide) dX12_says__226 (by decide) (fun c6 => ?_) (fun c6 => ?_)
          · have H := it_t H c6
            refine GA.iload_n dX12_says__255 rfl ?_
            refine GA.bipush dX12_says__256 rfl ?_
            refine GV.icmp_ne (tgt := 333) hg1 (by decide) dX12_says__258 (by decide) (fun c7 => ?_) (fun c7 => ?_)
            · have H := it_t H c7
              refine GA.iconst dX12_says__333 ?_
              refine GA.istore dX12_says__334 (by decide) ?_
              refine GA.iconst dX12_says__336 ?_
              refine GA.istore dX12_says__337 (by decide) ?_
              refine GA.locals [(0, .ref (L 500)), (1, .int (J a1)), (2, .int (J a2)), (3, .int (J a3)), (6, .int (J 0)), (7, .int (J 0))] ⟨rfl, rfl, rfl, rfl, rfl, rfl, trivial⟩ ?_
              exact ih_X12_says__339 hL _ _ (a1) (a2) (a3) (0) (0) _ _ H
            · have H := it_f H c7
              refine GA.iconst dX12_says__261 ?_
              refine GA.istore dX12_says__262 (by decide) ?_
              refine GA.locals [(0, .ref (L 500)), (1, .int (J a1)), (2, .int (J a2)), (3, .int (J a3)), (4, .int (J a4)), (6, .int (J 1)), (7, .int (J 0))] ⟨rfl, rfl, rfl, rfl, rfl, rfl, rfl, trivial⟩ ?_
              exact ih_X12_says__264 hL _ _ (a1) (a2) (a3) (a4) (1) (0) _ _ H
          · have H := it_f H c6
            refine GA.iload dX12_says__229 rfl ?_
            refine GA.iconst dX12_says__231 ?_
            obtain ⟨hg8, H⟩ := gg_e H
            refine GV.icmp_lt (tgt := 245) hg8 (by decide) dX12_says__232 (by decide) (fun c9 => ?_) (fun c9 => ?_)
            · have H := it_t H c9
              refine GA.iconst dX12_says__245 ?_
              refine GA.goto (tgt := 250) dX12_says__246 (by decide) ?_
              refine GA.locals [(0, .ref (L 500)), (1, .int (J a1)), (3, .int (J a3))] ⟨rfl, rfl, rfl, trivial⟩ ?_
              exact ih_X12_says__250 hL _ _ (a1) (a3) (1) _ _ H
            · have H := it_f H c9
              refine GA.aload_n dX12_says__235 rfl ?_
              refine GA.iload dX12_says__236 rfl ?_
              refine GA.iload_n dX12_says__238 rfl ?_
              obtain ⟨hg10, H⟩ := gg_e H
              obtain ⟨x11, S_12, hc13, H⟩ := gc_e H
              refine GA.callV (m_X12_beside hL hc13) xs_X12_811 dX12_says__239 (gs_500 hL) (by decide) rfl rfl (by omega) (by decide) rfl (Nat.le_of_ble_eq_true rfl) (by omega) (by omega) rfl (fun E S9 hx => hx.elim) (fun v S9 hq => ?_)
              obtain ⟨rfl, rfl⟩ := hq
              obtain ⟨hg14, H⟩ := gg_e H
              refine GV.if_gt (tgt := 249) hg14 dX12_says__242 (by decide) (fun c15 => ?_) (fun c15 => ?_)
              · have H := it_t H c15
                refine GA.iconst dX12_says__249 ?_
                refine GA.locals [(0, .ref (L 500)), (1, .int (J a1)), (3, .int (J a3))] ⟨rfl, rfl, rfl, trivial⟩ ?_
                exact ih_X12_says__250 hL _ _ (a1) (a3) (0) _ _ H
              · have H := it_f H c15
                refine GA.iconst dX12_says__245 ?_
                refine GA.goto (tgt := 250) dX12_says__246 (by decide) ?_
                refine GA.locals [(0, .ref (L 500)), (1, .int (J a1)), (3, .int (J a3))] ⟨rfl, rfl, rfl, trivial⟩ ?_
                exact ih_X12_says__250 hL _ _ (a1) (a3) (1) _ _ H
        · have H := it_f H c5
          refine GA.iload dX12_says__198 rfl ?_
          refine GA.iconst dX12_says__200 ?_
          obtain ⟨hg16, H⟩ := gg_e H
          refine GV.icmp_lt (tgt := 214) hg16 (by decide) dX12_says__201 (by decide) (fun c17 => ?_) (fun c17 => ?_)
          · have H := it_t H c17
            refine GA.iconst dX12_says__214 ?_
            refine GA.goto (tgt := 219) dX12_says__215 (by decide) ?_
            refine GA.locals [(0, .ref (L 500)), (1, .int (J a1)), (3, .int (J a3))] ⟨rfl, rfl, rfl, trivial⟩ ?_
            exact ih_X12_says__219 hL _ _ (a1) (a3) (1) _ _ H
          · have H := it_f H c17
            refine GA.aload_n dX12_says__204 rfl ?_
            refine GA.iload dX12_says__205 rfl ?_
            refine GA.iload_n dX12_says__207 rfl ?_
            obtain ⟨hg18, H⟩ := gg_e H
            obtain ⟨x19, S_20, hc21, H⟩ := gc_e H
            refine GA.callV (m_X12_beside hL hc21) xs_X12_811 dX12_says__208 (gs_500 hL) (by decide) rfl rfl (by omega) (by decide) rfl (Nat.le_of_ble_eq_true rfl) (by omega) (by omega) rfl (fun E S9 hx => hx.elim) (fun v S9 hq => ?_)
            obtain ⟨rfl, rfl⟩ := hq
            obtain ⟨hg22, H⟩ := gg_e H
            refine GV.if_lt (tgt := 218) hg22 dX12_says__211 (by decide) (fun c23 => ?_) (fun c23 => ?_)
            · have H := it_t H c23
              refine GA.iconst dX12_says__218 ?_
              refine GA.locals [(0, .ref (L 500)), (1, .int (J a1)), (3, .int (J a3))] ⟨rfl, rfl, rfl, trivial⟩ ?_
              exact ih_X12_says__219 hL _ _ (a1) (a3) (0) _ _ H
            · have H := it_f H c23
              refine GA.iconst dX12_says__214 ?_
              refine GA.goto (tgt := 219) dX12_says__215 (by decide) ?_
              refine GA.locals [(0, .ref (L 500)), (1, .int (J a1)), (3, .int (J a3))] ⟨rfl, rfl, rfl, trivial⟩ ?_
              exact ih_X12_says__219 hL _ _ (a1) (a3) (1) _ _ H
      · have H := it_f H c4
        refine GA.iload dX12_says__160 rfl ?_
        refine GA.iconst dX12_says__162 ?_
        obtain ⟨hg24, H⟩ := gg_e H
        refine GV.icmp_ne (tgt := 183) hg24 (by decide) dX12_says__163 (by decide) (fun c25 => ?_) (fun c25 => ?_)
        · have H := it_t H c25
          refine GA.iconst dX12_says__183 ?_
          refine GA.goto (tgt := 188) dX12_says__184 (by decide) ?_
          refine GA.locals [(0, .ref (L 500)), (1, .int (J a1)), (3, .int (J a3))] ⟨rfl, rfl, rfl, trivial⟩ ?_
          exact ih_X12_says__188 hL _ _ (a1) (a3) (1) _ _ H
        · have H := it_f H c25
          refine GA.aload_n dX12_says__166 rfl ?_
          refine GA.aload_n dX12_says__167 rfl ?_
          obtain ⟨x26, hx27, H⟩ := gv_e H
          refine GV.getI hx27 xf_X12_805 dX12_says__168 (gs_500 hL) (by decide) rfl ?_
          refine GA.iload_n dX12_says__171 rfl ?_
          refine GA.aload_n dX12_says__172 rfl ?_
          obtain ⟨x28, hx29, H⟩ := gv_e H
          refine GV.getI hx29 xf_X12_802 dX12_says__173 (gs_500 hL) (by decide) rfl ?_
          refine GA.iload_n dX12_says__176 rfl ?_
          obtain ⟨hg30, H⟩ := gg_e H
          obtain ⟨x31, S_32, hc33, H⟩ := gc_e H
          refine GA.callV (m_X12_compared hL hc33) xs_X12_594 dX12_says__177 (gs_500 hL) (by decide) rfl rfl (by omega) (by decide) rfl (Nat.le_of_ble_eq_true rfl) (by omega) (by omega) rfl (fun E S9 hx => hx.elim) (fun v S9 hq => ?_)
          obtain ⟨rfl, rfl⟩ := hq
          obtain ⟨hg34, H⟩ := gg_e H
          refine GV.if_gt (tgt := 187) hg34 dX12_says__180 (by decide) (fun c35 => ?_) (fun c35 => ?_)
          · have H := it_t H c35
            refine GA.iconst dX12_says__187 ?_
            refine GA.locals [(0, .ref (L 500)), (1, .int (J a1)), (3, .int (J a3))] ⟨rfl, rfl, rfl, trivial⟩ ?_
            exact ih_X12_says__188 hL _ _ (a1) (a3) (0) _ _ H
          · have H := it_f H c35
            refine GA.iconst dX12_says__183 ?_
            refine GA.goto (tgt := 188) dX12_says__184 (by decide) ?_
            refine GA.locals [(0, .ref (L 500)), (1, .int (J a1)), (3, .int (J a3))] ⟨rfl, rfl, rfl, trivial⟩ ?_
            exact ih_X12_says__188 hL _ _ (a1) (a3) (1) _ _ H
    · have H := it_f H c3
      refine GA.iload dX12_says__122 rfl ?_
      refine GA.iconst dX12_says__124 ?_
      obtain ⟨hg36, H⟩ := gg_e H
      refine GV.icmp_ne (tgt := 145) hg36 (by decide) dX12_says__125 (by decide) (fun c37 => ?_) (fun c37 => ?_)
      · have H := it_t H c37
        refine GA.iconst dX12_says__145 ?_
        refine GA.goto (tgt := 150) dX12_says__146 (by decide) ?_
        refine GA.locals [(0, .ref (L 500)), (1, .int (J a1)), (3, .int (J a3))] ⟨rfl, rfl, rfl, trivial⟩ ?_
        exact ih_X12_says__150 hL _ _ (a1) (a3) (1) _ _ H
      · have H := it_f H c37
        refine GA.aload_n dX12_says__128 rfl ?_
        refine GA.aload_n dX12_says__129 rfl ?_
        obtain ⟨x38, hx39, H⟩ := gv_e H
        refine GV.getI hx39 xf_X12_805 dX12_says__130 (gs_500 hL) (by decide) rfl ?_
        refine GA.iload_n dX12_says__133 rfl ?_
        refine GA.aload_n dX12_says__134 rfl ?_
        obtain ⟨x40, hx41, H⟩ := gv_e H
        refine GV.getI hx41 xf_X12_802 dX12_says__135 (gs_500 hL) (by decide) rfl ?_
        refine GA.iload_n dX12_says__138 rfl ?_
        obtain ⟨hg42, H⟩ := gg_e H
        obtain ⟨x43, S_44, hc45, H⟩ := gc_e H
        refine GA.callV (m_X12_compared hL hc45) xs_X12_594 dX12_says__139 (gs_500 hL) (by decide) rfl rfl (by omega) (by decide) rfl (Nat.le_of_ble_eq_true rfl) (by omega) (by omega) rfl (fun E S9 hx => hx.elim) (fun v S9 hq => ?_)
        obtain ⟨rfl, rfl⟩ := hq
        obtain ⟨hg46, H⟩ := gg_e H
        refine GV.if_lt (tgt := 149) hg46 dX12_says__142 (by decide) (fun c47 => ?_) (fun c47 => ?_)
        · have H := it_t H c47
          refine GA.iconst dX12_says__149 ?_
          refine GA.locals [(0, .ref (L 500)), (1, .int (J a1)), (3, .int (J a3))] ⟨rfl, rfl, rfl, trivial⟩ ?_
          exact ih_X12_says__150 hL _ _ (a1) (a3) (0) _ _ H
        · have H := it_f H c47
          refine GA.iconst dX12_says__145 ?_
          refine GA.goto (tgt := 150) dX12_says__146 (by decide) ?_
          refine GA.locals [(0, .ref (L 500)), (1, .int (J a1)), (3, .int (J a3))] ⟨rfl, rfl, rfl, trivial⟩ ?_
          exact ih_X12_says__150 hL _ _ (a1) (a3) (1) _ _ H
  · have H := it_f H c2
    refine GA.aload_n dX12_says__51 rfl ?_
    refine GA.iload_n dX12_says__52 rfl ?_
    refine GA.iload_n dX12_says__53 rfl ?_
    obtain ⟨hg48, H⟩ := gg_e H
    obtain ⟨x49, S_50, hc51, H⟩ := gc_e H
    refine GA.callV (m_X12_isKind hL hc51) xs_X12_808 dX12_says__54 (gs_500 hL) (by decide) rfl rfl (by omega) (by decide) rfl (Nat.le_of_ble_eq_true rfl) (by omega) (by omega) rfl (fun E S9 hx => hx.elim) (fun v S9 hq => ?_)
    obtain ⟨rfl, rfl⟩ := hq
    refine GA.istore dX12_says__57 (by decide) ?_
    refine GA.iconst dX12_says__59 ?_
    refine GA.istore dX12_says__60 (by decide) ?_
    refine GA.locals [(0, .ref (L 500)), (1, .int (J a1)), (2, .int (J a2)), (3, .int (J a3)), (6, .int (J x49)), (7, .int (J 0))] ⟨rfl, rfl, rfl, rfl, rfl, rfl, trivial⟩ ?_
    exact ih_X12_says__62 hL _ _ (a1) (a2) (a3) (x49) (0) _ _ H
set_option maxHeartbeats 4000000 in
set_option maxRecDepth 20000 in
theorem t_X12_says__62 {l : Launch} {Z : XZ} {L : Nat → Nat} (n : Nat) (ih_X12_says__0 : P_X12_says__0 l Z L n) (ih_X12_says__41 : P_X12_says__41 l Z L n) (ih_X12_says__62 : P_X12_says__62 l Z L n) (ih_X12_says__150 : P_X12_says__150 l Z L n) (ih_X12_says__188 : P_X12_says__188 l Z L n) (ih_X12_says__219 : P_X12_says__219 l Z L n) (ih_X12_says__250 : P_X12_says__250 l Z L n) (ih_X12_says__264 : P_X12_says__264 l Z L n) (ih_X12_says__330 : P_X12_says__330 l Z L n) (ih_X12_says__339 : P_X12_says__339 l Z L n) : P_X12_says__62 l Z L (n + 1) := by
  intro hL d S a1 a2 a3 a6 a7 x S1 H
  have H : b_X12_says__62 n d (f_X12_says_ n) S a1 a2 a3 a6 a7 = some (x, S1) := H
  unfold b_X12_says__62 at H
  refine GA.iload dX12_says__62 rfl ?_
  refine GA.aload_n dX12_says__64 rfl ?_
  refine GA.aload_n dX12_says__65 rfl ?_
  obtain ⟨x1, hx2, H⟩ := gv_e H
  refine GV.getI hx2 xf_X12_802 dX12_says__66 (gs_500 hL) (by decide) rfl ?_
  refine GA.iload_n dX12_says__69 rfl ?_
  refine GA.iconst dX12_says__70 ?_
  obtain ⟨hg3, H⟩ := gg_e H
  obtain ⟨x4, S_5, hc6, H⟩ := gc_e H
  refine GA.callV (m_X12_part hL hc6) xs_X12_36 dX12_says__71 (gs_500 hL) (by decide) rfl rfl (by omega) (by decide) rfl (Nat.le_of_ble_eq_true rfl) (by omega) (by omega) rfl (fun E S9 hx => hx.elim) (fun v S9 hq => ?_)
  obtain ⟨rfl, rfl⟩ := hq
  obtain ⟨hg7, H⟩ := gg_e H
  obtain ⟨hg8, H⟩ := gg_e H
  refine GV.icmp_ge (tgt := 114) hg7 hg8 dX12_says__74 (by decide) (fun c9 => ?_) (fun c9 => ?_)
  · have H := it_t H c9
    refine GA.goto (tgt := 399) dX12_says__114 (by decide) ?_
    refine GA.iload dX12_says__399 rfl ?_
    obtain ⟨hg10, H⟩ := gg_e H
    refine GV.if_ne (tgt := 410) hg10 dX12_says__401 (by decide) (fun c11 => ?_) (fun c11 => ?_)
    · have H := it_t H c11
      cases H
      exact GA.vret rfl dX12_says__410 (by omega) (by omega) ⟨rfl, rfl⟩
    · have H := it_f H c11
      refine GA.aload_n dX12_says__404 rfl ?_
      refine GA.iload_n dX12_says__405 rfl ?_
      refine GA.iload_n dX12_says__406 rfl ?_
      obtain ⟨x12, S_13, hc14, H⟩ := gc_e H
      refine GA.callV (m_X12_complains hL hc14) xs_X12_817 dX12_says__407 (gs_500 hL) (by decide) rfl rfl (by omega) (by decide) rfl (Nat.le_of_ble_eq_true rfl) (by omega) (by omega) rfl (fun E S9 hx => hx.elim) (fun v S9 hq => ?_)
      obtain ⟨rfl, rfl⟩ := hq
      cases H
      exact GA.vret rfl dX12_says__410 (by omega) (by omega) ⟨rfl, rfl⟩
  · have H := it_f H c9
    refine GA.iload dX12_says__77 rfl ?_
    obtain ⟨hg15, H⟩ := gg_e H
    refine GV.if_ne (tgt := 101) hg15 dX12_says__79 (by decide) (fun c16 => ?_) (fun c16 => ?_)
    · have H := it_t H c16
      refine GA.iconst dX12_says__101 ?_
      refine GA.goto (tgt := 106) dX12_says__102 (by decide) ?_
      refine GA.istore dX12_says__106 (by decide) ?_
      obtain ⟨x17, hx18, H⟩ := gv_e H
      refine GV.iinc hx18 dX12_says__108 rfl (by decide) ?_
      refine GA.goto (tgt := 62) dX12_says__111 (by decide) ?_
      refine GA.locals [(0, .ref (L 500)), (1, .int (J a1)), (2, .int (J a2)), (3, .int (J a3)), (6, .int (J 1)), (7, .int (J x17))] ⟨rfl, rfl, rfl, rfl, rfl, rfl, trivial⟩ ?_
      exact ih_X12_says__62 hL _ _ (a1) (a2) (a3) (1) (x17) _ _ H
    · have H := it_f H c16
      refine GA.aload_n dX12_says__82 rfl ?_
      refine GA.aload_n dX12_says__83 rfl ?_
      refine GA.aload_n dX12_says__84 rfl ?_
      obtain ⟨x19, hx20, H⟩ := gv_e H
      refine GV.getI hx20 xf_X12_802 dX12_says__85 (gs_500 hL) (by decide) rfl ?_
      refine GA.iload_n dX12_says__88 rfl ?_
      refine GA.iload dX12_says__89 rfl ?_
      obtain ⟨x21, S_22, hc23, H⟩ := gc_e H
      refine GA.callV (m_X12_childAt hL hc23) xs_X12_616 dX12_says__91 (gs_500 hL) (by decide) rfl rfl (by omega) (by decide) rfl (Nat.le_of_ble_eq_true rfl) (by omega) (by omega) rfl (fun E S9 hx => hx.elim) (fun v S9 hq => ?_)
      obtain ⟨rfl, rfl⟩ := hq
      refine GA.iload_n dX12_says__94 rfl ?_
      obtain ⟨x24, S_25, hc26, H⟩ := gc_e H
      refine GA.callV (m_X12_isKind hL hc26) xs_X12_808 dX12_says__95 (gs_500 hL) (by decide) rfl rfl (by omega) (by decide) rfl (Nat.le_of_ble_eq_true rfl) (by omega) (by omega) rfl (fun E S9 hx => hx.elim) (fun v S9 hq => ?_)
      obtain ⟨rfl, rfl⟩ := hq
      obtain ⟨hg27, H⟩ := gg_e H
      refine GV.if_eq (tgt := 105) hg27 dX12_says__98 (by decide) (fun c28 => ?_) (fun c28 => ?_)
      · have H := it_t H c28
        refine GA.iconst dX12_says__105 ?_
        refine GA.istore dX12_says__106 (by decide) ?_
        obtain ⟨x29, hx30, H⟩ := gv_e H
        refine GV.iinc hx30 dX12_says__108 rfl (by decide) ?_
        refine GA.goto (tgt := 62) dX12_says__111 (by decide) ?_
        refine GA.locals [(0, .ref (L 500)), (1, .int (J a1)), (2, .int (J a2)), (3, .int (J a3)), (6, .int (J 0)), (7, .int (J x29))] ⟨rfl, rfl, rfl, rfl, rfl, rfl, trivial⟩ ?_
        exact ih_X12_says__62 hL _ _ (a1) (a2) (a3) (0) (x29) _ _ H
      · have H := it_f H c28
        refine GA.iconst dX12_says__101 ?_
        refine GA.goto (tgt := 106) dX12_says__102 (by decide) ?_
        refine GA.istore dX12_says__106 (by decide) ?_
        obtain ⟨x31, hx32, H⟩ := gv_e H
        refine GV.iinc hx32 dX12_says__108 rfl (by decide) ?_
        refine GA.goto (tgt := 62) dX12_says__111 (by decide) ?_
        refine GA.locals [(0, .ref (L 500)), (1, .int (J a1)), (2, .int (J a2)), (3, .int (J a3)), (6, .int (J 1)), (7, .int (J x31))] ⟨rfl, rfl, rfl, rfl, rfl, rfl, trivial⟩ ?_
        exact ih_X12_says__62 hL _ _ (a1) (a2) (a3) (1) (x31) _ _ H
set_option maxHeartbeats 4000000 in
set_option maxRecDepth 20000 in
theorem t_X12_says__150 {l : Launch} {Z : XZ} {L : Nat → Nat} (n : Nat) (ih_X12_says__0 : P_X12_says__0 l Z L n) (ih_X12_says__41 : P_X12_says__41 l Z L n) (ih_X12_says__62 : P_X12_says__62 l Z L n) (ih_X12_says__150 : P_X12_says__150 l Z L n) (ih_X12_says__188 : P_X12_says__188 l Z L n) (ih_X12_says__219 : P_X12_says__219 l Z L n) (ih_X12_says__250 : P_X12_says__250 l Z L n) (ih_X12_says__264 : P_X12_says__264 l Z L n) (ih_X12_says__330 : P_X12_says__330 l Z L n) (ih_X12_says__339 : P_X12_says__339 l Z L n) : P_X12_says__150 l Z L (n + 1) := by
  intro hL d S a1 a3 s0 x S1 H
  have H : b_X12_says__150 n d (f_X12_says_ n) S a1 a3 s0 = some (x, S1) := H
  unfold b_X12_says__150 at H
  refine GA.istore dX12_says__150 (by decide) ?_
  refine GA.goto (tgt := 399) dX12_says__152 (by decide) ?_
  refine GA.iload dX12_says__399 rfl ?_
  obtain ⟨hg1, H⟩ := gg_e H
  refine GV.if_ne (tgt := 410) hg1 dX12_says__401 (by decide) (fun c2 => ?_) (fun c2 => ?_)
  · have H := it_t H c2
    cases H
    exact GA.vret rfl dX12_says__410 (by omega) (by omega) ⟨rfl, rfl⟩
  · have H := it_f H c2
    refine GA.aload_n dX12_says__404 rfl ?_
    refine GA.iload_n dX12_says__405 rfl ?_
    refine GA.iload_n dX12_says__406 rfl ?_
    obtain ⟨hg3, H⟩ := gg_e H
    obtain ⟨x4, S_5, hc6, H⟩ := gc_e H
    refine GA.callV (m_X12_complains hL hc6) xs_X12_817 dX12_says__407 (gs_500 hL) (by decide) rfl rfl (by omega) (by decide) rfl (Nat.le_of_ble_eq_true rfl) (by omega) (by omega) rfl (fun E S9 hx => hx.elim) (fun v S9 hq => ?_)
    obtain ⟨rfl, rfl⟩ := hq
    cases H
    exact GA.vret rfl dX12_says__410 (by omega) (by omega) ⟨rfl, rfl⟩
set_option maxHeartbeats 4000000 in
set_option maxRecDepth 20000 in
theorem t_X12_says__188 {l : Launch} {Z : XZ} {L : Nat → Nat} (n : Nat) (ih_X12_says__0 : P_X12_says__0 l Z L n) (ih_X12_says__41 : P_X12_says__41 l Z L n) (ih_X12_says__62 : P_X12_says__62 l Z L n) (ih_X12_says__150 : P_X12_says__150 l Z L n) (ih_X12_says__188 : P_X12_says__188 l Z L n) (ih_X12_says__219 : P_X12_says__219 l Z L n) (ih_X12_says__250 : P_X12_says__250 l Z L n) (ih_X12_says__264 : P_X12_says__264 l Z L n) (ih_X12_says__330 : P_X12_says__330 l Z L n) (ih_X12_says__339 : P_X12_says__339 l Z L n) : P_X12_says__188 l Z L (n + 1) := by
  intro hL d S a1 a3 s0 x S1 H
  have H : b_X12_says__188 n d (f_X12_says_ n) S a1 a3 s0 = some (x, S1) := H
  unfold b_X12_says__188 at H
  refine GA.istore dX12_says__188 (by decide) ?_
  refine GA.goto (tgt := 399) dX12_says__190 (by decide) ?_
  refine GA.iload dX12_says__399 rfl ?_
  obtain ⟨hg1, H⟩ := gg_e H
  refine GV.if_ne (tgt := 410) hg1 dX12_says__401 (by decide) (fun c2 => ?_) (fun c2 => ?_)
  · have H := it_t H c2
    cases H
    exact GA.vret rfl dX12_says__410 (by omega) (by omega) ⟨rfl, rfl⟩
  · have H := it_f H c2
    refine GA.aload_n dX12_says__404 rfl ?_
    refine GA.iload_n dX12_says__405 rfl ?_
    refine GA.iload_n dX12_says__406 rfl ?_
    obtain ⟨hg3, H⟩ := gg_e H
    obtain ⟨x4, S_5, hc6, H⟩ := gc_e H
    refine GA.callV (m_X12_complains hL hc6) xs_X12_817 dX12_says__407 (gs_500 hL) (by decide) rfl rfl (by omega) (by decide) rfl (Nat.le_of_ble_eq_true rfl) (by omega) (by omega) rfl (fun E S9 hx => hx.elim) (fun v S9 hq => ?_)
    obtain ⟨rfl, rfl⟩ := hq
    cases H
    exact GA.vret rfl dX12_says__410 (by omega) (by omega) ⟨rfl, rfl⟩
set_option maxHeartbeats 4000000 in
set_option maxRecDepth 20000 in
theorem t_X12_says__219 {l : Launch} {Z : XZ} {L : Nat → Nat} (n : Nat) (ih_X12_says__0 : P_X12_says__0 l Z L n) (ih_X12_says__41 : P_X12_says__41 l Z L n) (ih_X12_says__62 : P_X12_says__62 l Z L n) (ih_X12_says__150 : P_X12_says__150 l Z L n) (ih_X12_says__188 : P_X12_says__188 l Z L n) (ih_X12_says__219 : P_X12_says__219 l Z L n) (ih_X12_says__250 : P_X12_says__250 l Z L n) (ih_X12_says__264 : P_X12_says__264 l Z L n) (ih_X12_says__330 : P_X12_says__330 l Z L n) (ih_X12_says__339 : P_X12_says__339 l Z L n) : P_X12_says__219 l Z L (n + 1) := by
  intro hL d S a1 a3 s0 x S1 H
  have H : b_X12_says__219 n d (f_X12_says_ n) S a1 a3 s0 = some (x, S1) := H
  unfold b_X12_says__219 at H
  refine GA.istore dX12_says__219 (by decide) ?_
  refine GA.goto (tgt := 399) dX12_says__221 (by decide) ?_
  refine GA.iload dX12_says__399 rfl ?_
  obtain ⟨hg1, H⟩ := gg_e H
  refine GV.if_ne (tgt := 410) hg1 dX12_says__401 (by decide) (fun c2 => ?_) (fun c2 => ?_)
  · have H := it_t H c2
    cases H
    exact GA.vret rfl dX12_says__410 (by omega) (by omega) ⟨rfl, rfl⟩
  · have H := it_f H c2
    refine GA.aload_n dX12_says__404 rfl ?_
    refine GA.iload_n dX12_says__405 rfl ?_
    refine GA.iload_n dX12_says__406 rfl ?_
    obtain ⟨hg3, H⟩ := gg_e H
    obtain ⟨x4, S_5, hc6, H⟩ := gc_e H
    refine GA.callV (m_X12_complains hL hc6) xs_X12_817 dX12_says__407 (gs_500 hL) (by decide) rfl rfl (by omega) (by decide) rfl (Nat.le_of_ble_eq_true rfl) (by omega) (by omega) rfl (fun E S9 hx => hx.elim) (fun v S9 hq => ?_)
    obtain ⟨rfl, rfl⟩ := hq
    cases H
    exact GA.vret rfl dX12_says__410 (by omega) (by omega) ⟨rfl, rfl⟩
set_option maxHeartbeats 4000000 in
set_option maxRecDepth 20000 in
theorem t_X12_says__250 {l : Launch} {Z : XZ} {L : Nat → Nat} (n : Nat) (ih_X12_says__0 : P_X12_says__0 l Z L n) (ih_X12_says__41 : P_X12_says__41 l Z L n) (ih_X12_says__62 : P_X12_says__62 l Z L n) (ih_X12_says__150 : P_X12_says__150 l Z L n) (ih_X12_says__188 : P_X12_says__188 l Z L n) (ih_X12_says__219 : P_X12_says__219 l Z L n) (ih_X12_says__250 : P_X12_says__250 l Z L n) (ih_X12_says__264 : P_X12_says__264 l Z L n) (ih_X12_says__330 : P_X12_says__330 l Z L n) (ih_X12_says__339 : P_X12_says__339 l Z L n) : P_X12_says__250 l Z L (n + 1) := by
  intro hL d S a1 a3 s0 x S1 H
  have H : b_X12_says__250 n d (f_X12_says_ n) S a1 a3 s0 = some (x, S1) := H
  unfold b_X12_says__250 at H
  refine GA.istore dX12_says__250 (by decide) ?_
  refine GA.goto (tgt := 399) dX12_says__252 (by decide) ?_
  refine GA.iload dX12_says__399 rfl ?_
  obtain ⟨hg1, H⟩ := gg_e H
  refine GV.if_ne (tgt := 410) hg1 dX12_says__401 (by decide) (fun c2 => ?_) (fun c2 => ?_)
  · have H := it_t H c2
    cases H
    exact GA.vret rfl dX12_says__410 (by omega) (by omega) ⟨rfl, rfl⟩
  · have H := it_f H c2
    refine GA.aload_n dX12_says__404 rfl ?_
    refine GA.iload_n dX12_says__405 rfl ?_
    refine GA.iload_n dX12_says__406 rfl ?_
    obtain ⟨hg3, H⟩ := gg_e H
    obtain ⟨x4, S_5, hc6, H⟩ := gc_e H
    refine GA.callV (m_X12_complains hL hc6) xs_X12_817 dX12_says__407 (gs_500 hL) (by decide) rfl rfl (by omega) (by decide) rfl (Nat.le_of_ble_eq_true rfl) (by omega) (by omega) rfl (fun E S9 hx => hx.elim) (fun v S9 hq => ?_)
    obtain ⟨rfl, rfl⟩ := hq
    cases H
    exact GA.vret rfl dX12_says__410 (by omega) (by omega) ⟨rfl, rfl⟩
set_option maxHeartbeats 4000000 in
set_option maxRecDepth 20000 in
theorem t_X12_says__264 {l : Launch} {Z : XZ} {L : Nat → Nat} (n : Nat) (ih_X12_says__0 : P_X12_says__0 l Z L n) (ih_X12_says__41 : P_X12_says__41 l Z L n) (ih_X12_says__62 : P_X12_says__62 l Z L n) (ih_X12_says__150 : P_X12_says__150 l Z L n) (ih_X12_says__188 : P_X12_says__188 l Z L n) (ih_X12_says__219 : P_X12_says__219 l Z L n) (ih_X12_says__250 : P_X12_says__250 l Z L n) (ih_X12_says__264 : P_X12_says__264 l Z L n) (ih_X12_says__330 : P_X12_says__330 l Z L n) (ih_X12_says__339 : P_X12_says__339 l Z L n) : P_X12_says__264 l Z L (n + 1) := by
  intro hL d S a1 a2 a3 a4 a6 a7 x S1 H
  have H : b_X12_says__264 n d (f_X12_says_ n) S a1 a2 a3 a4 a6 a7 = some (x, S1) := H
  unfold b_X12_says__264 at H
  refine GA.iload dX12_says__264 rfl ?_
  refine GA.aload_n dX12_says__266 rfl ?_
  refine GA.aload_n dX12_says__267 rfl ?_
  obtain ⟨x1, hx2, H⟩ := gv_e H
  refine GV.getI hx2 xf_X12_802 dX12_says__268 (gs_500 hL) (by decide) rfl ?_
  refine GA.iload_n dX12_says__271 rfl ?_
  refine GA.iconst dX12_says__272 ?_
  obtain ⟨hg3, H⟩ := gg_e H
  obtain ⟨x4, S_5, hc6, H⟩ := gc_e H
  refine GA.callV (m_X12_part hL hc6) xs_X12_36 dX12_says__273 (gs_500 hL) (by decide) rfl rfl (by omega) (by decide) rfl (Nat.le_of_ble_eq_true rfl) (by omega) (by omega) rfl (fun E S9 hx => hx.elim) (fun v S9 hq => ?_)
  obtain ⟨rfl, rfl⟩ := hq
  obtain ⟨hg7, H⟩ := gg_e H
  obtain ⟨hg8, H⟩ := gg_e H
  refine GV.icmp_ge (tgt := 330) hg7 hg8 dX12_says__276 (by decide) (fun c9 => ?_) (fun c9 => ?_)
  · have H := it_t H c9
    refine GA.locals [(0, .ref (L 500)), (1, .int (J a1)), (3, .int (J a3)), (6, .int (J a6))] ⟨rfl, rfl, rfl, rfl, trivial⟩ ?_
    exact ih_X12_says__330 hL _ _ (a1) (a3) (a6) _ _ H
  · have H := it_f H c9
    refine GA.iload dX12_says__279 rfl ?_
    refine GA.iconst dX12_says__281 ?_
    obtain ⟨hg10, H⟩ := gg_e H
    refine GV.icmp_ne (tgt := 330) hg10 (by decide) dX12_says__282 (by decide) (fun c11 => ?_) (fun c11 => ?_)
    · have H := it_t H c11
      refine GA.locals [(0, .ref (L 500)), (1, .int (J a1)), (3, .int (J a3)), (6, .int (J a6))] ⟨rfl, rfl, rfl, rfl, trivial⟩ ?_
      exact ih_X12_says__330 hL _ _ (a1) (a3) (a6) _ _ H
    · have H := it_f H c11
      refine GA.aload_n dX12_says__285 rfl ?_
      refine GA.aload_n dX12_says__286 rfl ?_
      obtain ⟨x12, hx13, H⟩ := gv_e H
      refine GV.getI hx13 xf_X12_802 dX12_says__287 (gs_500 hL) (by decide) rfl ?_
      refine GA.aload_n dX12_says__290 rfl ?_
      refine GA.aload_n dX12_says__291 rfl ?_
      obtain ⟨x14, hx15, H⟩ := gv_e H
      refine GV.getI hx15 xf_X12_802 dX12_says__292 (gs_500 hL) (by decide) rfl ?_
      refine GA.iload_n dX12_says__295 rfl ?_
      refine GA.iload dX12_says__296 rfl ?_
      obtain ⟨x16, S_17, hc18, H⟩ := gc_e H
      refine GA.callV (m_X12_childAt hL hc18) xs_X12_616 dX12_says__298 (gs_500 hL) (by decide) rfl rfl (by omega) (by decide) rfl (Nat.le_of_ble_eq_true rfl) (by omega) (by omega) rfl (fun E S9 hx => hx.elim) (fun v S9 hq => ?_)
      obtain ⟨rfl, rfl⟩ := hq
      obtain ⟨x19, S_20, hc21, H⟩ := gc_e H
      refine GA.callV (m_X12_wordOfText hL hc21) xs_X12_814 dX12_says__301 (gs_500 hL) (by decide) rfl rfl (by omega) (by decide) rfl (Nat.le_of_ble_eq_true rfl) (by omega) (by omega) rfl (fun E S9 hx => hx.elim) (fun v S9 hq => ?_)
      obtain ⟨rfl, rfl⟩ := hq
      refine GA.aload_n dX12_says__304 rfl ?_
      refine GA.aload_n dX12_says__305 rfl ?_
      obtain ⟨x22, hx23, H⟩ := gv_e H
      refine GV.getI hx23 xf_X12_805 dX12_says__306 (gs_500 hL) (by decide) rfl ?_
      refine GA.iload_n dX12_says__309 rfl ?_
      obtain ⟨x24, S_25, hc26, H⟩ := gc_e H
      refine GA.callV (m_X12_childByWord hL hc26) xs_X12_78 dX12_says__310 (gs_500 hL) (by decide) rfl rfl (by omega) (by decide) rfl (Nat.le_of_ble_eq_true rfl) (by omega) (by omega) rfl (fun E S9 hx => hx.elim) (fun v S9 hq => ?_)
      obtain ⟨rfl, rfl⟩ := hq
      refine GA.iconst dX12_says__313 ?_
      obtain ⟨hg27, H⟩ := gg_e H
      refine GV.icmp_ne (tgt := 324) hg27 (by decide) dX12_says__314 (by decide) (fun c28 => ?_) (fun c28 => ?_)
      · have H := it_t H c28
        obtain ⟨x29, hx30, H⟩ := gv_e H
        refine GV.iinc hx30 dX12_says__324 rfl (by decide) ?_
        refine GA.goto (tgt := 264) dX12_says__327 (by decide) ?_
        refine GA.locals [(0, .ref (L 500)), (1, .int (J a1)), (2, .int (J a2)), (3, .int (J a3)), (4, .int (J a4)), (6, .int (J a6)), (7, .int (J x29))] ⟨rfl, rfl, rfl, rfl, rfl, rfl, rfl, trivial⟩ ?_
        exact ih_X12_says__264 hL _ _ (a1) (a2) (a3) (a4) (a6) (x29) _ _ H
      · have H := it_f H c28
        refine GA.aload_n dX12_says__317 rfl ?_
        refine GA.iload_n dX12_says__318 rfl ?_
        refine GA.bipush dX12_says__319 rfl ?_
        obtain ⟨x31, S_32, hc33, H⟩ := gc_e H
        refine GA.callV (m_X12_complains hL hc33) xs_X12_817 dX12_says__321 (gs_500 hL) (by decide) rfl rfl (by omega) (by decide) rfl (Nat.le_of_ble_eq_true rfl) (by omega) (by omega) rfl (fun E S9 hx => hx.elim) (fun v S9 hq => ?_)
        obtain ⟨rfl, rfl⟩ := hq
        obtain ⟨x34, hx35, H⟩ := gv_e H
        refine GV.iinc hx35 dX12_says__324 rfl (by decide) ?_
        refine GA.goto (tgt := 264) dX12_says__327 (by decide) ?_
        refine GA.locals [(0, .ref (L 500)), (1, .int (J a1)), (2, .int (J a2)), (3, .int (J a3)), (4, .int (J a4)), (6, .int (J a6)), (7, .int (J x34))] ⟨rfl, rfl, rfl, rfl, rfl, rfl, rfl, trivial⟩ ?_
        exact ih_X12_says__264 hL _ _ (a1) (a2) (a3) (a4) (a6) (x34) _ _ H
set_option maxHeartbeats 4000000 in
set_option maxRecDepth 20000 in
theorem t_X12_says__330 {l : Launch} {Z : XZ} {L : Nat → Nat} (n : Nat) (ih_X12_says__0 : P_X12_says__0 l Z L n) (ih_X12_says__41 : P_X12_says__41 l Z L n) (ih_X12_says__62 : P_X12_says__62 l Z L n) (ih_X12_says__150 : P_X12_says__150 l Z L n) (ih_X12_says__188 : P_X12_says__188 l Z L n) (ih_X12_says__219 : P_X12_says__219 l Z L n) (ih_X12_says__250 : P_X12_says__250 l Z L n) (ih_X12_says__264 : P_X12_says__264 l Z L n) (ih_X12_says__330 : P_X12_says__330 l Z L n) (ih_X12_says__339 : P_X12_says__339 l Z L n) : P_X12_says__330 l Z L (n + 1) := by
  intro hL d S a1 a3 a6 x S1 H
  have H : b_X12_says__330 n d (f_X12_says_ n) S a1 a3 a6 = some (x, S1) := H
  unfold b_X12_says__330 at H
  refine GA.goto (tgt := 399) dX12_says__330 (by decide) ?_
  refine GA.iload dX12_says__399 rfl ?_
  obtain ⟨hg1, H⟩ := gg_e H
  refine GV.if_ne (tgt := 410) hg1 dX12_says__401 (by decide) (fun c2 => ?_) (fun c2 => ?_)
  · have H := it_t H c2
    cases H
    exact GA.vret rfl dX12_says__410 (by omega) (by omega) ⟨rfl, rfl⟩
  · have H := it_f H c2
    refine GA.aload_n dX12_says__404 rfl ?_
    refine GA.iload_n dX12_says__405 rfl ?_
    refine GA.iload_n dX12_says__406 rfl ?_
    obtain ⟨hg3, H⟩ := gg_e H
    obtain ⟨x4, S_5, hc6, H⟩ := gc_e H
    refine GA.callV (m_X12_complains hL hc6) xs_X12_817 dX12_says__407 (gs_500 hL) (by decide) rfl rfl (by omega) (by decide) rfl (Nat.le_of_ble_eq_true rfl) (by omega) (by omega) rfl (fun E S9 hx => hx.elim) (fun v S9 hq => ?_)
    obtain ⟨rfl, rfl⟩ := hq
    cases H
    exact GA.vret rfl dX12_says__410 (by omega) (by omega) ⟨rfl, rfl⟩
set_option maxHeartbeats 4000000 in
set_option maxRecDepth 20000 in
theorem t_X12_says__339 {l : Launch} {Z : XZ} {L : Nat → Nat} (n : Nat) (ih_X12_says__0 : P_X12_says__0 l Z L n) (ih_X12_says__41 : P_X12_says__41 l Z L n) (ih_X12_says__62 : P_X12_says__62 l Z L n) (ih_X12_says__150 : P_X12_says__150 l Z L n) (ih_X12_says__188 : P_X12_says__188 l Z L n) (ih_X12_says__219 : P_X12_says__219 l Z L n) (ih_X12_says__250 : P_X12_says__250 l Z L n) (ih_X12_says__264 : P_X12_says__264 l Z L n) (ih_X12_says__330 : P_X12_says__330 l Z L n) (ih_X12_says__339 : P_X12_says__339 l Z L n) : P_X12_says__339 l Z L (n + 1) := by
  intro hL d S a1 a2 a3 a6 a7 x S1 H
  have H : b_X12_says__339 n d (f_X12_says_ n) S a1 a2 a3 a6 a7 = some (x, S1) := H
  unfold b_X12_says__339 at H
  refine GA.iload dX12_says__339 rfl ?_
  refine GA.aload_n dX12_says__341 rfl ?_
  refine GA.aload_n dX12_says__342 rfl ?_
  obtain ⟨x1, hx2, H⟩ := gv_e H
  refine GV.getI hx2 xf_X12_802 dX12_says__343 (gs_500 hL) (by decide) rfl ?_
  refine GA.iload_n dX12_says__346 rfl ?_
  refine GA.iconst dX12_says__347 ?_
  obtain ⟨hg3, H⟩ := gg_e H
  obtain ⟨x4, S_5, hc6, H⟩ := gc_e H
  refine GA.callV (m_X12_part hL hc6) xs_X12_36 dX12_says__348 (gs_500 hL) (by decide) rfl rfl (by omega) (by decide) rfl (Nat.le_of_ble_eq_true rfl) (by omega) (by omega) rfl (fun E S9 hx => hx.elim) (fun v S9 hq => ?_)
  obtain ⟨rfl, rfl⟩ := hq
  obtain ⟨hg7, H⟩ := gg_e H
  obtain ⟨hg8, H⟩ := gg_e H
  refine GV.icmp_ge (tgt := 399) hg7 hg8 dX12_says__351 (by decide) (fun c9 => ?_) (fun c9 => ?_)
  · have H := it_t H c9
    refine GA.iload dX12_says__399 rfl ?_
    obtain ⟨hg10, H⟩ := gg_e H
    refine GV.if_ne (tgt := 410) hg10 dX12_says__401 (by decide) (fun c11 => ?_) (fun c11 => ?_)
    · have H := it_t H c11
      cases H
      exact GA.vret rfl dX12_says__410 (by omega) (by omega) ⟨rfl, rfl⟩
    · have H := it_f H c11
      refine GA.aload_n dX12_says__404 rfl ?_
      refine GA.iload_n dX12_says__405 rfl ?_
      refine GA.iload_n dX12_says__406 rfl ?_
      obtain ⟨x12, S_13, hc14, H⟩ := gc_e H
      refine GA.callV (m_X12_complains hL hc14) xs_X12_817 dX12_says__407 (gs_500 hL) (by decide) rfl rfl (by omega) (by decide) rfl (Nat.le_of_ble_eq_true rfl) (by omega) (by omega) rfl (fun E S9 hx => hx.elim) (fun v S9 hq => ?_)
      obtain ⟨rfl, rfl⟩ := hq
      cases H
      exact GA.vret rfl dX12_says__410 (by omega) (by omega) ⟨rfl, rfl⟩
  · have H := it_f H c9
    refine GA.iload dX12_says__354 rfl ?_
    obtain ⟨hg15, H⟩ := gg_e H
    refine GV.if_ne (tgt := 386) hg15 dX12_says__356 (by decide) (fun c16 => ?_) (fun c16 => ?_)
    · have H := it_t H c16
      refine GA.iconst dX12_says__386 ?_
      refine GA.goto (tgt := 391) dX12_says__387 (by decide) ?_
      refine GA.istore dX12_says__391 (by decide) ?_
      obtain ⟨x17, hx18, H⟩ := gv_e H
      refine GV.iinc hx18 dX12_says__393 rfl (by decide) ?_
      refine GA.goto (tgt := 339) dX12_says__396 (by decide) ?_
      refine GA.locals [(0, .ref (L 500)), (1, .int (J a1)), (2, .int (J a2)), (3, .int (J a3)), (6, .int (J 1)), (7, .int (J x17))] ⟨rfl, rfl, rfl, rfl, rfl, rfl, trivial⟩ ?_
      exact ih_X12_says__339 hL _ _ (a1) (a2) (a3) (1) (x17) _ _ H
    · have H := it_f H c16
      refine GA.aload_n dX12_says__359 rfl ?_
      refine GA.aload_n dX12_says__360 rfl ?_
      obtain ⟨x19, hx20, H⟩ := gv_e H
      refine GV.getI hx20 xf_X12_802 dX12_says__361 (gs_500 hL) (by decide) rfl ?_
      refine GA.aload_n dX12_says__364 rfl ?_
      refine GA.aload_n dX12_says__365 rfl ?_
      obtain ⟨x21, hx22, H⟩ := gv_e H
      refine GV.getI hx22 xf_X12_802 dX12_says__366 (gs_500 hL) (by decide) rfl ?_
      refine GA.iload_n dX12_says__369 rfl ?_
      refine GA.iload dX12_says__370 rfl ?_
      obtain ⟨x23, S_24, hc25, H⟩ := gc_e H
      refine GA.callV (m_X12_childAt hL hc25) xs_X12_616 dX12_says__372 (gs_500 hL) (by decide) rfl rfl (by omega) (by decide) rfl (Nat.le_of_ble_eq_true rfl) (by omega) (by omega) rfl (fun E S9 hx => hx.elim) (fun v S9 hq => ?_)
      obtain ⟨rfl, rfl⟩ := hq
      refine GA.aload_n dX12_says__375 rfl ?_
      obtain ⟨x26, hx27, H⟩ := gv_e H
      refine GV.getI hx27 xf_X12_805 dX12_says__376 (gs_500 hL) (by decide) rfl ?_
      refine GA.iload_n dX12_says__379 rfl ?_
      obtain ⟨x28, S_29, hc30, H⟩ := gc_e H
      refine GA.callV (m_X12_areEqual hL hc30) xs_X12_590 dX12_says__380 (gs_500 hL) (by decide) rfl rfl (by omega) (by decide) rfl (Nat.le_of_ble_eq_true rfl) (by omega) (by omega) rfl (fun E S9 hx => hx.elim) (fun v S9 hq => ?_)
      obtain ⟨rfl, rfl⟩ := hq
      obtain ⟨hg31, H⟩ := gg_e H
      refine GV.if_eq (tgt := 390) hg31 dX12_says__383 (by decide) (fun c32 => ?_) (fun c32 => ?_)
      · have H := it_t H c32
        refine GA.iconst dX12_says__390 ?_
        refine GA.istore dX12_says__391 (by decide) ?_
        obtain ⟨x33, hx34, H⟩ := gv_e H
        refine GV.iinc hx34 dX12_says__393 rfl (by decide) ?_
        refine GA.goto (tgt := 339) dX12_says__396 (by decide) ?_
        refine GA.locals [(0, .ref (L 500)), (1, .int (J a1)), (2, .int (J a2)), (3, .int (J a3)), (6, .int (J 0)), (7, .int (J x33))] ⟨rfl, rfl, rfl, rfl, rfl, rfl, trivial⟩ ?_
        exact ih_X12_says__339 hL _ _ (a1) (a2) (a3) (0) (x33) _ _ H
      · have H := it_f H c32
        refine GA.iconst dX12_says__386 ?_
        refine GA.goto (tgt := 391) dX12_says__387 (by decide) ?_
        refine GA.istore dX12_says__391 (by decide) ?_
        obtain ⟨x35, hx36, H⟩ := gv_e H
        refine GV.iinc hx36 dX12_says__393 rfl (by decide) ?_
        refine GA.goto (tgt := 339) dX12_says__396 (by decide) ?_
        refine GA.locals [(0, .ref (L 500)), (1, .int (J a1)), (2, .int (J a2)), (3, .int (J a3)), (6, .int (J 1)), (7, .int (J x35))] ⟨rfl, rfl, rfl, rfl, rfl, rfl, trivial⟩ ?_
        exact ih_X12_says__339 hL _ _ (a1) (a2) (a3) (1) (x35) _ _ H
theorem g_X12_says_ {l : Launch} {Z : XZ} {L : Nat → Nat} : ∀ n, P_X12_says__0 l Z L n ∧ P_X12_says__41 l Z L n ∧ P_X12_says__62 l Z L n ∧ P_X12_says__150 l Z L n ∧ P_X12_says__188 l Z L n ∧ P_X12_says__219 l Z L n ∧ P_X12_says__250 l Z L n ∧ P_X12_says__264 l Z L n ∧ P_X12_says__330 l Z L n ∧ P_X12_says__339 l Z L n
  | 0 => ⟨fun _ _ _ _ _ _ _ _ H => no_e H, fun _ _ _ _ _ _ _ _ _ _ H => no_e H, fun _ _ _ _ _ _ _ _ _ _ H => no_e H, fun _ _ _ _ _ _ _ _ H => no_e H, fun _ _ _ _ _ _ _ _ H => no_e H, fun _ _ _ _ _ _ _ _ H => no_e H, fun _ _ _ _ _ _ _ _ H => no_e H, fun _ _ _ _ _ _ _ _ _ _ _ H => no_e H, fun _ _ _ _ _ _ _ _ H => no_e H, fun _ _ _ _ _ _ _ _ _ _ H => no_e H⟩
  | n + 1 => have ⟨h0, h1, h2, h3, h4, h5, h6, h7, h8, h9⟩ := g_X12_says_ (l := l) (Z := Z) (L := L) n
    ⟨t_X12_says__0 n h0 h1 h2 h3 h4 h5 h6 h7 h8 h9, t_X12_says__41 n h0 h1 h2 h3 h4 h5 h6 h7 h8 h9, t_X12_says__62 n h0 h1 h2 h3 h4 h5 h6 h7 h8 h9, t_X12_says__150 n h0 h1 h2 h3 h4 h5 h6 h7 h8 h9, t_X12_says__188 n h0 h1 h2 h3 h4 h5 h6 h7 h8 h9, t_X12_says__219 n h0 h1 h2 h3 h4 h5 h6 h7 h8 h9, t_X12_says__250 n h0 h1 h2 h3 h4 h5 h6 h7 h8 h9, t_X12_says__264 n h0 h1 h2 h3 h4 h5 h6 h7 h8 h9, t_X12_says__330 n h0 h1 h2 h3 h4 h5 h6 h7 h8 h9, t_X12_says__339 n h0 h1 h2 h3 h4 h5 h6 h7 h8 h9⟩
theorem m_X12_says_ {l : Launch} {Z : XZ} {L : Nat → Nat} (hL : L 700 = 1) {n d : Nat} {S : GS} {a1 : Int} {a2 : Int} {a3 : Int} {x : Int} {S1 : GS} (H : f_X12_says_ n d 0 S [a1, a2, a3] = some (x, S1)) : GM l Z L yX12_says_ cX12_says_ 8 none [] d 0 0 [.ref (L 500), .int (J a1), .int (J a2), .int (J a3)] S (fun v S' => v = none ∧ S1 = S') (fun _ _ => False) := GM.of (by decide) (Nat.le_of_ble_eq_true rfl) ((g_X12_says_ n).1 hL _ _ _ _ _ _ _ H)

def P_X12_asksOf_0 (l : Launch) (Z : XZ) (L : Nat → Nat) (n : Nat) : Prop := ∀ (hL : L 700 = 1), ∀ (d : Nat) (S : GS) (a1 : Int) (a2 : Int) (x : Int) (S1 : GS), f_X12_asksOf n d 0 S [a1, a2] = some (x, S1) → GA l Z L yX12_asksOf cX12_asksOf 3 none [] d 0 0 (fun v S' => v = none ∧ S1 = S') (fun _ _ => False) 0 (gl [(0, .ref (L 500)), (1, .int (J a1)), (2, .int (J a2))]) [] S 0 0
theorem i_X12_asksOf {l : Launch} {Z : XZ} {L : Nat → Nat} (hL : L 700 = 1) {n : Nat} (ih : P_X12_asksOf_0 l Z L n) {d : Nat} {S : GS} {a1 : Int} {a2 : Int} {x : Int} {S1 : GS} (H : f_X12_asksOf n d 0 S [a1, a2] = some (x, S1)) : GM l Z L yX12_asksOf cX12_asksOf 3 none [] d 0 0 [.ref (L 500), .int (J a1), .int (J a2)] S (fun v S' => v = none ∧ S1 = S') (fun _ _ => False) := GM.of (by decide) (Nat.le_of_ble_eq_true rfl) (ih hL _ _ _ _ _ _ H)
set_option maxHeartbeats 4000000 in
set_option maxRecDepth 20000 in
theorem t_X12_asksOf_0 {l : Launch} {Z : XZ} {L : Nat → Nat} (n : Nat) (ih_X12_asksOf_0 : P_X12_asksOf_0 l Z L n) : P_X12_asksOf_0 l Z L (n + 1) := by
  intro hL d S a1 a2 x S1 H
  have H : b_X12_asksOf_0 n d (f_X12_asksOf n) S a1 a2 = some (x, S1) := H
  unfold b_X12_asksOf_0 at H
  refine GA.aload_n dX12_asksOf_0 rfl ?_
  refine GA.dup dX12_asksOf_1 rfl ?_
  obtain ⟨x1, hx2, H⟩ := gv_e H
  refine GV.getI hx2 xf_X12_796 dX12_asksOf_2 (gs_500 hL) (by decide) rfl ?_
  refine GA.iconst dX12_asksOf_5 ?_
  obtain ⟨x3, hx4, H⟩ := gv_e H
  refine GV.iadd hx4 dX12_asksOf_6 ?_
  obtain ⟨S_5, hx6, H⟩ := gv_e H
  refine GV.putI hx6 (xp_X12_796 _) dX12_asksOf_7 (gs_500 hL) (by decide) (Nat.le_of_ble_eq_true rfl) (gs_500 hL) ?_
  refine GA.aload_n dX12_asksOf_10 rfl ?_
  refine GA.get xf_X12_402 dX12_asksOf_11 (gs_500 hL) (by decide) rfl ?_
  refine GA.aload_n dX12_asksOf_14 rfl ?_
  obtain ⟨x7, hx8, H⟩ := gv_e H
  refine GV.getI hx8 xf_X12_799 dX12_asksOf_15 (gs_500 hL) (by decide) rfl ?_
  refine GA.iload_n dX12_asksOf_18 rfl ?_
  obtain ⟨hg9, H⟩ := gg_e H
  obtain ⟨S_10, hx11, H⟩ := gv_e H
  refine GV.iast hg9 hx11 dX12_asksOf_19 (fun _ => (gs_541 hL)) (by decide) ?_
  refine GA.aload_n dX12_asksOf_20 rfl ?_
  refine GA.get xf_X12_405 dX12_asksOf_21 (gs_500 hL) (by decide) rfl ?_
  refine GA.aload_n dX12_asksOf_24 rfl ?_
  obtain ⟨x12, hx13, H⟩ := gv_e H
  refine GV.getI hx13 xf_X12_799 dX12_asksOf_25 (gs_500 hL) (by decide) rfl ?_
  refine GA.iload_n dX12_asksOf_28 rfl ?_
  obtain ⟨hg14, H⟩ := gg_e H
  obtain ⟨S_15, hx16, H⟩ := gv_e H
  refine GV.iast hg14 hx16 dX12_asksOf_29 (fun _ => (gs_542 hL)) (by decide) ?_
  refine GA.aload_n dX12_asksOf_30 rfl ?_
  refine GA.get xf_X12_408 dX12_asksOf_31 (gs_500 hL) (by decide) rfl ?_
  refine GA.aload_n dX12_asksOf_34 rfl ?_
  obtain ⟨x17, hx18, H⟩ := gv_e H
  refine GV.getI hx18 xf_X12_799 dX12_asksOf_35 (gs_500 hL) (by decide) rfl ?_
  refine GA.iconst dX12_asksOf_38 ?_
  obtain ⟨hg19, H⟩ := gg_e H
  obtain ⟨S_20, hx21, H⟩ := gv_e H
  refine GV.iast hg19 hx21 dX12_asksOf_39 (fun _ => (gs_543 hL)) (by decide) ?_
  refine GA.aload_n dX12_asksOf_40 rfl ?_
  refine GA.get xf_X12_411 dX12_asksOf_41 (gs_500 hL) (by decide) rfl ?_
  refine GA.aload_n dX12_asksOf_44 rfl ?_
  obtain ⟨x22, hx23, H⟩ := gv_e H
  refine GV.getI hx23 xf_X12_799 dX12_asksOf_45 (gs_500 hL) (by decide) rfl ?_
  refine GA.iconst dX12_asksOf_48 ?_
  obtain ⟨hg24, H⟩ := gg_e H
  obtain ⟨S_25, hx26, H⟩ := gv_e H
  refine GV.iast hg24 hx26 dX12_asksOf_49 (fun _ => (gs_544 hL)) (by decide) ?_
  refine GA.aload_n dX12_asksOf_50 rfl ?_
  refine GA.get xf_X12_414 dX12_asksOf_51 (gs_500 hL) (by decide) rfl ?_
  refine GA.aload_n dX12_asksOf_54 rfl ?_
  obtain ⟨x27, hx28, H⟩ := gv_e H
  refine GV.getI hx28 xf_X12_799 dX12_asksOf_55 (gs_500 hL) (by decide) rfl ?_
  refine GA.aload_n dX12_asksOf_58 rfl ?_
  obtain ⟨x29, hx30, H⟩ := gv_e H
  refine GV.getI hx30 xf_X12_793 dX12_asksOf_59 (gs_500 hL) (by decide) rfl ?_
  obtain ⟨hg31, H⟩ := gg_e H
  obtain ⟨S_32, hx33, H⟩ := gv_e H
  refine GV.iast hg31 hx33 dX12_asksOf_62 (fun _ => (gs_545 hL)) (by decide) ?_
  refine GA.aload_n dX12_asksOf_63 rfl ?_
  refine GA.get xf_X12_420 dX12_asksOf_64 (gs_500 hL) (by decide) rfl ?_
  refine GA.aload_n dX12_asksOf_67 rfl ?_
  obtain ⟨x34, hx35, H⟩ := gv_e H
  refine GV.getI hx35 xf_X12_799 dX12_asksOf_68 (gs_500 hL) (by decide) rfl ?_
  refine GA.iconst dX12_asksOf_71 ?_
  obtain ⟨hg36, H⟩ := gg_e H
  obtain ⟨S_37, hx38, H⟩ := gv_e H
  refine GV.iast hg36 hx38 dX12_asksOf_72 (fun _ => (gs_547 hL)) (by decide) ?_
  refine GA.aload_n dX12_asksOf_73 rfl ?_
  refine GA.get xf_X12_423 dX12_asksOf_74 (gs_500 hL) (by decide) rfl ?_
  refine GA.aload_n dX12_asksOf_77 rfl ?_
  obtain ⟨x39, hx40, H⟩ := gv_e H
  refine GV.getI hx40 xf_X12_799 dX12_asksOf_78 (gs_500 hL) (by decide) rfl ?_
  refine GA.iconst dX12_asksOf_81 ?_
  obtain ⟨hg41, H⟩ := gg_e H
  obtain ⟨S_42, hx43, H⟩ := gv_e H
  refine GV.zast hg41 (by decide) hx43 dX12_asksOf_82 (fun _ => (gs_548 hL)) (by decide) ?_
  refine GA.aload_n dX12_asksOf_83 rfl ?_
  refine GA.dup dX12_asksOf_84 rfl ?_
  obtain ⟨x44, hx45, H⟩ := gv_e H
  refine GV.getI hx45 xf_X12_799 dX12_asksOf_85 (gs_500 hL) (by decide) rfl ?_
  refine GA.iconst dX12_asksOf_88 ?_
  obtain ⟨x46, hx47, H⟩ := gv_e H
  refine GV.iadd hx47 dX12_asksOf_89 ?_
  obtain ⟨S_48, hx49, H⟩ := gv_e H
  refine GV.putI hx49 (xp_X12_799 _) dX12_asksOf_90 (gs_500 hL) (by decide) (Nat.le_of_ble_eq_true rfl) (gs_500 hL) ?_
  cases H
  exact GA.vret rfl dX12_asksOf_93 (by omega) (by omega) ⟨rfl, rfl⟩
theorem g_X12_asksOf {l : Launch} {Z : XZ} {L : Nat → Nat} : ∀ n, P_X12_asksOf_0 l Z L n
  | 0 => fun _ _ _ _ _ _ _ H => no_e H
  | n + 1 => t_X12_asksOf_0 n (g_X12_asksOf n)
theorem m_X12_asksOf {l : Launch} {Z : XZ} {L : Nat → Nat} (hL : L 700 = 1) {n d : Nat} {S : GS} {a1 : Int} {a2 : Int} {x : Int} {S1 : GS} (H : f_X12_asksOf n d 0 S [a1, a2] = some (x, S1)) : GM l Z L yX12_asksOf cX12_asksOf 3 none [] d 0 0 [.ref (L 500), .int (J a1), .int (J a2)] S (fun v S' => v = none ∧ S1 = S') (fun _ _ => False) := GM.of (by decide) (Nat.le_of_ble_eq_true rfl) ((g_X12_asksOf n) hL _ _ _ _ _ _ H)

def P_X12_asksRef_0 (l : Launch) (Z : XZ) (L : Nat → Nat) (n : Nat) : Prop := ∀ (hL : L 700 = 1), ∀ (d : Nat) (S : GS) (a1 : Int) (a2 : Int) (a3 : Int) (x : Int) (S1 : GS), f_X12_asksRef n d 0 S [a1, a2, a3] = some (x, S1) → GA l Z L yX12_asksRef cX12_asksRef 7 (some .boolean) [] d 0 0 (fun v S' => v = some (.int (J x)) ∧ S1 = S') (fun _ _ => False) 0 (gl [(0, .ref (L 500)), (1, .int (J a1)), (2, .int (J a2)), (3, .int (J a3))]) [] S 0 0
def P_X12_asksRef_29 (l : Launch) (Z : XZ) (L : Nat → Nat) (n : Nat) : Prop := ∀ (hL : L 700 = 1), ∀ (d : Nat) (S : GS) (a1 : Int) (a2 : Int) (a3 : Int) (s0 : Int) (x : Int) (S1 : GS), f_X12_asksRef n d 29 S [a1, a2, a3, s0] = some (x, S1) → GA l Z L yX12_asksRef cX12_asksRef 7 (some .boolean) [] d 0 0 (fun v S' => v = some (.int (J x)) ∧ S1 = S') (fun _ _ => False) 29 (gl [(0, .ref (L 500)), (1, .int (J a1)), (2, .int (J a2)), (3, .int (J a3))]) [.int (J s0)] S 0 0
def P_X12_asksRef_79 (l : Launch) (Z : XZ) (L : Nat → Nat) (n : Nat) : Prop := ∀ (hL : L 700 = 1), ∀ (d : Nat) (S : GS) (a1 : Int) (a3 : Int) (a5 : Int) (a6 : Int) (x : Int) (S1 : GS), f_X12_asksRef n d 79 S [a1, a3, a5, a6] = some (x, S1) → GA l Z L yX12_asksRef cX12_asksRef 7 (some .boolean) [] d 0 0 (fun v S' => v = some (.int (J x)) ∧ S1 = S') (fun _ _ => False) 79 (gl [(0, .ref (L 500)), (1, .int (J a1)), (3, .int (J a3)), (5, .int (J a5)), (6, .int (J a6))]) [] S 0 0
theorem i_X12_asksRef {l : Launch} {Z : XZ} {L : Nat → Nat} (hL : L 700 = 1) {n : Nat} (ih : P_X12_asksRef_0 l Z L n) {d : Nat} {S : GS} {a1 : Int} {a2 : Int} {a3 : Int} {x : Int} {S1 : GS} (H : f_X12_asksRef n d 0 S [a1, a2, a3] = some (x, S1)) : GM l Z L yX12_asksRef cX12_asksRef 7 (some .boolean) [] d 0 0 [.ref (L 500), .int (J a1), .int (J a2), .int (J a3)] S (fun v S' => v = some (.int (J x)) ∧ S1 = S') (fun _ _ => False) := GM.of (by decide) (Nat.le_of_ble_eq_true rfl) (ih hL _ _ _ _ _ _ _ H)
set_option maxHeartbeats 4000000 in
set_option maxRecDepth 20000 in
theorem t_X12_asksRef_0 {l : Launch} {Z : XZ} {L : Nat → Nat} (n : Nat) (ih_X12_asksRef_0 : P_X12_asksRef_0 l Z L n) (ih_X12_asksRef_29 : P_X12_asksRef_29 l Z L n) (ih_X12_asksRef_79 : P_X12_asksRef_79 l Z L n) : P_X12_asksRef_0 l Z L (n + 1) := by
  intro hL d S a1 a2 a3 x S1 H
  have H : b_X12_asksRef_0 n d (f_X12_asksRef n) S a1 a2 a3 = some (x, S1) := H
  unfold b_X12_asksRef_0 at H
  refine GA.aload_n dX12_asksRef_0 rfl ?_
  refine GA.aload_n dX12_asksRef_1 rfl ?_
  obtain ⟨x1, hx2, H⟩ := gv_e H
  refine GV.getI hx2 xf_X12_802 dX12_asksRef_2 (gs_500 hL) (by decide) rfl ?_
  refine GA.iconst dX12_asksRef_5 ?_
  obtain ⟨hg3, H⟩ := gg_e H
  obtain ⟨x4, S_5, hc6, H⟩ := gc_e H
  refine GA.callV (m_X12_kind hL hc6) xs_X12_52 dX12_asksRef_6 (gs_500 hL) (by decide) rfl rfl (by omega) (by decide) rfl (Nat.le_of_ble_eq_true rfl) (by omega) (by omega) rfl (fun E S9 hx => hx.elim) (fun v S9 hq => ?_)
  obtain ⟨rfl, rfl⟩ := hq
  refine GA.iconst dX12_asksRef_9 ?_
  obtain ⟨hg7, H⟩ := gg_e H
  refine GV.icmp_ne (tgt := 28) hg7 (by decide) dX12_asksRef_10 (by decide) (fun c8 => ?_) (fun c8 => ?_)
  · have H := it_t H c8
    refine GA.iconst dX12_asksRef_28 ?_
    refine GA.locals [(0, .ref (L 500)), (1, .int (J a1)), (2, .int (J a2)), (3, .int (J a3))] ⟨rfl, rfl, rfl, rfl, trivial⟩ ?_
    exact ih_X12_asksRef_29 hL _ _ (a1) (a2) (a3) ((-1)) _ _ H
  · have H := it_f H c8
    refine GA.aload_n dX12_asksRef_13 rfl ?_
    refine GA.aload_n dX12_asksRef_14 rfl ?_
    obtain ⟨x9, hx10, H⟩ := gv_e H
    refine GV.getI hx10 xf_X12_802 dX12_asksRef_15 (gs_500 hL) (by decide) rfl ?_
    refine GA.iconst dX12_asksRef_18 ?_
    refine GV.ldc2 (z := 7953758699401510912) (by decide) xc_X12_823 dX12_asksRef_19 ?_
    obtain ⟨x11, S_12, hc13, H⟩ := gc_e H
    refine GA.callV (m_X12_childNamed hL hc13) xs_X12_681 dX12_asksRef_22 (gs_500 hL) (by decide) rfl rfl (by omega) (by decide) rfl (Nat.le_of_ble_eq_true rfl) (by omega) (by omega) rfl (fun E S9 hx => hx.elim) (fun v S9 hq => ?_)
    obtain ⟨rfl, rfl⟩ := hq
    refine GA.goto (tgt := 29) dX12_asksRef_25 (by decide) ?_
    refine GA.locals [(0, .ref (L 500)), (1, .int (J a1)), (2, .int (J a2)), (3, .int (J a3))] ⟨rfl, rfl, rfl, rfl, trivial⟩ ?_
    exact ih_X12_asksRef_29 hL _ _ (a1) (a2) (a3) (x11) _ _ H
set_option maxHeartbeats 4000000 in
set_option maxRecDepth 20000 in
theorem t_X12_asksRef_29 {l : Launch} {Z : XZ} {L : Nat → Nat} (n : Nat) (ih_X12_asksRef_0 : P_X12_asksRef_0 l Z L n) (ih_X12_asksRef_29 : P_X12_asksRef_29 l Z L n) (ih_X12_asksRef_79 : P_X12_asksRef_79 l Z L n) : P_X12_asksRef_29 l Z L (n + 1) := by
  intro hL d S a1 a2 a3 s0 x S1 H
  have H : b_X12_asksRef_29 n d (f_X12_asksRef n) S a1 a2 a3 s0 = some (x, S1) := H
  unfold b_X12_asksRef_29 at H
  refine GA.istore dX12_asksRef_29 (by decide) ?_
  refine GA.aload_n dX12_asksRef_31 rfl ?_
  refine GA.aload_n dX12_asksRef_32 rfl ?_
  obtain ⟨x1, hx2, H⟩ := gv_e H
  refine GV.getI hx2 xf_X12_802 dX12_asksRef_33 (gs_500 hL) (by decide) rfl ?_
  refine GA.iload_n dX12_asksRef_36 rfl ?_
  obtain ⟨hg3, H⟩ := gg_e H
  obtain ⟨x4, S_5, hc6, H⟩ := gc_e H
  refine GA.callV (m_X12_wordOfText hL hc6) xs_X12_814 dX12_asksRef_37 (gs_500 hL) (by decide) rfl rfl (by omega) (by decide) rfl (Nat.le_of_ble_eq_true rfl) (by omega) (by omega) rfl (fun E S9 hx => hx.elim) (fun v S9 hq => ?_)
  obtain ⟨rfl, rfl⟩ := hq
  refine GA.iload dX12_asksRef_40 rfl ?_
  refine GA.iconst dX12_asksRef_42 ?_
  obtain ⟨hg7, H⟩ := gg_e H
  refine GV.icmp_eq (tgt := 60) hg7 (by decide) dX12_asksRef_43 (by decide) (fun c8 => ?_) (fun c8 => ?_)
  · have H := it_t H c8
    refine GA.iconst dX12_asksRef_60 ?_
    refine GA.goto (tgt := 74) dX12_asksRef_61 (by decide) ?_
    refine GA.istore dX12_asksRef_74 (by decide) ?_
    refine GA.iconst dX12_asksRef_76 ?_
    refine GA.istore dX12_asksRef_77 (by decide) ?_
    refine GA.locals [(0, .ref (L 500)), (1, .int (J a1)), (3, .int (J a3)), (5, .int (J (-1))), (6, .int (J 0))] ⟨rfl, rfl, rfl, rfl, rfl, trivial⟩ ?_
    exact ih_X12_asksRef_79 hL _ _ (a1) (a3) ((-1)) (0) _ _ H
  · have H := it_f H c8
    refine GA.aload_n dX12_asksRef_46 rfl ?_
    refine GA.aload_n dX12_asksRef_47 rfl ?_
    obtain ⟨x9, hx10, H⟩ := gv_e H
    refine GV.getI hx10 xf_X12_802 dX12_asksRef_48 (gs_500 hL) (by decide) rfl ?_
    refine GA.iload dX12_asksRef_51 rfl ?_
    obtain ⟨x11, S_12, hc13, H⟩ := gc_e H
    refine GA.callV (m_X12_kind hL hc13) xs_X12_52 dX12_asksRef_53 (gs_500 hL) (by decide) rfl rfl (by omega) (by decide) rfl (Nat.le_of_ble_eq_true rfl) (by omega) (by omega) rfl (fun E S9 hx => hx.elim) (fun v S9 hq => ?_)
    obtain ⟨rfl, rfl⟩ := hq
    refine GA.iconst dX12_asksRef_56 ?_
    obtain ⟨hg14, H⟩ := gg_e H
    refine GV.icmp_eq (tgt := 64) hg14 (by decide) dX12_asksRef_57 (by decide) (fun c15 => ?_) (fun c15 => ?_)
    · have H := it_t H c15
      refine GA.aload_n dX12_asksRef_64 rfl ?_
      refine GA.aload_n dX12_asksRef_65 rfl ?_
      obtain ⟨x16, hx17, H⟩ := gv_e H
      refine GV.getI hx17 xf_X12_802 dX12_asksRef_66 (gs_500 hL) (by decide) rfl ?_
      refine GA.iload dX12_asksRef_69 rfl ?_
      obtain ⟨x18, S_19, hc20, H⟩ := gc_e H
      refine GA.callV (m_X12_childByWord hL hc20) xs_X12_78 dX12_asksRef_71 (gs_500 hL) (by decide) rfl rfl (by omega) (by decide) rfl (Nat.le_of_ble_eq_true rfl) (by omega) (by omega) rfl (fun E S9 hx => hx.elim) (fun v S9 hq => ?_)
      obtain ⟨rfl, rfl⟩ := hq
      refine GA.istore dX12_asksRef_74 (by decide) ?_
      refine GA.iconst dX12_asksRef_76 ?_
      refine GA.istore dX12_asksRef_77 (by decide) ?_
      refine GA.locals [(0, .ref (L 500)), (1, .int (J a1)), (3, .int (J a3)), (5, .int (J x18)), (6, .int (J 0))] ⟨rfl, rfl, rfl, rfl, rfl, trivial⟩ ?_
      exact ih_X12_asksRef_79 hL _ _ (a1) (a3) (x18) (0) _ _ H
    · have H := it_f H c15
      refine GA.iconst dX12_asksRef_60 ?_
      refine GA.goto (tgt := 74) dX12_asksRef_61 (by decide) ?_
      refine GA.istore dX12_asksRef_74 (by decide) ?_
      refine GA.iconst dX12_asksRef_76 ?_
      refine GA.istore dX12_asksRef_77 (by decide) ?_
      refine GA.locals [(0, .ref (L 500)), (1, .int (J a1)), (3, .int (J a3)), (5, .int (J (-1))), (6, .int (J 0))] ⟨rfl, rfl, rfl, rfl, rfl, trivial⟩ ?_
      exact ih_X12_asksRef_79 hL _ _ (a1) (a3) ((-1)) (0) _ _ H
set_option maxHeartbeats 4000000 in
set_option maxRecDepth 20000 in
theorem t_X12_asksRef_79 {l : Launch} {Z : XZ} {L : Nat → Nat} (n : Nat) (ih_X12_asksRef_0 : P_X12_asksRef_0 l Z L n) (ih_X12_asksRef_29 : P_X12_asksRef_29 l Z L n) (ih_X12_asksRef_79 : P_X12_asksRef_79 l Z L n) : P_X12_asksRef_79 l Z L (n + 1) := by
  intro hL d S a1 a3 a5 a6 x S1 H
  have H : b_X12_asksRef_79 n d (f_X12_asksRef n) S a1 a3 a5 a6 = some (x, S1) := H
  unfold b_X12_asksRef_79 at H
  refine GA.iload dX12_asksRef_79 rfl ?_
  refine GA.aload_n dX12_asksRef_81 rfl ?_
  obtain ⟨x1, hx2, H⟩ := gv_e H
  refine GV.getI hx2 xf_X12_825 dX12_asksRef_82 (gs_500 hL) (by decide) rfl ?_
  obtain ⟨hg3, H⟩ := gg_e H
  obtain ⟨hg4, H⟩ := gg_e H
  refine GV.icmp_ge (tgt := 125) hg3 hg4 dX12_asksRef_85 (by decide) (fun c5 => ?_) (fun c5 => ?_)
  · have H := it_t H c5
    refine GA.iload dX12_asksRef_125 rfl ?_
    refine GA.iconst dX12_asksRef_127 ?_
    obtain ⟨hg6, H⟩ := gg_e H
    refine GV.icmp_eq (tgt := 140) hg6 (by decide) dX12_asksRef_128 (by decide) (fun c7 => ?_) (fun c7 => ?_)
    · have H := it_t H c7
      refine GA.aload_n dX12_asksRef_140 rfl ?_
      refine GA.iload_n dX12_asksRef_141 rfl ?_
      refine GA.bipush dX12_asksRef_142 rfl ?_
      obtain ⟨hg8, H⟩ := gg_e H
      obtain ⟨x9, S_10, hc11, H⟩ := gc_e H
      refine GA.callV (m_X12_complains hL hc11) xs_X12_817 dX12_asksRef_144 (gs_500 hL) (by decide) rfl rfl (by omega) (by decide) rfl (Nat.le_of_ble_eq_true rfl) (by omega) (by omega) rfl (fun E S9 hx => hx.elim) (fun v S9 hq => ?_)
      obtain ⟨rfl, rfl⟩ := hq
      refine GA.iconst dX12_asksRef_147 ?_
      cases H
      exact GV.zret (by decide) rfl dX12_asksRef_148 (by omega) (by omega) ⟨rfl, rfl⟩
    · have H := it_f H c7
      refine GA.aload_n dX12_asksRef_131 rfl ?_
      obtain ⟨x12, hx13, H⟩ := gv_e H
      refine GV.getI hx13 xf_X12_825 dX12_asksRef_132 (gs_500 hL) (by decide) rfl ?_
      refine GA.bipush dX12_asksRef_135 rfl ?_
      obtain ⟨hg14, H⟩ := gg_e H
      refine GV.icmp_ne (tgt := 149) hg14 (by decide) dX12_asksRef_137 (by decide) (fun c15 => ?_) (fun c15 => ?_)
      · have H := it_t H c15
        refine GA.aload_n dX12_asksRef_149 rfl ?_
        refine GA.get xf_X12_426 dX12_asksRef_150 (gs_500 hL) (by decide) rfl ?_
        refine GA.aload_n dX12_asksRef_153 rfl ?_
        obtain ⟨x16, hx17, H⟩ := gv_e H
        refine GV.getI hx17 xf_X12_825 dX12_asksRef_154 (gs_500 hL) (by decide) rfl ?_
        refine GA.iload dX12_asksRef_157 rfl ?_
        obtain ⟨hg18, H⟩ := gg_e H
        obtain ⟨S_19, hx20, H⟩ := gv_e H
        refine GV.iast hg18 hx20 dX12_asksRef_159 (fun _ => (gs_549 hL)) (by decide) ?_
        refine GA.aload_n dX12_asksRef_160 rfl ?_
        refine GA.get xf_X12_429 dX12_asksRef_161 (gs_500 hL) (by decide) rfl ?_
        refine GA.aload_n dX12_asksRef_164 rfl ?_
        obtain ⟨x21, hx22, H⟩ := gv_e H
        refine GV.getI hx22 xf_X12_825 dX12_asksRef_165 (gs_500 hL) (by decide) rfl ?_
        refine GA.iload_n dX12_asksRef_168 rfl ?_
        obtain ⟨hg23, H⟩ := gg_e H
        obtain ⟨S_24, hx25, H⟩ := gv_e H
        refine GV.iast hg23 hx25 dX12_asksRef_169 (fun _ => (gs_550 hL)) (by decide) ?_
        refine GA.aload_n dX12_asksRef_170 rfl ?_
        refine GA.dup dX12_asksRef_171 rfl ?_
        obtain ⟨x26, hx27, H⟩ := gv_e H
        refine GV.getI hx27 xf_X12_825 dX12_asksRef_172 (gs_500 hL) (by decide) rfl ?_
        refine GA.iconst dX12_asksRef_175 ?_
        obtain ⟨x28, hx29, H⟩ := gv_e H
        refine GV.iadd hx29 dX12_asksRef_176 ?_
        obtain ⟨S_30, hx31, H⟩ := gv_e H
        refine GV.putI hx31 (xp_X12_825 _) dX12_asksRef_177 (gs_500 hL) (by decide) (Nat.le_of_ble_eq_true rfl) (gs_500 hL) ?_
        refine GA.aload_n dX12_asksRef_180 rfl ?_
        refine GA.get xf_X12_423 dX12_asksRef_181 (gs_500 hL) (by decide) rfl ?_
        refine GA.iload_n dX12_asksRef_184 rfl ?_
        refine GA.iconst dX12_asksRef_185 ?_
        obtain ⟨hg32, H⟩ := gg_e H
        obtain ⟨S_33, hx34, H⟩ := gv_e H
        refine GV.zast hg32 (by decide) hx34 dX12_asksRef_186 (fun _ => (gs_548 hL)) (by decide) ?_
        refine GA.aload_n dX12_asksRef_187 rfl ?_
        refine GA.iload dX12_asksRef_188 rfl ?_
        refine GA.iload_n dX12_asksRef_190 rfl ?_
        obtain ⟨hg35, H⟩ := gg_e H
        obtain ⟨x36, S_37, hc38, H⟩ := gc_e H
        refine GA.callV (m_X12_asksOf hL hc38) xs_X12_820 dX12_asksRef_191 (gs_500 hL) (by decide) rfl rfl (by omega) (by decide) rfl (Nat.le_of_ble_eq_true rfl) (by omega) (by omega) rfl (fun E S9 hx => hx.elim) (fun v S9 hq => ?_)
        obtain ⟨rfl, rfl⟩ := hq
        refine GA.iconst dX12_asksRef_194 ?_
        cases H
        exact GV.zret (by decide) rfl dX12_asksRef_195 (by omega) (by omega) ⟨rfl, rfl⟩
      · have H := it_f H c15
        refine GA.aload_n dX12_asksRef_140 rfl ?_
        refine GA.iload_n dX12_asksRef_141 rfl ?_
        refine GA.bipush dX12_asksRef_142 rfl ?_
        obtain ⟨hg39, H⟩ := gg_e H
        obtain ⟨x40, S_41, hc42, H⟩ := gc_e H
        refine GA.callV (m_X12_complains hL hc42) xs_X12_817 dX12_asksRef_144 (gs_500 hL) (by decide) rfl rfl (by omega) (by decide) rfl (Nat.le_of_ble_eq_true rfl) (by omega) (by omega) rfl (fun E S9 hx => hx.elim) (fun v S9 hq => ?_)
        obtain ⟨rfl, rfl⟩ := hq
        refine GA.iconst dX12_asksRef_147 ?_
        cases H
        exact GV.zret (by decide) rfl dX12_asksRef_148 (by omega) (by omega) ⟨rfl, rfl⟩
  · have H := it_f H c5
    refine GA.iload dX12_asksRef_88 rfl ?_
    refine GA.iconst dX12_asksRef_90 ?_
    obtain ⟨hg43, H⟩ := gg_e H
    refine GV.icmp_eq (tgt := 119) hg43 (by decide) dX12_asksRef_91 (by decide) (fun c44 => ?_) (fun c44 => ?_)
    · have H := it_t H c44
      obtain ⟨x45, hx46, H⟩ := gv_e H
      refine GV.iinc hx46 dX12_asksRef_119 rfl (by decide) ?_
      refine GA.goto (tgt := 79) dX12_asksRef_122 (by decide) ?_
      refine GA.locals [(0, .ref (L 500)), (1, .int (J a1)), (3, .int (J a3)), (5, .int (J a5)), (6, .int (J x45))] ⟨rfl, rfl, rfl, rfl, rfl, trivial⟩ ?_
      exact ih_X12_asksRef_79 hL _ _ (a1) (a3) (a5) (x45) _ _ H
    · have H := it_f H c44
      refine GA.aload_n dX12_asksRef_94 rfl ?_
      refine GA.get xf_X12_426 dX12_asksRef_95 (gs_500 hL) (by decide) rfl ?_
      refine GA.iload dX12_asksRef_98 rfl ?_
      obtain ⟨hg47, H⟩ := gg_e H
      obtain ⟨x48, hx49, H⟩ := gv_e H
      refine GV.iald hg47 hx49 dX12_asksRef_100 (gs_549 hL) (by decide) ?_
      refine GA.iload dX12_asksRef_101 rfl ?_
      obtain ⟨hg50, H⟩ := gg_e H
      refine GV.icmp_ne (tgt := 119) hg50 hg43 dX12_asksRef_103 (by decide) (fun c51 => ?_) (fun c51 => ?_)
      · have H := it_t H c51
        obtain ⟨x52, hx53, H⟩ := gv_e H
        refine GV.iinc hx53 dX12_asksRef_119 rfl (by decide) ?_
        refine GA.goto (tgt := 79) dX12_asksRef_122 (by decide) ?_
        refine GA.locals [(0, .ref (L 500)), (1, .int (J a1)), (3, .int (J a3)), (5, .int (J a5)), (6, .int (J x52))] ⟨rfl, rfl, rfl, rfl, rfl, trivial⟩ ?_
        exact ih_X12_asksRef_79 hL _ _ (a1) (a3) (a5) (x52) _ _ H
      · have H := it_f H c51
        refine GA.aload_n dX12_asksRef_106 rfl ?_
        refine GA.get xf_X12_429 dX12_asksRef_107 (gs_500 hL) (by decide) rfl ?_
        refine GA.iload dX12_asksRef_110 rfl ?_
        obtain ⟨x54, hx55, H⟩ := gv_e H
        refine GV.iald hg47 hx55 dX12_asksRef_112 (gs_550 hL) (by decide) ?_
        refine GA.iload_n dX12_asksRef_113 rfl ?_
        obtain ⟨hg56, H⟩ := gg_e H
        obtain ⟨hg57, H⟩ := gg_e H
        refine GV.icmp_ne (tgt := 119) hg56 hg57 dX12_asksRef_114 (by decide) (fun c58 => ?_) (fun c58 => ?_)
        · have H := it_t H c58
          obtain ⟨x59, hx60, H⟩ := gv_e H
          refine GV.iinc hx60 dX12_asksRef_119 rfl (by decide) ?_
          refine GA.goto (tgt := 79) dX12_asksRef_122 (by decide) ?_
          refine GA.locals [(0, .ref (L 500)), (1, .int (J a1)), (3, .int (J a3)), (5, .int (J a5)), (6, .int (J x59))] ⟨rfl, rfl, rfl, rfl, rfl, trivial⟩ ?_
          exact ih_X12_asksRef_79 hL _ _ (a1) (a3) (a5) (x59) _ _ H
        · have H := it_f H c58
          refine GA.iconst dX12_asksRef_117 ?_
          cases H
          exact GV.zret (by decide) rfl dX12_asksRef_118 (by omega) (by omega) ⟨rfl, rfl⟩
theorem g_X12_asksRef {l : Launch} {Z : XZ} {L : Nat → Nat} : ∀ n, P_X12_asksRef_0 l Z L n ∧ P_X12_asksRef_29 l Z L n ∧ P_X12_asksRef_79 l Z L n
  | 0 => ⟨fun _ _ _ _ _ _ _ _ H => no_e H, fun _ _ _ _ _ _ _ _ _ H => no_e H, fun _ _ _ _ _ _ _ _ _ H => no_e H⟩
  | n + 1 => have ⟨h0, h1, h2⟩ := g_X12_asksRef (l := l) (Z := Z) (L := L) n
    ⟨t_X12_asksRef_0 n h0 h1 h2, t_X12_asksRef_29 n h0 h1 h2, t_X12_asksRef_79 n h0 h1 h2⟩
theorem m_X12_asksRef {l : Launch} {Z : XZ} {L : Nat → Nat} (hL : L 700 = 1) {n d : Nat} {S : GS} {a1 : Int} {a2 : Int} {a3 : Int} {x : Int} {S1 : GS} (H : f_X12_asksRef n d 0 S [a1, a2, a3] = some (x, S1)) : GM l Z L yX12_asksRef cX12_asksRef 7 (some .boolean) [] d 0 0 [.ref (L 500), .int (J a1), .int (J a2), .int (J a3)] S (fun v S' => v = some (.int (J x)) ∧ S1 = S') (fun _ _ => False) := GM.of (by decide) (Nat.le_of_ble_eq_true rfl) ((g_X12_asksRef n).1 hL _ _ _ _ _ _ _ H)

def P_X12_asksNext_0 (l : Launch) (Z : XZ) (L : Nat → Nat) (n : Nat) : Prop := ∀ (hL : L 700 = 1), ∀ (d : Nat) (S : GS) (a1 : Int) (a2 : Int) (a3 : Int) (a4 : Int) (x : Int) (S1 : GS), f_X12_asksNext n d 0 S [a1, a2, a3, a4] = some (x, S1) → GA l Z L yX12_asksNext cX12_asksNext 11 (some .boolean) [] d 0 0 (fun v S' => v = some (.int (J x)) ∧ S1 = S') (fun _ _ => False) 0 (gl [(0, .ref (L 500)), (1, .int (J a1)), (2, .int (J a2)), (3, .int (J a3)), (4, .int (J a4))]) [] S 0 0
def P_X12_asksNext_23 (l : Launch) (Z : XZ) (L : Nat → Nat) (n : Nat) : Prop := ∀ (hL : L 700 = 1), ∀ (d : Nat) (S : GS) (a1 : Int) (a2 : Int) (a3 : Int) (a4 : Int) (a5 : Int) (s0 : Int) (x : Int) (S1 : GS), f_X12_asksNext n d 23 S [a1, a2, a3, a4, a5, s0] = some (x, S1) → GA l Z L yX12_asksNext cX12_asksNext 11 (some .boolean) [] d 0 0 (fun v S' => v = some (.int (J x)) ∧ S1 = S') (fun _ _ => False) 23 (gl [(0, .ref (L 500)), (1, .int (J a1)), (2, .int (J a2)), (3, .int (J a3)), (4, .int (J a4)), (5, .int (J a5))]) [.int (J s0)] S 0 0
def P_X12_asksNext_56 (l : Launch) (Z : XZ) (L : Nat → Nat) (n : Nat) : Prop := ∀ (hL : L 700 = 1), ∀ (d : Nat) (S : GS) (a1 : Int) (a2 : Int) (a3 : Int) (a4 : Int) (a6 : Int) (s0 : Int) (s1 : Int) (x : Int) (S1 : GS), f_X12_asksNext n d 56 S [a1, a2, a3, a4, a6, s0, s1] = some (x, S1) → GA l Z L yX12_asksNext cX12_asksNext 11 (some .boolean) [] d 0 0 (fun v S' => v = some (.int (J x)) ∧ S1 = S') (fun _ _ => False) 56 (gl [(0, .ref (L 500)), (1, .int (J a1)), (2, .int (J a2)), (3, .int (J a3)), (4, .int (J a4)), (6, .int (J a6))]) [.int (J s0), .int (J s1)] S 0 0
def P_X12_asksNext_76 (l : Launch) (Z : XZ) (L : Nat → Nat) (n : Nat) : Prop := ∀ (hL : L 700 = 1), ∀ (d : Nat) (S : GS) (a1 : Int) (a2 : Int) (a3 : Int) (a4 : Int) (a6 : Int) (a7 : Int) (x : Int) (S1 : GS), f_X12_asksNext n d 76 S [a1, a2, a3, a4, a6, a7] = some (x, S1) → GA l Z L yX12_asksNext cX12_asksNext 11 (some .boolean) [] d 0 0 (fun v S' => v = some (.int (J x)) ∧ S1 = S') (fun _ _ => False) 76 (gl [(0, .ref (L 500)), (1, .int (J a1)), (2, .int (J a2)), (3, .int (J a3)), (4, .int (J a4)), (6, .int (J a6)), (7, .int (J a7))]) [] S 0 0
def P_X12_asksNext_113 (l : Launch) (Z : XZ) (L : Nat → Nat) (n : Nat) : Prop := ∀ (hL : L 700 = 1), ∀ (d : Nat) (S : GS) (a1 : Int) (a2 : Int) (a3 : Int) (a4 : Int) (a6 : Int) (a7 : Int) (s0 : Int) (x : Int) (S1 : GS), f_X12_asksNext n d 113 S [a1, a2, a3, a4, a6, a7, s0] = some (x, S1) → GA l Z L yX12_asksNext cX12_asksNext 11 (some .boolean) [] d 0 0 (fun v S' => v = some (.int (J x)) ∧ S1 = S') (fun _ _ => False) 113 (gl [(0, .ref (L 500)), (1, .int (J a1)), (2, .int (J a2)), (3, .int (J a3)), (4, .int (J a4)), (6, .int (J a6)), (7, .int (J a7))]) [.int (J s0)] S 0 0
def P_X12_asksNext_231 (l : Launch) (Z : XZ) (L : Nat → Nat) (n : Nat) : Prop := ∀ (hL : L 700 = 1), ∀ (d : Nat) (S : GS) (a1 : Int) (a2 : Int) (a3 : Int) (a4 : Int) (a6 : Int) (a7 : Int) (a8 : Int) (a9 : Int) (x : Int) (S1 : GS), f_X12_asksNext n d 231 S [a1, a2, a3, a4, a6, a7, a8, a9] = some (x, S1) → GA l Z L yX12_asksNext cX12_asksNext 11 (some .boolean) [] d 0 0 (fun v S' => v = some (.int (J x)) ∧ S1 = S') (fun _ _ => False) 231 (gl [(0, .ref (L 500)), (1, .int (J a1)), (2, .int (J a2)), (3, .int (J a3)), (4, .int (J a4)), (6, .int (J a6)), (7, .int (J a7)), (8, .int (J a8)), (9, .int (J a9))]) [] S 0 0
theorem i_X12_asksNext {l : Launch} {Z : XZ} {L : Nat → Nat} (hL : L 700 = 1) {n : Nat} (ih : P_X12_asksNext_0 l Z L n) {d : Nat} {S : GS} {a1 : Int} {a2 : Int} {a3 : Int} {a4 : Int} {x : Int} {S1 : GS} (H : f_X12_asksNext n d 0 S [a1, a2, a3, a4] = some (x, S1)) : GM l Z L yX12_asksNext cX12_asksNext 11 (some .boolean) [] d 0 0 [.ref (L 500), .int (J a1), .int (J a2), .int (J a3), .int (J a4)] S (fun v S' => v = some (.int (J x)) ∧ S1 = S') (fun _ _ => False) := GM.of (by decide) (Nat.le_of_ble_eq_true rfl) (ih hL _ _ _ _ _ _ _ _ H)
set_option maxHeartbeats 4000000 in
set_option maxRecDepth 20000 in
theorem t_X12_asksNext_0 {l : Launch} {Z : XZ} {L : Nat → Nat} (n : Nat) (ih_X12_asksNext_0 : P_X12_asksNext_0 l Z L n) (ih_X12_asksNext_23 : P_X12_asksNext_23 l Z L n) (ih_X12_asksNext_56 : P_X12_asksNext_56 l Z L n) (ih_X12_asksNext_76 : P_X12_asksNext_76 l Z L n) (ih_X12_asksNext_113 : P_X12_asksNext_113 l Z L n) (ih_X12_asksNext_231 : P_X12_asksNext_231 l Z L n) : P_X12_asksNext_0 l Z L (n + 1) := by
  intro hL d S a1 a2 a3 a4 x S1 H
  have H : b_X12_asksNext_0 n d (f_X12_asksNext n) S a1 a2 a3 a4 = some (x, S1) := H
  unfold b_X12_asksNext_0 at H
  refine GA.aload_n dX12_asksNext_0 rfl ?_
  refine GA.aload_n dX12_asksNext_1 rfl ?_
  obtain ⟨x1, hx2, H⟩ := gv_e H
  refine GV.getI hx2 xf_X12_805 dX12_asksNext_2 (gs_500 hL) (by decide) rfl ?_
  refine GA.iload dX12_asksNext_5 rfl ?_
  obtain ⟨hg3, H⟩ := gg_e H
  obtain ⟨x4, S_5, hc6, H⟩ := gc_e H
  refine GA.callV (m_X12_kind hL hc6) xs_X12_52 dX12_asksNext_7 (gs_500 hL) (by decide) rfl rfl (by omega) (by decide) rfl (Nat.le_of_ble_eq_true rfl) (by omega) (by omega) rfl (fun E S9 hx => hx.elim) (fun v S9 hq => ?_)
  obtain ⟨rfl, rfl⟩ := hq
  refine GA.istore dX12_asksNext_10 (by decide) ?_
  refine GA.iload_n dX12_asksNext_12 rfl ?_
  refine GA.bipush dX12_asksNext_13 rfl ?_
  obtain ⟨hg7, H⟩ := gg_e H
  refine GV.icmp_ge (tgt := 22) hg7 (by decide) dX12_asksNext_15 (by decide) (fun c8 => ?_) (fun c8 => ?_)
  · have H := it_t H c8
    refine GA.iconst dX12_asksNext_22 ?_
    refine GA.locals [(0, .ref (L 500)), (1, .int (J a1)), (2, .int (J a2)), (3, .int (J a3)), (4, .int (J a4)), (5, .int (J x4))] ⟨rfl, rfl, rfl, rfl, rfl, rfl, trivial⟩ ?_
    exact ih_X12_asksNext_23 hL _ _ (a1) (a2) (a3) (a4) (x4) (0) _ _ H
  · have H := it_f H c8
    refine GA.iconst dX12_asksNext_18 ?_
    refine GA.goto (tgt := 23) dX12_asksNext_19 (by decide) ?_
    refine GA.locals [(0, .ref (L 500)), (1, .int (J a1)), (2, .int (J a2)), (3, .int (J a3)), (4, .int (J a4)), (5, .int (J x4))] ⟨rfl, rfl, rfl, rfl, rfl, rfl, trivial⟩ ?_
    exact ih_X12_asksNext_23 hL _ _ (a1) (a2) (a3) (a4) (x4) (1) _ _ H
set_option maxHeartbeats 4000000 in
set_option maxRecDepth 20000 in
theorem t_X12_asksNext_23 {l : Launch} {Z : XZ} {L : Nat → Nat} (n : Nat) (ih_X12_asksNext_0 : P_X12_asksNext_0 l Z L n) (ih_X12_asksNext_23 : P_X12_asksNext_23 l Z L n) (ih_X12_asksNext_56 : P_X12_asksNext_56 l Z L n) (ih_X12_asksNext_76 : P_X12_asksNext_76 l Z L n) (ih_X12_asksNext_113 : P_X12_asksNext_113 l Z L n) (ih_X12_asksNext_231 : P_X12_asksNext_231 l Z L n) : P_X12_asksNext_23 l Z L (n + 1) := by
  intro hL d S a1 a2 a3 a4 a5 s0 x S1 H
  have H : b_X12_asksNext_23 n d (f_X12_asksNext n) S a1 a2 a3 a4 a5 s0 = some (x, S1) := H
  unfold b_X12_asksNext_23 at H
  refine GA.istore dX12_asksNext_23 (by decide) ?_
  refine GA.iload dX12_asksNext_25 rfl ?_
  obtain ⟨hg1, H⟩ := gg_e H
  refine GV.if_ne (tgt := 43) hg1 dX12_asksNext_27 (by decide) (fun c2 => ?_) (fun c2 => ?_)
  · have H := it_t H c2
    refine GA.iload dX12_asksNext_43 rfl ?_
    refine GA.iload_n dX12_asksNext_45 rfl ?_
    refine GA.bipush dX12_asksNext_46 rfl ?_
    obtain ⟨hg3, H⟩ := gg_e H
    refine GV.icmp_ne (tgt := 55) hg3 (by decide) dX12_asksNext_48 (by decide) (fun c4 => ?_) (fun c4 => ?_)
    · have H := it_t H c4
      refine GA.iconst dX12_asksNext_55 ?_
      refine GA.locals [(0, .ref (L 500)), (1, .int (J a1)), (2, .int (J a2)), (3, .int (J a3)), (4, .int (J a4)), (6, .int (J s0))] ⟨rfl, rfl, rfl, rfl, rfl, rfl, trivial⟩ ?_
      exact ih_X12_asksNext_56 hL _ _ (a1) (a2) (a3) (a4) (s0) (5) (a5) _ _ H
    · have H := it_f H c4
      refine GA.iconst dX12_asksNext_51 ?_
      refine GA.goto (tgt := 56) dX12_asksNext_52 (by decide) ?_
      refine GA.locals [(0, .ref (L 500)), (1, .int (J a1)), (2, .int (J a2)), (3, .int (J a3)), (4, .int (J a4)), (6, .int (J s0))] ⟨rfl, rfl, rfl, rfl, rfl, rfl, trivial⟩ ?_
      exact ih_X12_asksNext_56 hL _ _ (a1) (a2) (a3) (a4) (s0) (4) (a5) _ _ H
  · have H := it_f H c2
    refine GA.aload_n dX12_asksNext_30 rfl ?_
    refine GA.aload_n dX12_asksNext_31 rfl ?_
    obtain ⟨x5, hx6, H⟩ := gv_e H
    refine GV.getI hx6 xf_X12_802 dX12_asksNext_32 (gs_500 hL) (by decide) rfl ?_
    refine GA.iload_n dX12_asksNext_35 rfl ?_
    refine GA.iconst dX12_asksNext_36 ?_
    obtain ⟨hg7, H⟩ := gg_e H
    obtain ⟨x8, S_9, hc10, H⟩ := gc_e H
    refine GA.callV (m_X12_part hL hc10) xs_X12_36 dX12_asksNext_37 (gs_500 hL) (by decide) rfl rfl (by omega) (by decide) rfl (Nat.le_of_ble_eq_true rfl) (by omega) (by omega) rfl (fun E S9 hx => hx.elim) (fun v S9 hq => ?_)
    obtain ⟨rfl, rfl⟩ := hq
    refine GA.goto (tgt := 74) dX12_asksNext_40 (by decide) ?_
    refine GA.istore dX12_asksNext_74 (by decide) ?_
    refine GA.locals [(0, .ref (L 500)), (1, .int (J a1)), (2, .int (J a2)), (3, .int (J a3)), (4, .int (J a4)), (6, .int (J s0)), (7, .int (J x8))] ⟨rfl, rfl, rfl, rfl, rfl, rfl, rfl, trivial⟩ ?_
    exact ih_X12_asksNext_76 hL _ _ (a1) (a2) (a3) (a4) (s0) (x8) _ _ H
set_option maxHeartbeats 4000000 in
set_option maxRecDepth 20000 in
theorem t_X12_asksNext_56 {l : Launch} {Z : XZ} {L : Nat → Nat} (n : Nat) (ih_X12_asksNext_0 : P_X12_asksNext_0 l Z L n) (ih_X12_asksNext_23 : P_X12_asksNext_23 l Z L n) (ih_X12_asksNext_56 : P_X12_asksNext_56 l Z L n) (ih_X12_asksNext_76 : P_X12_asksNext_76 l Z L n) (ih_X12_asksNext_113 : P_X12_asksNext_113 l Z L n) (ih_X12_asksNext_231 : P_X12_asksNext_231 l Z L n) : P_X12_asksNext_56 l Z L (n + 1) := by
  intro hL d S a1 a2 a3 a4 a6 s0 s1 x S1 H
  have H : b_X12_asksNext_56 n d (f_X12_asksNext n) S a1 a2 a3 a4 a6 s0 s1 = some (x, S1) := H
  unfold b_X12_asksNext_56 at H
  obtain ⟨hg1, H⟩ := gg_e H
  obtain ⟨hg2, H⟩ := gg_e H
  refine GV.icmp_ne (tgt := 73) hg1 hg2 dX12_asksNext_56 (by decide) (fun c3 => ?_) (fun c3 => ?_)
  · have H := it_t H c3
    refine GA.iconst dX12_asksNext_73 ?_
    refine GA.istore dX12_asksNext_74 (by decide) ?_
    refine GA.locals [(0, .ref (L 500)), (1, .int (J a1)), (2, .int (J a2)), (3, .int (J a3)), (4, .int (J a4)), (6, .int (J a6)), (7, .int (J 0))] ⟨rfl, rfl, rfl, rfl, rfl, rfl, rfl, trivial⟩ ?_
    exact ih_X12_asksNext_76 hL _ _ (a1) (a2) (a3) (a4) (a6) (0) _ _ H
  · have H := it_f H c3
    refine GA.aload_n dX12_asksNext_59 rfl ?_
    refine GA.aload_n dX12_asksNext_60 rfl ?_
    obtain ⟨x4, hx5, H⟩ := gv_e H
    refine GV.getI hx5 xf_X12_805 dX12_asksNext_61 (gs_500 hL) (by decide) rfl ?_
    refine GA.iload dX12_asksNext_64 rfl ?_
    refine GA.iconst dX12_asksNext_66 ?_
    obtain ⟨hg6, H⟩ := gg_e H
    obtain ⟨x7, S_8, hc9, H⟩ := gc_e H
    refine GA.callV (m_X12_part hL hc9) xs_X12_36 dX12_asksNext_67 (gs_500 hL) (by decide) rfl rfl (by omega) (by decide) rfl (Nat.le_of_ble_eq_true rfl) (by omega) (by omega) rfl (fun E S9 hx => hx.elim) (fun v S9 hq => ?_)
    obtain ⟨rfl, rfl⟩ := hq
    refine GA.goto (tgt := 74) dX12_asksNext_70 (by decide) ?_
    refine GA.istore dX12_asksNext_74 (by decide) ?_
    refine GA.locals [(0, .ref (L 500)), (1, .int (J a1)), (2, .int (J a2)), (3, .int (J a3)), (4, .int (J a4)), (6, .int (J a6)), (7, .int (J x7))] ⟨rfl, rfl, rfl, rfl, rfl, rfl, rfl, trivial⟩ ?_
    exact ih_X12_asksNext_76 hL _ _ (a1) (a2) (a3) (a4) (a6) (x7) _ _ H
set_option maxHeartbeats 4000000 in
set_option maxRecDepth 20000 in
theorem t_X12_asksNext_76 {l : Launch} {Z : XZ} {L : Nat → Nat} (n : Nat) (ih_X12_asksNext_0 : P_X12_asksNext_0 l Z L n) (ih_X12_asksNext_23 : P_X12_asksNext_23 l Z L n) (ih_X12_asksNext_56 : P_X12_asksNext_56 l Z L n) (ih_X12_asksNext_76 : P_X12_asksNext_76 l Z L n) (ih_X12_asksNext_113 : P_X12_asksNext_113 l Z L n) (ih_X12_asksNext_231 : P_X12_asksNext_231 l Z L n) : P_X12_asksNext_76 l Z L (n + 1) := by
  intro hL d S a1 a2 a3 a4 a6 a7 x S1 H
  have H : b_X12_asksNext_76 n d (f_X12_asksNext n) S a1 a2 a3 a4 a6 a7 = some (x, S1) := H
  unfold b_X12_asksNext_76 at H
  refine GA.aload_n dX12_asksNext_76 rfl ?_
  refine GA.get xf_X12_411 dX12_asksNext_77 (gs_500 hL) (by decide) rfl ?_
  refine GA.iload_n dX12_asksNext_80 rfl ?_
  obtain ⟨hg1, H⟩ := gg_e H
  obtain ⟨x2, hx3, H⟩ := gv_e H
  refine GV.iald hg1 hx3 dX12_asksNext_81 (gs_544 hL) (by decide) ?_
  refine GA.iload dX12_asksNext_82 rfl ?_
  obtain ⟨hg4, H⟩ := gg_e H
  obtain ⟨hg5, H⟩ := gg_e H
  refine GV.icmp_ge (tgt := 277) hg4 hg5 dX12_asksNext_84 (by decide) (fun c6 => ?_) (fun c6 => ?_)
  · have H := it_t H c6
    refine GA.iconst dX12_asksNext_277 ?_
    cases H
    exact GV.zret (by decide) rfl dX12_asksNext_278 (by omega) (by omega) ⟨rfl, rfl⟩
  · have H := it_f H c6
    refine GA.iload dX12_asksNext_87 rfl ?_
    obtain ⟨hg7, H⟩ := gg_e H
    refine GV.if_eq (tgt := 111) hg7 dX12_asksNext_89 (by decide) (fun c8 => ?_) (fun c8 => ?_)
    · have H := it_t H c8
      refine GA.iload dX12_asksNext_111 rfl ?_
      refine GA.locals [(0, .ref (L 500)), (1, .int (J a1)), (2, .int (J a2)), (3, .int (J a3)), (4, .int (J a4)), (6, .int (J a6)), (7, .int (J a7))] ⟨rfl, rfl, rfl, rfl, rfl, rfl, rfl, trivial⟩ ?_
      exact ih_X12_asksNext_113 hL _ _ (a1) (a2) (a3) (a4) (a6) (a7) (a4) _ _ H
    · have H := it_f H c8
      refine GA.aload_n dX12_asksNext_92 rfl ?_
      refine GA.aload_n dX12_asksNext_93 rfl ?_
      obtain ⟨x9, hx10, H⟩ := gv_e H
      refine GV.getI hx10 xf_X12_805 dX12_asksNext_94 (gs_500 hL) (by decide) rfl ?_
      refine GA.iload dX12_asksNext_97 rfl ?_
      refine GA.aload_n dX12_asksNext_99 rfl ?_
      refine GA.get xf_X12_411 dX12_asksNext_100 (gs_500 hL) (by decide) rfl ?_
      refine GA.iload_n dX12_asksNext_103 rfl ?_
      obtain ⟨x11, hx12, H⟩ := gv_e H
      refine GV.iald hg1 hx12 dX12_asksNext_104 (gs_544 hL) (by decide) ?_
      obtain ⟨hg13, H⟩ := gg_e H
      obtain ⟨x14, S_15, hc16, H⟩ := gc_e H
      refine GA.callV (m_X12_childAt hL hc16) xs_X12_616 dX12_asksNext_105 (gs_500 hL) (by decide) rfl rfl (by omega) (by decide) rfl (Nat.le_of_ble_eq_true rfl) (by omega) (by omega) rfl (fun E S9 hx => hx.elim) (fun v S9 hq => ?_)
      obtain ⟨rfl, rfl⟩ := hq
      refine GA.goto (tgt := 113) dX12_asksNext_108 (by decide) ?_
      refine GA.locals [(0, .ref (L 500)), (1, .int (J a1)), (2, .int (J a2)), (3, .int (J a3)), (4, .int (J a4)), (6, .int (J a6)), (7, .int (J a7))] ⟨rfl, rfl, rfl, rfl, rfl, rfl, rfl, trivial⟩ ?_
      exact ih_X12_asksNext_113 hL _ _ (a1) (a2) (a3) (a4) (a6) (a7) (x14) _ _ H
set_option maxHeartbeats 4000000 in
set_option maxRecDepth 20000 in
theorem t_X12_asksNext_113 {l : Launch} {Z : XZ} {L : Nat → Nat} (n : Nat) (ih_X12_asksNext_0 : P_X12_asksNext_0 l Z L n) (ih_X12_asksNext_23 : P_X12_asksNext_23 l Z L n) (ih_X12_asksNext_56 : P_X12_asksNext_56 l Z L n) (ih_X12_asksNext_76 : P_X12_asksNext_76 l Z L n) (ih_X12_asksNext_113 : P_X12_asksNext_113 l Z L n) (ih_X12_asksNext_231 : P_X12_asksNext_231 l Z L n) : P_X12_asksNext_113 l Z L (n + 1) := by
  intro hL d S a1 a2 a3 a4 a6 a7 s0 x S1 H
  have H : b_X12_asksNext_113 n d (f_X12_asksNext n) S a1 a2 a3 a4 a6 a7 s0 = some (x, S1) := H
  unfold b_X12_asksNext_113 at H
  refine GA.istore dX12_asksNext_113 (by decide) ?_
  refine GA.iload_n dX12_asksNext_115 rfl ?_
  refine GA.istore dX12_asksNext_116 (by decide) ?_
  refine GA.iload_n dX12_asksNext_118 rfl ?_
  refine GA.bipush dX12_asksNext_119 rfl ?_
  obtain ⟨hg1, H⟩ := gg_e H
  refine GV.icmp_ne (tgt := 144) hg1 (by decide) dX12_asksNext_121 (by decide) (fun c2 => ?_) (fun c2 => ?_)
  · have H := it_t H c2
    refine GA.iload_n dX12_asksNext_144 rfl ?_
    refine GA.bipush dX12_asksNext_145 rfl ?_
    refine GV.icmp_ne (tgt := 209) hg1 (by decide) dX12_asksNext_147 (by decide) (fun c3 => ?_) (fun c3 => ?_)
    · have H := it_t H c3
      refine GA.iload dX12_asksNext_209 rfl ?_
      obtain ⟨hg4, H⟩ := gg_e H
      refine GV.if_ne (tgt := 231) hg4 dX12_asksNext_211 (by decide) (fun c5 => ?_) (fun c5 => ?_)
      · have H := it_t H c5
        refine GA.locals [(0, .ref (L 500)), (1, .int (J a1)), (2, .int (J a2)), (3, .int (J a3)), (4, .int (J a4)), (6, .int (J a6)), (7, .int (J a7)), (8, .int (J s0)), (9, .int (J a3))] ⟨rfl, rfl, rfl, rfl, rfl, rfl, rfl, rfl, rfl, trivial⟩ ?_
        exact ih_X12_asksNext_231 hL _ _ (a1) (a2) (a3) (a4) (a6) (a7) (s0) (a3) _ _ H
      · have H := it_f H c5
        refine GA.aload_n dX12_asksNext_214 rfl ?_
        refine GA.aload_n dX12_asksNext_215 rfl ?_
        obtain ⟨x6, hx7, H⟩ := gv_e H
        refine GV.getI hx7 xf_X12_802 dX12_asksNext_216 (gs_500 hL) (by decide) rfl ?_
        refine GA.iload_n dX12_asksNext_219 rfl ?_
        refine GA.aload_n dX12_asksNext_220 rfl ?_
        refine GA.get xf_X12_411 dX12_asksNext_221 (gs_500 hL) (by decide) rfl ?_
        refine GA.iload_n dX12_asksNext_224 rfl ?_
        obtain ⟨hg8, H⟩ := gg_e H
        obtain ⟨x9, hx10, H⟩ := gv_e H
        refine GV.iald hg8 hx10 dX12_asksNext_225 (gs_544 hL) (by decide) ?_
        obtain ⟨hg11, H⟩ := gg_e H
        obtain ⟨x12, S_13, hc14, H⟩ := gc_e H
        refine GA.callV (m_X12_childAt hL hc14) xs_X12_616 dX12_asksNext_226 (gs_500 hL) (by decide) rfl rfl (by omega) (by decide) rfl (Nat.le_of_ble_eq_true rfl) (by omega) (by omega) rfl (fun E S9 hx => hx.elim) (fun v S9 hq => ?_)
        obtain ⟨rfl, rfl⟩ := hq
        refine GA.istore dX12_asksNext_229 (by decide) ?_
        refine GA.locals [(0, .ref (L 500)), (1, .int (J a1)), (2, .int (J a2)), (3, .int (J a3)), (4, .int (J a4)), (6, .int (J a6)), (7, .int (J a7)), (8, .int (J s0)), (9, .int (J x12))] ⟨rfl, rfl, rfl, rfl, rfl, rfl, rfl, rfl, rfl, trivial⟩ ?_
        exact ih_X12_asksNext_231 hL _ _ (a1) (a2) (a3) (a4) (a6) (a7) (s0) (x12) _ _ H
    · have H := it_f H c3
      refine GA.aload_n dX12_asksNext_150 rfl ?_
      refine GA.aload_n dX12_asksNext_151 rfl ?_
      obtain ⟨x15, hx16, H⟩ := gv_e H
      refine GV.getI hx16 xf_X12_802 dX12_asksNext_152 (gs_500 hL) (by decide) rfl ?_
      refine GA.aload_n dX12_asksNext_155 rfl ?_
      refine GA.get xf_X12_402 dX12_asksNext_156 (gs_500 hL) (by decide) rfl ?_
      refine GA.iload_n dX12_asksNext_159 rfl ?_
      obtain ⟨hg17, H⟩ := gg_e H
      obtain ⟨x18, hx19, H⟩ := gv_e H
      refine GV.iald hg17 hx19 dX12_asksNext_160 (gs_541 hL) (by decide) ?_
      refine GA.aload_n dX12_asksNext_161 rfl ?_
      refine GA.get xf_X12_382 dX12_asksNext_162 (gs_500 hL) (by decide) rfl ?_
      refine GA.bipush dX12_asksNext_165 rfl ?_
      obtain ⟨hg20, H⟩ := gg_e H
      obtain ⟨x21, hx22, H⟩ := gv_e H
      refine GV.lald (g := fun k => gl_words.getD k 0) hg20 hx22 dX12_asksNext_167 (gs_539 hL) (by decide) ?_
      obtain ⟨hg23, H⟩ := gg_e H
      obtain ⟨x24, S_25, hc26, H⟩ := gc_e H
      refine GA.callV (m_X12_childNamed hL hc26) xs_X12_681 dX12_asksNext_168 (gs_500 hL) (by decide) rfl rfl (by omega) (by decide) rfl (Nat.le_of_ble_eq_true rfl) (by omega) (by omega) rfl (fun E S9 hx => hx.elim) (fun v S9 hq => ?_)
      obtain ⟨rfl, rfl⟩ := hq
      refine GA.istore dX12_asksNext_171 (by decide) ?_
      refine GA.iload dX12_asksNext_173 rfl ?_
      refine GA.iconst dX12_asksNext_175 ?_
      obtain ⟨hg27, H⟩ := gg_e H
      refine GV.icmp_eq (tgt := 203) hg27 (by decide) dX12_asksNext_176 (by decide) (fun c28 => ?_) (fun c28 => ?_)
      · have H := it_t H c28
        refine GA.iload_n dX12_asksNext_203 rfl ?_
        refine GA.istore dX12_asksNext_204 (by decide) ?_
        refine GA.goto (tgt := 231) dX12_asksNext_206 (by decide) ?_
        refine GA.locals [(0, .ref (L 500)), (1, .int (J a1)), (2, .int (J a2)), (3, .int (J a3)), (4, .int (J a4)), (6, .int (J a6)), (7, .int (J a7)), (8, .int (J s0)), (9, .int (J a3))] ⟨rfl, rfl, rfl, rfl, rfl, rfl, rfl, rfl, rfl, trivial⟩ ?_
        exact ih_X12_asksNext_231 hL _ _ (a1) (a2) (a3) (a4) (a6) (a7) (s0) (a3) _ _ H
      · have H := it_f H c28
        refine GA.aload_n dX12_asksNext_179 rfl ?_
        refine GA.aload_n dX12_asksNext_180 rfl ?_
        obtain ⟨x29, hx30, H⟩ := gv_e H
        refine GV.getI hx30 xf_X12_802 dX12_asksNext_181 (gs_500 hL) (by decide) rfl ?_
        refine GA.iload dX12_asksNext_184 rfl ?_
        refine GA.aload_n dX12_asksNext_186 rfl ?_
        obtain ⟨x31, hx32, H⟩ := gv_e H
        refine GV.getI hx32 xf_X12_805 dX12_asksNext_187 (gs_500 hL) (by decide) rfl ?_
        refine GA.iload dX12_asksNext_190 rfl ?_
        obtain ⟨x33, S_34, hc35, H⟩ := gc_e H
        refine GA.callV (m_X12_childLike hL hc35) xs_X12_732 dX12_asksNext_192 (gs_500 hL) (by decide) rfl rfl (by omega) (by decide) rfl (Nat.le_of_ble_eq_true rfl) (by omega) (by omega) rfl (fun E S9 hx => hx.elim) (fun v S9 hq => ?_)
        obtain ⟨rfl, rfl⟩ := hq
        refine GA.iconst dX12_asksNext_195 ?_
        obtain ⟨hg36, H⟩ := gg_e H
        refine GV.icmp_eq (tgt := 203) hg36 (by decide) dX12_asksNext_196 (by decide) (fun c37 => ?_) (fun c37 => ?_)
        · have H := it_t H c37
          refine GA.iload_n dX12_asksNext_203 rfl ?_
          refine GA.istore dX12_asksNext_204 (by decide) ?_
          refine GA.goto (tgt := 231) dX12_asksNext_206 (by decide) ?_
          refine GA.locals [(0, .ref (L 500)), (1, .int (J a1)), (2, .int (J a2)), (3, .int (J a3)), (4, .int (J a4)), (6, .int (J a6)), (7, .int (J a7)), (8, .int (J s0)), (9, .int (J a3))] ⟨rfl, rfl, rfl, rfl, rfl, rfl, rfl, rfl, rfl, trivial⟩ ?_
          exact ih_X12_asksNext_231 hL _ _ (a1) (a2) (a3) (a4) (a6) (a7) (s0) (a3) _ _ H
        · have H := it_f H c37
          refine GA.iconst dX12_asksNext_199 ?_
          refine GA.goto (tgt := 204) dX12_asksNext_200 (by decide) ?_
          refine GA.istore dX12_asksNext_204 (by decide) ?_
          refine GA.goto (tgt := 231) dX12_asksNext_206 (by decide) ?_
          refine GA.locals [(0, .ref (L 500)), (1, .int (J a1)), (2, .int (J a2)), (3, .int (J a3)), (4, .int (J a4)), (6, .int (J a6)), (7, .int (J a7)), (8, .int (J s0)), (9, .int (J (-1)))] ⟨rfl, rfl, rfl, rfl, rfl, rfl, rfl, rfl, rfl, trivial⟩ ?_
          exact ih_X12_asksNext_231 hL _ _ (a1) (a2) (a3) (a4) (a6) (a7) (s0) ((-1)) _ _ H
  · have H := it_f H c2
    refine GA.aload_n dX12_asksNext_124 rfl ?_
    refine GA.aload_n dX12_asksNext_125 rfl ?_
    obtain ⟨x38, hx39, H⟩ := gv_e H
    refine GV.getI hx39 xf_X12_802 dX12_asksNext_126 (gs_500 hL) (by decide) rfl ?_
    refine GA.iload_n dX12_asksNext_129 rfl ?_
    refine GA.aload_n dX12_asksNext_130 rfl ?_
    obtain ⟨x40, hx41, H⟩ := gv_e H
    refine GV.getI hx41 xf_X12_805 dX12_asksNext_131 (gs_500 hL) (by decide) rfl ?_
    refine GA.iload dX12_asksNext_134 rfl ?_
    obtain ⟨hg42, H⟩ := gg_e H
    obtain ⟨x43, S_44, hc45, H⟩ := gc_e H
    refine GA.callV (m_X12_childLike hL hc45) xs_X12_732 dX12_asksNext_136 (gs_500 hL) (by decide) rfl rfl (by omega) (by decide) rfl (Nat.le_of_ble_eq_true rfl) (by omega) (by omega) rfl (fun E S9 hx => hx.elim) (fun v S9 hq => ?_)
    obtain ⟨rfl, rfl⟩ := hq
    refine GA.istore dX12_asksNext_139 (by decide) ?_
    refine GA.goto (tgt := 231) dX12_asksNext_141 (by decide) ?_
    refine GA.locals [(0, .ref (L 500)), (1, .int (J a1)), (2, .int (J a2)), (3, .int (J a3)), (4, .int (J a4)), (6, .int (J a6)), (7, .int (J a7)), (8, .int (J s0)), (9, .int (J x43))] ⟨rfl, rfl, rfl, rfl, rfl, rfl, rfl, rfl, rfl, trivial⟩ ?_
    exact ih_X12_asksNext_231 hL _ _ (a1) (a2) (a3) (a4) (a6) (a7) (s0) (x43) _ _ H
set_option maxHeartbeats 4000000 in
set_option maxRecDepth 20000 in
theorem t_X12_asksNext_231 {l : Launch} {Z : XZ} {L : Nat → Nat} (n : Nat) (ih_X12_asksNext_0 : P_X12_asksNext_0 l Z L n) (ih_X12_asksNext_23 : P_X12_asksNext_23 l Z L n) (ih_X12_asksNext_56 : P_X12_asksNext_56 l Z L n) (ih_X12_asksNext_76 : P_X12_asksNext_76 l Z L n) (ih_X12_asksNext_113 : P_X12_asksNext_113 l Z L n) (ih_X12_asksNext_231 : P_X12_asksNext_231 l Z L n) : P_X12_asksNext_231 l Z L (n + 1) := by
  intro hL d S a1 a2 a3 a4 a6 a7 a8 a9 x S1 H
  have H : b_X12_asksNext_231 n d (f_X12_asksNext n) S a1 a2 a3 a4 a6 a7 a8 a9 = some (x, S1) := H
  unfold b_X12_asksNext_231 at H
  refine GA.aload_n dX12_asksNext_231 rfl ?_
  refine GA.get xf_X12_411 dX12_asksNext_232 (gs_500 hL) (by decide) rfl ?_
  refine GA.iload_n dX12_asksNext_235 rfl ?_
  refine GA.dup2 dX12_asksNext_236 rfl rfl ?_
  obtain ⟨hg1, H⟩ := gg_e H
  obtain ⟨x2, hx3, H⟩ := gv_e H
  refine GV.iald hg1 hx3 dX12_asksNext_237 (gs_544 hL) (by decide) ?_
  refine GA.iconst dX12_asksNext_238 ?_
  obtain ⟨x4, hx5, H⟩ := gv_e H
  refine GV.iadd hx5 dX12_asksNext_239 ?_
  obtain ⟨S_6, hx7, H⟩ := gv_e H
  refine GV.iast hg1 hx7 dX12_asksNext_240 (fun _ => (gs_544 hL)) (by decide) ?_
  refine GA.iload dX12_asksNext_241 rfl ?_
  refine GA.iconst dX12_asksNext_243 ?_
  obtain ⟨hg8, H⟩ := gg_e H
  refine GV.icmp_eq (tgt := 274) hg8 (by decide) dX12_asksNext_244 (by decide) (fun c9 => ?_) (fun c9 => ?_)
  · have H := it_t H c9
    refine GA.goto (tgt := 76) dX12_asksNext_274 (by decide) ?_
    refine GA.locals [(0, .ref (L 500)), (1, .int (J a1)), (2, .int (J a2)), (3, .int (J a3)), (4, .int (J a4)), (6, .int (J a6)), (7, .int (J a7))] ⟨rfl, rfl, rfl, rfl, rfl, rfl, rfl, trivial⟩ ?_
    exact ih_X12_asksNext_76 hL _ _ (a1) (a2) (a3) (a4) (a6) (a7) _ _ H
  · have H := it_f H c9
    refine GA.aload_n dX12_asksNext_247 rfl ?_
    refine GA.get xf_X12_417 dX12_asksNext_248 (gs_500 hL) (by decide) rfl ?_
    refine GA.iload_n dX12_asksNext_251 rfl ?_
    refine GA.aload_n dX12_asksNext_252 rfl ?_
    obtain ⟨x10, hx11, H⟩ := gv_e H
    refine GV.getI hx11 xf_X12_793 dX12_asksNext_253 (gs_500 hL) (by decide) rfl ?_
    obtain ⟨S_12, hx13, H⟩ := gv_e H
    refine GV.iast hg1 hx13 dX12_asksNext_256 (fun _ => (gs_546 hL)) (by decide) ?_
    refine GA.aload_n dX12_asksNext_257 rfl ?_
    refine GA.get xf_X12_423 dX12_asksNext_258 (gs_500 hL) (by decide) rfl ?_
    refine GA.iload_n dX12_asksNext_261 rfl ?_
    refine GA.iconst dX12_asksNext_262 ?_
    obtain ⟨S_14, hx15, H⟩ := gv_e H
    refine GV.zast hg1 (by decide) hx15 dX12_asksNext_263 (fun _ => (gs_548 hL)) (by decide) ?_
    refine GA.aload_n dX12_asksNext_264 rfl ?_
    refine GA.iload dX12_asksNext_265 rfl ?_
    refine GA.iload dX12_asksNext_267 rfl ?_
    obtain ⟨hg16, H⟩ := gg_e H
    obtain ⟨x17, S_18, hc19, H⟩ := gc_e H
    refine GA.callV (m_X12_asksOf hL hc19) xs_X12_820 dX12_asksNext_269 (gs_500 hL) (by decide) rfl rfl (by omega) (by decide) rfl (Nat.le_of_ble_eq_true rfl) (by omega) (by omega) rfl (fun E S9 hx => hx.elim) (fun v S9 hq => ?_)
    obtain ⟨rfl, rfl⟩ := hq
    refine GA.iconst dX12_asksNext_272 ?_
    cases H
    exact GV.zret (by decide) rfl dX12_asksNext_273 (by omega) (by omega) ⟨rfl, rfl⟩
theorem g_X12_asksNext {l : Launch} {Z : XZ} {L : Nat → Nat} : ∀ n, P_X12_asksNext_0 l Z L n ∧ P_X12_asksNext_23 l Z L n ∧ P_X12_asksNext_56 l Z L n ∧ P_X12_asksNext_76 l Z L n ∧ P_X12_asksNext_113 l Z L n ∧ P_X12_asksNext_231 l Z L n
  | 0 => ⟨fun _ _ _ _ _ _ _ _ _ H => no_e H, fun _ _ _ _ _ _ _ _ _ _ _ H => no_e H, fun _ _ _ _ _ _ _ _ _ _ _ _ H => no_e H, fun _ _ _ _ _ _ _ _ _ _ _ H => no_e H, fun _ _ _ _ _ _ _ _ _ _ _ _ H => no_e H, fun _ _ _ _ _ _ _ _ _ _ _ _ _ H => no_e H⟩
  | n + 1 => have ⟨h0, h1, h2, h3, h4, h5⟩ := g_X12_asksNext (l := l) (Z := Z) (L := L) n
    ⟨t_X12_asksNext_0 n h0 h1 h2 h3 h4 h5, t_X12_asksNext_23 n h0 h1 h2 h3 h4 h5, t_X12_asksNext_56 n h0 h1 h2 h3 h4 h5, t_X12_asksNext_76 n h0 h1 h2 h3 h4 h5, t_X12_asksNext_113 n h0 h1 h2 h3 h4 h5, t_X12_asksNext_231 n h0 h1 h2 h3 h4 h5⟩
theorem m_X12_asksNext {l : Launch} {Z : XZ} {L : Nat → Nat} (hL : L 700 = 1) {n d : Nat} {S : GS} {a1 : Int} {a2 : Int} {a3 : Int} {a4 : Int} {x : Int} {S1 : GS} (H : f_X12_asksNext n d 0 S [a1, a2, a3, a4] = some (x, S1)) : GM l Z L yX12_asksNext cX12_asksNext 11 (some .boolean) [] d 0 0 [.ref (L 500), .int (J a1), .int (J a2), .int (J a3), .int (J a4)] S (fun v S' => v = some (.int (J x)) ∧ S1 = S') (fun _ _ => False) := GM.of (by decide) (Nat.le_of_ble_eq_true rfl) ((g_X12_asksNext n).1 hL _ _ _ _ _ _ _ _ H)

def P_X12_asksMore_0 (l : Launch) (Z : XZ) (L : Nat → Nat) (n : Nat) : Prop := ∀ (hL : L 700 = 1), ∀ (d : Nat) (S : GS) (a1 : Int) (x : Int) (S1 : GS), f_X12_asksMore n d 0 S [a1] = some (x, S1) → GA l Z L yX12_asksMore cX12_asksMore 4 (some .boolean) [] d 0 0 (fun v S' => v = some (.int (J x)) ∧ S1 = S') (fun _ _ => False) 0 (gl [(0, .ref (L 500)), (1, .int (J a1))]) [] S 0 0
def P_X12_asksMore_14 (l : Launch) (Z : XZ) (L : Nat → Nat) (n : Nat) : Prop := ∀ (hL : L 700 = 1), ∀ (d : Nat) (S : GS) (a1 : Int) (x : Int) (S1 : GS), f_X12_asksMore n d 14 S [a1] = some (x, S1) → GA l Z L yX12_asksMore cX12_asksMore 4 (some .boolean) [] d 0 0 (fun v S' => v = some (.int (J x)) ∧ S1 = S') (fun _ _ => False) 14 (gl [(0, .ref (L 500)), (1, .int (J a1))]) [] S 0 0
def P_X12_asksMore_64 (l : Launch) (Z : XZ) (L : Nat → Nat) (n : Nat) : Prop := ∀ (hL : L 700 = 1), ∀ (d : Nat) (S : GS) (a1 : Int) (x : Int) (S1 : GS), f_X12_asksMore n d 64 S [a1] = some (x, S1) → GA l Z L yX12_asksMore cX12_asksMore 4 (some .boolean) [] d 0 0 (fun v S' => v = some (.int (J x)) ∧ S1 = S') (fun _ _ => False) 64 (gl [(0, .ref (L 500)), (1, .int (J a1))]) [] S 0 0
def P_X12_asksMore_120 (l : Launch) (Z : XZ) (L : Nat → Nat) (n : Nat) : Prop := ∀ (hL : L 700 = 1), ∀ (d : Nat) (S : GS) (a1 : Int) (a2 : Int) (a3 : Int) (x : Int) (S1 : GS), f_X12_asksMore n d 120 S [a1, a2, a3] = some (x, S1) → GA l Z L yX12_asksMore cX12_asksMore 4 (some .boolean) [] d 0 0 (fun v S' => v = some (.int (J x)) ∧ S1 = S') (fun _ _ => False) 120 (gl [(0, .ref (L 500)), (1, .int (J a1)), (2, .int (J a2)), (3, .int (J a3))]) [] S 0 0
def P_X12_asksMore_135 (l : Launch) (Z : XZ) (L : Nat → Nat) (n : Nat) : Prop := ∀ (hL : L 700 = 1), ∀ (d : Nat) (S : GS) (a1 : Int) (a2 : Int) (a3 : Int) (x : Int) (S1 : GS), f_X12_asksMore n d 135 S [a1, a2, a3] = some (x, S1) → GA l Z L yX12_asksMore cX12_asksMore 4 (some .boolean) [] d 0 0 (fun v S' => v = some (.int (J x)) ∧ S1 = S') (fun _ _ => False) 135 (gl [(0, .ref (L 500)), (1, .int (J a1)), (2, .int (J a2)), (3, .int (J a3))]) [] S 0 0
def P_X12_asksMore_176 (l : Launch) (Z : XZ) (L : Nat → Nat) (n : Nat) : Prop := ∀ (hL : L 700 = 1), ∀ (d : Nat) (S : GS) (a1 : Int) (a2 : Int) (a3 : Int) (x : Int) (S1 : GS), f_X12_asksMore n d 176 S [a1, a2, a3] = some (x, S1) → GA l Z L yX12_asksMore cX12_asksMore 4 (some .boolean) [] d 0 0 (fun v S' => v = some (.int (J x)) ∧ S1 = S') (fun _ _ => False) 176 (gl [(0, .ref (L 500)), (1, .int (J a1)), (2, .int (J a2)), (3, .int (J a3))]) [] S 0 0
def P_X12_asksMore_204 (l : Launch) (Z : XZ) (L : Nat → Nat) (n : Nat) : Prop := ∀ (hL : L 700 = 1), ∀ (d : Nat) (S : GS) (a1 : Int) (a2 : Int) (a3 : Int) (x : Int) (S1 : GS), f_X12_asksMore n d 204 S [a1, a2, a3] = some (x, S1) → GA l Z L yX12_asksMore cX12_asksMore 4 (some .boolean) [] d 0 0 (fun v S' => v = some (.int (J x)) ∧ S1 = S') (fun _ _ => False) 204 (gl [(0, .ref (L 500)), (1, .int (J a1)), (2, .int (J a2)), (3, .int (J a3))]) [] S 0 0
def P_X12_asksMore_242 (l : Launch) (Z : XZ) (L : Nat → Nat) (n : Nat) : Prop := ∀ (hL : L 700 = 1), ∀ (d : Nat) (S : GS) (a1 : Int) (a2 : Int) (x : Int) (S1 : GS), f_X12_asksMore n d 242 S [a1, a2] = some (x, S1) → GA l Z L yX12_asksMore cX12_asksMore 4 (some .boolean) [] d 0 0 (fun v S' => v = some (.int (J x)) ∧ S1 = S') (fun _ _ => False) 242 (gl [(0, .ref (L 500)), (1, .int (J a1)), (2, .int (J a2))]) [] S 0 0
def P_X12_asksMore_269 (l : Launch) (Z : XZ) (L : Nat → Nat) (n : Nat) : Prop := ∀ (hL : L 700 = 1), ∀ (d : Nat) (S : GS) (a1 : Int) (x : Int) (S1 : GS), f_X12_asksMore n d 269 S [a1] = some (x, S1) → GA l Z L yX12_asksMore cX12_asksMore 4 (some .boolean) [] d 0 0 (fun v S' => v = some (.int (J x)) ∧ S1 = S') (fun _ _ => False) 269 (gl [(0, .ref (L 500)), (1, .int (J a1))]) [] S 0 0
theorem i_X12_asksMore {l : Launch} {Z : XZ} {L : Nat → Nat} (hL : L 700 = 1) {n : Nat} (ih : P_X12_asksMore_0 l Z L n) {d : Nat} {S : GS} {a1 : Int} {x : Int} {S1 : GS} (H : f_X12_asksMore n d 0 S [a1] = some (x, S1)) : GM l Z L yX12_asksMore cX12_asksMore 4 (some .boolean) [] d 0 0 [.ref (L 500), .int (J a1)] S (fun v S' => v = some (.int (J x)) ∧ S1 = S') (fun _ _ => False) := GM.of (by decide) (Nat.le_of_ble_eq_true rfl) (ih hL _ _ _ _ _ H)
set_option maxHeartbeats 4000000 in
set_option maxRecDepth 20000 in
theorem t_X12_asksMore_0 {l : Launch} {Z : XZ} {L : Nat → Nat} (n : Nat) (ih_X12_asksMore_0 : P_X12_asksMore_0 l Z L n) (ih_X12_asksMore_14 : P_X12_asksMore_14 l Z L n) (ih_X12_asksMore_64 : P_X12_asksMore_64 l Z L n) (ih_X12_asksMore_120 : P_X12_asksMore_120 l Z L n) (ih_X12_asksMore_135 : P_X12_asksMore_135 l Z L n) (ih_X12_asksMore_176 : P_X12_asksMore_176 l Z L n) (ih_X12_asksMore_204 : P_X12_asksMore_204 l Z L n) (ih_X12_asksMore_242 : P_X12_asksMore_242 l Z L n) (ih_X12_asksMore_269 : P_X12_asksMore_269 l Z L n) : P_X12_asksMore_0 l Z L (n + 1) := by
  intro hL d S a1 x S1 H
  have H : b_X12_asksMore_0 n d (f_X12_asksMore n) S a1 = some (x, S1) := H
  unfold b_X12_asksMore_0 at H
  refine GA.aload_n dX12_asksMore_0 rfl ?_
  refine GA.get xf_X12_423 dX12_asksMore_1 (gs_500 hL) (by decide) rfl ?_
  refine GA.iload_n dX12_asksMore_4 rfl ?_
  obtain ⟨hg1, H⟩ := gg_e H
  obtain ⟨x2, hx3, H⟩ := gv_e H
  refine GV.zald hg1 hx3 dX12_asksMore_5 (gs_548 hL) (by decide) ?_
  obtain ⟨hg4, H⟩ := gg_e H
  refine GV.if_eq (tgt := 14) hg4 dX12_asksMore_6 (by decide) (fun c5 => ?_) (fun c5 => ?_)
  · have H := it_t H c5
    refine GA.locals [(0, .ref (L 500)), (1, .int (J a1))] ⟨rfl, rfl, trivial⟩ ?_
    exact ih_X12_asksMore_14 hL _ _ (a1) _ _ H
  · have H := it_f H c5
    refine GA.aload_n dX12_asksMore_9 rfl ?_
    refine GA.iload_n dX12_asksMore_10 rfl ?_
    obtain ⟨hg6, H⟩ := gg_e H
    obtain ⟨x7, S_8, hc9, H⟩ := gc_e H
    refine GA.callV (m_X12_hears hL hc9) xs_X12_831 dX12_asksMore_11 (gs_500 hL) (by decide) rfl rfl (by omega) (by decide) rfl (Nat.le_of_ble_eq_true rfl) (by omega) (by omega) rfl (fun E S9 hx => hx.elim) (fun v S9 hq => ?_)
    obtain ⟨rfl, rfl⟩ := hq
    refine GA.locals [(0, .ref (L 500)), (1, .int (J a1))] ⟨rfl, rfl, trivial⟩ ?_
    exact ih_X12_asksMore_14 hL _ _ (a1) _ _ H
set_option maxHeartbeats 4000000 in
set_option maxRecDepth 20000 in
theorem t_X12_asksMore_14 {l : Launch} {Z : XZ} {L : Nat → Nat} (n : Nat) (ih_X12_asksMore_0 : P_X12_asksMore_0 l Z L n) (ih_X12_asksMore_14 : P_X12_asksMore_14 l Z L n) (ih_X12_asksMore_64 : P_X12_asksMore_64 l Z L n) (ih_X12_asksMore_120 : P_X12_asksMore_120 l Z L n) (ih_X12_asksMore_135 : P_X12_asksMore_135 l Z L n) (ih_X12_asksMore_176 : P_X12_asksMore_176 l Z L n) (ih_X12_asksMore_204 : P_X12_asksMore_204 l Z L n) (ih_X12_asksMore_242 : P_X12_asksMore_242 l Z L n) (ih_X12_asksMore_269 : P_X12_asksMore_269 l Z L n) : P_X12_asksMore_14 l Z L (n + 1) := by
  intro hL d S a1 x S1 H
  have H : b_X12_asksMore_14 n d (f_X12_asksMore n) S a1 = some (x, S1) := H
  unfold b_X12_asksMore_14 at H
  refine GA.aload_n dX12_asksMore_14 rfl ?_
  refine GA.aload_n dX12_asksMore_15 rfl ?_
  obtain ⟨x1, hx2, H⟩ := gv_e H
  refine GV.getI hx2 xf_X12_802 dX12_asksMore_16 (gs_500 hL) (by decide) rfl ?_
  refine GA.aload_n dX12_asksMore_19 rfl ?_
  refine GA.get xf_X12_402 dX12_asksMore_20 (gs_500 hL) (by decide) rfl ?_
  refine GA.iload_n dX12_asksMore_23 rfl ?_
  obtain ⟨hg3, H⟩ := gg_e H
  obtain ⟨x4, hx5, H⟩ := gv_e H
  refine GV.iald hg3 hx5 dX12_asksMore_24 (gs_541 hL) (by decide) ?_
  obtain ⟨hg6, H⟩ := gg_e H
  obtain ⟨x7, S_8, hc9, H⟩ := gc_e H
  refine GA.callV (m_X12_kind hL hc9) xs_X12_52 dX12_asksMore_25 (gs_500 hL) (by decide) rfl rfl (by omega) (by decide) rfl (Nat.le_of_ble_eq_true rfl) (by omega) (by omega) rfl (fun E S9 hx => hx.elim) (fun v S9 hq => ?_)
  obtain ⟨rfl, rfl⟩ := hq
  refine GA.iconst dX12_asksMore_28 ?_
  obtain ⟨hg10, H⟩ := gg_e H
  refine GV.icmp_eq (tgt := 64) hg10 (by decide) dX12_asksMore_29 (by decide) (fun c11 => ?_) (fun c11 => ?_)
  · have H := it_t H c11
    refine GA.locals [(0, .ref (L 500)), (1, .int (J a1))] ⟨rfl, rfl, trivial⟩ ?_
    exact ih_X12_asksMore_64 hL _ _ (a1) _ _ H
  · have H := it_f H c11
    refine GA.aload_n dX12_asksMore_32 rfl ?_
    refine GA.aload_n dX12_asksMore_33 rfl ?_
    obtain ⟨x12, hx13, H⟩ := gv_e H
    refine GV.getI hx13 xf_X12_802 dX12_asksMore_34 (gs_500 hL) (by decide) rfl ?_
    refine GA.aload_n dX12_asksMore_37 rfl ?_
    refine GA.get xf_X12_402 dX12_asksMore_38 (gs_500 hL) (by decide) rfl ?_
    refine GA.iload_n dX12_asksMore_41 rfl ?_
    obtain ⟨x14, hx15, H⟩ := gv_e H
    refine GV.iald hg3 hx15 dX12_asksMore_42 (gs_541 hL) (by decide) ?_
    refine GA.bipush dX12_asksMore_43 rfl ?_
    obtain ⟨x16, S_17, hc18, H⟩ := gc_e H
    refine GA.callV (m_X12_part hL hc18) xs_X12_36 dX12_asksMore_45 (gs_500 hL) (by decide) rfl rfl (by omega) (by decide) rfl (Nat.le_of_ble_eq_true rfl) (by omega) (by omega) rfl (fun E S9 hx => hx.elim) (fun v S9 hq => ?_)
    obtain ⟨rfl, rfl⟩ := hq
    obtain ⟨hg19, H⟩ := gg_e H
    refine GV.if_ne (tgt := 62) hg19 dX12_asksMore_48 (by decide) (fun c20 => ?_) (fun c20 => ?_)
    · have H := it_t H c20
      refine GA.iconst dX12_asksMore_62 ?_
      cases H
      exact GV.zret (by decide) rfl dX12_asksMore_63 (by omega) (by omega) ⟨rfl, rfl⟩
    · have H := it_f H c20
      refine GA.aload_n dX12_asksMore_51 rfl ?_
      refine GA.aload_n dX12_asksMore_52 rfl ?_
      refine GA.get xf_X12_405 dX12_asksMore_53 (gs_500 hL) (by decide) rfl ?_
      refine GA.iload_n dX12_asksMore_56 rfl ?_
      obtain ⟨x21, hx22, H⟩ := gv_e H
      refine GV.iald hg3 hx22 dX12_asksMore_57 (gs_542 hL) (by decide) ?_
      refine GA.iconst dX12_asksMore_58 ?_
      obtain ⟨x23, S_24, hc25, H⟩ := gc_e H
      refine GA.callV (m_X12_complains hL hc25) xs_X12_817 dX12_asksMore_59 (gs_500 hL) (by decide) rfl rfl (by omega) (by decide) rfl (Nat.le_of_ble_eq_true rfl) (by omega) (by omega) rfl (fun E S9 hx => hx.elim) (fun v S9 hq => ?_)
      obtain ⟨rfl, rfl⟩ := hq
      refine GA.iconst dX12_asksMore_62 ?_
      cases H
      exact GV.zret (by decide) rfl dX12_asksMore_63 (by omega) (by omega) ⟨rfl, rfl⟩
set_option maxHeartbeats 4000000 in
set_option maxRecDepth 20000 in
theorem t_X12_asksMore_64 {l : Launch} {Z : XZ} {L : Nat → Nat} (n : Nat) (ih_X12_asksMore_0 : P_X12_asksMore_0 l Z L n) (ih_X12_asksMore_14 : P_X12_asksMore_14 l Z L n) (ih_X12_asksMore_64 : P_X12_asksMore_64 l Z L n) (ih_X12_asksMore_120 : P_X12_asksMore_120 l Z L n) (ih_X12_asksMore_135 : P_X12_asksMore_135 l Z L n) (ih_X12_asksMore_176 : P_X12_asksMore_176 l Z L n) (ih_X12_asksMore_204 : P_X12_asksMore_204 l Z L n) (ih_X12_asksMore_242 : P_X12_asksMore_242 l Z L n) (ih_X12_asksMore_269 : P_X12_asksMore_269 l Z L n) : P_X12_asksMore_64 l Z L (n + 1) := by
  intro hL d S a1 x S1 H
  have H : b_X12_asksMore_64 n d (f_X12_asksMore n) S a1 = some (x, S1) := H
  unfold b_X12_asksMore_64 at H
  refine GA.aload_n dX12_asksMore_64 rfl ?_
  refine GA.get xf_X12_408 dX12_asksMore_65 (gs_500 hL) (by decide) rfl ?_
  refine GA.iload_n dX12_asksMore_68 rfl ?_
  obtain ⟨hg1, H⟩ := gg_e H
  obtain ⟨x2, hx3, H⟩ := gv_e H
  refine GV.iald hg1 hx3 dX12_asksMore_69 (gs_543 hL) (by decide) ?_
  refine GA.bipush dX12_asksMore_70 rfl ?_
  obtain ⟨hg4, H⟩ := gg_e H
  refine GV.icmp_ge (tgt := 296) hg4 (by decide) dX12_asksMore_72 (by decide) (fun c5 => ?_) (fun c5 => ?_)
  · have H := it_t H c5
    refine GA.iconst dX12_asksMore_296 ?_
    cases H
    exact GV.zret (by decide) rfl dX12_asksMore_297 (by omega) (by omega) ⟨rfl, rfl⟩
  · have H := it_f H c5
    refine GA.aload_n dX12_asksMore_75 rfl ?_
    refine GA.get xf_X12_408 dX12_asksMore_76 (gs_500 hL) (by decide) rfl ?_
    refine GA.iload_n dX12_asksMore_79 rfl ?_
    obtain ⟨x6, hx7, H⟩ := gv_e H
    refine GV.iald hg1 hx7 dX12_asksMore_80 (gs_543 hL) (by decide) ?_
    refine GA.istore_n dX12_asksMore_81 (by decide) ?_
    refine GA.aload_n dX12_asksMore_82 rfl ?_
    refine GA.aload_n dX12_asksMore_83 rfl ?_
    obtain ⟨x8, hx9, H⟩ := gv_e H
    refine GV.getI hx9 xf_X12_802 dX12_asksMore_84 (gs_500 hL) (by decide) rfl ?_
    refine GA.aload_n dX12_asksMore_87 rfl ?_
    refine GA.get xf_X12_402 dX12_asksMore_88 (gs_500 hL) (by decide) rfl ?_
    refine GA.iload_n dX12_asksMore_91 rfl ?_
    obtain ⟨x10, hx11, H⟩ := gv_e H
    refine GV.iald hg1 hx11 dX12_asksMore_92 (gs_541 hL) (by decide) ?_
    refine GA.aload_n dX12_asksMore_93 rfl ?_
    refine GA.get xf_X12_382 dX12_asksMore_94 (gs_500 hL) (by decide) rfl ?_
    refine GA.iload_n dX12_asksMore_97 rfl ?_
    obtain ⟨hg12, H⟩ := gg_e H
    obtain ⟨x13, hx14, H⟩ := gv_e H
    refine GV.lald (g := fun k => gl_words.getD k 0) hg12 hx14 dX12_asksMore_98 (gs_539 hL) (by decide) ?_
    obtain ⟨hg15, H⟩ := gg_e H
    obtain ⟨x16, S_17, hc18, H⟩ := gc_e H
    refine GA.callV (m_X12_childNamed hL hc18) xs_X12_681 dX12_asksMore_99 (gs_500 hL) (by decide) rfl rfl (by omega) (by decide) rfl (Nat.le_of_ble_eq_true rfl) (by omega) (by omega) rfl (fun E S9 hx => hx.elim) (fun v S9 hq => ?_)
    obtain ⟨rfl, rfl⟩ := hq
    refine GA.istore_n dX12_asksMore_102 (by decide) ?_
    refine GA.iload_n dX12_asksMore_103 rfl ?_
    refine GA.iconst dX12_asksMore_104 ?_
    obtain ⟨hg19, H⟩ := gg_e H
    refine GV.icmp_eq (tgt := 135) hg19 (by decide) dX12_asksMore_105 (by decide) (fun c20 => ?_) (fun c20 => ?_)
    · have H := it_t H c20
      refine GA.locals [(0, .ref (L 500)), (1, .int (J a1)), (2, .int (J x6)), (3, .int (J x16))] ⟨rfl, rfl, rfl, rfl, trivial⟩ ?_
      exact ih_X12_asksMore_135 hL _ _ (a1) (x6) (x16) _ _ H
    · have H := it_f H c20
      refine GA.iload_n dX12_asksMore_108 rfl ?_
      refine GA.bipush dX12_asksMore_109 rfl ?_
      obtain ⟨hg21, H⟩ := gg_e H
      refine GV.icmp_lt (tgt := 120) hg21 (by decide) dX12_asksMore_111 (by decide) (fun c22 => ?_) (fun c22 => ?_)
      · have H := it_t H c22
        refine GA.locals [(0, .ref (L 500)), (1, .int (J a1)), (2, .int (J x6)), (3, .int (J x16))] ⟨rfl, rfl, rfl, rfl, trivial⟩ ?_
        exact ih_X12_asksMore_120 hL _ _ (a1) (x6) (x16) _ _ H
      · have H := it_f H c22
        refine GA.iload_n dX12_asksMore_114 rfl ?_
        refine GA.bipush dX12_asksMore_115 rfl ?_
        refine GV.icmp_ne (tgt := 135) hg21 (by decide) dX12_asksMore_117 (by decide) (fun c23 => ?_) (fun c23 => ?_)
        · have H := it_t H c23
          refine GA.locals [(0, .ref (L 500)), (1, .int (J a1)), (2, .int (J x6)), (3, .int (J x16))] ⟨rfl, rfl, rfl, rfl, trivial⟩ ?_
          exact ih_X12_asksMore_135 hL _ _ (a1) (x6) (x16) _ _ H
        · have H := it_f H c23
          refine GA.locals [(0, .ref (L 500)), (1, .int (J a1)), (2, .int (J x6)), (3, .int (J x16))] ⟨rfl, rfl, rfl, rfl, trivial⟩ ?_
          exact ih_X12_asksMore_120 hL _ _ (a1) (x6) (x16) _ _ H
set_option maxHeartbeats 4000000 in
set_option maxRecDepth 20000 in
theorem t_X12_asksMore_120 {l : Launch} {Z : XZ} {L : Nat → Nat} (n : Nat) (ih_X12_asksMore_0 : P_X12_asksMore_0 l Z L n) (ih_X12_asksMore_14 : P_X12_asksMore_14 l Z L n) (ih_X12_asksMore_64 : P_X12_asksMore_64 l Z L n) (ih_X12_asksMore_120 : P_X12_asksMore_120 l Z L n) (ih_X12_asksMore_135 : P_X12_asksMore_135 l Z L n) (ih_X12_asksMore_176 : P_X12_asksMore_176 l Z L n) (ih_X12_asksMore_204 : P_X12_asksMore_204 l Z L n) (ih_X12_asksMore_242 : P_X12_asksMore_242 l Z L n) (ih_X12_asksMore_269 : P_X12_asksMore_269 l Z L n) : P_X12_asksMore_120 l Z L (n + 1) := by
  intro hL d S a1 a2 a3 x S1 H
  have H : b_X12_asksMore_120 n d (f_X12_asksMore n) S a1 a2 a3 = some (x, S1) := H
  unfold b_X12_asksMore_120 at H
  refine GA.aload_n dX12_asksMore_120 rfl ?_
  refine GA.iload_n dX12_asksMore_121 rfl ?_
  refine GA.iload_n dX12_asksMore_122 rfl ?_
  refine GA.aload_n dX12_asksMore_123 rfl ?_
  refine GA.get xf_X12_405 dX12_asksMore_124 (gs_500 hL) (by decide) rfl ?_
  refine GA.iload_n dX12_asksMore_127 rfl ?_
  obtain ⟨hg1, H⟩ := gg_e H
  obtain ⟨x2, hx3, H⟩ := gv_e H
  refine GV.iald hg1 hx3 dX12_asksMore_128 (gs_542 hL) (by decide) ?_
  obtain ⟨hg4, H⟩ := gg_e H
  obtain ⟨x5, S_6, hc7, H⟩ := gc_e H
  refine GA.callV (m_X12_says_ hL hc7) xs_X12_834 dX12_asksMore_129 (gs_500 hL) (by decide) rfl rfl (by omega) (by decide) rfl (Nat.le_of_ble_eq_true rfl) (by omega) (by omega) rfl (fun E S9 hx => hx.elim) (fun v S9 hq => ?_)
  obtain ⟨rfl, rfl⟩ := hq
  refine GA.goto (tgt := 269) dX12_asksMore_132 (by decide) ?_
  refine GA.locals [(0, .ref (L 500)), (1, .int (J a1))] ⟨rfl, rfl, trivial⟩ ?_
  exact ih_X12_asksMore_269 hL _ _ (a1) _ _ H
set_option maxHeartbeats 4000000 in
set_option maxRecDepth 20000 in
theorem t_X12_asksMore_135 {l : Launch} {Z : XZ} {L : Nat → Nat} (n : Nat) (ih_X12_asksMore_0 : P_X12_asksMore_0 l Z L n) (ih_X12_asksMore_14 : P_X12_asksMore_14 l Z L n) (ih_X12_asksMore_64 : P_X12_asksMore_64 l Z L n) (ih_X12_asksMore_120 : P_X12_asksMore_120 l Z L n) (ih_X12_asksMore_135 : P_X12_asksMore_135 l Z L n) (ih_X12_asksMore_176 : P_X12_asksMore_176 l Z L n) (ih_X12_asksMore_204 : P_X12_asksMore_204 l Z L n) (ih_X12_asksMore_242 : P_X12_asksMore_242 l Z L n) (ih_X12_asksMore_269 : P_X12_asksMore_269 l Z L n) : P_X12_asksMore_135 l Z L (n + 1) := by
  intro hL d S a1 a2 a3 x S1 H
  have H : b_X12_asksMore_135 n d (f_X12_asksMore n) S a1 a2 a3 = some (x, S1) := H
  unfold b_X12_asksMore_135 at H
  refine GA.iload_n dX12_asksMore_135 rfl ?_
  refine GA.iconst dX12_asksMore_136 ?_
  obtain ⟨hg1, H⟩ := gg_e H
  refine GV.icmp_eq (tgt := 176) hg1 (by decide) dX12_asksMore_137 (by decide) (fun c2 => ?_) (fun c2 => ?_)
  · have H := it_t H c2
    refine GA.locals [(0, .ref (L 500)), (1, .int (J a1)), (2, .int (J a2)), (3, .int (J a3))] ⟨rfl, rfl, rfl, rfl, trivial⟩ ?_
    exact ih_X12_asksMore_176 hL _ _ (a1) (a2) (a3) _ _ H
  · have H := it_f H c2
    refine GA.iload_n dX12_asksMore_140 rfl ?_
    refine GA.bipush dX12_asksMore_141 rfl ?_
    obtain ⟨hg3, H⟩ := gg_e H
    refine GV.icmp_ne (tgt := 176) hg3 (by decide) dX12_asksMore_143 (by decide) (fun c4 => ?_) (fun c4 => ?_)
    · have H := it_t H c4
      refine GA.locals [(0, .ref (L 500)), (1, .int (J a1)), (2, .int (J a2)), (3, .int (J a3))] ⟨rfl, rfl, rfl, rfl, trivial⟩ ?_
      exact ih_X12_asksMore_176 hL _ _ (a1) (a2) (a3) _ _ H
    · have H := it_f H c4
      refine GA.aload_n dX12_asksMore_146 rfl ?_
      refine GA.get xf_X12_417 dX12_asksMore_147 (gs_500 hL) (by decide) rfl ?_
      refine GA.iload_n dX12_asksMore_150 rfl ?_
      refine GA.aload_n dX12_asksMore_151 rfl ?_
      obtain ⟨x5, hx6, H⟩ := gv_e H
      refine GV.getI hx6 xf_X12_793 dX12_asksMore_152 (gs_500 hL) (by decide) rfl ?_
      obtain ⟨hg7, H⟩ := gg_e H
      obtain ⟨S_8, hx9, H⟩ := gv_e H
      refine GV.iast hg7 hx9 dX12_asksMore_155 (fun _ => (gs_546 hL)) (by decide) ?_
      refine GA.aload_n dX12_asksMore_156 rfl ?_
      refine GA.get xf_X12_423 dX12_asksMore_157 (gs_500 hL) (by decide) rfl ?_
      refine GA.iload_n dX12_asksMore_160 rfl ?_
      refine GA.iconst dX12_asksMore_161 ?_
      obtain ⟨S_10, hx11, H⟩ := gv_e H
      refine GV.zast hg7 (by decide) hx11 dX12_asksMore_162 (fun _ => (gs_548 hL)) (by decide) ?_
      refine GA.aload_n dX12_asksMore_163 rfl ?_
      refine GA.iload_n dX12_asksMore_164 rfl ?_
      refine GA.aload_n dX12_asksMore_165 rfl ?_
      refine GA.get xf_X12_405 dX12_asksMore_166 (gs_500 hL) (by decide) rfl ?_
      refine GA.iload_n dX12_asksMore_169 rfl ?_
      obtain ⟨x12, hx13, H⟩ := gv_e H
      refine GV.iald hg7 hx13 dX12_asksMore_170 (gs_542 hL) (by decide) ?_
      obtain ⟨hg14, H⟩ := gg_e H
      obtain ⟨x15, S_16, hc17, H⟩ := gc_e H
      refine GA.callV (m_X12_asksOf hL hc17) xs_X12_820 dX12_asksMore_171 (gs_500 hL) (by decide) rfl rfl (by omega) (by decide) rfl (Nat.le_of_ble_eq_true rfl) (by omega) (by omega) rfl (fun E S9 hx => hx.elim) (fun v S9 hq => ?_)
      obtain ⟨rfl, rfl⟩ := hq
      refine GA.iconst dX12_asksMore_174 ?_
      cases H
      exact GV.zret (by decide) rfl dX12_asksMore_175 (by omega) (by omega) ⟨rfl, rfl⟩
set_option maxHeartbeats 4000000 in
set_option maxRecDepth 20000 in
theorem t_X12_asksMore_176 {l : Launch} {Z : XZ} {L : Nat → Nat} (n : Nat) (ih_X12_asksMore_0 : P_X12_asksMore_0 l Z L n) (ih_X12_asksMore_14 : P_X12_asksMore_14 l Z L n) (ih_X12_asksMore_64 : P_X12_asksMore_64 l Z L n) (ih_X12_asksMore_120 : P_X12_asksMore_120 l Z L n) (ih_X12_asksMore_135 : P_X12_asksMore_135 l Z L n) (ih_X12_asksMore_176 : P_X12_asksMore_176 l Z L n) (ih_X12_asksMore_204 : P_X12_asksMore_204 l Z L n) (ih_X12_asksMore_242 : P_X12_asksMore_242 l Z L n) (ih_X12_asksMore_269 : P_X12_asksMore_269 l Z L n) : P_X12_asksMore_176 l Z L (n + 1) := by
  intro hL d S a1 a2 a3 x S1 H
  have H : b_X12_asksMore_176 n d (f_X12_asksMore n) S a1 a2 a3 = some (x, S1) := H
  unfold b_X12_asksMore_176 at H
  refine GA.iload_n dX12_asksMore_176 rfl ?_
  refine GA.iconst dX12_asksMore_177 ?_
  obtain ⟨hg1, H⟩ := gg_e H
  refine GV.icmp_eq (tgt := 204) hg1 (by decide) dX12_asksMore_178 (by decide) (fun c2 => ?_) (fun c2 => ?_)
  · have H := it_t H c2
    refine GA.locals [(0, .ref (L 500)), (1, .int (J a1)), (2, .int (J a2)), (3, .int (J a3))] ⟨rfl, rfl, rfl, rfl, trivial⟩ ?_
    exact ih_X12_asksMore_204 hL _ _ (a1) (a2) (a3) _ _ H
  · have H := it_f H c2
    refine GA.iload_n dX12_asksMore_181 rfl ?_
    refine GA.bipush dX12_asksMore_182 rfl ?_
    obtain ⟨hg3, H⟩ := gg_e H
    refine GV.icmp_ne (tgt := 204) hg3 (by decide) dX12_asksMore_184 (by decide) (fun c4 => ?_) (fun c4 => ?_)
    · have H := it_t H c4
      refine GA.locals [(0, .ref (L 500)), (1, .int (J a1)), (2, .int (J a2)), (3, .int (J a3))] ⟨rfl, rfl, rfl, rfl, trivial⟩ ?_
      exact ih_X12_asksMore_204 hL _ _ (a1) (a2) (a3) _ _ H
    · have H := it_f H c4
      refine GA.aload_n dX12_asksMore_187 rfl ?_
      refine GA.iload_n dX12_asksMore_188 rfl ?_
      refine GA.iload_n dX12_asksMore_189 rfl ?_
      refine GA.aload_n dX12_asksMore_190 rfl ?_
      refine GA.get xf_X12_405 dX12_asksMore_191 (gs_500 hL) (by decide) rfl ?_
      refine GA.iload_n dX12_asksMore_194 rfl ?_
      obtain ⟨hg5, H⟩ := gg_e H
      obtain ⟨x6, hx7, H⟩ := gv_e H
      refine GV.iald hg5 hx7 dX12_asksMore_195 (gs_542 hL) (by decide) ?_
      obtain ⟨hg8, H⟩ := gg_e H
      obtain ⟨x9, S_10, hc11, H⟩ := gc_e H
      refine GA.callV (m_X12_asksRef hL hc11) xs_X12_836 dX12_asksMore_196 (gs_500 hL) (by decide) rfl rfl (by omega) (by decide) rfl (Nat.le_of_ble_eq_true rfl) (by omega) (by omega) rfl (fun E S9 hx => hx.elim) (fun v S9 hq => ?_)
      obtain ⟨rfl, rfl⟩ := hq
      obtain ⟨hg12, H⟩ := gg_e H
      refine GV.if_eq (tgt := 269) hg12 dX12_asksMore_199 (by decide) (fun c13 => ?_) (fun c13 => ?_)
      · have H := it_t H c13
        refine GA.locals [(0, .ref (L 500)), (1, .int (J a1))] ⟨rfl, rfl, trivial⟩ ?_
        exact ih_X12_asksMore_269 hL _ _ (a1) _ _ H
      · have H := it_f H c13
        refine GA.iconst dX12_asksMore_202 ?_
        cases H
        exact GV.zret (by decide) rfl dX12_asksMore_203 (by omega) (by omega) ⟨rfl, rfl⟩
set_option maxHeartbeats 4000000 in
set_option maxRecDepth 20000 in
theorem t_X12_asksMore_204 {l : Launch} {Z : XZ} {L : Nat → Nat} (n : Nat) (ih_X12_asksMore_0 : P_X12_asksMore_0 l Z L n) (ih_X12_asksMore_14 : P_X12_asksMore_14 l Z L n) (ih_X12_asksMore_64 : P_X12_asksMore_64 l Z L n) (ih_X12_asksMore_120 : P_X12_asksMore_120 l Z L n) (ih_X12_asksMore_135 : P_X12_asksMore_135 l Z L n) (ih_X12_asksMore_176 : P_X12_asksMore_176 l Z L n) (ih_X12_asksMore_204 : P_X12_asksMore_204 l Z L n) (ih_X12_asksMore_242 : P_X12_asksMore_242 l Z L n) (ih_X12_asksMore_269 : P_X12_asksMore_269 l Z L n) : P_X12_asksMore_204 l Z L (n + 1) := by
  intro hL d S a1 a2 a3 x S1 H
  have H : b_X12_asksMore_204 n d (f_X12_asksMore n) S a1 a2 a3 = some (x, S1) := H
  unfold b_X12_asksMore_204 at H
  refine GA.iload_n dX12_asksMore_204 rfl ?_
  refine GA.iconst dX12_asksMore_205 ?_
  obtain ⟨hg1, H⟩ := gg_e H
  refine GV.icmp_eq (tgt := 269) hg1 (by decide) dX12_asksMore_206 (by decide) (fun c2 => ?_) (fun c2 => ?_)
  · have H := it_t H c2
    refine GA.locals [(0, .ref (L 500)), (1, .int (J a1))] ⟨rfl, rfl, trivial⟩ ?_
    exact ih_X12_asksMore_269 hL _ _ (a1) _ _ H
  · have H := it_f H c2
    refine GA.aload_n dX12_asksMore_209 rfl ?_
    refine GA.iload_n dX12_asksMore_210 rfl ?_
    refine GA.iload_n dX12_asksMore_211 rfl ?_
    refine GA.iload_n dX12_asksMore_212 rfl ?_
    refine GA.aload_n dX12_asksMore_213 rfl ?_
    refine GA.get xf_X12_405 dX12_asksMore_214 (gs_500 hL) (by decide) rfl ?_
    refine GA.iload_n dX12_asksMore_217 rfl ?_
    obtain ⟨hg3, H⟩ := gg_e H
    obtain ⟨x4, hx5, H⟩ := gv_e H
    refine GV.iald hg3 hx5 dX12_asksMore_218 (gs_542 hL) (by decide) ?_
    obtain ⟨hg6, H⟩ := gg_e H
    obtain ⟨x7, S_8, hc9, H⟩ := gc_e H
    refine GA.callV (m_X12_asksNext hL hc9) xs_X12_839 dX12_asksMore_219 (gs_500 hL) (by decide) rfl rfl (by omega) (by decide) rfl (Nat.le_of_ble_eq_true rfl) (by omega) (by omega) rfl (fun E S9 hx => hx.elim) (fun v S9 hq => ?_)
    obtain ⟨rfl, rfl⟩ := hq
    obtain ⟨hg10, H⟩ := gg_e H
    refine GV.if_eq (tgt := 227) hg10 dX12_asksMore_222 (by decide) (fun c11 => ?_) (fun c11 => ?_)
    · have H := it_t H c11
      refine GA.iload_n dX12_asksMore_227 rfl ?_
      refine GA.bipush dX12_asksMore_228 rfl ?_
      obtain ⟨hg12, H⟩ := gg_e H
      refine GV.icmp_ne (tgt := 242) hg12 (by decide) dX12_asksMore_230 (by decide) (fun c13 => ?_) (fun c13 => ?_)
      · have H := it_t H c13
        refine GA.locals [(0, .ref (L 500)), (1, .int (J a1)), (2, .int (J a2))] ⟨rfl, rfl, rfl, trivial⟩ ?_
        exact ih_X12_asksMore_242 hL _ _ (a1) (a2) _ _ H
      · have H := it_f H c13
        refine GA.aload_n dX12_asksMore_233 rfl ?_
        refine GA.get xf_X12_420 dX12_asksMore_234 (gs_500 hL) (by decide) rfl ?_
        refine GA.iload_n dX12_asksMore_237 rfl ?_
        obtain ⟨x14, hx15, H⟩ := gv_e H
        refine GV.iald hg3 hx15 dX12_asksMore_238 (gs_547 hL) (by decide) ?_
        obtain ⟨hg16, H⟩ := gg_e H
        refine GV.if_eq (tgt := 258) hg16 dX12_asksMore_239 (by decide) (fun c17 => ?_) (fun c17 => ?_)
        · have H := it_t H c17
          refine GA.aload_n dX12_asksMore_258 rfl ?_
          refine GA.aload_n dX12_asksMore_259 rfl ?_
          refine GA.get xf_X12_405 dX12_asksMore_260 (gs_500 hL) (by decide) rfl ?_
          refine GA.iload_n dX12_asksMore_263 rfl ?_
          obtain ⟨x18, hx19, H⟩ := gv_e H
          refine GV.iald hg3 hx19 dX12_asksMore_264 (gs_542 hL) (by decide) ?_
          refine GA.iload_n dX12_asksMore_265 rfl ?_
          obtain ⟨x20, S_21, hc22, H⟩ := gc_e H
          refine GA.callV (m_X12_complains hL hc22) xs_X12_817 dX12_asksMore_266 (gs_500 hL) (by decide) rfl rfl (by omega) (by decide) rfl (Nat.le_of_ble_eq_true rfl) (by omega) (by omega) rfl (fun E S9 hx => hx.elim) (fun v S9 hq => ?_)
          obtain ⟨rfl, rfl⟩ := hq
          refine GA.locals [(0, .ref (L 500)), (1, .int (J a1))] ⟨rfl, rfl, trivial⟩ ?_
          exact ih_X12_asksMore_269 hL _ _ (a1) _ _ H
        · have H := it_f H c17
          refine GA.locals [(0, .ref (L 500)), (1, .int (J a1)), (2, .int (J a2))] ⟨rfl, rfl, rfl, trivial⟩ ?_
          exact ih_X12_asksMore_242 hL _ _ (a1) (a2) _ _ H
    · have H := it_f H c11
      refine GA.iconst dX12_asksMore_225 ?_
      cases H
      exact GV.zret (by decide) rfl dX12_asksMore_226 (by omega) (by omega) ⟨rfl, rfl⟩
set_option maxHeartbeats 4000000 in
set_option maxRecDepth 20000 in
theorem t_X12_asksMore_242 {l : Launch} {Z : XZ} {L : Nat → Nat} (n : Nat) (ih_X12_asksMore_0 : P_X12_asksMore_0 l Z L n) (ih_X12_asksMore_14 : P_X12_asksMore_14 l Z L n) (ih_X12_asksMore_64 : P_X12_asksMore_64 l Z L n) (ih_X12_asksMore_120 : P_X12_asksMore_120 l Z L n) (ih_X12_asksMore_135 : P_X12_asksMore_135 l Z L n) (ih_X12_asksMore_176 : P_X12_asksMore_176 l Z L n) (ih_X12_asksMore_204 : P_X12_asksMore_204 l Z L n) (ih_X12_asksMore_242 : P_X12_asksMore_242 l Z L n) (ih_X12_asksMore_269 : P_X12_asksMore_269 l Z L n) : P_X12_asksMore_242 l Z L (n + 1) := by
  intro hL d S a1 a2 x S1 H
  have H : b_X12_asksMore_242 n d (f_X12_asksMore n) S a1 a2 = some (x, S1) := H
  unfold b_X12_asksMore_242 at H
  refine GA.iload_n dX12_asksMore_242 rfl ?_
  refine GA.bipush dX12_asksMore_243 rfl ?_
  obtain ⟨hg1, H⟩ := gg_e H
  refine GV.icmp_ne (tgt := 269) hg1 (by decide) dX12_asksMore_245 (by decide) (fun c2 => ?_) (fun c2 => ?_)
  · have H := it_t H c2
    refine GA.locals [(0, .ref (L 500)), (1, .int (J a1))] ⟨rfl, rfl, trivial⟩ ?_
    exact ih_X12_asksMore_269 hL _ _ (a1) _ _ H
  · have H := it_f H c2
    refine GA.aload_n dX12_asksMore_248 rfl ?_
    refine GA.get xf_X12_420 dX12_asksMore_249 (gs_500 hL) (by decide) rfl ?_
    refine GA.iload_n dX12_asksMore_252 rfl ?_
    obtain ⟨hg3, H⟩ := gg_e H
    obtain ⟨x4, hx5, H⟩ := gv_e H
    refine GV.iald hg3 hx5 dX12_asksMore_253 (gs_547 hL) (by decide) ?_
    refine GA.iconst dX12_asksMore_254 ?_
    obtain ⟨hg6, H⟩ := gg_e H
    refine GV.icmp_eq (tgt := 269) hg6 (by decide) dX12_asksMore_255 (by decide) (fun c7 => ?_) (fun c7 => ?_)
    · have H := it_t H c7
      refine GA.locals [(0, .ref (L 500)), (1, .int (J a1))] ⟨rfl, rfl, trivial⟩ ?_
      exact ih_X12_asksMore_269 hL _ _ (a1) _ _ H
    · have H := it_f H c7
      refine GA.aload_n dX12_asksMore_258 rfl ?_
      refine GA.aload_n dX12_asksMore_259 rfl ?_
      refine GA.get xf_X12_405 dX12_asksMore_260 (gs_500 hL) (by decide) rfl ?_
      refine GA.iload_n dX12_asksMore_263 rfl ?_
      obtain ⟨x8, hx9, H⟩ := gv_e H
      refine GV.iald hg3 hx9 dX12_asksMore_264 (gs_542 hL) (by decide) ?_
      refine GA.iload_n dX12_asksMore_265 rfl ?_
      obtain ⟨hg10, H⟩ := gg_e H
      obtain ⟨x11, S_12, hc13, H⟩ := gc_e H
      refine GA.callV (m_X12_complains hL hc13) xs_X12_817 dX12_asksMore_266 (gs_500 hL) (by decide) rfl rfl (by omega) (by decide) rfl (Nat.le_of_ble_eq_true rfl) (by omega) (by omega) rfl (fun E S9 hx => hx.elim) (fun v S9 hq => ?_)
      obtain ⟨rfl, rfl⟩ := hq
      refine GA.locals [(0, .ref (L 500)), (1, .int (J a1))] ⟨rfl, rfl, trivial⟩ ?_
      exact ih_X12_asksMore_269 hL _ _ (a1) _ _ H
set_option maxHeartbeats 4000000 in
set_option maxRecDepth 20000 in
theorem t_X12_asksMore_269 {l : Launch} {Z : XZ} {L : Nat → Nat} (n : Nat) (ih_X12_asksMore_0 : P_X12_asksMore_0 l Z L n) (ih_X12_asksMore_14 : P_X12_asksMore_14 l Z L n) (ih_X12_asksMore_64 : P_X12_asksMore_64 l Z L n) (ih_X12_asksMore_120 : P_X12_asksMore_120 l Z L n) (ih_X12_asksMore_135 : P_X12_asksMore_135 l Z L n) (ih_X12_asksMore_176 : P_X12_asksMore_176 l Z L n) (ih_X12_asksMore_204 : P_X12_asksMore_204 l Z L n) (ih_X12_asksMore_242 : P_X12_asksMore_242 l Z L n) (ih_X12_asksMore_269 : P_X12_asksMore_269 l Z L n) : P_X12_asksMore_269 l Z L (n + 1) := by
  intro hL d S a1 x S1 H
  have H : b_X12_asksMore_269 n d (f_X12_asksMore n) S a1 = some (x, S1) := H
  unfold b_X12_asksMore_269 at H
  refine GA.aload_n dX12_asksMore_269 rfl ?_
  refine GA.get xf_X12_408 dX12_asksMore_270 (gs_500 hL) (by decide) rfl ?_
  refine GA.iload_n dX12_asksMore_273 rfl ?_
  refine GA.dup2 dX12_asksMore_274 rfl rfl ?_
  obtain ⟨hg1, H⟩ := gg_e H
  obtain ⟨x2, hx3, H⟩ := gv_e H
  refine GV.iald hg1 hx3 dX12_asksMore_275 (gs_543 hL) (by decide) ?_
  refine GA.iconst dX12_asksMore_276 ?_
  obtain ⟨x4, hx5, H⟩ := gv_e H
  refine GV.iadd hx5 dX12_asksMore_277 ?_
  obtain ⟨S_6, hx7, H⟩ := gv_e H
  refine GV.iast hg1 hx7 dX12_asksMore_278 (fun _ => (gs_543 hL)) (by decide) ?_
  refine GA.aload_n dX12_asksMore_279 rfl ?_
  refine GA.get xf_X12_411 dX12_asksMore_280 (gs_500 hL) (by decide) rfl ?_
  refine GA.iload_n dX12_asksMore_283 rfl ?_
  refine GA.iconst dX12_asksMore_284 ?_
  obtain ⟨S_8, hx9, H⟩ := gv_e H
  refine GV.iast hg1 hx9 dX12_asksMore_285 (fun _ => (gs_544 hL)) (by decide) ?_
  refine GA.aload_n dX12_asksMore_286 rfl ?_
  refine GA.get xf_X12_420 dX12_asksMore_287 (gs_500 hL) (by decide) rfl ?_
  refine GA.iload_n dX12_asksMore_290 rfl ?_
  refine GA.iconst dX12_asksMore_291 ?_
  obtain ⟨S_10, hx11, H⟩ := gv_e H
  refine GV.iast hg1 hx11 dX12_asksMore_292 (fun _ => (gs_547 hL)) (by decide) ?_
  refine GA.goto (tgt := 64) dX12_asksMore_293 (by decide) ?_
  refine GA.locals [(0, .ref (L 500)), (1, .int (J a1))] ⟨rfl, rfl, trivial⟩ ?_
  exact ih_X12_asksMore_64 hL _ _ (a1) _ _ H
theorem g_X12_asksMore {l : Launch} {Z : XZ} {L : Nat → Nat} : ∀ n, P_X12_asksMore_0 l Z L n ∧ P_X12_asksMore_14 l Z L n ∧ P_X12_asksMore_64 l Z L n ∧ P_X12_asksMore_120 l Z L n ∧ P_X12_asksMore_135 l Z L n ∧ P_X12_asksMore_176 l Z L n ∧ P_X12_asksMore_204 l Z L n ∧ P_X12_asksMore_242 l Z L n ∧ P_X12_asksMore_269 l Z L n
  | 0 => ⟨fun _ _ _ _ _ _ H => no_e H, fun _ _ _ _ _ _ H => no_e H, fun _ _ _ _ _ _ H => no_e H, fun _ _ _ _ _ _ _ _ H => no_e H, fun _ _ _ _ _ _ _ _ H => no_e H, fun _ _ _ _ _ _ _ _ H => no_e H, fun _ _ _ _ _ _ _ _ H => no_e H, fun _ _ _ _ _ _ _ H => no_e H, fun _ _ _ _ _ _ H => no_e H⟩
  | n + 1 => have ⟨h0, h1, h2, h3, h4, h5, h6, h7, h8⟩ := g_X12_asksMore (l := l) (Z := Z) (L := L) n
    ⟨t_X12_asksMore_0 n h0 h1 h2 h3 h4 h5 h6 h7 h8, t_X12_asksMore_14 n h0 h1 h2 h3 h4 h5 h6 h7 h8, t_X12_asksMore_64 n h0 h1 h2 h3 h4 h5 h6 h7 h8, t_X12_asksMore_120 n h0 h1 h2 h3 h4 h5 h6 h7 h8, t_X12_asksMore_135 n h0 h1 h2 h3 h4 h5 h6 h7 h8, t_X12_asksMore_176 n h0 h1 h2 h3 h4 h5 h6 h7 h8, t_X12_asksMore_204 n h0 h1 h2 h3 h4 h5 h6 h7 h8, t_X12_asksMore_242 n h0 h1 h2 h3 h4 h5 h6 h7 h8, t_X12_asksMore_269 n h0 h1 h2 h3 h4 h5 h6 h7 h8⟩
theorem m_X12_asksMore {l : Launch} {Z : XZ} {L : Nat → Nat} (hL : L 700 = 1) {n d : Nat} {S : GS} {a1 : Int} {x : Int} {S1 : GS} (H : f_X12_asksMore n d 0 S [a1] = some (x, S1)) : GM l Z L yX12_asksMore cX12_asksMore 4 (some .boolean) [] d 0 0 [.ref (L 500), .int (J a1)] S (fun v S' => v = some (.int (J x)) ∧ S1 = S') (fun _ _ => False) := GM.of (by decide) (Nat.le_of_ble_eq_true rfl) ((g_X12_asksMore n).1 hL _ _ _ _ _ H)

def P_X12_asksWhole_0 (l : Launch) (Z : XZ) (L : Nat → Nat) (n : Nat) : Prop := ∀ (hL : L 700 = 1), ∀ (d : Nat) (S : GS) (a1 : Int) (a2 : Int) (a3 : Int) (x : Int) (S1 : GS), f_X12_asksWhole n d 0 S [a1, a2, a3] = some (x, S1) → GA l Z L yX12_asksWhole cX12_asksWhole 4 none [] d 0 0 (fun v S' => v = none ∧ S1 = S') (fun _ _ => False) 0 (gl [(0, .ref (L 500)), (1, .int (J a1)), (2, .int (J a2)), (3, .int (J a3))]) [] S 0 0
def P_X12_asksWhole_36 (l : Launch) (Z : XZ) (L : Nat → Nat) (n : Nat) : Prop := ∀ (hL : L 700 = 1), ∀ (d : Nat) (S : GS) (a3 : Int) (x : Int) (S1 : GS), f_X12_asksWhole n d 36 S [a3] = some (x, S1) → GA l Z L yX12_asksWhole cX12_asksWhole 4 none [] d 0 0 (fun v S' => v = none ∧ S1 = S') (fun _ _ => False) 36 (gl [(0, .ref (L 500)), (3, .int (J a3))]) [] S 0 0
def P_X12_asksWhole_102 (l : Launch) (Z : XZ) (L : Nat → Nat) (n : Nat) : Prop := ∀ (hL : L 700 = 1), ∀ (d : Nat) (S : GS) (a3 : Int) (x : Int) (S1 : GS), f_X12_asksWhole n d 102 S [a3] = some (x, S1) → GA l Z L yX12_asksWhole cX12_asksWhole 4 none [] d 0 0 (fun v S' => v = none ∧ S1 = S') (fun _ _ => False) 102 (gl [(0, .ref (L 500)), (3, .int (J a3))]) [] S 0 0
theorem i_X12_asksWhole {l : Launch} {Z : XZ} {L : Nat → Nat} (hL : L 700 = 1) {n : Nat} (ih : P_X12_asksWhole_0 l Z L n) {d : Nat} {S : GS} {a1 : Int} {a2 : Int} {a3 : Int} {x : Int} {S1 : GS} (H : f_X12_asksWhole n d 0 S [a1, a2, a3] = some (x, S1)) : GM l Z L yX12_asksWhole cX12_asksWhole 4 none [] d 0 0 [.ref (L 500), .int (J a1), .int (J a2), .int (J a3)] S (fun v S' => v = none ∧ S1 = S') (fun _ _ => False) := GM.of (by decide) (Nat.le_of_ble_eq_true rfl) (ih hL _ _ _ _ _ _ _ H)
set_option maxHeartbeats 4000000 in
set_option maxRecDepth 20000 in
theorem t_X12_asksWhole_0 {l : Launch} {Z : XZ} {L : Nat → Nat} (n : Nat) (ih_X12_asksWhole_0 : P_X12_asksWhole_0 l Z L n) (ih_X12_asksWhole_36 : P_X12_asksWhole_36 l Z L n) (ih_X12_asksWhole_102 : P_X12_asksWhole_102 l Z L n) : P_X12_asksWhole_0 l Z L (n + 1) := by
  intro hL d S a1 a2 a3 x S1 H
  have H : b_X12_asksWhole_0 n d (f_X12_asksWhole n) S a1 a2 a3 = some (x, S1) := H
  unfold b_X12_asksWhole_0 at H
  refine GA.aload_n dX12_asksWhole_0 rfl ?_
  refine GA.iload_n dX12_asksWhole_1 rfl ?_
  obtain ⟨S_1, hx2, H⟩ := gv_e H
  refine GV.putI hx2 (xp_X12_802 _) dX12_asksWhole_2 (gs_500 hL) (by decide) (Nat.le_of_ble_eq_true rfl) (gs_500 hL) ?_
  refine GA.aload_n dX12_asksWhole_5 rfl ?_
  refine GA.iload_n dX12_asksWhole_6 rfl ?_
  obtain ⟨S_3, hx4, H⟩ := gv_e H
  refine GV.putI hx4 (xp_X12_805 _) dX12_asksWhole_7 (gs_500 hL) (by decide) (Nat.le_of_ble_eq_true rfl) (gs_500 hL) ?_
  refine GA.aload_n dX12_asksWhole_10 rfl ?_
  refine GA.iconst dX12_asksWhole_11 ?_
  obtain ⟨S_5, hx6, H⟩ := gv_e H
  refine GV.putI hx6 (xp_X12_796 _) dX12_asksWhole_12 (gs_500 hL) (by decide) (Nat.le_of_ble_eq_true rfl) (gs_500 hL) ?_
  refine GA.aload_n dX12_asksWhole_15 rfl ?_
  refine GA.iconst dX12_asksWhole_16 ?_
  obtain ⟨S_7, hx8, H⟩ := gv_e H
  refine GV.putI hx8 (xp_X12_799 _) dX12_asksWhole_17 (gs_500 hL) (by decide) (Nat.le_of_ble_eq_true rfl) (gs_500 hL) ?_
  refine GA.aload_n dX12_asksWhole_20 rfl ?_
  refine GA.iconst dX12_asksWhole_21 ?_
  obtain ⟨S_9, hx10, H⟩ := gv_e H
  refine GV.putI hx10 (xp_X12_825 _) dX12_asksWhole_22 (gs_500 hL) (by decide) (Nat.le_of_ble_eq_true rfl) (gs_500 hL) ?_
  refine GA.aload_n dX12_asksWhole_25 rfl ?_
  refine GA.iconst dX12_asksWhole_26 ?_
  obtain ⟨S_11, hx12, H⟩ := gv_e H
  refine GV.putI hx12 (xp_X12_793 _) dX12_asksWhole_27 (gs_500 hL) (by decide) (Nat.le_of_ble_eq_true rfl) (gs_500 hL) ?_
  refine GA.aload_n dX12_asksWhole_30 rfl ?_
  refine GA.iconst dX12_asksWhole_31 ?_
  refine GA.iconst dX12_asksWhole_32 ?_
  obtain ⟨hg13, H⟩ := gg_e H
  obtain ⟨x14, S_15, hc16, H⟩ := gc_e H
  refine GA.callV (m_X12_asksOf hL hc16) xs_X12_820 dX12_asksWhole_33 (gs_500 hL) (by decide) rfl rfl (by omega) (by decide) rfl (Nat.le_of_ble_eq_true rfl) (by omega) (by omega) rfl (fun E S9 hx => hx.elim) (fun v S9 hq => ?_)
  obtain ⟨rfl, rfl⟩ := hq
  refine GA.locals [(0, .ref (L 500)), (3, .int (J a3))] ⟨rfl, rfl, trivial⟩ ?_
  exact ih_X12_asksWhole_36 hL _ _ (a3) _ _ H
set_option maxHeartbeats 4000000 in
set_option maxRecDepth 20000 in
theorem t_X12_asksWhole_36 {l : Launch} {Z : XZ} {L : Nat → Nat} (n : Nat) (ih_X12_asksWhole_0 : P_X12_asksWhole_0 l Z L n) (ih_X12_asksWhole_36 : P_X12_asksWhole_36 l Z L n) (ih_X12_asksWhole_102 : P_X12_asksWhole_102 l Z L n) : P_X12_asksWhole_36 l Z L (n + 1) := by
  intro hL d S a3 x S1 H
  have H : b_X12_asksWhole_36 n d (f_X12_asksWhole n) S a3 = some (x, S1) := H
  unfold b_X12_asksWhole_36 at H
  refine GA.aload_n dX12_asksWhole_36 rfl ?_
  obtain ⟨x1, hx2, H⟩ := gv_e H
  refine GV.getI hx2 xf_X12_799 dX12_asksWhole_37 (gs_500 hL) (by decide) rfl ?_
  obtain ⟨hg3, H⟩ := gg_e H
  refine GV.if_le (tgt := 102) hg3 dX12_asksWhole_40 (by decide) (fun c4 => ?_) (fun c4 => ?_)
  · have H := it_t H c4
    refine GA.locals [(0, .ref (L 500)), (3, .int (J a3))] ⟨rfl, rfl, trivial⟩ ?_
    exact ih_X12_asksWhole_102 hL _ _ (a3) _ _ H
  · have H := it_f H c4
    refine GA.aload_n dX12_asksWhole_43 rfl ?_
    obtain ⟨x5, hx6, H⟩ := gv_e H
    refine GV.getI hx6 xf_X12_796 dX12_asksWhole_44 (gs_500 hL) (by decide) rfl ?_
    refine GA.iload_n dX12_asksWhole_47 rfl ?_
    obtain ⟨hg7, H⟩ := gg_e H
    obtain ⟨hg8, H⟩ := gg_e H
    refine GV.icmp_gt (tgt := 102) hg7 hg8 dX12_asksWhole_48 (by decide) (fun c9 => ?_) (fun c9 => ?_)
    · have H := it_t H c9
      refine GA.locals [(0, .ref (L 500)), (3, .int (J a3))] ⟨rfl, rfl, trivial⟩ ?_
      exact ih_X12_asksWhole_102 hL _ _ (a3) _ _ H
    · have H := it_f H c9
      refine GA.aload_n dX12_asksWhole_51 rfl ?_
      refine GA.aload_n dX12_asksWhole_52 rfl ?_
      obtain ⟨x10, hx11, H⟩ := gv_e H
      refine GV.getI hx11 xf_X12_799 dX12_asksWhole_53 (gs_500 hL) (by decide) rfl ?_
      refine GA.iconst dX12_asksWhole_56 ?_
      obtain ⟨x12, hx13, H⟩ := gv_e H
      refine GV.isub hx13 dX12_asksWhole_57 ?_
      obtain ⟨hg14, H⟩ := gg_e H
      obtain ⟨x15, S_16, hc17, H⟩ := gc_e H
      refine GA.callV (m_X12_asksMore hL hc17) xs_X12_842 dX12_asksWhole_58 (gs_500 hL) (by decide) rfl rfl (by omega) (by decide) rfl (Nat.le_of_ble_eq_true rfl) (by omega) (by omega) rfl (fun E S9 hx => hx.elim) (fun v S9 hq => ?_)
      obtain ⟨rfl, rfl⟩ := hq
      obtain ⟨hg18, H⟩ := gg_e H
      refine GV.if_ne (tgt := 36) hg18 dX12_asksWhole_61 (by decide) (fun c19 => ?_) (fun c19 => ?_)
      · have H := it_t H c19
        refine GA.locals [(0, .ref (L 500)), (3, .int (J a3))] ⟨rfl, rfl, trivial⟩ ?_
        exact ih_X12_asksWhole_36 hL _ _ (a3) _ _ H
      · have H := it_f H c19
        refine GA.aload_n dX12_asksWhole_64 rfl ?_
        refine GA.dup dX12_asksWhole_65 rfl ?_
        obtain ⟨x20, hx21, H⟩ := gv_e H
        refine GV.getI hx21 xf_X12_799 dX12_asksWhole_66 (gs_500 hL) (by decide) rfl ?_
        refine GA.iconst dX12_asksWhole_69 ?_
        obtain ⟨x22, hx23, H⟩ := gv_e H
        refine GV.isub hx23 dX12_asksWhole_70 ?_
        obtain ⟨S_24, hx25, H⟩ := gv_e H
        refine GV.putI hx25 (xp_X12_799 _) dX12_asksWhole_71 (gs_500 hL) (by decide) (Nat.le_of_ble_eq_true rfl) (gs_500 hL) ?_
        refine GA.aload_n dX12_asksWhole_74 rfl ?_
        refine GA.aload_n dX12_asksWhole_75 rfl ?_
        obtain ⟨x26, hx27, H⟩ := gv_e H
        refine GV.getI hx27 xf_X12_793 dX12_asksWhole_76 (gs_500 hL) (by decide) rfl ?_
        refine GA.aload_n dX12_asksWhole_79 rfl ?_
        refine GA.get xf_X12_414 dX12_asksWhole_80 (gs_500 hL) (by decide) rfl ?_
        refine GA.aload_n dX12_asksWhole_83 rfl ?_
        obtain ⟨x28, hx29, H⟩ := gv_e H
        refine GV.getI hx29 xf_X12_799 dX12_asksWhole_84 (gs_500 hL) (by decide) rfl ?_
        obtain ⟨hg30, H⟩ := gg_e H
        obtain ⟨x31, hx32, H⟩ := gv_e H
        refine GV.iald hg30 hx32 dX12_asksWhole_87 (gs_545 hL) (by decide) ?_
        obtain ⟨hg33, H⟩ := gg_e H
        obtain ⟨hg34, H⟩ := gg_e H
        refine GV.icmp_ne (tgt := 95) hg33 hg34 dX12_asksWhole_88 (by decide) (fun c35 => ?_) (fun c35 => ?_)
        · have H := it_t H c35
          refine GA.iconst dX12_asksWhole_95 ?_
          obtain ⟨S_36, hx37, H⟩ := gv_e H
          refine GV.putB (by decide) hx37 (xp_X12_828 (xb_01 _)) dX12_asksWhole_96 (gs_500 hL) (by decide) (Nat.le_of_ble_eq_true rfl) (gs_500 hL) ?_
          refine GA.goto (tgt := 36) dX12_asksWhole_99 (by decide) ?_
          refine GA.locals [(0, .ref (L 500)), (3, .int (J a3))] ⟨rfl, rfl, trivial⟩ ?_
          exact ih_X12_asksWhole_36 hL _ _ (a3) _ _ H
        · have H := it_f H c35
          refine GA.iconst dX12_asksWhole_91 ?_
          refine GA.goto (tgt := 96) dX12_asksWhole_92 (by decide) ?_
          obtain ⟨S_38, hx39, H⟩ := gv_e H
          refine GV.putB (by decide) hx39 (xp_X12_828 (xb_01 _)) dX12_asksWhole_96 (gs_500 hL) (by decide) (Nat.le_of_ble_eq_true rfl) (gs_500 hL) ?_
          refine GA.goto (tgt := 36) dX12_asksWhole_99 (by decide) ?_
          refine GA.locals [(0, .ref (L 500)), (3, .int (J a3))] ⟨rfl, rfl, trivial⟩ ?_
          exact ih_X12_asksWhole_36 hL _ _ (a3) _ _ H
set_option maxHeartbeats 4000000 in
set_option maxRecDepth 20000 in
theorem t_X12_asksWhole_102 {l : Launch} {Z : XZ} {L : Nat → Nat} (n : Nat) (ih_X12_asksWhole_0 : P_X12_asksWhole_0 l Z L n) (ih_X12_asksWhole_36 : P_X12_asksWhole_36 l Z L n) (ih_X12_asksWhole_102 : P_X12_asksWhole_102 l Z L n) : P_X12_asksWhole_102 l Z L (n + 1) := by
  intro hL d S a3 x S1 H
  have H : b_X12_asksWhole_102 n d (f_X12_asksWhole n) S a3 = some (x, S1) := H
  unfold b_X12_asksWhole_102 at H
  refine GA.aload_n dX12_asksWhole_102 rfl ?_
  refine GA.aload_n dX12_asksWhole_103 rfl ?_
  obtain ⟨x1, hx2, H⟩ := gv_e H
  refine GV.getI hx2 xf_X12_796 dX12_asksWhole_104 (gs_500 hL) (by decide) rfl ?_
  refine GA.iload_n dX12_asksWhole_107 rfl ?_
  obtain ⟨hg3, H⟩ := gg_e H
  obtain ⟨hg4, H⟩ := gg_e H
  refine GV.icmp_le (tgt := 115) hg3 hg4 dX12_asksWhole_108 (by decide) (fun c5 => ?_) (fun c5 => ?_)
  · have H := it_t H c5
    refine GA.iconst dX12_asksWhole_115 ?_
    obtain ⟨S_6, hx7, H⟩ := gv_e H
    refine GV.putB (by decide) hx7 (xp_X12_845 (xb_01 _)) dX12_asksWhole_116 (gs_500 hL) (by decide) (Nat.le_of_ble_eq_true rfl) (gs_500 hL) ?_
    cases H
    exact GA.vret rfl dX12_asksWhole_119 (by omega) (by omega) ⟨rfl, rfl⟩
  · have H := it_f H c5
    refine GA.iconst dX12_asksWhole_111 ?_
    refine GA.goto (tgt := 116) dX12_asksWhole_112 (by decide) ?_
    obtain ⟨S_8, hx9, H⟩ := gv_e H
    refine GV.putB (by decide) hx9 (xp_X12_845 (xb_01 _)) dX12_asksWhole_116 (gs_500 hL) (by decide) (Nat.le_of_ble_eq_true rfl) (gs_500 hL) ?_
    cases H
    exact GA.vret rfl dX12_asksWhole_119 (by omega) (by omega) ⟨rfl, rfl⟩
theorem g_X12_asksWhole {l : Launch} {Z : XZ} {L : Nat → Nat} : ∀ n, P_X12_asksWhole_0 l Z L n ∧ P_X12_asksWhole_36 l Z L n ∧ P_X12_asksWhole_102 l Z L n
  | 0 => ⟨fun _ _ _ _ _ _ _ _ H => no_e H, fun _ _ _ _ _ _ H => no_e H, fun _ _ _ _ _ _ H => no_e H⟩
  | n + 1 => have ⟨h0, h1, h2⟩ := g_X12_asksWhole (l := l) (Z := Z) (L := L) n
    ⟨t_X12_asksWhole_0 n h0 h1 h2, t_X12_asksWhole_36 n h0 h1 h2, t_X12_asksWhole_102 n h0 h1 h2⟩
theorem m_X12_asksWhole {l : Launch} {Z : XZ} {L : Nat → Nat} (hL : L 700 = 1) {n d : Nat} {S : GS} {a1 : Int} {a2 : Int} {a3 : Int} {x : Int} {S1 : GS} (H : f_X12_asksWhole n d 0 S [a1, a2, a3] = some (x, S1)) : GM l Z L yX12_asksWhole cX12_asksWhole 4 none [] d 0 0 [.ref (L 500), .int (J a1), .int (J a2), .int (J a3)] S (fun v S' => v = none ∧ S1 = S') (fun _ _ => False) := GM.of (by decide) (Nat.le_of_ble_eq_true rfl) ((g_X12_asksWhole n).1 hL _ _ _ _ _ _ _ H)

def P_X12_becomes_0 (l : Launch) (Z : XZ) (L : Nat → Nat) (n : Nat) : Prop := ∀ (hL : L 700 = 1), ∀ (d : Nat) (S : GS) (a1 : Int) (a2 : Int) (x : Int) (S1 : GS), f_X12_becomes n d 0 S [a1, a2] = some (x, S1) → GA l Z L yX12_becomes cX12_becomes 4 none [] d 0 0 (fun v S' => v = none ∧ S1 = S') (fun _ _ => False) 0 (gl [(0, .ref (L 500)), (1, .int (J a1)), (2, .int (J a2))]) [] S 0 0
def P_X12_becomes_14 (l : Launch) (Z : XZ) (L : Nat → Nat) (n : Nat) : Prop := ∀ (hL : L 700 = 1), ∀ (d : Nat) (S : GS) (a1 : Int) (a2 : Int) (a3 : Int) (x : Int) (S1 : GS), f_X12_becomes n d 14 S [a1, a2, a3] = some (x, S1) → GA l Z L yX12_becomes cX12_becomes 4 none [] d 0 0 (fun v S' => v = none ∧ S1 = S') (fun _ _ => False) 14 (gl [(0, .ref (L 500)), (1, .int (J a1)), (2, .int (J a2)), (3, .int (J a3))]) [] S 0 0
theorem i_X12_becomes {l : Launch} {Z : XZ} {L : Nat → Nat} (hL : L 700 = 1) {n : Nat} (ih : P_X12_becomes_0 l Z L n) {d : Nat} {S : GS} {a1 : Int} {a2 : Int} {x : Int} {S1 : GS} (H : f_X12_becomes n d 0 S [a1, a2] = some (x, S1)) : GM l Z L yX12_becomes cX12_becomes 4 none [] d 0 0 [.ref (L 500), .int (J a1), .int (J a2)] S (fun v S' => v = none ∧ S1 = S') (fun _ _ => False) := GM.of (by decide) (Nat.le_of_ble_eq_true rfl) (ih hL _ _ _ _ _ _ H)
set_option maxHeartbeats 4000000 in
set_option maxRecDepth 20000 in
theorem t_X12_becomes_0 {l : Launch} {Z : XZ} {L : Nat → Nat} (n : Nat) (ih_X12_becomes_0 : P_X12_becomes_0 l Z L n) (ih_X12_becomes_14 : P_X12_becomes_14 l Z L n) : P_X12_becomes_0 l Z L (n + 1) := by
  intro hL d S a1 a2 x S1 H
  have H : b_X12_becomes_0 n d (f_X12_becomes n) S a1 a2 = some (x, S1) := H
  unfold b_X12_becomes_0 at H
  refine GA.aload_n dX12_becomes_0 rfl ?_
  refine GA.get xf_X12_26 dX12_becomes_1 (gs_500 hL) (by decide) rfl ?_
  refine GA.iload_n dX12_becomes_4 rfl ?_
  refine GA.aload_n dX12_becomes_5 rfl ?_
  refine GA.get xf_X12_26 dX12_becomes_6 (gs_500 hL) (by decide) rfl ?_
  refine GA.iload_n dX12_becomes_9 rfl ?_
  obtain ⟨hg1, H⟩ := gg_e H
  obtain ⟨x2, hx3, H⟩ := gv_e H
  refine GV.iald hg1 hx3 dX12_becomes_10 (gs_502 hL) (by decide) ?_
  obtain ⟨hg4, H⟩ := gg_e H
  obtain ⟨S_5, hx6, H⟩ := gv_e H
  refine GV.iast hg4 hx6 dX12_becomes_11 (fun _ => (gs_502 hL)) (by decide) ?_
  refine GA.iconst dX12_becomes_12 ?_
  refine GA.istore_n dX12_becomes_13 (by decide) ?_
  refine GA.locals [(0, .ref (L 500)), (1, .int (J a1)), (2, .int (J a2)), (3, .int (J 0))] ⟨rfl, rfl, rfl, rfl, trivial⟩ ?_
  exact ih_X12_becomes_14 hL _ _ (a1) (a2) (0) _ _ H
set_option maxHeartbeats 4000000 in
set_option maxRecDepth 20000 in
theorem t_X12_becomes_14 {l : Launch} {Z : XZ} {L : Nat → Nat} (n : Nat) (ih_X12_becomes_0 : P_X12_becomes_0 l Z L n) (ih_X12_becomes_14 : P_X12_becomes_14 l Z L n) : P_X12_becomes_14 l Z L (n + 1) := by
  intro hL d S a1 a2 a3 x S1 H
  have H : b_X12_becomes_14 n d (f_X12_becomes n) S a1 a2 a3 = some (x, S1) := H
  unfold b_X12_becomes_14 at H
  refine GA.iload_n dX12_becomes_14 rfl ?_
  refine GA.aload_n dX12_becomes_15 rfl ?_
  refine GA.get xf_X12_26 dX12_becomes_16 (gs_500 hL) (by decide) rfl ?_
  refine GA.iload_n dX12_becomes_19 rfl ?_
  obtain ⟨hg1, H⟩ := gg_e H
  obtain ⟨x2, hx3, H⟩ := gv_e H
  refine GV.iald hg1 hx3 dX12_becomes_20 (gs_502 hL) (by decide) ?_
  refine GA.bipush dX12_becomes_21 rfl ?_
  obtain ⟨x4, hx5, H⟩ := gv_e H
  refine GV.imul hx5 dX12_becomes_23 ?_
  obtain ⟨hg6, H⟩ := gg_e H
  obtain ⟨hg7, H⟩ := gg_e H
  refine GV.icmp_ge (tgt := 57) hg6 hg7 dX12_becomes_24 (by decide) (fun c8 => ?_) (fun c8 => ?_)
  · have H := it_t H c8
    cases H
    exact GA.vret rfl dX12_becomes_57 (by omega) (by omega) ⟨rfl, rfl⟩
  · have H := it_f H c8
    refine GA.aload_n dX12_becomes_27 rfl ?_
    refine GA.get xf_X12_7 dX12_becomes_28 (gs_500 hL) (by decide) rfl ?_
    refine GA.iload_n dX12_becomes_31 rfl ?_
    refine GA.iconst dX12_becomes_32 ?_
    obtain ⟨hg9, H⟩ := gg_e H
    obtain ⟨x10, S_11, hc12, H⟩ := gc_e H
    refine GA.callS (m_X12_at hL hc12) xs_X12_11 dX12_becomes_33 rfl (by omega) (by decide) rfl (Nat.le_of_ble_eq_true rfl) (by omega) (by omega) rfl (fun E S9 hx => hx.elim) (fun v S9 hq => ?_)
    obtain ⟨rfl, rfl⟩ := hq
    refine GA.iload_n dX12_becomes_36 rfl ?_
    obtain ⟨x13, hx14, H⟩ := gv_e H
    refine GV.iadd hx14 dX12_becomes_37 ?_
    refine GA.aload_n dX12_becomes_38 rfl ?_
    refine GA.get xf_X12_7 dX12_becomes_39 (gs_500 hL) (by decide) rfl ?_
    refine GA.iload_n dX12_becomes_42 rfl ?_
    refine GA.iconst dX12_becomes_43 ?_
    obtain ⟨x15, S_16, hc17, H⟩ := gc_e H
    refine GA.callS (m_X12_at hL hc17) xs_X12_11 dX12_becomes_44 rfl (by omega) (by decide) rfl (Nat.le_of_ble_eq_true rfl) (by omega) (by omega) rfl (fun E S9 hx => hx.elim) (fun v S9 hq => ?_)
    obtain ⟨rfl, rfl⟩ := hq
    refine GA.iload_n dX12_becomes_47 rfl ?_
    obtain ⟨x18, hx19, H⟩ := gv_e H
    refine GV.iadd hx19 dX12_becomes_48 ?_
    obtain ⟨hg20, H⟩ := gg_e H
    obtain ⟨x21, hx22, H⟩ := gv_e H
    refine GV.iald hg20 hx22 dX12_becomes_49 (gs_501 hL) (by decide) ?_
    obtain ⟨hg23, H⟩ := gg_e H
    obtain ⟨S_24, hx25, H⟩ := gv_e H
    refine GV.iast hg23 hx25 dX12_becomes_50 (fun _ => (gs_501 hL)) (by decide) ?_
    obtain ⟨x26, hx27, H⟩ := gv_e H
    refine GV.iinc hx27 dX12_becomes_51 rfl (by decide) ?_
    refine GA.goto (tgt := 14) dX12_becomes_54 (by decide) ?_
    refine GA.locals [(0, .ref (L 500)), (1, .int (J a1)), (2, .int (J a2)), (3, .int (J x26))] ⟨rfl, rfl, rfl, rfl, trivial⟩ ?_
    exact ih_X12_becomes_14 hL _ _ (a1) (a2) (x26) _ _ H
theorem g_X12_becomes {l : Launch} {Z : XZ} {L : Nat → Nat} : ∀ n, P_X12_becomes_0 l Z L n ∧ P_X12_becomes_14 l Z L n
  | 0 => ⟨fun _ _ _ _ _ _ _ H => no_e H, fun _ _ _ _ _ _ _ _ H => no_e H⟩
  | n + 1 => have ⟨h0, h1⟩ := g_X12_becomes (l := l) (Z := Z) (L := L) n
    ⟨t_X12_becomes_0 n h0 h1, t_X12_becomes_14 n h0 h1⟩
theorem m_X12_becomes {l : Launch} {Z : XZ} {L : Nat → Nat} (hL : L 700 = 1) {n d : Nat} {S : GS} {a1 : Int} {a2 : Int} {x : Int} {S1 : GS} (H : f_X12_becomes n d 0 S [a1, a2] = some (x, S1)) : GM l Z L yX12_becomes cX12_becomes 4 none [] d 0 0 [.ref (L 500), .int (J a1), .int (J a2)] S (fun v S' => v = none ∧ S1 = S') (fun _ _ => False) := GM.of (by decide) (Nat.le_of_ble_eq_true rfl) ((g_X12_becomes n).1 hL _ _ _ _ _ _ H)

def P_X12_isDoc_0 (l : Launch) (Z : XZ) (L : Nat → Nat) (n : Nat) : Prop := ∀ (hL : L 700 = 1), ∀ (d : Nat) (S : GS) (a1 : Int) (x : Int) (S1 : GS), f_X12_isDoc n d 0 S [a1] = some (x, S1) → GA l Z L yX12_isDoc cX12_isDoc 2 (some .boolean) [] d 0 0 (fun v S' => v = some (.int (J x)) ∧ S1 = S') (fun _ _ => False) 0 (gl [(0, .ref (L 500)), (1, .int (J a1))]) [] S 0 0
theorem i_X12_isDoc {l : Launch} {Z : XZ} {L : Nat → Nat} (hL : L 700 = 1) {n : Nat} (ih : P_X12_isDoc_0 l Z L n) {d : Nat} {S : GS} {a1 : Int} {x : Int} {S1 : GS} (H : f_X12_isDoc n d 0 S [a1] = some (x, S1)) : GM l Z L yX12_isDoc cX12_isDoc 2 (some .boolean) [] d 0 0 [.ref (L 500), .int (J a1)] S (fun v S' => v = some (.int (J x)) ∧ S1 = S') (fun _ _ => False) := GM.of (by decide) (Nat.le_of_ble_eq_true rfl) (ih hL _ _ _ _ _ H)
set_option maxHeartbeats 4000000 in
set_option maxRecDepth 20000 in
theorem t_X12_isDoc_0 {l : Launch} {Z : XZ} {L : Nat → Nat} (n : Nat) (ih_X12_isDoc_0 : P_X12_isDoc_0 l Z L n) : P_X12_isDoc_0 l Z L (n + 1) := by
  intro hL d S a1 x S1 H
  have H : b_X12_isDoc_0 n d (f_X12_isDoc n) S a1 = some (x, S1) := H
  unfold b_X12_isDoc_0 at H
  refine GA.iload_n dX12_isDoc_0 rfl ?_
  refine GA.iconst dX12_isDoc_1 ?_
  refine GA.aload_n dX12_isDoc_2 rfl ?_
  obtain ⟨x1, hx2, H⟩ := gv_e H
  refine GV.getI hx2 xf_X12_15 dX12_isDoc_3 (gs_500 hL) (by decide) rfl ?_
  refine GA.iconst dX12_isDoc_6 ?_
  obtain ⟨x3, hx4, H⟩ := gv_e H
  refine GV.isub hx4 dX12_isDoc_7 ?_
  obtain ⟨hg5, H⟩ := gg_e H
  obtain ⟨x6, S_7, hc8, H⟩ := gc_e H
  refine GA.callS (m_X12_in hL hc8) xs_X12_18 dX12_isDoc_8 rfl (by omega) (by decide) rfl (Nat.le_of_ble_eq_true rfl) (by omega) (by omega) rfl (fun E S9 hx => hx.elim) (fun v S9 hq => ?_)
  obtain ⟨rfl, rfl⟩ := hq
  obtain ⟨hg9, H⟩ := gg_e H
  cases H
  exact GV.zret hg9 rfl dX12_isDoc_11 (by omega) (by omega) ⟨rfl, rfl⟩
theorem g_X12_isDoc {l : Launch} {Z : XZ} {L : Nat → Nat} : ∀ n, P_X12_isDoc_0 l Z L n
  | 0 => fun _ _ _ _ _ _ H => no_e H
  | n + 1 => t_X12_isDoc_0 n (g_X12_isDoc n)
theorem m_X12_isDoc {l : Launch} {Z : XZ} {L : Nat → Nat} (hL : L 700 = 1) {n d : Nat} {S : GS} {a1 : Int} {x : Int} {S1 : GS} (H : f_X12_isDoc n d 0 S [a1] = some (x, S1)) : GM l Z L yX12_isDoc cX12_isDoc 2 (some .boolean) [] d 0 0 [.ref (L 500), .int (J a1)] S (fun v S' => v = some (.int (J x)) ∧ S1 = S') (fun _ _ => False) := GM.of (by decide) (Nat.le_of_ble_eq_true rfl) ((g_X12_isDoc n) hL _ _ _ _ _ H)

def P_X12_fails_0 (l : Launch) (Z : XZ) (L : Nat → Nat) (n : Nat) : Prop := ∀ (hL : L 700 = 1), ∀ (d : Nat) (S : GS) (a1 : Int) (a2 : Int) (x : Int) (S1 : GS), f_X12_fails n d 0 S [a1, a2] = some (x, S1) → GA l Z L yX12_fails cX12_fails 3 (some .boolean) [] d 0 0 (fun v S' => v = some (.int (J x)) ∧ S1 = S') (fun _ _ => False) 0 (gl [(0, .ref (L 500)), (1, .int (J a1)), (2, .int (J a2))]) [] S 0 0
theorem i_X12_fails {l : Launch} {Z : XZ} {L : Nat → Nat} (hL : L 700 = 1) {n : Nat} (ih : P_X12_fails_0 l Z L n) {d : Nat} {S : GS} {a1 : Int} {a2 : Int} {x : Int} {S1 : GS} (H : f_X12_fails n d 0 S [a1, a2] = some (x, S1)) : GM l Z L yX12_fails cX12_fails 3 (some .boolean) [] d 0 0 [.ref (L 500), .int (J a1), .int (J a2)] S (fun v S' => v = some (.int (J x)) ∧ S1 = S') (fun _ _ => False) := GM.of (by decide) (Nat.le_of_ble_eq_true rfl) (ih hL _ _ _ _ _ _ H)
set_option maxHeartbeats 4000000 in
set_option maxRecDepth 20000 in
theorem t_X12_fails_0 {l : Launch} {Z : XZ} {L : Nat → Nat} (n : Nat) (ih_X12_fails_0 : P_X12_fails_0 l Z L n) : P_X12_fails_0 l Z L (n + 1) := by
  intro hL d S a1 a2 x S1 H
  have H : b_X12_fails_0 n d (f_X12_fails n) S a1 a2 = some (x, S1) := H
  unfold b_X12_fails_0 at H
  refine GA.aload_n dX12_fails_0 rfl ?_
  refine GA.iload_n dX12_fails_1 rfl ?_
  obtain ⟨hg1, H⟩ := gg_e H
  refine GV.if_eq (tgt := 9) hg1 dX12_fails_2 (by decide) (fun c2 => ?_) (fun c2 => ?_)
  · have H := it_t H c2
    refine GA.iload_n dX12_fails_9 rfl ?_
    obtain ⟨S_3, hx4, H⟩ := gv_e H
    refine GV.putI hx4 (xp_X12_1 _) dX12_fails_10 (gs_500 hL) (by decide) (Nat.le_of_ble_eq_true rfl) (gs_500 hL) ?_
    refine GA.iload_n dX12_fails_13 rfl ?_
    refine GV.if_ne (tgt := 21) hg1 dX12_fails_14 (by decide) (fun c5 => ?_) (fun c5 => ?_)
    · have H := it_t H c5
      refine GA.iconst dX12_fails_21 ?_
      cases H
      exact GV.zret (by decide) rfl dX12_fails_22 (by omega) (by omega) ⟨rfl, rfl⟩
    · have H := it_f H c5
      refine GA.iconst dX12_fails_17 ?_
      refine GA.goto (tgt := 22) dX12_fails_18 (by decide) ?_
      cases H
      exact GV.zret (by decide) rfl dX12_fails_22 (by omega) (by omega) ⟨rfl, rfl⟩
  · have H := it_f H c2
    refine GA.iconst dX12_fails_5 ?_
    refine GA.goto (tgt := 10) dX12_fails_6 (by decide) ?_
    obtain ⟨S_6, hx7, H⟩ := gv_e H
    refine GV.putI hx7 (xp_X12_1 _) dX12_fails_10 (gs_500 hL) (by decide) (Nat.le_of_ble_eq_true rfl) (gs_500 hL) ?_
    refine GA.iload_n dX12_fails_13 rfl ?_
    refine GV.if_ne (tgt := 21) hg1 dX12_fails_14 (by decide) (fun c8 => ?_) (fun c8 => ?_)
    · have H := it_t H c8
      refine GA.iconst dX12_fails_21 ?_
      cases H
      exact GV.zret (by decide) rfl dX12_fails_22 (by omega) (by omega) ⟨rfl, rfl⟩
    · have H := it_f H c8
      refine GA.iconst dX12_fails_17 ?_
      refine GA.goto (tgt := 22) dX12_fails_18 (by decide) ?_
      cases H
      exact GV.zret (by decide) rfl dX12_fails_22 (by omega) (by omega) ⟨rfl, rfl⟩
theorem g_X12_fails {l : Launch} {Z : XZ} {L : Nat → Nat} : ∀ n, P_X12_fails_0 l Z L n
  | 0 => fun _ _ _ _ _ _ _ H => no_e H
  | n + 1 => t_X12_fails_0 n (g_X12_fails n)
theorem m_X12_fails {l : Launch} {Z : XZ} {L : Nat → Nat} (hL : L 700 = 1) {n d : Nat} {S : GS} {a1 : Int} {a2 : Int} {x : Int} {S1 : GS} (H : f_X12_fails n d 0 S [a1, a2] = some (x, S1)) : GM l Z L yX12_fails cX12_fails 3 (some .boolean) [] d 0 0 [.ref (L 500), .int (J a1), .int (J a2)] S (fun v S' => v = some (.int (J x)) ∧ S1 = S') (fun _ _ => False) := GM.of (by decide) (Nat.le_of_ble_eq_true rfl) ((g_X12_fails n) hL _ _ _ _ _ _ H)

def P_X12_link_0 (l : Launch) (Z : XZ) (L : Nat → Nat) (n : Nat) : Prop := ∀ (hL : L 700 = 1), ∀ (d : Nat) (S : GS) (a1 : Int) (x : Int) (S1 : GS), f_X12_link n d 0 S [a1] = some (x, S1) → GA l Z L yX12_link cX12_link 5 none [] d 0 0 (fun v S' => v = none ∧ S1 = S') (fun _ _ => False) 0 (gl [(0, .ref (L 500)), (1, .int (J a1))]) [] S 0 0
def P_X12_link_4 (l : Launch) (Z : XZ) (L : Nat → Nat) (n : Nat) : Prop := ∀ (hL : L 700 = 1), ∀ (d : Nat) (S : GS) (a1 : Int) (a2 : Int) (a3 : Int) (x : Int) (S1 : GS), f_X12_link n d 4 S [a1, a2, a3] = some (x, S1) → GA l Z L yX12_link cX12_link 5 none [] d 0 0 (fun v S' => v = none ∧ S1 = S') (fun _ _ => False) 4 (gl [(0, .ref (L 500)), (1, .int (J a1)), (2, .int (J a2)), (3, .int (J a3))]) [] S 0 0
def P_X12_link_45 (l : Launch) (Z : XZ) (L : Nat → Nat) (n : Nat) : Prop := ∀ (hL : L 700 = 1), ∀ (d : Nat) (S : GS) (a1 : Int) (a2 : Int) (a3 : Int) (a4 : Int) (s0 : Int) (s1 : Int) (x : Int) (S1 : GS), f_X12_link n d 45 S [a1, a2, a3, a4, s0, s1] = some (x, S1) → GA l Z L yX12_link cX12_link 5 none [] d 0 0 (fun v S' => v = none ∧ S1 = S') (fun _ _ => False) 45 (gl [(0, .ref (L 500)), (1, .int (J a1)), (2, .int (J a2)), (3, .int (J a3)), (4, .int (J a4))]) [.int (J s0), .int (J s1), .ref (L 501)] S 0 0
def P_X12_link_85 (l : Launch) (Z : XZ) (L : Nat → Nat) (n : Nat) : Prop := ∀ (hL : L 700 = 1), ∀ (d : Nat) (S : GS) (a1 : Int) (a2 : Int) (a3 : Int) (a4 : Int) (s0 : Int) (s1 : Int) (x : Int) (S1 : GS), f_X12_link n d 85 S [a1, a2, a3, a4, s0, s1] = some (x, S1) → GA l Z L yX12_link cX12_link 5 none [] d 0 0 (fun v S' => v = none ∧ S1 = S') (fun _ _ => False) 85 (gl [(0, .ref (L 500)), (1, .int (J a1)), (2, .int (J a2)), (3, .int (J a3)), (4, .int (J a4))]) [.int (J s0), .int (J s1), .ref (L 501)] S 0 0
def P_X12_link_112 (l : Launch) (Z : XZ) (L : Nat → Nat) (n : Nat) : Prop := ∀ (hL : L 700 = 1), ∀ (d : Nat) (S : GS) (a1 : Int) (a2 : Int) (a3 : Int) (a4 : Int) (x : Int) (S1 : GS), f_X12_link n d 112 S [a1, a2, a3, a4] = some (x, S1) → GA l Z L yX12_link cX12_link 5 none [] d 0 0 (fun v S' => v = none ∧ S1 = S') (fun _ _ => False) 112 (gl [(0, .ref (L 500)), (1, .int (J a1)), (2, .int (J a2)), (3, .int (J a3)), (4, .int (J a4))]) [] S 0 0
def P_X12_link_149 (l : Launch) (Z : XZ) (L : Nat → Nat) (n : Nat) : Prop := ∀ (hL : L 700 = 1), ∀ (d : Nat) (S : GS) (a1 : Int) (a2 : Int) (a3 : Int) (x : Int) (S1 : GS), f_X12_link n d 149 S [a1, a2, a3] = some (x, S1) → GA l Z L yX12_link cX12_link 5 none [] d 0 0 (fun v S' => v = none ∧ S1 = S') (fun _ _ => False) 149 (gl [(0, .ref (L 500)), (1, .int (J a1)), (2, .int (J a2)), (3, .int (J a3))]) [] S 0 0
theorem i_X12_link {l : Launch} {Z : XZ} {L : Nat → Nat} (hL : L 700 = 1) {n : Nat} (ih : P_X12_link_0 l Z L n) {d : Nat} {S : GS} {a1 : Int} {x : Int} {S1 : GS} (H : f_X12_link n d 0 S [a1] = some (x, S1)) : GM l Z L yX12_link cX12_link 5 none [] d 0 0 [.ref (L 500), .int (J a1)] S (fun v S' => v = none ∧ S1 = S') (fun _ _ => False) := GM.of (by decide) (Nat.le_of_ble_eq_true rfl) (ih hL _ _ _ _ _ H)
set_option maxHeartbeats 4000000 in
set_option maxRecDepth 20000 in
theorem t_X12_link_0 {l : Launch} {Z : XZ} {L : Nat → Nat} (n : Nat) (ih_X12_link_0 : P_X12_link_0 l Z L n) (ih_X12_link_4 : P_X12_link_4 l Z L n) (ih_X12_link_45 : P_X12_link_45 l Z L n) (ih_X12_link_85 : P_X12_link_85 l Z L n) (ih_X12_link_112 : P_X12_link_112 l Z L n) (ih_X12_link_149 : P_X12_link_149 l Z L n) : P_X12_link_0 l Z L (n + 1) := by
  intro hL d S a1 x S1 H
  have H : b_X12_link_0 n d (f_X12_link n) S a1 = some (x, S1) := H
  unfold b_X12_link_0 at H
  refine GA.iconst dX12_link_0 ?_
  refine GA.istore_n dX12_link_1 (by decide) ?_
  refine GA.iconst dX12_link_2 ?_
  refine GA.istore_n dX12_link_3 (by decide) ?_
  refine GA.locals [(0, .ref (L 500)), (1, .int (J a1)), (2, .int (J 0)), (3, .int (J 0))] ⟨rfl, rfl, rfl, rfl, trivial⟩ ?_
  exact ih_X12_link_4 hL _ _ (a1) (0) (0) _ _ H
set_option maxHeartbeats 4000000 in
set_option maxRecDepth 20000 in
theorem t_X12_link_4 {l : Launch} {Z : XZ} {L : Nat → Nat} (n : Nat) (ih_X12_link_0 : P_X12_link_0 l Z L n) (ih_X12_link_4 : P_X12_link_4 l Z L n) (ih_X12_link_45 : P_X12_link_45 l Z L n) (ih_X12_link_85 : P_X12_link_85 l Z L n) (ih_X12_link_112 : P_X12_link_112 l Z L n) (ih_X12_link_149 : P_X12_link_149 l Z L n) : P_X12_link_4 l Z L (n + 1) := by
  intro hL d S a1 a2 a3 x S1 H
  have H : b_X12_link_4 n d (f_X12_link n) S a1 a2 a3 = some (x, S1) := H
  unfold b_X12_link_4 at H
  refine GA.iload_n dX12_link_4 rfl ?_
  refine GA.aload_n dX12_link_5 rfl ?_
  refine GA.get xf_X12_26 dX12_link_6 (gs_500 hL) (by decide) rfl ?_
  refine GA.iload_n dX12_link_9 rfl ?_
  obtain ⟨hg1, H⟩ := gg_e H
  obtain ⟨x2, hx3, H⟩ := gv_e H
  refine GV.iald hg1 hx3 dX12_link_10 (gs_502 hL) (by decide) ?_
  obtain ⟨hg4, H⟩ := gg_e H
  obtain ⟨hg5, H⟩ := gg_e H
  refine GV.icmp_ge (tgt := 203) hg4 hg5 dX12_link_11 (by decide) (fun c6 => ?_) (fun c6 => ?_)
  · have H := it_t H c6
    cases H
    exact GA.vret rfl dX12_link_203 (by omega) (by omega) ⟨rfl, rfl⟩
  · have H := it_f H c6
    refine GA.iload_n dX12_link_14 rfl ?_
    refine GA.iload_n dX12_link_15 rfl ?_
    obtain ⟨hg7, H⟩ := gg_e H
    obtain ⟨x8, S_9, hc10, H⟩ := gc_e H
    refine GA.callS (m_X12_at hL hc10) xs_X12_11 dX12_link_16 rfl (by omega) (by decide) rfl (Nat.le_of_ble_eq_true rfl) (by omega) (by omega) rfl (fun E S9 hx => hx.elim) (fun v S9 hq => ?_)
    obtain ⟨rfl, rfl⟩ := hq
    refine GA.istore dX12_link_19 (by decide) ?_
    refine GA.aload_n dX12_link_21 rfl ?_
    refine GA.get xf_X12_7 dX12_link_22 (gs_500 hL) (by decide) rfl ?_
    refine GA.iload dX12_link_25 rfl ?_
    refine GA.iconst dX12_link_27 ?_
    obtain ⟨x11, hx12, H⟩ := gv_e H
    refine GV.iadd hx12 dX12_link_28 ?_
    refine GA.iload_n dX12_link_29 rfl ?_
    obtain ⟨hg13, H⟩ := gg_e H
    refine GV.if_ne (tgt := 37) hg13 dX12_link_30 (by decide) (fun c14 => ?_) (fun c14 => ?_)
    · have H := it_t H c14
      refine GA.aload_n dX12_link_37 rfl ?_
      refine GA.get xf_X12_43 dX12_link_38 (gs_500 hL) (by decide) rfl ?_
      refine GA.iload_n dX12_link_41 rfl ?_
      refine GA.iconst dX12_link_42 ?_
      obtain ⟨x15, hx16, H⟩ := gv_e H
      refine GV.isub hx16 dX12_link_43 ?_
      obtain ⟨hg17, H⟩ := gg_e H
      obtain ⟨x18, hx19, H⟩ := gv_e H
      refine GV.iald hg17 hx19 dX12_link_44 (gs_505 hL) (by decide) ?_
      refine GA.locals [(0, .ref (L 500)), (1, .int (J a1)), (2, .int (J a2)), (3, .int (J a3)), (4, .int (J x8))] ⟨rfl, rfl, rfl, rfl, rfl, trivial⟩ ?_
      exact ih_X12_link_45 hL _ _ (a1) (a2) (a3) (x8) (x18) (x11) _ _ H
    · have H := it_f H c14
      refine GA.iconst dX12_link_33 ?_
      refine GA.goto (tgt := 45) dX12_link_34 (by decide) ?_
      refine GA.locals [(0, .ref (L 500)), (1, .int (J a1)), (2, .int (J a2)), (3, .int (J a3)), (4, .int (J x8))] ⟨rfl, rfl, rfl, rfl, rfl, trivial⟩ ?_
      exact ih_X12_link_45 hL _ _ (a1) (a2) (a3) (x8) ((-1)) (x11) _ _ H
set_option maxHeartbeats 4000000 in
set_option maxRecDepth 20000 in
theorem t_X12_link_45 {l : Launch} {Z : XZ} {L : Nat → Nat} (n : Nat) (ih_X12_link_0 : P_X12_link_0 l Z L n) (ih_X12_link_4 : P_X12_link_4 l Z L n) (ih_X12_link_45 : P_X12_link_45 l Z L n) (ih_X12_link_85 : P_X12_link_85 l Z L n) (ih_X12_link_112 : P_X12_link_112 l Z L n) (ih_X12_link_149 : P_X12_link_149 l Z L n) : P_X12_link_45 l Z L (n + 1) := by
  intro hL d S a1 a2 a3 a4 s0 s1 x S1 H
  have H : b_X12_link_45 n d (f_X12_link n) S a1 a2 a3 a4 s0 s1 = some (x, S1) := H
  unfold b_X12_link_45 at H
  obtain ⟨hg1, H⟩ := gg_e H
  obtain ⟨S_2, hx3, H⟩ := gv_e H
  refine GV.iast hg1 hx3 dX12_link_45 (fun _ => (gs_501 hL)) (by decide) ?_
  refine GA.aload_n dX12_link_46 rfl ?_
  refine GA.get xf_X12_7 dX12_link_47 (gs_500 hL) (by decide) rfl ?_
  refine GA.iload dX12_link_50 rfl ?_
  refine GA.iconst dX12_link_52 ?_
  obtain ⟨x4, hx5, H⟩ := gv_e H
  refine GV.iadd hx5 dX12_link_53 ?_
  refine GA.iload_n dX12_link_54 rfl ?_
  obtain ⟨hg6, H⟩ := gg_e H
  refine GV.if_ne (tgt := 62) hg6 dX12_link_55 (by decide) (fun c7 => ?_) (fun c7 => ?_)
  · have H := it_t H c7
    refine GA.aload_n dX12_link_62 rfl ?_
    refine GA.iload_n dX12_link_63 rfl ?_
    refine GA.aload_n dX12_link_64 rfl ?_
    refine GA.get xf_X12_43 dX12_link_65 (gs_500 hL) (by decide) rfl ?_
    refine GA.iload_n dX12_link_68 rfl ?_
    refine GA.iconst dX12_link_69 ?_
    obtain ⟨x8, hx9, H⟩ := gv_e H
    refine GV.isub hx9 dX12_link_70 ?_
    obtain ⟨hg10, H⟩ := gg_e H
    obtain ⟨x11, hx12, H⟩ := gv_e H
    refine GV.iald hg10 hx12 dX12_link_71 (gs_505 hL) (by decide) ?_
    refine GA.iconst dX12_link_72 ?_
    obtain ⟨hg13, H⟩ := gg_e H
    obtain ⟨x14, S_15, hc16, H⟩ := gc_e H
    refine GA.callV (m_X12_part hL hc16) xs_X12_36 dX12_link_73 (gs_500 hL) (by decide) rfl rfl (by omega) (by decide) rfl (Nat.le_of_ble_eq_true rfl) (by omega) (by omega) rfl (fun E S9 hx => hx.elim) (fun v S9 hq => ?_)
    obtain ⟨rfl, rfl⟩ := hq
    refine GA.aload_n dX12_link_76 rfl ?_
    refine GA.get xf_X12_46 dX12_link_77 (gs_500 hL) (by decide) rfl ?_
    refine GA.iload_n dX12_link_80 rfl ?_
    refine GA.iconst dX12_link_81 ?_
    obtain ⟨x17, hx18, H⟩ := gv_e H
    refine GV.isub hx18 dX12_link_82 ?_
    obtain ⟨hg19, H⟩ := gg_e H
    obtain ⟨x20, hx21, H⟩ := gv_e H
    refine GV.iald hg19 hx21 dX12_link_83 (gs_506 hL) (by decide) ?_
    obtain ⟨x22, hx23, H⟩ := gv_e H
    refine GV.isub hx23 dX12_link_84 ?_
    refine GA.locals [(0, .ref (L 500)), (1, .int (J a1)), (2, .int (J a2)), (3, .int (J a3)), (4, .int (J a4))] ⟨rfl, rfl, rfl, rfl, rfl, trivial⟩ ?_
    exact ih_X12_link_85 hL _ _ (a1) (a2) (a3) (a4) (x22) (x4) _ _ H
  · have H := it_f H c7
    refine GA.iconst dX12_link_58 ?_
    refine GA.goto (tgt := 85) dX12_link_59 (by decide) ?_
    refine GA.locals [(0, .ref (L 500)), (1, .int (J a1)), (2, .int (J a2)), (3, .int (J a3)), (4, .int (J a4))] ⟨rfl, rfl, rfl, rfl, rfl, trivial⟩ ?_
    exact ih_X12_link_85 hL _ _ (a1) (a2) (a3) (a4) ((-1)) (x4) _ _ H
set_option maxHeartbeats 4000000 in
set_option maxRecDepth 20000 in
theorem t_X12_link_85 {l : Launch} {Z : XZ} {L : Nat → Nat} (n : Nat) (ih_X12_link_0 : P_X12_link_0 l Z L n) (ih_X12_link_4 : P_X12_link_4 l Z L n) (ih_X12_link_45 : P_X12_link_45 l Z L n) (ih_X12_link_85 : P_X12_link_85 l Z L n) (ih_X12_link_112 : P_X12_link_112 l Z L n) (ih_X12_link_149 : P_X12_link_149 l Z L n) : P_X12_link_85 l Z L (n + 1) := by
  intro hL d S a1 a2 a3 a4 s0 s1 x S1 H
  have H : b_X12_link_85 n d (f_X12_link n) S a1 a2 a3 a4 s0 s1 = some (x, S1) := H
  unfold b_X12_link_85 at H
  obtain ⟨hg1, H⟩ := gg_e H
  obtain ⟨S_2, hx3, H⟩ := gv_e H
  refine GV.iast hg1 hx3 dX12_link_85 (fun _ => (gs_501 hL)) (by decide) ?_
  refine GA.aload_n dX12_link_86 rfl ?_
  refine GA.get xf_X12_7 dX12_link_87 (gs_500 hL) (by decide) rfl ?_
  refine GA.iload dX12_link_90 rfl ?_
  refine GA.iconst dX12_link_92 ?_
  obtain ⟨x4, hx5, H⟩ := gv_e H
  refine GV.iadd hx5 dX12_link_93 ?_
  refine GA.iconst dX12_link_94 ?_
  obtain ⟨hg6, H⟩ := gg_e H
  obtain ⟨S_7, hx8, H⟩ := gv_e H
  refine GV.iast hg6 hx8 dX12_link_95 (fun _ => (gs_501 hL)) (by decide) ?_
  refine GA.iload_n dX12_link_96 rfl ?_
  obtain ⟨hg9, H⟩ := gg_e H
  refine GV.if_le (tgt := 112) hg9 dX12_link_97 (by decide) (fun c10 => ?_) (fun c10 => ?_)
  · have H := it_t H c10
    refine GA.locals [(0, .ref (L 500)), (1, .int (J a1)), (2, .int (J a2)), (3, .int (J a3)), (4, .int (J a4))] ⟨rfl, rfl, rfl, rfl, rfl, trivial⟩ ?_
    exact ih_X12_link_112 hL _ _ (a1) (a2) (a3) (a4) _ _ H
  · have H := it_f H c10
    refine GA.aload_n dX12_link_100 rfl ?_
    refine GA.get xf_X12_46 dX12_link_101 (gs_500 hL) (by decide) rfl ?_
    refine GA.iload_n dX12_link_104 rfl ?_
    refine GA.iconst dX12_link_105 ?_
    obtain ⟨x11, hx12, H⟩ := gv_e H
    refine GV.isub hx12 dX12_link_106 ?_
    refine GA.dup2 dX12_link_107 rfl rfl ?_
    obtain ⟨hg13, H⟩ := gg_e H
    obtain ⟨x14, hx15, H⟩ := gv_e H
    refine GV.iald hg13 hx15 dX12_link_108 (gs_506 hL) (by decide) ?_
    refine GA.iconst dX12_link_109 ?_
    obtain ⟨x16, hx17, H⟩ := gv_e H
    refine GV.isub hx17 dX12_link_110 ?_
    obtain ⟨S_18, hx19, H⟩ := gv_e H
    refine GV.iast hg13 hx19 dX12_link_111 (fun _ => (gs_506 hL)) (by decide) ?_
    refine GA.locals [(0, .ref (L 500)), (1, .int (J a1)), (2, .int (J a2)), (3, .int (J a3)), (4, .int (J a4))] ⟨rfl, rfl, rfl, rfl, rfl, trivial⟩ ?_
    exact ih_X12_link_112 hL _ _ (a1) (a2) (a3) (a4) _ _ H
set_option maxHeartbeats 4000000 in
set_option maxRecDepth 20000 in
theorem t_X12_link_112 {l : Launch} {Z : XZ} {L : Nat → Nat} (n : Nat) (ih_X12_link_0 : P_X12_link_0 l Z L n) (ih_X12_link_4 : P_X12_link_4 l Z L n) (ih_X12_link_45 : P_X12_link_45 l Z L n) (ih_X12_link_85 : P_X12_link_85 l Z L n) (ih_X12_link_112 : P_X12_link_112 l Z L n) (ih_X12_link_149 : P_X12_link_149 l Z L n) : P_X12_link_112 l Z L (n + 1) := by
  intro hL d S a1 a2 a3 a4 x S1 H
  have H : b_X12_link_112 n d (f_X12_link n) S a1 a2 a3 a4 = some (x, S1) := H
  unfold b_X12_link_112 at H
  refine GA.aload_n dX12_link_112 rfl ?_
  refine GA.get xf_X12_7 dX12_link_113 (gs_500 hL) (by decide) rfl ?_
  refine GA.iload dX12_link_116 rfl ?_
  refine GA.iconst dX12_link_118 ?_
  obtain ⟨x1, hx2, H⟩ := gv_e H
  refine GV.iadd hx2 dX12_link_119 ?_
  obtain ⟨hg3, H⟩ := gg_e H
  obtain ⟨x4, hx5, H⟩ := gv_e H
  refine GV.iald hg3 hx5 dX12_link_120 (gs_501 hL) (by decide) ?_
  obtain ⟨hg6, H⟩ := gg_e H
  refine GV.if_le (tgt := 149) hg6 dX12_link_121 (by decide) (fun c7 => ?_) (fun c7 => ?_)
  · have H := it_t H c7
    refine GA.locals [(0, .ref (L 500)), (1, .int (J a1)), (2, .int (J a2)), (3, .int (J a3))] ⟨rfl, rfl, rfl, rfl, trivial⟩ ?_
    exact ih_X12_link_149 hL _ _ (a1) (a2) (a3) _ _ H
  · have H := it_f H c7
    refine GA.aload_n dX12_link_124 rfl ?_
    refine GA.get xf_X12_43 dX12_link_125 (gs_500 hL) (by decide) rfl ?_
    refine GA.iload_n dX12_link_128 rfl ?_
    refine GA.iload_n dX12_link_129 rfl ?_
    obtain ⟨hg8, H⟩ := gg_e H
    obtain ⟨S_9, hx10, H⟩ := gv_e H
    refine GV.iast hg8 hx10 dX12_link_130 (fun _ => (gs_505 hL)) (by decide) ?_
    refine GA.aload_n dX12_link_131 rfl ?_
    refine GA.get xf_X12_46 dX12_link_132 (gs_500 hL) (by decide) rfl ?_
    refine GA.iload_n dX12_link_135 rfl ?_
    refine GA.aload_n dX12_link_136 rfl ?_
    refine GA.get xf_X12_7 dX12_link_137 (gs_500 hL) (by decide) rfl ?_
    refine GA.iload dX12_link_140 rfl ?_
    refine GA.iconst dX12_link_142 ?_
    obtain ⟨x11, hx12, H⟩ := gv_e H
    refine GV.iadd hx12 dX12_link_143 ?_
    obtain ⟨hg13, H⟩ := gg_e H
    obtain ⟨x14, hx15, H⟩ := gv_e H
    refine GV.iald hg13 hx15 dX12_link_144 (gs_501 hL) (by decide) ?_
    obtain ⟨S_16, hx17, H⟩ := gv_e H
    refine GV.iast hg8 hx17 dX12_link_145 (fun _ => (gs_506 hL)) (by decide) ?_
    obtain ⟨x18, hx19, H⟩ := gv_e H
    refine GV.iinc hx19 dX12_link_146 rfl (by decide) ?_
    refine GA.locals [(0, .ref (L 500)), (1, .int (J a1)), (2, .int (J x18)), (3, .int (J a3))] ⟨rfl, rfl, rfl, rfl, trivial⟩ ?_
    exact ih_X12_link_149 hL _ _ (a1) (x18) (a3) _ _ H
set_option maxHeartbeats 4000000 in
set_option maxRecDepth 20000 in
theorem t_X12_link_149 {l : Launch} {Z : XZ} {L : Nat → Nat} (n : Nat) (ih_X12_link_0 : P_X12_link_0 l Z L n) (ih_X12_link_4 : P_X12_link_4 l Z L n) (ih_X12_link_45 : P_X12_link_45 l Z L n) (ih_X12_link_85 : P_X12_link_85 l Z L n) (ih_X12_link_112 : P_X12_link_112 l Z L n) (ih_X12_link_149 : P_X12_link_149 l Z L n) : P_X12_link_149 l Z L (n + 1) := by
  intro hL d S a1 a2 a3 x S1 H
  have H : b_X12_link_149 n d (f_X12_link n) S a1 a2 a3 = some (x, S1) := H
  unfold b_X12_link_149 at H
  refine GA.iload_n dX12_link_149 rfl ?_
  obtain ⟨hg1, H⟩ := gg_e H
  refine GV.if_le (tgt := 197) hg1 dX12_link_150 (by decide) (fun c2 => ?_) (fun c2 => ?_)
  · have H := it_t H c2
    obtain ⟨x3, hx4, H⟩ := gv_e H
    refine GV.iinc hx4 dX12_link_197 rfl (by decide) ?_
    refine GA.goto (tgt := 4) dX12_link_200 (by decide) ?_
    refine GA.locals [(0, .ref (L 500)), (1, .int (J a1)), (2, .int (J a2)), (3, .int (J x3))] ⟨rfl, rfl, rfl, rfl, trivial⟩ ?_
    exact ih_X12_link_4 hL _ _ (a1) (a2) (x3) _ _ H
  · have H := it_f H c2
    refine GA.aload_n dX12_link_153 rfl ?_
    refine GA.get xf_X12_46 dX12_link_154 (gs_500 hL) (by decide) rfl ?_
    refine GA.iload_n dX12_link_157 rfl ?_
    refine GA.iconst dX12_link_158 ?_
    obtain ⟨x5, hx6, H⟩ := gv_e H
    refine GV.isub hx6 dX12_link_159 ?_
    obtain ⟨hg7, H⟩ := gg_e H
    obtain ⟨x8, hx9, H⟩ := gv_e H
    refine GV.iald hg7 hx9 dX12_link_160 (gs_506 hL) (by decide) ?_
    obtain ⟨hg10, H⟩ := gg_e H
    refine GV.if_ne (tgt := 197) hg10 dX12_link_161 (by decide) (fun c11 => ?_) (fun c11 => ?_)
    · have H := it_t H c11
      obtain ⟨x12, hx13, H⟩ := gv_e H
      refine GV.iinc hx13 dX12_link_197 rfl (by decide) ?_
      refine GA.goto (tgt := 4) dX12_link_200 (by decide) ?_
      refine GA.locals [(0, .ref (L 500)), (1, .int (J a1)), (2, .int (J a2)), (3, .int (J x12))] ⟨rfl, rfl, rfl, rfl, trivial⟩ ?_
      exact ih_X12_link_4 hL _ _ (a1) (a2) (x12) _ _ H
    · have H := it_f H c11
      obtain ⟨x14, hx15, H⟩ := gv_e H
      refine GV.iinc hx15 dX12_link_164 rfl (by decide) ?_
      refine GA.aload_n dX12_link_167 rfl ?_
      refine GA.get xf_X12_7 dX12_link_168 (gs_500 hL) (by decide) rfl ?_
      refine GA.iload_n dX12_link_171 rfl ?_
      refine GA.aload_n dX12_link_172 rfl ?_
      refine GA.get xf_X12_43 dX12_link_173 (gs_500 hL) (by decide) rfl ?_
      refine GA.iload_n dX12_link_176 rfl ?_
      obtain ⟨hg16, H⟩ := gg_e H
      obtain ⟨x17, hx18, H⟩ := gv_e H
      refine GV.iald hg16 hx18 dX12_link_177 (gs_505 hL) (by decide) ?_
      obtain ⟨hg19, H⟩ := gg_e H
      obtain ⟨x20, S_21, hc22, H⟩ := gc_e H
      refine GA.callS (m_X12_at hL hc22) xs_X12_11 dX12_link_178 rfl (by omega) (by decide) rfl (Nat.le_of_ble_eq_true rfl) (by omega) (by omega) rfl (fun E S9 hx => hx.elim) (fun v S9 hq => ?_)
      obtain ⟨rfl, rfl⟩ := hq
      refine GA.iconst dX12_link_181 ?_
      obtain ⟨x23, hx24, H⟩ := gv_e H
      refine GV.iadd hx24 dX12_link_182 ?_
      refine GA.iload_n dX12_link_183 rfl ?_
      refine GA.iconst dX12_link_184 ?_
      obtain ⟨x25, hx26, H⟩ := gv_e H
      refine GV.iadd hx26 dX12_link_185 ?_
      refine GA.aload_n dX12_link_186 rfl ?_
      refine GA.get xf_X12_43 dX12_link_187 (gs_500 hL) (by decide) rfl ?_
      refine GA.iload_n dX12_link_190 rfl ?_
      obtain ⟨x27, hx28, H⟩ := gv_e H
      refine GV.iald hg16 hx28 dX12_link_191 (gs_505 hL) (by decide) ?_
      obtain ⟨x29, hx30, H⟩ := gv_e H
      refine GV.isub hx30 dX12_link_192 ?_
      obtain ⟨hg31, H⟩ := gg_e H
      obtain ⟨S_32, hx33, H⟩ := gv_e H
      refine GV.iast hg31 hx33 dX12_link_193 (fun _ => (gs_501 hL)) (by decide) ?_
      refine GA.goto (tgt := 149) dX12_link_194 (by decide) ?_
      refine GA.locals [(0, .ref (L 500)), (1, .int (J a1)), (2, .int (J x14)), (3, .int (J a3))] ⟨rfl, rfl, rfl, rfl, trivial⟩ ?_
      exact ih_X12_link_149 hL _ _ (a1) (x14) (a3) _ _ H
theorem g_X12_link {l : Launch} {Z : XZ} {L : Nat → Nat} : ∀ n, P_X12_link_0 l Z L n ∧ P_X12_link_4 l Z L n ∧ P_X12_link_45 l Z L n ∧ P_X12_link_85 l Z L n ∧ P_X12_link_112 l Z L n ∧ P_X12_link_149 l Z L n
  | 0 => ⟨fun _ _ _ _ _ _ H => no_e H, fun _ _ _ _ _ _ _ _ H => no_e H, fun _ _ _ _ _ _ _ _ _ _ _ H => no_e H, fun _ _ _ _ _ _ _ _ _ _ _ H => no_e H, fun _ _ _ _ _ _ _ _ _ H => no_e H, fun _ _ _ _ _ _ _ _ H => no_e H⟩
  | n + 1 => have ⟨h0, h1, h2, h3, h4, h5⟩ := g_X12_link (l := l) (Z := Z) (L := L) n
    ⟨t_X12_link_0 n h0 h1 h2 h3 h4 h5, t_X12_link_4 n h0 h1 h2 h3 h4 h5, t_X12_link_45 n h0 h1 h2 h3 h4 h5, t_X12_link_85 n h0 h1 h2 h3 h4 h5, t_X12_link_112 n h0 h1 h2 h3 h4 h5, t_X12_link_149 n h0 h1 h2 h3 h4 h5⟩
theorem m_X12_link {l : Launch} {Z : XZ} {L : Nat → Nat} (hL : L 700 = 1) {n d : Nat} {S : GS} {a1 : Int} {x : Int} {S1 : GS} (H : f_X12_link n d 0 S [a1] = some (x, S1)) : GM l Z L yX12_link cX12_link 5 none [] d 0 0 [.ref (L 500), .int (J a1)] S (fun v S' => v = none ∧ S1 = S') (fun _ _ => False) := GM.of (by decide) (Nat.le_of_ble_eq_true rfl) ((g_X12_link n).1 hL _ _ _ _ _ H)

def P_X12_deepOf_0 (l : Launch) (Z : XZ) (L : Nat → Nat) (n : Nat) : Prop := ∀ (hL : L 700 = 1), ∀ (d : Nat) (S : GS) (a1 : Int) (a2 : Int) (x : Int) (S1 : GS), f_X12_deepOf n d 0 S [a1, a2] = some (x, S1) → GA l Z L yX12_deepOf cX12_deepOf 7 (some .int) [] d 0 0 (fun v S' => v = some (.int (J x)) ∧ S1 = S') (fun _ _ => False) 0 (gl [(0, .ref (L 500)), (1, .int (J a1)), (2, .int (J a2))]) [] S 0 0
def P_X12_deepOf_5 (l : Launch) (Z : XZ) (L : Nat → Nat) (n : Nat) : Prop := ∀ (hL : L 700 = 1), ∀ (d : Nat) (S : GS) (a1 : Int) (a2 : Int) (a3 : Int) (a4 : Int) (x : Int) (S1 : GS), f_X12_deepOf n d 5 S [a1, a2, a3, a4] = some (x, S1) → GA l Z L yX12_deepOf cX12_deepOf 7 (some .int) [] d 0 0 (fun v S' => v = some (.int (J x)) ∧ S1 = S') (fun _ _ => False) 5 (gl [(0, .ref (L 500)), (1, .int (J a1)), (2, .int (J a2)), (3, .int (J a3)), (4, .int (J a4))]) [] S 0 0
def P_X12_deepOf_23 (l : Launch) (Z : XZ) (L : Nat → Nat) (n : Nat) : Prop := ∀ (hL : L 700 = 1), ∀ (d : Nat) (S : GS) (a1 : Int) (a2 : Int) (a3 : Int) (a4 : Int) (a5 : Int) (a6 : Int) (x : Int) (S1 : GS), f_X12_deepOf n d 23 S [a1, a2, a3, a4, a5, a6] = some (x, S1) → GA l Z L yX12_deepOf cX12_deepOf 7 (some .int) [] d 0 0 (fun v S' => v = some (.int (J x)) ∧ S1 = S') (fun _ _ => False) 23 (gl [(0, .ref (L 500)), (1, .int (J a1)), (2, .int (J a2)), (3, .int (J a3)), (4, .int (J a4)), (5, .int (J a5)), (6, .int (J a6))]) [] S 0 0
theorem i_X12_deepOf {l : Launch} {Z : XZ} {L : Nat → Nat} (hL : L 700 = 1) {n : Nat} (ih : P_X12_deepOf_0 l Z L n) {d : Nat} {S : GS} {a1 : Int} {a2 : Int} {x : Int} {S1 : GS} (H : f_X12_deepOf n d 0 S [a1, a2] = some (x, S1)) : GM l Z L yX12_deepOf cX12_deepOf 7 (some .int) [] d 0 0 [.ref (L 500), .int (J a1), .int (J a2)] S (fun v S' => v = some (.int (J x)) ∧ S1 = S') (fun _ _ => False) := GM.of (by decide) (Nat.le_of_ble_eq_true rfl) (ih hL _ _ _ _ _ _ H)
set_option maxHeartbeats 4000000 in
set_option maxRecDepth 20000 in
theorem t_X12_deepOf_0 {l : Launch} {Z : XZ} {L : Nat → Nat} (n : Nat) (ih_X12_deepOf_0 : P_X12_deepOf_0 l Z L n) (ih_X12_deepOf_5 : P_X12_deepOf_5 l Z L n) (ih_X12_deepOf_23 : P_X12_deepOf_23 l Z L n) : P_X12_deepOf_0 l Z L (n + 1) := by
  intro hL d S a1 a2 x S1 H
  have H : b_X12_deepOf_0 n d (f_X12_deepOf n) S a1 a2 = some (x, S1) := H
  unfold b_X12_deepOf_0 at H
  refine GA.iconst dX12_deepOf_0 ?_
  refine GA.istore_n dX12_deepOf_1 (by decide) ?_
  refine GA.iload_n dX12_deepOf_2 rfl ?_
  refine GA.istore dX12_deepOf_3 (by decide) ?_
  refine GA.locals [(0, .ref (L 500)), (1, .int (J a1)), (2, .int (J a2)), (3, .int (J 0)), (4, .int (J a2))] ⟨rfl, rfl, rfl, rfl, rfl, trivial⟩ ?_
  exact ih_X12_deepOf_5 hL _ _ (a1) (a2) (0) (a2) _ _ H
set_option maxHeartbeats 4000000 in
set_option maxRecDepth 20000 in
theorem t_X12_deepOf_5 {l : Launch} {Z : XZ} {L : Nat → Nat} (n : Nat) (ih_X12_deepOf_0 : P_X12_deepOf_0 l Z L n) (ih_X12_deepOf_5 : P_X12_deepOf_5 l Z L n) (ih_X12_deepOf_23 : P_X12_deepOf_23 l Z L n) : P_X12_deepOf_5 l Z L (n + 1) := by
  intro hL d S a1 a2 a3 a4 x S1 H
  have H : b_X12_deepOf_5 n d (f_X12_deepOf n) S a1 a2 a3 a4 = some (x, S1) := H
  unfold b_X12_deepOf_5 at H
  refine GA.iload dX12_deepOf_5 rfl ?_
  refine GA.aload_n dX12_deepOf_7 rfl ?_
  refine GA.iload_n dX12_deepOf_8 rfl ?_
  refine GA.iload_n dX12_deepOf_9 rfl ?_
  obtain ⟨hg1, H⟩ := gg_e H
  obtain ⟨x2, S_3, hc4, H⟩ := gc_e H
  refine GA.callV (m_X12_endOf hL hc4) xs_X12_49 dX12_deepOf_10 (gs_500 hL) (by decide) rfl rfl (by omega) (by decide) rfl (Nat.le_of_ble_eq_true rfl) (by omega) (by omega) rfl (fun E S9 hx => hx.elim) (fun v S9 hq => ?_)
  obtain ⟨rfl, rfl⟩ := hq
  obtain ⟨hg5, H⟩ := gg_e H
  obtain ⟨hg6, H⟩ := gg_e H
  refine GV.icmp_ge (tgt := 75) hg5 hg6 dX12_deepOf_13 (by decide) (fun c7 => ?_) (fun c7 => ?_)
  · have H := it_t H c7
    refine GA.iload_n dX12_deepOf_75 rfl ?_
    cases H
    exact GA.iret rfl dX12_deepOf_76 (by omega) (by omega) ⟨rfl, rfl⟩
  · have H := it_f H c7
    refine GA.iconst dX12_deepOf_16 ?_
    refine GA.istore dX12_deepOf_17 (by decide) ?_
    refine GA.iload dX12_deepOf_19 rfl ?_
    refine GA.istore dX12_deepOf_21 (by decide) ?_
    refine GA.locals [(0, .ref (L 500)), (1, .int (J a1)), (2, .int (J a2)), (3, .int (J a3)), (4, .int (J a4)), (5, .int (J 1)), (6, .int (J a4))] ⟨rfl, rfl, rfl, rfl, rfl, rfl, rfl, trivial⟩ ?_
    exact ih_X12_deepOf_23 hL _ _ (a1) (a2) (a3) (a4) (1) (a4) _ _ H
set_option maxHeartbeats 4000000 in
set_option maxRecDepth 20000 in
theorem t_X12_deepOf_23 {l : Launch} {Z : XZ} {L : Nat → Nat} (n : Nat) (ih_X12_deepOf_0 : P_X12_deepOf_0 l Z L n) (ih_X12_deepOf_5 : P_X12_deepOf_5 l Z L n) (ih_X12_deepOf_23 : P_X12_deepOf_23 l Z L n) : P_X12_deepOf_23 l Z L (n + 1) := by
  intro hL d S a1 a2 a3 a4 a5 a6 x S1 H
  have H : b_X12_deepOf_23 n d (f_X12_deepOf n) S a1 a2 a3 a4 a5 a6 = some (x, S1) := H
  unfold b_X12_deepOf_23 at H
  refine GA.iload dX12_deepOf_23 rfl ?_
  refine GA.iload_n dX12_deepOf_25 rfl ?_
  obtain ⟨hg1, H⟩ := gg_e H
  obtain ⟨hg2, H⟩ := gg_e H
  refine GV.icmp_eq (tgt := 45) hg1 hg2 dX12_deepOf_26 (by decide) (fun c3 => ?_) (fun c3 => ?_)
  · have H := it_t H c3
    refine GA.aload_n dX12_deepOf_45 rfl ?_
    refine GA.iload_n dX12_deepOf_46 rfl ?_
    refine GA.iload dX12_deepOf_47 rfl ?_
    obtain ⟨hg4, H⟩ := gg_e H
    obtain ⟨x5, S_6, hc7, H⟩ := gc_e H
    refine GA.callV (m_X12_kind hL hc7) xs_X12_52 dX12_deepOf_49 (gs_500 hL) (by decide) rfl rfl (by omega) (by decide) rfl (Nat.le_of_ble_eq_true rfl) (by omega) (by omega) rfl (fun E S9 hx => hx.elim) (fun v S9 hq => ?_)
    obtain ⟨rfl, rfl⟩ := hq
    refine GA.iconst dX12_deepOf_52 ?_
    obtain ⟨hg8, H⟩ := gg_e H
    refine GV.icmp_lt (tgt := 67) hg8 (by decide) dX12_deepOf_53 (by decide) (fun c9 => ?_) (fun c9 => ?_)
    · have H := it_t H c9
      refine GA.iload_n dX12_deepOf_67 rfl ?_
      refine GA.istore_n dX12_deepOf_68 (by decide) ?_
      obtain ⟨x10, hx11, H⟩ := gv_e H
      refine GV.iinc hx11 dX12_deepOf_69 rfl (by decide) ?_
      refine GA.goto (tgt := 5) dX12_deepOf_72 (by decide) ?_
      refine GA.locals [(0, .ref (L 500)), (1, .int (J a1)), (2, .int (J a2)), (3, .int (J a3)), (4, .int (J x10))] ⟨rfl, rfl, rfl, rfl, rfl, trivial⟩ ?_
      exact ih_X12_deepOf_5 hL _ _ (a1) (a2) (a3) (x10) _ _ H
    · have H := it_f H c9
      refine GA.iload dX12_deepOf_56 rfl ?_
      refine GA.iload_n dX12_deepOf_58 rfl ?_
      obtain ⟨hg12, H⟩ := gg_e H
      obtain ⟨hg13, H⟩ := gg_e H
      refine GV.icmp_le (tgt := 67) hg12 hg13 dX12_deepOf_59 (by decide) (fun c14 => ?_) (fun c14 => ?_)
      · have H := it_t H c14
        refine GA.iload_n dX12_deepOf_67 rfl ?_
        refine GA.istore_n dX12_deepOf_68 (by decide) ?_
        obtain ⟨x15, hx16, H⟩ := gv_e H
        refine GV.iinc hx16 dX12_deepOf_69 rfl (by decide) ?_
        refine GA.goto (tgt := 5) dX12_deepOf_72 (by decide) ?_
        refine GA.locals [(0, .ref (L 500)), (1, .int (J a1)), (2, .int (J a2)), (3, .int (J a3)), (4, .int (J x15))] ⟨rfl, rfl, rfl, rfl, rfl, trivial⟩ ?_
        exact ih_X12_deepOf_5 hL _ _ (a1) (a2) (a3) (x15) _ _ H
      · have H := it_f H c14
        refine GA.iload dX12_deepOf_62 rfl ?_
        refine GA.goto (tgt := 68) dX12_deepOf_64 (by decide) ?_
        refine GA.istore_n dX12_deepOf_68 (by decide) ?_
        obtain ⟨x17, hx18, H⟩ := gv_e H
        refine GV.iinc hx18 dX12_deepOf_69 rfl (by decide) ?_
        refine GA.goto (tgt := 5) dX12_deepOf_72 (by decide) ?_
        refine GA.locals [(0, .ref (L 500)), (1, .int (J a1)), (2, .int (J a2)), (3, .int (J a5)), (4, .int (J x17))] ⟨rfl, rfl, rfl, rfl, rfl, trivial⟩ ?_
        exact ih_X12_deepOf_5 hL _ _ (a1) (a2) (a5) (x17) _ _ H
  · have H := it_f H c3
    obtain ⟨x19, hx20, H⟩ := gv_e H
    refine GV.iinc hx20 dX12_deepOf_29 rfl (by decide) ?_
    refine GA.aload_n dX12_deepOf_32 rfl ?_
    refine GA.iload_n dX12_deepOf_33 rfl ?_
    refine GA.iload dX12_deepOf_34 rfl ?_
    refine GA.iconst dX12_deepOf_36 ?_
    obtain ⟨hg21, H⟩ := gg_e H
    obtain ⟨x22, S_23, hc24, H⟩ := gc_e H
    refine GA.callV (m_X12_part hL hc24) xs_X12_36 dX12_deepOf_37 (gs_500 hL) (by decide) rfl rfl (by omega) (by decide) rfl (Nat.le_of_ble_eq_true rfl) (by omega) (by omega) rfl (fun E S9 hx => hx.elim) (fun v S9 hq => ?_)
    obtain ⟨rfl, rfl⟩ := hq
    refine GA.istore dX12_deepOf_40 (by decide) ?_
    refine GA.goto (tgt := 23) dX12_deepOf_42 (by decide) ?_
    refine GA.locals [(0, .ref (L 500)), (1, .int (J a1)), (2, .int (J a2)), (3, .int (J a3)), (4, .int (J a4)), (5, .int (J x19)), (6, .int (J x22))] ⟨rfl, rfl, rfl, rfl, rfl, rfl, rfl, trivial⟩ ?_
    exact ih_X12_deepOf_23 hL _ _ (a1) (a2) (a3) (a4) (x19) (x22) _ _ H
theorem g_X12_deepOf {l : Launch} {Z : XZ} {L : Nat → Nat} : ∀ n, P_X12_deepOf_0 l Z L n ∧ P_X12_deepOf_5 l Z L n ∧ P_X12_deepOf_23 l Z L n
  | 0 => ⟨fun _ _ _ _ _ _ _ H => no_e H, fun _ _ _ _ _ _ _ _ _ H => no_e H, fun _ _ _ _ _ _ _ _ _ _ _ H => no_e H⟩
  | n + 1 => have ⟨h0, h1, h2⟩ := g_X12_deepOf (l := l) (Z := Z) (L := L) n
    ⟨t_X12_deepOf_0 n h0 h1 h2, t_X12_deepOf_5 n h0 h1 h2, t_X12_deepOf_23 n h0 h1 h2⟩
theorem m_X12_deepOf {l : Launch} {Z : XZ} {L : Nat → Nat} (hL : L 700 = 1) {n d : Nat} {S : GS} {a1 : Int} {a2 : Int} {x : Int} {S1 : GS} (H : f_X12_deepOf n d 0 S [a1, a2] = some (x, S1)) : GM l Z L yX12_deepOf cX12_deepOf 7 (some .int) [] d 0 0 [.ref (L 500), .int (J a1), .int (J a2)] S (fun v S' => v = some (.int (J x)) ∧ S1 = S') (fun _ _ => False) := GM.of (by decide) (Nat.le_of_ble_eq_true rfl) ((g_X12_deepOf n).1 hL _ _ _ _ _ _ H)

def P_X12_isWhole_0 (l : Launch) (Z : XZ) (L : Nat → Nat) (n : Nat) : Prop := ∀ (hL : L 700 = 1), ∀ (d : Nat) (S : GS) (a1 : Int) (x : Int) (S1 : GS), f_X12_isWhole n d 0 S [a1] = some (x, S1) → GA l Z L yX12_isWhole cX12_isWhole 2 (some .boolean) [] d 0 0 (fun v S' => v = some (.int (J x)) ∧ S1 = S') (fun _ _ => False) 0 (gl [(0, .ref (L 500)), (1, .int (J a1))]) [] S 0 0
theorem i_X12_isWhole {l : Launch} {Z : XZ} {L : Nat → Nat} (hL : L 700 = 1) {n : Nat} (ih : P_X12_isWhole_0 l Z L n) {d : Nat} {S : GS} {a1 : Int} {x : Int} {S1 : GS} (H : f_X12_isWhole n d 0 S [a1] = some (x, S1)) : GM l Z L yX12_isWhole cX12_isWhole 2 (some .boolean) [] d 0 0 [.ref (L 500), .int (J a1)] S (fun v S' => v = some (.int (J x)) ∧ S1 = S') (fun _ _ => False) := GM.of (by decide) (Nat.le_of_ble_eq_true rfl) (ih hL _ _ _ _ _ H)
set_option maxHeartbeats 4000000 in
set_option maxRecDepth 20000 in
theorem t_X12_isWhole_0 {l : Launch} {Z : XZ} {L : Nat → Nat} (n : Nat) (ih_X12_isWhole_0 : P_X12_isWhole_0 l Z L n) : P_X12_isWhole_0 l Z L (n + 1) := by
  intro hL d S a1 x S1 H
  have H : b_X12_isWhole_0 n d (f_X12_isWhole n) S a1 = some (x, S1) := H
  unfold b_X12_isWhole_0 at H
  refine GA.aload_n dX12_isWhole_0 rfl ?_
  obtain ⟨x1, hx2, H⟩ := gv_e H
  refine GV.getB hx2 xf_X12_29 dX12_isWhole_1 (gs_500 hL) (by decide) rfl ?_
  obtain ⟨hg3, H⟩ := gg_e H
  refine GV.if_ne (tgt := 16) hg3 dX12_isWhole_4 (by decide) (fun c4 => ?_) (fun c4 => ?_)
  · have H := it_t H c4
    refine GA.iconst dX12_isWhole_16 ?_
    cases H
    exact GV.zret (by decide) rfl dX12_isWhole_17 (by omega) (by omega) ⟨rfl, rfl⟩
  · have H := it_f H c4
    refine GA.aload_n dX12_isWhole_7 rfl ?_
    refine GA.get xf_X12_26 dX12_isWhole_8 (gs_500 hL) (by decide) rfl ?_
    refine GA.iload_n dX12_isWhole_11 rfl ?_
    obtain ⟨hg5, H⟩ := gg_e H
    obtain ⟨x6, hx7, H⟩ := gv_e H
    refine GV.iald hg5 hx7 dX12_isWhole_12 (gs_502 hL) (by decide) ?_
    obtain ⟨hg8, H⟩ := gg_e H
    refine GV.if_ne (tgt := 18) hg8 dX12_isWhole_13 (by decide) (fun c9 => ?_) (fun c9 => ?_)
    · have H := it_t H c9
      refine GA.aload_n dX12_isWhole_18 rfl ?_
      refine GA.iload_n dX12_isWhole_19 rfl ?_
      obtain ⟨hg10, H⟩ := gg_e H
      obtain ⟨x11, S_12, hc13, H⟩ := gc_e H
      refine GA.callV (m_X12_link hL hc13) xs_X12_55 dX12_isWhole_20 (gs_500 hL) (by decide) rfl rfl (by omega) (by decide) rfl (Nat.le_of_ble_eq_true rfl) (by omega) (by omega) rfl (fun E S9 hx => hx.elim) (fun v S9 hq => ?_)
      obtain ⟨rfl, rfl⟩ := hq
      refine GA.aload_n dX12_isWhole_23 rfl ?_
      refine GA.iload_n dX12_isWhole_24 rfl ?_
      refine GA.iconst dX12_isWhole_25 ?_
      obtain ⟨x14, S_15, hc16, H⟩ := gc_e H
      refine GA.callV (m_X12_deepOf hL hc16) xs_X12_59 dX12_isWhole_26 (gs_500 hL) (by decide) rfl rfl (by omega) (by decide) rfl (Nat.le_of_ble_eq_true rfl) (by omega) (by omega) rfl (fun E S9 hx => hx.elim) (fun v S9 hq => ?_)
      obtain ⟨rfl, rfl⟩ := hq
      refine GA.bipush dX12_isWhole_29 rfl ?_
      obtain ⟨hg17, H⟩ := gg_e H
      refine GV.icmp_gt (tgt := 38) hg17 (by decide) dX12_isWhole_31 (by decide) (fun c18 => ?_) (fun c18 => ?_)
      · have H := it_t H c18
        refine GA.iconst dX12_isWhole_38 ?_
        cases H
        exact GV.zret (by decide) rfl dX12_isWhole_39 (by omega) (by omega) ⟨rfl, rfl⟩
      · have H := it_f H c18
        refine GA.iconst dX12_isWhole_34 ?_
        refine GA.goto (tgt := 39) dX12_isWhole_35 (by decide) ?_
        cases H
        exact GV.zret (by decide) rfl dX12_isWhole_39 (by omega) (by omega) ⟨rfl, rfl⟩
    · have H := it_f H c9
      refine GA.iconst dX12_isWhole_16 ?_
      cases H
      exact GV.zret (by decide) rfl dX12_isWhole_17 (by omega) (by omega) ⟨rfl, rfl⟩
theorem g_X12_isWhole {l : Launch} {Z : XZ} {L : Nat → Nat} : ∀ n, P_X12_isWhole_0 l Z L n
  | 0 => fun _ _ _ _ _ _ H => no_e H
  | n + 1 => t_X12_isWhole_0 n (g_X12_isWhole n)
theorem m_X12_isWhole {l : Launch} {Z : XZ} {L : Nat → Nat} (hL : L 700 = 1) {n d : Nat} {S : GS} {a1 : Int} {x : Int} {S1 : GS} (H : f_X12_isWhole n d 0 S [a1] = some (x, S1)) : GM l Z L yX12_isWhole cX12_isWhole 2 (some .boolean) [] d 0 0 [.ref (L 500), .int (J a1)] S (fun v S' => v = some (.int (J x)) ∧ S1 = S') (fun _ _ => False) := GM.of (by decide) (Nat.le_of_ble_eq_true rfl) ((g_X12_isWhole n) hL _ _ _ _ _ H)

def P_X12_keeps_0 (l : Launch) (Z : XZ) (L : Nat → Nat) (n : Nat) : Prop := ∀ (hL : L 700 = 1), ∀ (d : Nat) (S : GS) (a1 : Int) (x : Int) (S1 : GS), f_X12_keeps n d 0 S [a1] = some (x, S1) → GA l Z L yX12_keeps cX12_keeps 3 (some .int) [] d 0 0 (fun v S' => v = some (.int (J x)) ∧ S1 = S') (fun _ _ => False) 0 (gl [(0, .ref (L 500)), (1, .int (J a1))]) [] S 0 0
def P_X12_keeps_17 (l : Launch) (Z : XZ) (L : Nat → Nat) (n : Nat) : Prop := ∀ (hL : L 700 = 1), ∀ (d : Nat) (S : GS) (a1 : Int) (a2 : Int) (x : Int) (S1 : GS), f_X12_keeps n d 17 S [a1, a2] = some (x, S1) → GA l Z L yX12_keeps cX12_keeps 3 (some .int) [] d 0 0 (fun v S' => v = some (.int (J x)) ∧ S1 = S') (fun _ _ => False) 17 (gl [(0, .ref (L 500)), (1, .int (J a1)), (2, .int (J a2))]) [] S 0 0
theorem i_X12_keeps {l : Launch} {Z : XZ} {L : Nat → Nat} (hL : L 700 = 1) {n : Nat} (ih : P_X12_keeps_0 l Z L n) {d : Nat} {S : GS} {a1 : Int} {x : Int} {S1 : GS} (H : f_X12_keeps n d 0 S [a1] = some (x, S1)) : GM l Z L yX12_keeps cX12_keeps 3 (some .int) [] d 0 0 [.ref (L 500), .int (J a1)] S (fun v S' => v = some (.int (J x)) ∧ S1 = S') (fun _ _ => False) := GM.of (by decide) (Nat.le_of_ble_eq_true rfl) (ih hL _ _ _ _ _ H)
set_option maxHeartbeats 4000000 in
set_option maxRecDepth 20000 in
theorem t_X12_keeps_0 {l : Launch} {Z : XZ} {L : Nat → Nat} (n : Nat) (ih_X12_keeps_0 : P_X12_keeps_0 l Z L n) (ih_X12_keeps_17 : P_X12_keeps_17 l Z L n) : P_X12_keeps_0 l Z L (n + 1) := by
  intro hL d S a1 x S1 H
  have H : b_X12_keeps_0 n d (f_X12_keeps n) S a1 = some (x, S1) := H
  unfold b_X12_keeps_0 at H
  refine GA.aload_n dX12_keeps_0 rfl ?_
  refine GA.get xf_X12_26 dX12_keeps_1 (gs_500 hL) (by decide) rfl ?_
  refine GA.aload_n dX12_keeps_4 rfl ?_
  obtain ⟨x1, hx2, H⟩ := gv_e H
  refine GV.getI hx2 xf_X12_15 dX12_keeps_5 (gs_500 hL) (by decide) rfl ?_
  refine GA.aload_n dX12_keeps_8 rfl ?_
  refine GA.get xf_X12_26 dX12_keeps_9 (gs_500 hL) (by decide) rfl ?_
  refine GA.iload_n dX12_keeps_12 rfl ?_
  obtain ⟨hg3, H⟩ := gg_e H
  obtain ⟨x4, hx5, H⟩ := gv_e H
  refine GV.iald hg3 hx5 dX12_keeps_13 (gs_502 hL) (by decide) ?_
  obtain ⟨hg6, H⟩ := gg_e H
  obtain ⟨S_7, hx8, H⟩ := gv_e H
  refine GV.iast hg6 hx8 dX12_keeps_14 (fun _ => (gs_502 hL)) (by decide) ?_
  refine GA.iconst dX12_keeps_15 ?_
  refine GA.istore_n dX12_keeps_16 (by decide) ?_
  refine GA.locals [(0, .ref (L 500)), (1, .int (J a1)), (2, .int (J 0))] ⟨rfl, rfl, rfl, trivial⟩ ?_
  exact ih_X12_keeps_17 hL _ _ (a1) (0) _ _ H
set_option maxHeartbeats 4000000 in
set_option maxRecDepth 20000 in
theorem t_X12_keeps_17 {l : Launch} {Z : XZ} {L : Nat → Nat} (n : Nat) (ih_X12_keeps_0 : P_X12_keeps_0 l Z L n) (ih_X12_keeps_17 : P_X12_keeps_17 l Z L n) : P_X12_keeps_17 l Z L (n + 1) := by
  intro hL d S a1 a2 x S1 H
  have H : b_X12_keeps_17 n d (f_X12_keeps n) S a1 a2 = some (x, S1) := H
  unfold b_X12_keeps_17 at H
  refine GA.iload_n dX12_keeps_17 rfl ?_
  refine GA.aload_n dX12_keeps_18 rfl ?_
  refine GA.get xf_X12_26 dX12_keeps_19 (gs_500 hL) (by decide) rfl ?_
  refine GA.iload_n dX12_keeps_22 rfl ?_
  obtain ⟨hg1, H⟩ := gg_e H
  obtain ⟨x2, hx3, H⟩ := gv_e H
  refine GV.iald hg1 hx3 dX12_keeps_23 (gs_502 hL) (by decide) ?_
  refine GA.bipush dX12_keeps_24 rfl ?_
  obtain ⟨x4, hx5, H⟩ := gv_e H
  refine GV.imul hx5 dX12_keeps_26 ?_
  obtain ⟨hg6, H⟩ := gg_e H
  obtain ⟨hg7, H⟩ := gg_e H
  refine GV.icmp_ge (tgt := 63) hg6 hg7 dX12_keeps_27 (by decide) (fun c8 => ?_) (fun c8 => ?_)
  · have H := it_t H c8
    refine GA.aload_n dX12_keeps_63 rfl ?_
    refine GA.dup dX12_keeps_64 rfl ?_
    obtain ⟨x9, hx10, H⟩ := gv_e H
    refine GV.getI hx10 xf_X12_15 dX12_keeps_65 (gs_500 hL) (by decide) rfl ?_
    refine GA.iconst dX12_keeps_68 ?_
    obtain ⟨x11, hx12, H⟩ := gv_e H
    refine GV.iadd hx12 dX12_keeps_69 ?_
    obtain ⟨S_13, hx14, H⟩ := gv_e H
    refine GV.putI hx14 (xp_X12_15 _) dX12_keeps_70 (gs_500 hL) (by decide) (Nat.le_of_ble_eq_true rfl) (gs_500 hL) ?_
    refine GA.aload_n dX12_keeps_73 rfl ?_
    obtain ⟨x15, hx16, H⟩ := gv_e H
    refine GV.getI hx16 xf_X12_15 dX12_keeps_74 (gs_500 hL) (by decide) rfl ?_
    refine GA.iconst dX12_keeps_77 ?_
    obtain ⟨x17, hx18, H⟩ := gv_e H
    refine GV.isub hx18 dX12_keeps_78 ?_
    cases H
    exact GA.iret rfl dX12_keeps_79 (by omega) (by omega) ⟨rfl, rfl⟩
  · have H := it_f H c8
    refine GA.aload_n dX12_keeps_30 rfl ?_
    refine GA.get xf_X12_7 dX12_keeps_31 (gs_500 hL) (by decide) rfl ?_
    refine GA.aload_n dX12_keeps_34 rfl ?_
    obtain ⟨x19, hx20, H⟩ := gv_e H
    refine GV.getI hx20 xf_X12_15 dX12_keeps_35 (gs_500 hL) (by decide) rfl ?_
    refine GA.iconst dX12_keeps_38 ?_
    obtain ⟨hg21, H⟩ := gg_e H
    obtain ⟨x22, S_23, hc24, H⟩ := gc_e H
    refine GA.callS (m_X12_at hL hc24) xs_X12_11 dX12_keeps_39 rfl (by omega) (by decide) rfl (Nat.le_of_ble_eq_true rfl) (by omega) (by omega) rfl (fun E S9 hx => hx.elim) (fun v S9 hq => ?_)
    obtain ⟨rfl, rfl⟩ := hq
    refine GA.iload_n dX12_keeps_42 rfl ?_
    obtain ⟨x25, hx26, H⟩ := gv_e H
    refine GV.iadd hx26 dX12_keeps_43 ?_
    refine GA.aload_n dX12_keeps_44 rfl ?_
    refine GA.get xf_X12_7 dX12_keeps_45 (gs_500 hL) (by decide) rfl ?_
    refine GA.iload_n dX12_keeps_48 rfl ?_
    refine GA.iconst dX12_keeps_49 ?_
    obtain ⟨x27, S_28, hc29, H⟩ := gc_e H
    refine GA.callS (m_X12_at hL hc29) xs_X12_11 dX12_keeps_50 rfl (by omega) (by decide) rfl (Nat.le_of_ble_eq_true rfl) (by omega) (by omega) rfl (fun E S9 hx => hx.elim) (fun v S9 hq => ?_)
    obtain ⟨rfl, rfl⟩ := hq
    refine GA.iload_n dX12_keeps_53 rfl ?_
    obtain ⟨x30, hx31, H⟩ := gv_e H
    refine GV.iadd hx31 dX12_keeps_54 ?_
    obtain ⟨hg32, H⟩ := gg_e H
    obtain ⟨x33, hx34, H⟩ := gv_e H
    refine GV.iald hg32 hx34 dX12_keeps_55 (gs_501 hL) (by decide) ?_
    obtain ⟨hg35, H⟩ := gg_e H
    obtain ⟨S_36, hx37, H⟩ := gv_e H
    refine GV.iast hg35 hx37 dX12_keeps_56 (fun _ => (gs_501 hL)) (by decide) ?_
    obtain ⟨x38, hx39, H⟩ := gv_e H
    refine GV.iinc hx39 dX12_keeps_57 rfl (by decide) ?_
    refine GA.goto (tgt := 17) dX12_keeps_60 (by decide) ?_
    refine GA.locals [(0, .ref (L 500)), (1, .int (J a1)), (2, .int (J x38))] ⟨rfl, rfl, rfl, trivial⟩ ?_
    exact ih_X12_keeps_17 hL _ _ (a1) (x38) _ _ H
theorem g_X12_keeps {l : Launch} {Z : XZ} {L : Nat → Nat} : ∀ n, P_X12_keeps_0 l Z L n ∧ P_X12_keeps_17 l Z L n
  | 0 => ⟨fun _ _ _ _ _ _ H => no_e H, fun _ _ _ _ _ _ _ H => no_e H⟩
  | n + 1 => have ⟨h0, h1⟩ := g_X12_keeps (l := l) (Z := Z) (L := L) n
    ⟨t_X12_keeps_0 n h0 h1, t_X12_keeps_17 n h0 h1⟩
theorem m_X12_keeps {l : Launch} {Z : XZ} {L : Nat → Nat} (hL : L 700 = 1) {n d : Nat} {S : GS} {a1 : Int} {x : Int} {S1 : GS} (H : f_X12_keeps n d 0 S [a1] = some (x, S1)) : GM l Z L yX12_keeps cX12_keeps 3 (some .int) [] d 0 0 [.ref (L 500), .int (J a1)] S (fun v S' => v = some (.int (J x)) ∧ S1 = S') (fun _ _ => False) := GM.of (by decide) (Nat.le_of_ble_eq_true rfl) ((g_X12_keeps n).1 hL _ _ _ _ _ H)

def P_X12_both_0 (l : Launch) (Z : XZ) (L : Nat → Nat) (n : Nat) : Prop := ∀ (hL : L 700 = 1), ∀ (d : Nat) (S : GS) (a1 : Int) (a2 : Int) (x : Int) (S1 : GS), f_X12_both n d 0 S [a1, a2] = some (x, S1) → GA l Z L yX12_both cX12_both 4 (some .int) [] d 0 0 (fun v S' => v = some (.int (J x)) ∧ S1 = S') (fun _ _ => False) 0 (gl [(0, .ref (L 500)), (1, .int (J a1)), (2, .int (J a2))]) [] S 0 0
def P_X12_both_22 (l : Launch) (Z : XZ) (L : Nat → Nat) (n : Nat) : Prop := ∀ (hL : L 700 = 1), ∀ (d : Nat) (S : GS) (a1 : Int) (a2 : Int) (s0 : Int) (x : Int) (S1 : GS), f_X12_both n d 22 S [a1, a2, s0] = some (x, S1) → GA l Z L yX12_both cX12_both 4 (some .int) [] d 0 0 (fun v S' => v = some (.int (J x)) ∧ S1 = S') (fun _ _ => False) 22 (gl [(0, .ref (L 500)), (1, .int (J a1)), (2, .int (J a2))]) [.int (J s0), .ref (L 500)] S 0 0
def P_X12_both_111 (l : Launch) (Z : XZ) (L : Nat → Nat) (n : Nat) : Prop := ∀ (hL : L 700 = 1), ∀ (d : Nat) (S : GS) (s0 : Int) (x : Int) (S1 : GS), f_X12_both n d 111 S [s0] = some (x, S1) → GA l Z L yX12_both cX12_both 4 (some .int) [] d 0 0 (fun v S' => v = some (.int (J x)) ∧ S1 = S') (fun _ _ => False) 111 (gl [(0, .ref (L 500))]) [.int (J s0), .ref (L 500)] S 0 0
theorem i_X12_both {l : Launch} {Z : XZ} {L : Nat → Nat} (hL : L 700 = 1) {n : Nat} (ih : P_X12_both_0 l Z L n) {d : Nat} {S : GS} {a1 : Int} {a2 : Int} {x : Int} {S1 : GS} (H : f_X12_both n d 0 S [a1, a2] = some (x, S1)) : GM l Z L yX12_both cX12_both 4 (some .int) [] d 0 0 [.ref (L 500), .int (J a1), .int (J a2)] S (fun v S' => v = some (.int (J x)) ∧ S1 = S') (fun _ _ => False) := GM.of (by decide) (Nat.le_of_ble_eq_true rfl) (ih hL _ _ _ _ _ _ H)
set_option maxHeartbeats 4000000 in
set_option maxRecDepth 20000 in
theorem t_X12_both_0 {l : Launch} {Z : XZ} {L : Nat → Nat} (n : Nat) (ih_X12_both_0 : P_X12_both_0 l Z L n) (ih_X12_both_22 : P_X12_both_22 l Z L n) (ih_X12_both_111 : P_X12_both_111 l Z L n) : P_X12_both_0 l Z L (n + 1) := by
  intro hL d S a1 a2 x S1 H
  have H : b_X12_both_0 n d (f_X12_both n) S a1 a2 = some (x, S1) := H
  unfold b_X12_both_0 at H
  refine GA.aload_n dX12_both_0 rfl ?_
  refine GA.aload_n dX12_both_1 rfl ?_
  refine GA.iload_n dX12_both_2 rfl ?_
  obtain ⟨hg1, H⟩ := gg_e H
  obtain ⟨x2, S_3, hc4, H⟩ := gc_e H
  refine GA.callV (m_X12_isDoc hL hc4) xs_X12_22 dX12_both_3 (gs_500 hL) (by decide) rfl rfl (by omega) (by decide) rfl (Nat.le_of_ble_eq_true rfl) (by omega) (by omega) rfl (fun E S9 hx => hx.elim) (fun v S9 hq => ?_)
  obtain ⟨rfl, rfl⟩ := hq
  obtain ⟨hg5, H⟩ := gg_e H
  refine GV.if_eq (tgt := 21) hg5 dX12_both_6 (by decide) (fun c6 => ?_) (fun c6 => ?_)
  · have H := it_t H c6
    refine GA.iconst dX12_both_21 ?_
    refine GA.locals [(0, .ref (L 500)), (1, .int (J a1)), (2, .int (J a2))] ⟨rfl, rfl, rfl, trivial⟩ ?_
    exact ih_X12_both_22 hL _ _ (a1) (a2) (0) _ _ H
  · have H := it_f H c6
    refine GA.aload_n dX12_both_9 rfl ?_
    refine GA.iload_n dX12_both_10 rfl ?_
    obtain ⟨x7, S_8, hc9, H⟩ := gc_e H
    refine GA.callV (m_X12_isDoc hL hc9) xs_X12_22 dX12_both_11 (gs_500 hL) (by decide) rfl rfl (by omega) (by decide) rfl (Nat.le_of_ble_eq_true rfl) (by omega) (by omega) rfl (fun E S9 hx => hx.elim) (fun v S9 hq => ?_)
    obtain ⟨rfl, rfl⟩ := hq
    obtain ⟨hg10, H⟩ := gg_e H
    refine GV.if_eq (tgt := 21) hg10 dX12_both_14 (by decide) (fun c11 => ?_) (fun c11 => ?_)
    · have H := it_t H c11
      refine GA.iconst dX12_both_21 ?_
      refine GA.locals [(0, .ref (L 500)), (1, .int (J a1)), (2, .int (J a2))] ⟨rfl, rfl, rfl, trivial⟩ ?_
      exact ih_X12_both_22 hL _ _ (a1) (a2) (0) _ _ H
    · have H := it_f H c11
      refine GA.iconst dX12_both_17 ?_
      refine GA.goto (tgt := 22) dX12_both_18 (by decide) ?_
      refine GA.locals [(0, .ref (L 500)), (1, .int (J a1)), (2, .int (J a2))] ⟨rfl, rfl, rfl, trivial⟩ ?_
      exact ih_X12_both_22 hL _ _ (a1) (a2) (1) _ _ H
set_option maxHeartbeats 4000000 in
set_option maxRecDepth 20000 in
theorem t_X12_both_22 {l : Launch} {Z : XZ} {L : Nat → Nat} (n : Nat) (ih_X12_both_0 : P_X12_both_0 l Z L n) (ih_X12_both_22 : P_X12_both_22 l Z L n) (ih_X12_both_111 : P_X12_both_111 l Z L n) : P_X12_both_22 l Z L (n + 1) := by
  intro hL d S a1 a2 s0 x S1 H
  have H : b_X12_both_22 n d (f_X12_both n) S a1 a2 s0 = some (x, S1) := H
  unfold b_X12_both_22 at H
  refine GA.iconst dX12_both_22 ?_
  obtain ⟨hg1, H⟩ := gg_e H
  obtain ⟨x2, S_3, hc4, H⟩ := gc_e H
  refine GA.callV (m_X12_fails hL hc4) xs_X12_456 dX12_both_23 (gs_500 hL) (by decide) rfl rfl (by omega) (by decide) rfl (Nat.le_of_ble_eq_true rfl) (by omega) (by omega) rfl (fun E S9 hx => hx.elim) (fun v S9 hq => ?_)
  obtain ⟨rfl, rfl⟩ := hq
  obtain ⟨hg5, H⟩ := gg_e H
  refine GV.if_eq (tgt := 31) hg5 dX12_both_26 (by decide) (fun c6 => ?_) (fun c6 => ?_)
  · have H := it_t H c6
    refine GA.aload_n dX12_both_31 rfl ?_
    refine GA.bipush dX12_both_32 rfl ?_
    obtain ⟨x7, S_8, hc9, H⟩ := gc_e H
    refine GA.callV (m_X12_begin hL hc9) xs_X12_517 dX12_both_34 (gs_500 hL) (by decide) rfl rfl (by omega) (by decide) rfl (Nat.le_of_ble_eq_true rfl) (by omega) (by omega) rfl (fun E S9 hx => hx.elim) (fun v S9 hq => ?_)
    obtain ⟨rfl, rfl⟩ := hq
    refine GA.aload_n dX12_both_37 rfl ?_
    refine GA.bipush dX12_both_38 rfl ?_
    refine GA.iconst dX12_both_40 ?_
    obtain ⟨x10, S_11, hc12, H⟩ := gc_e H
    refine GA.callV (m_X12_added hL hc12) xs_X12_33 dX12_both_41 (gs_500 hL) (by decide) rfl rfl (by omega) (by decide) rfl (Nat.le_of_ble_eq_true rfl) (by omega) (by omega) rfl (fun E S9 hx => hx.elim) (fun v S9 hq => ?_)
    obtain ⟨rfl, rfl⟩ := hq
    refine GA.istore_n dX12_both_44 (by decide) ?_
    refine GA.aload_n dX12_both_45 rfl ?_
    refine GA.get xf_X12_7 dX12_both_46 (gs_500 hL) (by decide) rfl ?_
    refine GA.bipush dX12_both_49 rfl ?_
    refine GA.iload_n dX12_both_51 rfl ?_
    obtain ⟨x13, S_14, hc15, H⟩ := gc_e H
    refine GA.callS (m_X12_at hL hc15) xs_X12_11 dX12_both_52 rfl (by omega) (by decide) rfl (Nat.le_of_ble_eq_true rfl) (by omega) (by omega) rfl (fun E S9 hx => hx.elim) (fun v S9 hq => ?_)
    obtain ⟨rfl, rfl⟩ := hq
    refine GA.iconst dX12_both_55 ?_
    obtain ⟨x16, hx17, H⟩ := gv_e H
    refine GV.iadd hx17 dX12_both_56 ?_
    refine GA.iconst dX12_both_57 ?_
    obtain ⟨hg18, H⟩ := gg_e H
    obtain ⟨S_19, hx20, H⟩ := gv_e H
    refine GV.iast hg18 hx20 dX12_both_58 (fun _ => (gs_501 hL)) (by decide) ?_
    refine GA.aload_n dX12_both_59 rfl ?_
    refine GA.bipush dX12_both_60 rfl ?_
    refine GA.iload_n dX12_both_62 rfl ?_
    refine GA.iconst dX12_both_63 ?_
    refine GA.aload_n dX12_both_64 rfl ?_
    refine GA.get xf_X12_26 dX12_both_65 (gs_500 hL) (by decide) rfl ?_
    refine GA.iload_n dX12_both_68 rfl ?_
    obtain ⟨hg21, H⟩ := gg_e H
    obtain ⟨x22, hx23, H⟩ := gv_e H
    refine GV.iald hg21 hx23 dX12_both_69 (gs_502 hL) (by decide) ?_
    obtain ⟨x24, S_25, hc26, H⟩ := gc_e H
    refine GA.callV (m_X12_copies hL hc26) xs_X12_598 dX12_both_70 (gs_500 hL) (by decide) rfl rfl (by omega) (by decide) rfl (Nat.le_of_ble_eq_true rfl) (by omega) (by omega) rfl (fun E S9 hx => hx.elim) (fun v S9 hq => ?_)
    obtain ⟨rfl, rfl⟩ := hq
    refine GA.aload_n dX12_both_73 rfl ?_
    refine GA.bipush dX12_both_74 rfl ?_
    refine GA.iload_n dX12_both_76 rfl ?_
    refine GA.iconst dX12_both_77 ?_
    refine GA.aload_n dX12_both_78 rfl ?_
    refine GA.get xf_X12_26 dX12_both_79 (gs_500 hL) (by decide) rfl ?_
    refine GA.iload_n dX12_both_82 rfl ?_
    obtain ⟨hg27, H⟩ := gg_e H
    obtain ⟨x28, hx29, H⟩ := gv_e H
    refine GV.iald hg27 hx29 dX12_both_83 (gs_502 hL) (by decide) ?_
    obtain ⟨x30, S_31, hc32, H⟩ := gc_e H
    refine GA.callV (m_X12_copies hL hc32) xs_X12_598 dX12_both_84 (gs_500 hL) (by decide) rfl rfl (by omega) (by decide) rfl (Nat.le_of_ble_eq_true rfl) (by omega) (by omega) rfl (fun E S9 hx => hx.elim) (fun v S9 hq => ?_)
    obtain ⟨rfl, rfl⟩ := hq
    refine GA.aload_n dX12_both_87 rfl ?_
    refine GA.aload_n dX12_both_88 rfl ?_
    refine GA.bipush dX12_both_89 rfl ?_
    obtain ⟨x33, S_34, hc35, H⟩ := gc_e H
    refine GA.callV (m_X12_isWhole hL hc35) xs_X12_601 dX12_both_91 (gs_500 hL) (by decide) rfl rfl (by omega) (by decide) rfl (Nat.le_of_ble_eq_true rfl) (by omega) (by omega) rfl (fun E S9 hx => hx.elim) (fun v S9 hq => ?_)
    obtain ⟨rfl, rfl⟩ := hq
    obtain ⟨hg36, H⟩ := gg_e H
    refine GV.if_eq (tgt := 110) hg36 dX12_both_94 (by decide) (fun c37 => ?_) (fun c37 => ?_)
    · have H := it_t H c37
      refine GA.iconst dX12_both_110 ?_
      refine GA.locals [(0, .ref (L 500))] ⟨rfl, trivial⟩ ?_
      exact ih_X12_both_111 hL _ _ (0) _ _ H
    · have H := it_f H c37
      refine GA.aload_n dX12_both_97 rfl ?_
      obtain ⟨x38, hx39, H⟩ := gv_e H
      refine GV.getI hx39 xf_X12_15 dX12_both_98 (gs_500 hL) (by decide) rfl ?_
      refine GA.bipush dX12_both_101 rfl ?_
      obtain ⟨hg40, H⟩ := gg_e H
      refine GV.icmp_ge (tgt := 110) hg40 (by decide) dX12_both_103 (by decide) (fun c41 => ?_) (fun c41 => ?_)
      · have H := it_t H c41
        refine GA.iconst dX12_both_110 ?_
        refine GA.locals [(0, .ref (L 500))] ⟨rfl, trivial⟩ ?_
        exact ih_X12_both_111 hL _ _ (0) _ _ H
      · have H := it_f H c41
        refine GA.iconst dX12_both_106 ?_
        refine GA.goto (tgt := 111) dX12_both_107 (by decide) ?_
        refine GA.locals [(0, .ref (L 500))] ⟨rfl, trivial⟩ ?_
        exact ih_X12_both_111 hL _ _ (1) _ _ H
  · have H := it_f H c6
    refine GA.iconst dX12_both_29 ?_
    cases H
    exact GA.iret rfl dX12_both_30 (by omega) (by omega) ⟨rfl, rfl⟩
set_option maxHeartbeats 4000000 in
set_option maxRecDepth 20000 in
theorem t_X12_both_111 {l : Launch} {Z : XZ} {L : Nat → Nat} (n : Nat) (ih_X12_both_0 : P_X12_both_0 l Z L n) (ih_X12_both_22 : P_X12_both_22 l Z L n) (ih_X12_both_111 : P_X12_both_111 l Z L n) : P_X12_both_111 l Z L (n + 1) := by
  intro hL d S s0 x S1 H
  have H : b_X12_both_111 n d (f_X12_both n) S s0 = some (x, S1) := H
  unfold b_X12_both_111 at H
  refine GA.iconst dX12_both_111 ?_
  obtain ⟨hg1, H⟩ := gg_e H
  obtain ⟨x2, S_3, hc4, H⟩ := gc_e H
  refine GA.callV (m_X12_fails hL hc4) xs_X12_456 dX12_both_112 (gs_500 hL) (by decide) rfl rfl (by omega) (by decide) rfl (Nat.le_of_ble_eq_true rfl) (by omega) (by omega) rfl (fun E S9 hx => hx.elim) (fun v S9 hq => ?_)
  obtain ⟨rfl, rfl⟩ := hq
  obtain ⟨hg5, H⟩ := gg_e H
  refine GV.if_eq (tgt := 122) hg5 dX12_both_115 (by decide) (fun c6 => ?_) (fun c6 => ?_)
  · have H := it_t H c6
    refine GA.aload_n dX12_both_122 rfl ?_
    refine GA.bipush dX12_both_123 rfl ?_
    obtain ⟨x7, S_8, hc9, H⟩ := gc_e H
    refine GA.callV (m_X12_keeps hL hc9) xs_X12_536 dX12_both_125 (gs_500 hL) (by decide) rfl rfl (by omega) (by decide) rfl (Nat.le_of_ble_eq_true rfl) (by omega) (by omega) rfl (fun E S9 hx => hx.elim) (fun v S9 hq => ?_)
    obtain ⟨rfl, rfl⟩ := hq
    cases H
    exact GA.iret rfl dX12_both_128 (by omega) (by omega) ⟨rfl, rfl⟩
  · have H := it_f H c6
    refine GA.iconst dX12_both_118 ?_
    refine GA.goto (tgt := 128) dX12_both_119 (by decide) ?_
    cases H
    exact GA.iret rfl dX12_both_128 (by omega) (by omega) ⟨rfl, rfl⟩
theorem g_X12_both {l : Launch} {Z : XZ} {L : Nat → Nat} : ∀ n, P_X12_both_0 l Z L n ∧ P_X12_both_22 l Z L n ∧ P_X12_both_111 l Z L n
  | 0 => ⟨fun _ _ _ _ _ _ _ H => no_e H, fun _ _ _ _ _ _ _ _ H => no_e H, fun _ _ _ _ _ _ H => no_e H⟩
  | n + 1 => have ⟨h0, h1, h2⟩ := g_X12_both (l := l) (Z := Z) (L := L) n
    ⟨t_X12_both_0 n h0 h1 h2, t_X12_both_22 n h0 h1 h2, t_X12_both_111 n h0 h1 h2⟩
theorem m_X12_both {l : Launch} {Z : XZ} {L : Nat → Nat} (hL : L 700 = 1) {n d : Nat} {S : GS} {a1 : Int} {a2 : Int} {x : Int} {S1 : GS} (H : f_X12_both n d 0 S [a1, a2] = some (x, S1)) : GM l Z L yX12_both cX12_both 4 (some .int) [] d 0 0 [.ref (L 500), .int (J a1), .int (J a2)] S (fun v S' => v = some (.int (J x)) ∧ S1 = S') (fun _ _ => False) := GM.of (by decide) (Nat.le_of_ble_eq_true rfl) ((g_X12_both n).1 hL _ _ _ _ _ _ H)

def P_X12_step_0 (l : Launch) (Z : XZ) (L : Nat → Nat) (n : Nat) : Prop := ∀ (hL : L 700 = 1), ∀ (d : Nat) (S : GS) (a1 : Int) (x : Int) (S1 : GS), f_X12_step n d 0 S [a1] = some (x, S1) → GA l Z L yX12_step cX12_step 2 none [] d 0 0 (fun v S' => v = none ∧ S1 = S') (fun _ _ => False) 0 (gl [(0, .ref (L 500)), (1, .int (J a1))]) [] S 0 0
def P_X12_step_15 (l : Launch) (Z : XZ) (L : Nat → Nat) (n : Nat) : Prop := ∀ (hL : L 700 = 1), ∀ (d : Nat) (S : GS) (x : Int) (S1 : GS), f_X12_step n d 15 S [] = some (x, S1) → GA l Z L yX12_step cX12_step 2 none [] d 0 0 (fun v S' => v = none ∧ S1 = S') (fun _ _ => False) 15 (gl [(0, .ref (L 500))]) [] S 0 0
theorem i_X12_step {l : Launch} {Z : XZ} {L : Nat → Nat} (hL : L 700 = 1) {n : Nat} (ih : P_X12_step_0 l Z L n) {d : Nat} {S : GS} {a1 : Int} {x : Int} {S1 : GS} (H : f_X12_step n d 0 S [a1] = some (x, S1)) : GM l Z L yX12_step cX12_step 2 none [] d 0 0 [.ref (L 500), .int (J a1)] S (fun v S' => v = none ∧ S1 = S') (fun _ _ => False) := GM.of (by decide) (Nat.le_of_ble_eq_true rfl) (ih hL _ _ _ _ _ H)
set_option maxHeartbeats 4000000 in
set_option maxRecDepth 20000 in
theorem t_X12_step_0 {l : Launch} {Z : XZ} {L : Nat → Nat} (n : Nat) (ih_X12_step_0 : P_X12_step_0 l Z L n) (ih_X12_step_15 : P_X12_step_15 l Z L n) : P_X12_step_0 l Z L (n + 1) := by
  intro hL d S a1 x S1 H
  have H : b_X12_step_0 n d (f_X12_step n) S a1 = some (x, S1) := H
  unfold b_X12_step_0 at H
  refine GA.aload_n dX12_step_0 rfl ?_
  refine GA.iload_n dX12_step_1 rfl ?_
  refine GA.iconst dX12_step_2 ?_
  obtain ⟨x1, hx2, H⟩ := gv_e H
  refine GV.iadd hx2 dX12_step_3 ?_
  obtain ⟨S_3, hx4, H⟩ := gv_e H
  refine GV.putI hx4 (xp_X12_607 _) dX12_step_4 (gs_500 hL) (by decide) (Nat.le_of_ble_eq_true rfl) (gs_500 hL) ?_
  refine GA.aload_n dX12_step_7 rfl ?_
  refine GA.aload_n dX12_step_8 rfl ?_
  obtain ⟨x5, hx6, H⟩ := gv_e H
  refine GV.getI hx6 xf_X12_607 dX12_step_9 (gs_500 hL) (by decide) rfl ?_
  obtain ⟨S_7, hx8, H⟩ := gv_e H
  refine GV.putI hx8 (xp_X12_610 _) dX12_step_12 (gs_500 hL) (by decide) (Nat.le_of_ble_eq_true rfl) (gs_500 hL) ?_
  refine GA.locals [(0, .ref (L 500))] ⟨rfl, trivial⟩ ?_
  exact ih_X12_step_15 hL _ _ _ _ H
set_option maxHeartbeats 4000000 in
set_option maxRecDepth 20000 in
theorem t_X12_step_15 {l : Launch} {Z : XZ} {L : Nat → Nat} (n : Nat) (ih_X12_step_0 : P_X12_step_0 l Z L n) (ih_X12_step_15 : P_X12_step_15 l Z L n) : P_X12_step_15 l Z L (n + 1) := by
  intro hL d S  x S1 H
  have H : b_X12_step_15 n d (f_X12_step n) S  = some (x, S1) := H
  unfold b_X12_step_15 at H
  refine GA.aload_n dX12_step_15 rfl ?_
  obtain ⟨x1, hx2, H⟩ := gv_e H
  refine GV.getI hx2 xf_X12_610 dX12_step_16 (gs_500 hL) (by decide) rfl ?_
  refine GA.aload_n dX12_step_19 rfl ?_
  obtain ⟨x3, hx4, H⟩ := gv_e H
  refine GV.getI hx4 xf_X12_604 dX12_step_20 (gs_500 hL) (by decide) rfl ?_
  obtain ⟨hg5, H⟩ := gg_e H
  obtain ⟨hg6, H⟩ := gg_e H
  refine GV.icmp_ge (tgt := 53) hg5 hg6 dX12_step_23 (by decide) (fun c7 => ?_) (fun c7 => ?_)
  · have H := it_t H c7
    cases H
    exact GA.vret rfl dX12_step_53 (by omega) (by omega) ⟨rfl, rfl⟩
  · have H := it_f H c7
    refine GA.aload_n dX12_step_26 rfl ?_
    refine GA.get xf_X12_275 dX12_step_27 (gs_500 hL) (by decide) rfl ?_
    refine GA.aload_n dX12_step_30 rfl ?_
    obtain ⟨x8, hx9, H⟩ := gv_e H
    refine GV.getI hx9 xf_X12_610 dX12_step_31 (gs_500 hL) (by decide) rfl ?_
    obtain ⟨hg10, H⟩ := gg_e H
    obtain ⟨x11, hx12, H⟩ := gv_e H
    refine GV.iald hg10 hx12 dX12_step_34 (gs_518 hL) (by decide) ?_
    refine GA.bipush dX12_step_35 rfl ?_
    obtain ⟨hg13, H⟩ := gg_e H
    refine GV.icmp_eq (tgt := 53) hg13 (by decide) dX12_step_37 (by decide) (fun c14 => ?_) (fun c14 => ?_)
    · have H := it_t H c14
      cases H
      exact GA.vret rfl dX12_step_53 (by omega) (by omega) ⟨rfl, rfl⟩
    · have H := it_f H c14
      refine GA.aload_n dX12_step_40 rfl ?_
      refine GA.dup dX12_step_41 rfl ?_
      obtain ⟨x15, hx16, H⟩ := gv_e H
      refine GV.getI hx16 xf_X12_610 dX12_step_42 (gs_500 hL) (by decide) rfl ?_
      refine GA.iconst dX12_step_45 ?_
      obtain ⟨x17, hx18, H⟩ := gv_e H
      refine GV.iadd hx18 dX12_step_46 ?_
      obtain ⟨S_19, hx20, H⟩ := gv_e H
      refine GV.putI hx20 (xp_X12_610 _) dX12_step_47 (gs_500 hL) (by decide) (Nat.le_of_ble_eq_true rfl) (gs_500 hL) ?_
      refine GA.goto (tgt := 15) dX12_step_50 (by decide) ?_
      refine GA.locals [(0, .ref (L 500))] ⟨rfl, trivial⟩ ?_
      exact ih_X12_step_15 hL _ _ _ _ H
theorem g_X12_step {l : Launch} {Z : XZ} {L : Nat → Nat} : ∀ n, P_X12_step_0 l Z L n ∧ P_X12_step_15 l Z L n
  | 0 => ⟨fun _ _ _ _ _ _ H => no_e H, fun _ _ _ _ _ H => no_e H⟩
  | n + 1 => have ⟨h0, h1⟩ := g_X12_step (l := l) (Z := Z) (L := L) n
    ⟨t_X12_step_0 n h0 h1, t_X12_step_15 n h0 h1⟩
theorem m_X12_step {l : Launch} {Z : XZ} {L : Nat → Nat} (hL : L 700 = 1) {n d : Nat} {S : GS} {a1 : Int} {x : Int} {S1 : GS} (H : f_X12_step n d 0 S [a1] = some (x, S1)) : GM l Z L yX12_step cX12_step 2 none [] d 0 0 [.ref (L 500), .int (J a1)] S (fun v S' => v = none ∧ S1 = S') (fun _ _ => False) := GM.of (by decide) (Nat.le_of_ble_eq_true rfl) ((g_X12_step n).1 hL _ _ _ _ _ H)

def P_X12_wordOf_0 (l : Launch) (Z : XZ) (L : Nat → Nat) (n : Nat) : Prop := ∀ (hL : L 700 = 1), ∀ (d : Nat) (S : GS) (a1 : Int) (a2 : Int) (x : Int) (S1 : GS), f_X12_wordOf n d 0 S [a1, a2] = some (x, S1) → GA l Z L yX12_wordOf cX12_wordOf 5 none [] d 0 0 (fun v S' => v = none ∧ S1 = S') (fun _ _ => False) 0 (gl [(0, .ref (L 500)), (1, .int (J a1)), (2, .int (J a2))]) [] S 0 0
def P_X12_wordOf_7 (l : Launch) (Z : XZ) (L : Nat → Nat) (n : Nat) : Prop := ∀ (hL : L 700 = 1), ∀ (d : Nat) (S : GS) (a2 : Int) (a3 : Int) (x : Int) (S1 : GS), f_X12_wordOf n d 7 S [a2, a3] = some (x, S1) → GA l Z L yX12_wordOf cX12_wordOf 5 none [] d 0 0 (fun v S' => v = none ∧ S1 = S') (fun _ _ => False) 7 (gl [(0, .ref (L 500)), (2, .int (J a2)), (3, .int (J a3))]) [] S 0 0
def P_X12_wordOf_50 (l : Launch) (Z : XZ) (L : Nat → Nat) (n : Nat) : Prop := ∀ (hL : L 700 = 1), ∀ (d : Nat) (S : GS) (a2 : Int) (a3 : Int) (a4 : Int) (x : Int) (S1 : GS), f_X12_wordOf n d 50 S [a2, a3, a4] = some (x, S1) → GA l Z L yX12_wordOf cX12_wordOf 5 none [] d 0 0 (fun v S' => v = none ∧ S1 = S') (fun _ _ => False) 50 (gl [(0, .ref (L 500)), (2, .int (J a2)), (3, .int (J a3)), (4, .int (J a4))]) [] S 0 0
theorem i_X12_wordOf {l : Launch} {Z : XZ} {L : Nat → Nat} (hL : L 700 = 1) {n : Nat} (ih : P_X12_wordOf_0 l Z L n) {d : Nat} {S : GS} {a1 : Int} {a2 : Int} {x : Int} {S1 : GS} (H : f_X12_wordOf n d 0 S [a1, a2] = some (x, S1)) : GM l Z L yX12_wordOf cX12_wordOf 5 none [] d 0 0 [.ref (L 500), .int (J a1), .int (J a2)] S (fun v S' => v = none ∧ S1 = S') (fun _ _ => False) := GM.of (by decide) (Nat.le_of_ble_eq_true rfl) (ih hL _ _ _ _ _ _ H)
set_option maxHeartbeats 4000000 in
set_option maxRecDepth 20000 in
theorem t_X12_wordOf_0 {l : Launch} {Z : XZ} {L : Nat → Nat} (n : Nat) (ih_X12_wordOf_0 : P_X12_wordOf_0 l Z L n) (ih_X12_wordOf_7 : P_X12_wordOf_7 l Z L n) (ih_X12_wordOf_50 : P_X12_wordOf_50 l Z L n) : P_X12_wordOf_0 l Z L (n + 1) := by
  intro hL d S a1 a2 x S1 H
  have H : b_X12_wordOf_0 n d (f_X12_wordOf n) S a1 a2 = some (x, S1) := H
  unfold b_X12_wordOf_0 at H
  refine GA.aload_n dX12_wordOf_0 rfl ?_
  refine GA.iconst dX12_wordOf_1 ?_
  obtain ⟨S_1, hx2, H⟩ := gv_e H
  refine GV.putI hx2 (xp_X12_66 _) dX12_wordOf_2 (gs_500 hL) (by decide) (Nat.le_of_ble_eq_true rfl) (gs_500 hL) ?_
  refine GA.iload_n dX12_wordOf_5 rfl ?_
  refine GA.istore_n dX12_wordOf_6 (by decide) ?_
  refine GA.locals [(0, .ref (L 500)), (2, .int (J a2)), (3, .int (J a1))] ⟨rfl, rfl, rfl, trivial⟩ ?_
  exact ih_X12_wordOf_7 hL _ _ (a2) (a1) _ _ H
set_option maxHeartbeats 4000000 in
set_option maxRecDepth 20000 in
theorem t_X12_wordOf_7 {l : Launch} {Z : XZ} {L : Nat → Nat} (n : Nat) (ih_X12_wordOf_0 : P_X12_wordOf_0 l Z L n) (ih_X12_wordOf_7 : P_X12_wordOf_7 l Z L n) (ih_X12_wordOf_50 : P_X12_wordOf_50 l Z L n) : P_X12_wordOf_7 l Z L (n + 1) := by
  intro hL d S a2 a3 x S1 H
  have H : b_X12_wordOf_7 n d (f_X12_wordOf n) S a2 a3 = some (x, S1) := H
  unfold b_X12_wordOf_7 at H
  refine GA.iload_n dX12_wordOf_7 rfl ?_
  refine GA.iload_n dX12_wordOf_8 rfl ?_
  obtain ⟨hg1, H⟩ := gg_e H
  obtain ⟨hg2, H⟩ := gg_e H
  refine GV.icmp_ge (tgt := 77) hg1 hg2 dX12_wordOf_9 (by decide) (fun c3 => ?_) (fun c3 => ?_)
  · have H := it_t H c3
    cases H
    exact GA.vret rfl dX12_wordOf_77 (by omega) (by omega) ⟨rfl, rfl⟩
  · have H := it_f H c3
    refine GA.aload_n dX12_wordOf_12 rfl ?_
    refine GA.get xf_X12_275 dX12_wordOf_13 (gs_500 hL) (by decide) rfl ?_
    refine GA.iload_n dX12_wordOf_16 rfl ?_
    obtain ⟨hg4, H⟩ := gg_e H
    obtain ⟨x5, hx6, H⟩ := gv_e H
    refine GV.iald hg4 hx6 dX12_wordOf_17 (gs_518 hL) (by decide) ?_
    refine GA.istore dX12_wordOf_18 (by decide) ?_
    refine GA.iload dX12_wordOf_20 rfl ?_
    refine GA.bipush dX12_wordOf_22 rfl ?_
    obtain ⟨hg7, H⟩ := gg_e H
    refine GV.icmp_ne (tgt := 50) hg7 (by decide) dX12_wordOf_24 (by decide) (fun c8 => ?_) (fun c8 => ?_)
    · have H := it_t H c8
      refine GA.locals [(0, .ref (L 500)), (2, .int (J a2)), (3, .int (J a3)), (4, .int (J x5))] ⟨rfl, rfl, rfl, rfl, trivial⟩ ?_
      exact ih_X12_wordOf_50 hL _ _ (a2) (a3) (x5) _ _ H
    · have H := it_f H c8
      obtain ⟨x9, hx10, H⟩ := gv_e H
      refine GV.iinc hx10 dX12_wordOf_27 rfl (by decide) ?_
      refine GA.aload_n dX12_wordOf_30 rfl ?_
      refine GA.get xf_X12_275 dX12_wordOf_31 (gs_500 hL) (by decide) rfl ?_
      refine GA.iload_n dX12_wordOf_34 rfl ?_
      obtain ⟨hg11, H⟩ := gg_e H
      obtain ⟨x12, hx13, H⟩ := gv_e H
      refine GV.iald hg11 hx13 dX12_wordOf_35 (gs_518 hL) (by decide) ?_
      refine GA.bipush dX12_wordOf_36 rfl ?_
      obtain ⟨hg14, H⟩ := gg_e H
      refine GV.icmp_ne (tgt := 46) hg14 (by decide) dX12_wordOf_38 (by decide) (fun c15 => ?_) (fun c15 => ?_)
      · have H := it_t H c15
        refine GA.bipush dX12_wordOf_46 rfl ?_
        refine GA.istore dX12_wordOf_48 (by decide) ?_
        refine GA.locals [(0, .ref (L 500)), (2, .int (J a2)), (3, .int (J x9)), (4, .int (J 47))] ⟨rfl, rfl, rfl, rfl, trivial⟩ ?_
        exact ih_X12_wordOf_50 hL _ _ (a2) (x9) (47) _ _ H
      · have H := it_f H c15
        refine GA.bipush dX12_wordOf_41 rfl ?_
        refine GA.goto (tgt := 48) dX12_wordOf_43 (by decide) ?_
        refine GA.istore dX12_wordOf_48 (by decide) ?_
        refine GA.locals [(0, .ref (L 500)), (2, .int (J a2)), (3, .int (J x9)), (4, .int (J 126))] ⟨rfl, rfl, rfl, rfl, trivial⟩ ?_
        exact ih_X12_wordOf_50 hL _ _ (a2) (x9) (126) _ _ H
set_option maxHeartbeats 4000000 in
set_option maxRecDepth 20000 in
theorem t_X12_wordOf_50 {l : Launch} {Z : XZ} {L : Nat → Nat} (n : Nat) (ih_X12_wordOf_0 : P_X12_wordOf_0 l Z L n) (ih_X12_wordOf_7 : P_X12_wordOf_7 l Z L n) (ih_X12_wordOf_50 : P_X12_wordOf_50 l Z L n) : P_X12_wordOf_50 l Z L (n + 1) := by
  intro hL d S a2 a3 a4 x S1 H
  have H : b_X12_wordOf_50 n d (f_X12_wordOf n) S a2 a3 a4 = some (x, S1) := H
  unfold b_X12_wordOf_50 at H
  refine GA.aload_n dX12_wordOf_50 rfl ?_
  refine GA.get xf_X12_69 dX12_wordOf_51 (gs_500 hL) (by decide) rfl ?_
  refine GA.aload_n dX12_wordOf_54 rfl ?_
  obtain ⟨x1, hx2, H⟩ := gv_e H
  refine GV.getI hx2 xf_X12_66 dX12_wordOf_55 (gs_500 hL) (by decide) rfl ?_
  refine GA.iload dX12_wordOf_58 rfl ?_
  obtain ⟨hg3, H⟩ := gg_e H
  obtain ⟨S_4, hx5, H⟩ := gv_e H
  refine GV.iast hg3 hx5 dX12_wordOf_60 (fun _ => (gs_507 hL)) (by decide) ?_
  refine GA.aload_n dX12_wordOf_61 rfl ?_
  refine GA.dup dX12_wordOf_62 rfl ?_
  obtain ⟨x6, hx7, H⟩ := gv_e H
  refine GV.getI hx7 xf_X12_66 dX12_wordOf_63 (gs_500 hL) (by decide) rfl ?_
  refine GA.iconst dX12_wordOf_66 ?_
  obtain ⟨x8, hx9, H⟩ := gv_e H
  refine GV.iadd hx9 dX12_wordOf_67 ?_
  obtain ⟨S_10, hx11, H⟩ := gv_e H
  refine GV.putI hx11 (xp_X12_66 _) dX12_wordOf_68 (gs_500 hL) (by decide) (Nat.le_of_ble_eq_true rfl) (gs_500 hL) ?_
  obtain ⟨x12, hx13, H⟩ := gv_e H
  refine GV.iinc hx13 dX12_wordOf_71 rfl (by decide) ?_
  refine GA.goto (tgt := 7) dX12_wordOf_74 (by decide) ?_
  refine GA.locals [(0, .ref (L 500)), (2, .int (J a2)), (3, .int (J x12))] ⟨rfl, rfl, rfl, trivial⟩ ?_
  exact ih_X12_wordOf_7 hL _ _ (a2) (x12) _ _ H
theorem g_X12_wordOf {l : Launch} {Z : XZ} {L : Nat → Nat} : ∀ n, P_X12_wordOf_0 l Z L n ∧ P_X12_wordOf_7 l Z L n ∧ P_X12_wordOf_50 l Z L n
  | 0 => ⟨fun _ _ _ _ _ _ _ H => no_e H, fun _ _ _ _ _ _ _ H => no_e H, fun _ _ _ _ _ _ _ _ H => no_e H⟩
  | n + 1 => have ⟨h0, h1, h2⟩ := g_X12_wordOf (l := l) (Z := Z) (L := L) n
    ⟨t_X12_wordOf_0 n h0 h1 h2, t_X12_wordOf_7 n h0 h1 h2, t_X12_wordOf_50 n h0 h1 h2⟩
theorem m_X12_wordOf {l : Launch} {Z : XZ} {L : Nat → Nat} (hL : L 700 = 1) {n d : Nat} {S : GS} {a1 : Int} {a2 : Int} {x : Int} {S1 : GS} (H : f_X12_wordOf n d 0 S [a1, a2] = some (x, S1)) : GM l Z L yX12_wordOf cX12_wordOf 5 none [] d 0 0 [.ref (L 500), .int (J a1), .int (J a2)] S (fun v S' => v = none ∧ S1 = S') (fun _ _ => False) := GM.of (by decide) (Nat.le_of_ble_eq_true rfl) ((g_X12_wordOf n).1 hL _ _ _ _ _ _ H)

def P_X12_figured_0 (l : Launch) (Z : XZ) (L : Nat → Nat) (n : Nat) : Prop := ∀ (hL : L 700 = 1), ∀ (d : Nat) (S : GS) (a1 : Int) (x : Int) (S1 : GS), f_X12_figured n d 0 S [a1] = some (x, S1) → GA l Z L yX12_figured cX12_figured 4 (some .int) [] d 0 0 (fun v S' => v = some (.int (J x)) ∧ S1 = S') (fun _ _ => False) 0 (gl [(0, .ref (L 500)), (1, .int (J a1))]) [] S 0 0
def P_X12_figured_35 (l : Launch) (Z : XZ) (L : Nat → Nat) (n : Nat) : Prop := ∀ (hL : L 700 = 1), ∀ (d : Nat) (S : GS) (a2 : Int) (a3 : Int) (x : Int) (S1 : GS), f_X12_figured n d 35 S [a2, a3] = some (x, S1) → GA l Z L yX12_figured cX12_figured 4 (some .int) [] d 0 0 (fun v S' => v = some (.int (J x)) ∧ S1 = S') (fun _ _ => False) 35 (gl [(0, .ref (L 500)), (2, .int (J a2)), (3, .int (J a3))]) [] S 0 0
theorem i_X12_figured {l : Launch} {Z : XZ} {L : Nat → Nat} (hL : L 700 = 1) {n : Nat} (ih : P_X12_figured_0 l Z L n) {d : Nat} {S : GS} {a1 : Int} {x : Int} {S1 : GS} (H : f_X12_figured n d 0 S [a1] = some (x, S1)) : GM l Z L yX12_figured cX12_figured 4 (some .int) [] d 0 0 [.ref (L 500), .int (J a1)] S (fun v S' => v = some (.int (J x)) ∧ S1 = S') (fun _ _ => False) := GM.of (by decide) (Nat.le_of_ble_eq_true rfl) (ih hL _ _ _ _ _ H)
set_option maxHeartbeats 4000000 in
set_option maxRecDepth 20000 in
theorem t_X12_figured_0 {l : Launch} {Z : XZ} {L : Nat → Nat} (n : Nat) (ih_X12_figured_0 : P_X12_figured_0 l Z L n) (ih_X12_figured_35 : P_X12_figured_35 l Z L n) : P_X12_figured_0 l Z L (n + 1) := by
  intro hL d S a1 x S1 H
  have H : b_X12_figured_0 n d (f_X12_figured n) S a1 = some (x, S1) := H
  unfold b_X12_figured_0 at H
  refine GA.iload_n dX12_figured_0 rfl ?_
  refine GA.aload_n dX12_figured_1 rfl ?_
  obtain ⟨x1, hx2, H⟩ := gv_e H
  refine GV.getI hx2 xf_X12_66 dX12_figured_2 (gs_500 hL) (by decide) rfl ?_
  obtain ⟨hg3, H⟩ := gg_e H
  obtain ⟨hg4, H⟩ := gg_e H
  refine GV.icmp_ge (tgt := 29) hg3 hg4 dX12_figured_5 (by decide) (fun c5 => ?_) (fun c5 => ?_)
  · have H := it_t H c5
    refine GA.iconst dX12_figured_29 ?_
    cases H
    exact GA.iret rfl dX12_figured_30 (by omega) (by omega) ⟨rfl, rfl⟩
  · have H := it_f H c5
    refine GA.aload_n dX12_figured_8 rfl ?_
    refine GA.get xf_X12_69 dX12_figured_9 (gs_500 hL) (by decide) rfl ?_
    refine GA.iload_n dX12_figured_12 rfl ?_
    obtain ⟨hg6, H⟩ := gg_e H
    obtain ⟨x7, hx8, H⟩ := gv_e H
    refine GV.iald hg6 hx8 dX12_figured_13 (gs_507 hL) (by decide) ?_
    refine GA.bipush dX12_figured_14 rfl ?_
    obtain ⟨hg9, H⟩ := gg_e H
    refine GV.icmp_ne (tgt := 31) hg9 (by decide) dX12_figured_16 (by decide) (fun c10 => ?_) (fun c10 => ?_)
    · have H := it_t H c10
      refine GA.iconst dX12_figured_31 ?_
      refine GA.istore_n dX12_figured_32 (by decide) ?_
      refine GA.iload_n dX12_figured_33 rfl ?_
      refine GA.istore_n dX12_figured_34 (by decide) ?_
      refine GA.locals [(0, .ref (L 500)), (2, .int (J 0)), (3, .int (J a1))] ⟨rfl, rfl, rfl, trivial⟩ ?_
      exact ih_X12_figured_35 hL _ _ (0) (a1) _ _ H
    · have H := it_f H c10
      refine GA.aload_n dX12_figured_19 rfl ?_
      obtain ⟨x11, hx12, H⟩ := gv_e H
      refine GV.getI hx12 xf_X12_66 dX12_figured_20 (gs_500 hL) (by decide) rfl ?_
      refine GA.iload_n dX12_figured_23 rfl ?_
      refine GA.iconst dX12_figured_24 ?_
      obtain ⟨x13, hx14, H⟩ := gv_e H
      refine GV.iadd hx14 dX12_figured_25 ?_
      obtain ⟨hg15, H⟩ := gg_e H
      obtain ⟨hg16, H⟩ := gg_e H
      refine GV.icmp_le (tgt := 31) hg15 hg16 dX12_figured_26 (by decide) (fun c17 => ?_) (fun c17 => ?_)
      · have H := it_t H c17
        refine GA.iconst dX12_figured_31 ?_
        refine GA.istore_n dX12_figured_32 (by decide) ?_
        refine GA.iload_n dX12_figured_33 rfl ?_
        refine GA.istore_n dX12_figured_34 (by decide) ?_
        refine GA.locals [(0, .ref (L 500)), (2, .int (J 0)), (3, .int (J a1))] ⟨rfl, rfl, rfl, trivial⟩ ?_
        exact ih_X12_figured_35 hL _ _ (0) (a1) _ _ H
      · have H := it_f H c17
        refine GA.iconst dX12_figured_29 ?_
        cases H
        exact GA.iret rfl dX12_figured_30 (by omega) (by omega) ⟨rfl, rfl⟩
set_option maxHeartbeats 4000000 in
set_option maxRecDepth 20000 in
theorem t_X12_figured_35 {l : Launch} {Z : XZ} {L : Nat → Nat} (n : Nat) (ih_X12_figured_0 : P_X12_figured_0 l Z L n) (ih_X12_figured_35 : P_X12_figured_35 l Z L n) : P_X12_figured_35 l Z L (n + 1) := by
  intro hL d S a2 a3 x S1 H
  have H : b_X12_figured_35 n d (f_X12_figured n) S a2 a3 = some (x, S1) := H
  unfold b_X12_figured_35 at H
  refine GA.iload_n dX12_figured_35 rfl ?_
  refine GA.aload_n dX12_figured_36 rfl ?_
  obtain ⟨x1, hx2, H⟩ := gv_e H
  refine GV.getI hx2 xf_X12_66 dX12_figured_37 (gs_500 hL) (by decide) rfl ?_
  obtain ⟨hg3, H⟩ := gg_e H
  obtain ⟨hg4, H⟩ := gg_e H
  refine GV.icmp_ge (tgt := 93) hg3 hg4 dX12_figured_40 (by decide) (fun c5 => ?_) (fun c5 => ?_)
  · have H := it_t H c5
    refine GA.iload_n dX12_figured_93 rfl ?_
    cases H
    exact GA.iret rfl dX12_figured_94 (by omega) (by omega) ⟨rfl, rfl⟩
  · have H := it_f H c5
    refine GA.aload_n dX12_figured_43 rfl ?_
    refine GA.get xf_X12_69 dX12_figured_44 (gs_500 hL) (by decide) rfl ?_
    refine GA.iload_n dX12_figured_47 rfl ?_
    obtain ⟨hg6, H⟩ := gg_e H
    obtain ⟨x7, hx8, H⟩ := gv_e H
    refine GV.iald hg6 hx8 dX12_figured_48 (gs_507 hL) (by decide) ?_
    refine GA.bipush dX12_figured_49 rfl ?_
    refine GA.bipush dX12_figured_51 rfl ?_
    obtain ⟨hg9, H⟩ := gg_e H
    obtain ⟨x10, S_11, hc12, H⟩ := gc_e H
    refine GA.callS (m_X12_in hL hc12) xs_X12_18 dX12_figured_53 rfl (by omega) (by decide) rfl (Nat.le_of_ble_eq_true rfl) (by omega) (by omega) rfl (fun E S9 hx => hx.elim) (fun v S9 hq => ?_)
    obtain ⟨rfl, rfl⟩ := hq
    obtain ⟨hg13, H⟩ := gg_e H
    refine GV.if_ne (tgt := 61) hg13 dX12_figured_56 (by decide) (fun c14 => ?_) (fun c14 => ?_)
    · have H := it_t H c14
      refine GA.iload_n dX12_figured_61 rfl ?_
      refine GA.sipush dX12_figured_62 rfl ?_
      obtain ⟨hg15, H⟩ := gg_e H
      refine GV.icmp_le (tgt := 72) hg15 (by decide) dX12_figured_65 (by decide) (fun c16 => ?_) (fun c16 => ?_)
      · have H := it_t H c16
        refine GA.bipush dX12_figured_72 rfl ?_
        refine GA.iload_n dX12_figured_74 rfl ?_
        obtain ⟨x17, hx18, H⟩ := gv_e H
        refine GV.imul hx18 dX12_figured_75 ?_
        refine GA.aload_n dX12_figured_76 rfl ?_
        refine GA.get xf_X12_69 dX12_figured_77 (gs_500 hL) (by decide) rfl ?_
        refine GA.iload_n dX12_figured_80 rfl ?_
        obtain ⟨x19, hx20, H⟩ := gv_e H
        refine GV.iald hg6 hx20 dX12_figured_81 (gs_507 hL) (by decide) ?_
        obtain ⟨x21, hx22, H⟩ := gv_e H
        refine GV.iadd hx22 dX12_figured_82 ?_
        refine GA.bipush dX12_figured_83 rfl ?_
        obtain ⟨x23, hx24, H⟩ := gv_e H
        refine GV.isub hx24 dX12_figured_85 ?_
        refine GA.istore_n dX12_figured_86 (by decide) ?_
        obtain ⟨x25, hx26, H⟩ := gv_e H
        refine GV.iinc hx26 dX12_figured_87 rfl (by decide) ?_
        refine GA.goto (tgt := 35) dX12_figured_90 (by decide) ?_
        refine GA.locals [(0, .ref (L 500)), (2, .int (J x23)), (3, .int (J x25))] ⟨rfl, rfl, rfl, trivial⟩ ?_
        exact ih_X12_figured_35 hL _ _ (x23) (x25) _ _ H
      · have H := it_f H c16
        refine GA.iload_n dX12_figured_68 rfl ?_
        refine GA.goto (tgt := 86) dX12_figured_69 (by decide) ?_
        refine GA.istore_n dX12_figured_86 (by decide) ?_
        obtain ⟨x27, hx28, H⟩ := gv_e H
        refine GV.iinc hx28 dX12_figured_87 rfl (by decide) ?_
        refine GA.goto (tgt := 35) dX12_figured_90 (by decide) ?_
        refine GA.locals [(0, .ref (L 500)), (2, .int (J a2)), (3, .int (J x27))] ⟨rfl, rfl, rfl, trivial⟩ ?_
        exact ih_X12_figured_35 hL _ _ (a2) (x27) _ _ H
    · have H := it_f H c14
      refine GA.iconst dX12_figured_59 ?_
      cases H
      exact GA.iret rfl dX12_figured_60 (by omega) (by omega) ⟨rfl, rfl⟩
theorem g_X12_figured {l : Launch} {Z : XZ} {L : Nat → Nat} : ∀ n, P_X12_figured_0 l Z L n ∧ P_X12_figured_35 l Z L n
  | 0 => ⟨fun _ _ _ _ _ _ H => no_e H, fun _ _ _ _ _ _ _ H => no_e H⟩
  | n + 1 => have ⟨h0, h1⟩ := g_X12_figured (l := l) (Z := Z) (L := L) n
    ⟨t_X12_figured_0 n h0 h1, t_X12_figured_35 n h0 h1⟩
theorem m_X12_figured {l : Launch} {Z : XZ} {L : Nat → Nat} (hL : L 700 = 1) {n d : Nat} {S : GS} {a1 : Int} {x : Int} {S1 : GS} (H : f_X12_figured n d 0 S [a1] = some (x, S1)) : GM l Z L yX12_figured cX12_figured 4 (some .int) [] d 0 0 [.ref (L 500), .int (J a1)] S (fun v S' => v = some (.int (J x)) ∧ S1 = S') (fun _ _ => False) := GM.of (by decide) (Nat.le_of_ble_eq_true rfl) ((g_X12_figured n).1 hL _ _ _ _ _ H)

def P_X12_stepped_0 (l : Launch) (Z : XZ) (L : Nat → Nat) (n : Nat) : Prop := ∀ (hL : L 700 = 1), ∀ (d : Nat) (S : GS) (a1 : Int) (a2 : Int) (a3 : Int) (x : Int) (S1 : GS), f_X12_stepped n d 0 S [a1, a2, a3] = some (x, S1) → GA l Z L yX12_stepped cX12_stepped 7 (some .int) [] d 0 0 (fun v S' => v = some (.int (J x)) ∧ S1 = S') (fun _ _ => False) 0 (gl [(0, .ref (L 500)), (1, .int (J a1)), (2, .int (J a2)), (3, .int (J a3))]) [] S 0 0
def P_X12_stepped_90 (l : Launch) (Z : XZ) (L : Nat → Nat) (n : Nat) : Prop := ∀ (hL : L 700 = 1), ∀ (d : Nat) (S : GS) (a1 : Int) (a2 : Int) (a4 : Int) (a5 : Int) (x : Int) (S1 : GS), f_X12_stepped n d 90 S [a1, a2, a4, a5] = some (x, S1) → GA l Z L yX12_stepped cX12_stepped 7 (some .int) [] d 0 0 (fun v S' => v = some (.int (J x)) ∧ S1 = S') (fun _ _ => False) 90 (gl [(0, .ref (L 500)), (1, .int (J a1)), (2, .int (J a2)), (4, .int (J a4)), (5, .int (J a5))]) [] S 0 0
theorem i_X12_stepped {l : Launch} {Z : XZ} {L : Nat → Nat} (hL : L 700 = 1) {n : Nat} (ih : P_X12_stepped_0 l Z L n) {d : Nat} {S : GS} {a1 : Int} {a2 : Int} {a3 : Int} {x : Int} {S1 : GS} (H : f_X12_stepped n d 0 S [a1, a2, a3] = some (x, S1)) : GM l Z L yX12_stepped cX12_stepped 7 (some .int) [] d 0 0 [.ref (L 500), .int (J a1), .int (J a2), .int (J a3)] S (fun v S' => v = some (.int (J x)) ∧ S1 = S') (fun _ _ => False) := GM.of (by decide) (Nat.le_of_ble_eq_true rfl) (ih hL _ _ _ _ _ _ _ H)
set_option maxHeartbeats 4000000 in
set_option maxRecDepth 20000 in
theorem t_X12_stepped_0 {l : Launch} {Z : XZ} {L : Nat → Nat} (n : Nat) (ih_X12_stepped_0 : P_X12_stepped_0 l Z L n) (ih_X12_stepped_90 : P_X12_stepped_90 l Z L n) : P_X12_stepped_0 l Z L (n + 1) := by
  intro hL d S a1 a2 a3 x S1 H
  have H : b_X12_stepped_0 n d (f_X12_stepped n) S a1 a2 a3 = some (x, S1) := H
  unfold b_X12_stepped_0 at H
  refine GA.aload_n dX12_stepped_0 rfl ?_
  refine GA.iload_n dX12_stepped_1 rfl ?_
  refine GA.iload_n dX12_stepped_2 rfl ?_
  obtain ⟨hg1, H⟩ := gg_e H
  obtain ⟨x2, S_3, hc4, H⟩ := gc_e H
  refine GA.callV (m_X12_kind hL hc4) xs_X12_52 dX12_stepped_3 (gs_500 hL) (by decide) rfl rfl (by omega) (by decide) rfl (Nat.le_of_ble_eq_true rfl) (by omega) (by omega) rfl (fun E S9 hx => hx.elim) (fun v S9 hq => ?_)
  obtain ⟨rfl, rfl⟩ := hq
  refine GA.iconst dX12_stepped_6 ?_
  obtain ⟨hg5, H⟩ := gg_e H
  refine GV.icmp_ne (tgt := 17) hg5 (by decide) dX12_stepped_7 (by decide) (fun c6 => ?_) (fun c6 => ?_)
  · have H := it_t H c6
    refine GA.aload_n dX12_stepped_17 rfl ?_
    refine GA.iload_n dX12_stepped_18 rfl ?_
    refine GA.iload_n dX12_stepped_19 rfl ?_
    obtain ⟨x7, S_8, hc9, H⟩ := gc_e H
    refine GA.callV (m_X12_kind hL hc9) xs_X12_52 dX12_stepped_20 (gs_500 hL) (by decide) rfl rfl (by omega) (by decide) rfl (Nat.le_of_ble_eq_true rfl) (by omega) (by omega) rfl (fun E S9 hx => hx.elim) (fun v S9 hq => ?_)
    obtain ⟨rfl, rfl⟩ := hq
    refine GA.iconst dX12_stepped_23 ?_
    obtain ⟨hg10, H⟩ := gg_e H
    refine GV.icmp_eq (tgt := 29) hg10 (by decide) dX12_stepped_24 (by decide) (fun c11 => ?_) (fun c11 => ?_)
    · have H := it_t H c11
      refine GA.aload_n dX12_stepped_29 rfl ?_
      refine GA.iload_n dX12_stepped_30 rfl ?_
      refine GA.iload_n dX12_stepped_31 rfl ?_
      refine GA.iconst dX12_stepped_32 ?_
      obtain ⟨x12, S_13, hc14, H⟩ := gc_e H
      refine GA.callV (m_X12_part hL hc14) xs_X12_36 dX12_stepped_33 (gs_500 hL) (by decide) rfl rfl (by omega) (by decide) rfl (Nat.le_of_ble_eq_true rfl) (by omega) (by omega) rfl (fun E S9 hx => hx.elim) (fun v S9 hq => ?_)
      obtain ⟨rfl, rfl⟩ := hq
      refine GA.istore dX12_stepped_36 (by decide) ?_
      refine GA.aload_n dX12_stepped_38 rfl ?_
      refine GA.iconst dX12_stepped_39 ?_
      obtain ⟨x15, S_16, hc17, H⟩ := gc_e H
      refine GA.callV (m_X12_figured hL hc17) xs_X12_613 dX12_stepped_40 (gs_500 hL) (by decide) rfl rfl (by omega) (by decide) rfl (Nat.le_of_ble_eq_true rfl) (by omega) (by omega) rfl (fun E S9 hx => hx.elim) (fun v S9 hq => ?_)
      obtain ⟨rfl, rfl⟩ := hq
      refine GA.istore dX12_stepped_43 (by decide) ?_
      refine GA.iload_n dX12_stepped_45 rfl ?_
      obtain ⟨hg18, H⟩ := gg_e H
      refine GV.if_eq (tgt := 90) hg18 dX12_stepped_46 (by decide) (fun c19 => ?_) (fun c19 => ?_)
      · have H := it_t H c19
        refine GA.locals [(0, .ref (L 500)), (1, .int (J a1)), (2, .int (J a2)), (4, .int (J x12)), (5, .int (J x15))] ⟨rfl, rfl, rfl, rfl, rfl, trivial⟩ ?_
        exact ih_X12_stepped_90 hL _ _ (a1) (a2) (x12) (x15) _ _ H
      · have H := it_f H c19
        refine GA.aload_n dX12_stepped_49 rfl ?_
        obtain ⟨x20, hx21, H⟩ := gv_e H
        refine GV.getI hx21 xf_X12_66 dX12_stepped_50 (gs_500 hL) (by decide) rfl ?_
        obtain ⟨hg22, H⟩ := gg_e H
        refine GV.if_le (tgt := 90) hg22 dX12_stepped_53 (by decide) (fun c23 => ?_) (fun c23 => ?_)
        · have H := it_t H c23
          refine GA.locals [(0, .ref (L 500)), (1, .int (J a1)), (2, .int (J a2)), (4, .int (J x12)), (5, .int (J x15))] ⟨rfl, rfl, rfl, rfl, rfl, trivial⟩ ?_
          exact ih_X12_stepped_90 hL _ _ (a1) (a2) (x12) (x15) _ _ H
        · have H := it_f H c23
          refine GA.aload_n dX12_stepped_56 rfl ?_
          refine GA.get xf_X12_69 dX12_stepped_57 (gs_500 hL) (by decide) rfl ?_
          refine GA.iconst dX12_stepped_60 ?_
          obtain ⟨hg24, H⟩ := gg_e H
          obtain ⟨x25, hx26, H⟩ := gv_e H
          refine GV.iald hg24 hx26 dX12_stepped_61 (gs_507 hL) (by decide) ?_
          refine GA.bipush dX12_stepped_62 rfl ?_
          obtain ⟨hg27, H⟩ := gg_e H
          refine GV.icmp_ne (tgt := 90) hg27 (by decide) dX12_stepped_64 (by decide) (fun c28 => ?_) (fun c28 => ?_)
          · have H := it_t H c28
            refine GA.locals [(0, .ref (L 500)), (1, .int (J a1)), (2, .int (J a2)), (4, .int (J x12)), (5, .int (J x15))] ⟨rfl, rfl, rfl, rfl, rfl, trivial⟩ ?_
            exact ih_X12_stepped_90 hL _ _ (a1) (a2) (x12) (x15) _ _ H
          · have H := it_f H c28
            refine GA.aload_n dX12_stepped_67 rfl ?_
            refine GA.iconst dX12_stepped_68 ?_
            obtain ⟨x29, S_30, hc31, H⟩ := gc_e H
            refine GA.callV (m_X12_figured hL hc31) xs_X12_613 dX12_stepped_69 (gs_500 hL) (by decide) rfl rfl (by omega) (by decide) rfl (Nat.le_of_ble_eq_true rfl) (by omega) (by omega) rfl (fun E S9 hx => hx.elim) (fun v S9 hq => ?_)
            obtain ⟨rfl, rfl⟩ := hq
            refine GA.istore dX12_stepped_72 (by decide) ?_
            refine GA.iload dX12_stepped_74 rfl ?_
            obtain ⟨hg32, H⟩ := gg_e H
            refine GV.if_le (tgt := 87) hg32 dX12_stepped_76 (by decide) (fun c33 => ?_) (fun c33 => ?_)
            · have H := it_t H c33
              refine GA.iconst dX12_stepped_87 ?_
              refine GA.istore dX12_stepped_88 (by decide) ?_
              refine GA.locals [(0, .ref (L 500)), (1, .int (J a1)), (2, .int (J a2)), (4, .int (J x12)), (5, .int (J (-1)))] ⟨rfl, rfl, rfl, rfl, rfl, trivial⟩ ?_
              exact ih_X12_stepped_90 hL _ _ (a1) (a2) (x12) ((-1)) _ _ H
            · have H := it_f H c33
              refine GA.iload dX12_stepped_79 rfl ?_
              refine GA.iload dX12_stepped_81 rfl ?_
              obtain ⟨x34, hx35, H⟩ := gv_e H
              refine GV.isub hx35 dX12_stepped_83 ?_
              refine GA.goto (tgt := 88) dX12_stepped_84 (by decide) ?_
              refine GA.istore dX12_stepped_88 (by decide) ?_
              refine GA.locals [(0, .ref (L 500)), (1, .int (J a1)), (2, .int (J a2)), (4, .int (J x12)), (5, .int (J x34))] ⟨rfl, rfl, rfl, rfl, rfl, trivial⟩ ?_
              exact ih_X12_stepped_90 hL _ _ (a1) (a2) (x12) (x34) _ _ H
    · have H := it_f H c11
      refine GA.iconst dX12_stepped_27 ?_
      cases H
      exact GA.iret rfl dX12_stepped_28 (by omega) (by omega) ⟨rfl, rfl⟩
  · have H := it_f H c6
    refine GA.aload_n dX12_stepped_10 rfl ?_
    refine GA.iload_n dX12_stepped_11 rfl ?_
    refine GA.iload_n dX12_stepped_12 rfl ?_
    obtain ⟨x36, S_37, hc38, H⟩ := gc_e H
    refine GA.callV (m_X12_childByWord hL hc38) xs_X12_78 dX12_stepped_13 (gs_500 hL) (by decide) rfl rfl (by omega) (by decide) rfl (Nat.le_of_ble_eq_true rfl) (by omega) (by omega) rfl (fun E S9 hx => hx.elim) (fun v S9 hq => ?_)
    obtain ⟨rfl, rfl⟩ := hq
    cases H
    exact GA.iret rfl dX12_stepped_16 (by omega) (by omega) ⟨rfl, rfl⟩
set_option maxHeartbeats 4000000 in
set_option maxRecDepth 20000 in
theorem t_X12_stepped_90 {l : Launch} {Z : XZ} {L : Nat → Nat} (n : Nat) (ih_X12_stepped_0 : P_X12_stepped_0 l Z L n) (ih_X12_stepped_90 : P_X12_stepped_90 l Z L n) : P_X12_stepped_90 l Z L (n + 1) := by
  intro hL d S a1 a2 a4 a5 x S1 H
  have H : b_X12_stepped_90 n d (f_X12_stepped n) S a1 a2 a4 a5 = some (x, S1) := H
  unfold b_X12_stepped_90 at H
  refine GA.iload dX12_stepped_90 rfl ?_
  refine GA.iconst dX12_stepped_92 ?_
  refine GA.iload dX12_stepped_93 rfl ?_
  refine GA.iconst dX12_stepped_95 ?_
  obtain ⟨x1, hx2, H⟩ := gv_e H
  refine GV.isub hx2 dX12_stepped_96 ?_
  obtain ⟨hg3, H⟩ := gg_e H
  obtain ⟨x4, S_5, hc6, H⟩ := gc_e H
  refine GA.callS (m_X12_in hL hc6) xs_X12_18 dX12_stepped_97 rfl (by omega) (by decide) rfl (Nat.le_of_ble_eq_true rfl) (by omega) (by omega) rfl (fun E S9 hx => hx.elim) (fun v S9 hq => ?_)
  obtain ⟨rfl, rfl⟩ := hq
  obtain ⟨hg7, H⟩ := gg_e H
  refine GV.if_eq (tgt := 114) hg7 dX12_stepped_100 (by decide) (fun c8 => ?_) (fun c8 => ?_)
  · have H := it_t H c8
    refine GA.iconst dX12_stepped_114 ?_
    cases H
    exact GA.iret rfl dX12_stepped_115 (by omega) (by omega) ⟨rfl, rfl⟩
  · have H := it_f H c8
    refine GA.aload_n dX12_stepped_103 rfl ?_
    refine GA.iload_n dX12_stepped_104 rfl ?_
    refine GA.iload_n dX12_stepped_105 rfl ?_
    refine GA.iload dX12_stepped_106 rfl ?_
    obtain ⟨x9, S_10, hc11, H⟩ := gc_e H
    refine GA.callV (m_X12_childAt hL hc11) xs_X12_616 dX12_stepped_108 (gs_500 hL) (by decide) rfl rfl (by omega) (by decide) rfl (Nat.le_of_ble_eq_true rfl) (by omega) (by omega) rfl (fun E S9 hx => hx.elim) (fun v S9 hq => ?_)
    obtain ⟨rfl, rfl⟩ := hq
    refine GA.goto (tgt := 115) dX12_stepped_111 (by decide) ?_
    cases H
    exact GA.iret rfl dX12_stepped_115 (by omega) (by omega) ⟨rfl, rfl⟩
theorem g_X12_stepped {l : Launch} {Z : XZ} {L : Nat → Nat} : ∀ n, P_X12_stepped_0 l Z L n ∧ P_X12_stepped_90 l Z L n
  | 0 => ⟨fun _ _ _ _ _ _ _ _ H => no_e H, fun _ _ _ _ _ _ _ _ _ H => no_e H⟩
  | n + 1 => have ⟨h0, h1⟩ := g_X12_stepped (l := l) (Z := Z) (L := L) n
    ⟨t_X12_stepped_0 n h0 h1, t_X12_stepped_90 n h0 h1⟩
theorem m_X12_stepped {l : Launch} {Z : XZ} {L : Nat → Nat} (hL : L 700 = 1) {n d : Nat} {S : GS} {a1 : Int} {a2 : Int} {a3 : Int} {x : Int} {S1 : GS} (H : f_X12_stepped n d 0 S [a1, a2, a3] = some (x, S1)) : GM l Z L yX12_stepped cX12_stepped 7 (some .int) [] d 0 0 [.ref (L 500), .int (J a1), .int (J a2), .int (J a3)] S (fun v S' => v = some (.int (J x)) ∧ S1 = S') (fun _ _ => False) := GM.of (by decide) (Nat.le_of_ble_eq_true rfl) ((g_X12_stepped n).1 hL _ _ _ _ _ _ _ H)

