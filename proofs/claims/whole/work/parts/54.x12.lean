def P_X12_readsValue_0 (l : Launch) (Z : XZ) (L : Nat → Nat) (n : Nat) : Prop := ∀ (hL : L 700 = 1), ∀ (d : Nat) (S : GS) (a1 : Int) (x : Int) (S1 : GS), f_X12_readsValue n d 0 S [a1] = some (x, S1) → GA l Z L yX12_readsValue cX12_readsValue 4 (some .boolean) [] d 0 0 (fun v S' => v = some (.int (J x)) ∧ S1 = S') (fun _ _ => False) 0 (gl [(0, .ref (L 500)), (1, .int (J a1))]) [] S 0 0
def P_X12_readsValue_39 (l : Launch) (Z : XZ) (L : Nat → Nat) (n : Nat) : Prop := ∀ (hL : L 700 = 1), ∀ (d : Nat) (S : GS) (x : Int) (S1 : GS), f_X12_readsValue n d 39 S [] = some (x, S1) → GA l Z L yX12_readsValue cX12_readsValue 4 (some .boolean) [] d 0 0 (fun v S' => v = some (.int (J x)) ∧ S1 = S') (fun _ _ => False) 39 (gl [(0, .ref (L 500))]) [] S 0 0
def P_X12_readsValue_77 (l : Launch) (Z : XZ) (L : Nat → Nat) (n : Nat) : Prop := ∀ (hL : L 700 = 1), ∀ (d : Nat) (S : GS) (a1 : Int) (a2 : Int) (x : Int) (S1 : GS), f_X12_readsValue n d 77 S [a1, a2] = some (x, S1) → GA l Z L yX12_readsValue cX12_readsValue 4 (some .boolean) [] d 0 0 (fun v S' => v = some (.int (J x)) ∧ S1 = S') (fun _ _ => False) 77 (gl [(0, .ref (L 500)), (1, .int (J a1)), (2, .int (J a2))]) [] S 0 0
def P_X12_readsValue_101 (l : Launch) (Z : XZ) (L : Nat → Nat) (n : Nat) : Prop := ∀ (hL : L 700 = 1), ∀ (d : Nat) (S : GS) (a2 : Int) (s0 : Int) (s1 : Int) (x : Int) (S1 : GS), f_X12_readsValue n d 101 S [a2, s0, s1] = some (x, S1) → GA l Z L yX12_readsValue cX12_readsValue 4 (some .boolean) [] d 0 0 (fun v S' => v = some (.int (J x)) ∧ S1 = S') (fun _ _ => False) 101 (gl [(0, .ref (L 500)), (2, .int (J a2))]) [.int (J s0), .int (J s1), .ref (L 501)] S 0 0
theorem i_X12_readsValue {l : Launch} {Z : XZ} {L : Nat → Nat} (hL : L 700 = 1) {n : Nat} (ih : P_X12_readsValue_0 l Z L n) {d : Nat} {S : GS} {a1 : Int} {x : Int} {S1 : GS} (H : f_X12_readsValue n d 0 S [a1] = some (x, S1)) : GM l Z L yX12_readsValue cX12_readsValue 4 (some .boolean) [] d 0 0 [.ref (L 500), .int (J a1)] S (fun v S' => v = some (.int (J x)) ∧ S1 = S') (fun _ _ => False) := GM.of (by decide) (Nat.le_of_ble_eq_true rfl) (ih hL _ _ _ _ _ H)
set_option maxHeartbeats 4000000 in
set_option maxRecDepth 20000 in
theorem t_X12_readsValue_0 {l : Launch} {Z : XZ} {L : Nat → Nat} (n : Nat) (ih_X12_readsValue_0 : P_X12_readsValue_0 l Z L n) (ih_X12_readsValue_39 : P_X12_readsValue_39 l Z L n) (ih_X12_readsValue_77 : P_X12_readsValue_77 l Z L n) (ih_X12_readsValue_101 : P_X12_readsValue_101 l Z L n) : P_X12_readsValue_0 l Z L (n + 1) := by
  intro hL d S a1 x S1 H
  have H : b_X12_readsValue_0 n d (f_X12_readsValue n) S a1 = some (x, S1) := H
  unfold b_X12_readsValue_0 at H
  refine GA.aload_n dX12_readsValue_0 rfl ?_
  obtain ⟨hg1, H⟩ := gg_e H
  obtain ⟨x2, S_3, hc4, H⟩ := gc_e H
  refine GA.callV (m_X12_sign hL hc4) xs_X12_471 dX12_readsValue_1 (gs_500 hL) (by decide) rfl rfl (by omega) (by decide) rfl (Nat.le_of_ble_eq_true rfl) (by omega) (by omega) rfl (fun E S9 hx => hx.elim) (fun v S9 hq => ?_)
  obtain ⟨rfl, rfl⟩ := hq
  refine GA.istore_n dX12_readsValue_4 (by decide) ?_
  refine GA.iload_n dX12_readsValue_5 rfl ?_
  refine GA.bipush dX12_readsValue_6 rfl ?_
  obtain ⟨hg5, H⟩ := gg_e H
  refine GV.icmp_ne (tgt := 27) hg5 (by decide) dX12_readsValue_8 (by decide) (fun c6 => ?_) (fun c6 => ?_)
  · have H := it_t H c6
    refine GA.iload_n dX12_readsValue_27 rfl ?_
    refine GA.bipush dX12_readsValue_28 rfl ?_
    refine GV.icmp_eq (tgt := 39) hg5 (by decide) dX12_readsValue_30 (by decide) (fun c7 => ?_) (fun c7 => ?_)
    · have H := it_t H c7
      refine GA.locals [(0, .ref (L 500))] ⟨rfl, trivial⟩ ?_
      exact ih_X12_readsValue_39 hL _ _ _ _ H
    · have H := it_f H c7
      refine GA.iload_n dX12_readsValue_33 rfl ?_
      refine GA.bipush dX12_readsValue_34 rfl ?_
      refine GV.icmp_ne (tgt := 51) hg5 (by decide) dX12_readsValue_36 (by decide) (fun c8 => ?_) (fun c8 => ?_)
      · have H := it_t H c8
        refine GA.iload_n dX12_readsValue_51 rfl ?_
        refine GA.bipush dX12_readsValue_52 rfl ?_
        refine GV.icmp_ne (tgt := 65) hg5 (by decide) dX12_readsValue_54 (by decide) (fun c9 => ?_) (fun c9 => ?_)
        · have H := it_t H c9
          refine GA.iload_n dX12_readsValue_65 rfl ?_
          refine GA.bipush dX12_readsValue_66 rfl ?_
          refine GV.icmp_eq (tgt := 77) hg5 (by decide) dX12_readsValue_68 (by decide) (fun c10 => ?_) (fun c10 => ?_)
          · have H := it_t H c10
            refine GA.locals [(0, .ref (L 500)), (1, .int (J a1)), (2, .int (J x2))] ⟨rfl, rfl, rfl, trivial⟩ ?_
            exact ih_X12_readsValue_77 hL _ _ (a1) (x2) _ _ H
          · have H := it_f H c10
            refine GA.iload_n dX12_readsValue_71 rfl ?_
            refine GA.bipush dX12_readsValue_72 rfl ?_
            refine GV.icmp_ne (tgt := 122) hg5 (by decide) dX12_readsValue_74 (by decide) (fun c11 => ?_) (fun c11 => ?_)
            · have H := it_t H c11
              refine GA.aload_n dX12_readsValue_122 rfl ?_
              refine GA.iload_n dX12_readsValue_123 rfl ?_
              obtain ⟨x12, S_13, hc14, H⟩ := gc_e H
              refine GA.callV (m_X12_readsNumber hL hc14) xs_X12_505 dX12_readsValue_124 (gs_500 hL) (by decide) rfl rfl (by omega) (by decide) rfl (Nat.le_of_ble_eq_true rfl) (by omega) (by omega) rfl (fun E S9 hx => hx.elim) (fun v S9 hq => ?_)
              obtain ⟨rfl, rfl⟩ := hq
              obtain ⟨hg15, H⟩ := gg_e H
              cases H
              exact GV.zret hg15 rfl dX12_readsValue_127 (by omega) (by omega) ⟨rfl, rfl⟩
            · have H := it_f H c11
              refine GA.locals [(0, .ref (L 500)), (1, .int (J a1)), (2, .int (J x2))] ⟨rfl, rfl, rfl, trivial⟩ ?_
              exact ih_X12_readsValue_77 hL _ _ (a1) (x2) _ _ H
        · have H := it_f H c9
          refine GA.aload_n dX12_readsValue_57 rfl ?_
          refine GV.ldc2 (z := 7959387127559487488) (by decide) xc_X12_495 dX12_readsValue_58 ?_
          obtain ⟨x16, S_17, hc18, H⟩ := gc_e H
          refine GA.callV (m_X12_readsLetters hL hc18) xs_X12_497 dX12_readsValue_61 (gs_500 hL) (by decide) rfl rfl (by omega) (by decide) rfl (Nat.le_of_ble_eq_true rfl) (by omega) (by omega) rfl (fun E S9 hx => hx.elim) (fun v S9 hq => ?_)
          obtain ⟨rfl, rfl⟩ := hq
          obtain ⟨hg19, H⟩ := gg_e H
          cases H
          exact GV.zret hg19 rfl dX12_readsValue_64 (by omega) (by omega) ⟨rfl, rfl⟩
      · have H := it_f H c8
        refine GA.locals [(0, .ref (L 500))] ⟨rfl, trivial⟩ ?_
        exact ih_X12_readsValue_39 hL _ _ _ _ H
  · have H := it_f H c6
    refine GA.aload_n dX12_readsValue_11 rfl ?_
    refine GA.bipush dX12_readsValue_12 rfl ?_
    obtain ⟨x20, S_21, hc22, H⟩ := gc_e H
    refine GA.callV (m_X12_readsText hL hc22) xs_X12_489 dX12_readsValue_14 (gs_500 hL) (by decide) rfl rfl (by omega) (by decide) rfl (Nat.le_of_ble_eq_true rfl) (by omega) (by omega) rfl (fun E S9 hx => hx.elim) (fun v S9 hq => ?_)
    obtain ⟨rfl, rfl⟩ := hq
    refine GA.istore_n dX12_readsValue_17 (by decide) ?_
    refine GA.aload_n dX12_readsValue_18 rfl ?_
    refine GA.bipush dX12_readsValue_19 rfl ?_
    refine GA.iload_n dX12_readsValue_21 rfl ?_
    obtain ⟨x23, S_24, hc25, H⟩ := gc_e H
    refine GA.callV (m_X12_textIs hL hc25) xs_X12_492 dX12_readsValue_22 (gs_500 hL) (by decide) rfl rfl (by omega) (by decide) rfl (Nat.le_of_ble_eq_true rfl) (by omega) (by omega) rfl (fun E S9 hx => hx.elim) (fun v S9 hq => ?_)
    obtain ⟨rfl, rfl⟩ := hq
    refine GA.iload_n dX12_readsValue_25 rfl ?_
    obtain ⟨hg26, H⟩ := gg_e H
    cases H
    exact GV.zret hg26 rfl dX12_readsValue_26 (by omega) (by omega) ⟨rfl, rfl⟩
set_option maxHeartbeats 4000000 in
set_option maxRecDepth 20000 in
theorem t_X12_readsValue_39 {l : Launch} {Z : XZ} {L : Nat → Nat} (n : Nat) (ih_X12_readsValue_0 : P_X12_readsValue_0 l Z L n) (ih_X12_readsValue_39 : P_X12_readsValue_39 l Z L n) (ih_X12_readsValue_77 : P_X12_readsValue_77 l Z L n) (ih_X12_readsValue_101 : P_X12_readsValue_101 l Z L n) : P_X12_readsValue_39 l Z L (n + 1) := by
  intro hL d S  x S1 H
  have H : b_X12_readsValue_39 n d (f_X12_readsValue n) S  = some (x, S1) := H
  unfold b_X12_readsValue_39 at H
  refine GA.aload_n dX12_readsValue_39 rfl ?_
  refine GA.dup dX12_readsValue_40 rfl ?_
  obtain ⟨x1, hx2, H⟩ := gv_e H
  refine GV.getI hx2 xf_X12_468 dX12_readsValue_41 (gs_500 hL) (by decide) rfl ?_
  refine GA.iconst dX12_readsValue_44 ?_
  obtain ⟨x3, hx4, H⟩ := gv_e H
  refine GV.iadd hx4 dX12_readsValue_45 ?_
  obtain ⟨S_5, hx6, H⟩ := gv_e H
  refine GV.putI hx6 (xp_X12_468 _) dX12_readsValue_46 (gs_500 hL) (by decide) (Nat.le_of_ble_eq_true rfl) (gs_500 hL) ?_
  refine GA.iconst dX12_readsValue_49 ?_
  cases H
  exact GV.zret (by decide) rfl dX12_readsValue_50 (by omega) (by omega) ⟨rfl, rfl⟩
set_option maxHeartbeats 4000000 in
set_option maxRecDepth 20000 in
theorem t_X12_readsValue_77 {l : Launch} {Z : XZ} {L : Nat → Nat} (n : Nat) (ih_X12_readsValue_0 : P_X12_readsValue_0 l Z L n) (ih_X12_readsValue_39 : P_X12_readsValue_39 l Z L n) (ih_X12_readsValue_77 : P_X12_readsValue_77 l Z L n) (ih_X12_readsValue_101 : P_X12_readsValue_101 l Z L n) : P_X12_readsValue_77 l Z L (n + 1) := by
  intro hL d S a1 a2 x S1 H
  have H : b_X12_readsValue_77 n d (f_X12_readsValue n) S a1 a2 = some (x, S1) := H
  unfold b_X12_readsValue_77 at H
  refine GA.aload_n dX12_readsValue_77 rfl ?_
  refine GA.get xf_X12_7 dX12_readsValue_78 (gs_500 hL) (by decide) rfl ?_
  refine GA.bipush dX12_readsValue_81 rfl ?_
  refine GA.iload_n dX12_readsValue_83 rfl ?_
  obtain ⟨hg1, H⟩ := gg_e H
  obtain ⟨x2, S_3, hc4, H⟩ := gc_e H
  refine GA.callS (m_X12_at hL hc4) xs_X12_11 dX12_readsValue_84 rfl (by omega) (by decide) rfl (Nat.le_of_ble_eq_true rfl) (by omega) (by omega) rfl (fun E S9 hx => hx.elim) (fun v S9 hq => ?_)
  obtain ⟨rfl, rfl⟩ := hq
  refine GA.bipush dX12_readsValue_87 rfl ?_
  obtain ⟨x5, hx6, H⟩ := gv_e H
  refine GV.iadd hx6 dX12_readsValue_89 ?_
  refine GA.iload_n dX12_readsValue_90 rfl ?_
  refine GA.bipush dX12_readsValue_91 rfl ?_
  obtain ⟨hg7, H⟩ := gg_e H
  refine GV.icmp_ne (tgt := 100) hg7 (by decide) dX12_readsValue_93 (by decide) (fun c8 => ?_) (fun c8 => ?_)
  · have H := it_t H c8
    refine GA.iconst dX12_readsValue_100 ?_
    refine GA.locals [(0, .ref (L 500)), (2, .int (J a2))] ⟨rfl, rfl, trivial⟩ ?_
    exact ih_X12_readsValue_101 hL _ _ (a2) (0) (x5) _ _ H
  · have H := it_f H c8
    refine GA.iconst dX12_readsValue_96 ?_
    refine GA.goto (tgt := 101) dX12_readsValue_97 (by decide) ?_
    refine GA.locals [(0, .ref (L 500)), (2, .int (J a2))] ⟨rfl, rfl, trivial⟩ ?_
    exact ih_X12_readsValue_101 hL _ _ (a2) (1) (x5) _ _ H
set_option maxHeartbeats 4000000 in
set_option maxRecDepth 20000 in
theorem t_X12_readsValue_101 {l : Launch} {Z : XZ} {L : Nat → Nat} (n : Nat) (ih_X12_readsValue_0 : P_X12_readsValue_0 l Z L n) (ih_X12_readsValue_39 : P_X12_readsValue_39 l Z L n) (ih_X12_readsValue_77 : P_X12_readsValue_77 l Z L n) (ih_X12_readsValue_101 : P_X12_readsValue_101 l Z L n) : P_X12_readsValue_101 l Z L (n + 1) := by
  intro hL d S a2 s0 s1 x S1 H
  have H : b_X12_readsValue_101 n d (f_X12_readsValue n) S a2 s0 s1 = some (x, S1) := H
  unfold b_X12_readsValue_101 at H
  obtain ⟨hg1, H⟩ := gg_e H
  obtain ⟨S_2, hx3, H⟩ := gv_e H
  refine GV.iast hg1 hx3 dX12_readsValue_101 (fun _ => (gs_501 hL)) (by decide) ?_
  refine GA.aload_n dX12_readsValue_102 rfl ?_
  refine GA.iload_n dX12_readsValue_103 rfl ?_
  refine GA.bipush dX12_readsValue_104 rfl ?_
  obtain ⟨hg4, H⟩ := gg_e H
  refine GV.icmp_ne (tgt := 115) hg4 (by decide) dX12_readsValue_106 (by decide) (fun c5 => ?_) (fun c5 => ?_)
  · have H := it_t H c5
    refine GV.ldc2 (z := 7377296907481120768) (by decide) xc_X12_503 dX12_readsValue_115 ?_
    obtain ⟨hg6, H⟩ := gg_e H
    obtain ⟨x7, S_8, hc9, H⟩ := gc_e H
    refine GA.callV (m_X12_readsLetters hL hc9) xs_X12_497 dX12_readsValue_118 (gs_500 hL) (by decide) rfl rfl (by omega) (by decide) rfl (Nat.le_of_ble_eq_true rfl) (by omega) (by omega) rfl (fun E S9 hx => hx.elim) (fun v S9 hq => ?_)
    obtain ⟨rfl, rfl⟩ := hq
    obtain ⟨hg10, H⟩ := gg_e H
    cases H
    exact GV.zret hg10 rfl dX12_readsValue_121 (by omega) (by omega) ⟨rfl, rfl⟩
  · have H := it_f H c5
    refine GV.ldc2 (z := 8390898132396802048) (by decide) xc_X12_501 dX12_readsValue_109 ?_
    refine GA.goto (tgt := 118) dX12_readsValue_112 (by decide) ?_
    obtain ⟨hg11, H⟩ := gg_e H
    obtain ⟨x12, S_13, hc14, H⟩ := gc_e H
    refine GA.callV (m_X12_readsLetters hL hc14) xs_X12_497 dX12_readsValue_118 (gs_500 hL) (by decide) rfl rfl (by omega) (by decide) rfl (Nat.le_of_ble_eq_true rfl) (by omega) (by omega) rfl (fun E S9 hx => hx.elim) (fun v S9 hq => ?_)
    obtain ⟨rfl, rfl⟩ := hq
    obtain ⟨hg15, H⟩ := gg_e H
    cases H
    exact GV.zret hg15 rfl dX12_readsValue_121 (by omega) (by omega) ⟨rfl, rfl⟩
theorem g_X12_readsValue {l : Launch} {Z : XZ} {L : Nat → Nat} : ∀ n, P_X12_readsValue_0 l Z L n ∧ P_X12_readsValue_39 l Z L n ∧ P_X12_readsValue_77 l Z L n ∧ P_X12_readsValue_101 l Z L n
  | 0 => ⟨fun _ _ _ _ _ _ H => no_e H, fun _ _ _ _ _ H => no_e H, fun _ _ _ _ _ _ _ H => no_e H, fun _ _ _ _ _ _ _ _ H => no_e H⟩
  | n + 1 => have ⟨h0, h1, h2, h3⟩ := g_X12_readsValue (l := l) (Z := Z) (L := L) n
    ⟨t_X12_readsValue_0 n h0 h1 h2 h3, t_X12_readsValue_39 n h0 h1 h2 h3, t_X12_readsValue_77 n h0 h1 h2 h3, t_X12_readsValue_101 n h0 h1 h2 h3⟩
theorem m_X12_readsValue {l : Launch} {Z : XZ} {L : Nat → Nat} (hL : L 700 = 1) {n d : Nat} {S : GS} {a1 : Int} {x : Int} {S1 : GS} (H : f_X12_readsValue n d 0 S [a1] = some (x, S1)) : GM l Z L yX12_readsValue cX12_readsValue 4 (some .boolean) [] d 0 0 [.ref (L 500), .int (J a1)] S (fun v S' => v = some (.int (J x)) ∧ S1 = S') (fun _ _ => False) := GM.of (by decide) (Nat.le_of_ble_eq_true rfl) ((g_X12_readsValue n).1 hL _ _ _ _ _ H)

def P_X12_reads_0 (l : Launch) (Z : XZ) (L : Nat → Nat) (n : Nat) : Prop := ∀ (hL : L 700 = 1), ∀ (d : Nat) (S : GS) (a1 : Int) (x : Int) (S1 : GS), f_X12_reads n d 0 S [a1] = some (x, S1) → GA l Z L yX12_reads cX12_reads 11 (some .int) [] d 0 0 (fun v S' => v = some (.int (J x)) ∧ S1 = S') (fun _ _ => False) 0 (gl [(0, .ref (L 500)), (1, .int (J a1))]) [] S 0 0
def P_X12_reads_23 (l : Launch) (Z : XZ) (L : Nat → Nat) (n : Nat) : Prop := ∀ (hL : L 700 = 1), ∀ (d : Nat) (S : GS) (a1 : Int) (a2 : Int) (a3 : Int) (a4 : Int) (x : Int) (S1 : GS), f_X12_reads n d 23 S [a1, a2, a3, a4] = some (x, S1) → GA l Z L yX12_reads cX12_reads 11 (some .int) [] d 0 0 (fun v S' => v = some (.int (J x)) ∧ S1 = S') (fun _ _ => False) 23 (gl [(0, .ref (L 500)), (1, .int (J a1)), (2, .int (J a2)), (3, .int (J a3)), (4, .int (J a4))]) [] S 0 0
def P_X12_reads_28 (l : Launch) (Z : XZ) (L : Nat → Nat) (n : Nat) : Prop := ∀ (hL : L 700 = 1), ∀ (d : Nat) (S : GS) (a1 : Int) (a2 : Int) (a3 : Int) (a4 : Int) (x : Int) (S1 : GS), f_X12_reads n d 28 S [a1, a2, a3, a4] = some (x, S1) → GA l Z L yX12_reads cX12_reads 11 (some .int) [] d 0 0 (fun v S' => v = some (.int (J x)) ∧ S1 = S') (fun _ _ => False) 28 (gl [(0, .ref (L 500)), (1, .int (J a1)), (2, .int (J a2)), (3, .int (J a3)), (4, .int (J a4))]) [] S 0 0
def P_X12_reads_99 (l : Launch) (Z : XZ) (L : Nat → Nat) (n : Nat) : Prop := ∀ (hL : L 700 = 1), ∀ (d : Nat) (S : GS) (a1 : Int) (a2 : Int) (a3 : Int) (a4 : Int) (a5 : Int) (s0 : Int) (x : Int) (S1 : GS), f_X12_reads n d 99 S [a1, a2, a3, a4, a5, s0] = some (x, S1) → GA l Z L yX12_reads cX12_reads 11 (some .int) [] d 0 0 (fun v S' => v = some (.int (J x)) ∧ S1 = S') (fun _ _ => False) 99 (gl [(0, .ref (L 500)), (1, .int (J a1)), (2, .int (J a2)), (3, .int (J a3)), (4, .int (J a4)), (5, .int (J a5))]) [.int (J s0)] S 0 0
def P_X12_reads_116 (l : Launch) (Z : XZ) (L : Nat → Nat) (n : Nat) : Prop := ∀ (hL : L 700 = 1), ∀ (d : Nat) (S : GS) (a1 : Int) (a2 : Int) (a3 : Int) (a4 : Int) (a5 : Int) (a6 : Int) (x : Int) (S1 : GS), f_X12_reads n d 116 S [a1, a2, a3, a4, a5, a6] = some (x, S1) → GA l Z L yX12_reads cX12_reads 11 (some .int) [] d 0 0 (fun v S' => v = some (.int (J x)) ∧ S1 = S') (fun _ _ => False) 116 (gl [(0, .ref (L 500)), (1, .int (J a1)), (2, .int (J a2)), (3, .int (J a3)), (4, .int (J a4)), (5, .int (J a5)), (6, .int (J a6))]) [] S 0 0
def P_X12_reads_146 (l : Launch) (Z : XZ) (L : Nat → Nat) (n : Nat) : Prop := ∀ (hL : L 700 = 1), ∀ (d : Nat) (S : GS) (a1 : Int) (a2 : Int) (a3 : Int) (a4 : Int) (a5 : Int) (x : Int) (S1 : GS), f_X12_reads n d 146 S [a1, a2, a3, a4, a5] = some (x, S1) → GA l Z L yX12_reads cX12_reads 11 (some .int) [] d 0 0 (fun v S' => v = some (.int (J x)) ∧ S1 = S') (fun _ _ => False) 146 (gl [(0, .ref (L 500)), (1, .int (J a1)), (2, .int (J a2)), (3, .int (J a3)), (4, .int (J a4)), (5, .int (J a5))]) [] S 0 0
def P_X12_reads_226 (l : Launch) (Z : XZ) (L : Nat → Nat) (n : Nat) : Prop := ∀ (hL : L 700 = 1), ∀ (d : Nat) (S : GS) (a1 : Int) (a2 : Int) (a4 : Int) (x : Int) (S1 : GS), f_X12_reads n d 226 S [a1, a2, a4] = some (x, S1) → GA l Z L yX12_reads cX12_reads 11 (some .int) [] d 0 0 (fun v S' => v = some (.int (J x)) ∧ S1 = S') (fun _ _ => False) 226 (gl [(0, .ref (L 500)), (1, .int (J a1)), (2, .int (J a2)), (4, .int (J a4))]) [] S 0 0
def P_X12_reads_282 (l : Launch) (Z : XZ) (L : Nat → Nat) (n : Nat) : Prop := ∀ (hL : L 700 = 1), ∀ (d : Nat) (S : GS) (a1 : Int) (a2 : Int) (a4 : Int) (a7 : Int) (x : Int) (S1 : GS), f_X12_reads n d 282 S [a1, a2, a4, a7] = some (x, S1) → GA l Z L yX12_reads cX12_reads 11 (some .int) [] d 0 0 (fun v S' => v = some (.int (J x)) ∧ S1 = S') (fun _ _ => False) 282 (gl [(0, .ref (L 500)), (1, .int (J a1)), (2, .int (J a2)), (4, .int (J a4)), (7, .int (J a7))]) [] S 0 0
def P_X12_reads_317 (l : Launch) (Z : XZ) (L : Nat → Nat) (n : Nat) : Prop := ∀ (hL : L 700 = 1), ∀ (d : Nat) (S : GS) (a1 : Int) (a2 : Int) (a4 : Int) (a7 : Int) (a8 : Int) (s0 : Int) (x : Int) (S1 : GS), f_X12_reads n d 317 S [a1, a2, a4, a7, a8, s0] = some (x, S1) → GA l Z L yX12_reads cX12_reads 11 (some .int) [] d 0 0 (fun v S' => v = some (.int (J x)) ∧ S1 = S') (fun _ _ => False) 317 (gl [(0, .ref (L 500)), (1, .int (J a1)), (2, .int (J a2)), (4, .int (J a4)), (7, .int (J a7)), (8, .int (J a8))]) [.int (J s0)] S 0 0
def P_X12_reads_396 (l : Launch) (Z : XZ) (L : Nat → Nat) (n : Nat) : Prop := ∀ (hL : L 700 = 1), ∀ (d : Nat) (S : GS) (a1 : Int) (a2 : Int) (a4 : Int) (a7 : Int) (a8 : Int) (a9 : Int) (a10 : Int) (x : Int) (S1 : GS), f_X12_reads n d 396 S [a1, a2, a4, a7, a8, a9, a10] = some (x, S1) → GA l Z L yX12_reads cX12_reads 11 (some .int) [] d 0 0 (fun v S' => v = some (.int (J x)) ∧ S1 = S') (fun _ _ => False) 396 (gl [(0, .ref (L 500)), (1, .int (J a1)), (2, .int (J a2)), (4, .int (J a4)), (7, .int (J a7)), (8, .int (J a8)), (9, .int (J a9)), (10, .int (J a10))]) [] S 0 0
def P_X12_reads_448 (l : Launch) (Z : XZ) (L : Nat → Nat) (n : Nat) : Prop := ∀ (hL : L 700 = 1), ∀ (d : Nat) (S : GS) (a1 : Int) (a2 : Int) (a4 : Int) (a7 : Int) (a8 : Int) (x : Int) (S1 : GS), f_X12_reads n d 448 S [a1, a2, a4, a7, a8] = some (x, S1) → GA l Z L yX12_reads cX12_reads 11 (some .int) [] d 0 0 (fun v S' => v = some (.int (J x)) ∧ S1 = S') (fun _ _ => False) 448 (gl [(0, .ref (L 500)), (1, .int (J a1)), (2, .int (J a2)), (4, .int (J a4)), (7, .int (J a7)), (8, .int (J a8))]) [] S 0 0
def P_X12_reads_483 (l : Launch) (Z : XZ) (L : Nat → Nat) (n : Nat) : Prop := ∀ (hL : L 700 = 1), ∀ (d : Nat) (S : GS) (a1 : Int) (a2 : Int) (a4 : Int) (a7 : Int) (a8 : Int) (s0 : Int) (x : Int) (S1 : GS), f_X12_reads n d 483 S [a1, a2, a4, a7, a8, s0] = some (x, S1) → GA l Z L yX12_reads cX12_reads 11 (some .int) [] d 0 0 (fun v S' => v = some (.int (J x)) ∧ S1 = S') (fun _ _ => False) 483 (gl [(0, .ref (L 500)), (1, .int (J a1)), (2, .int (J a2)), (4, .int (J a4)), (7, .int (J a7)), (8, .int (J a8))]) [.int (J s0)] S 0 0
def P_X12_reads_552 (l : Launch) (Z : XZ) (L : Nat → Nat) (n : Nat) : Prop := ∀ (hL : L 700 = 1), ∀ (d : Nat) (S : GS) (s0 : Int) (s1 : Int) (s2 : Int) (s3 : Int) (x : Int) (S1 : GS), f_X12_reads n d 552 S [s0, s1, s2, s3] = some (x, S1) → GA l Z L yX12_reads cX12_reads 11 (some .int) [] d 0 0 (fun v S' => v = some (.int (J x)) ∧ S1 = S') (fun _ _ => False) 552 (gl [(0, .ref (L 500))]) [.int (J s0), .int (J s1), .int (J s2), .int (J s3), .ref (L 500)] S 0 0
theorem i_X12_reads {l : Launch} {Z : XZ} {L : Nat → Nat} (hL : L 700 = 1) {n : Nat} (ih : P_X12_reads_0 l Z L n) {d : Nat} {S : GS} {a1 : Int} {x : Int} {S1 : GS} (H : f_X12_reads n d 0 S [a1] = some (x, S1)) : GM l Z L yX12_reads cX12_reads 11 (some .int) [] d 0 0 [.ref (L 500), .int (J a1)] S (fun v S' => v = some (.int (J x)) ∧ S1 = S') (fun _ _ => False) := GM.of (by decide) (Nat.le_of_ble_eq_true rfl) (ih hL _ _ _ _ _ H)
set_option maxHeartbeats 4000000 in
set_option maxRecDepth 20000 in
theorem t_X12_reads_0 {l : Launch} {Z : XZ} {L : Nat → Nat} (n : Nat) (ih_X12_reads_0 : P_X12_reads_0 l Z L n) (ih_X12_reads_23 : P_X12_reads_23 l Z L n) (ih_X12_reads_28 : P_X12_reads_28 l Z L n) (ih_X12_reads_99 : P_X12_reads_99 l Z L n) (ih_X12_reads_116 : P_X12_reads_116 l Z L n) (ih_X12_reads_146 : P_X12_reads_146 l Z L n) (ih_X12_reads_226 : P_X12_reads_226 l Z L n) (ih_X12_reads_282 : P_X12_reads_282 l Z L n) (ih_X12_reads_317 : P_X12_reads_317 l Z L n) (ih_X12_reads_396 : P_X12_reads_396 l Z L n) (ih_X12_reads_448 : P_X12_reads_448 l Z L n) (ih_X12_reads_483 : P_X12_reads_483 l Z L n) (ih_X12_reads_552 : P_X12_reads_552 l Z L n) : P_X12_reads_0 l Z L (n + 1) := by
  intro hL d S a1 x S1 H
  have H : b_X12_reads_0 n d (f_X12_reads n) S a1 = some (x, S1) := H
  unfold b_X12_reads_0 at H
  refine GA.aload_n dX12_reads_0 rfl ?_
  refine GA.bipush dX12_reads_1 rfl ?_
  obtain ⟨hg1, H⟩ := gg_e H
  obtain ⟨x2, S_3, hc4, H⟩ := gc_e H
  refine GA.callV (m_X12_begin hL hc4) xs_X12_517 dX12_reads_3 (gs_500 hL) (by decide) rfl rfl (by omega) (by decide) rfl (Nat.le_of_ble_eq_true rfl) (by omega) (by omega) rfl (fun E S9 hx => hx.elim) (fun v S9 hq => ?_)
  obtain ⟨rfl, rfl⟩ := hq
  refine GA.aload_n dX12_reads_6 rfl ?_
  refine GA.iconst dX12_reads_7 ?_
  obtain ⟨S_5, hx6, H⟩ := gv_e H
  refine GV.putI hx6 (xp_X12_511 _) dX12_reads_8 (gs_500 hL) (by decide) (Nat.le_of_ble_eq_true rfl) (gs_500 hL) ?_
  refine GA.aload_n dX12_reads_11 rfl ?_
  refine GA.iconst dX12_reads_12 ?_
  obtain ⟨S_7, hx8, H⟩ := gv_e H
  refine GV.putI hx8 (xp_X12_468 _) dX12_reads_13 (gs_500 hL) (by decide) (Nat.le_of_ble_eq_true rfl) (gs_500 hL) ?_
  refine GA.iconst dX12_reads_16 ?_
  refine GA.istore_n dX12_reads_17 (by decide) ?_
  refine GA.iconst dX12_reads_18 ?_
  refine GA.istore_n dX12_reads_19 (by decide) ?_
  refine GA.iconst dX12_reads_20 ?_
  refine GA.istore dX12_reads_21 (by decide) ?_
  refine GA.locals [(0, .ref (L 500)), (1, .int (J a1)), (2, .int (J 0)), (3, .int (J 0)), (4, .int (J 1))] ⟨rfl, rfl, rfl, rfl, rfl, trivial⟩ ?_
  exact ih_X12_reads_23 hL _ _ (a1) (0) (0) (1) _ _ H
set_option maxHeartbeats 4000000 in
set_option maxRecDepth 20000 in
theorem t_X12_reads_23 {l : Launch} {Z : XZ} {L : Nat → Nat} (n : Nat) (ih_X12_reads_0 : P_X12_reads_0 l Z L n) (ih_X12_reads_23 : P_X12_reads_23 l Z L n) (ih_X12_reads_28 : P_X12_reads_28 l Z L n) (ih_X12_reads_99 : P_X12_reads_99 l Z L n) (ih_X12_reads_116 : P_X12_reads_116 l Z L n) (ih_X12_reads_146 : P_X12_reads_146 l Z L n) (ih_X12_reads_226 : P_X12_reads_226 l Z L n) (ih_X12_reads_282 : P_X12_reads_282 l Z L n) (ih_X12_reads_317 : P_X12_reads_317 l Z L n) (ih_X12_reads_396 : P_X12_reads_396 l Z L n) (ih_X12_reads_448 : P_X12_reads_448 l Z L n) (ih_X12_reads_483 : P_X12_reads_483 l Z L n) (ih_X12_reads_552 : P_X12_reads_552 l Z L n) : P_X12_reads_23 l Z L (n + 1) := by
  intro hL d S a1 a2 a3 a4 x S1 H
  have H : b_X12_reads_23 n d (f_X12_reads n) S a1 a2 a3 a4 = some (x, S1) := H
  unfold b_X12_reads_23 at H
  refine GA.iload dX12_reads_23 rfl ?_
  obtain ⟨hg1, H⟩ := gg_e H
  refine GV.if_eq (tgt := 514) hg1 dX12_reads_25 (by decide) (fun c2 => ?_) (fun c2 => ?_)
  · have H := it_t H c2
    refine GA.aload_n dX12_reads_514 rfl ?_
    obtain ⟨x3, hx4, H⟩ := gv_e H
    refine GV.getI hx4 xf_X12_468 dX12_reads_515 (gs_500 hL) (by decide) rfl ?_
    refine GA.aload_n dX12_reads_518 rfl ?_
    obtain ⟨x5, hx6, H⟩ := gv_e H
    refine GV.getI hx6 xf_X12_445 dX12_reads_519 (gs_500 hL) (by decide) rfl ?_
    obtain ⟨hg7, H⟩ := gg_e H
    obtain ⟨hg8, H⟩ := gg_e H
    refine GV.icmp_ge (tgt := 530) hg7 hg8 dX12_reads_522 (by decide) (fun c9 => ?_) (fun c9 => ?_)
    · have H := it_t H c9
      refine GA.aload_n dX12_reads_530 rfl ?_
      refine GA.bipush dX12_reads_531 rfl ?_
      obtain ⟨hg10, H⟩ := gg_e H
      obtain ⟨x11, S_12, hc13, H⟩ := gc_e H
      refine GA.callV (m_X12_link hL hc13) xs_X12_55 dX12_reads_533 (gs_500 hL) (by decide) rfl rfl (by omega) (by decide) rfl (Nat.le_of_ble_eq_true rfl) (by omega) (by omega) rfl (fun E S9 hx => hx.elim) (fun v S9 hq => ?_)
      obtain ⟨rfl, rfl⟩ := hq
      refine GA.aload_n dX12_reads_536 rfl ?_
      refine GA.bipush dX12_reads_537 rfl ?_
      refine GA.iconst dX12_reads_539 ?_
      refine GA.bipush dX12_reads_540 rfl ?_
      refine GA.iload_n dX12_reads_542 rfl ?_
      refine GA.iconst dX12_reads_543 ?_
      obtain ⟨hg14, H⟩ := gg_e H
      refine GV.icmp_ne (tgt := 551) hg14 (by decide) dX12_reads_544 (by decide) (fun c15 => ?_) (fun c15 => ?_)
      · have H := it_t H c15
        refine GA.iconst dX12_reads_551 ?_
        refine GA.locals [(0, .ref (L 500))] ⟨rfl, trivial⟩ ?_
        exact ih_X12_reads_552 hL _ _ (2) (41) (0) (40) _ _ H
      · have H := it_f H c15
        refine GA.iconst dX12_reads_547 ?_
        refine GA.goto (tgt := 552) dX12_reads_548 (by decide) ?_
        refine GA.locals [(0, .ref (L 500))] ⟨rfl, trivial⟩ ?_
        exact ih_X12_reads_552 hL _ _ (3) (41) (0) (40) _ _ H
    · have H := it_f H c9
      refine GA.aload_n dX12_reads_525 rfl ?_
      obtain ⟨x16, hx17, H⟩ := gv_e H
      refine GV.getI hx17 xf_X12_468 dX12_reads_526 (gs_500 hL) (by decide) rfl ?_
      cases H
      exact GA.iret rfl dX12_reads_529 (by omega) (by omega) ⟨rfl, rfl⟩
  · have H := it_f H c2
    refine GA.locals [(0, .ref (L 500)), (1, .int (J a1)), (2, .int (J a2)), (3, .int (J a3)), (4, .int (J a4))] ⟨rfl, rfl, rfl, rfl, rfl, trivial⟩ ?_
    exact ih_X12_reads_28 hL _ _ (a1) (a2) (a3) (a4) _ _ H
set_option maxHeartbeats 4000000 in
set_option maxRecDepth 20000 in
theorem t_X12_reads_28 {l : Launch} {Z : XZ} {L : Nat → Nat} (n : Nat) (ih_X12_reads_0 : P_X12_reads_0 l Z L n) (ih_X12_reads_23 : P_X12_reads_23 l Z L n) (ih_X12_reads_28 : P_X12_reads_28 l Z L n) (ih_X12_reads_99 : P_X12_reads_99 l Z L n) (ih_X12_reads_116 : P_X12_reads_116 l Z L n) (ih_X12_reads_146 : P_X12_reads_146 l Z L n) (ih_X12_reads_226 : P_X12_reads_226 l Z L n) (ih_X12_reads_282 : P_X12_reads_282 l Z L n) (ih_X12_reads_317 : P_X12_reads_317 l Z L n) (ih_X12_reads_396 : P_X12_reads_396 l Z L n) (ih_X12_reads_448 : P_X12_reads_448 l Z L n) (ih_X12_reads_483 : P_X12_reads_483 l Z L n) (ih_X12_reads_552 : P_X12_reads_552 l Z L n) : P_X12_reads_28 l Z L (n + 1) := by
  intro hL d S a1 a2 a3 a4 x S1 H
  have H : b_X12_reads_28 n d (f_X12_reads n) S a1 a2 a3 a4 = some (x, S1) := H
  unfold b_X12_reads_28 at H
  refine GA.aload_n dX12_reads_28 rfl ?_
  obtain ⟨hg1, H⟩ := gg_e H
  obtain ⟨x2, S_3, hc4, H⟩ := gc_e H
  refine GA.callV (m_X12_isBlank hL hc4) xs_X12_514 dX12_reads_29 (gs_500 hL) (by decide) rfl rfl (by omega) (by decide) rfl (Nat.le_of_ble_eq_true rfl) (by omega) (by omega) rfl (fun E S9 hx => hx.elim) (fun v S9 hq => ?_)
  obtain ⟨rfl, rfl⟩ := hq
  obtain ⟨hg5, H⟩ := gg_e H
  refine GV.if_eq (tgt := 48) hg5 dX12_reads_32 (by decide) (fun c6 => ?_) (fun c6 => ?_)
  · have H := it_t H c6
    refine GA.aload_n dX12_reads_48 rfl ?_
    obtain ⟨x7, S_8, hc9, H⟩ := gc_e H
    refine GA.callV (m_X12_sign hL hc9) xs_X12_471 dX12_reads_49 (gs_500 hL) (by decide) rfl rfl (by omega) (by decide) rfl (Nat.le_of_ble_eq_true rfl) (by omega) (by omega) rfl (fun E S9 hx => hx.elim) (fun v S9 hq => ?_)
    obtain ⟨rfl, rfl⟩ := hq
    refine GA.istore dX12_reads_52 (by decide) ?_
    refine GA.aload_n dX12_reads_54 rfl ?_
    obtain ⟨x10, hx11, H⟩ := gv_e H
    refine GV.getI hx11 xf_X12_511 dX12_reads_55 (gs_500 hL) (by decide) rfl ?_
    obtain ⟨hg12, H⟩ := gg_e H
    refine GV.if_le (tgt := 98) hg12 dX12_reads_58 (by decide) (fun c13 => ?_) (fun c13 => ?_)
    · have H := it_t H c13
      refine GA.iconst dX12_reads_98 ?_
      refine GA.locals [(0, .ref (L 500)), (1, .int (J a1)), (2, .int (J a2)), (3, .int (J a3)), (4, .int (J a4)), (5, .int (J x7))] ⟨rfl, rfl, rfl, rfl, rfl, rfl, trivial⟩ ?_
      exact ih_X12_reads_99 hL _ _ (a1) (a2) (a3) (a4) (x7) (0) _ _ H
    · have H := it_f H c13
      refine GA.iload dX12_reads_61 rfl ?_
      refine GA.aload_n dX12_reads_63 rfl ?_
      refine GA.bipush dX12_reads_64 rfl ?_
      refine GA.aload_n dX12_reads_66 rfl ?_
      refine GA.get xf_X12_253 dX12_reads_67 (gs_500 hL) (by decide) rfl ?_
      refine GA.aload_n dX12_reads_70 rfl ?_
      obtain ⟨x14, hx15, H⟩ := gv_e H
      refine GV.getI hx15 xf_X12_511 dX12_reads_71 (gs_500 hL) (by decide) rfl ?_
      refine GA.iconst dX12_reads_74 ?_
      obtain ⟨x16, hx17, H⟩ := gv_e H
      refine GV.isub hx17 dX12_reads_75 ?_
      obtain ⟨hg18, H⟩ := gg_e H
      obtain ⟨x19, hx20, H⟩ := gv_e H
      refine GV.iald hg18 hx20 dX12_reads_76 (gs_511 hL) (by decide) ?_
      obtain ⟨x21, S_22, hc23, H⟩ := gc_e H
      refine GA.callV (m_X12_kind hL hc23) xs_X12_52 dX12_reads_77 (gs_500 hL) (by decide) rfl rfl (by omega) (by decide) rfl (Nat.le_of_ble_eq_true rfl) (by omega) (by omega) rfl (fun E S9 hx => hx.elim) (fun v S9 hq => ?_)
      obtain ⟨rfl, rfl⟩ := hq
      refine GA.iconst dX12_reads_80 ?_
      obtain ⟨hg24, H⟩ := gg_e H
      refine GV.icmp_ne (tgt := 89) hg24 (by decide) dX12_reads_81 (by decide) (fun c25 => ?_) (fun c25 => ?_)
      · have H := it_t H c25
        refine GA.bipush dX12_reads_89 rfl ?_
        obtain ⟨hg26, H⟩ := gg_e H
        refine GV.icmp_ne (tgt := 98) hg26 (by decide) dX12_reads_91 (by decide) (fun c27 => ?_) (fun c27 => ?_)
        · have H := it_t H c27
          refine GA.iconst dX12_reads_98 ?_
          refine GA.locals [(0, .ref (L 500)), (1, .int (J a1)), (2, .int (J a2)), (3, .int (J a3)), (4, .int (J a4)), (5, .int (J x7))] ⟨rfl, rfl, rfl, rfl, rfl, rfl, trivial⟩ ?_
          exact ih_X12_reads_99 hL _ _ (a1) (a2) (a3) (a4) (x7) (0) _ _ H
        · have H := it_f H c27
          refine GA.iconst dX12_reads_94 ?_
          refine GA.goto (tgt := 99) dX12_reads_95 (by decide) ?_
          refine GA.locals [(0, .ref (L 500)), (1, .int (J a1)), (2, .int (J a2)), (3, .int (J a3)), (4, .int (J a4)), (5, .int (J x7))] ⟨rfl, rfl, rfl, rfl, rfl, rfl, trivial⟩ ?_
          exact ih_X12_reads_99 hL _ _ (a1) (a2) (a3) (a4) (x7) (1) _ _ H
      · have H := it_f H c25
        refine GA.bipush dX12_reads_84 rfl ?_
        refine GA.goto (tgt := 91) dX12_reads_86 (by decide) ?_
        obtain ⟨hg28, H⟩ := gg_e H
        refine GV.icmp_ne (tgt := 98) hg28 (by decide) dX12_reads_91 (by decide) (fun c29 => ?_) (fun c29 => ?_)
        · have H := it_t H c29
          refine GA.iconst dX12_reads_98 ?_
          refine GA.locals [(0, .ref (L 500)), (1, .int (J a1)), (2, .int (J a2)), (3, .int (J a3)), (4, .int (J a4)), (5, .int (J x7))] ⟨rfl, rfl, rfl, rfl, rfl, rfl, trivial⟩ ?_
          exact ih_X12_reads_99 hL _ _ (a1) (a2) (a3) (a4) (x7) (0) _ _ H
        · have H := it_f H c29
          refine GA.iconst dX12_reads_94 ?_
          refine GA.goto (tgt := 99) dX12_reads_95 (by decide) ?_
          refine GA.locals [(0, .ref (L 500)), (1, .int (J a1)), (2, .int (J a2)), (3, .int (J a3)), (4, .int (J a4)), (5, .int (J x7))] ⟨rfl, rfl, rfl, rfl, rfl, rfl, trivial⟩ ?_
          exact ih_X12_reads_99 hL _ _ (a1) (a2) (a3) (a4) (x7) (1) _ _ H
  · have H := it_f H c6
    refine GA.aload_n dX12_reads_35 rfl ?_
    refine GA.dup dX12_reads_36 rfl ?_
    obtain ⟨x30, hx31, H⟩ := gv_e H
    refine GV.getI hx31 xf_X12_468 dX12_reads_37 (gs_500 hL) (by decide) rfl ?_
    refine GA.iconst dX12_reads_40 ?_
    obtain ⟨x32, hx33, H⟩ := gv_e H
    refine GV.iadd hx33 dX12_reads_41 ?_
    obtain ⟨S_34, hx35, H⟩ := gv_e H
    refine GV.putI hx35 (xp_X12_468 _) dX12_reads_42 (gs_500 hL) (by decide) (Nat.le_of_ble_eq_true rfl) (gs_500 hL) ?_
    refine GA.goto (tgt := 28) dX12_reads_45 (by decide) ?_
    refine GA.locals [(0, .ref (L 500)), (1, .int (J a1)), (2, .int (J a2)), (3, .int (J a3)), (4, .int (J a4))] ⟨rfl, rfl, rfl, rfl, rfl, trivial⟩ ?_
    exact ih_X12_reads_28 hL _ _ (a1) (a2) (a3) (a4) _ _ H
set_option maxHeartbeats 4000000 in
set_option maxRecDepth 20000 in
theorem t_X12_reads_99 {l : Launch} {Z : XZ} {L : Nat → Nat} (n : Nat) (ih_X12_reads_0 : P_X12_reads_0 l Z L n) (ih_X12_reads_23 : P_X12_reads_23 l Z L n) (ih_X12_reads_28 : P_X12_reads_28 l Z L n) (ih_X12_reads_99 : P_X12_reads_99 l Z L n) (ih_X12_reads_116 : P_X12_reads_116 l Z L n) (ih_X12_reads_146 : P_X12_reads_146 l Z L n) (ih_X12_reads_226 : P_X12_reads_226 l Z L n) (ih_X12_reads_282 : P_X12_reads_282 l Z L n) (ih_X12_reads_317 : P_X12_reads_317 l Z L n) (ih_X12_reads_396 : P_X12_reads_396 l Z L n) (ih_X12_reads_448 : P_X12_reads_448 l Z L n) (ih_X12_reads_483 : P_X12_reads_483 l Z L n) (ih_X12_reads_552 : P_X12_reads_552 l Z L n) : P_X12_reads_99 l Z L (n + 1) := by
  intro hL d S a1 a2 a3 a4 a5 s0 x S1 H
  have H : b_X12_reads_99 n d (f_X12_reads n) S a1 a2 a3 a4 a5 s0 = some (x, S1) := H
  unfold b_X12_reads_99 at H
  refine GA.istore dX12_reads_99 (by decide) ?_
  refine GA.iload_n dX12_reads_101 rfl ?_
  refine GA.iconst dX12_reads_102 ?_
  obtain ⟨hg1, H⟩ := gg_e H
  refine GV.icmp_eq (tgt := 116) hg1 (by decide) dX12_reads_103 (by decide) (fun c2 => ?_) (fun c2 => ?_)
  · have H := it_t H c2
    refine GA.locals [(0, .ref (L 500)), (1, .int (J a1)), (2, .int (J a2)), (3, .int (J a3)), (4, .int (J a4)), (5, .int (J a5)), (6, .int (J s0))] ⟨rfl, rfl, rfl, rfl, rfl, rfl, rfl, trivial⟩ ?_
    exact ih_X12_reads_116 hL _ _ (a1) (a2) (a3) (a4) (a5) (s0) _ _ H
  · have H := it_f H c2
    refine GA.iload_n dX12_reads_106 rfl ?_
    refine GA.iconst dX12_reads_107 ?_
    refine GV.icmp_eq (tgt := 116) hg1 (by decide) dX12_reads_108 (by decide) (fun c3 => ?_) (fun c3 => ?_)
    · have H := it_t H c3
      refine GA.locals [(0, .ref (L 500)), (1, .int (J a1)), (2, .int (J a2)), (3, .int (J a3)), (4, .int (J a4)), (5, .int (J a5)), (6, .int (J s0))] ⟨rfl, rfl, rfl, rfl, rfl, rfl, rfl, trivial⟩ ?_
      exact ih_X12_reads_116 hL _ _ (a1) (a2) (a3) (a4) (a5) (s0) _ _ H
    · have H := it_f H c3
      refine GA.iload_n dX12_reads_111 rfl ?_
      refine GA.iconst dX12_reads_112 ?_
      refine GV.icmp_ne (tgt := 146) hg1 (by decide) dX12_reads_113 (by decide) (fun c4 => ?_) (fun c4 => ?_)
      · have H := it_t H c4
        refine GA.locals [(0, .ref (L 500)), (1, .int (J a1)), (2, .int (J a2)), (3, .int (J a3)), (4, .int (J a4)), (5, .int (J a5))] ⟨rfl, rfl, rfl, rfl, rfl, rfl, trivial⟩ ?_
        exact ih_X12_reads_146 hL _ _ (a1) (a2) (a3) (a4) (a5) _ _ H
      · have H := it_f H c4
        refine GA.locals [(0, .ref (L 500)), (1, .int (J a1)), (2, .int (J a2)), (3, .int (J a3)), (4, .int (J a4)), (5, .int (J a5)), (6, .int (J s0))] ⟨rfl, rfl, rfl, rfl, rfl, rfl, rfl, trivial⟩ ?_
        exact ih_X12_reads_116 hL _ _ (a1) (a2) (a3) (a4) (a5) (s0) _ _ H
set_option maxHeartbeats 4000000 in
set_option maxRecDepth 20000 in
theorem t_X12_reads_116 {l : Launch} {Z : XZ} {L : Nat → Nat} (n : Nat) (ih_X12_reads_0 : P_X12_reads_0 l Z L n) (ih_X12_reads_23 : P_X12_reads_23 l Z L n) (ih_X12_reads_28 : P_X12_reads_28 l Z L n) (ih_X12_reads_99 : P_X12_reads_99 l Z L n) (ih_X12_reads_116 : P_X12_reads_116 l Z L n) (ih_X12_reads_146 : P_X12_reads_146 l Z L n) (ih_X12_reads_226 : P_X12_reads_226 l Z L n) (ih_X12_reads_282 : P_X12_reads_282 l Z L n) (ih_X12_reads_317 : P_X12_reads_317 l Z L n) (ih_X12_reads_396 : P_X12_reads_396 l Z L n) (ih_X12_reads_448 : P_X12_reads_448 l Z L n) (ih_X12_reads_483 : P_X12_reads_483 l Z L n) (ih_X12_reads_552 : P_X12_reads_552 l Z L n) : P_X12_reads_116 l Z L (n + 1) := by
  intro hL d S a1 a2 a3 a4 a5 a6 x S1 H
  have H : b_X12_reads_116 n d (f_X12_reads n) S a1 a2 a3 a4 a5 a6 = some (x, S1) := H
  unfold b_X12_reads_116 at H
  refine GA.iload dX12_reads_116 rfl ?_
  obtain ⟨hg1, H⟩ := gg_e H
  refine GV.if_eq (tgt := 146) hg1 dX12_reads_118 (by decide) (fun c2 => ?_) (fun c2 => ?_)
  · have H := it_t H c2
    refine GA.locals [(0, .ref (L 500)), (1, .int (J a1)), (2, .int (J a2)), (3, .int (J a3)), (4, .int (J a4)), (5, .int (J a5))] ⟨rfl, rfl, rfl, rfl, rfl, rfl, trivial⟩ ?_
    exact ih_X12_reads_146 hL _ _ (a1) (a2) (a3) (a4) (a5) _ _ H
  · have H := it_f H c2
    refine GA.aload_n dX12_reads_121 rfl ?_
    refine GA.dup dX12_reads_122 rfl ?_
    obtain ⟨x3, hx4, H⟩ := gv_e H
    refine GV.getI hx4 xf_X12_511 dX12_reads_123 (gs_500 hL) (by decide) rfl ?_
    refine GA.iconst dX12_reads_126 ?_
    obtain ⟨x5, hx6, H⟩ := gv_e H
    refine GV.isub hx6 dX12_reads_127 ?_
    obtain ⟨S_7, hx8, H⟩ := gv_e H
    refine GV.putI hx8 (xp_X12_511 _) dX12_reads_128 (gs_500 hL) (by decide) (Nat.le_of_ble_eq_true rfl) (gs_500 hL) ?_
    refine GA.aload_n dX12_reads_131 rfl ?_
    refine GA.dup dX12_reads_132 rfl ?_
    obtain ⟨x9, hx10, H⟩ := gv_e H
    refine GV.getI hx10 xf_X12_468 dX12_reads_133 (gs_500 hL) (by decide) rfl ?_
    refine GA.iconst dX12_reads_136 ?_
    obtain ⟨x11, hx12, H⟩ := gv_e H
    refine GV.iadd hx12 dX12_reads_137 ?_
    obtain ⟨S_13, hx14, H⟩ := gv_e H
    refine GV.putI hx14 (xp_X12_468 _) dX12_reads_138 (gs_500 hL) (by decide) (Nat.le_of_ble_eq_true rfl) (gs_500 hL) ?_
    refine GA.iconst dX12_reads_141 ?_
    refine GA.istore_n dX12_reads_142 (by decide) ?_
    refine GA.goto (tgt := 511) dX12_reads_143 (by decide) ?_
    refine GA.goto (tgt := 23) dX12_reads_511 (by decide) ?_
    refine GA.locals [(0, .ref (L 500)), (1, .int (J a1)), (2, .int (J a2)), (3, .int (J 4)), (4, .int (J a4))] ⟨rfl, rfl, rfl, rfl, rfl, trivial⟩ ?_
    exact ih_X12_reads_23 hL _ _ (a1) (a2) (4) (a4) _ _ H
set_option maxHeartbeats 4000000 in
set_option maxRecDepth 20000 in
theorem t_X12_reads_146 {l : Launch} {Z : XZ} {L : Nat → Nat} (n : Nat) (ih_X12_reads_0 : P_X12_reads_0 l Z L n) (ih_X12_reads_23 : P_X12_reads_23 l Z L n) (ih_X12_reads_28 : P_X12_reads_28 l Z L n) (ih_X12_reads_99 : P_X12_reads_99 l Z L n) (ih_X12_reads_116 : P_X12_reads_116 l Z L n) (ih_X12_reads_146 : P_X12_reads_146 l Z L n) (ih_X12_reads_226 : P_X12_reads_226 l Z L n) (ih_X12_reads_282 : P_X12_reads_282 l Z L n) (ih_X12_reads_317 : P_X12_reads_317 l Z L n) (ih_X12_reads_396 : P_X12_reads_396 l Z L n) (ih_X12_reads_448 : P_X12_reads_448 l Z L n) (ih_X12_reads_483 : P_X12_reads_483 l Z L n) (ih_X12_reads_552 : P_X12_reads_552 l Z L n) : P_X12_reads_146 l Z L (n + 1) := by
  intro hL d S a1 a2 a3 a4 a5 x S1 H
  have H : b_X12_reads_146 n d (f_X12_reads n) S a1 a2 a3 a4 a5 = some (x, S1) := H
  unfold b_X12_reads_146 at H
  refine GA.iload_n dX12_reads_146 rfl ?_
  refine GA.iconst dX12_reads_147 ?_
  obtain ⟨hg1, H⟩ := gg_e H
  refine GV.icmp_ne (tgt := 216) hg1 (by decide) dX12_reads_148 (by decide) (fun c2 => ?_) (fun c2 => ?_)
  · have H := it_t H c2
    refine GA.iload_n dX12_reads_216 rfl ?_
    refine GA.iconst dX12_reads_217 ?_
    refine GV.icmp_eq (tgt := 226) hg1 (by decide) dX12_reads_218 (by decide) (fun c3 => ?_) (fun c3 => ?_)
    · have H := it_t H c3
      refine GA.locals [(0, .ref (L 500)), (1, .int (J a1)), (2, .int (J a2)), (4, .int (J a4))] ⟨rfl, rfl, rfl, rfl, trivial⟩ ?_
      exact ih_X12_reads_226 hL _ _ (a1) (a2) (a4) _ _ H
    · have H := it_f H c3
      refine GA.iload_n dX12_reads_221 rfl ?_
      refine GA.iconst dX12_reads_222 ?_
      refine GV.icmp_ne (tgt := 244) hg1 (by decide) dX12_reads_223 (by decide) (fun c4 => ?_) (fun c4 => ?_)
      · have H := it_t H c4
        refine GA.aload_n dX12_reads_244 rfl ?_
        obtain ⟨hg5, H⟩ := gg_e H
        obtain ⟨x6, S_7, hc8, H⟩ := gc_e H
        refine GA.callV (m_X12_kindAhead hL hc8) xs_X12_523 dX12_reads_245 (gs_500 hL) (by decide) rfl rfl (by omega) (by decide) rfl (Nat.le_of_ble_eq_true rfl) (by omega) (by omega) rfl (fun E S9 hx => hx.elim) (fun v S9 hq => ?_)
        obtain ⟨rfl, rfl⟩ := hq
        refine GA.istore dX12_reads_248 (by decide) ?_
        refine GA.iload dX12_reads_250 rfl ?_
        refine GA.iconst dX12_reads_252 ?_
        obtain ⟨hg9, H⟩ := gg_e H
        refine GV.icmp_eq (tgt := 277) hg9 (by decide) dX12_reads_253 (by decide) (fun c10 => ?_) (fun c10 => ?_)
        · have H := it_t H c10
          refine GA.aload_n dX12_reads_277 rfl ?_
          obtain ⟨x11, hx12, H⟩ := gv_e H
          refine GV.getI hx12 xf_X12_468 dX12_reads_278 (gs_500 hL) (by decide) rfl ?_
          cases H
          exact GA.iret rfl dX12_reads_281 (by omega) (by omega) ⟨rfl, rfl⟩
        · have H := it_f H c10
          refine GA.iload_n dX12_reads_256 rfl ?_
          refine GA.bipush dX12_reads_257 rfl ?_
          obtain ⟨hg13, H⟩ := gg_e H
          refine GV.icmp_eq (tgt := 277) hg13 (by decide) dX12_reads_259 (by decide) (fun c14 => ?_) (fun c14 => ?_)
          · have H := it_t H c14
            refine GA.aload_n dX12_reads_277 rfl ?_
            obtain ⟨x15, hx16, H⟩ := gv_e H
            refine GV.getI hx16 xf_X12_468 dX12_reads_278 (gs_500 hL) (by decide) rfl ?_
            cases H
            exact GA.iret rfl dX12_reads_281 (by omega) (by omega) ⟨rfl, rfl⟩
          · have H := it_f H c14
            refine GA.iload dX12_reads_262 rfl ?_
            refine GA.iconst dX12_reads_264 ?_
            refine GV.icmp_lt (tgt := 282) hg9 (by decide) dX12_reads_265 (by decide) (fun c17 => ?_) (fun c17 => ?_)
            · have H := it_t H c17
              refine GA.locals [(0, .ref (L 500)), (1, .int (J a1)), (2, .int (J a2)), (4, .int (J a4)), (7, .int (J x6))] ⟨rfl, rfl, rfl, rfl, rfl, trivial⟩ ?_
              exact ih_X12_reads_282 hL _ _ (a1) (a2) (a4) (x6) _ _ H
            · have H := it_f H c17
              refine GA.aload_n dX12_reads_268 rfl ?_
              obtain ⟨x18, hx19, H⟩ := gv_e H
              refine GV.getI hx19 xf_X12_511 dX12_reads_269 (gs_500 hL) (by decide) rfl ?_
              refine GA.bipush dX12_reads_272 rfl ?_
              obtain ⟨hg20, H⟩ := gg_e H
              refine GV.icmp_ne (tgt := 282) hg20 (by decide) dX12_reads_274 (by decide) (fun c21 => ?_) (fun c21 => ?_)
              · have H := it_t H c21
                refine GA.locals [(0, .ref (L 500)), (1, .int (J a1)), (2, .int (J a2)), (4, .int (J a4)), (7, .int (J x6))] ⟨rfl, rfl, rfl, rfl, rfl, trivial⟩ ?_
                exact ih_X12_reads_282 hL _ _ (a1) (a2) (a4) (x6) _ _ H
              · have H := it_f H c21
                refine GA.aload_n dX12_reads_277 rfl ?_
                obtain ⟨x22, hx23, H⟩ := gv_e H
                refine GV.getI hx23 xf_X12_468 dX12_reads_278 (gs_500 hL) (by decide) rfl ?_
                cases H
                exact GA.iret rfl dX12_reads_281 (by omega) (by omega) ⟨rfl, rfl⟩
      · have H := it_f H c4
        refine GA.locals [(0, .ref (L 500)), (1, .int (J a1)), (2, .int (J a2)), (4, .int (J a4))] ⟨rfl, rfl, rfl, rfl, trivial⟩ ?_
        exact ih_X12_reads_226 hL _ _ (a1) (a2) (a4) _ _ H
  · have H := it_f H c2
    refine GA.aload_n dX12_reads_151 rfl ?_
    obtain ⟨x24, hx25, H⟩ := gv_e H
    refine GV.getI hx25 xf_X12_511 dX12_reads_152 (gs_500 hL) (by decide) rfl ?_
    obtain ⟨hg26, H⟩ := gg_e H
    refine GV.if_ne (tgt := 164) hg26 dX12_reads_155 (by decide) (fun c27 => ?_) (fun c27 => ?_)
    · have H := it_t H c27
      refine GA.iload dX12_reads_164 rfl ?_
      refine GA.bipush dX12_reads_166 rfl ?_
      obtain ⟨hg28, H⟩ := gg_e H
      refine GV.icmp_eq (tgt := 176) hg28 (by decide) dX12_reads_168 (by decide) (fun c29 => ?_) (fun c29 => ?_)
      · have H := it_t H c29
        refine GA.aload_n dX12_reads_176 rfl ?_
        refine GA.dup dX12_reads_177 rfl ?_
        obtain ⟨x30, hx31, H⟩ := gv_e H
        refine GV.getI hx31 xf_X12_468 dX12_reads_178 (gs_500 hL) (by decide) rfl ?_
        refine GA.iconst dX12_reads_181 ?_
        obtain ⟨x32, hx33, H⟩ := gv_e H
        refine GV.iadd hx33 dX12_reads_182 ?_
        obtain ⟨S_34, hx35, H⟩ := gv_e H
        refine GV.putI hx35 (xp_X12_468 _) dX12_reads_183 (gs_500 hL) (by decide) (Nat.le_of_ble_eq_true rfl) (gs_500 hL) ?_
        refine GA.aload_n dX12_reads_186 rfl ?_
        refine GA.bipush dX12_reads_187 rfl ?_
        refine GA.aload_n dX12_reads_189 rfl ?_
        refine GA.get xf_X12_253 dX12_reads_190 (gs_500 hL) (by decide) rfl ?_
        refine GA.aload_n dX12_reads_193 rfl ?_
        obtain ⟨x36, hx37, H⟩ := gv_e H
        refine GV.getI hx37 xf_X12_511 dX12_reads_194 (gs_500 hL) (by decide) rfl ?_
        refine GA.iconst dX12_reads_197 ?_
        obtain ⟨x38, hx39, H⟩ := gv_e H
        refine GV.isub hx39 dX12_reads_198 ?_
        obtain ⟨hg40, H⟩ := gg_e H
        obtain ⟨x41, hx42, H⟩ := gv_e H
        refine GV.iald hg40 hx42 dX12_reads_199 (gs_511 hL) (by decide) ?_
        obtain ⟨hg43, H⟩ := gg_e H
        obtain ⟨x44, S_45, hc46, H⟩ := gc_e H
        refine GA.callV (m_X12_kind hL hc46) xs_X12_52 dX12_reads_200 (gs_500 hL) (by decide) rfl rfl (by omega) (by decide) rfl (Nat.le_of_ble_eq_true rfl) (by omega) (by omega) rfl (fun E S9 hx => hx.elim) (fun v S9 hq => ?_)
        obtain ⟨rfl, rfl⟩ := hq
        refine GA.iconst dX12_reads_203 ?_
        obtain ⟨hg47, H⟩ := gg_e H
        refine GV.icmp_ne (tgt := 211) hg47 (by decide) dX12_reads_204 (by decide) (fun c48 => ?_) (fun c48 => ?_)
        · have H := it_t H c48
          refine GA.iconst dX12_reads_211 ?_
          refine GA.istore_n dX12_reads_212 (by decide) ?_
          refine GA.goto (tgt := 511) dX12_reads_213 (by decide) ?_
          refine GA.goto (tgt := 23) dX12_reads_511 (by decide) ?_
          refine GA.locals [(0, .ref (L 500)), (1, .int (J a1)), (2, .int (J a2)), (3, .int (J 3)), (4, .int (J a4))] ⟨rfl, rfl, rfl, rfl, rfl, trivial⟩ ?_
          exact ih_X12_reads_23 hL _ _ (a1) (a2) (3) (a4) _ _ H
        · have H := it_f H c48
          refine GA.iconst dX12_reads_207 ?_
          refine GA.goto (tgt := 212) dX12_reads_208 (by decide) ?_
          refine GA.istore_n dX12_reads_212 (by decide) ?_
          refine GA.goto (tgt := 511) dX12_reads_213 (by decide) ?_
          refine GA.goto (tgt := 23) dX12_reads_511 (by decide) ?_
          refine GA.locals [(0, .ref (L 500)), (1, .int (J a1)), (2, .int (J a2)), (3, .int (J 0)), (4, .int (J a4))] ⟨rfl, rfl, rfl, rfl, rfl, trivial⟩ ?_
          exact ih_X12_reads_23 hL _ _ (a1) (a2) (0) (a4) _ _ H
      · have H := it_f H c29
        refine GA.aload_n dX12_reads_171 rfl ?_
        obtain ⟨x49, hx50, H⟩ := gv_e H
        refine GV.getI hx50 xf_X12_468 dX12_reads_172 (gs_500 hL) (by decide) rfl ?_
        cases H
        exact GA.iret rfl dX12_reads_175 (by omega) (by omega) ⟨rfl, rfl⟩
    · have H := it_f H c27
      refine GA.iconst dX12_reads_158 ?_
      refine GA.istore dX12_reads_159 (by decide) ?_
      refine GA.goto (tgt := 511) dX12_reads_161 (by decide) ?_
      refine GA.goto (tgt := 23) dX12_reads_511 (by decide) ?_
      refine GA.locals [(0, .ref (L 500)), (1, .int (J a1)), (2, .int (J a2)), (3, .int (J a3)), (4, .int (J 0))] ⟨rfl, rfl, rfl, rfl, rfl, trivial⟩ ?_
      exact ih_X12_reads_23 hL _ _ (a1) (a2) (a3) (0) _ _ H
set_option maxHeartbeats 4000000 in
set_option maxRecDepth 20000 in
theorem t_X12_reads_226 {l : Launch} {Z : XZ} {L : Nat → Nat} (n : Nat) (ih_X12_reads_0 : P_X12_reads_0 l Z L n) (ih_X12_reads_23 : P_X12_reads_23 l Z L n) (ih_X12_reads_28 : P_X12_reads_28 l Z L n) (ih_X12_reads_99 : P_X12_reads_99 l Z L n) (ih_X12_reads_116 : P_X12_reads_116 l Z L n) (ih_X12_reads_146 : P_X12_reads_146 l Z L n) (ih_X12_reads_226 : P_X12_reads_226 l Z L n) (ih_X12_reads_282 : P_X12_reads_282 l Z L n) (ih_X12_reads_317 : P_X12_reads_317 l Z L n) (ih_X12_reads_396 : P_X12_reads_396 l Z L n) (ih_X12_reads_448 : P_X12_reads_448 l Z L n) (ih_X12_reads_483 : P_X12_reads_483 l Z L n) (ih_X12_reads_552 : P_X12_reads_552 l Z L n) : P_X12_reads_226 l Z L (n + 1) := by
  intro hL d S a1 a2 a4 x S1 H
  have H : b_X12_reads_226 n d (f_X12_reads n) S a1 a2 a4 = some (x, S1) := H
  unfold b_X12_reads_226 at H
  refine GA.aload_n dX12_reads_226 rfl ?_
  refine GA.iload_n dX12_reads_227 rfl ?_
  obtain ⟨hg1, H⟩ := gg_e H
  obtain ⟨x2, S_3, hc4, H⟩ := gc_e H
  refine GA.callV (m_X12_readsKey hL hc4) xs_X12_520 dX12_reads_228 (gs_500 hL) (by decide) rfl rfl (by omega) (by decide) rfl (Nat.le_of_ble_eq_true rfl) (by omega) (by omega) rfl (fun E S9 hx => hx.elim) (fun v S9 hq => ?_)
  obtain ⟨rfl, rfl⟩ := hq
  obtain ⟨hg5, H⟩ := gg_e H
  refine GV.if_ne (tgt := 239) hg5 dX12_reads_231 (by decide) (fun c6 => ?_) (fun c6 => ?_)
  · have H := it_t H c6
    refine GA.iconst dX12_reads_239 ?_
    refine GA.istore_n dX12_reads_240 (by decide) ?_
    refine GA.goto (tgt := 511) dX12_reads_241 (by decide) ?_
    refine GA.goto (tgt := 23) dX12_reads_511 (by decide) ?_
    refine GA.locals [(0, .ref (L 500)), (1, .int (J a1)), (2, .int (J a2)), (3, .int (J 0)), (4, .int (J a4))] ⟨rfl, rfl, rfl, rfl, rfl, trivial⟩ ?_
    exact ih_X12_reads_23 hL _ _ (a1) (a2) (0) (a4) _ _ H
  · have H := it_f H c6
    refine GA.aload_n dX12_reads_234 rfl ?_
    obtain ⟨x7, hx8, H⟩ := gv_e H
    refine GV.getI hx8 xf_X12_468 dX12_reads_235 (gs_500 hL) (by decide) rfl ?_
    cases H
    exact GA.iret rfl dX12_reads_238 (by omega) (by omega) ⟨rfl, rfl⟩
set_option maxHeartbeats 4000000 in
set_option maxRecDepth 20000 in
theorem t_X12_reads_282 {l : Launch} {Z : XZ} {L : Nat → Nat} (n : Nat) (ih_X12_reads_0 : P_X12_reads_0 l Z L n) (ih_X12_reads_23 : P_X12_reads_23 l Z L n) (ih_X12_reads_28 : P_X12_reads_28 l Z L n) (ih_X12_reads_99 : P_X12_reads_99 l Z L n) (ih_X12_reads_116 : P_X12_reads_116 l Z L n) (ih_X12_reads_146 : P_X12_reads_146 l Z L n) (ih_X12_reads_226 : P_X12_reads_226 l Z L n) (ih_X12_reads_282 : P_X12_reads_282 l Z L n) (ih_X12_reads_317 : P_X12_reads_317 l Z L n) (ih_X12_reads_396 : P_X12_reads_396 l Z L n) (ih_X12_reads_448 : P_X12_reads_448 l Z L n) (ih_X12_reads_483 : P_X12_reads_483 l Z L n) (ih_X12_reads_552 : P_X12_reads_552 l Z L n) : P_X12_reads_282 l Z L (n + 1) := by
  intro hL d S a1 a2 a4 a7 x S1 H
  have H : b_X12_reads_282 n d (f_X12_reads n) S a1 a2 a4 a7 = some (x, S1) := H
  unfold b_X12_reads_282 at H
  obtain ⟨x1, hx2, H⟩ := gv_e H
  refine GV.iinc hx2 dX12_reads_282 rfl (by decide) ?_
  refine GA.aload_n dX12_reads_285 rfl ?_
  refine GA.bipush dX12_reads_286 rfl ?_
  refine GA.iload dX12_reads_288 rfl ?_
  obtain ⟨hg3, H⟩ := gg_e H
  obtain ⟨x4, S_5, hc6, H⟩ := gc_e H
  refine GA.callV (m_X12_added hL hc6) xs_X12_33 dX12_reads_290 (gs_500 hL) (by decide) rfl rfl (by omega) (by decide) rfl (Nat.le_of_ble_eq_true rfl) (by omega) (by omega) rfl (fun E S9 hx => hx.elim) (fun v S9 hq => ?_)
  obtain ⟨rfl, rfl⟩ := hq
  refine GA.istore dX12_reads_293 (by decide) ?_
  refine GA.aload_n dX12_reads_295 rfl ?_
  obtain ⟨x7, hx8, H⟩ := gv_e H
  refine GV.getI hx8 xf_X12_511 dX12_reads_296 (gs_500 hL) (by decide) rfl ?_
  obtain ⟨hg9, H⟩ := gg_e H
  refine GV.if_ne (tgt := 306) hg9 dX12_reads_299 (by decide) (fun c10 => ?_) (fun c10 => ?_)
  · have H := it_t H c10
    refine GA.aload_n dX12_reads_306 rfl ?_
    refine GA.get xf_X12_253 dX12_reads_307 (gs_500 hL) (by decide) rfl ?_
    refine GA.aload_n dX12_reads_310 rfl ?_
    obtain ⟨x11, hx12, H⟩ := gv_e H
    refine GV.getI hx12 xf_X12_511 dX12_reads_311 (gs_500 hL) (by decide) rfl ?_
    refine GA.iconst dX12_reads_314 ?_
    obtain ⟨x13, hx14, H⟩ := gv_e H
    refine GV.isub hx14 dX12_reads_315 ?_
    obtain ⟨hg15, H⟩ := gg_e H
    obtain ⟨x16, hx17, H⟩ := gv_e H
    refine GV.iald hg15 hx17 dX12_reads_316 (gs_511 hL) (by decide) ?_
    refine GA.locals [(0, .ref (L 500)), (1, .int (J a1)), (2, .int (J x1)), (4, .int (J a4)), (7, .int (J a7)), (8, .int (J x4))] ⟨rfl, rfl, rfl, rfl, rfl, rfl, trivial⟩ ?_
    exact ih_X12_reads_317 hL _ _ (a1) (x1) (a4) (a7) (x4) (x16) _ _ H
  · have H := it_f H c10
    refine GA.iconst dX12_reads_302 ?_
    refine GA.goto (tgt := 317) dX12_reads_303 (by decide) ?_
    refine GA.locals [(0, .ref (L 500)), (1, .int (J a1)), (2, .int (J x1)), (4, .int (J a4)), (7, .int (J a7)), (8, .int (J x4))] ⟨rfl, rfl, rfl, rfl, rfl, rfl, trivial⟩ ?_
    exact ih_X12_reads_317 hL _ _ (a1) (x1) (a4) (a7) (x4) ((-1)) _ _ H
set_option maxHeartbeats 4000000 in
set_option maxRecDepth 20000 in
theorem t_X12_reads_317 {l : Launch} {Z : XZ} {L : Nat → Nat} (n : Nat) (ih_X12_reads_0 : P_X12_reads_0 l Z L n) (ih_X12_reads_23 : P_X12_reads_23 l Z L n) (ih_X12_reads_28 : P_X12_reads_28 l Z L n) (ih_X12_reads_99 : P_X12_reads_99 l Z L n) (ih_X12_reads_116 : P_X12_reads_116 l Z L n) (ih_X12_reads_146 : P_X12_reads_146 l Z L n) (ih_X12_reads_226 : P_X12_reads_226 l Z L n) (ih_X12_reads_282 : P_X12_reads_282 l Z L n) (ih_X12_reads_317 : P_X12_reads_317 l Z L n) (ih_X12_reads_396 : P_X12_reads_396 l Z L n) (ih_X12_reads_448 : P_X12_reads_448 l Z L n) (ih_X12_reads_483 : P_X12_reads_483 l Z L n) (ih_X12_reads_552 : P_X12_reads_552 l Z L n) : P_X12_reads_317 l Z L (n + 1) := by
  intro hL d S a1 a2 a4 a7 a8 s0 x S1 H
  have H : b_X12_reads_317 n d (f_X12_reads n) S a1 a2 a4 a7 a8 s0 = some (x, S1) := H
  unfold b_X12_reads_317 at H
  refine GA.istore dX12_reads_317 (by decide) ?_
  refine GA.aload_n dX12_reads_319 rfl ?_
  refine GA.get xf_X12_7 dX12_reads_320 (gs_500 hL) (by decide) rfl ?_
  refine GA.bipush dX12_reads_323 rfl ?_
  refine GA.iload dX12_reads_325 rfl ?_
  obtain ⟨hg1, H⟩ := gg_e H
  obtain ⟨x2, S_3, hc4, H⟩ := gc_e H
  refine GA.callS (m_X12_at hL hc4) xs_X12_11 dX12_reads_327 rfl (by omega) (by decide) rfl (Nat.le_of_ble_eq_true rfl) (by omega) (by omega) rfl (fun E S9 hx => hx.elim) (fun v S9 hq => ?_)
  obtain ⟨rfl, rfl⟩ := hq
  refine GA.iconst dX12_reads_330 ?_
  obtain ⟨x5, hx6, H⟩ := gv_e H
  refine GV.iadd hx6 dX12_reads_331 ?_
  refine GA.iload dX12_reads_332 rfl ?_
  obtain ⟨hg7, H⟩ := gg_e H
  obtain ⟨S_8, hx9, H⟩ := gv_e H
  refine GV.iast hg7 hx9 dX12_reads_334 (fun _ => (gs_501 hL)) (by decide) ?_
  refine GA.iload dX12_reads_335 rfl ?_
  refine GA.iconst dX12_reads_337 ?_
  obtain ⟨hg10, H⟩ := gg_e H
  refine GV.icmp_eq (tgt := 448) hg10 (by decide) dX12_reads_338 (by decide) (fun c11 => ?_) (fun c11 => ?_)
  · have H := it_t H c11
    refine GA.locals [(0, .ref (L 500)), (1, .int (J a1)), (2, .int (J a2)), (4, .int (J a4)), (7, .int (J a7)), (8, .int (J a8))] ⟨rfl, rfl, rfl, rfl, rfl, rfl, trivial⟩ ?_
    exact ih_X12_reads_448 hL _ _ (a1) (a2) (a4) (a7) (a8) _ _ H
  · have H := it_f H c11
    refine GA.aload_n dX12_reads_341 rfl ?_
    refine GA.get xf_X12_7 dX12_reads_342 (gs_500 hL) (by decide) rfl ?_
    refine GA.bipush dX12_reads_345 rfl ?_
    refine GA.iload dX12_reads_347 rfl ?_
    obtain ⟨x12, S_13, hc14, H⟩ := gc_e H
    refine GA.callS (m_X12_at hL hc14) xs_X12_11 dX12_reads_349 rfl (by omega) (by decide) rfl (Nat.le_of_ble_eq_true rfl) (by omega) (by omega) rfl (fun E S9 hx => hx.elim) (fun v S9 hq => ?_)
    obtain ⟨rfl, rfl⟩ := hq
    refine GA.iconst dX12_reads_352 ?_
    obtain ⟨x15, hx16, H⟩ := gv_e H
    refine GV.iadd hx16 dX12_reads_353 ?_
    refine GA.dup2 dX12_reads_354 rfl rfl ?_
    obtain ⟨hg17, H⟩ := gg_e H
    obtain ⟨x18, hx19, H⟩ := gv_e H
    refine GV.iald hg17 hx19 dX12_reads_355 (gs_501 hL) (by decide) ?_
    refine GA.iconst dX12_reads_356 ?_
    obtain ⟨x20, hx21, H⟩ := gv_e H
    refine GV.iadd hx21 dX12_reads_357 ?_
    obtain ⟨S_22, hx23, H⟩ := gv_e H
    refine GV.iast hg17 hx23 dX12_reads_358 (fun _ => (gs_501 hL)) (by decide) ?_
    refine GA.aload_n dX12_reads_359 rfl ?_
    refine GA.get xf_X12_7 dX12_reads_360 (gs_500 hL) (by decide) rfl ?_
    refine GA.bipush dX12_reads_363 rfl ?_
    refine GA.iload dX12_reads_365 rfl ?_
    obtain ⟨x24, S_25, hc26, H⟩ := gc_e H
    refine GA.callS (m_X12_at hL hc26) xs_X12_11 dX12_reads_367 rfl (by omega) (by decide) rfl (Nat.le_of_ble_eq_true rfl) (by omega) (by omega) rfl (fun E S9 hx => hx.elim) (fun v S9 hq => ?_)
    obtain ⟨rfl, rfl⟩ := hq
    refine GA.iconst dX12_reads_370 ?_
    obtain ⟨x27, hx28, H⟩ := gv_e H
    refine GV.iadd hx28 dX12_reads_371 ?_
    refine GA.aload_n dX12_reads_372 rfl ?_
    refine GA.bipush dX12_reads_373 rfl ?_
    refine GA.iload dX12_reads_375 rfl ?_
    obtain ⟨x29, S_30, hc31, H⟩ := gc_e H
    refine GA.callV (m_X12_kind hL hc31) xs_X12_52 dX12_reads_377 (gs_500 hL) (by decide) rfl rfl (by omega) (by decide) rfl (Nat.le_of_ble_eq_true rfl) (by omega) (by omega) rfl (fun E S9 hx => hx.elim) (fun v S9 hq => ?_)
    obtain ⟨rfl, rfl⟩ := hq
    refine GA.iconst dX12_reads_380 ?_
    obtain ⟨hg32, H⟩ := gg_e H
    refine GV.icmp_ne (tgt := 391) hg32 (by decide) dX12_reads_381 (by decide) (fun c33 => ?_) (fun c33 => ?_)
    · have H := it_t H c33
      refine GA.iconst dX12_reads_391 ?_
      obtain ⟨hg34, H⟩ := gg_e H
      obtain ⟨S_35, hx36, H⟩ := gv_e H
      refine GV.iast hg34 hx36 dX12_reads_392 (fun _ => (gs_501 hL)) (by decide) ?_
      refine GA.iconst dX12_reads_393 ?_
      refine GA.istore dX12_reads_394 (by decide) ?_
      refine GA.locals [(0, .ref (L 500)), (1, .int (J a1)), (2, .int (J a2)), (4, .int (J a4)), (7, .int (J a7)), (8, .int (J a8)), (9, .int (J s0)), (10, .int (J 0))] ⟨rfl, rfl, rfl, rfl, rfl, rfl, rfl, rfl, trivial⟩ ?_
      exact ih_X12_reads_396 hL _ _ (a1) (a2) (a4) (a7) (a8) (s0) (0) _ _ H
    · have H := it_f H c33
      refine GA.aload_n dX12_reads_384 rfl ?_
      obtain ⟨x37, hx38, H⟩ := gv_e H
      refine GV.getI hx38 xf_X12_508 dX12_reads_385 (gs_500 hL) (by decide) rfl ?_
      refine GA.goto (tgt := 392) dX12_reads_388 (by decide) ?_
      obtain ⟨hg39, H⟩ := gg_e H
      obtain ⟨S_40, hx41, H⟩ := gv_e H
      refine GV.iast hg39 hx41 dX12_reads_392 (fun _ => (gs_501 hL)) (by decide) ?_
      refine GA.iconst dX12_reads_393 ?_
      refine GA.istore dX12_reads_394 (by decide) ?_
      refine GA.locals [(0, .ref (L 500)), (1, .int (J a1)), (2, .int (J a2)), (4, .int (J a4)), (7, .int (J a7)), (8, .int (J a8)), (9, .int (J s0)), (10, .int (J 0))] ⟨rfl, rfl, rfl, rfl, rfl, rfl, rfl, rfl, trivial⟩ ?_
      exact ih_X12_reads_396 hL _ _ (a1) (a2) (a4) (a7) (a8) (s0) (0) _ _ H
set_option maxHeartbeats 4000000 in
set_option maxRecDepth 20000 in
theorem t_X12_reads_396 {l : Launch} {Z : XZ} {L : Nat → Nat} (n : Nat) (ih_X12_reads_0 : P_X12_reads_0 l Z L n) (ih_X12_reads_23 : P_X12_reads_23 l Z L n) (ih_X12_reads_28 : P_X12_reads_28 l Z L n) (ih_X12_reads_99 : P_X12_reads_99 l Z L n) (ih_X12_reads_116 : P_X12_reads_116 l Z L n) (ih_X12_reads_146 : P_X12_reads_146 l Z L n) (ih_X12_reads_226 : P_X12_reads_226 l Z L n) (ih_X12_reads_282 : P_X12_reads_282 l Z L n) (ih_X12_reads_317 : P_X12_reads_317 l Z L n) (ih_X12_reads_396 : P_X12_reads_396 l Z L n) (ih_X12_reads_448 : P_X12_reads_448 l Z L n) (ih_X12_reads_483 : P_X12_reads_483 l Z L n) (ih_X12_reads_552 : P_X12_reads_552 l Z L n) : P_X12_reads_396 l Z L (n + 1) := by
  intro hL d S a1 a2 a4 a7 a8 a9 a10 x S1 H
  have H : b_X12_reads_396 n d (f_X12_reads n) S a1 a2 a4 a7 a8 a9 a10 = some (x, S1) := H
  unfold b_X12_reads_396 at H
  refine GA.iload dX12_reads_396 rfl ?_
  refine GA.aload_n dX12_reads_398 rfl ?_
  obtain ⟨x1, hx2, H⟩ := gv_e H
  refine GV.getI hx2 xf_X12_508 dX12_reads_399 (gs_500 hL) (by decide) rfl ?_
  obtain ⟨hg3, H⟩ := gg_e H
  obtain ⟨hg4, H⟩ := gg_e H
  refine GV.icmp_ge (tgt := 448) hg3 hg4 dX12_reads_402 (by decide) (fun c5 => ?_) (fun c5 => ?_)
  · have H := it_t H c5
    refine GA.locals [(0, .ref (L 500)), (1, .int (J a1)), (2, .int (J a2)), (4, .int (J a4)), (7, .int (J a7)), (8, .int (J a8))] ⟨rfl, rfl, rfl, rfl, rfl, rfl, trivial⟩ ?_
    exact ih_X12_reads_448 hL _ _ (a1) (a2) (a4) (a7) (a8) _ _ H
  · have H := it_f H c5
    refine GA.aload_n dX12_reads_405 rfl ?_
    refine GA.bipush dX12_reads_406 rfl ?_
    refine GA.iload dX12_reads_408 rfl ?_
    obtain ⟨hg6, H⟩ := gg_e H
    obtain ⟨x7, S_8, hc9, H⟩ := gc_e H
    refine GA.callV (m_X12_kind hL hc9) xs_X12_52 dX12_reads_410 (gs_500 hL) (by decide) rfl rfl (by omega) (by decide) rfl (Nat.le_of_ble_eq_true rfl) (by omega) (by omega) rfl (fun E S9 hx => hx.elim) (fun v S9 hq => ?_)
    obtain ⟨rfl, rfl⟩ := hq
    refine GA.iconst dX12_reads_413 ?_
    obtain ⟨hg10, H⟩ := gg_e H
    refine GV.icmp_ne (tgt := 448) hg10 (by decide) dX12_reads_414 (by decide) (fun c11 => ?_) (fun c11 => ?_)
    · have H := it_t H c11
      refine GA.locals [(0, .ref (L 500)), (1, .int (J a1)), (2, .int (J a2)), (4, .int (J a4)), (7, .int (J a7)), (8, .int (J a8))] ⟨rfl, rfl, rfl, rfl, rfl, rfl, trivial⟩ ?_
      exact ih_X12_reads_448 hL _ _ (a1) (a2) (a4) (a7) (a8) _ _ H
    · have H := it_f H c11
      refine GA.aload_n dX12_reads_417 rfl ?_
      refine GA.get xf_X12_7 dX12_reads_418 (gs_500 hL) (by decide) rfl ?_
      refine GA.bipush dX12_reads_421 rfl ?_
      refine GA.iload dX12_reads_423 rfl ?_
      obtain ⟨x12, S_13, hc14, H⟩ := gc_e H
      refine GA.callS (m_X12_at hL hc14) xs_X12_11 dX12_reads_425 rfl (by omega) (by decide) rfl (Nat.le_of_ble_eq_true rfl) (by omega) (by omega) rfl (fun E S9 hx => hx.elim) (fun v S9 hq => ?_)
      obtain ⟨rfl, rfl⟩ := hq
      refine GA.bipush dX12_reads_428 rfl ?_
      obtain ⟨x15, hx16, H⟩ := gv_e H
      refine GV.iadd hx16 dX12_reads_430 ?_
      refine GA.iload dX12_reads_431 rfl ?_
      obtain ⟨x17, hx18, H⟩ := gv_e H
      refine GV.iadd hx18 dX12_reads_433 ?_
      refine GA.aload_n dX12_reads_434 rfl ?_
      refine GA.get xf_X12_256 dX12_reads_435 (gs_500 hL) (by decide) rfl ?_
      refine GA.iload dX12_reads_438 rfl ?_
      obtain ⟨hg19, H⟩ := gg_e H
      obtain ⟨x20, hx21, H⟩ := gv_e H
      refine GV.iald hg19 hx21 dX12_reads_440 (gs_512 hL) (by decide) ?_
      obtain ⟨hg22, H⟩ := gg_e H
      obtain ⟨S_23, hx24, H⟩ := gv_e H
      refine GV.iast hg22 hx24 dX12_reads_441 (fun _ => (gs_501 hL)) (by decide) ?_
      obtain ⟨x25, hx26, H⟩ := gv_e H
      refine GV.iinc hx26 dX12_reads_442 rfl (by decide) ?_
      refine GA.goto (tgt := 396) dX12_reads_445 (by decide) ?_
      refine GA.locals [(0, .ref (L 500)), (1, .int (J a1)), (2, .int (J a2)), (4, .int (J a4)), (7, .int (J a7)), (8, .int (J a8)), (9, .int (J a9)), (10, .int (J x25))] ⟨rfl, rfl, rfl, rfl, rfl, rfl, rfl, rfl, trivial⟩ ?_
      exact ih_X12_reads_396 hL _ _ (a1) (a2) (a4) (a7) (a8) (a9) (x25) _ _ H
set_option maxHeartbeats 4000000 in
set_option maxRecDepth 20000 in
theorem t_X12_reads_448 {l : Launch} {Z : XZ} {L : Nat → Nat} (n : Nat) (ih_X12_reads_0 : P_X12_reads_0 l Z L n) (ih_X12_reads_23 : P_X12_reads_23 l Z L n) (ih_X12_reads_28 : P_X12_reads_28 l Z L n) (ih_X12_reads_99 : P_X12_reads_99 l Z L n) (ih_X12_reads_116 : P_X12_reads_116 l Z L n) (ih_X12_reads_146 : P_X12_reads_146 l Z L n) (ih_X12_reads_226 : P_X12_reads_226 l Z L n) (ih_X12_reads_282 : P_X12_reads_282 l Z L n) (ih_X12_reads_317 : P_X12_reads_317 l Z L n) (ih_X12_reads_396 : P_X12_reads_396 l Z L n) (ih_X12_reads_448 : P_X12_reads_448 l Z L n) (ih_X12_reads_483 : P_X12_reads_483 l Z L n) (ih_X12_reads_552 : P_X12_reads_552 l Z L n) : P_X12_reads_448 l Z L (n + 1) := by
  intro hL d S a1 a2 a4 a7 a8 x S1 H
  have H : b_X12_reads_448 n d (f_X12_reads n) S a1 a2 a4 a7 a8 = some (x, S1) := H
  unfold b_X12_reads_448 at H
  refine GA.aload_n dX12_reads_448 rfl ?_
  refine GA.iload dX12_reads_449 rfl ?_
  obtain ⟨hg1, H⟩ := gg_e H
  obtain ⟨x2, S_3, hc4, H⟩ := gc_e H
  refine GA.callV (m_X12_readsValue hL hc4) xs_X12_526 dX12_reads_451 (gs_500 hL) (by decide) rfl rfl (by omega) (by decide) rfl (Nat.le_of_ble_eq_true rfl) (by omega) (by omega) rfl (fun E S9 hx => hx.elim) (fun v S9 hq => ?_)
  obtain ⟨rfl, rfl⟩ := hq
  obtain ⟨hg5, H⟩ := gg_e H
  refine GV.if_ne (tgt := 462) hg5 dX12_reads_454 (by decide) (fun c6 => ?_) (fun c6 => ?_)
  · have H := it_t H c6
    refine GA.iload dX12_reads_462 rfl ?_
    refine GA.iconst dX12_reads_464 ?_
    obtain ⟨hg7, H⟩ := gg_e H
    refine GV.icmp_ne (tgt := 472) hg7 (by decide) dX12_reads_465 (by decide) (fun c8 => ?_) (fun c8 => ?_)
    · have H := it_t H c8
      refine GA.iload dX12_reads_472 rfl ?_
      refine GA.iconst dX12_reads_474 ?_
      refine GV.icmp_ne (tgt := 482) hg7 (by decide) dX12_reads_475 (by decide) (fun c9 => ?_) (fun c9 => ?_)
      · have H := it_t H c9
        refine GA.iconst dX12_reads_482 ?_
        refine GA.locals [(0, .ref (L 500)), (1, .int (J a1)), (2, .int (J a2)), (4, .int (J a4)), (7, .int (J a7)), (8, .int (J a8))] ⟨rfl, rfl, rfl, rfl, rfl, rfl, trivial⟩ ?_
        exact ih_X12_reads_483 hL _ _ (a1) (a2) (a4) (a7) (a8) (4) _ _ H
      · have H := it_f H c9
        refine GA.iconst dX12_reads_478 ?_
        refine GA.goto (tgt := 483) dX12_reads_479 (by decide) ?_
        refine GA.locals [(0, .ref (L 500)), (1, .int (J a1)), (2, .int (J a2)), (4, .int (J a4)), (7, .int (J a7)), (8, .int (J a8))] ⟨rfl, rfl, rfl, rfl, rfl, rfl, trivial⟩ ?_
        exact ih_X12_reads_483 hL _ _ (a1) (a2) (a4) (a7) (a8) (2) _ _ H
    · have H := it_f H c8
      refine GA.iconst dX12_reads_468 ?_
      refine GA.goto (tgt := 483) dX12_reads_469 (by decide) ?_
      refine GA.locals [(0, .ref (L 500)), (1, .int (J a1)), (2, .int (J a2)), (4, .int (J a4)), (7, .int (J a7)), (8, .int (J a8))] ⟨rfl, rfl, rfl, rfl, rfl, rfl, trivial⟩ ?_
      exact ih_X12_reads_483 hL _ _ (a1) (a2) (a4) (a7) (a8) (1) _ _ H
  · have H := it_f H c6
    refine GA.aload_n dX12_reads_457 rfl ?_
    obtain ⟨x10, hx11, H⟩ := gv_e H
    refine GV.getI hx11 xf_X12_468 dX12_reads_458 (gs_500 hL) (by decide) rfl ?_
    cases H
    exact GA.iret rfl dX12_reads_461 (by omega) (by omega) ⟨rfl, rfl⟩
set_option maxHeartbeats 4000000 in
set_option maxRecDepth 20000 in
theorem t_X12_reads_483 {l : Launch} {Z : XZ} {L : Nat → Nat} (n : Nat) (ih_X12_reads_0 : P_X12_reads_0 l Z L n) (ih_X12_reads_23 : P_X12_reads_23 l Z L n) (ih_X12_reads_28 : P_X12_reads_28 l Z L n) (ih_X12_reads_99 : P_X12_reads_99 l Z L n) (ih_X12_reads_116 : P_X12_reads_116 l Z L n) (ih_X12_reads_146 : P_X12_reads_146 l Z L n) (ih_X12_reads_226 : P_X12_reads_226 l Z L n) (ih_X12_reads_282 : P_X12_reads_282 l Z L n) (ih_X12_reads_317 : P_X12_reads_317 l Z L n) (ih_X12_reads_396 : P_X12_reads_396 l Z L n) (ih_X12_reads_448 : P_X12_reads_448 l Z L n) (ih_X12_reads_483 : P_X12_reads_483 l Z L n) (ih_X12_reads_552 : P_X12_reads_552 l Z L n) : P_X12_reads_483 l Z L (n + 1) := by
  intro hL d S a1 a2 a4 a7 a8 s0 x S1 H
  have H : b_X12_reads_483 n d (f_X12_reads n) S a1 a2 a4 a7 a8 s0 = some (x, S1) := H
  unfold b_X12_reads_483 at H
  refine GA.istore_n dX12_reads_483 (by decide) ?_
  refine GA.iload dX12_reads_484 rfl ?_
  refine GA.iconst dX12_reads_486 ?_
  obtain ⟨hg1, H⟩ := gg_e H
  refine GV.icmp_lt (tgt := 511) hg1 (by decide) dX12_reads_487 (by decide) (fun c2 => ?_) (fun c2 => ?_)
  · have H := it_t H c2
    refine GA.goto (tgt := 23) dX12_reads_511 (by decide) ?_
    refine GA.locals [(0, .ref (L 500)), (1, .int (J a1)), (2, .int (J a2)), (3, .int (J s0)), (4, .int (J a4))] ⟨rfl, rfl, rfl, rfl, rfl, trivial⟩ ?_
    exact ih_X12_reads_23 hL _ _ (a1) (a2) (s0) (a4) _ _ H
  · have H := it_f H c2
    refine GA.aload_n dX12_reads_490 rfl ?_
    refine GA.get xf_X12_253 dX12_reads_491 (gs_500 hL) (by decide) rfl ?_
    refine GA.aload_n dX12_reads_494 rfl ?_
    obtain ⟨x3, hx4, H⟩ := gv_e H
    refine GV.getI hx4 xf_X12_511 dX12_reads_495 (gs_500 hL) (by decide) rfl ?_
    refine GA.iload dX12_reads_498 rfl ?_
    obtain ⟨hg5, H⟩ := gg_e H
    obtain ⟨S_6, hx7, H⟩ := gv_e H
    refine GV.iast hg5 hx7 dX12_reads_500 (fun _ => (gs_511 hL)) (by decide) ?_
    refine GA.aload_n dX12_reads_501 rfl ?_
    refine GA.dup dX12_reads_502 rfl ?_
    obtain ⟨x8, hx9, H⟩ := gv_e H
    refine GV.getI hx9 xf_X12_511 dX12_reads_503 (gs_500 hL) (by decide) rfl ?_
    refine GA.iconst dX12_reads_506 ?_
    obtain ⟨x10, hx11, H⟩ := gv_e H
    refine GV.iadd hx11 dX12_reads_507 ?_
    obtain ⟨S_12, hx13, H⟩ := gv_e H
    refine GV.putI hx13 (xp_X12_511 _) dX12_reads_508 (gs_500 hL) (by decide) (Nat.le_of_ble_eq_true rfl) (gs_500 hL) ?_
    refine GA.goto (tgt := 23) dX12_reads_511 (by decide) ?_
    refine GA.locals [(0, .ref (L 500)), (1, .int (J a1)), (2, .int (J a2)), (3, .int (J s0)), (4, .int (J a4))] ⟨rfl, rfl, rfl, rfl, rfl, trivial⟩ ?_
    exact ih_X12_reads_23 hL _ _ (a1) (a2) (s0) (a4) _ _ H
set_option maxHeartbeats 4000000 in
set_option maxRecDepth 20000 in
theorem t_X12_reads_552 {l : Launch} {Z : XZ} {L : Nat → Nat} (n : Nat) (ih_X12_reads_0 : P_X12_reads_0 l Z L n) (ih_X12_reads_23 : P_X12_reads_23 l Z L n) (ih_X12_reads_28 : P_X12_reads_28 l Z L n) (ih_X12_reads_99 : P_X12_reads_99 l Z L n) (ih_X12_reads_116 : P_X12_reads_116 l Z L n) (ih_X12_reads_146 : P_X12_reads_146 l Z L n) (ih_X12_reads_226 : P_X12_reads_226 l Z L n) (ih_X12_reads_282 : P_X12_reads_282 l Z L n) (ih_X12_reads_317 : P_X12_reads_317 l Z L n) (ih_X12_reads_396 : P_X12_reads_396 l Z L n) (ih_X12_reads_448 : P_X12_reads_448 l Z L n) (ih_X12_reads_483 : P_X12_reads_483 l Z L n) (ih_X12_reads_552 : P_X12_reads_552 l Z L n) : P_X12_reads_552 l Z L (n + 1) := by
  intro hL d S s0 s1 s2 s3 x S1 H
  have H : b_X12_reads_552 n d (f_X12_reads n) S s0 s1 s2 s3 = some (x, S1) := H
  unfold b_X12_reads_552 at H
  obtain ⟨hg1, H⟩ := gg_e H
  obtain ⟨x2, S_3, hc4, H⟩ := gc_e H
  refine GA.callV (m_X12_choose hL hc4) xs_X12_529 dX12_reads_552 (gs_500 hL) (by decide) rfl rfl (by omega) (by decide) rfl (Nat.le_of_ble_eq_true rfl) (by omega) (by omega) rfl (fun E S9 hx => hx.elim) (fun v S9 hq => ?_)
  obtain ⟨rfl, rfl⟩ := hq
  refine GA.aload_n dX12_reads_555 rfl ?_
  refine GA.bipush dX12_reads_556 rfl ?_
  refine GA.bipush dX12_reads_558 rfl ?_
  obtain ⟨x5, S_6, hc7, H⟩ := gc_e H
  refine GA.callV (m_X12_becomes hL hc7) xs_X12_452 dX12_reads_560 (gs_500 hL) (by decide) rfl rfl (by omega) (by decide) rfl (Nat.le_of_ble_eq_true rfl) (by omega) (by omega) rfl (fun E S9 hx => hx.elim) (fun v S9 hq => ?_)
  obtain ⟨rfl, rfl⟩ := hq
  refine GA.aload_n dX12_reads_563 rfl ?_
  refine GA.bipush dX12_reads_564 rfl ?_
  obtain ⟨x8, S_9, hc10, H⟩ := gc_e H
  refine GA.callV (m_X12_link hL hc10) xs_X12_55 dX12_reads_566 (gs_500 hL) (by decide) rfl rfl (by omega) (by decide) rfl (Nat.le_of_ble_eq_true rfl) (by omega) (by omega) rfl (fun E S9 hx => hx.elim) (fun v S9 hq => ?_)
  obtain ⟨rfl, rfl⟩ := hq
  refine GA.iconst dX12_reads_569 ?_
  cases H
  exact GA.iret rfl dX12_reads_570 (by omega) (by omega) ⟨rfl, rfl⟩
theorem g_X12_reads {l : Launch} {Z : XZ} {L : Nat → Nat} : ∀ n, P_X12_reads_0 l Z L n ∧ P_X12_reads_23 l Z L n ∧ P_X12_reads_28 l Z L n ∧ P_X12_reads_99 l Z L n ∧ P_X12_reads_116 l Z L n ∧ P_X12_reads_146 l Z L n ∧ P_X12_reads_226 l Z L n ∧ P_X12_reads_282 l Z L n ∧ P_X12_reads_317 l Z L n ∧ P_X12_reads_396 l Z L n ∧ P_X12_reads_448 l Z L n ∧ P_X12_reads_483 l Z L n ∧ P_X12_reads_552 l Z L n
  | 0 => ⟨fun _ _ _ _ _ _ H => no_e H, fun _ _ _ _ _ _ _ _ _ H => no_e H, fun _ _ _ _ _ _ _ _ _ H => no_e H, fun _ _ _ _ _ _ _ _ _ _ _ H => no_e H, fun _ _ _ _ _ _ _ _ _ _ _ H => no_e H, fun _ _ _ _ _ _ _ _ _ _ H => no_e H, fun _ _ _ _ _ _ _ _ H => no_e H, fun _ _ _ _ _ _ _ _ _ H => no_e H, fun _ _ _ _ _ _ _ _ _ _ _ H => no_e H, fun _ _ _ _ _ _ _ _ _ _ _ _ H => no_e H, fun _ _ _ _ _ _ _ _ _ _ H => no_e H, fun _ _ _ _ _ _ _ _ _ _ _ H => no_e H, fun _ _ _ _ _ _ _ _ _ H => no_e H⟩
  | n + 1 => have ⟨h0, h1, h2, h3, h4, h5, h6, h7, h8, h9, h10, h11, h12⟩ := g_X12_reads (l := l) (Z := Z) (L := L) n
    ⟨t_X12_reads_0 n h0 h1 h2 h3 h4 h5 h6 h7 h8 h9 h10 h11 h12, t_X12_reads_23 n h0 h1 h2 h3 h4 h5 h6 h7 h8 h9 h10 h11 h12, t_X12_reads_28 n h0 h1 h2 h3 h4 h5 h6 h7 h8 h9 h10 h11 h12, t_X12_reads_99 n h0 h1 h2 h3 h4 h5 h6 h7 h8 h9 h10 h11 h12, t_X12_reads_116 n h0 h1 h2 h3 h4 h5 h6 h7 h8 h9 h10 h11 h12, t_X12_reads_146 n h0 h1 h2 h3 h4 h5 h6 h7 h8 h9 h10 h11 h12, t_X12_reads_226 n h0 h1 h2 h3 h4 h5 h6 h7 h8 h9 h10 h11 h12, t_X12_reads_282 n h0 h1 h2 h3 h4 h5 h6 h7 h8 h9 h10 h11 h12, t_X12_reads_317 n h0 h1 h2 h3 h4 h5 h6 h7 h8 h9 h10 h11 h12, t_X12_reads_396 n h0 h1 h2 h3 h4 h5 h6 h7 h8 h9 h10 h11 h12, t_X12_reads_448 n h0 h1 h2 h3 h4 h5 h6 h7 h8 h9 h10 h11 h12, t_X12_reads_483 n h0 h1 h2 h3 h4 h5 h6 h7 h8 h9 h10 h11 h12, t_X12_reads_552 n h0 h1 h2 h3 h4 h5 h6 h7 h8 h9 h10 h11 h12⟩
theorem m_X12_reads {l : Launch} {Z : XZ} {L : Nat → Nat} (hL : L 700 = 1) {n d : Nat} {S : GS} {a1 : Int} {x : Int} {S1 : GS} (H : f_X12_reads n d 0 S [a1] = some (x, S1)) : GM l Z L yX12_reads cX12_reads 11 (some .int) [] d 0 0 [.ref (L 500), .int (J a1)] S (fun v S' => v = some (.int (J x)) ∧ S1 = S') (fun _ _ => False) := GM.of (by decide) (Nat.le_of_ble_eq_true rfl) ((g_X12_reads n).1 hL _ _ _ _ _ H)

def P_X12_read_0 (l : Launch) (Z : XZ) (L : Nat → Nat) (n : Nat) : Prop := ∀ (hL : L 700 = 1), ∀ (d : Nat) (S : GS) (x : Int) (S1 : GS), f_X12_read n d 0 S [] = some (x, S1) → GA l Z L yX12_read cX12_read 2 (some .int) [] d 0 0 (fun v S' => v = some (.int (J x)) ∧ S1 = S') (fun _ _ => False) 0 (gl [(0, .ref (L 500))]) [] S 0 0
def P_X12_read_15 (l : Launch) (Z : XZ) (L : Nat → Nat) (n : Nat) : Prop := ∀ (hL : L 700 = 1), ∀ (d : Nat) (S : GS) (s0 : Int) (x : Int) (S1 : GS), f_X12_read n d 15 S [s0] = some (x, S1) → GA l Z L yX12_read cX12_read 2 (some .int) [] d 0 0 (fun v S' => v = some (.int (J x)) ∧ S1 = S') (fun _ _ => False) 15 (gl [(0, .ref (L 500))]) [.int (J s0), .ref (L 500)] S 0 0
def P_X12_read_34 (l : Launch) (Z : XZ) (L : Nat → Nat) (n : Nat) : Prop := ∀ (hL : L 700 = 1), ∀ (d : Nat) (S : GS) (a1 : Int) (x : Int) (S1 : GS), f_X12_read n d 34 S [a1] = some (x, S1) → GA l Z L yX12_read cX12_read 2 (some .int) [] d 0 0 (fun v S' => v = some (.int (J x)) ∧ S1 = S') (fun _ _ => False) 34 (gl [(0, .ref (L 500)), (1, .int (J a1))]) [] S 0 0
theorem i_X12_read {l : Launch} {Z : XZ} {L : Nat → Nat} (hL : L 700 = 1) {n : Nat} (ih : P_X12_read_0 l Z L n) {d : Nat} {S : GS} {x : Int} {S1 : GS} (H : f_X12_read n d 0 S [] = some (x, S1)) : GM l Z L yX12_read cX12_read 2 (some .int) [] d 0 0 [.ref (L 500)] S (fun v S' => v = some (.int (J x)) ∧ S1 = S') (fun _ _ => False) := GM.of (by decide) (Nat.le_of_ble_eq_true rfl) (ih hL _ _ _ _ H)
set_option maxHeartbeats 4000000 in
set_option maxRecDepth 20000 in
theorem t_X12_read_0 {l : Launch} {Z : XZ} {L : Nat → Nat} (n : Nat) (ih_X12_read_0 : P_X12_read_0 l Z L n) (ih_X12_read_15 : P_X12_read_15 l Z L n) (ih_X12_read_34 : P_X12_read_34 l Z L n) : P_X12_read_0 l Z L (n + 1) := by
  intro hL d S  x S1 H
  have H : b_X12_read_0 n d (f_X12_read n) S  = some (x, S1) := H
  unfold b_X12_read_0 at H
  refine GA.aload_n dX12_read_0 rfl ?_
  refine GA.aload_n dX12_read_1 rfl ?_
  obtain ⟨x1, hx2, H⟩ := gv_e H
  refine GV.getI hx2 xf_X12_15 dX12_read_2 (gs_500 hL) (by decide) rfl ?_
  refine GA.bipush dX12_read_5 rfl ?_
  obtain ⟨hg3, H⟩ := gg_e H
  refine GV.icmp_ge (tgt := 14) hg3 (by decide) dX12_read_7 (by decide) (fun c4 => ?_) (fun c4 => ?_)
  · have H := it_t H c4
    refine GA.iconst dX12_read_14 ?_
    refine GA.locals [(0, .ref (L 500))] ⟨rfl, trivial⟩ ?_
    exact ih_X12_read_15 hL _ _ (0) _ _ H
  · have H := it_f H c4
    refine GA.iconst dX12_read_10 ?_
    refine GA.goto (tgt := 15) dX12_read_11 (by decide) ?_
    refine GA.locals [(0, .ref (L 500))] ⟨rfl, trivial⟩ ?_
    exact ih_X12_read_15 hL _ _ (1) _ _ H
set_option maxHeartbeats 4000000 in
set_option maxRecDepth 20000 in
theorem t_X12_read_15 {l : Launch} {Z : XZ} {L : Nat → Nat} (n : Nat) (ih_X12_read_0 : P_X12_read_0 l Z L n) (ih_X12_read_15 : P_X12_read_15 l Z L n) (ih_X12_read_34 : P_X12_read_34 l Z L n) : P_X12_read_15 l Z L (n + 1) := by
  intro hL d S s0 x S1 H
  have H : b_X12_read_15 n d (f_X12_read n) S s0 = some (x, S1) := H
  unfold b_X12_read_15 at H
  refine GA.iconst dX12_read_15 ?_
  obtain ⟨hg1, H⟩ := gg_e H
  obtain ⟨x2, S_3, hc4, H⟩ := gc_e H
  refine GA.callV (m_X12_fails hL hc4) xs_X12_456 dX12_read_16 (gs_500 hL) (by decide) rfl rfl (by omega) (by decide) rfl (Nat.le_of_ble_eq_true rfl) (by omega) (by omega) rfl (fun E S9 hx => hx.elim) (fun v S9 hq => ?_)
  obtain ⟨rfl, rfl⟩ := hq
  obtain ⟨hg5, H⟩ := gg_e H
  refine GV.if_eq (tgt := 24) hg5 dX12_read_19 (by decide) (fun c6 => ?_) (fun c6 => ?_)
  · have H := it_t H c6
    refine GA.aload_n dX12_read_24 rfl ?_
    refine GA.aload_n dX12_read_25 rfl ?_
    obtain ⟨x7, hx8, H⟩ := gv_e H
    refine GV.getI hx8 xf_X12_460 dX12_read_26 (gs_500 hL) (by decide) rfl ?_
    obtain ⟨S_9, hx10, H⟩ := gv_e H
    refine GV.putI hx10 (xp_X12_445 _) dX12_read_29 (gs_500 hL) (by decide) (Nat.le_of_ble_eq_true rfl) (gs_500 hL) ?_
    refine GA.iconst dX12_read_32 ?_
    refine GA.istore_n dX12_read_33 (by decide) ?_
    refine GA.locals [(0, .ref (L 500)), (1, .int (J 0))] ⟨rfl, rfl, trivial⟩ ?_
    exact ih_X12_read_34 hL _ _ (0) _ _ H
  · have H := it_f H c6
    refine GA.iconst dX12_read_22 ?_
    cases H
    exact GA.iret rfl dX12_read_23 (by omega) (by omega) ⟨rfl, rfl⟩
set_option maxHeartbeats 4000000 in
set_option maxRecDepth 20000 in
theorem t_X12_read_34 {l : Launch} {Z : XZ} {L : Nat → Nat} (n : Nat) (ih_X12_read_0 : P_X12_read_0 l Z L n) (ih_X12_read_15 : P_X12_read_15 l Z L n) (ih_X12_read_34 : P_X12_read_34 l Z L n) : P_X12_read_34 l Z L (n + 1) := by
  intro hL d S a1 x S1 H
  have H : b_X12_read_34 n d (f_X12_read n) S a1 = some (x, S1) := H
  unfold b_X12_read_34 at H
  refine GA.iload_n dX12_read_34 rfl ?_
  refine GA.aload_n dX12_read_35 rfl ?_
  obtain ⟨x1, hx2, H⟩ := gv_e H
  refine GV.getI hx2 xf_X12_460 dX12_read_36 (gs_500 hL) (by decide) rfl ?_
  obtain ⟨hg3, H⟩ := gg_e H
  obtain ⟨hg4, H⟩ := gg_e H
  refine GV.icmp_ge (tgt := 60) hg3 hg4 dX12_read_39 (by decide) (fun c5 => ?_) (fun c5 => ?_)
  · have H := it_t H c5
    refine GA.aload_n dX12_read_60 rfl ?_
    refine GA.iconst dX12_read_61 ?_
    obtain ⟨S_6, hx7, H⟩ := gv_e H
    refine GV.putI hx7 (xp_X12_460 _) dX12_read_62 (gs_500 hL) (by decide) (Nat.le_of_ble_eq_true rfl) (gs_500 hL) ?_
    refine GA.aload_n dX12_read_65 rfl ?_
    refine GA.aload_n dX12_read_66 rfl ?_
    obtain ⟨x8, hx9, H⟩ := gv_e H
    refine GV.getI hx9 xf_X12_533 dX12_read_67 (gs_500 hL) (by decide) rfl ?_
    obtain ⟨hg10, H⟩ := gg_e H
    obtain ⟨x11, S_12, hc13, H⟩ := gc_e H
    refine GA.callV (m_X12_reads hL hc13) xs_X12_448 dX12_read_70 (gs_500 hL) (by decide) rfl rfl (by omega) (by decide) rfl (Nat.le_of_ble_eq_true rfl) (by omega) (by omega) rfl (fun E S9 hx => hx.elim) (fun v S9 hq => ?_)
    obtain ⟨rfl, rfl⟩ := hq
    refine GA.istore_n dX12_read_73 (by decide) ?_
    refine GA.iload_n dX12_read_74 rfl ?_
    refine GA.iconst dX12_read_75 ?_
    obtain ⟨hg14, H⟩ := gg_e H
    refine GV.icmp_ne (tgt := 88) hg14 (by decide) dX12_read_76 (by decide) (fun c15 => ?_) (fun c15 => ?_)
    · have H := it_t H c15
      refine GA.bipush dX12_read_88 rfl ?_
      refine GA.iload_n dX12_read_90 rfl ?_
      obtain ⟨x16, hx17, H⟩ := gv_e H
      refine GV.isub hx17 dX12_read_91 ?_
      cases H
      exact GA.iret rfl dX12_read_92 (by omega) (by omega) ⟨rfl, rfl⟩
    · have H := it_f H c15
      refine GA.aload_n dX12_read_79 rfl ?_
      refine GA.bipush dX12_read_80 rfl ?_
      obtain ⟨x18, S_19, hc20, H⟩ := gc_e H
      refine GA.callV (m_X12_keeps hL hc20) xs_X12_536 dX12_read_82 (gs_500 hL) (by decide) rfl rfl (by omega) (by decide) rfl (Nat.le_of_ble_eq_true rfl) (by omega) (by omega) rfl (fun E S9 hx => hx.elim) (fun v S9 hq => ?_)
      obtain ⟨rfl, rfl⟩ := hq
      refine GA.goto (tgt := 92) dX12_read_85 (by decide) ?_
      cases H
      exact GA.iret rfl dX12_read_92 (by omega) (by omega) ⟨rfl, rfl⟩
  · have H := it_f H c5
    refine GA.aload_n dX12_read_42 rfl ?_
    refine GA.get xf_X12_95 dX12_read_43 (gs_500 hL) (by decide) rfl ?_
    refine GA.iload_n dX12_read_46 rfl ?_
    refine GA.aload_n dX12_read_47 rfl ?_
    refine GA.get xf_X12_88 dX12_read_48 (gs_500 hL) (by decide) rfl ?_
    refine GA.iload_n dX12_read_51 rfl ?_
    obtain ⟨hg21, H⟩ := gg_e H
    obtain ⟨x22, hx23, H⟩ := gv_e H
    refine GV.iald hg21 hx23 dX12_read_52 (gs_503 hL) (by decide) ?_
    obtain ⟨hg24, H⟩ := gg_e H
    obtain ⟨S_25, hx26, H⟩ := gv_e H
    refine GV.iast hg24 hx26 dX12_read_53 (fun _ => (gs_508 hL)) (by decide) ?_
    obtain ⟨x27, hx28, H⟩ := gv_e H
    refine GV.iinc hx28 dX12_read_54 rfl (by decide) ?_
    refine GA.goto (tgt := 34) dX12_read_57 (by decide) ?_
    refine GA.locals [(0, .ref (L 500)), (1, .int (J x27))] ⟨rfl, rfl, trivial⟩ ?_
    exact ih_X12_read_34 hL _ _ (x27) _ _ H
theorem g_X12_read {l : Launch} {Z : XZ} {L : Nat → Nat} : ∀ n, P_X12_read_0 l Z L n ∧ P_X12_read_15 l Z L n ∧ P_X12_read_34 l Z L n
  | 0 => ⟨fun _ _ _ _ _ H => no_e H, fun _ _ _ _ _ _ H => no_e H, fun _ _ _ _ _ _ H => no_e H⟩
  | n + 1 => have ⟨h0, h1, h2⟩ := g_X12_read (l := l) (Z := Z) (L := L) n
    ⟨t_X12_read_0 n h0 h1 h2, t_X12_read_15 n h0 h1 h2, t_X12_read_34 n h0 h1 h2⟩
theorem m_X12_read {l : Launch} {Z : XZ} {L : Nat → Nat} (hL : L 700 = 1) {n d : Nat} {S : GS} {x : Int} {S1 : GS} (H : f_X12_read n d 0 S [] = some (x, S1)) : GM l Z L yX12_read cX12_read 2 (some .int) [] d 0 0 [.ref (L 500)] S (fun v S' => v = some (.int (J x)) ∧ S1 = S') (fun _ _ => False) := GM.of (by decide) (Nat.le_of_ble_eq_true rfl) ((g_X12_read n).1 hL _ _ _ _ H)

def P_X12_rows_0 (l : Launch) (Z : XZ) (L : Nat → Nat) (n : Nat) : Prop := ∀ (hL : L 700 = 1), ∀ (d : Nat) (S : GS) (a1 : Int) (x : Int) (S1 : GS), f_X12_rows n d 0 S [a1] = some (x, S1) → GA l Z L yX12_rows cX12_rows 10 (some .int) [] d 0 0 (fun v S' => v = some (.int (J x)) ∧ S1 = S') (fun _ _ => False) 0 (gl [(0, .ref (L 500)), (1, .int (J a1))]) [] S 0 0
def P_X12_rows_55 (l : Launch) (Z : XZ) (L : Nat → Nat) (n : Nat) : Prop := ∀ (hL : L 700 = 1), ∀ (d : Nat) (S : GS) (a1 : Int) (a2 : Int) (a3 : Int) (a4 : Int) (x : Int) (S1 : GS), f_X12_rows n d 55 S [a1, a2, a3, a4] = some (x, S1) → GA l Z L yX12_rows cX12_rows 10 (some .int) [] d 0 0 (fun v S' => v = some (.int (J x)) ∧ S1 = S') (fun _ _ => False) 55 (gl [(0, .ref (L 500)), (1, .int (J a1)), (2, .int (J a2)), (3, .int (J a3)), (4, .int (J a4))]) [] S 0 0
def P_X12_rows_101 (l : Launch) (Z : XZ) (L : Nat → Nat) (n : Nat) : Prop := ∀ (hL : L 700 = 1), ∀ (d : Nat) (S : GS) (a1 : Int) (a2 : Int) (a3 : Int) (x : Int) (S1 : GS), f_X12_rows n d 101 S [a1, a2, a3] = some (x, S1) → GA l Z L yX12_rows cX12_rows 10 (some .int) [] d 0 0 (fun v S' => v = some (.int (J x)) ∧ S1 = S') (fun _ _ => False) 101 (gl [(0, .ref (L 500)), (1, .int (J a1)), (2, .int (J a2)), (3, .int (J a3))]) [] S 0 0
def P_X12_rows_155 (l : Launch) (Z : XZ) (L : Nat → Nat) (n : Nat) : Prop := ∀ (hL : L 700 = 1), ∀ (d : Nat) (S : GS) (a1 : Int) (a2 : Int) (a5 : Int) (a6 : Int) (x : Int) (S1 : GS), f_X12_rows n d 155 S [a1, a2, a5, a6] = some (x, S1) → GA l Z L yX12_rows cX12_rows 10 (some .int) [] d 0 0 (fun v S' => v = some (.int (J x)) ∧ S1 = S') (fun _ _ => False) 155 (gl [(0, .ref (L 500)), (1, .int (J a1)), (2, .int (J a2)), (5, .int (J a5)), (6, .int (J a6))]) [] S 0 0
def P_X12_rows_189 (l : Launch) (Z : XZ) (L : Nat → Nat) (n : Nat) : Prop := ∀ (hL : L 700 = 1), ∀ (d : Nat) (S : GS) (a1 : Int) (a2 : Int) (a5 : Int) (a6 : Int) (a8 : Int) (x : Int) (S1 : GS), f_X12_rows n d 189 S [a1, a2, a5, a6, a8] = some (x, S1) → GA l Z L yX12_rows cX12_rows 10 (some .int) [] d 0 0 (fun v S' => v = some (.int (J x)) ∧ S1 = S') (fun _ _ => False) 189 (gl [(0, .ref (L 500)), (1, .int (J a1)), (2, .int (J a2)), (5, .int (J a5)), (6, .int (J a6)), (8, .int (J a8))]) [] S 0 0
def P_X12_rows_265 (l : Launch) (Z : XZ) (L : Nat → Nat) (n : Nat) : Prop := ∀ (hL : L 700 = 1), ∀ (d : Nat) (S : GS) (s0 : Int) (x : Int) (S1 : GS), f_X12_rows n d 265 S [s0] = some (x, S1) → GA l Z L yX12_rows cX12_rows 10 (some .int) [] d 0 0 (fun v S' => v = some (.int (J x)) ∧ S1 = S') (fun _ _ => False) 265 (gl [(0, .ref (L 500))]) [.int (J s0), .ref (L 500)] S 0 0
theorem i_X12_rows {l : Launch} {Z : XZ} {L : Nat → Nat} (hL : L 700 = 1) {n : Nat} (ih : P_X12_rows_0 l Z L n) {d : Nat} {S : GS} {a1 : Int} {x : Int} {S1 : GS} (H : f_X12_rows n d 0 S [a1] = some (x, S1)) : GM l Z L yX12_rows cX12_rows 10 (some .int) [] d 0 0 [.ref (L 500), .int (J a1)] S (fun v S' => v = some (.int (J x)) ∧ S1 = S') (fun _ _ => False) := GM.of (by decide) (Nat.le_of_ble_eq_true rfl) (ih hL _ _ _ _ _ H)
set_option maxHeartbeats 4000000 in
set_option maxRecDepth 20000 in
theorem t_X12_rows_0 {l : Launch} {Z : XZ} {L : Nat → Nat} (n : Nat) (ih_X12_rows_0 : P_X12_rows_0 l Z L n) (ih_X12_rows_55 : P_X12_rows_55 l Z L n) (ih_X12_rows_101 : P_X12_rows_101 l Z L n) (ih_X12_rows_155 : P_X12_rows_155 l Z L n) (ih_X12_rows_189 : P_X12_rows_189 l Z L n) (ih_X12_rows_265 : P_X12_rows_265 l Z L n) : P_X12_rows_0 l Z L (n + 1) := by
  intro hL d S a1 x S1 H
  have H : b_X12_rows_0 n d (f_X12_rows n) S a1 = some (x, S1) := H
  unfold b_X12_rows_0 at H
  refine GA.aload_n dX12_rows_0 rfl ?_
  refine GA.aload_n dX12_rows_1 rfl ?_
  refine GA.iload_n dX12_rows_2 rfl ?_
  obtain ⟨hg1, H⟩ := gg_e H
  obtain ⟨x2, S_3, hc4, H⟩ := gc_e H
  refine GA.callV (m_X12_isDoc hL hc4) xs_X12_22 dX12_rows_3 (gs_500 hL) (by decide) rfl rfl (by omega) (by decide) rfl (Nat.le_of_ble_eq_true rfl) (by omega) (by omega) rfl (fun E S9 hx => hx.elim) (fun v S9 hq => ?_)
  obtain ⟨rfl, rfl⟩ := hq
  refine GA.iconst dX12_rows_6 ?_
  obtain ⟨x5, S_6, hc7, H⟩ := gc_e H
  refine GA.callV (m_X12_fails hL hc7) xs_X12_456 dX12_rows_7 (gs_500 hL) (by decide) rfl rfl (by omega) (by decide) rfl (Nat.le_of_ble_eq_true rfl) (by omega) (by omega) rfl (fun E S9 hx => hx.elim) (fun v S9 hq => ?_)
  obtain ⟨rfl, rfl⟩ := hq
  obtain ⟨hg8, H⟩ := gg_e H
  refine GV.if_eq (tgt := 15) hg8 dX12_rows_10 (by decide) (fun c9 => ?_) (fun c9 => ?_)
  · have H := it_t H c9
    refine GA.aload_n dX12_rows_15 rfl ?_
    refine GA.iload_n dX12_rows_16 rfl ?_
    refine GA.iconst dX12_rows_17 ?_
    refine GA.iconst dX12_rows_18 ?_
    obtain ⟨x10, S_11, hc12, H⟩ := gc_e H
    refine GA.callV (m_X12_part hL hc12) xs_X12_36 dX12_rows_19 (gs_500 hL) (by decide) rfl rfl (by omega) (by decide) rfl (Nat.le_of_ble_eq_true rfl) (by omega) (by omega) rfl (fun E S9 hx => hx.elim) (fun v S9 hq => ?_)
    obtain ⟨rfl, rfl⟩ := hq
    refine GA.istore_n dX12_rows_22 (by decide) ?_
    refine GA.aload_n dX12_rows_23 rfl ?_
    refine GA.iload_n dX12_rows_24 rfl ?_
    refine GA.iconst dX12_rows_25 ?_
    obtain ⟨x13, S_14, hc15, H⟩ := gc_e H
    refine GA.callV (m_X12_kind hL hc15) xs_X12_52 dX12_rows_26 (gs_500 hL) (by decide) rfl rfl (by omega) (by decide) rfl (Nat.le_of_ble_eq_true rfl) (by omega) (by omega) rfl (fun E S9 hx => hx.elim) (fun v S9 hq => ?_)
    obtain ⟨rfl, rfl⟩ := hq
    refine GA.iconst dX12_rows_29 ?_
    obtain ⟨hg16, H⟩ := gg_e H
    refine GV.icmp_ne (tgt := 50) hg16 (by decide) dX12_rows_30 (by decide) (fun c17 => ?_) (fun c17 => ?_)
    · have H := it_t H c17
      refine GA.iconst dX12_rows_50 ?_
      refine GA.istore_n dX12_rows_51 (by decide) ?_
      refine GA.iconst dX12_rows_52 ?_
      refine GA.istore dX12_rows_53 (by decide) ?_
      refine GA.locals [(0, .ref (L 500)), (1, .int (J a1)), (2, .int (J x10)), (3, .int (J 0)), (4, .int (J 1))] ⟨rfl, rfl, rfl, rfl, rfl, trivial⟩ ?_
      exact ih_X12_rows_55 hL _ _ (a1) (x10) (0) (1) _ _ H
    · have H := it_f H c17
      refine GA.iload_n dX12_rows_33 rfl ?_
      obtain ⟨hg18, H⟩ := gg_e H
      refine GV.if_le (tgt := 50) hg18 dX12_rows_34 (by decide) (fun c19 => ?_) (fun c19 => ?_)
      · have H := it_t H c19
        refine GA.iconst dX12_rows_50 ?_
        refine GA.istore_n dX12_rows_51 (by decide) ?_
        refine GA.iconst dX12_rows_52 ?_
        refine GA.istore dX12_rows_53 (by decide) ?_
        refine GA.locals [(0, .ref (L 500)), (1, .int (J a1)), (2, .int (J x10)), (3, .int (J 0)), (4, .int (J 1))] ⟨rfl, rfl, rfl, rfl, rfl, trivial⟩ ?_
        exact ih_X12_rows_55 hL _ _ (a1) (x10) (0) (1) _ _ H
      · have H := it_f H c19
        refine GA.aload_n dX12_rows_37 rfl ?_
        refine GA.iload_n dX12_rows_38 rfl ?_
        refine GA.iconst dX12_rows_39 ?_
        obtain ⟨x20, S_21, hc22, H⟩ := gc_e H
        refine GA.callV (m_X12_areAll hL hc22) xs_X12_855 dX12_rows_40 (gs_500 hL) (by decide) rfl rfl (by omega) (by decide) rfl (Nat.le_of_ble_eq_true rfl) (by omega) (by omega) rfl (fun E S9 hx => hx.elim) (fun v S9 hq => ?_)
        obtain ⟨rfl, rfl⟩ := hq
        obtain ⟨hg23, H⟩ := gg_e H
        refine GV.if_eq (tgt := 50) hg23 dX12_rows_43 (by decide) (fun c24 => ?_) (fun c24 => ?_)
        · have H := it_t H c24
          refine GA.iconst dX12_rows_50 ?_
          refine GA.istore_n dX12_rows_51 (by decide) ?_
          refine GA.iconst dX12_rows_52 ?_
          refine GA.istore dX12_rows_53 (by decide) ?_
          refine GA.locals [(0, .ref (L 500)), (1, .int (J a1)), (2, .int (J x10)), (3, .int (J 0)), (4, .int (J 1))] ⟨rfl, rfl, rfl, rfl, rfl, trivial⟩ ?_
          exact ih_X12_rows_55 hL _ _ (a1) (x10) (0) (1) _ _ H
        · have H := it_f H c24
          refine GA.iconst dX12_rows_46 ?_
          refine GA.goto (tgt := 51) dX12_rows_47 (by decide) ?_
          refine GA.istore_n dX12_rows_51 (by decide) ?_
          refine GA.iconst dX12_rows_52 ?_
          refine GA.istore dX12_rows_53 (by decide) ?_
          refine GA.locals [(0, .ref (L 500)), (1, .int (J a1)), (2, .int (J x10)), (3, .int (J 1)), (4, .int (J 1))] ⟨rfl, rfl, rfl, rfl, rfl, trivial⟩ ?_
          exact ih_X12_rows_55 hL _ _ (a1) (x10) (1) (1) _ _ H
  · have H := it_f H c9
    refine GA.iconst dX12_rows_13 ?_
    cases H
    exact GA.iret rfl dX12_rows_14 (by omega) (by omega) ⟨rfl, rfl⟩
set_option maxHeartbeats 4000000 in
set_option maxRecDepth 20000 in
theorem t_X12_rows_55 {l : Launch} {Z : XZ} {L : Nat → Nat} (n : Nat) (ih_X12_rows_0 : P_X12_rows_0 l Z L n) (ih_X12_rows_55 : P_X12_rows_55 l Z L n) (ih_X12_rows_101 : P_X12_rows_101 l Z L n) (ih_X12_rows_155 : P_X12_rows_155 l Z L n) (ih_X12_rows_189 : P_X12_rows_189 l Z L n) (ih_X12_rows_265 : P_X12_rows_265 l Z L n) : P_X12_rows_55 l Z L (n + 1) := by
  intro hL d S a1 a2 a3 a4 x S1 H
  have H : b_X12_rows_55 n d (f_X12_rows n) S a1 a2 a3 a4 = some (x, S1) := H
  unfold b_X12_rows_55 at H
  refine GA.iload dX12_rows_55 rfl ?_
  refine GA.iload_n dX12_rows_57 rfl ?_
  obtain ⟨hg1, H⟩ := gg_e H
  obtain ⟨hg2, H⟩ := gg_e H
  refine GV.icmp_ge (tgt := 101) hg1 hg2 dX12_rows_58 (by decide) (fun c3 => ?_) (fun c3 => ?_)
  · have H := it_t H c3
    refine GA.locals [(0, .ref (L 500)), (1, .int (J a1)), (2, .int (J a2)), (3, .int (J a3))] ⟨rfl, rfl, rfl, rfl, trivial⟩ ?_
    exact ih_X12_rows_101 hL _ _ (a1) (a2) (a3) _ _ H
  · have H := it_f H c3
    refine GA.iload_n dX12_rows_61 rfl ?_
    obtain ⟨hg4, H⟩ := gg_e H
    refine GV.if_eq (tgt := 101) hg4 dX12_rows_62 (by decide) (fun c5 => ?_) (fun c5 => ?_)
    · have H := it_t H c5
      refine GA.locals [(0, .ref (L 500)), (1, .int (J a1)), (2, .int (J a2)), (3, .int (J a3))] ⟨rfl, rfl, rfl, rfl, trivial⟩ ?_
      exact ih_X12_rows_101 hL _ _ (a1) (a2) (a3) _ _ H
    · have H := it_f H c5
      refine GA.aload_n dX12_rows_65 rfl ?_
      refine GA.iload_n dX12_rows_66 rfl ?_
      refine GA.aload_n dX12_rows_67 rfl ?_
      refine GA.iload_n dX12_rows_68 rfl ?_
      refine GA.iconst dX12_rows_69 ?_
      refine GA.iload dX12_rows_70 rfl ?_
      obtain ⟨hg6, H⟩ := gg_e H
      obtain ⟨x7, S_8, hc9, H⟩ := gc_e H
      refine GA.callV (m_X12_childAt hL hc9) xs_X12_616 dX12_rows_72 (gs_500 hL) (by decide) rfl rfl (by omega) (by decide) rfl (Nat.le_of_ble_eq_true rfl) (by omega) (by omega) rfl (fun E S9 hx => hx.elim) (fun v S9 hq => ?_)
      obtain ⟨rfl, rfl⟩ := hq
      refine GA.iconst dX12_rows_75 ?_
      obtain ⟨x10, S_11, hc12, H⟩ := gc_e H
      refine GA.callV (m_X12_part hL hc12) xs_X12_36 dX12_rows_76 (gs_500 hL) (by decide) rfl rfl (by omega) (by decide) rfl (Nat.le_of_ble_eq_true rfl) (by omega) (by omega) rfl (fun E S9 hx => hx.elim) (fun v S9 hq => ?_)
      obtain ⟨rfl, rfl⟩ := hq
      refine GA.aload_n dX12_rows_79 rfl ?_
      refine GA.iload_n dX12_rows_80 rfl ?_
      refine GA.iconst dX12_rows_81 ?_
      refine GA.iconst dX12_rows_82 ?_
      obtain ⟨x13, S_14, hc15, H⟩ := gc_e H
      refine GA.callV (m_X12_part hL hc15) xs_X12_36 dX12_rows_83 (gs_500 hL) (by decide) rfl rfl (by omega) (by decide) rfl (Nat.le_of_ble_eq_true rfl) (by omega) (by omega) rfl (fun E S9 hx => hx.elim) (fun v S9 hq => ?_)
      obtain ⟨rfl, rfl⟩ := hq
      obtain ⟨hg16, H⟩ := gg_e H
      obtain ⟨hg17, H⟩ := gg_e H
      refine GV.icmp_ne (tgt := 93) hg16 hg17 dX12_rows_86 (by decide) (fun c18 => ?_) (fun c18 => ?_)
      · have H := it_t H c18
        refine GA.iconst dX12_rows_93 ?_
        refine GA.istore_n dX12_rows_94 (by decide) ?_
        obtain ⟨x19, hx20, H⟩ := gv_e H
        refine GV.iinc hx20 dX12_rows_95 rfl (by decide) ?_
        refine GA.goto (tgt := 55) dX12_rows_98 (by decide) ?_
        refine GA.locals [(0, .ref (L 500)), (1, .int (J a1)), (2, .int (J a2)), (3, .int (J 0)), (4, .int (J x19))] ⟨rfl, rfl, rfl, rfl, rfl, trivial⟩ ?_
        exact ih_X12_rows_55 hL _ _ (a1) (a2) (0) (x19) _ _ H
      · have H := it_f H c18
        refine GA.iconst dX12_rows_89 ?_
        refine GA.goto (tgt := 94) dX12_rows_90 (by decide) ?_
        refine GA.istore_n dX12_rows_94 (by decide) ?_
        obtain ⟨x21, hx22, H⟩ := gv_e H
        refine GV.iinc hx22 dX12_rows_95 rfl (by decide) ?_
        refine GA.goto (tgt := 55) dX12_rows_98 (by decide) ?_
        refine GA.locals [(0, .ref (L 500)), (1, .int (J a1)), (2, .int (J a2)), (3, .int (J 1)), (4, .int (J x21))] ⟨rfl, rfl, rfl, rfl, rfl, trivial⟩ ?_
        exact ih_X12_rows_55 hL _ _ (a1) (a2) (1) (x21) _ _ H
set_option maxHeartbeats 4000000 in
set_option maxRecDepth 20000 in
theorem t_X12_rows_101 {l : Launch} {Z : XZ} {L : Nat → Nat} (n : Nat) (ih_X12_rows_0 : P_X12_rows_0 l Z L n) (ih_X12_rows_55 : P_X12_rows_55 l Z L n) (ih_X12_rows_101 : P_X12_rows_101 l Z L n) (ih_X12_rows_155 : P_X12_rows_155 l Z L n) (ih_X12_rows_189 : P_X12_rows_189 l Z L n) (ih_X12_rows_265 : P_X12_rows_265 l Z L n) : P_X12_rows_101 l Z L (n + 1) := by
  intro hL d S a1 a2 a3 x S1 H
  have H : b_X12_rows_101 n d (f_X12_rows n) S a1 a2 a3 = some (x, S1) := H
  unfold b_X12_rows_101 at H
  refine GA.aload_n dX12_rows_101 rfl ?_
  refine GA.iload_n dX12_rows_102 rfl ?_
  refine GA.iconst dX12_rows_103 ?_
  obtain ⟨hg1, H⟩ := gg_e H
  obtain ⟨x2, S_3, hc4, H⟩ := gc_e H
  refine GA.callV (m_X12_fails hL hc4) xs_X12_456 dX12_rows_104 (gs_500 hL) (by decide) rfl rfl (by omega) (by decide) rfl (Nat.le_of_ble_eq_true rfl) (by omega) (by omega) rfl (fun E S9 hx => hx.elim) (fun v S9 hq => ?_)
  obtain ⟨rfl, rfl⟩ := hq
  obtain ⟨hg5, H⟩ := gg_e H
  refine GV.if_eq (tgt := 112) hg5 dX12_rows_107 (by decide) (fun c6 => ?_) (fun c6 => ?_)
  · have H := it_t H c6
    refine GA.aload_n dX12_rows_112 rfl ?_
    refine GA.bipush dX12_rows_113 rfl ?_
    obtain ⟨x7, S_8, hc9, H⟩ := gc_e H
    refine GA.callV (m_X12_begin hL hc9) xs_X12_517 dX12_rows_115 (gs_500 hL) (by decide) rfl rfl (by omega) (by decide) rfl (Nat.le_of_ble_eq_true rfl) (by omega) (by omega) rfl (fun E S9 hx => hx.elim) (fun v S9 hq => ?_)
    obtain ⟨rfl, rfl⟩ := hq
    refine GA.aload_n dX12_rows_118 rfl ?_
    refine GA.bipush dX12_rows_119 rfl ?_
    refine GA.iconst dX12_rows_121 ?_
    obtain ⟨x10, S_11, hc12, H⟩ := gc_e H
    refine GA.callV (m_X12_added hL hc12) xs_X12_33 dX12_rows_122 (gs_500 hL) (by decide) rfl rfl (by omega) (by decide) rfl (Nat.le_of_ble_eq_true rfl) (by omega) (by omega) rfl (fun E S9 hx => hx.elim) (fun v S9 hq => ?_)
    obtain ⟨rfl, rfl⟩ := hq
    refine GA.istore dX12_rows_125 (by decide) ?_
    refine GA.aload_n dX12_rows_127 rfl ?_
    refine GA.iload_n dX12_rows_128 rfl ?_
    refine GA.iconst dX12_rows_129 ?_
    refine GA.iconst dX12_rows_130 ?_
    obtain ⟨x13, S_14, hc15, H⟩ := gc_e H
    refine GA.callV (m_X12_part hL hc15) xs_X12_36 dX12_rows_131 (gs_500 hL) (by decide) rfl rfl (by omega) (by decide) rfl (Nat.le_of_ble_eq_true rfl) (by omega) (by omega) rfl (fun E S9 hx => hx.elim) (fun v S9 hq => ?_)
    obtain ⟨rfl, rfl⟩ := hq
    refine GA.istore dX12_rows_134 (by decide) ?_
    refine GA.aload_n dX12_rows_136 rfl ?_
    refine GA.get xf_X12_7 dX12_rows_137 (gs_500 hL) (by decide) rfl ?_
    refine GA.bipush dX12_rows_140 rfl ?_
    refine GA.iload dX12_rows_142 rfl ?_
    obtain ⟨x16, S_17, hc18, H⟩ := gc_e H
    refine GA.callS (m_X12_at hL hc18) xs_X12_11 dX12_rows_144 rfl (by omega) (by decide) rfl (Nat.le_of_ble_eq_true rfl) (by omega) (by omega) rfl (fun E S9 hx => hx.elim) (fun v S9 hq => ?_)
    obtain ⟨rfl, rfl⟩ := hq
    refine GA.iconst dX12_rows_147 ?_
    obtain ⟨x19, hx20, H⟩ := gv_e H
    refine GV.iadd hx20 dX12_rows_148 ?_
    refine GA.iload dX12_rows_149 rfl ?_
    obtain ⟨hg21, H⟩ := gg_e H
    obtain ⟨S_22, hx23, H⟩ := gv_e H
    refine GV.iast hg21 hx23 dX12_rows_151 (fun _ => (gs_501 hL)) (by decide) ?_
    refine GA.iconst dX12_rows_152 ?_
    refine GA.istore dX12_rows_153 (by decide) ?_
    refine GA.locals [(0, .ref (L 500)), (1, .int (J a1)), (2, .int (J a2)), (5, .int (J x13)), (6, .int (J 0))] ⟨rfl, rfl, rfl, rfl, rfl, trivial⟩ ?_
    exact ih_X12_rows_155 hL _ _ (a1) (a2) (x13) (0) _ _ H
  · have H := it_f H c6
    refine GA.iconst dX12_rows_110 ?_
    cases H
    exact GA.iret rfl dX12_rows_111 (by omega) (by omega) ⟨rfl, rfl⟩
set_option maxHeartbeats 4000000 in
set_option maxRecDepth 20000 in
theorem t_X12_rows_155 {l : Launch} {Z : XZ} {L : Nat → Nat} (n : Nat) (ih_X12_rows_0 : P_X12_rows_0 l Z L n) (ih_X12_rows_55 : P_X12_rows_55 l Z L n) (ih_X12_rows_101 : P_X12_rows_101 l Z L n) (ih_X12_rows_155 : P_X12_rows_155 l Z L n) (ih_X12_rows_189 : P_X12_rows_189 l Z L n) (ih_X12_rows_265 : P_X12_rows_265 l Z L n) : P_X12_rows_155 l Z L (n + 1) := by
  intro hL d S a1 a2 a5 a6 x S1 H
  have H : b_X12_rows_155 n d (f_X12_rows n) S a1 a2 a5 a6 = some (x, S1) := H
  unfold b_X12_rows_155 at H
  refine GA.iload dX12_rows_155 rfl ?_
  refine GA.iload dX12_rows_157 rfl ?_
  obtain ⟨hg1, H⟩ := gg_e H
  obtain ⟨hg2, H⟩ := gg_e H
  refine GV.icmp_ge (tgt := 241) hg1 hg2 dX12_rows_159 (by decide) (fun c3 => ?_) (fun c3 => ?_)
  · have H := it_t H c3
    refine GA.aload_n dX12_rows_241 rfl ?_
    refine GA.aload_n dX12_rows_242 rfl ?_
    refine GA.bipush dX12_rows_243 rfl ?_
    obtain ⟨hg4, H⟩ := gg_e H
    obtain ⟨x5, S_6, hc7, H⟩ := gc_e H
    refine GA.callV (m_X12_isWhole hL hc7) xs_X12_601 dX12_rows_245 (gs_500 hL) (by decide) rfl rfl (by omega) (by decide) rfl (Nat.le_of_ble_eq_true rfl) (by omega) (by omega) rfl (fun E S9 hx => hx.elim) (fun v S9 hq => ?_)
    obtain ⟨rfl, rfl⟩ := hq
    obtain ⟨hg8, H⟩ := gg_e H
    refine GV.if_eq (tgt := 264) hg8 dX12_rows_248 (by decide) (fun c9 => ?_) (fun c9 => ?_)
    · have H := it_t H c9
      refine GA.iconst dX12_rows_264 ?_
      refine GA.locals [(0, .ref (L 500))] ⟨rfl, trivial⟩ ?_
      exact ih_X12_rows_265 hL _ _ (0) _ _ H
    · have H := it_f H c9
      refine GA.aload_n dX12_rows_251 rfl ?_
      obtain ⟨x10, hx11, H⟩ := gv_e H
      refine GV.getI hx11 xf_X12_15 dX12_rows_252 (gs_500 hL) (by decide) rfl ?_
      refine GA.bipush dX12_rows_255 rfl ?_
      obtain ⟨hg12, H⟩ := gg_e H
      refine GV.icmp_ge (tgt := 264) hg12 (by decide) dX12_rows_257 (by decide) (fun c13 => ?_) (fun c13 => ?_)
      · have H := it_t H c13
        refine GA.iconst dX12_rows_264 ?_
        refine GA.locals [(0, .ref (L 500))] ⟨rfl, trivial⟩ ?_
        exact ih_X12_rows_265 hL _ _ (0) _ _ H
      · have H := it_f H c13
        refine GA.iconst dX12_rows_260 ?_
        refine GA.goto (tgt := 265) dX12_rows_261 (by decide) ?_
        refine GA.locals [(0, .ref (L 500))] ⟨rfl, trivial⟩ ?_
        exact ih_X12_rows_265 hL _ _ (1) _ _ H
  · have H := it_f H c3
    refine GA.aload_n dX12_rows_162 rfl ?_
    refine GA.bipush dX12_rows_163 rfl ?_
    refine GA.iconst dX12_rows_165 ?_
    obtain ⟨hg14, H⟩ := gg_e H
    obtain ⟨x15, S_16, hc17, H⟩ := gc_e H
    refine GA.callV (m_X12_added hL hc17) xs_X12_33 dX12_rows_166 (gs_500 hL) (by decide) rfl rfl (by omega) (by decide) rfl (Nat.le_of_ble_eq_true rfl) (by omega) (by omega) rfl (fun E S9 hx => hx.elim) (fun v S9 hq => ?_)
    obtain ⟨rfl, rfl⟩ := hq
    refine GA.istore dX12_rows_169 (by decide) ?_
    refine GA.aload_n dX12_rows_171 rfl ?_
    refine GA.get xf_X12_7 dX12_rows_172 (gs_500 hL) (by decide) rfl ?_
    refine GA.bipush dX12_rows_175 rfl ?_
    refine GA.iload dX12_rows_177 rfl ?_
    obtain ⟨x18, S_19, hc20, H⟩ := gc_e H
    refine GA.callS (m_X12_at hL hc20) xs_X12_11 dX12_rows_179 rfl (by omega) (by decide) rfl (Nat.le_of_ble_eq_true rfl) (by omega) (by omega) rfl (fun E S9 hx => hx.elim) (fun v S9 hq => ?_)
    obtain ⟨rfl, rfl⟩ := hq
    refine GA.iconst dX12_rows_182 ?_
    obtain ⟨x21, hx22, H⟩ := gv_e H
    refine GV.iadd hx22 dX12_rows_183 ?_
    refine GA.iload_n dX12_rows_184 rfl ?_
    obtain ⟨hg23, H⟩ := gg_e H
    obtain ⟨S_24, hx25, H⟩ := gv_e H
    refine GV.iast hg23 hx25 dX12_rows_185 (fun _ => (gs_501 hL)) (by decide) ?_
    refine GA.iconst dX12_rows_186 ?_
    refine GA.istore dX12_rows_187 (by decide) ?_
    refine GA.locals [(0, .ref (L 500)), (1, .int (J a1)), (2, .int (J a2)), (5, .int (J a5)), (6, .int (J a6)), (8, .int (J 0))] ⟨rfl, rfl, rfl, rfl, rfl, rfl, trivial⟩ ?_
    exact ih_X12_rows_189 hL _ _ (a1) (a2) (a5) (a6) (0) _ _ H
set_option maxHeartbeats 4000000 in
set_option maxRecDepth 20000 in
theorem t_X12_rows_189 {l : Launch} {Z : XZ} {L : Nat → Nat} (n : Nat) (ih_X12_rows_0 : P_X12_rows_0 l Z L n) (ih_X12_rows_55 : P_X12_rows_55 l Z L n) (ih_X12_rows_101 : P_X12_rows_101 l Z L n) (ih_X12_rows_155 : P_X12_rows_155 l Z L n) (ih_X12_rows_189 : P_X12_rows_189 l Z L n) (ih_X12_rows_265 : P_X12_rows_265 l Z L n) : P_X12_rows_189 l Z L (n + 1) := by
  intro hL d S a1 a2 a5 a6 a8 x S1 H
  have H : b_X12_rows_189 n d (f_X12_rows n) S a1 a2 a5 a6 a8 = some (x, S1) := H
  unfold b_X12_rows_189 at H
  refine GA.iload dX12_rows_189 rfl ?_
  refine GA.iload_n dX12_rows_191 rfl ?_
  obtain ⟨hg1, H⟩ := gg_e H
  obtain ⟨hg2, H⟩ := gg_e H
  refine GV.icmp_ge (tgt := 235) hg1 hg2 dX12_rows_192 (by decide) (fun c3 => ?_) (fun c3 => ?_)
  · have H := it_t H c3
    obtain ⟨x4, hx5, H⟩ := gv_e H
    refine GV.iinc hx5 dX12_rows_235 rfl (by decide) ?_
    refine GA.goto (tgt := 155) dX12_rows_238 (by decide) ?_
    refine GA.locals [(0, .ref (L 500)), (1, .int (J a1)), (2, .int (J a2)), (5, .int (J a5)), (6, .int (J x4))] ⟨rfl, rfl, rfl, rfl, rfl, trivial⟩ ?_
    exact ih_X12_rows_155 hL _ _ (a1) (a2) (a5) (x4) _ _ H
  · have H := it_f H c3
    refine GA.aload_n dX12_rows_195 rfl ?_
    refine GA.iload_n dX12_rows_196 rfl ?_
    refine GA.iconst dX12_rows_197 ?_
    refine GA.iload dX12_rows_198 rfl ?_
    obtain ⟨hg6, H⟩ := gg_e H
    obtain ⟨x7, S_8, hc9, H⟩ := gc_e H
    refine GA.callV (m_X12_childAt hL hc9) xs_X12_616 dX12_rows_200 (gs_500 hL) (by decide) rfl rfl (by omega) (by decide) rfl (Nat.le_of_ble_eq_true rfl) (by omega) (by omega) rfl (fun E S9 hx => hx.elim) (fun v S9 hq => ?_)
    obtain ⟨rfl, rfl⟩ := hq
    refine GA.istore dX12_rows_203 (by decide) ?_
    refine GA.aload_n dX12_rows_205 rfl ?_
    refine GA.iload_n dX12_rows_206 rfl ?_
    refine GA.iload dX12_rows_207 rfl ?_
    obtain ⟨x10, S_11, hc12, H⟩ := gc_e H
    refine GA.callV (m_X12_wordOfKey hL hc12) xs_X12_653 dX12_rows_209 (gs_500 hL) (by decide) rfl rfl (by omega) (by decide) rfl (Nat.le_of_ble_eq_true rfl) (by omega) (by omega) rfl (fun E S9 hx => hx.elim) (fun v S9 hq => ?_)
    obtain ⟨rfl, rfl⟩ := hq
    refine GA.aload_n dX12_rows_212 rfl ?_
    refine GA.bipush dX12_rows_213 rfl ?_
    refine GA.iload_n dX12_rows_215 rfl ?_
    refine GA.aload_n dX12_rows_216 rfl ?_
    refine GA.iload_n dX12_rows_217 rfl ?_
    refine GA.iload dX12_rows_218 rfl ?_
    refine GA.iload dX12_rows_220 rfl ?_
    obtain ⟨x13, S_14, hc15, H⟩ := gc_e H
    refine GA.callV (m_X12_childAt hL hc15) xs_X12_616 dX12_rows_222 (gs_500 hL) (by decide) rfl rfl (by omega) (by decide) rfl (Nat.le_of_ble_eq_true rfl) (by omega) (by omega) rfl (fun E S9 hx => hx.elim) (fun v S9 hq => ?_)
    obtain ⟨rfl, rfl⟩ := hq
    refine GA.iconst dX12_rows_225 ?_
    obtain ⟨x16, S_17, hc18, H⟩ := gc_e H
    refine GA.callV (m_X12_brings hL hc18) xs_X12_656 dX12_rows_226 (gs_500 hL) (by decide) rfl rfl (by omega) (by decide) rfl (Nat.le_of_ble_eq_true rfl) (by omega) (by omega) rfl (fun E S9 hx => hx.elim) (fun v S9 hq => ?_)
    obtain ⟨rfl, rfl⟩ := hq
    obtain ⟨x19, hx20, H⟩ := gv_e H
    refine GV.iinc hx20 dX12_rows_229 rfl (by decide) ?_
    refine GA.goto (tgt := 189) dX12_rows_232 (by decide) ?_
    refine GA.locals [(0, .ref (L 500)), (1, .int (J a1)), (2, .int (J a2)), (5, .int (J a5)), (6, .int (J a6)), (8, .int (J x19))] ⟨rfl, rfl, rfl, rfl, rfl, rfl, trivial⟩ ?_
    exact ih_X12_rows_189 hL _ _ (a1) (a2) (a5) (a6) (x19) _ _ H
set_option maxHeartbeats 4000000 in
set_option maxRecDepth 20000 in
theorem t_X12_rows_265 {l : Launch} {Z : XZ} {L : Nat → Nat} (n : Nat) (ih_X12_rows_0 : P_X12_rows_0 l Z L n) (ih_X12_rows_55 : P_X12_rows_55 l Z L n) (ih_X12_rows_101 : P_X12_rows_101 l Z L n) (ih_X12_rows_155 : P_X12_rows_155 l Z L n) (ih_X12_rows_189 : P_X12_rows_189 l Z L n) (ih_X12_rows_265 : P_X12_rows_265 l Z L n) : P_X12_rows_265 l Z L (n + 1) := by
  intro hL d S s0 x S1 H
  have H : b_X12_rows_265 n d (f_X12_rows n) S s0 = some (x, S1) := H
  unfold b_X12_rows_265 at H
  refine GA.iconst dX12_rows_265 ?_
  obtain ⟨hg1, H⟩ := gg_e H
  obtain ⟨x2, S_3, hc4, H⟩ := gc_e H
  refine GA.callV (m_X12_fails hL hc4) xs_X12_456 dX12_rows_266 (gs_500 hL) (by decide) rfl rfl (by omega) (by decide) rfl (Nat.le_of_ble_eq_true rfl) (by omega) (by omega) rfl (fun E S9 hx => hx.elim) (fun v S9 hq => ?_)
  obtain ⟨rfl, rfl⟩ := hq
  obtain ⟨hg5, H⟩ := gg_e H
  refine GV.if_eq (tgt := 276) hg5 dX12_rows_269 (by decide) (fun c6 => ?_) (fun c6 => ?_)
  · have H := it_t H c6
    refine GA.aload_n dX12_rows_276 rfl ?_
    refine GA.bipush dX12_rows_277 rfl ?_
    obtain ⟨x7, S_8, hc9, H⟩ := gc_e H
    refine GA.callV (m_X12_keeps hL hc9) xs_X12_536 dX12_rows_279 (gs_500 hL) (by decide) rfl rfl (by omega) (by decide) rfl (Nat.le_of_ble_eq_true rfl) (by omega) (by omega) rfl (fun E S9 hx => hx.elim) (fun v S9 hq => ?_)
    obtain ⟨rfl, rfl⟩ := hq
    cases H
    exact GA.iret rfl dX12_rows_282 (by omega) (by omega) ⟨rfl, rfl⟩
  · have H := it_f H c6
    refine GA.iconst dX12_rows_272 ?_
    refine GA.goto (tgt := 282) dX12_rows_273 (by decide) ?_
    cases H
    exact GA.iret rfl dX12_rows_282 (by omega) (by omega) ⟨rfl, rfl⟩
theorem g_X12_rows {l : Launch} {Z : XZ} {L : Nat → Nat} : ∀ n, P_X12_rows_0 l Z L n ∧ P_X12_rows_55 l Z L n ∧ P_X12_rows_101 l Z L n ∧ P_X12_rows_155 l Z L n ∧ P_X12_rows_189 l Z L n ∧ P_X12_rows_265 l Z L n
  | 0 => ⟨fun _ _ _ _ _ _ H => no_e H, fun _ _ _ _ _ _ _ _ _ H => no_e H, fun _ _ _ _ _ _ _ _ H => no_e H, fun _ _ _ _ _ _ _ _ _ H => no_e H, fun _ _ _ _ _ _ _ _ _ _ H => no_e H, fun _ _ _ _ _ _ H => no_e H⟩
  | n + 1 => have ⟨h0, h1, h2, h3, h4, h5⟩ := g_X12_rows (l := l) (Z := Z) (L := L) n
    ⟨t_X12_rows_0 n h0 h1 h2 h3 h4 h5, t_X12_rows_55 n h0 h1 h2 h3 h4 h5, t_X12_rows_101 n h0 h1 h2 h3 h4 h5, t_X12_rows_155 n h0 h1 h2 h3 h4 h5, t_X12_rows_189 n h0 h1 h2 h3 h4 h5, t_X12_rows_265 n h0 h1 h2 h3 h4 h5⟩
theorem m_X12_rows {l : Launch} {Z : XZ} {L : Nat → Nat} (hL : L 700 = 1) {n d : Nat} {S : GS} {a1 : Int} {x : Int} {S1 : GS} (H : f_X12_rows n d 0 S [a1] = some (x, S1)) : GM l Z L yX12_rows cX12_rows 10 (some .int) [] d 0 0 [.ref (L 500), .int (J a1)] S (fun v S' => v = some (.int (J x)) ∧ S1 = S') (fun _ _ => False) := GM.of (by decide) (Nat.le_of_ble_eq_true rfl) ((g_X12_rows n).1 hL _ _ _ _ _ H)

def P_X12_rule_0 (l : Launch) (Z : XZ) (L : Nat → Nat) (n : Nat) : Prop := ∀ (hL : L 700 = 1), ∀ (d : Nat) (S : GS) (a1 : Int) (x : Int) (S1 : GS), f_X12_rule n d 0 S [a1] = some (x, S1) → GA l Z L yX12_rule cX12_rule 3 (some .int) [] d 0 0 (fun v S' => v = some (.int (J x)) ∧ S1 = S') (fun _ _ => False) 0 (gl [(0, .ref (L 500)), (1, .int (J a1))]) [] S 0 0
theorem i_X12_rule {l : Launch} {Z : XZ} {L : Nat → Nat} (hL : L 700 = 1) {n : Nat} (ih : P_X12_rule_0 l Z L n) {d : Nat} {S : GS} {a1 : Int} {x : Int} {S1 : GS} (H : f_X12_rule n d 0 S [a1] = some (x, S1)) : GM l Z L yX12_rule cX12_rule 3 (some .int) [] d 0 0 [.ref (L 500), .int (J a1)] S (fun v S' => v = some (.int (J x)) ∧ S1 = S') (fun _ _ => False) := GM.of (by decide) (Nat.le_of_ble_eq_true rfl) (ih hL _ _ _ _ _ H)
set_option maxHeartbeats 4000000 in
set_option maxRecDepth 20000 in
theorem t_X12_rule_0 {l : Launch} {Z : XZ} {L : Nat → Nat} (n : Nat) (ih_X12_rule_0 : P_X12_rule_0 l Z L n) : P_X12_rule_0 l Z L (n + 1) := by
  intro hL d S a1 x S1 H
  have H : b_X12_rule_0 n d (f_X12_rule n) S a1 = some (x, S1) := H
  unfold b_X12_rule_0 at H
  refine GA.aload_n dX12_rule_0 rfl ?_
  refine GA.iload_n dX12_rule_1 rfl ?_
  refine GA.iconst dX12_rule_2 ?_
  refine GA.iconst dX12_rule_3 ?_
  obtain ⟨hg1, H⟩ := gg_e H
  obtain ⟨x2, S_3, hc4, H⟩ := gc_e H
  refine GA.callS (m_X12_in hL hc4) xs_X12_18 dX12_rule_4 rfl (by omega) (by decide) rfl (Nat.le_of_ble_eq_true rfl) (by omega) (by omega) rfl (fun E S9 hx => hx.elim) (fun v S9 hq => ?_)
  obtain ⟨rfl, rfl⟩ := hq
  refine GA.iconst dX12_rule_7 ?_
  obtain ⟨x5, S_6, hc7, H⟩ := gc_e H
  refine GA.callV (m_X12_fails hL hc7) xs_X12_456 dX12_rule_8 (gs_500 hL) (by decide) rfl rfl (by omega) (by decide) rfl (Nat.le_of_ble_eq_true rfl) (by omega) (by omega) rfl (fun E S9 hx => hx.elim) (fun v S9 hq => ?_)
  obtain ⟨rfl, rfl⟩ := hq
  obtain ⟨hg8, H⟩ := gg_e H
  refine GV.if_eq (tgt := 16) hg8 dX12_rule_11 (by decide) (fun c9 => ?_) (fun c9 => ?_)
  · have H := it_t H c9
    refine GA.aload_n dX12_rule_16 rfl ?_
    obtain ⟨x10, hx11, H⟩ := gv_e H
    refine GV.getI hx11 xf_X12_533 dX12_rule_17 (gs_500 hL) (by decide) rfl ?_
    refine GA.istore_n dX12_rule_20 (by decide) ?_
    refine GA.aload_n dX12_rule_21 rfl ?_
    refine GA.iload_n dX12_rule_22 rfl ?_
    obtain ⟨S_12, hx13, H⟩ := gv_e H
    refine GV.putI hx13 (xp_X12_533 _) dX12_rule_23 (gs_500 hL) (by decide) (Nat.le_of_ble_eq_true rfl) (gs_500 hL) ?_
    refine GA.iload_n dX12_rule_26 rfl ?_
    cases H
    exact GA.iret rfl dX12_rule_27 (by omega) (by omega) ⟨rfl, rfl⟩
  · have H := it_f H c9
    refine GA.iconst dX12_rule_14 ?_
    cases H
    exact GA.iret rfl dX12_rule_15 (by omega) (by omega) ⟨rfl, rfl⟩
theorem g_X12_rule {l : Launch} {Z : XZ} {L : Nat → Nat} : ∀ n, P_X12_rule_0 l Z L n
  | 0 => fun _ _ _ _ _ _ H => no_e H
  | n + 1 => t_X12_rule_0 n (g_X12_rule n)
theorem m_X12_rule {l : Launch} {Z : XZ} {L : Nat → Nat} (hL : L 700 = 1) {n d : Nat} {S : GS} {a1 : Int} {x : Int} {S1 : GS} (H : f_X12_rule n d 0 S [a1] = some (x, S1)) : GM l Z L yX12_rule cX12_rule 3 (some .int) [] d 0 0 [.ref (L 500), .int (J a1)] S (fun v S' => v = some (.int (J x)) ∧ S1 = S') (fun _ _ => False) := GM.of (by decide) (Nat.le_of_ble_eq_true rfl) ((g_X12_rule n) hL _ _ _ _ _ H)

def P_X12_selectsBy_0 (l : Launch) (Z : XZ) (L : Nat → Nat) (n : Nat) : Prop := ∀ (hL : L 700 = 1), ∀ (d : Nat) (S : GS) (a1 : Int) (a2 : Int) (x : Int) (S1 : GS), f_X12_selectsBy n d 0 S [a1, a2] = some (x, S1) → GA l Z L yX12_selectsBy cX12_selectsBy 8 none [] d 0 0 (fun v S' => v = none ∧ S1 = S') (fun _ _ => False) 0 (gl [(0, .ref (L 500)), (1, .int (J a1)), (2, .int (J a2))]) [] S 0 0
def P_X12_selectsBy_48 (l : Launch) (Z : XZ) (L : Nat → Nat) (n : Nat) : Prop := ∀ (hL : L 700 = 1), ∀ (d : Nat) (S : GS) (a1 : Int) (a2 : Int) (a4 : Int) (x : Int) (S1 : GS), f_X12_selectsBy n d 48 S [a1, a2, a4] = some (x, S1) → GA l Z L yX12_selectsBy cX12_selectsBy 8 none [] d 0 0 (fun v S' => v = none ∧ S1 = S') (fun _ _ => False) 48 (gl [(0, .ref (L 500)), (1, .int (J a1)), (2, .int (J a2)), (4, .int (J a4))]) [] S 0 0
def P_X12_selectsBy_72 (l : Launch) (Z : XZ) (L : Nat → Nat) (n : Nat) : Prop := ∀ (hL : L 700 = 1), ∀ (d : Nat) (S : GS) (a1 : Int) (a2 : Int) (a3 : Int) (x : Int) (S1 : GS), f_X12_selectsBy n d 72 S [a1, a2, a3] = some (x, S1) → GA l Z L yX12_selectsBy cX12_selectsBy 8 none [] d 0 0 (fun v S' => v = none ∧ S1 = S') (fun _ _ => False) 72 (gl [(0, .ref (L 500)), (1, .int (J a1)), (2, .int (J a2)), (3, .int (J a3))]) [] S 0 0
def P_X12_selectsBy_96 (l : Launch) (Z : XZ) (L : Nat → Nat) (n : Nat) : Prop := ∀ (hL : L 700 = 1), ∀ (d : Nat) (S : GS) (a1 : Int) (a2 : Int) (a3 : Int) (s0 : Int) (x : Int) (S1 : GS), f_X12_selectsBy n d 96 S [a1, a2, a3, s0] = some (x, S1) → GA l Z L yX12_selectsBy cX12_selectsBy 8 none [] d 0 0 (fun v S' => v = none ∧ S1 = S') (fun _ _ => False) 96 (gl [(0, .ref (L 500)), (1, .int (J a1)), (2, .int (J a2)), (3, .int (J a3))]) [.int (J s0)] S 0 0
def P_X12_selectsBy_121 (l : Launch) (Z : XZ) (L : Nat → Nat) (n : Nat) : Prop := ∀ (hL : L 700 = 1), ∀ (d : Nat) (S : GS) (a1 : Int) (a2 : Int) (x : Int) (S1 : GS), f_X12_selectsBy n d 121 S [a1, a2] = some (x, S1) → GA l Z L yX12_selectsBy cX12_selectsBy 8 none [] d 0 0 (fun v S' => v = none ∧ S1 = S') (fun _ _ => False) 121 (gl [(0, .ref (L 500)), (1, .int (J a1)), (2, .int (J a2))]) [] S 0 0
def P_X12_selectsBy_161 (l : Launch) (Z : XZ) (L : Nat → Nat) (n : Nat) : Prop := ∀ (hL : L 700 = 1), ∀ (d : Nat) (S : GS) (a1 : Int) (a2 : Int) (a4 : Int) (a5 : Int) (x : Int) (S1 : GS), f_X12_selectsBy n d 161 S [a1, a2, a4, a5] = some (x, S1) → GA l Z L yX12_selectsBy cX12_selectsBy 8 none [] d 0 0 (fun v S' => v = none ∧ S1 = S') (fun _ _ => False) 161 (gl [(0, .ref (L 500)), (1, .int (J a1)), (2, .int (J a2)), (4, .int (J a4)), (5, .int (J a5))]) [] S 0 0
def P_X12_selectsBy_196 (l : Launch) (Z : XZ) (L : Nat → Nat) (n : Nat) : Prop := ∀ (hL : L 700 = 1), ∀ (d : Nat) (S : GS) (a1 : Int) (a2 : Int) (a4 : Int) (a5 : Int) (a6 : Int) (a7 : Int) (x : Int) (S1 : GS), f_X12_selectsBy n d 196 S [a1, a2, a4, a5, a6, a7] = some (x, S1) → GA l Z L yX12_selectsBy cX12_selectsBy 8 none [] d 0 0 (fun v S' => v = none ∧ S1 = S') (fun _ _ => False) 196 (gl [(0, .ref (L 500)), (1, .int (J a1)), (2, .int (J a2)), (4, .int (J a4)), (5, .int (J a5)), (6, .int (J a6)), (7, .int (J a7))]) [] S 0 0
def P_X12_selectsBy_234 (l : Launch) (Z : XZ) (L : Nat → Nat) (n : Nat) : Prop := ∀ (hL : L 700 = 1), ∀ (d : Nat) (S : GS) (a1 : Int) (a2 : Int) (a4 : Int) (a5 : Int) (a6 : Int) (a7 : Int) (x : Int) (S1 : GS), f_X12_selectsBy n d 234 S [a1, a2, a4, a5, a6, a7] = some (x, S1) → GA l Z L yX12_selectsBy cX12_selectsBy 8 none [] d 0 0 (fun v S' => v = none ∧ S1 = S') (fun _ _ => False) 234 (gl [(0, .ref (L 500)), (1, .int (J a1)), (2, .int (J a2)), (4, .int (J a4)), (5, .int (J a5)), (6, .int (J a6)), (7, .int (J a7))]) [] S 0 0
theorem i_X12_selectsBy {l : Launch} {Z : XZ} {L : Nat → Nat} (hL : L 700 = 1) {n : Nat} (ih : P_X12_selectsBy_0 l Z L n) {d : Nat} {S : GS} {a1 : Int} {a2 : Int} {x : Int} {S1 : GS} (H : f_X12_selectsBy n d 0 S [a1, a2] = some (x, S1)) : GM l Z L yX12_selectsBy cX12_selectsBy 8 none [] d 0 0 [.ref (L 500), .int (J a1), .int (J a2)] S (fun v S' => v = none ∧ S1 = S') (fun _ _ => False) := GM.of (by decide) (Nat.le_of_ble_eq_true rfl) (ih hL _ _ _ _ _ _ H)
set_option maxHeartbeats 4000000 in
set_option maxRecDepth 20000 in
theorem t_X12_selectsBy_0 {l : Launch} {Z : XZ} {L : Nat → Nat} (n : Nat) (ih_X12_selectsBy_0 : P_X12_selectsBy_0 l Z L n) (ih_X12_selectsBy_48 : P_X12_selectsBy_48 l Z L n) (ih_X12_selectsBy_72 : P_X12_selectsBy_72 l Z L n) (ih_X12_selectsBy_96 : P_X12_selectsBy_96 l Z L n) (ih_X12_selectsBy_121 : P_X12_selectsBy_121 l Z L n) (ih_X12_selectsBy_161 : P_X12_selectsBy_161 l Z L n) (ih_X12_selectsBy_196 : P_X12_selectsBy_196 l Z L n) (ih_X12_selectsBy_234 : P_X12_selectsBy_234 l Z L n) : P_X12_selectsBy_0 l Z L (n + 1) := by
  intro hL d S a1 a2 x S1 H
  have H : b_X12_selectsBy_0 n d (f_X12_selectsBy n) S a1 a2 = some (x, S1) := H
  unfold b_X12_selectsBy_0 at H
  refine GA.aload_n dX12_selectsBy_0 rfl ?_
  obtain ⟨x1, hx2, H⟩ := gv_e H
  refine GV.getI hx2 xf_X12_610 dX12_selectsBy_1 (gs_500 hL) (by decide) rfl ?_
  refine GA.aload_n dX12_selectsBy_4 rfl ?_
  obtain ⟨x3, hx4, H⟩ := gv_e H
  refine GV.getI hx4 xf_X12_607 dX12_selectsBy_5 (gs_500 hL) (by decide) rfl ?_
  obtain ⟨x5, hx6, H⟩ := gv_e H
  refine GV.isub hx6 dX12_selectsBy_8 ?_
  refine GA.istore_n dX12_selectsBy_9 (by decide) ?_
  refine GA.iload_n dX12_selectsBy_10 rfl ?_
  refine GA.iconst dX12_selectsBy_11 ?_
  obtain ⟨hg7, H⟩ := gg_e H
  refine GV.icmp_ne (tgt := 72) hg7 (by decide) dX12_selectsBy_12 (by decide) (fun c8 => ?_) (fun c8 => ?_)
  · have H := it_t H c8
    refine GA.locals [(0, .ref (L 500)), (1, .int (J a1)), (2, .int (J a2)), (3, .int (J x5))] ⟨rfl, rfl, rfl, rfl, trivial⟩ ?_
    exact ih_X12_selectsBy_72 hL _ _ (a1) (a2) (x5) _ _ H
  · have H := it_f H c8
    refine GA.aload_n dX12_selectsBy_15 rfl ?_
    refine GA.get xf_X12_275 dX12_selectsBy_16 (gs_500 hL) (by decide) rfl ?_
    refine GA.aload_n dX12_selectsBy_19 rfl ?_
    obtain ⟨x9, hx10, H⟩ := gv_e H
    refine GV.getI hx10 xf_X12_607 dX12_selectsBy_20 (gs_500 hL) (by decide) rfl ?_
    obtain ⟨hg11, H⟩ := gg_e H
    obtain ⟨x12, hx13, H⟩ := gv_e H
    refine GV.iald hg11 hx13 dX12_selectsBy_23 (gs_518 hL) (by decide) ?_
    refine GA.bipush dX12_selectsBy_24 rfl ?_
    obtain ⟨hg14, H⟩ := gg_e H
    refine GV.icmp_ne (tgt := 72) hg14 (by decide) dX12_selectsBy_26 (by decide) (fun c15 => ?_) (fun c15 => ?_)
    · have H := it_t H c15
      refine GA.locals [(0, .ref (L 500)), (1, .int (J a1)), (2, .int (J a2)), (3, .int (J x5))] ⟨rfl, rfl, rfl, rfl, trivial⟩ ?_
      exact ih_X12_selectsBy_72 hL _ _ (a1) (a2) (x5) _ _ H
    · have H := it_f H c15
      refine GA.aload_n dX12_selectsBy_29 rfl ?_
      refine GA.get xf_X12_275 dX12_selectsBy_30 (gs_500 hL) (by decide) rfl ?_
      refine GA.aload_n dX12_selectsBy_33 rfl ?_
      obtain ⟨x16, hx17, H⟩ := gv_e H
      refine GV.getI hx17 xf_X12_607 dX12_selectsBy_34 (gs_500 hL) (by decide) rfl ?_
      refine GA.iconst dX12_selectsBy_37 ?_
      obtain ⟨x18, hx19, H⟩ := gv_e H
      refine GV.iadd hx19 dX12_selectsBy_38 ?_
      obtain ⟨hg20, H⟩ := gg_e H
      obtain ⟨x21, hx22, H⟩ := gv_e H
      refine GV.iald hg20 hx22 dX12_selectsBy_39 (gs_518 hL) (by decide) ?_
      refine GA.bipush dX12_selectsBy_40 rfl ?_
      obtain ⟨hg23, H⟩ := gg_e H
      refine GV.icmp_ne (tgt := 72) hg23 (by decide) dX12_selectsBy_42 (by decide) (fun c24 => ?_) (fun c24 => ?_)
      · have H := it_t H c24
        refine GA.locals [(0, .ref (L 500)), (1, .int (J a1)), (2, .int (J a2)), (3, .int (J x5))] ⟨rfl, rfl, rfl, rfl, trivial⟩ ?_
        exact ih_X12_selectsBy_72 hL _ _ (a1) (a2) (x5) _ _ H
      · have H := it_f H c24
        refine GA.iload_n dX12_selectsBy_45 rfl ?_
        refine GA.istore dX12_selectsBy_46 (by decide) ?_
        refine GA.locals [(0, .ref (L 500)), (1, .int (J a1)), (2, .int (J a2)), (4, .int (J a2))] ⟨rfl, rfl, rfl, rfl, trivial⟩ ?_
        exact ih_X12_selectsBy_48 hL _ _ (a1) (a2) (a2) _ _ H
set_option maxHeartbeats 4000000 in
set_option maxRecDepth 20000 in
theorem t_X12_selectsBy_48 {l : Launch} {Z : XZ} {L : Nat → Nat} (n : Nat) (ih_X12_selectsBy_0 : P_X12_selectsBy_0 l Z L n) (ih_X12_selectsBy_48 : P_X12_selectsBy_48 l Z L n) (ih_X12_selectsBy_72 : P_X12_selectsBy_72 l Z L n) (ih_X12_selectsBy_96 : P_X12_selectsBy_96 l Z L n) (ih_X12_selectsBy_121 : P_X12_selectsBy_121 l Z L n) (ih_X12_selectsBy_161 : P_X12_selectsBy_161 l Z L n) (ih_X12_selectsBy_196 : P_X12_selectsBy_196 l Z L n) (ih_X12_selectsBy_234 : P_X12_selectsBy_234 l Z L n) : P_X12_selectsBy_48 l Z L (n + 1) := by
  intro hL d S a1 a2 a4 x S1 H
  have H : b_X12_selectsBy_48 n d (f_X12_selectsBy n) S a1 a2 a4 = some (x, S1) := H
  unfold b_X12_selectsBy_48 at H
  refine GA.iload dX12_selectsBy_48 rfl ?_
  refine GA.aload_n dX12_selectsBy_50 rfl ?_
  refine GA.iload_n dX12_selectsBy_51 rfl ?_
  refine GA.iload_n dX12_selectsBy_52 rfl ?_
  obtain ⟨hg1, H⟩ := gg_e H
  obtain ⟨x2, S_3, hc4, H⟩ := gc_e H
  refine GA.callV (m_X12_endOf hL hc4) xs_X12_49 dX12_selectsBy_53 (gs_500 hL) (by decide) rfl rfl (by omega) (by decide) rfl (Nat.le_of_ble_eq_true rfl) (by omega) (by omega) rfl (fun E S9 hx => hx.elim) (fun v S9 hq => ?_)
  obtain ⟨rfl, rfl⟩ := hq
  obtain ⟨hg5, H⟩ := gg_e H
  obtain ⟨hg6, H⟩ := gg_e H
  refine GV.icmp_ge (tgt := 71) hg5 hg6 dX12_selectsBy_56 (by decide) (fun c7 => ?_) (fun c7 => ?_)
  · have H := it_t H c7
    cases H
    exact GA.vret rfl dX12_selectsBy_71 (by omega) (by omega) ⟨rfl, rfl⟩
  · have H := it_f H c7
    refine GA.aload_n dX12_selectsBy_59 rfl ?_
    refine GA.iload dX12_selectsBy_60 rfl ?_
    obtain ⟨x8, S_9, hc10, H⟩ := gc_e H
    refine GA.callV (m_X12_meets hL hc10) xs_X12_632 dX12_selectsBy_62 (gs_500 hL) (by decide) rfl rfl (by omega) (by decide) rfl (Nat.le_of_ble_eq_true rfl) (by omega) (by omega) rfl (fun E S9 hx => hx.elim) (fun v S9 hq => ?_)
    obtain ⟨rfl, rfl⟩ := hq
    obtain ⟨x11, hx12, H⟩ := gv_e H
    refine GV.iinc hx12 dX12_selectsBy_65 rfl (by decide) ?_
    refine GA.goto (tgt := 48) dX12_selectsBy_68 (by decide) ?_
    refine GA.locals [(0, .ref (L 500)), (1, .int (J a1)), (2, .int (J a2)), (4, .int (J x11))] ⟨rfl, rfl, rfl, rfl, trivial⟩ ?_
    exact ih_X12_selectsBy_48 hL _ _ (a1) (a2) (x11) _ _ H
set_option maxHeartbeats 4000000 in
set_option maxRecDepth 20000 in
theorem t_X12_selectsBy_72 {l : Launch} {Z : XZ} {L : Nat → Nat} (n : Nat) (ih_X12_selectsBy_0 : P_X12_selectsBy_0 l Z L n) (ih_X12_selectsBy_48 : P_X12_selectsBy_48 l Z L n) (ih_X12_selectsBy_72 : P_X12_selectsBy_72 l Z L n) (ih_X12_selectsBy_96 : P_X12_selectsBy_96 l Z L n) (ih_X12_selectsBy_121 : P_X12_selectsBy_121 l Z L n) (ih_X12_selectsBy_161 : P_X12_selectsBy_161 l Z L n) (ih_X12_selectsBy_196 : P_X12_selectsBy_196 l Z L n) (ih_X12_selectsBy_234 : P_X12_selectsBy_234 l Z L n) : P_X12_selectsBy_72 l Z L (n + 1) := by
  intro hL d S a1 a2 a3 x S1 H
  have H : b_X12_selectsBy_72 n d (f_X12_selectsBy n) S a1 a2 a3 = some (x, S1) := H
  unfold b_X12_selectsBy_72 at H
  refine GA.iload_n dX12_selectsBy_72 rfl ?_
  refine GA.iconst dX12_selectsBy_73 ?_
  obtain ⟨hg1, H⟩ := gg_e H
  refine GV.icmp_ne (tgt := 95) hg1 (by decide) dX12_selectsBy_74 (by decide) (fun c2 => ?_) (fun c2 => ?_)
  · have H := it_t H c2
    refine GA.iconst dX12_selectsBy_95 ?_
    refine GA.locals [(0, .ref (L 500)), (1, .int (J a1)), (2, .int (J a2)), (3, .int (J a3))] ⟨rfl, rfl, rfl, rfl, trivial⟩ ?_
    exact ih_X12_selectsBy_96 hL _ _ (a1) (a2) (a3) (0) _ _ H
  · have H := it_f H c2
    refine GA.aload_n dX12_selectsBy_77 rfl ?_
    refine GA.get xf_X12_275 dX12_selectsBy_78 (gs_500 hL) (by decide) rfl ?_
    refine GA.aload_n dX12_selectsBy_81 rfl ?_
    obtain ⟨x3, hx4, H⟩ := gv_e H
    refine GV.getI hx4 xf_X12_607 dX12_selectsBy_82 (gs_500 hL) (by decide) rfl ?_
    obtain ⟨hg5, H⟩ := gg_e H
    obtain ⟨x6, hx7, H⟩ := gv_e H
    refine GV.iald hg5 hx7 dX12_selectsBy_85 (gs_518 hL) (by decide) ?_
    refine GA.bipush dX12_selectsBy_86 rfl ?_
    obtain ⟨hg8, H⟩ := gg_e H
    refine GV.icmp_ne (tgt := 95) hg8 (by decide) dX12_selectsBy_88 (by decide) (fun c9 => ?_) (fun c9 => ?_)
    · have H := it_t H c9
      refine GA.iconst dX12_selectsBy_95 ?_
      refine GA.locals [(0, .ref (L 500)), (1, .int (J a1)), (2, .int (J a2)), (3, .int (J a3))] ⟨rfl, rfl, rfl, rfl, trivial⟩ ?_
      exact ih_X12_selectsBy_96 hL _ _ (a1) (a2) (a3) (0) _ _ H
    · have H := it_f H c9
      refine GA.iconst dX12_selectsBy_91 ?_
      refine GA.goto (tgt := 96) dX12_selectsBy_92 (by decide) ?_
      refine GA.locals [(0, .ref (L 500)), (1, .int (J a1)), (2, .int (J a2)), (3, .int (J a3))] ⟨rfl, rfl, rfl, rfl, trivial⟩ ?_
      exact ih_X12_selectsBy_96 hL _ _ (a1) (a2) (a3) (1) _ _ H
set_option maxHeartbeats 4000000 in
set_option maxRecDepth 20000 in
theorem t_X12_selectsBy_96 {l : Launch} {Z : XZ} {L : Nat → Nat} (n : Nat) (ih_X12_selectsBy_0 : P_X12_selectsBy_0 l Z L n) (ih_X12_selectsBy_48 : P_X12_selectsBy_48 l Z L n) (ih_X12_selectsBy_72 : P_X12_selectsBy_72 l Z L n) (ih_X12_selectsBy_96 : P_X12_selectsBy_96 l Z L n) (ih_X12_selectsBy_121 : P_X12_selectsBy_121 l Z L n) (ih_X12_selectsBy_161 : P_X12_selectsBy_161 l Z L n) (ih_X12_selectsBy_196 : P_X12_selectsBy_196 l Z L n) (ih_X12_selectsBy_234 : P_X12_selectsBy_234 l Z L n) : P_X12_selectsBy_96 l Z L (n + 1) := by
  intro hL d S a1 a2 a3 s0 x S1 H
  have H : b_X12_selectsBy_96 n d (f_X12_selectsBy n) S a1 a2 a3 s0 = some (x, S1) := H
  unfold b_X12_selectsBy_96 at H
  refine GA.istore dX12_selectsBy_96 (by decide) ?_
  refine GA.iload dX12_selectsBy_98 rfl ?_
  obtain ⟨hg1, H⟩ := gg_e H
  refine GV.if_ne (tgt := 155) hg1 dX12_selectsBy_100 (by decide) (fun c2 => ?_) (fun c2 => ?_)
  · have H := it_t H c2
    refine GA.aload_n dX12_selectsBy_155 rfl ?_
    obtain ⟨x3, hx4, H⟩ := gv_e H
    refine GV.getI hx4 xf_X12_607 dX12_selectsBy_156 (gs_500 hL) (by decide) rfl ?_
    refine GA.istore dX12_selectsBy_159 (by decide) ?_
    refine GA.locals [(0, .ref (L 500)), (1, .int (J a1)), (2, .int (J a2)), (4, .int (J s0)), (5, .int (J x3))] ⟨rfl, rfl, rfl, rfl, rfl, trivial⟩ ?_
    exact ih_X12_selectsBy_161 hL _ _ (a1) (a2) (s0) (x3) _ _ H
  · have H := it_f H c2
    refine GA.iload_n dX12_selectsBy_103 rfl ?_
    obtain ⟨hg5, H⟩ := gg_e H
    refine GV.if_eq (tgt := 121) hg5 dX12_selectsBy_104 (by decide) (fun c6 => ?_) (fun c6 => ?_)
    · have H := it_t H c6
      refine GA.locals [(0, .ref (L 500)), (1, .int (J a1)), (2, .int (J a2))] ⟨rfl, rfl, rfl, trivial⟩ ?_
      exact ih_X12_selectsBy_121 hL _ _ (a1) (a2) _ _ H
    · have H := it_f H c6
      refine GA.aload_n dX12_selectsBy_107 rfl ?_
      refine GA.get xf_X12_275 dX12_selectsBy_108 (gs_500 hL) (by decide) rfl ?_
      refine GA.aload_n dX12_selectsBy_111 rfl ?_
      obtain ⟨x7, hx8, H⟩ := gv_e H
      refine GV.getI hx8 xf_X12_607 dX12_selectsBy_112 (gs_500 hL) (by decide) rfl ?_
      obtain ⟨hg9, H⟩ := gg_e H
      obtain ⟨x10, hx11, H⟩ := gv_e H
      refine GV.iald hg9 hx11 dX12_selectsBy_115 (gs_518 hL) (by decide) ?_
      refine GA.bipush dX12_selectsBy_116 rfl ?_
      obtain ⟨hg12, H⟩ := gg_e H
      refine GV.icmp_eq (tgt := 155) hg12 (by decide) dX12_selectsBy_118 (by decide) (fun c13 => ?_) (fun c13 => ?_)
      · have H := it_t H c13
        refine GA.aload_n dX12_selectsBy_155 rfl ?_
        obtain ⟨x14, hx15, H⟩ := gv_e H
        refine GV.getI hx15 xf_X12_607 dX12_selectsBy_156 (gs_500 hL) (by decide) rfl ?_
        refine GA.istore dX12_selectsBy_159 (by decide) ?_
        refine GA.locals [(0, .ref (L 500)), (1, .int (J a1)), (2, .int (J a2)), (4, .int (J s0)), (5, .int (J x14))] ⟨rfl, rfl, rfl, rfl, rfl, trivial⟩ ?_
        exact ih_X12_selectsBy_161 hL _ _ (a1) (a2) (s0) (x14) _ _ H
      · have H := it_f H c13
        refine GA.locals [(0, .ref (L 500)), (1, .int (J a1)), (2, .int (J a2))] ⟨rfl, rfl, rfl, trivial⟩ ?_
        exact ih_X12_selectsBy_121 hL _ _ (a1) (a2) _ _ H
set_option maxHeartbeats 4000000 in
set_option maxRecDepth 20000 in
theorem t_X12_selectsBy_121 {l : Launch} {Z : XZ} {L : Nat → Nat} (n : Nat) (ih_X12_selectsBy_0 : P_X12_selectsBy_0 l Z L n) (ih_X12_selectsBy_48 : P_X12_selectsBy_48 l Z L n) (ih_X12_selectsBy_72 : P_X12_selectsBy_72 l Z L n) (ih_X12_selectsBy_96 : P_X12_selectsBy_96 l Z L n) (ih_X12_selectsBy_121 : P_X12_selectsBy_121 l Z L n) (ih_X12_selectsBy_161 : P_X12_selectsBy_161 l Z L n) (ih_X12_selectsBy_196 : P_X12_selectsBy_196 l Z L n) (ih_X12_selectsBy_234 : P_X12_selectsBy_234 l Z L n) : P_X12_selectsBy_121 l Z L (n + 1) := by
  intro hL d S a1 a2 x S1 H
  have H : b_X12_selectsBy_121 n d (f_X12_selectsBy n) S a1 a2 = some (x, S1) := H
  unfold b_X12_selectsBy_121 at H
  refine GA.aload_n dX12_selectsBy_121 rfl ?_
  refine GA.aload_n dX12_selectsBy_122 rfl ?_
  obtain ⟨x1, hx2, H⟩ := gv_e H
  refine GV.getI hx2 xf_X12_607 dX12_selectsBy_123 (gs_500 hL) (by decide) rfl ?_
  refine GA.aload_n dX12_selectsBy_126 rfl ?_
  obtain ⟨x3, hx4, H⟩ := gv_e H
  refine GV.getI hx4 xf_X12_610 dX12_selectsBy_127 (gs_500 hL) (by decide) rfl ?_
  obtain ⟨hg5, H⟩ := gg_e H
  obtain ⟨x6, S_7, hc8, H⟩ := gc_e H
  refine GA.callV (m_X12_wordOf hL hc8) xs_X12_622 dX12_selectsBy_130 (gs_500 hL) (by decide) rfl rfl (by omega) (by decide) rfl (Nat.le_of_ble_eq_true rfl) (by omega) (by omega) rfl (fun E S9 hx => hx.elim) (fun v S9 hq => ?_)
  obtain ⟨rfl, rfl⟩ := hq
  refine GA.aload_n dX12_selectsBy_133 rfl ?_
  refine GA.iload_n dX12_selectsBy_134 rfl ?_
  refine GA.iload_n dX12_selectsBy_135 rfl ?_
  refine GA.iconst dX12_selectsBy_136 ?_
  obtain ⟨x9, S_10, hc11, H⟩ := gc_e H
  refine GA.callV (m_X12_stepped hL hc11) xs_X12_625 dX12_selectsBy_137 (gs_500 hL) (by decide) rfl rfl (by omega) (by decide) rfl (Nat.le_of_ble_eq_true rfl) (by omega) (by omega) rfl (fun E S9 hx => hx.elim) (fun v S9 hq => ?_)
  obtain ⟨rfl, rfl⟩ := hq
  refine GA.istore dX12_selectsBy_140 (by decide) ?_
  refine GA.iload dX12_selectsBy_142 rfl ?_
  refine GA.iconst dX12_selectsBy_144 ?_
  obtain ⟨hg12, H⟩ := gg_e H
  refine GV.icmp_eq (tgt := 154) hg12 (by decide) dX12_selectsBy_145 (by decide) (fun c13 => ?_) (fun c13 => ?_)
  · have H := it_t H c13
    cases H
    exact GA.vret rfl dX12_selectsBy_154 (by omega) (by omega) ⟨rfl, rfl⟩
  · have H := it_f H c13
    refine GA.aload_n dX12_selectsBy_148 rfl ?_
    refine GA.iload dX12_selectsBy_149 rfl ?_
    obtain ⟨x14, S_15, hc16, H⟩ := gc_e H
    refine GA.callV (m_X12_meets hL hc16) xs_X12_632 dX12_selectsBy_151 (gs_500 hL) (by decide) rfl rfl (by omega) (by decide) rfl (Nat.le_of_ble_eq_true rfl) (by omega) (by omega) rfl (fun E S9 hx => hx.elim) (fun v S9 hq => ?_)
    obtain ⟨rfl, rfl⟩ := hq
    cases H
    exact GA.vret rfl dX12_selectsBy_154 (by omega) (by omega) ⟨rfl, rfl⟩
set_option maxHeartbeats 4000000 in
set_option maxRecDepth 20000 in
theorem t_X12_selectsBy_161 {l : Launch} {Z : XZ} {L : Nat → Nat} (n : Nat) (ih_X12_selectsBy_0 : P_X12_selectsBy_0 l Z L n) (ih_X12_selectsBy_48 : P_X12_selectsBy_48 l Z L n) (ih_X12_selectsBy_72 : P_X12_selectsBy_72 l Z L n) (ih_X12_selectsBy_96 : P_X12_selectsBy_96 l Z L n) (ih_X12_selectsBy_121 : P_X12_selectsBy_121 l Z L n) (ih_X12_selectsBy_161 : P_X12_selectsBy_161 l Z L n) (ih_X12_selectsBy_196 : P_X12_selectsBy_196 l Z L n) (ih_X12_selectsBy_234 : P_X12_selectsBy_234 l Z L n) : P_X12_selectsBy_161 l Z L (n + 1) := by
  intro hL d S a1 a2 a4 a5 x S1 H
  have H : b_X12_selectsBy_161 n d (f_X12_selectsBy n) S a1 a2 a4 a5 = some (x, S1) := H
  unfold b_X12_selectsBy_161 at H
  refine GA.iload dX12_selectsBy_161 rfl ?_
  refine GA.aload_n dX12_selectsBy_163 rfl ?_
  obtain ⟨x1, hx2, H⟩ := gv_e H
  refine GV.getI hx2 xf_X12_610 dX12_selectsBy_164 (gs_500 hL) (by decide) rfl ?_
  obtain ⟨hg3, H⟩ := gg_e H
  obtain ⟨hg4, H⟩ := gg_e H
  refine GV.icmp_ge (tgt := 188) hg3 hg4 dX12_selectsBy_167 (by decide) (fun c5 => ?_) (fun c5 => ?_)
  · have H := it_t H c5
    refine GA.iload_n dX12_selectsBy_188 rfl ?_
    refine GA.iconst dX12_selectsBy_189 ?_
    obtain ⟨x6, hx7, H⟩ := gv_e H
    refine GV.iadd hx7 dX12_selectsBy_190 ?_
    refine GA.istore dX12_selectsBy_191 (by decide) ?_
    refine GA.iconst dX12_selectsBy_193 ?_
    refine GA.istore dX12_selectsBy_194 (by decide) ?_
    refine GA.locals [(0, .ref (L 500)), (1, .int (J a1)), (2, .int (J a2)), (4, .int (J a4)), (5, .int (J a5)), (6, .int (J x6)), (7, .int (J 0))] ⟨rfl, rfl, rfl, rfl, rfl, rfl, rfl, trivial⟩ ?_
    exact ih_X12_selectsBy_196 hL _ _ (a1) (a2) (a4) (a5) (x6) (0) _ _ H
  · have H := it_f H c5
    refine GA.aload_n dX12_selectsBy_170 rfl ?_
    refine GA.get xf_X12_275 dX12_selectsBy_171 (gs_500 hL) (by decide) rfl ?_
    refine GA.iload dX12_selectsBy_174 rfl ?_
    obtain ⟨hg8, H⟩ := gg_e H
    obtain ⟨x9, hx10, H⟩ := gv_e H
    refine GV.iald hg8 hx10 dX12_selectsBy_176 (gs_518 hL) (by decide) ?_
    refine GA.bipush dX12_selectsBy_177 rfl ?_
    obtain ⟨hg11, H⟩ := gg_e H
    refine GV.icmp_eq (tgt := 188) hg11 (by decide) dX12_selectsBy_179 (by decide) (fun c12 => ?_) (fun c12 => ?_)
    · have H := it_t H c12
      refine GA.iload_n dX12_selectsBy_188 rfl ?_
      refine GA.iconst dX12_selectsBy_189 ?_
      obtain ⟨x13, hx14, H⟩ := gv_e H
      refine GV.iadd hx14 dX12_selectsBy_190 ?_
      refine GA.istore dX12_selectsBy_191 (by decide) ?_
      refine GA.iconst dX12_selectsBy_193 ?_
      refine GA.istore dX12_selectsBy_194 (by decide) ?_
      refine GA.locals [(0, .ref (L 500)), (1, .int (J a1)), (2, .int (J a2)), (4, .int (J a4)), (5, .int (J a5)), (6, .int (J x13)), (7, .int (J 0))] ⟨rfl, rfl, rfl, rfl, rfl, rfl, rfl, trivial⟩ ?_
      exact ih_X12_selectsBy_196 hL _ _ (a1) (a2) (a4) (a5) (x13) (0) _ _ H
    · have H := it_f H c12
      obtain ⟨x15, hx16, H⟩ := gv_e H
      refine GV.iinc hx16 dX12_selectsBy_182 rfl (by decide) ?_
      refine GA.goto (tgt := 161) dX12_selectsBy_185 (by decide) ?_
      refine GA.locals [(0, .ref (L 500)), (1, .int (J a1)), (2, .int (J a2)), (4, .int (J a4)), (5, .int (J x15))] ⟨rfl, rfl, rfl, rfl, rfl, trivial⟩ ?_
      exact ih_X12_selectsBy_161 hL _ _ (a1) (a2) (a4) (x15) _ _ H
set_option maxHeartbeats 4000000 in
set_option maxRecDepth 20000 in
theorem t_X12_selectsBy_196 {l : Launch} {Z : XZ} {L : Nat → Nat} (n : Nat) (ih_X12_selectsBy_0 : P_X12_selectsBy_0 l Z L n) (ih_X12_selectsBy_48 : P_X12_selectsBy_48 l Z L n) (ih_X12_selectsBy_72 : P_X12_selectsBy_72 l Z L n) (ih_X12_selectsBy_96 : P_X12_selectsBy_96 l Z L n) (ih_X12_selectsBy_121 : P_X12_selectsBy_121 l Z L n) (ih_X12_selectsBy_161 : P_X12_selectsBy_161 l Z L n) (ih_X12_selectsBy_196 : P_X12_selectsBy_196 l Z L n) (ih_X12_selectsBy_234 : P_X12_selectsBy_234 l Z L n) : P_X12_selectsBy_196 l Z L (n + 1) := by
  intro hL d S a1 a2 a4 a5 a6 a7 x S1 H
  have H : b_X12_selectsBy_196 n d (f_X12_selectsBy n) S a1 a2 a4 a5 a6 a7 = some (x, S1) := H
  unfold b_X12_selectsBy_196 at H
  refine GA.iload dX12_selectsBy_196 rfl ?_
  refine GA.aload_n dX12_selectsBy_198 rfl ?_
  refine GA.iload_n dX12_selectsBy_199 rfl ?_
  refine GA.iload_n dX12_selectsBy_200 rfl ?_
  refine GA.iconst dX12_selectsBy_201 ?_
  obtain ⟨hg1, H⟩ := gg_e H
  obtain ⟨x2, S_3, hc4, H⟩ := gc_e H
  refine GA.callV (m_X12_part hL hc4) xs_X12_36 dX12_selectsBy_202 (gs_500 hL) (by decide) rfl rfl (by omega) (by decide) rfl (Nat.le_of_ble_eq_true rfl) (by omega) (by omega) rfl (fun E S9 hx => hx.elim) (fun v S9 hq => ?_)
  obtain ⟨rfl, rfl⟩ := hq
  obtain ⟨hg5, H⟩ := gg_e H
  obtain ⟨hg6, H⟩ := gg_e H
  refine GV.icmp_ge (tgt := 255) hg5 hg6 dX12_selectsBy_205 (by decide) (fun c7 => ?_) (fun c7 => ?_)
  · have H := it_t H c7
    cases H
    exact GA.vret rfl dX12_selectsBy_255 (by omega) (by omega) ⟨rfl, rfl⟩
  · have H := it_f H c7
    refine GA.iload dX12_selectsBy_208 rfl ?_
    obtain ⟨hg8, H⟩ := gg_e H
    refine GV.if_ne (tgt := 234) hg8 dX12_selectsBy_210 (by decide) (fun c9 => ?_) (fun c9 => ?_)
    · have H := it_t H c9
      refine GA.locals [(0, .ref (L 500)), (1, .int (J a1)), (2, .int (J a2)), (4, .int (J a4)), (5, .int (J a5)), (6, .int (J a6)), (7, .int (J a7))] ⟨rfl, rfl, rfl, rfl, rfl, rfl, rfl, trivial⟩ ?_
      exact ih_X12_selectsBy_234 hL _ _ (a1) (a2) (a4) (a5) (a6) (a7) _ _ H
    · have H := it_f H c9
      refine GA.iload dX12_selectsBy_213 rfl ?_
      refine GA.aload_n dX12_selectsBy_215 rfl ?_
      obtain ⟨x10, hx11, H⟩ := gv_e H
      refine GV.getI hx11 xf_X12_610 dX12_selectsBy_216 (gs_500 hL) (by decide) rfl ?_
      obtain ⟨hg12, H⟩ := gg_e H
      obtain ⟨hg13, H⟩ := gg_e H
      refine GV.icmp_ge (tgt := 240) hg12 hg13 dX12_selectsBy_219 (by decide) (fun c14 => ?_) (fun c14 => ?_)
      · have H := it_t H c14
        refine GA.aload_n dX12_selectsBy_240 rfl ?_
        refine GA.iload_n dX12_selectsBy_241 rfl ?_
        refine GA.iload dX12_selectsBy_242 rfl ?_
        obtain ⟨x15, S_16, hc17, H⟩ := gc_e H
        refine GA.callV (m_X12_endOf hL hc17) xs_X12_49 dX12_selectsBy_244 (gs_500 hL) (by decide) rfl rfl (by omega) (by decide) rfl (Nat.le_of_ble_eq_true rfl) (by omega) (by omega) rfl (fun E S9 hx => hx.elim) (fun v S9 hq => ?_)
        obtain ⟨rfl, rfl⟩ := hq
        refine GA.istore dX12_selectsBy_247 (by decide) ?_
        obtain ⟨x18, hx19, H⟩ := gv_e H
        refine GV.iinc hx19 dX12_selectsBy_249 rfl (by decide) ?_
        refine GA.goto (tgt := 196) dX12_selectsBy_252 (by decide) ?_
        refine GA.locals [(0, .ref (L 500)), (1, .int (J a1)), (2, .int (J a2)), (4, .int (J a4)), (5, .int (J a5)), (6, .int (J x15)), (7, .int (J x18))] ⟨rfl, rfl, rfl, rfl, rfl, rfl, rfl, trivial⟩ ?_
        exact ih_X12_selectsBy_196 hL _ _ (a1) (a2) (a4) (a5) (x15) (x18) _ _ H
      · have H := it_f H c14
        refine GA.aload_n dX12_selectsBy_222 rfl ?_
        refine GA.iload_n dX12_selectsBy_223 rfl ?_
        refine GA.iload dX12_selectsBy_224 rfl ?_
        refine GA.iload dX12_selectsBy_226 rfl ?_
        obtain ⟨x20, S_21, hc22, H⟩ := gc_e H
        refine GA.callV (m_X12_isSo hL hc22) xs_X12_635 dX12_selectsBy_228 (gs_500 hL) (by decide) rfl rfl (by omega) (by decide) rfl (Nat.le_of_ble_eq_true rfl) (by omega) (by omega) rfl (fun E S9 hx => hx.elim) (fun v S9 hq => ?_)
        obtain ⟨rfl, rfl⟩ := hq
        obtain ⟨hg23, H⟩ := gg_e H
        refine GV.if_eq (tgt := 240) hg23 dX12_selectsBy_231 (by decide) (fun c24 => ?_) (fun c24 => ?_)
        · have H := it_t H c24
          refine GA.aload_n dX12_selectsBy_240 rfl ?_
          refine GA.iload_n dX12_selectsBy_241 rfl ?_
          refine GA.iload dX12_selectsBy_242 rfl ?_
          obtain ⟨x25, S_26, hc27, H⟩ := gc_e H
          refine GA.callV (m_X12_endOf hL hc27) xs_X12_49 dX12_selectsBy_244 (gs_500 hL) (by decide) rfl rfl (by omega) (by decide) rfl (Nat.le_of_ble_eq_true rfl) (by omega) (by omega) rfl (fun E S9 hx => hx.elim) (fun v S9 hq => ?_)
          obtain ⟨rfl, rfl⟩ := hq
          refine GA.istore dX12_selectsBy_247 (by decide) ?_
          obtain ⟨x28, hx29, H⟩ := gv_e H
          refine GV.iinc hx29 dX12_selectsBy_249 rfl (by decide) ?_
          refine GA.goto (tgt := 196) dX12_selectsBy_252 (by decide) ?_
          refine GA.locals [(0, .ref (L 500)), (1, .int (J a1)), (2, .int (J a2)), (4, .int (J a4)), (5, .int (J a5)), (6, .int (J x25)), (7, .int (J x28))] ⟨rfl, rfl, rfl, rfl, rfl, rfl, rfl, trivial⟩ ?_
          exact ih_X12_selectsBy_196 hL _ _ (a1) (a2) (a4) (a5) (x25) (x28) _ _ H
        · have H := it_f H c24
          refine GA.locals [(0, .ref (L 500)), (1, .int (J a1)), (2, .int (J a2)), (4, .int (J a4)), (5, .int (J a5)), (6, .int (J a6)), (7, .int (J a7))] ⟨rfl, rfl, rfl, rfl, rfl, rfl, rfl, trivial⟩ ?_
          exact ih_X12_selectsBy_234 hL _ _ (a1) (a2) (a4) (a5) (a6) (a7) _ _ H
set_option maxHeartbeats 4000000 in
set_option maxRecDepth 20000 in
theorem t_X12_selectsBy_234 {l : Launch} {Z : XZ} {L : Nat → Nat} (n : Nat) (ih_X12_selectsBy_0 : P_X12_selectsBy_0 l Z L n) (ih_X12_selectsBy_48 : P_X12_selectsBy_48 l Z L n) (ih_X12_selectsBy_72 : P_X12_selectsBy_72 l Z L n) (ih_X12_selectsBy_96 : P_X12_selectsBy_96 l Z L n) (ih_X12_selectsBy_121 : P_X12_selectsBy_121 l Z L n) (ih_X12_selectsBy_161 : P_X12_selectsBy_161 l Z L n) (ih_X12_selectsBy_196 : P_X12_selectsBy_196 l Z L n) (ih_X12_selectsBy_234 : P_X12_selectsBy_234 l Z L n) : P_X12_selectsBy_234 l Z L (n + 1) := by
  intro hL d S a1 a2 a4 a5 a6 a7 x S1 H
  have H : b_X12_selectsBy_234 n d (f_X12_selectsBy n) S a1 a2 a4 a5 a6 a7 = some (x, S1) := H
  unfold b_X12_selectsBy_234 at H
  refine GA.aload_n dX12_selectsBy_234 rfl ?_
  refine GA.iload dX12_selectsBy_235 rfl ?_
  obtain ⟨hg1, H⟩ := gg_e H
  obtain ⟨x2, S_3, hc4, H⟩ := gc_e H
  refine GA.callV (m_X12_meets hL hc4) xs_X12_632 dX12_selectsBy_237 (gs_500 hL) (by decide) rfl rfl (by omega) (by decide) rfl (Nat.le_of_ble_eq_true rfl) (by omega) (by omega) rfl (fun E S9 hx => hx.elim) (fun v S9 hq => ?_)
  obtain ⟨rfl, rfl⟩ := hq
  refine GA.aload_n dX12_selectsBy_240 rfl ?_
  refine GA.iload_n dX12_selectsBy_241 rfl ?_
  refine GA.iload dX12_selectsBy_242 rfl ?_
  obtain ⟨x5, S_6, hc7, H⟩ := gc_e H
  refine GA.callV (m_X12_endOf hL hc7) xs_X12_49 dX12_selectsBy_244 (gs_500 hL) (by decide) rfl rfl (by omega) (by decide) rfl (Nat.le_of_ble_eq_true rfl) (by omega) (by omega) rfl (fun E S9 hx => hx.elim) (fun v S9 hq => ?_)
  obtain ⟨rfl, rfl⟩ := hq
  refine GA.istore dX12_selectsBy_247 (by decide) ?_
  obtain ⟨x8, hx9, H⟩ := gv_e H
  refine GV.iinc hx9 dX12_selectsBy_249 rfl (by decide) ?_
  refine GA.goto (tgt := 196) dX12_selectsBy_252 (by decide) ?_
  refine GA.locals [(0, .ref (L 500)), (1, .int (J a1)), (2, .int (J a2)), (4, .int (J a4)), (5, .int (J a5)), (6, .int (J x5)), (7, .int (J x8))] ⟨rfl, rfl, rfl, rfl, rfl, rfl, rfl, trivial⟩ ?_
  exact ih_X12_selectsBy_196 hL _ _ (a1) (a2) (a4) (a5) (x5) (x8) _ _ H
theorem g_X12_selectsBy {l : Launch} {Z : XZ} {L : Nat → Nat} : ∀ n, P_X12_selectsBy_0 l Z L n ∧ P_X12_selectsBy_48 l Z L n ∧ P_X12_selectsBy_72 l Z L n ∧ P_X12_selectsBy_96 l Z L n ∧ P_X12_selectsBy_121 l Z L n ∧ P_X12_selectsBy_161 l Z L n ∧ P_X12_selectsBy_196 l Z L n ∧ P_X12_selectsBy_234 l Z L n
  | 0 => ⟨fun _ _ _ _ _ _ _ H => no_e H, fun _ _ _ _ _ _ _ _ H => no_e H, fun _ _ _ _ _ _ _ _ H => no_e H, fun _ _ _ _ _ _ _ _ _ H => no_e H, fun _ _ _ _ _ _ _ H => no_e H, fun _ _ _ _ _ _ _ _ _ H => no_e H, fun _ _ _ _ _ _ _ _ _ _ _ H => no_e H, fun _ _ _ _ _ _ _ _ _ _ _ H => no_e H⟩
  | n + 1 => have ⟨h0, h1, h2, h3, h4, h5, h6, h7⟩ := g_X12_selectsBy (l := l) (Z := Z) (L := L) n
    ⟨t_X12_selectsBy_0 n h0 h1 h2 h3 h4 h5 h6 h7, t_X12_selectsBy_48 n h0 h1 h2 h3 h4 h5 h6 h7, t_X12_selectsBy_72 n h0 h1 h2 h3 h4 h5 h6 h7, t_X12_selectsBy_96 n h0 h1 h2 h3 h4 h5 h6 h7, t_X12_selectsBy_121 n h0 h1 h2 h3 h4 h5 h6 h7, t_X12_selectsBy_161 n h0 h1 h2 h3 h4 h5 h6 h7, t_X12_selectsBy_196 n h0 h1 h2 h3 h4 h5 h6 h7, t_X12_selectsBy_234 n h0 h1 h2 h3 h4 h5 h6 h7⟩
theorem m_X12_selectsBy {l : Launch} {Z : XZ} {L : Nat → Nat} (hL : L 700 = 1) {n d : Nat} {S : GS} {a1 : Int} {a2 : Int} {x : Int} {S1 : GS} (H : f_X12_selectsBy n d 0 S [a1, a2] = some (x, S1)) : GM l Z L yX12_selectsBy cX12_selectsBy 8 none [] d 0 0 [.ref (L 500), .int (J a1), .int (J a2)] S (fun v S' => v = none ∧ S1 = S') (fun _ _ => False) := GM.of (by decide) (Nat.le_of_ble_eq_true rfl) ((g_X12_selectsBy n).1 hL _ _ _ _ _ _ H)

def P_X12_select_0 (l : Launch) (Z : XZ) (L : Nat → Nat) (n : Nat) : Prop := ∀ (hL : L 700 = 1), ∀ (d : Nat) (S : GS) (a1 : Int) (x : Int) (S1 : GS), f_X12_select n d 0 S [a1] = some (x, S1) → GA l Z L yX12_select cX12_select 4 (some .int) [] d 0 0 (fun v S' => v = some (.int (J x)) ∧ S1 = S') (fun _ _ => False) 0 (gl [(0, .ref (L 500)), (1, .int (J a1))]) [] S 0 0
def P_X12_select_52 (l : Launch) (Z : XZ) (L : Nat → Nat) (n : Nat) : Prop := ∀ (hL : L 700 = 1), ∀ (d : Nat) (S : GS) (a1 : Int) (a2 : Int) (x : Int) (S1 : GS), f_X12_select n d 52 S [a1, a2] = some (x, S1) → GA l Z L yX12_select cX12_select 4 (some .int) [] d 0 0 (fun v S' => v = some (.int (J x)) ∧ S1 = S') (fun _ _ => False) 52 (gl [(0, .ref (L 500)), (1, .int (J a1)), (2, .int (J a2))]) [] S 0 0
def P_X12_select_72 (l : Launch) (Z : XZ) (L : Nat → Nat) (n : Nat) : Prop := ∀ (hL : L 700 = 1), ∀ (d : Nat) (S : GS) (a1 : Int) (a3 : Int) (x : Int) (S1 : GS), f_X12_select n d 72 S [a1, a3] = some (x, S1) → GA l Z L yX12_select cX12_select 4 (some .int) [] d 0 0 (fun v S' => v = some (.int (J x)) ∧ S1 = S') (fun _ _ => False) 72 (gl [(0, .ref (L 500)), (1, .int (J a1)), (3, .int (J a3))]) [] S 0 0
def P_X12_select_93 (l : Launch) (Z : XZ) (L : Nat → Nat) (n : Nat) : Prop := ∀ (hL : L 700 = 1), ∀ (d : Nat) (S : GS) (a1 : Int) (a3 : Int) (x : Int) (S1 : GS), f_X12_select n d 93 S [a1, a3] = some (x, S1) → GA l Z L yX12_select cX12_select 4 (some .int) [] d 0 0 (fun v S' => v = some (.int (J x)) ∧ S1 = S') (fun _ _ => False) 93 (gl [(0, .ref (L 500)), (1, .int (J a1)), (3, .int (J a3))]) [] S 0 0
def P_X12_select_128 (l : Launch) (Z : XZ) (L : Nat → Nat) (n : Nat) : Prop := ∀ (hL : L 700 = 1), ∀ (d : Nat) (S : GS) (a1 : Int) (a3 : Int) (x : Int) (S1 : GS), f_X12_select n d 128 S [a1, a3] = some (x, S1) → GA l Z L yX12_select cX12_select 4 (some .int) [] d 0 0 (fun v S' => v = some (.int (J x)) ∧ S1 = S') (fun _ _ => False) 128 (gl [(0, .ref (L 500)), (1, .int (J a1)), (3, .int (J a3))]) [] S 0 0
theorem i_X12_select {l : Launch} {Z : XZ} {L : Nat → Nat} (hL : L 700 = 1) {n : Nat} (ih : P_X12_select_0 l Z L n) {d : Nat} {S : GS} {a1 : Int} {x : Int} {S1 : GS} (H : f_X12_select n d 0 S [a1] = some (x, S1)) : GM l Z L yX12_select cX12_select 4 (some .int) [] d 0 0 [.ref (L 500), .int (J a1)] S (fun v S' => v = some (.int (J x)) ∧ S1 = S') (fun _ _ => False) := GM.of (by decide) (Nat.le_of_ble_eq_true rfl) (ih hL _ _ _ _ _ H)
set_option maxHeartbeats 4000000 in
set_option maxRecDepth 20000 in
theorem t_X12_select_0 {l : Launch} {Z : XZ} {L : Nat → Nat} (n : Nat) (ih_X12_select_0 : P_X12_select_0 l Z L n) (ih_X12_select_52 : P_X12_select_52 l Z L n) (ih_X12_select_72 : P_X12_select_72 l Z L n) (ih_X12_select_93 : P_X12_select_93 l Z L n) (ih_X12_select_128 : P_X12_select_128 l Z L n) : P_X12_select_0 l Z L (n + 1) := by
  intro hL d S a1 x S1 H
  have H : b_X12_select_0 n d (f_X12_select n) S a1 = some (x, S1) := H
  unfold b_X12_select_0 at H
  refine GA.aload_n dX12_select_0 rfl ?_
  refine GA.aload_n dX12_select_1 rfl ?_
  refine GA.iload_n dX12_select_2 rfl ?_
  obtain ⟨hg1, H⟩ := gg_e H
  obtain ⟨x2, S_3, hc4, H⟩ := gc_e H
  refine GA.callV (m_X12_isDoc hL hc4) xs_X12_22 dX12_select_3 (gs_500 hL) (by decide) rfl rfl (by omega) (by decide) rfl (Nat.le_of_ble_eq_true rfl) (by omega) (by omega) rfl (fun E S9 hx => hx.elim) (fun v S9 hq => ?_)
  obtain ⟨rfl, rfl⟩ := hq
  refine GA.iconst dX12_select_6 ?_
  obtain ⟨x5, S_6, hc7, H⟩ := gc_e H
  refine GA.callV (m_X12_fails hL hc7) xs_X12_456 dX12_select_7 (gs_500 hL) (by decide) rfl rfl (by omega) (by decide) rfl (Nat.le_of_ble_eq_true rfl) (by omega) (by omega) rfl (fun E S9 hx => hx.elim) (fun v S9 hq => ?_)
  obtain ⟨rfl, rfl⟩ := hq
  obtain ⟨hg8, H⟩ := gg_e H
  refine GV.if_eq (tgt := 15) hg8 dX12_select_10 (by decide) (fun c9 => ?_) (fun c9 => ?_)
  · have H := it_t H c9
    refine GA.aload_n dX12_select_15 rfl ?_
    obtain ⟨x10, S_11, hc12, H⟩ := gc_e H
    refine GA.callV (m_X12_pathOfPage hL hc12) xs_X12_638 dX12_select_16 (gs_500 hL) (by decide) rfl rfl (by omega) (by decide) rfl (Nat.le_of_ble_eq_true rfl) (by omega) (by omega) rfl (fun E S9 hx => hx.elim) (fun v S9 hq => ?_)
    obtain ⟨rfl, rfl⟩ := hq
    refine GA.aload_n dX12_select_19 rfl ?_
    refine GA.aload_n dX12_select_20 rfl ?_
    obtain ⟨x13, S_14, hc15, H⟩ := gc_e H
    refine GA.callV (m_X12_isPath hL hc15) xs_X12_641 dX12_select_21 (gs_500 hL) (by decide) rfl rfl (by omega) (by decide) rfl (Nat.le_of_ble_eq_true rfl) (by omega) (by omega) rfl (fun E S9 hx => hx.elim) (fun v S9 hq => ?_)
    obtain ⟨rfl, rfl⟩ := hq
    refine GA.iconst dX12_select_24 ?_
    obtain ⟨x16, S_17, hc18, H⟩ := gc_e H
    refine GA.callV (m_X12_fails hL hc18) xs_X12_456 dX12_select_25 (gs_500 hL) (by decide) rfl rfl (by omega) (by decide) rfl (Nat.le_of_ble_eq_true rfl) (by omega) (by omega) rfl (fun E S9 hx => hx.elim) (fun v S9 hq => ?_)
    obtain ⟨rfl, rfl⟩ := hq
    obtain ⟨hg19, H⟩ := gg_e H
    refine GV.if_eq (tgt := 33) hg19 dX12_select_28 (by decide) (fun c20 => ?_) (fun c20 => ?_)
    · have H := it_t H c20
      refine GA.aload_n dX12_select_33 rfl ?_
      refine GA.iconst dX12_select_34 ?_
      obtain ⟨S_21, hx22, H⟩ := gv_e H
      refine GV.putI hx22 (xp_X12_460 _) dX12_select_35 (gs_500 hL) (by decide) (Nat.le_of_ble_eq_true rfl) (gs_500 hL) ?_
      refine GA.aload_n dX12_select_38 rfl ?_
      refine GA.iconst dX12_select_39 ?_
      obtain ⟨S_23, hx24, H⟩ := gv_e H
      refine GV.putI hx24 (xp_X12_644 _) dX12_select_40 (gs_500 hL) (by decide) (Nat.le_of_ble_eq_true rfl) (gs_500 hL) ?_
      refine GA.aload_n dX12_select_43 rfl ?_
      refine GA.get xf_X12_278 dX12_select_44 (gs_500 hL) (by decide) rfl ?_
      refine GA.iconst dX12_select_47 ?_
      refine GA.iconst dX12_select_48 ?_
      obtain ⟨hg25, H⟩ := gg_e H
      obtain ⟨S_26, hx27, H⟩ := gv_e H
      refine GV.iast hg25 hx27 dX12_select_49 (fun _ => (gs_519 hL)) (by decide) ?_
      refine GA.iconst dX12_select_50 ?_
      refine GA.istore_n dX12_select_51 (by decide) ?_
      refine GA.locals [(0, .ref (L 500)), (1, .int (J a1)), (2, .int (J 0))] ⟨rfl, rfl, rfl, trivial⟩ ?_
      exact ih_X12_select_52 hL _ _ (a1) (0) _ _ H
    · have H := it_f H c20
      refine GA.iconst dX12_select_31 ?_
      cases H
      exact GA.iret rfl dX12_select_32 (by omega) (by omega) ⟨rfl, rfl⟩
  · have H := it_f H c9
    refine GA.iconst dX12_select_13 ?_
    cases H
    exact GA.iret rfl dX12_select_14 (by omega) (by omega) ⟨rfl, rfl⟩
set_option maxHeartbeats 4000000 in
set_option maxRecDepth 20000 in
theorem t_X12_select_52 {l : Launch} {Z : XZ} {L : Nat → Nat} (n : Nat) (ih_X12_select_0 : P_X12_select_0 l Z L n) (ih_X12_select_52 : P_X12_select_52 l Z L n) (ih_X12_select_72 : P_X12_select_72 l Z L n) (ih_X12_select_93 : P_X12_select_93 l Z L n) (ih_X12_select_128 : P_X12_select_128 l Z L n) : P_X12_select_52 l Z L (n + 1) := by
  intro hL d S a1 a2 x S1 H
  have H : b_X12_select_52 n d (f_X12_select n) S a1 a2 = some (x, S1) := H
  unfold b_X12_select_52 at H
  refine GA.iload_n dX12_select_52 rfl ?_
  refine GA.aload_n dX12_select_53 rfl ?_
  obtain ⟨x1, hx2, H⟩ := gv_e H
  refine GV.getI hx2 xf_X12_604 dX12_select_54 (gs_500 hL) (by decide) rfl ?_
  obtain ⟨hg3, H⟩ := gg_e H
  obtain ⟨hg4, H⟩ := gg_e H
  refine GV.icmp_ge (tgt := 162) hg3 hg4 dX12_select_57 (by decide) (fun c5 => ?_) (fun c5 => ?_)
  · have H := it_t H c5
    refine GA.aload_n dX12_select_162 rfl ?_
    obtain ⟨x6, hx7, H⟩ := gv_e H
    refine GV.getI hx7 xf_X12_644 dX12_select_163 (gs_500 hL) (by decide) rfl ?_
    cases H
    exact GA.iret rfl dX12_select_166 (by omega) (by omega) ⟨rfl, rfl⟩
  · have H := it_f H c5
    refine GA.aload_n dX12_select_60 rfl ?_
    refine GA.iload_n dX12_select_61 rfl ?_
    obtain ⟨hg8, H⟩ := gg_e H
    obtain ⟨x9, S_10, hc11, H⟩ := gc_e H
    refine GA.callV (m_X12_step hL hc11) xs_X12_619 dX12_select_62 (gs_500 hL) (by decide) rfl rfl (by omega) (by decide) rfl (Nat.le_of_ble_eq_true rfl) (by omega) (by omega) rfl (fun E S9 hx => hx.elim) (fun v S9 hq => ?_)
    obtain ⟨rfl, rfl⟩ := hq
    refine GA.aload_n dX12_select_65 rfl ?_
    refine GA.iconst dX12_select_66 ?_
    obtain ⟨S_12, hx13, H⟩ := gv_e H
    refine GV.putI hx13 (xp_X12_629 _) dX12_select_67 (gs_500 hL) (by decide) (Nat.le_of_ble_eq_true rfl) (gs_500 hL) ?_
    refine GA.iconst dX12_select_70 ?_
    refine GA.istore_n dX12_select_71 (by decide) ?_
    refine GA.locals [(0, .ref (L 500)), (1, .int (J a1)), (3, .int (J 0))] ⟨rfl, rfl, rfl, trivial⟩ ?_
    exact ih_X12_select_72 hL _ _ (a1) (0) _ _ H
set_option maxHeartbeats 4000000 in
set_option maxRecDepth 20000 in
theorem t_X12_select_72 {l : Launch} {Z : XZ} {L : Nat → Nat} (n : Nat) (ih_X12_select_0 : P_X12_select_0 l Z L n) (ih_X12_select_52 : P_X12_select_52 l Z L n) (ih_X12_select_72 : P_X12_select_72 l Z L n) (ih_X12_select_93 : P_X12_select_93 l Z L n) (ih_X12_select_128 : P_X12_select_128 l Z L n) : P_X12_select_72 l Z L (n + 1) := by
  intro hL d S a1 a3 x S1 H
  have H : b_X12_select_72 n d (f_X12_select n) S a1 a3 = some (x, S1) := H
  unfold b_X12_select_72 at H
  refine GA.iload_n dX12_select_72 rfl ?_
  refine GA.bipush dX12_select_73 rfl ?_
  obtain ⟨hg1, H⟩ := gg_e H
  refine GV.icmp_ge (tgt := 91) hg1 (by decide) dX12_select_75 (by decide) (fun c2 => ?_) (fun c2 => ?_)
  · have H := it_t H c2
    refine GA.iconst dX12_select_91 ?_
    refine GA.istore_n dX12_select_92 (by decide) ?_
    refine GA.locals [(0, .ref (L 500)), (1, .int (J a1)), (3, .int (J 0))] ⟨rfl, rfl, rfl, trivial⟩ ?_
    exact ih_X12_select_93 hL _ _ (a1) (0) _ _ H
  · have H := it_f H c2
    refine GA.aload_n dX12_select_78 rfl ?_
    refine GA.get xf_X12_284 dX12_select_79 (gs_500 hL) (by decide) rfl ?_
    refine GA.iload_n dX12_select_82 rfl ?_
    refine GA.iconst dX12_select_83 ?_
    obtain ⟨hg3, H⟩ := gg_e H
    obtain ⟨S_4, hx5, H⟩ := gv_e H
    refine GV.zast hg3 (by decide) hx5 dX12_select_84 (fun _ => (gs_521 hL)) (by decide) ?_
    obtain ⟨x6, hx7, H⟩ := gv_e H
    refine GV.iinc hx7 dX12_select_85 rfl (by decide) ?_
    refine GA.goto (tgt := 72) dX12_select_88 (by decide) ?_
    refine GA.locals [(0, .ref (L 500)), (1, .int (J a1)), (3, .int (J x6))] ⟨rfl, rfl, rfl, trivial⟩ ?_
    exact ih_X12_select_72 hL _ _ (a1) (x6) _ _ H
set_option maxHeartbeats 4000000 in
set_option maxRecDepth 20000 in
theorem t_X12_select_93 {l : Launch} {Z : XZ} {L : Nat → Nat} (n : Nat) (ih_X12_select_0 : P_X12_select_0 l Z L n) (ih_X12_select_52 : P_X12_select_52 l Z L n) (ih_X12_select_72 : P_X12_select_72 l Z L n) (ih_X12_select_93 : P_X12_select_93 l Z L n) (ih_X12_select_128 : P_X12_select_128 l Z L n) : P_X12_select_93 l Z L (n + 1) := by
  intro hL d S a1 a3 x S1 H
  have H : b_X12_select_93 n d (f_X12_select n) S a1 a3 = some (x, S1) := H
  unfold b_X12_select_93 at H
  refine GA.iload_n dX12_select_93 rfl ?_
  refine GA.aload_n dX12_select_94 rfl ?_
  obtain ⟨x1, hx2, H⟩ := gv_e H
  refine GV.getI hx2 xf_X12_644 dX12_select_95 (gs_500 hL) (by decide) rfl ?_
  obtain ⟨hg3, H⟩ := gg_e H
  obtain ⟨hg4, H⟩ := gg_e H
  refine GV.icmp_ge (tgt := 118) hg3 hg4 dX12_select_98 (by decide) (fun c5 => ?_) (fun c5 => ?_)
  · have H := it_t H c5
    refine GA.aload_n dX12_select_118 rfl ?_
    refine GA.aload_n dX12_select_119 rfl ?_
    obtain ⟨x6, hx7, H⟩ := gv_e H
    refine GV.getI hx7 xf_X12_629 dX12_select_120 (gs_500 hL) (by decide) rfl ?_
    obtain ⟨S_8, hx9, H⟩ := gv_e H
    refine GV.putI hx9 (xp_X12_644 _) dX12_select_123 (gs_500 hL) (by decide) (Nat.le_of_ble_eq_true rfl) (gs_500 hL) ?_
    refine GA.iconst dX12_select_126 ?_
    refine GA.istore_n dX12_select_127 (by decide) ?_
    refine GA.locals [(0, .ref (L 500)), (1, .int (J a1)), (3, .int (J 0))] ⟨rfl, rfl, rfl, trivial⟩ ?_
    exact ih_X12_select_128 hL _ _ (a1) (0) _ _ H
  · have H := it_f H c5
    refine GA.aload_n dX12_select_101 rfl ?_
    refine GA.iload_n dX12_select_102 rfl ?_
    refine GA.aload_n dX12_select_103 rfl ?_
    refine GA.get xf_X12_278 dX12_select_104 (gs_500 hL) (by decide) rfl ?_
    refine GA.iload_n dX12_select_107 rfl ?_
    obtain ⟨hg10, H⟩ := gg_e H
    obtain ⟨x11, hx12, H⟩ := gv_e H
    refine GV.iald hg10 hx12 dX12_select_108 (gs_519 hL) (by decide) ?_
    obtain ⟨hg13, H⟩ := gg_e H
    obtain ⟨x14, S_15, hc16, H⟩ := gc_e H
    refine GA.callV (m_X12_selectsBy hL hc16) xs_X12_647 dX12_select_109 (gs_500 hL) (by decide) rfl rfl (by omega) (by decide) rfl (Nat.le_of_ble_eq_true rfl) (by omega) (by omega) rfl (fun E S9 hx => hx.elim) (fun v S9 hq => ?_)
    obtain ⟨rfl, rfl⟩ := hq
    obtain ⟨x17, hx18, H⟩ := gv_e H
    refine GV.iinc hx18 dX12_select_112 rfl (by decide) ?_
    refine GA.goto (tgt := 93) dX12_select_115 (by decide) ?_
    refine GA.locals [(0, .ref (L 500)), (1, .int (J a1)), (3, .int (J x17))] ⟨rfl, rfl, rfl, trivial⟩ ?_
    exact ih_X12_select_93 hL _ _ (a1) (x17) _ _ H
set_option maxHeartbeats 4000000 in
set_option maxRecDepth 20000 in
theorem t_X12_select_128 {l : Launch} {Z : XZ} {L : Nat → Nat} (n : Nat) (ih_X12_select_0 : P_X12_select_0 l Z L n) (ih_X12_select_52 : P_X12_select_52 l Z L n) (ih_X12_select_72 : P_X12_select_72 l Z L n) (ih_X12_select_93 : P_X12_select_93 l Z L n) (ih_X12_select_128 : P_X12_select_128 l Z L n) : P_X12_select_128 l Z L (n + 1) := by
  intro hL d S a1 a3 x S1 H
  have H : b_X12_select_128 n d (f_X12_select n) S a1 a3 = some (x, S1) := H
  unfold b_X12_select_128 at H
  refine GA.iload_n dX12_select_128 rfl ?_
  refine GA.aload_n dX12_select_129 rfl ?_
  obtain ⟨x1, hx2, H⟩ := gv_e H
  refine GV.getI hx2 xf_X12_644 dX12_select_130 (gs_500 hL) (by decide) rfl ?_
  obtain ⟨hg3, H⟩ := gg_e H
  obtain ⟨hg4, H⟩ := gg_e H
  refine GV.icmp_ge (tgt := 154) hg3 hg4 dX12_select_133 (by decide) (fun c5 => ?_) (fun c5 => ?_)
  · have H := it_t H c5
    refine GA.aload_n dX12_select_154 rfl ?_
    obtain ⟨x6, hx7, H⟩ := gv_e H
    refine GV.getI hx7 xf_X12_610 dX12_select_155 (gs_500 hL) (by decide) rfl ?_
    refine GA.istore_n dX12_select_158 (by decide) ?_
    refine GA.goto (tgt := 52) dX12_select_159 (by decide) ?_
    refine GA.locals [(0, .ref (L 500)), (1, .int (J a1)), (2, .int (J x6))] ⟨rfl, rfl, rfl, trivial⟩ ?_
    exact ih_X12_select_52 hL _ _ (a1) (x6) _ _ H
  · have H := it_f H c5
    refine GA.aload_n dX12_select_136 rfl ?_
    refine GA.get xf_X12_278 dX12_select_137 (gs_500 hL) (by decide) rfl ?_
    refine GA.iload_n dX12_select_140 rfl ?_
    refine GA.aload_n dX12_select_141 rfl ?_
    refine GA.get xf_X12_281 dX12_select_142 (gs_500 hL) (by decide) rfl ?_
    refine GA.iload_n dX12_select_145 rfl ?_
    obtain ⟨hg8, H⟩ := gg_e H
    obtain ⟨x9, hx10, H⟩ := gv_e H
    refine GV.iald hg8 hx10 dX12_select_146 (gs_520 hL) (by decide) ?_
    obtain ⟨S_11, hx12, H⟩ := gv_e H
    refine GV.iast hg8 hx12 dX12_select_147 (fun _ => (gs_519 hL)) (by decide) ?_
    obtain ⟨x13, hx14, H⟩ := gv_e H
    refine GV.iinc hx14 dX12_select_148 rfl (by decide) ?_
    refine GA.goto (tgt := 128) dX12_select_151 (by decide) ?_
    refine GA.locals [(0, .ref (L 500)), (1, .int (J a1)), (3, .int (J x13))] ⟨rfl, rfl, rfl, trivial⟩ ?_
    exact ih_X12_select_128 hL _ _ (a1) (x13) _ _ H
theorem g_X12_select {l : Launch} {Z : XZ} {L : Nat → Nat} : ∀ n, P_X12_select_0 l Z L n ∧ P_X12_select_52 l Z L n ∧ P_X12_select_72 l Z L n ∧ P_X12_select_93 l Z L n ∧ P_X12_select_128 l Z L n
  | 0 => ⟨fun _ _ _ _ _ _ H => no_e H, fun _ _ _ _ _ _ _ H => no_e H, fun _ _ _ _ _ _ _ H => no_e H, fun _ _ _ _ _ _ _ H => no_e H, fun _ _ _ _ _ _ _ H => no_e H⟩
  | n + 1 => have ⟨h0, h1, h2, h3, h4⟩ := g_X12_select (l := l) (Z := Z) (L := L) n
    ⟨t_X12_select_0 n h0 h1 h2 h3 h4, t_X12_select_52 n h0 h1 h2 h3 h4, t_X12_select_72 n h0 h1 h2 h3 h4, t_X12_select_93 n h0 h1 h2 h3 h4, t_X12_select_128 n h0 h1 h2 h3 h4⟩
theorem m_X12_select {l : Launch} {Z : XZ} {L : Nat → Nat} (hL : L 700 = 1) {n d : Nat} {S : GS} {a1 : Int} {x : Int} {S1 : GS} (H : f_X12_select n d 0 S [a1] = some (x, S1)) : GM l Z L yX12_select cX12_select 4 (some .int) [] d 0 0 [.ref (L 500), .int (J a1)] S (fun v S' => v = some (.int (J x)) ∧ S1 = S') (fun _ _ => False) := GM.of (by decide) (Nat.le_of_ble_eq_true rfl) ((g_X12_select n).1 hL _ _ _ _ _ H)

def P_X12_sorted_0 (l : Launch) (Z : XZ) (L : Nat → Nat) (n : Nat) : Prop := ∀ (hL : L 700 = 1), ∀ (d : Nat) (S : GS) (a1 : Int) (x : Int) (S1 : GS), f_X12_sorted n d 0 S [a1] = some (x, S1) → GA l Z L yX12_sorted cX12_sorted 2 (some .int) [] d 0 0 (fun v S' => v = some (.int (J x)) ∧ S1 = S') (fun _ _ => False) 0 (gl [(0, .ref (L 500)), (1, .int (J a1))]) [] S 0 0
def P_X12_sorted_28 (l : Launch) (Z : XZ) (L : Nat → Nat) (n : Nat) : Prop := ∀ (hL : L 700 = 1), ∀ (d : Nat) (S : GS) (a1 : Int) (s0 : Int) (x : Int) (S1 : GS), f_X12_sorted n d 28 S [a1, s0] = some (x, S1) → GA l Z L yX12_sorted cX12_sorted 2 (some .int) [] d 0 0 (fun v S' => v = some (.int (J x)) ∧ S1 = S') (fun _ _ => False) 28 (gl [(0, .ref (L 500)), (1, .int (J a1))]) [.int (J s0), .ref (L 500)] S 0 0
theorem i_X12_sorted {l : Launch} {Z : XZ} {L : Nat → Nat} (hL : L 700 = 1) {n : Nat} (ih : P_X12_sorted_0 l Z L n) {d : Nat} {S : GS} {a1 : Int} {x : Int} {S1 : GS} (H : f_X12_sorted n d 0 S [a1] = some (x, S1)) : GM l Z L yX12_sorted cX12_sorted 2 (some .int) [] d 0 0 [.ref (L 500), .int (J a1)] S (fun v S' => v = some (.int (J x)) ∧ S1 = S') (fun _ _ => False) := GM.of (by decide) (Nat.le_of_ble_eq_true rfl) (ih hL _ _ _ _ _ H)
set_option maxHeartbeats 4000000 in
set_option maxRecDepth 20000 in
theorem t_X12_sorted_0 {l : Launch} {Z : XZ} {L : Nat → Nat} (n : Nat) (ih_X12_sorted_0 : P_X12_sorted_0 l Z L n) (ih_X12_sorted_28 : P_X12_sorted_28 l Z L n) : P_X12_sorted_0 l Z L (n + 1) := by
  intro hL d S a1 x S1 H
  have H : b_X12_sorted_0 n d (f_X12_sorted n) S a1 = some (x, S1) := H
  unfold b_X12_sorted_0 at H
  refine GA.aload_n dX12_sorted_0 rfl ?_
  refine GA.aload_n dX12_sorted_1 rfl ?_
  refine GA.iload_n dX12_sorted_2 rfl ?_
  obtain ⟨hg1, H⟩ := gg_e H
  obtain ⟨x2, S_3, hc4, H⟩ := gc_e H
  refine GA.callV (m_X12_isDoc hL hc4) xs_X12_22 dX12_sorted_3 (gs_500 hL) (by decide) rfl rfl (by omega) (by decide) rfl (Nat.le_of_ble_eq_true rfl) (by omega) (by omega) rfl (fun E S9 hx => hx.elim) (fun v S9 hq => ?_)
  obtain ⟨rfl, rfl⟩ := hq
  refine GA.iconst dX12_sorted_6 ?_
  obtain ⟨x5, S_6, hc7, H⟩ := gc_e H
  refine GA.callV (m_X12_fails hL hc7) xs_X12_456 dX12_sorted_7 (gs_500 hL) (by decide) rfl rfl (by omega) (by decide) rfl (Nat.le_of_ble_eq_true rfl) (by omega) (by omega) rfl (fun E S9 hx => hx.elim) (fun v S9 hq => ?_)
  obtain ⟨rfl, rfl⟩ := hq
  obtain ⟨hg8, H⟩ := gg_e H
  refine GV.if_ne (tgt := 35) hg8 dX12_sorted_10 (by decide) (fun c9 => ?_) (fun c9 => ?_)
  · have H := it_t H c9
    refine GA.iconst dX12_sorted_35 ?_
    cases H
    exact GA.iret rfl dX12_sorted_36 (by omega) (by omega) ⟨rfl, rfl⟩
  · have H := it_f H c9
    refine GA.aload_n dX12_sorted_13 rfl ?_
    refine GA.aload_n dX12_sorted_14 rfl ?_
    obtain ⟨x10, hx11, H⟩ := gv_e H
    refine GV.getI hx11 xf_X12_15 dX12_sorted_15 (gs_500 hL) (by decide) rfl ?_
    refine GA.bipush dX12_sorted_18 rfl ?_
    obtain ⟨hg12, H⟩ := gg_e H
    refine GV.icmp_ge (tgt := 27) hg12 (by decide) dX12_sorted_20 (by decide) (fun c13 => ?_) (fun c13 => ?_)
    · have H := it_t H c13
      refine GA.iconst dX12_sorted_27 ?_
      refine GA.locals [(0, .ref (L 500)), (1, .int (J a1))] ⟨rfl, rfl, trivial⟩ ?_
      exact ih_X12_sorted_28 hL _ _ (a1) (0) _ _ H
    · have H := it_f H c13
      refine GA.iconst dX12_sorted_23 ?_
      refine GA.goto (tgt := 28) dX12_sorted_24 (by decide) ?_
      refine GA.locals [(0, .ref (L 500)), (1, .int (J a1))] ⟨rfl, rfl, trivial⟩ ?_
      exact ih_X12_sorted_28 hL _ _ (a1) (1) _ _ H
set_option maxHeartbeats 4000000 in
set_option maxRecDepth 20000 in
theorem t_X12_sorted_28 {l : Launch} {Z : XZ} {L : Nat → Nat} (n : Nat) (ih_X12_sorted_0 : P_X12_sorted_0 l Z L n) (ih_X12_sorted_28 : P_X12_sorted_28 l Z L n) : P_X12_sorted_28 l Z L (n + 1) := by
  intro hL d S a1 s0 x S1 H
  have H : b_X12_sorted_28 n d (f_X12_sorted n) S a1 s0 = some (x, S1) := H
  unfold b_X12_sorted_28 at H
  refine GA.iconst dX12_sorted_28 ?_
  obtain ⟨hg1, H⟩ := gg_e H
  obtain ⟨x2, S_3, hc4, H⟩ := gc_e H
  refine GA.callV (m_X12_fails hL hc4) xs_X12_456 dX12_sorted_29 (gs_500 hL) (by decide) rfl rfl (by omega) (by decide) rfl (Nat.le_of_ble_eq_true rfl) (by omega) (by omega) rfl (fun E S9 hx => hx.elim) (fun v S9 hq => ?_)
  obtain ⟨rfl, rfl⟩ := hq
  obtain ⟨hg5, H⟩ := gg_e H
  refine GV.if_eq (tgt := 37) hg5 dX12_sorted_32 (by decide) (fun c6 => ?_) (fun c6 => ?_)
  · have H := it_t H c6
    refine GA.aload_n dX12_sorted_37 rfl ?_
    refine GA.iload_n dX12_sorted_38 rfl ?_
    refine GA.iconst dX12_sorted_39 ?_
    refine GA.bipush dX12_sorted_40 rfl ?_
    refine GA.iconst dX12_sorted_42 ?_
    obtain ⟨x7, S_8, hc9, H⟩ := gc_e H
    refine GA.callV (m_X12_choose hL hc9) xs_X12_529 dX12_sorted_43 (gs_500 hL) (by decide) rfl rfl (by omega) (by decide) rfl (Nat.le_of_ble_eq_true rfl) (by omega) (by omega) rfl (fun E S9 hx => hx.elim) (fun v S9 hq => ?_)
    obtain ⟨rfl, rfl⟩ := hq
    refine GA.aload_n dX12_sorted_46 rfl ?_
    refine GA.bipush dX12_sorted_47 rfl ?_
    obtain ⟨x10, S_11, hc12, H⟩ := gc_e H
    refine GA.callV (m_X12_link hL hc12) xs_X12_55 dX12_sorted_49 (gs_500 hL) (by decide) rfl rfl (by omega) (by decide) rfl (Nat.le_of_ble_eq_true rfl) (by omega) (by omega) rfl (fun E S9 hx => hx.elim) (fun v S9 hq => ?_)
    obtain ⟨rfl, rfl⟩ := hq
    refine GA.aload_n dX12_sorted_52 rfl ?_
    refine GA.bipush dX12_sorted_53 rfl ?_
    obtain ⟨x13, S_14, hc15, H⟩ := gc_e H
    refine GA.callV (m_X12_keeps hL hc15) xs_X12_536 dX12_sorted_55 (gs_500 hL) (by decide) rfl rfl (by omega) (by decide) rfl (Nat.le_of_ble_eq_true rfl) (by omega) (by omega) rfl (fun E S9 hx => hx.elim) (fun v S9 hq => ?_)
    obtain ⟨rfl, rfl⟩ := hq
    cases H
    exact GA.iret rfl dX12_sorted_58 (by omega) (by omega) ⟨rfl, rfl⟩
  · have H := it_f H c6
    refine GA.iconst dX12_sorted_35 ?_
    cases H
    exact GA.iret rfl dX12_sorted_36 (by omega) (by omega) ⟨rfl, rfl⟩
theorem g_X12_sorted {l : Launch} {Z : XZ} {L : Nat → Nat} : ∀ n, P_X12_sorted_0 l Z L n ∧ P_X12_sorted_28 l Z L n
  | 0 => ⟨fun _ _ _ _ _ _ H => no_e H, fun _ _ _ _ _ _ _ H => no_e H⟩
  | n + 1 => have ⟨h0, h1⟩ := g_X12_sorted (l := l) (Z := Z) (L := L) n
    ⟨t_X12_sorted_0 n h0 h1, t_X12_sorted_28 n h0 h1⟩
theorem m_X12_sorted {l : Launch} {Z : XZ} {L : Nat → Nat} (hL : L 700 = 1) {n d : Nat} {S : GS} {a1 : Int} {x : Int} {S1 : GS} (H : f_X12_sorted n d 0 S [a1] = some (x, S1)) : GM l Z L yX12_sorted cX12_sorted 2 (some .int) [] d 0 0 [.ref (L 500), .int (J a1)] S (fun v S' => v = some (.int (J x)) ∧ S1 = S') (fun _ _ => False) := GM.of (by decide) (Nat.le_of_ble_eq_true rfl) ((g_X12_sorted n).1 hL _ _ _ _ _ H)

def P_X12_standard_0 (l : Launch) (Z : XZ) (L : Nat → Nat) (n : Nat) : Prop := ∀ (hL : L 700 = 1), ∀ (d : Nat) (S : GS) (x : Int) (S1 : GS), f_X12_standard n d 0 S [] = some (x, S1) → GA l Z L yX12_standard cX12_standard 1 (some .int) [] d 0 0 (fun v S' => v = some (.int (J x)) ∧ S1 = S') (fun _ _ => False) 0 (gl [(0, .ref (L 500))]) [] S 0 0
def P_X12_standard_15 (l : Launch) (Z : XZ) (L : Nat → Nat) (n : Nat) : Prop := ∀ (hL : L 700 = 1), ∀ (d : Nat) (S : GS) (s0 : Int) (x : Int) (S1 : GS), f_X12_standard n d 15 S [s0] = some (x, S1) → GA l Z L yX12_standard cX12_standard 1 (some .int) [] d 0 0 (fun v S' => v = some (.int (J x)) ∧ S1 = S') (fun _ _ => False) 15 (gl [(0, .ref (L 500))]) [.int (J s0), .ref (L 500)] S 0 0
theorem i_X12_standard {l : Launch} {Z : XZ} {L : Nat → Nat} (hL : L 700 = 1) {n : Nat} (ih : P_X12_standard_0 l Z L n) {d : Nat} {S : GS} {x : Int} {S1 : GS} (H : f_X12_standard n d 0 S [] = some (x, S1)) : GM l Z L yX12_standard cX12_standard 1 (some .int) [] d 0 0 [.ref (L 500)] S (fun v S' => v = some (.int (J x)) ∧ S1 = S') (fun _ _ => False) := GM.of (by decide) (Nat.le_of_ble_eq_true rfl) (ih hL _ _ _ _ H)
set_option maxHeartbeats 4000000 in
set_option maxRecDepth 20000 in
theorem t_X12_standard_0 {l : Launch} {Z : XZ} {L : Nat → Nat} (n : Nat) (ih_X12_standard_0 : P_X12_standard_0 l Z L n) (ih_X12_standard_15 : P_X12_standard_15 l Z L n) : P_X12_standard_0 l Z L (n + 1) := by
  intro hL d S  x S1 H
  have H : b_X12_standard_0 n d (f_X12_standard n) S  = some (x, S1) := H
  unfold b_X12_standard_0 at H
  refine GA.aload_n dX12_standard_0 rfl ?_
  refine GA.aload_n dX12_standard_1 rfl ?_
  obtain ⟨x1, hx2, H⟩ := gv_e H
  refine GV.getI hx2 xf_X12_15 dX12_standard_2 (gs_500 hL) (by decide) rfl ?_
  refine GA.bipush dX12_standard_5 rfl ?_
  obtain ⟨hg3, H⟩ := gg_e H
  refine GV.icmp_ge (tgt := 14) hg3 (by decide) dX12_standard_7 (by decide) (fun c4 => ?_) (fun c4 => ?_)
  · have H := it_t H c4
    refine GA.iconst dX12_standard_14 ?_
    refine GA.locals [(0, .ref (L 500))] ⟨rfl, trivial⟩ ?_
    exact ih_X12_standard_15 hL _ _ (0) _ _ H
  · have H := it_f H c4
    refine GA.iconst dX12_standard_10 ?_
    refine GA.goto (tgt := 15) dX12_standard_11 (by decide) ?_
    refine GA.locals [(0, .ref (L 500))] ⟨rfl, trivial⟩ ?_
    exact ih_X12_standard_15 hL _ _ (1) _ _ H
set_option maxHeartbeats 4000000 in
set_option maxRecDepth 20000 in
theorem t_X12_standard_15 {l : Launch} {Z : XZ} {L : Nat → Nat} (n : Nat) (ih_X12_standard_0 : P_X12_standard_0 l Z L n) (ih_X12_standard_15 : P_X12_standard_15 l Z L n) : P_X12_standard_15 l Z L (n + 1) := by
  intro hL d S s0 x S1 H
  have H : b_X12_standard_15 n d (f_X12_standard n) S s0 = some (x, S1) := H
  unfold b_X12_standard_15 at H
  refine GA.iconst dX12_standard_15 ?_
  obtain ⟨hg1, H⟩ := gg_e H
  obtain ⟨x2, S_3, hc4, H⟩ := gc_e H
  refine GA.callV (m_X12_fails hL hc4) xs_X12_456 dX12_standard_16 (gs_500 hL) (by decide) rfl rfl (by omega) (by decide) rfl (Nat.le_of_ble_eq_true rfl) (by omega) (by omega) rfl (fun E S9 hx => hx.elim) (fun v S9 hq => ?_)
  obtain ⟨rfl, rfl⟩ := hq
  obtain ⟨hg5, H⟩ := gg_e H
  refine GV.if_eq (tgt := 26) hg5 dX12_standard_19 (by decide) (fun c6 => ?_) (fun c6 => ?_)
  · have H := it_t H c6
    refine GA.aload_n dX12_standard_26 rfl ?_
    refine GA.bipush dX12_standard_27 rfl ?_
    obtain ⟨x7, S_8, hc9, H⟩ := gc_e H
    refine GA.callV (m_X12_keeps hL hc9) xs_X12_536 dX12_standard_29 (gs_500 hL) (by decide) rfl rfl (by omega) (by decide) rfl (Nat.le_of_ble_eq_true rfl) (by omega) (by omega) rfl (fun E S9 hx => hx.elim) (fun v S9 hq => ?_)
    obtain ⟨rfl, rfl⟩ := hq
    cases H
    exact GA.iret rfl dX12_standard_32 (by omega) (by omega) ⟨rfl, rfl⟩
  · have H := it_f H c6
    refine GA.iconst dX12_standard_22 ?_
    refine GA.goto (tgt := 32) dX12_standard_23 (by decide) ?_
    cases H
    exact GA.iret rfl dX12_standard_32 (by omega) (by omega) ⟨rfl, rfl⟩
theorem g_X12_standard {l : Launch} {Z : XZ} {L : Nat → Nat} : ∀ n, P_X12_standard_0 l Z L n ∧ P_X12_standard_15 l Z L n
  | 0 => ⟨fun _ _ _ _ _ H => no_e H, fun _ _ _ _ _ _ H => no_e H⟩
  | n + 1 => have ⟨h0, h1⟩ := g_X12_standard (l := l) (Z := Z) (L := L) n
    ⟨t_X12_standard_0 n h0 h1, t_X12_standard_15 n h0 h1⟩
theorem m_X12_standard {l : Launch} {Z : XZ} {L : Nat → Nat} (hL : L 700 = 1) {n d : Nat} {S : GS} {x : Int} {S1 : GS} (H : f_X12_standard n d 0 S [] = some (x, S1)) : GM l Z L yX12_standard cX12_standard 1 (some .int) [] d 0 0 [.ref (L 500)] S (fun v S' => v = some (.int (J x)) ∧ S1 = S') (fun _ _ => False) := GM.of (by decide) (Nat.le_of_ble_eq_true rfl) ((g_X12_standard n).1 hL _ _ _ _ H)

def P_X12_sum_0 (l : Launch) (Z : XZ) (L : Nat → Nat) (n : Nat) : Prop := ∀ (hL : L 700 = 1), ∀ (d : Nat) (S : GS) (a1 : Int) (x : Int) (S1 : GS), f_X12_sum n d 0 S [a1] = some (x, S1) → GA l Z L yX12_sum cX12_sum 4 (some .int) [] d 0 0 (fun v S' => v = some (.int (J x)) ∧ S1 = S') (fun _ _ => False) 0 (gl [(0, .ref (L 500)), (1, .int (J a1))]) [] S 0 0
def P_X12_sum_21 (l : Launch) (Z : XZ) (L : Nat → Nat) (n : Nat) : Prop := ∀ (hL : L 700 = 1), ∀ (d : Nat) (S : GS) (a1 : Int) (a2 : Int) (a3 : Int) (x : Int) (S1 : GS), f_X12_sum n d 21 S [a1, a2, a3] = some (x, S1) → GA l Z L yX12_sum cX12_sum 4 (some .int) [] d 0 0 (fun v S' => v = some (.int (J x)) ∧ S1 = S') (fun _ _ => False) 21 (gl [(0, .ref (L 500)), (1, .int (J a1)), (2, .int (J a2)), (3, .int (J a3))]) [] S 0 0
theorem i_X12_sum {l : Launch} {Z : XZ} {L : Nat → Nat} (hL : L 700 = 1) {n : Nat} (ih : P_X12_sum_0 l Z L n) {d : Nat} {S : GS} {a1 : Int} {x : Int} {S1 : GS} (H : f_X12_sum n d 0 S [a1] = some (x, S1)) : GM l Z L yX12_sum cX12_sum 4 (some .int) [] d 0 0 [.ref (L 500), .int (J a1)] S (fun v S' => v = some (.int (J x)) ∧ S1 = S') (fun _ _ => False) := GM.of (by decide) (Nat.le_of_ble_eq_true rfl) (ih hL _ _ _ _ _ H)
set_option maxHeartbeats 4000000 in
set_option maxRecDepth 20000 in
theorem t_X12_sum_0 {l : Launch} {Z : XZ} {L : Nat → Nat} (n : Nat) (ih_X12_sum_0 : P_X12_sum_0 l Z L n) (ih_X12_sum_21 : P_X12_sum_21 l Z L n) : P_X12_sum_0 l Z L (n + 1) := by
  intro hL d S a1 x S1 H
  have H : b_X12_sum_0 n d (f_X12_sum n) S a1 = some (x, S1) := H
  unfold b_X12_sum_0 at H
  refine GA.aload_n dX12_sum_0 rfl ?_
  refine GA.iload_n dX12_sum_1 rfl ?_
  refine GA.iconst dX12_sum_2 ?_
  refine GA.bipush dX12_sum_3 rfl ?_
  obtain ⟨hg1, H⟩ := gg_e H
  obtain ⟨x2, S_3, hc4, H⟩ := gc_e H
  refine GA.callS (m_X12_in hL hc4) xs_X12_18 dX12_sum_5 rfl (by omega) (by decide) rfl (Nat.le_of_ble_eq_true rfl) (by omega) (by omega) rfl (fun E S9 hx => hx.elim) (fun v S9 hq => ?_)
  obtain ⟨rfl, rfl⟩ := hq
  refine GA.iconst dX12_sum_8 ?_
  obtain ⟨x5, S_6, hc7, H⟩ := gc_e H
  refine GA.callV (m_X12_fails hL hc7) xs_X12_456 dX12_sum_9 (gs_500 hL) (by decide) rfl rfl (by omega) (by decide) rfl (Nat.le_of_ble_eq_true rfl) (by omega) (by omega) rfl (fun E S9 hx => hx.elim) (fun v S9 hq => ?_)
  obtain ⟨rfl, rfl⟩ := hq
  obtain ⟨hg8, H⟩ := gg_e H
  refine GV.if_eq (tgt := 17) hg8 dX12_sum_12 (by decide) (fun c9 => ?_) (fun c9 => ?_)
  · have H := it_t H c9
    refine GA.iconst dX12_sum_17 ?_
    refine GA.istore_n dX12_sum_18 (by decide) ?_
    refine GA.iconst dX12_sum_19 ?_
    refine GA.istore_n dX12_sum_20 (by decide) ?_
    refine GA.locals [(0, .ref (L 500)), (1, .int (J a1)), (2, .int (J 0)), (3, .int (J 0))] ⟨rfl, rfl, rfl, rfl, trivial⟩ ?_
    exact ih_X12_sum_21 hL _ _ (a1) (0) (0) _ _ H
  · have H := it_f H c9
    refine GA.iconst dX12_sum_15 ?_
    cases H
    exact GA.iret rfl dX12_sum_16 (by omega) (by omega) ⟨rfl, rfl⟩
set_option maxHeartbeats 4000000 in
set_option maxRecDepth 20000 in
theorem t_X12_sum_21 {l : Launch} {Z : XZ} {L : Nat → Nat} (n : Nat) (ih_X12_sum_0 : P_X12_sum_0 l Z L n) (ih_X12_sum_21 : P_X12_sum_21 l Z L n) : P_X12_sum_21 l Z L (n + 1) := by
  intro hL d S a1 a2 a3 x S1 H
  have H : b_X12_sum_21 n d (f_X12_sum n) S a1 a2 a3 = some (x, S1) := H
  unfold b_X12_sum_21 at H
  refine GA.iload_n dX12_sum_21 rfl ?_
  refine GA.aload_n dX12_sum_22 rfl ?_
  obtain ⟨x1, hx2, H⟩ := gv_e H
  refine GV.getI hx2 xf_X12_15 dX12_sum_23 (gs_500 hL) (by decide) rfl ?_
  obtain ⟨hg3, H⟩ := gg_e H
  obtain ⟨hg4, H⟩ := gg_e H
  refine GV.icmp_ge (tgt := 44) hg3 hg4 dX12_sum_26 (by decide) (fun c5 => ?_) (fun c5 => ?_)
  · have H := it_t H c5
    refine GA.iload_n dX12_sum_44 rfl ?_
    obtain ⟨hg6, H⟩ := gg_e H
    by_cases c7 : a1 = 0
    · have H := it_t H c7
      refine GA.tableIn (tgt := 84) dX12_sum_45 hg6 (by omega) (by omega) (by rw [c7] <;> rfl) (by decide) ?_
      refine GA.aload_n dX12_sum_84 rfl ?_
      obtain ⟨x8, hx9, H⟩ := gv_e H
      refine GV.getI hx9 xf_X12_15 dX12_sum_85 (gs_500 hL) (by decide) rfl ?_
      cases H
      exact GA.iret rfl dX12_sum_88 (by omega) (by omega) ⟨rfl, rfl⟩
    have H := it_f H c7
    by_cases c10 : a1 = 1
    · have H := it_t H c10
      refine GA.tableIn (tgt := 89) dX12_sum_45 hg6 (by omega) (by omega) (by rw [c10] <;> rfl) (by decide) ?_
      refine GA.aload_n dX12_sum_89 rfl ?_
      obtain ⟨x11, hx12, H⟩ := gv_e H
      refine GV.getI hx12 xf_X12_460 dX12_sum_90 (gs_500 hL) (by decide) rfl ?_
      cases H
      exact GA.iret rfl dX12_sum_93 (by omega) (by omega) ⟨rfl, rfl⟩
    have H := it_f H c10
    by_cases c13 : a1 = 2
    · have H := it_t H c13
      refine GA.tableIn (tgt := 94) dX12_sum_45 hg6 (by omega) (by omega) (by rw [c13] <;> rfl) (by decide) ?_
      refine GA.aload_n dX12_sum_94 rfl ?_
      obtain ⟨x14, hx15, H⟩ := gv_e H
      refine GV.getI hx15 xf_X12_463 dX12_sum_95 (gs_500 hL) (by decide) rfl ?_
      cases H
      exact GA.iret rfl dX12_sum_98 (by omega) (by omega) ⟨rfl, rfl⟩
    have H := it_f H c13
    by_cases c16 : a1 = 3
    · have H := it_t H c16
      refine GA.tableIn (tgt := 99) dX12_sum_45 hg6 (by omega) (by omega) (by rw [c16] <;> rfl) (by decide) ?_
      refine GA.aload_n dX12_sum_99 rfl ?_
      obtain ⟨x17, hx18, H⟩ := gv_e H
      refine GV.getI hx18 xf_X12_533 dX12_sum_100 (gs_500 hL) (by decide) rfl ?_
      cases H
      exact GA.iret rfl dX12_sum_103 (by omega) (by omega) ⟨rfl, rfl⟩
    have H := it_f H c16
    by_cases c19 : a1 = 4
    · have H := it_t H c19
      refine GA.tableIn (tgt := 104) dX12_sum_45 hg6 (by omega) (by omega) (by rw [c19] <;> rfl) (by decide) ?_
      refine GA.aload_n dX12_sum_104 rfl ?_
      obtain ⟨x20, hx21, H⟩ := gv_e H
      refine GV.getI hx21 xf_X12_644 dX12_sum_105 (gs_500 hL) (by decide) rfl ?_
      cases H
      exact GA.iret rfl dX12_sum_108 (by omega) (by omega) ⟨rfl, rfl⟩
    have H := it_f H c19
    by_cases c22 : a1 = 5
    · have H := it_t H c22
      refine GA.tableIn (tgt := 109) dX12_sum_45 hg6 (by omega) (by omega) (by rw [c22] <;> rfl) (by decide) ?_
      refine GA.aload_n dX12_sum_109 rfl ?_
      obtain ⟨x23, hx24, H⟩ := gv_e H
      refine GV.getI hx24 xf_X12_852 dX12_sum_110 (gs_500 hL) (by decide) rfl ?_
      cases H
      exact GA.iret rfl dX12_sum_113 (by omega) (by omega) ⟨rfl, rfl⟩
    have H := it_f H c22
    refine GA.tableOut (tgt := 114) dX12_sum_45 hg6 (by omega) (by decide) ?_
    refine GA.iload_n dX12_sum_114 rfl ?_
    cases H
    exact GA.iret rfl dX12_sum_115 (by omega) (by omega) ⟨rfl, rfl⟩
  · have H := it_f H c5
    refine GA.iload_n dX12_sum_29 rfl ?_
    refine GA.aload_n dX12_sum_30 rfl ?_
    refine GA.get xf_X12_26 dX12_sum_31 (gs_500 hL) (by decide) rfl ?_
    refine GA.iload_n dX12_sum_34 rfl ?_
    obtain ⟨hg25, H⟩ := gg_e H
    obtain ⟨x26, hx27, H⟩ := gv_e H
    refine GV.iald hg25 hx27 dX12_sum_35 (gs_502 hL) (by decide) ?_
    obtain ⟨x28, hx29, H⟩ := gv_e H
    refine GV.iadd hx29 dX12_sum_36 ?_
    refine GA.istore_n dX12_sum_37 (by decide) ?_
    obtain ⟨x30, hx31, H⟩ := gv_e H
    refine GV.iinc hx31 dX12_sum_38 rfl (by decide) ?_
    refine GA.goto (tgt := 21) dX12_sum_41 (by decide) ?_
    refine GA.locals [(0, .ref (L 500)), (1, .int (J a1)), (2, .int (J x28)), (3, .int (J x30))] ⟨rfl, rfl, rfl, rfl, trivial⟩ ?_
    exact ih_X12_sum_21 hL _ _ (a1) (x28) (x30) _ _ H
theorem g_X12_sum {l : Launch} {Z : XZ} {L : Nat → Nat} : ∀ n, P_X12_sum_0 l Z L n ∧ P_X12_sum_21 l Z L n
  | 0 => ⟨fun _ _ _ _ _ _ H => no_e H, fun _ _ _ _ _ _ _ _ H => no_e H⟩
  | n + 1 => have ⟨h0, h1⟩ := g_X12_sum (l := l) (Z := Z) (L := L) n
    ⟨t_X12_sum_0 n h0 h1, t_X12_sum_21 n h0 h1⟩
theorem m_X12_sum {l : Launch} {Z : XZ} {L : Nat → Nat} (hL : L 700 = 1) {n d : Nat} {S : GS} {a1 : Int} {x : Int} {S1 : GS} (H : f_X12_sum n d 0 S [a1] = some (x, S1)) : GM l Z L yX12_sum cX12_sum 4 (some .int) [] d 0 0 [.ref (L 500), .int (J a1)] S (fun v S' => v = some (.int (J x)) ∧ S1 = S') (fun _ _ => False) := GM.of (by decide) (Nat.le_of_ble_eq_true rfl) ((g_X12_sum n).1 hL _ _ _ _ _ H)

def P_X12_take_0 (l : Launch) (Z : XZ) (L : Nat → Nat) (n : Nat) : Prop := ∀ (hL : L 700 = 1), ∀ (d : Nat) (S : GS) (a1 : Int) (a2 : Int) (x : Int) (S1 : GS), f_X12_take n d 0 S [a1, a2] = some (x, S1) → GA l Z L yX12_take cX12_take 3 (some .int) [] d 0 0 (fun v S' => v = some (.int (J x)) ∧ S1 = S') (fun _ _ => False) 0 (gl [(0, .ref (L 500)), (1, .int (J a1)), (2, .int (J a2))]) [] S 0 0
def P_X12_take_29 (l : Launch) (Z : XZ) (L : Nat → Nat) (n : Nat) : Prop := ∀ (hL : L 700 = 1), ∀ (d : Nat) (S : GS) (a1 : Int) (a2 : Int) (s0 : Int) (x : Int) (S1 : GS), f_X12_take n d 29 S [a1, a2, s0] = some (x, S1) → GA l Z L yX12_take cX12_take 3 (some .int) [] d 0 0 (fun v S' => v = some (.int (J x)) ∧ S1 = S') (fun _ _ => False) 29 (gl [(0, .ref (L 500)), (1, .int (J a1)), (2, .int (J a2))]) [.int (J s0), .ref (L 500)] S 0 0
theorem i_X12_take {l : Launch} {Z : XZ} {L : Nat → Nat} (hL : L 700 = 1) {n : Nat} (ih : P_X12_take_0 l Z L n) {d : Nat} {S : GS} {a1 : Int} {a2 : Int} {x : Int} {S1 : GS} (H : f_X12_take n d 0 S [a1, a2] = some (x, S1)) : GM l Z L yX12_take cX12_take 3 (some .int) [] d 0 0 [.ref (L 500), .int (J a1), .int (J a2)] S (fun v S' => v = some (.int (J x)) ∧ S1 = S') (fun _ _ => False) := GM.of (by decide) (Nat.le_of_ble_eq_true rfl) (ih hL _ _ _ _ _ _ H)
set_option maxHeartbeats 4000000 in
set_option maxRecDepth 20000 in
theorem t_X12_take_0 {l : Launch} {Z : XZ} {L : Nat → Nat} (n : Nat) (ih_X12_take_0 : P_X12_take_0 l Z L n) (ih_X12_take_29 : P_X12_take_29 l Z L n) : P_X12_take_0 l Z L (n + 1) := by
  intro hL d S a1 a2 x S1 H
  have H : b_X12_take_0 n d (f_X12_take n) S a1 a2 = some (x, S1) := H
  unfold b_X12_take_0 at H
  refine GA.aload_n dX12_take_0 rfl ?_
  refine GA.aload_n dX12_take_1 rfl ?_
  refine GA.iload_n dX12_take_2 rfl ?_
  refine GA.iload_n dX12_take_3 rfl ?_
  obtain ⟨hg1, H⟩ := gg_e H
  obtain ⟨x2, S_3, hc4, H⟩ := gc_e H
  refine GA.callV (m_X12_isNode hL hc4) xs_X12_580 dX12_take_4 (gs_500 hL) (by decide) rfl rfl (by omega) (by decide) rfl (Nat.le_of_ble_eq_true rfl) (by omega) (by omega) rfl (fun E S9 hx => hx.elim) (fun v S9 hq => ?_)
  obtain ⟨rfl, rfl⟩ := hq
  refine GA.iconst dX12_take_7 ?_
  obtain ⟨x5, S_6, hc7, H⟩ := gc_e H
  refine GA.callV (m_X12_fails hL hc7) xs_X12_456 dX12_take_8 (gs_500 hL) (by decide) rfl rfl (by omega) (by decide) rfl (Nat.le_of_ble_eq_true rfl) (by omega) (by omega) rfl (fun E S9 hx => hx.elim) (fun v S9 hq => ?_)
  obtain ⟨rfl, rfl⟩ := hq
  obtain ⟨hg8, H⟩ := gg_e H
  refine GV.if_ne (tgt := 36) hg8 dX12_take_11 (by decide) (fun c9 => ?_) (fun c9 => ?_)
  · have H := it_t H c9
    refine GA.iconst dX12_take_36 ?_
    cases H
    exact GA.iret rfl dX12_take_37 (by omega) (by omega) ⟨rfl, rfl⟩
  · have H := it_f H c9
    refine GA.aload_n dX12_take_14 rfl ?_
    refine GA.aload_n dX12_take_15 rfl ?_
    obtain ⟨x10, hx11, H⟩ := gv_e H
    refine GV.getI hx11 xf_X12_15 dX12_take_16 (gs_500 hL) (by decide) rfl ?_
    refine GA.bipush dX12_take_19 rfl ?_
    obtain ⟨hg12, H⟩ := gg_e H
    refine GV.icmp_ge (tgt := 28) hg12 (by decide) dX12_take_21 (by decide) (fun c13 => ?_) (fun c13 => ?_)
    · have H := it_t H c13
      refine GA.iconst dX12_take_28 ?_
      refine GA.locals [(0, .ref (L 500)), (1, .int (J a1)), (2, .int (J a2))] ⟨rfl, rfl, rfl, trivial⟩ ?_
      exact ih_X12_take_29 hL _ _ (a1) (a2) (0) _ _ H
    · have H := it_f H c13
      refine GA.iconst dX12_take_24 ?_
      refine GA.goto (tgt := 29) dX12_take_25 (by decide) ?_
      refine GA.locals [(0, .ref (L 500)), (1, .int (J a1)), (2, .int (J a2))] ⟨rfl, rfl, rfl, trivial⟩ ?_
      exact ih_X12_take_29 hL _ _ (a1) (a2) (1) _ _ H
set_option maxHeartbeats 4000000 in
set_option maxRecDepth 20000 in
theorem t_X12_take_29 {l : Launch} {Z : XZ} {L : Nat → Nat} (n : Nat) (ih_X12_take_0 : P_X12_take_0 l Z L n) (ih_X12_take_29 : P_X12_take_29 l Z L n) : P_X12_take_29 l Z L (n + 1) := by
  intro hL d S a1 a2 s0 x S1 H
  have H : b_X12_take_29 n d (f_X12_take n) S a1 a2 s0 = some (x, S1) := H
  unfold b_X12_take_29 at H
  refine GA.iconst dX12_take_29 ?_
  obtain ⟨hg1, H⟩ := gg_e H
  obtain ⟨x2, S_3, hc4, H⟩ := gc_e H
  refine GA.callV (m_X12_fails hL hc4) xs_X12_456 dX12_take_30 (gs_500 hL) (by decide) rfl rfl (by omega) (by decide) rfl (Nat.le_of_ble_eq_true rfl) (by omega) (by omega) rfl (fun E S9 hx => hx.elim) (fun v S9 hq => ?_)
  obtain ⟨rfl, rfl⟩ := hq
  obtain ⟨hg5, H⟩ := gg_e H
  refine GV.if_eq (tgt := 38) hg5 dX12_take_33 (by decide) (fun c6 => ?_) (fun c6 => ?_)
  · have H := it_t H c6
    refine GA.aload_n dX12_take_38 rfl ?_
    refine GA.iload_n dX12_take_39 rfl ?_
    refine GA.iload_n dX12_take_40 rfl ?_
    refine GA.bipush dX12_take_41 rfl ?_
    refine GA.iconst dX12_take_43 ?_
    obtain ⟨x7, S_8, hc9, H⟩ := gc_e H
    refine GA.callV (m_X12_choose hL hc9) xs_X12_529 dX12_take_44 (gs_500 hL) (by decide) rfl rfl (by omega) (by decide) rfl (Nat.le_of_ble_eq_true rfl) (by omega) (by omega) rfl (fun E S9 hx => hx.elim) (fun v S9 hq => ?_)
    obtain ⟨rfl, rfl⟩ := hq
    refine GA.aload_n dX12_take_47 rfl ?_
    refine GA.bipush dX12_take_48 rfl ?_
    obtain ⟨x10, S_11, hc12, H⟩ := gc_e H
    refine GA.callV (m_X12_link hL hc12) xs_X12_55 dX12_take_50 (gs_500 hL) (by decide) rfl rfl (by omega) (by decide) rfl (Nat.le_of_ble_eq_true rfl) (by omega) (by omega) rfl (fun E S9 hx => hx.elim) (fun v S9 hq => ?_)
    obtain ⟨rfl, rfl⟩ := hq
    refine GA.aload_n dX12_take_53 rfl ?_
    refine GA.bipush dX12_take_54 rfl ?_
    obtain ⟨x13, S_14, hc15, H⟩ := gc_e H
    refine GA.callV (m_X12_keeps hL hc15) xs_X12_536 dX12_take_56 (gs_500 hL) (by decide) rfl rfl (by omega) (by decide) rfl (Nat.le_of_ble_eq_true rfl) (by omega) (by omega) rfl (fun E S9 hx => hx.elim) (fun v S9 hq => ?_)
    obtain ⟨rfl, rfl⟩ := hq
    cases H
    exact GA.iret rfl dX12_take_59 (by omega) (by omega) ⟨rfl, rfl⟩
  · have H := it_f H c6
    refine GA.iconst dX12_take_36 ?_
    cases H
    exact GA.iret rfl dX12_take_37 (by omega) (by omega) ⟨rfl, rfl⟩
theorem g_X12_take {l : Launch} {Z : XZ} {L : Nat → Nat} : ∀ n, P_X12_take_0 l Z L n ∧ P_X12_take_29 l Z L n
  | 0 => ⟨fun _ _ _ _ _ _ _ H => no_e H, fun _ _ _ _ _ _ _ _ H => no_e H⟩
  | n + 1 => have ⟨h0, h1⟩ := g_X12_take (l := l) (Z := Z) (L := L) n
    ⟨t_X12_take_0 n h0 h1, t_X12_take_29 n h0 h1⟩
theorem m_X12_take {l : Launch} {Z : XZ} {L : Nat → Nat} (hL : L 700 = 1) {n d : Nat} {S : GS} {a1 : Int} {a2 : Int} {x : Int} {S1 : GS} (H : f_X12_take n d 0 S [a1, a2] = some (x, S1)) : GM l Z L yX12_take cX12_take 3 (some .int) [] d 0 0 [.ref (L 500), .int (J a1), .int (J a2)] S (fun v S' => v = some (.int (J x)) ∧ S1 = S') (fun _ _ => False) := GM.of (by decide) (Nat.le_of_ble_eq_true rfl) ((g_X12_take n).1 hL _ _ _ _ _ _ H)

def P_X12_tell_0 (l : Launch) (Z : XZ) (L : Nat → Nat) (n : Nat) : Prop := ∀ (hL : L 700 = 1), ∀ (d : Nat) (S : GS) (a1 : Int) (a2 : Int) (a3 : Int) (x : Int) (S1 : GS), f_X12_tell n d 0 S [a1, a2, a3] = some (x, S1) → GA l Z L yX12_tell cX12_tell 7 (some .int) [] d 0 0 (fun v S' => v = some (.int (J x)) ∧ S1 = S') (fun _ _ => False) 0 (gl [(0, .ref (L 500)), (1, .int (J a1)), (2, .int (J a2)), (3, .int (J a3))]) [] S 0 0
def P_X12_tell_63 (l : Launch) (Z : XZ) (L : Nat → Nat) (n : Nat) : Prop := ∀ (hL : L 700 = 1), ∀ (d : Nat) (S : GS) (a1 : Int) (a2 : Int) (a3 : Int) (a4 : Int) (s0 : Int) (x : Int) (S1 : GS), f_X12_tell n d 63 S [a1, a2, a3, a4, s0] = some (x, S1) → GA l Z L yX12_tell cX12_tell 7 (some .int) [] d 0 0 (fun v S' => v = some (.int (J x)) ∧ S1 = S') (fun _ _ => False) 63 (gl [(0, .ref (L 500)), (1, .int (J a1)), (2, .int (J a2)), (3, .int (J a3)), (4, .int (J a4))]) [.int (J s0)] S 0 0
def P_X12_tell_81 (l : Launch) (Z : XZ) (L : Nat → Nat) (n : Nat) : Prop := ∀ (hL : L 700 = 1), ∀ (d : Nat) (S : GS) (a1 : Int) (a2 : Int) (a3 : Int) (a4 : Int) (a5 : Int) (x : Int) (S1 : GS), f_X12_tell n d 81 S [a1, a2, a3, a4, a5] = some (x, S1) → GA l Z L yX12_tell cX12_tell 7 (some .int) [] d 0 0 (fun v S' => v = some (.int (J x)) ∧ S1 = S') (fun _ _ => False) 81 (gl [(0, .ref (L 500)), (1, .int (J a1)), (2, .int (J a2)), (3, .int (J a3)), (4, .int (J a4)), (5, .int (J a5))]) [.ref (L 500)] S 0 0
def P_X12_tell_92 (l : Launch) (Z : XZ) (L : Nat → Nat) (n : Nat) : Prop := ∀ (hL : L 700 = 1), ∀ (d : Nat) (S : GS) (a1 : Int) (a2 : Int) (a3 : Int) (a5 : Int) (x : Int) (S1 : GS), f_X12_tell n d 92 S [a1, a2, a3, a5] = some (x, S1) → GA l Z L yX12_tell cX12_tell 7 (some .int) [] d 0 0 (fun v S' => v = some (.int (J x)) ∧ S1 = S') (fun _ _ => False) 92 (gl [(0, .ref (L 500)), (1, .int (J a1)), (2, .int (J a2)), (3, .int (J a3)), (5, .int (J a5))]) [.ref (L 500)] S 0 0
def P_X12_tell_107 (l : Launch) (Z : XZ) (L : Nat → Nat) (n : Nat) : Prop := ∀ (hL : L 700 = 1), ∀ (d : Nat) (S : GS) (a1 : Int) (a2 : Int) (a3 : Int) (s0 : Int) (x : Int) (S1 : GS), f_X12_tell n d 107 S [a1, a2, a3, s0] = some (x, S1) → GA l Z L yX12_tell cX12_tell 7 (some .int) [] d 0 0 (fun v S' => v = some (.int (J x)) ∧ S1 = S') (fun _ _ => False) 107 (gl [(0, .ref (L 500)), (1, .int (J a1)), (2, .int (J a2)), (3, .int (J a3))]) [.int (J s0), .ref (L 500)] S 0 0
def P_X12_tell_145 (l : Launch) (Z : XZ) (L : Nat → Nat) (n : Nat) : Prop := ∀ (hL : L 700 = 1), ∀ (d : Nat) (S : GS) (a1 : Int) (a2 : Int) (a6 : Int) (x : Int) (S1 : GS), f_X12_tell n d 145 S [a1, a2, a6] = some (x, S1) → GA l Z L yX12_tell cX12_tell 7 (some .int) [] d 0 0 (fun v S' => v = some (.int (J x)) ∧ S1 = S') (fun _ _ => False) 145 (gl [(0, .ref (L 500)), (1, .int (J a1)), (2, .int (J a2)), (6, .int (J a6))]) [] S 0 0
def P_X12_tell_208 (l : Launch) (Z : XZ) (L : Nat → Nat) (n : Nat) : Prop := ∀ (hL : L 700 = 1), ∀ (d : Nat) (S : GS) (a1 : Int) (a2 : Int) (a6 : Int) (x : Int) (S1 : GS), f_X12_tell n d 208 S [a1, a2, a6] = some (x, S1) → GA l Z L yX12_tell cX12_tell 7 (some .int) [] d 0 0 (fun v S' => v = some (.int (J x)) ∧ S1 = S') (fun _ _ => False) 208 (gl [(0, .ref (L 500)), (1, .int (J a1)), (2, .int (J a2)), (6, .int (J a6))]) [] S 0 0
theorem i_X12_tell {l : Launch} {Z : XZ} {L : Nat → Nat} (hL : L 700 = 1) {n : Nat} (ih : P_X12_tell_0 l Z L n) {d : Nat} {S : GS} {a1 : Int} {a2 : Int} {a3 : Int} {x : Int} {S1 : GS} (H : f_X12_tell n d 0 S [a1, a2, a3] = some (x, S1)) : GM l Z L yX12_tell cX12_tell 7 (some .int) [] d 0 0 [.ref (L 500), .int (J a1), .int (J a2), .int (J a3)] S (fun v S' => v = some (.int (J x)) ∧ S1 = S') (fun _ _ => False) := GM.of (by decide) (Nat.le_of_ble_eq_true rfl) (ih hL _ _ _ _ _ _ _ H)
set_option maxHeartbeats 4000000 in
set_option maxRecDepth 20000 in
theorem t_X12_tell_0 {l : Launch} {Z : XZ} {L : Nat → Nat} (n : Nat) (ih_X12_tell_0 : P_X12_tell_0 l Z L n) (ih_X12_tell_63 : P_X12_tell_63 l Z L n) (ih_X12_tell_81 : P_X12_tell_81 l Z L n) (ih_X12_tell_92 : P_X12_tell_92 l Z L n) (ih_X12_tell_107 : P_X12_tell_107 l Z L n) (ih_X12_tell_145 : P_X12_tell_145 l Z L n) (ih_X12_tell_208 : P_X12_tell_208 l Z L n) : P_X12_tell_0 l Z L (n + 1) := by
  intro hL d S a1 a2 a3 x S1 H
  have H : b_X12_tell_0 n d (f_X12_tell n) S a1 a2 a3 = some (x, S1) := H
  unfold b_X12_tell_0 at H
  refine GA.aload_n dX12_tell_0 rfl ?_
  refine GA.aload_n dX12_tell_1 rfl ?_
  refine GA.iload_n dX12_tell_2 rfl ?_
  refine GA.iload_n dX12_tell_3 rfl ?_
  obtain ⟨hg1, H⟩ := gg_e H
  obtain ⟨x2, S_3, hc4, H⟩ := gc_e H
  refine GA.callV (m_X12_isNode hL hc4) xs_X12_580 dX12_tell_4 (gs_500 hL) (by decide) rfl rfl (by omega) (by decide) rfl (Nat.le_of_ble_eq_true rfl) (by omega) (by omega) rfl (fun E S9 hx => hx.elim) (fun v S9 hq => ?_)
  obtain ⟨rfl, rfl⟩ := hq
  refine GA.iconst dX12_tell_7 ?_
  obtain ⟨x5, S_6, hc7, H⟩ := gc_e H
  refine GA.callV (m_X12_fails hL hc7) xs_X12_456 dX12_tell_8 (gs_500 hL) (by decide) rfl rfl (by omega) (by decide) rfl (Nat.le_of_ble_eq_true rfl) (by omega) (by omega) rfl (fun E S9 hx => hx.elim) (fun v S9 hq => ?_)
  obtain ⟨rfl, rfl⟩ := hq
  obtain ⟨hg8, H⟩ := gg_e H
  refine GV.if_ne (tgt := 28) hg8 dX12_tell_11 (by decide) (fun c9 => ?_) (fun c9 => ?_)
  · have H := it_t H c9
    refine GA.iconst dX12_tell_28 ?_
    cases H
    exact GA.iret rfl dX12_tell_29 (by omega) (by omega) ⟨rfl, rfl⟩
  · have H := it_f H c9
    refine GA.aload_n dX12_tell_14 rfl ?_
    refine GA.iload_n dX12_tell_15 rfl ?_
    refine GA.iconst dX12_tell_16 ?_
    refine GA.iconst dX12_tell_17 ?_
    obtain ⟨x10, S_11, hc12, H⟩ := gc_e H
    refine GA.callS (m_X12_in hL hc12) xs_X12_18 dX12_tell_18 rfl (by omega) (by decide) rfl (Nat.le_of_ble_eq_true rfl) (by omega) (by omega) rfl (fun E S9 hx => hx.elim) (fun v S9 hq => ?_)
    obtain ⟨rfl, rfl⟩ := hq
    refine GA.iconst dX12_tell_21 ?_
    obtain ⟨x13, S_14, hc15, H⟩ := gc_e H
    refine GA.callV (m_X12_fails hL hc15) xs_X12_456 dX12_tell_22 (gs_500 hL) (by decide) rfl rfl (by omega) (by decide) rfl (Nat.le_of_ble_eq_true rfl) (by omega) (by omega) rfl (fun E S9 hx => hx.elim) (fun v S9 hq => ?_)
    obtain ⟨rfl, rfl⟩ := hq
    obtain ⟨hg16, H⟩ := gg_e H
    refine GV.if_eq (tgt := 30) hg16 dX12_tell_25 (by decide) (fun c17 => ?_) (fun c17 => ?_)
    · have H := it_t H c17
      refine GA.aload_n dX12_tell_30 rfl ?_
      refine GA.iload_n dX12_tell_31 rfl ?_
      refine GA.iload_n dX12_tell_32 rfl ?_
      obtain ⟨x18, S_19, hc20, H⟩ := gc_e H
      refine GA.callV (m_X12_kind hL hc20) xs_X12_52 dX12_tell_33 (gs_500 hL) (by decide) rfl rfl (by omega) (by decide) rfl (Nat.le_of_ble_eq_true rfl) (by omega) (by omega) rfl (fun E S9 hx => hx.elim) (fun v S9 hq => ?_)
      obtain ⟨rfl, rfl⟩ := hq
      refine GA.istore dX12_tell_36 (by decide) ?_
      refine GA.iload_n dX12_tell_38 rfl ?_
      obtain ⟨hg21, H⟩ := gg_e H
      refine GV.if_le (tgt := 62) hg21 dX12_tell_39 (by decide) (fun c22 => ?_) (fun c22 => ?_)
      · have H := it_t H c22
        refine GA.iconst dX12_tell_62 ?_
        refine GA.locals [(0, .ref (L 500)), (1, .int (J a1)), (2, .int (J a2)), (3, .int (J a3)), (4, .int (J x18))] ⟨rfl, rfl, rfl, rfl, rfl, trivial⟩ ?_
        exact ih_X12_tell_63 hL _ _ (a1) (a2) (a3) (x18) (0) _ _ H
      · have H := it_f H c22
        refine GA.aload_n dX12_tell_42 rfl ?_
        refine GA.iload_n dX12_tell_43 rfl ?_
        refine GA.aload_n dX12_tell_44 rfl ?_
        refine GA.iload_n dX12_tell_45 rfl ?_
        refine GA.iload_n dX12_tell_46 rfl ?_
        refine GA.iconst dX12_tell_47 ?_
        obtain ⟨x23, S_24, hc25, H⟩ := gc_e H
        refine GA.callV (m_X12_part hL hc25) xs_X12_36 dX12_tell_48 (gs_500 hL) (by decide) rfl rfl (by omega) (by decide) rfl (Nat.le_of_ble_eq_true rfl) (by omega) (by omega) rfl (fun E S9 hx => hx.elim) (fun v S9 hq => ?_)
        obtain ⟨rfl, rfl⟩ := hq
        obtain ⟨x26, S_27, hc28, H⟩ := gc_e H
        refine GA.callV (m_X12_kind hL hc28) xs_X12_52 dX12_tell_51 (gs_500 hL) (by decide) rfl rfl (by omega) (by decide) rfl (Nat.le_of_ble_eq_true rfl) (by omega) (by omega) rfl (fun E S9 hx => hx.elim) (fun v S9 hq => ?_)
        obtain ⟨rfl, rfl⟩ := hq
        refine GA.iconst dX12_tell_54 ?_
        obtain ⟨hg29, H⟩ := gg_e H
        refine GV.icmp_ne (tgt := 62) hg29 (by decide) dX12_tell_55 (by decide) (fun c30 => ?_) (fun c30 => ?_)
        · have H := it_t H c30
          refine GA.iconst dX12_tell_62 ?_
          refine GA.locals [(0, .ref (L 500)), (1, .int (J a1)), (2, .int (J a2)), (3, .int (J a3)), (4, .int (J x18))] ⟨rfl, rfl, rfl, rfl, rfl, trivial⟩ ?_
          exact ih_X12_tell_63 hL _ _ (a1) (a2) (a3) (x18) (0) _ _ H
        · have H := it_f H c30
          refine GA.iconst dX12_tell_58 ?_
          refine GA.goto (tgt := 63) dX12_tell_59 (by decide) ?_
          refine GA.locals [(0, .ref (L 500)), (1, .int (J a1)), (2, .int (J a2)), (3, .int (J a3)), (4, .int (J x18))] ⟨rfl, rfl, rfl, rfl, rfl, trivial⟩ ?_
          exact ih_X12_tell_63 hL _ _ (a1) (a2) (a3) (x18) (1) _ _ H
    · have H := it_f H c17
      refine GA.iconst dX12_tell_28 ?_
      cases H
      exact GA.iret rfl dX12_tell_29 (by omega) (by omega) ⟨rfl, rfl⟩
set_option maxHeartbeats 4000000 in
set_option maxRecDepth 20000 in
theorem t_X12_tell_63 {l : Launch} {Z : XZ} {L : Nat → Nat} (n : Nat) (ih_X12_tell_0 : P_X12_tell_0 l Z L n) (ih_X12_tell_63 : P_X12_tell_63 l Z L n) (ih_X12_tell_81 : P_X12_tell_81 l Z L n) (ih_X12_tell_92 : P_X12_tell_92 l Z L n) (ih_X12_tell_107 : P_X12_tell_107 l Z L n) (ih_X12_tell_145 : P_X12_tell_145 l Z L n) (ih_X12_tell_208 : P_X12_tell_208 l Z L n) : P_X12_tell_63 l Z L (n + 1) := by
  intro hL d S a1 a2 a3 a4 s0 x S1 H
  have H : b_X12_tell_63 n d (f_X12_tell n) S a1 a2 a3 a4 s0 = some (x, S1) := H
  unfold b_X12_tell_63 at H
  refine GA.istore dX12_tell_63 (by decide) ?_
  refine GA.aload_n dX12_tell_65 rfl ?_
  refine GA.iload_n dX12_tell_66 rfl ?_
  refine GA.iconst dX12_tell_67 ?_
  obtain ⟨hg1, H⟩ := gg_e H
  refine GV.icmp_eq (tgt := 102) hg1 (by decide) dX12_tell_68 (by decide) (fun c2 => ?_) (fun c2 => ?_)
  · have H := it_t H c2
    refine GA.iconst dX12_tell_102 ?_
    refine GA.goto (tgt := 107) dX12_tell_103 (by decide) ?_
    refine GA.locals [(0, .ref (L 500)), (1, .int (J a1)), (2, .int (J a2)), (3, .int (J a3))] ⟨rfl, rfl, rfl, rfl, trivial⟩ ?_
    exact ih_X12_tell_107 hL _ _ (a1) (a2) (a3) (1) _ _ H
  · have H := it_f H c2
    refine GA.iload_n dX12_tell_71 rfl ?_
    refine GV.if_ne (tgt := 81) hg1 dX12_tell_72 (by decide) (fun c3 => ?_) (fun c3 => ?_)
    · have H := it_t H c3
      refine GA.locals [(0, .ref (L 500)), (1, .int (J a1)), (2, .int (J a2)), (3, .int (J a3)), (4, .int (J a4)), (5, .int (J s0))] ⟨rfl, rfl, rfl, rfl, rfl, rfl, trivial⟩ ?_
      exact ih_X12_tell_81 hL _ _ (a1) (a2) (a3) (a4) (s0) _ _ H
    · have H := it_f H c3
      refine GA.iload dX12_tell_75 rfl ?_
      refine GA.iconst dX12_tell_77 ?_
      obtain ⟨hg4, H⟩ := gg_e H
      refine GV.icmp_eq (tgt := 102) hg4 (by decide) dX12_tell_78 (by decide) (fun c5 => ?_) (fun c5 => ?_)
      · have H := it_t H c5
        refine GA.iconst dX12_tell_102 ?_
        refine GA.goto (tgt := 107) dX12_tell_103 (by decide) ?_
        refine GA.locals [(0, .ref (L 500)), (1, .int (J a1)), (2, .int (J a2)), (3, .int (J a3))] ⟨rfl, rfl, rfl, rfl, trivial⟩ ?_
        exact ih_X12_tell_107 hL _ _ (a1) (a2) (a3) (1) _ _ H
      · have H := it_f H c5
        refine GA.locals [(0, .ref (L 500)), (1, .int (J a1)), (2, .int (J a2)), (3, .int (J a3)), (4, .int (J a4)), (5, .int (J s0))] ⟨rfl, rfl, rfl, rfl, rfl, rfl, trivial⟩ ?_
        exact ih_X12_tell_81 hL _ _ (a1) (a2) (a3) (a4) (s0) _ _ H
set_option maxHeartbeats 4000000 in
set_option maxRecDepth 20000 in
theorem t_X12_tell_81 {l : Launch} {Z : XZ} {L : Nat → Nat} (n : Nat) (ih_X12_tell_0 : P_X12_tell_0 l Z L n) (ih_X12_tell_63 : P_X12_tell_63 l Z L n) (ih_X12_tell_81 : P_X12_tell_81 l Z L n) (ih_X12_tell_92 : P_X12_tell_92 l Z L n) (ih_X12_tell_107 : P_X12_tell_107 l Z L n) (ih_X12_tell_145 : P_X12_tell_145 l Z L n) (ih_X12_tell_208 : P_X12_tell_208 l Z L n) : P_X12_tell_81 l Z L (n + 1) := by
  intro hL d S a1 a2 a3 a4 a5 x S1 H
  have H : b_X12_tell_81 n d (f_X12_tell n) S a1 a2 a3 a4 a5 = some (x, S1) := H
  unfold b_X12_tell_81 at H
  refine GA.iload_n dX12_tell_81 rfl ?_
  refine GA.iconst dX12_tell_82 ?_
  obtain ⟨hg1, H⟩ := gg_e H
  refine GV.icmp_ne (tgt := 92) hg1 (by decide) dX12_tell_83 (by decide) (fun c2 => ?_) (fun c2 => ?_)
  · have H := it_t H c2
    refine GA.locals [(0, .ref (L 500)), (1, .int (J a1)), (2, .int (J a2)), (3, .int (J a3)), (5, .int (J a5))] ⟨rfl, rfl, rfl, rfl, rfl, trivial⟩ ?_
    exact ih_X12_tell_92 hL _ _ (a1) (a2) (a3) (a5) _ _ H
  · have H := it_f H c2
    refine GA.iload dX12_tell_86 rfl ?_
    refine GA.iconst dX12_tell_88 ?_
    obtain ⟨hg3, H⟩ := gg_e H
    refine GV.icmp_eq (tgt := 102) hg3 (by decide) dX12_tell_89 (by decide) (fun c4 => ?_) (fun c4 => ?_)
    · have H := it_t H c4
      refine GA.iconst dX12_tell_102 ?_
      refine GA.goto (tgt := 107) dX12_tell_103 (by decide) ?_
      refine GA.locals [(0, .ref (L 500)), (1, .int (J a1)), (2, .int (J a2)), (3, .int (J a3))] ⟨rfl, rfl, rfl, rfl, trivial⟩ ?_
      exact ih_X12_tell_107 hL _ _ (a1) (a2) (a3) (1) _ _ H
    · have H := it_f H c4
      refine GA.locals [(0, .ref (L 500)), (1, .int (J a1)), (2, .int (J a2)), (3, .int (J a3)), (5, .int (J a5))] ⟨rfl, rfl, rfl, rfl, rfl, trivial⟩ ?_
      exact ih_X12_tell_92 hL _ _ (a1) (a2) (a3) (a5) _ _ H
set_option maxHeartbeats 4000000 in
set_option maxRecDepth 20000 in
theorem t_X12_tell_92 {l : Launch} {Z : XZ} {L : Nat → Nat} (n : Nat) (ih_X12_tell_0 : P_X12_tell_0 l Z L n) (ih_X12_tell_63 : P_X12_tell_63 l Z L n) (ih_X12_tell_81 : P_X12_tell_81 l Z L n) (ih_X12_tell_92 : P_X12_tell_92 l Z L n) (ih_X12_tell_107 : P_X12_tell_107 l Z L n) (ih_X12_tell_145 : P_X12_tell_145 l Z L n) (ih_X12_tell_208 : P_X12_tell_208 l Z L n) : P_X12_tell_92 l Z L (n + 1) := by
  intro hL d S a1 a2 a3 a5 x S1 H
  have H : b_X12_tell_92 n d (f_X12_tell n) S a1 a2 a3 a5 = some (x, S1) := H
  unfold b_X12_tell_92 at H
  refine GA.iload_n dX12_tell_92 rfl ?_
  refine GA.iconst dX12_tell_93 ?_
  obtain ⟨hg1, H⟩ := gg_e H
  refine GV.icmp_ne (tgt := 106) hg1 (by decide) dX12_tell_94 (by decide) (fun c2 => ?_) (fun c2 => ?_)
  · have H := it_t H c2
    refine GA.iconst dX12_tell_106 ?_
    refine GA.locals [(0, .ref (L 500)), (1, .int (J a1)), (2, .int (J a2)), (3, .int (J a3))] ⟨rfl, rfl, rfl, rfl, trivial⟩ ?_
    exact ih_X12_tell_107 hL _ _ (a1) (a2) (a3) (0) _ _ H
  · have H := it_f H c2
    refine GA.iload dX12_tell_97 rfl ?_
    obtain ⟨hg3, H⟩ := gg_e H
    refine GV.if_eq (tgt := 106) hg3 dX12_tell_99 (by decide) (fun c4 => ?_) (fun c4 => ?_)
    · have H := it_t H c4
      refine GA.iconst dX12_tell_106 ?_
      refine GA.locals [(0, .ref (L 500)), (1, .int (J a1)), (2, .int (J a2)), (3, .int (J a3))] ⟨rfl, rfl, rfl, rfl, trivial⟩ ?_
      exact ih_X12_tell_107 hL _ _ (a1) (a2) (a3) (0) _ _ H
    · have H := it_f H c4
      refine GA.iconst dX12_tell_102 ?_
      refine GA.goto (tgt := 107) dX12_tell_103 (by decide) ?_
      refine GA.locals [(0, .ref (L 500)), (1, .int (J a1)), (2, .int (J a2)), (3, .int (J a3))] ⟨rfl, rfl, rfl, rfl, trivial⟩ ?_
      exact ih_X12_tell_107 hL _ _ (a1) (a2) (a3) (1) _ _ H
set_option maxHeartbeats 4000000 in
set_option maxRecDepth 20000 in
theorem t_X12_tell_107 {l : Launch} {Z : XZ} {L : Nat → Nat} (n : Nat) (ih_X12_tell_0 : P_X12_tell_0 l Z L n) (ih_X12_tell_63 : P_X12_tell_63 l Z L n) (ih_X12_tell_81 : P_X12_tell_81 l Z L n) (ih_X12_tell_92 : P_X12_tell_92 l Z L n) (ih_X12_tell_107 : P_X12_tell_107 l Z L n) (ih_X12_tell_145 : P_X12_tell_145 l Z L n) (ih_X12_tell_208 : P_X12_tell_208 l Z L n) : P_X12_tell_107 l Z L (n + 1) := by
  intro hL d S a1 a2 a3 s0 x S1 H
  have H : b_X12_tell_107 n d (f_X12_tell n) S a1 a2 a3 s0 = some (x, S1) := H
  unfold b_X12_tell_107 at H
  refine GA.iconst dX12_tell_107 ?_
  obtain ⟨hg1, H⟩ := gg_e H
  obtain ⟨x2, S_3, hc4, H⟩ := gc_e H
  refine GA.callV (m_X12_fails hL hc4) xs_X12_456 dX12_tell_108 (gs_500 hL) (by decide) rfl rfl (by omega) (by decide) rfl (Nat.le_of_ble_eq_true rfl) (by omega) (by omega) rfl (fun E S9 hx => hx.elim) (fun v S9 hq => ?_)
  obtain ⟨rfl, rfl⟩ := hq
  obtain ⟨hg5, H⟩ := gg_e H
  refine GV.if_eq (tgt := 116) hg5 dX12_tell_111 (by decide) (fun c6 => ?_) (fun c6 => ?_)
  · have H := it_t H c6
    refine GA.aload_n dX12_tell_116 rfl ?_
    refine GA.get xf_X12_272 dX12_tell_117 (gs_500 hL) (by decide) rfl ?_
    refine GA.iconst dX12_tell_120 ?_
    refine GA.iconst dX12_tell_121 ?_
    obtain ⟨hg7, H⟩ := gg_e H
    obtain ⟨S_8, hx9, H⟩ := gv_e H
    refine GV.iast hg7 hx9 dX12_tell_122 (fun _ => (gs_517 hL)) (by decide) ?_
    refine GA.iload_n dX12_tell_123 rfl ?_
    refine GA.iconst dX12_tell_124 ?_
    obtain ⟨hg10, H⟩ := gg_e H
    refine GV.icmp_ne (tgt := 137) hg10 (by decide) dX12_tell_125 (by decide) (fun c11 => ?_) (fun c11 => ?_)
    · have H := it_t H c11
      refine GA.iload_n dX12_tell_137 rfl ?_
      refine GA.iconst dX12_tell_138 ?_
      refine GV.icmp_ne (tgt := 182) hg10 (by decide) dX12_tell_139 (by decide) (fun c12 => ?_) (fun c12 => ?_)
      · have H := it_t H c12
        refine GA.iload_n dX12_tell_182 rfl ?_
        refine GA.iconst dX12_tell_183 ?_
        refine GV.icmp_ne (tgt := 205) hg10 (by decide) dX12_tell_184 (by decide) (fun c13 => ?_) (fun c13 => ?_)
        · have H := it_t H c13
          refine GA.iconst dX12_tell_205 ?_
          refine GA.istore dX12_tell_206 (by decide) ?_
          refine GA.locals [(0, .ref (L 500)), (1, .int (J a1)), (2, .int (J a2)), (6, .int (J 0))] ⟨rfl, rfl, rfl, rfl, trivial⟩ ?_
          exact ih_X12_tell_208 hL _ _ (a1) (a2) (0) _ _ H
        · have H := it_f H c13
          refine GA.aload_n dX12_tell_187 rfl ?_
          refine GA.iload_n dX12_tell_188 rfl ?_
          refine GA.iload_n dX12_tell_189 rfl ?_
          refine GA.bipush dX12_tell_190 rfl ?_
          obtain ⟨x14, S_15, hc16, H⟩ := gc_e H
          refine GA.callV (m_X12_part hL hc16) xs_X12_36 dX12_tell_192 (gs_500 hL) (by decide) rfl rfl (by omega) (by decide) rfl (Nat.le_of_ble_eq_true rfl) (by omega) (by omega) rfl (fun E S9 hx => hx.elim) (fun v S9 hq => ?_)
          obtain ⟨rfl, rfl⟩ := hq
          obtain ⟨hg17, H⟩ := gg_e H
          refine GV.if_ge (tgt := 205) hg17 dX12_tell_195 (by decide) (fun c18 => ?_) (fun c18 => ?_)
          · have H := it_t H c18
            refine GA.iconst dX12_tell_205 ?_
            refine GA.istore dX12_tell_206 (by decide) ?_
            refine GA.locals [(0, .ref (L 500)), (1, .int (J a1)), (2, .int (J a2)), (6, .int (J 0))] ⟨rfl, rfl, rfl, rfl, trivial⟩ ?_
            exact ih_X12_tell_208 hL _ _ (a1) (a2) (0) _ _ H
          · have H := it_f H c18
            refine GA.aload_n dX12_tell_198 rfl ?_
            refine GA.iconst dX12_tell_199 ?_
            refine GA.bipush dX12_tell_200 rfl ?_
            obtain ⟨x19, S_20, hc21, H⟩ := gc_e H
            refine GA.callV (m_X12_puts hL hc21) xs_X12_551 dX12_tell_202 (gs_500 hL) (by decide) rfl rfl (by omega) (by decide) rfl (Nat.le_of_ble_eq_true rfl) (by omega) (by omega) rfl (fun E S9 hx => hx.elim) (fun v S9 hq => ?_)
            obtain ⟨rfl, rfl⟩ := hq
            refine GA.iconst dX12_tell_205 ?_
            refine GA.istore dX12_tell_206 (by decide) ?_
            refine GA.locals [(0, .ref (L 500)), (1, .int (J a1)), (2, .int (J a2)), (6, .int (J 0))] ⟨rfl, rfl, rfl, rfl, trivial⟩ ?_
            exact ih_X12_tell_208 hL _ _ (a1) (a2) (0) _ _ H
      · have H := it_f H c12
        refine GA.iconst dX12_tell_142 ?_
        refine GA.istore dX12_tell_143 (by decide) ?_
        refine GA.locals [(0, .ref (L 500)), (1, .int (J a1)), (2, .int (J a2)), (6, .int (J 0))] ⟨rfl, rfl, rfl, rfl, trivial⟩ ?_
        exact ih_X12_tell_145 hL _ _ (a1) (a2) (0) _ _ H
    · have H := it_f H c11
      refine GA.aload_n dX12_tell_128 rfl ?_
      refine GA.iload_n dX12_tell_129 rfl ?_
      refine GA.iload_n dX12_tell_130 rfl ?_
      obtain ⟨x22, S_23, hc24, H⟩ := gc_e H
      refine GA.callV (m_X12_putsPath hL hc24) xs_X12_587 dX12_tell_131 (gs_500 hL) (by decide) rfl rfl (by omega) (by decide) rfl (Nat.le_of_ble_eq_true rfl) (by omega) (by omega) rfl (fun E S9 hx => hx.elim) (fun v S9 hq => ?_)
      obtain ⟨rfl, rfl⟩ := hq
      refine GA.goto (tgt := 243) dX12_tell_134 (by decide) ?_
      refine GA.aload_n dX12_tell_243 rfl ?_
      obtain ⟨x25, S_26, hc27, H⟩ := gc_e H
      refine GA.callV (m_X12_onPaper hL hc27) xs_X12_577 dX12_tell_244 (gs_500 hL) (by decide) rfl rfl (by omega) (by decide) rfl (Nat.le_of_ble_eq_true rfl) (by omega) (by omega) rfl (fun E S9 hx => hx.elim) (fun v S9 hq => ?_)
      obtain ⟨rfl, rfl⟩ := hq
      cases H
      exact GA.iret rfl dX12_tell_247 (by omega) (by omega) ⟨rfl, rfl⟩
  · have H := it_f H c6
    refine GA.iconst dX12_tell_114 ?_
    cases H
    exact GA.iret rfl dX12_tell_115 (by omega) (by omega) ⟨rfl, rfl⟩
set_option maxHeartbeats 4000000 in
set_option maxRecDepth 20000 in
theorem t_X12_tell_145 {l : Launch} {Z : XZ} {L : Nat → Nat} (n : Nat) (ih_X12_tell_0 : P_X12_tell_0 l Z L n) (ih_X12_tell_63 : P_X12_tell_63 l Z L n) (ih_X12_tell_81 : P_X12_tell_81 l Z L n) (ih_X12_tell_92 : P_X12_tell_92 l Z L n) (ih_X12_tell_107 : P_X12_tell_107 l Z L n) (ih_X12_tell_145 : P_X12_tell_145 l Z L n) (ih_X12_tell_208 : P_X12_tell_208 l Z L n) : P_X12_tell_145 l Z L (n + 1) := by
  intro hL d S a1 a2 a6 x S1 H
  have H : b_X12_tell_145 n d (f_X12_tell n) S a1 a2 a6 = some (x, S1) := H
  unfold b_X12_tell_145 at H
  refine GA.iload dX12_tell_145 rfl ?_
  refine GA.aload_n dX12_tell_147 rfl ?_
  refine GA.iload_n dX12_tell_148 rfl ?_
  refine GA.iload_n dX12_tell_149 rfl ?_
  refine GA.iconst dX12_tell_150 ?_
  obtain ⟨hg1, H⟩ := gg_e H
  obtain ⟨x2, S_3, hc4, H⟩ := gc_e H
  refine GA.callV (m_X12_part hL hc4) xs_X12_36 dX12_tell_151 (gs_500 hL) (by decide) rfl rfl (by omega) (by decide) rfl (Nat.le_of_ble_eq_true rfl) (by omega) (by omega) rfl (fun E S9 hx => hx.elim) (fun v S9 hq => ?_)
  obtain ⟨rfl, rfl⟩ := hq
  obtain ⟨hg5, H⟩ := gg_e H
  obtain ⟨hg6, H⟩ := gg_e H
  refine GV.icmp_ge (tgt := 179) hg5 hg6 dX12_tell_154 (by decide) (fun c7 => ?_) (fun c7 => ?_)
  · have H := it_t H c7
    refine GA.goto (tgt := 243) dX12_tell_179 (by decide) ?_
    refine GA.aload_n dX12_tell_243 rfl ?_
    obtain ⟨x8, S_9, hc10, H⟩ := gc_e H
    refine GA.callV (m_X12_onPaper hL hc10) xs_X12_577 dX12_tell_244 (gs_500 hL) (by decide) rfl rfl (by omega) (by decide) rfl (Nat.le_of_ble_eq_true rfl) (by omega) (by omega) rfl (fun E S9 hx => hx.elim) (fun v S9 hq => ?_)
    obtain ⟨rfl, rfl⟩ := hq
    cases H
    exact GA.iret rfl dX12_tell_247 (by omega) (by omega) ⟨rfl, rfl⟩
  · have H := it_f H c7
    refine GA.aload_n dX12_tell_157 rfl ?_
    refine GA.iconst dX12_tell_158 ?_
    refine GA.aload_n dX12_tell_159 rfl ?_
    refine GA.iload_n dX12_tell_160 rfl ?_
    refine GA.iload_n dX12_tell_161 rfl ?_
    refine GA.bipush dX12_tell_162 rfl ?_
    refine GA.iload dX12_tell_164 rfl ?_
    obtain ⟨x11, hx12, H⟩ := gv_e H
    refine GV.iadd hx12 dX12_tell_166 ?_
    obtain ⟨x13, S_14, hc15, H⟩ := gc_e H
    refine GA.callV (m_X12_part hL hc15) xs_X12_36 dX12_tell_167 (gs_500 hL) (by decide) rfl rfl (by omega) (by decide) rfl (Nat.le_of_ble_eq_true rfl) (by omega) (by omega) rfl (fun E S9 hx => hx.elim) (fun v S9 hq => ?_)
    obtain ⟨rfl, rfl⟩ := hq
    obtain ⟨x16, S_17, hc18, H⟩ := gc_e H
    refine GA.callV (m_X12_puts hL hc18) xs_X12_551 dX12_tell_170 (gs_500 hL) (by decide) rfl rfl (by omega) (by decide) rfl (Nat.le_of_ble_eq_true rfl) (by omega) (by omega) rfl (fun E S9 hx => hx.elim) (fun v S9 hq => ?_)
    obtain ⟨rfl, rfl⟩ := hq
    obtain ⟨x19, hx20, H⟩ := gv_e H
    refine GV.iinc hx20 dX12_tell_173 rfl (by decide) ?_
    refine GA.goto (tgt := 145) dX12_tell_176 (by decide) ?_
    refine GA.locals [(0, .ref (L 500)), (1, .int (J a1)), (2, .int (J a2)), (6, .int (J x19))] ⟨rfl, rfl, rfl, rfl, trivial⟩ ?_
    exact ih_X12_tell_145 hL _ _ (a1) (a2) (x19) _ _ H
set_option maxHeartbeats 4000000 in
set_option maxRecDepth 20000 in
theorem t_X12_tell_208 {l : Launch} {Z : XZ} {L : Nat → Nat} (n : Nat) (ih_X12_tell_0 : P_X12_tell_0 l Z L n) (ih_X12_tell_63 : P_X12_tell_63 l Z L n) (ih_X12_tell_81 : P_X12_tell_81 l Z L n) (ih_X12_tell_92 : P_X12_tell_92 l Z L n) (ih_X12_tell_107 : P_X12_tell_107 l Z L n) (ih_X12_tell_145 : P_X12_tell_145 l Z L n) (ih_X12_tell_208 : P_X12_tell_208 l Z L n) : P_X12_tell_208 l Z L (n + 1) := by
  intro hL d S a1 a2 a6 x S1 H
  have H : b_X12_tell_208 n d (f_X12_tell n) S a1 a2 a6 = some (x, S1) := H
  unfold b_X12_tell_208 at H
  refine GA.iload dX12_tell_208 rfl ?_
  refine GA.aload_n dX12_tell_210 rfl ?_
  refine GA.iload_n dX12_tell_211 rfl ?_
  refine GA.iload_n dX12_tell_212 rfl ?_
  refine GA.bipush dX12_tell_213 rfl ?_
  obtain ⟨hg1, H⟩ := gg_e H
  obtain ⟨x2, S_3, hc4, H⟩ := gc_e H
  refine GA.callV (m_X12_part hL hc4) xs_X12_36 dX12_tell_215 (gs_500 hL) (by decide) rfl rfl (by omega) (by decide) rfl (Nat.le_of_ble_eq_true rfl) (by omega) (by omega) rfl (fun E S9 hx => hx.elim) (fun v S9 hq => ?_)
  obtain ⟨rfl, rfl⟩ := hq
  obtain ⟨hg5, H⟩ := gg_e H
  obtain ⟨hg6, H⟩ := gg_e H
  refine GV.icmp_ge (tgt := 243) hg5 hg6 dX12_tell_218 (by decide) (fun c7 => ?_) (fun c7 => ?_)
  · have H := it_t H c7
    refine GA.aload_n dX12_tell_243 rfl ?_
    obtain ⟨x8, S_9, hc10, H⟩ := gc_e H
    refine GA.callV (m_X12_onPaper hL hc10) xs_X12_577 dX12_tell_244 (gs_500 hL) (by decide) rfl rfl (by omega) (by decide) rfl (Nat.le_of_ble_eq_true rfl) (by omega) (by omega) rfl (fun E S9 hx => hx.elim) (fun v S9 hq => ?_)
    obtain ⟨rfl, rfl⟩ := hq
    cases H
    exact GA.iret rfl dX12_tell_247 (by omega) (by omega) ⟨rfl, rfl⟩
  · have H := it_f H c7
    refine GA.aload_n dX12_tell_221 rfl ?_
    refine GA.iconst dX12_tell_222 ?_
    refine GA.aload_n dX12_tell_223 rfl ?_
    refine GA.iload_n dX12_tell_224 rfl ?_
    refine GA.iload_n dX12_tell_225 rfl ?_
    refine GA.bipush dX12_tell_226 rfl ?_
    refine GA.iload dX12_tell_228 rfl ?_
    obtain ⟨x11, hx12, H⟩ := gv_e H
    refine GV.iadd hx12 dX12_tell_230 ?_
    obtain ⟨x13, S_14, hc15, H⟩ := gc_e H
    refine GA.callV (m_X12_part hL hc15) xs_X12_36 dX12_tell_231 (gs_500 hL) (by decide) rfl rfl (by omega) (by decide) rfl (Nat.le_of_ble_eq_true rfl) (by omega) (by omega) rfl (fun E S9 hx => hx.elim) (fun v S9 hq => ?_)
    obtain ⟨rfl, rfl⟩ := hq
    obtain ⟨x16, S_17, hc18, H⟩ := gc_e H
    refine GA.callV (m_X12_puts hL hc18) xs_X12_551 dX12_tell_234 (gs_500 hL) (by decide) rfl rfl (by omega) (by decide) rfl (Nat.le_of_ble_eq_true rfl) (by omega) (by omega) rfl (fun E S9 hx => hx.elim) (fun v S9 hq => ?_)
    obtain ⟨rfl, rfl⟩ := hq
    obtain ⟨x19, hx20, H⟩ := gv_e H
    refine GV.iinc hx20 dX12_tell_237 rfl (by decide) ?_
    refine GA.goto (tgt := 208) dX12_tell_240 (by decide) ?_
    refine GA.locals [(0, .ref (L 500)), (1, .int (J a1)), (2, .int (J a2)), (6, .int (J x19))] ⟨rfl, rfl, rfl, rfl, trivial⟩ ?_
    exact ih_X12_tell_208 hL _ _ (a1) (a2) (x19) _ _ H
theorem g_X12_tell {l : Launch} {Z : XZ} {L : Nat → Nat} : ∀ n, P_X12_tell_0 l Z L n ∧ P_X12_tell_63 l Z L n ∧ P_X12_tell_81 l Z L n ∧ P_X12_tell_92 l Z L n ∧ P_X12_tell_107 l Z L n ∧ P_X12_tell_145 l Z L n ∧ P_X12_tell_208 l Z L n
  | 0 => ⟨fun _ _ _ _ _ _ _ _ H => no_e H, fun _ _ _ _ _ _ _ _ _ _ H => no_e H, fun _ _ _ _ _ _ _ _ _ _ H => no_e H, fun _ _ _ _ _ _ _ _ _ H => no_e H, fun _ _ _ _ _ _ _ _ _ H => no_e H, fun _ _ _ _ _ _ _ _ H => no_e H, fun _ _ _ _ _ _ _ _ H => no_e H⟩
  | n + 1 => have ⟨h0, h1, h2, h3, h4, h5, h6⟩ := g_X12_tell (l := l) (Z := Z) (L := L) n
    ⟨t_X12_tell_0 n h0 h1 h2 h3 h4 h5 h6, t_X12_tell_63 n h0 h1 h2 h3 h4 h5 h6, t_X12_tell_81 n h0 h1 h2 h3 h4 h5 h6, t_X12_tell_92 n h0 h1 h2 h3 h4 h5 h6, t_X12_tell_107 n h0 h1 h2 h3 h4 h5 h6, t_X12_tell_145 n h0 h1 h2 h3 h4 h5 h6, t_X12_tell_208 n h0 h1 h2 h3 h4 h5 h6⟩
theorem m_X12_tell {l : Launch} {Z : XZ} {L : Nat → Nat} (hL : L 700 = 1) {n d : Nat} {S : GS} {a1 : Int} {a2 : Int} {a3 : Int} {x : Int} {S1 : GS} (H : f_X12_tell n d 0 S [a1, a2, a3] = some (x, S1)) : GM l Z L yX12_tell cX12_tell 7 (some .int) [] d 0 0 [.ref (L 500), .int (J a1), .int (J a2), .int (J a3)] S (fun v S' => v = some (.int (J x)) ∧ S1 = S') (fun _ _ => False) := GM.of (by decide) (Nat.le_of_ble_eq_true rfl) ((g_X12_tell n).1 hL _ _ _ _ _ _ _ H)

def P_X12_thrown_0 (l : Launch) (Z : XZ) (L : Nat → Nat) (n : Nat) : Prop := ∀ (hL : L 700 = 1), ∀ (d : Nat) (S : GS) (x : Int) (S1 : GS), f_X12_thrown n d 0 S [] = some (x, S1) → GA l Z L yX12_thrown cX12_thrown 1 (some .int) [] d 0 0 (fun v S' => v = some (.int (J x)) ∧ S1 = S') (fun _ _ => False) 0 (gl [(0, .ref (L 500))]) [] S 0 0
theorem i_X12_thrown {l : Launch} {Z : XZ} {L : Nat → Nat} (hL : L 700 = 1) {n : Nat} (ih : P_X12_thrown_0 l Z L n) {d : Nat} {S : GS} {x : Int} {S1 : GS} (H : f_X12_thrown n d 0 S [] = some (x, S1)) : GM l Z L yX12_thrown cX12_thrown 1 (some .int) [] d 0 0 [.ref (L 500)] S (fun v S' => v = some (.int (J x)) ∧ S1 = S') (fun _ _ => False) := GM.of (by decide) (Nat.le_of_ble_eq_true rfl) (ih hL _ _ _ _ H)
set_option maxHeartbeats 4000000 in
set_option maxRecDepth 20000 in
theorem t_X12_thrown_0 {l : Launch} {Z : XZ} {L : Nat → Nat} (n : Nat) (ih_X12_thrown_0 : P_X12_thrown_0 l Z L n) : P_X12_thrown_0 l Z L (n + 1) := by
  intro hL d S  x S1 H
  have H : b_X12_thrown_0 n d (f_X12_thrown n) S  = some (x, S1) := H
  unfold b_X12_thrown_0 at H
  refine GA.aload_n dX12_thrown_0 rfl ?_
  obtain ⟨x1, hx2, H⟩ := gv_e H
  refine GV.getI hx2 xf_X12_1 dX12_thrown_1 (gs_500 hL) (by decide) rfl ?_
  cases H
  exact GA.iret rfl dX12_thrown_4 (by omega) (by omega) ⟨rfl, rfl⟩
theorem g_X12_thrown {l : Launch} {Z : XZ} {L : Nat → Nat} : ∀ n, P_X12_thrown_0 l Z L n
  | 0 => fun _ _ _ _ _ H => no_e H
  | n + 1 => t_X12_thrown_0 n (g_X12_thrown n)
theorem m_X12_thrown {l : Launch} {Z : XZ} {L : Nat → Nat} (hL : L 700 = 1) {n d : Nat} {S : GS} {x : Int} {S1 : GS} (H : f_X12_thrown n d 0 S [] = some (x, S1)) : GM l Z L yX12_thrown cX12_thrown 1 (some .int) [] d 0 0 [.ref (L 500)] S (fun v S' => v = some (.int (J x)) ∧ S1 = S') (fun _ _ => False) := GM.of (by decide) (Nat.le_of_ble_eq_true rfl) ((g_X12_thrown n) hL _ _ _ _ H)

def P_X12_undoesPut_0 (l : Launch) (Z : XZ) (L : Nat → Nat) (n : Nat) : Prop := ∀ (hL : L 700 = 1), ∀ (d : Nat) (S : GS) (a1 : Int) (x : Int) (S1 : GS), f_X12_undoesPut n d 0 S [a1] = some (x, S1) → GA l Z L yX12_undoesPut cX12_undoesPut 5 none [] d 0 0 (fun v S' => v = none ∧ S1 = S') (fun _ _ => False) 0 (gl [(0, .ref (L 500)), (1, .int (J a1))]) [] S 0 0
def P_X12_undoesPut_20 (l : Launch) (Z : XZ) (L : Nat → Nat) (n : Nat) : Prop := ∀ (hL : L 700 = 1), ∀ (d : Nat) (S : GS) (a1 : Int) (s0 : Int) (x : Int) (S1 : GS), f_X12_undoesPut n d 20 S [a1, s0] = some (x, S1) → GA l Z L yX12_undoesPut cX12_undoesPut 5 none [] d 0 0 (fun v S' => v = none ∧ S1 = S') (fun _ _ => False) 20 (gl [(0, .ref (L 500)), (1, .int (J a1))]) [.int (J s0)] S 0 0
def P_X12_undoesPut_36 (l : Launch) (Z : XZ) (L : Nat → Nat) (n : Nat) : Prop := ∀ (hL : L 700 = 1), ∀ (d : Nat) (S : GS) (a1 : Int) (a2 : Int) (s0 : Int) (x : Int) (S1 : GS), f_X12_undoesPut n d 36 S [a1, a2, s0] = some (x, S1) → GA l Z L yX12_undoesPut cX12_undoesPut 5 none [] d 0 0 (fun v S' => v = none ∧ S1 = S') (fun _ _ => False) 36 (gl [(0, .ref (L 500)), (1, .int (J a1)), (2, .int (J a2))]) [.int (J s0)] S 0 0
def P_X12_undoesPut_54 (l : Launch) (Z : XZ) (L : Nat → Nat) (n : Nat) : Prop := ∀ (hL : L 700 = 1), ∀ (d : Nat) (S : GS) (a1 : Int) (a2 : Int) (a3 : Int) (s0 : Int) (x : Int) (S1 : GS), f_X12_undoesPut n d 54 S [a1, a2, a3, s0] = some (x, S1) → GA l Z L yX12_undoesPut cX12_undoesPut 5 none [] d 0 0 (fun v S' => v = none ∧ S1 = S') (fun _ _ => False) 54 (gl [(0, .ref (L 500)), (1, .int (J a1)), (2, .int (J a2)), (3, .int (J a3))]) [.int (J s0)] S 0 0
def P_X12_undoesPut_89 (l : Launch) (Z : XZ) (L : Nat → Nat) (n : Nat) : Prop := ∀ (hL : L 700 = 1), ∀ (d : Nat) (S : GS) (a1 : Int) (a3 : Int) (a4 : Int) (x : Int) (S1 : GS), f_X12_undoesPut n d 89 S [a1, a3, a4] = some (x, S1) → GA l Z L yX12_undoesPut cX12_undoesPut 5 none [] d 0 0 (fun v S' => v = none ∧ S1 = S') (fun _ _ => False) 89 (gl [(0, .ref (L 500)), (1, .int (J a1)), (3, .int (J a3)), (4, .int (J a4))]) [] S 0 0
theorem i_X12_undoesPut {l : Launch} {Z : XZ} {L : Nat → Nat} (hL : L 700 = 1) {n : Nat} (ih : P_X12_undoesPut_0 l Z L n) {d : Nat} {S : GS} {a1 : Int} {x : Int} {S1 : GS} (H : f_X12_undoesPut n d 0 S [a1] = some (x, S1)) : GM l Z L yX12_undoesPut cX12_undoesPut 5 none [] d 0 0 [.ref (L 500), .int (J a1)] S (fun v S' => v = none ∧ S1 = S') (fun _ _ => False) := GM.of (by decide) (Nat.le_of_ble_eq_true rfl) (ih hL _ _ _ _ _ H)
set_option maxHeartbeats 4000000 in
set_option maxRecDepth 20000 in
theorem t_X12_undoesPut_0 {l : Launch} {Z : XZ} {L : Nat → Nat} (n : Nat) (ih_X12_undoesPut_0 : P_X12_undoesPut_0 l Z L n) (ih_X12_undoesPut_20 : P_X12_undoesPut_20 l Z L n) (ih_X12_undoesPut_36 : P_X12_undoesPut_36 l Z L n) (ih_X12_undoesPut_54 : P_X12_undoesPut_54 l Z L n) (ih_X12_undoesPut_89 : P_X12_undoesPut_89 l Z L n) : P_X12_undoesPut_0 l Z L (n + 1) := by
  intro hL d S a1 x S1 H
  have H : b_X12_undoesPut_0 n d (f_X12_undoesPut n) S a1 = some (x, S1) := H
  unfold b_X12_undoesPut_0 at H
  refine GA.aload_n dX12_undoesPut_0 rfl ?_
  obtain ⟨x1, hx2, H⟩ := gv_e H
  refine GV.getI hx2 xf_X12_604 dX12_undoesPut_1 (gs_500 hL) (by decide) rfl ?_
  obtain ⟨hg3, H⟩ := gg_e H
  refine GV.if_ne (tgt := 11) hg3 dX12_undoesPut_4 (by decide) (fun c4 => ?_) (fun c4 => ?_)
  · have H := it_t H c4
    refine GA.aload_n dX12_undoesPut_11 rfl ?_
    refine GA.iload_n dX12_undoesPut_12 rfl ?_
    refine GA.aload_n dX12_undoesPut_13 rfl ?_
    obtain ⟨x5, hx6, H⟩ := gv_e H
    refine GV.getI hx6 xf_X12_604 dX12_undoesPut_14 (gs_500 hL) (by decide) rfl ?_
    obtain ⟨hg7, H⟩ := gg_e H
    obtain ⟨x8, S_9, hc10, H⟩ := gc_e H
    refine GA.callV (m_X12_plain hL hc10) xs_X12_663 dX12_undoesPut_17 (gs_500 hL) (by decide) rfl rfl (by omega) (by decide) rfl (Nat.le_of_ble_eq_true rfl) (by omega) (by omega) rfl (fun E S9 hx => hx.elim) (fun v S9 hq => ?_)
    obtain ⟨rfl, rfl⟩ := hq
    refine GA.locals [(0, .ref (L 500)), (1, .int (J a1))] ⟨rfl, rfl, trivial⟩ ?_
    exact ih_X12_undoesPut_20 hL _ _ (a1) (x8) _ _ H
  · have H := it_f H c4
    refine GA.iconst dX12_undoesPut_7 ?_
    refine GA.goto (tgt := 20) dX12_undoesPut_8 (by decide) ?_
    refine GA.locals [(0, .ref (L 500)), (1, .int (J a1))] ⟨rfl, rfl, trivial⟩ ?_
    exact ih_X12_undoesPut_20 hL _ _ (a1) (0) _ _ H
set_option maxHeartbeats 4000000 in
set_option maxRecDepth 20000 in
theorem t_X12_undoesPut_20 {l : Launch} {Z : XZ} {L : Nat → Nat} (n : Nat) (ih_X12_undoesPut_0 : P_X12_undoesPut_0 l Z L n) (ih_X12_undoesPut_20 : P_X12_undoesPut_20 l Z L n) (ih_X12_undoesPut_36 : P_X12_undoesPut_36 l Z L n) (ih_X12_undoesPut_54 : P_X12_undoesPut_54 l Z L n) (ih_X12_undoesPut_89 : P_X12_undoesPut_89 l Z L n) : P_X12_undoesPut_20 l Z L (n + 1) := by
  intro hL d S a1 s0 x S1 H
  have H : b_X12_undoesPut_20 n d (f_X12_undoesPut n) S a1 s0 = some (x, S1) := H
  unfold b_X12_undoesPut_20 at H
  refine GA.istore_n dX12_undoesPut_20 (by decide) ?_
  refine GA.aload_n dX12_undoesPut_21 rfl ?_
  obtain ⟨x1, hx2, H⟩ := gv_e H
  refine GV.getI hx2 xf_X12_604 dX12_undoesPut_22 (gs_500 hL) (by decide) rfl ?_
  obtain ⟨hg3, H⟩ := gg_e H
  refine GV.if_ne (tgt := 32) hg3 dX12_undoesPut_25 (by decide) (fun c4 => ?_) (fun c4 => ?_)
  · have H := it_t H c4
    refine GA.aload_n dX12_undoesPut_32 rfl ?_
    obtain ⟨hg5, H⟩ := gg_e H
    obtain ⟨x6, S_7, hc8, H⟩ := gc_e H
    refine GA.callV (m_X12_lastStep hL hc8) xs_X12_660 dX12_undoesPut_33 (gs_500 hL) (by decide) rfl rfl (by omega) (by decide) rfl (Nat.le_of_ble_eq_true rfl) (by omega) (by omega) rfl (fun E S9 hx => hx.elim) (fun v S9 hq => ?_)
    obtain ⟨rfl, rfl⟩ := hq
    refine GA.locals [(0, .ref (L 500)), (1, .int (J a1)), (2, .int (J s0))] ⟨rfl, rfl, rfl, trivial⟩ ?_
    exact ih_X12_undoesPut_36 hL _ _ (a1) (s0) (x6) _ _ H
  · have H := it_f H c4
    refine GA.iconst dX12_undoesPut_28 ?_
    refine GA.goto (tgt := 36) dX12_undoesPut_29 (by decide) ?_
    refine GA.locals [(0, .ref (L 500)), (1, .int (J a1)), (2, .int (J s0))] ⟨rfl, rfl, rfl, trivial⟩ ?_
    exact ih_X12_undoesPut_36 hL _ _ (a1) (s0) (0) _ _ H
set_option maxHeartbeats 4000000 in
set_option maxRecDepth 20000 in
theorem t_X12_undoesPut_36 {l : Launch} {Z : XZ} {L : Nat → Nat} (n : Nat) (ih_X12_undoesPut_0 : P_X12_undoesPut_0 l Z L n) (ih_X12_undoesPut_20 : P_X12_undoesPut_20 l Z L n) (ih_X12_undoesPut_36 : P_X12_undoesPut_36 l Z L n) (ih_X12_undoesPut_54 : P_X12_undoesPut_54 l Z L n) (ih_X12_undoesPut_89 : P_X12_undoesPut_89 l Z L n) : P_X12_undoesPut_36 l Z L (n + 1) := by
  intro hL d S a1 a2 s0 x S1 H
  have H : b_X12_undoesPut_36 n d (f_X12_undoesPut n) S a1 a2 s0 = some (x, S1) := H
  unfold b_X12_undoesPut_36 at H
  refine GA.istore_n dX12_undoesPut_36 (by decide) ?_
  refine GA.aload_n dX12_undoesPut_37 rfl ?_
  obtain ⟨x1, hx2, H⟩ := gv_e H
  refine GV.getI hx2 xf_X12_604 dX12_undoesPut_38 (gs_500 hL) (by decide) rfl ?_
  obtain ⟨hg3, H⟩ := gg_e H
  refine GV.if_ne (tgt := 48) hg3 dX12_undoesPut_41 (by decide) (fun c4 => ?_) (fun c4 => ?_)
  · have H := it_t H c4
    refine GA.aload_n dX12_undoesPut_48 rfl ?_
    refine GA.iload_n dX12_undoesPut_49 rfl ?_
    refine GA.iload_n dX12_undoesPut_50 rfl ?_
    obtain ⟨hg5, H⟩ := gg_e H
    obtain ⟨x6, S_7, hc8, H⟩ := gc_e H
    refine GA.callV (m_X12_plain hL hc8) xs_X12_663 dX12_undoesPut_51 (gs_500 hL) (by decide) rfl rfl (by omega) (by decide) rfl (Nat.le_of_ble_eq_true rfl) (by omega) (by omega) rfl (fun E S9 hx => hx.elim) (fun v S9 hq => ?_)
    obtain ⟨rfl, rfl⟩ := hq
    refine GA.locals [(0, .ref (L 500)), (1, .int (J a1)), (2, .int (J a2)), (3, .int (J s0))] ⟨rfl, rfl, rfl, rfl, trivial⟩ ?_
    exact ih_X12_undoesPut_54 hL _ _ (a1) (a2) (s0) (x6) _ _ H
  · have H := it_f H c4
    refine GA.iconst dX12_undoesPut_44 ?_
    refine GA.goto (tgt := 54) dX12_undoesPut_45 (by decide) ?_
    refine GA.locals [(0, .ref (L 500)), (1, .int (J a1)), (2, .int (J a2)), (3, .int (J s0))] ⟨rfl, rfl, rfl, rfl, trivial⟩ ?_
    exact ih_X12_undoesPut_54 hL _ _ (a1) (a2) (s0) ((-1)) _ _ H
set_option maxHeartbeats 4000000 in
set_option maxRecDepth 20000 in
theorem t_X12_undoesPut_54 {l : Launch} {Z : XZ} {L : Nat → Nat} (n : Nat) (ih_X12_undoesPut_0 : P_X12_undoesPut_0 l Z L n) (ih_X12_undoesPut_20 : P_X12_undoesPut_20 l Z L n) (ih_X12_undoesPut_36 : P_X12_undoesPut_36 l Z L n) (ih_X12_undoesPut_54 : P_X12_undoesPut_54 l Z L n) (ih_X12_undoesPut_89 : P_X12_undoesPut_89 l Z L n) : P_X12_undoesPut_54 l Z L (n + 1) := by
  intro hL d S a1 a2 a3 s0 x S1 H
  have H : b_X12_undoesPut_54 n d (f_X12_undoesPut n) S a1 a2 a3 s0 = some (x, S1) := H
  unfold b_X12_undoesPut_54 at H
  refine GA.istore dX12_undoesPut_54 (by decide) ?_
  refine GA.aload_n dX12_undoesPut_56 rfl ?_
  obtain ⟨x1, hx2, H⟩ := gv_e H
  refine GV.getI hx2 xf_X12_604 dX12_undoesPut_57 (gs_500 hL) (by decide) rfl ?_
  obtain ⟨hg3, H⟩ := gg_e H
  refine GV.if_eq (tgt := 79) hg3 dX12_undoesPut_60 (by decide) (fun c4 => ?_) (fun c4 => ?_)
  · have H := it_t H c4
    refine GA.aload_n dX12_undoesPut_79 rfl ?_
    refine GA.bipush dX12_undoesPut_80 rfl ?_
    refine GA.iconst dX12_undoesPut_82 ?_
    refine GA.iload_n dX12_undoesPut_83 rfl ?_
    refine GA.iload_n dX12_undoesPut_84 rfl ?_
    obtain ⟨hg5, H⟩ := gg_e H
    obtain ⟨x6, S_7, hc8, H⟩ := gc_e H
    refine GA.callV (m_X12_ordered hL hc8) xs_X12_723 dX12_undoesPut_85 (gs_500 hL) (by decide) rfl rfl (by omega) (by decide) rfl (Nat.le_of_ble_eq_true rfl) (by omega) (by omega) rfl (fun E S9 hx => hx.elim) (fun v S9 hq => ?_)
    obtain ⟨rfl, rfl⟩ := hq
    cases H
    exact GA.vret rfl dX12_undoesPut_88 (by omega) (by omega) ⟨rfl, rfl⟩
  · have H := it_f H c4
    refine GA.aload_n dX12_undoesPut_63 rfl ?_
    refine GA.iload_n dX12_undoesPut_64 rfl ?_
    refine GA.iload dX12_undoesPut_65 rfl ?_
    obtain ⟨hg9, H⟩ := gg_e H
    obtain ⟨x10, S_11, hc12, H⟩ := gc_e H
    refine GA.callV (m_X12_kind hL hc12) xs_X12_52 dX12_undoesPut_67 (gs_500 hL) (by decide) rfl rfl (by omega) (by decide) rfl (Nat.le_of_ble_eq_true rfl) (by omega) (by omega) rfl (fun E S9 hx => hx.elim) (fun v S9 hq => ?_)
    obtain ⟨rfl, rfl⟩ := hq
    refine GA.iconst dX12_undoesPut_70 ?_
    obtain ⟨hg13, H⟩ := gg_e H
    refine GV.icmp_ne (tgt := 89) hg13 (by decide) dX12_undoesPut_71 (by decide) (fun c14 => ?_) (fun c14 => ?_)
    · have H := it_t H c14
      refine GA.locals [(0, .ref (L 500)), (1, .int (J a1)), (3, .int (J a3)), (4, .int (J s0))] ⟨rfl, rfl, rfl, rfl, trivial⟩ ?_
      exact ih_X12_undoesPut_89 hL _ _ (a1) (a3) (s0) _ _ H
    · have H := it_f H c14
      refine GA.iload_n dX12_undoesPut_74 rfl ?_
      refine GA.iconst dX12_undoesPut_75 ?_
      obtain ⟨hg15, H⟩ := gg_e H
      refine GV.icmp_eq (tgt := 89) hg15 (by decide) dX12_undoesPut_76 (by decide) (fun c16 => ?_) (fun c16 => ?_)
      · have H := it_t H c16
        refine GA.locals [(0, .ref (L 500)), (1, .int (J a1)), (3, .int (J a3)), (4, .int (J s0))] ⟨rfl, rfl, rfl, rfl, trivial⟩ ?_
        exact ih_X12_undoesPut_89 hL _ _ (a1) (a3) (s0) _ _ H
      · have H := it_f H c16
        refine GA.aload_n dX12_undoesPut_79 rfl ?_
        refine GA.bipush dX12_undoesPut_80 rfl ?_
        refine GA.iconst dX12_undoesPut_82 ?_
        refine GA.iload_n dX12_undoesPut_83 rfl ?_
        refine GA.iload_n dX12_undoesPut_84 rfl ?_
        obtain ⟨x17, S_18, hc19, H⟩ := gc_e H
        refine GA.callV (m_X12_ordered hL hc19) xs_X12_723 dX12_undoesPut_85 (gs_500 hL) (by decide) rfl rfl (by omega) (by decide) rfl (Nat.le_of_ble_eq_true rfl) (by omega) (by omega) rfl (fun E S9 hx => hx.elim) (fun v S9 hq => ?_)
        obtain ⟨rfl, rfl⟩ := hq
        cases H
        exact GA.vret rfl dX12_undoesPut_88 (by omega) (by omega) ⟨rfl, rfl⟩
set_option maxHeartbeats 4000000 in
set_option maxRecDepth 20000 in
theorem t_X12_undoesPut_89 {l : Launch} {Z : XZ} {L : Nat → Nat} (n : Nat) (ih_X12_undoesPut_0 : P_X12_undoesPut_0 l Z L n) (ih_X12_undoesPut_20 : P_X12_undoesPut_20 l Z L n) (ih_X12_undoesPut_36 : P_X12_undoesPut_36 l Z L n) (ih_X12_undoesPut_54 : P_X12_undoesPut_54 l Z L n) (ih_X12_undoesPut_89 : P_X12_undoesPut_89 l Z L n) : P_X12_undoesPut_89 l Z L (n + 1) := by
  intro hL d S a1 a3 a4 x S1 H
  have H : b_X12_undoesPut_89 n d (f_X12_undoesPut n) S a1 a3 a4 = some (x, S1) := H
  unfold b_X12_undoesPut_89 at H
  refine GA.aload_n dX12_undoesPut_89 rfl ?_
  refine GA.iload_n dX12_undoesPut_90 rfl ?_
  refine GA.iload dX12_undoesPut_91 rfl ?_
  obtain ⟨hg1, H⟩ := gg_e H
  obtain ⟨x2, S_3, hc4, H⟩ := gc_e H
  refine GA.callV (m_X12_kind hL hc4) xs_X12_52 dX12_undoesPut_93 (gs_500 hL) (by decide) rfl rfl (by omega) (by decide) rfl (Nat.le_of_ble_eq_true rfl) (by omega) (by omega) rfl (fun E S9 hx => hx.elim) (fun v S9 hq => ?_)
  obtain ⟨rfl, rfl⟩ := hq
  refine GA.iconst dX12_undoesPut_96 ?_
  obtain ⟨hg5, H⟩ := gg_e H
  refine GV.icmp_ne (tgt := 140) hg5 (by decide) dX12_undoesPut_97 (by decide) (fun c6 => ?_) (fun c6 => ?_)
  · have H := it_t H c6
    refine GA.aload_n dX12_undoesPut_140 rfl ?_
    refine GA.bipush dX12_undoesPut_141 rfl ?_
    refine GA.iconst dX12_undoesPut_143 ?_
    refine GA.iload_n dX12_undoesPut_144 rfl ?_
    refine GA.iconst dX12_undoesPut_145 ?_
    obtain ⟨x7, S_8, hc9, H⟩ := gc_e H
    refine GA.callV (m_X12_ordered hL hc9) xs_X12_723 dX12_undoesPut_146 (gs_500 hL) (by decide) rfl rfl (by omega) (by decide) rfl (Nat.le_of_ble_eq_true rfl) (by omega) (by omega) rfl (fun E S9 hx => hx.elim) (fun v S9 hq => ?_)
    obtain ⟨rfl, rfl⟩ := hq
    cases H
    exact GA.vret rfl dX12_undoesPut_149 (by omega) (by omega) ⟨rfl, rfl⟩
  · have H := it_f H c6
    refine GA.aload_n dX12_undoesPut_100 rfl ?_
    obtain ⟨x10, hx11, H⟩ := gv_e H
    refine GV.getI hx11 xf_X12_604 dX12_undoesPut_101 (gs_500 hL) (by decide) rfl ?_
    refine GA.iload_n dX12_undoesPut_104 rfl ?_
    refine GA.iconst dX12_undoesPut_105 ?_
    obtain ⟨x12, hx13, H⟩ := gv_e H
    refine GV.iadd hx13 dX12_undoesPut_106 ?_
    obtain ⟨hg14, H⟩ := gg_e H
    obtain ⟨hg15, H⟩ := gg_e H
    refine GV.icmp_ne (tgt := 140) hg14 hg15 dX12_undoesPut_107 (by decide) (fun c16 => ?_) (fun c16 => ?_)
    · have H := it_t H c16
      refine GA.aload_n dX12_undoesPut_140 rfl ?_
      refine GA.bipush dX12_undoesPut_141 rfl ?_
      refine GA.iconst dX12_undoesPut_143 ?_
      refine GA.iload_n dX12_undoesPut_144 rfl ?_
      refine GA.iconst dX12_undoesPut_145 ?_
      obtain ⟨x17, S_18, hc19, H⟩ := gc_e H
      refine GA.callV (m_X12_ordered hL hc19) xs_X12_723 dX12_undoesPut_146 (gs_500 hL) (by decide) rfl rfl (by omega) (by decide) rfl (Nat.le_of_ble_eq_true rfl) (by omega) (by omega) rfl (fun E S9 hx => hx.elim) (fun v S9 hq => ?_)
      obtain ⟨rfl, rfl⟩ := hq
      cases H
      exact GA.vret rfl dX12_undoesPut_149 (by omega) (by omega) ⟨rfl, rfl⟩
    · have H := it_f H c16
      refine GA.aload_n dX12_undoesPut_110 rfl ?_
      refine GA.get xf_X12_275 dX12_undoesPut_111 (gs_500 hL) (by decide) rfl ?_
      refine GA.iload_n dX12_undoesPut_114 rfl ?_
      refine GA.iconst dX12_undoesPut_115 ?_
      obtain ⟨x20, hx21, H⟩ := gv_e H
      refine GV.iadd hx21 dX12_undoesPut_116 ?_
      obtain ⟨hg22, H⟩ := gg_e H
      obtain ⟨x23, hx24, H⟩ := gv_e H
      refine GV.iald hg22 hx24 dX12_undoesPut_117 (gs_518 hL) (by decide) ?_
      refine GA.bipush dX12_undoesPut_118 rfl ?_
      obtain ⟨hg25, H⟩ := gg_e H
      refine GV.icmp_ne (tgt := 140) hg25 (by decide) dX12_undoesPut_120 (by decide) (fun c26 => ?_) (fun c26 => ?_)
      · have H := it_t H c26
        refine GA.aload_n dX12_undoesPut_140 rfl ?_
        refine GA.bipush dX12_undoesPut_141 rfl ?_
        refine GA.iconst dX12_undoesPut_143 ?_
        refine GA.iload_n dX12_undoesPut_144 rfl ?_
        refine GA.iconst dX12_undoesPut_145 ?_
        obtain ⟨x27, S_28, hc29, H⟩ := gc_e H
        refine GA.callV (m_X12_ordered hL hc29) xs_X12_723 dX12_undoesPut_146 (gs_500 hL) (by decide) rfl rfl (by omega) (by decide) rfl (Nat.le_of_ble_eq_true rfl) (by omega) (by omega) rfl (fun E S9 hx => hx.elim) (fun v S9 hq => ?_)
        obtain ⟨rfl, rfl⟩ := hq
        cases H
        exact GA.vret rfl dX12_undoesPut_149 (by omega) (by omega) ⟨rfl, rfl⟩
      · have H := it_f H c26
        refine GA.aload_n dX12_undoesPut_123 rfl ?_
        refine GA.iload_n dX12_undoesPut_124 rfl ?_
        obtain ⟨S_30, hx31, H⟩ := gv_e H
        refine GV.putI hx31 (xp_X12_604 _) dX12_undoesPut_125 (gs_500 hL) (by decide) (Nat.le_of_ble_eq_true rfl) (gs_500 hL) ?_
        refine GA.aload_n dX12_undoesPut_128 rfl ?_
        refine GA.aload_n dX12_undoesPut_129 rfl ?_
        refine GA.iload_n dX12_undoesPut_130 rfl ?_
        refine GA.iload dX12_undoesPut_131 rfl ?_
        refine GA.iconst dX12_undoesPut_133 ?_
        obtain ⟨x32, S_33, hc34, H⟩ := gc_e H
        refine GA.callV (m_X12_part hL hc34) xs_X12_36 dX12_undoesPut_134 (gs_500 hL) (by decide) rfl rfl (by omega) (by decide) rfl (Nat.le_of_ble_eq_true rfl) (by omega) (by omega) rfl (fun E S9 hx => hx.elim) (fun v S9 hq => ?_)
        obtain ⟨rfl, rfl⟩ := hq
        obtain ⟨x35, S_36, hc37, H⟩ := gc_e H
        refine GA.callV (m_X12_addsPlace hL hc37) xs_X12_726 dX12_undoesPut_137 (gs_500 hL) (by decide) rfl rfl (by omega) (by decide) rfl (Nat.le_of_ble_eq_true rfl) (by omega) (by omega) rfl (fun E S9 hx => hx.elim) (fun v S9 hq => ?_)
        obtain ⟨rfl, rfl⟩ := hq
        refine GA.aload_n dX12_undoesPut_140 rfl ?_
        refine GA.bipush dX12_undoesPut_141 rfl ?_
        refine GA.iconst dX12_undoesPut_143 ?_
        refine GA.iload_n dX12_undoesPut_144 rfl ?_
        refine GA.iconst dX12_undoesPut_145 ?_
        obtain ⟨x38, S_39, hc40, H⟩ := gc_e H
        refine GA.callV (m_X12_ordered hL hc40) xs_X12_723 dX12_undoesPut_146 (gs_500 hL) (by decide) rfl rfl (by omega) (by decide) rfl (Nat.le_of_ble_eq_true rfl) (by omega) (by omega) rfl (fun E S9 hx => hx.elim) (fun v S9 hq => ?_)
        obtain ⟨rfl, rfl⟩ := hq
        cases H
        exact GA.vret rfl dX12_undoesPut_149 (by omega) (by omega) ⟨rfl, rfl⟩
theorem g_X12_undoesPut {l : Launch} {Z : XZ} {L : Nat → Nat} : ∀ n, P_X12_undoesPut_0 l Z L n ∧ P_X12_undoesPut_20 l Z L n ∧ P_X12_undoesPut_36 l Z L n ∧ P_X12_undoesPut_54 l Z L n ∧ P_X12_undoesPut_89 l Z L n
  | 0 => ⟨fun _ _ _ _ _ _ H => no_e H, fun _ _ _ _ _ _ _ H => no_e H, fun _ _ _ _ _ _ _ _ H => no_e H, fun _ _ _ _ _ _ _ _ _ H => no_e H, fun _ _ _ _ _ _ _ _ H => no_e H⟩
  | n + 1 => have ⟨h0, h1, h2, h3, h4⟩ := g_X12_undoesPut (l := l) (Z := Z) (L := L) n
    ⟨t_X12_undoesPut_0 n h0 h1 h2 h3 h4, t_X12_undoesPut_20 n h0 h1 h2 h3 h4, t_X12_undoesPut_36 n h0 h1 h2 h3 h4, t_X12_undoesPut_54 n h0 h1 h2 h3 h4, t_X12_undoesPut_89 n h0 h1 h2 h3 h4⟩
theorem m_X12_undoesPut {l : Launch} {Z : XZ} {L : Nat → Nat} (hL : L 700 = 1) {n d : Nat} {S : GS} {a1 : Int} {x : Int} {S1 : GS} (H : f_X12_undoesPut n d 0 S [a1] = some (x, S1)) : GM l Z L yX12_undoesPut cX12_undoesPut 5 none [] d 0 0 [.ref (L 500), .int (J a1)] S (fun v S' => v = none ∧ S1 = S') (fun _ _ => False) := GM.of (by decide) (Nat.le_of_ble_eq_true rfl) ((g_X12_undoesPut n).1 hL _ _ _ _ _ H)

def P_X12_undoes_0 (l : Launch) (Z : XZ) (L : Nat → Nat) (n : Nat) : Prop := ∀ (hL : L 700 = 1), ∀ (d : Nat) (S : GS) (a1 : Int) (a2 : Int) (x : Int) (S1 : GS), f_X12_undoes n d 0 S [a1, a2] = some (x, S1) → GA l Z L yX12_undoes cX12_undoes 5 none [] d 0 0 (fun v S' => v = none ∧ S1 = S') (fun _ _ => False) 0 (gl [(0, .ref (L 500)), (1, .int (J a1)), (2, .int (J a2))]) [] S 0 0
def P_X12_undoes_147 (l : Launch) (Z : XZ) (L : Nat → Nat) (n : Nat) : Prop := ∀ (hL : L 700 = 1), ∀ (d : Nat) (S : GS) (s0 : Int) (s1 : Int) (x : Int) (S1 : GS), f_X12_undoes n d 147 S [s0, s1] = some (x, S1) → GA l Z L yX12_undoes cX12_undoes 5 none [] d 0 0 (fun v S' => v = none ∧ S1 = S') (fun _ _ => False) 147 (gl [(0, .ref (L 500))]) [.int (J s0), .int (J s1), .ref (L 500)] S 0 0
theorem i_X12_undoes {l : Launch} {Z : XZ} {L : Nat → Nat} (hL : L 700 = 1) {n : Nat} (ih : P_X12_undoes_0 l Z L n) {d : Nat} {S : GS} {a1 : Int} {a2 : Int} {x : Int} {S1 : GS} (H : f_X12_undoes n d 0 S [a1, a2] = some (x, S1)) : GM l Z L yX12_undoes cX12_undoes 5 none [] d 0 0 [.ref (L 500), .int (J a1), .int (J a2)] S (fun v S' => v = none ∧ S1 = S') (fun _ _ => False) := GM.of (by decide) (Nat.le_of_ble_eq_true rfl) (ih hL _ _ _ _ _ _ H)
set_option maxHeartbeats 4000000 in
set_option maxRecDepth 20000 in
theorem t_X12_undoes_0 {l : Launch} {Z : XZ} {L : Nat → Nat} (n : Nat) (ih_X12_undoes_0 : P_X12_undoes_0 l Z L n) (ih_X12_undoes_147 : P_X12_undoes_147 l Z L n) : P_X12_undoes_0 l Z L (n + 1) := by
  intro hL d S a1 a2 x S1 H
  have H : b_X12_undoes_0 n d (f_X12_undoes n) S a1 a2 = some (x, S1) := H
  unfold b_X12_undoes_0 at H
  refine GA.aload_n dX12_undoes_0 rfl ?_
  refine GA.iload_n dX12_undoes_1 rfl ?_
  refine GA.iload_n dX12_undoes_2 rfl ?_
  obtain ⟨hg1, H⟩ := gg_e H
  obtain ⟨x2, S_3, hc4, H⟩ := gc_e H
  refine GA.callV (m_X12_opOf hL hc4) xs_X12_701 dX12_undoes_3 (gs_500 hL) (by decide) rfl rfl (by omega) (by decide) rfl (Nat.le_of_ble_eq_true rfl) (by omega) (by omega) rfl (fun E S9 hx => hx.elim) (fun v S9 hq => ?_)
  obtain ⟨rfl, rfl⟩ := hq
  refine GA.istore_n dX12_undoes_6 (by decide) ?_
  refine GA.iload_n dX12_undoes_7 rfl ?_
  refine GA.iconst dX12_undoes_8 ?_
  obtain ⟨hg5, H⟩ := gg_e H
  refine GV.icmp_ne (tgt := 39) hg5 (by decide) dX12_undoes_9 (by decide) (fun c6 => ?_) (fun c6 => ?_)
  · have H := it_t H c6
    refine GA.iload_n dX12_undoes_39 rfl ?_
    refine GA.iconst dX12_undoes_40 ?_
    refine GV.icmp_ne (tgt := 107) hg5 (by decide) dX12_undoes_41 (by decide) (fun c7 => ?_) (fun c7 => ?_)
    · have H := it_t H c7
      refine GA.aload_n dX12_undoes_107 rfl ?_
      refine GA.iload_n dX12_undoes_108 rfl ?_
      refine GA.iload_n dX12_undoes_109 rfl ?_
      refine GV.ldc2 (z := 8097881595014283264) (by decide) xc_X12_685 dX12_undoes_110 ?_
      obtain ⟨x8, S_9, hc10, H⟩ := gc_e H
      refine GA.callV (m_X12_pathNamed hL hc10) xs_X12_704 dX12_undoes_113 (gs_500 hL) (by decide) rfl rfl (by omega) (by decide) rfl (Nat.le_of_ble_eq_true rfl) (by omega) (by omega) rfl (fun E S9 hx => hx.elim) (fun v S9 hq => ?_)
      obtain ⟨rfl, rfl⟩ := hq
      refine GA.iload_n dX12_undoes_116 rfl ?_
      refine GV.if_eq (tgt := 125) hg5 dX12_undoes_117 (by decide) (fun c11 => ?_) (fun c11 => ?_)
      · have H := it_t H c11
        refine GA.aload_n dX12_undoes_125 rfl ?_
        refine GA.bipush dX12_undoes_126 rfl ?_
        obtain ⟨x12, S_13, hc14, H⟩ := gc_e H
        refine GA.callV (m_X12_undoesPut hL hc14) xs_X12_750 dX12_undoes_128 (gs_500 hL) (by decide) rfl rfl (by omega) (by decide) rfl (Nat.le_of_ble_eq_true rfl) (by omega) (by omega) rfl (fun E S9 hx => hx.elim) (fun v S9 hq => ?_)
        obtain ⟨rfl, rfl⟩ := hq
        refine GA.goto (tgt := 162) dX12_undoes_131 (by decide) ?_
        cases H
        exact GA.vret rfl dX12_undoes_162 (by omega) (by omega) ⟨rfl, rfl⟩
      · have H := it_f H c11
        refine GA.iload_n dX12_undoes_120 rfl ?_
        refine GA.iconst dX12_undoes_121 ?_
        refine GV.icmp_ne (tgt := 134) hg5 (by decide) dX12_undoes_122 (by decide) (fun c15 => ?_) (fun c15 => ?_)
        · have H := it_t H c15
          refine GA.aload_n dX12_undoes_134 rfl ?_
          refine GA.bipush dX12_undoes_135 rfl ?_
          refine GA.iload_n dX12_undoes_137 rfl ?_
          refine GA.iconst dX12_undoes_138 ?_
          refine GV.icmp_ne (tgt := 146) hg5 (by decide) dX12_undoes_139 (by decide) (fun c16 => ?_) (fun c16 => ?_)
          · have H := it_t H c16
            refine GA.iconst dX12_undoes_146 ?_
            refine GA.locals [(0, .ref (L 500))] ⟨rfl, trivial⟩ ?_
            exact ih_X12_undoes_147 hL _ _ (2) (41) _ _ H
          · have H := it_f H c16
            refine GA.iconst dX12_undoes_142 ?_
            refine GA.goto (tgt := 147) dX12_undoes_143 (by decide) ?_
            refine GA.locals [(0, .ref (L 500))] ⟨rfl, trivial⟩ ?_
            exact ih_X12_undoes_147 hL _ _ (0) (41) _ _ H
        · have H := it_f H c15
          refine GA.aload_n dX12_undoes_125 rfl ?_
          refine GA.bipush dX12_undoes_126 rfl ?_
          obtain ⟨x17, S_18, hc19, H⟩ := gc_e H
          refine GA.callV (m_X12_undoesPut hL hc19) xs_X12_750 dX12_undoes_128 (gs_500 hL) (by decide) rfl rfl (by omega) (by decide) rfl (Nat.le_of_ble_eq_true rfl) (by omega) (by omega) rfl (fun E S9 hx => hx.elim) (fun v S9 hq => ?_)
          obtain ⟨rfl, rfl⟩ := hq
          refine GA.goto (tgt := 162) dX12_undoes_131 (by decide) ?_
          cases H
          exact GA.vret rfl dX12_undoes_162 (by omega) (by omega) ⟨rfl, rfl⟩
    · have H := it_f H c7
      refine GA.aload_n dX12_undoes_44 rfl ?_
      refine GA.iload_n dX12_undoes_45 rfl ?_
      refine GA.iload_n dX12_undoes_46 rfl ?_
      refine GV.ldc2 (z := 7382085253155782656) (by decide) xc_X12_697 dX12_undoes_47 ?_
      obtain ⟨x20, S_21, hc22, H⟩ := gc_e H
      refine GA.callV (m_X12_pathNamed hL hc22) xs_X12_704 dX12_undoes_50 (gs_500 hL) (by decide) rfl rfl (by omega) (by decide) rfl (Nat.le_of_ble_eq_true rfl) (by omega) (by omega) rfl (fun E S9 hx => hx.elim) (fun v S9 hq => ?_)
      obtain ⟨rfl, rfl⟩ := hq
      refine GA.aload_n dX12_undoes_53 rfl ?_
      refine GA.bipush dX12_undoes_54 rfl ?_
      refine GA.bipush dX12_undoes_56 rfl ?_
      obtain ⟨x23, S_24, hc25, H⟩ := gc_e H
      refine GA.callV (m_X12_canCut hL hc25) xs_X12_676 dX12_undoes_58 (gs_500 hL) (by decide) rfl rfl (by omega) (by decide) rfl (Nat.le_of_ble_eq_true rfl) (by omega) (by omega) rfl (fun E S9 hx => hx.elim) (fun v S9 hq => ?_)
      obtain ⟨rfl, rfl⟩ := hq
      refine GA.istore dX12_undoes_61 (by decide) ?_
      refine GA.aload_n dX12_undoes_63 rfl ?_
      refine GA.iload_n dX12_undoes_64 rfl ?_
      refine GA.iload_n dX12_undoes_65 rfl ?_
      refine GV.ldc2 (z := 8097881595014283264) (by decide) xc_X12_685 dX12_undoes_66 ?_
      obtain ⟨x26, S_27, hc28, H⟩ := gc_e H
      refine GA.callV (m_X12_pathNamed hL hc28) xs_X12_704 dX12_undoes_69 (gs_500 hL) (by decide) rfl rfl (by omega) (by decide) rfl (Nat.le_of_ble_eq_true rfl) (by omega) (by omega) rfl (fun E S9 hx => hx.elim) (fun v S9 hq => ?_)
      obtain ⟨rfl, rfl⟩ := hq
      refine GA.aload_n dX12_undoes_72 rfl ?_
      refine GA.bipush dX12_undoes_73 rfl ?_
      obtain ⟨x29, S_30, hc31, H⟩ := gc_e H
      refine GA.callV (m_X12_undoesPut hL hc31) xs_X12_750 dX12_undoes_75 (gs_500 hL) (by decide) rfl rfl (by omega) (by decide) rfl (Nat.le_of_ble_eq_true rfl) (by omega) (by omega) rfl (fun E S9 hx => hx.elim) (fun v S9 hq => ?_)
      obtain ⟨rfl, rfl⟩ := hq
      refine GA.aload_n dX12_undoes_78 rfl ?_
      refine GA.iload_n dX12_undoes_79 rfl ?_
      refine GA.iload_n dX12_undoes_80 rfl ?_
      refine GV.ldc2 (z := 7382085253155782656) (by decide) xc_X12_697 dX12_undoes_81 ?_
      obtain ⟨x32, S_33, hc34, H⟩ := gc_e H
      refine GA.callV (m_X12_pathNamed hL hc34) xs_X12_704 dX12_undoes_84 (gs_500 hL) (by decide) rfl rfl (by omega) (by decide) rfl (Nat.le_of_ble_eq_true rfl) (by omega) (by omega) rfl (fun E S9 hx => hx.elim) (fun v S9 hq => ?_)
      obtain ⟨rfl, rfl⟩ := hq
      refine GA.aload_n dX12_undoes_87 rfl ?_
      refine GA.bipush dX12_undoes_88 rfl ?_
      refine GA.iconst dX12_undoes_90 ?_
      refine GA.bipush dX12_undoes_91 rfl ?_
      refine GA.aload_n dX12_undoes_93 rfl ?_
      refine GA.bipush dX12_undoes_94 rfl ?_
      refine GA.aload_n dX12_undoes_96 rfl ?_
      obtain ⟨x35, hx36, H⟩ := gv_e H
      refine GV.getI hx36 xf_X12_604 dX12_undoes_97 (gs_500 hL) (by decide) rfl ?_
      obtain ⟨x37, S_38, hc39, H⟩ := gc_e H
      refine GA.callV (m_X12_plain hL hc39) xs_X12_663 dX12_undoes_100 (gs_500 hL) (by decide) rfl rfl (by omega) (by decide) rfl (Nat.le_of_ble_eq_true rfl) (by omega) (by omega) rfl (fun E S9 hx => hx.elim) (fun v S9 hq => ?_)
      obtain ⟨rfl, rfl⟩ := hq
      obtain ⟨x40, S_41, hc42, H⟩ := gc_e H
      refine GA.callV (m_X12_ordered hL hc42) xs_X12_723 dX12_undoes_103 (gs_500 hL) (by decide) rfl rfl (by omega) (by decide) rfl (Nat.le_of_ble_eq_true rfl) (by omega) (by omega) rfl (fun E S9 hx => hx.elim) (fun v S9 hq => ?_)
      obtain ⟨rfl, rfl⟩ := hq
      cases H
      exact GA.vret rfl dX12_undoes_106 (by omega) (by omega) ⟨rfl, rfl⟩
  · have H := it_f H c6
    refine GA.aload_n dX12_undoes_12 rfl ?_
    refine GA.iload_n dX12_undoes_13 rfl ?_
    refine GA.iload_n dX12_undoes_14 rfl ?_
    refine GV.ldc2 (z := 8097881595014283264) (by decide) xc_X12_685 dX12_undoes_15 ?_
    obtain ⟨x43, S_44, hc45, H⟩ := gc_e H
    refine GA.callV (m_X12_pathNamed hL hc45) xs_X12_704 dX12_undoes_18 (gs_500 hL) (by decide) rfl rfl (by omega) (by decide) rfl (Nat.le_of_ble_eq_true rfl) (by omega) (by omega) rfl (fun E S9 hx => hx.elim) (fun v S9 hq => ?_)
    obtain ⟨rfl, rfl⟩ := hq
    refine GA.aload_n dX12_undoes_21 rfl ?_
    refine GA.bipush dX12_undoes_22 rfl ?_
    refine GA.iconst dX12_undoes_24 ?_
    refine GA.iload_n dX12_undoes_25 rfl ?_
    refine GA.aload_n dX12_undoes_26 rfl ?_
    refine GA.iload_n dX12_undoes_27 rfl ?_
    refine GA.iload_n dX12_undoes_28 rfl ?_
    refine GV.ldc2 (z := 8530218420677902336) (by decide) xc_X12_699 dX12_undoes_29 ?_
    obtain ⟨x46, S_47, hc48, H⟩ := gc_e H
    refine GA.callV (m_X12_childNamed hL hc48) xs_X12_681 dX12_undoes_32 (gs_500 hL) (by decide) rfl rfl (by omega) (by decide) rfl (Nat.le_of_ble_eq_true rfl) (by omega) (by omega) rfl (fun E S9 hx => hx.elim) (fun v S9 hq => ?_)
    obtain ⟨rfl, rfl⟩ := hq
    obtain ⟨x49, S_50, hc51, H⟩ := gc_e H
    refine GA.callV (m_X12_ordered hL hc51) xs_X12_723 dX12_undoes_35 (gs_500 hL) (by decide) rfl rfl (by omega) (by decide) rfl (Nat.le_of_ble_eq_true rfl) (by omega) (by omega) rfl (fun E S9 hx => hx.elim) (fun v S9 hq => ?_)
    obtain ⟨rfl, rfl⟩ := hq
    cases H
    exact GA.vret rfl dX12_undoes_38 (by omega) (by omega) ⟨rfl, rfl⟩
set_option maxHeartbeats 4000000 in
set_option maxRecDepth 20000 in
theorem t_X12_undoes_147 {l : Launch} {Z : XZ} {L : Nat → Nat} (n : Nat) (ih_X12_undoes_0 : P_X12_undoes_0 l Z L n) (ih_X12_undoes_147 : P_X12_undoes_147 l Z L n) : P_X12_undoes_147 l Z L (n + 1) := by
  intro hL d S s0 s1 x S1 H
  have H : b_X12_undoes_147 n d (f_X12_undoes n) S s0 s1 = some (x, S1) := H
  unfold b_X12_undoes_147 at H
  refine GA.bipush dX12_undoes_147 rfl ?_
  refine GA.aload_n dX12_undoes_149 rfl ?_
  refine GA.bipush dX12_undoes_150 rfl ?_
  refine GA.aload_n dX12_undoes_152 rfl ?_
  obtain ⟨x1, hx2, H⟩ := gv_e H
  refine GV.getI hx2 xf_X12_604 dX12_undoes_153 (gs_500 hL) (by decide) rfl ?_
  obtain ⟨hg3, H⟩ := gg_e H
  obtain ⟨x4, S_5, hc6, H⟩ := gc_e H
  refine GA.callV (m_X12_plain hL hc6) xs_X12_663 dX12_undoes_156 (gs_500 hL) (by decide) rfl rfl (by omega) (by decide) rfl (Nat.le_of_ble_eq_true rfl) (by omega) (by omega) rfl (fun E S9 hx => hx.elim) (fun v S9 hq => ?_)
  obtain ⟨rfl, rfl⟩ := hq
  obtain ⟨x7, S_8, hc9, H⟩ := gc_e H
  refine GA.callV (m_X12_ordered hL hc9) xs_X12_723 dX12_undoes_159 (gs_500 hL) (by decide) rfl rfl (by omega) (by decide) rfl (Nat.le_of_ble_eq_true rfl) (by omega) (by omega) rfl (fun E S9 hx => hx.elim) (fun v S9 hq => ?_)
  obtain ⟨rfl, rfl⟩ := hq
  cases H
  exact GA.vret rfl dX12_undoes_162 (by omega) (by omega) ⟨rfl, rfl⟩
theorem g_X12_undoes {l : Launch} {Z : XZ} {L : Nat → Nat} : ∀ n, P_X12_undoes_0 l Z L n ∧ P_X12_undoes_147 l Z L n
  | 0 => ⟨fun _ _ _ _ _ _ _ H => no_e H, fun _ _ _ _ _ _ _ H => no_e H⟩
  | n + 1 => have ⟨h0, h1⟩ := g_X12_undoes (l := l) (Z := Z) (L := L) n
    ⟨t_X12_undoes_0 n h0 h1, t_X12_undoes_147 n h0 h1⟩
theorem m_X12_undoes {l : Launch} {Z : XZ} {L : Nat → Nat} (hL : L 700 = 1) {n d : Nat} {S : GS} {a1 : Int} {a2 : Int} {x : Int} {S1 : GS} (H : f_X12_undoes n d 0 S [a1, a2] = some (x, S1)) : GM l Z L yX12_undoes cX12_undoes 5 none [] d 0 0 [.ref (L 500), .int (J a1), .int (J a2)] S (fun v S' => v = none ∧ S1 = S') (fun _ _ => False) := GM.of (by decide) (Nat.le_of_ble_eq_true rfl) ((g_X12_undoes n).1 hL _ _ _ _ _ _ H)

def P_X12_turn_0 (l : Launch) (Z : XZ) (L : Nat → Nat) (n : Nat) : Prop := ∀ (hL : L 700 = 1), ∀ (d : Nat) (S : GS) (a1 : Int) (a2 : Int) (x : Int) (S1 : GS), f_X12_turn n d 0 S [a1, a2] = some (x, S1) → GA l Z L yX12_turn cX12_turn 7 (some .int) [] d 0 0 (fun v S' => v = some (.int (J x)) ∧ S1 = S') (fun _ _ => False) 0 (gl [(0, .ref (L 500)), (1, .int (J a1)), (2, .int (J a2))]) [] S 0 0
def P_X12_turn_22 (l : Launch) (Z : XZ) (L : Nat → Nat) (n : Nat) : Prop := ∀ (hL : L 700 = 1), ∀ (d : Nat) (S : GS) (a1 : Int) (a2 : Int) (s0 : Int) (x : Int) (S1 : GS), f_X12_turn n d 22 S [a1, a2, s0] = some (x, S1) → GA l Z L yX12_turn cX12_turn 7 (some .int) [] d 0 0 (fun v S' => v = some (.int (J x)) ∧ S1 = S') (fun _ _ => False) 22 (gl [(0, .ref (L 500)), (1, .int (J a1)), (2, .int (J a2))]) [.int (J s0), .ref (L 500)] S 0 0
def P_X12_turn_75 (l : Launch) (Z : XZ) (L : Nat → Nat) (n : Nat) : Prop := ∀ (hL : L 700 = 1), ∀ (d : Nat) (S : GS) (a1 : Int) (a2 : Int) (a3 : Int) (s0 : Int) (x : Int) (S1 : GS), f_X12_turn n d 75 S [a1, a2, a3, s0] = some (x, S1) → GA l Z L yX12_turn cX12_turn 7 (some .int) [] d 0 0 (fun v S' => v = some (.int (J x)) ∧ S1 = S') (fun _ _ => False) 75 (gl [(0, .ref (L 500)), (1, .int (J a1)), (2, .int (J a2)), (3, .int (J a3))]) [.int (J s0), .ref (L 500)] S 0 0
def P_X12_turn_109 (l : Launch) (Z : XZ) (L : Nat → Nat) (n : Nat) : Prop := ∀ (hL : L 700 = 1), ∀ (d : Nat) (S : GS) (a1 : Int) (a2 : Int) (a5 : Int) (x : Int) (S1 : GS), f_X12_turn n d 109 S [a1, a2, a5] = some (x, S1) → GA l Z L yX12_turn cX12_turn 7 (some .int) [] d 0 0 (fun v S' => v = some (.int (J x)) ∧ S1 = S') (fun _ _ => False) 109 (gl [(0, .ref (L 500)), (1, .int (J a1)), (2, .int (J a2)), (5, .int (J a5))]) [] S 0 0
def P_X12_turn_150 (l : Launch) (Z : XZ) (L : Nat → Nat) (n : Nat) : Prop := ∀ (hL : L 700 = 1), ∀ (d : Nat) (S : GS) (x : Int) (S1 : GS), f_X12_turn n d 150 S [] = some (x, S1) → GA l Z L yX12_turn cX12_turn 7 (some .int) [] d 0 0 (fun v S' => v = some (.int (J x)) ∧ S1 = S') (fun _ _ => False) 150 (gl [(0, .ref (L 500))]) [] S 0 0
theorem i_X12_turn {l : Launch} {Z : XZ} {L : Nat → Nat} (hL : L 700 = 1) {n : Nat} (ih : P_X12_turn_0 l Z L n) {d : Nat} {S : GS} {a1 : Int} {a2 : Int} {x : Int} {S1 : GS} (H : f_X12_turn n d 0 S [a1, a2] = some (x, S1)) : GM l Z L yX12_turn cX12_turn 7 (some .int) [] d 0 0 [.ref (L 500), .int (J a1), .int (J a2)] S (fun v S' => v = some (.int (J x)) ∧ S1 = S') (fun _ _ => False) := GM.of (by decide) (Nat.le_of_ble_eq_true rfl) (ih hL _ _ _ _ _ _ H)
set_option maxHeartbeats 4000000 in
set_option maxRecDepth 20000 in
theorem t_X12_turn_0 {l : Launch} {Z : XZ} {L : Nat → Nat} (n : Nat) (ih_X12_turn_0 : P_X12_turn_0 l Z L n) (ih_X12_turn_22 : P_X12_turn_22 l Z L n) (ih_X12_turn_75 : P_X12_turn_75 l Z L n) (ih_X12_turn_109 : P_X12_turn_109 l Z L n) (ih_X12_turn_150 : P_X12_turn_150 l Z L n) : P_X12_turn_0 l Z L (n + 1) := by
  intro hL d S a1 a2 x S1 H
  have H : b_X12_turn_0 n d (f_X12_turn n) S a1 a2 = some (x, S1) := H
  unfold b_X12_turn_0 at H
  refine GA.aload_n dX12_turn_0 rfl ?_
  refine GA.aload_n dX12_turn_1 rfl ?_
  refine GA.iload_n dX12_turn_2 rfl ?_
  obtain ⟨hg1, H⟩ := gg_e H
  obtain ⟨x2, S_3, hc4, H⟩ := gc_e H
  refine GA.callV (m_X12_isDoc hL hc4) xs_X12_22 dX12_turn_3 (gs_500 hL) (by decide) rfl rfl (by omega) (by decide) rfl (Nat.le_of_ble_eq_true rfl) (by omega) (by omega) rfl (fun E S9 hx => hx.elim) (fun v S9 hq => ?_)
  obtain ⟨rfl, rfl⟩ := hq
  obtain ⟨hg5, H⟩ := gg_e H
  refine GV.if_eq (tgt := 21) hg5 dX12_turn_6 (by decide) (fun c6 => ?_) (fun c6 => ?_)
  · have H := it_t H c6
    refine GA.iconst dX12_turn_21 ?_
    refine GA.locals [(0, .ref (L 500)), (1, .int (J a1)), (2, .int (J a2))] ⟨rfl, rfl, rfl, trivial⟩ ?_
    exact ih_X12_turn_22 hL _ _ (a1) (a2) (0) _ _ H
  · have H := it_f H c6
    refine GA.aload_n dX12_turn_9 rfl ?_
    refine GA.iload_n dX12_turn_10 rfl ?_
    obtain ⟨x7, S_8, hc9, H⟩ := gc_e H
    refine GA.callV (m_X12_isDoc hL hc9) xs_X12_22 dX12_turn_11 (gs_500 hL) (by decide) rfl rfl (by omega) (by decide) rfl (Nat.le_of_ble_eq_true rfl) (by omega) (by omega) rfl (fun E S9 hx => hx.elim) (fun v S9 hq => ?_)
    obtain ⟨rfl, rfl⟩ := hq
    obtain ⟨hg10, H⟩ := gg_e H
    refine GV.if_eq (tgt := 21) hg10 dX12_turn_14 (by decide) (fun c11 => ?_) (fun c11 => ?_)
    · have H := it_t H c11
      refine GA.iconst dX12_turn_21 ?_
      refine GA.locals [(0, .ref (L 500)), (1, .int (J a1)), (2, .int (J a2))] ⟨rfl, rfl, rfl, trivial⟩ ?_
      exact ih_X12_turn_22 hL _ _ (a1) (a2) (0) _ _ H
    · have H := it_f H c11
      refine GA.iconst dX12_turn_17 ?_
      refine GA.goto (tgt := 22) dX12_turn_18 (by decide) ?_
      refine GA.locals [(0, .ref (L 500)), (1, .int (J a1)), (2, .int (J a2))] ⟨rfl, rfl, rfl, trivial⟩ ?_
      exact ih_X12_turn_22 hL _ _ (a1) (a2) (1) _ _ H
set_option maxHeartbeats 4000000 in
set_option maxRecDepth 20000 in
theorem t_X12_turn_22 {l : Launch} {Z : XZ} {L : Nat → Nat} (n : Nat) (ih_X12_turn_0 : P_X12_turn_0 l Z L n) (ih_X12_turn_22 : P_X12_turn_22 l Z L n) (ih_X12_turn_75 : P_X12_turn_75 l Z L n) (ih_X12_turn_109 : P_X12_turn_109 l Z L n) (ih_X12_turn_150 : P_X12_turn_150 l Z L n) : P_X12_turn_22 l Z L (n + 1) := by
  intro hL d S a1 a2 s0 x S1 H
  have H : b_X12_turn_22 n d (f_X12_turn n) S a1 a2 s0 = some (x, S1) := H
  unfold b_X12_turn_22 at H
  refine GA.iconst dX12_turn_22 ?_
  obtain ⟨hg1, H⟩ := gg_e H
  obtain ⟨x2, S_3, hc4, H⟩ := gc_e H
  refine GA.callV (m_X12_fails hL hc4) xs_X12_456 dX12_turn_23 (gs_500 hL) (by decide) rfl rfl (by omega) (by decide) rfl (Nat.le_of_ble_eq_true rfl) (by omega) (by omega) rfl (fun E S9 hx => hx.elim) (fun v S9 hq => ?_)
  obtain ⟨rfl, rfl⟩ := hq
  obtain ⟨hg5, H⟩ := gg_e H
  refine GV.if_eq (tgt := 31) hg5 dX12_turn_26 (by decide) (fun c6 => ?_) (fun c6 => ?_)
  · have H := it_t H c6
    refine GA.aload_n dX12_turn_31 rfl ?_
    refine GA.iload_n dX12_turn_32 rfl ?_
    refine GA.iconst dX12_turn_33 ?_
    refine GA.iconst dX12_turn_34 ?_
    obtain ⟨x7, S_8, hc9, H⟩ := gc_e H
    refine GA.callV (m_X12_part hL hc9) xs_X12_36 dX12_turn_35 (gs_500 hL) (by decide) rfl rfl (by omega) (by decide) rfl (Nat.le_of_ble_eq_true rfl) (by omega) (by omega) rfl (fun E S9 hx => hx.elim) (fun v S9 hq => ?_)
    obtain ⟨rfl, rfl⟩ := hq
    refine GA.istore_n dX12_turn_38 (by decide) ?_
    refine GA.aload_n dX12_turn_39 rfl ?_
    refine GA.aload_n dX12_turn_40 rfl ?_
    obtain ⟨x10, hx11, H⟩ := gv_e H
    refine GV.getI hx11 xf_X12_15 dX12_turn_41 (gs_500 hL) (by decide) rfl ?_
    refine GA.bipush dX12_turn_44 rfl ?_
    obtain ⟨hg12, H⟩ := gg_e H
    refine GV.icmp_ge (tgt := 74) hg12 (by decide) dX12_turn_46 (by decide) (fun c13 => ?_) (fun c13 => ?_)
    · have H := it_t H c13
      refine GA.iconst dX12_turn_74 ?_
      refine GA.locals [(0, .ref (L 500)), (1, .int (J a1)), (2, .int (J a2)), (3, .int (J x7))] ⟨rfl, rfl, rfl, rfl, trivial⟩ ?_
      exact ih_X12_turn_75 hL _ _ (a1) (a2) (x7) (0) _ _ H
    · have H := it_f H c13
      refine GA.aload_n dX12_turn_49 rfl ?_
      refine GA.iload_n dX12_turn_50 rfl ?_
      refine GA.iconst dX12_turn_51 ?_
      obtain ⟨x14, S_15, hc16, H⟩ := gc_e H
      refine GA.callV (m_X12_kind hL hc16) xs_X12_52 dX12_turn_52 (gs_500 hL) (by decide) rfl rfl (by omega) (by decide) rfl (Nat.le_of_ble_eq_true rfl) (by omega) (by omega) rfl (fun E S9 hx => hx.elim) (fun v S9 hq => ?_)
      obtain ⟨rfl, rfl⟩ := hq
      refine GA.iconst dX12_turn_55 ?_
      obtain ⟨hg17, H⟩ := gg_e H
      refine GV.icmp_ne (tgt := 74) hg17 (by decide) dX12_turn_56 (by decide) (fun c18 => ?_) (fun c18 => ?_)
      · have H := it_t H c18
        refine GA.iconst dX12_turn_74 ?_
        refine GA.locals [(0, .ref (L 500)), (1, .int (J a1)), (2, .int (J a2)), (3, .int (J x7))] ⟨rfl, rfl, rfl, rfl, trivial⟩ ?_
        exact ih_X12_turn_75 hL _ _ (a1) (a2) (x7) (0) _ _ H
      · have H := it_f H c18
        refine GA.aload_n dX12_turn_59 rfl ?_
        refine GA.iload_n dX12_turn_60 rfl ?_
        refine GA.iload_n dX12_turn_61 rfl ?_
        refine GA.iload_n dX12_turn_62 rfl ?_
        obtain ⟨x19, S_20, hc21, H⟩ := gc_e H
        refine GA.callV (m_X12_lays hL hc21) xs_X12_711 dX12_turn_63 (gs_500 hL) (by decide) rfl rfl (by omega) (by decide) rfl (Nat.le_of_ble_eq_true rfl) (by omega) (by omega) rfl (fun E S9 hx => hx.elim) (fun v S9 hq => ?_)
        obtain ⟨rfl, rfl⟩ := hq
        refine GA.iconst dX12_turn_66 ?_
        obtain ⟨hg22, H⟩ := gg_e H
        refine GV.icmp_ne (tgt := 74) hg22 (by decide) dX12_turn_67 (by decide) (fun c23 => ?_) (fun c23 => ?_)
        · have H := it_t H c23
          refine GA.iconst dX12_turn_74 ?_
          refine GA.locals [(0, .ref (L 500)), (1, .int (J a1)), (2, .int (J a2)), (3, .int (J x7))] ⟨rfl, rfl, rfl, rfl, trivial⟩ ?_
          exact ih_X12_turn_75 hL _ _ (a1) (a2) (x7) (0) _ _ H
        · have H := it_f H c23
          refine GA.iconst dX12_turn_70 ?_
          refine GA.goto (tgt := 75) dX12_turn_71 (by decide) ?_
          refine GA.locals [(0, .ref (L 500)), (1, .int (J a1)), (2, .int (J a2)), (3, .int (J x7))] ⟨rfl, rfl, rfl, rfl, trivial⟩ ?_
          exact ih_X12_turn_75 hL _ _ (a1) (a2) (x7) (1) _ _ H
  · have H := it_f H c6
    refine GA.iconst dX12_turn_29 ?_
    cases H
    exact GA.iret rfl dX12_turn_30 (by omega) (by omega) ⟨rfl, rfl⟩
set_option maxHeartbeats 4000000 in
set_option maxRecDepth 20000 in
theorem t_X12_turn_75 {l : Launch} {Z : XZ} {L : Nat → Nat} (n : Nat) (ih_X12_turn_0 : P_X12_turn_0 l Z L n) (ih_X12_turn_22 : P_X12_turn_22 l Z L n) (ih_X12_turn_75 : P_X12_turn_75 l Z L n) (ih_X12_turn_109 : P_X12_turn_109 l Z L n) (ih_X12_turn_150 : P_X12_turn_150 l Z L n) : P_X12_turn_75 l Z L (n + 1) := by
  intro hL d S a1 a2 a3 s0 x S1 H
  have H : b_X12_turn_75 n d (f_X12_turn n) S a1 a2 a3 s0 = some (x, S1) := H
  unfold b_X12_turn_75 at H
  refine GA.iconst dX12_turn_75 ?_
  obtain ⟨hg1, H⟩ := gg_e H
  obtain ⟨x2, S_3, hc4, H⟩ := gc_e H
  refine GA.callV (m_X12_fails hL hc4) xs_X12_456 dX12_turn_76 (gs_500 hL) (by decide) rfl rfl (by omega) (by decide) rfl (Nat.le_of_ble_eq_true rfl) (by omega) (by omega) rfl (fun E S9 hx => hx.elim) (fun v S9 hq => ?_)
  obtain ⟨rfl, rfl⟩ := hq
  obtain ⟨hg5, H⟩ := gg_e H
  refine GV.if_eq (tgt := 84) hg5 dX12_turn_79 (by decide) (fun c6 => ?_) (fun c6 => ?_)
  · have H := it_t H c6
    refine GA.aload_n dX12_turn_84 rfl ?_
    refine GA.bipush dX12_turn_85 rfl ?_
    obtain ⟨x7, S_8, hc9, H⟩ := gc_e H
    refine GA.callV (m_X12_begin hL hc9) xs_X12_517 dX12_turn_87 (gs_500 hL) (by decide) rfl rfl (by omega) (by decide) rfl (Nat.le_of_ble_eq_true rfl) (by omega) (by omega) rfl (fun E S9 hx => hx.elim) (fun v S9 hq => ?_)
    obtain ⟨rfl, rfl⟩ := hq
    refine GA.aload_n dX12_turn_90 rfl ?_
    refine GA.iconst dX12_turn_91 ?_
    obtain ⟨S_10, hx11, H⟩ := gv_e H
    refine GV.putB (by decide) hx11 (xp_X12_714 (xb_01 _)) dX12_turn_92 (gs_500 hL) (by decide) (Nat.le_of_ble_eq_true rfl) (gs_500 hL) ?_
    refine GA.aload_n dX12_turn_95 rfl ?_
    refine GA.bipush dX12_turn_96 rfl ?_
    refine GA.iconst dX12_turn_98 ?_
    obtain ⟨x12, S_13, hc14, H⟩ := gc_e H
    refine GA.callV (m_X12_added hL hc14) xs_X12_33 dX12_turn_99 (gs_500 hL) (by decide) rfl rfl (by omega) (by decide) rfl (Nat.le_of_ble_eq_true rfl) (by omega) (by omega) rfl (fun E S9 hx => hx.elim) (fun v S9 hq => ?_)
    obtain ⟨rfl, rfl⟩ := hq
    refine GA.istore dX12_turn_102 (by decide) ?_
    refine GA.iload_n dX12_turn_104 rfl ?_
    refine GA.iconst dX12_turn_105 ?_
    obtain ⟨x15, hx16, H⟩ := gv_e H
    refine GV.isub hx16 dX12_turn_106 ?_
    refine GA.istore dX12_turn_107 (by decide) ?_
    refine GA.locals [(0, .ref (L 500)), (1, .int (J a1)), (2, .int (J a2)), (5, .int (J x15))] ⟨rfl, rfl, rfl, rfl, trivial⟩ ?_
    exact ih_X12_turn_109 hL _ _ (a1) (a2) (x15) _ _ H
  · have H := it_f H c6
    refine GA.iconst dX12_turn_82 ?_
    cases H
    exact GA.iret rfl dX12_turn_83 (by omega) (by omega) ⟨rfl, rfl⟩
set_option maxHeartbeats 4000000 in
set_option maxRecDepth 20000 in
theorem t_X12_turn_109 {l : Launch} {Z : XZ} {L : Nat → Nat} (n : Nat) (ih_X12_turn_0 : P_X12_turn_0 l Z L n) (ih_X12_turn_22 : P_X12_turn_22 l Z L n) (ih_X12_turn_75 : P_X12_turn_75 l Z L n) (ih_X12_turn_109 : P_X12_turn_109 l Z L n) (ih_X12_turn_150 : P_X12_turn_150 l Z L n) : P_X12_turn_109 l Z L (n + 1) := by
  intro hL d S a1 a2 a5 x S1 H
  have H : b_X12_turn_109 n d (f_X12_turn n) S a1 a2 a5 = some (x, S1) := H
  unfold b_X12_turn_109 at H
  refine GA.iload dX12_turn_109 rfl ?_
  obtain ⟨hg1, H⟩ := gg_e H
  refine GV.if_lt (tgt := 150) hg1 dX12_turn_111 (by decide) (fun c2 => ?_) (fun c2 => ?_)
  · have H := it_t H c2
    refine GA.locals [(0, .ref (L 500))] ⟨rfl, trivial⟩ ?_
    exact ih_X12_turn_150 hL _ _ _ _ H
  · have H := it_f H c2
    refine GA.aload_n dX12_turn_114 rfl ?_
    obtain ⟨x3, hx4, H⟩ := gv_e H
    refine GV.getB hx4 xf_X12_714 dX12_turn_115 (gs_500 hL) (by decide) rfl ?_
    obtain ⟨hg5, H⟩ := gg_e H
    refine GV.if_ne (tgt := 150) hg5 dX12_turn_118 (by decide) (fun c6 => ?_) (fun c6 => ?_)
    · have H := it_t H c6
      refine GA.locals [(0, .ref (L 500))] ⟨rfl, trivial⟩ ?_
      exact ih_X12_turn_150 hL _ _ _ _ H
    · have H := it_f H c6
      refine GA.aload_n dX12_turn_121 rfl ?_
      refine GA.iload_n dX12_turn_122 rfl ?_
      refine GA.iload_n dX12_turn_123 rfl ?_
      refine GA.iload dX12_turn_124 rfl ?_
      obtain ⟨hg7, H⟩ := gg_e H
      obtain ⟨x8, S_9, hc10, H⟩ := gc_e H
      refine GA.callV (m_X12_lays hL hc10) xs_X12_711 dX12_turn_126 (gs_500 hL) (by decide) rfl rfl (by omega) (by decide) rfl (Nat.le_of_ble_eq_true rfl) (by omega) (by omega) rfl (fun E S9 hx => hx.elim) (fun v S9 hq => ?_)
      obtain ⟨rfl, rfl⟩ := hq
      refine GA.istore dX12_turn_129 (by decide) ?_
      refine GA.aload_n dX12_turn_131 rfl ?_
      refine GA.iload_n dX12_turn_132 rfl ?_
      refine GA.aload_n dX12_turn_133 rfl ?_
      refine GA.iload_n dX12_turn_134 rfl ?_
      refine GA.iconst dX12_turn_135 ?_
      refine GA.iload dX12_turn_136 rfl ?_
      obtain ⟨x11, S_12, hc13, H⟩ := gc_e H
      refine GA.callV (m_X12_childAt hL hc13) xs_X12_616 dX12_turn_138 (gs_500 hL) (by decide) rfl rfl (by omega) (by decide) rfl (Nat.le_of_ble_eq_true rfl) (by omega) (by omega) rfl (fun E S9 hx => hx.elim) (fun v S9 hq => ?_)
      obtain ⟨rfl, rfl⟩ := hq
      obtain ⟨x14, S_15, hc16, H⟩ := gc_e H
      refine GA.callV (m_X12_undoes hL hc16) xs_X12_753 dX12_turn_141 (gs_500 hL) (by decide) rfl rfl (by omega) (by decide) rfl (Nat.le_of_ble_eq_true rfl) (by omega) (by omega) rfl (fun E S9 hx => hx.elim) (fun v S9 hq => ?_)
      obtain ⟨rfl, rfl⟩ := hq
      obtain ⟨x17, hx18, H⟩ := gv_e H
      refine GV.iinc hx18 dX12_turn_144 rfl (by decide) ?_
      refine GA.goto (tgt := 109) dX12_turn_147 (by decide) ?_
      refine GA.locals [(0, .ref (L 500)), (1, .int (J a1)), (2, .int (J a2)), (5, .int (J x17))] ⟨rfl, rfl, rfl, rfl, trivial⟩ ?_
      exact ih_X12_turn_109 hL _ _ (a1) (a2) (x17) _ _ H
set_option maxHeartbeats 4000000 in
set_option maxRecDepth 20000 in
theorem t_X12_turn_150 {l : Launch} {Z : XZ} {L : Nat → Nat} (n : Nat) (ih_X12_turn_0 : P_X12_turn_0 l Z L n) (ih_X12_turn_22 : P_X12_turn_22 l Z L n) (ih_X12_turn_75 : P_X12_turn_75 l Z L n) (ih_X12_turn_109 : P_X12_turn_109 l Z L n) (ih_X12_turn_150 : P_X12_turn_150 l Z L n) : P_X12_turn_150 l Z L (n + 1) := by
  intro hL d S  x S1 H
  have H : b_X12_turn_150 n d (f_X12_turn n) S  = some (x, S1) := H
  unfold b_X12_turn_150 at H
  refine GA.aload_n dX12_turn_150 rfl ?_
  refine GA.aload_n dX12_turn_151 rfl ?_
  obtain ⟨x1, hx2, H⟩ := gv_e H
  refine GV.getB hx2 xf_X12_714 dX12_turn_152 (gs_500 hL) (by decide) rfl ?_
  obtain ⟨hg3, H⟩ := gg_e H
  obtain ⟨S_4, hx5, H⟩ := gv_e H
  refine GV.putB hg3 hx5 (xp_X12_29 (xb_01 _)) dX12_turn_155 (gs_500 hL) (by decide) (Nat.le_of_ble_eq_true rfl) (gs_500 hL) ?_
  refine GA.aload_n dX12_turn_158 rfl ?_
  refine GA.aload_n dX12_turn_159 rfl ?_
  refine GA.bipush dX12_turn_160 rfl ?_
  obtain ⟨hg6, H⟩ := gg_e H
  obtain ⟨x7, S_8, hc9, H⟩ := gc_e H
  refine GA.callV (m_X12_isWhole hL hc9) xs_X12_601 dX12_turn_162 (gs_500 hL) (by decide) rfl rfl (by omega) (by decide) rfl (Nat.le_of_ble_eq_true rfl) (by omega) (by omega) rfl (fun E S9 hx => hx.elim) (fun v S9 hq => ?_)
  obtain ⟨rfl, rfl⟩ := hq
  refine GA.iconst dX12_turn_165 ?_
  obtain ⟨x10, S_11, hc12, H⟩ := gc_e H
  refine GA.callV (m_X12_fails hL hc12) xs_X12_456 dX12_turn_166 (gs_500 hL) (by decide) rfl rfl (by omega) (by decide) rfl (Nat.le_of_ble_eq_true rfl) (by omega) (by omega) rfl (fun E S9 hx => hx.elim) (fun v S9 hq => ?_)
  obtain ⟨rfl, rfl⟩ := hq
  obtain ⟨hg13, H⟩ := gg_e H
  refine GV.if_eq (tgt := 176) hg13 dX12_turn_169 (by decide) (fun c14 => ?_) (fun c14 => ?_)
  · have H := it_t H c14
    refine GA.aload_n dX12_turn_176 rfl ?_
    refine GA.bipush dX12_turn_177 rfl ?_
    obtain ⟨x15, S_16, hc17, H⟩ := gc_e H
    refine GA.callV (m_X12_keeps hL hc17) xs_X12_536 dX12_turn_179 (gs_500 hL) (by decide) rfl rfl (by omega) (by decide) rfl (Nat.le_of_ble_eq_true rfl) (by omega) (by omega) rfl (fun E S9 hx => hx.elim) (fun v S9 hq => ?_)
    obtain ⟨rfl, rfl⟩ := hq
    cases H
    exact GA.iret rfl dX12_turn_182 (by omega) (by omega) ⟨rfl, rfl⟩
  · have H := it_f H c14
    refine GA.iconst dX12_turn_172 ?_
    refine GA.goto (tgt := 182) dX12_turn_173 (by decide) ?_
    cases H
    exact GA.iret rfl dX12_turn_182 (by omega) (by omega) ⟨rfl, rfl⟩
theorem g_X12_turn {l : Launch} {Z : XZ} {L : Nat → Nat} : ∀ n, P_X12_turn_0 l Z L n ∧ P_X12_turn_22 l Z L n ∧ P_X12_turn_75 l Z L n ∧ P_X12_turn_109 l Z L n ∧ P_X12_turn_150 l Z L n
  | 0 => ⟨fun _ _ _ _ _ _ _ H => no_e H, fun _ _ _ _ _ _ _ _ H => no_e H, fun _ _ _ _ _ _ _ _ _ H => no_e H, fun _ _ _ _ _ _ _ _ H => no_e H, fun _ _ _ _ _ H => no_e H⟩
  | n + 1 => have ⟨h0, h1, h2, h3, h4⟩ := g_X12_turn (l := l) (Z := Z) (L := L) n
    ⟨t_X12_turn_0 n h0 h1 h2 h3 h4, t_X12_turn_22 n h0 h1 h2 h3 h4, t_X12_turn_75 n h0 h1 h2 h3 h4, t_X12_turn_109 n h0 h1 h2 h3 h4, t_X12_turn_150 n h0 h1 h2 h3 h4⟩
theorem m_X12_turn {l : Launch} {Z : XZ} {L : Nat → Nat} (hL : L 700 = 1) {n d : Nat} {S : GS} {a1 : Int} {a2 : Int} {x : Int} {S1 : GS} (H : f_X12_turn n d 0 S [a1, a2] = some (x, S1)) : GM l Z L yX12_turn cX12_turn 7 (some .int) [] d 0 0 [.ref (L 500), .int (J a1), .int (J a2)] S (fun v S' => v = some (.int (J x)) ∧ S1 = S') (fun _ _ => False) := GM.of (by decide) (Nat.le_of_ble_eq_true rfl) ((g_X12_turn n).1 hL _ _ _ _ _ _ H)

def P_X12_undo_0 (l : Launch) (Z : XZ) (L : Nat → Nat) (n : Nat) : Prop := ∀ (hL : L 700 = 1), ∀ (d : Nat) (S : GS) (x : Int) (S1 : GS), f_X12_undo n d 0 S [] = some (x, S1) → GA l Z L yX12_undo cX12_undo 1 (some .int) [] d 0 0 (fun v S' => v = some (.int (J x)) ∧ S1 = S') (fun _ _ => False) 0 (gl [(0, .ref (L 500))]) [] S 0 0
def P_X12_undo_13 (l : Launch) (Z : XZ) (L : Nat → Nat) (n : Nat) : Prop := ∀ (hL : L 700 = 1), ∀ (d : Nat) (S : GS) (s0 : Int) (x : Int) (S1 : GS), f_X12_undo n d 13 S [s0] = some (x, S1) → GA l Z L yX12_undo cX12_undo 1 (some .int) [] d 0 0 (fun v S' => v = some (.int (J x)) ∧ S1 = S') (fun _ _ => False) 13 (gl [(0, .ref (L 500))]) [.int (J s0), .ref (L 500)] S 0 0
theorem i_X12_undo {l : Launch} {Z : XZ} {L : Nat → Nat} (hL : L 700 = 1) {n : Nat} (ih : P_X12_undo_0 l Z L n) {d : Nat} {S : GS} {x : Int} {S1 : GS} (H : f_X12_undo n d 0 S [] = some (x, S1)) : GM l Z L yX12_undo cX12_undo 1 (some .int) [] d 0 0 [.ref (L 500)] S (fun v S' => v = some (.int (J x)) ∧ S1 = S') (fun _ _ => False) := GM.of (by decide) (Nat.le_of_ble_eq_true rfl) (ih hL _ _ _ _ H)
set_option maxHeartbeats 4000000 in
set_option maxRecDepth 20000 in
theorem t_X12_undo_0 {l : Launch} {Z : XZ} {L : Nat → Nat} (n : Nat) (ih_X12_undo_0 : P_X12_undo_0 l Z L n) (ih_X12_undo_13 : P_X12_undo_13 l Z L n) : P_X12_undo_0 l Z L (n + 1) := by
  intro hL d S  x S1 H
  have H : b_X12_undo_0 n d (f_X12_undo n) S  = some (x, S1) := H
  unfold b_X12_undo_0 at H
  refine GA.aload_n dX12_undo_0 rfl ?_
  refine GA.aload_n dX12_undo_1 rfl ?_
  obtain ⟨x1, hx2, H⟩ := gv_e H
  refine GV.getI hx2 xf_X12_15 dX12_undo_2 (gs_500 hL) (by decide) rfl ?_
  obtain ⟨hg3, H⟩ := gg_e H
  refine GV.if_le (tgt := 12) hg3 dX12_undo_5 (by decide) (fun c4 => ?_) (fun c4 => ?_)
  · have H := it_t H c4
    refine GA.iconst dX12_undo_12 ?_
    refine GA.locals [(0, .ref (L 500))] ⟨rfl, trivial⟩ ?_
    exact ih_X12_undo_13 hL _ _ (0) _ _ H
  · have H := it_f H c4
    refine GA.iconst dX12_undo_8 ?_
    refine GA.goto (tgt := 13) dX12_undo_9 (by decide) ?_
    refine GA.locals [(0, .ref (L 500))] ⟨rfl, trivial⟩ ?_
    exact ih_X12_undo_13 hL _ _ (1) _ _ H
set_option maxHeartbeats 4000000 in
set_option maxRecDepth 20000 in
theorem t_X12_undo_13 {l : Launch} {Z : XZ} {L : Nat → Nat} (n : Nat) (ih_X12_undo_0 : P_X12_undo_0 l Z L n) (ih_X12_undo_13 : P_X12_undo_13 l Z L n) : P_X12_undo_13 l Z L (n + 1) := by
  intro hL d S s0 x S1 H
  have H : b_X12_undo_13 n d (f_X12_undo n) S s0 = some (x, S1) := H
  unfold b_X12_undo_13 at H
  refine GA.iconst dX12_undo_13 ?_
  obtain ⟨hg1, H⟩ := gg_e H
  obtain ⟨x2, S_3, hc4, H⟩ := gc_e H
  refine GA.callV (m_X12_fails hL hc4) xs_X12_456 dX12_undo_14 (gs_500 hL) (by decide) rfl rfl (by omega) (by decide) rfl (Nat.le_of_ble_eq_true rfl) (by omega) (by omega) rfl (fun E S9 hx => hx.elim) (fun v S9 hq => ?_)
  obtain ⟨rfl, rfl⟩ := hq
  obtain ⟨hg5, H⟩ := gg_e H
  refine GV.if_eq (tgt := 22) hg5 dX12_undo_17 (by decide) (fun c6 => ?_) (fun c6 => ?_)
  · have H := it_t H c6
    refine GA.aload_n dX12_undo_22 rfl ?_
    refine GA.dup dX12_undo_23 rfl ?_
    obtain ⟨x7, hx8, H⟩ := gv_e H
    refine GV.getI hx8 xf_X12_15 dX12_undo_24 (gs_500 hL) (by decide) rfl ?_
    refine GA.iconst dX12_undo_27 ?_
    obtain ⟨x9, hx10, H⟩ := gv_e H
    refine GV.isub hx10 dX12_undo_28 ?_
    obtain ⟨S_11, hx12, H⟩ := gv_e H
    refine GV.putI hx12 (xp_X12_15 _) dX12_undo_29 (gs_500 hL) (by decide) (Nat.le_of_ble_eq_true rfl) (gs_500 hL) ?_
    refine GA.aload_n dX12_undo_32 rfl ?_
    obtain ⟨x13, hx14, H⟩ := gv_e H
    refine GV.getI hx14 xf_X12_15 dX12_undo_33 (gs_500 hL) (by decide) rfl ?_
    cases H
    exact GA.iret rfl dX12_undo_36 (by omega) (by omega) ⟨rfl, rfl⟩
  · have H := it_f H c6
    refine GA.iconst dX12_undo_20 ?_
    cases H
    exact GA.iret rfl dX12_undo_21 (by omega) (by omega) ⟨rfl, rfl⟩
theorem g_X12_undo {l : Launch} {Z : XZ} {L : Nat → Nat} : ∀ n, P_X12_undo_0 l Z L n ∧ P_X12_undo_13 l Z L n
  | 0 => ⟨fun _ _ _ _ _ H => no_e H, fun _ _ _ _ _ _ H => no_e H⟩
  | n + 1 => have ⟨h0, h1⟩ := g_X12_undo (l := l) (Z := Z) (L := L) n
    ⟨t_X12_undo_0 n h0 h1, t_X12_undo_13 n h0 h1⟩
theorem m_X12_undo {l : Launch} {Z : XZ} {L : Nat → Nat} (hL : L 700 = 1) {n d : Nat} {S : GS} {x : Int} {S1 : GS} (H : f_X12_undo n d 0 S [] = some (x, S1)) : GM l Z L yX12_undo cX12_undo 1 (some .int) [] d 0 0 [.ref (L 500)] S (fun v S' => v = some (.int (J x)) ∧ S1 = S') (fun _ _ => False) := GM.of (by decide) (Nat.le_of_ble_eq_true rfl) ((g_X12_undo n).1 hL _ _ _ _ H)

def P_X12_vary_0 (l : Launch) (Z : XZ) (L : Nat → Nat) (n : Nat) : Prop := ∀ (hL : L 700 = 1), ∀ (d : Nat) (S : GS) (a1 : Int) (a2 : Int) (x : Int) (S1 : GS), f_X12_vary n d 0 S [a1, a2] = some (x, S1) → GA l Z L yX12_vary cX12_vary 4 (some .int) [] d 0 0 (fun v S' => v = some (.int (J x)) ∧ S1 = S') (fun _ _ => False) 0 (gl [(0, .ref (L 500)), (1, .int (J a1)), (2, .int (J a2))]) [] S 0 0
def P_X12_vary_88 (l : Launch) (Z : XZ) (L : Nat → Nat) (n : Nat) : Prop := ∀ (hL : L 700 = 1), ∀ (d : Nat) (S : GS) (s0 : Int) (x : Int) (S1 : GS), f_X12_vary n d 88 S [s0] = some (x, S1) → GA l Z L yX12_vary cX12_vary 4 (some .int) [] d 0 0 (fun v S' => v = some (.int (J x)) ∧ S1 = S') (fun _ _ => False) 88 (gl [(0, .ref (L 500))]) [.int (J s0), .ref (L 500)] S 0 0
theorem i_X12_vary {l : Launch} {Z : XZ} {L : Nat → Nat} (hL : L 700 = 1) {n : Nat} (ih : P_X12_vary_0 l Z L n) {d : Nat} {S : GS} {a1 : Int} {a2 : Int} {x : Int} {S1 : GS} (H : f_X12_vary n d 0 S [a1, a2] = some (x, S1)) : GM l Z L yX12_vary cX12_vary 4 (some .int) [] d 0 0 [.ref (L 500), .int (J a1), .int (J a2)] S (fun v S' => v = some (.int (J x)) ∧ S1 = S') (fun _ _ => False) := GM.of (by decide) (Nat.le_of_ble_eq_true rfl) (ih hL _ _ _ _ _ _ H)
set_option maxHeartbeats 4000000 in
set_option maxRecDepth 20000 in
theorem t_X12_vary_0 {l : Launch} {Z : XZ} {L : Nat → Nat} (n : Nat) (ih_X12_vary_0 : P_X12_vary_0 l Z L n) (ih_X12_vary_88 : P_X12_vary_88 l Z L n) : P_X12_vary_0 l Z L (n + 1) := by
  intro hL d S a1 a2 x S1 H
  have H : b_X12_vary_0 n d (f_X12_vary n) S a1 a2 = some (x, S1) := H
  unfold b_X12_vary_0 at H
  refine GA.aload_n dX12_vary_0 rfl ?_
  refine GA.aload_n dX12_vary_1 rfl ?_
  refine GA.iload_n dX12_vary_2 rfl ?_
  obtain ⟨hg1, H⟩ := gg_e H
  obtain ⟨x2, S_3, hc4, H⟩ := gc_e H
  refine GA.callV (m_X12_isDoc hL hc4) xs_X12_22 dX12_vary_3 (gs_500 hL) (by decide) rfl rfl (by omega) (by decide) rfl (Nat.le_of_ble_eq_true rfl) (by omega) (by omega) rfl (fun E S9 hx => hx.elim) (fun v S9 hq => ?_)
  obtain ⟨rfl, rfl⟩ := hq
  refine GA.iconst dX12_vary_6 ?_
  obtain ⟨x5, S_6, hc7, H⟩ := gc_e H
  refine GA.callV (m_X12_fails hL hc7) xs_X12_456 dX12_vary_7 (gs_500 hL) (by decide) rfl rfl (by omega) (by decide) rfl (Nat.le_of_ble_eq_true rfl) (by omega) (by omega) rfl (fun E S9 hx => hx.elim) (fun v S9 hq => ?_)
  obtain ⟨rfl, rfl⟩ := hq
  obtain ⟨hg8, H⟩ := gg_e H
  refine GV.if_ne (tgt := 29) hg8 dX12_vary_10 (by decide) (fun c9 => ?_) (fun c9 => ?_)
  · have H := it_t H c9
    refine GA.iconst dX12_vary_29 ?_
    cases H
    exact GA.iret rfl dX12_vary_30 (by omega) (by omega) ⟨rfl, rfl⟩
  · have H := it_f H c9
    refine GA.aload_n dX12_vary_13 rfl ?_
    refine GA.iload_n dX12_vary_14 rfl ?_
    refine GA.iconst dX12_vary_15 ?_
    refine GA.ldcw (v := 65535) xc_X12_871 dX12_vary_16 ?_
    obtain ⟨x10, S_11, hc12, H⟩ := gc_e H
    refine GA.callS (m_X12_in hL hc12) xs_X12_18 dX12_vary_19 rfl (by omega) (by decide) rfl (Nat.le_of_ble_eq_true rfl) (by omega) (by omega) rfl (fun E S9 hx => hx.elim) (fun v S9 hq => ?_)
    obtain ⟨rfl, rfl⟩ := hq
    refine GA.iconst dX12_vary_22 ?_
    obtain ⟨x13, S_14, hc15, H⟩ := gc_e H
    refine GA.callV (m_X12_fails hL hc15) xs_X12_456 dX12_vary_23 (gs_500 hL) (by decide) rfl rfl (by omega) (by decide) rfl (Nat.le_of_ble_eq_true rfl) (by omega) (by omega) rfl (fun E S9 hx => hx.elim) (fun v S9 hq => ?_)
    obtain ⟨rfl, rfl⟩ := hq
    obtain ⟨hg16, H⟩ := gg_e H
    refine GV.if_eq (tgt := 31) hg16 dX12_vary_26 (by decide) (fun c17 => ?_) (fun c17 => ?_)
    · have H := it_t H c17
      refine GA.aload_n dX12_vary_31 rfl ?_
      refine GA.iload_n dX12_vary_32 rfl ?_
      obtain ⟨S_18, hx19, H⟩ := gv_e H
      refine GV.putI hx19 (xp_X12_861 _) dX12_vary_33 (gs_500 hL) (by decide) (Nat.le_of_ble_eq_true rfl) (gs_500 hL) ?_
      refine GA.aload_n dX12_vary_36 rfl ?_
      refine GA.aload_n dX12_vary_37 rfl ?_
      refine GA.get xf_X12_26 dX12_vary_38 (gs_500 hL) (by decide) rfl ?_
      refine GA.iload_n dX12_vary_41 rfl ?_
      obtain ⟨hg20, H⟩ := gg_e H
      obtain ⟨x21, hx22, H⟩ := gv_e H
      refine GV.iald hg20 hx22 dX12_vary_42 (gs_502 hL) (by decide) ?_
      obtain ⟨x23, S_24, hc25, H⟩ := gc_e H
      refine GA.callV (m_X12_draw hL hc25) xs_X12_865 dX12_vary_43 (gs_500 hL) (by decide) rfl rfl (by omega) (by decide) rfl (Nat.le_of_ble_eq_true rfl) (by omega) (by omega) rfl (fun E S9 hx => hx.elim) (fun v S9 hq => ?_)
      obtain ⟨rfl, rfl⟩ := hq
      refine GA.istore_n dX12_vary_46 (by decide) ?_
      refine GA.aload_n dX12_vary_47 rfl ?_
      refine GA.iconst dX12_vary_48 ?_
      refine GA.iconst dX12_vary_49 ?_
      obtain ⟨x26, S_27, hc28, H⟩ := gc_e H
      refine GA.callV (m_X12_grows hL hc28) xs_X12_872 dX12_vary_50 (gs_500 hL) (by decide) rfl rfl (by omega) (by decide) rfl (Nat.le_of_ble_eq_true rfl) (by omega) (by omega) rfl (fun E S9 hx => hx.elim) (fun v S9 hq => ?_)
      obtain ⟨rfl, rfl⟩ := hq
      refine GA.aload_n dX12_vary_53 rfl ?_
      refine GA.bipush dX12_vary_54 rfl ?_
      refine GA.iload_n dX12_vary_56 rfl ?_
      refine GA.iload_n dX12_vary_57 rfl ?_
      refine GA.bipush dX12_vary_58 rfl ?_
      refine GA.iconst dX12_vary_60 ?_
      obtain ⟨x29, S_30, hc31, H⟩ := gc_e H
      refine GA.callV (m_X12_replaced hL hc31) xs_X12_666 dX12_vary_61 (gs_500 hL) (by decide) rfl rfl (by omega) (by decide) rfl (Nat.le_of_ble_eq_true rfl) (by omega) (by omega) rfl (fun E S9 hx => hx.elim) (fun v S9 hq => ?_)
      obtain ⟨rfl, rfl⟩ := hq
      refine GA.aload_n dX12_vary_64 rfl ?_
      refine GA.aload_n dX12_vary_65 rfl ?_
      refine GA.bipush dX12_vary_66 rfl ?_
      obtain ⟨x32, S_33, hc34, H⟩ := gc_e H
      refine GA.callV (m_X12_isWhole hL hc34) xs_X12_601 dX12_vary_68 (gs_500 hL) (by decide) rfl rfl (by omega) (by decide) rfl (Nat.le_of_ble_eq_true rfl) (by omega) (by omega) rfl (fun E S9 hx => hx.elim) (fun v S9 hq => ?_)
      obtain ⟨rfl, rfl⟩ := hq
      obtain ⟨hg35, H⟩ := gg_e H
      refine GV.if_eq (tgt := 87) hg35 dX12_vary_71 (by decide) (fun c36 => ?_) (fun c36 => ?_)
      · have H := it_t H c36
        refine GA.iconst dX12_vary_87 ?_
        refine GA.locals [(0, .ref (L 500))] ⟨rfl, trivial⟩ ?_
        exact ih_X12_vary_88 hL _ _ (0) _ _ H
      · have H := it_f H c36
        refine GA.aload_n dX12_vary_74 rfl ?_
        obtain ⟨x37, hx38, H⟩ := gv_e H
        refine GV.getI hx38 xf_X12_15 dX12_vary_75 (gs_500 hL) (by decide) rfl ?_
        refine GA.bipush dX12_vary_78 rfl ?_
        obtain ⟨hg39, H⟩ := gg_e H
        refine GV.icmp_ge (tgt := 87) hg39 (by decide) dX12_vary_80 (by decide) (fun c40 => ?_) (fun c40 => ?_)
        · have H := it_t H c40
          refine GA.iconst dX12_vary_87 ?_
          refine GA.locals [(0, .ref (L 500))] ⟨rfl, trivial⟩ ?_
          exact ih_X12_vary_88 hL _ _ (0) _ _ H
        · have H := it_f H c40
          refine GA.iconst dX12_vary_83 ?_
          refine GA.goto (tgt := 88) dX12_vary_84 (by decide) ?_
          refine GA.locals [(0, .ref (L 500))] ⟨rfl, trivial⟩ ?_
          exact ih_X12_vary_88 hL _ _ (1) _ _ H
    · have H := it_f H c17
      refine GA.iconst dX12_vary_29 ?_
      cases H
      exact GA.iret rfl dX12_vary_30 (by omega) (by omega) ⟨rfl, rfl⟩
set_option maxHeartbeats 4000000 in
set_option maxRecDepth 20000 in
theorem t_X12_vary_88 {l : Launch} {Z : XZ} {L : Nat → Nat} (n : Nat) (ih_X12_vary_0 : P_X12_vary_0 l Z L n) (ih_X12_vary_88 : P_X12_vary_88 l Z L n) : P_X12_vary_88 l Z L (n + 1) := by
  intro hL d S s0 x S1 H
  have H : b_X12_vary_88 n d (f_X12_vary n) S s0 = some (x, S1) := H
  unfold b_X12_vary_88 at H
  refine GA.iconst dX12_vary_88 ?_
  obtain ⟨hg1, H⟩ := gg_e H
  obtain ⟨x2, S_3, hc4, H⟩ := gc_e H
  refine GA.callV (m_X12_fails hL hc4) xs_X12_456 dX12_vary_89 (gs_500 hL) (by decide) rfl rfl (by omega) (by decide) rfl (Nat.le_of_ble_eq_true rfl) (by omega) (by omega) rfl (fun E S9 hx => hx.elim) (fun v S9 hq => ?_)
  obtain ⟨rfl, rfl⟩ := hq
  obtain ⟨hg5, H⟩ := gg_e H
  refine GV.if_eq (tgt := 99) hg5 dX12_vary_92 (by decide) (fun c6 => ?_) (fun c6 => ?_)
  · have H := it_t H c6
    refine GA.aload_n dX12_vary_99 rfl ?_
    refine GA.bipush dX12_vary_100 rfl ?_
    obtain ⟨x7, S_8, hc9, H⟩ := gc_e H
    refine GA.callV (m_X12_keeps hL hc9) xs_X12_536 dX12_vary_102 (gs_500 hL) (by decide) rfl rfl (by omega) (by decide) rfl (Nat.le_of_ble_eq_true rfl) (by omega) (by omega) rfl (fun E S9 hx => hx.elim) (fun v S9 hq => ?_)
    obtain ⟨rfl, rfl⟩ := hq
    cases H
    exact GA.iret rfl dX12_vary_105 (by omega) (by omega) ⟨rfl, rfl⟩
  · have H := it_f H c6
    refine GA.iconst dX12_vary_95 ?_
    refine GA.goto (tgt := 105) dX12_vary_96 (by decide) ?_
    cases H
    exact GA.iret rfl dX12_vary_105 (by omega) (by omega) ⟨rfl, rfl⟩
theorem g_X12_vary {l : Launch} {Z : XZ} {L : Nat → Nat} : ∀ n, P_X12_vary_0 l Z L n ∧ P_X12_vary_88 l Z L n
  | 0 => ⟨fun _ _ _ _ _ _ _ H => no_e H, fun _ _ _ _ _ _ H => no_e H⟩
  | n + 1 => have ⟨h0, h1⟩ := g_X12_vary (l := l) (Z := Z) (L := L) n
    ⟨t_X12_vary_0 n h0 h1, t_X12_vary_88 n h0 h1⟩
theorem m_X12_vary {l : Launch} {Z : XZ} {L : Nat → Nat} (hL : L 700 = 1) {n d : Nat} {S : GS} {a1 : Int} {a2 : Int} {x : Int} {S1 : GS} (H : f_X12_vary n d 0 S [a1, a2] = some (x, S1)) : GM l Z L yX12_vary cX12_vary 4 (some .int) [] d 0 0 [.ref (L 500), .int (J a1), .int (J a2)] S (fun v S' => v = some (.int (J x)) ∧ S1 = S') (fun _ _ => False) := GM.of (by decide) (Nat.le_of_ble_eq_true rfl) ((g_X12_vary n).1 hL _ _ _ _ _ _ H)

def P_X12_wipe_0 (l : Launch) (Z : XZ) (L : Nat → Nat) (n : Nat) : Prop := ∀ (hL : L 700 = 1), ∀ (d : Nat) (S : GS) (x : Int) (S1 : GS), f_X12_wipe n d 0 S [] = some (x, S1) → GA l Z L yX12_wipe cX12_wipe 2 (some .int) [] d 0 0 (fun v S' => v = some (.int (J x)) ∧ S1 = S') (fun _ _ => False) 0 (gl [(0, .ref (L 500))]) [] S 0 0
theorem i_X12_wipe {l : Launch} {Z : XZ} {L : Nat → Nat} (hL : L 700 = 1) {n : Nat} (ih : P_X12_wipe_0 l Z L n) {d : Nat} {S : GS} {x : Int} {S1 : GS} (H : f_X12_wipe n d 0 S [] = some (x, S1)) : GM l Z L yX12_wipe cX12_wipe 2 (some .int) [] d 0 0 [.ref (L 500)] S (fun v S' => v = some (.int (J x)) ∧ S1 = S') (fun _ _ => False) := GM.of (by decide) (Nat.le_of_ble_eq_true rfl) (ih hL _ _ _ _ H)
set_option maxHeartbeats 4000000 in
set_option maxRecDepth 20000 in
theorem t_X12_wipe_0 {l : Launch} {Z : XZ} {L : Nat → Nat} (n : Nat) (ih_X12_wipe_0 : P_X12_wipe_0 l Z L n) : P_X12_wipe_0 l Z L (n + 1) := by
  intro hL d S  x S1 H
  have H : b_X12_wipe_0 n d (f_X12_wipe n) S  = some (x, S1) := H
  unfold b_X12_wipe_0 at H
  refine GA.aload_n dX12_wipe_0 rfl ?_
  refine GA.iconst dX12_wipe_1 ?_
  obtain ⟨S_1, hx2, H⟩ := gv_e H
  refine GV.putI hx2 (xp_X12_1 _) dX12_wipe_2 (gs_500 hL) (by decide) (Nat.le_of_ble_eq_true rfl) (gs_500 hL) ?_
  refine GA.aload_n dX12_wipe_5 rfl ?_
  obtain ⟨x3, hx4, H⟩ := gv_e H
  refine GV.getI hx4 xf_X12_460 dX12_wipe_6 (gs_500 hL) (by decide) rfl ?_
  refine GA.istore_n dX12_wipe_9 (by decide) ?_
  refine GA.aload_n dX12_wipe_10 rfl ?_
  refine GA.iconst dX12_wipe_11 ?_
  obtain ⟨S_5, hx6, H⟩ := gv_e H
  refine GV.putI hx6 (xp_X12_460 _) dX12_wipe_12 (gs_500 hL) (by decide) (Nat.le_of_ble_eq_true rfl) (gs_500 hL) ?_
  refine GA.iload_n dX12_wipe_15 rfl ?_
  cases H
  exact GA.iret rfl dX12_wipe_16 (by omega) (by omega) ⟨rfl, rfl⟩
theorem g_X12_wipe {l : Launch} {Z : XZ} {L : Nat → Nat} : ∀ n, P_X12_wipe_0 l Z L n
  | 0 => fun _ _ _ _ _ H => no_e H
  | n + 1 => t_X12_wipe_0 n (g_X12_wipe n)
theorem m_X12_wipe {l : Launch} {Z : XZ} {L : Nat → Nat} (hL : L 700 = 1) {n d : Nat} {S : GS} {x : Int} {S1 : GS} (H : f_X12_wipe n d 0 S [] = some (x, S1)) : GM l Z L yX12_wipe cX12_wipe 2 (some .int) [] d 0 0 [.ref (L 500)] S (fun v S' => v = some (.int (J x)) ∧ S1 = S') (fun _ _ => False) := GM.of (by decide) (Nat.le_of_ble_eq_true rfl) ((g_X12_wipe n) hL _ _ _ _ H)

def P_X12_write_0 (l : Launch) (Z : XZ) (L : Nat → Nat) (n : Nat) : Prop := ∀ (hL : L 700 = 1), ∀ (d : Nat) (S : GS) (a1 : Int) (a2 : Int) (x : Int) (S1 : GS), f_X12_write n d 0 S [a1, a2] = some (x, S1) → GA l Z L yX12_write cX12_write 7 (some .int) [] d 0 0 (fun v S' => v = some (.int (J x)) ∧ S1 = S') (fun _ _ => False) 0 (gl [(0, .ref (L 500)), (1, .int (J a1)), (2, .long (K a2))]) [] S 0 0
def P_X12_write_43 (l : Launch) (Z : XZ) (L : Nat → Nat) (n : Nat) : Prop := ∀ (hL : L 700 = 1), ∀ (d : Nat) (S : GS) (a1 : Int) (a2 : Int) (a4 : Int) (a5 : Int) (x : Int) (S1 : GS), f_X12_write n d 43 S [a1, a2, a4, a5] = some (x, S1) → GA l Z L yX12_write cX12_write 7 (some .int) [] d 0 0 (fun v S' => v = some (.int (J x)) ∧ S1 = S') (fun _ _ => False) 43 (gl [(0, .ref (L 500)), (1, .int (J a1)), (2, .long (K a2)), (4, .int (J a4)), (5, .int (J a5))]) [] S 0 0
def P_X12_write_104 (l : Launch) (Z : XZ) (L : Nat → Nat) (n : Nat) : Prop := ∀ (hL : L 700 = 1), ∀ (d : Nat) (S : GS) (a1 : Int) (a2 : Int) (a4 : Int) (x : Int) (S1 : GS), f_X12_write n d 104 S [a1, a2, a4] = some (x, S1) → GA l Z L yX12_write cX12_write 7 (some .int) [] d 0 0 (fun v S' => v = some (.int (J x)) ∧ S1 = S') (fun _ _ => False) 104 (gl [(0, .ref (L 500)), (1, .int (J a1)), (2, .long (K a2)), (4, .int (J a4))]) [] S 0 0
def P_X12_write_144 (l : Launch) (Z : XZ) (L : Nat → Nat) (n : Nat) : Prop := ∀ (hL : L 700 = 1), ∀ (d : Nat) (S : GS) (a1 : Int) (a2 : Int) (a5 : Int) (x : Int) (S1 : GS), f_X12_write n d 144 S [a1, a2, a5] = some (x, S1) → GA l Z L yX12_write cX12_write 7 (some .int) [] d 0 0 (fun v S' => v = some (.int (J x)) ∧ S1 = S') (fun _ _ => False) 144 (gl [(0, .ref (L 500)), (1, .int (J a1)), (2, .long (K a2)), (5, .int (J a5))]) [] S 0 0
theorem i_X12_write {l : Launch} {Z : XZ} {L : Nat → Nat} (hL : L 700 = 1) {n : Nat} (ih : P_X12_write_0 l Z L n) {d : Nat} {S : GS} {a1 : Int} {a2 : Int} {x : Int} {S1 : GS} (H : f_X12_write n d 0 S [a1, a2] = some (x, S1)) : GM l Z L yX12_write cX12_write 7 (some .int) [] d 0 0 [.ref (L 500), .int (J a1), .long (K a2)] S (fun v S' => v = some (.int (J x)) ∧ S1 = S') (fun _ _ => False) := GM.of (by decide) (Nat.le_of_ble_eq_true rfl) (ih hL _ _ _ _ _ _ H)
set_option maxHeartbeats 4000000 in
set_option maxRecDepth 20000 in
theorem t_X12_write_0 {l : Launch} {Z : XZ} {L : Nat → Nat} (n : Nat) (ih_X12_write_0 : P_X12_write_0 l Z L n) (ih_X12_write_43 : P_X12_write_43 l Z L n) (ih_X12_write_104 : P_X12_write_104 l Z L n) (ih_X12_write_144 : P_X12_write_144 l Z L n) : P_X12_write_0 l Z L (n + 1) := by
  intro hL d S a1 a2 x S1 H
  have H : b_X12_write_0 n d (f_X12_write n) S a1 a2 = some (x, S1) := H
  unfold b_X12_write_0 at H
  refine GA.iload_n dX12_write_0 rfl ?_
  refine GA.iconst dX12_write_1 ?_
  refine GA.bipush dX12_write_2 rfl ?_
  obtain ⟨hg1, H⟩ := gg_e H
  obtain ⟨x2, S_3, hc4, H⟩ := gc_e H
  refine GA.callS (m_X12_in hL hc4) xs_X12_18 dX12_write_4 rfl (by omega) (by decide) rfl (Nat.le_of_ble_eq_true rfl) (by omega) (by omega) rfl (fun E S9 hx => hx.elim) (fun v S9 hq => ?_)
  obtain ⟨rfl, rfl⟩ := hq
  obtain ⟨hg5, H⟩ := gg_e H
  refine GV.if_eq (tgt := 37) hg5 dX12_write_7 (by decide) (fun c6 => ?_) (fun c6 => ?_)
  · have H := it_t H c6
    refine GA.iconst dX12_write_37 ?_
    refine GA.istore dX12_write_38 (by decide) ?_
    refine GA.iconst dX12_write_40 ?_
    refine GA.istore dX12_write_41 (by decide) ?_
    refine GA.locals [(0, .ref (L 500)), (1, .int (J a1)), (2, .long (K a2)), (4, .int (J 0)), (5, .int (J 0))] ⟨rfl, rfl, rfl, rfl, rfl, trivial⟩ ?_
    exact ih_X12_write_43 hL _ _ (a1) (a2) (0) (0) _ _ H
  · have H := it_f H c6
    refine GA.lload_n dX12_write_10 rfl ?_
    refine GV.lconst (z := 0) (by decide) dX12_write_11 ?_
    obtain ⟨hg7, H⟩ := gg_e H
    obtain ⟨x8, hx9, H⟩ := gv_e H
    refine GV.lcmp hg7 (by decide) hx9 dX12_write_12 ?_
    obtain ⟨hg10, H⟩ := gg_e H
    refine GV.if_lt (tgt := 37) hg10 dX12_write_13 (by decide) (fun c11 => ?_) (fun c11 => ?_)
    · have H := it_t H c11
      refine GA.iconst dX12_write_37 ?_
      refine GA.istore dX12_write_38 (by decide) ?_
      refine GA.iconst dX12_write_40 ?_
      refine GA.istore dX12_write_41 (by decide) ?_
      refine GA.locals [(0, .ref (L 500)), (1, .int (J a1)), (2, .long (K a2)), (4, .int (J 0)), (5, .int (J 0))] ⟨rfl, rfl, rfl, rfl, rfl, trivial⟩ ?_
      exact ih_X12_write_43 hL _ _ (a1) (a2) (0) (0) _ _ H
    · have H := it_f H c11
      refine GA.iload_n dX12_write_16 rfl ?_
      refine GA.bipush dX12_write_17 rfl ?_
      obtain ⟨hg12, H⟩ := gg_e H
      refine GV.icmp_eq (tgt := 33) hg12 (by decide) dX12_write_19 (by decide) (fun c13 => ?_) (fun c13 => ?_)
      · have H := it_t H c13
        refine GA.iconst dX12_write_33 ?_
        refine GA.goto (tgt := 38) dX12_write_34 (by decide) ?_
        refine GA.istore dX12_write_38 (by decide) ?_
        refine GA.iconst dX12_write_40 ?_
        refine GA.istore dX12_write_41 (by decide) ?_
        refine GA.locals [(0, .ref (L 500)), (1, .int (J a1)), (2, .long (K a2)), (4, .int (J 1)), (5, .int (J 0))] ⟨rfl, rfl, rfl, rfl, rfl, trivial⟩ ?_
        exact ih_X12_write_43 hL _ _ (a1) (a2) (1) (0) _ _ H
      · have H := it_f H c13
        refine GA.lload_n dX12_write_22 rfl ?_
        refine GA.bipush dX12_write_23 rfl ?_
        refine GA.iload_n dX12_write_25 rfl ?_
        obtain ⟨x14, hx15, H⟩ := gv_e H
        refine GV.imul hx15 dX12_write_26 ?_
        obtain ⟨hg16, H⟩ := gg_e H
        obtain ⟨x17, hx18, H⟩ := gv_e H
        refine GV.lshr hg7 hg16 hx18 dX12_write_27 ?_
        refine GV.lconst (z := 0) (by decide) dX12_write_28 ?_
        obtain ⟨hg19, H⟩ := gg_e H
        obtain ⟨x20, hx21, H⟩ := gv_e H
        refine GV.lcmp hg19 (by decide) hx21 dX12_write_29 ?_
        obtain ⟨hg22, H⟩ := gg_e H
        refine GV.if_ne (tgt := 37) hg22 dX12_write_30 (by decide) (fun c23 => ?_) (fun c23 => ?_)
        · have H := it_t H c23
          refine GA.iconst dX12_write_37 ?_
          refine GA.istore dX12_write_38 (by decide) ?_
          refine GA.iconst dX12_write_40 ?_
          refine GA.istore dX12_write_41 (by decide) ?_
          refine GA.locals [(0, .ref (L 500)), (1, .int (J a1)), (2, .long (K a2)), (4, .int (J 0)), (5, .int (J 0))] ⟨rfl, rfl, rfl, rfl, rfl, trivial⟩ ?_
          exact ih_X12_write_43 hL _ _ (a1) (a2) (0) (0) _ _ H
        · have H := it_f H c23
          refine GA.iconst dX12_write_33 ?_
          refine GA.goto (tgt := 38) dX12_write_34 (by decide) ?_
          refine GA.istore dX12_write_38 (by decide) ?_
          refine GA.iconst dX12_write_40 ?_
          refine GA.istore dX12_write_41 (by decide) ?_
          refine GA.locals [(0, .ref (L 500)), (1, .int (J a1)), (2, .long (K a2)), (4, .int (J 1)), (5, .int (J 0))] ⟨rfl, rfl, rfl, rfl, rfl, trivial⟩ ?_
          exact ih_X12_write_43 hL _ _ (a1) (a2) (1) (0) _ _ H
set_option maxHeartbeats 4000000 in
set_option maxRecDepth 20000 in
theorem t_X12_write_43 {l : Launch} {Z : XZ} {L : Nat → Nat} (n : Nat) (ih_X12_write_0 : P_X12_write_0 l Z L n) (ih_X12_write_43 : P_X12_write_43 l Z L n) (ih_X12_write_104 : P_X12_write_104 l Z L n) (ih_X12_write_144 : P_X12_write_144 l Z L n) : P_X12_write_43 l Z L (n + 1) := by
  intro hL d S a1 a2 a4 a5 x S1 H
  have H : b_X12_write_43 n d (f_X12_write n) S a1 a2 a4 a5 = some (x, S1) := H
  unfold b_X12_write_43 at H
  refine GA.iload dX12_write_43 rfl ?_
  refine GA.iload_n dX12_write_45 rfl ?_
  obtain ⟨hg1, H⟩ := gg_e H
  obtain ⟨hg2, H⟩ := gg_e H
  refine GV.icmp_ge (tgt := 104) hg1 hg2 dX12_write_46 (by decide) (fun c3 => ?_) (fun c3 => ?_)
  · have H := it_t H c3
    refine GA.locals [(0, .ref (L 500)), (1, .int (J a1)), (2, .long (K a2)), (4, .int (J a4))] ⟨rfl, rfl, rfl, rfl, trivial⟩ ?_
    exact ih_X12_write_104 hL _ _ (a1) (a2) (a4) _ _ H
  · have H := it_f H c3
    refine GA.iload dX12_write_49 rfl ?_
    obtain ⟨hg4, H⟩ := gg_e H
    refine GV.if_eq (tgt := 104) hg4 dX12_write_51 (by decide) (fun c5 => ?_) (fun c5 => ?_)
    · have H := it_t H c5
      refine GA.locals [(0, .ref (L 500)), (1, .int (J a1)), (2, .long (K a2)), (4, .int (J a4))] ⟨rfl, rfl, rfl, rfl, trivial⟩ ?_
      exact ih_X12_write_104 hL _ _ (a1) (a2) (a4) _ _ H
    · have H := it_f H c5
      refine GA.lload_n dX12_write_54 rfl ?_
      refine GA.bipush dX12_write_55 rfl ?_
      refine GA.iload_n dX12_write_57 rfl ?_
      refine GA.iconst dX12_write_58 ?_
      obtain ⟨x6, hx7, H⟩ := gv_e H
      refine GV.isub hx7 dX12_write_59 ?_
      refine GA.iload dX12_write_60 rfl ?_
      obtain ⟨x8, hx9, H⟩ := gv_e H
      refine GV.isub hx9 dX12_write_62 ?_
      obtain ⟨x10, hx11, H⟩ := gv_e H
      refine GV.imul hx11 dX12_write_63 ?_
      obtain ⟨hg12, H⟩ := gg_e H
      obtain ⟨hg13, H⟩ := gg_e H
      obtain ⟨x14, hx15, H⟩ := gv_e H
      refine GV.lshr hg13 hg12 hx15 dX12_write_64 ?_
      refine GV.ldc2 (z := 255) (by decide) xc_X12_72 dX12_write_65 ?_
      obtain ⟨x16, hx17, H⟩ := gv_e H
      refine GV.land hx17 dX12_write_68 ?_
      refine GV.l2i dX12_write_69 ?_
      refine GA.istore dX12_write_70 (by decide) ?_
      refine GA.iload dX12_write_72 rfl ?_
      refine GA.bipush dX12_write_74 rfl ?_
      obtain ⟨hg18, H⟩ := gg_e H
      refine GV.icmp_eq (tgt := 91) hg18 (by decide) dX12_write_76 (by decide) (fun c19 => ?_) (fun c19 => ?_)
      · have H := it_t H c19
        refine GA.iconst dX12_write_91 ?_
        refine GA.goto (tgt := 96) dX12_write_92 (by decide) ?_
        refine GA.istore dX12_write_96 (by decide) ?_
        obtain ⟨x20, hx21, H⟩ := gv_e H
        refine GV.iinc hx21 dX12_write_98 rfl (by decide) ?_
        refine GA.goto (tgt := 43) dX12_write_101 (by decide) ?_
        refine GA.locals [(0, .ref (L 500)), (1, .int (J a1)), (2, .long (K a2)), (4, .int (J 1)), (5, .int (J x20))] ⟨rfl, rfl, rfl, rfl, rfl, trivial⟩ ?_
        exact ih_X12_write_43 hL _ _ (a1) (a2) (1) (x20) _ _ H
      · have H := it_f H c19
        refine GA.iload dX12_write_79 rfl ?_
        refine GA.bipush dX12_write_81 rfl ?_
        refine GA.bipush dX12_write_83 rfl ?_
        obtain ⟨hg22, H⟩ := gg_e H
        obtain ⟨x23, S_24, hc25, H⟩ := gc_e H
        refine GA.callS (m_X12_in hL hc25) xs_X12_18 dX12_write_85 rfl (by omega) (by decide) rfl (Nat.le_of_ble_eq_true rfl) (by omega) (by omega) rfl (fun E S9 hx => hx.elim) (fun v S9 hq => ?_)
        obtain ⟨rfl, rfl⟩ := hq
        obtain ⟨hg26, H⟩ := gg_e H
        refine GV.if_eq (tgt := 95) hg26 dX12_write_88 (by decide) (fun c27 => ?_) (fun c27 => ?_)
        · have H := it_t H c27
          refine GA.iconst dX12_write_95 ?_
          refine GA.istore dX12_write_96 (by decide) ?_
          obtain ⟨x28, hx29, H⟩ := gv_e H
          refine GV.iinc hx29 dX12_write_98 rfl (by decide) ?_
          refine GA.goto (tgt := 43) dX12_write_101 (by decide) ?_
          refine GA.locals [(0, .ref (L 500)), (1, .int (J a1)), (2, .long (K a2)), (4, .int (J 0)), (5, .int (J x28))] ⟨rfl, rfl, rfl, rfl, rfl, trivial⟩ ?_
          exact ih_X12_write_43 hL _ _ (a1) (a2) (0) (x28) _ _ H
        · have H := it_f H c27
          refine GA.iconst dX12_write_91 ?_
          refine GA.goto (tgt := 96) dX12_write_92 (by decide) ?_
          refine GA.istore dX12_write_96 (by decide) ?_
          obtain ⟨x30, hx31, H⟩ := gv_e H
          refine GV.iinc hx31 dX12_write_98 rfl (by decide) ?_
          refine GA.goto (tgt := 43) dX12_write_101 (by decide) ?_
          refine GA.locals [(0, .ref (L 500)), (1, .int (J a1)), (2, .long (K a2)), (4, .int (J 1)), (5, .int (J x30))] ⟨rfl, rfl, rfl, rfl, rfl, trivial⟩ ?_
          exact ih_X12_write_43 hL _ _ (a1) (a2) (1) (x30) _ _ H
set_option maxHeartbeats 4000000 in
set_option maxRecDepth 20000 in
theorem t_X12_write_104 {l : Launch} {Z : XZ} {L : Nat → Nat} (n : Nat) (ih_X12_write_0 : P_X12_write_0 l Z L n) (ih_X12_write_43 : P_X12_write_43 l Z L n) (ih_X12_write_104 : P_X12_write_104 l Z L n) (ih_X12_write_144 : P_X12_write_144 l Z L n) : P_X12_write_104 l Z L (n + 1) := by
  intro hL d S a1 a2 a4 x S1 H
  have H : b_X12_write_104 n d (f_X12_write n) S a1 a2 a4 = some (x, S1) := H
  unfold b_X12_write_104 at H
  refine GA.aload_n dX12_write_104 rfl ?_
  refine GA.iload dX12_write_105 rfl ?_
  refine GA.iconst dX12_write_107 ?_
  obtain ⟨hg1, H⟩ := gg_e H
  obtain ⟨x2, S_3, hc4, H⟩ := gc_e H
  refine GA.callV (m_X12_fails hL hc4) xs_X12_456 dX12_write_108 (gs_500 hL) (by decide) rfl rfl (by omega) (by decide) rfl (Nat.le_of_ble_eq_true rfl) (by omega) (by omega) rfl (fun E S9 hx => hx.elim) (fun v S9 hq => ?_)
  obtain ⟨rfl, rfl⟩ := hq
  obtain ⟨hg5, H⟩ := gg_e H
  refine GV.if_ne (tgt := 139) hg5 dX12_write_111 (by decide) (fun c6 => ?_) (fun c6 => ?_)
  · have H := it_t H c6
    refine GA.iconst dX12_write_139 ?_
    cases H
    exact GA.iret rfl dX12_write_140 (by omega) (by omega) ⟨rfl, rfl⟩
  · have H := it_f H c6
    refine GA.aload_n dX12_write_114 rfl ?_
    refine GA.aload_n dX12_write_115 rfl ?_
    obtain ⟨x7, hx8, H⟩ := gv_e H
    refine GV.getI hx8 xf_X12_460 dX12_write_116 (gs_500 hL) (by decide) rfl ?_
    refine GA.iload_n dX12_write_119 rfl ?_
    obtain ⟨x9, hx10, H⟩ := gv_e H
    refine GV.iadd hx10 dX12_write_120 ?_
    refine GA.sipush dX12_write_121 rfl ?_
    obtain ⟨hg11, H⟩ := gg_e H
    refine GV.icmp_gt (tgt := 131) hg11 (by decide) dX12_write_124 (by decide) (fun c12 => ?_) (fun c12 => ?_)
    · have H := it_t H c12
      refine GA.iconst dX12_write_131 ?_
      refine GA.iconst dX12_write_132 ?_
      obtain ⟨x13, S_14, hc15, H⟩ := gc_e H
      refine GA.callV (m_X12_fails hL hc15) xs_X12_456 dX12_write_133 (gs_500 hL) (by decide) rfl rfl (by omega) (by decide) rfl (Nat.le_of_ble_eq_true rfl) (by omega) (by omega) rfl (fun E S9 hx => hx.elim) (fun v S9 hq => ?_)
      obtain ⟨rfl, rfl⟩ := hq
      obtain ⟨hg16, H⟩ := gg_e H
      refine GV.if_eq (tgt := 141) hg16 dX12_write_136 (by decide) (fun c17 => ?_) (fun c17 => ?_)
      · have H := it_t H c17
        refine GA.iconst dX12_write_141 ?_
        refine GA.istore dX12_write_142 (by decide) ?_
        refine GA.locals [(0, .ref (L 500)), (1, .int (J a1)), (2, .long (K a2)), (5, .int (J 0))] ⟨rfl, rfl, rfl, rfl, trivial⟩ ?_
        exact ih_X12_write_144 hL _ _ (a1) (a2) (0) _ _ H
      · have H := it_f H c17
        refine GA.iconst dX12_write_139 ?_
        cases H
        exact GA.iret rfl dX12_write_140 (by omega) (by omega) ⟨rfl, rfl⟩
    · have H := it_f H c12
      refine GA.iconst dX12_write_127 ?_
      refine GA.goto (tgt := 132) dX12_write_128 (by decide) ?_
      refine GA.iconst dX12_write_132 ?_
      obtain ⟨x18, S_19, hc20, H⟩ := gc_e H
      refine GA.callV (m_X12_fails hL hc20) xs_X12_456 dX12_write_133 (gs_500 hL) (by decide) rfl rfl (by omega) (by decide) rfl (Nat.le_of_ble_eq_true rfl) (by omega) (by omega) rfl (fun E S9 hx => hx.elim) (fun v S9 hq => ?_)
      obtain ⟨rfl, rfl⟩ := hq
      obtain ⟨hg21, H⟩ := gg_e H
      refine GV.if_eq (tgt := 141) hg21 dX12_write_136 (by decide) (fun c22 => ?_) (fun c22 => ?_)
      · have H := it_t H c22
        refine GA.iconst dX12_write_141 ?_
        refine GA.istore dX12_write_142 (by decide) ?_
        refine GA.locals [(0, .ref (L 500)), (1, .int (J a1)), (2, .long (K a2)), (5, .int (J 0))] ⟨rfl, rfl, rfl, rfl, trivial⟩ ?_
        exact ih_X12_write_144 hL _ _ (a1) (a2) (0) _ _ H
      · have H := it_f H c22
        refine GA.iconst dX12_write_139 ?_
        cases H
        exact GA.iret rfl dX12_write_140 (by omega) (by omega) ⟨rfl, rfl⟩
set_option maxHeartbeats 4000000 in
set_option maxRecDepth 20000 in
theorem t_X12_write_144 {l : Launch} {Z : XZ} {L : Nat → Nat} (n : Nat) (ih_X12_write_0 : P_X12_write_0 l Z L n) (ih_X12_write_43 : P_X12_write_43 l Z L n) (ih_X12_write_104 : P_X12_write_104 l Z L n) (ih_X12_write_144 : P_X12_write_144 l Z L n) : P_X12_write_144 l Z L (n + 1) := by
  intro hL d S a1 a2 a5 x S1 H
  have H : b_X12_write_144 n d (f_X12_write n) S a1 a2 a5 = some (x, S1) := H
  unfold b_X12_write_144 at H
  refine GA.iload dX12_write_144 rfl ?_
  refine GA.iload_n dX12_write_146 rfl ?_
  obtain ⟨hg1, H⟩ := gg_e H
  obtain ⟨hg2, H⟩ := gg_e H
  refine GV.icmp_ge (tgt := 191) hg1 hg2 dX12_write_147 (by decide) (fun c3 => ?_) (fun c3 => ?_)
  · have H := it_t H c3
    refine GA.aload_n dX12_write_191 rfl ?_
    obtain ⟨x4, hx5, H⟩ := gv_e H
    refine GV.getI hx5 xf_X12_460 dX12_write_192 (gs_500 hL) (by decide) rfl ?_
    cases H
    exact GA.iret rfl dX12_write_195 (by omega) (by omega) ⟨rfl, rfl⟩
  · have H := it_f H c3
    refine GA.aload_n dX12_write_150 rfl ?_
    refine GA.get xf_X12_88 dX12_write_151 (gs_500 hL) (by decide) rfl ?_
    refine GA.aload_n dX12_write_154 rfl ?_
    obtain ⟨x6, hx7, H⟩ := gv_e H
    refine GV.getI hx7 xf_X12_460 dX12_write_155 (gs_500 hL) (by decide) rfl ?_
    refine GA.lload_n dX12_write_158 rfl ?_
    refine GA.bipush dX12_write_159 rfl ?_
    refine GA.iload_n dX12_write_161 rfl ?_
    refine GA.iconst dX12_write_162 ?_
    obtain ⟨x8, hx9, H⟩ := gv_e H
    refine GV.isub hx9 dX12_write_163 ?_
    refine GA.iload dX12_write_164 rfl ?_
    obtain ⟨x10, hx11, H⟩ := gv_e H
    refine GV.isub hx11 dX12_write_166 ?_
    obtain ⟨x12, hx13, H⟩ := gv_e H
    refine GV.imul hx13 dX12_write_167 ?_
    obtain ⟨hg14, H⟩ := gg_e H
    obtain ⟨hg15, H⟩ := gg_e H
    obtain ⟨x16, hx17, H⟩ := gv_e H
    refine GV.lshr hg15 hg14 hx17 dX12_write_168 ?_
    refine GV.ldc2 (z := 255) (by decide) xc_X12_72 dX12_write_169 ?_
    obtain ⟨x18, hx19, H⟩ := gv_e H
    refine GV.land hx19 dX12_write_172 ?_
    refine GV.l2i dX12_write_173 ?_
    obtain ⟨hg20, H⟩ := gg_e H
    obtain ⟨S_21, hx22, H⟩ := gv_e H
    refine GV.iast hg20 hx22 dX12_write_174 (fun _ => (gs_503 hL)) (by decide) ?_
    refine GA.aload_n dX12_write_175 rfl ?_
    refine GA.dup dX12_write_176 rfl ?_
    obtain ⟨x23, hx24, H⟩ := gv_e H
    refine GV.getI hx24 xf_X12_460 dX12_write_177 (gs_500 hL) (by decide) rfl ?_
    refine GA.iconst dX12_write_180 ?_
    obtain ⟨x25, hx26, H⟩ := gv_e H
    refine GV.iadd hx26 dX12_write_181 ?_
    obtain ⟨S_27, hx28, H⟩ := gv_e H
    refine GV.putI hx28 (xp_X12_460 _) dX12_write_182 (gs_500 hL) (by decide) (Nat.le_of_ble_eq_true rfl) (gs_500 hL) ?_
    obtain ⟨x29, hx30, H⟩ := gv_e H
    refine GV.iinc hx30 dX12_write_185 rfl (by decide) ?_
    refine GA.goto (tgt := 144) dX12_write_188 (by decide) ?_
    refine GA.locals [(0, .ref (L 500)), (1, .int (J a1)), (2, .long (K a2)), (5, .int (J x29))] ⟨rfl, rfl, rfl, rfl, trivial⟩ ?_
    exact ih_X12_write_144 hL _ _ (a1) (a2) (x29) _ _ H
theorem g_X12_write {l : Launch} {Z : XZ} {L : Nat → Nat} : ∀ n, P_X12_write_0 l Z L n ∧ P_X12_write_43 l Z L n ∧ P_X12_write_104 l Z L n ∧ P_X12_write_144 l Z L n
  | 0 => ⟨fun _ _ _ _ _ _ _ H => no_e H, fun _ _ _ _ _ _ _ _ _ H => no_e H, fun _ _ _ _ _ _ _ _ H => no_e H, fun _ _ _ _ _ _ _ _ H => no_e H⟩
  | n + 1 => have ⟨h0, h1, h2, h3⟩ := g_X12_write (l := l) (Z := Z) (L := L) n
    ⟨t_X12_write_0 n h0 h1 h2 h3, t_X12_write_43 n h0 h1 h2 h3, t_X12_write_104 n h0 h1 h2 h3, t_X12_write_144 n h0 h1 h2 h3⟩
theorem m_X12_write {l : Launch} {Z : XZ} {L : Nat → Nat} (hL : L 700 = 1) {n d : Nat} {S : GS} {a1 : Int} {a2 : Int} {x : Int} {S1 : GS} (H : f_X12_write n d 0 S [a1, a2] = some (x, S1)) : GM l Z L yX12_write cX12_write 7 (some .int) [] d 0 0 [.ref (L 500), .int (J a1), .long (K a2)] S (fun v S' => v = some (.int (J x)) ∧ S1 = S') (fun _ _ => False) := GM.of (by decide) (Nat.le_of_ble_eq_true rfl) ((g_X12_write n).1 hL _ _ _ _ _ _ H)

