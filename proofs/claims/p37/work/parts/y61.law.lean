def P_L_rereads_0 (l : Launch) (Z : XZ) (L : Nat → Nat) (n : Nat) : Prop := ∀ (d : Nat) (S : GS) (a1 : Int) (x : Int) (S1 : GS), f_L_rereads Z.1.2.1 (fun k => (Z.1.2.2 k).toInt) n d 0 S [a1] = some (x, S1) → ∀ nc ns : Nat, nc + 0 ≤ 0 ∧ ns + 0 ≤ 0 → GA l Z L yL_rereads cL_rereads 6 (some .boolean) [] d 0 0 (fun v S' => v = some (.int (J x)) ∧ S1 = S') (fun _ _ => False) 0 (gl [(0, .ref (L 468)), (1, .int (J a1))]) [] S nc ns
def P_L_rereads_4 (l : Launch) (Z : XZ) (L : Nat → Nat) (n : Nat) : Prop := ∀ (d : Nat) (S : GS) (a1 : Int) (a2 : Int) (a3 : Int) (x : Int) (S1 : GS), f_L_rereads Z.1.2.1 (fun k => (Z.1.2.2 k).toInt) n d 4 S [a1, a2, a3] = some (x, S1) → ∀ nc ns : Nat, nc + 0 ≤ 0 ∧ ns + 0 ≤ 0 → GA l Z L yL_rereads cL_rereads 6 (some .boolean) [] d 0 0 (fun v S' => v = some (.int (J x)) ∧ S1 = S') (fun _ _ => False) 4 (gl [(0, .ref (L 468)), (1, .int (J a1)), (2, .int (J a2)), (3, .int (J a3))]) [] S nc ns
def P_L_rereads_36 (l : Launch) (Z : XZ) (L : Nat → Nat) (n : Nat) : Prop := ∀ (d : Nat) (S : GS) (a1 : Int) (a3 : Int) (s0 : Int) (x : Int) (S1 : GS), f_L_rereads Z.1.2.1 (fun k => (Z.1.2.2 k).toInt) n d 36 S [a1, a3, s0] = some (x, S1) → ∀ nc ns : Nat, nc + 0 ≤ 0 ∧ ns + 0 ≤ 0 → GA l Z L yL_rereads cL_rereads 6 (some .boolean) [] d 0 0 (fun v S' => v = some (.int (J x)) ∧ S1 = S') (fun _ _ => False) 36 (gl [(0, .ref (L 468)), (1, .int (J a1)), (3, .int (J a3))]) [.int (J s0)] S nc ns
def P_L_rereads_107 (l : Launch) (Z : XZ) (L : Nat → Nat) (n : Nat) : Prop := ∀ (d : Nat) (S : GS) (a1 : Int) (a3 : Int) (a5 : Int) (s0 : Int) (x : Int) (S1 : GS), f_L_rereads Z.1.2.1 (fun k => (Z.1.2.2 k).toInt) n d 107 S [a1, a3, a5, s0] = some (x, S1) → ∀ nc ns : Nat, nc + 0 ≤ 0 ∧ ns + 0 ≤ 0 → GA l Z L yL_rereads cL_rereads 6 (some .boolean) [] d 0 0 (fun v S' => v = some (.int (J x)) ∧ S1 = S') (fun _ _ => False) 107 (gl [(0, .ref (L 468)), (1, .int (J a1)), (3, .int (J a3)), (5, .int (J a5))]) [.int (J s0)] S nc ns
def P_L_rereads_169 (l : Launch) (Z : XZ) (L : Nat → Nat) (n : Nat) : Prop := ∀ (d : Nat) (S : GS) (a1 : Int) (a2 : Int) (x : Int) (S1 : GS), f_L_rereads Z.1.2.1 (fun k => (Z.1.2.2 k).toInt) n d 169 S [a1, a2] = some (x, S1) → ∀ nc ns : Nat, nc + 0 ≤ 0 ∧ ns + 0 ≤ 0 → GA l Z L yL_rereads cL_rereads 6 (some .boolean) [] d 0 0 (fun v S' => v = some (.int (J x)) ∧ S1 = S') (fun _ _ => False) 169 (gl [(0, .ref (L 468)), (1, .int (J a1)), (2, .int (J a2))]) [] S nc ns
set_option maxHeartbeats 16000000 in
set_option maxRecDepth 100000 in
theorem t_L_rereads_0 {l : Launch} {Z : XZ} {L : Nat → Nat} (n : Nat) (ih_L_rereads_0 : P_L_rereads_0 l Z L n) (ih_L_rereads_4 : P_L_rereads_4 l Z L n) (ih_L_rereads_36 : P_L_rereads_36 l Z L n) (ih_L_rereads_107 : P_L_rereads_107 l Z L n) (ih_L_rereads_169 : P_L_rereads_169 l Z L n) : P_L_rereads_0 l Z L (n + 1) := by
  intro d S a1 x S1 H nc ns hB
  have H : b_L_rereads_0 Z.1.2.1 (fun k => (Z.1.2.2 k).toInt) n d (f_L_rereads Z.1.2.1 (fun k => (Z.1.2.2 k).toInt) n) S a1 = some (x, S1) := H
  unfold b_L_rereads_0 at H
  refine GA.iconst dL_rereads_0 ?_
  refine GA.istore_n dL_rereads_1 (by decide) ?_
  refine GA.iconst dL_rereads_2 ?_
  refine GA.istore_n dL_rereads_3 (by decide) ?_
  refine GA.locals [(0, .ref (L 468)), (1, .int (J a1)), (2, .int (J 1)), (3, .int (J 0))] ⟨rfl, rfl, rfl, rfl, trivial⟩ ?_
  exact ih_L_rereads_4 _ _ (a1) (1) (0) _ _ H _ _ (by omega)
set_option maxHeartbeats 16000000 in
set_option maxRecDepth 100000 in
theorem t_L_rereads_4 {l : Launch} {Z : XZ} {L : Nat → Nat} (n : Nat) (ih_L_rereads_0 : P_L_rereads_0 l Z L n) (ih_L_rereads_4 : P_L_rereads_4 l Z L n) (ih_L_rereads_36 : P_L_rereads_36 l Z L n) (ih_L_rereads_107 : P_L_rereads_107 l Z L n) (ih_L_rereads_169 : P_L_rereads_169 l Z L n) : P_L_rereads_4 l Z L (n + 1) := by
  intro d S a1 a2 a3 x S1 H nc ns hB
  have H : b_L_rereads_4 Z.1.2.1 (fun k => (Z.1.2.2 k).toInt) n d (f_L_rereads Z.1.2.1 (fun k => (Z.1.2.2 k).toInt) n) S a1 a2 a3 = some (x, S1) := H
  unfold b_L_rereads_4 at H
  refine GA.iload_n dL_rereads_4 rfl ?_
  refine GA.iconst dL_rereads_5 ?_
  obtain ⟨hg1, H⟩ := gg_e H
  refine GV.icmp_ge (tgt := 169) hg1 (by decide) dL_rereads_6 (by decide) (fun c2 => ?_) (fun c2 => ?_)
  · have H := it_t H c2
    refine GA.locals [(0, .ref (L 468)), (1, .int (J a1)), (2, .int (J a2))] ⟨rfl, rfl, rfl, trivial⟩ ?_
    exact ih_L_rereads_169 _ _ (a1) (a2) _ _ H _ _ (by omega)
  · have H := it_f H c2
    refine GA.iload_n dL_rereads_9 rfl ?_
    obtain ⟨hg3, H⟩ := gg_e H
    refine GV.if_eq (tgt := 169) hg3 dL_rereads_10 (by decide) (fun c4 => ?_) (fun c4 => ?_)
    · have H := it_t H c4
      refine GA.locals [(0, .ref (L 468)), (1, .int (J a1)), (2, .int (J a2))] ⟨rfl, rfl, rfl, trivial⟩ ?_
      exact ih_L_rereads_169 _ _ (a1) (a2) _ _ H _ _ (by omega)
    · have H := it_f H c4
      refine GA.aload_n dL_rereads_13 rfl ?_
      refine GA.iload_n dL_rereads_14 rfl ?_
      refine GA.iload_n dL_rereads_15 rfl ?_
      obtain ⟨hg5, H⟩ := gg_e H
      obtain ⟨x6, S_7, hc8, H⟩ := gc_e H
      by_cases hb9 : x6 < exB
      case neg =>
        have H := it_f H hb9
        cases H
      have H := it_t H hb9
      refine GA.callV (m_X11_print hc8 hb9) xs_L_44 dL_rereads_16 gs_468 (by decide) rfl rfl (by omega) (by decide) rfl (Nat.le_of_ble_eq_true rfl) (by omega) (by omega) rfl (fun E S9 hx => hx.elim) (fun v S9 hq => ?_)
      obtain ⟨rfl, rfl⟩ := hq
      refine GA.istore dL_rereads_19 (by decide) ?_
      refine GA.iload dL_rereads_21 rfl ?_
      refine GA.aload_n dL_rereads_23 rfl ?_
      refine GA.iconst dL_rereads_24 ?_
      obtain ⟨x10, S_11, hc12, H⟩ := gc_e H
      by_cases hb13 : x10 < exB
      case neg =>
        have H := it_f H hb13
        cases H
      have H := it_t H hb13
      refine GA.callV (m_X11_sum hc12 hb13) xs_L_28 dL_rereads_25 gs_468 (by decide) rfl rfl (by omega) (by decide) rfl (Nat.le_of_ble_eq_true rfl) (by omega) (by omega) rfl (fun E S9 hx => hx.elim) (fun v S9 hq => ?_)
      obtain ⟨rfl, rfl⟩ := hq
      obtain ⟨hg14, H⟩ := gg_e H
      obtain ⟨hg15, H⟩ := gg_e H
      refine GV.icmp_ne (tgt := 35) hg14 hg15 dL_rereads_28 (by decide) (fun c16 => ?_) (fun c16 => ?_)
      · have H := it_t H c16
        refine GA.iconst dL_rereads_35 ?_
        refine GA.locals [(0, .ref (L 468)), (1, .int (J a1)), (3, .int (J a3))] ⟨rfl, rfl, rfl, trivial⟩ ?_
        exact ih_L_rereads_36 _ _ (a1) (a3) (0) _ _ H _ _ (by omega)
      · have H := it_f H c16
        refine GA.iconst dL_rereads_31 ?_
        refine GA.goto (tgt := 36) dL_rereads_32 (by decide) ?_
        refine GA.locals [(0, .ref (L 468)), (1, .int (J a1)), (3, .int (J a3))] ⟨rfl, rfl, rfl, trivial⟩ ?_
        exact ih_L_rereads_36 _ _ (a1) (a3) (1) _ _ H _ _ (by omega)
set_option maxHeartbeats 16000000 in
set_option maxRecDepth 100000 in
theorem t_L_rereads_36 {l : Launch} {Z : XZ} {L : Nat → Nat} (n : Nat) (ih_L_rereads_0 : P_L_rereads_0 l Z L n) (ih_L_rereads_4 : P_L_rereads_4 l Z L n) (ih_L_rereads_36 : P_L_rereads_36 l Z L n) (ih_L_rereads_107 : P_L_rereads_107 l Z L n) (ih_L_rereads_169 : P_L_rereads_169 l Z L n) : P_L_rereads_36 l Z L (n + 1) := by
  intro d S a1 a3 s0 x S1 H nc ns hB
  have H : b_L_rereads_36 Z.1.2.1 (fun k => (Z.1.2.2 k).toInt) n d (f_L_rereads Z.1.2.1 (fun k => (Z.1.2.2 k).toInt) n) S a1 a3 s0 = some (x, S1) := H
  unfold b_L_rereads_36 at H
  refine GA.istore_n dL_rereads_36 (by decide) ?_
  refine GA.aload_n dL_rereads_37 rfl ?_
  obtain ⟨hg1, H⟩ := gg_e H
  obtain ⟨x2, S_3, hc4, H⟩ := gc_e H
  refine GA.callS (m_L_retyped hc4) xs_L_47 dL_rereads_38 rfl (by omega) (by decide) rfl (Nat.le_of_ble_eq_true rfl) (by omega) (by omega) rfl (fun E S9 hx => hx.elim) (fun v S9 hq => ?_)
  obtain ⟨rfl, rfl⟩ := hq
  obtain ⟨hg5, H⟩ := gg_e H
  refine GV.if_eq (tgt := 163) hg5 dL_rereads_41 (by decide) (fun c6 => ?_) (fun c6 => ?_)
  · have H := it_t H c6
    obtain ⟨x7, hx8, H⟩ := gv_e H
    refine GV.iinc hx8 dL_rereads_163 rfl (by decide) ?_
    refine GA.goto (tgt := 4) dL_rereads_166 (by decide) ?_
    refine GA.locals [(0, .ref (L 468)), (1, .int (J a1)), (2, .int (J s0)), (3, .int (J x7))] ⟨rfl, rfl, rfl, rfl, trivial⟩ ?_
    exact ih_L_rereads_4 _ _ (a1) (s0) (x7) _ _ H _ _ (by omega)
  · have H := it_f H c6
    refine GA.aload_n dL_rereads_44 rfl ?_
    obtain ⟨x9, S_10, hc11, H⟩ := gc_e H
    by_cases hb12 : x9 < exB
    case neg =>
      have H := it_f H hb12
      cases H
    have H := it_t H hb12
    refine GA.callV (m_X11_read hc11 hb12) xs_L_53 dL_rereads_45 gs_468 (by decide) rfl rfl (by omega) (by decide) rfl (Nat.le_of_ble_eq_true rfl) (by omega) (by omega) rfl (fun E S9 hx => hx.elim) (fun v S9 hq => ?_)
    obtain ⟨rfl, rfl⟩ := hq
    refine GA.istore dL_rereads_48 (by decide) ?_
    refine GA.iload_n dL_rereads_50 rfl ?_
    obtain ⟨hg13, H⟩ := gg_e H
    refine GV.if_eq (tgt := 106) hg13 dL_rereads_51 (by decide) (fun c14 => ?_) (fun c14 => ?_)
    · have H := it_t H c14
      refine GA.iconst dL_rereads_106 ?_
      refine GA.locals [(0, .ref (L 468)), (1, .int (J a1)), (3, .int (J a3)), (5, .int (J x9))] ⟨rfl, rfl, rfl, rfl, trivial⟩ ?_
      exact ih_L_rereads_107 _ _ (a1) (a3) (x9) (0) _ _ H _ _ (by omega)
    · have H := it_f H c14
      refine GA.iload dL_rereads_54 rfl ?_
      refine GA.aload_n dL_rereads_56 rfl ?_
      refine GA.iconst dL_rereads_57 ?_
      obtain ⟨x15, S_16, hc17, H⟩ := gc_e H
      by_cases hb18 : x15 < exB
      case neg =>
        have H := it_f H hb18
        cases H
      have H := it_t H hb18
      refine GA.callV (m_X11_sum hc17 hb18) xs_L_28 dL_rereads_58 gs_468 (by decide) rfl rfl (by omega) (by decide) rfl (Nat.le_of_ble_eq_true rfl) (by omega) (by omega) rfl (fun E S9 hx => hx.elim) (fun v S9 hq => ?_)
      obtain ⟨rfl, rfl⟩ := hq
      refine GA.iconst dL_rereads_61 ?_
      obtain ⟨x19, hx20, H⟩ := gv_e H
      refine GV.isub hx20 dL_rereads_62 ?_
      obtain ⟨hg21, H⟩ := gg_e H
      obtain ⟨hg22, H⟩ := gg_e H
      refine GV.icmp_ne (tgt := 106) hg21 hg22 dL_rereads_63 (by decide) (fun c23 => ?_) (fun c23 => ?_)
      · have H := it_t H c23
        refine GA.iconst dL_rereads_106 ?_
        refine GA.locals [(0, .ref (L 468)), (1, .int (J a1)), (3, .int (J a3)), (5, .int (J x9))] ⟨rfl, rfl, rfl, rfl, trivial⟩ ?_
        exact ih_L_rereads_107 _ _ (a1) (a3) (x9) (0) _ _ H _ _ (by omega)
      · have H := it_f H c23
        refine GA.aload_n dL_rereads_66 rfl ?_
        refine GA.iload_n dL_rereads_67 rfl ?_
        refine GA.iload dL_rereads_68 rfl ?_
        obtain ⟨x24, S_25, hc26, H⟩ := gc_e H
        by_cases hb27 : x24 < exB
        case neg =>
          have H := it_f H hb27
          cases H
        have H := it_t H hb27
        refine GA.callV (m_X11_equal hc26 hb27) xs_L_56 dL_rereads_70 gs_468 (by decide) rfl rfl (by omega) (by decide) rfl (Nat.le_of_ble_eq_true rfl) (by omega) (by omega) rfl (fun E S9 hx => hx.elim) (fun v S9 hq => ?_)
        obtain ⟨rfl, rfl⟩ := hq
        obtain ⟨hg28, H⟩ := gg_e H
        refine GV.if_eq (tgt := 106) hg28 dL_rereads_73 (by decide) (fun c29 => ?_) (fun c29 => ?_)
        · have H := it_t H c29
          refine GA.iconst dL_rereads_106 ?_
          refine GA.locals [(0, .ref (L 468)), (1, .int (J a1)), (3, .int (J a3)), (5, .int (J x9))] ⟨rfl, rfl, rfl, rfl, trivial⟩ ?_
          exact ih_L_rereads_107 _ _ (a1) (a3) (x9) (0) _ _ H _ _ (by omega)
        · have H := it_f H c29
          refine GA.aload_n dL_rereads_76 rfl ?_
          refine GA.iload dL_rereads_77 rfl ?_
          refine GA.iload_n dL_rereads_79 rfl ?_
          obtain ⟨x30, S_31, hc32, H⟩ := gc_e H
          by_cases hb33 : x30 < exB
          case neg =>
            have H := it_f H hb33
            cases H
          have H := it_t H hb33
          refine GA.callV (m_X11_equal hc32 hb33) xs_L_56 dL_rereads_80 gs_468 (by decide) rfl rfl (by omega) (by decide) rfl (Nat.le_of_ble_eq_true rfl) (by omega) (by omega) rfl (fun E S9 hx => hx.elim) (fun v S9 hq => ?_)
          obtain ⟨rfl, rfl⟩ := hq
          obtain ⟨hg34, H⟩ := gg_e H
          refine GV.if_eq (tgt := 106) hg34 dL_rereads_83 (by decide) (fun c35 => ?_) (fun c35 => ?_)
          · have H := it_t H c35
            refine GA.iconst dL_rereads_106 ?_
            refine GA.locals [(0, .ref (L 468)), (1, .int (J a1)), (3, .int (J a3)), (5, .int (J x9))] ⟨rfl, rfl, rfl, rfl, trivial⟩ ?_
            exact ih_L_rereads_107 _ _ (a1) (a3) (x9) (0) _ _ H _ _ (by omega)
          · have H := it_f H c35
            refine GA.aload_n dL_rereads_86 rfl ?_
            refine GA.iload dL_rereads_87 rfl ?_
            refine GA.iconst dL_rereads_89 ?_
            obtain ⟨x36, S_37, hc38, H⟩ := gc_e H
            by_cases hb39 : x36 < exB
            case neg =>
              have H := it_f H hb39
              cases H
            have H := it_t H hb39
            refine GA.callV (m_X11_digest hc38 hb39) xs_L_60 dL_rereads_90 gs_468 (by decide) rfl rfl (by omega) (by decide) rfl (Nat.le_of_ble_eq_true rfl) (by omega) (by omega) rfl (fun E S9 hx => hx.elim) (fun v S9 hq => ?_)
            obtain ⟨rfl, rfl⟩ := hq
            refine GA.aload_n dL_rereads_93 rfl ?_
            refine GA.iload_n dL_rereads_94 rfl ?_
            refine GA.iconst dL_rereads_95 ?_
            obtain ⟨x40, S_41, hc42, H⟩ := gc_e H
            by_cases hb43 : x40 < exB
            case neg =>
              have H := it_f H hb43
              cases H
            have H := it_t H hb43
            refine GA.callV (m_X11_digest hc42 hb43) xs_L_60 dL_rereads_96 gs_468 (by decide) rfl rfl (by omega) (by decide) rfl (Nat.le_of_ble_eq_true rfl) (by omega) (by omega) rfl (fun E S9 hx => hx.elim) (fun v S9 hq => ?_)
            obtain ⟨rfl, rfl⟩ := hq
            obtain ⟨hg44, H⟩ := gg_e H
            obtain ⟨hg45, H⟩ := gg_e H
            refine GV.icmp_ne (tgt := 106) hg44 hg45 dL_rereads_99 (by decide) (fun c46 => ?_) (fun c46 => ?_)
            · have H := it_t H c46
              refine GA.iconst dL_rereads_106 ?_
              refine GA.locals [(0, .ref (L 468)), (1, .int (J a1)), (3, .int (J a3)), (5, .int (J x9))] ⟨rfl, rfl, rfl, rfl, trivial⟩ ?_
              exact ih_L_rereads_107 _ _ (a1) (a3) (x9) (0) _ _ H _ _ (by omega)
            · have H := it_f H c46
              refine GA.iconst dL_rereads_102 ?_
              refine GA.goto (tgt := 107) dL_rereads_103 (by decide) ?_
              refine GA.locals [(0, .ref (L 468)), (1, .int (J a1)), (3, .int (J a3)), (5, .int (J x9))] ⟨rfl, rfl, rfl, rfl, trivial⟩ ?_
              exact ih_L_rereads_107 _ _ (a1) (a3) (x9) (1) _ _ H _ _ (by omega)
set_option maxHeartbeats 16000000 in
set_option maxRecDepth 100000 in
theorem t_L_rereads_107 {l : Launch} {Z : XZ} {L : Nat → Nat} (n : Nat) (ih_L_rereads_0 : P_L_rereads_0 l Z L n) (ih_L_rereads_4 : P_L_rereads_4 l Z L n) (ih_L_rereads_36 : P_L_rereads_36 l Z L n) (ih_L_rereads_107 : P_L_rereads_107 l Z L n) (ih_L_rereads_169 : P_L_rereads_169 l Z L n) : P_L_rereads_107 l Z L (n + 1) := by
  intro d S a1 a3 a5 s0 x S1 H nc ns hB
  have H : b_L_rereads_107 Z.1.2.1 (fun k => (Z.1.2.2 k).toInt) n d (f_L_rereads Z.1.2.1 (fun k => (Z.1.2.2 k).toInt) n) S a1 a3 a5 s0 = some (x, S1) := H
  unfold b_L_rereads_107 at H
  refine GA.istore_n dL_rereads_107 (by decide) ?_
  refine GA.iload_n dL_rereads_108 rfl ?_
  obtain ⟨hg1, H⟩ := gg_e H
  refine GV.if_eq (tgt := 161) hg1 dL_rereads_109 (by decide) (fun c2 => ?_) (fun c2 => ?_)
  · have H := it_t H c2
    refine GA.iconst dL_rereads_161 ?_
    refine GA.istore_n dL_rereads_162 (by decide) ?_
    obtain ⟨x3, hx4, H⟩ := gv_e H
    refine GV.iinc hx4 dL_rereads_163 rfl (by decide) ?_
    refine GA.goto (tgt := 4) dL_rereads_166 (by decide) ?_
    refine GA.locals [(0, .ref (L 468)), (1, .int (J a1)), (2, .int (J 0)), (3, .int (J x3))] ⟨rfl, rfl, rfl, rfl, trivial⟩ ?_
    exact ih_L_rereads_4 _ _ (a1) (0) (x3) _ _ H _ _ (by omega)
  · have H := it_f H c2
    refine GA.aload_n dL_rereads_112 rfl ?_
    refine GA.iload dL_rereads_113 rfl ?_
    refine GA.iconst dL_rereads_115 ?_
    refine GA.iconst dL_rereads_116 ?_
    obtain ⟨hg5, H⟩ := gg_e H
    obtain ⟨x6, S_7, hc8, H⟩ := gc_e H
    by_cases hb9 : x6 < exB
    case neg =>
      have H := it_f H hb9
      cases H
    have H := it_t H hb9
    refine GA.callV (m_X11_node hc8 hb9) xs_L_63 dL_rereads_117 gs_468 (by decide) rfl rfl (by omega) (by decide) rfl (Nat.le_of_ble_eq_true rfl) (by omega) (by omega) rfl (fun E S9 hx => hx.elim) (fun v S9 hq => ?_)
    obtain ⟨rfl, rfl⟩ := hq
    refine GA.aload_n dL_rereads_120 rfl ?_
    refine GA.iload_n dL_rereads_121 rfl ?_
    refine GA.iconst dL_rereads_122 ?_
    refine GA.iconst dL_rereads_123 ?_
    obtain ⟨x10, S_11, hc12, H⟩ := gc_e H
    by_cases hb13 : x10 < exB
    case neg =>
      have H := it_f H hb13
      cases H
    have H := it_t H hb13
    refine GA.callV (m_X11_node hc12 hb13) xs_L_63 dL_rereads_124 gs_468 (by decide) rfl rfl (by omega) (by decide) rfl (Nat.le_of_ble_eq_true rfl) (by omega) (by omega) rfl (fun E S9 hx => hx.elim) (fun v S9 hq => ?_)
    obtain ⟨rfl, rfl⟩ := hq
    obtain ⟨hg14, H⟩ := gg_e H
    obtain ⟨hg15, H⟩ := gg_e H
    refine GV.icmp_ne (tgt := 161) hg14 hg15 dL_rereads_127 (by decide) (fun c16 => ?_) (fun c16 => ?_)
    · have H := it_t H c16
      refine GA.iconst dL_rereads_161 ?_
      refine GA.istore_n dL_rereads_162 (by decide) ?_
      obtain ⟨x17, hx18, H⟩ := gv_e H
      refine GV.iinc hx18 dL_rereads_163 rfl (by decide) ?_
      refine GA.goto (tgt := 4) dL_rereads_166 (by decide) ?_
      refine GA.locals [(0, .ref (L 468)), (1, .int (J a1)), (2, .int (J 0)), (3, .int (J x17))] ⟨rfl, rfl, rfl, rfl, trivial⟩ ?_
      exact ih_L_rereads_4 _ _ (a1) (0) (x17) _ _ H _ _ (by omega)
    · have H := it_f H c16
      refine GA.aload_n dL_rereads_130 rfl ?_
      refine GA.iload dL_rereads_131 rfl ?_
      refine GA.iconst dL_rereads_133 ?_
      refine GA.iconst dL_rereads_134 ?_
      obtain ⟨x19, S_20, hc21, H⟩ := gc_e H
      by_cases hb22 : x19 < exB
      case neg =>
        have H := it_f H hb22
        cases H
      have H := it_t H hb22
      refine GA.callV (m_X11_node hc21 hb22) xs_L_63 dL_rereads_135 gs_468 (by decide) rfl rfl (by omega) (by decide) rfl (Nat.le_of_ble_eq_true rfl) (by omega) (by omega) rfl (fun E S9 hx => hx.elim) (fun v S9 hq => ?_)
      obtain ⟨rfl, rfl⟩ := hq
      refine GA.aload_n dL_rereads_138 rfl ?_
      refine GA.iload_n dL_rereads_139 rfl ?_
      refine GA.iconst dL_rereads_140 ?_
      refine GA.iconst dL_rereads_141 ?_
      obtain ⟨x23, S_24, hc25, H⟩ := gc_e H
      by_cases hb26 : x23 < exB
      case neg =>
        have H := it_f H hb26
        cases H
      have H := it_t H hb26
      refine GA.callV (m_X11_node hc25 hb26) xs_L_63 dL_rereads_142 gs_468 (by decide) rfl rfl (by omega) (by decide) rfl (Nat.le_of_ble_eq_true rfl) (by omega) (by omega) rfl (fun E S9 hx => hx.elim) (fun v S9 hq => ?_)
      obtain ⟨rfl, rfl⟩ := hq
      obtain ⟨hg27, H⟩ := gg_e H
      obtain ⟨hg28, H⟩ := gg_e H
      refine GV.icmp_ne (tgt := 161) hg27 hg28 dL_rereads_145 (by decide) (fun c29 => ?_) (fun c29 => ?_)
      · have H := it_t H c29
        refine GA.iconst dL_rereads_161 ?_
        refine GA.istore_n dL_rereads_162 (by decide) ?_
        obtain ⟨x30, hx31, H⟩ := gv_e H
        refine GV.iinc hx31 dL_rereads_163 rfl (by decide) ?_
        refine GA.goto (tgt := 4) dL_rereads_166 (by decide) ?_
        refine GA.locals [(0, .ref (L 468)), (1, .int (J a1)), (2, .int (J 0)), (3, .int (J x30))] ⟨rfl, rfl, rfl, rfl, trivial⟩ ?_
        exact ih_L_rereads_4 _ _ (a1) (0) (x30) _ _ H _ _ (by omega)
      · have H := it_f H c29
        refine GA.aload_n dL_rereads_148 rfl ?_
        obtain ⟨x32, S_33, hc34, H⟩ := gc_e H
        by_cases hb35 : x32 < exB
        case neg =>
          have H := it_f H hb35
          cases H
        have H := it_t H hb35
        refine GA.callV (m_X11_undo hc34 hb35) xs_L_66 dL_rereads_149 gs_468 (by decide) rfl rfl (by omega) (by decide) rfl (Nat.le_of_ble_eq_true rfl) (by omega) (by omega) rfl (fun E S9 hx => hx.elim) (fun v S9 hq => ?_)
        obtain ⟨rfl, rfl⟩ := hq
        refine GA.iload dL_rereads_152 rfl ?_
        obtain ⟨hg36, H⟩ := gg_e H
        obtain ⟨hg37, H⟩ := gg_e H
        refine GV.icmp_ne (tgt := 161) hg36 hg37 dL_rereads_154 (by decide) (fun c38 => ?_) (fun c38 => ?_)
        · have H := it_t H c38
          refine GA.iconst dL_rereads_161 ?_
          refine GA.istore_n dL_rereads_162 (by decide) ?_
          obtain ⟨x39, hx40, H⟩ := gv_e H
          refine GV.iinc hx40 dL_rereads_163 rfl (by decide) ?_
          refine GA.goto (tgt := 4) dL_rereads_166 (by decide) ?_
          refine GA.locals [(0, .ref (L 468)), (1, .int (J a1)), (2, .int (J 0)), (3, .int (J x39))] ⟨rfl, rfl, rfl, rfl, trivial⟩ ?_
          exact ih_L_rereads_4 _ _ (a1) (0) (x39) _ _ H _ _ (by omega)
        · have H := it_f H c38
          refine GA.iconst dL_rereads_157 ?_
          refine GA.goto (tgt := 162) dL_rereads_158 (by decide) ?_
          refine GA.istore_n dL_rereads_162 (by decide) ?_
          obtain ⟨x41, hx42, H⟩ := gv_e H
          refine GV.iinc hx42 dL_rereads_163 rfl (by decide) ?_
          refine GA.goto (tgt := 4) dL_rereads_166 (by decide) ?_
          refine GA.locals [(0, .ref (L 468)), (1, .int (J a1)), (2, .int (J 1)), (3, .int (J x41))] ⟨rfl, rfl, rfl, rfl, trivial⟩ ?_
          exact ih_L_rereads_4 _ _ (a1) (1) (x41) _ _ H _ _ (by omega)
set_option maxHeartbeats 16000000 in
set_option maxRecDepth 100000 in
theorem t_L_rereads_169 {l : Launch} {Z : XZ} {L : Nat → Nat} (n : Nat) (ih_L_rereads_0 : P_L_rereads_0 l Z L n) (ih_L_rereads_4 : P_L_rereads_4 l Z L n) (ih_L_rereads_36 : P_L_rereads_36 l Z L n) (ih_L_rereads_107 : P_L_rereads_107 l Z L n) (ih_L_rereads_169 : P_L_rereads_169 l Z L n) : P_L_rereads_169 l Z L (n + 1) := by
  intro d S a1 a2 x S1 H nc ns hB
  have H : b_L_rereads_169 Z.1.2.1 (fun k => (Z.1.2.2 k).toInt) n d (f_L_rereads Z.1.2.1 (fun k => (Z.1.2.2 k).toInt) n) S a1 a2 = some (x, S1) := H
  unfold b_L_rereads_169 at H
  refine GA.aload_n dL_rereads_169 rfl ?_
  refine GA.iload_n dL_rereads_170 rfl ?_
  obtain ⟨hg1, H⟩ := gg_e H
  obtain ⟨x2, S_3, hc4, H⟩ := gc_e H
  by_cases hb5 : x2 < exB
  case neg =>
    have H := it_f H hb5
    cases H
  have H := it_t H hb5
  refine GA.callV (m_X11_sorted hc4 hb5) xs_L_69 dL_rereads_171 gs_468 (by decide) rfl rfl (by omega) (by decide) rfl (Nat.le_of_ble_eq_true rfl) (by omega) (by omega) rfl (fun E S9 hx => hx.elim) (fun v S9 hq => ?_)
  obtain ⟨rfl, rfl⟩ := hq
  refine GA.istore_n dL_rereads_174 (by decide) ?_
  refine GA.iload_n dL_rereads_175 rfl ?_
  obtain ⟨hg6, H⟩ := gg_e H
  refine GV.if_eq (tgt := 215) hg6 dL_rereads_176 (by decide) (fun c7 => ?_) (fun c7 => ?_)
  · have H := it_t H c7
    refine GA.iconst dL_rereads_215 ?_
    cases H
    exact GV.zret (by decide) rfl dL_rereads_216 (by omega) (by omega) ⟨rfl, rfl⟩
  · have H := it_f H c7
    refine GA.aload_n dL_rereads_179 rfl ?_
    refine GA.iload_n dL_rereads_180 rfl ?_
    refine GA.iload_n dL_rereads_181 rfl ?_
    obtain ⟨x8, S_9, hc10, H⟩ := gc_e H
    by_cases hb11 : x8 < exB
    case neg =>
      have H := it_f H hb11
      cases H
    have H := it_t H hb11
    refine GA.callV (m_X11_equal hc10 hb11) xs_L_56 dL_rereads_182 gs_468 (by decide) rfl rfl (by omega) (by decide) rfl (Nat.le_of_ble_eq_true rfl) (by omega) (by omega) rfl (fun E S9 hx => hx.elim) (fun v S9 hq => ?_)
    obtain ⟨rfl, rfl⟩ := hq
    obtain ⟨hg12, H⟩ := gg_e H
    refine GV.if_eq (tgt := 215) hg12 dL_rereads_185 (by decide) (fun c13 => ?_) (fun c13 => ?_)
    · have H := it_t H c13
      refine GA.iconst dL_rereads_215 ?_
      cases H
      exact GV.zret (by decide) rfl dL_rereads_216 (by omega) (by omega) ⟨rfl, rfl⟩
    · have H := it_f H c13
      refine GA.aload_n dL_rereads_188 rfl ?_
      refine GA.iload_n dL_rereads_189 rfl ?_
      refine GA.iconst dL_rereads_190 ?_
      obtain ⟨x14, S_15, hc16, H⟩ := gc_e H
      by_cases hb17 : x14 < exB
      case neg =>
        have H := it_f H hb17
        cases H
      have H := it_t H hb17
      refine GA.callV (m_X11_print hc16 hb17) xs_L_44 dL_rereads_191 gs_468 (by decide) rfl rfl (by omega) (by decide) rfl (Nat.le_of_ble_eq_true rfl) (by omega) (by omega) rfl (fun E S9 hx => hx.elim) (fun v S9 hq => ?_)
      obtain ⟨rfl, rfl⟩ := hq
      refine GA.aload_n dL_rereads_194 rfl ?_
      refine GA.iload_n dL_rereads_195 rfl ?_
      refine GA.iconst dL_rereads_196 ?_
      obtain ⟨x18, S_19, hc20, H⟩ := gc_e H
      by_cases hb21 : x18 < exB
      case neg =>
        have H := it_f H hb21
        cases H
      have H := it_t H hb21
      refine GA.callV (m_X11_print hc20 hb21) xs_L_44 dL_rereads_197 gs_468 (by decide) rfl rfl (by omega) (by decide) rfl (Nat.le_of_ble_eq_true rfl) (by omega) (by omega) rfl (fun E S9 hx => hx.elim) (fun v S9 hq => ?_)
      obtain ⟨rfl, rfl⟩ := hq
      obtain ⟨hg22, H⟩ := gg_e H
      obtain ⟨hg23, H⟩ := gg_e H
      refine GV.icmp_ne (tgt := 215) hg22 hg23 dL_rereads_200 (by decide) (fun c24 => ?_) (fun c24 => ?_)
      · have H := it_t H c24
        refine GA.iconst dL_rereads_215 ?_
        cases H
        exact GV.zret (by decide) rfl dL_rereads_216 (by omega) (by omega) ⟨rfl, rfl⟩
      · have H := it_f H c24
        refine GA.aload_n dL_rereads_203 rfl ?_
        obtain ⟨x25, S_26, hc27, H⟩ := gc_e H
        by_cases hb28 : x25 < exB
        case neg =>
          have H := it_f H hb28
          cases H
        have H := it_t H hb28
        refine GA.callV (m_X11_undo hc27 hb28) xs_L_66 dL_rereads_204 gs_468 (by decide) rfl rfl (by omega) (by decide) rfl (Nat.le_of_ble_eq_true rfl) (by omega) (by omega) rfl (fun E S9 hx => hx.elim) (fun v S9 hq => ?_)
        obtain ⟨rfl, rfl⟩ := hq
        refine GA.iload_n dL_rereads_207 rfl ?_
        obtain ⟨hg29, H⟩ := gg_e H
        obtain ⟨hg30, H⟩ := gg_e H
        refine GV.icmp_ne (tgt := 215) hg29 hg30 dL_rereads_208 (by decide) (fun c31 => ?_) (fun c31 => ?_)
        · have H := it_t H c31
          refine GA.iconst dL_rereads_215 ?_
          cases H
          exact GV.zret (by decide) rfl dL_rereads_216 (by omega) (by omega) ⟨rfl, rfl⟩
        · have H := it_f H c31
          refine GA.iconst dL_rereads_211 ?_
          refine GA.goto (tgt := 216) dL_rereads_212 (by decide) ?_
          cases H
          exact GV.zret (by decide) rfl dL_rereads_216 (by omega) (by omega) ⟨rfl, rfl⟩
theorem g_L_rereads {l : Launch} {Z : XZ} {L : Nat → Nat} : ∀ n, P_L_rereads_0 l Z L n ∧ P_L_rereads_4 l Z L n ∧ P_L_rereads_36 l Z L n ∧ P_L_rereads_107 l Z L n ∧ P_L_rereads_169 l Z L n
  | 0 => ⟨fun _ _ _ _ _ H => no_e H, fun _ _ _ _ _ _ _ H => no_e H, fun _ _ _ _ _ _ _ H => no_e H, fun _ _ _ _ _ _ _ _ H => no_e H, fun _ _ _ _ _ _ H => no_e H⟩
  | n + 1 => have ⟨h0, h1, h2, h3, h4⟩ := g_L_rereads (l := l) (Z := Z) (L := L) n
    ⟨t_L_rereads_0 n h0 h1 h2 h3 h4, t_L_rereads_4 n h0 h1 h2 h3 h4, t_L_rereads_36 n h0 h1 h2 h3 h4, t_L_rereads_107 n h0 h1 h2 h3 h4, t_L_rereads_169 n h0 h1 h2 h3 h4⟩
theorem m_L_rereads {l : Launch} {Z : XZ} {L : Nat → Nat} {n d : Nat} {S : GS} {a1 : Int} {x : Int} {S1 : GS} (H : f_L_rereads Z.1.2.1 (fun k => (Z.1.2.2 k).toInt) n d 0 S [a1] = some (x, S1)) : GM l Z L yL_rereads cL_rereads 6 (some .boolean) [] d 0 0 [.ref (L 468), .int (J a1)] S (fun v S' => v = some (.int (J x)) ∧ S1 = S') (fun _ _ => False) := GM.of (by decide) (Nat.le_of_ble_eq_true rfl) ((g_L_rereads n).1 _ _ _ _ _ H 0 0 (by omega))
def P_L_patches_0 (l : Launch) (Z : XZ) (L : Nat → Nat) (n : Nat) : Prop := ∀ (d : Nat) (S : GS) (a1 : Int) (a2 : Int) (x : Int) (S1 : GS), f_L_patches Z.1.2.1 (fun k => (Z.1.2.2 k).toInt) n d 0 S [a1, a2] = some (x, S1) → ∀ nc ns : Nat, nc + 2 ≤ 2 ∧ ns + 12 ≤ 12 → GA l Z L yL_patches cL_patches 9 (some .boolean) [] d 2 12 (fun v S' => v = some (.int (J x)) ∧ S1 = S') (fun _ _ => False) 0 (gl [(0, .ref (L 468)), (1, .int (J a1)), (2, .int (J a2))]) [] S nc ns
def P_L_patches_65 (l : Launch) (Z : XZ) (L : Nat → Nat) (n : Nat) : Prop := ∀ (d : Nat) (S : GS) (a1 : Int) (a2 : Int) (a3 : Int) (a4 : Int) (a6 : Int) (s0 : Int) (x : Int) (S1 : GS), f_L_patches Z.1.2.1 (fun k => (Z.1.2.2 k).toInt) n d 65 S [a1, a2, a3, a4, a6, s0] = some (x, S1) → ∀ nc ns : Nat, nc + 1 ≤ 2 ∧ ns + 6 ≤ 12 → GA l Z L yL_patches cL_patches 9 (some .boolean) [] d 2 12 (fun v S' => v = some (.int (J x)) ∧ S1 = S') (fun _ _ => False) 65 (gl [(0, .ref (L 468)), (1, .int (J a1)), (2, .int (J a2)), (3, .int (J a3)), (4, .int (J a4)), (6, .int (J a6))]) [.int (J s0)] S nc ns
def P_L_patches_79 (l : Launch) (Z : XZ) (L : Nat → Nat) (n : Nat) : Prop := ∀ (d : Nat) (S : GS) (a1 : Int) (a3 : Int) (a4 : Int) (a6 : Int) (s0 : Int) (x : Int) (S1 : GS), f_L_patches Z.1.2.1 (fun k => (Z.1.2.2 k).toInt) n d 79 S [a1, a3, a4, a6, s0] = some (x, S1) → ∀ nc ns : Nat, nc + 1 ≤ 2 ∧ ns + 6 ≤ 12 → GA l Z L yL_patches cL_patches 9 (some .boolean) [] d 2 12 (fun v S' => v = some (.int (J x)) ∧ S1 = S') (fun _ _ => False) 79 (gl [(0, .ref (L 468)), (1, .int (J a1)), (3, .int (J a3)), (4, .int (J a4)), (6, .int (J a6))]) [.int (J s0)] S nc ns
def P_L_patches_154 (l : Launch) (Z : XZ) (L : Nat → Nat) (n : Nat) : Prop := ∀ (d : Nat) (S : GS) (a3 : Int) (a5 : Int) (x : Int) (S1 : GS), f_L_patches Z.1.2.1 (fun k => (Z.1.2.2 k).toInt) n d 154 S [a3, a5] = some (x, S1) → ∀ nc ns : Nat, nc + 0 ≤ 2 ∧ ns + 0 ≤ 12 → GA l Z L yL_patches cL_patches 9 (some .boolean) [] d 2 12 (fun v S' => v = some (.int (J x)) ∧ S1 = S') (fun _ _ => False) 154 (gl [(0, .ref (L 468)), (3, .int (J a3)), (5, .int (J a5))]) [] S nc ns
set_option maxHeartbeats 16000000 in
set_option maxRecDepth 100000 in
theorem t_L_patches_0 {l : Launch} {Z : XZ} {L : Nat → Nat} (n : Nat) (ih_L_patches_0 : P_L_patches_0 l Z L n) (ih_L_patches_65 : P_L_patches_65 l Z L n) (ih_L_patches_79 : P_L_patches_79 l Z L n) (ih_L_patches_154 : P_L_patches_154 l Z L n) : P_L_patches_0 l Z L (n + 1) := by
  intro d S a1 a2 x S1 H nc ns hB
  have H : b_L_patches_0 Z.1.2.1 (fun k => (Z.1.2.2 k).toInt) n d (f_L_patches Z.1.2.1 (fun k => (Z.1.2.2 k).toInt) n) S a1 a2 = some (x, S1) := H
  unfold b_L_patches_0 at H
  refine GA.aload_n dL_patches_0 rfl ?_
  refine GA.iconst dL_patches_1 ?_
  obtain ⟨hg1, H⟩ := gg_e H
  obtain ⟨x2, S_3, hc4, H⟩ := gc_e H
  by_cases hb5 : x2 < exB
  case neg =>
    have H := it_f H hb5
    cases H
  have H := it_t H hb5
  refine GA.callV (m_X11_sum hc4 hb5) xs_L_28 dL_patches_2 gs_468 (by decide) rfl rfl (by omega) (by decide) rfl (Nat.le_of_ble_eq_true rfl) (by omega) (by omega) rfl (fun E S9 hx => hx.elim) (fun v S9 hq => ?_)
  obtain ⟨rfl, rfl⟩ := hq
  refine GA.istore_n dL_patches_5 (by decide) ?_
  refine GA.aload_n dL_patches_6 rfl ?_
  refine GA.iload_n dL_patches_7 rfl ?_
  refine GA.iload_n dL_patches_8 rfl ?_
  obtain ⟨x6, S_7, hc8, H⟩ := gc_e H
  refine GA.callW (m_L_tryPatch hc8) xs_L_72 dL_patches_9 rfl (by omega) (by decide) rfl (Nat.le_of_ble_eq_true rfl) (by omega) (by omega) (fun E S9 hx => hx) (fun v S9 hq => ?_)
  obtain ⟨rfl, rfl⟩ := hq
  refine GA.istore dL_patches_12 (by decide) ?_
  refine GA.iconst dL_patches_14 ?_
  refine GA.istore dL_patches_15 (by decide) ?_
  refine GA.iload dL_patches_17 rfl ?_
  obtain ⟨hg9, H⟩ := gg_e H
  refine GV.if_lt (tgt := 154) hg9 dL_patches_19 (by decide) (fun c10 => ?_) (fun c10 => ?_)
  · have H := it_t H c10
    refine GA.locals [(0, .ref (L 468)), (3, .int (J x2)), (5, .int (J 1))] ⟨rfl, rfl, rfl, trivial⟩ ?_
    exact ih_L_patches_154 _ _ (x2) (1) _ _ H _ _ (by omega)
  · have H := it_f H c10
    refine GA.aload_n dL_patches_22 rfl ?_
    refine GA.iload_n dL_patches_23 rfl ?_
    refine GA.iload dL_patches_24 rfl ?_
    obtain ⟨x11, S_12, hc13, H⟩ := gc_e H
    by_cases hb14 : x11 < exB
    case neg =>
      have H := it_f H hb14
      cases H
    have H := it_t H hb14
    refine GA.callV (m_X11_lay hc13 hb14) xs_L_76 dL_patches_26 gs_468 (by decide) rfl rfl (by omega) (by decide) rfl (Nat.le_of_ble_eq_true rfl) (by omega) (by omega) rfl (fun E S9 hx => hx.elim) (fun v S9 hq => ?_)
    obtain ⟨rfl, rfl⟩ := hq
    refine GA.istore dL_patches_29 (by decide) ?_
    refine GA.iload dL_patches_31 rfl ?_
    refine GA.iload_n dL_patches_33 rfl ?_
    refine GA.iconst dL_patches_34 ?_
    obtain ⟨x15, hx16, H⟩ := gv_e H
    refine GV.iadd hx16 dL_patches_35 ?_
    obtain ⟨hg17, H⟩ := gg_e H
    obtain ⟨hg18, H⟩ := gg_e H
    refine GV.icmp_ne (tgt := 78) hg17 hg18 dL_patches_36 (by decide) (fun c19 => ?_) (fun c19 => ?_)
    · have H := it_t H c19
      refine GA.iconst dL_patches_78 ?_
      refine GA.locals [(0, .ref (L 468)), (1, .int (J a1)), (3, .int (J x2)), (4, .int (J x6)), (6, .int (J x11))] ⟨rfl, rfl, rfl, rfl, rfl, trivial⟩ ?_
      exact ih_L_patches_79 _ _ (a1) (x2) (x6) (x11) (0) _ _ H _ _ (by omega)
    · have H := it_f H c19
      refine GA.aload_n dL_patches_39 rfl ?_
      refine GA.iload dL_patches_40 rfl ?_
      refine GA.iload_n dL_patches_42 rfl ?_
      obtain ⟨x20, S_21, hc22, H⟩ := gc_e H
      by_cases hb23 : x20 < exB
      case neg =>
        have H := it_f H hb23
        cases H
      have H := it_t H hb23
      refine GA.callV (m_X11_equal hc22 hb23) xs_L_56 dL_patches_43 gs_468 (by decide) rfl rfl (by omega) (by decide) rfl (Nat.le_of_ble_eq_true rfl) (by omega) (by omega) rfl (fun E S9 hx => hx.elim) (fun v S9 hq => ?_)
      obtain ⟨rfl, rfl⟩ := hq
      obtain ⟨hg24, H⟩ := gg_e H
      refine GV.if_eq (tgt := 78) hg24 dL_patches_46 (by decide) (fun c25 => ?_) (fun c25 => ?_)
      · have H := it_t H c25
        refine GA.iconst dL_patches_78 ?_
        refine GA.locals [(0, .ref (L 468)), (1, .int (J a1)), (3, .int (J x2)), (4, .int (J x6)), (6, .int (J x11))] ⟨rfl, rfl, rfl, rfl, rfl, trivial⟩ ?_
        exact ih_L_patches_79 _ _ (a1) (x2) (x6) (x11) (0) _ _ H _ _ (by omega)
      · have H := it_f H c25
        refine GA.aload_n dL_patches_49 rfl ?_
        refine GA.iload dL_patches_50 rfl ?_
        refine GA.iconst dL_patches_52 ?_
        refine GA.iconst dL_patches_53 ?_
        obtain ⟨x26, S_27, hc28, H⟩ := gc_e H
        by_cases hb29 : x26 < exB
        case neg =>
          have H := it_f H hb29
          cases H
        have H := it_t H hb29
        refine GA.callV (m_X11_node hc28 hb29) xs_L_63 dL_patches_54 gs_468 (by decide) rfl rfl (by omega) (by decide) rfl (Nat.le_of_ble_eq_true rfl) (by omega) (by omega) rfl (fun E S9 hx => hx.elim) (fun v S9 hq => ?_)
        obtain ⟨rfl, rfl⟩ := hq
        obtain ⟨hg30, H⟩ := gg_e H
        refine GV.if_ne (tgt := 64) hg30 dL_patches_57 (by decide) (fun c31 => ?_) (fun c31 => ?_)
        · have H := it_t H c31
          refine GA.iconst dL_patches_64 ?_
          refine GA.locals [(0, .ref (L 468)), (1, .int (J a1)), (2, .int (J a2)), (3, .int (J x2)), (4, .int (J x6)), (6, .int (J x11))] ⟨rfl, rfl, rfl, rfl, rfl, rfl, trivial⟩ ?_
          exact ih_L_patches_65 _ _ (a1) (a2) (x2) (x6) (x11) (0) _ _ H _ _ (by omega)
        · have H := it_f H c31
          refine GA.iconst dL_patches_60 ?_
          refine GA.goto (tgt := 65) dL_patches_61 (by decide) ?_
          refine GA.locals [(0, .ref (L 468)), (1, .int (J a1)), (2, .int (J a2)), (3, .int (J x2)), (4, .int (J x6)), (6, .int (J x11))] ⟨rfl, rfl, rfl, rfl, rfl, rfl, trivial⟩ ?_
          exact ih_L_patches_65 _ _ (a1) (a2) (x2) (x6) (x11) (1) _ _ H _ _ (by omega)
set_option maxHeartbeats 16000000 in
set_option maxRecDepth 100000 in
theorem t_L_patches_65 {l : Launch} {Z : XZ} {L : Nat → Nat} (n : Nat) (ih_L_patches_0 : P_L_patches_0 l Z L n) (ih_L_patches_65 : P_L_patches_65 l Z L n) (ih_L_patches_79 : P_L_patches_79 l Z L n) (ih_L_patches_154 : P_L_patches_154 l Z L n) : P_L_patches_65 l Z L (n + 1) := by
  intro d S a1 a2 a3 a4 a6 s0 x S1 H nc ns hB
  have H : b_L_patches_65 Z.1.2.1 (fun k => (Z.1.2.2 k).toInt) n d (f_L_patches Z.1.2.1 (fun k => (Z.1.2.2 k).toInt) n) S a1 a2 a3 a4 a6 s0 = some (x, S1) := H
  unfold b_L_patches_65 at H
  refine GA.aload_n dL_patches_65 rfl ?_
  refine GA.iload_n dL_patches_66 rfl ?_
  refine GA.iload_n dL_patches_67 rfl ?_
  obtain ⟨hg1, H⟩ := gg_e H
  obtain ⟨x2, S_3, hc4, H⟩ := gc_e H
  by_cases hb5 : x2 < exB
  case neg =>
    have H := it_f H hb5
    cases H
  have H := it_t H hb5
  refine GA.callV (m_X11_equal hc4 hb5) xs_L_56 dL_patches_68 gs_468 (by decide) rfl rfl (by omega) (by decide) rfl (Nat.le_of_ble_eq_true rfl) (by omega) (by omega) rfl (fun E S9 hx => hx.elim) (fun v S9 hq => ?_)
  obtain ⟨rfl, rfl⟩ := hq
  obtain ⟨hg6, H⟩ := gg_e H
  obtain ⟨hg7, H⟩ := gg_e H
  refine GV.icmp_ne (tgt := 78) hg6 hg7 dL_patches_71 (by decide) (fun c8 => ?_) (fun c8 => ?_)
  · have H := it_t H c8
    refine GA.iconst dL_patches_78 ?_
    refine GA.locals [(0, .ref (L 468)), (1, .int (J a1)), (3, .int (J a3)), (4, .int (J a4)), (6, .int (J a6))] ⟨rfl, rfl, rfl, rfl, rfl, trivial⟩ ?_
    exact ih_L_patches_79 _ _ (a1) (a3) (a4) (a6) (0) _ _ H _ _ (by omega)
  · have H := it_f H c8
    refine GA.iconst dL_patches_74 ?_
    refine GA.goto (tgt := 79) dL_patches_75 (by decide) ?_
    refine GA.locals [(0, .ref (L 468)), (1, .int (J a1)), (3, .int (J a3)), (4, .int (J a4)), (6, .int (J a6))] ⟨rfl, rfl, rfl, rfl, rfl, trivial⟩ ?_
    exact ih_L_patches_79 _ _ (a1) (a3) (a4) (a6) (1) _ _ H _ _ (by omega)
set_option maxHeartbeats 16000000 in
set_option maxRecDepth 100000 in
theorem t_L_patches_79 {l : Launch} {Z : XZ} {L : Nat → Nat} (n : Nat) (ih_L_patches_0 : P_L_patches_0 l Z L n) (ih_L_patches_65 : P_L_patches_65 l Z L n) (ih_L_patches_79 : P_L_patches_79 l Z L n) (ih_L_patches_154 : P_L_patches_154 l Z L n) : P_L_patches_79 l Z L (n + 1) := by
  intro d S a1 a3 a4 a6 s0 x S1 H nc ns hB
  have H : b_L_patches_79 Z.1.2.1 (fun k => (Z.1.2.2 k).toInt) n d (f_L_patches Z.1.2.1 (fun k => (Z.1.2.2 k).toInt) n) S a1 a3 a4 a6 s0 = some (x, S1) := H
  unfold b_L_patches_79 at H
  refine GA.istore dL_patches_79 (by decide) ?_
  refine GA.aload_n dL_patches_81 rfl ?_
  refine GA.iload_n dL_patches_82 rfl ?_
  refine GA.iload dL_patches_83 rfl ?_
  obtain ⟨hg1, H⟩ := gg_e H
  obtain ⟨x2, S_3, hc4, H⟩ := gc_e H
  refine GA.callW (m_L_tryTurn hc4) xs_L_79 dL_patches_85 rfl (by omega) (by decide) rfl (Nat.le_of_ble_eq_true rfl) (by omega) (by omega) (fun E S9 hx => hx) (fun v S9 hq => ?_)
  obtain ⟨rfl, rfl⟩ := hq
  refine GA.istore dL_patches_88 (by decide) ?_
  refine GA.iload dL_patches_90 rfl ?_
  obtain ⟨hg5, H⟩ := gg_e H
  refine GV.if_lt (tgt := 154) hg5 dL_patches_92 (by decide) (fun c6 => ?_) (fun c6 => ?_)
  · have H := it_t H c6
    refine GA.locals [(0, .ref (L 468)), (3, .int (J a3)), (5, .int (J s0))] ⟨rfl, rfl, rfl, trivial⟩ ?_
    exact ih_L_patches_154 _ _ (a3) (s0) _ _ H _ _ (by omega)
  · have H := it_f H c6
    refine GA.aload_n dL_patches_95 rfl ?_
    refine GA.iload dL_patches_96 rfl ?_
    refine GA.iload dL_patches_98 rfl ?_
    obtain ⟨x7, S_8, hc9, H⟩ := gc_e H
    by_cases hb10 : x7 < exB
    case neg =>
      have H := it_f H hb10
      cases H
    have H := it_t H hb10
    refine GA.callV (m_X11_lay hc9 hb10) xs_L_76 dL_patches_100 gs_468 (by decide) rfl rfl (by omega) (by decide) rfl (Nat.le_of_ble_eq_true rfl) (by omega) (by omega) rfl (fun E S9 hx => hx.elim) (fun v S9 hq => ?_)
    obtain ⟨rfl, rfl⟩ := hq
    refine GA.istore dL_patches_103 (by decide) ?_
    refine GA.iload dL_patches_105 rfl ?_
    obtain ⟨hg11, H⟩ := gg_e H
    refine GV.if_eq (tgt := 151) hg11 dL_patches_107 (by decide) (fun c12 => ?_) (fun c12 => ?_)
    · have H := it_t H c12
      refine GA.iconst dL_patches_151 ?_
      refine GA.istore dL_patches_152 (by decide) ?_
      refine GA.locals [(0, .ref (L 468)), (3, .int (J a3)), (5, .int (J 0))] ⟨rfl, rfl, rfl, trivial⟩ ?_
      exact ih_L_patches_154 _ _ (a3) (0) _ _ H _ _ (by omega)
    · have H := it_f H c12
      refine GA.iload dL_patches_110 rfl ?_
      refine GA.iload_n dL_patches_112 rfl ?_
      refine GA.iconst dL_patches_113 ?_
      obtain ⟨x13, hx14, H⟩ := gv_e H
      refine GV.iadd hx14 dL_patches_114 ?_
      obtain ⟨hg15, H⟩ := gg_e H
      obtain ⟨hg16, H⟩ := gg_e H
      refine GV.icmp_ne (tgt := 151) hg15 hg16 dL_patches_115 (by decide) (fun c17 => ?_) (fun c17 => ?_)
      · have H := it_t H c17
        refine GA.iconst dL_patches_151 ?_
        refine GA.istore dL_patches_152 (by decide) ?_
        refine GA.locals [(0, .ref (L 468)), (3, .int (J a3)), (5, .int (J 0))] ⟨rfl, rfl, rfl, trivial⟩ ?_
        exact ih_L_patches_154 _ _ (a3) (0) _ _ H _ _ (by omega)
      · have H := it_f H c17
        refine GA.aload_n dL_patches_118 rfl ?_
        refine GA.iload dL_patches_119 rfl ?_
        refine GA.iload_n dL_patches_121 rfl ?_
        obtain ⟨x18, S_19, hc20, H⟩ := gc_e H
        by_cases hb21 : x18 < exB
        case neg =>
          have H := it_f H hb21
          cases H
        have H := it_t H hb21
        refine GA.callV (m_X11_equal hc20 hb21) xs_L_56 dL_patches_122 gs_468 (by decide) rfl rfl (by omega) (by decide) rfl (Nat.le_of_ble_eq_true rfl) (by omega) (by omega) rfl (fun E S9 hx => hx.elim) (fun v S9 hq => ?_)
        obtain ⟨rfl, rfl⟩ := hq
        obtain ⟨hg22, H⟩ := gg_e H
        refine GV.if_eq (tgt := 151) hg22 dL_patches_125 (by decide) (fun c23 => ?_) (fun c23 => ?_)
        · have H := it_t H c23
          refine GA.iconst dL_patches_151 ?_
          refine GA.istore dL_patches_152 (by decide) ?_
          refine GA.locals [(0, .ref (L 468)), (3, .int (J a3)), (5, .int (J 0))] ⟨rfl, rfl, rfl, trivial⟩ ?_
          exact ih_L_patches_154 _ _ (a3) (0) _ _ H _ _ (by omega)
        · have H := it_f H c23
          refine GA.aload_n dL_patches_128 rfl ?_
          refine GA.iload dL_patches_129 rfl ?_
          refine GA.iconst dL_patches_131 ?_
          refine GA.iconst dL_patches_132 ?_
          obtain ⟨x24, S_25, hc26, H⟩ := gc_e H
          by_cases hb27 : x24 < exB
          case neg =>
            have H := it_f H hb27
            cases H
          have H := it_t H hb27
          refine GA.callV (m_X11_node hc26 hb27) xs_L_63 dL_patches_133 gs_468 (by decide) rfl rfl (by omega) (by decide) rfl (Nat.le_of_ble_eq_true rfl) (by omega) (by omega) rfl (fun E S9 hx => hx.elim) (fun v S9 hq => ?_)
          obtain ⟨rfl, rfl⟩ := hq
          refine GA.aload_n dL_patches_136 rfl ?_
          refine GA.iload dL_patches_137 rfl ?_
          refine GA.iconst dL_patches_139 ?_
          refine GA.iconst dL_patches_140 ?_
          obtain ⟨x28, S_29, hc30, H⟩ := gc_e H
          by_cases hb31 : x28 < exB
          case neg =>
            have H := it_f H hb31
            cases H
          have H := it_t H hb31
          refine GA.callV (m_X11_node hc30 hb31) xs_L_63 dL_patches_141 gs_468 (by decide) rfl rfl (by omega) (by decide) rfl (Nat.le_of_ble_eq_true rfl) (by omega) (by omega) rfl (fun E S9 hx => hx.elim) (fun v S9 hq => ?_)
          obtain ⟨rfl, rfl⟩ := hq
          obtain ⟨hg32, H⟩ := gg_e H
          obtain ⟨hg33, H⟩ := gg_e H
          refine GV.icmp_ne (tgt := 151) hg32 hg33 dL_patches_144 (by decide) (fun c34 => ?_) (fun c34 => ?_)
          · have H := it_t H c34
            refine GA.iconst dL_patches_151 ?_
            refine GA.istore dL_patches_152 (by decide) ?_
            refine GA.locals [(0, .ref (L 468)), (3, .int (J a3)), (5, .int (J 0))] ⟨rfl, rfl, rfl, trivial⟩ ?_
            exact ih_L_patches_154 _ _ (a3) (0) _ _ H _ _ (by omega)
          · have H := it_f H c34
            refine GA.iconst dL_patches_147 ?_
            refine GA.goto (tgt := 152) dL_patches_148 (by decide) ?_
            refine GA.istore dL_patches_152 (by decide) ?_
            refine GA.locals [(0, .ref (L 468)), (3, .int (J a3)), (5, .int (J 1))] ⟨rfl, rfl, rfl, trivial⟩ ?_
            exact ih_L_patches_154 _ _ (a3) (1) _ _ H _ _ (by omega)
set_option maxHeartbeats 16000000 in
set_option maxRecDepth 100000 in
theorem t_L_patches_154 {l : Launch} {Z : XZ} {L : Nat → Nat} (n : Nat) (ih_L_patches_0 : P_L_patches_0 l Z L n) (ih_L_patches_65 : P_L_patches_65 l Z L n) (ih_L_patches_79 : P_L_patches_79 l Z L n) (ih_L_patches_154 : P_L_patches_154 l Z L n) : P_L_patches_154 l Z L (n + 1) := by
  intro d S a3 a5 x S1 H nc ns hB
  have H : b_L_patches_154 Z.1.2.1 (fun k => (Z.1.2.2 k).toInt) n d (f_L_patches Z.1.2.1 (fun k => (Z.1.2.2 k).toInt) n) S a3 a5 = some (x, S1) := H
  unfold b_L_patches_154 at H
  refine GA.aload_n dL_patches_154 rfl ?_
  refine GA.iconst dL_patches_155 ?_
  obtain ⟨hg1, H⟩ := gg_e H
  obtain ⟨x2, S_3, hc4, H⟩ := gc_e H
  by_cases hb5 : x2 < exB
  case neg =>
    have H := it_f H hb5
    cases H
  have H := it_t H hb5
  refine GA.callV (m_X11_sum hc4 hb5) xs_L_28 dL_patches_156 gs_468 (by decide) rfl rfl (by omega) (by decide) rfl (Nat.le_of_ble_eq_true rfl) (by omega) (by omega) rfl (fun E S9 hx => hx.elim) (fun v S9 hq => ?_)
  obtain ⟨rfl, rfl⟩ := hq
  refine GA.iload_n dL_patches_159 rfl ?_
  obtain ⟨hg6, H⟩ := gg_e H
  obtain ⟨hg7, H⟩ := gg_e H
  refine GV.icmp_le (tgt := 172) hg6 hg7 dL_patches_160 (by decide) (fun c8 => ?_) (fun c8 => ?_)
  · have H := it_t H c8
    refine GA.iload dL_patches_172 rfl ?_
    obtain ⟨hg9, H⟩ := gg_e H
    cases H
    exact GV.zret hg9 rfl dL_patches_174 (by omega) (by omega) ⟨rfl, rfl⟩
  · have H := it_f H c8
    refine GA.aload_n dL_patches_163 rfl ?_
    obtain ⟨x10, S_11, hc12, H⟩ := gc_e H
    by_cases hb13 : x10 < exB
    case neg =>
      have H := it_f H hb13
      cases H
    have H := it_t H hb13
    refine GA.callV (m_X11_undo hc12 hb13) xs_L_66 dL_patches_164 gs_468 (by decide) rfl rfl (by omega) (by decide) rfl (Nat.le_of_ble_eq_true rfl) (by omega) (by omega) rfl (fun E S9 hx => hx.elim) (fun v S9 hq => ?_)
    obtain ⟨rfl, rfl⟩ := hq
    refine GA.istore dL_patches_167 (by decide) ?_
    refine GA.goto (tgt := 154) dL_patches_169 (by decide) ?_
    refine GA.locals [(0, .ref (L 468)), (3, .int (J a3)), (5, .int (J a5))] ⟨rfl, rfl, rfl, trivial⟩ ?_
    exact ih_L_patches_154 _ _ (a3) (a5) _ _ H _ _ (by omega)
theorem g_L_patches {l : Launch} {Z : XZ} {L : Nat → Nat} : ∀ n, P_L_patches_0 l Z L n ∧ P_L_patches_65 l Z L n ∧ P_L_patches_79 l Z L n ∧ P_L_patches_154 l Z L n
  | 0 => ⟨fun _ _ _ _ _ _ H => no_e H, fun _ _ _ _ _ _ _ _ _ _ H => no_e H, fun _ _ _ _ _ _ _ _ _ H => no_e H, fun _ _ _ _ _ _ H => no_e H⟩
  | n + 1 => have ⟨h0, h1, h2, h3⟩ := g_L_patches (l := l) (Z := Z) (L := L) n
    ⟨t_L_patches_0 n h0 h1 h2 h3, t_L_patches_65 n h0 h1 h2 h3, t_L_patches_79 n h0 h1 h2 h3, t_L_patches_154 n h0 h1 h2 h3⟩
theorem m_L_patches {l : Launch} {Z : XZ} {L : Nat → Nat} {n d : Nat} {S : GS} {a1 : Int} {a2 : Int} {x : Int} {S1 : GS} (H : f_L_patches Z.1.2.1 (fun k => (Z.1.2.2 k).toInt) n d 0 S [a1, a2] = some (x, S1)) : GM l Z L yL_patches cL_patches 9 (some .boolean) [] d 2 12 [.ref (L 468), .int (J a1), .int (J a2)] S (fun v S' => v = some (.int (J x)) ∧ S1 = S') (fun _ _ => False) := GM.of (by decide) (Nat.le_of_ble_eq_true rfl) ((g_L_patches n).1 _ _ _ _ _ _ H 0 0 (by omega))
def P_L_joins_0 (l : Launch) (Z : XZ) (L : Nat → Nat) (n : Nat) : Prop := ∀ (d : Nat) (S : GS) (a1 : Int) (a2 : Int) (a3 : Int) (x : Int) (S1 : GS), f_L_joins Z.1.2.1 (fun k => (Z.1.2.2 k).toInt) n d 0 S [a1, a2, a3] = some (x, S1) → ∀ nc ns : Nat, nc + 4 ≤ 4 ∧ ns + 24 ≤ 24 → GA l Z L yL_joins cL_joins 10 (some .boolean) [] d 4 24 (fun v S' => v = some (.int (J x)) ∧ S1 = S') (fun _ _ => False) 0 (gl [(0, .ref (L 468)), (1, .int (J a1)), (2, .int (J a2)), (3, .int (J a3))]) [] S nc ns
def P_L_joins_31 (l : Launch) (Z : XZ) (L : Nat → Nat) (n : Nat) : Prop := ∀ (d : Nat) (S : GS) (a1 : Int) (a2 : Int) (a3 : Int) (a4 : Int) (a5 : Int) (s0 : Int) (x : Int) (S1 : GS), f_L_joins Z.1.2.1 (fun k => (Z.1.2.2 k).toInt) n d 31 S [a1, a2, a3, a4, a5, s0] = some (x, S1) → ∀ nc ns : Nat, nc + 3 ≤ 4 ∧ ns + 18 ≤ 24 → GA l Z L yL_joins cL_joins 10 (some .boolean) [] d 4 24 (fun v S' => v = some (.int (J x)) ∧ S1 = S') (fun _ _ => False) 31 (gl [(0, .ref (L 468)), (1, .int (J a1)), (2, .int (J a2)), (3, .int (J a3)), (4, .int (J a4)), (5, .int (J a5))]) [.int (J s0)] S nc ns
def P_L_joins_64 (l : Launch) (Z : XZ) (L : Nat → Nat) (n : Nat) : Prop := ∀ (d : Nat) (S : GS) (a1 : Int) (a2 : Int) (a3 : Int) (a4 : Int) (a5 : Int) (a6 : Int) (a7 : Int) (s0 : Int) (s1 : Int) (x : Int) (S1 : GS), f_L_joins Z.1.2.1 (fun k => (Z.1.2.2 k).toInt) n d 64 S [a1, a2, a3, a4, a5, a6, a7, s0, s1] = some (x, S1) → ∀ nc ns : Nat, nc + 2 ≤ 4 ∧ ns + 12 ≤ 24 → GA l Z L yL_joins cL_joins 10 (some .boolean) [] d 4 24 (fun v S' => v = some (.int (J x)) ∧ S1 = S') (fun _ _ => False) 64 (gl [(0, .ref (L 468)), (1, .int (J a1)), (2, .int (J a2)), (3, .int (J a3)), (4, .int (J a4)), (5, .int (J a5)), (6, .int (J a6)), (7, .int (J a7))]) [.int (J s0), .int (J s1)] S nc ns
def P_L_joins_92 (l : Launch) (Z : XZ) (L : Nat → Nat) (n : Nat) : Prop := ∀ (d : Nat) (S : GS) (a1 : Int) (a2 : Int) (a3 : Int) (a4 : Int) (a5 : Int) (a6 : Int) (x : Int) (S1 : GS), f_L_joins Z.1.2.1 (fun k => (Z.1.2.2 k).toInt) n d 92 S [a1, a2, a3, a4, a5, a6] = some (x, S1) → ∀ nc ns : Nat, nc + 2 ≤ 4 ∧ ns + 12 ≤ 24 → GA l Z L yL_joins cL_joins 10 (some .boolean) [] d 4 24 (fun v S' => v = some (.int (J x)) ∧ S1 = S') (fun _ _ => False) 92 (gl [(0, .ref (L 468)), (1, .int (J a1)), (2, .int (J a2)), (3, .int (J a3)), (4, .int (J a4)), (5, .int (J a5)), (6, .int (J a6))]) [] S nc ns
def P_L_joins_119 (l : Launch) (Z : XZ) (L : Nat → Nat) (n : Nat) : Prop := ∀ (d : Nat) (S : GS) (a1 : Int) (a2 : Int) (a3 : Int) (a4 : Int) (a8 : Int) (x : Int) (S1 : GS), f_L_joins Z.1.2.1 (fun k => (Z.1.2.2 k).toInt) n d 119 S [a1, a2, a3, a4, a8] = some (x, S1) → ∀ nc ns : Nat, nc + 2 ≤ 4 ∧ ns + 12 ≤ 24 → GA l Z L yL_joins cL_joins 10 (some .boolean) [] d 4 24 (fun v S' => v = some (.int (J x)) ∧ S1 = S') (fun _ _ => False) 119 (gl [(0, .ref (L 468)), (1, .int (J a1)), (2, .int (J a2)), (3, .int (J a3)), (4, .int (J a4)), (8, .int (J a8))]) [] S nc ns
def P_L_joins_183 (l : Launch) (Z : XZ) (L : Nat → Nat) (n : Nat) : Prop := ∀ (d : Nat) (S : GS) (a1 : Int) (a2 : Int) (a4 : Int) (s0 : Int) (x : Int) (S1 : GS), f_L_joins Z.1.2.1 (fun k => (Z.1.2.2 k).toInt) n d 183 S [a1, a2, a4, s0] = some (x, S1) → ∀ nc ns : Nat, nc + 1 ≤ 4 ∧ ns + 6 ≤ 24 → GA l Z L yL_joins cL_joins 10 (some .boolean) [] d 4 24 (fun v S' => v = some (.int (J x)) ∧ S1 = S') (fun _ _ => False) 183 (gl [(0, .ref (L 468)), (1, .int (J a1)), (2, .int (J a2)), (4, .int (J a4))]) [.int (J s0)] S nc ns
set_option maxHeartbeats 16000000 in
set_option maxRecDepth 100000 in
theorem t_L_joins_0 {l : Launch} {Z : XZ} {L : Nat → Nat} (n : Nat) (ih_L_joins_0 : P_L_joins_0 l Z L n) (ih_L_joins_31 : P_L_joins_31 l Z L n) (ih_L_joins_64 : P_L_joins_64 l Z L n) (ih_L_joins_92 : P_L_joins_92 l Z L n) (ih_L_joins_119 : P_L_joins_119 l Z L n) (ih_L_joins_183 : P_L_joins_183 l Z L n) : P_L_joins_0 l Z L (n + 1) := by
  intro d S a1 a2 a3 x S1 H nc ns hB
  have H : b_L_joins_0 Z.1.2.1 (fun k => (Z.1.2.2 k).toInt) n d (f_L_joins Z.1.2.1 (fun k => (Z.1.2.2 k).toInt) n) S a1 a2 a3 = some (x, S1) := H
  unfold b_L_joins_0 at H
  refine GA.aload_n dL_joins_0 rfl ?_
  refine GA.iconst dL_joins_1 ?_
  obtain ⟨hg1, H⟩ := gg_e H
  obtain ⟨x2, S_3, hc4, H⟩ := gc_e H
  by_cases hb5 : x2 < exB
  case neg =>
    have H := it_f H hb5
    cases H
  have H := it_t H hb5
  refine GA.callV (m_X11_sum hc4 hb5) xs_L_28 dL_joins_2 gs_468 (by decide) rfl rfl (by omega) (by decide) rfl (Nat.le_of_ble_eq_true rfl) (by omega) (by omega) rfl (fun E S9 hx => hx.elim) (fun v S9 hq => ?_)
  obtain ⟨rfl, rfl⟩ := hq
  refine GA.istore dL_joins_5 (by decide) ?_
  refine GA.aload_n dL_joins_7 rfl ?_
  refine GA.iload_n dL_joins_8 rfl ?_
  refine GA.iload_n dL_joins_9 rfl ?_
  refine GA.iload_n dL_joins_10 rfl ?_
  obtain ⟨x6, S_7, hc8, H⟩ := gc_e H
  refine GA.callW (m_L_tryJoin hc8) xs_L_82 dL_joins_11 rfl (by omega) (by decide) rfl (Nat.le_of_ble_eq_true rfl) (by omega) (by omega) (fun E S9 hx => hx) (fun v S9 hq => ?_)
  obtain ⟨rfl, rfl⟩ := hq
  refine GA.istore dL_joins_14 (by decide) ?_
  refine GA.iload dL_joins_16 rfl ?_
  refine GA.bipush dL_joins_18 rfl ?_
  obtain ⟨hg9, H⟩ := gg_e H
  refine GV.icmp_ne (tgt := 27) hg9 (by decide) dL_joins_20 (by decide) (fun c10 => ?_) (fun c10 => ?_)
  · have H := it_t H c10
    refine GA.aload_n dL_joins_27 rfl ?_
    obtain ⟨x11, S_12, hc13, H⟩ := gc_e H
    refine GA.callV (m_X11_quarrels hc13) xs_L_86 dL_joins_28 gs_468 (by decide) rfl rfl (by omega) (by decide) rfl (Nat.le_of_ble_eq_true rfl) (by omega) (by omega) rfl (fun E S9 hx => hx.elim) (fun v S9 hq => ?_)
    obtain ⟨rfl, rfl⟩ := hq
    refine GA.locals [(0, .ref (L 468)), (1, .int (J a1)), (2, .int (J a2)), (3, .int (J a3)), (4, .int (J x2)), (5, .int (J x6))] ⟨rfl, rfl, rfl, rfl, rfl, rfl, trivial⟩ ?_
    exact ih_L_joins_31 _ _ (a1) (a2) (a3) (x2) (x6) (x11) _ _ H _ _ (by omega)
  · have H := it_f H c10
    refine GA.iconst dL_joins_23 ?_
    refine GA.goto (tgt := 31) dL_joins_24 (by decide) ?_
    refine GA.locals [(0, .ref (L 468)), (1, .int (J a1)), (2, .int (J a2)), (3, .int (J a3)), (4, .int (J x2)), (5, .int (J x6))] ⟨rfl, rfl, rfl, rfl, rfl, rfl, trivial⟩ ?_
    exact ih_L_joins_31 _ _ (a1) (a2) (a3) (x2) (x6) (0) _ _ H _ _ (by omega)
set_option maxHeartbeats 16000000 in
set_option maxRecDepth 100000 in
theorem t_L_joins_31 {l : Launch} {Z : XZ} {L : Nat → Nat} (n : Nat) (ih_L_joins_0 : P_L_joins_0 l Z L n) (ih_L_joins_31 : P_L_joins_31 l Z L n) (ih_L_joins_64 : P_L_joins_64 l Z L n) (ih_L_joins_92 : P_L_joins_92 l Z L n) (ih_L_joins_119 : P_L_joins_119 l Z L n) (ih_L_joins_183 : P_L_joins_183 l Z L n) : P_L_joins_31 l Z L (n + 1) := by
  intro d S a1 a2 a3 a4 a5 s0 x S1 H nc ns hB
  have H : b_L_joins_31 Z.1.2.1 (fun k => (Z.1.2.2 k).toInt) n d (f_L_joins Z.1.2.1 (fun k => (Z.1.2.2 k).toInt) n) S a1 a2 a3 a4 a5 s0 = some (x, S1) := H
  unfold b_L_joins_31 at H
  refine GA.istore dL_joins_31 (by decide) ?_
  refine GA.aload_n dL_joins_33 rfl ?_
  refine GA.iload_n dL_joins_34 rfl ?_
  refine GA.iload_n dL_joins_35 rfl ?_
  refine GA.iload_n dL_joins_36 rfl ?_
  obtain ⟨hg1, H⟩ := gg_e H
  obtain ⟨x2, S_3, hc4, H⟩ := gc_e H
  refine GA.callW (m_L_tryJoin hc4) xs_L_82 dL_joins_37 rfl (by omega) (by decide) rfl (Nat.le_of_ble_eq_true rfl) (by omega) (by omega) (fun E S9 hx => hx) (fun v S9 hq => ?_)
  obtain ⟨rfl, rfl⟩ := hq
  refine GA.istore dL_joins_40 (by decide) ?_
  refine GA.iload dL_joins_42 rfl ?_
  refine GA.iconst dL_joins_44 ?_
  obtain ⟨hg5, H⟩ := gg_e H
  refine GV.icmp_ne (tgt := 52) hg5 (by decide) dL_joins_45 (by decide) (fun c6 => ?_) (fun c6 => ?_)
  · have H := it_t H c6
    refine GA.iconst dL_joins_52 ?_
    refine GA.iload dL_joins_53 rfl ?_
    refine GA.iconst dL_joins_55 ?_
    obtain ⟨hg7, H⟩ := gg_e H
    refine GV.icmp_ne (tgt := 63) hg7 (by decide) dL_joins_56 (by decide) (fun c8 => ?_) (fun c8 => ?_)
    · have H := it_t H c8
      refine GA.iconst dL_joins_63 ?_
      refine GA.locals [(0, .ref (L 468)), (1, .int (J a1)), (2, .int (J a2)), (3, .int (J a3)), (4, .int (J a4)), (5, .int (J a5)), (6, .int (J s0)), (7, .int (J x2))] ⟨rfl, rfl, rfl, rfl, rfl, rfl, rfl, rfl, trivial⟩ ?_
      exact ih_L_joins_64 _ _ (a1) (a2) (a3) (a4) (a5) (s0) (x2) (0) (0) _ _ H _ _ (by omega)
    · have H := it_f H c8
      refine GA.iconst dL_joins_59 ?_
      refine GA.goto (tgt := 64) dL_joins_60 (by decide) ?_
      refine GA.locals [(0, .ref (L 468)), (1, .int (J a1)), (2, .int (J a2)), (3, .int (J a3)), (4, .int (J a4)), (5, .int (J a5)), (6, .int (J s0)), (7, .int (J x2))] ⟨rfl, rfl, rfl, rfl, rfl, rfl, rfl, rfl, trivial⟩ ?_
      exact ih_L_joins_64 _ _ (a1) (a2) (a3) (a4) (a5) (s0) (x2) (1) (0) _ _ H _ _ (by omega)
  · have H := it_f H c6
    refine GA.iconst dL_joins_48 ?_
    refine GA.goto (tgt := 53) dL_joins_49 (by decide) ?_
    refine GA.iload dL_joins_53 rfl ?_
    refine GA.iconst dL_joins_55 ?_
    obtain ⟨hg9, H⟩ := gg_e H
    refine GV.icmp_ne (tgt := 63) hg9 (by decide) dL_joins_56 (by decide) (fun c10 => ?_) (fun c10 => ?_)
    · have H := it_t H c10
      refine GA.iconst dL_joins_63 ?_
      refine GA.locals [(0, .ref (L 468)), (1, .int (J a1)), (2, .int (J a2)), (3, .int (J a3)), (4, .int (J a4)), (5, .int (J a5)), (6, .int (J s0)), (7, .int (J x2))] ⟨rfl, rfl, rfl, rfl, rfl, rfl, rfl, rfl, trivial⟩ ?_
      exact ih_L_joins_64 _ _ (a1) (a2) (a3) (a4) (a5) (s0) (x2) (0) (1) _ _ H _ _ (by omega)
    · have H := it_f H c10
      refine GA.iconst dL_joins_59 ?_
      refine GA.goto (tgt := 64) dL_joins_60 (by decide) ?_
      refine GA.locals [(0, .ref (L 468)), (1, .int (J a1)), (2, .int (J a2)), (3, .int (J a3)), (4, .int (J a4)), (5, .int (J a5)), (6, .int (J s0)), (7, .int (J x2))] ⟨rfl, rfl, rfl, rfl, rfl, rfl, rfl, rfl, trivial⟩ ?_
      exact ih_L_joins_64 _ _ (a1) (a2) (a3) (a4) (a5) (s0) (x2) (1) (1) _ _ H _ _ (by omega)
set_option maxHeartbeats 16000000 in
set_option maxRecDepth 100000 in
theorem t_L_joins_64 {l : Launch} {Z : XZ} {L : Nat → Nat} (n : Nat) (ih_L_joins_0 : P_L_joins_0 l Z L n) (ih_L_joins_31 : P_L_joins_31 l Z L n) (ih_L_joins_64 : P_L_joins_64 l Z L n) (ih_L_joins_92 : P_L_joins_92 l Z L n) (ih_L_joins_119 : P_L_joins_119 l Z L n) (ih_L_joins_183 : P_L_joins_183 l Z L n) : P_L_joins_64 l Z L (n + 1) := by
  intro d S a1 a2 a3 a4 a5 a6 a7 s0 s1 x S1 H nc ns hB
  have H : b_L_joins_64 Z.1.2.1 (fun k => (Z.1.2.2 k).toInt) n d (f_L_joins Z.1.2.1 (fun k => (Z.1.2.2 k).toInt) n) S a1 a2 a3 a4 a5 a6 a7 s0 s1 = some (x, S1) := H
  unfold b_L_joins_64 at H
  obtain ⟨hg1, H⟩ := gg_e H
  obtain ⟨hg2, H⟩ := gg_e H
  refine GV.icmp_ne (tgt := 116) hg1 hg2 dL_joins_64 (by decide) (fun c3 => ?_) (fun c3 => ?_)
  · have H := it_t H c3
    refine GA.iconst dL_joins_116 ?_
    refine GA.istore dL_joins_117 (by decide) ?_
    refine GA.locals [(0, .ref (L 468)), (1, .int (J a1)), (2, .int (J a2)), (3, .int (J a3)), (4, .int (J a4)), (8, .int (J 0))] ⟨rfl, rfl, rfl, rfl, rfl, rfl, trivial⟩ ?_
    exact ih_L_joins_119 _ _ (a1) (a2) (a3) (a4) (0) _ _ H _ _ (by omega)
  · have H := it_f H c3
    refine GA.iload dL_joins_67 rfl ?_
    obtain ⟨hg4, H⟩ := gg_e H
    refine GV.if_lt (tgt := 92) hg4 dL_joins_69 (by decide) (fun c5 => ?_) (fun c5 => ?_)
    · have H := it_t H c5
      refine GA.locals [(0, .ref (L 468)), (1, .int (J a1)), (2, .int (J a2)), (3, .int (J a3)), (4, .int (J a4)), (5, .int (J a5)), (6, .int (J a6))] ⟨rfl, rfl, rfl, rfl, rfl, rfl, rfl, trivial⟩ ?_
      exact ih_L_joins_92 _ _ (a1) (a2) (a3) (a4) (a5) (a6) _ _ H _ _ (by omega)
    · have H := it_f H c5
      refine GA.iload dL_joins_72 rfl ?_
      refine GA.iload dL_joins_74 rfl ?_
      refine GA.iconst dL_joins_76 ?_
      obtain ⟨x6, hx7, H⟩ := gv_e H
      refine GV.iadd hx7 dL_joins_77 ?_
      obtain ⟨hg8, H⟩ := gg_e H
      obtain ⟨hg9, H⟩ := gg_e H
      refine GV.icmp_ne (tgt := 116) hg8 hg9 dL_joins_78 (by decide) (fun c10 => ?_) (fun c10 => ?_)
      · have H := it_t H c10
        refine GA.iconst dL_joins_116 ?_
        refine GA.istore dL_joins_117 (by decide) ?_
        refine GA.locals [(0, .ref (L 468)), (1, .int (J a1)), (2, .int (J a2)), (3, .int (J a3)), (4, .int (J a4)), (8, .int (J 0))] ⟨rfl, rfl, rfl, rfl, rfl, rfl, trivial⟩ ?_
        exact ih_L_joins_119 _ _ (a1) (a2) (a3) (a4) (0) _ _ H _ _ (by omega)
      · have H := it_f H c10
        refine GA.aload_n dL_joins_81 rfl ?_
        refine GA.iload dL_joins_82 rfl ?_
        refine GA.iload dL_joins_84 rfl ?_
        obtain ⟨hg11, H⟩ := gg_e H
        obtain ⟨x12, S_13, hc14, H⟩ := gc_e H
        by_cases hb15 : x12 < exB
        case neg =>
          have H := it_f H hb15
          cases H
        have H := it_t H hb15
        refine GA.callV (m_X11_equal hc14 hb15) xs_L_56 dL_joins_86 gs_468 (by decide) rfl rfl (by omega) (by decide) rfl (Nat.le_of_ble_eq_true rfl) (by omega) (by omega) rfl (fun E S9 hx => hx.elim) (fun v S9 hq => ?_)
        obtain ⟨rfl, rfl⟩ := hq
        obtain ⟨hg16, H⟩ := gg_e H
        refine GV.if_eq (tgt := 116) hg16 dL_joins_89 (by decide) (fun c17 => ?_) (fun c17 => ?_)
        · have H := it_t H c17
          refine GA.iconst dL_joins_116 ?_
          refine GA.istore dL_joins_117 (by decide) ?_
          refine GA.locals [(0, .ref (L 468)), (1, .int (J a1)), (2, .int (J a2)), (3, .int (J a3)), (4, .int (J a4)), (8, .int (J 0))] ⟨rfl, rfl, rfl, rfl, rfl, rfl, trivial⟩ ?_
          exact ih_L_joins_119 _ _ (a1) (a2) (a3) (a4) (0) _ _ H _ _ (by omega)
        · have H := it_f H c17
          refine GA.locals [(0, .ref (L 468)), (1, .int (J a1)), (2, .int (J a2)), (3, .int (J a3)), (4, .int (J a4)), (5, .int (J a5)), (6, .int (J a6))] ⟨rfl, rfl, rfl, rfl, rfl, rfl, rfl, trivial⟩ ?_
          exact ih_L_joins_92 _ _ (a1) (a2) (a3) (a4) (a5) (a6) _ _ H _ _ (by omega)
set_option maxHeartbeats 16000000 in
set_option maxRecDepth 100000 in
theorem t_L_joins_92 {l : Launch} {Z : XZ} {L : Nat → Nat} (n : Nat) (ih_L_joins_0 : P_L_joins_0 l Z L n) (ih_L_joins_31 : P_L_joins_31 l Z L n) (ih_L_joins_64 : P_L_joins_64 l Z L n) (ih_L_joins_92 : P_L_joins_92 l Z L n) (ih_L_joins_119 : P_L_joins_119 l Z L n) (ih_L_joins_183 : P_L_joins_183 l Z L n) : P_L_joins_92 l Z L (n + 1) := by
  intro d S a1 a2 a3 a4 a5 a6 x S1 H nc ns hB
  have H : b_L_joins_92 Z.1.2.1 (fun k => (Z.1.2.2 k).toInt) n d (f_L_joins Z.1.2.1 (fun k => (Z.1.2.2 k).toInt) n) S a1 a2 a3 a4 a5 a6 = some (x, S1) := H
  unfold b_L_joins_92 at H
  refine GA.iload dL_joins_92 rfl ?_
  refine GA.iconst dL_joins_94 ?_
  obtain ⟨hg1, H⟩ := gg_e H
  refine GV.icmp_ne (tgt := 112) hg1 (by decide) dL_joins_95 (by decide) (fun c2 => ?_) (fun c2 => ?_)
  · have H := it_t H c2
    refine GA.iconst dL_joins_112 ?_
    refine GA.goto (tgt := 117) dL_joins_113 (by decide) ?_
    refine GA.istore dL_joins_117 (by decide) ?_
    refine GA.locals [(0, .ref (L 468)), (1, .int (J a1)), (2, .int (J a2)), (3, .int (J a3)), (4, .int (J a4)), (8, .int (J 1))] ⟨rfl, rfl, rfl, rfl, rfl, rfl, trivial⟩ ?_
    exact ih_L_joins_119 _ _ (a1) (a2) (a3) (a4) (1) _ _ H _ _ (by omega)
  · have H := it_f H c2
    refine GA.iload dL_joins_98 rfl ?_
    obtain ⟨hg3, H⟩ := gg_e H
    refine GV.if_le (tgt := 116) hg3 dL_joins_100 (by decide) (fun c4 => ?_) (fun c4 => ?_)
    · have H := it_t H c4
      refine GA.iconst dL_joins_116 ?_
      refine GA.istore dL_joins_117 (by decide) ?_
      refine GA.locals [(0, .ref (L 468)), (1, .int (J a1)), (2, .int (J a2)), (3, .int (J a3)), (4, .int (J a4)), (8, .int (J 0))] ⟨rfl, rfl, rfl, rfl, rfl, rfl, trivial⟩ ?_
      exact ih_L_joins_119 _ _ (a1) (a2) (a3) (a4) (0) _ _ H _ _ (by omega)
    · have H := it_f H c4
      refine GA.aload_n dL_joins_103 rfl ?_
      obtain ⟨hg5, H⟩ := gg_e H
      obtain ⟨x6, S_7, hc8, H⟩ := gc_e H
      refine GA.callV (m_X11_quarrels hc8) xs_L_86 dL_joins_104 gs_468 (by decide) rfl rfl (by omega) (by decide) rfl (Nat.le_of_ble_eq_true rfl) (by omega) (by omega) rfl (fun E S9 hx => hx.elim) (fun v S9 hq => ?_)
      obtain ⟨rfl, rfl⟩ := hq
      refine GA.iload dL_joins_107 rfl ?_
      obtain ⟨hg9, H⟩ := gg_e H
      refine GV.icmp_ne (tgt := 116) hg9 hg3 dL_joins_109 (by decide) (fun c10 => ?_) (fun c10 => ?_)
      · have H := it_t H c10
        refine GA.iconst dL_joins_116 ?_
        refine GA.istore dL_joins_117 (by decide) ?_
        refine GA.locals [(0, .ref (L 468)), (1, .int (J a1)), (2, .int (J a2)), (3, .int (J a3)), (4, .int (J a4)), (8, .int (J 0))] ⟨rfl, rfl, rfl, rfl, rfl, rfl, trivial⟩ ?_
        exact ih_L_joins_119 _ _ (a1) (a2) (a3) (a4) (0) _ _ H _ _ (by omega)
      · have H := it_f H c10
        refine GA.iconst dL_joins_112 ?_
        refine GA.goto (tgt := 117) dL_joins_113 (by decide) ?_
        refine GA.istore dL_joins_117 (by decide) ?_
        refine GA.locals [(0, .ref (L 468)), (1, .int (J a1)), (2, .int (J a2)), (3, .int (J a3)), (4, .int (J a4)), (8, .int (J 1))] ⟨rfl, rfl, rfl, rfl, rfl, rfl, trivial⟩ ?_
        exact ih_L_joins_119 _ _ (a1) (a2) (a3) (a4) (1) _ _ H _ _ (by omega)
set_option maxHeartbeats 16000000 in
set_option maxRecDepth 100000 in
theorem t_L_joins_119 {l : Launch} {Z : XZ} {L : Nat → Nat} (n : Nat) (ih_L_joins_0 : P_L_joins_0 l Z L n) (ih_L_joins_31 : P_L_joins_31 l Z L n) (ih_L_joins_64 : P_L_joins_64 l Z L n) (ih_L_joins_92 : P_L_joins_92 l Z L n) (ih_L_joins_119 : P_L_joins_119 l Z L n) (ih_L_joins_183 : P_L_joins_183 l Z L n) : P_L_joins_119 l Z L (n + 1) := by
  intro d S a1 a2 a3 a4 a8 x S1 H nc ns hB
  have H : b_L_joins_119 Z.1.2.1 (fun k => (Z.1.2.2 k).toInt) n d (f_L_joins Z.1.2.1 (fun k => (Z.1.2.2 k).toInt) n) S a1 a2 a3 a4 a8 = some (x, S1) := H
  unfold b_L_joins_119 at H
  refine GA.aload_n dL_joins_119 rfl ?_
  refine GA.iconst dL_joins_120 ?_
  obtain ⟨hg1, H⟩ := gg_e H
  obtain ⟨x2, S_3, hc4, H⟩ := gc_e H
  by_cases hb5 : x2 < exB
  case neg =>
    have H := it_f H hb5
    cases H
  have H := it_t H hb5
  refine GA.callV (m_X11_sum hc4 hb5) xs_L_28 dL_joins_121 gs_468 (by decide) rfl rfl (by omega) (by decide) rfl (Nat.le_of_ble_eq_true rfl) (by omega) (by omega) rfl (fun E S9 hx => hx.elim) (fun v S9 hq => ?_)
  obtain ⟨rfl, rfl⟩ := hq
  refine GA.iload dL_joins_124 rfl ?_
  obtain ⟨hg6, H⟩ := gg_e H
  obtain ⟨hg7, H⟩ := gg_e H
  refine GV.icmp_le (tgt := 138) hg6 hg7 dL_joins_126 (by decide) (fun c8 => ?_) (fun c8 => ?_)
  · have H := it_t H c8
    refine GA.aload_n dL_joins_138 rfl ?_
    refine GA.iload_n dL_joins_139 rfl ?_
    refine GA.iload_n dL_joins_140 rfl ?_
    refine GA.iload_n dL_joins_141 rfl ?_
    obtain ⟨x9, S_10, hc11, H⟩ := gc_e H
    refine GA.callW (m_L_tryJoin hc11) xs_L_82 dL_joins_142 rfl (by omega) (by decide) rfl (Nat.le_of_ble_eq_true rfl) (by omega) (by omega) (fun E S9 hx => hx) (fun v S9 hq => ?_)
    obtain ⟨rfl, rfl⟩ := hq
    refine GA.istore dL_joins_145 (by decide) ?_
    refine GA.iload dL_joins_147 rfl ?_
    obtain ⟨hg12, H⟩ := gg_e H
    refine GV.if_eq (tgt := 182) hg12 dL_joins_149 (by decide) (fun c13 => ?_) (fun c13 => ?_)
    · have H := it_t H c13
      refine GA.iconst dL_joins_182 ?_
      refine GA.locals [(0, .ref (L 468)), (1, .int (J a1)), (2, .int (J a2)), (4, .int (J a4))] ⟨rfl, rfl, rfl, rfl, trivial⟩ ?_
      exact ih_L_joins_183 _ _ (a1) (a2) (a4) (0) _ _ H _ _ (by omega)
    · have H := it_f H c13
      refine GA.iload dL_joins_152 rfl ?_
      refine GA.iload dL_joins_154 rfl ?_
      obtain ⟨hg14, H⟩ := gg_e H
      refine GV.icmp_ne (tgt := 182) hg14 hg7 dL_joins_156 (by decide) (fun c15 => ?_) (fun c15 => ?_)
      · have H := it_t H c15
        refine GA.iconst dL_joins_182 ?_
        refine GA.locals [(0, .ref (L 468)), (1, .int (J a1)), (2, .int (J a2)), (4, .int (J a4))] ⟨rfl, rfl, rfl, rfl, trivial⟩ ?_
        exact ih_L_joins_183 _ _ (a1) (a2) (a4) (0) _ _ H _ _ (by omega)
      · have H := it_f H c15
        refine GA.aload_n dL_joins_159 rfl ?_
        refine GA.iload dL_joins_160 rfl ?_
        refine GA.iload_n dL_joins_162 rfl ?_
        obtain ⟨x16, S_17, hc18, H⟩ := gc_e H
        by_cases hb19 : x16 < exB
        case neg =>
          have H := it_f H hb19
          cases H
        have H := it_t H hb19
        refine GA.callV (m_X11_equal hc18 hb19) xs_L_56 dL_joins_163 gs_468 (by decide) rfl rfl (by omega) (by decide) rfl (Nat.le_of_ble_eq_true rfl) (by omega) (by omega) rfl (fun E S9 hx => hx.elim) (fun v S9 hq => ?_)
        obtain ⟨rfl, rfl⟩ := hq
        obtain ⟨hg20, H⟩ := gg_e H
        refine GV.if_eq (tgt := 182) hg20 dL_joins_166 (by decide) (fun c21 => ?_) (fun c21 => ?_)
        · have H := it_t H c21
          refine GA.iconst dL_joins_182 ?_
          refine GA.locals [(0, .ref (L 468)), (1, .int (J a1)), (2, .int (J a2)), (4, .int (J a4))] ⟨rfl, rfl, rfl, rfl, trivial⟩ ?_
          exact ih_L_joins_183 _ _ (a1) (a2) (a4) (0) _ _ H _ _ (by omega)
        · have H := it_f H c21
          refine GA.aload_n dL_joins_169 rfl ?_
          obtain ⟨x22, S_23, hc24, H⟩ := gc_e H
          by_cases hb25 : x22 < exB
          case neg =>
            have H := it_f H hb25
            cases H
          have H := it_t H hb25
          refine GA.callV (m_X11_undo hc24 hb25) xs_L_66 dL_joins_170 gs_468 (by decide) rfl rfl (by omega) (by decide) rfl (Nat.le_of_ble_eq_true rfl) (by omega) (by omega) rfl (fun E S9 hx => hx.elim) (fun v S9 hq => ?_)
          obtain ⟨rfl, rfl⟩ := hq
          refine GA.iload dL_joins_173 rfl ?_
          obtain ⟨hg26, H⟩ := gg_e H
          refine GV.icmp_ne (tgt := 182) hg26 hg7 dL_joins_175 (by decide) (fun c27 => ?_) (fun c27 => ?_)
          · have H := it_t H c27
            refine GA.iconst dL_joins_182 ?_
            refine GA.locals [(0, .ref (L 468)), (1, .int (J a1)), (2, .int (J a2)), (4, .int (J a4))] ⟨rfl, rfl, rfl, rfl, trivial⟩ ?_
            exact ih_L_joins_183 _ _ (a1) (a2) (a4) (0) _ _ H _ _ (by omega)
          · have H := it_f H c27
            refine GA.iconst dL_joins_178 ?_
            refine GA.goto (tgt := 183) dL_joins_179 (by decide) ?_
            refine GA.locals [(0, .ref (L 468)), (1, .int (J a1)), (2, .int (J a2)), (4, .int (J a4))] ⟨rfl, rfl, rfl, rfl, trivial⟩ ?_
            exact ih_L_joins_183 _ _ (a1) (a2) (a4) (1) _ _ H _ _ (by omega)
  · have H := it_f H c8
    refine GA.aload_n dL_joins_129 rfl ?_
    obtain ⟨x28, S_29, hc30, H⟩ := gc_e H
    by_cases hb31 : x28 < exB
    case neg =>
      have H := it_f H hb31
      cases H
    have H := it_t H hb31
    refine GA.callV (m_X11_undo hc30 hb31) xs_L_66 dL_joins_130 gs_468 (by decide) rfl rfl (by omega) (by decide) rfl (Nat.le_of_ble_eq_true rfl) (by omega) (by omega) rfl (fun E S9 hx => hx.elim) (fun v S9 hq => ?_)
    obtain ⟨rfl, rfl⟩ := hq
    refine GA.istore dL_joins_133 (by decide) ?_
    refine GA.goto (tgt := 119) dL_joins_135 (by decide) ?_
    refine GA.locals [(0, .ref (L 468)), (1, .int (J a1)), (2, .int (J a2)), (3, .int (J a3)), (4, .int (J a4)), (8, .int (J a8))] ⟨rfl, rfl, rfl, rfl, rfl, rfl, trivial⟩ ?_
    exact ih_L_joins_119 _ _ (a1) (a2) (a3) (a4) (a8) _ _ H _ _ (by omega)
set_option maxHeartbeats 16000000 in
set_option maxRecDepth 100000 in
theorem t_L_joins_183 {l : Launch} {Z : XZ} {L : Nat → Nat} (n : Nat) (ih_L_joins_0 : P_L_joins_0 l Z L n) (ih_L_joins_31 : P_L_joins_31 l Z L n) (ih_L_joins_64 : P_L_joins_64 l Z L n) (ih_L_joins_92 : P_L_joins_92 l Z L n) (ih_L_joins_119 : P_L_joins_119 l Z L n) (ih_L_joins_183 : P_L_joins_183 l Z L n) : P_L_joins_183 l Z L (n + 1) := by
  intro d S a1 a2 a4 s0 x S1 H nc ns hB
  have H : b_L_joins_183 Z.1.2.1 (fun k => (Z.1.2.2 k).toInt) n d (f_L_joins Z.1.2.1 (fun k => (Z.1.2.2 k).toInt) n) S a1 a2 a4 s0 = some (x, S1) := H
  unfold b_L_joins_183 at H
  refine GA.istore dL_joins_183 (by decide) ?_
  refine GA.aload_n dL_joins_185 rfl ?_
  refine GA.iload_n dL_joins_186 rfl ?_
  refine GA.iload_n dL_joins_187 rfl ?_
  refine GA.iload_n dL_joins_188 rfl ?_
  obtain ⟨hg1, H⟩ := gg_e H
  obtain ⟨x2, S_3, hc4, H⟩ := gc_e H
  refine GA.callW (m_L_tryJoin hc4) xs_L_82 dL_joins_189 rfl (by omega) (by decide) rfl (Nat.le_of_ble_eq_true rfl) (by omega) (by omega) (fun E S9 hx => hx) (fun v S9 hq => ?_)
  obtain ⟨rfl, rfl⟩ := hq
  refine GA.istore dL_joins_192 (by decide) ?_
  refine GA.iload dL_joins_194 rfl ?_
  obtain ⟨hg5, H⟩ := gg_e H
  refine GV.if_eq (tgt := 229) hg5 dL_joins_196 (by decide) (fun c6 => ?_) (fun c6 => ?_)
  · have H := it_t H c6
    refine GA.iconst dL_joins_229 ?_
    cases H
    exact GV.zret (by decide) rfl dL_joins_230 (by omega) (by omega) ⟨rfl, rfl⟩
  · have H := it_f H c6
    refine GA.iload dL_joins_199 rfl ?_
    refine GA.iload dL_joins_201 rfl ?_
    obtain ⟨hg7, H⟩ := gg_e H
    obtain ⟨hg8, H⟩ := gg_e H
    refine GV.icmp_ne (tgt := 229) hg7 hg8 dL_joins_203 (by decide) (fun c9 => ?_) (fun c9 => ?_)
    · have H := it_t H c9
      refine GA.iconst dL_joins_229 ?_
      cases H
      exact GV.zret (by decide) rfl dL_joins_230 (by omega) (by omega) ⟨rfl, rfl⟩
    · have H := it_f H c9
      refine GA.aload_n dL_joins_206 rfl ?_
      refine GA.iload dL_joins_207 rfl ?_
      refine GA.iload_n dL_joins_209 rfl ?_
      obtain ⟨x10, S_11, hc12, H⟩ := gc_e H
      by_cases hb13 : x10 < exB
      case neg =>
        have H := it_f H hb13
        cases H
      have H := it_t H hb13
      refine GA.callV (m_X11_equal hc12 hb13) xs_L_56 dL_joins_210 gs_468 (by decide) rfl rfl (by omega) (by decide) rfl (Nat.le_of_ble_eq_true rfl) (by omega) (by omega) rfl (fun E S9 hx => hx.elim) (fun v S9 hq => ?_)
      obtain ⟨rfl, rfl⟩ := hq
      obtain ⟨hg14, H⟩ := gg_e H
      refine GV.if_eq (tgt := 229) hg14 dL_joins_213 (by decide) (fun c15 => ?_) (fun c15 => ?_)
      · have H := it_t H c15
        refine GA.iconst dL_joins_229 ?_
        cases H
        exact GV.zret (by decide) rfl dL_joins_230 (by omega) (by omega) ⟨rfl, rfl⟩
      · have H := it_f H c15
        refine GA.aload_n dL_joins_216 rfl ?_
        obtain ⟨x16, S_17, hc18, H⟩ := gc_e H
        by_cases hb19 : x16 < exB
        case neg =>
          have H := it_f H hb19
          cases H
        have H := it_t H hb19
        refine GA.callV (m_X11_undo hc18 hb19) xs_L_66 dL_joins_217 gs_468 (by decide) rfl rfl (by omega) (by decide) rfl (Nat.le_of_ble_eq_true rfl) (by omega) (by omega) rfl (fun E S9 hx => hx.elim) (fun v S9 hq => ?_)
        obtain ⟨rfl, rfl⟩ := hq
        refine GA.iload dL_joins_220 rfl ?_
        obtain ⟨hg20, H⟩ := gg_e H
        refine GV.icmp_ne (tgt := 229) hg20 hg8 dL_joins_222 (by decide) (fun c21 => ?_) (fun c21 => ?_)
        · have H := it_t H c21
          refine GA.iconst dL_joins_229 ?_
          cases H
          exact GV.zret (by decide) rfl dL_joins_230 (by omega) (by omega) ⟨rfl, rfl⟩
        · have H := it_f H c21
          refine GA.iconst dL_joins_225 ?_
          refine GA.goto (tgt := 230) dL_joins_226 (by decide) ?_
          cases H
          exact GV.zret (by decide) rfl dL_joins_230 (by omega) (by omega) ⟨rfl, rfl⟩
theorem g_L_joins {l : Launch} {Z : XZ} {L : Nat → Nat} : ∀ n, P_L_joins_0 l Z L n ∧ P_L_joins_31 l Z L n ∧ P_L_joins_64 l Z L n ∧ P_L_joins_92 l Z L n ∧ P_L_joins_119 l Z L n ∧ P_L_joins_183 l Z L n
  | 0 => ⟨fun _ _ _ _ _ _ _ H => no_e H, fun _ _ _ _ _ _ _ _ _ _ H => no_e H, fun _ _ _ _ _ _ _ _ _ _ _ _ _ H => no_e H, fun _ _ _ _ _ _ _ _ _ _ H => no_e H, fun _ _ _ _ _ _ _ _ _ H => no_e H, fun _ _ _ _ _ _ _ _ H => no_e H⟩
  | n + 1 => have ⟨h0, h1, h2, h3, h4, h5⟩ := g_L_joins (l := l) (Z := Z) (L := L) n
    ⟨t_L_joins_0 n h0 h1 h2 h3 h4 h5, t_L_joins_31 n h0 h1 h2 h3 h4 h5, t_L_joins_64 n h0 h1 h2 h3 h4 h5, t_L_joins_92 n h0 h1 h2 h3 h4 h5, t_L_joins_119 n h0 h1 h2 h3 h4 h5, t_L_joins_183 n h0 h1 h2 h3 h4 h5⟩
theorem m_L_joins {l : Launch} {Z : XZ} {L : Nat → Nat} {n d : Nat} {S : GS} {a1 : Int} {a2 : Int} {a3 : Int} {x : Int} {S1 : GS} (H : f_L_joins Z.1.2.1 (fun k => (Z.1.2.2 k).toInt) n d 0 S [a1, a2, a3] = some (x, S1)) : GM l Z L yL_joins cL_joins 10 (some .boolean) [] d 4 24 [.ref (L 468), .int (J a1), .int (J a2), .int (J a3)] S (fun v S' => v = some (.int (J x)) ∧ S1 = S') (fun _ _ => False) := GM.of (by decide) (Nat.le_of_ble_eq_true rfl) ((g_L_joins n).1 _ _ _ _ _ _ _ H 0 0 (by omega))
def P_L_finds_0 (l : Launch) (Z : XZ) (L : Nat → Nat) (n : Nat) : Prop := ∀ (d : Nat) (S : GS) (a1 : Int) (a2 : Int) (x : Int) (S1 : GS), f_L_finds Z.1.2.1 (fun k => (Z.1.2.2 k).toInt) n d 0 S [a1, a2] = some (x, S1) → ∀ nc ns : Nat, nc + 0 ≤ 0 ∧ ns + 0 ≤ 0 → GA l Z L yL_finds cL_finds 6 (some .boolean) [] d 0 0 (fun v S' => v = some (.int (J x)) ∧ S1 = S') (fun _ _ => False) 0 (gl [(0, .ref (L 468)), (1, .int (J a1)), (2, .int (J a2))]) [] S nc ns
def P_L_finds_51 (l : Launch) (Z : XZ) (L : Nat → Nat) (n : Nat) : Prop := ∀ (d : Nat) (S : GS) (a1 : Int) (a2 : Int) (a4 : Int) (x : Int) (S1 : GS), f_L_finds Z.1.2.1 (fun k => (Z.1.2.2 k).toInt) n d 51 S [a1, a2, a4] = some (x, S1) → ∀ nc ns : Nat, nc + 0 ≤ 0 ∧ ns + 0 ≤ 0 → GA l Z L yL_finds cL_finds 6 (some .boolean) [] d 0 0 (fun v S' => v = some (.int (J x)) ∧ S1 = S') (fun _ _ => False) 51 (gl [(0, .ref (L 468)), (1, .int (J a1)), (2, .int (J a2)), (4, .int (J a4))]) [] S nc ns
set_option maxHeartbeats 16000000 in
set_option maxRecDepth 100000 in
theorem t_L_finds_0 {l : Launch} {Z : XZ} {L : Nat → Nat} (n : Nat) (ih_L_finds_0 : P_L_finds_0 l Z L n) (ih_L_finds_51 : P_L_finds_51 l Z L n) : P_L_finds_0 l Z L (n + 1) := by
  intro d S a1 a2 x S1 H nc ns hB
  have H : b_L_finds_0 Z.1.2.1 (fun k => (Z.1.2.2 k).toInt) n d (f_L_finds Z.1.2.1 (fun k => (Z.1.2.2 k).toInt) n) S a1 a2 = some (x, S1) := H
  unfold b_L_finds_0 at H
  refine GA.aload_n dL_finds_0 rfl ?_
  refine GA.iload_n dL_finds_1 rfl ?_
  refine GA.iload_n dL_finds_2 rfl ?_
  refine GA.iconst dL_finds_3 ?_
  obtain ⟨hg1, H⟩ := gg_e H
  obtain ⟨x2, S_3, hc4, H⟩ := gc_e H
  by_cases hb5 : x2 < exB
  case neg =>
    have H := it_f H hb5
    cases H
  have H := it_t H hb5
  refine GA.callV (m_X11_tell hc4 hb5) xs_L_89 dL_finds_4 gs_468 (by decide) rfl rfl (by omega) (by decide) rfl (Nat.le_of_ble_eq_true rfl) (by omega) (by omega) rfl (fun E S9 hx => hx.elim) (fun v S9 hq => ?_)
  obtain ⟨rfl, rfl⟩ := hq
  refine GA.istore_n dL_finds_7 (by decide) ?_
  refine GA.iconst dL_finds_8 ?_
  refine GA.istore dL_finds_9 (by decide) ?_
  refine GA.aload_n dL_finds_11 rfl ?_
  obtain ⟨x6, S_7, hc8, H⟩ := gc_e H
  refine GA.callS (m_L_retyped hc8) xs_L_47 dL_finds_12 rfl (by omega) (by decide) rfl (Nat.le_of_ble_eq_true rfl) (by omega) (by omega) rfl (fun E S9 hx => hx.elim) (fun v S9 hq => ?_)
  obtain ⟨rfl, rfl⟩ := hq
  obtain ⟨hg9, H⟩ := gg_e H
  refine GV.if_eq (tgt := 51) hg9 dL_finds_15 (by decide) (fun c10 => ?_) (fun c10 => ?_)
  · have H := it_t H c10
    refine GA.locals [(0, .ref (L 468)), (1, .int (J a1)), (2, .int (J a2)), (4, .int (J 1))] ⟨rfl, rfl, rfl, rfl, trivial⟩ ?_
    exact ih_L_finds_51 _ _ (a1) (a2) (1) _ _ H _ _ (by omega)
  · have H := it_f H c10
    refine GA.aload_n dL_finds_18 rfl ?_
    refine GA.iload_n dL_finds_19 rfl ?_
    obtain ⟨x11, S_12, hc13, H⟩ := gc_e H
    by_cases hb14 : x11 < exB
    case neg =>
      have H := it_f H hb14
      cases H
    have H := it_t H hb14
    refine GA.callV (m_X11_select hc13 hb14) xs_L_92 dL_finds_20 gs_468 (by decide) rfl rfl (by omega) (by decide) rfl (Nat.le_of_ble_eq_true rfl) (by omega) (by omega) rfl (fun E S9 hx => hx.elim) (fun v S9 hq => ?_)
    obtain ⟨rfl, rfl⟩ := hq
    refine GA.iconst dL_finds_23 ?_
    obtain ⟨hg15, H⟩ := gg_e H
    refine GV.icmp_ne (tgt := 48) hg15 (by decide) dL_finds_24 (by decide) (fun c16 => ?_) (fun c16 => ?_)
    · have H := it_t H c16
      refine GA.iconst dL_finds_48 ?_
      refine GA.istore dL_finds_49 (by decide) ?_
      refine GA.locals [(0, .ref (L 468)), (1, .int (J a1)), (2, .int (J a2)), (4, .int (J 0))] ⟨rfl, rfl, rfl, rfl, trivial⟩ ?_
      exact ih_L_finds_51 _ _ (a1) (a2) (0) _ _ H _ _ (by omega)
    · have H := it_f H c16
      refine GA.aload_n dL_finds_27 rfl ?_
      refine GA.iconst dL_finds_28 ?_
      obtain ⟨x17, S_18, hc19, H⟩ := gc_e H
      by_cases hb20 : x17 < exB
      case neg =>
        have H := it_f H hb20
        cases H
      have H := it_t H hb20
      refine GA.callV (m_X11_find hc19 hb20) xs_L_95 dL_finds_29 gs_468 (by decide) rfl rfl (by omega) (by decide) rfl (Nat.le_of_ble_eq_true rfl) (by omega) (by omega) rfl (fun E S9 hx => hx.elim) (fun v S9 hq => ?_)
      obtain ⟨rfl, rfl⟩ := hq
      refine GA.iload_n dL_finds_32 rfl ?_
      obtain ⟨hg21, H⟩ := gg_e H
      obtain ⟨hg22, H⟩ := gg_e H
      refine GV.icmp_ne (tgt := 48) hg21 hg22 dL_finds_33 (by decide) (fun c23 => ?_) (fun c23 => ?_)
      · have H := it_t H c23
        refine GA.iconst dL_finds_48 ?_
        refine GA.istore dL_finds_49 (by decide) ?_
        refine GA.locals [(0, .ref (L 468)), (1, .int (J a1)), (2, .int (J a2)), (4, .int (J 0))] ⟨rfl, rfl, rfl, rfl, trivial⟩ ?_
        exact ih_L_finds_51 _ _ (a1) (a2) (0) _ _ H _ _ (by omega)
      · have H := it_f H c23
        refine GA.aload_n dL_finds_36 rfl ?_
        refine GA.iconst dL_finds_37 ?_
        obtain ⟨x24, S_25, hc26, H⟩ := gc_e H
        by_cases hb27 : x24 < exB
        case neg =>
          have H := it_f H hb27
          cases H
        have H := it_t H hb27
        refine GA.callV (m_X11_sum hc26 hb27) xs_L_28 dL_finds_38 gs_468 (by decide) rfl rfl (by omega) (by decide) rfl (Nat.le_of_ble_eq_true rfl) (by omega) (by omega) rfl (fun E S9 hx => hx.elim) (fun v S9 hq => ?_)
        obtain ⟨rfl, rfl⟩ := hq
        obtain ⟨hg28, H⟩ := gg_e H
        refine GV.if_ne (tgt := 48) hg28 dL_finds_41 (by decide) (fun c29 => ?_) (fun c29 => ?_)
        · have H := it_t H c29
          refine GA.iconst dL_finds_48 ?_
          refine GA.istore dL_finds_49 (by decide) ?_
          refine GA.locals [(0, .ref (L 468)), (1, .int (J a1)), (2, .int (J a2)), (4, .int (J 0))] ⟨rfl, rfl, rfl, rfl, trivial⟩ ?_
          exact ih_L_finds_51 _ _ (a1) (a2) (0) _ _ H _ _ (by omega)
        · have H := it_f H c29
          refine GA.iconst dL_finds_44 ?_
          refine GA.goto (tgt := 49) dL_finds_45 (by decide) ?_
          refine GA.istore dL_finds_49 (by decide) ?_
          refine GA.locals [(0, .ref (L 468)), (1, .int (J a1)), (2, .int (J a2)), (4, .int (J 1))] ⟨rfl, rfl, rfl, rfl, trivial⟩ ?_
          exact ih_L_finds_51 _ _ (a1) (a2) (1) _ _ H _ _ (by omega)
set_option maxHeartbeats 16000000 in
set_option maxRecDepth 100000 in
theorem t_L_finds_51 {l : Launch} {Z : XZ} {L : Nat → Nat} (n : Nat) (ih_L_finds_0 : P_L_finds_0 l Z L n) (ih_L_finds_51 : P_L_finds_51 l Z L n) : P_L_finds_51 l Z L (n + 1) := by
  intro d S a1 a2 a4 x S1 H nc ns hB
  have H : b_L_finds_51 Z.1.2.1 (fun k => (Z.1.2.2 k).toInt) n d (f_L_finds Z.1.2.1 (fun k => (Z.1.2.2 k).toInt) n) S a1 a2 a4 = some (x, S1) := H
  unfold b_L_finds_51 at H
  refine GA.aload_n dL_finds_51 rfl ?_
  refine GA.iload_n dL_finds_52 rfl ?_
  refine GA.iload_n dL_finds_53 rfl ?_
  obtain ⟨hg1, H⟩ := gg_e H
  obtain ⟨x2, S_3, hc4, H⟩ := gc_e H
  by_cases hb5 : x2 < exB
  case neg =>
    have H := it_f H hb5
    cases H
  have H := it_t H hb5
  refine GA.callV (m_X11_take hc4 hb5) xs_L_98 dL_finds_54 gs_468 (by decide) rfl rfl (by omega) (by decide) rfl (Nat.le_of_ble_eq_true rfl) (by omega) (by omega) rfl (fun E S9 hx => hx.elim) (fun v S9 hq => ?_)
  obtain ⟨rfl, rfl⟩ := hq
  refine GA.istore dL_finds_57 (by decide) ?_
  refine GA.iload dL_finds_59 rfl ?_
  obtain ⟨hg6, H⟩ := gg_e H
  refine GV.if_eq (tgt := 111) hg6 dL_finds_61 (by decide) (fun c7 => ?_) (fun c7 => ?_)
  · have H := it_t H c7
    refine GA.iconst dL_finds_111 ?_
    cases H
    exact GV.zret (by decide) rfl dL_finds_112 (by omega) (by omega) ⟨rfl, rfl⟩
  · have H := it_f H c7
    refine GA.aload_n dL_finds_64 rfl ?_
    refine GA.iload dL_finds_65 rfl ?_
    refine GA.iconst dL_finds_67 ?_
    obtain ⟨x8, S_9, hc10, H⟩ := gc_e H
    by_cases hb11 : x8 < exB
    case neg =>
      have H := it_f H hb11
      cases H
    have H := it_t H hb11
    refine GA.callV (m_X11_digest hc10 hb11) xs_L_60 dL_finds_68 gs_468 (by decide) rfl rfl (by omega) (by decide) rfl (Nat.le_of_ble_eq_true rfl) (by omega) (by omega) rfl (fun E S9 hx => hx.elim) (fun v S9 hq => ?_)
    obtain ⟨rfl, rfl⟩ := hq
    refine GA.aload_n dL_finds_71 rfl ?_
    refine GA.iload_n dL_finds_72 rfl ?_
    refine GA.iload_n dL_finds_73 rfl ?_
    obtain ⟨x12, S_13, hc14, H⟩ := gc_e H
    by_cases hb15 : x12 < exB
    case neg =>
      have H := it_f H hb15
      cases H
    have H := it_t H hb15
    refine GA.callV (m_X11_digest hc14 hb15) xs_L_60 dL_finds_74 gs_468 (by decide) rfl rfl (by omega) (by decide) rfl (Nat.le_of_ble_eq_true rfl) (by omega) (by omega) rfl (fun E S9 hx => hx.elim) (fun v S9 hq => ?_)
    obtain ⟨rfl, rfl⟩ := hq
    obtain ⟨hg16, H⟩ := gg_e H
    obtain ⟨hg17, H⟩ := gg_e H
    refine GV.icmp_ne (tgt := 111) hg16 hg17 dL_finds_77 (by decide) (fun c18 => ?_) (fun c18 => ?_)
    · have H := it_t H c18
      refine GA.iconst dL_finds_111 ?_
      cases H
      exact GV.zret (by decide) rfl dL_finds_112 (by omega) (by omega) ⟨rfl, rfl⟩
    · have H := it_f H c18
      refine GA.aload_n dL_finds_80 rfl ?_
      refine GA.iload dL_finds_81 rfl ?_
      refine GA.iconst dL_finds_83 ?_
      refine GA.iconst dL_finds_84 ?_
      obtain ⟨x19, S_20, hc21, H⟩ := gc_e H
      by_cases hb22 : x19 < exB
      case neg =>
        have H := it_f H hb22
        cases H
      have H := it_t H hb22
      refine GA.callV (m_X11_node hc21 hb22) xs_L_63 dL_finds_85 gs_468 (by decide) rfl rfl (by omega) (by decide) rfl (Nat.le_of_ble_eq_true rfl) (by omega) (by omega) rfl (fun E S9 hx => hx.elim) (fun v S9 hq => ?_)
      obtain ⟨rfl, rfl⟩ := hq
      refine GA.aload_n dL_finds_88 rfl ?_
      refine GA.iload_n dL_finds_89 rfl ?_
      refine GA.iload_n dL_finds_90 rfl ?_
      refine GA.iconst dL_finds_91 ?_
      obtain ⟨x23, S_24, hc25, H⟩ := gc_e H
      by_cases hb26 : x23 < exB
      case neg =>
        have H := it_f H hb26
        cases H
      have H := it_t H hb26
      refine GA.callV (m_X11_node hc25 hb26) xs_L_63 dL_finds_92 gs_468 (by decide) rfl rfl (by omega) (by decide) rfl (Nat.le_of_ble_eq_true rfl) (by omega) (by omega) rfl (fun E S9 hx => hx.elim) (fun v S9 hq => ?_)
      obtain ⟨rfl, rfl⟩ := hq
      obtain ⟨hg27, H⟩ := gg_e H
      obtain ⟨hg28, H⟩ := gg_e H
      refine GV.icmp_ne (tgt := 111) hg27 hg28 dL_finds_95 (by decide) (fun c29 => ?_) (fun c29 => ?_)
      · have H := it_t H c29
        refine GA.iconst dL_finds_111 ?_
        cases H
        exact GV.zret (by decide) rfl dL_finds_112 (by omega) (by omega) ⟨rfl, rfl⟩
      · have H := it_f H c29
        refine GA.aload_n dL_finds_98 rfl ?_
        obtain ⟨x30, S_31, hc32, H⟩ := gc_e H
        by_cases hb33 : x30 < exB
        case neg =>
          have H := it_f H hb33
          cases H
        have H := it_t H hb33
        refine GA.callV (m_X11_undo hc32 hb33) xs_L_66 dL_finds_99 gs_468 (by decide) rfl rfl (by omega) (by decide) rfl (Nat.le_of_ble_eq_true rfl) (by omega) (by omega) rfl (fun E S9 hx => hx.elim) (fun v S9 hq => ?_)
        obtain ⟨rfl, rfl⟩ := hq
        refine GA.iload dL_finds_102 rfl ?_
        obtain ⟨hg34, H⟩ := gg_e H
        obtain ⟨hg35, H⟩ := gg_e H
        refine GV.icmp_ne (tgt := 111) hg34 hg35 dL_finds_104 (by decide) (fun c36 => ?_) (fun c36 => ?_)
        · have H := it_t H c36
          refine GA.iconst dL_finds_111 ?_
          cases H
          exact GV.zret (by decide) rfl dL_finds_112 (by omega) (by omega) ⟨rfl, rfl⟩
        · have H := it_f H c36
          refine GA.iconst dL_finds_107 ?_
          refine GA.goto (tgt := 112) dL_finds_108 (by decide) ?_
          cases H
          exact GV.zret (by decide) rfl dL_finds_112 (by omega) (by omega) ⟨rfl, rfl⟩
theorem g_L_finds {l : Launch} {Z : XZ} {L : Nat → Nat} : ∀ n, P_L_finds_0 l Z L n ∧ P_L_finds_51 l Z L n
  | 0 => ⟨fun _ _ _ _ _ _ H => no_e H, fun _ _ _ _ _ _ _ H => no_e H⟩
  | n + 1 => have ⟨h0, h1⟩ := g_L_finds (l := l) (Z := Z) (L := L) n
    ⟨t_L_finds_0 n h0 h1, t_L_finds_51 n h0 h1⟩
theorem m_L_finds {l : Launch} {Z : XZ} {L : Nat → Nat} {n d : Nat} {S : GS} {a1 : Int} {a2 : Int} {x : Int} {S1 : GS} (H : f_L_finds Z.1.2.1 (fun k => (Z.1.2.2 k).toInt) n d 0 S [a1, a2] = some (x, S1)) : GM l Z L yL_finds cL_finds 6 (some .boolean) [] d 0 0 [.ref (L 468), .int (J a1), .int (J a2)] S (fun v S' => v = some (.int (J x)) ∧ S1 = S') (fun _ _ => False) := GM.of (by decide) (Nat.le_of_ble_eq_true rfl) ((g_L_finds n).1 _ _ _ _ _ _ H 0 0 (by omega))
def P_L_law_15 (l : Launch) (Z : XZ) (L : Nat → Nat) (mc ms : Nat) (n : Nat) : Prop := ∀ (d : Nat) (S : GS) (a2 : Int) (a3 : Int) (a4 : Int) (x : Int) (S1 : GS), f_L_law Z.1.2.1 (fun k => (Z.1.2.2 k).toInt) n d 15 S [a2, a3, a4] = some (x, S1) → ∀ nc ns : Nat, 0 ≤ a4 ∧ a4 ≤ 5 ∧ (nc : Int) + 12 * (5 - a4) ≤ mc ∧ (ns : Int) + 72 * (5 - a4) ≤ ms → GA l Z L yL_law cL_law 9 (some .boolean) [] d mc ms (fun v S' => v = some (.int (J x)) ∧ S1 = S') (fun _ _ => False) 15 (gl [(0, .ref Z.1.1), (1, .ref (L 468)), (2, .int (J a2)), (3, .int (J a3)), (4, .int (J a4))]) [] S nc ns
def P_L_law_143 (l : Launch) (Z : XZ) (L : Nat → Nat) (mc ms : Nat) (n : Nat) : Prop := ∀ (d : Nat) (S : GS) (a3 : Int) (a4 : Int) (a6 : Int) (a7 : Int) (a8 : Int) (s0 : Int) (x : Int) (S1 : GS), f_L_law Z.1.2.1 (fun k => (Z.1.2.2 k).toInt) n d 143 S [a3, a4, a6, a7, a8, s0] = some (x, S1) → ∀ nc ns : Nat, 0 ≤ a4 ∧ a4 ≤ 4 ∧ (nc : Int) + 10 + 12 * (4 - a4) ≤ mc ∧ (ns : Int) + 60 + 72 * (4 - a4) ≤ ms → GA l Z L yL_law cL_law 9 (some .boolean) [] d mc ms (fun v S' => v = some (.int (J x)) ∧ S1 = S') (fun _ _ => False) 143 (gl [(0, .ref Z.1.1), (1, .ref (L 468)), (3, .int (J a3)), (4, .int (J a4)), (6, .int (J a6)), (7, .int (J a7)), (8, .int (J a8))]) [.int (J s0)] S nc ns
def P_L_law_217 (l : Launch) (Z : XZ) (L : Nat → Nat) (mc ms : Nat) (n : Nat) : Prop := ∀ (d : Nat) (S : GS) (a3 : Int) (a4 : Int) (a6 : Int) (a7 : Int) (a8 : Int) (s0 : Int) (x : Int) (S1 : GS), f_L_law Z.1.2.1 (fun k => (Z.1.2.2 k).toInt) n d 217 S [a3, a4, a6, a7, a8, s0] = some (x, S1) → ∀ nc ns : Nat, 0 ≤ a4 ∧ a4 ≤ 4 ∧ (nc : Int) + 0 + 12 * (4 - a4) ≤ mc ∧ (ns : Int) + 0 + 72 * (4 - a4) ≤ ms → GA l Z L yL_law cL_law 9 (some .boolean) [] d mc ms (fun v S' => v = some (.int (J x)) ∧ S1 = S') (fun _ _ => False) 217 (gl [(0, .ref Z.1.1), (1, .ref (L 468)), (3, .int (J a3)), (4, .int (J a4)), (6, .int (J a6)), (7, .int (J a7)), (8, .int (J a8))]) [.int (J s0)] S nc ns
def P_L_law_281 (l : Launch) (Z : XZ) (L : Nat → Nat) (mc ms : Nat) (n : Nat) : Prop := ∀ (d : Nat) (S : GS) (a3 : Int) (a4 : Int) (a6 : Int) (a7 : Int) (a8 : Int) (s0 : Int) (x : Int) (S1 : GS), f_L_law Z.1.2.1 (fun k => (Z.1.2.2 k).toInt) n d 281 S [a3, a4, a6, a7, a8, s0] = some (x, S1) → ∀ nc ns : Nat, 0 ≤ a4 ∧ a4 ≤ 4 ∧ (nc : Int) + 0 + 12 * (4 - a4) ≤ mc ∧ (ns : Int) + 0 + 72 * (4 - a4) ≤ ms → GA l Z L yL_law cL_law 9 (some .boolean) [] d mc ms (fun v S' => v = some (.int (J x)) ∧ S1 = S') (fun _ _ => False) 281 (gl [(0, .ref Z.1.1), (1, .ref (L 468)), (3, .int (J a3)), (4, .int (J a4)), (6, .int (J a6)), (7, .int (J a7)), (8, .int (J a8))]) [.int (J s0)] S nc ns
def P_L_law_325 (l : Launch) (Z : XZ) (L : Nat → Nat) (mc ms : Nat) (n : Nat) : Prop := ∀ (d : Nat) (S : GS) (a3 : Int) (a4 : Int) (a6 : Int) (a7 : Int) (a8 : Int) (x : Int) (S1 : GS), f_L_law Z.1.2.1 (fun k => (Z.1.2.2 k).toInt) n d 325 S [a3, a4, a6, a7, a8] = some (x, S1) → ∀ nc ns : Nat, 0 ≤ a4 ∧ a4 ≤ 4 ∧ (nc : Int) + 0 + 12 * (4 - a4) ≤ mc ∧ (ns : Int) + 0 + 72 * (4 - a4) ≤ ms → GA l Z L yL_law cL_law 9 (some .boolean) [] d mc ms (fun v S' => v = some (.int (J x)) ∧ S1 = S') (fun _ _ => False) 325 (gl [(0, .ref Z.1.1), (1, .ref (L 468)), (3, .int (J a3)), (4, .int (J a4)), (6, .int (J a6)), (7, .int (J a7)), (8, .int (J a8))]) [] S nc ns
def P_L_law_367 (l : Launch) (Z : XZ) (L : Nat → Nat) (mc ms : Nat) (n : Nat) : Prop := ∀ (d : Nat) (S : GS) (a2 : Int) (x : Int) (S1 : GS), f_L_law Z.1.2.1 (fun k => (Z.1.2.2 k).toInt) n d 367 S [a2] = some (x, S1) → ∀ nc ns : Nat, nc ≤ mc ∧ ns ≤ ms → GA l Z L yL_law cL_law 9 (some .boolean) [] d mc ms (fun v S' => v = some (.int (J x)) ∧ S1 = S') (fun _ _ => False) 367 (gl [(1, .ref (L 468)), (2, .int (J a2))]) [] S nc ns
set_option maxHeartbeats 16000000 in
set_option maxRecDepth 100000 in
theorem t_L_law_15 {l : Launch} {Z : XZ} {L : Nat → Nat} {mc ms : Nat} (n : Nat) (ih_L_law_15 : P_L_law_15 l Z L mc ms n) (ih_L_law_143 : P_L_law_143 l Z L mc ms n) (ih_L_law_217 : P_L_law_217 l Z L mc ms n) (ih_L_law_281 : P_L_law_281 l Z L mc ms n) (ih_L_law_325 : P_L_law_325 l Z L mc ms n) (ih_L_law_367 : P_L_law_367 l Z L mc ms n) : P_L_law_15 l Z L mc ms (n + 1) := by
  intro d S a2 a3 a4 x S1 H nc ns hB
  have H : b_L_law_15 Z.1.2.1 (fun k => (Z.1.2.2 k).toInt) n d (f_L_law Z.1.2.1 (fun k => (Z.1.2.2 k).toInt) n) S a2 a3 a4 = some (x, S1) := H
  unfold b_L_law_15 at H
  refine GA.iload dL_law_15 rfl ?_
  refine GA.iconst dL_law_17 ?_
  obtain ⟨hg1, H⟩ := gg_e H
  refine GV.icmp_ge (tgt := 367) hg1 (by decide) dL_law_18 (by decide) (fun c2 => ?_) (fun c2 => ?_)
  · have H := it_t H c2
    refine GA.locals [(1, .ref (L 468)), (2, .int (J a2))] ⟨rfl, rfl, trivial⟩ ?_
    exact ih_L_law_367 _ _ (a2) _ _ H _ _ (by omega)
  · have H := it_f H c2
    refine GA.iload_n dL_law_21 rfl ?_
    obtain ⟨hg3, H⟩ := gg_e H
    refine GV.if_eq (tgt := 367) hg3 dL_law_22 (by decide) (fun c4 => ?_) (fun c4 => ?_)
    · have H := it_t H c4
      refine GA.locals [(1, .ref (L 468)), (2, .int (J a2))] ⟨rfl, rfl, trivial⟩ ?_
      exact ih_L_law_367 _ _ (a2) _ _ H _ _ (by omega)
    · have H := it_f H c4
      refine GA.aload_n dL_law_25 rfl ?_
      refine GA.iconst dL_law_26 ?_
      obtain ⟨hg5, H⟩ := gg_e H
      obtain ⟨x6, S_7, hc8, H⟩ := gc_e H
      by_cases hb9 : x6 < exB
      case neg =>
        have H := it_f H hb9
        cases H
      have H := it_t H hb9
      refine GA.callV (m_X11_sum hc8 hb9) xs_L_28 dL_law_27 gs_468 (by decide) rfl rfl (by omega) (by decide) rfl (Nat.le_of_ble_eq_true rfl) (by omega) (by omega) rfl (fun E S9 hx => hx.elim) (fun v S9 hq => ?_)
      obtain ⟨rfl, rfl⟩ := hq
      refine GA.istore dL_law_30 (by decide) ?_
      refine GA.aload_n dL_law_32 rfl ?_
      refine GA.aload_n dL_law_33 rfl ?_
      refine GA.iload_n dL_law_34 rfl ?_
      obtain ⟨x10, S_11, hc12, H⟩ := gc_e H
      refine GA.callS (m_L_cell hc12) xs_L_102 dL_law_35 rfl (by omega) (by decide) rfl (Nat.le_of_ble_eq_true rfl) (by omega) (by omega) rfl (fun E S9 hx => hx.elim) (fun v S9 hq => ?_)
      obtain ⟨rfl, rfl⟩ := hq
      refine GA.ldc (v := 65536) xc_L_106 dL_law_38 ?_
      obtain ⟨x13, S_14, hc15, H⟩ := gc_e H
      refine GA.callS (m_L_low hc15) xs_L_107 dL_law_40 rfl (by omega) (by decide) rfl (Nat.le_of_ble_eq_true rfl) (by omega) (by omega) rfl (fun E S9 hx => hx.elim) (fun v S9 hq => ?_)
      obtain ⟨rfl, rfl⟩ := hq
      refine GA.iconst dL_law_43 ?_
      refine GA.aload_n dL_law_44 rfl ?_
      refine GA.iload_n dL_law_45 rfl ?_
      refine GA.iconst dL_law_46 ?_
      obtain ⟨x16, hx17, H⟩ := gv_e H
      refine GV.iadd hx17 dL_law_47 ?_
      obtain ⟨x18, S_19, hc20, H⟩ := gc_e H
      refine GA.callS (m_L_cell hc20) xs_L_102 dL_law_48 rfl (by omega) (by decide) rfl (Nat.le_of_ble_eq_true rfl) (by omega) (by omega) rfl (fun E S9 hx => hx.elim) (fun v S9 hq => ?_)
      obtain ⟨rfl, rfl⟩ := hq
      refine GA.iconst dL_law_51 ?_
      obtain ⟨x21, S_22, hc23, H⟩ := gc_e H
      refine GA.callS (m_L_low hc23) xs_L_107 dL_law_52 rfl (by omega) (by decide) rfl (Nat.le_of_ble_eq_true rfl) (by omega) (by omega) rfl (fun E S9 hx => hx.elim) (fun v S9 hq => ?_)
      obtain ⟨rfl, rfl⟩ := hq
      obtain ⟨x24, hx25, H⟩ := gv_e H
      refine GV.iadd hx25 dL_law_55 ?_
      obtain ⟨x26, S_27, hc28, H⟩ := gc_e H
      by_cases hb29 : x26 < exB
      case neg =>
        have H := it_f H hb29
        cases H
      have H := it_t H hb29
      refine GA.callV (m_X11_grow hc28 hb29) xs_L_110 dL_law_56 gs_468 (by decide) rfl rfl (by omega) (by decide) rfl (Nat.le_of_ble_eq_true rfl) (by omega) (by omega) rfl (fun E S9 hx => hx.elim) (fun v S9 hq => ?_)
      obtain ⟨rfl, rfl⟩ := hq
      refine GA.istore dL_law_59 (by decide) ?_
      refine GA.aload_n dL_law_61 rfl ?_
      refine GA.iload dL_law_62 rfl ?_
      refine GA.aload_n dL_law_64 rfl ?_
      refine GA.iload_n dL_law_65 rfl ?_
      refine GA.iconst dL_law_66 ?_
      obtain ⟨x30, hx31, H⟩ := gv_e H
      refine GV.iadd hx31 dL_law_67 ?_
      obtain ⟨x32, S_33, hc34, H⟩ := gc_e H
      refine GA.callS (m_L_cell hc34) xs_L_102 dL_law_68 rfl (by omega) (by decide) rfl (Nat.le_of_ble_eq_true rfl) (by omega) (by omega) rfl (fun E S9 hx => hx.elim) (fun v S9 hq => ?_)
      obtain ⟨rfl, rfl⟩ := hq
      refine GA.ldc (v := 65536) xc_L_106 dL_law_71 ?_
      obtain ⟨x35, S_36, hc37, H⟩ := gc_e H
      refine GA.callS (m_L_low hc37) xs_L_107 dL_law_73 rfl (by omega) (by decide) rfl (Nat.le_of_ble_eq_true rfl) (by omega) (by omega) rfl (fun E S9 hx => hx.elim) (fun v S9 hq => ?_)
      obtain ⟨rfl, rfl⟩ := hq
      obtain ⟨x38, S_39, hc40, H⟩ := gc_e H
      refine GA.callW (m_L_tryVary hc40) xs_L_113 dL_law_76 rfl (by omega) (by decide) rfl (Nat.le_of_ble_eq_true rfl) (by omega) (by omega) (fun E S9 hx => hx) (fun v S9 hq => ?_)
      obtain ⟨rfl, rfl⟩ := hq
      refine GA.istore dL_law_79 (by decide) ?_
      refine GA.aload_n dL_law_81 rfl ?_
      refine GA.iload dL_law_82 rfl ?_
      refine GA.aload_n dL_law_84 rfl ?_
      refine GA.iload_n dL_law_85 rfl ?_
      refine GA.iconst dL_law_86 ?_
      obtain ⟨x41, hx42, H⟩ := gv_e H
      refine GV.iadd hx42 dL_law_87 ?_
      obtain ⟨x43, S_44, hc45, H⟩ := gc_e H
      refine GA.callS (m_L_cell hc45) xs_L_102 dL_law_88 rfl (by omega) (by decide) rfl (Nat.le_of_ble_eq_true rfl) (by omega) (by omega) rfl (fun E S9 hx => hx.elim) (fun v S9 hq => ?_)
      obtain ⟨rfl, rfl⟩ := hq
      refine GA.ldc (v := 65536) xc_L_106 dL_law_91 ?_
      obtain ⟨x46, S_47, hc48, H⟩ := gc_e H
      refine GA.callS (m_L_low hc48) xs_L_107 dL_law_93 rfl (by omega) (by decide) rfl (Nat.le_of_ble_eq_true rfl) (by omega) (by omega) rfl (fun E S9 hx => hx.elim) (fun v S9 hq => ?_)
      obtain ⟨rfl, rfl⟩ := hq
      obtain ⟨x49, S_50, hc51, H⟩ := gc_e H
      refine GA.callW (m_L_tryVary hc51) xs_L_113 dL_law_96 rfl (by omega) (by decide) rfl (Nat.le_of_ble_eq_true rfl) (by omega) (by omega) (fun E S9 hx => hx) (fun v S9 hq => ?_)
      obtain ⟨rfl, rfl⟩ := hq
      refine GA.istore dL_law_99 (by decide) ?_
      refine GA.iload dL_law_101 rfl ?_
      refine GA.iload dL_law_103 rfl ?_
      obtain ⟨hg52, H⟩ := gg_e H
      obtain ⟨hg53, H⟩ := gg_e H
      refine GV.icmp_ne (tgt := 142) hg52 hg53 dL_law_105 (by decide) (fun c54 => ?_) (fun c54 => ?_)
      · have H := it_t H c54
        refine GA.iconst dL_law_142 ?_
        refine GA.locals [(0, .ref Z.1.1), (1, .ref (L 468)), (3, .int (J a3)), (4, .int (J a4)), (6, .int (J x26)), (7, .int (J x38)), (8, .int (J x49))] ⟨rfl, rfl, rfl, rfl, rfl, rfl, rfl, trivial⟩ ?_
        exact ih_L_law_143 _ _ (a3) (a4) (x26) (x38) (x49) (0) _ _ H _ _ (by omega)
      · have H := it_f H c54
        refine GA.iload dL_law_108 rfl ?_
        refine GA.iload dL_law_110 rfl ?_
        refine GA.iconst dL_law_112 ?_
        obtain ⟨x55, hx56, H⟩ := gv_e H
        refine GV.iadd hx56 dL_law_113 ?_
        obtain ⟨hg57, H⟩ := gg_e H
        obtain ⟨hg58, H⟩ := gg_e H
        refine GV.icmp_ne (tgt := 142) hg57 hg58 dL_law_114 (by decide) (fun c59 => ?_) (fun c59 => ?_)
        · have H := it_t H c59
          refine GA.iconst dL_law_142 ?_
          refine GA.locals [(0, .ref Z.1.1), (1, .ref (L 468)), (3, .int (J a3)), (4, .int (J a4)), (6, .int (J x26)), (7, .int (J x38)), (8, .int (J x49))] ⟨rfl, rfl, rfl, rfl, rfl, rfl, rfl, trivial⟩ ?_
          exact ih_L_law_143 _ _ (a3) (a4) (x26) (x38) (x49) (0) _ _ H _ _ (by omega)
        · have H := it_f H c59
          refine GA.iload dL_law_117 rfl ?_
          refine GA.iload dL_law_119 rfl ?_
          refine GA.iconst dL_law_121 ?_
          obtain ⟨x60, hx61, H⟩ := gv_e H
          refine GV.iadd hx61 dL_law_122 ?_
          obtain ⟨hg62, H⟩ := gg_e H
          obtain ⟨hg63, H⟩ := gg_e H
          refine GV.icmp_ne (tgt := 142) hg62 hg63 dL_law_123 (by decide) (fun c64 => ?_) (fun c64 => ?_)
          · have H := it_t H c64
            refine GA.iconst dL_law_142 ?_
            refine GA.locals [(0, .ref Z.1.1), (1, .ref (L 468)), (3, .int (J a3)), (4, .int (J a4)), (6, .int (J x26)), (7, .int (J x38)), (8, .int (J x49))] ⟨rfl, rfl, rfl, rfl, rfl, rfl, rfl, trivial⟩ ?_
            exact ih_L_law_143 _ _ (a3) (a4) (x26) (x38) (x49) (0) _ _ H _ _ (by omega)
          · have H := it_f H c64
            refine GA.aload_n dL_law_126 rfl ?_
            refine GA.iconst dL_law_127 ?_
            obtain ⟨x65, S_66, hc67, H⟩ := gc_e H
            by_cases hb68 : x65 < exB
            case neg =>
              have H := it_f H hb68
              cases H
            have H := it_t H hb68
            refine GA.callV (m_X11_sum hc67 hb68) xs_L_28 dL_law_128 gs_468 (by decide) rfl rfl (by omega) (by decide) rfl (Nat.le_of_ble_eq_true rfl) (by omega) (by omega) rfl (fun E S9 hx => hx.elim) (fun v S9 hq => ?_)
            obtain ⟨rfl, rfl⟩ := hq
            refine GA.iload dL_law_131 rfl ?_
            refine GA.iconst dL_law_133 ?_
            obtain ⟨x69, hx70, H⟩ := gv_e H
            refine GV.iadd hx70 dL_law_134 ?_
            obtain ⟨hg71, H⟩ := gg_e H
            obtain ⟨hg72, H⟩ := gg_e H
            refine GV.icmp_ne (tgt := 142) hg71 hg72 dL_law_135 (by decide) (fun c73 => ?_) (fun c73 => ?_)
            · have H := it_t H c73
              refine GA.iconst dL_law_142 ?_
              refine GA.locals [(0, .ref Z.1.1), (1, .ref (L 468)), (3, .int (J a3)), (4, .int (J a4)), (6, .int (J x26)), (7, .int (J x38)), (8, .int (J x49))] ⟨rfl, rfl, rfl, rfl, rfl, rfl, rfl, trivial⟩ ?_
              exact ih_L_law_143 _ _ (a3) (a4) (x26) (x38) (x49) (0) _ _ H _ _ (by omega)
            · have H := it_f H c73
              refine GA.iconst dL_law_138 ?_
              refine GA.goto (tgt := 143) dL_law_139 (by decide) ?_
              refine GA.locals [(0, .ref Z.1.1), (1, .ref (L 468)), (3, .int (J a3)), (4, .int (J a4)), (6, .int (J x26)), (7, .int (J x38)), (8, .int (J x49))] ⟨rfl, rfl, rfl, rfl, rfl, rfl, rfl, trivial⟩ ?_
              exact ih_L_law_143 _ _ (a3) (a4) (x26) (x38) (x49) (1) _ _ H _ _ (by omega)
set_option maxHeartbeats 16000000 in
set_option maxRecDepth 100000 in
theorem t_L_law_143 {l : Launch} {Z : XZ} {L : Nat → Nat} {mc ms : Nat} (n : Nat) (ih_L_law_15 : P_L_law_15 l Z L mc ms n) (ih_L_law_143 : P_L_law_143 l Z L mc ms n) (ih_L_law_217 : P_L_law_217 l Z L mc ms n) (ih_L_law_281 : P_L_law_281 l Z L mc ms n) (ih_L_law_325 : P_L_law_325 l Z L mc ms n) (ih_L_law_367 : P_L_law_367 l Z L mc ms n) : P_L_law_143 l Z L mc ms (n + 1) := by
  intro d S a3 a4 a6 a7 a8 s0 x S1 H nc ns hB
  have H : b_L_law_143 Z.1.2.1 (fun k => (Z.1.2.2 k).toInt) n d (f_L_law Z.1.2.1 (fun k => (Z.1.2.2 k).toInt) n) S a3 a4 a6 a7 a8 s0 = some (x, S1) := H
  unfold b_L_law_143 at H
  refine GA.istore_n dL_law_143 (by decide) ?_
  refine GA.iload_n dL_law_144 rfl ?_
  obtain ⟨hg1, H⟩ := gg_e H
  refine GV.if_eq (tgt := 216) hg1 dL_law_145 (by decide) (fun c2 => ?_) (fun c2 => ?_)
  · have H := it_t H c2
    refine GA.iconst dL_law_216 ?_
    refine GA.locals [(0, .ref Z.1.1), (1, .ref (L 468)), (3, .int (J a3)), (4, .int (J a4)), (6, .int (J a6)), (7, .int (J a7)), (8, .int (J a8))] ⟨rfl, rfl, rfl, rfl, rfl, rfl, rfl, trivial⟩ ?_
    exact ih_L_law_217 _ _ (a3) (a4) (a6) (a7) (a8) (0) _ _ H _ _ (by omega)
  · have H := it_f H c2
    refine GA.aload_n dL_law_148 rfl ?_
    refine GA.iload dL_law_149 rfl ?_
    obtain ⟨hg3, H⟩ := gg_e H
    obtain ⟨x4, S_5, hc6, H⟩ := gc_e H
    refine GA.callS (m_L_rereads hc6) xs_L_116 dL_law_151 rfl (by omega) (by decide) rfl (Nat.le_of_ble_eq_true rfl) (by omega) (by omega) rfl (fun E S9 hx => hx.elim) (fun v S9 hq => ?_)
    obtain ⟨rfl, rfl⟩ := hq
    obtain ⟨hg7, H⟩ := gg_e H
    refine GV.if_eq (tgt := 216) hg7 dL_law_154 (by decide) (fun c8 => ?_) (fun c8 => ?_)
    · have H := it_t H c8
      refine GA.iconst dL_law_216 ?_
      refine GA.locals [(0, .ref Z.1.1), (1, .ref (L 468)), (3, .int (J a3)), (4, .int (J a4)), (6, .int (J a6)), (7, .int (J a7)), (8, .int (J a8))] ⟨rfl, rfl, rfl, rfl, rfl, rfl, rfl, trivial⟩ ?_
      exact ih_L_law_217 _ _ (a3) (a4) (a6) (a7) (a8) (0) _ _ H _ _ (by omega)
    · have H := it_f H c8
      refine GA.aload_n dL_law_157 rfl ?_
      refine GA.iload dL_law_158 rfl ?_
      obtain ⟨x9, S_10, hc11, H⟩ := gc_e H
      refine GA.callS (m_L_rereads hc11) xs_L_116 dL_law_160 rfl (by omega) (by decide) rfl (Nat.le_of_ble_eq_true rfl) (by omega) (by omega) rfl (fun E S9 hx => hx.elim) (fun v S9 hq => ?_)
      obtain ⟨rfl, rfl⟩ := hq
      obtain ⟨hg12, H⟩ := gg_e H
      refine GV.if_eq (tgt := 216) hg12 dL_law_163 (by decide) (fun c13 => ?_) (fun c13 => ?_)
      · have H := it_t H c13
        refine GA.iconst dL_law_216 ?_
        refine GA.locals [(0, .ref Z.1.1), (1, .ref (L 468)), (3, .int (J a3)), (4, .int (J a4)), (6, .int (J a6)), (7, .int (J a7)), (8, .int (J a8))] ⟨rfl, rfl, rfl, rfl, rfl, rfl, rfl, trivial⟩ ?_
        exact ih_L_law_217 _ _ (a3) (a4) (a6) (a7) (a8) (0) _ _ H _ _ (by omega)
      · have H := it_f H c13
        refine GA.aload_n dL_law_166 rfl ?_
        refine GA.iload dL_law_167 rfl ?_
        refine GA.iload dL_law_169 rfl ?_
        obtain ⟨x14, S_15, hc16, H⟩ := gc_e H
        refine GA.callS (m_L_patches hc16) xs_L_120 dL_law_171 rfl (by omega) (by decide) rfl (Nat.le_of_ble_eq_true rfl) (by omega) (by omega) rfl (fun E S9 hx => hx.elim) (fun v S9 hq => ?_)
        obtain ⟨rfl, rfl⟩ := hq
        obtain ⟨hg17, H⟩ := gg_e H
        refine GV.if_eq (tgt := 216) hg17 dL_law_174 (by decide) (fun c18 => ?_) (fun c18 => ?_)
        · have H := it_t H c18
          refine GA.iconst dL_law_216 ?_
          refine GA.locals [(0, .ref Z.1.1), (1, .ref (L 468)), (3, .int (J a3)), (4, .int (J a4)), (6, .int (J a6)), (7, .int (J a7)), (8, .int (J a8))] ⟨rfl, rfl, rfl, rfl, rfl, rfl, rfl, trivial⟩ ?_
          exact ih_L_law_217 _ _ (a3) (a4) (a6) (a7) (a8) (0) _ _ H _ _ (by omega)
        · have H := it_f H c18
          refine GA.aload_n dL_law_177 rfl ?_
          refine GA.iload dL_law_178 rfl ?_
          refine GA.iload dL_law_180 rfl ?_
          obtain ⟨x19, S_20, hc21, H⟩ := gc_e H
          refine GA.callS (m_L_patches hc21) xs_L_120 dL_law_182 rfl (by omega) (by decide) rfl (Nat.le_of_ble_eq_true rfl) (by omega) (by omega) rfl (fun E S9 hx => hx.elim) (fun v S9 hq => ?_)
          obtain ⟨rfl, rfl⟩ := hq
          obtain ⟨hg22, H⟩ := gg_e H
          refine GV.if_eq (tgt := 216) hg22 dL_law_185 (by decide) (fun c23 => ?_) (fun c23 => ?_)
          · have H := it_t H c23
            refine GA.iconst dL_law_216 ?_
            refine GA.locals [(0, .ref Z.1.1), (1, .ref (L 468)), (3, .int (J a3)), (4, .int (J a4)), (6, .int (J a6)), (7, .int (J a7)), (8, .int (J a8))] ⟨rfl, rfl, rfl, rfl, rfl, rfl, rfl, trivial⟩ ?_
            exact ih_L_law_217 _ _ (a3) (a4) (a6) (a7) (a8) (0) _ _ H _ _ (by omega)
          · have H := it_f H c23
            refine GA.aload_n dL_law_188 rfl ?_
            refine GA.iload dL_law_189 rfl ?_
            refine GA.iload dL_law_191 rfl ?_
            obtain ⟨x24, S_25, hc26, H⟩ := gc_e H
            refine GA.callS (m_L_patches hc26) xs_L_120 dL_law_193 rfl (by omega) (by decide) rfl (Nat.le_of_ble_eq_true rfl) (by omega) (by omega) rfl (fun E S9 hx => hx.elim) (fun v S9 hq => ?_)
            obtain ⟨rfl, rfl⟩ := hq
            obtain ⟨hg27, H⟩ := gg_e H
            refine GV.if_eq (tgt := 216) hg27 dL_law_196 (by decide) (fun c28 => ?_) (fun c28 => ?_)
            · have H := it_t H c28
              refine GA.iconst dL_law_216 ?_
              refine GA.locals [(0, .ref Z.1.1), (1, .ref (L 468)), (3, .int (J a3)), (4, .int (J a4)), (6, .int (J a6)), (7, .int (J a7)), (8, .int (J a8))] ⟨rfl, rfl, rfl, rfl, rfl, rfl, rfl, trivial⟩ ?_
              exact ih_L_law_217 _ _ (a3) (a4) (a6) (a7) (a8) (0) _ _ H _ _ (by omega)
            · have H := it_f H c28
              refine GA.aload_n dL_law_199 rfl ?_
              refine GA.iload dL_law_200 rfl ?_
              refine GA.iload dL_law_202 rfl ?_
              refine GA.iload dL_law_204 rfl ?_
              obtain ⟨x29, S_30, hc31, H⟩ := gc_e H
              refine GA.callS (m_L_joins hc31) xs_L_124 dL_law_206 rfl (by omega) (by decide) rfl (Nat.le_of_ble_eq_true rfl) (by omega) (by omega) rfl (fun E S9 hx => hx.elim) (fun v S9 hq => ?_)
              obtain ⟨rfl, rfl⟩ := hq
              obtain ⟨hg32, H⟩ := gg_e H
              refine GV.if_eq (tgt := 216) hg32 dL_law_209 (by decide) (fun c33 => ?_) (fun c33 => ?_)
              · have H := it_t H c33
                refine GA.iconst dL_law_216 ?_
                refine GA.locals [(0, .ref Z.1.1), (1, .ref (L 468)), (3, .int (J a3)), (4, .int (J a4)), (6, .int (J a6)), (7, .int (J a7)), (8, .int (J a8))] ⟨rfl, rfl, rfl, rfl, rfl, rfl, rfl, trivial⟩ ?_
                exact ih_L_law_217 _ _ (a3) (a4) (a6) (a7) (a8) (0) _ _ H _ _ (by omega)
              · have H := it_f H c33
                refine GA.iconst dL_law_212 ?_
                refine GA.goto (tgt := 217) dL_law_213 (by decide) ?_
                refine GA.locals [(0, .ref Z.1.1), (1, .ref (L 468)), (3, .int (J a3)), (4, .int (J a4)), (6, .int (J a6)), (7, .int (J a7)), (8, .int (J a8))] ⟨rfl, rfl, rfl, rfl, rfl, rfl, rfl, trivial⟩ ?_
                exact ih_L_law_217 _ _ (a3) (a4) (a6) (a7) (a8) (1) _ _ H _ _ (by omega)
set_option maxHeartbeats 16000000 in
set_option maxRecDepth 100000 in
theorem t_L_law_217 {l : Launch} {Z : XZ} {L : Nat → Nat} {mc ms : Nat} (n : Nat) (ih_L_law_15 : P_L_law_15 l Z L mc ms n) (ih_L_law_143 : P_L_law_143 l Z L mc ms n) (ih_L_law_217 : P_L_law_217 l Z L mc ms n) (ih_L_law_281 : P_L_law_281 l Z L mc ms n) (ih_L_law_325 : P_L_law_325 l Z L mc ms n) (ih_L_law_367 : P_L_law_367 l Z L mc ms n) : P_L_law_217 l Z L mc ms (n + 1) := by
  intro d S a3 a4 a6 a7 a8 s0 x S1 H nc ns hB
  have H : b_L_law_217 Z.1.2.1 (fun k => (Z.1.2.2 k).toInt) n d (f_L_law Z.1.2.1 (fun k => (Z.1.2.2 k).toInt) n) S a3 a4 a6 a7 a8 s0 = some (x, S1) := H
  unfold b_L_law_217 at H
  refine GA.istore_n dL_law_217 (by decide) ?_
  refine GA.iload_n dL_law_218 rfl ?_
  obtain ⟨hg1, H⟩ := gg_e H
  refine GV.if_eq (tgt := 280) hg1 dL_law_219 (by decide) (fun c2 => ?_) (fun c2 => ?_)
  · have H := it_t H c2
    refine GA.iconst dL_law_280 ?_
    refine GA.locals [(0, .ref Z.1.1), (1, .ref (L 468)), (3, .int (J a3)), (4, .int (J a4)), (6, .int (J a6)), (7, .int (J a7)), (8, .int (J a8))] ⟨rfl, rfl, rfl, rfl, rfl, rfl, rfl, trivial⟩ ?_
    exact ih_L_law_281 _ _ (a3) (a4) (a6) (a7) (a8) (0) _ _ H _ _ (by omega)
  · have H := it_f H c2
    refine GA.aload_n dL_law_222 rfl ?_
    refine GA.iload dL_law_223 rfl ?_
    refine GA.aload_n dL_law_225 rfl ?_
    refine GA.iload_n dL_law_226 rfl ?_
    refine GA.iconst dL_law_227 ?_
    obtain ⟨x3, hx4, H⟩ := gv_e H
    refine GV.iadd hx4 dL_law_228 ?_
    obtain ⟨hg5, H⟩ := gg_e H
    obtain ⟨x6, S_7, hc8, H⟩ := gc_e H
    refine GA.callS (m_L_cell hc8) xs_L_102 dL_law_229 rfl (by omega) (by decide) rfl (Nat.le_of_ble_eq_true rfl) (by omega) (by omega) rfl (fun E S9 hx => hx.elim) (fun v S9 hq => ?_)
    obtain ⟨rfl, rfl⟩ := hq
    refine GA.aload_n dL_law_232 rfl ?_
    refine GA.iload dL_law_233 rfl ?_
    refine GA.iconst dL_law_235 ?_
    refine GA.iconst dL_law_236 ?_
    obtain ⟨x9, S_10, hc11, H⟩ := gc_e H
    by_cases hb12 : x9 < exB
    case neg =>
      have H := it_f H hb12
      cases H
    have H := it_t H hb12
    refine GA.callV (m_X11_node hc11 hb12) xs_L_63 dL_law_237 gs_468 (by decide) rfl rfl (by omega) (by decide) rfl (Nat.le_of_ble_eq_true rfl) (by omega) (by omega) rfl (fun E S9 hx => hx.elim) (fun v S9 hq => ?_)
    obtain ⟨rfl, rfl⟩ := hq
    obtain ⟨x13, S_14, hc15, H⟩ := gc_e H
    refine GA.callS (m_L_low hc15) xs_L_107 dL_law_240 rfl (by omega) (by decide) rfl (Nat.le_of_ble_eq_true rfl) (by omega) (by omega) rfl (fun E S9 hx => hx.elim) (fun v S9 hq => ?_)
    obtain ⟨rfl, rfl⟩ := hq
    obtain ⟨x16, S_17, hc18, H⟩ := gc_e H
    refine GA.callS (m_L_finds hc18) xs_L_128 dL_law_243 rfl (by omega) (by decide) rfl (Nat.le_of_ble_eq_true rfl) (by omega) (by omega) rfl (fun E S9 hx => hx.elim) (fun v S9 hq => ?_)
    obtain ⟨rfl, rfl⟩ := hq
    obtain ⟨hg19, H⟩ := gg_e H
    refine GV.if_eq (tgt := 280) hg19 dL_law_246 (by decide) (fun c20 => ?_) (fun c20 => ?_)
    · have H := it_t H c20
      refine GA.iconst dL_law_280 ?_
      refine GA.locals [(0, .ref Z.1.1), (1, .ref (L 468)), (3, .int (J a3)), (4, .int (J a4)), (6, .int (J a6)), (7, .int (J a7)), (8, .int (J a8))] ⟨rfl, rfl, rfl, rfl, rfl, rfl, rfl, trivial⟩ ?_
      exact ih_L_law_281 _ _ (a3) (a4) (a6) (a7) (a8) (0) _ _ H _ _ (by omega)
    · have H := it_f H c20
      refine GA.aload_n dL_law_249 rfl ?_
      refine GA.iload dL_law_250 rfl ?_
      refine GA.aload_n dL_law_252 rfl ?_
      refine GA.iload_n dL_law_253 rfl ?_
      refine GA.iconst dL_law_254 ?_
      obtain ⟨x21, hx22, H⟩ := gv_e H
      refine GV.iadd hx22 dL_law_255 ?_
      obtain ⟨x23, S_24, hc25, H⟩ := gc_e H
      refine GA.callS (m_L_cell hc25) xs_L_102 dL_law_256 rfl (by omega) (by decide) rfl (Nat.le_of_ble_eq_true rfl) (by omega) (by omega) rfl (fun E S9 hx => hx.elim) (fun v S9 hq => ?_)
      obtain ⟨rfl, rfl⟩ := hq
      refine GA.aload_n dL_law_259 rfl ?_
      refine GA.iload dL_law_260 rfl ?_
      refine GA.iconst dL_law_262 ?_
      refine GA.iconst dL_law_263 ?_
      obtain ⟨x26, S_27, hc28, H⟩ := gc_e H
      by_cases hb29 : x26 < exB
      case neg =>
        have H := it_f H hb29
        cases H
      have H := it_t H hb29
      refine GA.callV (m_X11_node hc28 hb29) xs_L_63 dL_law_264 gs_468 (by decide) rfl rfl (by omega) (by decide) rfl (Nat.le_of_ble_eq_true rfl) (by omega) (by omega) rfl (fun E S9 hx => hx.elim) (fun v S9 hq => ?_)
      obtain ⟨rfl, rfl⟩ := hq
      obtain ⟨x30, S_31, hc32, H⟩ := gc_e H
      refine GA.callS (m_L_low hc32) xs_L_107 dL_law_267 rfl (by omega) (by decide) rfl (Nat.le_of_ble_eq_true rfl) (by omega) (by omega) rfl (fun E S9 hx => hx.elim) (fun v S9 hq => ?_)
      obtain ⟨rfl, rfl⟩ := hq
      obtain ⟨x33, S_34, hc35, H⟩ := gc_e H
      refine GA.callS (m_L_finds hc35) xs_L_128 dL_law_270 rfl (by omega) (by decide) rfl (Nat.le_of_ble_eq_true rfl) (by omega) (by omega) rfl (fun E S9 hx => hx.elim) (fun v S9 hq => ?_)
      obtain ⟨rfl, rfl⟩ := hq
      obtain ⟨hg36, H⟩ := gg_e H
      refine GV.if_eq (tgt := 280) hg36 dL_law_273 (by decide) (fun c37 => ?_) (fun c37 => ?_)
      · have H := it_t H c37
        refine GA.iconst dL_law_280 ?_
        refine GA.locals [(0, .ref Z.1.1), (1, .ref (L 468)), (3, .int (J a3)), (4, .int (J a4)), (6, .int (J a6)), (7, .int (J a7)), (8, .int (J a8))] ⟨rfl, rfl, rfl, rfl, rfl, rfl, rfl, trivial⟩ ?_
        exact ih_L_law_281 _ _ (a3) (a4) (a6) (a7) (a8) (0) _ _ H _ _ (by omega)
      · have H := it_f H c37
        refine GA.iconst dL_law_276 ?_
        refine GA.goto (tgt := 281) dL_law_277 (by decide) ?_
        refine GA.locals [(0, .ref Z.1.1), (1, .ref (L 468)), (3, .int (J a3)), (4, .int (J a4)), (6, .int (J a6)), (7, .int (J a7)), (8, .int (J a8))] ⟨rfl, rfl, rfl, rfl, rfl, rfl, rfl, trivial⟩ ?_
        exact ih_L_law_281 _ _ (a3) (a4) (a6) (a7) (a8) (1) _ _ H _ _ (by omega)
set_option maxHeartbeats 16000000 in
set_option maxRecDepth 100000 in
theorem t_L_law_281 {l : Launch} {Z : XZ} {L : Nat → Nat} {mc ms : Nat} (n : Nat) (ih_L_law_15 : P_L_law_15 l Z L mc ms n) (ih_L_law_143 : P_L_law_143 l Z L mc ms n) (ih_L_law_217 : P_L_law_217 l Z L mc ms n) (ih_L_law_281 : P_L_law_281 l Z L mc ms n) (ih_L_law_325 : P_L_law_325 l Z L mc ms n) (ih_L_law_367 : P_L_law_367 l Z L mc ms n) : P_L_law_281 l Z L mc ms (n + 1) := by
  intro d S a3 a4 a6 a7 a8 s0 x S1 H nc ns hB
  have H : b_L_law_281 Z.1.2.1 (fun k => (Z.1.2.2 k).toInt) n d (f_L_law Z.1.2.1 (fun k => (Z.1.2.2 k).toInt) n) S a3 a4 a6 a7 a8 s0 = some (x, S1) := H
  unfold b_L_law_281 at H
  refine GA.istore_n dL_law_281 (by decide) ?_
  refine GA.iload_n dL_law_282 rfl ?_
  obtain ⟨hg1, H⟩ := gg_e H
  refine GV.if_eq (tgt := 356) hg1 dL_law_283 (by decide) (fun c2 => ?_) (fun c2 => ?_)
  · have H := it_t H c2
    refine GA.iconst dL_law_356 ?_
    refine GA.istore_n dL_law_357 (by decide) ?_
    obtain ⟨x3, hx4, H⟩ := gv_e H
    refine GV.iinc hx4 dL_law_358 rfl (by decide) ?_
    obtain ⟨x5, hx6, H⟩ := gv_e H
    refine GV.iinc hx6 dL_law_361 rfl (by decide) ?_
    refine GA.goto (tgt := 15) dL_law_364 (by decide) ?_
    refine GA.locals [(0, .ref Z.1.1), (1, .ref (L 468)), (2, .int (J 0)), (3, .int (J x3)), (4, .int (J x5))] ⟨rfl, rfl, rfl, rfl, rfl, trivial⟩ ?_
    exact ih_L_law_15 _ _ (0) (x3) (x5) _ _ H _ _ (by omega)
  · have H := it_f H c2
    refine GA.aload_n dL_law_286 rfl ?_
    refine GA.iload dL_law_287 rfl ?_
    refine GA.iload dL_law_289 rfl ?_
    obtain ⟨hg7, H⟩ := gg_e H
    obtain ⟨x8, S_9, hc10, H⟩ := gc_e H
    by_cases hb11 : x8 < exB
    case neg =>
      have H := it_f H hb11
      cases H
    have H := it_t H hb11
    refine GA.callV (m_X11_equal hc10 hb11) xs_L_56 dL_law_291 gs_468 (by decide) rfl rfl (by omega) (by decide) rfl (Nat.le_of_ble_eq_true rfl) (by omega) (by omega) rfl (fun E S9 hx => hx.elim) (fun v S9 hq => ?_)
    obtain ⟨rfl, rfl⟩ := hq
    obtain ⟨hg12, H⟩ := gg_e H
    refine GV.if_eq (tgt := 356) hg12 dL_law_294 (by decide) (fun c13 => ?_) (fun c13 => ?_)
    · have H := it_t H c13
      refine GA.iconst dL_law_356 ?_
      refine GA.istore_n dL_law_357 (by decide) ?_
      obtain ⟨x14, hx15, H⟩ := gv_e H
      refine GV.iinc hx15 dL_law_358 rfl (by decide) ?_
      obtain ⟨x16, hx17, H⟩ := gv_e H
      refine GV.iinc hx17 dL_law_361 rfl (by decide) ?_
      refine GA.goto (tgt := 15) dL_law_364 (by decide) ?_
      refine GA.locals [(0, .ref Z.1.1), (1, .ref (L 468)), (2, .int (J 0)), (3, .int (J x14)), (4, .int (J x16))] ⟨rfl, rfl, rfl, rfl, rfl, trivial⟩ ?_
      exact ih_L_law_15 _ _ (0) (x14) (x16) _ _ H _ _ (by omega)
    · have H := it_f H c13
      refine GA.aload_n dL_law_297 rfl ?_
      refine GA.iload dL_law_298 rfl ?_
      refine GA.iconst dL_law_300 ?_
      obtain ⟨x18, S_19, hc20, H⟩ := gc_e H
      by_cases hb21 : x18 < exB
      case neg =>
        have H := it_f H hb21
        cases H
      have H := it_t H hb21
      refine GA.callV (m_X11_digest hc20 hb21) xs_L_60 dL_law_301 gs_468 (by decide) rfl rfl (by omega) (by decide) rfl (Nat.le_of_ble_eq_true rfl) (by omega) (by omega) rfl (fun E S9 hx => hx.elim) (fun v S9 hq => ?_)
      obtain ⟨rfl, rfl⟩ := hq
      refine GA.aload_n dL_law_304 rfl ?_
      refine GA.iload dL_law_305 rfl ?_
      refine GA.iconst dL_law_307 ?_
      obtain ⟨x22, S_23, hc24, H⟩ := gc_e H
      by_cases hb25 : x22 < exB
      case neg =>
        have H := it_f H hb25
        cases H
      have H := it_t H hb25
      refine GA.callV (m_X11_digest hc24 hb25) xs_L_60 dL_law_308 gs_468 (by decide) rfl rfl (by omega) (by decide) rfl (Nat.le_of_ble_eq_true rfl) (by omega) (by omega) rfl (fun E S9 hx => hx.elim) (fun v S9 hq => ?_)
      obtain ⟨rfl, rfl⟩ := hq
      obtain ⟨hg26, H⟩ := gg_e H
      obtain ⟨hg27, H⟩ := gg_e H
      refine GV.icmp_eq (tgt := 325) hg26 hg27 dL_law_311 (by decide) (fun c28 => ?_) (fun c28 => ?_)
      · have H := it_t H c28
        refine GA.locals [(0, .ref Z.1.1), (1, .ref (L 468)), (3, .int (J a3)), (4, .int (J a4)), (6, .int (J a6)), (7, .int (J a7)), (8, .int (J a8))] ⟨rfl, rfl, rfl, rfl, rfl, rfl, rfl, trivial⟩ ?_
        exact ih_L_law_325 _ _ (a3) (a4) (a6) (a7) (a8) _ _ H _ _ (by omega)
      · have H := it_f H c28
        refine GA.aload_n dL_law_314 rfl ?_
        refine GA.iload dL_law_315 rfl ?_
        refine GA.iload dL_law_317 rfl ?_
        obtain ⟨x29, S_30, hc31, H⟩ := gc_e H
        by_cases hb32 : x29 < exB
        case neg =>
          have H := it_f H hb32
          cases H
        have H := it_t H hb32
        refine GA.callV (m_X11_equal hc31 hb32) xs_L_56 dL_law_319 gs_468 (by decide) rfl rfl (by omega) (by decide) rfl (Nat.le_of_ble_eq_true rfl) (by omega) (by omega) rfl (fun E S9 hx => hx.elim) (fun v S9 hq => ?_)
        obtain ⟨rfl, rfl⟩ := hq
        obtain ⟨hg33, H⟩ := gg_e H
        refine GV.if_ne (tgt := 356) hg33 dL_law_322 (by decide) (fun c34 => ?_) (fun c34 => ?_)
        · have H := it_t H c34
          refine GA.iconst dL_law_356 ?_
          refine GA.istore_n dL_law_357 (by decide) ?_
          obtain ⟨x35, hx36, H⟩ := gv_e H
          refine GV.iinc hx36 dL_law_358 rfl (by decide) ?_
          obtain ⟨x37, hx38, H⟩ := gv_e H
          refine GV.iinc hx38 dL_law_361 rfl (by decide) ?_
          refine GA.goto (tgt := 15) dL_law_364 (by decide) ?_
          refine GA.locals [(0, .ref Z.1.1), (1, .ref (L 468)), (2, .int (J 0)), (3, .int (J x35)), (4, .int (J x37))] ⟨rfl, rfl, rfl, rfl, rfl, trivial⟩ ?_
          exact ih_L_law_15 _ _ (0) (x35) (x37) _ _ H _ _ (by omega)
        · have H := it_f H c34
          refine GA.locals [(0, .ref Z.1.1), (1, .ref (L 468)), (3, .int (J a3)), (4, .int (J a4)), (6, .int (J a6)), (7, .int (J a7)), (8, .int (J a8))] ⟨rfl, rfl, rfl, rfl, rfl, rfl, rfl, trivial⟩ ?_
          exact ih_L_law_325 _ _ (a3) (a4) (a6) (a7) (a8) _ _ H _ _ (by omega)
set_option maxHeartbeats 16000000 in
set_option maxRecDepth 100000 in
theorem t_L_law_325 {l : Launch} {Z : XZ} {L : Nat → Nat} {mc ms : Nat} (n : Nat) (ih_L_law_15 : P_L_law_15 l Z L mc ms n) (ih_L_law_143 : P_L_law_143 l Z L mc ms n) (ih_L_law_217 : P_L_law_217 l Z L mc ms n) (ih_L_law_281 : P_L_law_281 l Z L mc ms n) (ih_L_law_325 : P_L_law_325 l Z L mc ms n) (ih_L_law_367 : P_L_law_367 l Z L mc ms n) : P_L_law_325 l Z L mc ms (n + 1) := by
  intro d S a3 a4 a6 a7 a8 x S1 H nc ns hB
  have H : b_L_law_325 Z.1.2.1 (fun k => (Z.1.2.2 k).toInt) n d (f_L_law Z.1.2.1 (fun k => (Z.1.2.2 k).toInt) n) S a3 a4 a6 a7 a8 = some (x, S1) := H
  unfold b_L_law_325 at H
  refine GA.aload_n dL_law_325 rfl ?_
  refine GA.iload dL_law_326 rfl ?_
  obtain ⟨hg1, H⟩ := gg_e H
  obtain ⟨x2, S_3, hc4, H⟩ := gc_e H
  by_cases hb5 : x2 < exB
  case neg =>
    have H := it_f H hb5
    cases H
  have H := it_t H hb5
  refine GA.callV (m_X11_isSound hc4 hb5) xs_L_131 dL_law_328 gs_468 (by decide) rfl rfl (by omega) (by decide) rfl (Nat.le_of_ble_eq_true rfl) (by omega) (by omega) rfl (fun E S9 hx => hx.elim) (fun v S9 hq => ?_)
  obtain ⟨rfl, rfl⟩ := hq
  obtain ⟨hg6, H⟩ := gg_e H
  refine GV.if_eq (tgt := 356) hg6 dL_law_331 (by decide) (fun c7 => ?_) (fun c7 => ?_)
  · have H := it_t H c7
    refine GA.iconst dL_law_356 ?_
    refine GA.istore_n dL_law_357 (by decide) ?_
    obtain ⟨x8, hx9, H⟩ := gv_e H
    refine GV.iinc hx9 dL_law_358 rfl (by decide) ?_
    obtain ⟨x10, hx11, H⟩ := gv_e H
    refine GV.iinc hx11 dL_law_361 rfl (by decide) ?_
    refine GA.goto (tgt := 15) dL_law_364 (by decide) ?_
    refine GA.locals [(0, .ref Z.1.1), (1, .ref (L 468)), (2, .int (J 0)), (3, .int (J x8)), (4, .int (J x10))] ⟨rfl, rfl, rfl, rfl, rfl, trivial⟩ ?_
    exact ih_L_law_15 _ _ (0) (x8) (x10) _ _ H _ _ (by omega)
  · have H := it_f H c7
    refine GA.aload_n dL_law_334 rfl ?_
    refine GA.iload dL_law_335 rfl ?_
    obtain ⟨x12, S_13, hc14, H⟩ := gc_e H
    by_cases hb15 : x12 < exB
    case neg =>
      have H := it_f H hb15
      cases H
    have H := it_t H hb15
    refine GA.callV (m_X11_isSound hc14 hb15) xs_L_131 dL_law_337 gs_468 (by decide) rfl rfl (by omega) (by decide) rfl (Nat.le_of_ble_eq_true rfl) (by omega) (by omega) rfl (fun E S9 hx => hx.elim) (fun v S9 hq => ?_)
    obtain ⟨rfl, rfl⟩ := hq
    obtain ⟨hg16, H⟩ := gg_e H
    refine GV.if_eq (tgt := 356) hg16 dL_law_340 (by decide) (fun c17 => ?_) (fun c17 => ?_)
    · have H := it_t H c17
      refine GA.iconst dL_law_356 ?_
      refine GA.istore_n dL_law_357 (by decide) ?_
      obtain ⟨x18, hx19, H⟩ := gv_e H
      refine GV.iinc hx19 dL_law_358 rfl (by decide) ?_
      obtain ⟨x20, hx21, H⟩ := gv_e H
      refine GV.iinc hx21 dL_law_361 rfl (by decide) ?_
      refine GA.goto (tgt := 15) dL_law_364 (by decide) ?_
      refine GA.locals [(0, .ref Z.1.1), (1, .ref (L 468)), (2, .int (J 0)), (3, .int (J x18)), (4, .int (J x20))] ⟨rfl, rfl, rfl, rfl, rfl, trivial⟩ ?_
      exact ih_L_law_15 _ _ (0) (x18) (x20) _ _ H _ _ (by omega)
    · have H := it_f H c17
      refine GA.aload_n dL_law_343 rfl ?_
      refine GA.iload dL_law_344 rfl ?_
      obtain ⟨x22, S_23, hc24, H⟩ := gc_e H
      by_cases hb25 : x22 < exB
      case neg =>
        have H := it_f H hb25
        cases H
      have H := it_t H hb25
      refine GA.callV (m_X11_isSound hc24 hb25) xs_L_131 dL_law_346 gs_468 (by decide) rfl rfl (by omega) (by decide) rfl (Nat.le_of_ble_eq_true rfl) (by omega) (by omega) rfl (fun E S9 hx => hx.elim) (fun v S9 hq => ?_)
      obtain ⟨rfl, rfl⟩ := hq
      obtain ⟨hg26, H⟩ := gg_e H
      refine GV.if_eq (tgt := 356) hg26 dL_law_349 (by decide) (fun c27 => ?_) (fun c27 => ?_)
      · have H := it_t H c27
        refine GA.iconst dL_law_356 ?_
        refine GA.istore_n dL_law_357 (by decide) ?_
        obtain ⟨x28, hx29, H⟩ := gv_e H
        refine GV.iinc hx29 dL_law_358 rfl (by decide) ?_
        obtain ⟨x30, hx31, H⟩ := gv_e H
        refine GV.iinc hx31 dL_law_361 rfl (by decide) ?_
        refine GA.goto (tgt := 15) dL_law_364 (by decide) ?_
        refine GA.locals [(0, .ref Z.1.1), (1, .ref (L 468)), (2, .int (J 0)), (3, .int (J x28)), (4, .int (J x30))] ⟨rfl, rfl, rfl, rfl, rfl, trivial⟩ ?_
        exact ih_L_law_15 _ _ (0) (x28) (x30) _ _ H _ _ (by omega)
      · have H := it_f H c27
        refine GA.iconst dL_law_352 ?_
        refine GA.goto (tgt := 357) dL_law_353 (by decide) ?_
        refine GA.istore_n dL_law_357 (by decide) ?_
        obtain ⟨x32, hx33, H⟩ := gv_e H
        refine GV.iinc hx33 dL_law_358 rfl (by decide) ?_
        obtain ⟨x34, hx35, H⟩ := gv_e H
        refine GV.iinc hx35 dL_law_361 rfl (by decide) ?_
        refine GA.goto (tgt := 15) dL_law_364 (by decide) ?_
        refine GA.locals [(0, .ref Z.1.1), (1, .ref (L 468)), (2, .int (J 1)), (3, .int (J x32)), (4, .int (J x34))] ⟨rfl, rfl, rfl, rfl, rfl, trivial⟩ ?_
        exact ih_L_law_15 _ _ (1) (x32) (x34) _ _ H _ _ (by omega)
set_option maxHeartbeats 16000000 in
set_option maxRecDepth 100000 in
theorem t_L_law_367 {l : Launch} {Z : XZ} {L : Nat → Nat} {mc ms : Nat} (n : Nat) (ih_L_law_15 : P_L_law_15 l Z L mc ms n) (ih_L_law_143 : P_L_law_143 l Z L mc ms n) (ih_L_law_217 : P_L_law_217 l Z L mc ms n) (ih_L_law_281 : P_L_law_281 l Z L mc ms n) (ih_L_law_325 : P_L_law_325 l Z L mc ms n) (ih_L_law_367 : P_L_law_367 l Z L mc ms n) : P_L_law_367 l Z L mc ms (n + 1) := by
  intro d S a2 x S1 H nc ns hB
  have H : b_L_law_367 Z.1.2.1 (fun k => (Z.1.2.2 k).toInt) n d (f_L_law Z.1.2.1 (fun k => (Z.1.2.2 k).toInt) n) S a2 = some (x, S1) := H
  unfold b_L_law_367 at H
  refine GA.aload_n dL_law_367 rfl ?_
  obtain ⟨hg1, H⟩ := gg_e H
  obtain ⟨x2, S_3, hc4, H⟩ := gc_e H
  by_cases hb5 : x2 < exB
  case neg =>
    have H := it_f H hb5
    cases H
  have H := it_t H hb5
  refine GA.callV (m_X11_standard hc4 hb5) xs_L_135 dL_law_368 gs_468 (by decide) rfl rfl (by omega) (by decide) rfl (Nat.le_of_ble_eq_true rfl) (by omega) (by omega) rfl (fun E S9 hx => hx.elim) (fun v S9 hq => ?_)
  obtain ⟨rfl, rfl⟩ := hq
  refine GA.istore dL_law_371 (by decide) ?_
  refine GA.iload_n dL_law_373 rfl ?_
  obtain ⟨hg6, H⟩ := gg_e H
  refine GV.if_eq (tgt := 411) hg6 dL_law_374 (by decide) (fun c7 => ?_) (fun c7 => ?_)
  · have H := it_t H c7
    refine GA.iconst dL_law_411 ?_
    cases H
    exact GV.zret (by decide) rfl dL_law_412 (by omega) (by omega) ⟨rfl, rfl⟩
  · have H := it_f H c7
    refine GA.aload_n dL_law_377 rfl ?_
    refine GA.iload dL_law_378 rfl ?_
    refine GA.iload dL_law_380 rfl ?_
    obtain ⟨x8, S_9, hc10, H⟩ := gc_e H
    by_cases hb11 : x8 < exB
    case neg =>
      have H := it_f H hb11
      cases H
    have H := it_t H hb11
    refine GA.callV (m_X11_check hc10 hb11) xs_L_138 dL_law_382 gs_468 (by decide) rfl rfl (by omega) (by decide) rfl (Nat.le_of_ble_eq_true rfl) (by omega) (by omega) rfl (fun E S9 hx => hx.elim) (fun v S9 hq => ?_)
    obtain ⟨rfl, rfl⟩ := hq
    obtain ⟨hg12, H⟩ := gg_e H
    refine GV.if_ne (tgt := 411) hg12 dL_law_385 (by decide) (fun c13 => ?_) (fun c13 => ?_)
    · have H := it_t H c13
      refine GA.iconst dL_law_411 ?_
      cases H
      exact GV.zret (by decide) rfl dL_law_412 (by omega) (by omega) ⟨rfl, rfl⟩
    · have H := it_f H c13
      refine GA.aload_n dL_law_388 rfl ?_
      refine GA.iload dL_law_389 rfl ?_
      refine GA.iconst dL_law_391 ?_
      obtain ⟨x14, S_15, hc16, H⟩ := gc_e H
      by_cases hb17 : x14 < exB
      case neg =>
        have H := it_f H hb17
        cases H
      have H := it_t H hb17
      refine GA.callV (m_X11_check hc16 hb17) xs_L_138 dL_law_392 gs_468 (by decide) rfl rfl (by omega) (by decide) rfl (Nat.le_of_ble_eq_true rfl) (by omega) (by omega) rfl (fun E S9 hx => hx.elim) (fun v S9 hq => ?_)
      obtain ⟨rfl, rfl⟩ := hq
      obtain ⟨hg18, H⟩ := gg_e H
      refine GV.if_lt (tgt := 411) hg18 dL_law_395 (by decide) (fun c19 => ?_) (fun c19 => ?_)
      · have H := it_t H c19
        refine GA.iconst dL_law_411 ?_
        cases H
        exact GV.zret (by decide) rfl dL_law_412 (by omega) (by omega) ⟨rfl, rfl⟩
      · have H := it_f H c19
        refine GA.aload_n dL_law_398 rfl ?_
        refine GA.iload dL_law_399 rfl ?_
        obtain ⟨x20, S_21, hc22, H⟩ := gc_e H
        by_cases hb23 : x20 < exB
        case neg =>
          have H := it_f H hb23
          cases H
        have H := it_t H hb23
        refine GA.callV (m_X11_isSound hc22 hb23) xs_L_131 dL_law_401 gs_468 (by decide) rfl rfl (by omega) (by decide) rfl (Nat.le_of_ble_eq_true rfl) (by omega) (by omega) rfl (fun E S9 hx => hx.elim) (fun v S9 hq => ?_)
        obtain ⟨rfl, rfl⟩ := hq
        obtain ⟨hg24, H⟩ := gg_e H
        refine GV.if_eq (tgt := 411) hg24 dL_law_404 (by decide) (fun c25 => ?_) (fun c25 => ?_)
        · have H := it_t H c25
          refine GA.iconst dL_law_411 ?_
          cases H
          exact GV.zret (by decide) rfl dL_law_412 (by omega) (by omega) ⟨rfl, rfl⟩
        · have H := it_f H c25
          refine GA.iconst dL_law_407 ?_
          refine GA.goto (tgt := 412) dL_law_408 (by decide) ?_
          cases H
          exact GV.zret (by decide) rfl dL_law_412 (by omega) (by omega) ⟨rfl, rfl⟩
theorem g_L_law {l : Launch} {Z : XZ} {L : Nat → Nat} {mc ms : Nat} : ∀ n, P_L_law_15 l Z L mc ms n ∧ P_L_law_143 l Z L mc ms n ∧ P_L_law_217 l Z L mc ms n ∧ P_L_law_281 l Z L mc ms n ∧ P_L_law_325 l Z L mc ms n ∧ P_L_law_367 l Z L mc ms n
  | 0 => ⟨fun _ _ _ _ _ _ _ H => no_e H, fun _ _ _ _ _ _ _ _ _ _ H => no_e H, fun _ _ _ _ _ _ _ _ _ _ H => no_e H, fun _ _ _ _ _ _ _ _ _ _ H => no_e H, fun _ _ _ _ _ _ _ _ _ H => no_e H, fun _ _ _ _ _ H => no_e H⟩
  | n + 1 => have ⟨h0, h1, h2, h3, h4, h5⟩ := g_L_law (l := l) (Z := Z) (L := L) (mc := mc) (ms := ms) n
    ⟨t_L_law_15 n h0 h1 h2 h3 h4 h5, t_L_law_143 n h0 h1 h2 h3 h4 h5, t_L_law_217 n h0 h1 h2 h3 h4 h5, t_L_law_281 n h0 h1 h2 h3 h4 h5, t_L_law_325 n h0 h1 h2 h3 h4 h5, t_L_law_367 n h0 h1 h2 h3 h4 h5⟩
