def P_X11_admit_0 (l : Launch) (Z : XZ) (L : Nat → Nat) (n : Nat) : Prop := ∀ (d : Nat) (S : GS) (a1 : Nat) (x : Int) (S1 : GS), f_X11_admit n d 0 S [((a1 : Nat) : Int)] = some (x, S1) → GA l Z L yX11_admit cX11_admit 3 (some .int) [] d (exc x) (exs x) (fun v S' => x < exB ∧ v = some (.int (J x)) ∧ S1 = S') (fun E S' => ¬ x < exB ∧ E = exn x ∧ S1 = S') 0 (gl [(0, .ref (L 468)), (1, .ref (L a1))]) [] S 0 0
set_option maxHeartbeats 4000000 in
set_option maxRecDepth 20000 in
theorem t_X11_admit_0 {l : Launch} {Z : XZ} {L : Nat → Nat} (n : Nat) (ih_X11_admit_0 : P_X11_admit_0 l Z L n) : P_X11_admit_0 l Z L (n + 1) := by
  intro d S a1 x S1 H
  have H : b_X11_admit_0 n d (f_X11_admit n) S a1 = some (x, S1) := H
  unfold b_X11_admit_0 at H
  refine GA.aload_n dX11_admit_0 rfl ?_
  obtain ⟨x1, hx2, H⟩ := gv_e H
  refine GV.getI hx2 xf_X11_150 dX11_admit_1 gs_468 (by decide) rfl ?_
  obtain ⟨hg3, H⟩ := gg_e H
  refine GV.if_lt (tgt := 31) hg3 dX11_admit_4 (by decide) (fun c4 => ?_) (fun c4 => ?_)
  · have H := it_t H c4
    refine GA.null dX11_admit_31 ?_
    refine GA.astore_nN dX11_admit_32 (by decide) ?_
    refine GA.aload_nN dX11_admit_33 rfl ?_
    refine GA.ifnullN (tgt := 44) dX11_admit_34 (by decide) ?_
    cases H
    exact GA.throw0 xx_X11_124_126 rfl (by decide) dX11_admit_44 dX11_admit_47 dX11_admit_48 dX11_admit_51 (Nat.le_of_ble_eq_true rfl) (by decide) (by decide) ⟨by decide, exn_2.symm, rfl⟩
  · have H := it_f H c4
    refine GA.aload_n dX11_admit_7 rfl ?_
    obtain ⟨x5, hx6, H⟩ := gv_e H
    refine GV.getI hx6 xf_X11_150 dX11_admit_8 gs_468 (by decide) rfl ?_
    refine GA.aload_n dX11_admit_11 rfl ?_
    refine GA.get xf_X11_27 dX11_admit_12 gs_468 (by decide) rfl ?_
    refine GV.alenR (n := 40) dX11_admit_15 rfl (by decide) ?_
    obtain ⟨hg7, H⟩ := gg_e H
    obtain ⟨hg8, H⟩ := gg_e H
    refine GV.icmp_ge (tgt := 31) hg7 hg8 dX11_admit_16 (by decide) (fun c9 => ?_) (fun c9 => ?_)
    · have H := it_t H c9
      refine GA.null dX11_admit_31 ?_
      refine GA.astore_nN dX11_admit_32 (by decide) ?_
      refine GA.aload_nN dX11_admit_33 rfl ?_
      refine GA.ifnullN (tgt := 44) dX11_admit_34 (by decide) ?_
      cases H
      exact GA.throw0 xx_X11_124_126 rfl (by decide) dX11_admit_44 dX11_admit_47 dX11_admit_48 dX11_admit_51 (Nat.le_of_ble_eq_true rfl) (by decide) (by decide) ⟨by decide, exn_2.symm, rfl⟩
    · have H := it_f H c9
      refine GA.aload_n dX11_admit_19 rfl ?_
      refine GA.get xf_X11_27 dX11_admit_20 gs_468 (by decide) rfl ?_
      refine GA.aload_n dX11_admit_23 rfl ?_
      obtain ⟨x10, hx11, H⟩ := gv_e H
      refine GV.getI hx11 xf_X11_150 dX11_admit_24 gs_468 (by decide) rfl ?_
      obtain ⟨hg12, H⟩ := gg_e H
      refine GV.doc hg12 dX11_admit_27 ?_
      refine GA.goto (tgt := 32) dX11_admit_28 (by decide) ?_
      refine GA.astore_n dX11_admit_32 (by decide) ?_
      refine GA.aload_n dX11_admit_33 rfl ?_
      refine GA.ifnull dX11_admit_34 ?_
      refine GA.aload_n dX11_admit_37 rfl ?_
      obtain ⟨hg13, H⟩ := gg_e H
      obtain ⟨hg14, H⟩ := gg_e H
      obtain ⟨x15, S_16, hc17, H⟩ := gc_e H
      refine GA.callV (m_X10_isDocument hc17) xs_X11_308 dX11_admit_38 (gsT hg14) (by omega) rfl rfl (by omega) (by decide) rfl (Nat.le_of_ble_eq_true rfl) (by omega) (by omega) rfl (fun E S9 hx => hx.elim) (fun v S9 hq => ?_)
      obtain ⟨rfl, rfl⟩ := hq
      obtain ⟨hg18, H⟩ := gg_e H
      refine GV.if_ne (tgt := 52) hg18 dX11_admit_41 (by decide) (fun c19 => ?_) (fun c19 => ?_)
      · have H := it_t H c19
        refine GA.aload_n dX11_admit_52 rfl ?_
        refine GA.aload_n dX11_admit_53 rfl ?_
        refine GA.iconst dX11_admit_54 ?_
        obtain ⟨hg20, H⟩ := gg_e H
        obtain ⟨x21, S_22, hc23, H⟩ := gc_e H
        refine GA.callV (m_X10_copyOf hc23) xs_X11_109 dX11_admit_55 (gsT hg20) (by omega) rfl rfl (by omega) (by decide) rfl (Nat.le_of_ble_eq_true rfl) (by omega) (by omega) rfl (fun E S9 hx => hx.elim) (fun v S9 hq => ?_)
        obtain ⟨rfl, rfl⟩ := hq
        refine GA.aload_n dX11_admit_58 rfl ?_
        refine GA.dup dX11_admit_59 rfl ?_
        obtain ⟨x24, hx25, H⟩ := gv_e H
        refine GV.getI hx25 xf_X11_150 dX11_admit_60 gs_468 (by decide) rfl ?_
        refine GA.iconst dX11_admit_63 ?_
        obtain ⟨x26, hx27, H⟩ := gv_e H
        refine GV.iadd hx27 dX11_admit_64 ?_
        obtain ⟨S_28, hx29, H⟩ := gv_e H
        refine GV.putI hx29 (xp_X11_150 _) dX11_admit_65 gs_468 (by decide) (Nat.le_of_ble_eq_true rfl) gs_468 ?_
        refine GA.aload_n dX11_admit_68 rfl ?_
        obtain ⟨x30, hx31, H⟩ := gv_e H
        refine GV.getI hx31 xf_X11_150 dX11_admit_69 gs_468 (by decide) rfl ?_
        refine GA.iconst dX11_admit_72 ?_
        obtain ⟨x32, hx33, H⟩ := gv_e H
        refine GV.isub hx33 dX11_admit_73 ?_
        obtain ⟨hg34, H⟩ := gg_e H
        cases H
        exact GA.iret rfl dX11_admit_74 (by omega) (by omega) ⟨hg34, rfl, rfl⟩
      · have H := it_f H c19
        cases H
        exact GA.throw0 xx_X11_124_126 rfl (by decide) dX11_admit_44 dX11_admit_47 dX11_admit_48 dX11_admit_51 (Nat.le_of_ble_eq_true rfl) (by decide) (by decide) ⟨by decide, exn_2.symm, rfl⟩
theorem g_X11_admit {l : Launch} {Z : XZ} {L : Nat → Nat} : ∀ n, P_X11_admit_0 l Z L n
  | 0 => fun _ _ _ _ _ H => no_e H
  | n + 1 => t_X11_admit_0 n (g_X11_admit n)
theorem m0_X11_admit {l : Launch} {Z : XZ} {L : Nat → Nat} {n d : Nat} {S : GS} {a1 : Nat} {x : Int} {S1 : GS} (H : f_X11_admit n d 0 S [((a1 : Nat) : Int)] = some (x, S1)) : GM l Z L yX11_admit cX11_admit 3 (some .int) [] d (exc x) (exs x) [.ref (L 468), .ref (L a1)] S (fun v S' => x < exB ∧ v = some (.int (J x)) ∧ S1 = S') (fun E S' => ¬ x < exB ∧ E = exn x ∧ S1 = S') := GM.of (by decide) (Nat.le_of_ble_eq_true rfl) ((g_X11_admit n) _ _ _ _ _ H)
theorem m_X11_admit {l : Launch} {Z : XZ} {L : Nat → Nat} {n d : Nat} {S : GS} {a1 : Nat} {x : Int} {S1 : GS} (H : f_X11_admit n d 0 S [((a1 : Nat) : Int)] = some (x, S1)) (hb : x < exB) : GM l Z L yX11_admit cX11_admit 3 (some .int) [] d 0 0 [.ref (L 468), .ref (L a1)] S (fun v S' => v = some (.int (J x)) ∧ S1 = S') (fun _ _ => False) := by
  have h := m0_X11_admit (l := l) (Z := Z) (L := L) H
  rw [exc_0 hb, exs_0 hb] at h
  exact h.post (fun v S9 q => q.2) (fun E S9 q => q.1 hb)
theorem mx_X11_admit {l : Launch} {Z : XZ} {L : Nat → Nat} {n d : Nat} {S : GS} {a1 : Nat} {x : Int} {S1 : GS} (H : f_X11_admit n d 0 S [((a1 : Nat) : Int)] = some (x, S1)) (hb : ¬ x < exB) : GM l Z L yX11_admit cX11_admit 3 (some .int) [] d 1 6 [.ref (L 468), .ref (L a1)] S (fun _ _ => False) (fun E S' => E = exn x ∧ S1 = S') := by
  have h := m0_X11_admit (l := l) (Z := Z) (L := L) H
  rw [exc_1 hb, exs_6 hb] at h
  exact h.post (fun v S9 q => hb q.1) (fun E S9 q => q.2)

def P_X11_document_0 (l : Launch) (Z : XZ) (L : Nat → Nat) (n : Nat) : Prop := ∀ (d : Nat) (S : GS) (a1 : Int) (x : Int) (S1 : GS), f_X11_document n d 0 S [a1] = some (x, S1) → GA l Z L yX11_document cX11_document 3 (some (.object "Treeletter$Tree")) [] d (exc x) (exs x) (fun v S' => x < exB ∧ v = some (.ref (L x.toNat)) ∧ S1 = S') (fun E S' => ¬ x < exB ∧ E = exn x ∧ S1 = S') 0 (gl [(0, .ref (L 468)), (1, .int (J a1))]) [] S 0 0
set_option maxHeartbeats 4000000 in
set_option maxRecDepth 20000 in
theorem t_X11_document_0 {l : Launch} {Z : XZ} {L : Nat → Nat} (n : Nat) (ih_X11_document_0 : P_X11_document_0 l Z L n) : P_X11_document_0 l Z L (n + 1) := by
  intro d S a1 x S1 H
  have H : b_X11_document_0 n d (f_X11_document n) S a1 = some (x, S1) := H
  unfold b_X11_document_0 at H
  refine GA.iload_n dX11_document_0 rfl ?_
  obtain ⟨hg1, H⟩ := gg_e H
  refine GV.if_lt (tgt := 30) hg1 dX11_document_1 (by decide) (fun c2 => ?_) (fun c2 => ?_)
  · have H := it_t H c2
    refine GA.null dX11_document_30 ?_
    refine GA.astore_nN dX11_document_31 (by decide) ?_
    refine GA.aload_nN dX11_document_32 rfl ?_
    refine GA.ifnonnullN dX11_document_33 ?_
    cases H
    exact GA.throw0 xx_X11_137_139 rfl (by decide) dX11_document_36 dX11_document_39 dX11_document_40 dX11_document_43 (Nat.le_of_ble_eq_true rfl) (by decide) (by decide) ⟨by decide, exn_3.symm, rfl⟩
  · have H := it_f H c2
    refine GA.iload_n dX11_document_4 rfl ?_
    refine GA.aload_n dX11_document_5 rfl ?_
    obtain ⟨x3, hx4, H⟩ := gv_e H
    refine GV.getI hx4 xf_X11_150 dX11_document_6 gs_468 (by decide) rfl ?_
    obtain ⟨hg5, H⟩ := gg_e H
    refine GV.icmp_ge (tgt := 30) hg1 hg5 dX11_document_9 (by decide) (fun c6 => ?_) (fun c6 => ?_)
    · have H := it_t H c6
      refine GA.null dX11_document_30 ?_
      refine GA.astore_nN dX11_document_31 (by decide) ?_
      refine GA.aload_nN dX11_document_32 rfl ?_
      refine GA.ifnonnullN dX11_document_33 ?_
      cases H
      exact GA.throw0 xx_X11_137_139 rfl (by decide) dX11_document_36 dX11_document_39 dX11_document_40 dX11_document_43 (Nat.le_of_ble_eq_true rfl) (by decide) (by decide) ⟨by decide, exn_3.symm, rfl⟩
    · have H := it_f H c6
      refine GA.iload_n dX11_document_12 rfl ?_
      refine GA.aload_n dX11_document_13 rfl ?_
      refine GA.get xf_X11_27 dX11_document_14 gs_468 (by decide) rfl ?_
      refine GV.alenR (n := 40) dX11_document_17 rfl (by decide) ?_
      obtain ⟨hg7, H⟩ := gg_e H
      refine GV.icmp_ge (tgt := 30) hg1 hg7 dX11_document_18 (by decide) (fun c8 => ?_) (fun c8 => ?_)
      · have H := it_t H c8
        refine GA.null dX11_document_30 ?_
        refine GA.astore_nN dX11_document_31 (by decide) ?_
        refine GA.aload_nN dX11_document_32 rfl ?_
        refine GA.ifnonnullN dX11_document_33 ?_
        cases H
        exact GA.throw0 xx_X11_137_139 rfl (by decide) dX11_document_36 dX11_document_39 dX11_document_40 dX11_document_43 (Nat.le_of_ble_eq_true rfl) (by decide) (by decide) ⟨by decide, exn_3.symm, rfl⟩
      · have H := it_f H c8
        refine GA.aload_n dX11_document_21 rfl ?_
        refine GA.get xf_X11_27 dX11_document_22 gs_468 (by decide) rfl ?_
        refine GA.iload_n dX11_document_25 rfl ?_
        obtain ⟨hg9, H⟩ := gg_e H
        refine GV.doc hg9 dX11_document_26 ?_
        refine GA.goto (tgt := 31) dX11_document_27 (by decide) ?_
        refine GA.astore_n dX11_document_31 (by decide) ?_
        refine GA.aload_n dX11_document_32 rfl ?_
        refine GA.ifnonnull (tgt := 44) dX11_document_33 (by decide) ?_
        refine GA.aload_n dX11_document_44 rfl ?_
        obtain ⟨hg10, H⟩ := gg_e H
        cases H
        exact GA.aret rfl dX11_document_45 (by omega) (by omega) ⟨hg10, rfl, rfl⟩
theorem g_X11_document {l : Launch} {Z : XZ} {L : Nat → Nat} : ∀ n, P_X11_document_0 l Z L n
  | 0 => fun _ _ _ _ _ H => no_e H
  | n + 1 => t_X11_document_0 n (g_X11_document n)
theorem m0_X11_document {l : Launch} {Z : XZ} {L : Nat → Nat} {n d : Nat} {S : GS} {a1 : Int} {x : Int} {S1 : GS} (H : f_X11_document n d 0 S [a1] = some (x, S1)) : GM l Z L yX11_document cX11_document 3 (some (.object "Treeletter$Tree")) [] d (exc x) (exs x) [.ref (L 468), .int (J a1)] S (fun v S' => x < exB ∧ v = some (.ref (L x.toNat)) ∧ S1 = S') (fun E S' => ¬ x < exB ∧ E = exn x ∧ S1 = S') := GM.of (by decide) (Nat.le_of_ble_eq_true rfl) ((g_X11_document n) _ _ _ _ _ H)
theorem m_X11_document {l : Launch} {Z : XZ} {L : Nat → Nat} {n d : Nat} {S : GS} {a1 : Int} {x : Int} {S1 : GS} (H : f_X11_document n d 0 S [a1] = some (x, S1)) (hb : x < exB) : GM l Z L yX11_document cX11_document 3 (some (.object "Treeletter$Tree")) [] d 0 0 [.ref (L 468), .int (J a1)] S (fun v S' => v = some (.ref (L x.toNat)) ∧ S1 = S') (fun _ _ => False) := by
  have h := m0_X11_document (l := l) (Z := Z) (L := L) H
  rw [exc_0 hb, exs_0 hb] at h
  exact h.post (fun v S9 q => q.2) (fun E S9 q => q.1 hb)
theorem mx_X11_document {l : Launch} {Z : XZ} {L : Nat → Nat} {n d : Nat} {S : GS} {a1 : Int} {x : Int} {S1 : GS} (H : f_X11_document n d 0 S [a1] = some (x, S1)) (hb : ¬ x < exB) : GM l Z L yX11_document cX11_document 3 (some (.object "Treeletter$Tree")) [] d 1 6 [.ref (L 468), .int (J a1)] S (fun _ _ => False) (fun E S' => E = exn x ∧ S1 = S') := by
  have h := m0_X11_document (l := l) (Z := Z) (L := L) H
  rw [exc_1 hb, exs_6 hb] at h
  exact h.post (fun v S9 q => hb q.1) (fun E S9 q => q.2)

def P_X11_allNodes_0 (l : Launch) (Z : XZ) (L : Nat → Nat) (n : Nat) : Prop := ∀ (d : Nat) (S : GS) (x : Int) (S1 : GS), f_X11_allNodes n d 0 S [] = some (x, S1) → GA l Z L yX11_allNodes cX11_allNodes 3 (some .int) [] d (exc x) (exs x) (fun v S' => x < exB ∧ v = some (.int (J x)) ∧ S1 = S') (fun E S' => ¬ x < exB ∧ E = exn x ∧ S1 = S') 0 (gl [(0, .ref (L 468))]) [] S 0 0
def P_X11_allNodes_4 (l : Launch) (Z : XZ) (L : Nat → Nat) (n : Nat) : Prop := ∀ (d : Nat) (S : GS) (a1 : Int) (a2 : Int) (x : Int) (S1 : GS), f_X11_allNodes n d 4 S [a1, a2] = some (x, S1) → GA l Z L yX11_allNodes cX11_allNodes 3 (some .int) [] d (exc x) (exs x) (fun v S' => x < exB ∧ v = some (.int (J x)) ∧ S1 = S') (fun E S' => ¬ x < exB ∧ E = exn x ∧ S1 = S') 4 (gl [(0, .ref (L 468)), (1, .int (J a1)), (2, .int (J a2))]) [] S 0 0
set_option maxHeartbeats 4000000 in
set_option maxRecDepth 20000 in
theorem t_X11_allNodes_0 {l : Launch} {Z : XZ} {L : Nat → Nat} (n : Nat) (ih_X11_allNodes_0 : P_X11_allNodes_0 l Z L n) (ih_X11_allNodes_4 : P_X11_allNodes_4 l Z L n) : P_X11_allNodes_0 l Z L (n + 1) := by
  intro d S  x S1 H
  have H : b_X11_allNodes_0 n d (f_X11_allNodes n) S  = some (x, S1) := H
  unfold b_X11_allNodes_0 at H
  refine GA.iconst dX11_allNodes_0 ?_
  refine GA.istore_n dX11_allNodes_1 (by decide) ?_
  refine GA.iconst dX11_allNodes_2 ?_
  refine GA.istore_n dX11_allNodes_3 (by decide) ?_
  refine GA.locals [(0, .ref (L 468)), (1, .int (J 0)), (2, .int (J 0))] ⟨rfl, rfl, rfl, trivial⟩ ?_
  exact ih_X11_allNodes_4 _ _ (0) (0) _ _ H
set_option maxHeartbeats 4000000 in
set_option maxRecDepth 20000 in
theorem t_X11_allNodes_4 {l : Launch} {Z : XZ} {L : Nat → Nat} (n : Nat) (ih_X11_allNodes_0 : P_X11_allNodes_0 l Z L n) (ih_X11_allNodes_4 : P_X11_allNodes_4 l Z L n) : P_X11_allNodes_4 l Z L (n + 1) := by
  intro d S a1 a2 x S1 H
  have H : b_X11_allNodes_4 n d (f_X11_allNodes n) S a1 a2 = some (x, S1) := H
  unfold b_X11_allNodes_4 at H
  refine GA.iload_n dX11_allNodes_4 rfl ?_
  refine GA.aload_n dX11_allNodes_5 rfl ?_
  obtain ⟨x1, hx2, H⟩ := gv_e H
  refine GV.getI hx2 xf_X11_150 dX11_allNodes_6 gs_468 (by decide) rfl ?_
  obtain ⟨hg3, H⟩ := gg_e H
  obtain ⟨hg4, H⟩ := gg_e H
  refine GV.icmp_ge (tgt := 29) hg3 hg4 dX11_allNodes_9 (by decide) (fun c5 => ?_) (fun c5 => ?_)
  · have H := it_t H c5
    refine GA.iload_n dX11_allNodes_29 rfl ?_
    obtain ⟨hg6, H⟩ := gg_e H
    cases H
    exact GA.iret rfl dX11_allNodes_30 (by omega) (by omega) ⟨hg6, rfl, rfl⟩
  · have H := it_f H c5
    refine GA.iload_n dX11_allNodes_12 rfl ?_
    refine GA.aload_n dX11_allNodes_13 rfl ?_
    refine GA.iload_n dX11_allNodes_14 rfl ?_
    obtain ⟨hg7, H⟩ := gg_e H
    obtain ⟨x8, S_9, hc10, H⟩ := gc_e H
    by_cases hb11 : x8 < exB
    case neg =>
      have H := it_f H hb11
      cases H
      exact GA.callV (mx_X11_document hc10 hb11) xs_X11_157 dX11_allNodes_15 gs_468 (by decide) rfl rfl (by omega) (by decide) rfl (Nat.le_of_ble_eq_true rfl) (by have := exc_1 hb11; omega) (by have := exs_6 hb11; omega) rfl (fun E S9 hx => ⟨hb11, hx⟩) (fun v S9 hq => hq.elim)
    have H := it_t H hb11
    refine GA.callV (m_X11_document hc10 hb11) xs_X11_157 dX11_allNodes_15 gs_468 (by decide) rfl rfl (by omega) (by decide) rfl (Nat.le_of_ble_eq_true rfl) (by omega) (by omega) rfl (fun E S9 hx => hx.elim) (fun v S9 hq => ?_)
    obtain ⟨rfl, rfl⟩ := hq
    obtain ⟨hg12, H⟩ := gg_e H
    obtain ⟨x13, S_14, hc15, H⟩ := gc_e H
    refine GA.callV (m_X10_count hc15) xs_X11_297 dX11_allNodes_18 (gsT hg12) (by omega) rfl rfl (by omega) (by decide) rfl (Nat.le_of_ble_eq_true rfl) (by omega) (by omega) rfl (fun E S9 hx => hx.elim) (fun v S9 hq => ?_)
    obtain ⟨rfl, rfl⟩ := hq
    obtain ⟨x16, hx17, H⟩ := gv_e H
    refine GV.iadd hx17 dX11_allNodes_21 ?_
    refine GA.istore_n dX11_allNodes_22 (by decide) ?_
    obtain ⟨x18, hx19, H⟩ := gv_e H
    refine GV.iinc hx19 dX11_allNodes_23 rfl (by decide) ?_
    refine GA.goto (tgt := 4) dX11_allNodes_26 (by decide) ?_
    refine GA.locals [(0, .ref (L 468)), (1, .int (J x16)), (2, .int (J x18))] ⟨rfl, rfl, rfl, trivial⟩ ?_
    exact ih_X11_allNodes_4 _ _ (x16) (x18) _ _ H
theorem g_X11_allNodes {l : Launch} {Z : XZ} {L : Nat → Nat} : ∀ n, P_X11_allNodes_0 l Z L n ∧ P_X11_allNodes_4 l Z L n
  | 0 => ⟨fun _ _ _ _ H => no_e H, fun _ _ _ _ _ _ H => no_e H⟩
  | n + 1 => have ⟨h0, h1⟩ := g_X11_allNodes (l := l) (Z := Z) (L := L) n
    ⟨t_X11_allNodes_0 n h0 h1, t_X11_allNodes_4 n h0 h1⟩
theorem m0_X11_allNodes {l : Launch} {Z : XZ} {L : Nat → Nat} {n d : Nat} {S : GS} {x : Int} {S1 : GS} (H : f_X11_allNodes n d 0 S [] = some (x, S1)) : GM l Z L yX11_allNodes cX11_allNodes 3 (some .int) [] d (exc x) (exs x) [.ref (L 468)] S (fun v S' => x < exB ∧ v = some (.int (J x)) ∧ S1 = S') (fun E S' => ¬ x < exB ∧ E = exn x ∧ S1 = S') := GM.of (by decide) (Nat.le_of_ble_eq_true rfl) ((g_X11_allNodes n).1 _ _ _ _ H)
theorem m_X11_allNodes {l : Launch} {Z : XZ} {L : Nat → Nat} {n d : Nat} {S : GS} {x : Int} {S1 : GS} (H : f_X11_allNodes n d 0 S [] = some (x, S1)) (hb : x < exB) : GM l Z L yX11_allNodes cX11_allNodes 3 (some .int) [] d 0 0 [.ref (L 468)] S (fun v S' => v = some (.int (J x)) ∧ S1 = S') (fun _ _ => False) := by
  have h := m0_X11_allNodes (l := l) (Z := Z) (L := L) H
  rw [exc_0 hb, exs_0 hb] at h
  exact h.post (fun v S9 q => q.2) (fun E S9 q => q.1 hb)
theorem mx_X11_allNodes {l : Launch} {Z : XZ} {L : Nat → Nat} {n d : Nat} {S : GS} {x : Int} {S1 : GS} (H : f_X11_allNodes n d 0 S [] = some (x, S1)) (hb : ¬ x < exB) : GM l Z L yX11_allNodes cX11_allNodes 3 (some .int) [] d 1 6 [.ref (L 468)] S (fun _ _ => False) (fun E S' => E = exn x ∧ S1 = S') := by
  have h := m0_X11_allNodes (l := l) (Z := Z) (L := L) H
  rw [exc_1 hb, exs_6 hb] at h
  exact h.post (fun v S9 q => hb q.1) (fun E S9 q => q.2)

def P_X11_letterAt_0 (l : Launch) (Z : XZ) (L : Nat → Nat) (n : Nat) : Prop := ∀ (d : Nat) (S : GS) (a0 : Int) (a2 : Int) (x : Int) (S1 : GS), f_X11_letterAt n d 0 S [a0, a2] = some (x, S1) → GA l Z L yX11_letterAt cX11_letterAt 3 (some .int) [] d 0 0 (fun v S' => v = some (.int (J x)) ∧ S1 = S') (fun _ _ => False) 0 (gl [(0, .long (K a0)), (2, .int (J a2))]) [] S 0 0
theorem i_X11_letterAt {l : Launch} {Z : XZ} {L : Nat → Nat} {n : Nat} (ih : P_X11_letterAt_0 l Z L n) {d : Nat} {S : GS} {a0 : Int} {a2 : Int} {x : Int} {S1 : GS} (H : f_X11_letterAt n d 0 S [a0, a2] = some (x, S1)) : GM l Z L yX11_letterAt cX11_letterAt 3 (some .int) [] d 0 0 [.long (K a0), .int (J a2)] S (fun v S' => v = some (.int (J x)) ∧ S1 = S') (fun _ _ => False) := GM.of (by decide) (Nat.le_of_ble_eq_true rfl) (ih _ _ _ _ _ _ H)
set_option maxHeartbeats 4000000 in
set_option maxRecDepth 20000 in
theorem t_X11_letterAt_0 {l : Launch} {Z : XZ} {L : Nat → Nat} (n : Nat) (ih_X11_letterAt_0 : P_X11_letterAt_0 l Z L n) : P_X11_letterAt_0 l Z L (n + 1) := by
  intro d S a0 a2 x S1 H
  have H : b_X11_letterAt_0 n d (f_X11_letterAt n) S a0 a2 = some (x, S1) := H
  unfold b_X11_letterAt_0 at H
  refine GA.lload_n dX11_letterAt_0 rfl ?_
  refine GA.bipush dX11_letterAt_1 rfl ?_
  refine GA.iload_n dX11_letterAt_3 rfl ?_
  obtain ⟨x1, hx2, H⟩ := gv_e H
  refine GV.imul hx2 dX11_letterAt_4 ?_
  obtain ⟨hg3, H⟩ := gg_e H
  obtain ⟨x4, hx5, H⟩ := gv_e H
  refine GV.lushr hg3 hx5 dX11_letterAt_5 ?_
  refine GV.l2i dX11_letterAt_6 ?_
  refine GA.sipush dX11_letterAt_7 rfl ?_
  obtain ⟨x6, hx7, H⟩ := gv_e H
  refine GV.iand hx7 dX11_letterAt_10 ?_
  cases H
  exact GA.iret rfl dX11_letterAt_11 (by omega) (by omega) ⟨rfl, rfl⟩
theorem g_X11_letterAt {l : Launch} {Z : XZ} {L : Nat → Nat} : ∀ n, P_X11_letterAt_0 l Z L n
  | 0 => fun _ _ _ _ _ _ H => no_e H
  | n + 1 => t_X11_letterAt_0 n (g_X11_letterAt n)
theorem m_X11_letterAt {l : Launch} {Z : XZ} {L : Nat → Nat} {n d : Nat} {S : GS} {a0 : Int} {a2 : Int} {x : Int} {S1 : GS} (H : f_X11_letterAt n d 0 S [a0, a2] = some (x, S1)) : GM l Z L yX11_letterAt cX11_letterAt 3 (some .int) [] d 0 0 [.long (K a0), .int (J a2)] S (fun v S' => v = some (.int (J x)) ∧ S1 = S') (fun _ _ => False) := GM.of (by decide) (Nat.le_of_ble_eq_true rfl) ((g_X11_letterAt n) _ _ _ _ _ _ H)

def P_X11_areSigns_0 (l : Launch) (Z : XZ) (L : Nat → Nat) (n : Nat) : Prop := ∀ (d : Nat) (S : GS) (a0 : Int) (a1 : Int) (x : Int) (S1 : GS), f_X11_areSigns n d 0 S [a0, a1] = some (x, S1) → GA l Z L yX11_areSigns cX11_areSigns 5 (some .boolean) [] d 0 0 (fun v S' => v = some (.int (J x)) ∧ S1 = S') (fun _ _ => False) 0 (gl [(0, .int (J a0)), (1, .long (K a1))]) [] S 0 0
def P_X11_areSigns_21 (l : Launch) (Z : XZ) (L : Nat → Nat) (n : Nat) : Prop := ∀ (d : Nat) (S : GS) (a0 : Int) (a1 : Int) (a3 : Int) (x : Int) (S1 : GS), f_X11_areSigns n d 21 S [a0, a1, a3] = some (x, S1) → GA l Z L yX11_areSigns cX11_areSigns 5 (some .boolean) [] d 0 0 (fun v S' => v = some (.int (J x)) ∧ S1 = S') (fun _ _ => False) 21 (gl [(0, .int (J a0)), (1, .long (K a1)), (3, .int (J a3))]) [] S 0 0
theorem i_X11_areSigns {l : Launch} {Z : XZ} {L : Nat → Nat} {n : Nat} (ih : P_X11_areSigns_0 l Z L n) {d : Nat} {S : GS} {a0 : Int} {a1 : Int} {x : Int} {S1 : GS} (H : f_X11_areSigns n d 0 S [a0, a1] = some (x, S1)) : GM l Z L yX11_areSigns cX11_areSigns 5 (some .boolean) [] d 0 0 [.int (J a0), .long (K a1)] S (fun v S' => v = some (.int (J x)) ∧ S1 = S') (fun _ _ => False) := GM.of (by decide) (Nat.le_of_ble_eq_true rfl) (ih _ _ _ _ _ _ H)
set_option maxHeartbeats 4000000 in
set_option maxRecDepth 20000 in
theorem t_X11_areSigns_0 {l : Launch} {Z : XZ} {L : Nat → Nat} (n : Nat) (ih_X11_areSigns_0 : P_X11_areSigns_0 l Z L n) (ih_X11_areSigns_21 : P_X11_areSigns_21 l Z L n) : P_X11_areSigns_0 l Z L (n + 1) := by
  intro d S a0 a1 x S1 H
  have H : b_X11_areSigns_0 n d (f_X11_areSigns n) S a0 a1 = some (x, S1) := H
  unfold b_X11_areSigns_0 at H
  refine GA.iload_n dX11_areSigns_0 rfl ?_
  refine GA.bipush dX11_areSigns_1 rfl ?_
  obtain ⟨hg1, H⟩ := gg_e H
  refine GV.icmp_ge (tgt := 19) hg1 (by decide) dX11_areSigns_3 (by decide) (fun c2 => ?_) (fun c2 => ?_)
  · have H := it_t H c2
    refine GA.iconst dX11_areSigns_19 ?_
    refine GA.istore_n dX11_areSigns_20 (by decide) ?_
    refine GA.locals [(0, .int (J a0)), (1, .long (K a1)), (3, .int (J 0))] ⟨rfl, rfl, rfl, trivial⟩ ?_
    exact ih_X11_areSigns_21 _ _ (a0) (a1) (0) _ _ H
  · have H := it_f H c2
    refine GA.lload_n dX11_areSigns_6 rfl ?_
    refine GA.bipush dX11_areSigns_7 rfl ?_
    refine GA.iload_n dX11_areSigns_9 rfl ?_
    obtain ⟨x3, hx4, H⟩ := gv_e H
    refine GV.imul hx4 dX11_areSigns_10 ?_
    obtain ⟨hg5, H⟩ := gg_e H
    obtain ⟨x6, hx7, H⟩ := gv_e H
    refine GV.lushr hg5 hx7 dX11_areSigns_11 ?_
    refine GV.lconst (z := 0) (by decide) dX11_areSigns_12 ?_
    obtain ⟨hg8, H⟩ := gg_e H
    obtain ⟨x9, hx10, H⟩ := gv_e H
    refine GV.lcmp hg8 (by decide) hx10 dX11_areSigns_13 ?_
    obtain ⟨hg11, H⟩ := gg_e H
    refine GV.if_eq (tgt := 19) hg11 dX11_areSigns_14 (by decide) (fun c12 => ?_) (fun c12 => ?_)
    · have H := it_t H c12
      refine GA.iconst dX11_areSigns_19 ?_
      refine GA.istore_n dX11_areSigns_20 (by decide) ?_
      refine GA.locals [(0, .int (J a0)), (1, .long (K a1)), (3, .int (J 0))] ⟨rfl, rfl, rfl, trivial⟩ ?_
      exact ih_X11_areSigns_21 _ _ (a0) (a1) (0) _ _ H
    · have H := it_f H c12
      refine GA.iconst dX11_areSigns_17 ?_
      cases H
      exact GV.zret (by decide) rfl dX11_areSigns_18 (by omega) (by omega) ⟨rfl, rfl⟩
set_option maxHeartbeats 4000000 in
set_option maxRecDepth 20000 in
theorem t_X11_areSigns_21 {l : Launch} {Z : XZ} {L : Nat → Nat} (n : Nat) (ih_X11_areSigns_0 : P_X11_areSigns_0 l Z L n) (ih_X11_areSigns_21 : P_X11_areSigns_21 l Z L n) : P_X11_areSigns_21 l Z L (n + 1) := by
  intro d S a0 a1 a3 x S1 H
  have H : b_X11_areSigns_21 n d (f_X11_areSigns n) S a0 a1 a3 = some (x, S1) := H
  unfold b_X11_areSigns_21 at H
  refine GA.iload_n dX11_areSigns_21 rfl ?_
  refine GA.iload_n dX11_areSigns_22 rfl ?_
  obtain ⟨hg1, H⟩ := gg_e H
  obtain ⟨hg2, H⟩ := gg_e H
  refine GV.icmp_ge (tgt := 62) hg1 hg2 dX11_areSigns_23 (by decide) (fun c3 => ?_) (fun c3 => ?_)
  · have H := it_t H c3
    refine GA.iconst dX11_areSigns_62 ?_
    cases H
    exact GV.zret (by decide) rfl dX11_areSigns_63 (by omega) (by omega) ⟨rfl, rfl⟩
  · have H := it_f H c3
    refine GA.lload_n dX11_areSigns_26 rfl ?_
    refine GA.iload_n dX11_areSigns_27 rfl ?_
    obtain ⟨hg4, H⟩ := gg_e H
    obtain ⟨x5, S_6, hc7, H⟩ := gc_e H
    refine GA.callS (m_X11_letterAt hc7) xs_X11_127 dX11_areSigns_28 rfl (by omega) (by decide) rfl (Nat.le_of_ble_eq_true rfl) (by omega) (by omega) rfl (fun E S9 hx => hx.elim) (fun v S9 hq => ?_)
    obtain ⟨rfl, rfl⟩ := hq
    refine GA.istore dX11_areSigns_31 (by decide) ?_
    refine GA.iload dX11_areSigns_33 rfl ?_
    refine GA.bipush dX11_areSigns_35 rfl ?_
    obtain ⟨hg8, H⟩ := gg_e H
    refine GV.icmp_eq (tgt := 56) hg8 (by decide) dX11_areSigns_37 (by decide) (fun c9 => ?_) (fun c9 => ?_)
    · have H := it_t H c9
      obtain ⟨x10, hx11, H⟩ := gv_e H
      refine GV.iinc hx11 dX11_areSigns_56 rfl (by decide) ?_
      refine GA.goto (tgt := 21) dX11_areSigns_59 (by decide) ?_
      refine GA.locals [(0, .int (J a0)), (1, .long (K a1)), (3, .int (J x10))] ⟨rfl, rfl, rfl, trivial⟩ ?_
      exact ih_X11_areSigns_21 _ _ (a0) (a1) (x10) _ _ H
    · have H := it_f H c9
      refine GA.iload dX11_areSigns_40 rfl ?_
      refine GA.bipush dX11_areSigns_42 rfl ?_
      refine GV.icmp_lt (tgt := 54) hg8 (by decide) dX11_areSigns_44 (by decide) (fun c12 => ?_) (fun c12 => ?_)
      · have H := it_t H c12
        refine GA.iconst dX11_areSigns_54 ?_
        cases H
        exact GV.zret (by decide) rfl dX11_areSigns_55 (by omega) (by omega) ⟨rfl, rfl⟩
      · have H := it_f H c12
        refine GA.iload dX11_areSigns_47 rfl ?_
        refine GA.bipush dX11_areSigns_49 rfl ?_
        refine GV.icmp_le (tgt := 56) hg8 (by decide) dX11_areSigns_51 (by decide) (fun c13 => ?_) (fun c13 => ?_)
        · have H := it_t H c13
          obtain ⟨x14, hx15, H⟩ := gv_e H
          refine GV.iinc hx15 dX11_areSigns_56 rfl (by decide) ?_
          refine GA.goto (tgt := 21) dX11_areSigns_59 (by decide) ?_
          refine GA.locals [(0, .int (J a0)), (1, .long (K a1)), (3, .int (J x14))] ⟨rfl, rfl, rfl, trivial⟩ ?_
          exact ih_X11_areSigns_21 _ _ (a0) (a1) (x14) _ _ H
        · have H := it_f H c13
          refine GA.iconst dX11_areSigns_54 ?_
          cases H
          exact GV.zret (by decide) rfl dX11_areSigns_55 (by omega) (by omega) ⟨rfl, rfl⟩
theorem g_X11_areSigns {l : Launch} {Z : XZ} {L : Nat → Nat} : ∀ n, P_X11_areSigns_0 l Z L n ∧ P_X11_areSigns_21 l Z L n
  | 0 => ⟨fun _ _ _ _ _ _ H => no_e H, fun _ _ _ _ _ _ _ H => no_e H⟩
  | n + 1 => have ⟨h0, h1⟩ := g_X11_areSigns (l := l) (Z := Z) (L := L) n
    ⟨t_X11_areSigns_0 n h0 h1, t_X11_areSigns_21 n h0 h1⟩
theorem m_X11_areSigns {l : Launch} {Z : XZ} {L : Nat → Nat} {n d : Nat} {S : GS} {a0 : Int} {a1 : Int} {x : Int} {S1 : GS} (H : f_X11_areSigns n d 0 S [a0, a1] = some (x, S1)) : GM l Z L yX11_areSigns cX11_areSigns 5 (some .boolean) [] d 0 0 [.int (J a0), .long (K a1)] S (fun v S' => v = some (.int (J x)) ∧ S1 = S') (fun _ _ => False) := GM.of (by decide) (Nat.le_of_ble_eq_true rfl) ((g_X11_areSigns n).1 _ _ _ _ _ _ H)

def P_X11_canTell_0 (l : Launch) (Z : XZ) (L : Nat → Nat) (n : Nat) : Prop := ∀ (d : Nat) (S : GS) (a0 : Nat) (a1 : Int) (a2 : Int) (x : Int) (S1 : GS), f_X11_canTell n d 0 S [((a0 : Nat) : Int), a1, a2] = some (x, S1) → GA l Z L yX11_canTell cX11_canTell 3 (some .boolean) [] d 0 0 (fun v S' => v = some (.int (J x)) ∧ S1 = S') (fun _ _ => False) 0 (gl [(0, .ref (L a0)), (1, .int (J a1)), (2, .int (J a2))]) [] S 0 0
theorem i_X11_canTell {l : Launch} {Z : XZ} {L : Nat → Nat} {n : Nat} (ih : P_X11_canTell_0 l Z L n) {d : Nat} {S : GS} {a0 : Nat} {a1 : Int} {a2 : Int} {x : Int} {S1 : GS} (H : f_X11_canTell n d 0 S [((a0 : Nat) : Int), a1, a2] = some (x, S1)) : GM l Z L yX11_canTell cX11_canTell 3 (some .boolean) [] d 0 0 [.ref (L a0), .int (J a1), .int (J a2)] S (fun v S' => v = some (.int (J x)) ∧ S1 = S') (fun _ _ => False) := GM.of (by decide) (Nat.le_of_ble_eq_true rfl) (ih _ _ _ _ _ _ _ H)
set_option maxHeartbeats 4000000 in
set_option maxRecDepth 20000 in
theorem t_X11_canTell_0 {l : Launch} {Z : XZ} {L : Nat → Nat} (n : Nat) (ih_X11_canTell_0 : P_X11_canTell_0 l Z L n) : P_X11_canTell_0 l Z L (n + 1) := by
  intro d S a0 a1 a2 x S1 H
  have H : b_X11_canTell_0 n d (f_X11_canTell n) S a0 a1 a2 = some (x, S1) := H
  unfold b_X11_canTell_0 at H
  refine GA.iload_n dX11_canTell_0 rfl ?_
  obtain ⟨hg1, H⟩ := gg_e H
  by_cases c2 : a2 = 0
  · have H := it_t H c2
    refine GA.tableIn (tgt := 28) dX11_canTell_1 hg1 (by omega) (by omega) (by rw [c2] <;> rfl) (by decide) ?_
    refine GA.aload_n dX11_canTell_28 rfl ?_
    refine GA.iload_n dX11_canTell_29 rfl ?_
    refine GA.iconst dX11_canTell_30 ?_
    obtain ⟨hg3, H⟩ := gg_e H
    obtain ⟨hg4, H⟩ := gg_e H
    obtain ⟨x5, S_6, hc7, H⟩ := gc_e H
    refine GA.callV (m_X10_is hc7) xs_X11_191 dX11_canTell_31 (gsT hg4) (by omega) rfl rfl (by omega) (by decide) rfl (Nat.le_of_ble_eq_true rfl) (by omega) (by omega) rfl (fun E S9 hx => hx.elim) (fun v S9 hq => ?_)
    obtain ⟨rfl, rfl⟩ := hq
    obtain ⟨hg8, H⟩ := gg_e H
    cases H
    exact GV.zret hg8 rfl dX11_canTell_34 (by omega) (by omega) ⟨rfl, rfl⟩
  have H := it_f H c2
  by_cases c9 : a2 = 1
  · have H := it_t H c9
    refine GA.tableIn (tgt := 35) dX11_canTell_1 hg1 (by omega) (by omega) (by rw [c9] <;> rfl) (by decide) ?_
    refine GA.aload_n dX11_canTell_35 rfl ?_
    refine GA.iload_n dX11_canTell_36 rfl ?_
    refine GA.iconst dX11_canTell_37 ?_
    obtain ⟨hg10, H⟩ := gg_e H
    obtain ⟨hg11, H⟩ := gg_e H
    obtain ⟨x12, S_13, hc14, H⟩ := gc_e H
    refine GA.callV (m_X10_is hc14) xs_X11_191 dX11_canTell_38 (gsT hg11) (by omega) rfl rfl (by omega) (by decide) rfl (Nat.le_of_ble_eq_true rfl) (by omega) (by omega) rfl (fun E S9 hx => hx.elim) (fun v S9 hq => ?_)
    obtain ⟨rfl, rfl⟩ := hq
    obtain ⟨hg15, H⟩ := gg_e H
    cases H
    exact GV.zret hg15 rfl dX11_canTell_41 (by omega) (by omega) ⟨rfl, rfl⟩
  have H := it_f H c9
  by_cases c16 : a2 = 2
  · have H := it_t H c16
    refine GA.tableIn (tgt := 42) dX11_canTell_1 hg1 (by omega) (by omega) (by rw [c16] <;> rfl) (by decide) ?_
    refine GA.aload_n dX11_canTell_42 rfl ?_
    refine GA.aload_n dX11_canTell_43 rfl ?_
    refine GA.iload_n dX11_canTell_44 rfl ?_
    obtain ⟨hg17, H⟩ := gg_e H
    obtain ⟨hg18, H⟩ := gg_e H
    obtain ⟨x19, S_20, hc21, H⟩ := gc_e H
    refine GA.callV (m_X10_ownerOf hc21) xs_X11_315 dX11_canTell_45 (gsT hg18) (by omega) rfl rfl (by omega) (by decide) rfl (Nat.le_of_ble_eq_true rfl) (by omega) (by omega) rfl (fun E S9 hx => hx.elim) (fun v S9 hq => ?_)
    obtain ⟨rfl, rfl⟩ := hq
    refine GA.iconst dX11_canTell_48 ?_
    obtain ⟨x22, S_23, hc24, H⟩ := gc_e H
    refine GA.callV (m_X10_is hc24) xs_X11_191 dX11_canTell_49 (gsT hg18) (by omega) rfl rfl (by omega) (by decide) rfl (Nat.le_of_ble_eq_true rfl) (by omega) (by omega) rfl (fun E S9 hx => hx.elim) (fun v S9 hq => ?_)
    obtain ⟨rfl, rfl⟩ := hq
    obtain ⟨hg25, H⟩ := gg_e H
    cases H
    exact GV.zret hg25 rfl dX11_canTell_52 (by omega) (by omega) ⟨rfl, rfl⟩
  have H := it_f H c16
  refine GA.tableOut (tgt := 53) dX11_canTell_1 hg1 (by omega) (by decide) ?_
  refine GA.iconst dX11_canTell_53 ?_
  cases H
  exact GV.zret (by decide) rfl dX11_canTell_54 (by omega) (by omega) ⟨rfl, rfl⟩
theorem g_X11_canTell {l : Launch} {Z : XZ} {L : Nat → Nat} : ∀ n, P_X11_canTell_0 l Z L n
  | 0 => fun _ _ _ _ _ _ _ H => no_e H
  | n + 1 => t_X11_canTell_0 n (g_X11_canTell n)
theorem m_X11_canTell {l : Launch} {Z : XZ} {L : Nat → Nat} {n d : Nat} {S : GS} {a0 : Nat} {a1 : Int} {a2 : Int} {x : Int} {S1 : GS} (H : f_X11_canTell n d 0 S [((a0 : Nat) : Int), a1, a2] = some (x, S1)) : GM l Z L yX11_canTell cX11_canTell 3 (some .boolean) [] d 0 0 [.ref (L a0), .int (J a1), .int (J a2)] S (fun v S' => v = some (.int (J x)) ∧ S1 = S') (fun _ _ => False) := GM.of (by decide) (Nat.le_of_ble_eq_true rfl) ((g_X11_canTell n) _ _ _ _ _ _ _ H)

def P_X11_check_0 (l : Launch) (Z : XZ) (L : Nat → Nat) (n : Nat) : Prop := ∀ (d : Nat) (S : GS) (a1 : Int) (a2 : Int) (x : Int) (S1 : GS), f_X11_check n d 0 S [a1, a2] = some (x, S1) → GA l Z L yX11_check cX11_check 5 (some .int) [] d (exc x) (exs x) (fun v S' => x < exB ∧ v = some (.int (J x)) ∧ S1 = S') (fun E S' => ¬ x < exB ∧ E = exn x ∧ S1 = S') 0 (gl [(0, .ref (L 468)), (1, .int (J a1)), (2, .int (J a2))]) [] S 0 0
set_option maxHeartbeats 4000000 in
set_option maxRecDepth 20000 in
theorem t_X11_check_0 {l : Launch} {Z : XZ} {L : Nat → Nat} (n : Nat) (ih_X11_check_0 : P_X11_check_0 l Z L n) : P_X11_check_0 l Z L (n + 1) := by
  intro d S a1 a2 x S1 H
  have H : b_X11_check_0 n d (f_X11_check n) S a1 a2 = some (x, S1) := H
  unfold b_X11_check_0 at H
  refine GA.aload_n dX11_check_0 rfl ?_
  refine GA.iload_n dX11_check_1 rfl ?_
  obtain ⟨hg1, H⟩ := gg_e H
  obtain ⟨x2, S_3, hc4, H⟩ := gc_e H
  by_cases hb5 : x2 < exB
  case neg =>
    have H := it_f H hb5
    cases H
    exact GA.callV (mx_X11_document hc4 hb5) xs_X11_157 dX11_check_2 gs_468 (by decide) rfl rfl (by omega) (by decide) rfl (Nat.le_of_ble_eq_true rfl) (by have := exc_1 hb5; omega) (by have := exs_6 hb5; omega) rfl (fun E S9 hx => ⟨hb5, hx⟩) (fun v S9 hq => hq.elim)
  have H := it_t H hb5
  refine GA.callV (m_X11_document hc4 hb5) xs_X11_157 dX11_check_2 gs_468 (by decide) rfl rfl (by omega) (by decide) rfl (Nat.le_of_ble_eq_true rfl) (by omega) (by omega) rfl (fun E S9 hx => hx.elim) (fun v S9 hq => ?_)
  obtain ⟨rfl, rfl⟩ := hq
  refine GA.astore_n dX11_check_5 (by decide) ?_
  refine GA.aload_n dX11_check_6 rfl ?_
  refine GA.iload_n dX11_check_7 rfl ?_
  obtain ⟨x6, S_7, hc8, H⟩ := gc_e H
  by_cases hb9 : x6 < exB
  case neg =>
    have H := it_f H hb9
    cases H
    exact GA.callV (mx_X11_document hc8 hb9) xs_X11_157 dX11_check_8 gs_468 (by decide) rfl rfl (by omega) (by decide) rfl (Nat.le_of_ble_eq_true rfl) (by have := exc_1 hb9; omega) (by have := exs_6 hb9; omega) rfl (fun E S9 hx => ⟨hb9, hx⟩) (fun v S9 hq => hq.elim)
  have H := it_t H hb9
  refine GA.callV (m_X11_document hc8 hb9) xs_X11_157 dX11_check_8 gs_468 (by decide) rfl rfl (by omega) (by decide) rfl (Nat.le_of_ble_eq_true rfl) (by omega) (by omega) rfl (fun E S9 hx => hx.elim) (fun v S9 hq => ?_)
  obtain ⟨rfl, rfl⟩ := hq
  refine GA.astore dX11_check_11 (by decide) ?_
  refine GA.aload_n dX11_check_13 rfl ?_
  refine GA.get xf_X11_84 dX11_check_14 gs_468 (by decide) rfl ?_
  refine GA.aload_n dX11_check_17 rfl ?_
  refine GA.get xf_X11_36 dX11_check_18 gs_468 (by decide) rfl ?_
  refine GA.aload_n dX11_check_21 rfl ?_
  obtain ⟨x10, S_11, hc12, H⟩ := gc_e H
  refine GA.callV (m_X0_agrees hc12) xs_X11_262 dX11_check_22 gs_487 (by decide) rfl rfl (by omega) (by decide) rfl (Nat.le_of_ble_eq_true rfl) (by omega) (by omega) rfl (fun E S9 hx => hx.elim) (fun v S9 hq => ?_)
  obtain ⟨rfl, rfl⟩ := hq
  obtain ⟨hg13, H⟩ := gg_e H
  refine GV.if_eq (tgt := 41) hg13 dX11_check_25 (by decide) (fun c14 => ?_) (fun c14 => ?_)
  · have H := it_t H c14
    cases H
    exact GA.throw0 xx_X11_124_126 rfl (by decide) dX11_check_41 dX11_check_44 dX11_check_45 dX11_check_48 (Nat.le_of_ble_eq_true rfl) (by decide) (by decide) ⟨by decide, exn_2.symm, rfl⟩
  · have H := it_f H c14
    refine GA.aload_n dX11_check_28 rfl ?_
    refine GA.get xf_X11_84 dX11_check_29 gs_468 (by decide) rfl ?_
    refine GA.aload_n dX11_check_32 rfl ?_
    refine GA.aload dX11_check_33 rfl ?_
    obtain ⟨x15, S_16, hc17, H⟩ := gc_e H
    refine GA.callV (m_X0_examine hc17) xs_X11_266 dX11_check_35 gs_487 (by decide) rfl rfl (by omega) (by decide) rfl (Nat.le_of_ble_eq_true rfl) (by omega) (by omega) rfl (fun E S9 hx => hx.elim) (fun v S9 hq => ?_)
    obtain ⟨rfl, rfl⟩ := hq
    obtain ⟨hg18, H⟩ := gg_e H
    refine GV.if_ne (tgt := 49) hg18 dX11_check_38 (by decide) (fun c19 => ?_) (fun c19 => ?_)
    · have H := it_t H c19
      refine GA.aload_n dX11_check_49 rfl ?_
      refine GA.get xf_X11_84 dX11_check_50 gs_468 (by decide) rfl ?_
      obtain ⟨x20, S_21, hc22, H⟩ := gc_e H
      refine GA.callV (m_X0_count hc22) xs_X11_269 dX11_check_53 gs_487 (by decide) rfl rfl (by omega) (by decide) rfl (Nat.le_of_ble_eq_true rfl) (by omega) (by omega) rfl (fun E S9 hx => hx.elim) (fun v S9 hq => ?_)
      obtain ⟨rfl, rfl⟩ := hq
      obtain ⟨hg23, H⟩ := gg_e H
      cases H
      exact GA.iret rfl dX11_check_56 (by omega) (by omega) ⟨hg23, rfl, rfl⟩
    · have H := it_f H c19
      cases H
      exact GA.throw0 xx_X11_124_126 rfl (by decide) dX11_check_41 dX11_check_44 dX11_check_45 dX11_check_48 (Nat.le_of_ble_eq_true rfl) (by decide) (by decide) ⟨by decide, exn_2.symm, rfl⟩
theorem g_X11_check {l : Launch} {Z : XZ} {L : Nat → Nat} : ∀ n, P_X11_check_0 l Z L n
  | 0 => fun _ _ _ _ _ _ H => no_e H
  | n + 1 => t_X11_check_0 n (g_X11_check n)
theorem m0_X11_check {l : Launch} {Z : XZ} {L : Nat → Nat} {n d : Nat} {S : GS} {a1 : Int} {a2 : Int} {x : Int} {S1 : GS} (H : f_X11_check n d 0 S [a1, a2] = some (x, S1)) : GM l Z L yX11_check cX11_check 5 (some .int) [] d (exc x) (exs x) [.ref (L 468), .int (J a1), .int (J a2)] S (fun v S' => x < exB ∧ v = some (.int (J x)) ∧ S1 = S') (fun E S' => ¬ x < exB ∧ E = exn x ∧ S1 = S') := GM.of (by decide) (Nat.le_of_ble_eq_true rfl) ((g_X11_check n) _ _ _ _ _ _ H)
theorem m_X11_check {l : Launch} {Z : XZ} {L : Nat → Nat} {n d : Nat} {S : GS} {a1 : Int} {a2 : Int} {x : Int} {S1 : GS} (H : f_X11_check n d 0 S [a1, a2] = some (x, S1)) (hb : x < exB) : GM l Z L yX11_check cX11_check 5 (some .int) [] d 0 0 [.ref (L 468), .int (J a1), .int (J a2)] S (fun v S' => v = some (.int (J x)) ∧ S1 = S') (fun _ _ => False) := by
  have h := m0_X11_check (l := l) (Z := Z) (L := L) H
  rw [exc_0 hb, exs_0 hb] at h
  exact h.post (fun v S9 q => q.2) (fun E S9 q => q.1 hb)
theorem mx_X11_check {l : Launch} {Z : XZ} {L : Nat → Nat} {n d : Nat} {S : GS} {a1 : Int} {a2 : Int} {x : Int} {S1 : GS} (H : f_X11_check n d 0 S [a1, a2] = some (x, S1)) (hb : ¬ x < exB) : GM l Z L yX11_check cX11_check 5 (some .int) [] d 1 6 [.ref (L 468), .int (J a1), .int (J a2)] S (fun _ _ => False) (fun E S' => E = exn x ∧ S1 = S') := by
  have h := m0_X11_check (l := l) (Z := Z) (L := L) H
  rw [exc_1 hb, exs_6 hb] at h
  exact h.post (fun v S9 q => hb q.1) (fun E S9 q => q.2)

def P_X11_documentWith_0 (l : Launch) (Z : XZ) (L : Nat → Nat) (n : Nat) : Prop := ∀ (d : Nat) (S : GS) (a1 : Int) (a2 : Int) (x : Int) (S1 : GS), f_X11_documentWith n d 0 S [a1, a2] = some (x, S1) → GA l Z L yX11_documentWith cX11_documentWith 4 (some (.object "Treeletter$Tree")) [] d (exc x) (exs x) (fun v S' => x < exB ∧ v = some (.ref (L x.toNat)) ∧ S1 = S') (fun E S' => ¬ x < exB ∧ E = exn x ∧ S1 = S') 0 (gl [(0, .ref (L 468)), (1, .int (J a1)), (2, .int (J a2))]) [] S 0 0
set_option maxHeartbeats 4000000 in
set_option maxRecDepth 20000 in
theorem t_X11_documentWith_0 {l : Launch} {Z : XZ} {L : Nat → Nat} (n : Nat) (ih_X11_documentWith_0 : P_X11_documentWith_0 l Z L n) : P_X11_documentWith_0 l Z L (n + 1) := by
  intro d S a1 a2 x S1 H
  have H : b_X11_documentWith_0 n d (f_X11_documentWith n) S a1 a2 = some (x, S1) := H
  unfold b_X11_documentWith_0 at H
  refine GA.aload_n dX11_documentWith_0 rfl ?_
  refine GA.iload_n dX11_documentWith_1 rfl ?_
  obtain ⟨hg1, H⟩ := gg_e H
  obtain ⟨x2, S_3, hc4, H⟩ := gc_e H
  by_cases hb5 : x2 < exB
  case neg =>
    have H := it_f H hb5
    cases H
    exact GA.callV (mx_X11_document hc4 hb5) xs_X11_157 dX11_documentWith_2 gs_468 (by decide) rfl rfl (by omega) (by decide) rfl (Nat.le_of_ble_eq_true rfl) (by have := exc_1 hb5; omega) (by have := exs_6 hb5; omega) rfl (fun E S9 hx => ⟨hb5, hx⟩) (fun v S9 hq => hq.elim)
  have H := it_t H hb5
  refine GA.callV (m_X11_document hc4 hb5) xs_X11_157 dX11_documentWith_2 gs_468 (by decide) rfl rfl (by omega) (by decide) rfl (Nat.le_of_ble_eq_true rfl) (by omega) (by omega) rfl (fun E S9 hx => hx.elim) (fun v S9 hq => ?_)
  obtain ⟨rfl, rfl⟩ := hq
  refine GA.astore_n dX11_documentWith_5 (by decide) ?_
  refine GA.aload_n dX11_documentWith_6 rfl ?_
  refine GA.iload_n dX11_documentWith_7 rfl ?_
  obtain ⟨hg6, H⟩ := gg_e H
  obtain ⟨x7, S_8, hc9, H⟩ := gc_e H
  refine GA.callV (m_X10_has hc9) xs_X11_318 dX11_documentWith_8 (gsT hg6) (by omega) rfl rfl (by omega) (by decide) rfl (Nat.le_of_ble_eq_true rfl) (by omega) (by omega) rfl (fun E S9 hx => hx.elim) (fun v S9 hq => ?_)
  obtain ⟨rfl, rfl⟩ := hq
  obtain ⟨hg10, H⟩ := gg_e H
  refine GV.if_ne (tgt := 22) hg10 dX11_documentWith_11 (by decide) (fun c11 => ?_) (fun c11 => ?_)
  · have H := it_t H c11
    refine GA.aload_n dX11_documentWith_22 rfl ?_
    obtain ⟨hg12, H⟩ := gg_e H
    cases H
    exact GA.aret rfl dX11_documentWith_23 (by omega) (by omega) ⟨hg12, rfl, rfl⟩
  · have H := it_f H c11
    cases H
    exact GA.throw0 xx_X11_137_139 rfl (by decide) dX11_documentWith_14 dX11_documentWith_17 dX11_documentWith_18 dX11_documentWith_21 (Nat.le_of_ble_eq_true rfl) (by decide) (by decide) ⟨by decide, exn_3.symm, rfl⟩
theorem g_X11_documentWith {l : Launch} {Z : XZ} {L : Nat → Nat} : ∀ n, P_X11_documentWith_0 l Z L n
  | 0 => fun _ _ _ _ _ _ H => no_e H
  | n + 1 => t_X11_documentWith_0 n (g_X11_documentWith n)
theorem m0_X11_documentWith {l : Launch} {Z : XZ} {L : Nat → Nat} {n d : Nat} {S : GS} {a1 : Int} {a2 : Int} {x : Int} {S1 : GS} (H : f_X11_documentWith n d 0 S [a1, a2] = some (x, S1)) : GM l Z L yX11_documentWith cX11_documentWith 4 (some (.object "Treeletter$Tree")) [] d (exc x) (exs x) [.ref (L 468), .int (J a1), .int (J a2)] S (fun v S' => x < exB ∧ v = some (.ref (L x.toNat)) ∧ S1 = S') (fun E S' => ¬ x < exB ∧ E = exn x ∧ S1 = S') := GM.of (by decide) (Nat.le_of_ble_eq_true rfl) ((g_X11_documentWith n) _ _ _ _ _ _ H)
theorem m_X11_documentWith {l : Launch} {Z : XZ} {L : Nat → Nat} {n d : Nat} {S : GS} {a1 : Int} {a2 : Int} {x : Int} {S1 : GS} (H : f_X11_documentWith n d 0 S [a1, a2] = some (x, S1)) (hb : x < exB) : GM l Z L yX11_documentWith cX11_documentWith 4 (some (.object "Treeletter$Tree")) [] d 0 0 [.ref (L 468), .int (J a1), .int (J a2)] S (fun v S' => v = some (.ref (L x.toNat)) ∧ S1 = S') (fun _ _ => False) := by
  have h := m0_X11_documentWith (l := l) (Z := Z) (L := L) H
  rw [exc_0 hb, exs_0 hb] at h
  exact h.post (fun v S9 q => q.2) (fun E S9 q => q.1 hb)
theorem mx_X11_documentWith {l : Launch} {Z : XZ} {L : Nat → Nat} {n d : Nat} {S : GS} {a1 : Int} {a2 : Int} {x : Int} {S1 : GS} (H : f_X11_documentWith n d 0 S [a1, a2] = some (x, S1)) (hb : ¬ x < exB) : GM l Z L yX11_documentWith cX11_documentWith 4 (some (.object "Treeletter$Tree")) [] d 1 6 [.ref (L 468), .int (J a1), .int (J a2)] S (fun _ _ => False) (fun E S' => E = exn x ∧ S1 = S') := by
  have h := m0_X11_documentWith (l := l) (Z := Z) (L := L) H
  rw [exc_1 hb, exs_6 hb] at h
  exact h.post (fun v S9 q => hb q.1) (fun E S9 q => q.2)

def P_X11_digest_0 (l : Launch) (Z : XZ) (L : Nat → Nat) (n : Nat) : Prop := ∀ (d : Nat) (S : GS) (a1 : Int) (a2 : Int) (x : Int) (S1 : GS), f_X11_digest n d 0 S [a1, a2] = some (x, S1) → GA l Z L yX11_digest cX11_digest 4 (some .int) [] d (exc x) (exs x) (fun v S' => x < exB ∧ v = some (.int (J x)) ∧ S1 = S') (fun E S' => ¬ x < exB ∧ E = exn x ∧ S1 = S') 0 (gl [(0, .ref (L 468)), (1, .int (J a1)), (2, .int (J a2))]) [] S 0 0
set_option maxHeartbeats 4000000 in
set_option maxRecDepth 20000 in
theorem t_X11_digest_0 {l : Launch} {Z : XZ} {L : Nat → Nat} (n : Nat) (ih_X11_digest_0 : P_X11_digest_0 l Z L n) : P_X11_digest_0 l Z L (n + 1) := by
  intro d S a1 a2 x S1 H
  have H : b_X11_digest_0 n d (f_X11_digest n) S a1 a2 = some (x, S1) := H
  unfold b_X11_digest_0 at H
  refine GA.aload_n dX11_digest_0 rfl ?_
  refine GA.iload_n dX11_digest_1 rfl ?_
  refine GA.iload_n dX11_digest_2 rfl ?_
  obtain ⟨hg1, H⟩ := gg_e H
  obtain ⟨x2, S_3, hc4, H⟩ := gc_e H
  by_cases hb5 : x2 < exB
  case neg =>
    have H := it_f H hb5
    cases H
    exact GA.callV (mx_X11_documentWith hc4 hb5) xs_X11_165 dX11_digest_3 gs_468 (by decide) rfl rfl (by omega) (by decide) rfl (Nat.le_of_ble_eq_true rfl) (by have := exc_1 hb5; omega) (by have := exs_6 hb5; omega) rfl (fun E S9 hx => ⟨hb5, hx⟩) (fun v S9 hq => hq.elim)
  have H := it_t H hb5
  refine GA.callV (m_X11_documentWith hc4 hb5) xs_X11_165 dX11_digest_3 gs_468 (by decide) rfl rfl (by omega) (by decide) rfl (Nat.le_of_ble_eq_true rfl) (by omega) (by omega) rfl (fun E S9 hx => hx.elim) (fun v S9 hq => ?_)
  obtain ⟨rfl, rfl⟩ := hq
  refine GA.astore_n dX11_digest_6 (by decide) ?_
  refine GA.aload_n dX11_digest_7 rfl ?_
  refine GA.get xf_X11_22 dX11_digest_8 gs_468 (by decide) rfl ?_
  obtain ⟨x6, S_7, hc8, H⟩ := gc_e H
  refine GA.callV (m_X9_clear hc8) xs_X11_134 dX11_digest_11 (gsS (by decide)) (by decide) rfl rfl (by omega) (by decide) rfl (Nat.le_of_ble_eq_true rfl) (by omega) (by omega) rfl (fun E S9 hx => hx.elim) (fun v S9 hq => ?_)
  obtain ⟨rfl, rfl⟩ := hq
  refine GA.aload_n dX11_digest_14 rfl ?_
  refine GA.iload_n dX11_digest_15 rfl ?_
  refine GA.iconst dX11_digest_16 ?_
  refine GA.iconst dX11_digest_17 ?_
  refine GA.aload_n dX11_digest_18 rfl ?_
  refine GA.get xf_X11_22 dX11_digest_19 gs_468 (by decide) rfl ?_
  obtain ⟨x9, S_10, hc11, H⟩ := gc_e H
  refine GA.callSN (m_X8_value hc11) xs_X11_161 dX11_digest_22 rfl (by omega) (by decide) rfl (Nat.le_of_ble_eq_true rfl) (by omega) (by omega) rfl (fun E S9 hx => hx.elim) (fun v S9 hq => ?_)
  obtain ⟨rfl, rfl⟩ := hq
  refine GA.aload_n dX11_digest_25 rfl ?_
  refine GA.get xf_X11_22 dX11_digest_26 gs_468 (by decide) rfl ?_
  obtain ⟨x12, S_13, hc14, H⟩ := gc_e H
  refine GA.callV (m_X9_digestOf hc14) xs_X11_199 dX11_digest_29 (gsS (by decide)) (by decide) rfl rfl (by omega) (by decide) rfl (Nat.le_of_ble_eq_true rfl) (by omega) (by omega) rfl (fun E S9 hx => hx.elim) (fun v S9 hq => ?_)
  obtain ⟨rfl, rfl⟩ := hq
  obtain ⟨hg15, H⟩ := gg_e H
  cases H
  exact GA.iret rfl dX11_digest_32 (by omega) (by omega) ⟨hg15, rfl, rfl⟩
theorem g_X11_digest {l : Launch} {Z : XZ} {L : Nat → Nat} : ∀ n, P_X11_digest_0 l Z L n
  | 0 => fun _ _ _ _ _ _ H => no_e H
  | n + 1 => t_X11_digest_0 n (g_X11_digest n)
theorem m0_X11_digest {l : Launch} {Z : XZ} {L : Nat → Nat} {n d : Nat} {S : GS} {a1 : Int} {a2 : Int} {x : Int} {S1 : GS} (H : f_X11_digest n d 0 S [a1, a2] = some (x, S1)) : GM l Z L yX11_digest cX11_digest 4 (some .int) [] d (exc x) (exs x) [.ref (L 468), .int (J a1), .int (J a2)] S (fun v S' => x < exB ∧ v = some (.int (J x)) ∧ S1 = S') (fun E S' => ¬ x < exB ∧ E = exn x ∧ S1 = S') := GM.of (by decide) (Nat.le_of_ble_eq_true rfl) ((g_X11_digest n) _ _ _ _ _ _ H)
theorem m_X11_digest {l : Launch} {Z : XZ} {L : Nat → Nat} {n d : Nat} {S : GS} {a1 : Int} {a2 : Int} {x : Int} {S1 : GS} (H : f_X11_digest n d 0 S [a1, a2] = some (x, S1)) (hb : x < exB) : GM l Z L yX11_digest cX11_digest 4 (some .int) [] d 0 0 [.ref (L 468), .int (J a1), .int (J a2)] S (fun v S' => v = some (.int (J x)) ∧ S1 = S') (fun _ _ => False) := by
  have h := m0_X11_digest (l := l) (Z := Z) (L := L) H
  rw [exc_0 hb, exs_0 hb] at h
  exact h.post (fun v S9 q => q.2) (fun E S9 q => q.1 hb)
theorem mx_X11_digest {l : Launch} {Z : XZ} {L : Nat → Nat} {n d : Nat} {S : GS} {a1 : Int} {a2 : Int} {x : Int} {S1 : GS} (H : f_X11_digest n d 0 S [a1, a2] = some (x, S1)) (hb : ¬ x < exB) : GM l Z L yX11_digest cX11_digest 4 (some .int) [] d 1 6 [.ref (L 468), .int (J a1), .int (J a2)] S (fun _ _ => False) (fun E S' => E = exn x ∧ S1 = S') := by
  have h := m0_X11_digest (l := l) (Z := Z) (L := L) H
  rw [exc_1 hb, exs_6 hb] at h
  exact h.post (fun v S9 q => hb q.1) (fun E S9 q => q.2)

def P_X11_equal_0 (l : Launch) (Z : XZ) (L : Nat → Nat) (n : Nat) : Prop := ∀ (d : Nat) (S : GS) (a1 : Int) (a2 : Int) (x : Int) (S1 : GS), f_X11_equal n d 0 S [a1, a2] = some (x, S1) → GA l Z L yX11_equal cX11_equal 5 (some .boolean) [] d (exc x) (exs x) (fun v S' => x < exB ∧ v = some (.int (J x)) ∧ S1 = S') (fun E S' => ¬ x < exB ∧ E = exn x ∧ S1 = S') 0 (gl [(0, .ref (L 468)), (1, .int (J a1)), (2, .int (J a2))]) [] S 0 0
set_option maxHeartbeats 4000000 in
set_option maxRecDepth 20000 in
theorem t_X11_equal_0 {l : Launch} {Z : XZ} {L : Nat → Nat} (n : Nat) (ih_X11_equal_0 : P_X11_equal_0 l Z L n) : P_X11_equal_0 l Z L (n + 1) := by
  intro d S a1 a2 x S1 H
  have H : b_X11_equal_0 n d (f_X11_equal n) S a1 a2 = some (x, S1) := H
  unfold b_X11_equal_0 at H
  refine GA.aload_n dX11_equal_0 rfl ?_
  refine GA.iload_n dX11_equal_1 rfl ?_
  obtain ⟨hg1, H⟩ := gg_e H
  obtain ⟨x2, S_3, hc4, H⟩ := gc_e H
  by_cases hb5 : x2 < exB
  case neg =>
    have H := it_f H hb5
    cases H
    exact GA.callV (mx_X11_document hc4 hb5) xs_X11_157 dX11_equal_2 gs_468 (by decide) rfl rfl (by omega) (by decide) rfl (Nat.le_of_ble_eq_true rfl) (by have := exc_1 hb5; omega) (by have := exs_6 hb5; omega) rfl (fun E S9 hx => ⟨hb5, hx⟩) (fun v S9 hq => hq.elim)
  have H := it_t H hb5
  refine GA.callV (m_X11_document hc4 hb5) xs_X11_157 dX11_equal_2 gs_468 (by decide) rfl rfl (by omega) (by decide) rfl (Nat.le_of_ble_eq_true rfl) (by omega) (by omega) rfl (fun E S9 hx => hx.elim) (fun v S9 hq => ?_)
  obtain ⟨rfl, rfl⟩ := hq
  refine GA.astore_n dX11_equal_5 (by decide) ?_
  refine GA.aload_n dX11_equal_6 rfl ?_
  refine GA.iload_n dX11_equal_7 rfl ?_
  obtain ⟨x6, S_7, hc8, H⟩ := gc_e H
  by_cases hb9 : x6 < exB
  case neg =>
    have H := it_f H hb9
    cases H
    exact GA.callV (mx_X11_document hc8 hb9) xs_X11_157 dX11_equal_8 gs_468 (by decide) rfl rfl (by omega) (by decide) rfl (Nat.le_of_ble_eq_true rfl) (by have := exc_1 hb9; omega) (by have := exs_6 hb9; omega) rfl (fun E S9 hx => ⟨hb9, hx⟩) (fun v S9 hq => hq.elim)
  have H := it_t H hb9
  refine GA.callV (m_X11_document hc8 hb9) xs_X11_157 dX11_equal_8 gs_468 (by decide) rfl rfl (by omega) (by decide) rfl (Nat.le_of_ble_eq_true rfl) (by omega) (by omega) rfl (fun E S9 hx => hx.elim) (fun v S9 hq => ?_)
  obtain ⟨rfl, rfl⟩ := hq
  refine GA.astore dX11_equal_11 (by decide) ?_
  refine GA.aload_n dX11_equal_13 rfl ?_
  refine GA.iconst dX11_equal_14 ?_
  refine GA.aload dX11_equal_15 rfl ?_
  refine GA.iconst dX11_equal_17 ?_
  refine GA.iconst dX11_equal_18 ?_
  obtain ⟨hg10, H⟩ := gg_e H
  obtain ⟨x11, S_12, hc13, H⟩ := gc_e H
  refine GA.callN (m_X10_same hc13) xs_X11_187 dX11_equal_19 (gsT hg10) (by omega) rfl rfl (by omega) (by decide) rfl (Nat.le_of_ble_eq_true rfl) (by omega) (by omega) rfl (fun E S9 hx => hx.elim) (fun v S9 hq => ?_)
  obtain ⟨rfl, rfl⟩ := hq
  obtain ⟨hg14, H⟩ := gg_e H
  obtain ⟨hg15, H⟩ := gg_e H
  cases H
  exact GV.zret hg15 rfl dX11_equal_22 (by omega) (by omega) ⟨hg14, rfl, rfl⟩
theorem g_X11_equal {l : Launch} {Z : XZ} {L : Nat → Nat} : ∀ n, P_X11_equal_0 l Z L n
  | 0 => fun _ _ _ _ _ _ H => no_e H
  | n + 1 => t_X11_equal_0 n (g_X11_equal n)
theorem m0_X11_equal {l : Launch} {Z : XZ} {L : Nat → Nat} {n d : Nat} {S : GS} {a1 : Int} {a2 : Int} {x : Int} {S1 : GS} (H : f_X11_equal n d 0 S [a1, a2] = some (x, S1)) : GM l Z L yX11_equal cX11_equal 5 (some .boolean) [] d (exc x) (exs x) [.ref (L 468), .int (J a1), .int (J a2)] S (fun v S' => x < exB ∧ v = some (.int (J x)) ∧ S1 = S') (fun E S' => ¬ x < exB ∧ E = exn x ∧ S1 = S') := GM.of (by decide) (Nat.le_of_ble_eq_true rfl) ((g_X11_equal n) _ _ _ _ _ _ H)
theorem m_X11_equal {l : Launch} {Z : XZ} {L : Nat → Nat} {n d : Nat} {S : GS} {a1 : Int} {a2 : Int} {x : Int} {S1 : GS} (H : f_X11_equal n d 0 S [a1, a2] = some (x, S1)) (hb : x < exB) : GM l Z L yX11_equal cX11_equal 5 (some .boolean) [] d 0 0 [.ref (L 468), .int (J a1), .int (J a2)] S (fun v S' => v = some (.int (J x)) ∧ S1 = S') (fun _ _ => False) := by
  have h := m0_X11_equal (l := l) (Z := Z) (L := L) H
  rw [exc_0 hb, exs_0 hb] at h
  exact h.post (fun v S9 q => q.2) (fun E S9 q => q.1 hb)
theorem mx_X11_equal {l : Launch} {Z : XZ} {L : Nat → Nat} {n d : Nat} {S : GS} {a1 : Int} {a2 : Int} {x : Int} {S1 : GS} (H : f_X11_equal n d 0 S [a1, a2] = some (x, S1)) (hb : ¬ x < exB) : GM l Z L yX11_equal cX11_equal 5 (some .boolean) [] d 1 6 [.ref (L 468), .int (J a1), .int (J a2)] S (fun _ _ => False) (fun E S' => E = exn x ∧ S1 = S') := by
  have h := m0_X11_equal (l := l) (Z := Z) (L := L) H
  rw [exc_1 hb, exs_6 hb] at h
  exact h.post (fun v S9 q => hb q.1) (fun E S9 q => q.2)

def P_X11_find_0 (l : Launch) (Z : XZ) (L : Nat → Nat) (n : Nat) : Prop := ∀ (d : Nat) (S : GS) (a1 : Int) (x : Int) (S1 : GS), f_X11_find n d 0 S [a1] = some (x, S1) → GA l Z L yX11_find cX11_find 2 (some .int) [] d (exc x) (exs x) (fun v S' => x < exB ∧ v = some (.int (J x)) ∧ S1 = S') (fun E S' => ¬ x < exB ∧ E = exn x ∧ S1 = S') 0 (gl [(0, .ref (L 468)), (1, .int (J a1))]) [] S 0 0
set_option maxHeartbeats 4000000 in
set_option maxRecDepth 20000 in
theorem t_X11_find_0 {l : Launch} {Z : XZ} {L : Nat → Nat} (n : Nat) (ih_X11_find_0 : P_X11_find_0 l Z L n) : P_X11_find_0 l Z L (n + 1) := by
  intro d S a1 x S1 H
  have H : b_X11_find_0 n d (f_X11_find n) S a1 = some (x, S1) := H
  unfold b_X11_find_0 at H
  refine GA.iload_n dX11_find_0 rfl ?_
  obtain ⟨hg1, H⟩ := gg_e H
  refine GV.if_lt (tgt := 15) hg1 dX11_find_1 (by decide) (fun c2 => ?_) (fun c2 => ?_)
  · have H := it_t H c2
    cases H
    exact GA.throw0 xx_X11_137_139 rfl (by decide) dX11_find_15 dX11_find_18 dX11_find_19 dX11_find_22 (Nat.le_of_ble_eq_true rfl) (by decide) (by decide) ⟨by decide, exn_3.symm, rfl⟩
  · have H := it_f H c2
    refine GA.iload_n dX11_find_4 rfl ?_
    refine GA.aload_n dX11_find_5 rfl ?_
    refine GA.get xf_X11_56 dX11_find_6 gs_468 (by decide) rfl ?_
    obtain ⟨hg3, H⟩ := gg_e H
    obtain ⟨x4, S_5, hc6, H⟩ := gc_e H
    refine GA.callV (m_X2_count hc6) xs_X11_223 dX11_find_9 gs_473 (by decide) rfl rfl (by omega) (by decide) rfl (Nat.le_of_ble_eq_true rfl) (by omega) (by omega) rfl (fun E S9 hx => hx.elim) (fun v S9 hq => ?_)
    obtain ⟨rfl, rfl⟩ := hq
    obtain ⟨hg7, H⟩ := gg_e H
    refine GV.icmp_lt (tgt := 23) hg1 hg7 dX11_find_12 (by decide) (fun c8 => ?_) (fun c8 => ?_)
    · have H := it_t H c8
      refine GA.aload_n dX11_find_23 rfl ?_
      refine GA.get xf_X11_56 dX11_find_24 gs_468 (by decide) rfl ?_
      refine GA.iload_n dX11_find_27 rfl ?_
      obtain ⟨x9, S_10, hc11, H⟩ := gc_e H
      refine GA.callV (m_X2_at hc11) xs_X11_225 dX11_find_28 gs_473 (by decide) rfl rfl (by omega) (by decide) rfl (Nat.le_of_ble_eq_true rfl) (by omega) (by omega) rfl (fun E S9 hx => hx.elim) (fun v S9 hq => ?_)
      obtain ⟨rfl, rfl⟩ := hq
      obtain ⟨hg12, H⟩ := gg_e H
      cases H
      exact GA.iret rfl dX11_find_31 (by omega) (by omega) ⟨hg12, rfl, rfl⟩
    · have H := it_f H c8
      cases H
      exact GA.throw0 xx_X11_137_139 rfl (by decide) dX11_find_15 dX11_find_18 dX11_find_19 dX11_find_22 (Nat.le_of_ble_eq_true rfl) (by decide) (by decide) ⟨by decide, exn_3.symm, rfl⟩
theorem g_X11_find {l : Launch} {Z : XZ} {L : Nat → Nat} : ∀ n, P_X11_find_0 l Z L n
  | 0 => fun _ _ _ _ _ H => no_e H
  | n + 1 => t_X11_find_0 n (g_X11_find n)
theorem m0_X11_find {l : Launch} {Z : XZ} {L : Nat → Nat} {n d : Nat} {S : GS} {a1 : Int} {x : Int} {S1 : GS} (H : f_X11_find n d 0 S [a1] = some (x, S1)) : GM l Z L yX11_find cX11_find 2 (some .int) [] d (exc x) (exs x) [.ref (L 468), .int (J a1)] S (fun v S' => x < exB ∧ v = some (.int (J x)) ∧ S1 = S') (fun E S' => ¬ x < exB ∧ E = exn x ∧ S1 = S') := GM.of (by decide) (Nat.le_of_ble_eq_true rfl) ((g_X11_find n) _ _ _ _ _ H)
theorem m_X11_find {l : Launch} {Z : XZ} {L : Nat → Nat} {n d : Nat} {S : GS} {a1 : Int} {x : Int} {S1 : GS} (H : f_X11_find n d 0 S [a1] = some (x, S1)) (hb : x < exB) : GM l Z L yX11_find cX11_find 2 (some .int) [] d 0 0 [.ref (L 468), .int (J a1)] S (fun v S' => v = some (.int (J x)) ∧ S1 = S') (fun _ _ => False) := by
  have h := m0_X11_find (l := l) (Z := Z) (L := L) H
  rw [exc_0 hb, exs_0 hb] at h
  exact h.post (fun v S9 q => q.2) (fun E S9 q => q.1 hb)
theorem mx_X11_find {l : Launch} {Z : XZ} {L : Nat → Nat} {n d : Nat} {S : GS} {a1 : Int} {x : Int} {S1 : GS} (H : f_X11_find n d 0 S [a1] = some (x, S1)) (hb : ¬ x < exB) : GM l Z L yX11_find cX11_find 2 (some .int) [] d 1 6 [.ref (L 468), .int (J a1)] S (fun _ _ => False) (fun E S' => E = exn x ∧ S1 = S') := by
  have h := m0_X11_find (l := l) (Z := Z) (L := L) H
  rw [exc_1 hb, exs_6 hb] at h
  exact h.post (fun v S9 q => hb q.1) (fun E S9 q => q.2)

def P_X11_grow_0 (l : Launch) (Z : XZ) (L : Nat → Nat) (n : Nat) : Prop := ∀ (d : Nat) (S : GS) (a1 : Int) (a2 : Int) (x : Int) (S1 : GS), f_X11_grow n d 0 S [a1, a2] = some (x, S1) → GA l Z L yX11_grow cX11_grow 3 (some .int) [] d (exc x) (exs x) (fun v S' => x < exB ∧ v = some (.int (J x)) ∧ S1 = S') (fun E S' => ¬ x < exB ∧ E = exn x ∧ S1 = S') 0 (gl [(0, .ref (L 468)), (1, .int (J a1)), (2, .int (J a2))]) [] S 0 0
set_option maxHeartbeats 4000000 in
set_option maxRecDepth 20000 in
theorem t_X11_grow_0 {l : Launch} {Z : XZ} {L : Nat → Nat} (n : Nat) (ih_X11_grow_0 : P_X11_grow_0 l Z L n) : P_X11_grow_0 l Z L (n + 1) := by
  intro d S a1 a2 x S1 H
  have H : b_X11_grow_0 n d (f_X11_grow n) S a1 a2 = some (x, S1) := H
  unfold b_X11_grow_0 at H
  refine GA.iload_n dX11_grow_0 rfl ?_
  obtain ⟨hg1, H⟩ := gg_e H
  refine GV.if_lt (tgt := 21) hg1 dX11_grow_1 (by decide) (fun c2 => ?_) (fun c2 => ?_)
  · have H := it_t H c2
    cases H
    exact GA.throw0 xx_X11_117_119 rfl (by decide) dX11_grow_21 dX11_grow_24 dX11_grow_25 dX11_grow_28 (Nat.le_of_ble_eq_true rfl) (by decide) (by decide) ⟨by decide, exn_1.symm, rfl⟩
  · have H := it_f H c2
    refine GA.iload_n dX11_grow_4 rfl ?_
    refine GA.ldcw (v := 65536) xc_X11_290 dX11_grow_5 ?_
    refine GV.icmp_ge (tgt := 21) hg1 (by decide) dX11_grow_8 (by decide) (fun c3 => ?_) (fun c3 => ?_)
    · have H := it_t H c3
      cases H
      exact GA.throw0 xx_X11_117_119 rfl (by decide) dX11_grow_21 dX11_grow_24 dX11_grow_25 dX11_grow_28 (Nat.le_of_ble_eq_true rfl) (by decide) (by decide) ⟨by decide, exn_1.symm, rfl⟩
    · have H := it_f H c3
      refine GA.iload_n dX11_grow_11 rfl ?_
      refine GA.iconst dX11_grow_12 ?_
      obtain ⟨hg4, H⟩ := gg_e H
      refine GV.icmp_lt (tgt := 21) hg4 (by decide) dX11_grow_13 (by decide) (fun c5 => ?_) (fun c5 => ?_)
      · have H := it_t H c5
        cases H
        exact GA.throw0 xx_X11_117_119 rfl (by decide) dX11_grow_21 dX11_grow_24 dX11_grow_25 dX11_grow_28 (Nat.le_of_ble_eq_true rfl) (by decide) (by decide) ⟨by decide, exn_1.symm, rfl⟩
      · have H := it_f H c5
        refine GA.iload_n dX11_grow_16 rfl ?_
        refine GA.iconst dX11_grow_17 ?_
        refine GV.icmp_le (tgt := 29) hg4 (by decide) dX11_grow_18 (by decide) (fun c6 => ?_) (fun c6 => ?_)
        · have H := it_t H c6
          refine GA.aload_n dX11_grow_29 rfl ?_
          refine GA.get xf_X11_91 dX11_grow_30 gs_468 (by decide) rfl ?_
          refine GA.iload_n dX11_grow_33 rfl ?_
          obtain ⟨hg7, H⟩ := gg_e H
          obtain ⟨x8, S_9, hc10, H⟩ := gc_e H
          refine GA.callV (m_X3_begin hc10) xs_X11_291 dX11_grow_34 gs_494 (by decide) rfl rfl (by omega) (by decide) rfl (Nat.le_of_ble_eq_true rfl) (by omega) (by omega) rfl (fun E S9 hx => hx.elim) (fun v S9 hq => ?_)
          obtain ⟨rfl, rfl⟩ := hq
          refine GA.aload_n dX11_grow_37 rfl ?_
          refine GA.get xf_X11_91 dX11_grow_38 gs_468 (by decide) rfl ?_
          refine GA.iconst dX11_grow_41 ?_
          refine GA.iload_n dX11_grow_42 rfl ?_
          obtain ⟨x11, S_12, hc13, H⟩ := gc_e H
          refine GA.callN (m_X3_sprout hc13) xs_X11_293 dX11_grow_43 gs_494 (by decide) rfl rfl (by omega) (by decide) rfl (Nat.le_of_ble_eq_true rfl) (by omega) (by omega) rfl (fun E S9 hx => hx.elim) (fun v S9 hq => ?_)
          obtain ⟨rfl, rfl⟩ := hq
          refine GA.pop dX11_grow_46 rfl ?_
          refine GA.aload_n dX11_grow_47 rfl ?_
          refine GA.aload_n dX11_grow_48 rfl ?_
          refine GA.get xf_X11_91 dX11_grow_49 gs_468 (by decide) rfl ?_
          obtain ⟨x14, S_15, hc16, H⟩ := gc_e H
          refine GA.callV (m_X3_result hc16) xs_X11_296 dX11_grow_52 gs_494 (by decide) rfl rfl (by omega) (by decide) rfl (Nat.le_of_ble_eq_true rfl) (by omega) (by omega) rfl (fun E S9 hx => hx.elim) (fun v S9 hq => ?_)
          obtain ⟨rfl, rfl⟩ := hq
          obtain ⟨x17, S_18, hc19, H⟩ := gc_e H
          by_cases hb20 : x17 < exB
          case neg =>
            have H := it_f H hb20
            cases H
            exact GA.callV (mx_X11_admit hc19 hb20) xs_X11_153 dX11_grow_55 gs_468 (by decide) rfl rfl (by omega) (by decide) rfl (Nat.le_of_ble_eq_true rfl) (by have := exc_1 hb20; omega) (by have := exs_6 hb20; omega) rfl (fun E S9 hx => ⟨hb20, hx⟩) (fun v S9 hq => hq.elim)
          have H := it_t H hb20
          refine GA.callV (m_X11_admit hc19 hb20) xs_X11_153 dX11_grow_55 gs_468 (by decide) rfl rfl (by omega) (by decide) rfl (Nat.le_of_ble_eq_true rfl) (by omega) (by omega) rfl (fun E S9 hx => hx.elim) (fun v S9 hq => ?_)
          obtain ⟨rfl, rfl⟩ := hq
          obtain ⟨hg21, H⟩ := gg_e H
          cases H
          exact GA.iret rfl dX11_grow_58 (by omega) (by omega) ⟨hg21, rfl, rfl⟩
        · have H := it_f H c6
          cases H
          exact GA.throw0 xx_X11_117_119 rfl (by decide) dX11_grow_21 dX11_grow_24 dX11_grow_25 dX11_grow_28 (Nat.le_of_ble_eq_true rfl) (by decide) (by decide) ⟨by decide, exn_1.symm, rfl⟩
theorem g_X11_grow {l : Launch} {Z : XZ} {L : Nat → Nat} : ∀ n, P_X11_grow_0 l Z L n
  | 0 => fun _ _ _ _ _ _ H => no_e H
  | n + 1 => t_X11_grow_0 n (g_X11_grow n)
theorem m0_X11_grow {l : Launch} {Z : XZ} {L : Nat → Nat} {n d : Nat} {S : GS} {a1 : Int} {a2 : Int} {x : Int} {S1 : GS} (H : f_X11_grow n d 0 S [a1, a2] = some (x, S1)) : GM l Z L yX11_grow cX11_grow 3 (some .int) [] d (exc x) (exs x) [.ref (L 468), .int (J a1), .int (J a2)] S (fun v S' => x < exB ∧ v = some (.int (J x)) ∧ S1 = S') (fun E S' => ¬ x < exB ∧ E = exn x ∧ S1 = S') := GM.of (by decide) (Nat.le_of_ble_eq_true rfl) ((g_X11_grow n) _ _ _ _ _ _ H)
theorem m_X11_grow {l : Launch} {Z : XZ} {L : Nat → Nat} {n d : Nat} {S : GS} {a1 : Int} {a2 : Int} {x : Int} {S1 : GS} (H : f_X11_grow n d 0 S [a1, a2] = some (x, S1)) (hb : x < exB) : GM l Z L yX11_grow cX11_grow 3 (some .int) [] d 0 0 [.ref (L 468), .int (J a1), .int (J a2)] S (fun v S' => v = some (.int (J x)) ∧ S1 = S') (fun _ _ => False) := by
  have h := m0_X11_grow (l := l) (Z := Z) (L := L) H
  rw [exc_0 hb, exs_0 hb] at h
  exact h.post (fun v S9 q => q.2) (fun E S9 q => q.1 hb)
theorem mx_X11_grow {l : Launch} {Z : XZ} {L : Nat → Nat} {n d : Nat} {S : GS} {a1 : Int} {a2 : Int} {x : Int} {S1 : GS} (H : f_X11_grow n d 0 S [a1, a2] = some (x, S1)) (hb : ¬ x < exB) : GM l Z L yX11_grow cX11_grow 3 (some .int) [] d 1 6 [.ref (L 468), .int (J a1), .int (J a2)] S (fun _ _ => False) (fun E S' => E = exn x ∧ S1 = S') := by
  have h := m0_X11_grow (l := l) (Z := Z) (L := L) H
  rw [exc_1 hb, exs_6 hb] at h
  exact h.post (fun v S9 q => hb q.1) (fun E S9 q => q.2)

def P_X11_isSound_0 (l : Launch) (Z : XZ) (L : Nat → Nat) (n : Nat) : Prop := ∀ (d : Nat) (S : GS) (a1 : Int) (x : Int) (S1 : GS), f_X11_isSound n d 0 S [a1] = some (x, S1) → GA l Z L yX11_isSound cX11_isSound 5 (some .boolean) [] d (exc x) (exs x) (fun v S' => x < exB ∧ v = some (.int (J x)) ∧ S1 = S') (fun E S' => ¬ x < exB ∧ E = exn x ∧ S1 = S') 0 (gl [(0, .ref (L 468)), (1, .int (J a1))]) [] S 0 0
def P_X11_isSound_29 (l : Launch) (Z : XZ) (L : Nat → Nat) (n : Nat) : Prop := ∀ (d : Nat) (S : GS) (a2 : Nat) (a3 : Int) (a4 : Int) (x : Int) (S1 : GS), f_X11_isSound n d 29 S [((a2 : Nat) : Int), a3, a4] = some (x, S1) → GA l Z L yX11_isSound cX11_isSound 5 (some .boolean) [] d (exc x) (exs x) (fun v S' => x < exB ∧ v = some (.int (J x)) ∧ S1 = S') (fun E S' => ¬ x < exB ∧ E = exn x ∧ S1 = S') 29 (gl [(0, .ref (L 468)), (2, .ref (L a2)), (3, .int (J a3)), (4, .int (J a4))]) [] S 0 0
set_option maxHeartbeats 4000000 in
set_option maxRecDepth 20000 in
theorem t_X11_isSound_0 {l : Launch} {Z : XZ} {L : Nat → Nat} (n : Nat) (ih_X11_isSound_0 : P_X11_isSound_0 l Z L n) (ih_X11_isSound_29 : P_X11_isSound_29 l Z L n) : P_X11_isSound_0 l Z L (n + 1) := by
  intro d S a1 x S1 H
  have H : b_X11_isSound_0 n d (f_X11_isSound n) S a1 = some (x, S1) := H
  unfold b_X11_isSound_0 at H
  refine GA.aload_n dX11_isSound_0 rfl ?_
  refine GA.iload_n dX11_isSound_1 rfl ?_
  obtain ⟨hg1, H⟩ := gg_e H
  obtain ⟨x2, S_3, hc4, H⟩ := gc_e H
  by_cases hb5 : x2 < exB
  case neg =>
    have H := it_f H hb5
    cases H
    exact GA.callV (mx_X11_document hc4 hb5) xs_X11_157 dX11_isSound_2 gs_468 (by decide) rfl rfl (by omega) (by decide) rfl (Nat.le_of_ble_eq_true rfl) (by have := exc_1 hb5; omega) (by have := exs_6 hb5; omega) rfl (fun E S9 hx => ⟨hb5, hx⟩) (fun v S9 hq => hq.elim)
  have H := it_t H hb5
  refine GA.callV (m_X11_document hc4 hb5) xs_X11_157 dX11_isSound_2 gs_468 (by decide) rfl rfl (by omega) (by decide) rfl (Nat.le_of_ble_eq_true rfl) (by omega) (by omega) rfl (fun E S9 hx => hx.elim) (fun v S9 hq => ?_)
  obtain ⟨rfl, rfl⟩ := hq
  refine GA.astore_n dX11_isSound_5 (by decide) ?_
  refine GA.aload_n dX11_isSound_6 rfl ?_
  obtain ⟨hg6, H⟩ := gg_e H
  obtain ⟨x7, S_8, hc9, H⟩ := gc_e H
  refine GA.callV (m_X10_isDocument hc9) xs_X11_308 dX11_isSound_7 (gsT hg6) (by omega) rfl rfl (by omega) (by decide) rfl (Nat.le_of_ble_eq_true rfl) (by omega) (by omega) rfl (fun E S9 hx => hx.elim) (fun v S9 hq => ?_)
  obtain ⟨rfl, rfl⟩ := hq
  obtain ⟨hg10, H⟩ := gg_e H
  refine GV.if_eq (tgt := 24) hg10 dX11_isSound_10 (by decide) (fun c11 => ?_) (fun c11 => ?_)
  · have H := it_t H c11
    refine GA.iconst dX11_isSound_24 ?_
    refine GA.istore_n dX11_isSound_25 (by decide) ?_
    refine GA.iconst dX11_isSound_26 ?_
    refine GA.istore dX11_isSound_27 (by decide) ?_
    refine GA.locals [(0, .ref (L 468)), (2, .ref (L x2.toNat)), (3, .int (J 0)), (4, .int (J 0))] ⟨rfl, rfl, rfl, rfl, trivial⟩ ?_
    exact ih_X11_isSound_29 _ _ (x2.toNat) (0) (0) _ _ H
  · have H := it_f H c11
    refine GA.aload_n dX11_isSound_13 rfl ?_
    obtain ⟨x12, S_13, hc14, H⟩ := gc_e H
    refine GA.callV (m_X10_isWithinBounds hc14) xs_X11_312 dX11_isSound_14 (gsT hg6) (by omega) rfl rfl (by omega) (by decide) rfl (Nat.le_of_ble_eq_true rfl) (by omega) (by omega) rfl (fun E S9 hx => hx.elim) (fun v S9 hq => ?_)
    obtain ⟨rfl, rfl⟩ := hq
    obtain ⟨hg15, H⟩ := gg_e H
    refine GV.if_eq (tgt := 24) hg15 dX11_isSound_17 (by decide) (fun c16 => ?_) (fun c16 => ?_)
    · have H := it_t H c16
      refine GA.iconst dX11_isSound_24 ?_
      refine GA.istore_n dX11_isSound_25 (by decide) ?_
      refine GA.iconst dX11_isSound_26 ?_
      refine GA.istore dX11_isSound_27 (by decide) ?_
      refine GA.locals [(0, .ref (L 468)), (2, .ref (L x2.toNat)), (3, .int (J 0)), (4, .int (J 0))] ⟨rfl, rfl, rfl, rfl, trivial⟩ ?_
      exact ih_X11_isSound_29 _ _ (x2.toNat) (0) (0) _ _ H
    · have H := it_f H c16
      refine GA.iconst dX11_isSound_20 ?_
      refine GA.goto (tgt := 25) dX11_isSound_21 (by decide) ?_
      refine GA.istore_n dX11_isSound_25 (by decide) ?_
      refine GA.iconst dX11_isSound_26 ?_
      refine GA.istore dX11_isSound_27 (by decide) ?_
      refine GA.locals [(0, .ref (L 468)), (2, .ref (L x2.toNat)), (3, .int (J 1)), (4, .int (J 0))] ⟨rfl, rfl, rfl, rfl, trivial⟩ ?_
      exact ih_X11_isSound_29 _ _ (x2.toNat) (1) (0) _ _ H
set_option maxHeartbeats 4000000 in
set_option maxRecDepth 20000 in
theorem t_X11_isSound_29 {l : Launch} {Z : XZ} {L : Nat → Nat} (n : Nat) (ih_X11_isSound_0 : P_X11_isSound_0 l Z L n) (ih_X11_isSound_29 : P_X11_isSound_29 l Z L n) : P_X11_isSound_29 l Z L (n + 1) := by
  intro d S a2 a3 a4 x S1 H
  have H : b_X11_isSound_29 n d (f_X11_isSound n) S a2 a3 a4 = some (x, S1) := H
  unfold b_X11_isSound_29 at H
  refine GA.iload dX11_isSound_29 rfl ?_
  refine GA.iconst dX11_isSound_31 ?_
  obtain ⟨hg1, H⟩ := gg_e H
  refine GV.icmp_gt (tgt := 103) hg1 (by decide) dX11_isSound_32 (by decide) (fun c2 => ?_) (fun c2 => ?_)
  · have H := it_t H c2
    refine GA.iload_n dX11_isSound_103 rfl ?_
    obtain ⟨hg3, H⟩ := gg_e H
    obtain ⟨hg4, H⟩ := gg_e H
    cases H
    exact GV.zret hg4 rfl dX11_isSound_104 (by omega) (by omega) ⟨hg3, rfl, rfl⟩
  · have H := it_f H c2
    refine GA.iload_n dX11_isSound_35 rfl ?_
    obtain ⟨hg5, H⟩ := gg_e H
    refine GV.if_eq (tgt := 103) hg5 dX11_isSound_36 (by decide) (fun c6 => ?_) (fun c6 => ?_)
    · have H := it_t H c6
      refine GA.iload_n dX11_isSound_103 rfl ?_
      obtain ⟨hg7, H⟩ := gg_e H
      obtain ⟨hg8, H⟩ := gg_e H
      cases H
      exact GV.zret hg8 rfl dX11_isSound_104 (by omega) (by omega) ⟨hg7, rfl, rfl⟩
    · have H := it_f H c6
      refine GA.aload_n dX11_isSound_39 rfl ?_
      refine GA.get xf_X11_22 dX11_isSound_40 gs_468 (by decide) rfl ?_
      obtain ⟨hg9, H⟩ := gg_e H
      obtain ⟨x10, S_11, hc12, H⟩ := gc_e H
      refine GA.callV (m_X9_clear hc12) xs_X11_134 dX11_isSound_43 (gsS (by decide)) (by decide) rfl rfl (by omega) (by decide) rfl (Nat.le_of_ble_eq_true rfl) (by omega) (by omega) rfl (fun E S9 hx => hx.elim) (fun v S9 hq => ?_)
      obtain ⟨rfl, rfl⟩ := hq
      refine GA.aload_n dX11_isSound_46 rfl ?_
      refine GA.iconst dX11_isSound_47 ?_
      refine GA.iload dX11_isSound_48 rfl ?_
      refine GA.iconst dX11_isSound_50 ?_
      refine GA.aload_n dX11_isSound_51 rfl ?_
      refine GA.get xf_X11_22 dX11_isSound_52 gs_468 (by decide) rfl ?_
      obtain ⟨x13, S_14, hc15, H⟩ := gc_e H
      refine GA.callSN (m_X8_value hc15) xs_X11_161 dX11_isSound_55 rfl (by omega) (by decide) rfl (Nat.le_of_ble_eq_true rfl) (by omega) (by omega) rfl (fun E S9 hx => hx.elim) (fun v S9 hq => ?_)
      obtain ⟨rfl, rfl⟩ := hq
      refine GA.aload_n dX11_isSound_58 rfl ?_
      refine GA.get xf_X11_42 dX11_isSound_59 gs_468 (by decide) rfl ?_
      refine GA.aload_n dX11_isSound_62 rfl ?_
      refine GA.get xf_X11_22 dX11_isSound_63 gs_468 (by decide) rfl ?_
      refine GA.iconst dX11_isSound_66 ?_
      obtain ⟨x16, S_17, hc18, H⟩ := gc_e H
      refine GA.callV (m_X6_parse hc18) xs_X11_101 dX11_isSound_67 gs_470 (by decide) rfl rfl (by omega) (by decide) rfl (Nat.le_of_ble_eq_true rfl) (by omega) (by omega) rfl (fun E S9 hx => hx.elim) (fun v S9 hq => ?_)
      obtain ⟨rfl, rfl⟩ := hq
      refine GA.iconst dX11_isSound_70 ?_
      obtain ⟨hg19, H⟩ := gg_e H
      refine GV.icmp_ne (tgt := 95) hg19 (by decide) dX11_isSound_71 (by decide) (fun c20 => ?_) (fun c20 => ?_)
      · have H := it_t H c20
        refine GA.iconst dX11_isSound_95 ?_
        refine GA.istore_n dX11_isSound_96 (by decide) ?_
        obtain ⟨x21, hx22, H⟩ := gv_e H
        refine GV.iinc hx22 dX11_isSound_97 rfl (by decide) ?_
        refine GA.goto (tgt := 29) dX11_isSound_100 (by decide) ?_
        refine GA.locals [(0, .ref (L 468)), (2, .ref (L a2)), (3, .int (J 0)), (4, .int (J x21))] ⟨rfl, rfl, rfl, rfl, trivial⟩ ?_
        exact ih_X11_isSound_29 _ _ (a2) (0) (x21) _ _ H
      · have H := it_f H c20
        refine GA.aload_n dX11_isSound_74 rfl ?_
        refine GA.get xf_X11_42 dX11_isSound_75 gs_468 (by decide) rfl ?_
        obtain ⟨x23, S_24, hc25, H⟩ := gc_e H
        refine GA.callV (m_X6_result hc25) xs_X11_105 dX11_isSound_78 gs_470 (by decide) rfl rfl (by omega) (by decide) rfl (Nat.le_of_ble_eq_true rfl) (by omega) (by omega) rfl (fun E S9 hx => hx.elim) (fun v S9 hq => ?_)
        obtain ⟨rfl, rfl⟩ := hq
        refine GA.iconst dX11_isSound_81 ?_
        refine GA.aload_n dX11_isSound_82 rfl ?_
        refine GA.iconst dX11_isSound_83 ?_
        refine GA.iconst dX11_isSound_84 ?_
        obtain ⟨hg26, H⟩ := gg_e H
        obtain ⟨x27, S_28, hc29, H⟩ := gc_e H
        refine GA.callN (m_X10_same hc29) xs_X11_187 dX11_isSound_85 (gsT hg26) (by omega) rfl rfl (by omega) (by decide) rfl (Nat.le_of_ble_eq_true rfl) (by omega) (by omega) rfl (fun E S9 hx => hx.elim) (fun v S9 hq => ?_)
        obtain ⟨rfl, rfl⟩ := hq
        obtain ⟨hg30, H⟩ := gg_e H
        refine GV.if_eq (tgt := 95) hg30 dX11_isSound_88 (by decide) (fun c31 => ?_) (fun c31 => ?_)
        · have H := it_t H c31
          refine GA.iconst dX11_isSound_95 ?_
          refine GA.istore_n dX11_isSound_96 (by decide) ?_
          obtain ⟨x32, hx33, H⟩ := gv_e H
          refine GV.iinc hx33 dX11_isSound_97 rfl (by decide) ?_
          refine GA.goto (tgt := 29) dX11_isSound_100 (by decide) ?_
          refine GA.locals [(0, .ref (L 468)), (2, .ref (L a2)), (3, .int (J 0)), (4, .int (J x32))] ⟨rfl, rfl, rfl, rfl, trivial⟩ ?_
          exact ih_X11_isSound_29 _ _ (a2) (0) (x32) _ _ H
        · have H := it_f H c31
          refine GA.iconst dX11_isSound_91 ?_
          refine GA.goto (tgt := 96) dX11_isSound_92 (by decide) ?_
          refine GA.istore_n dX11_isSound_96 (by decide) ?_
          obtain ⟨x34, hx35, H⟩ := gv_e H
          refine GV.iinc hx35 dX11_isSound_97 rfl (by decide) ?_
          refine GA.goto (tgt := 29) dX11_isSound_100 (by decide) ?_
          refine GA.locals [(0, .ref (L 468)), (2, .ref (L a2)), (3, .int (J 1)), (4, .int (J x34))] ⟨rfl, rfl, rfl, rfl, trivial⟩ ?_
          exact ih_X11_isSound_29 _ _ (a2) (1) (x34) _ _ H
theorem g_X11_isSound {l : Launch} {Z : XZ} {L : Nat → Nat} : ∀ n, P_X11_isSound_0 l Z L n ∧ P_X11_isSound_29 l Z L n
  | 0 => ⟨fun _ _ _ _ _ H => no_e H, fun _ _ _ _ _ _ _ H => no_e H⟩
  | n + 1 => have ⟨h0, h1⟩ := g_X11_isSound (l := l) (Z := Z) (L := L) n
    ⟨t_X11_isSound_0 n h0 h1, t_X11_isSound_29 n h0 h1⟩
theorem m0_X11_isSound {l : Launch} {Z : XZ} {L : Nat → Nat} {n d : Nat} {S : GS} {a1 : Int} {x : Int} {S1 : GS} (H : f_X11_isSound n d 0 S [a1] = some (x, S1)) : GM l Z L yX11_isSound cX11_isSound 5 (some .boolean) [] d (exc x) (exs x) [.ref (L 468), .int (J a1)] S (fun v S' => x < exB ∧ v = some (.int (J x)) ∧ S1 = S') (fun E S' => ¬ x < exB ∧ E = exn x ∧ S1 = S') := GM.of (by decide) (Nat.le_of_ble_eq_true rfl) ((g_X11_isSound n).1 _ _ _ _ _ H)
theorem m_X11_isSound {l : Launch} {Z : XZ} {L : Nat → Nat} {n d : Nat} {S : GS} {a1 : Int} {x : Int} {S1 : GS} (H : f_X11_isSound n d 0 S [a1] = some (x, S1)) (hb : x < exB) : GM l Z L yX11_isSound cX11_isSound 5 (some .boolean) [] d 0 0 [.ref (L 468), .int (J a1)] S (fun v S' => v = some (.int (J x)) ∧ S1 = S') (fun _ _ => False) := by
  have h := m0_X11_isSound (l := l) (Z := Z) (L := L) H
  rw [exc_0 hb, exs_0 hb] at h
  exact h.post (fun v S9 q => q.2) (fun E S9 q => q.1 hb)
theorem mx_X11_isSound {l : Launch} {Z : XZ} {L : Nat → Nat} {n d : Nat} {S : GS} {a1 : Int} {x : Int} {S1 : GS} (H : f_X11_isSound n d 0 S [a1] = some (x, S1)) (hb : ¬ x < exB) : GM l Z L yX11_isSound cX11_isSound 5 (some .boolean) [] d 1 6 [.ref (L 468), .int (J a1)] S (fun _ _ => False) (fun E S' => E = exn x ∧ S1 = S') := by
  have h := m0_X11_isSound (l := l) (Z := Z) (L := L) H
  rw [exc_1 hb, exs_6 hb] at h
  exact h.post (fun v S9 q => hb q.1) (fun E S9 q => q.2)

def P_X11_join_0 (l : Launch) (Z : XZ) (L : Nat → Nat) (n : Nat) : Prop := ∀ (d : Nat) (S : GS) (a1 : Int) (a2 : Int) (a3 : Int) (x : Int) (S1 : GS), f_X11_join n d 0 S [a1, a2, a3] = some (x, S1) → GA l Z L yX11_join cX11_join 8 (some .int) [] d (exc x) (exs x) (fun v S' => x < exB ∧ v = some (.int (J x)) ∧ S1 = S') (fun E S' => ¬ x < exB ∧ E = exn x ∧ S1 = S') 0 (gl [(0, .ref (L 468)), (1, .int (J a1)), (2, .int (J a2)), (3, .int (J a3))]) [] S 0 0
set_option maxHeartbeats 4000000 in
set_option maxRecDepth 20000 in
theorem t_X11_join_0 {l : Launch} {Z : XZ} {L : Nat → Nat} (n : Nat) (ih_X11_join_0 : P_X11_join_0 l Z L n) : P_X11_join_0 l Z L (n + 1) := by
  intro d S a1 a2 a3 x S1 H
  have H : b_X11_join_0 n d (f_X11_join n) S a1 a2 a3 = some (x, S1) := H
  unfold b_X11_join_0 at H
  refine GA.aload_n dX11_join_0 rfl ?_
  refine GA.iload_n dX11_join_1 rfl ?_
  obtain ⟨hg1, H⟩ := gg_e H
  obtain ⟨x2, S_3, hc4, H⟩ := gc_e H
  by_cases hb5 : x2 < exB
  case neg =>
    have H := it_f H hb5
    cases H
    exact GA.callV (mx_X11_document hc4 hb5) xs_X11_157 dX11_join_2 gs_468 (by decide) rfl rfl (by omega) (by decide) rfl (Nat.le_of_ble_eq_true rfl) (by have := exc_1 hb5; omega) (by have := exs_6 hb5; omega) rfl (fun E S9 hx => ⟨hb5, hx⟩) (fun v S9 hq => hq.elim)
  have H := it_t H hb5
  refine GA.callV (m_X11_document hc4 hb5) xs_X11_157 dX11_join_2 gs_468 (by decide) rfl rfl (by omega) (by decide) rfl (Nat.le_of_ble_eq_true rfl) (by omega) (by omega) rfl (fun E S9 hx => hx.elim) (fun v S9 hq => ?_)
  obtain ⟨rfl, rfl⟩ := hq
  refine GA.astore dX11_join_5 (by decide) ?_
  refine GA.aload_n dX11_join_7 rfl ?_
  refine GA.iload_n dX11_join_8 rfl ?_
  obtain ⟨x6, S_7, hc8, H⟩ := gc_e H
  by_cases hb9 : x6 < exB
  case neg =>
    have H := it_f H hb9
    cases H
    exact GA.callV (mx_X11_document hc8 hb9) xs_X11_157 dX11_join_9 gs_468 (by decide) rfl rfl (by omega) (by decide) rfl (Nat.le_of_ble_eq_true rfl) (by have := exc_1 hb9; omega) (by have := exs_6 hb9; omega) rfl (fun E S9 hx => ⟨hb9, hx⟩) (fun v S9 hq => hq.elim)
  have H := it_t H hb9
  refine GA.callV (m_X11_document hc8 hb9) xs_X11_157 dX11_join_9 gs_468 (by decide) rfl rfl (by omega) (by decide) rfl (Nat.le_of_ble_eq_true rfl) (by omega) (by omega) rfl (fun E S9 hx => hx.elim) (fun v S9 hq => ?_)
  obtain ⟨rfl, rfl⟩ := hq
  refine GA.astore dX11_join_12 (by decide) ?_
  refine GA.aload_n dX11_join_14 rfl ?_
  refine GA.iload_n dX11_join_15 rfl ?_
  obtain ⟨x10, S_11, hc12, H⟩ := gc_e H
  by_cases hb13 : x10 < exB
  case neg =>
    have H := it_f H hb13
    cases H
    exact GA.callV (mx_X11_document hc12 hb13) xs_X11_157 dX11_join_16 gs_468 (by decide) rfl rfl (by omega) (by decide) rfl (Nat.le_of_ble_eq_true rfl) (by have := exc_1 hb13; omega) (by have := exs_6 hb13; omega) rfl (fun E S9 hx => ⟨hb13, hx⟩) (fun v S9 hq => hq.elim)
  have H := it_t H hb13
  refine GA.callV (m_X11_document hc12 hb13) xs_X11_157 dX11_join_16 gs_468 (by decide) rfl rfl (by omega) (by decide) rfl (Nat.le_of_ble_eq_true rfl) (by omega) (by omega) rfl (fun E S9 hx => hx.elim) (fun v S9 hq => ?_)
  obtain ⟨rfl, rfl⟩ := hq
  refine GA.astore dX11_join_19 (by decide) ?_
  refine GA.aload_n dX11_join_21 rfl ?_
  refine GA.get xf_X11_77 dX11_join_22 gs_468 (by decide) rfl ?_
  refine GA.aload dX11_join_25 rfl ?_
  refine GA.aload dX11_join_27 rfl ?_
  refine GA.aload dX11_join_29 rfl ?_
  obtain ⟨x14, S_15, hc16, H⟩ := gc_e H
  refine GA.callV (m_X4_unite hc16) xs_X11_252 dX11_join_31 gs_485 (by decide) rfl rfl (by omega) (by decide) rfl (Nat.le_of_ble_eq_true rfl) (by omega) (by omega) rfl (fun E S9 hx => hx.elim) (fun v S9 hq => ?_)
  obtain ⟨rfl, rfl⟩ := hq
  obtain ⟨hg17, H⟩ := gg_e H
  refine GV.if_ne (tgt := 39) hg17 dX11_join_34 (by decide) (fun c18 => ?_) (fun c18 => ?_)
  · have H := it_t H c18
    refine GA.aload_n dX11_join_39 rfl ?_
    refine GA.aload_n dX11_join_40 rfl ?_
    refine GA.get xf_X11_77 dX11_join_41 gs_468 (by decide) rfl ?_
    obtain ⟨x19, S_20, hc21, H⟩ := gc_e H
    refine GA.callV (m_X4_result hc21) xs_X11_256 dX11_join_44 gs_485 (by decide) rfl rfl (by omega) (by decide) rfl (Nat.le_of_ble_eq_true rfl) (by omega) (by omega) rfl (fun E S9 hx => hx.elim) (fun v S9 hq => ?_)
    obtain ⟨rfl, rfl⟩ := hq
    obtain ⟨x22, S_23, hc24, H⟩ := gc_e H
    by_cases hb25 : x22 < exB
    case neg =>
      have H := it_f H hb25
      cases H
      exact GA.callV (mx_X11_admit hc24 hb25) xs_X11_153 dX11_join_47 gs_468 (by decide) rfl rfl (by omega) (by decide) rfl (Nat.le_of_ble_eq_true rfl) (by have := exc_1 hb25; omega) (by have := exs_6 hb25; omega) rfl (fun E S9 hx => ⟨hb25, hx⟩) (fun v S9 hq => hq.elim)
    have H := it_t H hb25
    refine GA.callV (m_X11_admit hc24 hb25) xs_X11_153 dX11_join_47 gs_468 (by decide) rfl rfl (by omega) (by decide) rfl (Nat.le_of_ble_eq_true rfl) (by omega) (by omega) rfl (fun E S9 hx => hx.elim) (fun v S9 hq => ?_)
    obtain ⟨rfl, rfl⟩ := hq
    refine GA.istore dX11_join_50 (by decide) ?_
    refine GA.aload_n dX11_join_52 rfl ?_
    refine GA.get xf_X11_77 dX11_join_53 gs_468 (by decide) rfl ?_
    obtain ⟨x26, S_27, hc28, H⟩ := gc_e H
    refine GA.callV (m_X4_forget hc28) xs_X11_257 dX11_join_56 gs_485 (by decide) rfl rfl (by omega) (by decide) rfl (Nat.le_of_ble_eq_true rfl) (by omega) (by omega) rfl (fun E S9 hx => hx.elim) (fun v S9 hq => ?_)
    obtain ⟨rfl, rfl⟩ := hq
    refine GA.iload dX11_join_59 rfl ?_
    obtain ⟨hg29, H⟩ := gg_e H
    cases H
    exact GA.iret rfl dX11_join_61 (by omega) (by omega) ⟨hg29, rfl, rfl⟩
  · have H := it_f H c18
    refine GA.iconst dX11_join_37 ?_
    cases H
    exact GA.iret rfl dX11_join_38 (by omega) (by omega) ⟨by decide, rfl, rfl⟩
theorem g_X11_join {l : Launch} {Z : XZ} {L : Nat → Nat} : ∀ n, P_X11_join_0 l Z L n
  | 0 => fun _ _ _ _ _ _ _ H => no_e H
  | n + 1 => t_X11_join_0 n (g_X11_join n)
theorem m0_X11_join {l : Launch} {Z : XZ} {L : Nat → Nat} {n d : Nat} {S : GS} {a1 : Int} {a2 : Int} {a3 : Int} {x : Int} {S1 : GS} (H : f_X11_join n d 0 S [a1, a2, a3] = some (x, S1)) : GM l Z L yX11_join cX11_join 8 (some .int) [] d (exc x) (exs x) [.ref (L 468), .int (J a1), .int (J a2), .int (J a3)] S (fun v S' => x < exB ∧ v = some (.int (J x)) ∧ S1 = S') (fun E S' => ¬ x < exB ∧ E = exn x ∧ S1 = S') := GM.of (by decide) (Nat.le_of_ble_eq_true rfl) ((g_X11_join n) _ _ _ _ _ _ _ H)
theorem m_X11_join {l : Launch} {Z : XZ} {L : Nat → Nat} {n d : Nat} {S : GS} {a1 : Int} {a2 : Int} {a3 : Int} {x : Int} {S1 : GS} (H : f_X11_join n d 0 S [a1, a2, a3] = some (x, S1)) (hb : x < exB) : GM l Z L yX11_join cX11_join 8 (some .int) [] d 0 0 [.ref (L 468), .int (J a1), .int (J a2), .int (J a3)] S (fun v S' => v = some (.int (J x)) ∧ S1 = S') (fun _ _ => False) := by
  have h := m0_X11_join (l := l) (Z := Z) (L := L) H
  rw [exc_0 hb, exs_0 hb] at h
  exact h.post (fun v S9 q => q.2) (fun E S9 q => q.1 hb)
theorem mx_X11_join {l : Launch} {Z : XZ} {L : Nat → Nat} {n d : Nat} {S : GS} {a1 : Int} {a2 : Int} {a3 : Int} {x : Int} {S1 : GS} (H : f_X11_join n d 0 S [a1, a2, a3] = some (x, S1)) (hb : ¬ x < exB) : GM l Z L yX11_join cX11_join 8 (some .int) [] d 1 6 [.ref (L 468), .int (J a1), .int (J a2), .int (J a3)] S (fun _ _ => False) (fun E S' => E = exn x ∧ S1 = S') := by
  have h := m0_X11_join (l := l) (Z := Z) (L := L) H
  rw [exc_1 hb, exs_6 hb] at h
  exact h.post (fun v S9 q => hb q.1) (fun E S9 q => q.2)

def P_X11_lay_0 (l : Launch) (Z : XZ) (L : Nat → Nat) (n : Nat) : Prop := ∀ (d : Nat) (S : GS) (a1 : Int) (a2 : Int) (x : Int) (S1 : GS), f_X11_lay n d 0 S [a1, a2] = some (x, S1) → GA l Z L yX11_lay cX11_lay 6 (some .int) [] d (exc x) (exs x) (fun v S' => x < exB ∧ v = some (.int (J x)) ∧ S1 = S') (fun E S' => ¬ x < exB ∧ E = exn x ∧ S1 = S') 0 (gl [(0, .ref (L 468)), (1, .int (J a1)), (2, .int (J a2))]) [] S 0 0
set_option maxHeartbeats 4000000 in
set_option maxRecDepth 20000 in
theorem t_X11_lay_0 {l : Launch} {Z : XZ} {L : Nat → Nat} (n : Nat) (ih_X11_lay_0 : P_X11_lay_0 l Z L n) : P_X11_lay_0 l Z L (n + 1) := by
  intro d S a1 a2 x S1 H
  have H : b_X11_lay_0 n d (f_X11_lay n) S a1 a2 = some (x, S1) := H
  unfold b_X11_lay_0 at H
  refine GA.aload_n dX11_lay_0 rfl ?_
  refine GA.iload_n dX11_lay_1 rfl ?_
  obtain ⟨hg1, H⟩ := gg_e H
  obtain ⟨x2, S_3, hc4, H⟩ := gc_e H
  by_cases hb5 : x2 < exB
  case neg =>
    have H := it_f H hb5
    cases H
    exact GA.callV (mx_X11_document hc4 hb5) xs_X11_157 dX11_lay_2 gs_468 (by decide) rfl rfl (by omega) (by decide) rfl (Nat.le_of_ble_eq_true rfl) (by have := exc_1 hb5; omega) (by have := exs_6 hb5; omega) rfl (fun E S9 hx => ⟨hb5, hx⟩) (fun v S9 hq => hq.elim)
  have H := it_t H hb5
  refine GA.callV (m_X11_document hc4 hb5) xs_X11_157 dX11_lay_2 gs_468 (by decide) rfl rfl (by omega) (by decide) rfl (Nat.le_of_ble_eq_true rfl) (by omega) (by omega) rfl (fun E S9 hx => hx.elim) (fun v S9 hq => ?_)
  obtain ⟨rfl, rfl⟩ := hq
  refine GA.astore_n dX11_lay_5 (by decide) ?_
  refine GA.aload_n dX11_lay_6 rfl ?_
  refine GA.iload_n dX11_lay_7 rfl ?_
  obtain ⟨x6, S_7, hc8, H⟩ := gc_e H
  by_cases hb9 : x6 < exB
  case neg =>
    have H := it_f H hb9
    cases H
    exact GA.callV (mx_X11_document hc8 hb9) xs_X11_157 dX11_lay_8 gs_468 (by decide) rfl rfl (by omega) (by decide) rfl (Nat.le_of_ble_eq_true rfl) (by have := exc_1 hb9; omega) (by have := exs_6 hb9; omega) rfl (fun E S9 hx => ⟨hb9, hx⟩) (fun v S9 hq => hq.elim)
  have H := it_t H hb9
  refine GA.callV (m_X11_document hc8 hb9) xs_X11_157 dX11_lay_8 gs_468 (by decide) rfl rfl (by omega) (by decide) rfl (Nat.le_of_ble_eq_true rfl) (by omega) (by omega) rfl (fun E S9 hx => hx.elim) (fun v S9 hq => ?_)
  obtain ⟨rfl, rfl⟩ := hq
  refine GA.astore dX11_lay_11 (by decide) ?_
  refine GA.aload dX11_lay_13 rfl ?_
  refine GA.iconst dX11_lay_15 ?_
  refine GA.iconst dX11_lay_16 ?_
  obtain ⟨hg10, H⟩ := gg_e H
  obtain ⟨x11, S_12, hc13, H⟩ := gc_e H
  refine GA.callV (m_X10_is hc13) xs_X11_191 dX11_lay_17 (gsT hg10) (by omega) rfl rfl (by omega) (by decide) rfl (Nat.le_of_ble_eq_true rfl) (by omega) (by omega) rfl (fun E S9 hx => hx.elim) (fun v S9 hq => ?_)
  obtain ⟨rfl, rfl⟩ := hq
  obtain ⟨hg14, H⟩ := gg_e H
  refine GV.if_ne (tgt := 25) hg14 dX11_lay_20 (by decide) (fun c15 => ?_) (fun c15 => ?_)
  · have H := it_t H c15
    refine GA.aload_n dX11_lay_25 rfl ?_
    refine GA.get xf_X11_70 dX11_lay_26 gs_468 (by decide) rfl ?_
    refine GA.aload_n dX11_lay_29 rfl ?_
    refine GA.iconst dX11_lay_30 ?_
    obtain ⟨x16, S_17, hc18, H⟩ := gc_e H
    refine GA.callV (m_X1_begin hc18) xs_X11_226 dX11_lay_31 gs_482 (by decide) rfl rfl (by omega) (by decide) rfl (Nat.le_of_ble_eq_true rfl) (by omega) (by omega) rfl (fun E S9 hx => hx.elim) (fun v S9 hq => ?_)
    obtain ⟨rfl, rfl⟩ := hq
    refine GA.aload_n dX11_lay_34 rfl ?_
    refine GA.get xf_X11_70 dX11_lay_35 gs_468 (by decide) rfl ?_
    refine GA.aload dX11_lay_38 rfl ?_
    obtain ⟨x19, S_20, hc21, H⟩ := gc_e H
    refine GA.callV (m_X1_layAll hc21) xs_X11_242 dX11_lay_40 gs_482 (by decide) rfl rfl (by omega) (by decide) rfl (Nat.le_of_ble_eq_true rfl) (by omega) (by omega) rfl (fun E S9 hx => hx.elim) (fun v S9 hq => ?_)
    obtain ⟨rfl, rfl⟩ := hq
    refine GA.istore dX11_lay_43 (by decide) ?_
    refine GA.iload dX11_lay_45 rfl ?_
    refine GA.iconst dX11_lay_47 ?_
    obtain ⟨hg22, H⟩ := gg_e H
    refine GV.icmp_eq (tgt := 57) hg22 (by decide) dX11_lay_48 (by decide) (fun c23 => ?_) (fun c23 => ?_)
    · have H := it_t H c23
      refine GA.aload_n dX11_lay_57 rfl ?_
      refine GA.aload_n dX11_lay_58 rfl ?_
      refine GA.get xf_X11_70 dX11_lay_59 gs_468 (by decide) rfl ?_
      obtain ⟨x24, S_25, hc26, H⟩ := gc_e H
      refine GA.callV (m_X1_result hc26) xs_X11_234 dX11_lay_62 gs_482 (by decide) rfl rfl (by omega) (by decide) rfl (Nat.le_of_ble_eq_true rfl) (by omega) (by omega) rfl (fun E S9 hx => hx.elim) (fun v S9 hq => ?_)
      obtain ⟨rfl, rfl⟩ := hq
      obtain ⟨x27, S_28, hc29, H⟩ := gc_e H
      by_cases hb30 : x27 < exB
      case neg =>
        have H := it_f H hb30
        cases H
        exact GA.callV (mx_X11_admit hc29 hb30) xs_X11_153 dX11_lay_65 gs_468 (by decide) rfl rfl (by omega) (by decide) rfl (Nat.le_of_ble_eq_true rfl) (by have := exc_1 hb30; omega) (by have := exs_6 hb30; omega) rfl (fun E S9 hx => ⟨hb30, hx⟩) (fun v S9 hq => hq.elim)
      have H := it_t H hb30
      refine GA.callV (m_X11_admit hc29 hb30) xs_X11_153 dX11_lay_65 gs_468 (by decide) rfl rfl (by omega) (by decide) rfl (Nat.le_of_ble_eq_true rfl) (by omega) (by omega) rfl (fun E S9 hx => hx.elim) (fun v S9 hq => ?_)
      obtain ⟨rfl, rfl⟩ := hq
      obtain ⟨hg31, H⟩ := gg_e H
      cases H
      exact GA.iret rfl dX11_lay_68 (by omega) (by omega) ⟨hg31, rfl, rfl⟩
    · have H := it_f H c23
      refine GA.bipush dX11_lay_51 rfl ?_
      refine GA.iload dX11_lay_53 rfl ?_
      obtain ⟨x32, hx33, H⟩ := gv_e H
      refine GV.isub hx33 dX11_lay_55 ?_
      obtain ⟨hg34, H⟩ := gg_e H
      cases H
      exact GA.iret rfl dX11_lay_56 (by omega) (by omega) ⟨hg34, rfl, rfl⟩
  · have H := it_f H c15
    refine GA.iconst dX11_lay_23 ?_
    cases H
    exact GA.iret rfl dX11_lay_24 (by omega) (by omega) ⟨by decide, rfl, rfl⟩
theorem g_X11_lay {l : Launch} {Z : XZ} {L : Nat → Nat} : ∀ n, P_X11_lay_0 l Z L n
  | 0 => fun _ _ _ _ _ _ H => no_e H
  | n + 1 => t_X11_lay_0 n (g_X11_lay n)
theorem m0_X11_lay {l : Launch} {Z : XZ} {L : Nat → Nat} {n d : Nat} {S : GS} {a1 : Int} {a2 : Int} {x : Int} {S1 : GS} (H : f_X11_lay n d 0 S [a1, a2] = some (x, S1)) : GM l Z L yX11_lay cX11_lay 6 (some .int) [] d (exc x) (exs x) [.ref (L 468), .int (J a1), .int (J a2)] S (fun v S' => x < exB ∧ v = some (.int (J x)) ∧ S1 = S') (fun E S' => ¬ x < exB ∧ E = exn x ∧ S1 = S') := GM.of (by decide) (Nat.le_of_ble_eq_true rfl) ((g_X11_lay n) _ _ _ _ _ _ H)
theorem m_X11_lay {l : Launch} {Z : XZ} {L : Nat → Nat} {n d : Nat} {S : GS} {a1 : Int} {a2 : Int} {x : Int} {S1 : GS} (H : f_X11_lay n d 0 S [a1, a2] = some (x, S1)) (hb : x < exB) : GM l Z L yX11_lay cX11_lay 6 (some .int) [] d 0 0 [.ref (L 468), .int (J a1), .int (J a2)] S (fun v S' => v = some (.int (J x)) ∧ S1 = S') (fun _ _ => False) := by
  have h := m0_X11_lay (l := l) (Z := Z) (L := L) H
  rw [exc_0 hb, exs_0 hb] at h
  exact h.post (fun v S9 q => q.2) (fun E S9 q => q.1 hb)
theorem mx_X11_lay {l : Launch} {Z : XZ} {L : Nat → Nat} {n d : Nat} {S : GS} {a1 : Int} {a2 : Int} {x : Int} {S1 : GS} (H : f_X11_lay n d 0 S [a1, a2] = some (x, S1)) (hb : ¬ x < exB) : GM l Z L yX11_lay cX11_lay 6 (some .int) [] d 1 6 [.ref (L 468), .int (J a1), .int (J a2)] S (fun _ _ => False) (fun E S' => E = exn x ∧ S1 = S') := by
  have h := m0_X11_lay (l := l) (Z := Z) (L := L) H
  rw [exc_1 hb, exs_6 hb] at h
  exact h.post (fun v S9 q => hb q.1) (fun E S9 q => q.2)

def P_X11_loadPage_0 (l : Launch) (Z : XZ) (L : Nat → Nat) (n : Nat) : Prop := ∀ (d : Nat) (S : GS) (x : Int) (S1 : GS), f_X11_loadPage n d 0 S [] = some (x, S1) → GA l Z L yX11_loadPage cX11_loadPage 1 none [] d (exc x) (exs x) (fun v S' => x < exB ∧ v = none ∧ S1 = S') (fun E S' => ¬ x < exB ∧ E = exn x ∧ S1 = S') 0 (gl [(0, .ref (L 468))]) [] S 0 0
set_option maxHeartbeats 4000000 in
set_option maxRecDepth 20000 in
theorem t_X11_loadPage_0 {l : Launch} {Z : XZ} {L : Nat → Nat} (n : Nat) (ih_X11_loadPage_0 : P_X11_loadPage_0 l Z L n) : P_X11_loadPage_0 l Z L (n + 1) := by
  intro d S  x S1 H
  have H : b_X11_loadPage_0 n d (f_X11_loadPage n) S  = some (x, S1) := H
  unfold b_X11_loadPage_0 at H
  refine GA.aload_n dX11_loadPage_0 rfl ?_
  refine GA.get xf_X11_49 dX11_loadPage_1 gs_468 (by decide) rfl ?_
  refine GA.aload_n dX11_loadPage_4 rfl ?_
  refine GA.get xf_X11_14 dX11_loadPage_5 gs_468 (by decide) rfl ?_
  obtain ⟨hg1, H⟩ := gg_e H
  obtain ⟨x2, S_3, hc4, H⟩ := gc_e H
  refine GA.callV (m_X7_load hc4) xs_X11_322 dX11_loadPage_8 (gsR (by decide)) (by decide) rfl rfl (by omega) (by decide) rfl (Nat.le_of_ble_eq_true rfl) (by omega) (by omega) rfl (fun E S9 hx => hx.elim) (fun v S9 hq => ?_)
  obtain ⟨rfl, rfl⟩ := hq
  obtain ⟨hg5, H⟩ := gg_e H
  refine GV.if_ne (tgt := 22) hg5 dX11_loadPage_11 (by decide) (fun c6 => ?_) (fun c6 => ?_)
  · have H := it_t H c6
    cases H
    exact GA.vret rfl dX11_loadPage_22 (by omega) (by omega) ⟨by decide, rfl, rfl⟩
  · have H := it_f H c6
    cases H
    exact GA.throw0 xx_X11_124_126 rfl (by decide) dX11_loadPage_14 dX11_loadPage_17 dX11_loadPage_18 dX11_loadPage_21 (Nat.le_of_ble_eq_true rfl) (by decide) (by decide) ⟨by decide, exn_2.symm, rfl⟩
theorem g_X11_loadPage {l : Launch} {Z : XZ} {L : Nat → Nat} : ∀ n, P_X11_loadPage_0 l Z L n
  | 0 => fun _ _ _ _ H => no_e H
  | n + 1 => t_X11_loadPage_0 n (g_X11_loadPage n)
theorem m0_X11_loadPage {l : Launch} {Z : XZ} {L : Nat → Nat} {n d : Nat} {S : GS} {x : Int} {S1 : GS} (H : f_X11_loadPage n d 0 S [] = some (x, S1)) : GM l Z L yX11_loadPage cX11_loadPage 1 none [] d (exc x) (exs x) [.ref (L 468)] S (fun v S' => x < exB ∧ v = none ∧ S1 = S') (fun E S' => ¬ x < exB ∧ E = exn x ∧ S1 = S') := GM.of (by decide) (Nat.le_of_ble_eq_true rfl) ((g_X11_loadPage n) _ _ _ _ H)
theorem m_X11_loadPage {l : Launch} {Z : XZ} {L : Nat → Nat} {n d : Nat} {S : GS} {x : Int} {S1 : GS} (H : f_X11_loadPage n d 0 S [] = some (x, S1)) (hb : x < exB) : GM l Z L yX11_loadPage cX11_loadPage 1 none [] d 0 0 [.ref (L 468)] S (fun v S' => v = none ∧ S1 = S') (fun _ _ => False) := by
  have h := m0_X11_loadPage (l := l) (Z := Z) (L := L) H
  rw [exc_0 hb, exs_0 hb] at h
  exact h.post (fun v S9 q => q.2) (fun E S9 q => q.1 hb)
theorem mx_X11_loadPage {l : Launch} {Z : XZ} {L : Nat → Nat} {n d : Nat} {S : GS} {x : Int} {S1 : GS} (H : f_X11_loadPage n d 0 S [] = some (x, S1)) (hb : ¬ x < exB) : GM l Z L yX11_loadPage cX11_loadPage 1 none [] d 1 6 [.ref (L 468)] S (fun _ _ => False) (fun E S' => E = exn x ∧ S1 = S') := by
  have h := m0_X11_loadPage (l := l) (Z := Z) (L := L) H
  rw [exc_1 hb, exs_6 hb] at h
  exact h.post (fun v S9 q => hb q.1) (fun E S9 q => q.2)

def P_X11_node_0 (l : Launch) (Z : XZ) (L : Nat → Nat) (n : Nat) : Prop := ∀ (d : Nat) (S : GS) (a1 : Int) (a2 : Int) (a3 : Int) (x : Int) (S1 : GS), f_X11_node n d 0 S [a1, a2, a3] = some (x, S1) → GA l Z L yX11_node cX11_node 5 (some .int) [] d (exc x) (exs x) (fun v S' => x < exB ∧ v = some (.int (J x)) ∧ S1 = S') (fun E S' => ¬ x < exB ∧ E = exn x ∧ S1 = S') 0 (gl [(0, .ref (L 468)), (1, .int (J a1)), (2, .int (J a2)), (3, .int (J a3))]) [] S 0 0
set_option maxHeartbeats 4000000 in
set_option maxRecDepth 20000 in
theorem t_X11_node_0 {l : Launch} {Z : XZ} {L : Nat → Nat} (n : Nat) (ih_X11_node_0 : P_X11_node_0 l Z L n) : P_X11_node_0 l Z L (n + 1) := by
  intro d S a1 a2 a3 x S1 H
  have H : b_X11_node_0 n d (f_X11_node n) S a1 a2 a3 = some (x, S1) := H
  unfold b_X11_node_0 at H
  refine GA.aload_n dX11_node_0 rfl ?_
  refine GA.iload_n dX11_node_1 rfl ?_
  refine GA.iload_n dX11_node_2 rfl ?_
  obtain ⟨hg1, H⟩ := gg_e H
  obtain ⟨x2, S_3, hc4, H⟩ := gc_e H
  by_cases hb5 : x2 < exB
  case neg =>
    have H := it_f H hb5
    cases H
    exact GA.callV (mx_X11_documentWith hc4 hb5) xs_X11_165 dX11_node_3 gs_468 (by decide) rfl rfl (by omega) (by decide) rfl (Nat.le_of_ble_eq_true rfl) (by have := exc_1 hb5; omega) (by have := exs_6 hb5; omega) rfl (fun E S9 hx => ⟨hb5, hx⟩) (fun v S9 hq => hq.elim)
  have H := it_t H hb5
  refine GA.callV (m_X11_documentWith hc4 hb5) xs_X11_165 dX11_node_3 gs_468 (by decide) rfl rfl (by omega) (by decide) rfl (Nat.le_of_ble_eq_true rfl) (by omega) (by omega) rfl (fun E S9 hx => hx.elim) (fun v S9 hq => ?_)
  obtain ⟨rfl, rfl⟩ := hq
  refine GA.astore dX11_node_6 (by decide) ?_
  refine GA.iload_n dX11_node_8 rfl ?_
  obtain ⟨hg6, H⟩ := gg_e H
  refine GV.if_lt (tgt := 18) hg6 dX11_node_9 (by decide) (fun c7 => ?_) (fun c7 => ?_)
  · have H := it_t H c7
    cases H
    exact GA.throw0 xx_X11_117_119 rfl (by decide) dX11_node_18 dX11_node_21 dX11_node_22 dX11_node_25 (Nat.le_of_ble_eq_true rfl) (by decide) (by decide) ⟨by decide, exn_1.symm, rfl⟩
  · have H := it_f H c7
    refine GA.iload_n dX11_node_12 rfl ?_
    refine GA.bipush dX11_node_13 rfl ?_
    refine GV.icmp_le (tgt := 26) hg6 (by decide) dX11_node_15 (by decide) (fun c8 => ?_) (fun c8 => ?_)
    · have H := it_t H c8
      refine GA.aload dX11_node_26 rfl ?_
      refine GA.iload_n dX11_node_28 rfl ?_
      refine GA.iload_n dX11_node_29 rfl ?_
      obtain ⟨hg9, H⟩ := gg_e H
      obtain ⟨x10, S_11, hc12, H⟩ := gc_e H
      refine GA.callV (m_X10_about hc12) xs_X11_169 dX11_node_30 (gsT hg9) (by omega) rfl rfl (by omega) (by decide) rfl (Nat.le_of_ble_eq_true rfl) (by omega) (by omega) rfl (fun E S9 hx => hx.elim) (fun v S9 hq => ?_)
      obtain ⟨rfl, rfl⟩ := hq
      obtain ⟨hg13, H⟩ := gg_e H
      cases H
      exact GA.iret rfl dX11_node_33 (by omega) (by omega) ⟨hg13, rfl, rfl⟩
    · have H := it_f H c8
      cases H
      exact GA.throw0 xx_X11_117_119 rfl (by decide) dX11_node_18 dX11_node_21 dX11_node_22 dX11_node_25 (Nat.le_of_ble_eq_true rfl) (by decide) (by decide) ⟨by decide, exn_1.symm, rfl⟩
theorem g_X11_node {l : Launch} {Z : XZ} {L : Nat → Nat} : ∀ n, P_X11_node_0 l Z L n
  | 0 => fun _ _ _ _ _ _ _ H => no_e H
  | n + 1 => t_X11_node_0 n (g_X11_node n)
theorem m0_X11_node {l : Launch} {Z : XZ} {L : Nat → Nat} {n d : Nat} {S : GS} {a1 : Int} {a2 : Int} {a3 : Int} {x : Int} {S1 : GS} (H : f_X11_node n d 0 S [a1, a2, a3] = some (x, S1)) : GM l Z L yX11_node cX11_node 5 (some .int) [] d (exc x) (exs x) [.ref (L 468), .int (J a1), .int (J a2), .int (J a3)] S (fun v S' => x < exB ∧ v = some (.int (J x)) ∧ S1 = S') (fun E S' => ¬ x < exB ∧ E = exn x ∧ S1 = S') := GM.of (by decide) (Nat.le_of_ble_eq_true rfl) ((g_X11_node n) _ _ _ _ _ _ _ H)
theorem m_X11_node {l : Launch} {Z : XZ} {L : Nat → Nat} {n d : Nat} {S : GS} {a1 : Int} {a2 : Int} {a3 : Int} {x : Int} {S1 : GS} (H : f_X11_node n d 0 S [a1, a2, a3] = some (x, S1)) (hb : x < exB) : GM l Z L yX11_node cX11_node 5 (some .int) [] d 0 0 [.ref (L 468), .int (J a1), .int (J a2), .int (J a3)] S (fun v S' => v = some (.int (J x)) ∧ S1 = S') (fun _ _ => False) := by
  have h := m0_X11_node (l := l) (Z := Z) (L := L) H
  rw [exc_0 hb, exs_0 hb] at h
  exact h.post (fun v S9 q => q.2) (fun E S9 q => q.1 hb)
theorem mx_X11_node {l : Launch} {Z : XZ} {L : Nat → Nat} {n d : Nat} {S : GS} {a1 : Int} {a2 : Int} {a3 : Int} {x : Int} {S1 : GS} (H : f_X11_node n d 0 S [a1, a2, a3] = some (x, S1)) (hb : ¬ x < exB) : GM l Z L yX11_node cX11_node 5 (some .int) [] d 1 6 [.ref (L 468), .int (J a1), .int (J a2), .int (J a3)] S (fun _ _ => False) (fun E S' => E = exn x ∧ S1 = S') := by
  have h := m0_X11_node (l := l) (Z := Z) (L := L) H
  rw [exc_1 hb, exs_6 hb] at h
  exact h.post (fun v S9 q => hb q.1) (fun E S9 q => q.2)

def P_X11_paper_0 (l : Launch) (Z : XZ) (L : Nat → Nat) (n : Nat) : Prop := ∀ (d : Nat) (S : GS) (a1 : Int) (a2 : Int) (x : Int) (S1 : GS), f_X11_paper n d 0 S [a1, a2] = some (x, S1) → GA l Z L yX11_paper cX11_paper 6 (some .long) [] d (exc x) (exs x) (fun v S' => x < exB ∧ v = some (.long (K x)) ∧ S1 = S') (fun E S' => ¬ x < exB ∧ E = exn x ∧ S1 = S') 0 (gl [(0, .ref (L 468)), (1, .int (J a1)), (2, .int (J a2))]) [] S 0 0
def P_X11_paper_60 (l : Launch) (Z : XZ) (L : Nat → Nat) (n : Nat) : Prop := ∀ (d : Nat) (S : GS) (a1 : Int) (a2 : Int) (a3 : Int) (a5 : Int) (x : Int) (S1 : GS), f_X11_paper n d 60 S [a1, a2, a3, a5] = some (x, S1) → GA l Z L yX11_paper cX11_paper 6 (some .long) [] d (exc x) (exs x) (fun v S' => x < exB ∧ v = some (.long (K x)) ∧ S1 = S') (fun E S' => ¬ x < exB ∧ E = exn x ∧ S1 = S') 60 (gl [(0, .ref (L 468)), (1, .int (J a1)), (2, .int (J a2)), (3, .long (K a3)), (5, .int (J a5))]) [] S 0 0
set_option maxHeartbeats 4000000 in
set_option maxRecDepth 20000 in
theorem t_X11_paper_0 {l : Launch} {Z : XZ} {L : Nat → Nat} (n : Nat) (ih_X11_paper_0 : P_X11_paper_0 l Z L n) (ih_X11_paper_60 : P_X11_paper_60 l Z L n) : P_X11_paper_0 l Z L (n + 1) := by
  intro d S a1 a2 x S1 H
  have H : b_X11_paper_0 n d (f_X11_paper n) S a1 a2 = some (x, S1) := H
  unfold b_X11_paper_0 at H
  refine GA.iload_n dX11_paper_0 rfl ?_
  obtain ⟨hg1, H⟩ := gg_e H
  refine GV.if_lt (tgt := 15) hg1 dX11_paper_1 (by decide) (fun c2 => ?_) (fun c2 => ?_)
  · have H := it_t H c2
    cases H
    exact GA.throw0 xx_X11_137_139 rfl (by decide) dX11_paper_15 dX11_paper_18 dX11_paper_19 dX11_paper_22 (Nat.le_of_ble_eq_true rfl) (by decide) (by decide) ⟨by decide, exn_3.symm, rfl⟩
  · have H := it_f H c2
    refine GA.iload_n dX11_paper_4 rfl ?_
    refine GA.aload_n dX11_paper_5 rfl ?_
    refine GA.get xf_X11_19 dX11_paper_6 gs_468 (by decide) rfl ?_
    obtain ⟨hg3, H⟩ := gg_e H
    obtain ⟨x4, S_5, hc6, H⟩ := gc_e H
    refine GA.callV (m_X9_length hc6) xs_X11_120 dX11_paper_9 (gsS (by decide)) (by decide) rfl rfl (by omega) (by decide) rfl (Nat.le_of_ble_eq_true rfl) (by omega) (by omega) rfl (fun E S9 hx => hx.elim) (fun v S9 hq => ?_)
    obtain ⟨rfl, rfl⟩ := hq
    obtain ⟨hg7, H⟩ := gg_e H
    refine GV.icmp_lt (tgt := 23) hg1 hg7 dX11_paper_12 (by decide) (fun c8 => ?_) (fun c8 => ?_)
    · have H := it_t H c8
      refine GA.iload_n dX11_paper_23 rfl ?_
      refine GA.iconst dX11_paper_24 ?_
      obtain ⟨hg9, H⟩ := gg_e H
      refine GV.icmp_lt (tgt := 47) hg9 (by decide) dX11_paper_25 (by decide) (fun c10 => ?_) (fun c10 => ?_)
      · have H := it_t H c10
        cases H
        exact GA.throw0 xx_X11_117_119 rfl (by decide) dX11_paper_47 dX11_paper_50 dX11_paper_51 dX11_paper_54 (Nat.le_of_ble_eq_true rfl) (by decide) (by decide) ⟨by decide, exn_1.symm, rfl⟩
      · have H := it_f H c10
        refine GA.iload_n dX11_paper_28 rfl ?_
        refine GA.bipush dX11_paper_29 rfl ?_
        refine GV.icmp_gt (tgt := 47) hg9 (by decide) dX11_paper_31 (by decide) (fun c11 => ?_) (fun c11 => ?_)
        · have H := it_t H c11
          cases H
          exact GA.throw0 xx_X11_117_119 rfl (by decide) dX11_paper_47 dX11_paper_50 dX11_paper_51 dX11_paper_54 (Nat.le_of_ble_eq_true rfl) (by decide) (by decide) ⟨by decide, exn_1.symm, rfl⟩
        · have H := it_f H c11
          refine GA.iload_n dX11_paper_34 rfl ?_
          refine GA.aload_n dX11_paper_35 rfl ?_
          refine GA.get xf_X11_19 dX11_paper_36 gs_468 (by decide) rfl ?_
          obtain ⟨x12, S_13, hc14, H⟩ := gc_e H
          refine GA.callV (m_X9_length hc14) xs_X11_120 dX11_paper_39 (gsS (by decide)) (by decide) rfl rfl (by omega) (by decide) rfl (Nat.le_of_ble_eq_true rfl) (by omega) (by omega) rfl (fun E S9 hx => hx.elim) (fun v S9 hq => ?_)
          obtain ⟨rfl, rfl⟩ := hq
          refine GA.iload_n dX11_paper_42 rfl ?_
          obtain ⟨x15, hx16, H⟩ := gv_e H
          refine GV.isub hx16 dX11_paper_43 ?_
          obtain ⟨hg17, H⟩ := gg_e H
          refine GV.icmp_le (tgt := 55) hg9 hg17 dX11_paper_44 (by decide) (fun c18 => ?_) (fun c18 => ?_)
          · have H := it_t H c18
            refine GV.lconst (z := 0) (by decide) dX11_paper_55 ?_
            refine GA.lstore_n dX11_paper_56 (by decide) ?_
            refine GA.iconst dX11_paper_57 ?_
            refine GA.istore dX11_paper_58 (by decide) ?_
            refine GA.locals [(0, .ref (L 468)), (1, .int (J a1)), (2, .int (J a2)), (3, .long (K 0)), (5, .int (J 0))] ⟨rfl, rfl, rfl, rfl, rfl, trivial⟩ ?_
            exact ih_X11_paper_60 _ _ (a1) (a2) (0) (0) _ _ H
          · have H := it_f H c18
            cases H
            exact GA.throw0 xx_X11_117_119 rfl (by decide) dX11_paper_47 dX11_paper_50 dX11_paper_51 dX11_paper_54 (Nat.le_of_ble_eq_true rfl) (by decide) (by decide) ⟨by decide, exn_1.symm, rfl⟩
    · have H := it_f H c8
      cases H
      exact GA.throw0 xx_X11_137_139 rfl (by decide) dX11_paper_15 dX11_paper_18 dX11_paper_19 dX11_paper_22 (Nat.le_of_ble_eq_true rfl) (by decide) (by decide) ⟨by decide, exn_3.symm, rfl⟩
set_option maxHeartbeats 4000000 in
set_option maxRecDepth 20000 in
theorem t_X11_paper_60 {l : Launch} {Z : XZ} {L : Nat → Nat} (n : Nat) (ih_X11_paper_0 : P_X11_paper_0 l Z L n) (ih_X11_paper_60 : P_X11_paper_60 l Z L n) : P_X11_paper_60 l Z L (n + 1) := by
  intro d S a1 a2 a3 a5 x S1 H
  have H : b_X11_paper_60 n d (f_X11_paper n) S a1 a2 a3 a5 = some (x, S1) := H
  unfold b_X11_paper_60 at H
  refine GA.iload dX11_paper_60 rfl ?_
  refine GA.iload_n dX11_paper_62 rfl ?_
  obtain ⟨hg1, H⟩ := gg_e H
  obtain ⟨hg2, H⟩ := gg_e H
  refine GV.icmp_ge (tgt := 91) hg1 hg2 dX11_paper_63 (by decide) (fun c3 => ?_) (fun c3 => ?_)
  · have H := it_t H c3
    refine GA.lload_n dX11_paper_91 rfl ?_
    obtain ⟨hg4, H⟩ := gg_e H
    cases H
    exact GA.lret rfl dX11_paper_92 (by omega) (by omega) ⟨hg4, rfl, rfl⟩
  · have H := it_f H c3
    refine GA.lload_n dX11_paper_66 rfl ?_
    refine GV.ldc2 (z := 256) (by decide) xc_X11_140 dX11_paper_67 ?_
    obtain ⟨x5, hx6, H⟩ := gv_e H
    refine GV.lmul hx6 dX11_paper_70 ?_
    refine GA.aload_n dX11_paper_71 rfl ?_
    refine GA.get xf_X11_19 dX11_paper_72 gs_468 (by decide) rfl ?_
    refine GA.iload_n dX11_paper_75 rfl ?_
    refine GA.iload dX11_paper_76 rfl ?_
    obtain ⟨x7, hx8, H⟩ := gv_e H
    refine GV.iadd hx8 dX11_paper_78 ?_
    obtain ⟨hg9, H⟩ := gg_e H
    obtain ⟨x10, S_11, hc12, H⟩ := gc_e H
    refine GA.callV (m_X9_at hc12) xs_X11_142 dX11_paper_79 (gsS (by decide)) (by decide) rfl rfl (by omega) (by decide) rfl (Nat.le_of_ble_eq_true rfl) (by omega) (by omega) rfl (fun E S9 hx => hx.elim) (fun v S9 hq => ?_)
    obtain ⟨rfl, rfl⟩ := hq
    obtain ⟨hg13, H⟩ := gg_e H
    refine GV.i2l hg13 dX11_paper_82 ?_
    obtain ⟨x14, hx15, H⟩ := gv_e H
    refine GV.ladd hx15 dX11_paper_83 ?_
    refine GA.lstore_n dX11_paper_84 (by decide) ?_
    obtain ⟨x16, hx17, H⟩ := gv_e H
    refine GV.iinc hx17 dX11_paper_85 rfl (by decide) ?_
    refine GA.goto (tgt := 60) dX11_paper_88 (by decide) ?_
    refine GA.locals [(0, .ref (L 468)), (1, .int (J a1)), (2, .int (J a2)), (3, .long (K x14)), (5, .int (J x16))] ⟨rfl, rfl, rfl, rfl, rfl, trivial⟩ ?_
    exact ih_X11_paper_60 _ _ (a1) (a2) (x14) (x16) _ _ H
theorem g_X11_paper {l : Launch} {Z : XZ} {L : Nat → Nat} : ∀ n, P_X11_paper_0 l Z L n ∧ P_X11_paper_60 l Z L n
  | 0 => ⟨fun _ _ _ _ _ _ H => no_e H, fun _ _ _ _ _ _ _ _ H => no_e H⟩
  | n + 1 => have ⟨h0, h1⟩ := g_X11_paper (l := l) (Z := Z) (L := L) n
    ⟨t_X11_paper_0 n h0 h1, t_X11_paper_60 n h0 h1⟩
theorem m0_X11_paper {l : Launch} {Z : XZ} {L : Nat → Nat} {n d : Nat} {S : GS} {a1 : Int} {a2 : Int} {x : Int} {S1 : GS} (H : f_X11_paper n d 0 S [a1, a2] = some (x, S1)) : GM l Z L yX11_paper cX11_paper 6 (some .long) [] d (exc x) (exs x) [.ref (L 468), .int (J a1), .int (J a2)] S (fun v S' => x < exB ∧ v = some (.long (K x)) ∧ S1 = S') (fun E S' => ¬ x < exB ∧ E = exn x ∧ S1 = S') := GM.of (by decide) (Nat.le_of_ble_eq_true rfl) ((g_X11_paper n).1 _ _ _ _ _ _ H)
theorem m_X11_paper {l : Launch} {Z : XZ} {L : Nat → Nat} {n d : Nat} {S : GS} {a1 : Int} {a2 : Int} {x : Int} {S1 : GS} (H : f_X11_paper n d 0 S [a1, a2] = some (x, S1)) (hb : x < exB) : GM l Z L yX11_paper cX11_paper 6 (some .long) [] d 0 0 [.ref (L 468), .int (J a1), .int (J a2)] S (fun v S' => v = some (.long (K x)) ∧ S1 = S') (fun _ _ => False) := by
  have h := m0_X11_paper (l := l) (Z := Z) (L := L) H
  rw [exc_0 hb, exs_0 hb] at h
  exact h.post (fun v S9 q => q.2) (fun E S9 q => q.1 hb)
theorem mx_X11_paper {l : Launch} {Z : XZ} {L : Nat → Nat} {n d : Nat} {S : GS} {a1 : Int} {a2 : Int} {x : Int} {S1 : GS} (H : f_X11_paper n d 0 S [a1, a2] = some (x, S1)) (hb : ¬ x < exB) : GM l Z L yX11_paper cX11_paper 6 (some .long) [] d 1 6 [.ref (L 468), .int (J a1), .int (J a2)] S (fun _ _ => False) (fun E S' => E = exn x ∧ S1 = S') := by
  have h := m0_X11_paper (l := l) (Z := Z) (L := L) H
  rw [exc_1 hb, exs_6 hb] at h
  exact h.post (fun v S9 q => hb q.1) (fun E S9 q => q.2)

def P_X11_patch_0 (l : Launch) (Z : XZ) (L : Nat → Nat) (n : Nat) : Prop := ∀ (d : Nat) (S : GS) (a1 : Int) (a2 : Int) (x : Int) (S1 : GS), f_X11_patch n d 0 S [a1, a2] = some (x, S1) → GA l Z L yX11_patch cX11_patch 5 (some .int) [] d (exc x) (exs x) (fun v S' => x < exB ∧ v = some (.int (J x)) ∧ S1 = S') (fun E S' => ¬ x < exB ∧ E = exn x ∧ S1 = S') 0 (gl [(0, .ref (L 468)), (1, .int (J a1)), (2, .int (J a2))]) [] S 0 0
set_option maxHeartbeats 4000000 in
set_option maxRecDepth 20000 in
theorem t_X11_patch_0 {l : Launch} {Z : XZ} {L : Nat → Nat} (n : Nat) (ih_X11_patch_0 : P_X11_patch_0 l Z L n) : P_X11_patch_0 l Z L (n + 1) := by
  intro d S a1 a2 x S1 H
  have H : b_X11_patch_0 n d (f_X11_patch n) S a1 a2 = some (x, S1) := H
  unfold b_X11_patch_0 at H
  refine GA.aload_n dX11_patch_0 rfl ?_
  refine GA.iload_n dX11_patch_1 rfl ?_
  obtain ⟨hg1, H⟩ := gg_e H
  obtain ⟨x2, S_3, hc4, H⟩ := gc_e H
  by_cases hb5 : x2 < exB
  case neg =>
    have H := it_f H hb5
    cases H
    exact GA.callV (mx_X11_document hc4 hb5) xs_X11_157 dX11_patch_2 gs_468 (by decide) rfl rfl (by omega) (by decide) rfl (Nat.le_of_ble_eq_true rfl) (by have := exc_1 hb5; omega) (by have := exs_6 hb5; omega) rfl (fun E S9 hx => ⟨hb5, hx⟩) (fun v S9 hq => hq.elim)
  have H := it_t H hb5
  refine GA.callV (m_X11_document hc4 hb5) xs_X11_157 dX11_patch_2 gs_468 (by decide) rfl rfl (by omega) (by decide) rfl (Nat.le_of_ble_eq_true rfl) (by omega) (by omega) rfl (fun E S9 hx => hx.elim) (fun v S9 hq => ?_)
  obtain ⟨rfl, rfl⟩ := hq
  refine GA.astore_n dX11_patch_5 (by decide) ?_
  refine GA.aload_n dX11_patch_6 rfl ?_
  refine GA.iload_n dX11_patch_7 rfl ?_
  obtain ⟨x6, S_7, hc8, H⟩ := gc_e H
  by_cases hb9 : x6 < exB
  case neg =>
    have H := it_f H hb9
    cases H
    exact GA.callV (mx_X11_document hc8 hb9) xs_X11_157 dX11_patch_8 gs_468 (by decide) rfl rfl (by omega) (by decide) rfl (Nat.le_of_ble_eq_true rfl) (by have := exc_1 hb9; omega) (by have := exs_6 hb9; omega) rfl (fun E S9 hx => ⟨hb9, hx⟩) (fun v S9 hq => hq.elim)
  have H := it_t H hb9
  refine GA.callV (m_X11_document hc8 hb9) xs_X11_157 dX11_patch_8 gs_468 (by decide) rfl rfl (by omega) (by decide) rfl (Nat.le_of_ble_eq_true rfl) (by omega) (by omega) rfl (fun E S9 hx => hx.elim) (fun v S9 hq => ?_)
  obtain ⟨rfl, rfl⟩ := hq
  refine GA.astore dX11_patch_11 (by decide) ?_
  refine GA.aload_n dX11_patch_13 rfl ?_
  refine GA.get xf_X11_63 dX11_patch_14 gs_468 (by decide) rfl ?_
  refine GA.aload_n dX11_patch_17 rfl ?_
  refine GA.aload dX11_patch_18 rfl ?_
  refine GA.aload_n dX11_patch_20 rfl ?_
  refine GA.get xf_X11_32 dX11_patch_21 gs_468 (by decide) rfl ?_
  obtain ⟨x10, S_11, hc12, H⟩ := gc_e H
  refine GA.callV (m_X5_listTo hc12) xs_X11_245 dX11_patch_24 gs_477 (by decide) rfl rfl (by omega) (by decide) rfl (Nat.le_of_ble_eq_true rfl) (by omega) (by omega) rfl (fun E S9 hx => hx.elim) (fun v S9 hq => ?_)
  obtain ⟨rfl, rfl⟩ := hq
  refine GA.aload_n dX11_patch_27 rfl ?_
  refine GA.aload_n dX11_patch_28 rfl ?_
  refine GA.get xf_X11_32 dX11_patch_29 gs_468 (by decide) rfl ?_
  obtain ⟨x13, S_14, hc15, H⟩ := gc_e H
  by_cases hb16 : x13 < exB
  case neg =>
    have H := it_f H hb16
    cases H
    exact GA.callV (mx_X11_admit hc15 hb16) xs_X11_153 dX11_patch_32 gs_468 (by decide) rfl rfl (by omega) (by decide) rfl (Nat.le_of_ble_eq_true rfl) (by have := exc_1 hb16; omega) (by have := exs_6 hb16; omega) rfl (fun E S9 hx => ⟨hb16, hx⟩) (fun v S9 hq => hq.elim)
  have H := it_t H hb16
  refine GA.callV (m_X11_admit hc15 hb16) xs_X11_153 dX11_patch_32 gs_468 (by decide) rfl rfl (by omega) (by decide) rfl (Nat.le_of_ble_eq_true rfl) (by omega) (by omega) rfl (fun E S9 hx => hx.elim) (fun v S9 hq => ?_)
  obtain ⟨rfl, rfl⟩ := hq
  obtain ⟨hg17, H⟩ := gg_e H
  cases H
  exact GA.iret rfl dX11_patch_35 (by omega) (by omega) ⟨hg17, rfl, rfl⟩
theorem g_X11_patch {l : Launch} {Z : XZ} {L : Nat → Nat} : ∀ n, P_X11_patch_0 l Z L n
  | 0 => fun _ _ _ _ _ _ H => no_e H
  | n + 1 => t_X11_patch_0 n (g_X11_patch n)
theorem m0_X11_patch {l : Launch} {Z : XZ} {L : Nat → Nat} {n d : Nat} {S : GS} {a1 : Int} {a2 : Int} {x : Int} {S1 : GS} (H : f_X11_patch n d 0 S [a1, a2] = some (x, S1)) : GM l Z L yX11_patch cX11_patch 5 (some .int) [] d (exc x) (exs x) [.ref (L 468), .int (J a1), .int (J a2)] S (fun v S' => x < exB ∧ v = some (.int (J x)) ∧ S1 = S') (fun E S' => ¬ x < exB ∧ E = exn x ∧ S1 = S') := GM.of (by decide) (Nat.le_of_ble_eq_true rfl) ((g_X11_patch n) _ _ _ _ _ _ H)
theorem m_X11_patch {l : Launch} {Z : XZ} {L : Nat → Nat} {n d : Nat} {S : GS} {a1 : Int} {a2 : Int} {x : Int} {S1 : GS} (H : f_X11_patch n d 0 S [a1, a2] = some (x, S1)) (hb : x < exB) : GM l Z L yX11_patch cX11_patch 5 (some .int) [] d 0 0 [.ref (L 468), .int (J a1), .int (J a2)] S (fun v S' => v = some (.int (J x)) ∧ S1 = S') (fun _ _ => False) := by
  have h := m0_X11_patch (l := l) (Z := Z) (L := L) H
  rw [exc_0 hb, exs_0 hb] at h
  exact h.post (fun v S9 q => q.2) (fun E S9 q => q.1 hb)
theorem mx_X11_patch {l : Launch} {Z : XZ} {L : Nat → Nat} {n d : Nat} {S : GS} {a1 : Int} {a2 : Int} {x : Int} {S1 : GS} (H : f_X11_patch n d 0 S [a1, a2] = some (x, S1)) (hb : ¬ x < exB) : GM l Z L yX11_patch cX11_patch 5 (some .int) [] d 1 6 [.ref (L 468), .int (J a1), .int (J a2)] S (fun _ _ => False) (fun E S' => E = exn x ∧ S1 = S') := by
  have h := m0_X11_patch (l := l) (Z := Z) (L := L) H
  rw [exc_1 hb, exs_6 hb] at h
  exact h.post (fun v S9 q => hb q.1) (fun E S9 q => q.2)

def P_X11_print_0 (l : Launch) (Z : XZ) (L : Nat → Nat) (n : Nat) : Prop := ∀ (d : Nat) (S : GS) (a1 : Int) (a2 : Int) (x : Int) (S1 : GS), f_X11_print n d 0 S [a1, a2] = some (x, S1) → GA l Z L yX11_print cX11_print 4 (some .int) [] d (exc x) (exs x) (fun v S' => x < exB ∧ v = some (.int (J x)) ∧ S1 = S') (fun E S' => ¬ x < exB ∧ E = exn x ∧ S1 = S') 0 (gl [(0, .ref (L 468)), (1, .int (J a1)), (2, .int (J a2))]) [] S 0 0
set_option maxHeartbeats 4000000 in
set_option maxRecDepth 20000 in
theorem t_X11_print_0 {l : Launch} {Z : XZ} {L : Nat → Nat} (n : Nat) (ih_X11_print_0 : P_X11_print_0 l Z L n) : P_X11_print_0 l Z L (n + 1) := by
  intro d S a1 a2 x S1 H
  have H : b_X11_print_0 n d (f_X11_print n) S a1 a2 = some (x, S1) := H
  unfold b_X11_print_0 at H
  refine GA.aload_n dX11_print_0 rfl ?_
  refine GA.iload_n dX11_print_1 rfl ?_
  obtain ⟨hg1, H⟩ := gg_e H
  obtain ⟨x2, S_3, hc4, H⟩ := gc_e H
  by_cases hb5 : x2 < exB
  case neg =>
    have H := it_f H hb5
    cases H
    exact GA.callV (mx_X11_document hc4 hb5) xs_X11_157 dX11_print_2 gs_468 (by decide) rfl rfl (by omega) (by decide) rfl (Nat.le_of_ble_eq_true rfl) (by have := exc_1 hb5; omega) (by have := exs_6 hb5; omega) rfl (fun E S9 hx => ⟨hb5, hx⟩) (fun v S9 hq => hq.elim)
  have H := it_t H hb5
  refine GA.callV (m_X11_document hc4 hb5) xs_X11_157 dX11_print_2 gs_468 (by decide) rfl rfl (by omega) (by decide) rfl (Nat.le_of_ble_eq_true rfl) (by omega) (by omega) rfl (fun E S9 hx => hx.elim) (fun v S9 hq => ?_)
  obtain ⟨rfl, rfl⟩ := hq
  refine GA.astore_n dX11_print_5 (by decide) ?_
  refine GA.iload_n dX11_print_6 rfl ?_
  obtain ⟨hg6, H⟩ := gg_e H
  refine GV.if_lt (tgt := 15) hg6 dX11_print_7 (by decide) (fun c7 => ?_) (fun c7 => ?_)
  · have H := it_t H c7
    cases H
    exact GA.throw0 xx_X11_117_119 rfl (by decide) dX11_print_15 dX11_print_18 dX11_print_19 dX11_print_22 (Nat.le_of_ble_eq_true rfl) (by decide) (by decide) ⟨by decide, exn_1.symm, rfl⟩
  · have H := it_f H c7
    refine GA.iload_n dX11_print_10 rfl ?_
    refine GA.iconst dX11_print_11 ?_
    refine GV.icmp_le (tgt := 23) hg6 (by decide) dX11_print_12 (by decide) (fun c8 => ?_) (fun c8 => ?_)
    · have H := it_t H c8
      refine GA.aload_n dX11_print_23 rfl ?_
      refine GA.get xf_X11_19 dX11_print_24 gs_468 (by decide) rfl ?_
      obtain ⟨x9, S_10, hc11, H⟩ := gc_e H
      refine GA.callV (m_X9_clear hc11) xs_X11_134 dX11_print_27 (gsS (by decide)) (by decide) rfl rfl (by omega) (by decide) rfl (Nat.le_of_ble_eq_true rfl) (by omega) (by omega) rfl (fun E S9 hx => hx.elim) (fun v S9 hq => ?_)
      obtain ⟨rfl, rfl⟩ := hq
      refine GA.aload_n dX11_print_30 rfl ?_
      refine GA.iconst dX11_print_31 ?_
      refine GA.iload_n dX11_print_32 rfl ?_
      refine GA.iconst dX11_print_33 ?_
      refine GA.aload_n dX11_print_34 rfl ?_
      refine GA.get xf_X11_19 dX11_print_35 gs_468 (by decide) rfl ?_
      obtain ⟨x12, S_13, hc14, H⟩ := gc_e H
      refine GA.callSN (m_X8_value hc14) xs_X11_161 dX11_print_38 rfl (by omega) (by decide) rfl (Nat.le_of_ble_eq_true rfl) (by omega) (by omega) rfl (fun E S9 hx => hx.elim) (fun v S9 hq => ?_)
      obtain ⟨rfl, rfl⟩ := hq
      refine GA.aload_n dX11_print_41 rfl ?_
      refine GA.get xf_X11_19 dX11_print_42 gs_468 (by decide) rfl ?_
      obtain ⟨x15, S_16, hc17, H⟩ := gc_e H
      refine GA.callV (m_X9_length hc17) xs_X11_120 dX11_print_45 (gsS (by decide)) (by decide) rfl rfl (by omega) (by decide) rfl (Nat.le_of_ble_eq_true rfl) (by omega) (by omega) rfl (fun E S9 hx => hx.elim) (fun v S9 hq => ?_)
      obtain ⟨rfl, rfl⟩ := hq
      obtain ⟨hg18, H⟩ := gg_e H
      cases H
      exact GA.iret rfl dX11_print_48 (by omega) (by omega) ⟨hg18, rfl, rfl⟩
    · have H := it_f H c8
      cases H
      exact GA.throw0 xx_X11_117_119 rfl (by decide) dX11_print_15 dX11_print_18 dX11_print_19 dX11_print_22 (Nat.le_of_ble_eq_true rfl) (by decide) (by decide) ⟨by decide, exn_1.symm, rfl⟩
theorem g_X11_print {l : Launch} {Z : XZ} {L : Nat → Nat} : ∀ n, P_X11_print_0 l Z L n
  | 0 => fun _ _ _ _ _ _ H => no_e H
  | n + 1 => t_X11_print_0 n (g_X11_print n)
theorem m0_X11_print {l : Launch} {Z : XZ} {L : Nat → Nat} {n d : Nat} {S : GS} {a1 : Int} {a2 : Int} {x : Int} {S1 : GS} (H : f_X11_print n d 0 S [a1, a2] = some (x, S1)) : GM l Z L yX11_print cX11_print 4 (some .int) [] d (exc x) (exs x) [.ref (L 468), .int (J a1), .int (J a2)] S (fun v S' => x < exB ∧ v = some (.int (J x)) ∧ S1 = S') (fun E S' => ¬ x < exB ∧ E = exn x ∧ S1 = S') := GM.of (by decide) (Nat.le_of_ble_eq_true rfl) ((g_X11_print n) _ _ _ _ _ _ H)
theorem m_X11_print {l : Launch} {Z : XZ} {L : Nat → Nat} {n d : Nat} {S : GS} {a1 : Int} {a2 : Int} {x : Int} {S1 : GS} (H : f_X11_print n d 0 S [a1, a2] = some (x, S1)) (hb : x < exB) : GM l Z L yX11_print cX11_print 4 (some .int) [] d 0 0 [.ref (L 468), .int (J a1), .int (J a2)] S (fun v S' => v = some (.int (J x)) ∧ S1 = S') (fun _ _ => False) := by
  have h := m0_X11_print (l := l) (Z := Z) (L := L) H
  rw [exc_0 hb, exs_0 hb] at h
  exact h.post (fun v S9 q => q.2) (fun E S9 q => q.1 hb)
theorem mx_X11_print {l : Launch} {Z : XZ} {L : Nat → Nat} {n d : Nat} {S : GS} {a1 : Int} {a2 : Int} {x : Int} {S1 : GS} (H : f_X11_print n d 0 S [a1, a2] = some (x, S1)) (hb : ¬ x < exB) : GM l Z L yX11_print cX11_print 4 (some .int) [] d 1 6 [.ref (L 468), .int (J a1), .int (J a2)] S (fun _ _ => False) (fun E S' => E = exn x ∧ S1 = S') := by
  have h := m0_X11_print (l := l) (Z := Z) (L := L) H
  rw [exc_1 hb, exs_6 hb] at h
  exact h.post (fun v S9 q => hb q.1) (fun E S9 q => q.2)

def P_X11_quarrels_0 (l : Launch) (Z : XZ) (L : Nat → Nat) (n : Nat) : Prop := ∀ (d : Nat) (S : GS) (x : Int) (S1 : GS), f_X11_quarrels n d 0 S [] = some (x, S1) → GA l Z L yX11_quarrels cX11_quarrels 1 (some .int) [] d 0 0 (fun v S' => v = some (.int (J x)) ∧ S1 = S') (fun _ _ => False) 0 (gl [(0, .ref (L 468))]) [] S 0 0
theorem i_X11_quarrels {l : Launch} {Z : XZ} {L : Nat → Nat} {n : Nat} (ih : P_X11_quarrels_0 l Z L n) {d : Nat} {S : GS} {x : Int} {S1 : GS} (H : f_X11_quarrels n d 0 S [] = some (x, S1)) : GM l Z L yX11_quarrels cX11_quarrels 1 (some .int) [] d 0 0 [.ref (L 468)] S (fun v S' => v = some (.int (J x)) ∧ S1 = S') (fun _ _ => False) := GM.of (by decide) (Nat.le_of_ble_eq_true rfl) (ih _ _ _ _ H)
set_option maxHeartbeats 4000000 in
set_option maxRecDepth 20000 in
theorem t_X11_quarrels_0 {l : Launch} {Z : XZ} {L : Nat → Nat} (n : Nat) (ih_X11_quarrels_0 : P_X11_quarrels_0 l Z L n) : P_X11_quarrels_0 l Z L (n + 1) := by
  intro d S  x S1 H
  have H : b_X11_quarrels_0 n d (f_X11_quarrels n) S  = some (x, S1) := H
  unfold b_X11_quarrels_0 at H
  refine GA.aload_n dX11_quarrels_0 rfl ?_
  refine GA.get xf_X11_77 dX11_quarrels_1 gs_468 (by decide) rfl ?_
  obtain ⟨hg1, H⟩ := gg_e H
  obtain ⟨x2, S_3, hc4, H⟩ := gc_e H
  refine GA.callV (m_X4_count hc4) xs_X11_260 dX11_quarrels_4 gs_485 (by decide) rfl rfl (by omega) (by decide) rfl (Nat.le_of_ble_eq_true rfl) (by omega) (by omega) rfl (fun E S9 hx => hx.elim) (fun v S9 hq => ?_)
  obtain ⟨rfl, rfl⟩ := hq
  cases H
  exact GA.iret rfl dX11_quarrels_7 (by omega) (by omega) ⟨rfl, rfl⟩
theorem g_X11_quarrels {l : Launch} {Z : XZ} {L : Nat → Nat} : ∀ n, P_X11_quarrels_0 l Z L n
  | 0 => fun _ _ _ _ H => no_e H
  | n + 1 => t_X11_quarrels_0 n (g_X11_quarrels n)
theorem m_X11_quarrels {l : Launch} {Z : XZ} {L : Nat → Nat} {n d : Nat} {S : GS} {x : Int} {S1 : GS} (H : f_X11_quarrels n d 0 S [] = some (x, S1)) : GM l Z L yX11_quarrels cX11_quarrels 1 (some .int) [] d 0 0 [.ref (L 468)] S (fun v S' => v = some (.int (J x)) ∧ S1 = S') (fun _ _ => False) := GM.of (by decide) (Nat.le_of_ble_eq_true rfl) ((g_X11_quarrels n) _ _ _ _ H)

def P_X11_read_0 (l : Launch) (Z : XZ) (L : Nat → Nat) (n : Nat) : Prop := ∀ (d : Nat) (S : GS) (x : Int) (S1 : GS), f_X11_read n d 0 S [] = some (x, S1) → GA l Z L yX11_read cX11_read 2 (some .int) [] d (exc x) (exs x) (fun v S' => x < exB ∧ v = some (.int (J x)) ∧ S1 = S') (fun E S' => ¬ x < exB ∧ E = exn x ∧ S1 = S') 0 (gl [(0, .ref (L 468))]) [] S 0 0
set_option maxHeartbeats 4000000 in
set_option maxRecDepth 20000 in
theorem t_X11_read_0 {l : Launch} {Z : XZ} {L : Nat → Nat} (n : Nat) (ih_X11_read_0 : P_X11_read_0 l Z L n) : P_X11_read_0 l Z L (n + 1) := by
  intro d S  x S1 H
  have H : b_X11_read_0 n d (f_X11_read n) S  = some (x, S1) := H
  unfold b_X11_read_0 at H
  refine GA.aload_n dX11_read_0 rfl ?_
  obtain ⟨x1, hx2, H⟩ := gv_e H
  refine GV.getI hx2 xf_X11_150 dX11_read_1 gs_468 (by decide) rfl ?_
  refine GA.bipush dX11_read_4 rfl ?_
  obtain ⟨hg3, H⟩ := gg_e H
  refine GV.icmp_lt (tgt := 17) hg3 (by decide) dX11_read_6 (by decide) (fun c4 => ?_) (fun c4 => ?_)
  · have H := it_t H c4
    refine GA.aload_n dX11_read_17 rfl ?_
    refine GA.get xf_X11_42 dX11_read_18 gs_468 (by decide) rfl ?_
    refine GA.aload_n dX11_read_21 rfl ?_
    refine GA.get xf_X11_14 dX11_read_22 gs_468 (by decide) rfl ?_
    refine GA.aload_n dX11_read_25 rfl ?_
    obtain ⟨x5, hx6, H⟩ := gv_e H
    refine GV.getI hx6 xf_X11_146 dX11_read_26 gs_468 (by decide) rfl ?_
    obtain ⟨hg7, H⟩ := gg_e H
    obtain ⟨x8, S_9, hc10, H⟩ := gc_e H
    refine GA.callV (m_X6_parse hc10) xs_X11_101 dX11_read_29 gs_470 (by decide) rfl rfl (by omega) (by decide) rfl (Nat.le_of_ble_eq_true rfl) (by omega) (by omega) rfl (fun E S9 hx => hx.elim) (fun v S9 hq => ?_)
    obtain ⟨rfl, rfl⟩ := hq
    refine GA.istore_n dX11_read_32 (by decide) ?_
    refine GA.aload_n dX11_read_33 rfl ?_
    refine GA.get xf_X11_14 dX11_read_34 gs_468 (by decide) rfl ?_
    obtain ⟨x11, S_12, hc13, H⟩ := gc_e H
    refine GA.callV (m_X9_clear hc13) xs_X11_134 dX11_read_37 (gsS (by decide)) (by decide) rfl rfl (by omega) (by decide) rfl (Nat.le_of_ble_eq_true rfl) (by omega) (by omega) rfl (fun E S9 hx => hx.elim) (fun v S9 hq => ?_)
    obtain ⟨rfl, rfl⟩ := hq
    refine GA.iload_n dX11_read_40 rfl ?_
    refine GA.iconst dX11_read_41 ?_
    obtain ⟨hg14, H⟩ := gg_e H
    refine GV.icmp_eq (tgt := 50) hg14 (by decide) dX11_read_42 (by decide) (fun c15 => ?_) (fun c15 => ?_)
    · have H := it_t H c15
      refine GA.aload_n dX11_read_50 rfl ?_
      refine GA.aload_n dX11_read_51 rfl ?_
      refine GA.get xf_X11_42 dX11_read_52 gs_468 (by decide) rfl ?_
      obtain ⟨x16, S_17, hc18, H⟩ := gc_e H
      refine GA.callV (m_X6_result hc18) xs_X11_105 dX11_read_55 gs_470 (by decide) rfl rfl (by omega) (by decide) rfl (Nat.le_of_ble_eq_true rfl) (by omega) (by omega) rfl (fun E S9 hx => hx.elim) (fun v S9 hq => ?_)
      obtain ⟨rfl, rfl⟩ := hq
      obtain ⟨x19, S_20, hc21, H⟩ := gc_e H
      by_cases hb22 : x19 < exB
      case neg =>
        have H := it_f H hb22
        cases H
        exact GA.callV (mx_X11_admit hc21 hb22) xs_X11_153 dX11_read_58 gs_468 (by decide) rfl rfl (by omega) (by decide) rfl (Nat.le_of_ble_eq_true rfl) (by have := exc_1 hb22; omega) (by have := exs_6 hb22; omega) rfl (fun E S9 hx => ⟨hb22, hx⟩) (fun v S9 hq => hq.elim)
      have H := it_t H hb22
      refine GA.callV (m_X11_admit hc21 hb22) xs_X11_153 dX11_read_58 gs_468 (by decide) rfl rfl (by omega) (by decide) rfl (Nat.le_of_ble_eq_true rfl) (by omega) (by omega) rfl (fun E S9 hx => hx.elim) (fun v S9 hq => ?_)
      obtain ⟨rfl, rfl⟩ := hq
      obtain ⟨hg23, H⟩ := gg_e H
      cases H
      exact GA.iret rfl dX11_read_61 (by omega) (by omega) ⟨hg23, rfl, rfl⟩
    · have H := it_f H c15
      refine GA.bipush dX11_read_45 rfl ?_
      refine GA.iload_n dX11_read_47 rfl ?_
      obtain ⟨x24, hx25, H⟩ := gv_e H
      refine GV.isub hx25 dX11_read_48 ?_
      obtain ⟨hg26, H⟩ := gg_e H
      cases H
      exact GA.iret rfl dX11_read_49 (by omega) (by omega) ⟨hg26, rfl, rfl⟩
  · have H := it_f H c4
    cases H
    exact GA.throw0 xx_X11_124_126 rfl (by decide) dX11_read_9 dX11_read_12 dX11_read_13 dX11_read_16 (Nat.le_of_ble_eq_true rfl) (by decide) (by decide) ⟨by decide, exn_2.symm, rfl⟩
theorem g_X11_read {l : Launch} {Z : XZ} {L : Nat → Nat} : ∀ n, P_X11_read_0 l Z L n
  | 0 => fun _ _ _ _ H => no_e H
  | n + 1 => t_X11_read_0 n (g_X11_read n)
theorem m0_X11_read {l : Launch} {Z : XZ} {L : Nat → Nat} {n d : Nat} {S : GS} {x : Int} {S1 : GS} (H : f_X11_read n d 0 S [] = some (x, S1)) : GM l Z L yX11_read cX11_read 2 (some .int) [] d (exc x) (exs x) [.ref (L 468)] S (fun v S' => x < exB ∧ v = some (.int (J x)) ∧ S1 = S') (fun E S' => ¬ x < exB ∧ E = exn x ∧ S1 = S') := GM.of (by decide) (Nat.le_of_ble_eq_true rfl) ((g_X11_read n) _ _ _ _ H)
theorem m_X11_read {l : Launch} {Z : XZ} {L : Nat → Nat} {n d : Nat} {S : GS} {x : Int} {S1 : GS} (H : f_X11_read n d 0 S [] = some (x, S1)) (hb : x < exB) : GM l Z L yX11_read cX11_read 2 (some .int) [] d 0 0 [.ref (L 468)] S (fun v S' => v = some (.int (J x)) ∧ S1 = S') (fun _ _ => False) := by
  have h := m0_X11_read (l := l) (Z := Z) (L := L) H
  rw [exc_0 hb, exs_0 hb] at h
  exact h.post (fun v S9 q => q.2) (fun E S9 q => q.1 hb)
theorem mx_X11_read {l : Launch} {Z : XZ} {L : Nat → Nat} {n d : Nat} {S : GS} {x : Int} {S1 : GS} (H : f_X11_read n d 0 S [] = some (x, S1)) (hb : ¬ x < exB) : GM l Z L yX11_read cX11_read 2 (some .int) [] d 1 6 [.ref (L 468)] S (fun _ _ => False) (fun E S' => E = exn x ∧ S1 = S') := by
  have h := m0_X11_read (l := l) (Z := Z) (L := L) H
  rw [exc_1 hb, exs_6 hb] at h
  exact h.post (fun v S9 q => hb q.1) (fun E S9 q => q.2)

def P_X11_select_0 (l : Launch) (Z : XZ) (L : Nat → Nat) (n : Nat) : Prop := ∀ (d : Nat) (S : GS) (a1 : Int) (x : Int) (S1 : GS), f_X11_select n d 0 S [a1] = some (x, S1) → GA l Z L yX11_select cX11_select 3 (some .int) [] d (exc x) (exs x) (fun v S' => x < exB ∧ v = some (.int (J x)) ∧ S1 = S') (fun E S' => ¬ x < exB ∧ E = exn x ∧ S1 = S') 0 (gl [(0, .ref (L 468)), (1, .int (J a1))]) [] S 0 0
set_option maxHeartbeats 4000000 in
set_option maxRecDepth 20000 in
theorem t_X11_select_0 {l : Launch} {Z : XZ} {L : Nat → Nat} (n : Nat) (ih_X11_select_0 : P_X11_select_0 l Z L n) : P_X11_select_0 l Z L (n + 1) := by
  intro d S a1 x S1 H
  have H : b_X11_select_0 n d (f_X11_select n) S a1 = some (x, S1) := H
  unfold b_X11_select_0 at H
  refine GA.aload_n dX11_select_0 rfl ?_
  refine GA.iload_n dX11_select_1 rfl ?_
  obtain ⟨hg1, H⟩ := gg_e H
  obtain ⟨x2, S_3, hc4, H⟩ := gc_e H
  by_cases hb5 : x2 < exB
  case neg =>
    have H := it_f H hb5
    cases H
    exact GA.callV (mx_X11_document hc4 hb5) xs_X11_157 dX11_select_2 gs_468 (by decide) rfl rfl (by omega) (by decide) rfl (Nat.le_of_ble_eq_true rfl) (by have := exc_1 hb5; omega) (by have := exs_6 hb5; omega) rfl (fun E S9 hx => ⟨hb5, hx⟩) (fun v S9 hq => hq.elim)
  have H := it_t H hb5
  refine GA.callV (m_X11_document hc4 hb5) xs_X11_157 dX11_select_2 gs_468 (by decide) rfl rfl (by omega) (by decide) rfl (Nat.le_of_ble_eq_true rfl) (by omega) (by omega) rfl (fun E S9 hx => hx.elim) (fun v S9 hq => ?_)
  obtain ⟨rfl, rfl⟩ := hq
  refine GA.astore_n dX11_select_5 (by decide) ?_
  refine GA.aload_n dX11_select_6 rfl ?_
  obtain ⟨x6, S_7, hc8, H⟩ := gc_e H
  by_cases hb9 : x6 < exB
  case neg =>
    have H := it_f H hb9
    cases H
    exact GA.callV (mx_X11_loadPage hc8 hb9) xs_X11_216 dX11_select_7 gs_468 (by decide) rfl rfl (by omega) (by decide) rfl (Nat.le_of_ble_eq_true rfl) (by have := exc_1 hb9; omega) (by have := exs_6 hb9; omega) rfl (fun E S9 hx => ⟨hb9, hx⟩) (fun v S9 hq => hq.elim)
  have H := it_t H hb9
  refine GA.callV (m_X11_loadPage hc8 hb9) xs_X11_216 dX11_select_7 gs_468 (by decide) rfl rfl (by omega) (by decide) rfl (Nat.le_of_ble_eq_true rfl) (by omega) (by omega) rfl (fun E S9 hx => hx.elim) (fun v S9 hq => ?_)
  obtain ⟨rfl, rfl⟩ := hq
  refine GA.aload_n dX11_select_10 rfl ?_
  refine GA.get xf_X11_14 dX11_select_11 gs_468 (by decide) rfl ?_
  obtain ⟨x10, S_11, hc12, H⟩ := gc_e H
  refine GA.callV (m_X9_clear hc12) xs_X11_134 dX11_select_14 (gsS (by decide)) (by decide) rfl rfl (by omega) (by decide) rfl (Nat.le_of_ble_eq_true rfl) (by omega) (by omega) rfl (fun E S9 hx => hx.elim) (fun v S9 hq => ?_)
  obtain ⟨rfl, rfl⟩ := hq
  refine GA.aload_n dX11_select_17 rfl ?_
  refine GA.get xf_X11_56 dX11_select_18 gs_468 (by decide) rfl ?_
  refine GA.aload_n dX11_select_21 rfl ?_
  refine GA.aload_n dX11_select_22 rfl ?_
  refine GA.get xf_X11_49 dX11_select_23 gs_468 (by decide) rfl ?_
  obtain ⟨x13, S_14, hc15, H⟩ := gc_e H
  refine GA.callV (m_X2_seek hc15) xs_X11_219 dX11_select_26 gs_473 (by decide) rfl rfl (by omega) (by decide) rfl (Nat.le_of_ble_eq_true rfl) (by omega) (by omega) rfl (fun E S9 hx => hx.elim) (fun v S9 hq => ?_)
  obtain ⟨rfl, rfl⟩ := hq
  refine GA.aload_n dX11_select_29 rfl ?_
  refine GA.get xf_X11_56 dX11_select_30 gs_468 (by decide) rfl ?_
  obtain ⟨x16, S_17, hc18, H⟩ := gc_e H
  refine GA.callV (m_X2_count hc18) xs_X11_223 dX11_select_33 gs_473 (by decide) rfl rfl (by omega) (by decide) rfl (Nat.le_of_ble_eq_true rfl) (by omega) (by omega) rfl (fun E S9 hx => hx.elim) (fun v S9 hq => ?_)
  obtain ⟨rfl, rfl⟩ := hq
  obtain ⟨hg19, H⟩ := gg_e H
  cases H
  exact GA.iret rfl dX11_select_36 (by omega) (by omega) ⟨hg19, rfl, rfl⟩
theorem g_X11_select {l : Launch} {Z : XZ} {L : Nat → Nat} : ∀ n, P_X11_select_0 l Z L n
  | 0 => fun _ _ _ _ _ H => no_e H
  | n + 1 => t_X11_select_0 n (g_X11_select n)
theorem m0_X11_select {l : Launch} {Z : XZ} {L : Nat → Nat} {n d : Nat} {S : GS} {a1 : Int} {x : Int} {S1 : GS} (H : f_X11_select n d 0 S [a1] = some (x, S1)) : GM l Z L yX11_select cX11_select 3 (some .int) [] d (exc x) (exs x) [.ref (L 468), .int (J a1)] S (fun v S' => x < exB ∧ v = some (.int (J x)) ∧ S1 = S') (fun E S' => ¬ x < exB ∧ E = exn x ∧ S1 = S') := GM.of (by decide) (Nat.le_of_ble_eq_true rfl) ((g_X11_select n) _ _ _ _ _ H)
theorem m_X11_select {l : Launch} {Z : XZ} {L : Nat → Nat} {n d : Nat} {S : GS} {a1 : Int} {x : Int} {S1 : GS} (H : f_X11_select n d 0 S [a1] = some (x, S1)) (hb : x < exB) : GM l Z L yX11_select cX11_select 3 (some .int) [] d 0 0 [.ref (L 468), .int (J a1)] S (fun v S' => v = some (.int (J x)) ∧ S1 = S') (fun _ _ => False) := by
  have h := m0_X11_select (l := l) (Z := Z) (L := L) H
  rw [exc_0 hb, exs_0 hb] at h
  exact h.post (fun v S9 q => q.2) (fun E S9 q => q.1 hb)
theorem mx_X11_select {l : Launch} {Z : XZ} {L : Nat → Nat} {n d : Nat} {S : GS} {a1 : Int} {x : Int} {S1 : GS} (H : f_X11_select n d 0 S [a1] = some (x, S1)) (hb : ¬ x < exB) : GM l Z L yX11_select cX11_select 3 (some .int) [] d 1 6 [.ref (L 468), .int (J a1)] S (fun _ _ => False) (fun E S' => E = exn x ∧ S1 = S') := by
  have h := m0_X11_select (l := l) (Z := Z) (L := L) H
  rw [exc_1 hb, exs_6 hb] at h
  exact h.post (fun v S9 q => hb q.1) (fun E S9 q => q.2)

def P_X11_sorted_0 (l : Launch) (Z : XZ) (L : Nat → Nat) (n : Nat) : Prop := ∀ (d : Nat) (S : GS) (a1 : Int) (x : Int) (S1 : GS), f_X11_sorted n d 0 S [a1] = some (x, S1) → GA l Z L yX11_sorted cX11_sorted 3 (some .int) [] d (exc x) (exs x) (fun v S' => x < exB ∧ v = some (.int (J x)) ∧ S1 = S') (fun E S' => ¬ x < exB ∧ E = exn x ∧ S1 = S') 0 (gl [(0, .ref (L 468)), (1, .int (J a1))]) [] S 0 0
set_option maxHeartbeats 4000000 in
set_option maxRecDepth 20000 in
theorem t_X11_sorted_0 {l : Launch} {Z : XZ} {L : Nat → Nat} (n : Nat) (ih_X11_sorted_0 : P_X11_sorted_0 l Z L n) : P_X11_sorted_0 l Z L (n + 1) := by
  intro d S a1 x S1 H
  have H : b_X11_sorted_0 n d (f_X11_sorted n) S a1 = some (x, S1) := H
  unfold b_X11_sorted_0 at H
  refine GA.aload_n dX11_sorted_0 rfl ?_
  refine GA.iload_n dX11_sorted_1 rfl ?_
  obtain ⟨hg1, H⟩ := gg_e H
  obtain ⟨x2, S_3, hc4, H⟩ := gc_e H
  by_cases hb5 : x2 < exB
  case neg =>
    have H := it_f H hb5
    cases H
    exact GA.callV (mx_X11_document hc4 hb5) xs_X11_157 dX11_sorted_2 gs_468 (by decide) rfl rfl (by omega) (by decide) rfl (Nat.le_of_ble_eq_true rfl) (by have := exc_1 hb5; omega) (by have := exs_6 hb5; omega) rfl (fun E S9 hx => ⟨hb5, hx⟩) (fun v S9 hq => hq.elim)
  have H := it_t H hb5
  refine GA.callV (m_X11_document hc4 hb5) xs_X11_157 dX11_sorted_2 gs_468 (by decide) rfl rfl (by omega) (by decide) rfl (Nat.le_of_ble_eq_true rfl) (by omega) (by omega) rfl (fun E S9 hx => hx.elim) (fun v S9 hq => ?_)
  obtain ⟨rfl, rfl⟩ := hq
  refine GA.astore_n dX11_sorted_5 (by decide) ?_
  refine GA.aload_n dX11_sorted_6 rfl ?_
  refine GA.get xf_X11_32 dX11_sorted_7 gs_468 (by decide) rfl ?_
  obtain ⟨x6, S_7, hc8, H⟩ := gc_e H
  refine GA.callV (m_X10_clear hc8) xs_X11_202 dX11_sorted_10 (gsT (by decide)) (by decide) rfl rfl (by omega) (by decide) rfl (Nat.le_of_ble_eq_true rfl) (by omega) (by omega) rfl (fun E S9 hx => hx.elim) (fun v S9 hq => ?_)
  obtain ⟨rfl, rfl⟩ := hq
  refine GA.aload_n dX11_sorted_13 rfl ?_
  refine GA.get xf_X11_32 dX11_sorted_14 gs_468 (by decide) rfl ?_
  refine GA.aload_n dX11_sorted_17 rfl ?_
  refine GA.iconst dX11_sorted_18 ?_
  refine GA.iconst dX11_sorted_19 ?_
  obtain ⟨x9, S_10, hc11, H⟩ := gc_e H
  refine GA.callN (m_X10_appendInOrder hc11) xs_X11_203 dX11_sorted_20 (gsT (by decide)) (by decide) rfl rfl (by omega) (by decide) rfl (Nat.le_of_ble_eq_true rfl) (by omega) (by omega) rfl (fun E S9 hx => hx.elim) (fun v S9 hq => ?_)
  obtain ⟨rfl, rfl⟩ := hq
  refine GA.aload_n dX11_sorted_23 rfl ?_
  refine GA.aload_n dX11_sorted_24 rfl ?_
  refine GA.get xf_X11_32 dX11_sorted_25 gs_468 (by decide) rfl ?_
  obtain ⟨x12, S_13, hc14, H⟩ := gc_e H
  by_cases hb15 : x12 < exB
  case neg =>
    have H := it_f H hb15
    cases H
    exact GA.callV (mx_X11_admit hc14 hb15) xs_X11_153 dX11_sorted_28 gs_468 (by decide) rfl rfl (by omega) (by decide) rfl (Nat.le_of_ble_eq_true rfl) (by have := exc_1 hb15; omega) (by have := exs_6 hb15; omega) rfl (fun E S9 hx => ⟨hb15, hx⟩) (fun v S9 hq => hq.elim)
  have H := it_t H hb15
  refine GA.callV (m_X11_admit hc14 hb15) xs_X11_153 dX11_sorted_28 gs_468 (by decide) rfl rfl (by omega) (by decide) rfl (Nat.le_of_ble_eq_true rfl) (by omega) (by omega) rfl (fun E S9 hx => hx.elim) (fun v S9 hq => ?_)
  obtain ⟨rfl, rfl⟩ := hq
  obtain ⟨hg16, H⟩ := gg_e H
  cases H
  exact GA.iret rfl dX11_sorted_31 (by omega) (by omega) ⟨hg16, rfl, rfl⟩
theorem g_X11_sorted {l : Launch} {Z : XZ} {L : Nat → Nat} : ∀ n, P_X11_sorted_0 l Z L n
  | 0 => fun _ _ _ _ _ H => no_e H
  | n + 1 => t_X11_sorted_0 n (g_X11_sorted n)
theorem m0_X11_sorted {l : Launch} {Z : XZ} {L : Nat → Nat} {n d : Nat} {S : GS} {a1 : Int} {x : Int} {S1 : GS} (H : f_X11_sorted n d 0 S [a1] = some (x, S1)) : GM l Z L yX11_sorted cX11_sorted 3 (some .int) [] d (exc x) (exs x) [.ref (L 468), .int (J a1)] S (fun v S' => x < exB ∧ v = some (.int (J x)) ∧ S1 = S') (fun E S' => ¬ x < exB ∧ E = exn x ∧ S1 = S') := GM.of (by decide) (Nat.le_of_ble_eq_true rfl) ((g_X11_sorted n) _ _ _ _ _ H)
theorem m_X11_sorted {l : Launch} {Z : XZ} {L : Nat → Nat} {n d : Nat} {S : GS} {a1 : Int} {x : Int} {S1 : GS} (H : f_X11_sorted n d 0 S [a1] = some (x, S1)) (hb : x < exB) : GM l Z L yX11_sorted cX11_sorted 3 (some .int) [] d 0 0 [.ref (L 468), .int (J a1)] S (fun v S' => v = some (.int (J x)) ∧ S1 = S') (fun _ _ => False) := by
  have h := m0_X11_sorted (l := l) (Z := Z) (L := L) H
  rw [exc_0 hb, exs_0 hb] at h
  exact h.post (fun v S9 q => q.2) (fun E S9 q => q.1 hb)
theorem mx_X11_sorted {l : Launch} {Z : XZ} {L : Nat → Nat} {n d : Nat} {S : GS} {a1 : Int} {x : Int} {S1 : GS} (H : f_X11_sorted n d 0 S [a1] = some (x, S1)) (hb : ¬ x < exB) : GM l Z L yX11_sorted cX11_sorted 3 (some .int) [] d 1 6 [.ref (L 468), .int (J a1)] S (fun _ _ => False) (fun E S' => E = exn x ∧ S1 = S') := by
  have h := m0_X11_sorted (l := l) (Z := Z) (L := L) H
  rw [exc_1 hb, exs_6 hb] at h
  exact h.post (fun v S9 q => hb q.1) (fun E S9 q => q.2)

def P_X11_standard_0 (l : Launch) (Z : XZ) (L : Nat → Nat) (n : Nat) : Prop := ∀ (d : Nat) (S : GS) (x : Int) (S1 : GS), f_X11_standard n d 0 S [] = some (x, S1) → GA l Z L yX11_standard cX11_standard 1 (some .int) [] d (exc x) (exs x) (fun v S' => x < exB ∧ v = some (.int (J x)) ∧ S1 = S') (fun E S' => ¬ x < exB ∧ E = exn x ∧ S1 = S') 0 (gl [(0, .ref (L 468))]) [] S 0 0
set_option maxHeartbeats 4000000 in
set_option maxRecDepth 20000 in
theorem t_X11_standard_0 {l : Launch} {Z : XZ} {L : Nat → Nat} (n : Nat) (ih_X11_standard_0 : P_X11_standard_0 l Z L n) : P_X11_standard_0 l Z L (n + 1) := by
  intro d S  x S1 H
  have H : b_X11_standard_0 n d (f_X11_standard n) S  = some (x, S1) := H
  unfold b_X11_standard_0 at H
  refine GA.aload_n dX11_standard_0 rfl ?_
  refine GA.aload_n dX11_standard_1 rfl ?_
  refine GA.get xf_X11_36 dX11_standard_2 gs_468 (by decide) rfl ?_
  obtain ⟨hg1, H⟩ := gg_e H
  obtain ⟨x2, S_3, hc4, H⟩ := gc_e H
  by_cases hb5 : x2 < exB
  case neg =>
    have H := it_f H hb5
    cases H
    exact GA.callV (mx_X11_admit hc4 hb5) xs_X11_153 dX11_standard_5 gs_468 (by decide) rfl rfl (by omega) (by decide) rfl (Nat.le_of_ble_eq_true rfl) (by have := exc_1 hb5; omega) (by have := exs_6 hb5; omega) rfl (fun E S9 hx => ⟨hb5, hx⟩) (fun v S9 hq => hq.elim)
  have H := it_t H hb5
  refine GA.callV (m_X11_admit hc4 hb5) xs_X11_153 dX11_standard_5 gs_468 (by decide) rfl rfl (by omega) (by decide) rfl (Nat.le_of_ble_eq_true rfl) (by omega) (by omega) rfl (fun E S9 hx => hx.elim) (fun v S9 hq => ?_)
  obtain ⟨rfl, rfl⟩ := hq
  obtain ⟨hg6, H⟩ := gg_e H
  cases H
  exact GA.iret rfl dX11_standard_8 (by omega) (by omega) ⟨hg6, rfl, rfl⟩
theorem g_X11_standard {l : Launch} {Z : XZ} {L : Nat → Nat} : ∀ n, P_X11_standard_0 l Z L n
  | 0 => fun _ _ _ _ H => no_e H
  | n + 1 => t_X11_standard_0 n (g_X11_standard n)
theorem m0_X11_standard {l : Launch} {Z : XZ} {L : Nat → Nat} {n d : Nat} {S : GS} {x : Int} {S1 : GS} (H : f_X11_standard n d 0 S [] = some (x, S1)) : GM l Z L yX11_standard cX11_standard 1 (some .int) [] d (exc x) (exs x) [.ref (L 468)] S (fun v S' => x < exB ∧ v = some (.int (J x)) ∧ S1 = S') (fun E S' => ¬ x < exB ∧ E = exn x ∧ S1 = S') := GM.of (by decide) (Nat.le_of_ble_eq_true rfl) ((g_X11_standard n) _ _ _ _ H)
theorem m_X11_standard {l : Launch} {Z : XZ} {L : Nat → Nat} {n d : Nat} {S : GS} {x : Int} {S1 : GS} (H : f_X11_standard n d 0 S [] = some (x, S1)) (hb : x < exB) : GM l Z L yX11_standard cX11_standard 1 (some .int) [] d 0 0 [.ref (L 468)] S (fun v S' => v = some (.int (J x)) ∧ S1 = S') (fun _ _ => False) := by
  have h := m0_X11_standard (l := l) (Z := Z) (L := L) H
  rw [exc_0 hb, exs_0 hb] at h
  exact h.post (fun v S9 q => q.2) (fun E S9 q => q.1 hb)
theorem mx_X11_standard {l : Launch} {Z : XZ} {L : Nat → Nat} {n d : Nat} {S : GS} {x : Int} {S1 : GS} (H : f_X11_standard n d 0 S [] = some (x, S1)) (hb : ¬ x < exB) : GM l Z L yX11_standard cX11_standard 1 (some .int) [] d 1 6 [.ref (L 468)] S (fun _ _ => False) (fun E S' => E = exn x ∧ S1 = S') := by
  have h := m0_X11_standard (l := l) (Z := Z) (L := L) H
  rw [exc_1 hb, exs_6 hb] at h
  exact h.post (fun v S9 q => hb q.1) (fun E S9 q => q.2)

def P_X11_sum_0 (l : Launch) (Z : XZ) (L : Nat → Nat) (n : Nat) : Prop := ∀ (d : Nat) (S : GS) (a1 : Int) (x : Int) (S1 : GS), f_X11_sum n d 0 S [a1] = some (x, S1) → GA l Z L yX11_sum cX11_sum 2 (some .int) [] d (exc x) (exs x) (fun v S' => x < exB ∧ v = some (.int (J x)) ∧ S1 = S') (fun E S' => ¬ x < exB ∧ E = exn x ∧ S1 = S') 0 (gl [(0, .ref (L 468)), (1, .int (J a1))]) [] S 0 0
set_option maxHeartbeats 4000000 in
set_option maxRecDepth 20000 in
theorem t_X11_sum_0 {l : Launch} {Z : XZ} {L : Nat → Nat} (n : Nat) (ih_X11_sum_0 : P_X11_sum_0 l Z L n) : P_X11_sum_0 l Z L (n + 1) := by
  intro d S a1 x S1 H
  have H : b_X11_sum_0 n d (f_X11_sum n) S a1 = some (x, S1) := H
  unfold b_X11_sum_0 at H
  refine GA.iload_n dX11_sum_0 rfl ?_
  obtain ⟨hg1, H⟩ := gg_e H
  refine GV.if_lt (tgt := 10) hg1 dX11_sum_1 (by decide) (fun c2 => ?_) (fun c2 => ?_)
  · have H := it_t H c2
    cases H
    exact GA.throw0 xx_X11_117_119 rfl (by decide) dX11_sum_10 dX11_sum_13 dX11_sum_14 dX11_sum_17 (Nat.le_of_ble_eq_true rfl) (by decide) (by decide) ⟨by decide, exn_1.symm, rfl⟩
  · have H := it_f H c2
    refine GA.iload_n dX11_sum_4 rfl ?_
    refine GA.bipush dX11_sum_5 rfl ?_
    refine GV.icmp_le (tgt := 18) hg1 (by decide) dX11_sum_7 (by decide) (fun c3 => ?_) (fun c3 => ?_)
    · have H := it_t H c3
      refine GA.iload_n dX11_sum_18 rfl ?_
      by_cases c4 : a1 = 0
      · have H := it_t H c4
        refine GA.tableIn (tgt := 56) dX11_sum_19 hg1 (by omega) (by omega) (by rw [c4] <;> rfl) (by decide) ?_
        refine GA.aload_n dX11_sum_56 rfl ?_
        obtain ⟨x5, hx6, H⟩ := gv_e H
        refine GV.getI hx6 xf_X11_150 dX11_sum_57 gs_468 (by decide) rfl ?_
        obtain ⟨hg7, H⟩ := gg_e H
        cases H
        exact GA.iret rfl dX11_sum_60 (by omega) (by omega) ⟨hg7, rfl, rfl⟩
      have H := it_f H c4
      by_cases c8 : a1 = 1
      · have H := it_t H c8
        refine GA.tableIn (tgt := 61) dX11_sum_19 hg1 (by omega) (by omega) (by rw [c8] <;> rfl) (by decide) ?_
        refine GA.aload_n dX11_sum_61 rfl ?_
        refine GA.get xf_X11_14 dX11_sum_62 gs_468 (by decide) rfl ?_
        obtain ⟨hg9, H⟩ := gg_e H
        obtain ⟨x10, S_11, hc12, H⟩ := gc_e H
        refine GA.callV (m_X9_length hc12) xs_X11_120 dX11_sum_65 (gsS (by decide)) (by decide) rfl rfl (by omega) (by decide) rfl (Nat.le_of_ble_eq_true rfl) (by omega) (by omega) rfl (fun E S9 hx => hx.elim) (fun v S9 hq => ?_)
        obtain ⟨rfl, rfl⟩ := hq
        obtain ⟨hg13, H⟩ := gg_e H
        cases H
        exact GA.iret rfl dX11_sum_68 (by omega) (by omega) ⟨hg13, rfl, rfl⟩
      have H := it_f H c8
      by_cases c14 : a1 = 2
      · have H := it_t H c14
        refine GA.tableIn (tgt := 69) dX11_sum_19 hg1 (by omega) (by omega) (by rw [c14] <;> rfl) (by decide) ?_
        refine GA.aload_n dX11_sum_69 rfl ?_
        refine GA.get xf_X11_19 dX11_sum_70 gs_468 (by decide) rfl ?_
        obtain ⟨hg15, H⟩ := gg_e H
        obtain ⟨x16, S_17, hc18, H⟩ := gc_e H
        refine GA.callV (m_X9_length hc18) xs_X11_120 dX11_sum_73 (gsS (by decide)) (by decide) rfl rfl (by omega) (by decide) rfl (Nat.le_of_ble_eq_true rfl) (by omega) (by omega) rfl (fun E S9 hx => hx.elim) (fun v S9 hq => ?_)
        obtain ⟨rfl, rfl⟩ := hq
        obtain ⟨hg19, H⟩ := gg_e H
        cases H
        exact GA.iret rfl dX11_sum_76 (by omega) (by omega) ⟨hg19, rfl, rfl⟩
      have H := it_f H c14
      by_cases c20 : a1 = 3
      · have H := it_t H c20
        refine GA.tableIn (tgt := 77) dX11_sum_19 hg1 (by omega) (by omega) (by rw [c20] <;> rfl) (by decide) ?_
        refine GA.aload_n dX11_sum_77 rfl ?_
        obtain ⟨x21, hx22, H⟩ := gv_e H
        refine GV.getI hx22 xf_X11_146 dX11_sum_78 gs_468 (by decide) rfl ?_
        obtain ⟨hg23, H⟩ := gg_e H
        cases H
        exact GA.iret rfl dX11_sum_81 (by omega) (by omega) ⟨hg23, rfl, rfl⟩
      have H := it_f H c20
      by_cases c24 : a1 = 4
      · have H := it_t H c24
        refine GA.tableIn (tgt := 82) dX11_sum_19 hg1 (by omega) (by omega) (by rw [c24] <;> rfl) (by decide) ?_
        refine GA.aload_n dX11_sum_82 rfl ?_
        refine GA.get xf_X11_56 dX11_sum_83 gs_468 (by decide) rfl ?_
        obtain ⟨hg25, H⟩ := gg_e H
        obtain ⟨x26, S_27, hc28, H⟩ := gc_e H
        refine GA.callV (m_X2_count hc28) xs_X11_223 dX11_sum_86 gs_473 (by decide) rfl rfl (by omega) (by decide) rfl (Nat.le_of_ble_eq_true rfl) (by omega) (by omega) rfl (fun E S9 hx => hx.elim) (fun v S9 hq => ?_)
        obtain ⟨rfl, rfl⟩ := hq
        obtain ⟨hg29, H⟩ := gg_e H
        cases H
        exact GA.iret rfl dX11_sum_89 (by omega) (by omega) ⟨hg29, rfl, rfl⟩
      have H := it_f H c24
      by_cases c30 : a1 = 5
      · have H := it_t H c30
        refine GA.tableIn (tgt := 90) dX11_sum_19 hg1 (by omega) (by omega) (by rw [c30] <;> rfl) (by decide) ?_
        refine GA.aload_n dX11_sum_90 rfl ?_
        refine GA.get xf_X11_84 dX11_sum_91 gs_468 (by decide) rfl ?_
        obtain ⟨hg31, H⟩ := gg_e H
        obtain ⟨x32, S_33, hc34, H⟩ := gc_e H
        refine GA.callV (m_X0_count hc34) xs_X11_269 dX11_sum_94 gs_487 (by decide) rfl rfl (by omega) (by decide) rfl (Nat.le_of_ble_eq_true rfl) (by omega) (by omega) rfl (fun E S9 hx => hx.elim) (fun v S9 hq => ?_)
        obtain ⟨rfl, rfl⟩ := hq
        obtain ⟨hg35, H⟩ := gg_e H
        cases H
        exact GA.iret rfl dX11_sum_97 (by omega) (by omega) ⟨hg35, rfl, rfl⟩
      have H := it_f H c30
      refine GA.tableOut (tgt := 98) dX11_sum_19 hg1 (by omega) (by decide) ?_
      refine GA.aload_n dX11_sum_98 rfl ?_
      obtain ⟨hg36, H⟩ := gg_e H
      obtain ⟨x37, S_38, hc39, H⟩ := gc_e H
      by_cases hb40 : x37 < exB
      case neg =>
        have H := it_f H hb40
        cases H
        exact GA.callV (mx_X11_allNodes hc39 hb40) xs_X11_305 dX11_sum_99 gs_468 (by decide) rfl rfl (by omega) (by decide) rfl (Nat.le_of_ble_eq_true rfl) (by have := exc_1 hb40; omega) (by have := exs_6 hb40; omega) rfl (fun E S9 hx => ⟨hb40, hx⟩) (fun v S9 hq => hq.elim)
      have H := it_t H hb40
      refine GA.callV (m_X11_allNodes hc39 hb40) xs_X11_305 dX11_sum_99 gs_468 (by decide) rfl rfl (by omega) (by decide) rfl (Nat.le_of_ble_eq_true rfl) (by omega) (by omega) rfl (fun E S9 hx => hx.elim) (fun v S9 hq => ?_)
      obtain ⟨rfl, rfl⟩ := hq
      obtain ⟨hg41, H⟩ := gg_e H
      cases H
      exact GA.iret rfl dX11_sum_102 (by omega) (by omega) ⟨hg41, rfl, rfl⟩
    · have H := it_f H c3
      cases H
      exact GA.throw0 xx_X11_117_119 rfl (by decide) dX11_sum_10 dX11_sum_13 dX11_sum_14 dX11_sum_17 (Nat.le_of_ble_eq_true rfl) (by decide) (by decide) ⟨by decide, exn_1.symm, rfl⟩
theorem g_X11_sum {l : Launch} {Z : XZ} {L : Nat → Nat} : ∀ n, P_X11_sum_0 l Z L n
  | 0 => fun _ _ _ _ _ H => no_e H
  | n + 1 => t_X11_sum_0 n (g_X11_sum n)
theorem m0_X11_sum {l : Launch} {Z : XZ} {L : Nat → Nat} {n d : Nat} {S : GS} {a1 : Int} {x : Int} {S1 : GS} (H : f_X11_sum n d 0 S [a1] = some (x, S1)) : GM l Z L yX11_sum cX11_sum 2 (some .int) [] d (exc x) (exs x) [.ref (L 468), .int (J a1)] S (fun v S' => x < exB ∧ v = some (.int (J x)) ∧ S1 = S') (fun E S' => ¬ x < exB ∧ E = exn x ∧ S1 = S') := GM.of (by decide) (Nat.le_of_ble_eq_true rfl) ((g_X11_sum n) _ _ _ _ _ H)
theorem m_X11_sum {l : Launch} {Z : XZ} {L : Nat → Nat} {n d : Nat} {S : GS} {a1 : Int} {x : Int} {S1 : GS} (H : f_X11_sum n d 0 S [a1] = some (x, S1)) (hb : x < exB) : GM l Z L yX11_sum cX11_sum 2 (some .int) [] d 0 0 [.ref (L 468), .int (J a1)] S (fun v S' => v = some (.int (J x)) ∧ S1 = S') (fun _ _ => False) := by
  have h := m0_X11_sum (l := l) (Z := Z) (L := L) H
  rw [exc_0 hb, exs_0 hb] at h
  exact h.post (fun v S9 q => q.2) (fun E S9 q => q.1 hb)
theorem mx_X11_sum {l : Launch} {Z : XZ} {L : Nat → Nat} {n d : Nat} {S : GS} {a1 : Int} {x : Int} {S1 : GS} (H : f_X11_sum n d 0 S [a1] = some (x, S1)) (hb : ¬ x < exB) : GM l Z L yX11_sum cX11_sum 2 (some .int) [] d 1 6 [.ref (L 468), .int (J a1)] S (fun _ _ => False) (fun E S' => E = exn x ∧ S1 = S') := by
  have h := m0_X11_sum (l := l) (Z := Z) (L := L) H
  rw [exc_1 hb, exs_6 hb] at h
  exact h.post (fun v S9 q => hb q.1) (fun E S9 q => q.2)

def P_X11_take_0 (l : Launch) (Z : XZ) (L : Nat → Nat) (n : Nat) : Prop := ∀ (d : Nat) (S : GS) (a1 : Int) (a2 : Int) (x : Int) (S1 : GS), f_X11_take n d 0 S [a1, a2] = some (x, S1) → GA l Z L yX11_take cX11_take 4 (some .int) [] d (exc x) (exs x) (fun v S' => x < exB ∧ v = some (.int (J x)) ∧ S1 = S') (fun E S' => ¬ x < exB ∧ E = exn x ∧ S1 = S') 0 (gl [(0, .ref (L 468)), (1, .int (J a1)), (2, .int (J a2))]) [] S 0 0
set_option maxHeartbeats 4000000 in
set_option maxRecDepth 20000 in
theorem t_X11_take_0 {l : Launch} {Z : XZ} {L : Nat → Nat} (n : Nat) (ih_X11_take_0 : P_X11_take_0 l Z L n) : P_X11_take_0 l Z L (n + 1) := by
  intro d S a1 a2 x S1 H
  have H : b_X11_take_0 n d (f_X11_take n) S a1 a2 = some (x, S1) := H
  unfold b_X11_take_0 at H
  refine GA.aload_n dX11_take_0 rfl ?_
  refine GA.iload_n dX11_take_1 rfl ?_
  refine GA.iload_n dX11_take_2 rfl ?_
  obtain ⟨hg1, H⟩ := gg_e H
  obtain ⟨x2, S_3, hc4, H⟩ := gc_e H
  by_cases hb5 : x2 < exB
  case neg =>
    have H := it_f H hb5
    cases H
    exact GA.callV (mx_X11_documentWith hc4 hb5) xs_X11_165 dX11_take_3 gs_468 (by decide) rfl rfl (by omega) (by decide) rfl (Nat.le_of_ble_eq_true rfl) (by have := exc_1 hb5; omega) (by have := exs_6 hb5; omega) rfl (fun E S9 hx => ⟨hb5, hx⟩) (fun v S9 hq => hq.elim)
  have H := it_t H hb5
  refine GA.callV (m_X11_documentWith hc4 hb5) xs_X11_165 dX11_take_3 gs_468 (by decide) rfl rfl (by omega) (by decide) rfl (Nat.le_of_ble_eq_true rfl) (by omega) (by omega) rfl (fun E S9 hx => hx.elim) (fun v S9 hq => ?_)
  obtain ⟨rfl, rfl⟩ := hq
  refine GA.astore_n dX11_take_6 (by decide) ?_
  refine GA.aload_n dX11_take_7 rfl ?_
  refine GA.get xf_X11_32 dX11_take_8 gs_468 (by decide) rfl ?_
  refine GA.aload_n dX11_take_11 rfl ?_
  refine GA.iload_n dX11_take_12 rfl ?_
  obtain ⟨x6, S_7, hc8, H⟩ := gc_e H
  refine GA.callV (m_X10_copyOf hc8) xs_X11_109 dX11_take_13 (gsT (by decide)) (by decide) rfl rfl (by omega) (by decide) rfl (Nat.le_of_ble_eq_true rfl) (by omega) (by omega) rfl (fun E S9 hx => hx.elim) (fun v S9 hq => ?_)
  obtain ⟨rfl, rfl⟩ := hq
  refine GA.aload_n dX11_take_16 rfl ?_
  refine GA.aload_n dX11_take_17 rfl ?_
  refine GA.get xf_X11_32 dX11_take_18 gs_468 (by decide) rfl ?_
  obtain ⟨x9, S_10, hc11, H⟩ := gc_e H
  by_cases hb12 : x9 < exB
  case neg =>
    have H := it_f H hb12
    cases H
    exact GA.callV (mx_X11_admit hc11 hb12) xs_X11_153 dX11_take_21 gs_468 (by decide) rfl rfl (by omega) (by decide) rfl (Nat.le_of_ble_eq_true rfl) (by have := exc_1 hb12; omega) (by have := exs_6 hb12; omega) rfl (fun E S9 hx => ⟨hb12, hx⟩) (fun v S9 hq => hq.elim)
  have H := it_t H hb12
  refine GA.callV (m_X11_admit hc11 hb12) xs_X11_153 dX11_take_21 gs_468 (by decide) rfl rfl (by omega) (by decide) rfl (Nat.le_of_ble_eq_true rfl) (by omega) (by omega) rfl (fun E S9 hx => hx.elim) (fun v S9 hq => ?_)
  obtain ⟨rfl, rfl⟩ := hq
  obtain ⟨hg13, H⟩ := gg_e H
  cases H
  exact GA.iret rfl dX11_take_24 (by omega) (by omega) ⟨hg13, rfl, rfl⟩
theorem g_X11_take {l : Launch} {Z : XZ} {L : Nat → Nat} : ∀ n, P_X11_take_0 l Z L n
  | 0 => fun _ _ _ _ _ _ H => no_e H
  | n + 1 => t_X11_take_0 n (g_X11_take n)
theorem m0_X11_take {l : Launch} {Z : XZ} {L : Nat → Nat} {n d : Nat} {S : GS} {a1 : Int} {a2 : Int} {x : Int} {S1 : GS} (H : f_X11_take n d 0 S [a1, a2] = some (x, S1)) : GM l Z L yX11_take cX11_take 4 (some .int) [] d (exc x) (exs x) [.ref (L 468), .int (J a1), .int (J a2)] S (fun v S' => x < exB ∧ v = some (.int (J x)) ∧ S1 = S') (fun E S' => ¬ x < exB ∧ E = exn x ∧ S1 = S') := GM.of (by decide) (Nat.le_of_ble_eq_true rfl) ((g_X11_take n) _ _ _ _ _ _ H)
theorem m_X11_take {l : Launch} {Z : XZ} {L : Nat → Nat} {n d : Nat} {S : GS} {a1 : Int} {a2 : Int} {x : Int} {S1 : GS} (H : f_X11_take n d 0 S [a1, a2] = some (x, S1)) (hb : x < exB) : GM l Z L yX11_take cX11_take 4 (some .int) [] d 0 0 [.ref (L 468), .int (J a1), .int (J a2)] S (fun v S' => v = some (.int (J x)) ∧ S1 = S') (fun _ _ => False) := by
  have h := m0_X11_take (l := l) (Z := Z) (L := L) H
  rw [exc_0 hb, exs_0 hb] at h
  exact h.post (fun v S9 q => q.2) (fun E S9 q => q.1 hb)
theorem mx_X11_take {l : Launch} {Z : XZ} {L : Nat → Nat} {n d : Nat} {S : GS} {a1 : Int} {a2 : Int} {x : Int} {S1 : GS} (H : f_X11_take n d 0 S [a1, a2] = some (x, S1)) (hb : ¬ x < exB) : GM l Z L yX11_take cX11_take 4 (some .int) [] d 1 6 [.ref (L 468), .int (J a1), .int (J a2)] S (fun _ _ => False) (fun E S' => E = exn x ∧ S1 = S') := by
  have h := m0_X11_take (l := l) (Z := Z) (L := L) H
  rw [exc_1 hb, exs_6 hb] at h
  exact h.post (fun v S9 q => hb q.1) (fun E S9 q => q.2)

def P_X11_tell_0 (l : Launch) (Z : XZ) (L : Nat → Nat) (n : Nat) : Prop := ∀ (d : Nat) (S : GS) (a1 : Int) (a2 : Int) (a3 : Int) (x : Int) (S1 : GS), f_X11_tell n d 0 S [a1, a2, a3] = some (x, S1) → GA l Z L yX11_tell cX11_tell 5 (some .int) [] d (exc x) (exs x) (fun v S' => x < exB ∧ v = some (.int (J x)) ∧ S1 = S') (fun E S' => ¬ x < exB ∧ E = exn x ∧ S1 = S') 0 (gl [(0, .ref (L 468)), (1, .int (J a1)), (2, .int (J a2)), (3, .int (J a3))]) [] S 0 0
set_option maxHeartbeats 4000000 in
set_option maxRecDepth 20000 in
theorem t_X11_tell_0 {l : Launch} {Z : XZ} {L : Nat → Nat} (n : Nat) (ih_X11_tell_0 : P_X11_tell_0 l Z L n) : P_X11_tell_0 l Z L (n + 1) := by
  intro d S a1 a2 a3 x S1 H
  have H : b_X11_tell_0 n d (f_X11_tell n) S a1 a2 a3 = some (x, S1) := H
  unfold b_X11_tell_0 at H
  refine GA.aload_n dX11_tell_0 rfl ?_
  refine GA.iload_n dX11_tell_1 rfl ?_
  refine GA.iload_n dX11_tell_2 rfl ?_
  obtain ⟨hg1, H⟩ := gg_e H
  obtain ⟨x2, S_3, hc4, H⟩ := gc_e H
  by_cases hb5 : x2 < exB
  case neg =>
    have H := it_f H hb5
    cases H
    exact GA.callV (mx_X11_documentWith hc4 hb5) xs_X11_165 dX11_tell_3 gs_468 (by decide) rfl rfl (by omega) (by decide) rfl (Nat.le_of_ble_eq_true rfl) (by have := exc_1 hb5; omega) (by have := exs_6 hb5; omega) rfl (fun E S9 hx => ⟨hb5, hx⟩) (fun v S9 hq => hq.elim)
  have H := it_t H hb5
  refine GA.callV (m_X11_documentWith hc4 hb5) xs_X11_165 dX11_tell_3 gs_468 (by decide) rfl rfl (by omega) (by decide) rfl (Nat.le_of_ble_eq_true rfl) (by omega) (by omega) rfl (fun E S9 hx => hx.elim) (fun v S9 hq => ?_)
  obtain ⟨rfl, rfl⟩ := hq
  refine GA.astore dX11_tell_6 (by decide) ?_
  refine GA.iload_n dX11_tell_8 rfl ?_
  obtain ⟨hg6, H⟩ := gg_e H
  refine GV.if_lt (tgt := 17) hg6 dX11_tell_9 (by decide) (fun c7 => ?_) (fun c7 => ?_)
  · have H := it_t H c7
    cases H
    exact GA.throw0 xx_X11_117_119 rfl (by decide) dX11_tell_17 dX11_tell_20 dX11_tell_21 dX11_tell_24 (Nat.le_of_ble_eq_true rfl) (by decide) (by decide) ⟨by decide, exn_1.symm, rfl⟩
  · have H := it_f H c7
    refine GA.iload_n dX11_tell_12 rfl ?_
    refine GA.iconst dX11_tell_13 ?_
    refine GV.icmp_le (tgt := 25) hg6 (by decide) dX11_tell_14 (by decide) (fun c8 => ?_) (fun c8 => ?_)
    · have H := it_t H c8
      refine GA.aload dX11_tell_25 rfl ?_
      refine GA.iload_n dX11_tell_27 rfl ?_
      refine GA.iload_n dX11_tell_28 rfl ?_
      obtain ⟨x9, S_10, hc11, H⟩ := gc_e H
      refine GA.callS (m_X11_canTell hc11) xs_X11_173 dX11_tell_29 rfl (by omega) (by decide) rfl (Nat.le_of_ble_eq_true rfl) (by omega) (by omega) rfl (fun E S9 hx => hx.elim) (fun v S9 hq => ?_)
      obtain ⟨rfl, rfl⟩ := hq
      obtain ⟨hg12, H⟩ := gg_e H
      refine GV.if_ne (tgt := 43) hg12 dX11_tell_32 (by decide) (fun c13 => ?_) (fun c13 => ?_)
      · have H := it_t H c13
        refine GA.aload_n dX11_tell_43 rfl ?_
        refine GA.get xf_X11_19 dX11_tell_44 gs_468 (by decide) rfl ?_
        obtain ⟨x14, S_15, hc16, H⟩ := gc_e H
        refine GA.callV (m_X9_clear hc16) xs_X11_134 dX11_tell_47 (gsS (by decide)) (by decide) rfl rfl (by omega) (by decide) rfl (Nat.le_of_ble_eq_true rfl) (by omega) (by omega) rfl (fun E S9 hx => hx.elim) (fun v S9 hq => ?_)
        obtain ⟨rfl, rfl⟩ := hq
        refine GA.iload_n dX11_tell_50 rfl ?_
        refine GA.iconst dX11_tell_51 ?_
        refine GV.icmp_ge (tgt := 68) hg6 (by decide) dX11_tell_52 (by decide) (fun c17 => ?_) (fun c17 => ?_)
        · have H := it_t H c17
          refine GA.iload_n dX11_tell_68 rfl ?_
          refine GA.iconst dX11_tell_69 ?_
          refine GV.icmp_ne (tgt := 86) hg6 (by decide) dX11_tell_70 (by decide) (fun c18 => ?_) (fun c18 => ?_)
          · have H := it_t H c18
            refine GA.aload dX11_tell_86 rfl ?_
            refine GA.iload_n dX11_tell_88 rfl ?_
            refine GA.aload_n dX11_tell_89 rfl ?_
            refine GA.get xf_X11_19 dX11_tell_90 gs_468 (by decide) rfl ?_
            obtain ⟨hg19, H⟩ := gg_e H
            obtain ⟨x20, S_21, hc22, H⟩ := gc_e H
            refine GA.callV (m_X10_pathTo hc22) xs_X11_184 dX11_tell_93 (gsT hg19) (by omega) rfl rfl (by omega) (by decide) rfl (Nat.le_of_ble_eq_true rfl) (by omega) (by omega) rfl (fun E S9 hx => hx.elim) (fun v S9 hq => ?_)
            obtain ⟨rfl, rfl⟩ := hq
            refine GA.aload_n dX11_tell_96 rfl ?_
            refine GA.get xf_X11_19 dX11_tell_97 gs_468 (by decide) rfl ?_
            obtain ⟨x23, S_24, hc25, H⟩ := gc_e H
            refine GA.callV (m_X9_length hc25) xs_X11_120 dX11_tell_100 (gsS (by decide)) (by decide) rfl rfl (by omega) (by decide) rfl (Nat.le_of_ble_eq_true rfl) (by omega) (by omega) rfl (fun E S9 hx => hx.elim) (fun v S9 hq => ?_)
            obtain ⟨rfl, rfl⟩ := hq
            obtain ⟨hg26, H⟩ := gg_e H
            cases H
            exact GA.iret rfl dX11_tell_103 (by omega) (by omega) ⟨hg26, rfl, rfl⟩
          · have H := it_f H c18
            refine GA.aload dX11_tell_73 rfl ?_
            refine GA.iload_n dX11_tell_75 rfl ?_
            refine GA.aload_n dX11_tell_76 rfl ?_
            refine GA.get xf_X11_19 dX11_tell_77 gs_468 (by decide) rfl ?_
            obtain ⟨hg27, H⟩ := gg_e H
            obtain ⟨x28, S_29, hc30, H⟩ := gc_e H
            refine GA.callV (m_X10_keyTo hc30) xs_X11_181 dX11_tell_80 (gsT hg27) (by omega) rfl rfl (by omega) (by decide) rfl (Nat.le_of_ble_eq_true rfl) (by omega) (by omega) rfl (fun E S9 hx => hx.elim) (fun v S9 hq => ?_)
            obtain ⟨rfl, rfl⟩ := hq
            refine GA.goto (tgt := 96) dX11_tell_83 (by decide) ?_
            refine GA.aload_n dX11_tell_96 rfl ?_
            refine GA.get xf_X11_19 dX11_tell_97 gs_468 (by decide) rfl ?_
            obtain ⟨x31, S_32, hc33, H⟩ := gc_e H
            refine GA.callV (m_X9_length hc33) xs_X11_120 dX11_tell_100 (gsS (by decide)) (by decide) rfl rfl (by omega) (by decide) rfl (Nat.le_of_ble_eq_true rfl) (by omega) (by omega) rfl (fun E S9 hx => hx.elim) (fun v S9 hq => ?_)
            obtain ⟨rfl, rfl⟩ := hq
            obtain ⟨hg34, H⟩ := gg_e H
            cases H
            exact GA.iret rfl dX11_tell_103 (by omega) (by omega) ⟨hg34, rfl, rfl⟩
        · have H := it_f H c17
          refine GA.aload dX11_tell_55 rfl ?_
          refine GA.iload_n dX11_tell_57 rfl ?_
          refine GA.aload_n dX11_tell_58 rfl ?_
          refine GA.get xf_X11_19 dX11_tell_59 gs_468 (by decide) rfl ?_
          obtain ⟨hg35, H⟩ := gg_e H
          obtain ⟨x36, S_37, hc38, H⟩ := gc_e H
          refine GA.callV (m_X10_signsTo hc38) xs_X11_177 dX11_tell_62 (gsT hg35) (by omega) rfl rfl (by omega) (by decide) rfl (Nat.le_of_ble_eq_true rfl) (by omega) (by omega) rfl (fun E S9 hx => hx.elim) (fun v S9 hq => ?_)
          obtain ⟨rfl, rfl⟩ := hq
          refine GA.goto (tgt := 96) dX11_tell_65 (by decide) ?_
          refine GA.aload_n dX11_tell_96 rfl ?_
          refine GA.get xf_X11_19 dX11_tell_97 gs_468 (by decide) rfl ?_
          obtain ⟨x39, S_40, hc41, H⟩ := gc_e H
          refine GA.callV (m_X9_length hc41) xs_X11_120 dX11_tell_100 (gsS (by decide)) (by decide) rfl rfl (by omega) (by decide) rfl (Nat.le_of_ble_eq_true rfl) (by omega) (by omega) rfl (fun E S9 hx => hx.elim) (fun v S9 hq => ?_)
          obtain ⟨rfl, rfl⟩ := hq
          obtain ⟨hg42, H⟩ := gg_e H
          cases H
          exact GA.iret rfl dX11_tell_103 (by omega) (by omega) ⟨hg42, rfl, rfl⟩
      · have H := it_f H c13
        cases H
        exact GA.throw0 xx_X11_124_126 rfl (by decide) dX11_tell_35 dX11_tell_38 dX11_tell_39 dX11_tell_42 (Nat.le_of_ble_eq_true rfl) (by decide) (by decide) ⟨by decide, exn_2.symm, rfl⟩
    · have H := it_f H c8
      cases H
      exact GA.throw0 xx_X11_117_119 rfl (by decide) dX11_tell_17 dX11_tell_20 dX11_tell_21 dX11_tell_24 (Nat.le_of_ble_eq_true rfl) (by decide) (by decide) ⟨by decide, exn_1.symm, rfl⟩
theorem g_X11_tell {l : Launch} {Z : XZ} {L : Nat → Nat} : ∀ n, P_X11_tell_0 l Z L n
  | 0 => fun _ _ _ _ _ _ _ H => no_e H
  | n + 1 => t_X11_tell_0 n (g_X11_tell n)
theorem m0_X11_tell {l : Launch} {Z : XZ} {L : Nat → Nat} {n d : Nat} {S : GS} {a1 : Int} {a2 : Int} {a3 : Int} {x : Int} {S1 : GS} (H : f_X11_tell n d 0 S [a1, a2, a3] = some (x, S1)) : GM l Z L yX11_tell cX11_tell 5 (some .int) [] d (exc x) (exs x) [.ref (L 468), .int (J a1), .int (J a2), .int (J a3)] S (fun v S' => x < exB ∧ v = some (.int (J x)) ∧ S1 = S') (fun E S' => ¬ x < exB ∧ E = exn x ∧ S1 = S') := GM.of (by decide) (Nat.le_of_ble_eq_true rfl) ((g_X11_tell n) _ _ _ _ _ _ _ H)
theorem m_X11_tell {l : Launch} {Z : XZ} {L : Nat → Nat} {n d : Nat} {S : GS} {a1 : Int} {a2 : Int} {a3 : Int} {x : Int} {S1 : GS} (H : f_X11_tell n d 0 S [a1, a2, a3] = some (x, S1)) (hb : x < exB) : GM l Z L yX11_tell cX11_tell 5 (some .int) [] d 0 0 [.ref (L 468), .int (J a1), .int (J a2), .int (J a3)] S (fun v S' => v = some (.int (J x)) ∧ S1 = S') (fun _ _ => False) := by
  have h := m0_X11_tell (l := l) (Z := Z) (L := L) H
  rw [exc_0 hb, exs_0 hb] at h
  exact h.post (fun v S9 q => q.2) (fun E S9 q => q.1 hb)
theorem mx_X11_tell {l : Launch} {Z : XZ} {L : Nat → Nat} {n d : Nat} {S : GS} {a1 : Int} {a2 : Int} {a3 : Int} {x : Int} {S1 : GS} (H : f_X11_tell n d 0 S [a1, a2, a3] = some (x, S1)) (hb : ¬ x < exB) : GM l Z L yX11_tell cX11_tell 5 (some .int) [] d 1 6 [.ref (L 468), .int (J a1), .int (J a2), .int (J a3)] S (fun _ _ => False) (fun E S' => E = exn x ∧ S1 = S') := by
  have h := m0_X11_tell (l := l) (Z := Z) (L := L) H
  rw [exc_1 hb, exs_6 hb] at h
  exact h.post (fun v S9 q => hb q.1) (fun E S9 q => q.2)

def P_X11_turn_0 (l : Launch) (Z : XZ) (L : Nat → Nat) (n : Nat) : Prop := ∀ (d : Nat) (S : GS) (a1 : Int) (a2 : Int) (x : Int) (S1 : GS), f_X11_turn n d 0 S [a1, a2] = some (x, S1) → GA l Z L yX11_turn cX11_turn 5 (some .int) [] d (exc x) (exs x) (fun v S' => x < exB ∧ v = some (.int (J x)) ∧ S1 = S') (fun E S' => ¬ x < exB ∧ E = exn x ∧ S1 = S') 0 (gl [(0, .ref (L 468)), (1, .int (J a1)), (2, .int (J a2))]) [] S 0 0
set_option maxHeartbeats 4000000 in
set_option maxRecDepth 20000 in
theorem t_X11_turn_0 {l : Launch} {Z : XZ} {L : Nat → Nat} (n : Nat) (ih_X11_turn_0 : P_X11_turn_0 l Z L n) : P_X11_turn_0 l Z L (n + 1) := by
  intro d S a1 a2 x S1 H
  have H : b_X11_turn_0 n d (f_X11_turn n) S a1 a2 = some (x, S1) := H
  unfold b_X11_turn_0 at H
  refine GA.aload_n dX11_turn_0 rfl ?_
  refine GA.iload_n dX11_turn_1 rfl ?_
  obtain ⟨hg1, H⟩ := gg_e H
  obtain ⟨x2, S_3, hc4, H⟩ := gc_e H
  by_cases hb5 : x2 < exB
  case neg =>
    have H := it_f H hb5
    cases H
    exact GA.callV (mx_X11_document hc4 hb5) xs_X11_157 dX11_turn_2 gs_468 (by decide) rfl rfl (by omega) (by decide) rfl (Nat.le_of_ble_eq_true rfl) (by have := exc_1 hb5; omega) (by have := exs_6 hb5; omega) rfl (fun E S9 hx => ⟨hb5, hx⟩) (fun v S9 hq => hq.elim)
  have H := it_t H hb5
  refine GA.callV (m_X11_document hc4 hb5) xs_X11_157 dX11_turn_2 gs_468 (by decide) rfl rfl (by omega) (by decide) rfl (Nat.le_of_ble_eq_true rfl) (by omega) (by omega) rfl (fun E S9 hx => hx.elim) (fun v S9 hq => ?_)
  obtain ⟨rfl, rfl⟩ := hq
  refine GA.astore_n dX11_turn_5 (by decide) ?_
  refine GA.aload_n dX11_turn_6 rfl ?_
  refine GA.iload_n dX11_turn_7 rfl ?_
  obtain ⟨x6, S_7, hc8, H⟩ := gc_e H
  by_cases hb9 : x6 < exB
  case neg =>
    have H := it_f H hb9
    cases H
    exact GA.callV (mx_X11_document hc8 hb9) xs_X11_157 dX11_turn_8 gs_468 (by decide) rfl rfl (by omega) (by decide) rfl (Nat.le_of_ble_eq_true rfl) (by have := exc_1 hb9; omega) (by have := exs_6 hb9; omega) rfl (fun E S9 hx => ⟨hb9, hx⟩) (fun v S9 hq => hq.elim)
  have H := it_t H hb9
  refine GA.callV (m_X11_document hc8 hb9) xs_X11_157 dX11_turn_8 gs_468 (by decide) rfl rfl (by omega) (by decide) rfl (Nat.le_of_ble_eq_true rfl) (by omega) (by omega) rfl (fun E S9 hx => hx.elim) (fun v S9 hq => ?_)
  obtain ⟨rfl, rfl⟩ := hq
  refine GA.astore dX11_turn_11 (by decide) ?_
  refine GA.aload dX11_turn_13 rfl ?_
  refine GA.iconst dX11_turn_15 ?_
  refine GA.iconst dX11_turn_16 ?_
  obtain ⟨hg10, H⟩ := gg_e H
  obtain ⟨x11, S_12, hc13, H⟩ := gc_e H
  refine GA.callV (m_X10_is hc13) xs_X11_191 dX11_turn_17 (gsT hg10) (by omega) rfl rfl (by omega) (by decide) rfl (Nat.le_of_ble_eq_true rfl) (by omega) (by omega) rfl (fun E S9 hx => hx.elim) (fun v S9 hq => ?_)
  obtain ⟨rfl, rfl⟩ := hq
  obtain ⟨hg14, H⟩ := gg_e H
  refine GV.if_ne (tgt := 31) hg14 dX11_turn_20 (by decide) (fun c15 => ?_) (fun c15 => ?_)
  · have H := it_t H c15
    refine GA.aload_n dX11_turn_31 rfl ?_
    refine GA.get xf_X11_70 dX11_turn_32 gs_468 (by decide) rfl ?_
    refine GA.aload_n dX11_turn_35 rfl ?_
    refine GA.iconst dX11_turn_36 ?_
    obtain ⟨x16, S_17, hc18, H⟩ := gc_e H
    refine GA.callV (m_X1_begin hc18) xs_X11_226 dX11_turn_37 gs_482 (by decide) rfl rfl (by omega) (by decide) rfl (Nat.le_of_ble_eq_true rfl) (by omega) (by omega) rfl (fun E S9 hx => hx.elim) (fun v S9 hq => ?_)
    obtain ⟨rfl, rfl⟩ := hq
    refine GA.aload_n dX11_turn_40 rfl ?_
    refine GA.get xf_X11_70 dX11_turn_41 gs_468 (by decide) rfl ?_
    refine GA.aload dX11_turn_44 rfl ?_
    obtain ⟨x19, S_20, hc21, H⟩ := gc_e H
    refine GA.callV (m_X1_layAll hc21) xs_X11_242 dX11_turn_46 gs_482 (by decide) rfl rfl (by omega) (by decide) rfl (Nat.le_of_ble_eq_true rfl) (by omega) (by omega) rfl (fun E S9 hx => hx.elim) (fun v S9 hq => ?_)
    obtain ⟨rfl, rfl⟩ := hq
    refine GA.iconst dX11_turn_49 ?_
    obtain ⟨hg22, H⟩ := gg_e H
    refine GV.icmp_eq (tgt := 61) hg22 (by decide) dX11_turn_50 (by decide) (fun c23 => ?_) (fun c23 => ?_)
    · have H := it_t H c23
      refine GA.aload_n dX11_turn_61 rfl ?_
      refine GA.aload_n dX11_turn_62 rfl ?_
      refine GA.get xf_X11_70 dX11_turn_63 gs_468 (by decide) rfl ?_
      obtain ⟨x24, S_25, hc26, H⟩ := gc_e H
      refine GA.callV (m_X1_wayBack hc26) xs_X11_249 dX11_turn_66 gs_482 (by decide) rfl rfl (by omega) (by decide) rfl (Nat.le_of_ble_eq_true rfl) (by omega) (by omega) rfl (fun E S9 hx => hx.elim) (fun v S9 hq => ?_)
      obtain ⟨rfl, rfl⟩ := hq
      obtain ⟨x27, S_28, hc29, H⟩ := gc_e H
      by_cases hb30 : x27 < exB
      case neg =>
        have H := it_f H hb30
        cases H
        exact GA.callV (mx_X11_admit hc29 hb30) xs_X11_153 dX11_turn_69 gs_468 (by decide) rfl rfl (by omega) (by decide) rfl (Nat.le_of_ble_eq_true rfl) (by have := exc_1 hb30; omega) (by have := exs_6 hb30; omega) rfl (fun E S9 hx => ⟨hb30, hx⟩) (fun v S9 hq => hq.elim)
      have H := it_t H hb30
      refine GA.callV (m_X11_admit hc29 hb30) xs_X11_153 dX11_turn_69 gs_468 (by decide) rfl rfl (by omega) (by decide) rfl (Nat.le_of_ble_eq_true rfl) (by omega) (by omega) rfl (fun E S9 hx => hx.elim) (fun v S9 hq => ?_)
      obtain ⟨rfl, rfl⟩ := hq
      obtain ⟨hg31, H⟩ := gg_e H
      cases H
      exact GA.iret rfl dX11_turn_72 (by omega) (by omega) ⟨hg31, rfl, rfl⟩
    · have H := it_f H c23
      cases H
      exact GA.throw0 xx_X11_124_126 rfl (by decide) dX11_turn_53 dX11_turn_56 dX11_turn_57 dX11_turn_60 (Nat.le_of_ble_eq_true rfl) (by decide) (by decide) ⟨by decide, exn_2.symm, rfl⟩
  · have H := it_f H c15
    cases H
    exact GA.throw0 xx_X11_124_126 rfl (by decide) dX11_turn_23 dX11_turn_26 dX11_turn_27 dX11_turn_30 (Nat.le_of_ble_eq_true rfl) (by decide) (by decide) ⟨by decide, exn_2.symm, rfl⟩
theorem g_X11_turn {l : Launch} {Z : XZ} {L : Nat → Nat} : ∀ n, P_X11_turn_0 l Z L n
  | 0 => fun _ _ _ _ _ _ H => no_e H
  | n + 1 => t_X11_turn_0 n (g_X11_turn n)
theorem m0_X11_turn {l : Launch} {Z : XZ} {L : Nat → Nat} {n d : Nat} {S : GS} {a1 : Int} {a2 : Int} {x : Int} {S1 : GS} (H : f_X11_turn n d 0 S [a1, a2] = some (x, S1)) : GM l Z L yX11_turn cX11_turn 5 (some .int) [] d (exc x) (exs x) [.ref (L 468), .int (J a1), .int (J a2)] S (fun v S' => x < exB ∧ v = some (.int (J x)) ∧ S1 = S') (fun E S' => ¬ x < exB ∧ E = exn x ∧ S1 = S') := GM.of (by decide) (Nat.le_of_ble_eq_true rfl) ((g_X11_turn n) _ _ _ _ _ _ H)
theorem m_X11_turn {l : Launch} {Z : XZ} {L : Nat → Nat} {n d : Nat} {S : GS} {a1 : Int} {a2 : Int} {x : Int} {S1 : GS} (H : f_X11_turn n d 0 S [a1, a2] = some (x, S1)) (hb : x < exB) : GM l Z L yX11_turn cX11_turn 5 (some .int) [] d 0 0 [.ref (L 468), .int (J a1), .int (J a2)] S (fun v S' => v = some (.int (J x)) ∧ S1 = S') (fun _ _ => False) := by
  have h := m0_X11_turn (l := l) (Z := Z) (L := L) H
  rw [exc_0 hb, exs_0 hb] at h
  exact h.post (fun v S9 q => q.2) (fun E S9 q => q.1 hb)
theorem mx_X11_turn {l : Launch} {Z : XZ} {L : Nat → Nat} {n d : Nat} {S : GS} {a1 : Int} {a2 : Int} {x : Int} {S1 : GS} (H : f_X11_turn n d 0 S [a1, a2] = some (x, S1)) (hb : ¬ x < exB) : GM l Z L yX11_turn cX11_turn 5 (some .int) [] d 1 6 [.ref (L 468), .int (J a1), .int (J a2)] S (fun _ _ => False) (fun E S' => E = exn x ∧ S1 = S') := by
  have h := m0_X11_turn (l := l) (Z := Z) (L := L) H
  rw [exc_1 hb, exs_6 hb] at h
  exact h.post (fun v S9 q => hb q.1) (fun E S9 q => q.2)

def P_X11_undo_0 (l : Launch) (Z : XZ) (L : Nat → Nat) (n : Nat) : Prop := ∀ (d : Nat) (S : GS) (x : Int) (S1 : GS), f_X11_undo n d 0 S [] = some (x, S1) → GA l Z L yX11_undo cX11_undo 1 (some .int) [] d (exc x) (exs x) (fun v S' => x < exB ∧ v = some (.int (J x)) ∧ S1 = S') (fun E S' => ¬ x < exB ∧ E = exn x ∧ S1 = S') 0 (gl [(0, .ref (L 468))]) [] S 0 0
set_option maxHeartbeats 4000000 in
set_option maxRecDepth 20000 in
theorem t_X11_undo_0 {l : Launch} {Z : XZ} {L : Nat → Nat} (n : Nat) (ih_X11_undo_0 : P_X11_undo_0 l Z L n) : P_X11_undo_0 l Z L (n + 1) := by
  intro d S  x S1 H
  have H : b_X11_undo_0 n d (f_X11_undo n) S  = some (x, S1) := H
  unfold b_X11_undo_0 at H
  refine GA.aload_n dX11_undo_0 rfl ?_
  obtain ⟨x1, hx2, H⟩ := gv_e H
  refine GV.getI hx2 xf_X11_150 dX11_undo_1 gs_468 (by decide) rfl ?_
  refine GA.iconst dX11_undo_4 ?_
  obtain ⟨hg3, H⟩ := gg_e H
  refine GV.icmp_ge (tgt := 16) hg3 (by decide) dX11_undo_5 (by decide) (fun c4 => ?_) (fun c4 => ?_)
  · have H := it_t H c4
    refine GA.aload_n dX11_undo_16 rfl ?_
    refine GA.dup dX11_undo_17 rfl ?_
    obtain ⟨x5, hx6, H⟩ := gv_e H
    refine GV.getI hx6 xf_X11_150 dX11_undo_18 gs_468 (by decide) rfl ?_
    refine GA.iconst dX11_undo_21 ?_
    obtain ⟨x7, hx8, H⟩ := gv_e H
    refine GV.isub hx8 dX11_undo_22 ?_
    obtain ⟨S_9, hx10, H⟩ := gv_e H
    refine GV.putI hx10 (xp_X11_150 _) dX11_undo_23 gs_468 (by decide) (Nat.le_of_ble_eq_true rfl) gs_468 ?_
    refine GA.aload_n dX11_undo_26 rfl ?_
    obtain ⟨x11, hx12, H⟩ := gv_e H
    refine GV.getI hx12 xf_X11_150 dX11_undo_27 gs_468 (by decide) rfl ?_
    obtain ⟨hg13, H⟩ := gg_e H
    cases H
    exact GA.iret rfl dX11_undo_30 (by omega) (by omega) ⟨hg13, rfl, rfl⟩
  · have H := it_f H c4
    cases H
    exact GA.throw0 xx_X11_124_126 rfl (by decide) dX11_undo_8 dX11_undo_11 dX11_undo_12 dX11_undo_15 (Nat.le_of_ble_eq_true rfl) (by decide) (by decide) ⟨by decide, exn_2.symm, rfl⟩
theorem g_X11_undo {l : Launch} {Z : XZ} {L : Nat → Nat} : ∀ n, P_X11_undo_0 l Z L n
  | 0 => fun _ _ _ _ H => no_e H
  | n + 1 => t_X11_undo_0 n (g_X11_undo n)
theorem m0_X11_undo {l : Launch} {Z : XZ} {L : Nat → Nat} {n d : Nat} {S : GS} {x : Int} {S1 : GS} (H : f_X11_undo n d 0 S [] = some (x, S1)) : GM l Z L yX11_undo cX11_undo 1 (some .int) [] d (exc x) (exs x) [.ref (L 468)] S (fun v S' => x < exB ∧ v = some (.int (J x)) ∧ S1 = S') (fun E S' => ¬ x < exB ∧ E = exn x ∧ S1 = S') := GM.of (by decide) (Nat.le_of_ble_eq_true rfl) ((g_X11_undo n) _ _ _ _ H)
theorem m_X11_undo {l : Launch} {Z : XZ} {L : Nat → Nat} {n d : Nat} {S : GS} {x : Int} {S1 : GS} (H : f_X11_undo n d 0 S [] = some (x, S1)) (hb : x < exB) : GM l Z L yX11_undo cX11_undo 1 (some .int) [] d 0 0 [.ref (L 468)] S (fun v S' => v = some (.int (J x)) ∧ S1 = S') (fun _ _ => False) := by
  have h := m0_X11_undo (l := l) (Z := Z) (L := L) H
  rw [exc_0 hb, exs_0 hb] at h
  exact h.post (fun v S9 q => q.2) (fun E S9 q => q.1 hb)
theorem mx_X11_undo {l : Launch} {Z : XZ} {L : Nat → Nat} {n d : Nat} {S : GS} {x : Int} {S1 : GS} (H : f_X11_undo n d 0 S [] = some (x, S1)) (hb : ¬ x < exB) : GM l Z L yX11_undo cX11_undo 1 (some .int) [] d 1 6 [.ref (L 468)] S (fun _ _ => False) (fun E S' => E = exn x ∧ S1 = S') := by
  have h := m0_X11_undo (l := l) (Z := Z) (L := L) H
  rw [exc_1 hb, exs_6 hb] at h
  exact h.post (fun v S9 q => hb q.1) (fun E S9 q => q.2)

def P_X11_vary_0 (l : Launch) (Z : XZ) (L : Nat → Nat) (n : Nat) : Prop := ∀ (d : Nat) (S : GS) (a1 : Int) (a2 : Int) (x : Int) (S1 : GS), f_X11_vary n d 0 S [a1, a2] = some (x, S1) → GA l Z L yX11_vary cX11_vary 5 (some .int) [] d (exc x) (exs x) (fun v S' => x < exB ∧ v = some (.int (J x)) ∧ S1 = S') (fun E S' => ¬ x < exB ∧ E = exn x ∧ S1 = S') 0 (gl [(0, .ref (L 468)), (1, .int (J a1)), (2, .int (J a2))]) [] S 0 0
set_option maxHeartbeats 4000000 in
set_option maxRecDepth 20000 in
theorem t_X11_vary_0 {l : Launch} {Z : XZ} {L : Nat → Nat} (n : Nat) (ih_X11_vary_0 : P_X11_vary_0 l Z L n) : P_X11_vary_0 l Z L (n + 1) := by
  intro d S a1 a2 x S1 H
  have H : b_X11_vary_0 n d (f_X11_vary n) S a1 a2 = some (x, S1) := H
  unfold b_X11_vary_0 at H
  refine GA.aload_n dX11_vary_0 rfl ?_
  refine GA.iload_n dX11_vary_1 rfl ?_
  obtain ⟨hg1, H⟩ := gg_e H
  obtain ⟨x2, S_3, hc4, H⟩ := gc_e H
  by_cases hb5 : x2 < exB
  case neg =>
    have H := it_f H hb5
    cases H
    exact GA.callV (mx_X11_document hc4 hb5) xs_X11_157 dX11_vary_2 gs_468 (by decide) rfl rfl (by omega) (by decide) rfl (Nat.le_of_ble_eq_true rfl) (by have := exc_1 hb5; omega) (by have := exs_6 hb5; omega) rfl (fun E S9 hx => ⟨hb5, hx⟩) (fun v S9 hq => hq.elim)
  have H := it_t H hb5
  refine GA.callV (m_X11_document hc4 hb5) xs_X11_157 dX11_vary_2 gs_468 (by decide) rfl rfl (by omega) (by decide) rfl (Nat.le_of_ble_eq_true rfl) (by omega) (by omega) rfl (fun E S9 hx => hx.elim) (fun v S9 hq => ?_)
  obtain ⟨rfl, rfl⟩ := hq
  refine GA.astore_n dX11_vary_5 (by decide) ?_
  refine GA.iload_n dX11_vary_6 rfl ?_
  obtain ⟨hg6, H⟩ := gg_e H
  refine GV.if_lt (tgt := 17) hg6 dX11_vary_7 (by decide) (fun c7 => ?_) (fun c7 => ?_)
  · have H := it_t H c7
    cases H
    exact GA.throw0 xx_X11_117_119 rfl (by decide) dX11_vary_17 dX11_vary_20 dX11_vary_21 dX11_vary_24 (Nat.le_of_ble_eq_true rfl) (by decide) (by decide) ⟨by decide, exn_1.symm, rfl⟩
  · have H := it_f H c7
    refine GA.iload_n dX11_vary_10 rfl ?_
    refine GA.ldcw (v := 65536) xc_X11_290 dX11_vary_11 ?_
    refine GV.icmp_lt (tgt := 25) hg6 (by decide) dX11_vary_14 (by decide) (fun c8 => ?_) (fun c8 => ?_)
    · have H := it_t H c8
      refine GA.aload_n dX11_vary_25 rfl ?_
      refine GA.get xf_X11_91 dX11_vary_26 gs_468 (by decide) rfl ?_
      refine GA.iload_n dX11_vary_29 rfl ?_
      obtain ⟨x9, S_10, hc11, H⟩ := gc_e H
      refine GA.callV (m_X3_begin hc11) xs_X11_291 dX11_vary_30 gs_494 (by decide) rfl rfl (by omega) (by decide) rfl (Nat.le_of_ble_eq_true rfl) (by omega) (by omega) rfl (fun E S9 hx => hx.elim) (fun v S9 hq => ?_)
      obtain ⟨rfl, rfl⟩ := hq
      refine GA.aload_n dX11_vary_33 rfl ?_
      refine GA.get xf_X11_91 dX11_vary_34 gs_468 (by decide) rfl ?_
      refine GA.aload_n dX11_vary_37 rfl ?_
      obtain ⟨hg12, H⟩ := gg_e H
      obtain ⟨x13, S_14, hc15, H⟩ := gc_e H
      refine GA.callV (m_X10_count hc15) xs_X11_297 dX11_vary_38 (gsT hg12) (by omega) rfl rfl (by omega) (by decide) rfl (Nat.le_of_ble_eq_true rfl) (by omega) (by omega) rfl (fun E S9 hx => hx.elim) (fun v S9 hq => ?_)
      obtain ⟨rfl, rfl⟩ := hq
      obtain ⟨x16, S_17, hc18, H⟩ := gc_e H
      refine GA.callV (m_X3_draw hc18) xs_X11_298 dX11_vary_41 gs_494 (by decide) rfl rfl (by omega) (by decide) rfl (Nat.le_of_ble_eq_true rfl) (by omega) (by omega) rfl (fun E S9 hx => hx.elim) (fun v S9 hq => ?_)
      obtain ⟨rfl, rfl⟩ := hq
      refine GA.istore dX11_vary_44 (by decide) ?_
      refine GA.aload_n dX11_vary_46 rfl ?_
      refine GA.get xf_X11_91 dX11_vary_47 gs_468 (by decide) rfl ?_
      refine GA.iconst dX11_vary_50 ?_
      refine GA.iconst dX11_vary_51 ?_
      obtain ⟨x19, S_20, hc21, H⟩ := gc_e H
      refine GA.callN (m_X3_sprout hc21) xs_X11_293 dX11_vary_52 gs_494 (by decide) rfl rfl (by omega) (by decide) rfl (Nat.le_of_ble_eq_true rfl) (by omega) (by omega) rfl (fun E S9 hx => hx.elim) (fun v S9 hq => ?_)
      obtain ⟨rfl, rfl⟩ := hq
      refine GA.pop dX11_vary_55 rfl ?_
      refine GA.aload_n dX11_vary_56 rfl ?_
      refine GA.get xf_X11_32 dX11_vary_57 gs_468 (by decide) rfl ?_
      refine GA.aload_n dX11_vary_60 rfl ?_
      refine GA.iconst dX11_vary_61 ?_
      obtain ⟨x22, S_23, hc24, H⟩ := gc_e H
      refine GA.callV (m_X10_copyOf hc24) xs_X11_109 dX11_vary_62 (gsT (by decide)) (by decide) rfl rfl (by omega) (by decide) rfl (Nat.le_of_ble_eq_true rfl) (by omega) (by omega) rfl (fun E S9 hx => hx.elim) (fun v S9 hq => ?_)
      obtain ⟨rfl, rfl⟩ := hq
      refine GA.aload_n dX11_vary_65 rfl ?_
      refine GA.get xf_X11_32 dX11_vary_66 gs_468 (by decide) rfl ?_
      refine GA.iload dX11_vary_69 rfl ?_
      refine GA.aload_n dX11_vary_71 rfl ?_
      refine GA.get xf_X11_91 dX11_vary_72 gs_468 (by decide) rfl ?_
      obtain ⟨x25, S_26, hc27, H⟩ := gc_e H
      refine GA.callV (m_X3_result hc27) xs_X11_296 dX11_vary_75 gs_494 (by decide) rfl rfl (by omega) (by decide) rfl (Nat.le_of_ble_eq_true rfl) (by omega) (by omega) rfl (fun E S9 hx => hx.elim) (fun v S9 hq => ?_)
      obtain ⟨rfl, rfl⟩ := hq
      refine GA.iconst dX11_vary_78 ?_
      obtain ⟨x28, S_29, hc30, H⟩ := gc_e H
      refine GA.callV (m_X10_replace hc30) xs_X11_301 dX11_vary_79 (gsT (by decide)) (by decide) rfl rfl (by omega) (by decide) rfl (Nat.le_of_ble_eq_true rfl) (by omega) (by omega) rfl (fun E S9 hx => hx.elim) (fun v S9 hq => ?_)
      obtain ⟨rfl, rfl⟩ := hq
      refine GA.aload_n dX11_vary_82 rfl ?_
      refine GA.aload_n dX11_vary_83 rfl ?_
      refine GA.get xf_X11_32 dX11_vary_84 gs_468 (by decide) rfl ?_
      obtain ⟨x31, S_32, hc33, H⟩ := gc_e H
      by_cases hb34 : x31 < exB
      case neg =>
        have H := it_f H hb34
        cases H
        exact GA.callV (mx_X11_admit hc33 hb34) xs_X11_153 dX11_vary_87 gs_468 (by decide) rfl rfl (by omega) (by decide) rfl (Nat.le_of_ble_eq_true rfl) (by have := exc_1 hb34; omega) (by have := exs_6 hb34; omega) rfl (fun E S9 hx => ⟨hb34, hx⟩) (fun v S9 hq => hq.elim)
      have H := it_t H hb34
      refine GA.callV (m_X11_admit hc33 hb34) xs_X11_153 dX11_vary_87 gs_468 (by decide) rfl rfl (by omega) (by decide) rfl (Nat.le_of_ble_eq_true rfl) (by omega) (by omega) rfl (fun E S9 hx => hx.elim) (fun v S9 hq => ?_)
      obtain ⟨rfl, rfl⟩ := hq
      obtain ⟨hg35, H⟩ := gg_e H
      cases H
      exact GA.iret rfl dX11_vary_90 (by omega) (by omega) ⟨hg35, rfl, rfl⟩
    · have H := it_f H c8
      cases H
      exact GA.throw0 xx_X11_117_119 rfl (by decide) dX11_vary_17 dX11_vary_20 dX11_vary_21 dX11_vary_24 (Nat.le_of_ble_eq_true rfl) (by decide) (by decide) ⟨by decide, exn_1.symm, rfl⟩
theorem g_X11_vary {l : Launch} {Z : XZ} {L : Nat → Nat} : ∀ n, P_X11_vary_0 l Z L n
  | 0 => fun _ _ _ _ _ _ H => no_e H
  | n + 1 => t_X11_vary_0 n (g_X11_vary n)
theorem m0_X11_vary {l : Launch} {Z : XZ} {L : Nat → Nat} {n d : Nat} {S : GS} {a1 : Int} {a2 : Int} {x : Int} {S1 : GS} (H : f_X11_vary n d 0 S [a1, a2] = some (x, S1)) : GM l Z L yX11_vary cX11_vary 5 (some .int) [] d (exc x) (exs x) [.ref (L 468), .int (J a1), .int (J a2)] S (fun v S' => x < exB ∧ v = some (.int (J x)) ∧ S1 = S') (fun E S' => ¬ x < exB ∧ E = exn x ∧ S1 = S') := GM.of (by decide) (Nat.le_of_ble_eq_true rfl) ((g_X11_vary n) _ _ _ _ _ _ H)
theorem m_X11_vary {l : Launch} {Z : XZ} {L : Nat → Nat} {n d : Nat} {S : GS} {a1 : Int} {a2 : Int} {x : Int} {S1 : GS} (H : f_X11_vary n d 0 S [a1, a2] = some (x, S1)) (hb : x < exB) : GM l Z L yX11_vary cX11_vary 5 (some .int) [] d 0 0 [.ref (L 468), .int (J a1), .int (J a2)] S (fun v S' => v = some (.int (J x)) ∧ S1 = S') (fun _ _ => False) := by
  have h := m0_X11_vary (l := l) (Z := Z) (L := L) H
  rw [exc_0 hb, exs_0 hb] at h
  exact h.post (fun v S9 q => q.2) (fun E S9 q => q.1 hb)
theorem mx_X11_vary {l : Launch} {Z : XZ} {L : Nat → Nat} {n d : Nat} {S : GS} {a1 : Int} {a2 : Int} {x : Int} {S1 : GS} (H : f_X11_vary n d 0 S [a1, a2] = some (x, S1)) (hb : ¬ x < exB) : GM l Z L yX11_vary cX11_vary 5 (some .int) [] d 1 6 [.ref (L 468), .int (J a1), .int (J a2)] S (fun _ _ => False) (fun E S' => E = exn x ∧ S1 = S') := by
  have h := m0_X11_vary (l := l) (Z := Z) (L := L) H
  rw [exc_1 hb, exs_6 hb] at h
  exact h.post (fun v S9 q => hb q.1) (fun E S9 q => q.2)

def P_X11_wipe_0 (l : Launch) (Z : XZ) (L : Nat → Nat) (n : Nat) : Prop := ∀ (d : Nat) (S : GS) (x : Int) (S1 : GS), f_X11_wipe n d 0 S [] = some (x, S1) → GA l Z L yX11_wipe cX11_wipe 2 (some .int) [] d 0 0 (fun v S' => v = some (.int (J x)) ∧ S1 = S') (fun _ _ => False) 0 (gl [(0, .ref (L 468))]) [] S 0 0
theorem i_X11_wipe {l : Launch} {Z : XZ} {L : Nat → Nat} {n : Nat} (ih : P_X11_wipe_0 l Z L n) {d : Nat} {S : GS} {x : Int} {S1 : GS} (H : f_X11_wipe n d 0 S [] = some (x, S1)) : GM l Z L yX11_wipe cX11_wipe 2 (some .int) [] d 0 0 [.ref (L 468)] S (fun v S' => v = some (.int (J x)) ∧ S1 = S') (fun _ _ => False) := GM.of (by decide) (Nat.le_of_ble_eq_true rfl) (ih _ _ _ _ H)
set_option maxHeartbeats 4000000 in
set_option maxRecDepth 20000 in
theorem t_X11_wipe_0 {l : Launch} {Z : XZ} {L : Nat → Nat} (n : Nat) (ih_X11_wipe_0 : P_X11_wipe_0 l Z L n) : P_X11_wipe_0 l Z L (n + 1) := by
  intro d S  x S1 H
  have H : b_X11_wipe_0 n d (f_X11_wipe n) S  = some (x, S1) := H
  unfold b_X11_wipe_0 at H
  refine GA.aload_n dX11_wipe_0 rfl ?_
  refine GA.get xf_X11_14 dX11_wipe_1 gs_468 (by decide) rfl ?_
  obtain ⟨hg1, H⟩ := gg_e H
  obtain ⟨x2, S_3, hc4, H⟩ := gc_e H
  refine GA.callV (m_X9_length hc4) xs_X11_120 dX11_wipe_4 (gsS (by decide)) (by decide) rfl rfl (by omega) (by decide) rfl (Nat.le_of_ble_eq_true rfl) (by omega) (by omega) rfl (fun E S9 hx => hx.elim) (fun v S9 hq => ?_)
  obtain ⟨rfl, rfl⟩ := hq
  refine GA.istore_n dX11_wipe_7 (by decide) ?_
  refine GA.aload_n dX11_wipe_8 rfl ?_
  refine GA.get xf_X11_14 dX11_wipe_9 gs_468 (by decide) rfl ?_
  obtain ⟨x5, S_6, hc7, H⟩ := gc_e H
  refine GA.callV (m_X9_clear hc7) xs_X11_134 dX11_wipe_12 (gsS (by decide)) (by decide) rfl rfl (by omega) (by decide) rfl (Nat.le_of_ble_eq_true rfl) (by omega) (by omega) rfl (fun E S9 hx => hx.elim) (fun v S9 hq => ?_)
  obtain ⟨rfl, rfl⟩ := hq
  refine GA.iload_n dX11_wipe_15 rfl ?_
  cases H
  exact GA.iret rfl dX11_wipe_16 (by omega) (by omega) ⟨rfl, rfl⟩
theorem g_X11_wipe {l : Launch} {Z : XZ} {L : Nat → Nat} : ∀ n, P_X11_wipe_0 l Z L n
  | 0 => fun _ _ _ _ H => no_e H
  | n + 1 => t_X11_wipe_0 n (g_X11_wipe n)
theorem m_X11_wipe {l : Launch} {Z : XZ} {L : Nat → Nat} {n d : Nat} {S : GS} {x : Int} {S1 : GS} (H : f_X11_wipe n d 0 S [] = some (x, S1)) : GM l Z L yX11_wipe cX11_wipe 2 (some .int) [] d 0 0 [.ref (L 468)] S (fun v S' => v = some (.int (J x)) ∧ S1 = S') (fun _ _ => False) := GM.of (by decide) (Nat.le_of_ble_eq_true rfl) ((g_X11_wipe n) _ _ _ _ H)

def P_X11_write_0 (l : Launch) (Z : XZ) (L : Nat → Nat) (n : Nat) : Prop := ∀ (d : Nat) (S : GS) (a1 : Int) (a2 : Int) (x : Int) (S1 : GS), f_X11_write n d 0 S [a1, a2] = some (x, S1) → GA l Z L yX11_write cX11_write 5 (some .int) [] d (exc x) (exs x) (fun v S' => x < exB ∧ v = some (.int (J x)) ∧ S1 = S') (fun E S' => ¬ x < exB ∧ E = exn x ∧ S1 = S') 0 (gl [(0, .ref (L 468)), (1, .int (J a1)), (2, .long (K a2))]) [] S 0 0
def P_X11_write_55 (l : Launch) (Z : XZ) (L : Nat → Nat) (n : Nat) : Prop := ∀ (d : Nat) (S : GS) (a2 : Int) (a4 : Int) (x : Int) (S1 : GS), f_X11_write n d 55 S [a2, a4] = some (x, S1) → GA l Z L yX11_write cX11_write 5 (some .int) [] d (exc x) (exs x) (fun v S' => x < exB ∧ v = some (.int (J x)) ∧ S1 = S') (fun E S' => ¬ x < exB ∧ E = exn x ∧ S1 = S') 55 (gl [(0, .ref (L 468)), (2, .long (K a2)), (4, .int (J a4))]) [] S 0 0
set_option maxHeartbeats 4000000 in
set_option maxRecDepth 20000 in
theorem t_X11_write_0 {l : Launch} {Z : XZ} {L : Nat → Nat} (n : Nat) (ih_X11_write_0 : P_X11_write_0 l Z L n) (ih_X11_write_55 : P_X11_write_55 l Z L n) : P_X11_write_0 l Z L (n + 1) := by
  intro d S a1 a2 x S1 H
  have H : b_X11_write_0 n d (f_X11_write n) S a1 a2 = some (x, S1) := H
  unfold b_X11_write_0 at H
  refine GA.iload_n dX11_write_0 rfl ?_
  refine GA.iconst dX11_write_1 ?_
  obtain ⟨hg1, H⟩ := gg_e H
  refine GV.icmp_lt (tgt := 19) hg1 (by decide) dX11_write_2 (by decide) (fun c2 => ?_) (fun c2 => ?_)
  · have H := it_t H c2
    cases H
    exact GA.throw0 xx_X11_117_119 rfl (by decide) dX11_write_19 dX11_write_22 dX11_write_23 dX11_write_26 (Nat.le_of_ble_eq_true rfl) (by decide) (by decide) ⟨by decide, exn_1.symm, rfl⟩
  · have H := it_f H c2
    refine GA.iload_n dX11_write_5 rfl ?_
    refine GA.bipush dX11_write_6 rfl ?_
    refine GV.icmp_gt (tgt := 19) hg1 (by decide) dX11_write_8 (by decide) (fun c3 => ?_) (fun c3 => ?_)
    · have H := it_t H c3
      cases H
      exact GA.throw0 xx_X11_117_119 rfl (by decide) dX11_write_19 dX11_write_22 dX11_write_23 dX11_write_26 (Nat.le_of_ble_eq_true rfl) (by decide) (by decide) ⟨by decide, exn_1.symm, rfl⟩
    · have H := it_f H c3
      refine GA.iload_n dX11_write_11 rfl ?_
      refine GA.lload_n dX11_write_12 rfl ?_
      obtain ⟨hg4, H⟩ := gg_e H
      obtain ⟨x5, S_6, hc7, H⟩ := gc_e H
      refine GA.callS (m_X11_areSigns hc7) xs_X11_113 dX11_write_13 rfl (by omega) (by decide) rfl (Nat.le_of_ble_eq_true rfl) (by omega) (by omega) rfl (fun E S9 hx => hx.elim) (fun v S9 hq => ?_)
      obtain ⟨rfl, rfl⟩ := hq
      obtain ⟨hg8, H⟩ := gg_e H
      refine GV.if_ne (tgt := 27) hg8 dX11_write_16 (by decide) (fun c9 => ?_) (fun c9 => ?_)
      · have H := it_t H c9
        refine GA.aload_n dX11_write_27 rfl ?_
        refine GA.get xf_X11_14 dX11_write_28 gs_468 (by decide) rfl ?_
        obtain ⟨x10, S_11, hc12, H⟩ := gc_e H
        refine GA.callV (m_X9_length hc12) xs_X11_120 dX11_write_31 (gsS (by decide)) (by decide) rfl rfl (by omega) (by decide) rfl (Nat.le_of_ble_eq_true rfl) (by omega) (by omega) rfl (fun E S9 hx => hx.elim) (fun v S9 hq => ?_)
        obtain ⟨rfl, rfl⟩ := hq
        refine GA.iload_n dX11_write_34 rfl ?_
        obtain ⟨x13, hx14, H⟩ := gv_e H
        refine GV.iadd hx14 dX11_write_35 ?_
        refine GA.sipush dX11_write_36 rfl ?_
        obtain ⟨hg15, H⟩ := gg_e H
        refine GV.icmp_le (tgt := 50) hg15 (by decide) dX11_write_39 (by decide) (fun c16 => ?_) (fun c16 => ?_)
        · have H := it_t H c16
          refine GA.iload_n dX11_write_50 rfl ?_
          refine GA.iconst dX11_write_51 ?_
          obtain ⟨x17, hx18, H⟩ := gv_e H
          refine GV.isub hx18 dX11_write_52 ?_
          refine GA.istore dX11_write_53 (by decide) ?_
          refine GA.locals [(0, .ref (L 468)), (2, .long (K a2)), (4, .int (J x17))] ⟨rfl, rfl, rfl, trivial⟩ ?_
          exact ih_X11_write_55 _ _ (a2) (x17) _ _ H
        · have H := it_f H c16
          cases H
          exact GA.throw0 xx_X11_124_126 rfl (by decide) dX11_write_42 dX11_write_45 dX11_write_46 dX11_write_49 (Nat.le_of_ble_eq_true rfl) (by decide) (by decide) ⟨by decide, exn_2.symm, rfl⟩
      · have H := it_f H c9
        cases H
        exact GA.throw0 xx_X11_117_119 rfl (by decide) dX11_write_19 dX11_write_22 dX11_write_23 dX11_write_26 (Nat.le_of_ble_eq_true rfl) (by decide) (by decide) ⟨by decide, exn_1.symm, rfl⟩
set_option maxHeartbeats 4000000 in
set_option maxRecDepth 20000 in
theorem t_X11_write_55 {l : Launch} {Z : XZ} {L : Nat → Nat} (n : Nat) (ih_X11_write_0 : P_X11_write_0 l Z L n) (ih_X11_write_55 : P_X11_write_55 l Z L n) : P_X11_write_55 l Z L (n + 1) := by
  intro d S a2 a4 x S1 H
  have H : b_X11_write_55 n d (f_X11_write n) S a2 a4 = some (x, S1) := H
  unfold b_X11_write_55 at H
  refine GA.iload dX11_write_55 rfl ?_
  obtain ⟨hg1, H⟩ := gg_e H
  refine GV.if_lt (tgt := 79) hg1 dX11_write_57 (by decide) (fun c2 => ?_) (fun c2 => ?_)
  · have H := it_t H c2
    refine GA.aload_n dX11_write_79 rfl ?_
    refine GA.get xf_X11_14 dX11_write_80 gs_468 (by decide) rfl ?_
    obtain ⟨hg3, H⟩ := gg_e H
    obtain ⟨x4, S_5, hc6, H⟩ := gc_e H
    refine GA.callV (m_X9_length hc6) xs_X11_120 dX11_write_83 (gsS (by decide)) (by decide) rfl rfl (by omega) (by decide) rfl (Nat.le_of_ble_eq_true rfl) (by omega) (by omega) rfl (fun E S9 hx => hx.elim) (fun v S9 hq => ?_)
    obtain ⟨rfl, rfl⟩ := hq
    obtain ⟨hg7, H⟩ := gg_e H
    cases H
    exact GA.iret rfl dX11_write_86 (by omega) (by omega) ⟨hg7, rfl, rfl⟩
  · have H := it_f H c2
    refine GA.aload_n dX11_write_60 rfl ?_
    refine GA.get xf_X11_14 dX11_write_61 gs_468 (by decide) rfl ?_
    refine GA.lload_n dX11_write_64 rfl ?_
    refine GA.iload dX11_write_65 rfl ?_
    obtain ⟨hg8, H⟩ := gg_e H
    obtain ⟨x9, S_10, hc11, H⟩ := gc_e H
    refine GA.callS (m_X11_letterAt hc11) xs_X11_127 dX11_write_67 rfl (by omega) (by decide) rfl (Nat.le_of_ble_eq_true rfl) (by omega) (by omega) rfl (fun E S9 hx => hx.elim) (fun v S9 hq => ?_)
    obtain ⟨rfl, rfl⟩ := hq
    obtain ⟨x12, S_13, hc14, H⟩ := gc_e H
    refine GA.callV (m_X9_add hc14) xs_X11_131 dX11_write_70 (gsS (by decide)) (by decide) rfl rfl (by omega) (by decide) rfl (Nat.le_of_ble_eq_true rfl) (by omega) (by omega) rfl (fun E S9 hx => hx.elim) (fun v S9 hq => ?_)
    obtain ⟨rfl, rfl⟩ := hq
    obtain ⟨x15, hx16, H⟩ := gv_e H
    refine GV.iinc hx16 dX11_write_73 rfl (by decide) ?_
    refine GA.goto (tgt := 55) dX11_write_76 (by decide) ?_
    refine GA.locals [(0, .ref (L 468)), (2, .long (K a2)), (4, .int (J x15))] ⟨rfl, rfl, rfl, trivial⟩ ?_
    exact ih_X11_write_55 _ _ (a2) (x15) _ _ H
theorem g_X11_write {l : Launch} {Z : XZ} {L : Nat → Nat} : ∀ n, P_X11_write_0 l Z L n ∧ P_X11_write_55 l Z L n
  | 0 => ⟨fun _ _ _ _ _ _ H => no_e H, fun _ _ _ _ _ _ H => no_e H⟩
  | n + 1 => have ⟨h0, h1⟩ := g_X11_write (l := l) (Z := Z) (L := L) n
    ⟨t_X11_write_0 n h0 h1, t_X11_write_55 n h0 h1⟩
theorem m0_X11_write {l : Launch} {Z : XZ} {L : Nat → Nat} {n d : Nat} {S : GS} {a1 : Int} {a2 : Int} {x : Int} {S1 : GS} (H : f_X11_write n d 0 S [a1, a2] = some (x, S1)) : GM l Z L yX11_write cX11_write 5 (some .int) [] d (exc x) (exs x) [.ref (L 468), .int (J a1), .long (K a2)] S (fun v S' => x < exB ∧ v = some (.int (J x)) ∧ S1 = S') (fun E S' => ¬ x < exB ∧ E = exn x ∧ S1 = S') := GM.of (by decide) (Nat.le_of_ble_eq_true rfl) ((g_X11_write n).1 _ _ _ _ _ _ H)
theorem m_X11_write {l : Launch} {Z : XZ} {L : Nat → Nat} {n d : Nat} {S : GS} {a1 : Int} {a2 : Int} {x : Int} {S1 : GS} (H : f_X11_write n d 0 S [a1, a2] = some (x, S1)) (hb : x < exB) : GM l Z L yX11_write cX11_write 5 (some .int) [] d 0 0 [.ref (L 468), .int (J a1), .long (K a2)] S (fun v S' => v = some (.int (J x)) ∧ S1 = S') (fun _ _ => False) := by
  have h := m0_X11_write (l := l) (Z := Z) (L := L) H
  rw [exc_0 hb, exs_0 hb] at h
  exact h.post (fun v S9 q => q.2) (fun E S9 q => q.1 hb)
theorem mx_X11_write {l : Launch} {Z : XZ} {L : Nat → Nat} {n d : Nat} {S : GS} {a1 : Int} {a2 : Int} {x : Int} {S1 : GS} (H : f_X11_write n d 0 S [a1, a2] = some (x, S1)) (hb : ¬ x < exB) : GM l Z L yX11_write cX11_write 5 (some .int) [] d 1 6 [.ref (L 468), .int (J a1), .long (K a2)] S (fun _ _ => False) (fun E S' => E = exn x ∧ S1 = S') := by
  have h := m0_X11_write (l := l) (Z := Z) (L := L) H
  rw [exc_1 hb, exs_6 hb] at h
  exact h.post (fun v S9 q => hb q.1) (fun E S9 q => q.2)

