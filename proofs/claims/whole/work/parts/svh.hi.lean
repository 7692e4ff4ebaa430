/-! CELLS that the class never touches -/
theorem kh_X9_shorten : ∀ n : Nat, (∀ (d : Nat) (S : GS) (a0 : Nat) (a1 : Int), PH 495 S (f_X9_shorten n d 0 S [((a0 : Nat) : Int), a1]))
  | 0 => (fun _ _ _ _ => ph_none)
  | n + 1 => by
    have h0 := kh_X9_shorten n
    · intro _ _ _ _
      rw [e_X9_shorten_0]
      unfold b_X9_shorten_0
      repeat' (with_reducible first
        | exact ph_none
        | exact ph_some
        | refine ph_gI (by first | decide | omega) (fun _ => ?_)
        | refine ph_gCp (by first | decide | omega) (fun _ => ?_)
        | refine ph_gB (by first | decide | omega) (fun _ => ?_)
        | refine ph_gR (by first | decide | omega) (fun _ => ?_)
        | refine ph_gv (fun _ => ?_)
        | refine ph_gg (fun _ => ?_)
        | refine ph_gc ?_ (fun _ _ => ?_)
        | refine ph_ite (fun _ => ?_) (fun _ => ?_))

theorem kh_X4_forget : ∀ n : Nat, (∀ (d : Nat) (S : GS), PH 495 S (f_X4_forget n d 0 S []))
  | 0 => (fun _ _ => ph_none)
  | n + 1 => by
    have h0 := kh_X4_forget n
    · intro _ _
      rw [e_X4_forget_0]
      unfold b_X4_forget_0
      repeat' (with_reducible first
        | exact ph_none
        | exact ph_some
        | refine ph_gI (by first | decide | omega) (fun _ => ?_)
        | refine ph_gCp (by first | decide | omega) (fun _ => ?_)
        | refine ph_gB (by first | decide | omega) (fun _ => ?_)
        | refine ph_gR (by first | decide | omega) (fun _ => ?_)
        | refine ph_gv (fun _ => ?_)
        | refine ph_gg (fun _ => ?_)
        | refine ph_gc ?_ (fun _ _ => ?_)
        | refine ph_ite (fun _ => ?_) (fun _ => ?_)
        | exact (kh_X9_clear _) _ _ _)

theorem kh_X4_dispute : ∀ n : Nat, (∀ (d : Nat) (S : GS), PH 495 S (f_X4_dispute n d 0 S [])) ∧ (∀ (d : Nat) (S : GS), PH 495 S (f_X4_dispute n d 11 S []))
  | 0 => ⟨(fun _ _ => ph_none), (fun _ _ => ph_none)⟩
  | n + 1 => by
    obtain ⟨h0, h11⟩ := kh_X4_dispute n
    refine ⟨?_, ?_⟩
    · intro _ _
      rw [e_X4_dispute_0]
      unfold b_X4_dispute_0
      repeat' (with_reducible first
        | exact ph_none
        | exact ph_some
        | refine ph_gI (by first | decide | omega) (fun _ => ?_)
        | refine ph_gCp (by first | decide | omega) (fun _ => ?_)
        | refine ph_gB (by first | decide | omega) (fun _ => ?_)
        | refine ph_gR (by first | decide | omega) (fun _ => ?_)
        | refine ph_gv (fun _ => ?_)
        | refine ph_gg (fun _ => ?_)
        | refine ph_gc ?_ (fun _ _ => ?_)
        | refine ph_ite (fun _ => ?_) (fun _ => ?_)
        | exact h11 _ _
        | exact (kh_X4_forget _) _ _)
    · intro _ _
      rw [e_X4_dispute_11]
      unfold b_X4_dispute_11
      repeat' (with_reducible first
        | exact ph_none
        | exact ph_some
        | refine ph_gI (by first | decide | omega) (fun _ => ?_)
        | refine ph_gCp (by first | decide | omega) (fun _ => ?_)
        | refine ph_gB (by first | decide | omega) (fun _ => ?_)
        | refine ph_gR (by first | decide | omega) (fun _ => ?_)
        | refine ph_gv (fun _ => ?_)
        | refine ph_gg (fun _ => ?_)
        | refine ph_gc ?_ (fun _ _ => ?_)
        | refine ph_ite (fun _ => ?_) (fun _ => ?_)
        | exact (kh_X9_addPart _).1 _ _ _ _ _ _
        | exact (kh_X9_length _) _ _ _)

theorem kh_X4_uniteAt : ∀ n : Nat, (∀ (d : Nat) (S : GS) (a1 : Int) (a2 : Int) (a3 : Int) (a4 : Int), PH 495 S (f_X4_uniteAt n d 0 S [a1, a2, a3, a4])) ∧ (∀ (d : Nat) (S : GS) (a1 : Int) (a2 : Int) (a3 : Int) (a4 : Int), PH 495 S (f_X4_uniteAt n d 113 S [a1, a2, a3, a4])) ∧ (∀ (d : Nat) (S : GS) (a1 : Int) (a2 : Int) (a3 : Int) (a4 : Int), PH 495 S (f_X4_uniteAt n d 10000 S [a1, a2, a3, a4])) ∧ (∀ (d : Nat) (S : GS) (a1 : Int) (a2 : Int) (a3 : Int) (a4 : Int) (a5 : Int) (a6 : Int) (a7 : Int) (a8 : Int), PH 495 S (f_X4_uniteAt n d 10046 S [a1, a2, a3, a4, a5, a6, a7, a8])) ∧ (∀ (d : Nat) (S : GS) (a1 : Int) (a2 : Int) (a3 : Int) (a4 : Int) (a5 : Int) (a6 : Int) (a7 : Int) (a8 : Int), PH 495 S (f_X4_uniteAt n d 10150 S [a1, a2, a3, a4, a5, a6, a7, a8])) ∧ (∀ (d : Nat) (S : GS) (a1 : Int) (a2 : Int) (a3 : Int) (a4 : Int) (a5 : Int) (a6 : Int) (a7 : Int) (a8 : Int), PH 495 S (f_X4_uniteAt n d 10228 S [a1, a2, a3, a4, a5, a6, a7, a8])) ∧ (∀ (d : Nat) (S : GS) (a1 : Int) (a2 : Int) (a3 : Int) (a5 : Int) (a7 : Int) (a8 : Int), PH 495 S (f_X4_uniteAt n d 10259 S [a1, a2, a3, a5, a7, a8])) ∧ (∀ (d : Nat) (S : GS) (a1 : Int) (a2 : Int) (a3 : Int) (a5 : Int) (a7 : Int) (a8 : Int), PH 495 S (f_X4_uniteAt n d 10318 S [a1, a2, a3, a5, a7, a8]))
  | 0 => ⟨(fun _ _ _ _ _ _ => ph_none), (fun _ _ _ _ _ _ => ph_none), (fun _ _ _ _ _ _ => ph_none), (fun _ _ _ _ _ _ _ _ _ _ => ph_none), (fun _ _ _ _ _ _ _ _ _ _ => ph_none), (fun _ _ _ _ _ _ _ _ _ _ => ph_none), (fun _ _ _ _ _ _ _ _ => ph_none), (fun _ _ _ _ _ _ _ _ => ph_none)⟩
  | n + 1 => by
    obtain ⟨h0, h113, h10000, h10046, h10150, h10228, h10259, h10318⟩ := kh_X4_uniteAt n
    refine ⟨?_, ?_, ?_, ?_, ?_, ?_, ?_, ?_⟩
    · intro _ _ _ _ _ _
      rw [e_X4_uniteAt_0]
      unfold b_X4_uniteAt_0
      repeat' (with_reducible first
        | exact ph_none
        | exact ph_some
        | refine ph_gI (by first | decide | omega) (fun _ => ?_)
        | refine ph_gCp (by first | decide | omega) (fun _ => ?_)
        | refine ph_gB (by first | decide | omega) (fun _ => ?_)
        | refine ph_gR (by first | decide | omega) (fun _ => ?_)
        | refine ph_gv (fun _ => ?_)
        | refine ph_gg (fun _ => ?_)
        | refine ph_gc ?_ (fun _ _ => ?_)
        | refine ph_ite (fun _ => ?_) (fun _ => ?_)
        | exact h113 _ _ _ _ _ _
        | exact (kh_X10_is _) _ _ _ _ _
        | exact (kh_X4_accept _) _ _ _ _
        | exact (kh_X4_alike _).1 _ _ _ _ _ _
        | exact (kh_X4_dispute _).1 _ _)
    · intro _ _ _ _ _ _
      rw [e_X4_uniteAt_113]
      unfold b_X4_uniteAt_113
      repeat' (with_reducible first
        | exact ph_none
        | exact ph_some
        | refine ph_gI (by first | decide | omega) (fun _ => ?_)
        | refine ph_gCp (by first | decide | omega) (fun _ => ?_)
        | refine ph_gB (by first | decide | omega) (fun _ => ?_)
        | refine ph_gR (by first | decide | omega) (fun _ => ?_)
        | refine ph_gv (fun _ => ?_)
        | refine ph_gg (fun _ => ?_)
        | refine ph_gc ?_ (fun _ _ => ?_)
        | refine ph_ite (fun _ => ?_) (fun _ => ?_)
        | exact h10000 _ _ _ _ _ _
        | exact (kh_X4_dispute _).1 _ _)
    · intro _ _ _ _ _ _
      rw [e_X4_uniteMaps_0]
      unfold b_X4_uniteMaps_0
      repeat' (with_reducible first
        | exact ph_none
        | exact ph_some
        | refine ph_gI (by first | decide | omega) (fun _ => ?_)
        | refine ph_gCp (by first | decide | omega) (fun _ => ?_)
        | refine ph_gB (by first | decide | omega) (fun _ => ?_)
        | refine ph_gR (by first | decide | omega) (fun _ => ?_)
        | refine ph_gv (fun _ => ?_)
        | refine ph_gg (fun _ => ?_)
        | refine ph_gc ?_ (fun _ _ => ?_)
        | refine ph_ite (fun _ => ?_) (fun _ => ?_)
        | exact h10046 _ _ _ _ _ _ _ _ _ _
        | exact (kh_X10_add _) _ _ _ _
        | exact (kh_X10_first _).1 _ _ _ _
        | exact (kh_X10_setKeyLike _).1 _ _ _ _ _ _
        | exact (kh_X9_length _) _ _ _)
    · intro _ _ _ _ _ _ _ _ _ _
      rw [e_X4_uniteMaps_46]
      unfold b_X4_uniteMaps_46
      repeat' (with_reducible first
        | exact ph_none
        | exact ph_some
        | refine ph_gI (by first | decide | omega) (fun _ => ?_)
        | refine ph_gCp (by first | decide | omega) (fun _ => ?_)
        | refine ph_gB (by first | decide | omega) (fun _ => ?_)
        | refine ph_gR (by first | decide | omega) (fun _ => ?_)
        | refine ph_gv (fun _ => ?_)
        | refine ph_gg (fun _ => ?_)
        | refine ph_gc ?_ (fun _ _ => ?_)
        | refine ph_ite (fun _ => ?_) (fun _ => ?_)
        | exact h0 _ _ _ _ _ _
        | exact h10046 _ _ _ _ _ _ _ _ _ _
        | exact h10150 _ _ _ _ _ _ _ _ _ _
        | exact (kh_X10_first _).1 _ _ _ _
        | exact (kh_X10_next _) _ _ _ _ _
        | exact (kh_X10_stepTo _).1 _ _ _ _ _
        | exact (kh_X10_valueLike _).1 _ _ _ _ _ _
        | exact (kh_X9_shorten _) _ _ _ _)
    · intro _ _ _ _ _ _ _ _ _ _
      rw [e_X4_uniteMaps_150]
      unfold b_X4_uniteMaps_150
      repeat' (with_reducible first
        | exact ph_none
        | exact ph_some
        | refine ph_gI (by first | decide | omega) (fun _ => ?_)
        | refine ph_gCp (by first | decide | omega) (fun _ => ?_)
        | refine ph_gB (by first | decide | omega) (fun _ => ?_)
        | refine ph_gR (by first | decide | omega) (fun _ => ?_)
        | refine ph_gv (fun _ => ?_)
        | refine ph_gg (fun _ => ?_)
        | refine ph_gc ?_ (fun _ _ => ?_)
        | refine ph_ite (fun _ => ?_) (fun _ => ?_)
        | exact h0 _ _ _ _ _ _
        | exact h10228 _ _ _ _ _ _ _ _ _ _
        | exact h10259 _ _ _ _ _ _ _ _
        | exact (kh_X10_first _).1 _ _ _ _
        | exact (kh_X10_stepTo _).1 _ _ _ _ _
        | exact (kh_X10_valueLike _).1 _ _ _ _ _ _
        | exact (kh_X9_shorten _) _ _ _ _)
    · intro _ _ _ _ _ _ _ _ _ _
      rw [e_X4_uniteMaps_228]
      unfold b_X4_uniteMaps_228
      repeat' (with_reducible first
        | exact ph_none
        | exact ph_some
        | refine ph_gI (by first | decide | omega) (fun _ => ?_)
        | refine ph_gCp (by first | decide | omega) (fun _ => ?_)
        | refine ph_gB (by first | decide | omega) (fun _ => ?_)
        | refine ph_gR (by first | decide | omega) (fun _ => ?_)
        | refine ph_gv (fun _ => ?_)
        | refine ph_gg (fun _ => ?_)
        | refine ph_gc ?_ (fun _ _ => ?_)
        | refine ph_ite (fun _ => ?_) (fun _ => ?_)
        | exact h10150 _ _ _ _ _ _ _ _ _ _
        | exact (kh_X10_next _) _ _ _ _ _)
    · intro _ _ _ _ _ _ _ _
      rw [e_X4_uniteMaps_259]
      unfold b_X4_uniteMaps_259
      repeat' (with_reducible first
        | exact ph_none
        | exact ph_some
        | refine ph_gI (by first | decide | omega) (fun _ => ?_)
        | refine ph_gCp (by first | decide | omega) (fun _ => ?_)
        | refine ph_gB (by first | decide | omega) (fun _ => ?_)
        | refine ph_gR (by first | decide | omega) (fun _ => ?_)
        | refine ph_gv (fun _ => ?_)
        | refine ph_gg (fun _ => ?_)
        | refine ph_gc ?_ (fun _ _ => ?_)
        | refine ph_ite (fun _ => ?_) (fun _ => ?_)
        | exact h10318 _ _ _ _ _ _ _ _
        | exact (kh_X10_close _) _ _ _ _
        | exact (kh_X10_valueLike _).1 _ _ _ _ _ _
        | exact (kh_X4_accept _) _ _ _ _)
    · intro _ _ _ _ _ _ _ _
      rw [e_X4_uniteMaps_318]
      unfold b_X4_uniteMaps_318
      repeat' (with_reducible first
        | exact ph_none
        | exact ph_some
        | refine ph_gI (by first | decide | omega) (fun _ => ?_)
        | refine ph_gCp (by first | decide | omega) (fun _ => ?_)
        | refine ph_gB (by first | decide | omega) (fun _ => ?_)
        | refine ph_gR (by first | decide | omega) (fun _ => ?_)
        | refine ph_gv (fun _ => ?_)
        | refine ph_gg (fun _ => ?_)
        | refine ph_gc ?_ (fun _ _ => ?_)
        | refine ph_ite (fun _ => ?_) (fun _ => ?_)
        | exact h10259 _ _ _ _ _ _ _ _
        | exact (kh_X10_next _) _ _ _ _ _)

theorem kh_X4_unite : ∀ n : Nat, (∀ (d : Nat) (S : GS) (a1 : Nat) (a2 : Nat) (a3 : Nat), PH 495 S (f_X4_unite n d 0 S [((a1 : Nat) : Int), ((a2 : Nat) : Int), ((a3 : Nat) : Int)]))
  | 0 => (fun _ _ _ _ _ => ph_none)
  | n + 1 => by
    have h0 := kh_X4_unite n
    · intro _ _ _ _ _
      rw [e_X4_unite_0]
      unfold b_X4_unite_0
      repeat' (with_reducible first
        | exact ph_none
        | exact ph_some
        | refine ph_gI (by first | decide | omega) (fun _ => ?_)
        | refine ph_gCp (by first | decide | omega) (fun _ => ?_)
        | refine ph_gB (by first | decide | omega) (fun _ => ?_)
        | refine ph_gR (by first | decide | omega) (fun _ => ?_)
        | refine ph_gv (fun _ => ?_)
        | refine ph_gg (fun _ => ?_)
        | refine ph_gc ?_ (fun _ _ => ?_)
        | refine ph_ite (fun _ => ?_) (fun _ => ?_)
        | exact (kh_X10_clear _) _ _ _
        | exact (kh_X4_uniteAt _).1 _ _ _ _ _ _
        | exact (kh_X9_clear _) _ _ _)

theorem kh_X4_result : ∀ n : Nat, (∀ (d : Nat) (S : GS), PH 495 S (f_X4_result n d 0 S []))
  | 0 => (fun _ _ => ph_none)
  | n + 1 => by
    have h0 := kh_X4_result n
    · intro _ _
      rw [e_X4_result_0]
      unfold b_X4_result_0
      repeat' (with_reducible first
        | exact ph_none
        | exact ph_some
        | refine ph_gI (by first | decide | omega) (fun _ => ?_)
        | refine ph_gCp (by first | decide | omega) (fun _ => ?_)
        | refine ph_gB (by first | decide | omega) (fun _ => ?_)
        | refine ph_gR (by first | decide | omega) (fun _ => ?_)
        | refine ph_gv (fun _ => ?_)
        | refine ph_gg (fun _ => ?_)
        | refine ph_gc ?_ (fun _ _ => ?_)
        | refine ph_ite (fun _ => ?_) (fun _ => ?_))

theorem kh_X11_join : ∀ n : Nat, (∀ (d : Nat) (S : GS) (a1 : Int) (a2 : Int) (a3 : Int), PH 495 S (f_X11_join n d 0 S [a1, a2, a3]))
  | 0 => (fun _ _ _ _ _ => ph_none)
  | n + 1 => by
    have h0 := kh_X11_join n
    · intro _ _ _ _ _
      rw [e_X11_join_0]
      unfold b_X11_join_0
      repeat' (with_reducible first
        | exact ph_none
        | exact ph_some
        | refine ph_gI (by first | decide | omega) (fun _ => ?_)
        | refine ph_gCp (by first | decide | omega) (fun _ => ?_)
        | refine ph_gB (by first | decide | omega) (fun _ => ?_)
        | refine ph_gR (by first | decide | omega) (fun _ => ?_)
        | refine ph_gv (fun _ => ?_)
        | refine ph_gg (fun _ => ?_)
        | refine ph_gc ?_ (fun _ _ => ?_)
        | refine ph_ite (fun _ => ?_) (fun _ => ?_)
        | exact (kh_X11_admit _) _ _ _
        | exact (kh_X11_document _) _ _ _
        | exact (kh_X4_forget _) _ _
        | exact (kh_X4_result _) _ _
        | exact (kh_X4_unite _) _ _ _ _ _)

theorem kh_X7_loadText : ∀ n : Nat, (∀ (d : Nat) (S : GS) (a0 : Nat) (a1 : Nat) (a2 : Int), PH 495 S (f_X7_loadText n d 0 S [((a0 : Nat) : Int), ((a1 : Nat) : Int), a2]))
  | 0 => (fun _ _ _ _ _ => ph_none)
  | n + 1 => by
    have h0 := kh_X7_loadText n
    · intro _ _ _ _ _
      rw [e_X7_loadText_0]
      unfold b_X7_loadText_0
      repeat' (with_reducible first
        | exact ph_none
        | exact ph_some
        | refine ph_gI (by first | decide | omega) (fun _ => ?_)
        | refine ph_gCp (by first | decide | omega) (fun _ => ?_)
        | refine ph_gB (by first | decide | omega) (fun _ => ?_)
        | refine ph_gR (by first | decide | omega) (fun _ => ?_)
        | refine ph_gv (fun _ => ?_)
        | refine ph_gg (fun _ => ?_)
        | refine ph_gc ?_ (fun _ _ => ?_)
        | refine ph_ite (fun _ => ?_) (fun _ => ?_)
        | exact (kh_X10_is _) _ _ _ _ _
        | exact (kh_X10_signsTo _).1 _ _ _ _ _
        | exact (kh_X7_divide _).1 _ _ _
        | exact (kh_X9_clear _) _ _ _)

theorem kh_X1_holdAt : ∀ n : Nat, (∀ (d : Nat) (S : GS) (a1 : Nat) (a2 : Int), PH 495 S (f_X1_holdAt n d 0 S [((a1 : Nat) : Int), a2]))
  | 0 => (fun _ _ _ _ => ph_none)
  | n + 1 => by
    have h0 := kh_X1_holdAt n
    · intro _ _ _ _
      rw [e_X1_holdAt_0]
      unfold b_X1_holdAt_0
      repeat' (with_reducible first
        | exact ph_none
        | exact ph_some
        | refine ph_gI (by first | decide | omega) (fun _ => ?_)
        | refine ph_gCp (by first | decide | omega) (fun _ => ?_)
        | refine ph_gB (by first | decide | omega) (fun _ => ?_)
        | refine ph_gR (by first | decide | omega) (fun _ => ?_)
        | refine ph_gv (fun _ => ?_)
        | refine ph_gg (fun _ => ?_)
        | refine ph_gc ?_ (fun _ _ => ?_)
        | refine ph_ite (fun _ => ?_) (fun _ => ?_)
        | exact (kh_X10_copyOf _) _ _ _ _ _
        | exact (kh_X7_leadsTo _).1 _ _ _ _ _
        | exact (kh_X7_loadText _) _ _ _ _ _
        | exact (kh_X7_steps _) _ _ _)

theorem kh_X9_says : ∀ n : Nat, (∀ (d : Nat) (S : GS) (a0 : Nat) (a1 : Nat), PH 495 S (f_X9_says n d 0 S [((a0 : Nat) : Int), ((a1 : Nat) : Int)])) ∧ (∀ (d : Nat) (S : GS) (a0 : Nat) (a1 : Nat) (a2 : Int) (a3 : Int), PH 495 S (f_X9_says n d 19 S [((a0 : Nat) : Int), ((a1 : Nat) : Int), a2, a3]))
  | 0 => ⟨(fun _ _ _ _ => ph_none), (fun _ _ _ _ _ _ => ph_none)⟩
  | n + 1 => by
    obtain ⟨h0, h19⟩ := kh_X9_says n
    refine ⟨?_, ?_⟩
    · intro _ _ _ _
      rw [e_X9_says_0]
      unfold b_X9_says_0
      repeat' (with_reducible first
        | exact ph_none
        | exact ph_some
        | refine ph_gI (by first | decide | omega) (fun _ => ?_)
        | refine ph_gCp (by first | decide | omega) (fun _ => ?_)
        | refine ph_gB (by first | decide | omega) (fun _ => ?_)
        | refine ph_gR (by first | decide | omega) (fun _ => ?_)
        | refine ph_gv (fun _ => ?_)
        | refine ph_gg (fun _ => ?_)
        | refine ph_gc ?_ (fun _ _ => ?_)
        | refine ph_ite (fun _ => ?_) (fun _ => ?_)
        | exact h19 _ _ _ _ _ _)
    · intro _ _ _ _ _ _
      rw [e_X9_says_19]
      unfold b_X9_says_19
      repeat' (with_reducible first
        | exact ph_none
        | exact ph_some
        | refine ph_gI (by first | decide | omega) (fun _ => ?_)
        | refine ph_gCp (by first | decide | omega) (fun _ => ?_)
        | refine ph_gB (by first | decide | omega) (fun _ => ?_)
        | refine ph_gR (by first | decide | omega) (fun _ => ?_)
        | refine ph_gv (fun _ => ?_)
        | refine ph_gg (fun _ => ?_)
        | refine ph_gc ?_ (fun _ _ => ?_)
        | refine ph_ite (fun _ => ?_) (fun _ => ?_)
        | exact h19 _ _ _ _ _ _
        | exact (kh_X9_at _) _ _ _ _)

theorem kh_X1_aim : ∀ n : Nat, (∀ (d : Nat) (S : GS) (a1 : Nat), PH 495 S (f_X1_aim n d 0 S [((a1 : Nat) : Int)])) ∧ (∀ (d : Nat) (S : GS) (a1 : Nat) (s0 : Int), PH 495 S (f_X1_aim n d 18 S [((a1 : Nat) : Int), s0])) ∧ (∀ (d : Nat) (S : GS) (s0 : Int), PH 495 S (f_X1_aim n d 92 S [s0])) ∧ (∀ (d : Nat) (S : GS) (s0 : Int), PH 495 S (f_X1_aim n d 121 S [s0])) ∧ (∀ (d : Nat) (S : GS) (a2 : Int) (s0 : Int), PH 495 S (f_X1_aim n d 196 S [a2, s0])) ∧ (∀ (d : Nat) (S : GS) (a2 : Int) (s0 : Int), PH 495 S (f_X1_aim n d 237 S [a2, s0]))
  | 0 => ⟨(fun _ _ _ => ph_none), (fun _ _ _ _ => ph_none), (fun _ _ _ => ph_none), (fun _ _ _ => ph_none), (fun _ _ _ _ => ph_none), (fun _ _ _ _ => ph_none)⟩
  | n + 1 => by
    obtain ⟨h0, h18, h92, h121, h196, h237⟩ := kh_X1_aim n
    refine ⟨?_, ?_, ?_, ?_, ?_, ?_⟩
    · intro _ _ _
      rw [e_X1_aim_0]
      unfold b_X1_aim_0
      repeat' (with_reducible first
        | exact ph_none
        | exact ph_some
        | refine ph_gI (by first | decide | omega) (fun _ => ?_)
        | refine ph_gCp (by first | decide | omega) (fun _ => ?_)
        | refine ph_gB (by first | decide | omega) (fun _ => ?_)
        | refine ph_gR (by first | decide | omega) (fun _ => ?_)
        | refine ph_gv (fun _ => ?_)
        | refine ph_gg (fun _ => ?_)
        | refine ph_gc ?_ (fun _ _ => ?_)
        | refine ph_ite (fun _ => ?_) (fun _ => ?_)
        | exact h18 _ _ _ _
        | exact (kh_X7_steps _) _ _ _)
    · intro _ _ _ _
      rw [e_X1_aim_18]
      unfold b_X1_aim_18
      repeat' (with_reducible first
        | exact ph_none
        | exact ph_some
        | refine ph_gI (by first | decide | omega) (fun _ => ?_)
        | refine ph_gCp (by first | decide | omega) (fun _ => ?_)
        | refine ph_gB (by first | decide | omega) (fun _ => ?_)
        | refine ph_gR (by first | decide | omega) (fun _ => ?_)
        | refine ph_gv (fun _ => ?_)
        | refine ph_gg (fun _ => ?_)
        | refine ph_gc ?_ (fun _ _ => ?_)
        | refine ph_ite (fun _ => ?_) (fun _ => ?_)
        | exact h92 _ _ _
        | exact h196 _ _ _ _
        | exact (kh_X10_is _) _ _ _ _ _
        | exact (kh_X10_valueOf _).1 _ _ _ _ _
        | exact (kh_X10_values _).1 _ _ _ _
        | exact (kh_X7_placeIn _).1 _ _ _ _
        | exact (kh_X7_steps _) _ _ _
        | exact (kh_X7_wordTo _).1 _ _ _ _ _
        | exact (kh_X9_says _).1 _ _ _ _)
    · intro _ _ _
      rw [e_X1_aim_92]
      unfold b_X1_aim_92
      repeat' (with_reducible first
        | exact ph_none
        | exact ph_some
        | refine ph_gI (by first | decide | omega) (fun _ => ?_)
        | refine ph_gCp (by first | decide | omega) (fun _ => ?_)
        | refine ph_gB (by first | decide | omega) (fun _ => ?_)
        | refine ph_gR (by first | decide | omega) (fun _ => ?_)
        | refine ph_gv (fun _ => ?_)
        | refine ph_gg (fun _ => ?_)
        | refine ph_gc ?_ (fun _ _ => ?_)
        | refine ph_ite (fun _ => ?_) (fun _ => ?_)
        | exact h121 _ _ _
        | exact (kh_X10_after _) _ _ _ _)
    · intro _ _ _
      rw [e_X1_aim_121]
      unfold b_X1_aim_121
      repeat' (with_reducible first
        | exact ph_none
        | exact ph_some
        | refine ph_gI (by first | decide | omega) (fun _ => ?_)
        | refine ph_gCp (by first | decide | omega) (fun _ => ?_)
        | refine ph_gB (by first | decide | omega) (fun _ => ?_)
        | refine ph_gR (by first | decide | omega) (fun _ => ?_)
        | refine ph_gv (fun _ => ?_)
        | refine ph_gg (fun _ => ?_)
        | refine ph_gc ?_ (fun _ _ => ?_)
        | refine ph_ite (fun _ => ?_) (fun _ => ?_)
        | exact (kh_X9_length _) _ _ _)
    · intro _ _ _ _
      rw [e_X1_aim_196]
      unfold b_X1_aim_196
      repeat' (with_reducible first
        | exact ph_none
        | exact ph_some
        | refine ph_gI (by first | decide | omega) (fun _ => ?_)
        | refine ph_gCp (by first | decide | omega) (fun _ => ?_)
        | refine ph_gB (by first | decide | omega) (fun _ => ?_)
        | refine ph_gR (by first | decide | omega) (fun _ => ?_)
        | refine ph_gv (fun _ => ?_)
        | refine ph_gg (fun _ => ?_)
        | refine ph_gc ?_ (fun _ _ => ?_)
        | refine ph_ite (fun _ => ?_) (fun _ => ?_)
        | exact h237 _ _ _ _
        | exact (kh_X10_after _) _ _ _ _
        | exact (kh_X10_valueAt _).1 _ _ _ _ _)
    · intro _ _ _ _
      rw [e_X1_aim_237]
      unfold b_X1_aim_237
      repeat' (with_reducible first
        | exact ph_none
        | exact ph_some
        | refine ph_gI (by first | decide | omega) (fun _ => ?_)
        | refine ph_gCp (by first | decide | omega) (fun _ => ?_)
        | refine ph_gB (by first | decide | omega) (fun _ => ?_)
        | refine ph_gR (by first | decide | omega) (fun _ => ?_)
        | refine ph_gv (fun _ => ?_)
        | refine ph_gg (fun _ => ?_)
        | refine ph_gc ?_ (fun _ _ => ?_)
        | refine ph_ite (fun _ => ?_) (fun _ => ?_))

theorem kh_X7_textWithPlace : ∀ n : Nat, (∀ (d : Nat) (S : GS) (a0 : Nat) (a1 : Int) (a2 : Nat), PH 495 S (f_X7_textWithPlace n d 0 S [((a0 : Nat) : Int), a1, ((a2 : Nat) : Int)]))
  | 0 => (fun _ _ _ _ _ => ph_none)
  | n + 1 => by
    have h0 := kh_X7_textWithPlace n
    · intro _ _ _ _ _
      rw [e_X7_textWithPlace_0]
      unfold b_X7_textWithPlace_0
      repeat' (with_reducible first
        | exact ph_none
        | exact ph_some
        | refine ph_gI (by first | decide | omega) (fun _ => ?_)
        | refine ph_gCp (by first | decide | omega) (fun _ => ?_)
        | refine ph_gB (by first | decide | omega) (fun _ => ?_)
        | refine ph_gR (by first | decide | omega) (fun _ => ?_)
        | refine ph_gv (fun _ => ?_)
        | refine ph_gg (fun _ => ?_)
        | refine ph_gc ?_ (fun _ _ => ?_)
        | refine ph_ite (fun _ => ?_) (fun _ => ?_)
        | exact (kh_X7_startOf _) _ _ _ _
        | exact (kh_X9_addNumber _).1 _ _ _ _
        | exact (kh_X9_addPart _).1 _ _ _ _ _ _
        | exact (kh_X9_clear _) _ _ _)

theorem kh_X1_aimedPathTo : ∀ n : Nat, (∀ (d : Nat) (S : GS) (a1 : Nat), PH 495 S (f_X1_aimedPathTo n d 0 S [((a1 : Nat) : Int)]))
  | 0 => (fun _ _ _ => ph_none)
  | n + 1 => by
    have h0 := kh_X1_aimedPathTo n
    · intro _ _ _
      rw [e_X1_aimedPathTo_0]
      unfold b_X1_aimedPathTo_0
      repeat' (with_reducible first
        | exact ph_none
        | exact ph_some
        | refine ph_gI (by first | decide | omega) (fun _ => ?_)
        | refine ph_gCp (by first | decide | omega) (fun _ => ?_)
        | refine ph_gB (by first | decide | omega) (fun _ => ?_)
        | refine ph_gR (by first | decide | omega) (fun _ => ?_)
        | refine ph_gv (fun _ => ?_)
        | refine ph_gg (fun _ => ?_)
        | refine ph_gc ?_ (fun _ _ => ?_)
        | refine ph_ite (fun _ => ?_) (fun _ => ?_)
        | exact (kh_X10_is _) _ _ _ _ _
        | exact (kh_X7_textTo _) _ _ _ _
        | exact (kh_X7_textWithPlace _) _ _ _ _ _)

theorem kh_X1_putIn : ∀ n : Nat, (∀ (d : Nat) (S : GS) (a1 : Nat) (a2 : Nat) (a3 : Int), PH 495 S (f_X1_putIn n d 0 S [((a1 : Nat) : Int), ((a2 : Nat) : Int), a3])) ∧ (∀ (d : Nat) (S : GS) (a1 : Nat) (a2 : Nat) (a3 : Int), PH 495 S (f_X1_putIn n d 67 S [((a1 : Nat) : Int), ((a2 : Nat) : Int), a3])) ∧ (∀ (d : Nat) (S : GS) (a2 : Nat) (a3 : Int), PH 495 S (f_X1_putIn n d 90 S [((a2 : Nat) : Int), a3]))
  | 0 => ⟨(fun _ _ _ _ _ => ph_none), (fun _ _ _ _ _ => ph_none), (fun _ _ _ _ => ph_none)⟩
  | n + 1 => by
    obtain ⟨h0, h67, h90⟩ := kh_X1_putIn n
    refine ⟨?_, ?_, ?_⟩
    · intro _ _ _ _ _
      rw [e_X1_putIn_0]
      unfold b_X1_putIn_0
      repeat' (with_reducible first
        | exact ph_none
        | exact ph_some
        | refine ph_gI (by first | decide | omega) (fun _ => ?_)
        | refine ph_gCp (by first | decide | omega) (fun _ => ?_)
        | refine ph_gB (by first | decide | omega) (fun _ => ?_)
        | refine ph_gR (by first | decide | omega) (fun _ => ?_)
        | refine ph_gv (fun _ => ?_)
        | refine ph_gg (fun _ => ?_)
        | refine ph_gc ?_ (fun _ _ => ?_)
        | refine ph_ite (fun _ => ?_) (fun _ => ?_)
        | exact h67 _ _ _ _ _
        | exact h90 _ _ _ _
        | exact (kh_X1_aim _).1 _ _ _
        | exact (kh_X1_record _) _ _ _ _ _
        | exact (kh_X7_leadsTo _).1 _ _ _ _ _
        | exact (kh_X7_steps _) _ _ _
        | exact (kh_X7_textTo _) _ _ _ _)
    · intro _ _ _ _ _
      rw [e_X1_putIn_67]
      unfold b_X1_putIn_67
      repeat' (with_reducible first
        | exact ph_none
        | exact ph_some
        | refine ph_gI (by first | decide | omega) (fun _ => ?_)
        | refine ph_gCp (by first | decide | omega) (fun _ => ?_)
        | refine ph_gB (by first | decide | omega) (fun _ => ?_)
        | refine ph_gR (by first | decide | omega) (fun _ => ?_)
        | refine ph_gv (fun _ => ?_)
        | refine ph_gg (fun _ => ?_)
        | refine ph_gc ?_ (fun _ _ => ?_)
        | refine ph_ite (fun _ => ?_) (fun _ => ?_)
        | exact h90 _ _ _ _
        | exact (kh_X1_aimedPathTo _) _ _ _
        | exact (kh_X1_record _) _ _ _ _ _)
    · intro _ _ _ _
      rw [e_X1_putIn_90]
      unfold b_X1_putIn_90
      repeat' (with_reducible first
        | exact ph_none
        | exact ph_some
        | refine ph_gI (by first | decide | omega) (fun _ => ?_)
        | refine ph_gCp (by first | decide | omega) (fun _ => ?_)
        | refine ph_gB (by first | decide | omega) (fun _ => ?_)
        | refine ph_gR (by first | decide | omega) (fun _ => ?_)
        | refine ph_gv (fun _ => ?_)
        | refine ph_gg (fun _ => ?_)
        | refine ph_gc ?_ (fun _ _ => ?_)
        | refine ph_ite (fun _ => ?_) (fun _ => ?_)
        | exact (kh_X10_clearKey _) _ _ _ _
        | exact (kh_X10_insert _) _ _ _ _ _ _ _
        | exact (kh_X10_is _) _ _ _ _ _
        | exact (kh_X10_isDocument _) _ _ _
        | exact (kh_X10_replace _) _ _ _ _ _ _
        | exact (kh_X10_setKey _).1 _ _ _ _ _)

theorem kh_X1_exchange : ∀ n : Nat, (∀ (d : Nat) (S : GS) (a1 : Nat) (a2 : Int), PH 495 S (f_X1_exchange n d 0 S [((a1 : Nat) : Int), a2])) ∧ (∀ (d : Nat) (S : GS) (a1 : Nat) (a2 : Int) (a3 : Int), PH 495 S (f_X1_exchange n d 55 S [((a1 : Nat) : Int), a2, a3]))
  | 0 => ⟨(fun _ _ _ _ => ph_none), (fun _ _ _ _ _ => ph_none)⟩
  | n + 1 => by
    obtain ⟨h0, h55⟩ := kh_X1_exchange n
    refine ⟨?_, ?_⟩
    · intro _ _ _ _
      rw [e_X1_exchange_0]
      unfold b_X1_exchange_0
      repeat' (with_reducible first
        | exact ph_none
        | exact ph_some
        | refine ph_gI (by first | decide | omega) (fun _ => ?_)
        | refine ph_gCp (by first | decide | omega) (fun _ => ?_)
        | refine ph_gB (by first | decide | omega) (fun _ => ?_)
        | refine ph_gR (by first | decide | omega) (fun _ => ?_)
        | refine ph_gv (fun _ => ?_)
        | refine ph_gg (fun _ => ?_)
        | refine ph_gc ?_ (fun _ _ => ?_)
        | refine ph_ite (fun _ => ?_) (fun _ => ?_)
        | exact h55 _ _ _ _ _
        | exact (kh_X1_record _) _ _ _ _ _
        | exact (kh_X7_leadsTo _).1 _ _ _ _ _
        | exact (kh_X7_steps _) _ _ _
        | exact (kh_X7_textTo _) _ _ _ _)
    · intro _ _ _ _ _
      rw [e_X1_exchange_55]
      unfold b_X1_exchange_55
      repeat' (with_reducible first
        | exact ph_none
        | exact ph_some
        | refine ph_gI (by first | decide | omega) (fun _ => ?_)
        | refine ph_gCp (by first | decide | omega) (fun _ => ?_)
        | refine ph_gB (by first | decide | omega) (fun _ => ?_)
        | refine ph_gR (by first | decide | omega) (fun _ => ?_)
        | refine ph_gv (fun _ => ?_)
        | refine ph_gg (fun _ => ?_)
        | refine ph_gc ?_ (fun _ _ => ?_)
        | refine ph_ite (fun _ => ?_) (fun _ => ?_)
        | exact (kh_X10_replace _) _ _ _ _ _ _)

theorem kh_X1_isThere : ∀ n : Nat, (∀ (d : Nat) (S : GS) (a1 : Nat) (a2 : Int), PH 495 S (f_X1_isThere n d 0 S [((a1 : Nat) : Int), a2]))
  | 0 => (fun _ _ _ _ => ph_none)
  | n + 1 => by
    have h0 := kh_X1_isThere n
    · intro _ _ _ _
      rw [e_X1_isThere_0]
      unfold b_X1_isThere_0
      repeat' (with_reducible first
        | exact ph_none
        | exact ph_some
        | refine ph_gI (by first | decide | omega) (fun _ => ?_)
        | refine ph_gCp (by first | decide | omega) (fun _ => ?_)
        | refine ph_gB (by first | decide | omega) (fun _ => ?_)
        | refine ph_gR (by first | decide | omega) (fun _ => ?_)
        | refine ph_gv (fun _ => ?_)
        | refine ph_gg (fun _ => ?_)
        | refine ph_gc ?_ (fun _ _ => ?_)
        | refine ph_ite (fun _ => ?_) (fun _ => ?_)
        | exact (kh_X10_same _).1 _ _ _ _ _ _ _
        | exact (kh_X1_record _) _ _ _ _ _
        | exact (kh_X7_leadsTo _).1 _ _ _ _ _
        | exact (kh_X7_steps _) _ _ _
        | exact (kh_X7_textTo _) _ _ _ _)

theorem kh_X1_layOne : ∀ n : Nat, (∀ (d : Nat) (S : GS) (a1 : Nat) (a2 : Int), PH 495 S (f_X1_layOne n d 0 S [((a1 : Nat) : Int), a2]))
  | 0 => (fun _ _ _ _ => ph_none)
  | n + 1 => by
    have h0 := kh_X1_layOne n
    · intro _ _ _ _
      rw [e_X1_layOne_0]
      unfold b_X1_layOne_0
      repeat' (with_reducible first
        | exact ph_none
        | exact ph_some
        | refine ph_gI (by first | decide | omega) (fun _ => ?_)
        | refine ph_gCp (by first | decide | omega) (fun _ => ?_)
        | refine ph_gB (by first | decide | omega) (fun _ => ?_)
        | refine ph_gR (by first | decide | omega) (fun _ => ?_)
        | refine ph_gv (fun _ => ?_)
        | refine ph_gg (fun _ => ?_)
        | refine ph_gc ?_ (fun _ _ => ?_)
        | refine ph_ite (fun _ => ?_) (fun _ => ?_)
        | exact (kh_X10_is _) _ _ _ _ _
        | exact (kh_X10_says _).1 _ _ _ _ _
        | exact (kh_X10_valueNamed _).1 _ _ _ _ _
        | exact (kh_X1_cutOut _) _ _ _
        | exact (kh_X1_exchange _).1 _ _ _ _
        | exact (kh_X1_holdAt _) _ _ _ _
        | exact (kh_X1_isThere _) _ _ _ _
        | exact (kh_X1_putIn _).1 _ _ _ _ _
        | exact (kh_X7_loadText _) _ _ _ _ _)

theorem kh_X1_layAll : ∀ n : Nat, (∀ (d : Nat) (S : GS) (a1 : Nat), PH 495 S (f_X1_layAll n d 0 S [((a1 : Nat) : Int)])) ∧ (∀ (d : Nat) (S : GS) (a1 : Nat) (a2 : Int) (a3 : Int), PH 495 S (f_X1_layAll n d 8 S [((a1 : Nat) : Int), a2, a3]))
  | 0 => ⟨(fun _ _ _ => ph_none), (fun _ _ _ _ _ => ph_none)⟩
  | n + 1 => by
    obtain ⟨h0, h8⟩ := kh_X1_layAll n
    refine ⟨?_, ?_⟩
    · intro _ _ _
      rw [e_X1_layAll_0]
      unfold b_X1_layAll_0
      repeat' (with_reducible first
        | exact ph_none
        | exact ph_some
        | refine ph_gI (by first | decide | omega) (fun _ => ?_)
        | refine ph_gCp (by first | decide | omega) (fun _ => ?_)
        | refine ph_gB (by first | decide | omega) (fun _ => ?_)
        | refine ph_gR (by first | decide | omega) (fun _ => ?_)
        | refine ph_gv (fun _ => ?_)
        | refine ph_gg (fun _ => ?_)
        | refine ph_gc ?_ (fun _ _ => ?_)
        | refine ph_ite (fun _ => ?_) (fun _ => ?_)
        | exact h8 _ _ _ _ _
        | exact (kh_X10_first _).1 _ _ _ _)
    · intro _ _ _ _ _
      rw [e_X1_layAll_8]
      unfold b_X1_layAll_8
      repeat' (with_reducible first
        | exact ph_none
        | exact ph_some
        | refine ph_gI (by first | decide | omega) (fun _ => ?_)
        | refine ph_gCp (by first | decide | omega) (fun _ => ?_)
        | refine ph_gB (by first | decide | omega) (fun _ => ?_)
        | refine ph_gR (by first | decide | omega) (fun _ => ?_)
        | refine ph_gv (fun _ => ?_)
        | refine ph_gg (fun _ => ?_)
        | refine ph_gc ?_ (fun _ _ => ?_)
        | refine ph_ite (fun _ => ?_) (fun _ => ?_)
        | exact h8 _ _ _ _ _
        | exact (kh_X10_isDocument _) _ _ _
        | exact (kh_X10_next _) _ _ _ _ _
        | exact (kh_X1_layOne _) _ _ _ _)

theorem kh_X11_lay : ∀ n : Nat, (∀ (d : Nat) (S : GS) (a1 : Int) (a2 : Int), PH 495 S (f_X11_lay n d 0 S [a1, a2]))
  | 0 => (fun _ _ _ _ => ph_none)
  | n + 1 => by
    have h0 := kh_X11_lay n
    · intro _ _ _ _
      rw [e_X11_lay_0]
      unfold b_X11_lay_0
      repeat' (with_reducible first
        | exact ph_none
        | exact ph_some
        | refine ph_gI (by first | decide | omega) (fun _ => ?_)
        | refine ph_gCp (by first | decide | omega) (fun _ => ?_)
        | refine ph_gB (by first | decide | omega) (fun _ => ?_)
        | refine ph_gR (by first | decide | omega) (fun _ => ?_)
        | refine ph_gv (fun _ => ?_)
        | refine ph_gg (fun _ => ?_)
        | refine ph_gc ?_ (fun _ _ => ?_)
        | refine ph_ite (fun _ => ?_) (fun _ => ?_)
        | exact (kh_X10_is _) _ _ _ _ _
        | exact (kh_X11_admit _) _ _ _
        | exact (kh_X11_document _) _ _ _
        | exact (kh_X1_begin _) _ _ _ _
        | exact (kh_X1_layAll _).1 _ _ _
        | exact (kh_X1_result _) _ _)

theorem kh_X11_node : ∀ n : Nat, (∀ (d : Nat) (S : GS) (a1 : Int) (a2 : Int) (a3 : Int), PH 495 S (f_X11_node n d 0 S [a1, a2, a3]))
  | 0 => (fun _ _ _ _ _ => ph_none)
  | n + 1 => by
    have h0 := kh_X11_node n
    · intro _ _ _ _ _
      rw [e_X11_node_0]
      unfold b_X11_node_0
      repeat' (with_reducible first
        | exact ph_none
        | exact ph_some
        | refine ph_gI (by first | decide | omega) (fun _ => ?_)
        | refine ph_gCp (by first | decide | omega) (fun _ => ?_)
        | refine ph_gB (by first | decide | omega) (fun _ => ?_)
        | refine ph_gR (by first | decide | omega) (fun _ => ?_)
        | refine ph_gv (fun _ => ?_)
        | refine ph_gg (fun _ => ?_)
        | refine ph_gc ?_ (fun _ _ => ?_)
        | refine ph_ite (fun _ => ?_) (fun _ => ?_)
        | exact (kh_X10_about _) _ _ _ _ _
        | exact (kh_X11_documentWith _) _ _ _ _)

theorem kh_X11_paper : ∀ n : Nat, (∀ (d : Nat) (S : GS) (a1 : Int) (a2 : Int), PH 495 S (f_X11_paper n d 0 S [a1, a2])) ∧ (∀ (d : Nat) (S : GS) (a1 : Int) (a2 : Int) (a3 : Int) (a5 : Int), PH 495 S (f_X11_paper n d 60 S [a1, a2, a3, a5]))
  | 0 => ⟨(fun _ _ _ _ => ph_none), (fun _ _ _ _ _ _ => ph_none)⟩
  | n + 1 => by
    obtain ⟨h0, h60⟩ := kh_X11_paper n
    refine ⟨?_, ?_⟩
    · intro _ _ _ _
      rw [e_X11_paper_0]
      unfold b_X11_paper_0
      repeat' (with_reducible first
        | exact ph_none
        | exact ph_some
        | refine ph_gI (by first | decide | omega) (fun _ => ?_)
        | refine ph_gCp (by first | decide | omega) (fun _ => ?_)
        | refine ph_gB (by first | decide | omega) (fun _ => ?_)
        | refine ph_gR (by first | decide | omega) (fun _ => ?_)
        | refine ph_gv (fun _ => ?_)
        | refine ph_gg (fun _ => ?_)
        | refine ph_gc ?_ (fun _ _ => ?_)
        | refine ph_ite (fun _ => ?_) (fun _ => ?_)
        | exact h60 _ _ _ _ _ _
        | exact (kh_X9_length _) _ _ _)
    · intro _ _ _ _ _ _
      rw [e_X11_paper_60]
      unfold b_X11_paper_60
      repeat' (with_reducible first
        | exact ph_none
        | exact ph_some
        | refine ph_gI (by first | decide | omega) (fun _ => ?_)
        | refine ph_gCp (by first | decide | omega) (fun _ => ?_)
        | refine ph_gB (by first | decide | omega) (fun _ => ?_)
        | refine ph_gR (by first | decide | omega) (fun _ => ?_)
        | refine ph_gv (fun _ => ?_)
        | refine ph_gg (fun _ => ?_)
        | refine ph_gc ?_ (fun _ _ => ?_)
        | refine ph_ite (fun _ => ?_) (fun _ => ?_)
        | exact h60 _ _ _ _ _ _
        | exact (kh_X9_at _) _ _ _ _)

theorem kh_X5_gather : ∀ n : Nat, (∀ (d : Nat) (S : GS) (a0 : Nat) (a1 : Int) (a2 : Nat), PH 495 S (f_X5_gather n d 0 S [((a0 : Nat) : Int), a1, ((a2 : Nat) : Int)])) ∧ (∀ (d : Nat) (S : GS) (a0 : Nat) (a1 : Int) (a2 : Nat) (a3 : Int) (a4 : Int), PH 495 S (f_X5_gather n d 9 S [((a0 : Nat) : Int), a1, ((a2 : Nat) : Int), a3, a4]))
  | 0 => ⟨(fun _ _ _ _ _ => ph_none), (fun _ _ _ _ _ _ _ => ph_none)⟩
  | n + 1 => by
    obtain ⟨h0, h9⟩ := kh_X5_gather n
    refine ⟨?_, ?_⟩
    · intro _ _ _ _ _
      rw [e_X5_gather_0]
      unfold b_X5_gather_0
      repeat' (with_reducible first
        | exact ph_none
        | exact ph_some
        | refine ph_gI (by first | decide | omega) (fun _ => ?_)
        | refine ph_gCp (by first | decide | omega) (fun _ => ?_)
        | refine ph_gB (by first | decide | omega) (fun _ => ?_)
        | refine ph_gR (by first | decide | omega) (fun _ => ?_)
        | refine ph_gv (fun _ => ?_)
        | refine ph_gg (fun _ => ?_)
        | refine ph_gc ?_ (fun _ _ => ?_)
        | refine ph_ite (fun _ => ?_) (fun _ => ?_)
        | exact h9 _ _ _ _ _ _ _
        | exact (kh_X10_first _).1 _ _ _ _)
    · intro _ _ _ _ _ _ _
      rw [e_X5_gather_9]
      unfold b_X5_gather_9
      repeat' (with_reducible first
        | exact ph_none
        | exact ph_some
        | refine ph_gI (by first | decide | omega) (fun _ => ?_)
        | refine ph_gCp (by first | decide | omega) (fun _ => ?_)
        | refine ph_gB (by first | decide | omega) (fun _ => ?_)
        | refine ph_gR (by first | decide | omega) (fun _ => ?_)
        | refine ph_gv (fun _ => ?_)
        | refine ph_gg (fun _ => ?_)
        | refine ph_gc ?_ (fun _ _ => ?_)
        | refine ph_ite (fun _ => ?_) (fun _ => ?_)
        | exact h9 _ _ _ _ _ _ _
        | exact (kh_X10_next _) _ _ _ _ _)

theorem kh_X5_matchAll : ∀ n : Nat, (∀ (d : Nat) (S : GS) (a1 : Int) (a2 : Int), PH 495 S (f_X5_matchAll n d 0 S [a1, a2])) ∧ (∀ (d : Nat) (S : GS) (a1 : Int) (a2 : Int) (a3 : Int), PH 495 S (f_X5_matchAll n d 2 S [a1, a2, a3])) ∧ (∀ (d : Nat) (S : GS) (a1 : Int) (a2 : Int) (a3 : Int) (a4 : Int), PH 495 S (f_X5_matchAll n d 16 S [a1, a2, a3, a4]))
  | 0 => ⟨(fun _ _ _ _ => ph_none), (fun _ _ _ _ _ => ph_none), (fun _ _ _ _ _ _ => ph_none)⟩
  | n + 1 => by
    obtain ⟨h0, h2, h16⟩ := kh_X5_matchAll n
    refine ⟨?_, ?_, ?_⟩
    · intro _ _ _ _
      rw [e_X5_matchAll_0]
      unfold b_X5_matchAll_0
      repeat' (with_reducible first
        | exact ph_none
        | exact ph_some
        | refine ph_gI (by first | decide | omega) (fun _ => ?_)
        | refine ph_gCp (by first | decide | omega) (fun _ => ?_)
        | refine ph_gB (by first | decide | omega) (fun _ => ?_)
        | refine ph_gR (by first | decide | omega) (fun _ => ?_)
        | refine ph_gv (fun _ => ?_)
        | refine ph_gg (fun _ => ?_)
        | refine ph_gc ?_ (fun _ _ => ?_)
        | refine ph_ite (fun _ => ?_) (fun _ => ?_)
        | exact h2 _ _ _ _ _)
    · intro _ _ _ _ _
      rw [e_X5_matchAll_2]
      unfold b_X5_matchAll_2
      repeat' (with_reducible first
        | exact ph_none
        | exact ph_some
        | refine ph_gI (by first | decide | omega) (fun _ => ?_)
        | refine ph_gCp (by first | decide | omega) (fun _ => ?_)
        | refine ph_gB (by first | decide | omega) (fun _ => ?_)
        | refine ph_gR (by first | decide | omega) (fun _ => ?_)
        | refine ph_gv (fun _ => ?_)
        | refine ph_gg (fun _ => ?_)
        | refine ph_gc ?_ (fun _ _ => ?_)
        | refine ph_ite (fun _ => ?_) (fun _ => ?_)
        | exact h16 _ _ _ _ _ _)
    · intro _ _ _ _ _ _
      rw [e_X5_matchAll_16]
      unfold b_X5_matchAll_16
      repeat' (with_reducible first
        | exact ph_none
        | exact ph_some
        | refine ph_gI (by first | decide | omega) (fun _ => ?_)
        | refine ph_gCp (by first | decide | omega) (fun _ => ?_)
        | refine ph_gB (by first | decide | omega) (fun _ => ?_)
        | refine ph_gR (by first | decide | omega) (fun _ => ?_)
        | refine ph_gv (fun _ => ?_)
        | refine ph_gg (fun _ => ?_)
        | refine ph_gc ?_ (fun _ _ => ?_)
        | refine ph_ite (fun _ => ?_) (fun _ => ?_)
        | exact h2 _ _ _ _ _
        | exact h16 _ _ _ _ _ _
        | exact (kh_X10_same _).1 _ _ _ _ _ _ _)

theorem kh_X5_pairsFrom : ∀ n : Nat, (∀ (d : Nat) (S : GS) (a1 : Int) (a2 : Int), PH 495 S (f_X5_pairsFrom n d 0 S [a1, a2]))
  | 0 => (fun _ _ _ _ => ph_none)
  | n + 1 => by
    have h0 := kh_X5_pairsFrom n
    · intro _ _ _ _
      rw [e_X5_pairsFrom_0]
      unfold b_X5_pairsFrom_0
      repeat' (with_reducible first
        | exact ph_none
        | exact ph_some
        | refine ph_gI (by first | decide | omega) (fun _ => ?_)
        | refine ph_gCp (by first | decide | omega) (fun _ => ?_)
        | refine ph_gB (by first | decide | omega) (fun _ => ?_)
        | refine ph_gR (by first | decide | omega) (fun _ => ?_)
        | refine ph_gv (fun _ => ?_)
        | refine ph_gg (fun _ => ?_)
        | refine ph_gc ?_ (fun _ _ => ?_)
        | refine ph_ite (fun _ => ?_) (fun _ => ?_))

theorem kh_X5_countPairs : ∀ n : Nat, (∀ (d : Nat) (S : GS) (a1 : Int) (a2 : Int), PH 495 S (f_X5_countPairs n d 0 S [a1, a2])) ∧ (∀ (d : Nat) (S : GS) (a1 : Int) (a2 : Int) (a3 : Int), PH 495 S (f_X5_countPairs n d 7 S [a1, a2, a3])) ∧ (∀ (d : Nat) (S : GS) (a1 : Int) (a2 : Int) (a3 : Int) (a4 : Int), PH 495 S (f_X5_countPairs n d 19 S [a1, a2, a3, a4])) ∧ (∀ (d : Nat) (S : GS) (a1 : Int) (a2 : Int) (a3 : Int) (a4 : Int) (a5 : Int), PH 495 S (f_X5_countPairs n d 94 S [a1, a2, a3, a4, a5]))
  | 0 => ⟨(fun _ _ _ _ => ph_none), (fun _ _ _ _ _ => ph_none), (fun _ _ _ _ _ _ => ph_none), (fun _ _ _ _ _ _ _ => ph_none)⟩
  | n + 1 => by
    obtain ⟨h0, h7, h19, h94⟩ := kh_X5_countPairs n
    refine ⟨?_, ?_, ?_, ?_⟩
    · intro _ _ _ _
      rw [e_X5_countPairs_0]
      unfold b_X5_countPairs_0
      repeat' (with_reducible first
        | exact ph_none
        | exact ph_some
        | refine ph_gI (by first | decide | omega) (fun _ => ?_)
        | refine ph_gCp (by first | decide | omega) (fun _ => ?_)
        | refine ph_gB (by first | decide | omega) (fun _ => ?_)
        | refine ph_gR (by first | decide | omega) (fun _ => ?_)
        | refine ph_gv (fun _ => ?_)
        | refine ph_gg (fun _ => ?_)
        | refine ph_gc ?_ (fun _ _ => ?_)
        | refine ph_ite (fun _ => ?_) (fun _ => ?_)
        | exact h7 _ _ _ _ _)
    · intro _ _ _ _ _
      rw [e_X5_countPairs_7]
      unfold b_X5_countPairs_7
      repeat' (with_reducible first
        | exact ph_none
        | exact ph_some
        | refine ph_gI (by first | decide | omega) (fun _ => ?_)
        | refine ph_gCp (by first | decide | omega) (fun _ => ?_)
        | refine ph_gB (by first | decide | omega) (fun _ => ?_)
        | refine ph_gR (by first | decide | omega) (fun _ => ?_)
        | refine ph_gv (fun _ => ?_)
        | refine ph_gg (fun _ => ?_)
        | refine ph_gc ?_ (fun _ _ => ?_)
        | refine ph_ite (fun _ => ?_) (fun _ => ?_)
        | exact h19 _ _ _ _ _ _)
    · intro _ _ _ _ _ _
      rw [e_X5_countPairs_19]
      unfold b_X5_countPairs_19
      repeat' (with_reducible first
        | exact ph_none
        | exact ph_some
        | refine ph_gI (by first | decide | omega) (fun _ => ?_)
        | refine ph_gCp (by first | decide | omega) (fun _ => ?_)
        | refine ph_gB (by first | decide | omega) (fun _ => ?_)
        | refine ph_gR (by first | decide | omega) (fun _ => ?_)
        | refine ph_gv (fun _ => ?_)
        | refine ph_gg (fun _ => ?_)
        | refine ph_gc ?_ (fun _ _ => ?_)
        | refine ph_ite (fun _ => ?_) (fun _ => ?_)
        | exact h7 _ _ _ _ _
        | exact h94 _ _ _ _ _ _ _
        | exact (kh_X5_pairsFrom _) _ _ _ _)
    · intro _ _ _ _ _ _ _
      rw [e_X5_countPairs_94]
      unfold b_X5_countPairs_94
      repeat' (with_reducible first
        | exact ph_none
        | exact ph_some
        | refine ph_gI (by first | decide | omega) (fun _ => ?_)
        | refine ph_gCp (by first | decide | omega) (fun _ => ?_)
        | refine ph_gB (by first | decide | omega) (fun _ => ?_)
        | refine ph_gR (by first | decide | omega) (fun _ => ?_)
        | refine ph_gv (fun _ => ?_)
        | refine ph_gg (fun _ => ?_)
        | refine ph_gc ?_ (fun _ _ => ?_)
        | refine ph_ite (fun _ => ?_) (fun _ => ?_)
        | exact h19 _ _ _ _ _ _)

