/-! CELLS that the class never touches -/
theorem kh_X5_add : ∀ n : Nat, (∀ (d : Nat) (S : GS) (a0 : Nat) (a1 : Nat) (a2 : Nat) (a3 : Nat) (a4 : Int), PH 495 S (f_X5_add n d 0 S [((a0 : Nat) : Int), ((a1 : Nat) : Int), ((a2 : Nat) : Int), ((a3 : Nat) : Int), a4])) ∧ (∀ (d : Nat) (S : GS) (a0 : Nat) (a1 : Nat) (a2 : Nat) (a3 : Nat) (a4 : Int) (a5 : Int) (a6 : Int) (a7 : Int), PH 495 S (f_X5_add n d 25 S [((a0 : Nat) : Int), ((a1 : Nat) : Int), ((a2 : Nat) : Int), ((a3 : Nat) : Int), a4, a5, a6, a7])) ∧ (∀ (d : Nat) (S : GS) (a0 : Nat) (a2 : Nat) (a3 : Nat) (a4 : Int) (a5 : Int) (a7 : Int) (a8 : Int), PH 495 S (f_X5_add n d 70 S [((a0 : Nat) : Int), ((a2 : Nat) : Int), ((a3 : Nat) : Int), a4, a5, a7, a8]))
  | 0 => ⟨(fun _ _ _ _ _ _ _ => ph_none), (fun _ _ _ _ _ _ _ _ _ _ => ph_none), (fun _ _ _ _ _ _ _ _ _ => ph_none)⟩
  | n + 1 => by
    obtain ⟨h0, h25, h70⟩ := kh_X5_add n
    refine ⟨?_, ?_, ?_⟩
    · intro _ _ _ _ _ _ _
      rw [e_X5_add_0]
      unfold b_X5_add_0
      repeat' (with_reducible first
        | exact ph_none
        | exact ph_some
        | refine ph_gI (by first | decide | omega) (fun _ => ?_)
        | refine ph_gCp (by first | decide | omega) (fun _ => ?_)
        | refine ph_gB (by first | decide | omega) (fun _ => ?_)
        | refine ph_gR (by first | decide | omega) (fun _ => ?_)
        | refine ph_gv (fun _ => ?_)
        | refine ph_gg (fun _ => ?_)
        | refine ph_gc ?_ (fun _ _ => ?_)
        | refine ph_ite (fun _ => ?_) (fun _ => ?_)
        | exact h25 _ _ _ _ _ _ _ _ _ _
        | exact (kh_X10_add _) _ _ _ _
        | exact (kh_X10_setKeyWord _).1 _ _ _ _ _)
    · intro _ _ _ _ _ _ _ _ _ _
      rw [e_X5_add_25]
      unfold b_X5_add_25
      repeat' (with_reducible first
        | exact ph_none
        | exact ph_some
        | refine ph_gI (by first | decide | omega) (fun _ => ?_)
        | refine ph_gCp (by first | decide | omega) (fun _ => ?_)
        | refine ph_gB (by first | decide | omega) (fun _ => ?_)
        | refine ph_gR (by first | decide | omega) (fun _ => ?_)
        | refine ph_gv (fun _ => ?_)
        | refine ph_gg (fun _ => ?_)
        | refine ph_gc ?_ (fun _ _ => ?_)
        | refine ph_ite (fun _ => ?_) (fun _ => ?_)
        | exact h25 _ _ _ _ _ _ _ _ _ _
        | exact h70 _ _ _ _ _ _ _ _ _
        | exact (kh_X10_add _) _ _ _ _
        | exact (kh_X10_addSign _).1 _ _ _ _ _
        | exact (kh_X10_setKeyWord _).1 _ _ _ _ _)
    · intro _ _ _ _ _ _ _ _ _
      rw [e_X5_add_70]
      unfold b_X5_add_70
      repeat' (with_reducible first
        | exact ph_none
        | exact ph_some
        | refine ph_gI (by first | decide | omega) (fun _ => ?_)
        | refine ph_gCp (by first | decide | omega) (fun _ => ?_)
        | refine ph_gB (by first | decide | omega) (fun _ => ?_)
        | refine ph_gR (by first | decide | omega) (fun _ => ?_)
        | refine ph_gv (fun _ => ?_)
        | refine ph_gg (fun _ => ?_)
        | refine ph_gc ?_ (fun _ _ => ?_)
        | refine ph_ite (fun _ => ?_) (fun _ => ?_)
        | exact h70 _ _ _ _ _ _ _ _ _
        | exact (kh_X10_addSign _).1 _ _ _ _ _
        | exact (kh_X10_append _) _ _ _ _ _
        | exact (kh_X10_close _) _ _ _ _
        | exact (kh_X10_setKeyWord _).1 _ _ _ _ _
        | exact (kh_X9_at _) _ _ _ _
        | exact (kh_X9_length _) _ _ _)

theorem kh_X1_record : ∀ n : Nat, (∀ (d : Nat) (S : GS) (a1 : Nat) (a2 : Nat) (a3 : Int), PH 495 S (f_X1_record n d 0 S [((a1 : Nat) : Int), ((a2 : Nat) : Int), a3]))
  | 0 => (fun _ _ _ _ _ => ph_none)
  | n + 1 => by
    have h0 := kh_X1_record n
    · intro _ _ _ _ _
      rw [e_X1_record_0]
      unfold b_X1_record_0
      repeat' (with_reducible first
        | exact ph_none
        | exact ph_some
        | refine ph_gI (by first | decide | omega) (fun _ => ?_)
        | refine ph_gCp (by first | decide | omega) (fun _ => ?_)
        | refine ph_gB (by first | decide | omega) (fun _ => ?_)
        | refine ph_gR (by first | decide | omega) (fun _ => ?_)
        | refine ph_gv (fun _ => ?_)
        | refine ph_gg (fun _ => ?_)
        | refine ph_gc ?_ (fun _ _ => ?_)
        | refine ph_ite (fun _ => ?_) (fun _ => ?_)
        | exact (kh_X10_clear _) _ _ _
        | exact (kh_X10_insert _) _ _ _ _ _ _ _
        | exact (kh_X5_add _).1 _ _ _ _ _ _ _)

theorem kh_X1_cutOut : ∀ n : Nat, (∀ (d : Nat) (S : GS) (a1 : Nat), PH 495 S (f_X1_cutOut n d 0 S [((a1 : Nat) : Int)]))
  | 0 => (fun _ _ _ => ph_none)
  | n + 1 => by
    have h0 := kh_X1_cutOut n
    · intro _ _ _
      rw [e_X1_cutOut_0]
      unfold b_X1_cutOut_0
      repeat' (with_reducible first
        | exact ph_none
        | exact ph_some
        | refine ph_gI (by first | decide | omega) (fun _ => ?_)
        | refine ph_gCp (by first | decide | omega) (fun _ => ?_)
        | refine ph_gB (by first | decide | omega) (fun _ => ?_)
        | refine ph_gR (by first | decide | omega) (fun _ => ?_)
        | refine ph_gv (fun _ => ?_)
        | refine ph_gg (fun _ => ?_)
        | refine ph_gc ?_ (fun _ _ => ?_)
        | refine ph_ite (fun _ => ?_) (fun _ => ?_)
        | exact (kh_X10_remove _) _ _ _ _
        | exact (kh_X1_record _) _ _ _ _ _
        | exact (kh_X7_leadsTo _).1 _ _ _ _ _
        | exact (kh_X7_steps _) _ _ _
        | exact (kh_X7_textTo _) _ _ _ _)

theorem kh_X1_result : ∀ n : Nat, (∀ (d : Nat) (S : GS), PH 495 S (f_X1_result n d 0 S []))
  | 0 => (fun _ _ => ph_none)
  | n + 1 => by
    have h0 := kh_X1_result n
    · intro _ _
      rw [e_X1_result_0]
      unfold b_X1_result_0
      repeat' (with_reducible first
        | exact ph_none
        | exact ph_some
        | refine ph_gI (by first | decide | omega) (fun _ => ?_)
        | refine ph_gCp (by first | decide | omega) (fun _ => ?_)
        | refine ph_gB (by first | decide | omega) (fun _ => ?_)
        | refine ph_gR (by first | decide | omega) (fun _ => ?_)
        | refine ph_gv (fun _ => ?_)
        | refine ph_gg (fun _ => ?_)
        | refine ph_gc ?_ (fun _ _ => ?_)
        | refine ph_ite (fun _ => ?_) (fun _ => ?_))

theorem kh_X11_cut : ∀ n : Nat, (∀ (d : Nat) (S : GS) (a1 : Int), PH 495 S (f_X11_cut n d 0 S [a1]))
  | 0 => (fun _ _ _ => ph_none)
  | n + 1 => by
    have h0 := kh_X11_cut n
    · intro _ _ _
      rw [e_X11_cut_0]
      unfold b_X11_cut_0
      repeat' (with_reducible first
        | exact ph_none
        | exact ph_some
        | refine ph_gI (by first | decide | omega) (fun _ => ?_)
        | refine ph_gCp (by first | decide | omega) (fun _ => ?_)
        | refine ph_gB (by first | decide | omega) (fun _ => ?_)
        | refine ph_gR (by first | decide | omega) (fun _ => ?_)
        | refine ph_gv (fun _ => ?_)
        | refine ph_gg (fun _ => ?_)
        | refine ph_gc ?_ (fun _ _ => ?_)
        | refine ph_ite (fun _ => ?_) (fun _ => ?_)
        | exact (kh_X11_admitAndWipe _) _ _ _
        | exact (kh_X11_document _) _ _ _
        | exact (kh_X11_loadPage _) _ _
        | exact (kh_X1_begin _) _ _ _ _
        | exact (kh_X1_cutOut _) _ _ _
        | exact (kh_X1_result _) _ _)

theorem kh_X11_documentWith : ∀ n : Nat, (∀ (d : Nat) (S : GS) (a1 : Int) (a2 : Int), PH 495 S (f_X11_documentWith n d 0 S [a1, a2]))
  | 0 => (fun _ _ _ _ => ph_none)
  | n + 1 => by
    have h0 := kh_X11_documentWith n
    · intro _ _ _ _
      rw [e_X11_documentWith_0]
      unfold b_X11_documentWith_0
      repeat' (with_reducible first
        | exact ph_none
        | exact ph_some
        | refine ph_gI (by first | decide | omega) (fun _ => ?_)
        | refine ph_gCp (by first | decide | omega) (fun _ => ?_)
        | refine ph_gB (by first | decide | omega) (fun _ => ?_)
        | refine ph_gR (by first | decide | omega) (fun _ => ?_)
        | refine ph_gv (fun _ => ?_)
        | refine ph_gg (fun _ => ?_)
        | refine ph_gc ?_ (fun _ _ => ?_)
        | refine ph_ite (fun _ => ?_) (fun _ => ?_)
        | exact (kh_X10_has _) _ _ _ _
        | exact (kh_X11_document _) _ _ _)

theorem kh_X9_addAll : ∀ n : Nat, (∀ (d : Nat) (S : GS) (a0 : Nat) (a1 : Nat), PH 495 S (f_X9_addAll n d 0 S [((a0 : Nat) : Int), ((a1 : Nat) : Int)])) ∧ (∀ (d : Nat) (S : GS) (a0 : Nat) (a1 : Nat) (a2 : Int), PH 495 S (f_X9_addAll n d 2 S [((a0 : Nat) : Int), ((a1 : Nat) : Int), a2]))
  | 0 => ⟨(fun _ _ _ _ => ph_none), (fun _ _ _ _ _ => ph_none)⟩
  | n + 1 => by
    obtain ⟨h0, h2⟩ := kh_X9_addAll n
    refine ⟨?_, ?_⟩
    · intro _ _ _ _
      rw [e_X9_addAll_0]
      unfold b_X9_addAll_0
      repeat' (with_reducible first
        | exact ph_none
        | exact ph_some
        | refine ph_gI (by first | decide | omega) (fun _ => ?_)
        | refine ph_gCp (by first | decide | omega) (fun _ => ?_)
        | refine ph_gB (by first | decide | omega) (fun _ => ?_)
        | refine ph_gR (by first | decide | omega) (fun _ => ?_)
        | refine ph_gv (fun _ => ?_)
        | refine ph_gg (fun _ => ?_)
        | refine ph_gc ?_ (fun _ _ => ?_)
        | refine ph_ite (fun _ => ?_) (fun _ => ?_)
        | exact h2 _ _ _ _ _)
    · intro _ _ _ _ _
      rw [e_X9_addAll_2]
      unfold b_X9_addAll_2
      repeat' (with_reducible first
        | exact ph_none
        | exact ph_some
        | refine ph_gI (by first | decide | omega) (fun _ => ?_)
        | refine ph_gCp (by first | decide | omega) (fun _ => ?_)
        | refine ph_gB (by first | decide | omega) (fun _ => ?_)
        | refine ph_gR (by first | decide | omega) (fun _ => ?_)
        | refine ph_gv (fun _ => ?_)
        | refine ph_gg (fun _ => ?_)
        | refine ph_gc ?_ (fun _ _ => ?_)
        | refine ph_ite (fun _ => ?_) (fun _ => ?_)
        | exact h2 _ _ _ _ _
        | exact (kh_X9_add _) _ _ _ _)

theorem kh_X8_number : ∀ n : Nat, (∀ (d : Nat) (S : GS) (a0 : Nat) (a1 : Int) (a2 : Nat), PH 495 S (f_X8_number n d 0 S [((a0 : Nat) : Int), a1, ((a2 : Nat) : Int)]))
  | 0 => (fun _ _ _ _ _ => ph_none)
  | n + 1 => by
    have h0 := kh_X8_number n
    · intro _ _ _ _ _
      rw [e_X8_number_0]
      unfold b_X8_number_0
      repeat' (with_reducible first
        | exact ph_none
        | exact ph_some
        | refine ph_gI (by first | decide | omega) (fun _ => ?_)
        | refine ph_gCp (by first | decide | omega) (fun _ => ?_)
        | refine ph_gB (by first | decide | omega) (fun _ => ?_)
        | refine ph_gR (by first | decide | omega) (fun _ => ?_)
        | refine ph_gv (fun _ => ?_)
        | refine ph_gg (fun _ => ?_)
        | refine ph_gc ?_ (fun _ _ => ?_)
        | refine ph_ite (fun _ => ?_) (fun _ => ?_)
        | exact (kh_X10_power _) _ _ _ _
        | exact (kh_X10_signsTo _).1 _ _ _ _ _
        | exact (kh_X9_add _) _ _ _ _
        | exact (kh_X9_addNumber _).1 _ _ _ _)

theorem kh_X9_addWritten : ∀ n : Nat, (∀ (d : Nat) (S : GS) (a0 : Nat) (a1 : Int), PH 495 S (f_X9_addWritten n d 0 S [((a0 : Nat) : Int), a1])) ∧ (∀ (d : Nat) (S : GS) (a0 : Nat) (a1 : Int), PH 495 S (f_X9_addWritten n d 36 S [((a0 : Nat) : Int), a1])) ∧ (∀ (d : Nat) (S : GS) (a0 : Nat) (a1 : Int) (s0 : Int) (s1 : Nat), PH 495 S (f_X9_addWritten n d 96 S [((a0 : Nat) : Int), a1, s0, ((s1 : Nat) : Int)]))
  | 0 => ⟨(fun _ _ _ _ => ph_none), (fun _ _ _ _ => ph_none), (fun _ _ _ _ _ _ => ph_none)⟩
  | n + 1 => by
    obtain ⟨h0, h36, h96⟩ := kh_X9_addWritten n
    refine ⟨?_, ?_, ?_⟩
    · intro _ _ _ _
      rw [e_X9_addWritten_0]
      unfold b_X9_addWritten_0
      repeat' (with_reducible first
        | exact ph_none
        | exact ph_some
        | refine ph_gI (by first | decide | omega) (fun _ => ?_)
        | refine ph_gCp (by first | decide | omega) (fun _ => ?_)
        | refine ph_gB (by first | decide | omega) (fun _ => ?_)
        | refine ph_gR (by first | decide | omega) (fun _ => ?_)
        | refine ph_gv (fun _ => ?_)
        | refine ph_gg (fun _ => ?_)
        | refine ph_gc ?_ (fun _ _ => ?_)
        | refine ph_ite (fun _ => ?_) (fun _ => ?_)
        | exact h36 _ _ _ _
        | exact (kh_X9_add _) _ _ _ _)
    · intro _ _ _ _
      rw [e_X9_addWritten_36]
      unfold b_X9_addWritten_36
      repeat' (with_reducible first
        | exact ph_none
        | exact ph_some
        | refine ph_gI (by first | decide | omega) (fun _ => ?_)
        | refine ph_gCp (by first | decide | omega) (fun _ => ?_)
        | refine ph_gB (by first | decide | omega) (fun _ => ?_)
        | refine ph_gR (by first | decide | omega) (fun _ => ?_)
        | refine ph_gv (fun _ => ?_)
        | refine ph_gg (fun _ => ?_)
        | refine ph_gc ?_ (fun _ _ => ?_)
        | refine ph_ite (fun _ => ?_) (fun _ => ?_)
        | exact h96 _ _ _ _ _ _
        | exact (kh_X9_add _) _ _ _ _)
    · intro _ _ _ _ _ _
      rw [e_X9_addWritten_96]
      unfold b_X9_addWritten_96
      repeat' (with_reducible first
        | exact ph_none
        | exact ph_some
        | refine ph_gI (by first | decide | omega) (fun _ => ?_)
        | refine ph_gCp (by first | decide | omega) (fun _ => ?_)
        | refine ph_gB (by first | decide | omega) (fun _ => ?_)
        | refine ph_gR (by first | decide | omega) (fun _ => ?_)
        | refine ph_gv (fun _ => ?_)
        | refine ph_gg (fun _ => ?_)
        | refine ph_gc ?_ (fun _ _ => ?_)
        | refine ph_ite (fun _ => ?_) (fun _ => ?_)
        | exact (kh_X9_add _) _ _ _ _)

theorem kh_X8_text : ∀ n : Nat, (∀ (d : Nat) (S : GS) (a0 : Nat) (a1 : Int) (a2 : Nat), PH 495 S (f_X8_text n d 0 S [((a0 : Nat) : Int), a1, ((a2 : Nat) : Int)])) ∧ (∀ (d : Nat) (S : GS) (a0 : Nat) (a1 : Int) (a2 : Nat) (a3 : Int), PH 495 S (f_X8_text n d 8 S [((a0 : Nat) : Int), a1, ((a2 : Nat) : Int), a3]))
  | 0 => ⟨(fun _ _ _ _ _ => ph_none), (fun _ _ _ _ _ _ => ph_none)⟩
  | n + 1 => by
    obtain ⟨h0, h8⟩ := kh_X8_text n
    refine ⟨?_, ?_⟩
    · intro _ _ _ _ _
      rw [e_X8_text_0]
      unfold b_X8_text_0
      repeat' (with_reducible first
        | exact ph_none
        | exact ph_some
        | refine ph_gI (by first | decide | omega) (fun _ => ?_)
        | refine ph_gCp (by first | decide | omega) (fun _ => ?_)
        | refine ph_gB (by first | decide | omega) (fun _ => ?_)
        | refine ph_gR (by first | decide | omega) (fun _ => ?_)
        | refine ph_gv (fun _ => ?_)
        | refine ph_gg (fun _ => ?_)
        | refine ph_gc ?_ (fun _ _ => ?_)
        | refine ph_ite (fun _ => ?_) (fun _ => ?_)
        | exact h8 _ _ _ _ _ _
        | exact (kh_X9_add _) _ _ _ _)
    · intro _ _ _ _ _ _
      rw [e_X8_text_8]
      unfold b_X8_text_8
      repeat' (with_reducible first
        | exact ph_none
        | exact ph_some
        | refine ph_gI (by first | decide | omega) (fun _ => ?_)
        | refine ph_gCp (by first | decide | omega) (fun _ => ?_)
        | refine ph_gB (by first | decide | omega) (fun _ => ?_)
        | refine ph_gR (by first | decide | omega) (fun _ => ?_)
        | refine ph_gv (fun _ => ?_)
        | refine ph_gg (fun _ => ?_)
        | refine ph_gc ?_ (fun _ _ => ?_)
        | refine ph_ite (fun _ => ?_) (fun _ => ?_)
        | exact h8 _ _ _ _ _ _
        | exact (kh_X10_lengthOf _) _ _ _ _
        | exact (kh_X10_signAt _).1 _ _ _ _ _
        | exact (kh_X9_add _) _ _ _ _
        | exact (kh_X9_addWritten _).1 _ _ _ _)

theorem kh_X8_line : ∀ n : Nat, (∀ (d : Nat) (S : GS) (a0 : Int) (a1 : Nat), PH 495 S (f_X8_line n d 0 S [a0, ((a1 : Nat) : Int)])) ∧ (∀ (d : Nat) (S : GS) (a0 : Int) (a1 : Nat) (a2 : Int), PH 495 S (f_X8_line n d 8 S [a0, ((a1 : Nat) : Int), a2]))
  | 0 => ⟨(fun _ _ _ _ => ph_none), (fun _ _ _ _ _ => ph_none)⟩
  | n + 1 => by
    obtain ⟨h0, h8⟩ := kh_X8_line n
    refine ⟨?_, ?_⟩
    · intro _ _ _ _
      rw [e_X8_line_0]
      unfold b_X8_line_0
      repeat' (with_reducible first
        | exact ph_none
        | exact ph_some
        | refine ph_gI (by first | decide | omega) (fun _ => ?_)
        | refine ph_gCp (by first | decide | omega) (fun _ => ?_)
        | refine ph_gB (by first | decide | omega) (fun _ => ?_)
        | refine ph_gR (by first | decide | omega) (fun _ => ?_)
        | refine ph_gv (fun _ => ?_)
        | refine ph_gg (fun _ => ?_)
        | refine ph_gc ?_ (fun _ _ => ?_)
        | refine ph_ite (fun _ => ?_) (fun _ => ?_)
        | exact h8 _ _ _ _ _
        | exact (kh_X9_add _) _ _ _ _)
    · intro _ _ _ _ _
      rw [e_X8_line_8]
      unfold b_X8_line_8
      repeat' (with_reducible first
        | exact ph_none
        | exact ph_some
        | refine ph_gI (by first | decide | omega) (fun _ => ?_)
        | refine ph_gCp (by first | decide | omega) (fun _ => ?_)
        | refine ph_gB (by first | decide | omega) (fun _ => ?_)
        | refine ph_gR (by first | decide | omega) (fun _ => ?_)
        | refine ph_gv (fun _ => ?_)
        | refine ph_gg (fun _ => ?_)
        | refine ph_gc ?_ (fun _ _ => ?_)
        | refine ph_ite (fun _ => ?_) (fun _ => ?_)
        | exact h8 _ _ _ _ _
        | exact (kh_X9_addAll _).1 _ _ _ _)

theorem kh_X8_key : ∀ n : Nat, (∀ (d : Nat) (S : GS) (a0 : Nat) (a1 : Int) (a2 : Nat), PH 495 S (f_X8_key n d 0 S [((a0 : Nat) : Int), a1, ((a2 : Nat) : Int)])) ∧ (∀ (d : Nat) (S : GS) (a0 : Nat) (a1 : Int) (a2 : Nat) (a3 : Int), PH 495 S (f_X8_key n d 8 S [((a0 : Nat) : Int), a1, ((a2 : Nat) : Int), a3]))
  | 0 => ⟨(fun _ _ _ _ _ => ph_none), (fun _ _ _ _ _ _ => ph_none)⟩
  | n + 1 => by
    obtain ⟨h0, h8⟩ := kh_X8_key n
    refine ⟨?_, ?_⟩
    · intro _ _ _ _ _
      rw [e_X8_key_0]
      unfold b_X8_key_0
      repeat' (with_reducible first
        | exact ph_none
        | exact ph_some
        | refine ph_gI (by first | decide | omega) (fun _ => ?_)
        | refine ph_gCp (by first | decide | omega) (fun _ => ?_)
        | refine ph_gB (by first | decide | omega) (fun _ => ?_)
        | refine ph_gR (by first | decide | omega) (fun _ => ?_)
        | refine ph_gv (fun _ => ?_)
        | refine ph_gg (fun _ => ?_)
        | refine ph_gc ?_ (fun _ _ => ?_)
        | refine ph_ite (fun _ => ?_) (fun _ => ?_)
        | exact h8 _ _ _ _ _ _
        | exact (kh_X9_add _) _ _ _ _)
    · intro _ _ _ _ _ _
      rw [e_X8_key_8]
      unfold b_X8_key_8
      repeat' (with_reducible first
        | exact ph_none
        | exact ph_some
        | refine ph_gI (by first | decide | omega) (fun _ => ?_)
        | refine ph_gCp (by first | decide | omega) (fun _ => ?_)
        | refine ph_gB (by first | decide | omega) (fun _ => ?_)
        | refine ph_gR (by first | decide | omega) (fun _ => ?_)
        | refine ph_gv (fun _ => ?_)
        | refine ph_gg (fun _ => ?_)
        | refine ph_gc ?_ (fun _ _ => ?_)
        | refine ph_ite (fun _ => ?_) (fun _ => ?_)
        | exact h8 _ _ _ _ _ _
        | exact (kh_X10_keyLength _) _ _ _ _
        | exact (kh_X10_keySign _).1 _ _ _ _ _
        | exact (kh_X9_add _) _ _ _ _
        | exact (kh_X9_addWritten _).1 _ _ _ _)

theorem kh_X8_group : ∀ n : Nat, (∀ (d : Nat) (S : GS) (a0 : Nat) (a1 : Int) (a2 : Int) (a3 : Int) (a4 : Nat), PH 495 S (f_X8_group n d 0 S [((a0 : Nat) : Int), a1, a2, a3, ((a4 : Nat) : Int)])) ∧ (∀ (d : Nat) (S : GS) (a0 : Nat) (a1 : Int) (a2 : Int) (a3 : Int) (a4 : Nat) (a5 : Int) (s0 : Int), PH 495 S (f_X8_group n d 23 S [((a0 : Nat) : Int), a1, a2, a3, ((a4 : Nat) : Int), a5, s0])) ∧ (∀ (d : Nat) (S : GS) (a0 : Nat) (a1 : Int) (a2 : Int) (a3 : Int) (a4 : Nat) (a5 : Int) (a6 : Int), PH 495 S (f_X8_group n d 43 S [((a0 : Nat) : Int), a1, a2, a3, ((a4 : Nat) : Int), a5, a6])) ∧ (∀ (d : Nat) (S : GS) (a0 : Nat) (a1 : Int) (a2 : Int) (a3 : Int) (a4 : Nat) (a5 : Int) (a6 : Int) (a7 : Int) (s0 : Int) (s1 : Nat), PH 495 S (f_X8_group n d 60 S [((a0 : Nat) : Int), a1, a2, a3, ((a4 : Nat) : Int), a5, a6, a7, s0, ((s1 : Nat) : Int)])) ∧ (∀ (d : Nat) (S : GS) (a0 : Nat) (a1 : Int) (a2 : Int) (a3 : Int) (a4 : Nat) (a5 : Int) (a6 : Int) (a7 : Int) (a8 : Int) (a9 : Int), PH 495 S (f_X8_group n d 87 S [((a0 : Nat) : Int), a1, a2, a3, ((a4 : Nat) : Int), a5, a6, a7, a8, a9])) ∧ (∀ (d : Nat) (S : GS) (a0 : Nat) (a1 : Int) (a2 : Int) (a3 : Int) (a4 : Nat) (a5 : Int) (a6 : Int) (a7 : Int) (a8 : Int) (a9 : Int), PH 495 S (f_X8_group n d 131 S [((a0 : Nat) : Int), a1, a2, a3, ((a4 : Nat) : Int), a5, a6, a7, a8, a9])) ∧ (∀ (d : Nat) (S : GS) (a0 : Nat) (a1 : Int) (a2 : Int) (a3 : Int) (a4 : Nat) (a5 : Int) (a6 : Int) (a7 : Int) (a8 : Int) (a9 : Int), PH 495 S (f_X8_group n d 161 S [((a0 : Nat) : Int), a1, a2, a3, ((a4 : Nat) : Int), a5, a6, a7, a8, a9])) ∧ (∀ (d : Nat) (S : GS) (a4 : Nat) (a5 : Int), PH 495 S (f_X8_group n d 214 S [((a4 : Nat) : Int), a5])) ∧ (∀ (d : Nat) (S : GS) (a0 : Nat) (a1 : Int) (a2 : Int) (a3 : Int) (a4 : Nat), PH 495 S (f_X8_group n d 10000 S [((a0 : Nat) : Int), a1, a2, a3, ((a4 : Nat) : Int)]))
  | 0 => ⟨(fun _ _ _ _ _ _ _ => ph_none), (fun _ _ _ _ _ _ _ _ _ => ph_none), (fun _ _ _ _ _ _ _ _ _ => ph_none), (fun _ _ _ _ _ _ _ _ _ _ _ _ => ph_none), (fun _ _ _ _ _ _ _ _ _ _ _ _ => ph_none), (fun _ _ _ _ _ _ _ _ _ _ _ _ => ph_none), (fun _ _ _ _ _ _ _ _ _ _ _ _ => ph_none), (fun _ _ _ _ => ph_none), (fun _ _ _ _ _ _ _ => ph_none)⟩
  | n + 1 => by
    obtain ⟨h0, h23, h43, h60, h87, h131, h161, h214, h10000⟩ := kh_X8_group n
    refine ⟨?_, ?_, ?_, ?_, ?_, ?_, ?_, ?_, ?_⟩
    · intro _ _ _ _ _ _ _
      rw [e_X8_group_0]
      unfold b_X8_group_0
      repeat' (with_reducible first
        | exact ph_none
        | exact ph_some
        | refine ph_gI (by first | decide | omega) (fun _ => ?_)
        | refine ph_gCp (by first | decide | omega) (fun _ => ?_)
        | refine ph_gB (by first | decide | omega) (fun _ => ?_)
        | refine ph_gR (by first | decide | omega) (fun _ => ?_)
        | refine ph_gv (fun _ => ?_)
        | refine ph_gg (fun _ => ?_)
        | refine ph_gc ?_ (fun _ _ => ?_)
        | refine ph_ite (fun _ => ?_) (fun _ => ?_)
        | exact h23 _ _ _ _ _ _ _ _ _
        | exact (kh_X10_is _) _ _ _ _ _)
    · intro _ _ _ _ _ _ _ _ _
      rw [e_X8_group_23]
      unfold b_X8_group_23
      repeat' (with_reducible first
        | exact ph_none
        | exact ph_some
        | refine ph_gI (by first | decide | omega) (fun _ => ?_)
        | refine ph_gCp (by first | decide | omega) (fun _ => ?_)
        | refine ph_gB (by first | decide | omega) (fun _ => ?_)
        | refine ph_gR (by first | decide | omega) (fun _ => ?_)
        | refine ph_gv (fun _ => ?_)
        | refine ph_gg (fun _ => ?_)
        | refine ph_gc ?_ (fun _ _ => ?_)
        | refine ph_ite (fun _ => ?_) (fun _ => ?_)
        | exact h43 _ _ _ _ _ _ _ _ _
        | exact h60 _ _ _ _ _ _ _ _ _ _ _ _
        | exact (kh_X10_first _).1 _ _ _ _)
    · intro _ _ _ _ _ _ _ _ _
      rw [e_X8_group_43]
      unfold b_X8_group_43
      repeat' (with_reducible first
        | exact ph_none
        | exact ph_some
        | refine ph_gI (by first | decide | omega) (fun _ => ?_)
        | refine ph_gCp (by first | decide | omega) (fun _ => ?_)
        | refine ph_gB (by first | decide | omega) (fun _ => ?_)
        | refine ph_gR (by first | decide | omega) (fun _ => ?_)
        | refine ph_gv (fun _ => ?_)
        | refine ph_gg (fun _ => ?_)
        | refine ph_gc ?_ (fun _ _ => ?_)
        | refine ph_ite (fun _ => ?_) (fun _ => ?_)
        | exact h60 _ _ _ _ _ _ _ _ _ _ _ _)
    · intro _ _ _ _ _ _ _ _ _ _ _ _
      rw [e_X8_group_60]
      unfold b_X8_group_60
      repeat' (with_reducible first
        | exact ph_none
        | exact ph_some
        | refine ph_gI (by first | decide | omega) (fun _ => ?_)
        | refine ph_gCp (by first | decide | omega) (fun _ => ?_)
        | refine ph_gB (by first | decide | omega) (fun _ => ?_)
        | refine ph_gR (by first | decide | omega) (fun _ => ?_)
        | refine ph_gv (fun _ => ?_)
        | refine ph_gg (fun _ => ?_)
        | refine ph_gc ?_ (fun _ _ => ?_)
        | refine ph_ite (fun _ => ?_) (fun _ => ?_)
        | exact h87 _ _ _ _ _ _ _ _ _ _ _ _
        | exact (kh_X10_first _).1 _ _ _ _
        | exact (kh_X10_nextByKey _).1 _ _ _ _ _
        | exact (kh_X9_add _) _ _ _ _)
    · intro _ _ _ _ _ _ _ _ _ _ _ _
      rw [e_X8_group_87]
      unfold b_X8_group_87
      repeat' (with_reducible first
        | exact ph_none
        | exact ph_some
        | refine ph_gI (by first | decide | omega) (fun _ => ?_)
        | refine ph_gCp (by first | decide | omega) (fun _ => ?_)
        | refine ph_gB (by first | decide | omega) (fun _ => ?_)
        | refine ph_gR (by first | decide | omega) (fun _ => ?_)
        | refine ph_gv (fun _ => ?_)
        | refine ph_gg (fun _ => ?_)
        | refine ph_gc ?_ (fun _ _ => ?_)
        | refine ph_ite (fun _ => ?_) (fun _ => ?_)
        | exact h131 _ _ _ _ _ _ _ _ _ _ _ _
        | exact h214 _ _ _ _
        | exact (kh_X8_line _).1 _ _ _ _
        | exact (kh_X9_add _) _ _ _ _)
    · intro _ _ _ _ _ _ _ _ _ _ _ _
      rw [e_X8_group_131]
      unfold b_X8_group_131
      repeat' (with_reducible first
        | exact ph_none
        | exact ph_some
        | refine ph_gI (by first | decide | omega) (fun _ => ?_)
        | refine ph_gCp (by first | decide | omega) (fun _ => ?_)
        | refine ph_gB (by first | decide | omega) (fun _ => ?_)
        | refine ph_gR (by first | decide | omega) (fun _ => ?_)
        | refine ph_gv (fun _ => ?_)
        | refine ph_gg (fun _ => ?_)
        | refine ph_gc ?_ (fun _ _ => ?_)
        | refine ph_ite (fun _ => ?_) (fun _ => ?_)
        | exact h161 _ _ _ _ _ _ _ _ _ _ _ _
        | exact (kh_X8_key _).1 _ _ _ _ _
        | exact (kh_X9_addAll _).1 _ _ _ _)
    · intro _ _ _ _ _ _ _ _ _ _ _ _
      rw [e_X8_group_161]
      unfold b_X8_group_161
      repeat' (with_reducible first
        | exact ph_none
        | exact ph_some
        | refine ph_gI (by first | decide | omega) (fun _ => ?_)
        | refine ph_gCp (by first | decide | omega) (fun _ => ?_)
        | refine ph_gB (by first | decide | omega) (fun _ => ?_)
        | refine ph_gR (by first | decide | omega) (fun _ => ?_)
        | refine ph_gv (fun _ => ?_)
        | refine ph_gg (fun _ => ?_)
        | refine ph_gc ?_ (fun _ _ => ?_)
        | refine ph_ite (fun _ => ?_) (fun _ => ?_)
        | exact h87 _ _ _ _ _ _ _ _ _ _ _ _
        | exact h10000 _ _ _ _ _ _ _
        | exact (kh_X10_next _) _ _ _ _ _
        | exact (kh_X10_nextByKey _).1 _ _ _ _ _)
    · intro _ _ _ _
      rw [e_X8_group_214]
      unfold b_X8_group_214
      repeat' (with_reducible first
        | exact ph_none
        | exact ph_some
        | refine ph_gI (by first | decide | omega) (fun _ => ?_)
        | refine ph_gCp (by first | decide | omega) (fun _ => ?_)
        | refine ph_gB (by first | decide | omega) (fun _ => ?_)
        | refine ph_gR (by first | decide | omega) (fun _ => ?_)
        | refine ph_gv (fun _ => ?_)
        | refine ph_gg (fun _ => ?_)
        | refine ph_gc ?_ (fun _ _ => ?_)
        | refine ph_ite (fun _ => ?_) (fun _ => ?_)
        | exact (kh_X9_add _) _ _ _ _)
    · intro _ _ _ _ _ _ _
      rw [e_X8_value_0]
      unfold b_X8_value_0
      repeat' (with_reducible first
        | exact ph_none
        | exact ph_some
        | refine ph_gI (by first | decide | omega) (fun _ => ?_)
        | refine ph_gCp (by first | decide | omega) (fun _ => ?_)
        | refine ph_gB (by first | decide | omega) (fun _ => ?_)
        | refine ph_gR (by first | decide | omega) (fun _ => ?_)
        | refine ph_gv (fun _ => ?_)
        | refine ph_gg (fun _ => ?_)
        | refine ph_gc ?_ (fun _ _ => ?_)
        | refine ph_ite (fun _ => ?_) (fun _ => ?_)
        | exact h0 _ _ _ _ _ _ _
        | exact (kh_X10_isTrue _) _ _ _ _
        | exact (kh_X10_kind _) _ _ _ _
        | exact (kh_X8_number _) _ _ _ _ _
        | exact (kh_X8_text _).1 _ _ _ _ _
        | exact (kh_X9_addAll _).1 _ _ _ _)

theorem kh_X9_digestOf : ∀ n : Nat, (∀ (d : Nat) (S : GS) (a0 : Nat), PH 495 S (f_X9_digestOf n d 0 S [((a0 : Nat) : Int)])) ∧ (∀ (d : Nat) (S : GS) (a0 : Nat) (a1 : Int) (a2 : Int), PH 495 S (f_X9_digestOf n d 5 S [((a0 : Nat) : Int), a1, a2]))
  | 0 => ⟨(fun _ _ _ => ph_none), (fun _ _ _ _ _ => ph_none)⟩
  | n + 1 => by
    obtain ⟨h0, h5⟩ := kh_X9_digestOf n
    refine ⟨?_, ?_⟩
    · intro _ _ _
      rw [e_X9_digestOf_0]
      unfold b_X9_digestOf_0
      repeat' (with_reducible first
        | exact ph_none
        | exact ph_some
        | refine ph_gI (by first | decide | omega) (fun _ => ?_)
        | refine ph_gCp (by first | decide | omega) (fun _ => ?_)
        | refine ph_gB (by first | decide | omega) (fun _ => ?_)
        | refine ph_gR (by first | decide | omega) (fun _ => ?_)
        | refine ph_gv (fun _ => ?_)
        | refine ph_gg (fun _ => ?_)
        | refine ph_gc ?_ (fun _ _ => ?_)
        | refine ph_ite (fun _ => ?_) (fun _ => ?_)
        | exact h5 _ _ _ _ _)
    · intro _ _ _ _ _
      rw [e_X9_digestOf_5]
      unfold b_X9_digestOf_5
      repeat' (with_reducible first
        | exact ph_none
        | exact ph_some
        | refine ph_gI (by first | decide | omega) (fun _ => ?_)
        | refine ph_gCp (by first | decide | omega) (fun _ => ?_)
        | refine ph_gB (by first | decide | omega) (fun _ => ?_)
        | refine ph_gR (by first | decide | omega) (fun _ => ?_)
        | refine ph_gv (fun _ => ?_)
        | refine ph_gg (fun _ => ?_)
        | refine ph_gc ?_ (fun _ _ => ?_)
        | refine ph_ite (fun _ => ?_) (fun _ => ?_)
        | exact h5 _ _ _ _ _
        | exact (kh_X9_at _) _ _ _ _)

theorem kh_X11_digest : ∀ n : Nat, (∀ (d : Nat) (S : GS) (a1 : Int) (a2 : Int), PH 495 S (f_X11_digest n d 0 S [a1, a2]))
  | 0 => (fun _ _ _ _ => ph_none)
  | n + 1 => by
    have h0 := kh_X11_digest n
    · intro _ _ _ _
      rw [e_X11_digest_0]
      unfold b_X11_digest_0
      repeat' (with_reducible first
        | exact ph_none
        | exact ph_some
        | refine ph_gI (by first | decide | omega) (fun _ => ?_)
        | refine ph_gCp (by first | decide | omega) (fun _ => ?_)
        | refine ph_gB (by first | decide | omega) (fun _ => ?_)
        | refine ph_gR (by first | decide | omega) (fun _ => ?_)
        | refine ph_gv (fun _ => ?_)
        | refine ph_gg (fun _ => ?_)
        | refine ph_gc ?_ (fun _ _ => ?_)
        | refine ph_ite (fun _ => ?_) (fun _ => ?_)
        | exact (kh_X11_documentWith _) _ _ _ _
        | exact (kh_X8_group _).2.2.2.2.2.2.2.2 _ _ _ _ _ _ _
        | exact (kh_X9_clear _) _ _ _
        | exact (kh_X9_digestOf _).1 _ _ _)

theorem kh_X11_equal : ∀ n : Nat, (∀ (d : Nat) (S : GS) (a1 : Int) (a2 : Int), PH 495 S (f_X11_equal n d 0 S [a1, a2]))
  | 0 => (fun _ _ _ _ => ph_none)
  | n + 1 => by
    have h0 := kh_X11_equal n
    · intro _ _ _ _
      rw [e_X11_equal_0]
      unfold b_X11_equal_0
      repeat' (with_reducible first
        | exact ph_none
        | exact ph_some
        | refine ph_gI (by first | decide | omega) (fun _ => ?_)
        | refine ph_gCp (by first | decide | omega) (fun _ => ?_)
        | refine ph_gB (by first | decide | omega) (fun _ => ?_)
        | refine ph_gR (by first | decide | omega) (fun _ => ?_)
        | refine ph_gv (fun _ => ?_)
        | refine ph_gg (fun _ => ?_)
        | refine ph_gc ?_ (fun _ _ => ?_)
        | refine ph_ite (fun _ => ?_) (fun _ => ?_)
        | exact (kh_X10_same _).1 _ _ _ _ _ _ _
        | exact (kh_X11_document _) _ _ _)

theorem kh_X2_count : ∀ n : Nat, (∀ (d : Nat) (S : GS), PH 495 S (f_X2_count n d 0 S []))
  | 0 => (fun _ _ => ph_none)
  | n + 1 => by
    have h0 := kh_X2_count n
    · intro _ _
      rw [e_X2_count_0]
      unfold b_X2_count_0
      repeat' (with_reducible first
        | exact ph_none
        | exact ph_some
        | refine ph_gI (by first | decide | omega) (fun _ => ?_)
        | refine ph_gCp (by first | decide | omega) (fun _ => ?_)
        | refine ph_gB (by first | decide | omega) (fun _ => ?_)
        | refine ph_gR (by first | decide | omega) (fun _ => ?_)
        | refine ph_gv (fun _ => ?_)
        | refine ph_gg (fun _ => ?_)
        | refine ph_gc ?_ (fun _ _ => ?_)
        | refine ph_ite (fun _ => ?_) (fun _ => ?_))

theorem kh_X2_at : ∀ n : Nat, (∀ (d : Nat) (S : GS) (a1 : Int), PH 495 S (f_X2_at n d 0 S [a1]))
  | 0 => (fun _ _ _ => ph_none)
  | n + 1 => by
    have h0 := kh_X2_at n
    · intro _ _ _
      rw [e_X2_at_0]
      unfold b_X2_at_0
      repeat' (with_reducible first
        | exact ph_none
        | exact ph_some
        | refine ph_gI (by first | decide | omega) (fun _ => ?_)
        | refine ph_gCp (by first | decide | omega) (fun _ => ?_)
        | refine ph_gB (by first | decide | omega) (fun _ => ?_)
        | refine ph_gR (by first | decide | omega) (fun _ => ?_)
        | refine ph_gv (fun _ => ?_)
        | refine ph_gg (fun _ => ?_)
        | refine ph_gc ?_ (fun _ _ => ?_)
        | refine ph_ite (fun _ => ?_) (fun _ => ?_))

theorem kh_X11_find : ∀ n : Nat, (∀ (d : Nat) (S : GS) (a1 : Int), PH 495 S (f_X11_find n d 0 S [a1]))
  | 0 => (fun _ _ _ => ph_none)
  | n + 1 => by
    have h0 := kh_X11_find n
    · intro _ _ _
      rw [e_X11_find_0]
      unfold b_X11_find_0
      repeat' (with_reducible first
        | exact ph_none
        | exact ph_some
        | refine ph_gI (by first | decide | omega) (fun _ => ?_)
        | refine ph_gCp (by first | decide | omega) (fun _ => ?_)
        | refine ph_gB (by first | decide | omega) (fun _ => ?_)
        | refine ph_gR (by first | decide | omega) (fun _ => ?_)
        | refine ph_gv (fun _ => ?_)
        | refine ph_gg (fun _ => ?_)
        | refine ph_gc ?_ (fun _ _ => ?_)
        | refine ph_ite (fun _ => ?_) (fun _ => ?_)
        | exact (kh_X2_at _) _ _ _
        | exact (kh_X2_count _) _ _)

theorem kh_X3_begin : ∀ n : Nat, (∀ (d : Nat) (S : GS) (a1 : Int), PH 495 S (f_X3_begin n d 0 S [a1]))
  | 0 => (fun _ _ _ => ph_none)
  | n + 1 => by
    have h0 := kh_X3_begin n
    · intro _ _ _
      rw [e_X3_begin_0]
      unfold b_X3_begin_0
      repeat' (with_reducible first
        | exact ph_none
        | exact ph_some
        | refine ph_gI (by first | decide | omega) (fun _ => ?_)
        | refine ph_gCp (by first | decide | omega) (fun _ => ?_)
        | refine ph_gB (by first | decide | omega) (fun _ => ?_)
        | refine ph_gR (by first | decide | omega) (fun _ => ?_)
        | refine ph_gv (fun _ => ?_)
        | refine ph_gg (fun _ => ?_)
        | refine ph_gc ?_ (fun _ _ => ?_)
        | refine ph_ite (fun _ => ?_) (fun _ => ?_)
        | exact (kh_X10_clear _) _ _ _)

theorem kh_X3_draw : ∀ n : Nat, (∀ (d : Nat) (S : GS) (a1 : Int), PH 495 S (f_X3_draw n d 0 S [a1]))
  | 0 => (fun _ _ _ => ph_none)
  | n + 1 => by
    have h0 := kh_X3_draw n
    · intro _ _ _
      rw [e_X3_draw_0]
      unfold b_X3_draw_0
      repeat' (with_reducible first
        | exact ph_none
        | exact ph_some
        | refine ph_gI (by first | decide | omega) (fun _ => ?_)
        | refine ph_gCp (by first | decide | omega) (fun _ => ?_)
        | refine ph_gB (by first | decide | omega) (fun _ => ?_)
        | refine ph_gR (by first | decide | omega) (fun _ => ?_)
        | refine ph_gv (fun _ => ?_)
        | refine ph_gg (fun _ => ?_)
        | refine ph_gc ?_ (fun _ _ => ?_)
        | refine ph_ite (fun _ => ?_) (fun _ => ?_))

theorem kh_X3_number : ∀ n : Nat, (∀ (d : Nat) (S : GS), PH 495 S (f_X3_number n d 0 S []))
  | 0 => (fun _ _ => ph_none)
  | n + 1 => by
    have h0 := kh_X3_number n
    · intro _ _
      rw [e_X3_number_0]
      unfold b_X3_number_0
      repeat' (with_reducible first
        | exact ph_none
        | exact ph_some
        | refine ph_gI (by first | decide | omega) (fun _ => ?_)
        | refine ph_gCp (by first | decide | omega) (fun _ => ?_)
        | refine ph_gB (by first | decide | omega) (fun _ => ?_)
        | refine ph_gR (by first | decide | omega) (fun _ => ?_)
        | refine ph_gv (fun _ => ?_)
        | refine ph_gg (fun _ => ?_)
        | refine ph_gc ?_ (fun _ _ => ?_)
        | refine ph_ite (fun _ => ?_) (fun _ => ?_)
        | exact (kh_X10_add _) _ _ _ _
        | exact (kh_X10_setNumber _).1 _ _ _ _ _ _ _
        | exact (kh_X3_draw _) _ _ _
        | exact (kh_X9_addNumber _).1 _ _ _ _
        | exact (kh_X9_clear _) _ _ _)

theorem kh_X3_text : ∀ n : Nat, (∀ (d : Nat) (S : GS), PH 495 S (f_X3_text n d 0 S [])) ∧ (∀ (d : Nat) (S : GS) (a1 : Int) (a2 : Int) (a3 : Int), PH 495 S (f_X3_text n d 17 S [a1, a2, a3]))
  | 0 => ⟨(fun _ _ => ph_none), (fun _ _ _ _ _ => ph_none)⟩
  | n + 1 => by
    obtain ⟨h0, h17⟩ := kh_X3_text n
    refine ⟨?_, ?_⟩
    · intro _ _
      rw [e_X3_text_0]
      unfold b_X3_text_0
      repeat' (with_reducible first
        | exact ph_none
        | exact ph_some
        | refine ph_gI (by first | decide | omega) (fun _ => ?_)
        | refine ph_gCp (by first | decide | omega) (fun _ => ?_)
        | refine ph_gB (by first | decide | omega) (fun _ => ?_)
        | refine ph_gR (by first | decide | omega) (fun _ => ?_)
        | refine ph_gv (fun _ => ?_)
        | refine ph_gg (fun _ => ?_)
        | refine ph_gc ?_ (fun _ _ => ?_)
        | refine ph_ite (fun _ => ?_) (fun _ => ?_)
        | exact h17 _ _ _ _ _
        | exact (kh_X10_add _) _ _ _ _
        | exact (kh_X3_draw _) _ _ _)
    · intro _ _ _ _ _
      rw [e_X3_text_17]
      unfold b_X3_text_17
      repeat' (with_reducible first
        | exact ph_none
        | exact ph_some
        | refine ph_gI (by first | decide | omega) (fun _ => ?_)
        | refine ph_gCp (by first | decide | omega) (fun _ => ?_)
        | refine ph_gB (by first | decide | omega) (fun _ => ?_)
        | refine ph_gR (by first | decide | omega) (fun _ => ?_)
        | refine ph_gv (fun _ => ?_)
        | refine ph_gg (fun _ => ?_)
        | refine ph_gc ?_ (fun _ _ => ?_)
        | refine ph_ite (fun _ => ?_) (fun _ => ?_)
        | exact h17 _ _ _ _ _
        | exact (kh_X10_addSign _).1 _ _ _ _ _
        | exact (kh_X3_draw _) _ _ _)

theorem kh_X3_entry : ∀ n : Nat, (∀ (d : Nat) (S : GS) (a1 : Int) (a2 : Int) (a3 : Int), PH 495 S (f_X3_entry n d 0 S [a1, a2, a3])) ∧ (∀ (d : Nat) (S : GS) (a1 : Int) (a2 : Int) (a3 : Int), PH 495 S (f_X3_entry n d 10000 S [a1, a2, a3])) ∧ (∀ (d : Nat) (S : GS) (a1 : Int) (a2 : Int) (a3 : Int) (a4 : Int) (a5 : Int) (a6 : Int), PH 495 S (f_X3_entry n d 10022 S [a1, a2, a3, a4, a5, a6])) ∧ (∀ (d : Nat) (S : GS) (a1 : Int) (a2 : Int), PH 495 S (f_X3_entry n d 20000 S [a1, a2])) ∧ (∀ (d : Nat) (S : GS) (a1 : Int) (a2 : Int), PH 495 S (f_X3_entry n d 20010 S [a1, a2])) ∧ (∀ (d : Nat) (S : GS) (a1 : Int) (a2 : Int) (s0 : Int) (s1 : Int), PH 495 S (f_X3_entry n d 20028 S [a1, a2, s0, s1]))
  | 0 => ⟨(fun _ _ _ _ _ => ph_none), (fun _ _ _ _ _ => ph_none), (fun _ _ _ _ _ _ _ _ => ph_none), (fun _ _ _ _ => ph_none), (fun _ _ _ _ => ph_none), (fun _ _ _ _ _ _ => ph_none)⟩
  | n + 1 => by
    obtain ⟨h0, h10000, h10022, h20000, h20010, h20028⟩ := kh_X3_entry n
    refine ⟨?_, ?_, ?_, ?_, ?_, ?_⟩
    · intro _ _ _ _ _
      rw [e_X3_entry_0]
      unfold b_X3_entry_0
      repeat' (with_reducible first
        | exact ph_none
        | exact ph_some
        | refine ph_gI (by first | decide | omega) (fun _ => ?_)
        | refine ph_gCp (by first | decide | omega) (fun _ => ?_)
        | refine ph_gB (by first | decide | omega) (fun _ => ?_)
        | refine ph_gR (by first | decide | omega) (fun _ => ?_)
        | refine ph_gv (fun _ => ?_)
        | refine ph_gg (fun _ => ?_)
        | refine ph_gc ?_ (fun _ _ => ?_)
        | refine ph_ite (fun _ => ?_) (fun _ => ?_)
        | exact h20000 _ _ _ _
        | exact (kh_X10_addKeySign _).1 _ _ _ _ _
        | exact (kh_X10_close _) _ _ _ _
        | exact (kh_X10_replaceByLast _) _ _ _ _ _ _
        | exact (kh_X10_valueOf _).1 _ _ _ _ _
        | exact (kh_X3_draw _) _ _ _
        | exact (kh_X9_add _) _ _ _ _
        | exact (kh_X9_at _) _ _ _ _
        | exact (kh_X9_clear _) _ _ _)
    · intro _ _ _ _ _
      rw [e_X3_group_0]
      unfold b_X3_group_0
      repeat' (with_reducible first
        | exact ph_none
        | exact ph_some
        | refine ph_gI (by first | decide | omega) (fun _ => ?_)
        | refine ph_gCp (by first | decide | omega) (fun _ => ?_)
        | refine ph_gB (by first | decide | omega) (fun _ => ?_)
        | refine ph_gR (by first | decide | omega) (fun _ => ?_)
        | refine ph_gv (fun _ => ?_)
        | refine ph_gg (fun _ => ?_)
        | refine ph_gc ?_ (fun _ _ => ?_)
        | refine ph_ite (fun _ => ?_) (fun _ => ?_)
        | exact h10022 _ _ _ _ _ _ _ _
        | exact (kh_X10_add _) _ _ _ _
        | exact (kh_X3_draw _) _ _ _)
    · intro _ _ _ _ _ _ _ _
      rw [e_X3_group_22]
      unfold b_X3_group_22
      repeat' (with_reducible first
        | exact ph_none
        | exact ph_some
        | refine ph_gI (by first | decide | omega) (fun _ => ?_)
        | refine ph_gCp (by first | decide | omega) (fun _ => ?_)
        | refine ph_gB (by first | decide | omega) (fun _ => ?_)
        | refine ph_gR (by first | decide | omega) (fun _ => ?_)
        | refine ph_gv (fun _ => ?_)
        | refine ph_gg (fun _ => ?_)
        | refine ph_gc ?_ (fun _ _ => ?_)
        | refine ph_ite (fun _ => ?_) (fun _ => ?_)
        | exact h0 _ _ _ _ _
        | exact h10022 _ _ _ _ _ _ _ _
        | exact h20000 _ _ _ _
        | exact (kh_X10_close _) _ _ _ _)
    · intro _ _ _ _
      rw [e_X3_sprout_0]
      unfold b_X3_sprout_0
      repeat' (with_reducible first
        | exact ph_none
        | exact ph_some
        | refine ph_gI (by first | decide | omega) (fun _ => ?_)
        | refine ph_gCp (by first | decide | omega) (fun _ => ?_)
        | refine ph_gB (by first | decide | omega) (fun _ => ?_)
        | refine ph_gR (by first | decide | omega) (fun _ => ?_)
        | refine ph_gv (fun _ => ?_)
        | refine ph_gg (fun _ => ?_)
        | refine ph_gc ?_ (fun _ _ => ?_)
        | refine ph_ite (fun _ => ?_) (fun _ => ?_)
        | exact h20010 _ _ _ _
        | exact h20028 _ _ _ _ _ _
        | exact (kh_X3_draw _) _ _ _)
    · intro _ _ _ _
      rw [e_X3_sprout_10]
      unfold b_X3_sprout_10
      repeat' (with_reducible first
        | exact ph_none
        | exact ph_some
        | refine ph_gI (by first | decide | omega) (fun _ => ?_)
        | refine ph_gCp (by first | decide | omega) (fun _ => ?_)
        | refine ph_gB (by first | decide | omega) (fun _ => ?_)
        | refine ph_gR (by first | decide | omega) (fun _ => ?_)
        | refine ph_gv (fun _ => ?_)
        | refine ph_gg (fun _ => ?_)
        | refine ph_gc ?_ (fun _ _ => ?_)
        | refine ph_ite (fun _ => ?_) (fun _ => ?_)
        | exact h20028 _ _ _ _ _ _
        | exact (kh_X3_draw _) _ _ _)
    · intro _ _ _ _ _ _
      rw [e_X3_sprout_28]
      unfold b_X3_sprout_28
      repeat' (with_reducible first
        | exact ph_none
        | exact ph_some
        | refine ph_gI (by first | decide | omega) (fun _ => ?_)
        | refine ph_gCp (by first | decide | omega) (fun _ => ?_)
        | refine ph_gB (by first | decide | omega) (fun _ => ?_)
        | refine ph_gR (by first | decide | omega) (fun _ => ?_)
        | refine ph_gv (fun _ => ?_)
        | refine ph_gg (fun _ => ?_)
        | refine ph_gc ?_ (fun _ _ => ?_)
        | refine ph_ite (fun _ => ?_) (fun _ => ?_)
        | exact h10000 _ _ _ _ _
        | exact (kh_X10_add _) _ _ _ _
        | exact (kh_X10_addTruth _) _ _ _ _
        | exact (kh_X3_draw _) _ _ _
        | exact (kh_X3_number _) _ _
        | exact (kh_X3_text _).1 _ _)

theorem kh_X3_result : ∀ n : Nat, (∀ (d : Nat) (S : GS), PH 495 S (f_X3_result n d 0 S []))
  | 0 => (fun _ _ => ph_none)
  | n + 1 => by
    have h0 := kh_X3_result n
    · intro _ _
      rw [e_X3_result_0]
      unfold b_X3_result_0
      repeat' (with_reducible first
        | exact ph_none
        | exact ph_some
        | refine ph_gI (by first | decide | omega) (fun _ => ?_)
        | refine ph_gCp (by first | decide | omega) (fun _ => ?_)
        | refine ph_gB (by first | decide | omega) (fun _ => ?_)
        | refine ph_gR (by first | decide | omega) (fun _ => ?_)
        | refine ph_gv (fun _ => ?_)
        | refine ph_gg (fun _ => ?_)
        | refine ph_gc ?_ (fun _ _ => ?_)
        | refine ph_ite (fun _ => ?_) (fun _ => ?_))

