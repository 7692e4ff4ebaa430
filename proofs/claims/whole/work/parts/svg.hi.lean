/-! CELLS that the class never touches -/
theorem kh_X11_grow : ∀ n : Nat, (∀ (d : Nat) (S : GS) (a1 : Int) (a2 : Int), PH 495 S (f_X11_grow n d 0 S [a1, a2]))
  | 0 => (fun _ _ _ _ => ph_none)
  | n + 1 => by
    have h0 := kh_X11_grow n
    · intro _ _ _ _
      rw [e_X11_grow_0]
      unfold b_X11_grow_0
      repeat' (with_reducible first
        | exact ph_none
        | exact ph_some
        | refine ph_gI (by first | decide | omega) (fun _ => ?_)
        | refine ph_gCp (by first | decide | omega) (fun _ => ?_)
        | refine ph_gB (by first | decide | omega) (fun _ => ?_)
        | refine ph_gR (by first | decide | omega) (fun _ => ?_)
        | refine ph_gv (fun _ => ?_)
        | refine ph_gg (fun _ => ?_)
        | refine ph_gc ?_ (fun _ _ => ?_)
        | refine ph_ite (fun _ => ?_) (fun _ => ?_)
        | exact (kh_X11_admit _) _ _ _
        | exact (kh_X3_begin _) _ _ _
        | exact (kh_X3_entry _).2.2.2.1 _ _ _ _
        | exact (kh_X3_result _) _ _)

theorem kh_X11_isByColumns : ∀ n : Nat, (∀ (d : Nat) (S : GS) (a0 : Nat), PH 495 S (f_X11_isByColumns n d 0 S [((a0 : Nat) : Int)])) ∧ (∀ (d : Nat) (S : GS) (a0 : Nat) (a1 : Int) (a2 : Int) (a3 : Int) (a4 : Int), PH 495 S (f_X11_isByColumns n d 31 S [((a0 : Nat) : Int), a1, a2, a3, a4])) ∧ (∀ (d : Nat) (S : GS) (a0 : Nat) (a1 : Int) (a3 : Int) (a4 : Int) (s0 : Int), PH 495 S (f_X11_isByColumns n d 65 S [((a0 : Nat) : Int), a1, a3, a4, s0]))
  | 0 => ⟨(fun _ _ _ => ph_none), (fun _ _ _ _ _ _ _ => ph_none), (fun _ _ _ _ _ _ _ => ph_none)⟩
  | n + 1 => by
    obtain ⟨h0, h31, h65⟩ := kh_X11_isByColumns n
    refine ⟨?_, ?_, ?_⟩
    · intro _ _ _
      rw [e_X11_isByColumns_0]
      unfold b_X11_isByColumns_0
      repeat' (with_reducible first
        | exact ph_none
        | exact ph_some
        | refine ph_gI (by first | decide | omega) (fun _ => ?_)
        | refine ph_gCp (by first | decide | omega) (fun _ => ?_)
        | refine ph_gB (by first | decide | omega) (fun _ => ?_)
        | refine ph_gR (by first | decide | omega) (fun _ => ?_)
        | refine ph_gv (fun _ => ?_)
        | refine ph_gg (fun _ => ?_)
        | refine ph_gc ?_ (fun _ _ => ?_)
        | refine ph_ite (fun _ => ?_) (fun _ => ?_)
        | exact h31 _ _ _ _ _ _ _
        | exact (kh_X10_firstOfMap _).1 _ _ _ _
        | exact (kh_X10_hasOnly _).1 _ _ _ _ _)
    · intro _ _ _ _ _ _ _
      rw [e_X11_isByColumns_31]
      unfold b_X11_isByColumns_31
      repeat' (with_reducible first
        | exact ph_none
        | exact ph_some
        | refine ph_gI (by first | decide | omega) (fun _ => ?_)
        | refine ph_gCp (by first | decide | omega) (fun _ => ?_)
        | refine ph_gB (by first | decide | omega) (fun _ => ?_)
        | refine ph_gR (by first | decide | omega) (fun _ => ?_)
        | refine ph_gv (fun _ => ?_)
        | refine ph_gg (fun _ => ?_)
        | refine ph_gc ?_ (fun _ _ => ?_)
        | refine ph_ite (fun _ => ?_) (fun _ => ?_)
        | exact h65 _ _ _ _ _ _ _
        | exact (kh_X10_values _).1 _ _ _ _)
    · intro _ _ _ _ _ _ _
      rw [e_X11_isByColumns_65]
      unfold b_X11_isByColumns_65
      repeat' (with_reducible first
        | exact ph_none
        | exact ph_some
        | refine ph_gI (by first | decide | omega) (fun _ => ?_)
        | refine ph_gCp (by first | decide | omega) (fun _ => ?_)
        | refine ph_gB (by first | decide | omega) (fun _ => ?_)
        | refine ph_gR (by first | decide | omega) (fun _ => ?_)
        | refine ph_gv (fun _ => ?_)
        | refine ph_gg (fun _ => ?_)
        | refine ph_gc ?_ (fun _ _ => ?_)
        | refine ph_ite (fun _ => ?_) (fun _ => ?_)
        | exact h31 _ _ _ _ _ _ _
        | exact (kh_X10_next _) _ _ _ _ _)

theorem kh_X6_here : ∀ n : Nat, (∀ (d : Nat) (S : GS), PH 495 S (f_X6_here n d 0 S []))
  | 0 => (fun _ _ => ph_none)
  | n + 1 => by
    have h0 := kh_X6_here n
    · intro _ _
      rw [e_X6_here_0]
      unfold b_X6_here_0
      repeat' (with_reducible first
        | exact ph_none
        | exact ph_some
        | refine ph_gI (by first | decide | omega) (fun _ => ?_)
        | refine ph_gCp (by first | decide | omega) (fun _ => ?_)
        | refine ph_gB (by first | decide | omega) (fun _ => ?_)
        | refine ph_gR (by first | decide | omega) (fun _ => ?_)
        | refine ph_gv (fun _ => ?_)
        | refine ph_gg (fun _ => ?_)
        | refine ph_gc ?_ (fun _ _ => ?_)
        | refine ph_ite (fun _ => ?_) (fun _ => ?_)
        | exact (kh_X9_at _) _ _ _ _)

theorem kh_X6_skipBlanks : ∀ n : Nat, (∀ (d : Nat) (S : GS), PH 495 S (f_X6_skipBlanks n d 0 S []))
  | 0 => (fun _ _ => ph_none)
  | n + 1 => by
    have h0 := kh_X6_skipBlanks n
    · intro _ _
      rw [e_X6_skipBlanks_0]
      unfold b_X6_skipBlanks_0
      repeat' (with_reducible first
        | exact ph_none
        | exact ph_some
        | refine ph_gI (by first | decide | omega) (fun _ => ?_)
        | refine ph_gCp (by first | decide | omega) (fun _ => ?_)
        | refine ph_gB (by first | decide | omega) (fun _ => ?_)
        | refine ph_gR (by first | decide | omega) (fun _ => ?_)
        | refine ph_gv (fun _ => ?_)
        | refine ph_gg (fun _ => ?_)
        | refine ph_gc ?_ (fun _ _ => ?_)
        | refine ph_ite (fun _ => ?_) (fun _ => ?_)
        | exact h0 _ _
        | exact (kh_X6_here _) _ _
        | exact (kh_X9_length _) _ _ _)

theorem kh_X6_fail : ∀ n : Nat, (∀ (d : Nat) (S : GS) (a1 : Int), PH 495 S (f_X6_fail n d 0 S [a1]))
  | 0 => (fun _ _ _ => ph_none)
  | n + 1 => by
    have h0 := kh_X6_fail n
    · intro _ _ _
      rw [e_X6_fail_0]
      unfold b_X6_fail_0
      repeat' (with_reducible first
        | exact ph_none
        | exact ph_some
        | refine ph_gI (by first | decide | omega) (fun _ => ?_)
        | refine ph_gCp (by first | decide | omega) (fun _ => ?_)
        | refine ph_gB (by first | decide | omega) (fun _ => ?_)
        | refine ph_gR (by first | decide | omega) (fun _ => ?_)
        | refine ph_gv (fun _ => ?_)
        | refine ph_gg (fun _ => ?_)
        | refine ph_gc ?_ (fun _ _ => ?_)
        | refine ph_ite (fun _ => ?_) (fun _ => ?_))

theorem kh_X6_begin : ∀ n : Nat, (∀ (d : Nat) (S : GS) (a1 : Int), PH 495 S (f_X6_begin n d 0 S [a1]))
  | 0 => (fun _ _ _ => ph_none)
  | n + 1 => by
    have h0 := kh_X6_begin n
    · intro _ _ _
      rw [e_X6_begin_0]
      unfold b_X6_begin_0
      repeat' (with_reducible first
        | exact ph_none
        | exact ph_some
        | refine ph_gI (by first | decide | omega) (fun _ => ?_)
        | refine ph_gCp (by first | decide | omega) (fun _ => ?_)
        | refine ph_gB (by first | decide | omega) (fun _ => ?_)
        | refine ph_gR (by first | decide | omega) (fun _ => ?_)
        | refine ph_gv (fun _ => ?_)
        | refine ph_gg (fun _ => ?_)
        | refine ph_gc ?_ (fun _ _ => ?_)
        | refine ph_ite (fun _ => ?_) (fun _ => ?_)
        | exact (kh_X10_add _) _ _ _ _
        | exact (kh_X10_setKey _).1 _ _ _ _ _)

theorem kh_X6_goesOn : ∀ n : Nat, (∀ (d : Nat) (S : GS), PH 495 S (f_X6_goesOn n d 0 S []))
  | 0 => (fun _ _ => ph_none)
  | n + 1 => by
    have h0 := kh_X6_goesOn n
    · intro _ _
      rw [e_X6_goesOn_0]
      unfold b_X6_goesOn_0
      repeat' (with_reducible first
        | exact ph_none
        | exact ph_some
        | refine ph_gI (by first | decide | omega) (fun _ => ?_)
        | refine ph_gCp (by first | decide | omega) (fun _ => ?_)
        | refine ph_gB (by first | decide | omega) (fun _ => ?_)
        | refine ph_gR (by first | decide | omega) (fun _ => ?_)
        | refine ph_gv (fun _ => ?_)
        | refine ph_gg (fun _ => ?_)
        | refine ph_gc ?_ (fun _ _ => ?_)
        | refine ph_ite (fun _ => ?_) (fun _ => ?_))

theorem kh_X6_pass : ∀ n : Nat, (∀ (d : Nat) (S : GS) (a1 : Int), PH 495 S (f_X6_pass n d 0 S [a1]))
  | 0 => (fun _ _ _ => ph_none)
  | n + 1 => by
    have h0 := kh_X6_pass n
    · intro _ _ _
      rw [e_X6_pass_0]
      unfold b_X6_pass_0
      repeat' (with_reducible first
        | exact ph_none
        | exact ph_some
        | refine ph_gI (by first | decide | omega) (fun _ => ?_)
        | refine ph_gCp (by first | decide | omega) (fun _ => ?_)
        | refine ph_gB (by first | decide | omega) (fun _ => ?_)
        | refine ph_gR (by first | decide | omega) (fun _ => ?_)
        | refine ph_gv (fun _ => ?_)
        | refine ph_gg (fun _ => ?_)
        | refine ph_gc ?_ (fun _ _ => ?_)
        | refine ph_ite (fun _ => ?_) (fun _ => ?_)
        | exact (kh_X6_fail _) _ _ _
        | exact (kh_X9_at _) _ _ _ _)

theorem kh_X6_isFigure : ∀ n : Nat, (∀ (d : Nat) (S : GS) (a0 : Int), PH 495 S (f_X6_isFigure n d 0 S [a0]))
  | 0 => (fun _ _ _ => ph_none)
  | n + 1 => by
    have h0 := kh_X6_isFigure n
    · intro _ _ _
      rw [e_X6_isFigure_0]
      unfold b_X6_isFigure_0
      repeat' (with_reducible first
        | exact ph_none
        | exact ph_some
        | refine ph_gI (by first | decide | omega) (fun _ => ?_)
        | refine ph_gCp (by first | decide | omega) (fun _ => ?_)
        | refine ph_gB (by first | decide | omega) (fun _ => ?_)
        | refine ph_gR (by first | decide | omega) (fun _ => ?_)
        | refine ph_gv (fun _ => ?_)
        | refine ph_gg (fun _ => ?_)
        | refine ph_gc ?_ (fun _ _ => ?_)
        | refine ph_ite (fun _ => ?_) (fun _ => ?_))

theorem kh_X6_hexFigure : ∀ n : Nat, (∀ (d : Nat) (S : GS), PH 495 S (f_X6_hexFigure n d 0 S [])) ∧ (∀ (d : Nat) (S : GS) (a1 : Int), PH 495 S (f_X6_hexFigure n d 41 S [a1])) ∧ (∀ (d : Nat) (S : GS) (a1 : Int), PH 495 S (f_X6_hexFigure n d 60 S [a1])) ∧ (∀ (d : Nat) (S : GS) (a1 : Int), PH 495 S (f_X6_hexFigure n d 72 S [a1]))
  | 0 => ⟨(fun _ _ => ph_none), (fun _ _ _ => ph_none), (fun _ _ _ => ph_none), (fun _ _ _ => ph_none)⟩
  | n + 1 => by
    obtain ⟨h0, h41, h60, h72⟩ := kh_X6_hexFigure n
    refine ⟨?_, ?_, ?_, ?_⟩
    · intro _ _
      rw [e_X6_hexFigure_0]
      unfold b_X6_hexFigure_0
      repeat' (with_reducible first
        | exact ph_none
        | exact ph_some
        | refine ph_gI (by first | decide | omega) (fun _ => ?_)
        | refine ph_gCp (by first | decide | omega) (fun _ => ?_)
        | refine ph_gB (by first | decide | omega) (fun _ => ?_)
        | refine ph_gR (by first | decide | omega) (fun _ => ?_)
        | refine ph_gv (fun _ => ?_)
        | refine ph_gg (fun _ => ?_)
        | refine ph_gc ?_ (fun _ _ => ?_)
        | refine ph_ite (fun _ => ?_) (fun _ => ?_)
        | exact h41 _ _ _
        | exact (kh_X6_goesOn _) _ _
        | exact (kh_X6_isFigure _) _ _ _
        | exact (kh_X9_at _) _ _ _ _)
    · intro _ _ _
      rw [e_X6_hexFigure_41]
      unfold b_X6_hexFigure_41
      repeat' (with_reducible first
        | exact ph_none
        | exact ph_some
        | refine ph_gI (by first | decide | omega) (fun _ => ?_)
        | refine ph_gCp (by first | decide | omega) (fun _ => ?_)
        | refine ph_gB (by first | decide | omega) (fun _ => ?_)
        | refine ph_gR (by first | decide | omega) (fun _ => ?_)
        | refine ph_gv (fun _ => ?_)
        | refine ph_gg (fun _ => ?_)
        | refine ph_gc ?_ (fun _ _ => ?_)
        | refine ph_ite (fun _ => ?_) (fun _ => ?_)
        | exact h60 _ _ _
        | exact h72 _ _ _
        | exact (kh_X6_fail _) _ _ _
        | exact (kh_X6_goesOn _) _ _)
    · intro _ _ _
      rw [e_X6_hexFigure_60]
      unfold b_X6_hexFigure_60
      repeat' (with_reducible first
        | exact ph_none
        | exact ph_some
        | refine ph_gI (by first | decide | omega) (fun _ => ?_)
        | refine ph_gCp (by first | decide | omega) (fun _ => ?_)
        | refine ph_gB (by first | decide | omega) (fun _ => ?_)
        | refine ph_gR (by first | decide | omega) (fun _ => ?_)
        | refine ph_gv (fun _ => ?_)
        | refine ph_gg (fun _ => ?_)
        | refine ph_gc ?_ (fun _ _ => ?_)
        | refine ph_ite (fun _ => ?_) (fun _ => ?_)
        | exact h72 _ _ _
        | exact (kh_X6_fail _) _ _ _)
    · intro _ _ _
      rw [e_X6_hexFigure_72]
      unfold b_X6_hexFigure_72
      repeat' (with_reducible first
        | exact ph_none
        | exact ph_some
        | refine ph_gI (by first | decide | omega) (fun _ => ?_)
        | refine ph_gCp (by first | decide | omega) (fun _ => ?_)
        | refine ph_gB (by first | decide | omega) (fun _ => ?_)
        | refine ph_gR (by first | decide | omega) (fun _ => ?_)
        | refine ph_gv (fun _ => ?_)
        | refine ph_gg (fun _ => ?_)
        | refine ph_gc ?_ (fun _ _ => ?_)
        | refine ph_ite (fun _ => ?_) (fun _ => ?_))

theorem kh_X6_escaped : ∀ n : Nat, (∀ (d : Nat) (S : GS), PH 495 S (f_X6_escaped n d 0 S []))
  | 0 => (fun _ _ => ph_none)
  | n + 1 => by
    have h0 := kh_X6_escaped n
    · intro _ _
      rw [e_X6_escaped_0]
      unfold b_X6_escaped_0
      repeat' (with_reducible first
        | exact ph_none
        | exact ph_some
        | refine ph_gI (by first | decide | omega) (fun _ => ?_)
        | refine ph_gCp (by first | decide | omega) (fun _ => ?_)
        | refine ph_gB (by first | decide | omega) (fun _ => ?_)
        | refine ph_gR (by first | decide | omega) (fun _ => ?_)
        | refine ph_gv (fun _ => ?_)
        | refine ph_gg (fun _ => ?_)
        | refine ph_gc ?_ (fun _ _ => ?_)
        | refine ph_ite (fun _ => ?_) (fun _ => ?_)
        | exact (kh_X6_fail _) _ _ _
        | exact (kh_X6_here _) _ _
        | exact (kh_X6_hexFigure _).1 _ _
        | exact (kh_X6_pass _) _ _ _)

theorem kh_X6_readSigns : ∀ n : Nat, (∀ (d : Nat) (S : GS) (a1 : Nat) (a2 : Int), PH 495 S (f_X6_readSigns n d 0 S [((a1 : Nat) : Int), a2])) ∧ (∀ (d : Nat) (S : GS) (a1 : Nat) (a2 : Int) (a3 : Int), PH 495 S (f_X6_readSigns n d 12 S [((a1 : Nat) : Int), a2, a3])) ∧ (∀ (d : Nat) (S : GS) (a1 : Nat) (a2 : Int) (a3 : Int), PH 495 S (f_X6_readSigns n d 50 S [((a1 : Nat) : Int), a2, a3]))
  | 0 => ⟨(fun _ _ _ _ => ph_none), (fun _ _ _ _ _ => ph_none), (fun _ _ _ _ _ => ph_none)⟩
  | n + 1 => by
    obtain ⟨h0, h12, h50⟩ := kh_X6_readSigns n
    refine ⟨?_, ?_, ?_⟩
    · intro _ _ _ _
      rw [e_X6_readSigns_0]
      unfold b_X6_readSigns_0
      repeat' (with_reducible first
        | exact ph_none
        | exact ph_some
        | refine ph_gI (by first | decide | omega) (fun _ => ?_)
        | refine ph_gCp (by first | decide | omega) (fun _ => ?_)
        | refine ph_gB (by first | decide | omega) (fun _ => ?_)
        | refine ph_gR (by first | decide | omega) (fun _ => ?_)
        | refine ph_gv (fun _ => ?_)
        | refine ph_gg (fun _ => ?_)
        | refine ph_gc ?_ (fun _ _ => ?_)
        | refine ph_ite (fun _ => ?_) (fun _ => ?_)
        | exact h12 _ _ _ _ _
        | exact (kh_X6_pass _) _ _ _
        | exact (kh_X9_clear _) _ _ _)
    · intro _ _ _ _ _
      rw [e_X6_readSigns_12]
      unfold b_X6_readSigns_12
      repeat' (with_reducible first
        | exact ph_none
        | exact ph_some
        | refine ph_gI (by first | decide | omega) (fun _ => ?_)
        | refine ph_gCp (by first | decide | omega) (fun _ => ?_)
        | refine ph_gB (by first | decide | omega) (fun _ => ?_)
        | refine ph_gR (by first | decide | omega) (fun _ => ?_)
        | refine ph_gv (fun _ => ?_)
        | refine ph_gg (fun _ => ?_)
        | refine ph_gc ?_ (fun _ _ => ?_)
        | refine ph_ite (fun _ => ?_) (fun _ => ?_)
        | exact h12 _ _ _ _ _
        | exact h50 _ _ _ _ _
        | exact (kh_X6_escaped _) _ _
        | exact (kh_X6_goesOn _) _ _
        | exact (kh_X6_here _) _ _
        | exact (kh_X6_pass _) _ _ _
        | exact (kh_X9_add _) _ _ _ _
        | exact (kh_X9_length _) _ _ _)
    · intro _ _ _ _ _
      rw [e_X6_readSigns_50]
      unfold b_X6_readSigns_50
      repeat' (with_reducible first
        | exact ph_none
        | exact ph_some
        | refine ph_gI (by first | decide | omega) (fun _ => ?_)
        | refine ph_gCp (by first | decide | omega) (fun _ => ?_)
        | refine ph_gB (by first | decide | omega) (fun _ => ?_)
        | refine ph_gR (by first | decide | omega) (fun _ => ?_)
        | refine ph_gv (fun _ => ?_)
        | refine ph_gg (fun _ => ?_)
        | refine ph_gc ?_ (fun _ _ => ?_)
        | refine ph_ite (fun _ => ?_) (fun _ => ?_)
        | exact h12 _ _ _ _ _
        | exact (kh_X6_fail _) _ _ _)

theorem kh_X6_text : ∀ n : Nat, (∀ (d : Nat) (S : GS), PH 495 S (f_X6_text n d 0 S [])) ∧ (∀ (d : Nat) (S : GS) (a1 : Int) (a2 : Int), PH 495 S (f_X6_text n d 18 S [a1, a2]))
  | 0 => ⟨(fun _ _ => ph_none), (fun _ _ _ _ => ph_none)⟩
  | n + 1 => by
    obtain ⟨h0, h18⟩ := kh_X6_text n
    refine ⟨?_, ?_⟩
    · intro _ _
      rw [e_X6_text_0]
      unfold b_X6_text_0
      repeat' (with_reducible first
        | exact ph_none
        | exact ph_some
        | refine ph_gI (by first | decide | omega) (fun _ => ?_)
        | refine ph_gCp (by first | decide | omega) (fun _ => ?_)
        | refine ph_gB (by first | decide | omega) (fun _ => ?_)
        | refine ph_gR (by first | decide | omega) (fun _ => ?_)
        | refine ph_gv (fun _ => ?_)
        | refine ph_gg (fun _ => ?_)
        | refine ph_gc ?_ (fun _ _ => ?_)
        | refine ph_ite (fun _ => ?_) (fun _ => ?_)
        | exact h18 _ _ _ _
        | exact (kh_X6_begin _) _ _ _
        | exact (kh_X6_readSigns _).1 _ _ _ _)
    · intro _ _ _ _
      rw [e_X6_text_18]
      unfold b_X6_text_18
      repeat' (with_reducible first
        | exact ph_none
        | exact ph_some
        | refine ph_gI (by first | decide | omega) (fun _ => ?_)
        | refine ph_gCp (by first | decide | omega) (fun _ => ?_)
        | refine ph_gB (by first | decide | omega) (fun _ => ?_)
        | refine ph_gR (by first | decide | omega) (fun _ => ?_)
        | refine ph_gv (fun _ => ?_)
        | refine ph_gg (fun _ => ?_)
        | refine ph_gc ?_ (fun _ _ => ?_)
        | refine ph_ite (fun _ => ?_) (fun _ => ?_)
        | exact h18 _ _ _ _
        | exact (kh_X10_addSign _).1 _ _ _ _ _
        | exact (kh_X6_goesOn _) _ _
        | exact (kh_X9_at _) _ _ _ _
        | exact (kh_X9_length _) _ _ _)

theorem kh_X6_readFigure : ∀ n : Nat, (∀ (d : Nat) (S : GS), PH 495 S (f_X6_readFigure n d 0 S []))
  | 0 => (fun _ _ => ph_none)
  | n + 1 => by
    have h0 := kh_X6_readFigure n
    · intro _ _
      rw [e_X6_readFigure_0]
      unfold b_X6_readFigure_0
      repeat' (with_reducible first
        | exact ph_none
        | exact ph_some
        | refine ph_gI (by first | decide | omega) (fun _ => ?_)
        | refine ph_gCp (by first | decide | omega) (fun _ => ?_)
        | refine ph_gB (by first | decide | omega) (fun _ => ?_)
        | refine ph_gR (by first | decide | omega) (fun _ => ?_)
        | refine ph_gv (fun _ => ?_)
        | refine ph_gg (fun _ => ?_)
        | refine ph_gc ?_ (fun _ _ => ?_)
        | refine ph_ite (fun _ => ?_) (fun _ => ?_)
        | exact (kh_X6_fail _) _ _ _
        | exact (kh_X6_here _) _ _
        | exact (kh_X9_add _) _ _ _ _
        | exact (kh_X9_length _) _ _ _)

theorem kh_X6_readFigures : ∀ n : Nat, (∀ (d : Nat) (S : GS), PH 495 S (f_X6_readFigures n d 0 S [])) ∧ (∀ (d : Nat) (S : GS) (a1 : Int), PH 495 S (f_X6_readFigures n d 21 S [a1]))
  | 0 => ⟨(fun _ _ => ph_none), (fun _ _ _ => ph_none)⟩
  | n + 1 => by
    obtain ⟨h0, h21⟩ := kh_X6_readFigures n
    refine ⟨?_, ?_⟩
    · intro _ _
      rw [e_X6_readFigures_0]
      unfold b_X6_readFigures_0
      repeat' (with_reducible first
        | exact ph_none
        | exact ph_some
        | refine ph_gI (by first | decide | omega) (fun _ => ?_)
        | refine ph_gCp (by first | decide | omega) (fun _ => ?_)
        | refine ph_gB (by first | decide | omega) (fun _ => ?_)
        | refine ph_gR (by first | decide | omega) (fun _ => ?_)
        | refine ph_gv (fun _ => ?_)
        | refine ph_gg (fun _ => ?_)
        | refine ph_gc ?_ (fun _ _ => ?_)
        | refine ph_ite (fun _ => ?_) (fun _ => ?_)
        | exact h21 _ _ _
        | exact (kh_X6_fail _) _ _ _
        | exact (kh_X6_here _) _ _
        | exact (kh_X6_isFigure _) _ _ _)
    · intro _ _ _
      rw [e_X6_readFigures_21]
      unfold b_X6_readFigures_21
      repeat' (with_reducible first
        | exact ph_none
        | exact ph_some
        | refine ph_gI (by first | decide | omega) (fun _ => ?_)
        | refine ph_gCp (by first | decide | omega) (fun _ => ?_)
        | refine ph_gB (by first | decide | omega) (fun _ => ?_)
        | refine ph_gR (by first | decide | omega) (fun _ => ?_)
        | refine ph_gv (fun _ => ?_)
        | refine ph_gg (fun _ => ?_)
        | refine ph_gc ?_ (fun _ _ => ?_)
        | refine ph_ite (fun _ => ?_) (fun _ => ?_)
        | exact h21 _ _ _
        | exact (kh_X6_goesOn _) _ _
        | exact (kh_X6_here _) _ _
        | exact (kh_X6_isFigure _) _ _ _
        | exact (kh_X6_readFigure _) _ _)

theorem kh_X6_exponent : ∀ n : Nat, (∀ (d : Nat) (S : GS), PH 495 S (f_X6_exponent n d 0 S [])) ∧ (∀ (d : Nat) (S : GS) (s0 : Int), PH 495 S (f_X6_exponent n d 24 S [s0])) ∧ (∀ (d : Nat) (S : GS) (a1 : Int), PH 495 S (f_X6_exponent n d 48 S [a1]))
  | 0 => ⟨(fun _ _ => ph_none), (fun _ _ _ => ph_none), (fun _ _ _ => ph_none)⟩
  | n + 1 => by
    obtain ⟨h0, h24, h48⟩ := kh_X6_exponent n
    refine ⟨?_, ?_, ?_⟩
    · intro _ _
      rw [e_X6_exponent_0]
      unfold b_X6_exponent_0
      repeat' (with_reducible first
        | exact ph_none
        | exact ph_some
        | refine ph_gI (by first | decide | omega) (fun _ => ?_)
        | refine ph_gCp (by first | decide | omega) (fun _ => ?_)
        | refine ph_gB (by first | decide | omega) (fun _ => ?_)
        | refine ph_gR (by first | decide | omega) (fun _ => ?_)
        | refine ph_gv (fun _ => ?_)
        | refine ph_gg (fun _ => ?_)
        | refine ph_gc ?_ (fun _ _ => ?_)
        | refine ph_ite (fun _ => ?_) (fun _ => ?_)
        | exact h24 _ _ _
        | exact (kh_X6_here _) _ _)
    · intro _ _ _
      rw [e_X6_exponent_24]
      unfold b_X6_exponent_24
      repeat' (with_reducible first
        | exact ph_none
        | exact ph_some
        | refine ph_gI (by first | decide | omega) (fun _ => ?_)
        | refine ph_gCp (by first | decide | omega) (fun _ => ?_)
        | refine ph_gB (by first | decide | omega) (fun _ => ?_)
        | refine ph_gR (by first | decide | omega) (fun _ => ?_)
        | refine ph_gv (fun _ => ?_)
        | refine ph_gg (fun _ => ?_)
        | refine ph_gc ?_ (fun _ _ => ?_)
        | refine ph_ite (fun _ => ?_) (fun _ => ?_)
        | exact h48 _ _ _
        | exact (kh_X6_here _) _ _)
    · intro _ _ _
      rw [e_X6_exponent_48]
      unfold b_X6_exponent_48
      repeat' (with_reducible first
        | exact ph_none
        | exact ph_some
        | refine ph_gI (by first | decide | omega) (fun _ => ?_)
        | refine ph_gCp (by first | decide | omega) (fun _ => ?_)
        | refine ph_gB (by first | decide | omega) (fun _ => ?_)
        | refine ph_gR (by first | decide | omega) (fun _ => ?_)
        | refine ph_gv (fun _ => ?_)
        | refine ph_gg (fun _ => ?_)
        | refine ph_gc ?_ (fun _ _ => ?_)
        | refine ph_ite (fun _ => ?_) (fun _ => ?_)
        | exact (kh_X6_fail _) _ _ _
        | exact (kh_X6_here _) _ _
        | exact (kh_X6_isFigure _) _ _ _)

theorem kh_X6_number : ∀ n : Nat, (∀ (d : Nat) (S : GS), PH 495 S (f_X6_number n d 0 S [])) ∧ (∀ (d : Nat) (S : GS) (a1 : Int) (s0 : Int), PH 495 S (f_X6_number n d 26 S [a1, s0])) ∧ (∀ (d : Nat) (S : GS) (a1 : Int) (a2 : Int), PH 495 S (f_X6_number n d 41 S [a1, a2])) ∧ (∀ (d : Nat) (S : GS) (a1 : Int) (a2 : Int), PH 495 S (f_X6_number n d 61 S [a1, a2])) ∧ (∀ (d : Nat) (S : GS) (a1 : Int) (a2 : Int) (a3 : Int), PH 495 S (f_X6_number n d 99 S [a1, a2, a3])) ∧ (∀ (d : Nat) (S : GS) (a1 : Int) (a2 : Int) (a4 : Int), PH 495 S (f_X6_number n d 128 S [a1, a2, a4])) ∧ (∀ (d : Nat) (S : GS) (a1 : Int) (a2 : Int) (a4 : Int), PH 495 S (f_X6_number n d 144 S [a1, a2, a4]))
  | 0 => ⟨(fun _ _ => ph_none), (fun _ _ _ _ => ph_none), (fun _ _ _ _ => ph_none), (fun _ _ _ _ => ph_none), (fun _ _ _ _ _ => ph_none), (fun _ _ _ _ _ => ph_none), (fun _ _ _ _ _ => ph_none)⟩
  | n + 1 => by
    obtain ⟨h0, h26, h41, h61, h99, h128, h144⟩ := kh_X6_number n
    refine ⟨?_, ?_, ?_, ?_, ?_, ?_, ?_⟩
    · intro _ _
      rw [e_X6_number_0]
      unfold b_X6_number_0
      repeat' (with_reducible first
        | exact ph_none
        | exact ph_some
        | refine ph_gI (by first | decide | omega) (fun _ => ?_)
        | refine ph_gCp (by first | decide | omega) (fun _ => ?_)
        | refine ph_gB (by first | decide | omega) (fun _ => ?_)
        | refine ph_gR (by first | decide | omega) (fun _ => ?_)
        | refine ph_gv (fun _ => ?_)
        | refine ph_gg (fun _ => ?_)
        | refine ph_gc ?_ (fun _ _ => ?_)
        | refine ph_ite (fun _ => ?_) (fun _ => ?_)
        | exact h26 _ _ _ _
        | exact (kh_X6_here _) _ _
        | exact (kh_X9_clear _) _ _ _)
    · intro _ _ _ _
      rw [e_X6_number_26]
      unfold b_X6_number_26
      repeat' (with_reducible first
        | exact ph_none
        | exact ph_some
        | refine ph_gI (by first | decide | omega) (fun _ => ?_)
        | refine ph_gCp (by first | decide | omega) (fun _ => ?_)
        | refine ph_gB (by first | decide | omega) (fun _ => ?_)
        | refine ph_gR (by first | decide | omega) (fun _ => ?_)
        | refine ph_gv (fun _ => ?_)
        | refine ph_gg (fun _ => ?_)
        | refine ph_gc ?_ (fun _ _ => ?_)
        | refine ph_ite (fun _ => ?_) (fun _ => ?_)
        | exact h41 _ _ _ _)
    · intro _ _ _ _
      rw [e_X6_number_41]
      unfold b_X6_number_41
      repeat' (with_reducible first
        | exact ph_none
        | exact ph_some
        | refine ph_gI (by first | decide | omega) (fun _ => ?_)
        | refine ph_gCp (by first | decide | omega) (fun _ => ?_)
        | refine ph_gB (by first | decide | omega) (fun _ => ?_)
        | refine ph_gR (by first | decide | omega) (fun _ => ?_)
        | refine ph_gv (fun _ => ?_)
        | refine ph_gg (fun _ => ?_)
        | refine ph_gc ?_ (fun _ _ => ?_)
        | refine ph_ite (fun _ => ?_) (fun _ => ?_)
        | exact h61 _ _ _ _
        | exact (kh_X6_here _) _ _
        | exact (kh_X6_readFigure _) _ _
        | exact (kh_X6_readFigures _).1 _ _)
    · intro _ _ _ _
      rw [e_X6_number_61]
      unfold b_X6_number_61
      repeat' (with_reducible first
        | exact ph_none
        | exact ph_some
        | refine ph_gI (by first | decide | omega) (fun _ => ?_)
        | refine ph_gCp (by first | decide | omega) (fun _ => ?_)
        | refine ph_gB (by first | decide | omega) (fun _ => ?_)
        | refine ph_gR (by first | decide | omega) (fun _ => ?_)
        | refine ph_gv (fun _ => ?_)
        | refine ph_gg (fun _ => ?_)
        | refine ph_gc ?_ (fun _ _ => ?_)
        | refine ph_ite (fun _ => ?_) (fun _ => ?_)
        | exact h99 _ _ _ _ _
        | exact (kh_X6_goesOn _) _ _
        | exact (kh_X6_here _) _ _
        | exact (kh_X6_readFigures _).1 _ _
        | exact (kh_X9_length _) _ _ _)
    · intro _ _ _ _ _
      rw [e_X6_number_99]
      unfold b_X6_number_99
      repeat' (with_reducible first
        | exact ph_none
        | exact ph_some
        | refine ph_gI (by first | decide | omega) (fun _ => ?_)
        | refine ph_gCp (by first | decide | omega) (fun _ => ?_)
        | refine ph_gB (by first | decide | omega) (fun _ => ?_)
        | refine ph_gR (by first | decide | omega) (fun _ => ?_)
        | refine ph_gv (fun _ => ?_)
        | refine ph_gg (fun _ => ?_)
        | refine ph_gc ?_ (fun _ _ => ?_)
        | refine ph_ite (fun _ => ?_) (fun _ => ?_)
        | exact h128 _ _ _ _ _
        | exact h144 _ _ _ _ _
        | exact (kh_X6_here _) _ _
        | exact (kh_X9_length _) _ _ _)
    · intro _ _ _ _ _
      rw [e_X6_number_128]
      unfold b_X6_number_128
      repeat' (with_reducible first
        | exact ph_none
        | exact ph_some
        | refine ph_gI (by first | decide | omega) (fun _ => ?_)
        | refine ph_gCp (by first | decide | omega) (fun _ => ?_)
        | refine ph_gB (by first | decide | omega) (fun _ => ?_)
        | refine ph_gR (by first | decide | omega) (fun _ => ?_)
        | refine ph_gv (fun _ => ?_)
        | refine ph_gg (fun _ => ?_)
        | refine ph_gc ?_ (fun _ _ => ?_)
        | refine ph_ite (fun _ => ?_) (fun _ => ?_)
        | exact h144 _ _ _ _ _
        | exact (kh_X6_exponent _).1 _ _
        | exact (kh_X6_goesOn _) _ _)
    · intro _ _ _ _ _
      rw [e_X6_number_144]
      unfold b_X6_number_144
      repeat' (with_reducible first
        | exact ph_none
        | exact ph_some
        | refine ph_gI (by first | decide | omega) (fun _ => ?_)
        | refine ph_gCp (by first | decide | omega) (fun _ => ?_)
        | refine ph_gB (by first | decide | omega) (fun _ => ?_)
        | refine ph_gR (by first | decide | omega) (fun _ => ?_)
        | refine ph_gv (fun _ => ?_)
        | refine ph_gg (fun _ => ?_)
        | refine ph_gc ?_ (fun _ _ => ?_)
        | refine ph_ite (fun _ => ?_) (fun _ => ?_)
        | exact (kh_X10_setNumber _).1 _ _ _ _ _ _ _
        | exact (kh_X6_begin _) _ _ _
        | exact (kh_X6_fail _) _ _ _
        | exact (kh_X6_goesOn _) _ _)

theorem kh_X6_passAll : ∀ n : Nat, (∀ (d : Nat) (S : GS) (a1 : Nat), PH 495 S (f_X6_passAll n d 0 S [((a1 : Nat) : Int)])) ∧ (∀ (d : Nat) (S : GS) (a1 : Nat) (a2 : Int), PH 495 S (f_X6_passAll n d 2 S [((a1 : Nat) : Int), a2]))
  | 0 => ⟨(fun _ _ _ => ph_none), (fun _ _ _ _ => ph_none)⟩
  | n + 1 => by
    obtain ⟨h0, h2⟩ := kh_X6_passAll n
    refine ⟨?_, ?_⟩
    · intro _ _ _
      rw [e_X6_passAll_0]
      unfold b_X6_passAll_0
      repeat' (with_reducible first
        | exact ph_none
        | exact ph_some
        | refine ph_gI (by first | decide | omega) (fun _ => ?_)
        | refine ph_gCp (by first | decide | omega) (fun _ => ?_)
        | refine ph_gB (by first | decide | omega) (fun _ => ?_)
        | refine ph_gR (by first | decide | omega) (fun _ => ?_)
        | refine ph_gv (fun _ => ?_)
        | refine ph_gg (fun _ => ?_)
        | refine ph_gc ?_ (fun _ _ => ?_)
        | refine ph_ite (fun _ => ?_) (fun _ => ?_)
        | exact h2 _ _ _ _)
    · intro _ _ _ _
      rw [e_X6_passAll_2]
      unfold b_X6_passAll_2
      repeat' (with_reducible first
        | exact ph_none
        | exact ph_some
        | refine ph_gI (by first | decide | omega) (fun _ => ?_)
        | refine ph_gCp (by first | decide | omega) (fun _ => ?_)
        | refine ph_gB (by first | decide | omega) (fun _ => ?_)
        | refine ph_gR (by first | decide | omega) (fun _ => ?_)
        | refine ph_gv (fun _ => ?_)
        | refine ph_gg (fun _ => ?_)
        | refine ph_gc ?_ (fun _ _ => ?_)
        | refine ph_ite (fun _ => ?_) (fun _ => ?_)
        | exact h2 _ _ _ _
        | exact (kh_X6_goesOn _) _ _
        | exact (kh_X6_pass _) _ _ _)

theorem kh_X6_constant : ∀ n : Nat, (∀ (d : Nat) (S : GS) (a1 : Int), PH 495 S (f_X6_constant n d 0 S [a1])) ∧ (∀ (d : Nat) (S : GS) (a1 : Int) (s0 : Nat), PH 495 S (f_X6_constant n d 53 S [a1, ((s0 : Nat) : Int)])) ∧ (∀ (d : Nat) (S : GS) (s0 : Int) (s1 : Nat), PH 495 S (f_X6_constant n d 71 S [s0, ((s1 : Nat) : Int)]))
  | 0 => ⟨(fun _ _ _ => ph_none), (fun _ _ _ _ => ph_none), (fun _ _ _ _ => ph_none)⟩
  | n + 1 => by
    obtain ⟨h0, h53, h71⟩ := kh_X6_constant n
    refine ⟨?_, ?_, ?_⟩
    · intro _ _ _
      rw [e_X6_constant_0]
      unfold b_X6_constant_0
      repeat' (with_reducible first
        | exact ph_none
        | exact ph_some
        | refine ph_gI (by first | decide | omega) (fun _ => ?_)
        | refine ph_gCp (by first | decide | omega) (fun _ => ?_)
        | refine ph_gB (by first | decide | omega) (fun _ => ?_)
        | refine ph_gR (by first | decide | omega) (fun _ => ?_)
        | refine ph_gv (fun _ => ?_)
        | refine ph_gg (fun _ => ?_)
        | refine ph_gc ?_ (fun _ _ => ?_)
        | refine ph_ite (fun _ => ?_) (fun _ => ?_)
        | exact h53 _ _ _ _
        | exact (kh_X6_begin _) _ _ _
        | exact (kh_X6_fail _) _ _ _
        | exact (kh_X6_passAll _).1 _ _ _)
    · intro _ _ _ _
      rw [e_X6_constant_53]
      unfold b_X6_constant_53
      repeat' (with_reducible first
        | exact ph_none
        | exact ph_some
        | refine ph_gI (by first | decide | omega) (fun _ => ?_)
        | refine ph_gCp (by first | decide | omega) (fun _ => ?_)
        | refine ph_gB (by first | decide | omega) (fun _ => ?_)
        | refine ph_gR (by first | decide | omega) (fun _ => ?_)
        | refine ph_gv (fun _ => ?_)
        | refine ph_gg (fun _ => ?_)
        | refine ph_gc ?_ (fun _ _ => ?_)
        | refine ph_ite (fun _ => ?_) (fun _ => ?_)
        | exact h71 _ _ _ _
        | exact (kh_X6_passAll _).1 _ _ _)
    · intro _ _ _ _
      rw [e_X6_constant_71]
      unfold b_X6_constant_71
      repeat' (with_reducible first
        | exact ph_none
        | exact ph_some
        | refine ph_gI (by first | decide | omega) (fun _ => ?_)
        | refine ph_gCp (by first | decide | omega) (fun _ => ?_)
        | refine ph_gB (by first | decide | omega) (fun _ => ?_)
        | refine ph_gR (by first | decide | omega) (fun _ => ?_)
        | refine ph_gv (fun _ => ?_)
        | refine ph_gg (fun _ => ?_)
        | refine ph_gc ?_ (fun _ _ => ?_)
        | refine ph_ite (fun _ => ?_) (fun _ => ?_)
        | exact (kh_X10_addTruth _) _ _ _ _
        | exact (kh_X10_setKey _).1 _ _ _ _ _)

theorem kh_X6_entry : ∀ n : Nat, (∀ (d : Nat) (S : GS) (a1 : Int) (a2 : Int), PH 495 S (f_X6_entry n d 0 S [a1, a2])) ∧ (∀ (d : Nat) (S : GS) (a2 : Int) (a3 : Int), PH 495 S (f_X6_entry n d 65 S [a2, a3])) ∧ (∀ (d : Nat) (S : GS) (a3 : Int) (a4 : Int), PH 495 S (f_X6_entry n d 122 S [a3, a4])) ∧ (∀ (d : Nat) (S : GS) (a1 : Int) (a2 : Int), PH 495 S (f_X6_entry n d 10000 S [a1, a2])) ∧ (∀ (d : Nat) (S : GS) (a1 : Int) (a2 : Int) (a3 : Int) (s0 : Int), PH 495 S (f_X6_entry n d 10018 S [a1, a2, a3, s0])) ∧ (∀ (d : Nat) (S : GS) (a1 : Int) (a2 : Int) (a3 : Int) (a4 : Int) (a5 : Int) (a6 : Int), PH 495 S (f_X6_entry n d 10053 S [a1, a2, a3, a4, a5, a6])) ∧ (∀ (d : Nat) (S : GS) (a1 : Int) (a2 : Int) (a3 : Int) (a4 : Int) (a6 : Int), PH 495 S (f_X6_entry n d 10099 S [a1, a2, a3, a4, a6])) ∧ (∀ (d : Nat) (S : GS) (a1 : Int) (a2 : Int) (a3 : Int) (a4 : Int) (a6 : Int) (s0 : Int), PH 495 S (f_X6_entry n d 10117 S [a1, a2, a3, a4, a6, s0])) ∧ (∀ (d : Nat) (S : GS) (a3 : Int) (a4 : Int), PH 495 S (f_X6_entry n d 10136 S [a3, a4])) ∧ (∀ (d : Nat) (S : GS) (a1 : Int), PH 495 S (f_X6_entry n d 20000 S [a1])) ∧ (∀ (d : Nat) (S : GS) (a1 : Int) (a2 : Int), PH 495 S (f_X6_entry n d 20054 S [a1, a2]))
  | 0 => ⟨(fun _ _ _ _ => ph_none), (fun _ _ _ _ => ph_none), (fun _ _ _ _ => ph_none), (fun _ _ _ _ => ph_none), (fun _ _ _ _ _ _ => ph_none), (fun _ _ _ _ _ _ _ _ => ph_none), (fun _ _ _ _ _ _ _ => ph_none), (fun _ _ _ _ _ _ _ _ => ph_none), (fun _ _ _ _ => ph_none), (fun _ _ _ => ph_none), (fun _ _ _ _ => ph_none)⟩
  | n + 1 => by
    obtain ⟨h0, h65, h122, h10000, h10018, h10053, h10099, h10117, h10136, h20000, h20054⟩ := kh_X6_entry n
    refine ⟨?_, ?_, ?_, ?_, ?_, ?_, ?_, ?_, ?_, ?_, ?_⟩
    · intro _ _ _ _
      rw [e_X6_entry_0]
      unfold b_X6_entry_0
      repeat' (with_reducible first
        | exact ph_none
        | exact ph_some
        | refine ph_gI (by first | decide | omega) (fun _ => ?_)
        | refine ph_gCp (by first | decide | omega) (fun _ => ?_)
        | refine ph_gB (by first | decide | omega) (fun _ => ?_)
        | refine ph_gR (by first | decide | omega) (fun _ => ?_)
        | refine ph_gv (fun _ => ?_)
        | refine ph_gg (fun _ => ?_)
        | refine ph_gc ?_ (fun _ _ => ?_)
        | refine ph_ite (fun _ => ?_) (fun _ => ?_)
        | exact h65 _ _ _ _
        | exact (kh_X10_close _) _ _ _ _
        | exact (kh_X10_valueOf _).1 _ _ _ _ _
        | exact (kh_X6_fail _) _ _ _
        | exact (kh_X6_goesOn _) _ _
        | exact (kh_X6_readSigns _).1 _ _ _ _
        | exact (kh_X6_skipBlanks _) _ _)
    · intro _ _ _ _
      rw [e_X6_entry_65]
      unfold b_X6_entry_65
      repeat' (with_reducible first
        | exact ph_none
        | exact ph_some
        | refine ph_gI (by first | decide | omega) (fun _ => ?_)
        | refine ph_gCp (by first | decide | omega) (fun _ => ?_)
        | refine ph_gB (by first | decide | omega) (fun _ => ?_)
        | refine ph_gR (by first | decide | omega) (fun _ => ?_)
        | refine ph_gv (fun _ => ?_)
        | refine ph_gg (fun _ => ?_)
        | refine ph_gc ?_ (fun _ _ => ?_)
        | refine ph_ite (fun _ => ?_) (fun _ => ?_)
        | exact h122 _ _ _ _
        | exact h20000 _ _ _
        | exact (kh_X10_dropFrom _) _ _ _ _
        | exact (kh_X6_goesOn _) _ _
        | exact (kh_X6_pass _) _ _ _
        | exact (kh_X6_skipBlanks _) _ _)
    · intro _ _ _ _
      rw [e_X6_entry_122]
      unfold b_X6_entry_122
      repeat' (with_reducible first
        | exact ph_none
        | exact ph_some
        | refine ph_gI (by first | decide | omega) (fun _ => ?_)
        | refine ph_gCp (by first | decide | omega) (fun _ => ?_)
        | refine ph_gB (by first | decide | omega) (fun _ => ?_)
        | refine ph_gR (by first | decide | omega) (fun _ => ?_)
        | refine ph_gv (fun _ => ?_)
        | refine ph_gg (fun _ => ?_)
        | refine ph_gc ?_ (fun _ _ => ?_)
        | refine ph_ite (fun _ => ?_) (fun _ => ?_)
        | exact (kh_X10_replaceByLast _) _ _ _ _ _ _
        | exact (kh_X6_goesOn _) _ _)
    · intro _ _ _ _
      rw [e_X6_group_0]
      unfold b_X6_group_0
      repeat' (with_reducible first
        | exact ph_none
        | exact ph_some
        | refine ph_gI (by first | decide | omega) (fun _ => ?_)
        | refine ph_gCp (by first | decide | omega) (fun _ => ?_)
        | refine ph_gB (by first | decide | omega) (fun _ => ?_)
        | refine ph_gR (by first | decide | omega) (fun _ => ?_)
        | refine ph_gv (fun _ => ?_)
        | refine ph_gg (fun _ => ?_)
        | refine ph_gc ?_ (fun _ _ => ?_)
        | refine ph_ite (fun _ => ?_) (fun _ => ?_)
        | exact h10018 _ _ _ _ _ _
        | exact (kh_X6_begin _) _ _ _)
    · intro _ _ _ _ _ _
      rw [e_X6_group_18]
      unfold b_X6_group_18
      repeat' (with_reducible first
        | exact ph_none
        | exact ph_some
        | refine ph_gI (by first | decide | omega) (fun _ => ?_)
        | refine ph_gCp (by first | decide | omega) (fun _ => ?_)
        | refine ph_gB (by first | decide | omega) (fun _ => ?_)
        | refine ph_gR (by first | decide | omega) (fun _ => ?_)
        | refine ph_gv (fun _ => ?_)
        | refine ph_gg (fun _ => ?_)
        | refine ph_gc ?_ (fun _ _ => ?_)
        | refine ph_ite (fun _ => ?_) (fun _ => ?_)
        | exact h10053 _ _ _ _ _ _ _ _
        | exact (kh_X6_here _) _ _
        | exact (kh_X6_skipBlanks _) _ _)
    · intro _ _ _ _ _ _ _ _
      rw [e_X6_group_53]
      unfold b_X6_group_53
      repeat' (with_reducible first
        | exact ph_none
        | exact ph_some
        | refine ph_gI (by first | decide | omega) (fun _ => ?_)
        | refine ph_gCp (by first | decide | omega) (fun _ => ?_)
        | refine ph_gB (by first | decide | omega) (fun _ => ?_)
        | refine ph_gR (by first | decide | omega) (fun _ => ?_)
        | refine ph_gv (fun _ => ?_)
        | refine ph_gg (fun _ => ?_)
        | refine ph_gc ?_ (fun _ _ => ?_)
        | refine ph_ite (fun _ => ?_) (fun _ => ?_)
        | exact h0 _ _ _ _
        | exact h10099 _ _ _ _ _ _ _
        | exact h10136 _ _ _ _
        | exact h20000 _ _ _
        | exact (kh_X6_goesOn _) _ _
        | exact (kh_X9_clear _) _ _ _)
    · intro _ _ _ _ _ _ _
      rw [e_X6_group_99]
      unfold b_X6_group_99
      repeat' (with_reducible first
        | exact ph_none
        | exact ph_some
        | refine ph_gI (by first | decide | omega) (fun _ => ?_)
        | refine ph_gCp (by first | decide | omega) (fun _ => ?_)
        | refine ph_gB (by first | decide | omega) (fun _ => ?_)
        | refine ph_gR (by first | decide | omega) (fun _ => ?_)
        | refine ph_gv (fun _ => ?_)
        | refine ph_gg (fun _ => ?_)
        | refine ph_gc ?_ (fun _ _ => ?_)
        | refine ph_ite (fun _ => ?_) (fun _ => ?_)
        | exact h10117 _ _ _ _ _ _ _ _
        | exact (kh_X6_here _) _ _
        | exact (kh_X6_skipBlanks _) _ _)
    · intro _ _ _ _ _ _ _ _
      rw [e_X6_group_117]
      unfold b_X6_group_117
      repeat' (with_reducible first
        | exact ph_none
        | exact ph_some
        | refine ph_gI (by first | decide | omega) (fun _ => ?_)
        | refine ph_gCp (by first | decide | omega) (fun _ => ?_)
        | refine ph_gB (by first | decide | omega) (fun _ => ?_)
        | refine ph_gR (by first | decide | omega) (fun _ => ?_)
        | refine ph_gv (fun _ => ?_)
        | refine ph_gg (fun _ => ?_)
        | refine ph_gc ?_ (fun _ _ => ?_)
        | refine ph_ite (fun _ => ?_) (fun _ => ?_)
        | exact h10053 _ _ _ _ _ _ _ _
        | exact (kh_X6_pass _) _ _ _)
    · intro _ _ _ _
      rw [e_X6_group_136]
      unfold b_X6_group_136
      repeat' (with_reducible first
        | exact ph_none
        | exact ph_some
        | refine ph_gI (by first | decide | omega) (fun _ => ?_)
        | refine ph_gCp (by first | decide | omega) (fun _ => ?_)
        | refine ph_gB (by first | decide | omega) (fun _ => ?_)
        | refine ph_gR (by first | decide | omega) (fun _ => ?_)
        | refine ph_gv (fun _ => ?_)
        | refine ph_gg (fun _ => ?_)
        | refine ph_gc ?_ (fun _ _ => ?_)
        | refine ph_ite (fun _ => ?_) (fun _ => ?_)
        | exact (kh_X10_close _) _ _ _ _
        | exact (kh_X6_pass _) _ _ _)
    · intro _ _ _
      rw [e_X6_value_0]
      unfold b_X6_value_0
      repeat' (with_reducible first
        | exact ph_none
        | exact ph_some
        | refine ph_gI (by first | decide | omega) (fun _ => ?_)
        | refine ph_gCp (by first | decide | omega) (fun _ => ?_)
        | refine ph_gB (by first | decide | omega) (fun _ => ?_)
        | refine ph_gR (by first | decide | omega) (fun _ => ?_)
        | refine ph_gv (fun _ => ?_)
        | refine ph_gg (fun _ => ?_)
        | refine ph_gc ?_ (fun _ _ => ?_)
        | refine ph_ite (fun _ => ?_) (fun _ => ?_)
        | exact h20054 _ _ _ _
        | exact (kh_X6_constant _).1 _ _ _
        | exact (kh_X6_fail _) _ _ _
        | exact (kh_X6_here _) _ _
        | exact (kh_X6_isFigure _) _ _ _
        | exact (kh_X6_number _).1 _ _
        | exact (kh_X6_skipBlanks _) _ _
        | exact (kh_X6_text _).1 _ _)
    · intro _ _ _ _
      rw [e_X6_value_54]
      unfold b_X6_value_54
      repeat' (with_reducible first
        | exact ph_none
        | exact ph_some
        | refine ph_gI (by first | decide | omega) (fun _ => ?_)
        | refine ph_gCp (by first | decide | omega) (fun _ => ?_)
        | refine ph_gB (by first | decide | omega) (fun _ => ?_)
        | refine ph_gR (by first | decide | omega) (fun _ => ?_)
        | refine ph_gv (fun _ => ?_)
        | refine ph_gg (fun _ => ?_)
        | refine ph_gc ?_ (fun _ _ => ?_)
        | refine ph_ite (fun _ => ?_) (fun _ => ?_)
        | exact h10000 _ _ _ _
        | exact (kh_X6_fail _) _ _ _)

theorem kh_X6_parse : ∀ n : Nat, (∀ (d : Nat) (S : GS) (a1 : Nat) (a2 : Int), PH 495 S (f_X6_parse n d 0 S [((a1 : Nat) : Int), a2]))
  | 0 => (fun _ _ _ _ => ph_none)
  | n + 1 => by
    have h0 := kh_X6_parse n
    · intro _ _ _ _
      rw [e_X6_parse_0]
      unfold b_X6_parse_0
      repeat' (with_reducible first
        | exact ph_none
        | exact ph_some
        | refine ph_gI (by first | decide | omega) (fun _ => ?_)
        | refine ph_gCp (by first | decide | omega) (fun _ => ?_)
        | refine ph_gB (by first | decide | omega) (fun _ => ?_)
        | refine ph_gR (by first | decide | omega) (fun _ => ?_)
        | refine ph_gv (fun _ => ?_)
        | refine ph_gg (fun _ => ?_)
        | refine ph_gc ?_ (fun _ _ => ?_)
        | refine ph_ite (fun _ => ?_) (fun _ => ?_)
        | exact (kh_X10_clear _) _ _ _
        | exact (kh_X6_entry _).2.2.2.2.2.2.2.2.2.1 _ _ _
        | exact (kh_X6_fail _) _ _ _
        | exact (kh_X6_here _) _ _
        | exact (kh_X6_skipBlanks _) _ _
        | exact (kh_X9_clear _) _ _ _)

theorem kh_X6_result : ∀ n : Nat, (∀ (d : Nat) (S : GS), PH 495 S (f_X6_result n d 0 S []))
  | 0 => (fun _ _ => ph_none)
  | n + 1 => by
    have h0 := kh_X6_result n
    · intro _ _
      rw [e_X6_result_0]
      unfold b_X6_result_0
      repeat' (with_reducible first
        | exact ph_none
        | exact ph_some
        | refine ph_gI (by first | decide | omega) (fun _ => ?_)
        | refine ph_gCp (by first | decide | omega) (fun _ => ?_)
        | refine ph_gB (by first | decide | omega) (fun _ => ?_)
        | refine ph_gR (by first | decide | omega) (fun _ => ?_)
        | refine ph_gv (fun _ => ?_)
        | refine ph_gg (fun _ => ?_)
        | refine ph_gc ?_ (fun _ _ => ?_)
        | refine ph_ite (fun _ => ?_) (fun _ => ?_))

theorem kh_X11_isSound : ∀ n : Nat, (∀ (d : Nat) (S : GS) (a1 : Int), PH 495 S (f_X11_isSound n d 0 S [a1])) ∧ (∀ (d : Nat) (S : GS) (a2 : Nat) (a3 : Int) (a4 : Int), PH 495 S (f_X11_isSound n d 29 S [((a2 : Nat) : Int), a3, a4]))
  | 0 => ⟨(fun _ _ _ => ph_none), (fun _ _ _ _ _ => ph_none)⟩
  | n + 1 => by
    obtain ⟨h0, h29⟩ := kh_X11_isSound n
    refine ⟨?_, ?_⟩
    · intro _ _ _
      rw [e_X11_isSound_0]
      unfold b_X11_isSound_0
      repeat' (with_reducible first
        | exact ph_none
        | exact ph_some
        | refine ph_gI (by first | decide | omega) (fun _ => ?_)
        | refine ph_gCp (by first | decide | omega) (fun _ => ?_)
        | refine ph_gB (by first | decide | omega) (fun _ => ?_)
        | refine ph_gR (by first | decide | omega) (fun _ => ?_)
        | refine ph_gv (fun _ => ?_)
        | refine ph_gg (fun _ => ?_)
        | refine ph_gc ?_ (fun _ _ => ?_)
        | refine ph_ite (fun _ => ?_) (fun _ => ?_)
        | exact h29 _ _ _ _ _
        | exact (kh_X10_isDocument _) _ _ _
        | exact (kh_X10_isWithinBounds _).1 _ _ _
        | exact (kh_X11_document _) _ _ _)
    · intro _ _ _ _ _
      rw [e_X11_isSound_29]
      unfold b_X11_isSound_29
      repeat' (with_reducible first
        | exact ph_none
        | exact ph_some
        | refine ph_gI (by first | decide | omega) (fun _ => ?_)
        | refine ph_gCp (by first | decide | omega) (fun _ => ?_)
        | refine ph_gB (by first | decide | omega) (fun _ => ?_)
        | refine ph_gR (by first | decide | omega) (fun _ => ?_)
        | refine ph_gv (fun _ => ?_)
        | refine ph_gg (fun _ => ?_)
        | refine ph_gc ?_ (fun _ _ => ?_)
        | refine ph_ite (fun _ => ?_) (fun _ => ?_)
        | exact h29 _ _ _ _ _
        | exact (kh_X10_same _).1 _ _ _ _ _ _ _
        | exact (kh_X6_parse _) _ _ _ _
        | exact (kh_X6_result _) _ _
        | exact (kh_X8_group _).2.2.2.2.2.2.2.2 _ _ _ _ _ _ _
        | exact (kh_X9_clear _) _ _ _)

theorem kh_X4_alike : ∀ n : Nat, (∀ (d : Nat) (S : GS) (a0 : Nat) (a1 : Int) (a2 : Nat) (a3 : Int), PH 495 S (f_X4_alike n d 0 S [((a0 : Nat) : Int), a1, ((a2 : Nat) : Int), a3])) ∧ (∀ (d : Nat) (S : GS) (a1 : Int) (a3 : Int), PH 495 S (f_X4_alike n d 10 S [a1, a3]))
  | 0 => ⟨(fun _ _ _ _ _ _ => ph_none), (fun _ _ _ _ => ph_none)⟩
  | n + 1 => by
    obtain ⟨h0, h10⟩ := kh_X4_alike n
    refine ⟨?_, ?_⟩
    · intro _ _ _ _ _ _
      rw [e_X4_alike_0]
      unfold b_X4_alike_0
      repeat' (with_reducible first
        | exact ph_none
        | exact ph_some
        | refine ph_gI (by first | decide | omega) (fun _ => ?_)
        | refine ph_gCp (by first | decide | omega) (fun _ => ?_)
        | refine ph_gB (by first | decide | omega) (fun _ => ?_)
        | refine ph_gR (by first | decide | omega) (fun _ => ?_)
        | refine ph_gv (fun _ => ?_)
        | refine ph_gg (fun _ => ?_)
        | refine ph_gc ?_ (fun _ _ => ?_)
        | refine ph_ite (fun _ => ?_) (fun _ => ?_)
        | exact h10 _ _ _ _
        | exact (kh_X10_same _).1 _ _ _ _ _ _ _)
    · intro _ _ _ _
      rw [e_X4_alike_10]
      unfold b_X4_alike_10
      repeat' (with_reducible first
        | exact ph_none
        | exact ph_some
        | refine ph_gI (by first | decide | omega) (fun _ => ?_)
        | refine ph_gCp (by first | decide | omega) (fun _ => ?_)
        | refine ph_gB (by first | decide | omega) (fun _ => ?_)
        | refine ph_gR (by first | decide | omega) (fun _ => ?_)
        | refine ph_gv (fun _ => ?_)
        | refine ph_gg (fun _ => ?_)
        | refine ph_gc ?_ (fun _ _ => ?_)
        | refine ph_ite (fun _ => ?_) (fun _ => ?_))

theorem kh_X4_accept : ∀ n : Nat, (∀ (d : Nat) (S : GS) (a1 : Nat) (a2 : Int), PH 495 S (f_X4_accept n d 0 S [((a1 : Nat) : Int), a2]))
  | 0 => (fun _ _ _ _ => ph_none)
  | n + 1 => by
    have h0 := kh_X4_accept n
    · intro _ _ _ _
      rw [e_X4_accept_0]
      unfold b_X4_accept_0
      repeat' (with_reducible first
        | exact ph_none
        | exact ph_some
        | refine ph_gI (by first | decide | omega) (fun _ => ?_)
        | refine ph_gCp (by first | decide | omega) (fun _ => ?_)
        | refine ph_gB (by first | decide | omega) (fun _ => ?_)
        | refine ph_gR (by first | decide | omega) (fun _ => ?_)
        | refine ph_gv (fun _ => ?_)
        | refine ph_gg (fun _ => ?_)
        | refine ph_gc ?_ (fun _ _ => ?_)
        | refine ph_ite (fun _ => ?_) (fun _ => ?_)
        | exact (kh_X10_append _) _ _ _ _ _)

