/-! CELLS that the class never touches -/
theorem kh_X0_plainly : ∀ n : Nat, (∀ (d : Nat) (S : GS) (a1 : Int) (a2 : Int) (a3 : Int) (a4 : Int), PH 495 S (f_X0_plainly n d 0 S [a1, a2, a3, a4])) ∧ (∀ (d : Nat) (S : GS) (a1 : Int) (a3 : Int) (a4 : Int) (a5 : Int), PH 495 S (f_X0_plainly n d 209 S [a1, a3, a4, a5]))
  | 0 => ⟨(fun _ _ _ _ _ _ => ph_none), (fun _ _ _ _ _ _ => ph_none)⟩
  | n + 1 => by
    obtain ⟨h0, h209⟩ := kh_X0_plainly n
    refine ⟨?_, ?_⟩
    · intro _ _ _ _ _ _
      rw [e_X0_plainly_0]
      unfold b_X0_plainly_0
      repeat' (with_reducible first
        | exact ph_none
        | exact ph_some
        | refine ph_gI (by first | decide | omega) (fun _ => ?_)
        | refine ph_gCp (by first | decide | omega) (fun _ => ?_)
        | refine ph_gB (by first | decide | omega) (fun _ => ?_)
        | refine ph_gR (by first | decide | omega) (fun _ => ?_)
        | refine ph_gv (fun _ => ?_)
        | refine ph_gg (fun _ => ?_)
        | refine ph_gc ?_ (fun _ _ => ?_)
        | refine ph_ite (fun _ => ?_) (fun _ => ?_)
        | exact h209 _ _ _ _ _ _
        | exact (kh_X0_hasAll _).1 _ _ _ _ _
        | exact (kh_X0_isOfKinds _).1 _ _ _ _
        | exact (kh_X0_isOneOf _).1 _ _ _ _
        | exact (kh_X0_orderOfLength _) _ _ _ _
        | exact (kh_X10_is _) _ _ _ _ _
        | exact (kh_X10_length _) _ _ _ _
        | exact (kh_X10_orderOfNumbers _).1 _ _ _ _ _ _)
    · intro _ _ _ _ _ _
      rw [e_X0_plainly_209]
      unfold b_X0_plainly_209
      repeat' (with_reducible first
        | exact ph_none
        | exact ph_some
        | refine ph_gI (by first | decide | omega) (fun _ => ?_)
        | refine ph_gCp (by first | decide | omega) (fun _ => ?_)
        | refine ph_gB (by first | decide | omega) (fun _ => ?_)
        | refine ph_gR (by first | decide | omega) (fun _ => ?_)
        | refine ph_gv (fun _ => ?_)
        | refine ph_gg (fun _ => ?_)
        | refine ph_gc ?_ (fun _ _ => ?_)
        | refine ph_ite (fun _ => ?_) (fun _ => ?_)
        | exact (kh_X0_complain _) _ _ _ _ _)

theorem kh_X0_target : ∀ n : Nat, (∀ (d : Nat) (S : GS) (a1 : Int) (a2 : Int), PH 495 S (f_X0_target n d 0 S [a1, a2])) ∧ (∀ (d : Nat) (S : GS) (a2 : Int) (a3 : Int) (a4 : Int), PH 495 S (f_X0_target n d 52 S [a2, a3, a4])) ∧ (∀ (d : Nat) (S : GS) (a3 : Int), PH 495 S (f_X0_target n d 98 S [a3]))
  | 0 => ⟨(fun _ _ _ _ => ph_none), (fun _ _ _ _ _ => ph_none), (fun _ _ _ => ph_none)⟩
  | n + 1 => by
    obtain ⟨h0, h52, h98⟩ := kh_X0_target n
    refine ⟨?_, ?_, ?_⟩
    · intro _ _ _ _
      rw [e_X0_target_0]
      unfold b_X0_target_0
      repeat' (with_reducible first
        | exact ph_none
        | exact ph_some
        | refine ph_gI (by first | decide | omega) (fun _ => ?_)
        | refine ph_gCp (by first | decide | omega) (fun _ => ?_)
        | refine ph_gB (by first | decide | omega) (fun _ => ?_)
        | refine ph_gR (by first | decide | omega) (fun _ => ?_)
        | refine ph_gv (fun _ => ?_)
        | refine ph_gg (fun _ => ?_)
        | refine ph_gc ?_ (fun _ _ => ?_)
        | refine ph_ite (fun _ => ?_) (fun _ => ?_)
        | exact h52 _ _ _ _ _
        | exact (kh_X10_signsTo _).1 _ _ _ _ _
        | exact (kh_X10_valueNamed _).1 _ _ _ _ _
        | exact (kh_X10_valueOf _).1 _ _ _ _ _
        | exact (kh_X9_clear _) _ _ _)
    · intro _ _ _ _ _
      rw [e_X0_target_52]
      unfold b_X0_target_52
      repeat' (with_reducible first
        | exact ph_none
        | exact ph_some
        | refine ph_gI (by first | decide | omega) (fun _ => ?_)
        | refine ph_gCp (by first | decide | omega) (fun _ => ?_)
        | refine ph_gB (by first | decide | omega) (fun _ => ?_)
        | refine ph_gR (by first | decide | omega) (fun _ => ?_)
        | refine ph_gv (fun _ => ?_)
        | refine ph_gg (fun _ => ?_)
        | refine ph_gc ?_ (fun _ _ => ?_)
        | refine ph_ite (fun _ => ?_) (fun _ => ?_)
        | exact h52 _ _ _ _ _
        | exact h98 _ _ _)
    · intro _ _ _
      rw [e_X0_target_98]
      unfold b_X0_target_98
      repeat' (with_reducible first
        | exact ph_none
        | exact ph_some
        | refine ph_gI (by first | decide | omega) (fun _ => ?_)
        | refine ph_gCp (by first | decide | omega) (fun _ => ?_)
        | refine ph_gB (by first | decide | omega) (fun _ => ?_)
        | refine ph_gR (by first | decide | omega) (fun _ => ?_)
        | refine ph_gv (fun _ => ?_)
        | refine ph_gg (fun _ => ?_)
        | refine ph_gc ?_ (fun _ _ => ?_)
        | refine ph_ite (fun _ => ?_) (fun _ => ?_))

theorem kh_X0_firstQuestion : ∀ n : Nat, (∀ (d : Nat) (S : GS) (a1 : Int) (a2 : Int) (a3 : Int), PH 495 S (f_X0_firstQuestion n d 0 S [a1, a2, a3]))
  | 0 => (fun _ _ _ _ _ => ph_none)
  | n + 1 => by
    have h0 := kh_X0_firstQuestion n
    · intro _ _ _ _ _
      rw [e_X0_firstQuestion_0]
      unfold b_X0_firstQuestion_0
      repeat' (with_reducible first
        | exact ph_none
        | exact ph_some
        | refine ph_gI (by first | decide | omega) (fun _ => ?_)
        | refine ph_gCp (by first | decide | omega) (fun _ => ?_)
        | refine ph_gB (by first | decide | omega) (fun _ => ?_)
        | refine ph_gR (by first | decide | omega) (fun _ => ?_)
        | refine ph_gv (fun _ => ?_)
        | refine ph_gg (fun _ => ?_)
        | refine ph_gc ?_ (fun _ _ => ?_)
        | refine ph_ite (fun _ => ?_) (fun _ => ?_)
        | exact (kh_X0_target _).1 _ _ _ _
        | exact (kh_X10_first _).1 _ _ _ _
        | exact (kh_X10_firstOfMap _).1 _ _ _ _
        | exact (kh_X10_is _) _ _ _ _ _)

theorem kh_X0_schemaOf : ∀ n : Nat, (∀ (d : Nat) (S : GS) (a1 : Int) (a2 : Int) (a3 : Int) (a4 : Int), PH 495 S (f_X0_schemaOf n d 0 S [a1, a2, a3, a4]))
  | 0 => (fun _ _ _ _ _ _ => ph_none)
  | n + 1 => by
    have h0 := kh_X0_schemaOf n
    · intro _ _ _ _ _ _
      rw [e_X0_schemaOf_0]
      unfold b_X0_schemaOf_0
      repeat' (with_reducible first
        | exact ph_none
        | exact ph_some
        | refine ph_gI (by first | decide | omega) (fun _ => ?_)
        | refine ph_gCp (by first | decide | omega) (fun _ => ?_)
        | refine ph_gB (by first | decide | omega) (fun _ => ?_)
        | refine ph_gR (by first | decide | omega) (fun _ => ?_)
        | refine ph_gv (fun _ => ?_)
        | refine ph_gg (fun _ => ?_)
        | refine ph_gc ?_ (fun _ _ => ?_)
        | refine ph_ite (fun _ => ?_) (fun _ => ?_)
        | exact (kh_X10_valueLike _).1 _ _ _ _ _ _
        | exact (kh_X10_valueNamed _).1 _ _ _ _ _)

theorem kh_X0_openRef : ∀ n : Nat, (∀ (d : Nat) (S : GS) (a1 : Int) (a2 : Int) (a3 : Int), PH 495 S (f_X0_openRef n d 0 S [a1, a2, a3]))
  | 0 => (fun _ _ _ _ _ => ph_none)
  | n + 1 => by
    have h0 := kh_X0_openRef n
    · intro _ _ _ _ _
      rw [e_X0_openRef_0]
      unfold b_X0_openRef_0
      repeat' (with_reducible first
        | exact ph_none
        | exact ph_some
        | refine ph_gI (by first | decide | omega) (fun _ => ?_)
        | refine ph_gCp (by first | decide | omega) (fun _ => ?_)
        | refine ph_gB (by first | decide | omega) (fun _ => ?_)
        | refine ph_gR (by first | decide | omega) (fun _ => ?_)
        | refine ph_gv (fun _ => ?_)
        | refine ph_gg (fun _ => ?_)
        | refine ph_gc ?_ (fun _ _ => ?_)
        | refine ph_ite (fun _ => ?_) (fun _ => ?_))

theorem kh_X0_closeRef : ∀ n : Nat, (∀ (d : Nat) (S : GS) (a1 : Int), PH 495 S (f_X0_closeRef n d 0 S [a1]))
  | 0 => (fun _ _ _ => ph_none)
  | n + 1 => by
    have h0 := kh_X0_closeRef n
    · intro _ _ _
      rw [e_X0_closeRef_0]
      unfold b_X0_closeRef_0
      repeat' (with_reducible first
        | exact ph_none
        | exact ph_some
        | refine ph_gI (by first | decide | omega) (fun _ => ?_)
        | refine ph_gCp (by first | decide | omega) (fun _ => ?_)
        | refine ph_gB (by first | decide | omega) (fun _ => ?_)
        | refine ph_gR (by first | decide | omega) (fun _ => ?_)
        | refine ph_gv (fun _ => ?_)
        | refine ph_gg (fun _ => ?_)
        | refine ph_gc ?_ (fun _ _ => ?_)
        | refine ph_ite (fun _ => ?_) (fun _ => ?_))

theorem kh_X0_nextQuestion : ∀ n : Nat, (∀ (d : Nat) (S : GS) (a1 : Int) (a2 : Int) (a3 : Int) (a4 : Int), PH 495 S (f_X0_nextQuestion n d 0 S [a1, a2, a3, a4]))
  | 0 => (fun _ _ _ _ _ _ => ph_none)
  | n + 1 => by
    have h0 := kh_X0_nextQuestion n
    · intro _ _ _ _ _ _
      rw [e_X0_nextQuestion_0]
      unfold b_X0_nextQuestion_0
      repeat' (with_reducible first
        | exact ph_none
        | exact ph_some
        | refine ph_gI (by first | decide | omega) (fun _ => ?_)
        | refine ph_gCp (by first | decide | omega) (fun _ => ?_)
        | refine ph_gB (by first | decide | omega) (fun _ => ?_)
        | refine ph_gR (by first | decide | omega) (fun _ => ?_)
        | refine ph_gv (fun _ => ?_)
        | refine ph_gg (fun _ => ?_)
        | refine ph_gc ?_ (fun _ _ => ?_)
        | refine ph_ite (fun _ => ?_) (fun _ => ?_)
        | exact (kh_X10_next _) _ _ _ _ _)

theorem kh_X0_holds : ∀ n : Nat, (∀ (d : Nat) (S : GS) (a0 : Int) (a1 : Int) (a2 : Int) (a3 : Int), PH 495 S (f_X0_holds n d 0 S [a0, a1, a2, a3]))
  | 0 => (fun _ _ _ _ _ _ => ph_none)
  | n + 1 => by
    have h0 := kh_X0_holds n
    · intro _ _ _ _ _ _
      rw [e_X0_holds_0]
      unfold b_X0_holds_0
      repeat' (with_reducible first
        | exact ph_none
        | exact ph_some
        | refine ph_gI (by first | decide | omega) (fun _ => ?_)
        | refine ph_gCp (by first | decide | omega) (fun _ => ?_)
        | refine ph_gB (by first | decide | omega) (fun _ => ?_)
        | refine ph_gR (by first | decide | omega) (fun _ => ?_)
        | refine ph_gv (fun _ => ?_)
        | refine ph_gg (fun _ => ?_)
        | refine ph_gc ?_ (fun _ _ => ?_)
        | refine ph_ite (fun _ => ?_) (fun _ => ?_))

theorem kh_X0_holdsItself : ∀ n : Nat, (∀ (d : Nat) (S : GS) (a0 : Int) (a1 : Int) (a2 : Int) (a3 : Int), PH 495 S (f_X0_holdsItself n d 0 S [a0, a1, a2, a3]))
  | 0 => (fun _ _ _ _ _ _ => ph_none)
  | n + 1 => by
    have h0 := kh_X0_holdsItself n
    · intro _ _ _ _ _ _
      rw [e_X0_holdsItself_0]
      unfold b_X0_holdsItself_0
      repeat' (with_reducible first
        | exact ph_none
        | exact ph_some
        | refine ph_gI (by first | decide | omega) (fun _ => ?_)
        | refine ph_gCp (by first | decide | omega) (fun _ => ?_)
        | refine ph_gB (by first | decide | omega) (fun _ => ?_)
        | refine ph_gR (by first | decide | omega) (fun _ => ?_)
        | refine ph_gv (fun _ => ?_)
        | refine ph_gg (fun _ => ?_)
        | refine ph_gc ?_ (fun _ _ => ?_)
        | refine ph_ite (fun _ => ?_) (fun _ => ?_)
        | exact (kh_X0_holds _) _ _ _ _ _ _)

theorem kh_X0_ask : ∀ n : Nat, (∀ (d : Nat) (S : GS) (a1 : Int) (a2 : Int) (a3 : Int) (a4 : Int), PH 495 S (f_X0_ask n d 0 S [a1, a2, a3, a4])) ∧ (∀ (d : Nat) (S : GS) (a1 : Int) (a2 : Int) (a3 : Int) (a4 : Int) (s0 : Int), PH 495 S (f_X0_ask n d 42 S [a1, a2, a3, a4, s0])) ∧ (∀ (d : Nat) (S : GS) (a1 : Int) (a2 : Int) (a3 : Int) (a4 : Int) (a5 : Int) (a6 : Int), PH 495 S (f_X0_ask n d 97 S [a1, a2, a3, a4, a5, a6])) ∧ (∀ (d : Nat) (S : GS) (a1 : Int) (a2 : Int) (a3 : Int) (a4 : Int) (a5 : Int) (a6 : Int) (a7 : Int), PH 495 S (f_X0_ask n d 139 S [a1, a2, a3, a4, a5, a6, a7])) ∧ (∀ (d : Nat) (S : GS) (a1 : Int) (a2 : Int) (a3 : Int) (a4 : Int) (a5 : Int) (a6 : Int) (a7 : Int), PH 495 S (f_X0_ask n d 167 S [a1, a2, a3, a4, a5, a6, a7])) ∧ (∀ (d : Nat) (S : GS) (a1 : Int) (a2 : Int) (a3 : Int) (a4 : Int) (a5 : Int) (a6 : Int) (a7 : Int) (a8 : Int) (a9 : Int) (a10 : Int) (a11 : Int), PH 495 S (f_X0_ask n d 193 S [a1, a2, a3, a4, a5, a6, a7, a8, a9, a10, a11])) ∧ (∀ (d : Nat) (S : GS) (a1 : Int) (a2 : Int) (a3 : Int) (a4 : Int) (a5 : Int) (a6 : Int) (a7 : Int) (a8 : Int) (a9 : Int) (a10 : Int) (a11 : Int) (a12 : Int) (s0 : Int), PH 495 S (f_X0_ask n d 248 S [a1, a2, a3, a4, a5, a6, a7, a8, a9, a10, a11, a12, s0])) ∧ (∀ (d : Nat) (S : GS) (a1 : Int) (a2 : Int) (a3 : Int) (a4 : Int) (a5 : Int) (a6 : Int) (a7 : Int) (a8 : Int) (a10 : Int) (a11 : Int) (a13 : Int) (s0 : Int) (s1 : Int) (s3 : Int), PH 495 S (f_X0_ask n d 286 S [a1, a2, a3, a4, a5, a6, a7, a8, a10, a11, a13, s0, s1, s3])) ∧ (∀ (d : Nat) (S : GS) (a1 : Int) (a2 : Int) (a3 : Int) (a4 : Int) (a5 : Int) (a6 : Int) (a7 : Int) (a8 : Int) (a9 : Int) (a10 : Int) (a11 : Int), PH 495 S (f_X0_ask n d 312 S [a1, a2, a3, a4, a5, a6, a7, a8, a9, a10, a11])) ∧ (∀ (d : Nat) (S : GS) (a1 : Int) (a2 : Int) (a3 : Int) (a4 : Int) (a5 : Int) (a6 : Int) (a8 : Int) (a9 : Int) (a10 : Int), PH 495 S (f_X0_ask n d 331 S [a1, a2, a3, a4, a5, a6, a8, a9, a10])) ∧ (∀ (d : Nat) (S : GS) (a1 : Int) (a2 : Int) (a3 : Int) (a4 : Int) (a6 : Int) (a8 : Int) (a9 : Int) (a10 : Int) (s0 : Int), PH 495 S (f_X0_ask n d 355 S [a1, a2, a3, a4, a6, a8, a9, a10, s0]))
  | 0 => ⟨(fun _ _ _ _ _ _ => ph_none), (fun _ _ _ _ _ _ _ => ph_none), (fun _ _ _ _ _ _ _ _ => ph_none), (fun _ _ _ _ _ _ _ _ _ => ph_none), (fun _ _ _ _ _ _ _ _ _ => ph_none), (fun _ _ _ _ _ _ _ _ _ _ _ _ _ => ph_none), (fun _ _ _ _ _ _ _ _ _ _ _ _ _ _ _ => ph_none), (fun _ _ _ _ _ _ _ _ _ _ _ _ _ _ _ _ => ph_none), (fun _ _ _ _ _ _ _ _ _ _ _ _ _ => ph_none), (fun _ _ _ _ _ _ _ _ _ _ _ => ph_none), (fun _ _ _ _ _ _ _ _ _ _ _ => ph_none)⟩
  | n + 1 => by
    obtain ⟨h0, h42, h97, h139, h167, h193, h248, h286, h312, h331, h355⟩ := kh_X0_ask n
    refine ⟨?_, ?_, ?_, ?_, ?_, ?_, ?_, ?_, ?_, ?_, ?_⟩
    · intro _ _ _ _ _ _
      rw [e_X0_ask_0]
      unfold b_X0_ask_0
      repeat' (with_reducible first
        | exact ph_none
        | exact ph_some
        | refine ph_gI (by first | decide | omega) (fun _ => ?_)
        | refine ph_gCp (by first | decide | omega) (fun _ => ?_)
        | refine ph_gB (by first | decide | omega) (fun _ => ?_)
        | refine ph_gR (by first | decide | omega) (fun _ => ?_)
        | refine ph_gv (fun _ => ?_)
        | refine ph_gg (fun _ => ?_)
        | refine ph_gc ?_ (fun _ _ => ?_)
        | refine ph_ite (fun _ => ?_) (fun _ => ?_)
        | exact h42 _ _ _ _ _ _ _)
    · intro _ _ _ _ _ _ _
      rw [e_X0_ask_42]
      unfold b_X0_ask_42
      repeat' (with_reducible first
        | exact ph_none
        | exact ph_some
        | refine ph_gI (by first | decide | omega) (fun _ => ?_)
        | refine ph_gCp (by first | decide | omega) (fun _ => ?_)
        | refine ph_gB (by first | decide | omega) (fun _ => ?_)
        | refine ph_gR (by first | decide | omega) (fun _ => ?_)
        | refine ph_gv (fun _ => ?_)
        | refine ph_gg (fun _ => ?_)
        | refine ph_gc ?_ (fun _ _ => ?_)
        | refine ph_ite (fun _ => ?_) (fun _ => ?_)
        | exact h97 _ _ _ _ _ _ _ _
        | exact (kh_X0_complain _) _ _ _ _ _
        | exact (kh_X10_is _) _ _ _ _ _
        | exact (kh_X10_isTrue _) _ _ _ _)
    · intro _ _ _ _ _ _ _ _
      rw [e_X0_ask_97]
      unfold b_X0_ask_97
      repeat' (with_reducible first
        | exact ph_none
        | exact ph_some
        | refine ph_gI (by first | decide | omega) (fun _ => ?_)
        | refine ph_gCp (by first | decide | omega) (fun _ => ?_)
        | refine ph_gB (by first | decide | omega) (fun _ => ?_)
        | refine ph_gR (by first | decide | omega) (fun _ => ?_)
        | refine ph_gv (fun _ => ?_)
        | refine ph_gg (fun _ => ?_)
        | refine ph_gc ?_ (fun _ _ => ?_)
        | refine ph_ite (fun _ => ?_) (fun _ => ?_)
        | exact h139 _ _ _ _ _ _ _ _ _
        | exact h167 _ _ _ _ _ _ _ _ _
        | exact (kh_X0_wordOf _) _ _ _
        | exact (kh_X10_valueNamed _).1 _ _ _ _ _)
    · intro _ _ _ _ _ _ _ _ _
      rw [e_X0_ask_139]
      unfold b_X0_ask_139
      repeat' (with_reducible first
        | exact ph_none
        | exact ph_some
        | refine ph_gI (by first | decide | omega) (fun _ => ?_)
        | refine ph_gCp (by first | decide | omega) (fun _ => ?_)
        | refine ph_gB (by first | decide | omega) (fun _ => ?_)
        | refine ph_gR (by first | decide | omega) (fun _ => ?_)
        | refine ph_gv (fun _ => ?_)
        | refine ph_gg (fun _ => ?_)
        | refine ph_gc ?_ (fun _ _ => ?_)
        | refine ph_ite (fun _ => ?_) (fun _ => ?_)
        | exact h97 _ _ _ _ _ _ _ _
        | exact (kh_X0_plainly _).1 _ _ _ _ _ _)
    · intro _ _ _ _ _ _ _ _ _
      rw [e_X0_ask_167]
      unfold b_X0_ask_167
      repeat' (with_reducible first
        | exact ph_none
        | exact ph_some
        | refine ph_gI (by first | decide | omega) (fun _ => ?_)
        | refine ph_gCp (by first | decide | omega) (fun _ => ?_)
        | refine ph_gB (by first | decide | omega) (fun _ => ?_)
        | refine ph_gR (by first | decide | omega) (fun _ => ?_)
        | refine ph_gv (fun _ => ?_)
        | refine ph_gg (fun _ => ?_)
        | refine ph_gc ?_ (fun _ _ => ?_)
        | refine ph_ite (fun _ => ?_) (fun _ => ?_)
        | exact h97 _ _ _ _ _ _ _ _
        | exact h193 _ _ _ _ _ _ _ _ _ _ _ _ _
        | exact (kh_X0_firstQuestion _) _ _ _ _ _)
    · intro _ _ _ _ _ _ _ _ _ _ _ _ _
      rw [e_X0_ask_193]
      unfold b_X0_ask_193
      repeat' (with_reducible first
        | exact ph_none
        | exact ph_some
        | refine ph_gI (by first | decide | omega) (fun _ => ?_)
        | refine ph_gCp (by first | decide | omega) (fun _ => ?_)
        | refine ph_gB (by first | decide | omega) (fun _ => ?_)
        | refine ph_gR (by first | decide | omega) (fun _ => ?_)
        | refine ph_gv (fun _ => ?_)
        | refine ph_gg (fun _ => ?_)
        | refine ph_gc ?_ (fun _ _ => ?_)
        | refine ph_ite (fun _ => ?_) (fun _ => ?_)
        | exact h248 _ _ _ _ _ _ _ _ _ _ _ _ _ _ _
        | exact h331 _ _ _ _ _ _ _ _ _ _ _
        | exact (kh_X0_schemaOf _) _ _ _ _ _ _)
    · intro _ _ _ _ _ _ _ _ _ _ _ _ _ _ _
      rw [e_X0_ask_248]
      unfold b_X0_ask_248
      repeat' (with_reducible first
        | exact ph_none
        | exact ph_some
        | refine ph_gI (by first | decide | omega) (fun _ => ?_)
        | refine ph_gCp (by first | decide | omega) (fun _ => ?_)
        | refine ph_gB (by first | decide | omega) (fun _ => ?_)
        | refine ph_gR (by first | decide | omega) (fun _ => ?_)
        | refine ph_gv (fun _ => ?_)
        | refine ph_gg (fun _ => ?_)
        | refine ph_gc ?_ (fun _ _ => ?_)
        | refine ph_ite (fun _ => ?_) (fun _ => ?_)
        | exact h286 _ _ _ _ _ _ _ _ _ _ _ _ _ _ _ _
        | exact h312 _ _ _ _ _ _ _ _ _ _ _ _ _
        | exact (kh_X0_openRef _) _ _ _ _ _)
    · intro _ _ _ _ _ _ _ _ _ _ _ _ _ _ _ _
      rw [e_X0_ask_286]
      unfold b_X0_ask_286
      repeat' (with_reducible first
        | exact ph_none
        | exact ph_some
        | refine ph_gI (by first | decide | omega) (fun _ => ?_)
        | refine ph_gCp (by first | decide | omega) (fun _ => ?_)
        | refine ph_gB (by first | decide | omega) (fun _ => ?_)
        | refine ph_gR (by first | decide | omega) (fun _ => ?_)
        | refine ph_gv (fun _ => ?_)
        | refine ph_gg (fun _ => ?_)
        | refine ph_gc ?_ (fun _ _ => ?_)
        | refine ph_ite (fun _ => ?_) (fun _ => ?_)
        | exact h0 _ _ _ _ _ _
        | exact h312 _ _ _ _ _ _ _ _ _ _ _ _ _
        | exact (kh_X0_closeRef _) _ _ _)
    · intro _ _ _ _ _ _ _ _ _ _ _ _ _
      rw [e_X0_ask_312]
      unfold b_X0_ask_312
      repeat' (with_reducible first
        | exact ph_none
        | exact ph_some
        | refine ph_gI (by first | decide | omega) (fun _ => ?_)
        | refine ph_gCp (by first | decide | omega) (fun _ => ?_)
        | refine ph_gB (by first | decide | omega) (fun _ => ?_)
        | refine ph_gR (by first | decide | omega) (fun _ => ?_)
        | refine ph_gv (fun _ => ?_)
        | refine ph_gg (fun _ => ?_)
        | refine ph_gc ?_ (fun _ _ => ?_)
        | refine ph_ite (fun _ => ?_) (fun _ => ?_)
        | exact h193 _ _ _ _ _ _ _ _ _ _ _ _ _
        | exact (kh_X0_nextQuestion _) _ _ _ _ _ _)
    · intro _ _ _ _ _ _ _ _ _ _ _
      rw [e_X0_ask_331]
      unfold b_X0_ask_331
      repeat' (with_reducible first
        | exact ph_none
        | exact ph_some
        | refine ph_gI (by first | decide | omega) (fun _ => ?_)
        | refine ph_gCp (by first | decide | omega) (fun _ => ?_)
        | refine ph_gB (by first | decide | omega) (fun _ => ?_)
        | refine ph_gR (by first | decide | omega) (fun _ => ?_)
        | refine ph_gv (fun _ => ?_)
        | refine ph_gg (fun _ => ?_)
        | refine ph_gc ?_ (fun _ _ => ?_)
        | refine ph_ite (fun _ => ?_) (fun _ => ?_)
        | exact h355 _ _ _ _ _ _ _ _ _ _ _
        | exact (kh_X0_holds _) _ _ _ _ _ _)
    · intro _ _ _ _ _ _ _ _ _ _ _
      rw [e_X0_ask_355]
      unfold b_X0_ask_355
      repeat' (with_reducible first
        | exact ph_none
        | exact ph_some
        | refine ph_gI (by first | decide | omega) (fun _ => ?_)
        | refine ph_gCp (by first | decide | omega) (fun _ => ?_)
        | refine ph_gB (by first | decide | omega) (fun _ => ?_)
        | refine ph_gR (by first | decide | omega) (fun _ => ?_)
        | refine ph_gv (fun _ => ?_)
        | refine ph_gg (fun _ => ?_)
        | refine ph_gc ?_ (fun _ _ => ?_)
        | refine ph_ite (fun _ => ?_) (fun _ => ?_)
        | exact h97 _ _ _ _ _ _ _ _
        | exact (kh_X0_complain _) _ _ _ _ _
        | exact (kh_X0_holdsItself _) _ _ _ _ _ _)

theorem kh_X0_agrees : ∀ n : Nat, (∀ (d : Nat) (S : GS) (a1 : Nat) (a2 : Nat), PH 495 S (f_X0_agrees n d 0 S [((a1 : Nat) : Int), ((a2 : Nat) : Int)]))
  | 0 => (fun _ _ _ _ => ph_none)
  | n + 1 => by
    have h0 := kh_X0_agrees n
    · intro _ _ _ _
      rw [e_X0_agrees_0]
      unfold b_X0_agrees_0
      repeat' (with_reducible first
        | exact ph_none
        | exact ph_some
        | refine ph_gI (by first | decide | omega) (fun _ => ?_)
        | refine ph_gCp (by first | decide | omega) (fun _ => ?_)
        | refine ph_gB (by first | decide | omega) (fun _ => ?_)
        | refine ph_gR (by first | decide | omega) (fun _ => ?_)
        | refine ph_gv (fun _ => ?_)
        | refine ph_gg (fun _ => ?_)
        | refine ph_gc ?_ (fun _ _ => ?_)
        | refine ph_ite (fun _ => ?_) (fun _ => ?_)
        | exact (kh_X0_ask _).1 _ _ _ _ _ _
        | exact (kh_X0_begin _) _ _ _ _ _)

theorem kh_X0_count : ∀ n : Nat, (∀ (d : Nat) (S : GS), PH 495 S (f_X0_count n d 0 S []))
  | 0 => (fun _ _ => ph_none)
  | n + 1 => by
    have h0 := kh_X0_count n
    · intro _ _
      rw [e_X0_count_0]
      unfold b_X0_count_0
      repeat' (with_reducible first
        | exact ph_none
        | exact ph_some
        | refine ph_gI (by first | decide | omega) (fun _ => ?_)
        | refine ph_gCp (by first | decide | omega) (fun _ => ?_)
        | refine ph_gB (by first | decide | omega) (fun _ => ?_)
        | refine ph_gR (by first | decide | omega) (fun _ => ?_)
        | refine ph_gv (fun _ => ?_)
        | refine ph_gg (fun _ => ?_)
        | refine ph_gc ?_ (fun _ _ => ?_)
        | refine ph_ite (fun _ => ?_) (fun _ => ?_))

theorem kh_X0_examine : ∀ n : Nat, (∀ (d : Nat) (S : GS) (a1 : Nat) (a2 : Nat), PH 495 S (f_X0_examine n d 0 S [((a1 : Nat) : Int), ((a2 : Nat) : Int)])) ∧ (∀ (d : Nat) (S : GS) (a3 : Int), PH 495 S (f_X0_examine n d 20 S [a3])) ∧ (∀ (d : Nat) (S : GS), PH 495 S (f_X0_examine n d 79 S []))
  | 0 => ⟨(fun _ _ _ _ => ph_none), (fun _ _ _ => ph_none), (fun _ _ => ph_none)⟩
  | n + 1 => by
    obtain ⟨h0, h20, h79⟩ := kh_X0_examine n
    refine ⟨?_, ?_, ?_⟩
    · intro _ _ _ _
      rw [e_X0_examine_0]
      unfold b_X0_examine_0
      repeat' (with_reducible first
        | exact ph_none
        | exact ph_some
        | refine ph_gI (by first | decide | omega) (fun _ => ?_)
        | refine ph_gCp (by first | decide | omega) (fun _ => ?_)
        | refine ph_gB (by first | decide | omega) (fun _ => ?_)
        | refine ph_gR (by first | decide | omega) (fun _ => ?_)
        | refine ph_gv (fun _ => ?_)
        | refine ph_gg (fun _ => ?_)
        | refine ph_gc ?_ (fun _ _ => ?_)
        | refine ph_ite (fun _ => ?_) (fun _ => ?_)
        | exact h20 _ _ _
        | exact (kh_X0_ask _).1 _ _ _ _ _ _
        | exact (kh_X0_begin _) _ _ _ _ _)
    · intro _ _ _
      rw [e_X0_examine_20]
      unfold b_X0_examine_20
      repeat' (with_reducible first
        | exact ph_none
        | exact ph_some
        | refine ph_gI (by first | decide | omega) (fun _ => ?_)
        | refine ph_gCp (by first | decide | omega) (fun _ => ?_)
        | refine ph_gB (by first | decide | omega) (fun _ => ?_)
        | refine ph_gR (by first | decide | omega) (fun _ => ?_)
        | refine ph_gv (fun _ => ?_)
        | refine ph_gg (fun _ => ?_)
        | refine ph_gc ?_ (fun _ _ => ?_)
        | refine ph_ite (fun _ => ?_) (fun _ => ?_)
        | exact h20 _ _ _
        | exact h79 _ _)
    · intro _ _
      rw [e_X0_examine_79]
      unfold b_X0_examine_79
      repeat' (with_reducible first
        | exact ph_none
        | exact ph_some
        | refine ph_gI (by first | decide | omega) (fun _ => ?_)
        | refine ph_gCp (by first | decide | omega) (fun _ => ?_)
        | refine ph_gB (by first | decide | omega) (fun _ => ?_)
        | refine ph_gR (by first | decide | omega) (fun _ => ?_)
        | refine ph_gv (fun _ => ?_)
        | refine ph_gg (fun _ => ?_)
        | refine ph_gc ?_ (fun _ _ => ?_)
        | refine ph_ite (fun _ => ?_) (fun _ => ?_))

theorem kh_X0_nodeAt : ∀ n : Nat, (∀ (d : Nat) (S : GS) (a1 : Int), PH 495 S (f_X0_nodeAt n d 0 S [a1]))
  | 0 => (fun _ _ _ => ph_none)
  | n + 1 => by
    have h0 := kh_X0_nodeAt n
    · intro _ _ _
      rw [e_X0_nodeAt_0]
      unfold b_X0_nodeAt_0
      repeat' (with_reducible first
        | exact ph_none
        | exact ph_some
        | refine ph_gI (by first | decide | omega) (fun _ => ?_)
        | refine ph_gCp (by first | decide | omega) (fun _ => ?_)
        | refine ph_gB (by first | decide | omega) (fun _ => ?_)
        | refine ph_gR (by first | decide | omega) (fun _ => ?_)
        | refine ph_gv (fun _ => ?_)
        | refine ph_gg (fun _ => ?_)
        | refine ph_gc ?_ (fun _ _ => ?_)
        | refine ph_ite (fun _ => ?_) (fun _ => ?_))

theorem kh_X0_wordAt : ∀ n : Nat, (∀ (d : Nat) (S : GS) (a1 : Int), PH 495 S (f_X0_wordAt n d 0 S [a1]))
  | 0 => (fun _ _ _ => ph_none)
  | n + 1 => by
    have h0 := kh_X0_wordAt n
    · intro _ _ _
      rw [e_X0_wordAt_0]
      unfold b_X0_wordAt_0
      repeat' (with_reducible first
        | exact ph_none
        | exact ph_some
        | refine ph_gI (by first | decide | omega) (fun _ => ?_)
        | refine ph_gCp (by first | decide | omega) (fun _ => ?_)
        | refine ph_gB (by first | decide | omega) (fun _ => ?_)
        | refine ph_gR (by first | decide | omega) (fun _ => ?_)
        | refine ph_gv (fun _ => ?_)
        | refine ph_gg (fun _ => ?_)
        | refine ph_gc ?_ (fun _ _ => ?_)
        | refine ph_ite (fun _ => ?_) (fun _ => ?_))

theorem kh_X10_after : ∀ n : Nat, (∀ (d : Nat) (S : GS) (a0 : Nat) (a1 : Int), PH 495 S (f_X10_after n d 0 S [((a0 : Nat) : Int), a1]))
  | 0 => (fun _ _ _ _ => ph_none)
  | n + 1 => by
    have h0 := kh_X10_after n
    · intro _ _ _ _
      rw [e_X10_after_0]
      unfold b_X10_after_0
      repeat' (with_reducible first
        | exact ph_none
        | exact ph_some
        | refine ph_gI (by first | decide | omega) (fun _ => ?_)
        | refine ph_gCp (by first | decide | omega) (fun _ => ?_)
        | refine ph_gB (by first | decide | omega) (fun _ => ?_)
        | refine ph_gR (by first | decide | omega) (fun _ => ?_)
        | refine ph_gv (fun _ => ?_)
        | refine ph_gg (fun _ => ?_)
        | refine ph_gc ?_ (fun _ _ => ?_)
        | refine ph_ite (fun _ => ?_) (fun _ => ?_))

theorem kh_X10_depth : ∀ n : Nat, (∀ (d : Nat) (S : GS) (a0 : Nat) (a1 : Int) (a2 : Int), PH 495 S (f_X10_depth n d 0 S [((a0 : Nat) : Int), a1, a2])) ∧ (∀ (d : Nat) (S : GS) (a0 : Nat) (a1 : Int) (a2 : Int) (a3 : Int) (a4 : Int) (a5 : Int), PH 495 S (f_X10_depth n d 20 S [((a0 : Nat) : Int), a1, a2, a3, a4, a5]))
  | 0 => ⟨(fun _ _ _ _ _ => ph_none), (fun _ _ _ _ _ _ _ _ => ph_none)⟩
  | n + 1 => by
    obtain ⟨h0, h20⟩ := kh_X10_depth n
    refine ⟨?_, ?_⟩
    · intro _ _ _ _ _
      rw [e_X10_depth_0]
      unfold b_X10_depth_0
      repeat' (with_reducible first
        | exact ph_none
        | exact ph_some
        | refine ph_gI (by first | decide | omega) (fun _ => ?_)
        | refine ph_gCp (by first | decide | omega) (fun _ => ?_)
        | refine ph_gB (by first | decide | omega) (fun _ => ?_)
        | refine ph_gR (by first | decide | omega) (fun _ => ?_)
        | refine ph_gv (fun _ => ?_)
        | refine ph_gg (fun _ => ?_)
        | refine ph_gc ?_ (fun _ _ => ?_)
        | refine ph_ite (fun _ => ?_) (fun _ => ?_)
        | exact h20 _ _ _ _ _ _ _ _
        | exact (kh_X10_isGroup _) _ _ _ _)
    · intro _ _ _ _ _ _ _ _
      rw [e_X10_depth_20]
      unfold b_X10_depth_20
      repeat' (with_reducible first
        | exact ph_none
        | exact ph_some
        | refine ph_gI (by first | decide | omega) (fun _ => ?_)
        | refine ph_gCp (by first | decide | omega) (fun _ => ?_)
        | refine ph_gB (by first | decide | omega) (fun _ => ?_)
        | refine ph_gR (by first | decide | omega) (fun _ => ?_)
        | refine ph_gv (fun _ => ?_)
        | refine ph_gg (fun _ => ?_)
        | refine ph_gc ?_ (fun _ _ => ?_)
        | refine ph_ite (fun _ => ?_) (fun _ => ?_)
        | exact h0 _ _ _ _ _
        | exact h20 _ _ _ _ _ _ _ _
        | exact (kh_X10_after _) _ _ _ _)

theorem kh_X10_ownerOf : ∀ n : Nat, (∀ (d : Nat) (S : GS) (a0 : Nat) (a1 : Int), PH 495 S (f_X10_ownerOf n d 0 S [((a0 : Nat) : Int), a1])) ∧ (∀ (d : Nat) (S : GS) (a0 : Nat) (a1 : Int) (a2 : Int), PH 495 S (f_X10_ownerOf n d 11 S [((a0 : Nat) : Int), a1, a2]))
  | 0 => ⟨(fun _ _ _ _ => ph_none), (fun _ _ _ _ _ => ph_none)⟩
  | n + 1 => by
    obtain ⟨h0, h11⟩ := kh_X10_ownerOf n
    refine ⟨?_, ?_⟩
    · intro _ _ _ _
      rw [e_X10_ownerOf_0]
      unfold b_X10_ownerOf_0
      repeat' (with_reducible first
        | exact ph_none
        | exact ph_some
        | refine ph_gI (by first | decide | omega) (fun _ => ?_)
        | refine ph_gCp (by first | decide | omega) (fun _ => ?_)
        | refine ph_gB (by first | decide | omega) (fun _ => ?_)
        | refine ph_gR (by first | decide | omega) (fun _ => ?_)
        | refine ph_gv (fun _ => ?_)
        | refine ph_gg (fun _ => ?_)
        | refine ph_gc ?_ (fun _ _ => ?_)
        | refine ph_ite (fun _ => ?_) (fun _ => ?_)
        | exact h11 _ _ _ _ _)
    · intro _ _ _ _ _
      rw [e_X10_ownerOf_11]
      unfold b_X10_ownerOf_11
      repeat' (with_reducible first
        | exact ph_none
        | exact ph_some
        | refine ph_gI (by first | decide | omega) (fun _ => ?_)
        | refine ph_gCp (by first | decide | omega) (fun _ => ?_)
        | refine ph_gB (by first | decide | omega) (fun _ => ?_)
        | refine ph_gR (by first | decide | omega) (fun _ => ?_)
        | refine ph_gv (fun _ => ?_)
        | refine ph_gg (fun _ => ?_)
        | refine ph_gc ?_ (fun _ _ => ?_)
        | refine ph_ite (fun _ => ?_) (fun _ => ?_)
        | exact h11 _ _ _ _ _
        | exact (kh_X10_after _) _ _ _ _)

theorem kh_X10_placeOf : ∀ n : Nat, (∀ (d : Nat) (S : GS) (a0 : Nat) (a1 : Int), PH 495 S (f_X10_placeOf n d 0 S [((a0 : Nat) : Int), a1])) ∧ (∀ (d : Nat) (S : GS) (a0 : Nat) (a1 : Int) (a2 : Int) (a3 : Int) (a4 : Int), PH 495 S (f_X10_placeOf n d 15 S [((a0 : Nat) : Int), a1, a2, a3, a4]))
  | 0 => ⟨(fun _ _ _ _ => ph_none), (fun _ _ _ _ _ _ _ => ph_none)⟩
  | n + 1 => by
    obtain ⟨h0, h15⟩ := kh_X10_placeOf n
    refine ⟨?_, ?_⟩
    · intro _ _ _ _
      rw [e_X10_placeOf_0]
      unfold b_X10_placeOf_0
      repeat' (with_reducible first
        | exact ph_none
        | exact ph_some
        | refine ph_gI (by first | decide | omega) (fun _ => ?_)
        | refine ph_gCp (by first | decide | omega) (fun _ => ?_)
        | refine ph_gB (by first | decide | omega) (fun _ => ?_)
        | refine ph_gR (by first | decide | omega) (fun _ => ?_)
        | refine ph_gv (fun _ => ?_)
        | refine ph_gg (fun _ => ?_)
        | refine ph_gc ?_ (fun _ _ => ?_)
        | refine ph_ite (fun _ => ?_) (fun _ => ?_)
        | exact h15 _ _ _ _ _ _ _
        | exact (kh_X10_first _).1 _ _ _ _
        | exact (kh_X10_ownerOf _).1 _ _ _ _)
    · intro _ _ _ _ _ _ _
      rw [e_X10_placeOf_15]
      unfold b_X10_placeOf_15
      repeat' (with_reducible first
        | exact ph_none
        | exact ph_some
        | refine ph_gI (by first | decide | omega) (fun _ => ?_)
        | refine ph_gCp (by first | decide | omega) (fun _ => ?_)
        | refine ph_gB (by first | decide | omega) (fun _ => ?_)
        | refine ph_gR (by first | decide | omega) (fun _ => ?_)
        | refine ph_gv (fun _ => ?_)
        | refine ph_gg (fun _ => ?_)
        | refine ph_gc ?_ (fun _ _ => ?_)
        | refine ph_ite (fun _ => ?_) (fun _ => ?_)
        | exact h15 _ _ _ _ _ _ _
        | exact (kh_X10_next _) _ _ _ _ _)

theorem kh_X10_about : ∀ n : Nat, (∀ (d : Nat) (S : GS) (a0 : Nat) (a1 : Int) (a2 : Int), PH 495 S (f_X10_about n d 0 S [((a0 : Nat) : Int), a1, a2]))
  | 0 => (fun _ _ _ _ _ => ph_none)
  | n + 1 => by
    have h0 := kh_X10_about n
    · intro _ _ _ _ _
      rw [e_X10_about_0]
      unfold b_X10_about_0
      repeat' (with_reducible first
        | exact ph_none
        | exact ph_some
        | refine ph_gI (by first | decide | omega) (fun _ => ?_)
        | refine ph_gCp (by first | decide | omega) (fun _ => ?_)
        | refine ph_gB (by first | decide | omega) (fun _ => ?_)
        | refine ph_gR (by first | decide | omega) (fun _ => ?_)
        | refine ph_gv (fun _ => ?_)
        | refine ph_gg (fun _ => ?_)
        | refine ph_gc ?_ (fun _ _ => ?_)
        | refine ph_ite (fun _ => ?_) (fun _ => ?_)
        | exact (kh_X10_depth _).1 _ _ _ _ _
        | exact (kh_X10_figures _) _ _ _ _
        | exact (kh_X10_is _) _ _ _ _ _
        | exact (kh_X10_kind _) _ _ _ _
        | exact (kh_X10_length _) _ _ _ _
        | exact (kh_X10_ownerOf _).1 _ _ _ _
        | exact (kh_X10_placeOf _).1 _ _ _ _
        | exact (kh_X10_power _) _ _ _ _
        | exact (kh_X10_signOf _) _ _ _ _
        | exact (kh_X10_size _) _ _ _ _)

theorem kh_X10_addKeySign : ∀ n : Nat, (∀ (d : Nat) (S : GS) (a0 : Nat) (a1 : Int) (a2 : Int), PH 495 S (f_X10_addKeySign n d 0 S [((a0 : Nat) : Int), a1, a2])) ∧ (∀ (d : Nat) (S : GS) (a0 : Nat) (a1 : Int) (a2 : Int) (s0 : Int), PH 495 S (f_X10_addKeySign n d 32 S [((a0 : Nat) : Int), a1, a2, s0]))
  | 0 => ⟨(fun _ _ _ _ _ => ph_none), (fun _ _ _ _ _ _ => ph_none)⟩
  | n + 1 => by
    obtain ⟨h0, h32⟩ := kh_X10_addKeySign n
    refine ⟨?_, ?_⟩
    · intro _ _ _ _ _
      rw [e_X10_addKeySign_0]
      unfold b_X10_addKeySign_0
      repeat' (with_reducible first
        | exact ph_none
        | exact ph_some
        | refine ph_gI (by first | decide | omega) (fun _ => ?_)
        | refine ph_gCp (by first | decide | omega) (fun _ => ?_)
        | refine ph_gB (by first | decide | omega) (fun _ => ?_)
        | refine ph_gR (by first | decide | omega) (fun _ => ?_)
        | refine ph_gv (fun _ => ?_)
        | refine ph_gg (fun _ => ?_)
        | refine ph_gc ?_ (fun _ _ => ?_)
        | refine ph_ite (fun _ => ?_) (fun _ => ?_)
        | exact h32 _ _ _ _ _ _)
    · intro _ _ _ _ _ _
      rw [e_X10_addKeySign_32]
      unfold b_X10_addKeySign_32
      repeat' (with_reducible first
        | exact ph_none
        | exact ph_some
        | refine ph_gI (by first | decide | omega) (fun _ => ?_)
        | refine ph_gCp (by first | decide | omega) (fun _ => ?_)
        | refine ph_gB (by first | decide | omega) (fun _ => ?_)
        | refine ph_gR (by first | decide | omega) (fun _ => ?_)
        | refine ph_gv (fun _ => ?_)
        | refine ph_gg (fun _ => ?_)
        | refine ph_gc ?_ (fun _ _ => ?_)
        | refine ph_ite (fun _ => ?_) (fun _ => ?_))

theorem kh_X10_addTruth : ∀ n : Nat, (∀ (d : Nat) (S : GS) (a0 : Nat) (a1 : Int), PH 495 S (f_X10_addTruth n d 0 S [((a0 : Nat) : Int), a1]))
  | 0 => (fun _ _ _ _ => ph_none)
  | n + 1 => by
    have h0 := kh_X10_addTruth n
    · intro _ _ _ _
      rw [e_X10_addTruth_0]
      unfold b_X10_addTruth_0
      repeat' (with_reducible first
        | exact ph_none
        | exact ph_some
        | refine ph_gI (by first | decide | omega) (fun _ => ?_)
        | refine ph_gCp (by first | decide | omega) (fun _ => ?_)
        | refine ph_gB (by first | decide | omega) (fun _ => ?_)
        | refine ph_gR (by first | decide | omega) (fun _ => ?_)
        | refine ph_gv (fun _ => ?_)
        | refine ph_gg (fun _ => ?_)
        | refine ph_gc ?_ (fun _ _ => ?_)
        | refine ph_ite (fun _ => ?_) (fun _ => ?_)
        | exact (kh_X10_add _) _ _ _ _
        | exact (kh_X10_has _) _ _ _ _)

theorem kh_X10_isOverfull : ∀ n : Nat, (∀ (d : Nat) (S : GS) (a0 : Nat), PH 495 S (f_X10_isOverfull n d 0 S [((a0 : Nat) : Int)]))
  | 0 => (fun _ _ _ => ph_none)
  | n + 1 => by
    have h0 := kh_X10_isOverfull n
    · intro _ _ _
      rw [e_X10_isOverfull_0]
      unfold b_X10_isOverfull_0
      repeat' (with_reducible first
        | exact ph_none
        | exact ph_some
        | refine ph_gI (by first | decide | omega) (fun _ => ?_)
        | refine ph_gCp (by first | decide | omega) (fun _ => ?_)
        | refine ph_gB (by first | decide | omega) (fun _ => ?_)
        | refine ph_gR (by first | decide | omega) (fun _ => ?_)
        | refine ph_gv (fun _ => ?_)
        | refine ph_gg (fun _ => ?_)
        | refine ph_gc ?_ (fun _ _ => ?_)
        | refine ph_ite (fun _ => ?_) (fun _ => ?_))

theorem kh_X10_copyNodes : ∀ n : Nat, (∀ (d : Nat) (S : GS) (a0 : Nat) (a1 : Int) (a2 : Nat) (a3 : Int) (a4 : Int), PH 495 S (f_X10_copyNodes n d 0 S [((a0 : Nat) : Int), a1, ((a2 : Nat) : Int), a3, a4]))
  | 0 => (fun _ _ _ _ _ _ _ => ph_none)
  | n + 1 => by
    have h0 := kh_X10_copyNodes n
    · intro _ _ _ _ _ _ _
      rw [e_X10_copyNodes_0]
      unfold b_X10_copyNodes_0
      repeat' (with_reducible first
        | exact ph_none
        | exact ph_some
        | refine ph_gI (by first | decide | omega) (fun _ => ?_)
        | refine ph_gCp (by first | decide | omega) (fun _ => ?_)
        | refine ph_gB (by first | decide | omega) (fun _ => ?_)
        | refine ph_gR (by first | decide | omega) (fun _ => ?_)
        | refine ph_gv (fun _ => ?_)
        | refine ph_gg (fun _ => ?_)
        | refine ph_gc ?_ (fun _ _ => ?_)
        | refine ph_ite (fun _ => ?_) (fun _ => ?_))

theorem kh_X10_append : ∀ n : Nat, (∀ (d : Nat) (S : GS) (a0 : Nat) (a1 : Nat) (a2 : Int), PH 495 S (f_X10_append n d 0 S [((a0 : Nat) : Int), ((a1 : Nat) : Int), a2]))
  | 0 => (fun _ _ _ _ _ => ph_none)
  | n + 1 => by
    have h0 := kh_X10_append n
    · intro _ _ _ _ _
      rw [e_X10_append_0]
      unfold b_X10_append_0
      repeat' (with_reducible first
        | exact ph_none
        | exact ph_some
        | refine ph_gI (by first | decide | omega) (fun _ => ?_)
        | refine ph_gCp (by first | decide | omega) (fun _ => ?_)
        | refine ph_gB (by first | decide | omega) (fun _ => ?_)
        | refine ph_gR (by first | decide | omega) (fun _ => ?_)
        | refine ph_gv (fun _ => ?_)
        | refine ph_gg (fun _ => ?_)
        | refine ph_gc ?_ (fun _ _ => ?_)
        | refine ph_ite (fun _ => ?_) (fun _ => ?_)
        | exact (kh_X10_copyNodes _) _ _ _ _ _ _ _
        | exact (kh_X10_isOverfull _) _ _ _
        | exact (kh_X10_size _) _ _ _ _)

