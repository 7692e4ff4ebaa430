/-! CELLS that the class never touches -/
theorem kh_X0_kindOf : ∀ n : Nat, (∀ (d : Nat) (S : GS) (a0 : Int), PH 495 S (f_X0_kindOf n d 0 S [a0]))
  | 0 => (fun _ _ _ => ph_none)
  | n + 1 => by
    have h0 := kh_X0_kindOf n
    · intro _ _ _
      rw [e_X0_kindOf_0]
      unfold b_X0_kindOf_0
      repeat' (with_reducible first
        | exact ph_none
        | exact ph_some
        | refine ph_gI (by first | decide | omega) (fun _ => ?_)
        | refine ph_gCp (by first | decide | omega) (fun _ => ?_)
        | refine ph_gB (by first | decide | omega) (fun _ => ?_)
        | refine ph_gR (by first | decide | omega) (fun _ => ?_)
        | refine ph_gv (fun _ => ?_)
        | refine ph_gg (fun _ => ?_)
        | refine ph_gc ?_ (fun _ _ => ?_)
        | refine ph_ite (fun _ => ?_) (fun _ => ?_))

theorem kh_X0_isOfKind : ∀ n : Nat, (∀ (d : Nat) (S : GS) (a1 : Int) (a2 : Int), PH 495 S (f_X0_isOfKind n d 0 S [a1, a2]))
  | 0 => (fun _ _ _ _ => ph_none)
  | n + 1 => by
    have h0 := kh_X0_isOfKind n
    · intro _ _ _ _
      rw [e_X0_isOfKind_0]
      unfold b_X0_isOfKind_0
      repeat' (with_reducible first
        | exact ph_none
        | exact ph_some
        | refine ph_gI (by first | decide | omega) (fun _ => ?_)
        | refine ph_gCp (by first | decide | omega) (fun _ => ?_)
        | refine ph_gB (by first | decide | omega) (fun _ => ?_)
        | refine ph_gR (by first | decide | omega) (fun _ => ?_)
        | refine ph_gv (fun _ => ?_)
        | refine ph_gg (fun _ => ?_)
        | refine ph_gc ?_ (fun _ _ => ?_)
        | refine ph_ite (fun _ => ?_) (fun _ => ?_)
        | exact (kh_X0_kindOf _) _ _ _
        | exact (kh_X10_is _) _ _ _ _ _
        | exact (kh_X10_kind _) _ _ _ _
        | exact (kh_X10_power _) _ _ _ _
        | exact (kh_X10_says _).1 _ _ _ _ _)

theorem kh_X0_isOfKinds : ∀ n : Nat, (∀ (d : Nat) (S : GS) (a1 : Int) (a2 : Int), PH 495 S (f_X0_isOfKinds n d 0 S [a1, a2])) ∧ (∀ (d : Nat) (S : GS) (a1 : Int) (a2 : Int) (a3 : Int) (a4 : Int) (a5 : Int), PH 495 S (f_X0_isOfKinds n d 20 S [a1, a2, a3, a4, a5])) ∧ (∀ (d : Nat) (S : GS) (a1 : Int) (a2 : Int) (a4 : Int) (a5 : Int) (s0 : Int), PH 495 S (f_X0_isOfKinds n d 52 S [a1, a2, a4, a5, s0]))
  | 0 => ⟨(fun _ _ _ _ => ph_none), (fun _ _ _ _ _ _ _ => ph_none), (fun _ _ _ _ _ _ _ => ph_none)⟩
  | n + 1 => by
    obtain ⟨h0, h20, h52⟩ := kh_X0_isOfKinds n
    refine ⟨?_, ?_, ?_⟩
    · intro _ _ _ _
      rw [e_X0_isOfKinds_0]
      unfold b_X0_isOfKinds_0
      repeat' (with_reducible first
        | exact ph_none
        | exact ph_some
        | refine ph_gI (by first | decide | omega) (fun _ => ?_)
        | refine ph_gCp (by first | decide | omega) (fun _ => ?_)
        | refine ph_gB (by first | decide | omega) (fun _ => ?_)
        | refine ph_gR (by first | decide | omega) (fun _ => ?_)
        | refine ph_gv (fun _ => ?_)
        | refine ph_gg (fun _ => ?_)
        | refine ph_gc ?_ (fun _ _ => ?_)
        | refine ph_ite (fun _ => ?_) (fun _ => ?_)
        | exact h20 _ _ _ _ _ _ _
        | exact (kh_X0_isOfKind _) _ _ _ _
        | exact (kh_X10_first _).1 _ _ _ _)
    · intro _ _ _ _ _ _ _
      rw [e_X0_isOfKinds_20]
      unfold b_X0_isOfKinds_20
      repeat' (with_reducible first
        | exact ph_none
        | exact ph_some
        | refine ph_gI (by first | decide | omega) (fun _ => ?_)
        | refine ph_gCp (by first | decide | omega) (fun _ => ?_)
        | refine ph_gB (by first | decide | omega) (fun _ => ?_)
        | refine ph_gR (by first | decide | omega) (fun _ => ?_)
        | refine ph_gv (fun _ => ?_)
        | refine ph_gg (fun _ => ?_)
        | refine ph_gc ?_ (fun _ _ => ?_)
        | refine ph_ite (fun _ => ?_) (fun _ => ?_)
        | exact h52 _ _ _ _ _ _ _
        | exact (kh_X0_isOfKind _) _ _ _ _)
    · intro _ _ _ _ _ _ _
      rw [e_X0_isOfKinds_52]
      unfold b_X0_isOfKinds_52
      repeat' (with_reducible first
        | exact ph_none
        | exact ph_some
        | refine ph_gI (by first | decide | omega) (fun _ => ?_)
        | refine ph_gCp (by first | decide | omega) (fun _ => ?_)
        | refine ph_gB (by first | decide | omega) (fun _ => ?_)
        | refine ph_gR (by first | decide | omega) (fun _ => ?_)
        | refine ph_gv (fun _ => ?_)
        | refine ph_gg (fun _ => ?_)
        | refine ph_gc ?_ (fun _ _ => ?_)
        | refine ph_ite (fun _ => ?_) (fun _ => ?_)
        | exact h20 _ _ _ _ _ _ _
        | exact (kh_X10_next _) _ _ _ _ _)

theorem kh_X10_signOf : ∀ n : Nat, (∀ (d : Nat) (S : GS) (a0 : Nat) (a1 : Int), PH 495 S (f_X10_signOf n d 0 S [((a0 : Nat) : Int), a1]))
  | 0 => (fun _ _ _ _ => ph_none)
  | n + 1 => by
    have h0 := kh_X10_signOf n
    · intro _ _ _ _
      rw [e_X10_signOf_0]
      unfold b_X10_signOf_0
      repeat' (with_reducible first
        | exact ph_none
        | exact ph_some
        | refine ph_gI (by first | decide | omega) (fun _ => ?_)
        | refine ph_gCp (by first | decide | omega) (fun _ => ?_)
        | refine ph_gB (by first | decide | omega) (fun _ => ?_)
        | refine ph_gR (by first | decide | omega) (fun _ => ?_)
        | refine ph_gv (fun _ => ?_)
        | refine ph_gg (fun _ => ?_)
        | refine ph_gc ?_ (fun _ _ => ?_)
        | refine ph_ite (fun _ => ?_) (fun _ => ?_)
        | exact (kh_X10_signAt _).1 _ _ _ _ _)

theorem kh_X10_order : ∀ n : Nat, (∀ (d : Nat) (S : GS) (a0 : Int) (a1 : Int), PH 495 S (f_X10_order n d 0 S [a0, a1]))
  | 0 => (fun _ _ _ _ => ph_none)
  | n + 1 => by
    have h0 := kh_X10_order n
    · intro _ _ _ _
      rw [e_X10_order_0]
      unfold b_X10_order_0
      repeat' (with_reducible first
        | exact ph_none
        | exact ph_some
        | refine ph_gI (by first | decide | omega) (fun _ => ?_)
        | refine ph_gCp (by first | decide | omega) (fun _ => ?_)
        | refine ph_gB (by first | decide | omega) (fun _ => ?_)
        | refine ph_gR (by first | decide | omega) (fun _ => ?_)
        | refine ph_gv (fun _ => ?_)
        | refine ph_gg (fun _ => ?_)
        | refine ph_gc ?_ (fun _ _ => ?_)
        | refine ph_ite (fun _ => ?_) (fun _ => ?_))

theorem kh_X10_figures : ∀ n : Nat, (∀ (d : Nat) (S : GS) (a0 : Nat) (a1 : Int), PH 495 S (f_X10_figures n d 0 S [((a0 : Nat) : Int), a1]))
  | 0 => (fun _ _ _ _ => ph_none)
  | n + 1 => by
    have h0 := kh_X10_figures n
    · intro _ _ _ _
      rw [e_X10_figures_0]
      unfold b_X10_figures_0
      repeat' (with_reducible first
        | exact ph_none
        | exact ph_some
        | refine ph_gI (by first | decide | omega) (fun _ => ?_)
        | refine ph_gCp (by first | decide | omega) (fun _ => ?_)
        | refine ph_gB (by first | decide | omega) (fun _ => ?_)
        | refine ph_gR (by first | decide | omega) (fun _ => ?_)
        | refine ph_gv (fun _ => ?_)
        | refine ph_gg (fun _ => ?_)
        | refine ph_gc ?_ (fun _ _ => ?_)
        | refine ph_ite (fun _ => ?_) (fun _ => ?_)
        | exact (kh_X10_is _) _ _ _ _ _
        | exact (kh_X10_signAt _).1 _ _ _ _ _)

theorem kh_X10_digit : ∀ n : Nat, (∀ (d : Nat) (S : GS) (a0 : Nat) (a1 : Int) (a2 : Int), PH 495 S (f_X10_digit n d 0 S [((a0 : Nat) : Int), a1, a2])) ∧ (∀ (d : Nat) (S : GS) (a0 : Nat) (a1 : Int) (s0 : Int) (s1 : Int), PH 495 S (f_X10_digit n d 17 S [((a0 : Nat) : Int), a1, s0, s1]))
  | 0 => ⟨(fun _ _ _ _ _ => ph_none), (fun _ _ _ _ _ _ => ph_none)⟩
  | n + 1 => by
    obtain ⟨h0, h17⟩ := kh_X10_digit n
    refine ⟨?_, ?_⟩
    · intro _ _ _ _ _
      rw [e_X10_digit_0]
      unfold b_X10_digit_0
      repeat' (with_reducible first
        | exact ph_none
        | exact ph_some
        | refine ph_gI (by first | decide | omega) (fun _ => ?_)
        | refine ph_gCp (by first | decide | omega) (fun _ => ?_)
        | refine ph_gB (by first | decide | omega) (fun _ => ?_)
        | refine ph_gR (by first | decide | omega) (fun _ => ?_)
        | refine ph_gv (fun _ => ?_)
        | refine ph_gg (fun _ => ?_)
        | refine ph_gc ?_ (fun _ _ => ?_)
        | refine ph_ite (fun _ => ?_) (fun _ => ?_)
        | exact h17 _ _ _ _ _ _
        | exact (kh_X10_signAt _).1 _ _ _ _ _)
    · intro _ _ _ _ _ _
      rw [e_X10_digit_17]
      unfold b_X10_digit_17
      repeat' (with_reducible first
        | exact ph_none
        | exact ph_some
        | refine ph_gI (by first | decide | omega) (fun _ => ?_)
        | refine ph_gCp (by first | decide | omega) (fun _ => ?_)
        | refine ph_gB (by first | decide | omega) (fun _ => ?_)
        | refine ph_gR (by first | decide | omega) (fun _ => ?_)
        | refine ph_gv (fun _ => ?_)
        | refine ph_gg (fun _ => ?_)
        | refine ph_gc ?_ (fun _ _ => ?_)
        | refine ph_ite (fun _ => ?_) (fun _ => ?_)
        | exact (kh_X10_lengthOf _) _ _ _ _
        | exact (kh_X10_signAt _).1 _ _ _ _ _)

theorem kh_X10_orderOfNumbers : ∀ n : Nat, (∀ (d : Nat) (S : GS) (a0 : Nat) (a1 : Int) (a2 : Nat) (a3 : Int), PH 495 S (f_X10_orderOfNumbers n d 0 S [((a0 : Nat) : Int), a1, ((a2 : Nat) : Int), a3])) ∧ (∀ (d : Nat) (S : GS) (a0 : Nat) (a1 : Int) (a2 : Nat) (a3 : Int) (a4 : Int) (a5 : Int) (a6 : Int), PH 495 S (f_X10_orderOfNumbers n d 63 S [((a0 : Nat) : Int), a1, ((a2 : Nat) : Int), a3, a4, a5, a6]))
  | 0 => ⟨(fun _ _ _ _ _ _ => ph_none), (fun _ _ _ _ _ _ _ _ _ => ph_none)⟩
  | n + 1 => by
    obtain ⟨h0, h63⟩ := kh_X10_orderOfNumbers n
    refine ⟨?_, ?_⟩
    · intro _ _ _ _ _ _
      rw [e_X10_orderOfNumbers_0]
      unfold b_X10_orderOfNumbers_0
      repeat' (with_reducible first
        | exact ph_none
        | exact ph_some
        | refine ph_gI (by first | decide | omega) (fun _ => ?_)
        | refine ph_gCp (by first | decide | omega) (fun _ => ?_)
        | refine ph_gB (by first | decide | omega) (fun _ => ?_)
        | refine ph_gR (by first | decide | omega) (fun _ => ?_)
        | refine ph_gv (fun _ => ?_)
        | refine ph_gg (fun _ => ?_)
        | refine ph_gc ?_ (fun _ _ => ?_)
        | refine ph_ite (fun _ => ?_) (fun _ => ?_)
        | exact h63 _ _ _ _ _ _ _ _ _
        | exact (kh_X10_figures _) _ _ _ _
        | exact (kh_X10_order _) _ _ _ _
        | exact (kh_X10_power _) _ _ _ _
        | exact (kh_X10_signOf _) _ _ _ _)
    · intro _ _ _ _ _ _ _ _ _
      rw [e_X10_orderOfNumbers_63]
      unfold b_X10_orderOfNumbers_63
      repeat' (with_reducible first
        | exact ph_none
        | exact ph_some
        | refine ph_gI (by first | decide | omega) (fun _ => ?_)
        | refine ph_gCp (by first | decide | omega) (fun _ => ?_)
        | refine ph_gB (by first | decide | omega) (fun _ => ?_)
        | refine ph_gR (by first | decide | omega) (fun _ => ?_)
        | refine ph_gv (fun _ => ?_)
        | refine ph_gg (fun _ => ?_)
        | refine ph_gc ?_ (fun _ _ => ?_)
        | refine ph_ite (fun _ => ?_) (fun _ => ?_)
        | exact h63 _ _ _ _ _ _ _ _ _
        | exact (kh_X10_digit _).1 _ _ _ _ _
        | exact (kh_X10_order _) _ _ _ _)

theorem kh_X10_isGroup : ∀ n : Nat, (∀ (d : Nat) (S : GS) (a0 : Nat) (a1 : Int), PH 495 S (f_X10_isGroup n d 0 S [((a0 : Nat) : Int), a1]))
  | 0 => (fun _ _ _ _ => ph_none)
  | n + 1 => by
    have h0 := kh_X10_isGroup n
    · intro _ _ _ _
      rw [e_X10_isGroup_0]
      unfold b_X10_isGroup_0
      repeat' (with_reducible first
        | exact ph_none
        | exact ph_some
        | refine ph_gI (by first | decide | omega) (fun _ => ?_)
        | refine ph_gCp (by first | decide | omega) (fun _ => ?_)
        | refine ph_gB (by first | decide | omega) (fun _ => ?_)
        | refine ph_gR (by first | decide | omega) (fun _ => ?_)
        | refine ph_gv (fun _ => ?_)
        | refine ph_gg (fun _ => ?_)
        | refine ph_gc ?_ (fun _ _ => ?_)
        | refine ph_ite (fun _ => ?_) (fun _ => ?_))

theorem kh_X10_values : ∀ n : Nat, (∀ (d : Nat) (S : GS) (a0 : Nat) (a1 : Int), PH 495 S (f_X10_values n d 0 S [((a0 : Nat) : Int), a1])) ∧ (∀ (d : Nat) (S : GS) (a0 : Nat) (a1 : Int) (a2 : Int) (a3 : Int), PH 495 S (f_X10_values n d 8 S [((a0 : Nat) : Int), a1, a2, a3]))
  | 0 => ⟨(fun _ _ _ _ => ph_none), (fun _ _ _ _ _ _ => ph_none)⟩
  | n + 1 => by
    obtain ⟨h0, h8⟩ := kh_X10_values n
    refine ⟨?_, ?_⟩
    · intro _ _ _ _
      rw [e_X10_values_0]
      unfold b_X10_values_0
      repeat' (with_reducible first
        | exact ph_none
        | exact ph_some
        | refine ph_gI (by first | decide | omega) (fun _ => ?_)
        | refine ph_gCp (by first | decide | omega) (fun _ => ?_)
        | refine ph_gB (by first | decide | omega) (fun _ => ?_)
        | refine ph_gR (by first | decide | omega) (fun _ => ?_)
        | refine ph_gv (fun _ => ?_)
        | refine ph_gg (fun _ => ?_)
        | refine ph_gc ?_ (fun _ _ => ?_)
        | refine ph_ite (fun _ => ?_) (fun _ => ?_)
        | exact h8 _ _ _ _ _ _
        | exact (kh_X10_first _).1 _ _ _ _)
    · intro _ _ _ _ _ _
      rw [e_X10_values_8]
      unfold b_X10_values_8
      repeat' (with_reducible first
        | exact ph_none
        | exact ph_some
        | refine ph_gI (by first | decide | omega) (fun _ => ?_)
        | refine ph_gCp (by first | decide | omega) (fun _ => ?_)
        | refine ph_gB (by first | decide | omega) (fun _ => ?_)
        | refine ph_gR (by first | decide | omega) (fun _ => ?_)
        | refine ph_gv (fun _ => ?_)
        | refine ph_gg (fun _ => ?_)
        | refine ph_gc ?_ (fun _ _ => ?_)
        | refine ph_ite (fun _ => ?_) (fun _ => ?_)
        | exact h8 _ _ _ _ _ _
        | exact (kh_X10_next _) _ _ _ _ _)

theorem kh_X10_length : ∀ n : Nat, (∀ (d : Nat) (S : GS) (a0 : Nat) (a1 : Int), PH 495 S (f_X10_length n d 0 S [((a0 : Nat) : Int), a1]))
  | 0 => (fun _ _ _ _ => ph_none)
  | n + 1 => by
    have h0 := kh_X10_length n
    · intro _ _ _ _
      rw [e_X10_length_0]
      unfold b_X10_length_0
      repeat' (with_reducible first
        | exact ph_none
        | exact ph_some
        | refine ph_gI (by first | decide | omega) (fun _ => ?_)
        | refine ph_gCp (by first | decide | omega) (fun _ => ?_)
        | refine ph_gB (by first | decide | omega) (fun _ => ?_)
        | refine ph_gR (by first | decide | omega) (fun _ => ?_)
        | refine ph_gv (fun _ => ?_)
        | refine ph_gg (fun _ => ?_)
        | refine ph_gc ?_ (fun _ _ => ?_)
        | refine ph_ite (fun _ => ?_) (fun _ => ?_)
        | exact (kh_X10_is _) _ _ _ _ _
        | exact (kh_X10_isGroup _) _ _ _ _
        | exact (kh_X10_values _).1 _ _ _ _)

theorem kh_X9_addNumber : ∀ n : Nat, (∀ (d : Nat) (S : GS) (a0 : Nat) (a1 : Int), PH 495 S (f_X9_addNumber n d 0 S [((a0 : Nat) : Int), a1])) ∧ (∀ (d : Nat) (S : GS) (a0 : Nat) (a2 : Int), PH 495 S (f_X9_addNumber n d 15 S [((a0 : Nat) : Int), a2])) ∧ (∀ (d : Nat) (S : GS) (a0 : Nat) (a2 : Int), PH 495 S (f_X9_addNumber n d 35 S [((a0 : Nat) : Int), a2])) ∧ (∀ (d : Nat) (S : GS) (a0 : Nat) (a2 : Int), PH 495 S (f_X9_addNumber n d 55 S [((a0 : Nat) : Int), a2]))
  | 0 => ⟨(fun _ _ _ _ => ph_none), (fun _ _ _ _ => ph_none), (fun _ _ _ _ => ph_none), (fun _ _ _ _ => ph_none)⟩
  | n + 1 => by
    obtain ⟨h0, h15, h35, h55⟩ := kh_X9_addNumber n
    refine ⟨?_, ?_, ?_, ?_⟩
    · intro _ _ _ _
      rw [e_X9_addNumber_0]
      unfold b_X9_addNumber_0
      repeat' (with_reducible first
        | exact ph_none
        | exact ph_some
        | refine ph_gI (by first | decide | omega) (fun _ => ?_)
        | refine ph_gCp (by first | decide | omega) (fun _ => ?_)
        | refine ph_gB (by first | decide | omega) (fun _ => ?_)
        | refine ph_gR (by first | decide | omega) (fun _ => ?_)
        | refine ph_gv (fun _ => ?_)
        | refine ph_gg (fun _ => ?_)
        | refine ph_gc ?_ (fun _ _ => ?_)
        | refine ph_ite (fun _ => ?_) (fun _ => ?_)
        | exact h15 _ _ _ _
        | exact (kh_X9_add _) _ _ _ _)
    · intro _ _ _ _
      rw [e_X9_addNumber_15]
      unfold b_X9_addNumber_15
      repeat' (with_reducible first
        | exact ph_none
        | exact ph_some
        | refine ph_gI (by first | decide | omega) (fun _ => ?_)
        | refine ph_gCp (by first | decide | omega) (fun _ => ?_)
        | refine ph_gB (by first | decide | omega) (fun _ => ?_)
        | refine ph_gR (by first | decide | omega) (fun _ => ?_)
        | refine ph_gv (fun _ => ?_)
        | refine ph_gg (fun _ => ?_)
        | refine ph_gc ?_ (fun _ _ => ?_)
        | refine ph_ite (fun _ => ?_) (fun _ => ?_)
        | exact h35 _ _ _ _
        | exact (kh_X9_add _) _ _ _ _)
    · intro _ _ _ _
      rw [e_X9_addNumber_35]
      unfold b_X9_addNumber_35
      repeat' (with_reducible first
        | exact ph_none
        | exact ph_some
        | refine ph_gI (by first | decide | omega) (fun _ => ?_)
        | refine ph_gCp (by first | decide | omega) (fun _ => ?_)
        | refine ph_gB (by first | decide | omega) (fun _ => ?_)
        | refine ph_gR (by first | decide | omega) (fun _ => ?_)
        | refine ph_gv (fun _ => ?_)
        | refine ph_gg (fun _ => ?_)
        | refine ph_gc ?_ (fun _ _ => ?_)
        | refine ph_ite (fun _ => ?_) (fun _ => ?_)
        | exact h55 _ _ _ _
        | exact (kh_X9_add _) _ _ _ _)
    · intro _ _ _ _
      rw [e_X9_addNumber_55]
      unfold b_X9_addNumber_55
      repeat' (with_reducible first
        | exact ph_none
        | exact ph_some
        | refine ph_gI (by first | decide | omega) (fun _ => ?_)
        | refine ph_gCp (by first | decide | omega) (fun _ => ?_)
        | refine ph_gB (by first | decide | omega) (fun _ => ?_)
        | refine ph_gR (by first | decide | omega) (fun _ => ?_)
        | refine ph_gv (fun _ => ?_)
        | refine ph_gg (fun _ => ?_)
        | refine ph_gc ?_ (fun _ _ => ?_)
        | refine ph_ite (fun _ => ?_) (fun _ => ?_)
        | exact (kh_X9_add _) _ _ _ _)

theorem kh_X10_clear : ∀ n : Nat, (∀ (d : Nat) (S : GS) (a0 : Nat), PH 495 S (f_X10_clear n d 0 S [((a0 : Nat) : Int)]))
  | 0 => (fun _ _ _ => ph_none)
  | n + 1 => by
    have h0 := kh_X10_clear n
    · intro _ _ _
      rw [e_X10_clear_0]
      unfold b_X10_clear_0
      repeat' (with_reducible first
        | exact ph_none
        | exact ph_some
        | refine ph_gI (by first | decide | omega) (fun _ => ?_)
        | refine ph_gCp (by first | decide | omega) (fun _ => ?_)
        | refine ph_gB (by first | decide | omega) (fun _ => ?_)
        | refine ph_gR (by first | decide | omega) (fun _ => ?_)
        | refine ph_gv (fun _ => ?_)
        | refine ph_gg (fun _ => ?_)
        | refine ph_gc ?_ (fun _ _ => ?_)
        | refine ph_ite (fun _ => ?_) (fun _ => ?_))

theorem kh_X10_add : ∀ n : Nat, (∀ (d : Nat) (S : GS) (a0 : Nat) (a1 : Int), PH 495 S (f_X10_add n d 0 S [((a0 : Nat) : Int), a1]))
  | 0 => (fun _ _ _ _ => ph_none)
  | n + 1 => by
    have h0 := kh_X10_add n
    · intro _ _ _ _
      rw [e_X10_add_0]
      unfold b_X10_add_0
      repeat' (with_reducible first
        | exact ph_none
        | exact ph_some
        | refine ph_gI (by first | decide | omega) (fun _ => ?_)
        | refine ph_gCp (by first | decide | omega) (fun _ => ?_)
        | refine ph_gB (by first | decide | omega) (fun _ => ?_)
        | refine ph_gR (by first | decide | omega) (fun _ => ?_)
        | refine ph_gv (fun _ => ?_)
        | refine ph_gg (fun _ => ?_)
        | refine ph_gc ?_ (fun _ _ => ?_)
        | refine ph_ite (fun _ => ?_) (fun _ => ?_))

theorem kh_X10_has : ∀ n : Nat, (∀ (d : Nat) (S : GS) (a0 : Nat) (a1 : Int), PH 495 S (f_X10_has n d 0 S [((a0 : Nat) : Int), a1]))
  | 0 => (fun _ _ _ _ => ph_none)
  | n + 1 => by
    have h0 := kh_X10_has n
    · intro _ _ _ _
      rw [e_X10_has_0]
      unfold b_X10_has_0
      repeat' (with_reducible first
        | exact ph_none
        | exact ph_some
        | refine ph_gI (by first | decide | omega) (fun _ => ?_)
        | refine ph_gCp (by first | decide | omega) (fun _ => ?_)
        | refine ph_gB (by first | decide | omega) (fun _ => ?_)
        | refine ph_gR (by first | decide | omega) (fun _ => ?_)
        | refine ph_gv (fun _ => ?_)
        | refine ph_gg (fun _ => ?_)
        | refine ph_gc ?_ (fun _ _ => ?_)
        | refine ph_ite (fun _ => ?_) (fun _ => ?_))

theorem kh_X10_addSign : ∀ n : Nat, (∀ (d : Nat) (S : GS) (a0 : Nat) (a1 : Int) (a2 : Int), PH 495 S (f_X10_addSign n d 0 S [((a0 : Nat) : Int), a1, a2])) ∧ (∀ (d : Nat) (S : GS) (a0 : Nat) (a1 : Int) (a2 : Int) (s0 : Int), PH 495 S (f_X10_addSign n d 32 S [((a0 : Nat) : Int), a1, a2, s0]))
  | 0 => ⟨(fun _ _ _ _ _ => ph_none), (fun _ _ _ _ _ _ => ph_none)⟩
  | n + 1 => by
    obtain ⟨h0, h32⟩ := kh_X10_addSign n
    refine ⟨?_, ?_⟩
    · intro _ _ _ _ _
      rw [e_X10_addSign_0]
      unfold b_X10_addSign_0
      repeat' (with_reducible first
        | exact ph_none
        | exact ph_some
        | refine ph_gI (by first | decide | omega) (fun _ => ?_)
        | refine ph_gCp (by first | decide | omega) (fun _ => ?_)
        | refine ph_gB (by first | decide | omega) (fun _ => ?_)
        | refine ph_gR (by first | decide | omega) (fun _ => ?_)
        | refine ph_gv (fun _ => ?_)
        | refine ph_gg (fun _ => ?_)
        | refine ph_gc ?_ (fun _ _ => ?_)
        | refine ph_ite (fun _ => ?_) (fun _ => ?_)
        | exact h32 _ _ _ _ _ _)
    · intro _ _ _ _ _ _
      rw [e_X10_addSign_32]
      unfold b_X10_addSign_32
      repeat' (with_reducible first
        | exact ph_none
        | exact ph_some
        | refine ph_gI (by first | decide | omega) (fun _ => ?_)
        | refine ph_gCp (by first | decide | omega) (fun _ => ?_)
        | refine ph_gB (by first | decide | omega) (fun _ => ?_)
        | refine ph_gR (by first | decide | omega) (fun _ => ?_)
        | refine ph_gv (fun _ => ?_)
        | refine ph_gg (fun _ => ?_)
        | refine ph_gc ?_ (fun _ _ => ?_)
        | refine ph_ite (fun _ => ?_) (fun _ => ?_))

theorem kh_X10_setNumber : ∀ n : Nat, (∀ (d : Nat) (S : GS) (a0 : Nat) (a1 : Int) (a2 : Int) (a3 : Nat) (a4 : Int), PH 495 S (f_X10_setNumber n d 0 S [((a0 : Nat) : Int), a1, a2, ((a3 : Nat) : Int), a4])) ∧ (∀ (d : Nat) (S : GS) (a0 : Nat) (a1 : Int) (a2 : Int) (a3 : Nat) (a4 : Int) (a5 : Int) (a6 : Int), PH 495 S (f_X10_setNumber n d 19 S [((a0 : Nat) : Int), a1, a2, ((a3 : Nat) : Int), a4, a5, a6])) ∧ (∀ (d : Nat) (S : GS) (a0 : Nat) (a1 : Int) (a2 : Int) (a3 : Nat) (a4 : Int) (a5 : Int) (a6 : Int), PH 495 S (f_X10_setNumber n d 43 S [((a0 : Nat) : Int), a1, a2, ((a3 : Nat) : Int), a4, a5, a6])) ∧ (∀ (d : Nat) (S : GS) (a0 : Nat) (a1 : Int) (a2 : Int) (a3 : Nat) (a4 : Int) (a5 : Int) (a6 : Int), PH 495 S (f_X10_setNumber n d 69 S [((a0 : Nat) : Int), a1, a2, ((a3 : Nat) : Int), a4, a5, a6])) ∧ (∀ (d : Nat) (S : GS) (a0 : Nat) (a1 : Int) (a3 : Nat) (a4 : Int) (a6 : Int) (a7 : Int), PH 495 S (f_X10_setNumber n d 114 S [((a0 : Nat) : Int), a1, ((a3 : Nat) : Int), a4, a6, a7]))
  | 0 => ⟨(fun _ _ _ _ _ _ _ => ph_none), (fun _ _ _ _ _ _ _ _ _ => ph_none), (fun _ _ _ _ _ _ _ _ _ => ph_none), (fun _ _ _ _ _ _ _ _ _ => ph_none), (fun _ _ _ _ _ _ _ _ => ph_none)⟩
  | n + 1 => by
    obtain ⟨h0, h19, h43, h69, h114⟩ := kh_X10_setNumber n
    refine ⟨?_, ?_, ?_, ?_, ?_⟩
    · intro _ _ _ _ _ _ _
      rw [e_X10_setNumber_0]
      unfold b_X10_setNumber_0
      repeat' (with_reducible first
        | exact ph_none
        | exact ph_some
        | refine ph_gI (by first | decide | omega) (fun _ => ?_)
        | refine ph_gCp (by first | decide | omega) (fun _ => ?_)
        | refine ph_gB (by first | decide | omega) (fun _ => ?_)
        | refine ph_gR (by first | decide | omega) (fun _ => ?_)
        | refine ph_gv (fun _ => ?_)
        | refine ph_gg (fun _ => ?_)
        | refine ph_gc ?_ (fun _ _ => ?_)
        | refine ph_ite (fun _ => ?_) (fun _ => ?_)
        | exact h19 _ _ _ _ _ _ _ _ _
        | exact (kh_X10_has _) _ _ _ _
        | exact (kh_X9_length _) _ _ _)
    · intro _ _ _ _ _ _ _ _ _
      rw [e_X10_setNumber_19]
      unfold b_X10_setNumber_19
      repeat' (with_reducible first
        | exact ph_none
        | exact ph_some
        | refine ph_gI (by first | decide | omega) (fun _ => ?_)
        | refine ph_gCp (by first | decide | omega) (fun _ => ?_)
        | refine ph_gB (by first | decide | omega) (fun _ => ?_)
        | refine ph_gR (by first | decide | omega) (fun _ => ?_)
        | refine ph_gv (fun _ => ?_)
        | refine ph_gg (fun _ => ?_)
        | refine ph_gc ?_ (fun _ _ => ?_)
        | refine ph_ite (fun _ => ?_) (fun _ => ?_)
        | exact h19 _ _ _ _ _ _ _ _ _
        | exact h43 _ _ _ _ _ _ _ _ _
        | exact (kh_X9_at _) _ _ _ _)
    · intro _ _ _ _ _ _ _ _ _
      rw [e_X10_setNumber_43]
      unfold b_X10_setNumber_43
      repeat' (with_reducible first
        | exact ph_none
        | exact ph_some
        | refine ph_gI (by first | decide | omega) (fun _ => ?_)
        | refine ph_gCp (by first | decide | omega) (fun _ => ?_)
        | refine ph_gB (by first | decide | omega) (fun _ => ?_)
        | refine ph_gR (by first | decide | omega) (fun _ => ?_)
        | refine ph_gv (fun _ => ?_)
        | refine ph_gg (fun _ => ?_)
        | refine ph_gc ?_ (fun _ _ => ?_)
        | refine ph_ite (fun _ => ?_) (fun _ => ?_)
        | exact h43 _ _ _ _ _ _ _ _ _
        | exact h69 _ _ _ _ _ _ _ _ _
        | exact (kh_X9_at _) _ _ _ _)
    · intro _ _ _ _ _ _ _ _ _
      rw [e_X10_setNumber_69]
      unfold b_X10_setNumber_69
      repeat' (with_reducible first
        | exact ph_none
        | exact ph_some
        | refine ph_gI (by first | decide | omega) (fun _ => ?_)
        | refine ph_gCp (by first | decide | omega) (fun _ => ?_)
        | refine ph_gB (by first | decide | omega) (fun _ => ?_)
        | refine ph_gR (by first | decide | omega) (fun _ => ?_)
        | refine ph_gv (fun _ => ?_)
        | refine ph_gg (fun _ => ?_)
        | refine ph_gc ?_ (fun _ _ => ?_)
        | refine ph_ite (fun _ => ?_) (fun _ => ?_)
        | exact h114 _ _ _ _ _ _ _ _
        | exact (kh_X10_addSign _).1 _ _ _ _ _)
    · intro _ _ _ _ _ _ _ _
      rw [e_X10_setNumber_114]
      unfold b_X10_setNumber_114
      repeat' (with_reducible first
        | exact ph_none
        | exact ph_some
        | refine ph_gI (by first | decide | omega) (fun _ => ?_)
        | refine ph_gCp (by first | decide | omega) (fun _ => ?_)
        | refine ph_gB (by first | decide | omega) (fun _ => ?_)
        | refine ph_gR (by first | decide | omega) (fun _ => ?_)
        | refine ph_gv (fun _ => ?_)
        | refine ph_gg (fun _ => ?_)
        | refine ph_gc ?_ (fun _ _ => ?_)
        | refine ph_ite (fun _ => ?_) (fun _ => ?_)
        | exact h114 _ _ _ _ _ _ _ _
        | exact (kh_X10_addSign _).1 _ _ _ _ _
        | exact (kh_X9_at _) _ _ _ _
        | exact (kh_X9_length _) _ _ _)

theorem kh_X0_orderOfLength : ∀ n : Nat, (∀ (d : Nat) (S : GS) (a1 : Int) (a2 : Int), PH 495 S (f_X0_orderOfLength n d 0 S [a1, a2]))
  | 0 => (fun _ _ _ _ => ph_none)
  | n + 1 => by
    have h0 := kh_X0_orderOfLength n
    · intro _ _ _ _
      rw [e_X0_orderOfLength_0]
      unfold b_X0_orderOfLength_0
      repeat' (with_reducible first
        | exact ph_none
        | exact ph_some
        | refine ph_gI (by first | decide | omega) (fun _ => ?_)
        | refine ph_gCp (by first | decide | omega) (fun _ => ?_)
        | refine ph_gB (by first | decide | omega) (fun _ => ?_)
        | refine ph_gR (by first | decide | omega) (fun _ => ?_)
        | refine ph_gv (fun _ => ?_)
        | refine ph_gg (fun _ => ?_)
        | refine ph_gc ?_ (fun _ _ => ?_)
        | refine ph_ite (fun _ => ?_) (fun _ => ?_)
        | exact (kh_X10_add _) _ _ _ _
        | exact (kh_X10_clear _) _ _ _
        | exact (kh_X10_length _) _ _ _ _
        | exact (kh_X10_orderOfNumbers _).1 _ _ _ _ _ _
        | exact (kh_X10_setNumber _).1 _ _ _ _ _ _ _
        | exact (kh_X9_addNumber _).1 _ _ _ _
        | exact (kh_X9_clear _) _ _ _)

theorem kh_X10_size : ∀ n : Nat, (∀ (d : Nat) (S : GS) (a0 : Nat) (a1 : Int), PH 495 S (f_X10_size n d 0 S [((a0 : Nat) : Int), a1]))
  | 0 => (fun _ _ _ _ => ph_none)
  | n + 1 => by
    have h0 := kh_X10_size n
    · intro _ _ _ _
      rw [e_X10_size_0]
      unfold b_X10_size_0
      repeat' (with_reducible first
        | exact ph_none
        | exact ph_some
        | refine ph_gI (by first | decide | omega) (fun _ => ?_)
        | refine ph_gCp (by first | decide | omega) (fun _ => ?_)
        | refine ph_gB (by first | decide | omega) (fun _ => ?_)
        | refine ph_gR (by first | decide | omega) (fun _ => ?_)
        | refine ph_gv (fun _ => ?_)
        | refine ph_gg (fun _ => ?_)
        | refine ph_gc ?_ (fun _ _ => ?_)
        | refine ph_ite (fun _ => ?_) (fun _ => ?_))

theorem kh_X10_powerOrTruth : ∀ n : Nat, (∀ (d : Nat) (S : GS) (a0 : Nat) (a1 : Int), PH 495 S (f_X10_powerOrTruth n d 0 S [((a0 : Nat) : Int), a1]))
  | 0 => (fun _ _ _ _ => ph_none)
  | n + 1 => by
    have h0 := kh_X10_powerOrTruth n
    · intro _ _ _ _
      rw [e_X10_powerOrTruth_0]
      unfold b_X10_powerOrTruth_0
      repeat' (with_reducible first
        | exact ph_none
        | exact ph_some
        | refine ph_gI (by first | decide | omega) (fun _ => ?_)
        | refine ph_gCp (by first | decide | omega) (fun _ => ?_)
        | refine ph_gB (by first | decide | omega) (fun _ => ?_)
        | refine ph_gR (by first | decide | omega) (fun _ => ?_)
        | refine ph_gv (fun _ => ?_)
        | refine ph_gg (fun _ => ?_)
        | refine ph_gc ?_ (fun _ _ => ?_)
        | refine ph_ite (fun _ => ?_) (fun _ => ?_))

theorem kh_X10_sameSigns : ∀ n : Nat, (∀ (d : Nat) (S : GS) (a0 : Nat) (a1 : Int) (a2 : Nat) (a3 : Int), PH 495 S (f_X10_sameSigns n d 0 S [((a0 : Nat) : Int), a1, ((a2 : Nat) : Int), a3])) ∧ (∀ (d : Nat) (S : GS) (a0 : Nat) (a1 : Int) (a2 : Nat) (a3 : Int) (a4 : Int) (a5 : Int), PH 495 S (f_X10_sameSigns n d 36 S [((a0 : Nat) : Int), a1, ((a2 : Nat) : Int), a3, a4, a5]))
  | 0 => ⟨(fun _ _ _ _ _ _ => ph_none), (fun _ _ _ _ _ _ _ _ => ph_none)⟩
  | n + 1 => by
    obtain ⟨h0, h36⟩ := kh_X10_sameSigns n
    refine ⟨?_, ?_⟩
    · intro _ _ _ _ _ _
      rw [e_X10_sameSigns_0]
      unfold b_X10_sameSigns_0
      repeat' (with_reducible first
        | exact ph_none
        | exact ph_some
        | refine ph_gI (by first | decide | omega) (fun _ => ?_)
        | refine ph_gCp (by first | decide | omega) (fun _ => ?_)
        | refine ph_gB (by first | decide | omega) (fun _ => ?_)
        | refine ph_gR (by first | decide | omega) (fun _ => ?_)
        | refine ph_gv (fun _ => ?_)
        | refine ph_gg (fun _ => ?_)
        | refine ph_gc ?_ (fun _ _ => ?_)
        | refine ph_ite (fun _ => ?_) (fun _ => ?_)
        | exact h36 _ _ _ _ _ _ _ _
        | exact (kh_X10_lengthOf _) _ _ _ _
        | exact (kh_X10_powerOrTruth _) _ _ _ _)
    · intro _ _ _ _ _ _ _ _
      rw [e_X10_sameSigns_36]
      unfold b_X10_sameSigns_36
      repeat' (with_reducible first
        | exact ph_none
        | exact ph_some
        | refine ph_gI (by first | decide | omega) (fun _ => ?_)
        | refine ph_gCp (by first | decide | omega) (fun _ => ?_)
        | refine ph_gB (by first | decide | omega) (fun _ => ?_)
        | refine ph_gR (by first | decide | omega) (fun _ => ?_)
        | refine ph_gv (fun _ => ?_)
        | refine ph_gg (fun _ => ?_)
        | refine ph_gc ?_ (fun _ _ => ?_)
        | refine ph_ite (fun _ => ?_) (fun _ => ?_)
        | exact h36 _ _ _ _ _ _ _ _
        | exact (kh_X10_lengthOf _) _ _ _ _
        | exact (kh_X10_signAt _).1 _ _ _ _ _)

theorem kh_X10_orderOfKeys : ∀ n : Nat, (∀ (d : Nat) (S : GS) (a0 : Nat) (a1 : Int) (a2 : Nat) (a3 : Int), PH 495 S (f_X10_orderOfKeys n d 0 S [((a0 : Nat) : Int), a1, ((a2 : Nat) : Int), a3])) ∧ (∀ (d : Nat) (S : GS) (a0 : Nat) (a1 : Int) (a2 : Nat) (a3 : Int) (a4 : Int) (a5 : Int), PH 495 S (f_X10_orderOfKeys n d 47 S [((a0 : Nat) : Int), a1, ((a2 : Nat) : Int), a3, a4, a5]))
  | 0 => ⟨(fun _ _ _ _ _ _ => ph_none), (fun _ _ _ _ _ _ _ _ => ph_none)⟩
  | n + 1 => by
    obtain ⟨h0, h47⟩ := kh_X10_orderOfKeys n
    refine ⟨?_, ?_⟩
    · intro _ _ _ _ _ _
      rw [e_X10_orderOfKeys_0]
      unfold b_X10_orderOfKeys_0
      repeat' (with_reducible first
        | exact ph_none
        | exact ph_some
        | refine ph_gI (by first | decide | omega) (fun _ => ?_)
        | refine ph_gCp (by first | decide | omega) (fun _ => ?_)
        | refine ph_gB (by first | decide | omega) (fun _ => ?_)
        | refine ph_gR (by first | decide | omega) (fun _ => ?_)
        | refine ph_gv (fun _ => ?_)
        | refine ph_gg (fun _ => ?_)
        | refine ph_gc ?_ (fun _ _ => ?_)
        | refine ph_ite (fun _ => ?_) (fun _ => ?_)
        | exact h47 _ _ _ _ _ _ _ _)
    · intro _ _ _ _ _ _ _ _
      rw [e_X10_orderOfKeys_47]
      unfold b_X10_orderOfKeys_47
      repeat' (with_reducible first
        | exact ph_none
        | exact ph_some
        | refine ph_gI (by first | decide | omega) (fun _ => ?_)
        | refine ph_gCp (by first | decide | omega) (fun _ => ?_)
        | refine ph_gB (by first | decide | omega) (fun _ => ?_)
        | refine ph_gR (by first | decide | omega) (fun _ => ?_)
        | refine ph_gv (fun _ => ?_)
        | refine ph_gg (fun _ => ?_)
        | refine ph_gc ?_ (fun _ _ => ?_)
        | refine ph_ite (fun _ => ?_) (fun _ => ?_)
        | exact h47 _ _ _ _ _ _ _ _)

theorem kh_X10_valueLike : ∀ n : Nat, (∀ (d : Nat) (S : GS) (a0 : Nat) (a1 : Int) (a2 : Nat) (a3 : Int), PH 495 S (f_X10_valueLike n d 0 S [((a0 : Nat) : Int), a1, ((a2 : Nat) : Int), a3])) ∧ (∀ (d : Nat) (S : GS) (a0 : Nat) (a1 : Int) (a2 : Nat) (a3 : Int) (a4 : Int) (a5 : Int), PH 495 S (f_X10_valueLike n d 10 S [((a0 : Nat) : Int), a1, ((a2 : Nat) : Int), a3, a4, a5]))
  | 0 => ⟨(fun _ _ _ _ _ _ => ph_none), (fun _ _ _ _ _ _ _ _ => ph_none)⟩
  | n + 1 => by
    obtain ⟨h0, h10⟩ := kh_X10_valueLike n
    refine ⟨?_, ?_⟩
    · intro _ _ _ _ _ _
      rw [e_X10_valueLike_0]
      unfold b_X10_valueLike_0
      repeat' (with_reducible first
        | exact ph_none
        | exact ph_some
        | refine ph_gI (by first | decide | omega) (fun _ => ?_)
        | refine ph_gCp (by first | decide | omega) (fun _ => ?_)
        | refine ph_gB (by first | decide | omega) (fun _ => ?_)
        | refine ph_gR (by first | decide | omega) (fun _ => ?_)
        | refine ph_gv (fun _ => ?_)
        | refine ph_gg (fun _ => ?_)
        | refine ph_gc ?_ (fun _ _ => ?_)
        | refine ph_ite (fun _ => ?_) (fun _ => ?_)
        | exact h10 _ _ _ _ _ _ _ _
        | exact (kh_X10_firstOfMap _).1 _ _ _ _)
    · intro _ _ _ _ _ _ _ _
      rw [e_X10_valueLike_10]
      unfold b_X10_valueLike_10
      repeat' (with_reducible first
        | exact ph_none
        | exact ph_some
        | refine ph_gI (by first | decide | omega) (fun _ => ?_)
        | refine ph_gCp (by first | decide | omega) (fun _ => ?_)
        | refine ph_gB (by first | decide | omega) (fun _ => ?_)
        | refine ph_gR (by first | decide | omega) (fun _ => ?_)
        | refine ph_gv (fun _ => ?_)
        | refine ph_gg (fun _ => ?_)
        | refine ph_gc ?_ (fun _ _ => ?_)
        | refine ph_ite (fun _ => ?_) (fun _ => ?_)
        | exact h10 _ _ _ _ _ _ _ _
        | exact (kh_X10_next _) _ _ _ _ _
        | exact (kh_X10_orderOfKeys _).1 _ _ _ _ _ _)

theorem kh_X10_same : ∀ n : Nat, (∀ (d : Nat) (S : GS) (a0 : Nat) (a1 : Int) (a2 : Nat) (a3 : Int) (a4 : Int), PH 495 S (f_X10_same n d 0 S [((a0 : Nat) : Int), a1, ((a2 : Nat) : Int), a3, a4])) ∧ (∀ (d : Nat) (S : GS) (a0 : Nat) (a1 : Int) (a2 : Nat) (a3 : Int) (a4 : Int) (a5 : Int) (s0 : Int), PH 495 S (f_X10_same n d 85 S [((a0 : Nat) : Int), a1, ((a2 : Nat) : Int), a3, a4, a5, s0])) ∧ (∀ (d : Nat) (S : GS) (a0 : Nat) (a1 : Int) (a2 : Nat) (a3 : Int) (a4 : Int) (a5 : Int) (a6 : Int) (a7 : Int) (a8 : Int) (a9 : Int), PH 495 S (f_X10_same n d 104 S [((a0 : Nat) : Int), a1, ((a2 : Nat) : Int), a3, a4, a5, a6, a7, a8, a9])) ∧ (∀ (d : Nat) (S : GS) (a0 : Nat) (a1 : Int) (a2 : Nat) (a3 : Int) (a4 : Int) (a5 : Int) (a7 : Int) (a8 : Int) (a9 : Int) (s0 : Int) (s1 : Nat) (s2 : Int) (s3 : Nat), PH 495 S (f_X10_same n d 144 S [((a0 : Nat) : Int), a1, ((a2 : Nat) : Int), a3, a4, a5, a7, a8, a9, s0, ((s1 : Nat) : Int), s2, ((s3 : Nat) : Int)]))
  | 0 => ⟨(fun _ _ _ _ _ _ _ => ph_none), (fun _ _ _ _ _ _ _ _ _ => ph_none), (fun _ _ _ _ _ _ _ _ _ _ _ _ => ph_none), (fun _ _ _ _ _ _ _ _ _ _ _ _ _ _ _ => ph_none)⟩
  | n + 1 => by
    obtain ⟨h0, h85, h104, h144⟩ := kh_X10_same n
    refine ⟨?_, ?_, ?_, ?_⟩
    · intro _ _ _ _ _ _ _
      rw [e_X10_same_0]
      unfold b_X10_same_0
      repeat' (with_reducible first
        | exact ph_none
        | exact ph_some
        | refine ph_gI (by first | decide | omega) (fun _ => ?_)
        | refine ph_gCp (by first | decide | omega) (fun _ => ?_)
        | refine ph_gB (by first | decide | omega) (fun _ => ?_)
        | refine ph_gR (by first | decide | omega) (fun _ => ?_)
        | refine ph_gv (fun _ => ?_)
        | refine ph_gg (fun _ => ?_)
        | refine ph_gc ?_ (fun _ _ => ?_)
        | refine ph_ite (fun _ => ?_) (fun _ => ?_)
        | exact h85 _ _ _ _ _ _ _ _ _
        | exact (kh_X10_has _) _ _ _ _
        | exact (kh_X10_is _) _ _ _ _ _
        | exact (kh_X10_isGroup _) _ _ _ _
        | exact (kh_X10_kind _) _ _ _ _
        | exact (kh_X10_sameSigns _).1 _ _ _ _ _ _
        | exact (kh_X10_size _) _ _ _ _
        | exact (kh_X10_values _).1 _ _ _ _)
    · intro _ _ _ _ _ _ _ _ _
      rw [e_X10_same_85]
      unfold b_X10_same_85
      repeat' (with_reducible first
        | exact ph_none
        | exact ph_some
        | refine ph_gI (by first | decide | omega) (fun _ => ?_)
        | refine ph_gCp (by first | decide | omega) (fun _ => ?_)
        | refine ph_gB (by first | decide | omega) (fun _ => ?_)
        | refine ph_gR (by first | decide | omega) (fun _ => ?_)
        | refine ph_gv (fun _ => ?_)
        | refine ph_gg (fun _ => ?_)
        | refine ph_gc ?_ (fun _ _ => ?_)
        | refine ph_ite (fun _ => ?_) (fun _ => ?_)
        | exact h104 _ _ _ _ _ _ _ _ _ _ _ _
        | exact (kh_X10_first _).1 _ _ _ _)
    · intro _ _ _ _ _ _ _ _ _ _ _ _
      rw [e_X10_same_104]
      unfold b_X10_same_104
      repeat' (with_reducible first
        | exact ph_none
        | exact ph_some
        | refine ph_gI (by first | decide | omega) (fun _ => ?_)
        | refine ph_gCp (by first | decide | omega) (fun _ => ?_)
        | refine ph_gB (by first | decide | omega) (fun _ => ?_)
        | refine ph_gR (by first | decide | omega) (fun _ => ?_)
        | refine ph_gv (fun _ => ?_)
        | refine ph_gg (fun _ => ?_)
        | refine ph_gc ?_ (fun _ _ => ?_)
        | refine ph_ite (fun _ => ?_) (fun _ => ?_)
        | exact h144 _ _ _ _ _ _ _ _ _ _ _ _ _ _ _
        | exact (kh_X10_valueLike _).1 _ _ _ _ _ _)
    · intro _ _ _ _ _ _ _ _ _ _ _ _ _ _ _
      rw [e_X10_same_144]
      unfold b_X10_same_144
      repeat' (with_reducible first
        | exact ph_none
        | exact ph_some
        | refine ph_gI (by first | decide | omega) (fun _ => ?_)
        | refine ph_gCp (by first | decide | omega) (fun _ => ?_)
        | refine ph_gB (by first | decide | omega) (fun _ => ?_)
        | refine ph_gR (by first | decide | omega) (fun _ => ?_)
        | refine ph_gv (fun _ => ?_)
        | refine ph_gg (fun _ => ?_)
        | refine ph_gc ?_ (fun _ _ => ?_)
        | refine ph_ite (fun _ => ?_) (fun _ => ?_)
        | exact h0 _ _ _ _ _ _ _
        | exact h104 _ _ _ _ _ _ _ _ _ _ _ _
        | exact (kh_X10_next _) _ _ _ _ _)

theorem kh_X0_isOneOf : ∀ n : Nat, (∀ (d : Nat) (S : GS) (a1 : Int) (a2 : Int), PH 495 S (f_X0_isOneOf n d 0 S [a1, a2])) ∧ (∀ (d : Nat) (S : GS) (a1 : Int) (a2 : Int) (a3 : Int) (a4 : Int) (a5 : Int), PH 495 S (f_X0_isOneOf n d 15 S [a1, a2, a3, a4, a5])) ∧ (∀ (d : Nat) (S : GS) (a1 : Int) (a2 : Int) (a4 : Int) (a5 : Int) (s0 : Int), PH 495 S (f_X0_isOneOf n d 55 S [a1, a2, a4, a5, s0]))
  | 0 => ⟨(fun _ _ _ _ => ph_none), (fun _ _ _ _ _ _ _ => ph_none), (fun _ _ _ _ _ _ _ => ph_none)⟩
  | n + 1 => by
    obtain ⟨h0, h15, h55⟩ := kh_X0_isOneOf n
    refine ⟨?_, ?_, ?_⟩
    · intro _ _ _ _
      rw [e_X0_isOneOf_0]
      unfold b_X0_isOneOf_0
      repeat' (with_reducible first
        | exact ph_none
        | exact ph_some
        | refine ph_gI (by first | decide | omega) (fun _ => ?_)
        | refine ph_gCp (by first | decide | omega) (fun _ => ?_)
        | refine ph_gB (by first | decide | omega) (fun _ => ?_)
        | refine ph_gR (by first | decide | omega) (fun _ => ?_)
        | refine ph_gv (fun _ => ?_)
        | refine ph_gg (fun _ => ?_)
        | refine ph_gc ?_ (fun _ _ => ?_)
        | refine ph_ite (fun _ => ?_) (fun _ => ?_)
        | exact h15 _ _ _ _ _ _ _
        | exact (kh_X10_first _).1 _ _ _ _)
    · intro _ _ _ _ _ _ _
      rw [e_X0_isOneOf_15]
      unfold b_X0_isOneOf_15
      repeat' (with_reducible first
        | exact ph_none
        | exact ph_some
        | refine ph_gI (by first | decide | omega) (fun _ => ?_)
        | refine ph_gCp (by first | decide | omega) (fun _ => ?_)
        | refine ph_gB (by first | decide | omega) (fun _ => ?_)
        | refine ph_gR (by first | decide | omega) (fun _ => ?_)
        | refine ph_gv (fun _ => ?_)
        | refine ph_gg (fun _ => ?_)
        | refine ph_gc ?_ (fun _ _ => ?_)
        | refine ph_ite (fun _ => ?_) (fun _ => ?_)
        | exact h55 _ _ _ _ _ _ _
        | exact (kh_X10_same _).1 _ _ _ _ _ _ _)
    · intro _ _ _ _ _ _ _
      rw [e_X0_isOneOf_55]
      unfold b_X0_isOneOf_55
      repeat' (with_reducible first
        | exact ph_none
        | exact ph_some
        | refine ph_gI (by first | decide | omega) (fun _ => ?_)
        | refine ph_gCp (by first | decide | omega) (fun _ => ?_)
        | refine ph_gB (by first | decide | omega) (fun _ => ?_)
        | refine ph_gR (by first | decide | omega) (fun _ => ?_)
        | refine ph_gv (fun _ => ?_)
        | refine ph_gg (fun _ => ?_)
        | refine ph_gc ?_ (fun _ _ => ?_)
        | refine ph_ite (fun _ => ?_) (fun _ => ?_)
        | exact h15 _ _ _ _ _ _ _
        | exact (kh_X10_next _) _ _ _ _ _)

