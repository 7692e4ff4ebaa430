/-! CELLS that the reference never touches -/
theorem kr_X12_at : ∀ n : Nat, (∀ (d : Nat) (S : GS) (a0 : Int) (a1 : Int), PH 600 S (f_X12_at n d 0 S [a0, a1]))
  | 0 => (fun _ _ _ _ => ph_none)
  | n + 1 => by
    have h0 := kr_X12_at n
    · intro _ _ _ _
      rw [e_X12_at_0]
      unfold b_X12_at_0
      repeat' (with_reducible first
        | exact ph_none
        | exact ph_some
        | refine ph_gI (by first | decide | omega) (fun _ => ?_)
        | refine ph_gCp (by first | decide | omega) (fun _ => ?_)
        | refine ph_gB (by first | decide | omega) (fun _ => ?_)
        | refine ph_gR (by first | decide | omega) (fun _ => ?_)
        | refine ph_gv (fun _ => ?_)
        | refine ph_gg (fun _ => ?_)
        | refine ph_gc ?_ (fun _ _ => ?_)
        | refine ph_ite (fun _ => ?_) (fun _ => ?_))

theorem kr_X12_added : ∀ n : Nat, (∀ (d : Nat) (S : GS) (a1 : Int) (a2 : Int), PH 600 S (f_X12_added n d 0 S [a1, a2])) ∧ (∀ (d : Nat) (S : GS) (a1 : Int) (a2 : Int) (a3 : Int) (a4 : Int), PH 600 S (f_X12_added n d 14 S [a1, a2, a3, a4])) ∧ (∀ (d : Nat) (S : GS) (a1 : Int) (a3 : Int) (s0 : Int), PH 600 S (f_X12_added n d 71 S [a1, a3, s0]))
  | 0 => ⟨(fun _ _ _ _ => ph_none), (fun _ _ _ _ _ _ => ph_none), (fun _ _ _ _ _ => ph_none)⟩
  | n + 1 => by
    obtain ⟨h0, h14, h71⟩ := kr_X12_added n
    refine ⟨?_, ?_, ?_⟩
    · intro _ _ _ _
      rw [e_X12_added_0]
      unfold b_X12_added_0
      repeat' (with_reducible first
        | exact ph_none
        | exact ph_some
        | refine ph_gI (by first | decide | omega) (fun _ => ?_)
        | refine ph_gCp (by first | decide | omega) (fun _ => ?_)
        | refine ph_gB (by first | decide | omega) (fun _ => ?_)
        | refine ph_gR (by first | decide | omega) (fun _ => ?_)
        | refine ph_gv (fun _ => ?_)
        | refine ph_gg (fun _ => ?_)
        | refine ph_gc ?_ (fun _ _ => ?_)
        | refine ph_ite (fun _ => ?_) (fun _ => ?_)
        | exact h14 _ _ _ _ _ _
        | exact (kr_X12_at _) _ _ _ _)
    · intro _ _ _ _ _ _
      rw [e_X12_added_14]
      unfold b_X12_added_14
      repeat' (with_reducible first
        | exact ph_none
        | exact ph_some
        | refine ph_gI (by first | decide | omega) (fun _ => ?_)
        | refine ph_gCp (by first | decide | omega) (fun _ => ?_)
        | refine ph_gB (by first | decide | omega) (fun _ => ?_)
        | refine ph_gR (by first | decide | omega) (fun _ => ?_)
        | refine ph_gv (fun _ => ?_)
        | refine ph_gg (fun _ => ?_)
        | refine ph_gc ?_ (fun _ _ => ?_)
        | refine ph_ite (fun _ => ?_) (fun _ => ?_)
        | exact h14 _ _ _ _ _ _
        | exact h71 _ _ _ _ _
        | exact (kr_X12_at _) _ _ _ _)
    · intro _ _ _ _ _
      rw [e_X12_added_71]
      unfold b_X12_added_71
      repeat' (with_reducible first
        | exact ph_none
        | exact ph_some
        | refine ph_gI (by first | decide | omega) (fun _ => ?_)
        | refine ph_gCp (by first | decide | omega) (fun _ => ?_)
        | refine ph_gB (by first | decide | omega) (fun _ => ?_)
        | refine ph_gR (by first | decide | omega) (fun _ => ?_)
        | refine ph_gv (fun _ => ?_)
        | refine ph_gg (fun _ => ?_)
        | refine ph_gc ?_ (fun _ _ => ?_)
        | refine ph_ite (fun _ => ?_) (fun _ => ?_))

theorem kr_X12_part : ∀ n : Nat, (∀ (d : Nat) (S : GS) (a1 : Int) (a2 : Int) (a3 : Int), PH 600 S (f_X12_part n d 0 S [a1, a2, a3]))
  | 0 => (fun _ _ _ _ _ => ph_none)
  | n + 1 => by
    have h0 := kr_X12_part n
    · intro _ _ _ _ _
      rw [e_X12_part_0]
      unfold b_X12_part_0
      repeat' (with_reducible first
        | exact ph_none
        | exact ph_some
        | refine ph_gI (by first | decide | omega) (fun _ => ?_)
        | refine ph_gCp (by first | decide | omega) (fun _ => ?_)
        | refine ph_gB (by first | decide | omega) (fun _ => ?_)
        | refine ph_gR (by first | decide | omega) (fun _ => ?_)
        | refine ph_gv (fun _ => ?_)
        | refine ph_gg (fun _ => ?_)
        | refine ph_gc ?_ (fun _ _ => ?_)
        | refine ph_ite (fun _ => ?_) (fun _ => ?_)
        | exact (kr_X12_at _) _ _ _ _)

theorem kr_X12_byKeys : ∀ n : Nat, (∀ (d : Nat) (S : GS) (a1 : Int) (a2 : Int) (a3 : Int) (a4 : Int), PH 600 S (f_X12_byKeys n d 0 S [a1, a2, a3, a4])) ∧ (∀ (d : Nat) (S : GS) (a5 : Int) (a6 : Int) (a7 : Int), PH 600 S (f_X12_byKeys n d 18 S [a5, a6, a7])) ∧ (∀ (d : Nat) (S : GS) (a5 : Int) (a6 : Int), PH 600 S (f_X12_byKeys n d 116 S [a5, a6]))
  | 0 => ⟨(fun _ _ _ _ _ _ => ph_none), (fun _ _ _ _ _ => ph_none), (fun _ _ _ _ => ph_none)⟩
  | n + 1 => by
    obtain ⟨h0, h18, h116⟩ := kr_X12_byKeys n
    refine ⟨?_, ?_, ?_⟩
    · intro _ _ _ _ _ _
      rw [e_X12_byKeys_0]
      unfold b_X12_byKeys_0
      repeat' (with_reducible first
        | exact ph_none
        | exact ph_some
        | refine ph_gI (by first | decide | omega) (fun _ => ?_)
        | refine ph_gCp (by first | decide | omega) (fun _ => ?_)
        | refine ph_gB (by first | decide | omega) (fun _ => ?_)
        | refine ph_gR (by first | decide | omega) (fun _ => ?_)
        | refine ph_gv (fun _ => ?_)
        | refine ph_gg (fun _ => ?_)
        | refine ph_gc ?_ (fun _ _ => ?_)
        | refine ph_ite (fun _ => ?_) (fun _ => ?_)
        | exact h18 _ _ _ _ _
        | exact (kr_X12_at _) _ _ _ _)
    · intro _ _ _ _ _
      rw [e_X12_byKeys_18]
      unfold b_X12_byKeys_18
      repeat' (with_reducible first
        | exact ph_none
        | exact ph_some
        | refine ph_gI (by first | decide | omega) (fun _ => ?_)
        | refine ph_gCp (by first | decide | omega) (fun _ => ?_)
        | refine ph_gB (by first | decide | omega) (fun _ => ?_)
        | refine ph_gR (by first | decide | omega) (fun _ => ?_)
        | refine ph_gv (fun _ => ?_)
        | refine ph_gg (fun _ => ?_)
        | refine ph_gc ?_ (fun _ _ => ?_)
        | refine ph_ite (fun _ => ?_) (fun _ => ?_)
        | exact h18 _ _ _ _ _
        | exact h116 _ _ _ _)
    · intro _ _ _ _
      rw [e_X12_byKeys_116]
      unfold b_X12_byKeys_116
      repeat' (with_reducible first
        | exact ph_none
        | exact ph_some
        | refine ph_gI (by first | decide | omega) (fun _ => ?_)
        | refine ph_gCp (by first | decide | omega) (fun _ => ?_)
        | refine ph_gB (by first | decide | omega) (fun _ => ?_)
        | refine ph_gR (by first | decide | omega) (fun _ => ?_)
        | refine ph_gv (fun _ => ?_)
        | refine ph_gg (fun _ => ?_)
        | refine ph_gc ?_ (fun _ _ => ?_)
        | refine ph_ite (fun _ => ?_) (fun _ => ?_))

theorem kr_X12_endOf : ∀ n : Nat, (∀ (d : Nat) (S : GS) (a1 : Int) (a2 : Int), PH 600 S (f_X12_endOf n d 0 S [a1, a2]))
  | 0 => (fun _ _ _ _ => ph_none)
  | n + 1 => by
    have h0 := kr_X12_endOf n
    · intro _ _ _ _
      rw [e_X12_endOf_0]
      unfold b_X12_endOf_0
      repeat' (with_reducible first
        | exact ph_none
        | exact ph_some
        | refine ph_gI (by first | decide | omega) (fun _ => ?_)
        | refine ph_gCp (by first | decide | omega) (fun _ => ?_)
        | refine ph_gB (by first | decide | omega) (fun _ => ?_)
        | refine ph_gR (by first | decide | omega) (fun _ => ?_)
        | refine ph_gv (fun _ => ?_)
        | refine ph_gg (fun _ => ?_)
        | refine ph_gc ?_ (fun _ _ => ?_)
        | refine ph_ite (fun _ => ?_) (fun _ => ?_)
        | exact (kr_X12_part _) _ _ _ _ _)

theorem kr_X12_childLike : ∀ n : Nat, (∀ (d : Nat) (S : GS) (a1 : Int) (a2 : Int) (a3 : Int) (a4 : Int), PH 600 S (f_X12_childLike n d 0 S [a1, a2, a3, a4])) ∧ (∀ (d : Nat) (S : GS) (a1 : Int) (a2 : Int) (a3 : Int) (a4 : Int) (a5 : Int) (a6 : Int), PH 600 S (f_X12_childLike n d 8 S [a1, a2, a3, a4, a5, a6]))
  | 0 => ⟨(fun _ _ _ _ _ _ => ph_none), (fun _ _ _ _ _ _ _ _ => ph_none)⟩
  | n + 1 => by
    obtain ⟨h0, h8⟩ := kr_X12_childLike n
    refine ⟨?_, ?_⟩
    · intro _ _ _ _ _ _
      rw [e_X12_childLike_0]
      unfold b_X12_childLike_0
      repeat' (with_reducible first
        | exact ph_none
        | exact ph_some
        | refine ph_gI (by first | decide | omega) (fun _ => ?_)
        | refine ph_gCp (by first | decide | omega) (fun _ => ?_)
        | refine ph_gB (by first | decide | omega) (fun _ => ?_)
        | refine ph_gR (by first | decide | omega) (fun _ => ?_)
        | refine ph_gv (fun _ => ?_)
        | refine ph_gg (fun _ => ?_)
        | refine ph_gc ?_ (fun _ _ => ?_)
        | refine ph_ite (fun _ => ?_) (fun _ => ?_)
        | exact h8 _ _ _ _ _ _ _ _)
    · intro _ _ _ _ _ _ _ _
      rw [e_X12_childLike_8]
      unfold b_X12_childLike_8
      repeat' (with_reducible first
        | exact ph_none
        | exact ph_some
        | refine ph_gI (by first | decide | omega) (fun _ => ?_)
        | refine ph_gCp (by first | decide | omega) (fun _ => ?_)
        | refine ph_gB (by first | decide | omega) (fun _ => ?_)
        | refine ph_gR (by first | decide | omega) (fun _ => ?_)
        | refine ph_gv (fun _ => ?_)
        | refine ph_gg (fun _ => ?_)
        | refine ph_gc ?_ (fun _ _ => ?_)
        | refine ph_ite (fun _ => ?_) (fun _ => ?_)
        | exact h8 _ _ _ _ _ _ _ _
        | exact (kr_X12_byKeys _).1 _ _ _ _ _ _
        | exact (kr_X12_endOf _) _ _ _ _
        | exact (kr_X12_part _) _ _ _ _ _)

theorem kr_X12_puts : ∀ n : Nat, (∀ (d : Nat) (S : GS) (a1 : Int) (a2 : Int), PH 600 S (f_X12_puts n d 0 S [a1, a2]))
  | 0 => (fun _ _ _ _ => ph_none)
  | n + 1 => by
    have h0 := kr_X12_puts n
    · intro _ _ _ _
      rw [e_X12_puts_0]
      unfold b_X12_puts_0
      repeat' (with_reducible first
        | exact ph_none
        | exact ph_some
        | refine ph_gI (by first | decide | omega) (fun _ => ?_)
        | refine ph_gCp (by first | decide | omega) (fun _ => ?_)
        | refine ph_gB (by first | decide | omega) (fun _ => ?_)
        | refine ph_gR (by first | decide | omega) (fun _ => ?_)
        | refine ph_gv (fun _ => ?_)
        | refine ph_gg (fun _ => ?_)
        | refine ph_gc ?_ (fun _ _ => ?_)
        | refine ph_ite (fun _ => ?_) (fun _ => ?_))

theorem kr_X12_kind : ∀ n : Nat, (∀ (d : Nat) (S : GS) (a1 : Int) (a2 : Int), PH 600 S (f_X12_kind n d 0 S [a1, a2]))
  | 0 => (fun _ _ _ _ => ph_none)
  | n + 1 => by
    have h0 := kr_X12_kind n
    · intro _ _ _ _
      rw [e_X12_kind_0]
      unfold b_X12_kind_0
      repeat' (with_reducible first
        | exact ph_none
        | exact ph_some
        | refine ph_gI (by first | decide | omega) (fun _ => ?_)
        | refine ph_gCp (by first | decide | omega) (fun _ => ?_)
        | refine ph_gB (by first | decide | omega) (fun _ => ?_)
        | refine ph_gR (by first | decide | omega) (fun _ => ?_)
        | refine ph_gv (fun _ => ?_)
        | refine ph_gg (fun _ => ?_)
        | refine ph_gc ?_ (fun _ _ => ?_)
        | refine ph_ite (fun _ => ?_) (fun _ => ?_)
        | exact (kr_X12_at _) _ _ _ _)

theorem kr_X12_putsInt : ∀ n : Nat, (∀ (d : Nat) (S : GS) (a1 : Int) (a2 : Int), PH 600 S (f_X12_putsInt n d 0 S [a1, a2])) ∧ (∀ (d : Nat) (S : GS) (a1 : Int) (s0 : Int), PH 600 S (f_X12_putsInt n d 21 S [a1, s0])) ∧ (∀ (d : Nat) (S : GS) (a1 : Int) (a3 : Int), PH 600 S (f_X12_putsInt n d 40 S [a1, a3]))
  | 0 => ⟨(fun _ _ _ _ => ph_none), (fun _ _ _ _ => ph_none), (fun _ _ _ _ => ph_none)⟩
  | n + 1 => by
    obtain ⟨h0, h21, h40⟩ := kr_X12_putsInt n
    refine ⟨?_, ?_, ?_⟩
    · intro _ _ _ _
      rw [e_X12_putsInt_0]
      unfold b_X12_putsInt_0
      repeat' (with_reducible first
        | exact ph_none
        | exact ph_some
        | refine ph_gI (by first | decide | omega) (fun _ => ?_)
        | refine ph_gCp (by first | decide | omega) (fun _ => ?_)
        | refine ph_gB (by first | decide | omega) (fun _ => ?_)
        | refine ph_gR (by first | decide | omega) (fun _ => ?_)
        | refine ph_gv (fun _ => ?_)
        | refine ph_gg (fun _ => ?_)
        | refine ph_gc ?_ (fun _ _ => ?_)
        | refine ph_ite (fun _ => ?_) (fun _ => ?_)
        | exact h21 _ _ _ _
        | exact (kr_X12_puts _) _ _ _ _)
    · intro _ _ _ _
      rw [e_X12_putsInt_21]
      unfold b_X12_putsInt_21
      repeat' (with_reducible first
        | exact ph_none
        | exact ph_some
        | refine ph_gI (by first | decide | omega) (fun _ => ?_)
        | refine ph_gCp (by first | decide | omega) (fun _ => ?_)
        | refine ph_gB (by first | decide | omega) (fun _ => ?_)
        | refine ph_gR (by first | decide | omega) (fun _ => ?_)
        | refine ph_gv (fun _ => ?_)
        | refine ph_gg (fun _ => ?_)
        | refine ph_gc ?_ (fun _ _ => ?_)
        | refine ph_ite (fun _ => ?_) (fun _ => ?_)
        | exact h40 _ _ _ _
        | exact (kr_X12_puts _) _ _ _ _)
    · intro _ _ _ _
      rw [e_X12_putsInt_40]
      unfold b_X12_putsInt_40
      repeat' (with_reducible first
        | exact ph_none
        | exact ph_some
        | refine ph_gI (by first | decide | omega) (fun _ => ?_)
        | refine ph_gCp (by first | decide | omega) (fun _ => ?_)
        | refine ph_gB (by first | decide | omega) (fun _ => ?_)
        | refine ph_gR (by first | decide | omega) (fun _ => ?_)
        | refine ph_gv (fun _ => ?_)
        | refine ph_gg (fun _ => ?_)
        | refine ph_gc ?_ (fun _ _ => ?_)
        | refine ph_ite (fun _ => ?_) (fun _ => ?_)
        | exact (kr_X12_puts _) _ _ _ _)

theorem kr_X12_putsStep : ∀ n : Nat, (∀ (d : Nat) (S : GS) (a1 : Int) (a2 : Int), PH 600 S (f_X12_putsStep n d 0 S [a1, a2])) ∧ (∀ (d : Nat) (S : GS) (a1 : Int) (a2 : Int) (a3 : Int), PH 600 S (f_X12_putsStep n d 38 S [a1, a2, a3])) ∧ (∀ (d : Nat) (S : GS) (a1 : Int) (a2 : Int) (a3 : Int) (a4 : Int) (s0 : Int) (s1 : Int), PH 600 S (f_X12_putsStep n d 84 S [a1, a2, a3, a4, s0, s1])) ∧ (∀ (d : Nat) (S : GS) (a1 : Int) (a2 : Int) (a3 : Int) (a4 : Int), PH 600 S (f_X12_putsStep n d 101 S [a1, a2, a3, a4]))
  | 0 => ⟨(fun _ _ _ _ => ph_none), (fun _ _ _ _ _ => ph_none), (fun _ _ _ _ _ _ _ _ => ph_none), (fun _ _ _ _ _ _ => ph_none)⟩
  | n + 1 => by
    obtain ⟨h0, h38, h84, h101⟩ := kr_X12_putsStep n
    refine ⟨?_, ?_, ?_, ?_⟩
    · intro _ _ _ _
      rw [e_X12_putsStep_0]
      unfold b_X12_putsStep_0
      repeat' (with_reducible first
        | exact ph_none
        | exact ph_some
        | refine ph_gI (by first | decide | omega) (fun _ => ?_)
        | refine ph_gCp (by first | decide | omega) (fun _ => ?_)
        | refine ph_gB (by first | decide | omega) (fun _ => ?_)
        | refine ph_gR (by first | decide | omega) (fun _ => ?_)
        | refine ph_gv (fun _ => ?_)
        | refine ph_gg (fun _ => ?_)
        | refine ph_gc ?_ (fun _ _ => ?_)
        | refine ph_ite (fun _ => ?_) (fun _ => ?_)
        | exact h38 _ _ _ _ _
        | exact (kr_X12_kind _) _ _ _ _
        | exact (kr_X12_part _) _ _ _ _ _
        | exact (kr_X12_puts _) _ _ _ _
        | exact (kr_X12_putsInt _).1 _ _ _ _)
    · intro _ _ _ _ _
      rw [e_X12_putsStep_38]
      unfold b_X12_putsStep_38
      repeat' (with_reducible first
        | exact ph_none
        | exact ph_some
        | refine ph_gI (by first | decide | omega) (fun _ => ?_)
        | refine ph_gCp (by first | decide | omega) (fun _ => ?_)
        | refine ph_gB (by first | decide | omega) (fun _ => ?_)
        | refine ph_gR (by first | decide | omega) (fun _ => ?_)
        | refine ph_gv (fun _ => ?_)
        | refine ph_gg (fun _ => ?_)
        | refine ph_gc ?_ (fun _ _ => ?_)
        | refine ph_ite (fun _ => ?_) (fun _ => ?_)
        | exact h84 _ _ _ _ _ _ _ _
        | exact (kr_X12_part _) _ _ _ _ _)
    · intro _ _ _ _ _ _ _ _
      rw [e_X12_putsStep_84]
      unfold b_X12_putsStep_84
      repeat' (with_reducible first
        | exact ph_none
        | exact ph_some
        | refine ph_gI (by first | decide | omega) (fun _ => ?_)
        | refine ph_gCp (by first | decide | omega) (fun _ => ?_)
        | refine ph_gB (by first | decide | omega) (fun _ => ?_)
        | refine ph_gR (by first | decide | omega) (fun _ => ?_)
        | refine ph_gv (fun _ => ?_)
        | refine ph_gg (fun _ => ?_)
        | refine ph_gc ?_ (fun _ _ => ?_)
        | refine ph_ite (fun _ => ?_) (fun _ => ?_)
        | exact h38 _ _ _ _ _
        | exact h101 _ _ _ _ _ _
        | exact (kr_X12_puts _) _ _ _ _)
    · intro _ _ _ _ _ _
      rw [e_X12_putsStep_101]
      unfold b_X12_putsStep_101
      repeat' (with_reducible first
        | exact ph_none
        | exact ph_some
        | refine ph_gI (by first | decide | omega) (fun _ => ?_)
        | refine ph_gCp (by first | decide | omega) (fun _ => ?_)
        | refine ph_gB (by first | decide | omega) (fun _ => ?_)
        | refine ph_gR (by first | decide | omega) (fun _ => ?_)
        | refine ph_gv (fun _ => ?_)
        | refine ph_gg (fun _ => ?_)
        | refine ph_gc ?_ (fun _ _ => ?_)
        | refine ph_ite (fun _ => ?_) (fun _ => ?_)
        | exact h38 _ _ _ _ _
        | exact (kr_X12_puts _) _ _ _ _)

theorem kr_X12_putsPath : ∀ n : Nat, (∀ (d : Nat) (S : GS) (a1 : Int) (a2 : Int), PH 600 S (f_X12_putsPath n d 0 S [a1, a2])) ∧ (∀ (d : Nat) (S : GS) (a1 : Int) (a3 : Int) (a4 : Int), PH 600 S (f_X12_putsPath n d 5 S [a1, a3, a4])) ∧ (∀ (d : Nat) (S : GS) (a1 : Int) (a4 : Int), PH 600 S (f_X12_putsPath n d 39 S [a1, a4]))
  | 0 => ⟨(fun _ _ _ _ => ph_none), (fun _ _ _ _ _ => ph_none), (fun _ _ _ _ => ph_none)⟩
  | n + 1 => by
    obtain ⟨h0, h5, h39⟩ := kr_X12_putsPath n
    refine ⟨?_, ?_, ?_⟩
    · intro _ _ _ _
      rw [e_X12_putsPath_0]
      unfold b_X12_putsPath_0
      repeat' (with_reducible first
        | exact ph_none
        | exact ph_some
        | refine ph_gI (by first | decide | omega) (fun _ => ?_)
        | refine ph_gCp (by first | decide | omega) (fun _ => ?_)
        | refine ph_gB (by first | decide | omega) (fun _ => ?_)
        | refine ph_gR (by first | decide | omega) (fun _ => ?_)
        | refine ph_gv (fun _ => ?_)
        | refine ph_gg (fun _ => ?_)
        | refine ph_gc ?_ (fun _ _ => ?_)
        | refine ph_ite (fun _ => ?_) (fun _ => ?_)
        | exact h5 _ _ _ _ _)
    · intro _ _ _ _ _
      rw [e_X12_putsPath_5]
      unfold b_X12_putsPath_5
      repeat' (with_reducible first
        | exact ph_none
        | exact ph_some
        | refine ph_gI (by first | decide | omega) (fun _ => ?_)
        | refine ph_gCp (by first | decide | omega) (fun _ => ?_)
        | refine ph_gB (by first | decide | omega) (fun _ => ?_)
        | refine ph_gR (by first | decide | omega) (fun _ => ?_)
        | refine ph_gv (fun _ => ?_)
        | refine ph_gg (fun _ => ?_)
        | refine ph_gc ?_ (fun _ _ => ?_)
        | refine ph_ite (fun _ => ?_) (fun _ => ?_)
        | exact h5 _ _ _ _ _
        | exact h39 _ _ _ _
        | exact (kr_X12_part _) _ _ _ _ _)
    · intro _ _ _ _
      rw [e_X12_putsPath_39]
      unfold b_X12_putsPath_39
      repeat' (with_reducible first
        | exact ph_none
        | exact ph_some
        | refine ph_gI (by first | decide | omega) (fun _ => ?_)
        | refine ph_gCp (by first | decide | omega) (fun _ => ?_)
        | refine ph_gB (by first | decide | omega) (fun _ => ?_)
        | refine ph_gR (by first | decide | omega) (fun _ => ?_)
        | refine ph_gv (fun _ => ?_)
        | refine ph_gg (fun _ => ?_)
        | refine ph_gc ?_ (fun _ _ => ?_)
        | refine ph_ite (fun _ => ?_) (fun _ => ?_)
        | exact h39 _ _ _ _
        | exact (kr_X12_putsStep _).1 _ _ _ _)

theorem kr_X12_pathOfNode : ∀ n : Nat, (∀ (d : Nat) (S : GS) (a1 : Int) (a2 : Int), PH 600 S (f_X12_pathOfNode n d 0 S [a1, a2])) ∧ (∀ (d : Nat) (S : GS) (a3 : Int), PH 600 S (f_X12_pathOfNode n d 43 S [a3]))
  | 0 => ⟨(fun _ _ _ _ => ph_none), (fun _ _ _ => ph_none)⟩
  | n + 1 => by
    obtain ⟨h0, h43⟩ := kr_X12_pathOfNode n
    refine ⟨?_, ?_⟩
    · intro _ _ _ _
      rw [e_X12_pathOfNode_0]
      unfold b_X12_pathOfNode_0
      repeat' (with_reducible first
        | exact ph_none
        | exact ph_some
        | refine ph_gI (by first | decide | omega) (fun _ => ?_)
        | refine ph_gCp (by first | decide | omega) (fun _ => ?_)
        | refine ph_gB (by first | decide | omega) (fun _ => ?_)
        | refine ph_gR (by first | decide | omega) (fun _ => ?_)
        | refine ph_gv (fun _ => ?_)
        | refine ph_gg (fun _ => ?_)
        | refine ph_gc ?_ (fun _ _ => ?_)
        | refine ph_ite (fun _ => ?_) (fun _ => ?_)
        | exact h43 _ _ _
        | exact (kr_X12_putsPath _).1 _ _ _ _)
    · intro _ _ _
      rw [e_X12_pathOfNode_43]
      unfold b_X12_pathOfNode_43
      repeat' (with_reducible first
        | exact ph_none
        | exact ph_some
        | refine ph_gI (by first | decide | omega) (fun _ => ?_)
        | refine ph_gCp (by first | decide | omega) (fun _ => ?_)
        | refine ph_gB (by first | decide | omega) (fun _ => ?_)
        | refine ph_gR (by first | decide | omega) (fun _ => ?_)
        | refine ph_gv (fun _ => ?_)
        | refine ph_gg (fun _ => ?_)
        | refine ph_gc ?_ (fun _ _ => ?_)
        | refine ph_ite (fun _ => ?_) (fun _ => ?_)
        | exact h43 _ _ _)

theorem kr_X12_addsStep : ∀ n : Nat, (∀ (d : Nat) (S : GS) (a1 : Int) (a2 : Int), PH 600 S (f_X12_addsStep n d 0 S [a1, a2])) ∧ (∀ (d : Nat) (S : GS) (a3 : Int), PH 600 S (f_X12_addsStep n d 15 S [a3]))
  | 0 => ⟨(fun _ _ _ _ => ph_none), (fun _ _ _ => ph_none)⟩
  | n + 1 => by
    obtain ⟨h0, h15⟩ := kr_X12_addsStep n
    refine ⟨?_, ?_⟩
    · intro _ _ _ _
      rw [e_X12_addsStep_0]
      unfold b_X12_addsStep_0
      repeat' (with_reducible first
        | exact ph_none
        | exact ph_some
        | refine ph_gI (by first | decide | omega) (fun _ => ?_)
        | refine ph_gCp (by first | decide | omega) (fun _ => ?_)
        | refine ph_gB (by first | decide | omega) (fun _ => ?_)
        | refine ph_gR (by first | decide | omega) (fun _ => ?_)
        | refine ph_gv (fun _ => ?_)
        | refine ph_gg (fun _ => ?_)
        | refine ph_gc ?_ (fun _ _ => ?_)
        | refine ph_ite (fun _ => ?_) (fun _ => ?_)
        | exact h15 _ _ _
        | exact (kr_X12_putsStep _).1 _ _ _ _)
    · intro _ _ _
      rw [e_X12_addsStep_15]
      unfold b_X12_addsStep_15
      repeat' (with_reducible first
        | exact ph_none
        | exact ph_some
        | refine ph_gI (by first | decide | omega) (fun _ => ?_)
        | refine ph_gCp (by first | decide | omega) (fun _ => ?_)
        | refine ph_gB (by first | decide | omega) (fun _ => ?_)
        | refine ph_gR (by first | decide | omega) (fun _ => ?_)
        | refine ph_gv (fun _ => ?_)
        | refine ph_gg (fun _ => ?_)
        | refine ph_gc ?_ (fun _ _ => ?_)
        | refine ph_ite (fun _ => ?_) (fun _ => ?_)
        | exact h15 _ _ _)

theorem kr_X12_says : ∀ n : Nat, (∀ (d : Nat) (S : GS) (a1 : Int), PH 600 S (f_X12_says n d 0 S [a1])) ∧ (∀ (d : Nat) (S : GS) (a1 : Int) (a3 : Int), PH 600 S (f_X12_says n d 8 S [a1, a3]))
  | 0 => ⟨(fun _ _ _ => ph_none), (fun _ _ _ _ => ph_none)⟩
  | n + 1 => by
    obtain ⟨h0, h8⟩ := kr_X12_says n
    refine ⟨?_, ?_⟩
    · intro _ _ _
      rw [e_X12_says_0]
      unfold b_X12_says_0
      repeat' (with_reducible first
        | exact ph_none
        | exact ph_some
        | refine ph_gI (by first | decide | omega) (fun _ => ?_)
        | refine ph_gCp (by first | decide | omega) (fun _ => ?_)
        | refine ph_gB (by first | decide | omega) (fun _ => ?_)
        | refine ph_gR (by first | decide | omega) (fun _ => ?_)
        | refine ph_gv (fun _ => ?_)
        | refine ph_gg (fun _ => ?_)
        | refine ph_gc ?_ (fun _ _ => ?_)
        | refine ph_ite (fun _ => ?_) (fun _ => ?_)
        | exact h8 _ _ _ _)
    · intro _ _ _ _
      rw [e_X12_says_8]
      unfold b_X12_says_8
      repeat' (with_reducible first
        | exact ph_none
        | exact ph_some
        | refine ph_gI (by first | decide | omega) (fun _ => ?_)
        | refine ph_gCp (by first | decide | omega) (fun _ => ?_)
        | refine ph_gB (by first | decide | omega) (fun _ => ?_)
        | refine ph_gR (by first | decide | omega) (fun _ => ?_)
        | refine ph_gv (fun _ => ?_)
        | refine ph_gg (fun _ => ?_)
        | refine ph_gc ?_ (fun _ _ => ?_)
        | refine ph_ite (fun _ => ?_) (fun _ => ?_)
        | exact h8 _ _ _ _)

theorem kr_X12_keyIs : ∀ n : Nat, (∀ (d : Nat) (S : GS) (a1 : Int) (a2 : Int), PH 600 S (f_X12_keyIs n d 0 S [a1, a2])) ∧ (∀ (d : Nat) (S : GS) (a1 : Int) (a2 : Int) (a3 : Int), PH 600 S (f_X12_keyIs n d 18 S [a1, a2, a3]))
  | 0 => ⟨(fun _ _ _ _ => ph_none), (fun _ _ _ _ _ => ph_none)⟩
  | n + 1 => by
    obtain ⟨h0, h18⟩ := kr_X12_keyIs n
    refine ⟨?_, ?_⟩
    · intro _ _ _ _
      rw [e_X12_keyIs_0]
      unfold b_X12_keyIs_0
      repeat' (with_reducible first
        | exact ph_none
        | exact ph_some
        | refine ph_gI (by first | decide | omega) (fun _ => ?_)
        | refine ph_gCp (by first | decide | omega) (fun _ => ?_)
        | refine ph_gB (by first | decide | omega) (fun _ => ?_)
        | refine ph_gR (by first | decide | omega) (fun _ => ?_)
        | refine ph_gv (fun _ => ?_)
        | refine ph_gg (fun _ => ?_)
        | refine ph_gc ?_ (fun _ _ => ?_)
        | refine ph_ite (fun _ => ?_) (fun _ => ?_)
        | exact h18 _ _ _ _ _
        | exact (kr_X12_at _) _ _ _ _)
    · intro _ _ _ _ _
      rw [e_X12_keyIs_18]
      unfold b_X12_keyIs_18
      repeat' (with_reducible first
        | exact ph_none
        | exact ph_some
        | refine ph_gI (by first | decide | omega) (fun _ => ?_)
        | refine ph_gCp (by first | decide | omega) (fun _ => ?_)
        | refine ph_gB (by first | decide | omega) (fun _ => ?_)
        | refine ph_gR (by first | decide | omega) (fun _ => ?_)
        | refine ph_gv (fun _ => ?_)
        | refine ph_gg (fun _ => ?_)
        | refine ph_gc ?_ (fun _ _ => ?_)
        | refine ph_ite (fun _ => ?_) (fun _ => ?_)
        | exact h18 _ _ _ _ _
        | exact (kr_X12_at _) _ _ _ _)

theorem kr_X12_named : ∀ n : Nat, (∀ (d : Nat) (S : GS) (a1 : Int) (a2 : Int) (a3 : Int), PH 600 S (f_X12_named n d 0 S [a1, a2, a3]))
  | 0 => (fun _ _ _ _ _ => ph_none)
  | n + 1 => by
    have h0 := kr_X12_named n
    · intro _ _ _ _ _
      rw [e_X12_named_0]
      unfold b_X12_named_0
      repeat' (with_reducible first
        | exact ph_none
        | exact ph_some
        | refine ph_gI (by first | decide | omega) (fun _ => ?_)
        | refine ph_gCp (by first | decide | omega) (fun _ => ?_)
        | refine ph_gB (by first | decide | omega) (fun _ => ?_)
        | refine ph_gR (by first | decide | omega) (fun _ => ?_)
        | refine ph_gv (fun _ => ?_)
        | refine ph_gg (fun _ => ?_)
        | refine ph_gc ?_ (fun _ _ => ?_)
        | refine ph_ite (fun _ => ?_) (fun _ => ?_)
        | exact (kr_X12_keyIs _).1 _ _ _ _
        | exact (kr_X12_says _).1 _ _ _)

theorem kr_X12_textIs : ∀ n : Nat, (∀ (d : Nat) (S : GS) (a1 : Int) (a2 : Int), PH 600 S (f_X12_textIs n d 0 S [a1, a2])) ∧ (∀ (d : Nat) (S : GS) (a1 : Int) (a2 : Int) (a3 : Int), PH 600 S (f_X12_textIs n d 19 S [a1, a2, a3]))
  | 0 => ⟨(fun _ _ _ _ => ph_none), (fun _ _ _ _ _ => ph_none)⟩
  | n + 1 => by
    obtain ⟨h0, h19⟩ := kr_X12_textIs n
    refine ⟨?_, ?_⟩
    · intro _ _ _ _
      rw [e_X12_textIs_0]
      unfold b_X12_textIs_0
      repeat' (with_reducible first
        | exact ph_none
        | exact ph_some
        | refine ph_gI (by first | decide | omega) (fun _ => ?_)
        | refine ph_gCp (by first | decide | omega) (fun _ => ?_)
        | refine ph_gB (by first | decide | omega) (fun _ => ?_)
        | refine ph_gR (by first | decide | omega) (fun _ => ?_)
        | refine ph_gv (fun _ => ?_)
        | refine ph_gg (fun _ => ?_)
        | refine ph_gc ?_ (fun _ _ => ?_)
        | refine ph_ite (fun _ => ?_) (fun _ => ?_)
        | exact h19 _ _ _ _ _
        | exact (kr_X12_at _) _ _ _ _)
    · intro _ _ _ _ _
      rw [e_X12_textIs_19]
      unfold b_X12_textIs_19
      repeat' (with_reducible first
        | exact ph_none
        | exact ph_some
        | refine ph_gI (by first | decide | omega) (fun _ => ?_)
        | refine ph_gCp (by first | decide | omega) (fun _ => ?_)
        | refine ph_gB (by first | decide | omega) (fun _ => ?_)
        | refine ph_gR (by first | decide | omega) (fun _ => ?_)
        | refine ph_gv (fun _ => ?_)
        | refine ph_gg (fun _ => ?_)
        | refine ph_gc ?_ (fun _ _ => ?_)
        | refine ph_ite (fun _ => ?_) (fun _ => ?_)
        | exact h19 _ _ _ _ _
        | exact (kr_X12_at _) _ _ _ _)

theorem kr_X12_like : ∀ n : Nat, (∀ (d : Nat) (S : GS) (a1 : Int) (a2 : Int) (a3 : Int), PH 600 S (f_X12_like n d 0 S [a1, a2, a3])) ∧ (∀ (d : Nat) (S : GS) (a1 : Int) (a2 : Int) (a3 : Int) (a4 : Int) (a5 : Int), PH 600 S (f_X12_like n d 11 S [a1, a2, a3, a4, a5]))
  | 0 => ⟨(fun _ _ _ _ _ => ph_none), (fun _ _ _ _ _ _ _ => ph_none)⟩
  | n + 1 => by
    obtain ⟨h0, h11⟩ := kr_X12_like n
    refine ⟨?_, ?_⟩
    · intro _ _ _ _ _
      rw [e_X12_like_0]
      unfold b_X12_like_0
      repeat' (with_reducible first
        | exact ph_none
        | exact ph_some
        | refine ph_gI (by first | decide | omega) (fun _ => ?_)
        | refine ph_gCp (by first | decide | omega) (fun _ => ?_)
        | refine ph_gB (by first | decide | omega) (fun _ => ?_)
        | refine ph_gR (by first | decide | omega) (fun _ => ?_)
        | refine ph_gv (fun _ => ?_)
        | refine ph_gg (fun _ => ?_)
        | refine ph_gc ?_ (fun _ _ => ?_)
        | refine ph_ite (fun _ => ?_) (fun _ => ?_)
        | exact h11 _ _ _ _ _ _ _
        | exact (kr_X12_added _).1 _ _ _ _)
    · intro _ _ _ _ _ _ _
      rw [e_X12_like_11]
      unfold b_X12_like_11
      repeat' (with_reducible first
        | exact ph_none
        | exact ph_some
        | refine ph_gI (by first | decide | omega) (fun _ => ?_)
        | refine ph_gCp (by first | decide | omega) (fun _ => ?_)
        | refine ph_gB (by first | decide | omega) (fun _ => ?_)
        | refine ph_gR (by first | decide | omega) (fun _ => ?_)
        | refine ph_gv (fun _ => ?_)
        | refine ph_gg (fun _ => ?_)
        | refine ph_gc ?_ (fun _ _ => ?_)
        | refine ph_ite (fun _ => ?_) (fun _ => ?_)
        | exact h11 _ _ _ _ _ _ _
        | exact (kr_X12_at _) _ _ _ _)

theorem kr_X12_copies : ∀ n : Nat, (∀ (d : Nat) (S : GS) (a1 : Int) (a2 : Int) (a3 : Int) (a4 : Int), PH 600 S (f_X12_copies n d 0 S [a1, a2, a3, a4])) ∧ (∀ (d : Nat) (S : GS) (a1 : Int) (a2 : Int) (a4 : Int) (a5 : Int), PH 600 S (f_X12_copies n d 3 S [a1, a2, a4, a5]))
  | 0 => ⟨(fun _ _ _ _ _ _ => ph_none), (fun _ _ _ _ _ _ => ph_none)⟩
  | n + 1 => by
    obtain ⟨h0, h3⟩ := kr_X12_copies n
    refine ⟨?_, ?_⟩
    · intro _ _ _ _ _ _
      rw [e_X12_copies_0]
      unfold b_X12_copies_0
      repeat' (with_reducible first
        | exact ph_none
        | exact ph_some
        | refine ph_gI (by first | decide | omega) (fun _ => ?_)
        | refine ph_gCp (by first | decide | omega) (fun _ => ?_)
        | refine ph_gB (by first | decide | omega) (fun _ => ?_)
        | refine ph_gR (by first | decide | omega) (fun _ => ?_)
        | refine ph_gv (fun _ => ?_)
        | refine ph_gg (fun _ => ?_)
        | refine ph_gc ?_ (fun _ _ => ?_)
        | refine ph_ite (fun _ => ?_) (fun _ => ?_)
        | exact h3 _ _ _ _ _ _)
    · intro _ _ _ _ _ _
      rw [e_X12_copies_3]
      unfold b_X12_copies_3
      repeat' (with_reducible first
        | exact ph_none
        | exact ph_some
        | refine ph_gI (by first | decide | omega) (fun _ => ?_)
        | refine ph_gCp (by first | decide | omega) (fun _ => ?_)
        | refine ph_gB (by first | decide | omega) (fun _ => ?_)
        | refine ph_gR (by first | decide | omega) (fun _ => ?_)
        | refine ph_gv (fun _ => ?_)
        | refine ph_gg (fun _ => ?_)
        | refine ph_gc ?_ (fun _ _ => ?_)
        | refine ph_ite (fun _ => ?_) (fun _ => ?_)
        | exact h3 _ _ _ _ _ _
        | exact (kr_X12_at _) _ _ _ _
        | exact (kr_X12_like _).1 _ _ _ _ _
        | exact (kr_X12_part _) _ _ _ _ _)

theorem kr_X12_noKey : ∀ n : Nat, (∀ (d : Nat) (S : GS) (a1 : Int) (a2 : Int), PH 600 S (f_X12_noKey n d 0 S [a1, a2]))
  | 0 => (fun _ _ _ _ => ph_none)
  | n + 1 => by
    have h0 := kr_X12_noKey n
    · intro _ _ _ _
      rw [e_X12_noKey_0]
      unfold b_X12_noKey_0
      repeat' (with_reducible first
        | exact ph_none
        | exact ph_some
        | refine ph_gI (by first | decide | omega) (fun _ => ?_)
        | refine ph_gCp (by first | decide | omega) (fun _ => ?_)
        | refine ph_gB (by first | decide | omega) (fun _ => ?_)
        | refine ph_gR (by first | decide | omega) (fun _ => ?_)
        | refine ph_gv (fun _ => ?_)
        | refine ph_gg (fun _ => ?_)
        | refine ph_gc ?_ (fun _ _ => ?_)
        | refine ph_ite (fun _ => ?_) (fun _ => ?_)
        | exact (kr_X12_at _) _ _ _ _)

theorem kr_X12_brings : ∀ n : Nat, (∀ (d : Nat) (S : GS) (a1 : Int) (a2 : Int) (a3 : Int) (a4 : Int), PH 600 S (f_X12_brings n d 0 S [a1, a2, a3, a4]))
  | 0 => (fun _ _ _ _ _ _ => ph_none)
  | n + 1 => by
    have h0 := kr_X12_brings n
    · intro _ _ _ _ _ _
      rw [e_X12_brings_0]
      unfold b_X12_brings_0
      repeat' (with_reducible first
        | exact ph_none
        | exact ph_some
        | refine ph_gI (by first | decide | omega) (fun _ => ?_)
        | refine ph_gCp (by first | decide | omega) (fun _ => ?_)
        | refine ph_gB (by first | decide | omega) (fun _ => ?_)
        | refine ph_gR (by first | decide | omega) (fun _ => ?_)
        | refine ph_gv (fun _ => ?_)
        | refine ph_gg (fun _ => ?_)
        | refine ph_gc ?_ (fun _ _ => ?_)
        | refine ph_ite (fun _ => ?_) (fun _ => ?_)
        | exact (kr_X12_copies _).1 _ _ _ _ _ _
        | exact (kr_X12_endOf _) _ _ _ _
        | exact (kr_X12_keyIs _).1 _ _ _ _
        | exact (kr_X12_noKey _) _ _ _ _)

theorem kr_X12_ordered : ∀ n : Nat, (∀ (d : Nat) (S : GS) (a1 : Int) (a2 : Int) (a3 : Int) (a4 : Int), PH 600 S (f_X12_ordered n d 0 S [a1, a2, a3, a4])) ∧ (∀ (d : Nat) (S : GS) (a1 : Int) (a2 : Int) (a3 : Int) (a4 : Int) (s0 : Int), PH 600 S (f_X12_ordered n d 18 S [a1, a2, a3, a4, s0])) ∧ (∀ (d : Nat) (S : GS) (a1 : Int) (a2 : Int) (a3 : Int) (a4 : Int) (s0 : Int), PH 600 S (f_X12_ordered n d 58 S [a1, a2, a3, a4, s0])) ∧ (∀ (d : Nat) (S : GS) (a1 : Int) (a2 : Int) (a3 : Int) (a4 : Int) (s0 : Int) (s1 : Int), PH 600 S (f_X12_ordered n d 108 S [a1, a2, a3, a4, s0, s1])) ∧ (∀ (d : Nat) (S : GS) (a1 : Int) (a3 : Int) (a4 : Int) (a7 : Int) (a8 : Int), PH 600 S (f_X12_ordered n d 187 S [a1, a3, a4, a7, a8]))
  | 0 => ⟨(fun _ _ _ _ _ _ => ph_none), (fun _ _ _ _ _ _ _ => ph_none), (fun _ _ _ _ _ _ _ => ph_none), (fun _ _ _ _ _ _ _ _ => ph_none), (fun _ _ _ _ _ _ _ => ph_none)⟩
  | n + 1 => by
    obtain ⟨h0, h18, h58, h108, h187⟩ := kr_X12_ordered n
    refine ⟨?_, ?_, ?_, ?_, ?_⟩
    · intro _ _ _ _ _ _
      rw [e_X12_ordered_0]
      unfold b_X12_ordered_0
      repeat' (with_reducible first
        | exact ph_none
        | exact ph_some
        | refine ph_gI (by first | decide | omega) (fun _ => ?_)
        | refine ph_gCp (by first | decide | omega) (fun _ => ?_)
        | refine ph_gB (by first | decide | omega) (fun _ => ?_)
        | refine ph_gR (by first | decide | omega) (fun _ => ?_)
        | refine ph_gv (fun _ => ?_)
        | refine ph_gg (fun _ => ?_)
        | refine ph_gc ?_ (fun _ _ => ?_)
        | refine ph_ite (fun _ => ?_) (fun _ => ?_)
        | exact h18 _ _ _ _ _ _ _
        | exact (kr_X12_part _) _ _ _ _ _)
    · intro _ _ _ _ _ _ _
      rw [e_X12_ordered_18]
      unfold b_X12_ordered_18
      repeat' (with_reducible first
        | exact ph_none
        | exact ph_some
        | refine ph_gI (by first | decide | omega) (fun _ => ?_)
        | refine ph_gCp (by first | decide | omega) (fun _ => ?_)
        | refine ph_gB (by first | decide | omega) (fun _ => ?_)
        | refine ph_gR (by first | decide | omega) (fun _ => ?_)
        | refine ph_gv (fun _ => ?_)
        | refine ph_gg (fun _ => ?_)
        | refine ph_gc ?_ (fun _ _ => ?_)
        | refine ph_ite (fun _ => ?_) (fun _ => ?_)
        | exact h58 _ _ _ _ _ _ _)
    · intro _ _ _ _ _ _ _
      rw [e_X12_ordered_58]
      unfold b_X12_ordered_58
      repeat' (with_reducible first
        | exact ph_none
        | exact ph_some
        | refine ph_gI (by first | decide | omega) (fun _ => ?_)
        | refine ph_gCp (by first | decide | omega) (fun _ => ?_)
        | refine ph_gB (by first | decide | omega) (fun _ => ?_)
        | refine ph_gR (by first | decide | omega) (fun _ => ?_)
        | refine ph_gv (fun _ => ?_)
        | refine ph_gg (fun _ => ?_)
        | refine ph_gc ?_ (fun _ _ => ?_)
        | refine ph_ite (fun _ => ?_) (fun _ => ?_)
        | exact h108 _ _ _ _ _ _ _ _
        | exact (kr_X12_added _).1 _ _ _ _
        | exact (kr_X12_at _) _ _ _ _)
    · intro _ _ _ _ _ _ _ _
      rw [e_X12_ordered_108]
      unfold b_X12_ordered_108
      repeat' (with_reducible first
        | exact ph_none
        | exact ph_some
        | refine ph_gI (by first | decide | omega) (fun _ => ?_)
        | refine ph_gCp (by first | decide | omega) (fun _ => ?_)
        | refine ph_gB (by first | decide | omega) (fun _ => ?_)
        | refine ph_gR (by first | decide | omega) (fun _ => ?_)
        | refine ph_gv (fun _ => ?_)
        | refine ph_gg (fun _ => ?_)
        | refine ph_gc ?_ (fun _ _ => ?_)
        | refine ph_ite (fun _ => ?_) (fun _ => ?_)
        | exact h187 _ _ _ _ _ _ _
        | exact (kr_X12_added _).1 _ _ _ _
        | exact (kr_X12_named _) _ _ _ _ _
        | exact (kr_X12_says _).1 _ _ _
        | exact (kr_X12_textIs _).1 _ _ _ _)
    · intro _ _ _ _ _ _ _
      rw [e_X12_ordered_187]
      unfold b_X12_ordered_187
      repeat' (with_reducible first
        | exact ph_none
        | exact ph_some
        | refine ph_gI (by first | decide | omega) (fun _ => ?_)
        | refine ph_gCp (by first | decide | omega) (fun _ => ?_)
        | refine ph_gB (by first | decide | omega) (fun _ => ?_)
        | refine ph_gR (by first | decide | omega) (fun _ => ?_)
        | refine ph_gv (fun _ => ?_)
        | refine ph_gg (fun _ => ?_)
        | refine ph_gc ?_ (fun _ _ => ?_)
        | refine ph_ite (fun _ => ?_) (fun _ => ?_)
        | exact h187 _ _ _ _ _ _ _
        | exact (kr_X12_brings _) _ _ _ _ _ _
        | exact (kr_X12_says _).1 _ _ _
        | exact (kr_X12_textIs _).1 _ _ _ _)

theorem kr_X12_addsKeys : ∀ n : Nat, (∀ (d : Nat) (S : GS) (a1 : Int) (a2 : Int) (a3 : Int) (a4 : Int), PH 600 S (f_X12_addsKeys n d 0 S [a1, a2, a3, a4])) ∧ (∀ (d : Nat) (S : GS) (a1 : Int) (a2 : Int) (a3 : Int) (a4 : Int) (a5 : Int) (a6 : Int), PH 600 S (f_X12_addsKeys n d 9 S [a1, a2, a3, a4, a5, a6]))
  | 0 => ⟨(fun _ _ _ _ _ _ => ph_none), (fun _ _ _ _ _ _ _ _ => ph_none)⟩
  | n + 1 => by
    obtain ⟨h0, h9⟩ := kr_X12_addsKeys n
    refine ⟨?_, ?_⟩
    · intro _ _ _ _ _ _
      rw [e_X12_addsKeys_0]
      unfold b_X12_addsKeys_0
      repeat' (with_reducible first
        | exact ph_none
        | exact ph_some
        | refine ph_gI (by first | decide | omega) (fun _ => ?_)
        | refine ph_gCp (by first | decide | omega) (fun _ => ?_)
        | refine ph_gB (by first | decide | omega) (fun _ => ?_)
        | refine ph_gR (by first | decide | omega) (fun _ => ?_)
        | refine ph_gv (fun _ => ?_)
        | refine ph_gg (fun _ => ?_)
        | refine ph_gc ?_ (fun _ _ => ?_)
        | refine ph_ite (fun _ => ?_) (fun _ => ?_)
        | exact h9 _ _ _ _ _ _ _ _)
    · intro _ _ _ _ _ _ _ _
      rw [e_X12_addsKeys_9]
      unfold b_X12_addsKeys_9
      repeat' (with_reducible first
        | exact ph_none
        | exact ph_some
        | refine ph_gI (by first | decide | omega) (fun _ => ?_)
        | refine ph_gCp (by first | decide | omega) (fun _ => ?_)
        | refine ph_gB (by first | decide | omega) (fun _ => ?_)
        | refine ph_gR (by first | decide | omega) (fun _ => ?_)
        | refine ph_gv (fun _ => ?_)
        | refine ph_gg (fun _ => ?_)
        | refine ph_gc ?_ (fun _ _ => ?_)
        | refine ph_ite (fun _ => ?_) (fun _ => ?_)
        | exact h9 _ _ _ _ _ _ _ _
        | exact (kr_X12_addsStep _).1 _ _ _ _
        | exact (kr_X12_childLike _).1 _ _ _ _ _ _
        | exact (kr_X12_endOf _) _ _ _ _
        | exact (kr_X12_ordered _).1 _ _ _ _ _ _
        | exact (kr_X12_part _) _ _ _ _ _
        | exact (kr_X12_pathOfNode _).1 _ _ _ _)

theorem kr_X12_addsPlace : ∀ n : Nat, (∀ (d : Nat) (S : GS) (a1 : Int), PH 600 S (f_X12_addsPlace n d 0 S [a1])) ∧ (∀ (d : Nat) (S : GS) (a2 : Int), PH 600 S (f_X12_addsPlace n d 22 S [a2]))
  | 0 => ⟨(fun _ _ _ => ph_none), (fun _ _ _ => ph_none)⟩
  | n + 1 => by
    obtain ⟨h0, h22⟩ := kr_X12_addsPlace n
    refine ⟨?_, ?_⟩
    · intro _ _ _
      rw [e_X12_addsPlace_0]
      unfold b_X12_addsPlace_0
      repeat' (with_reducible first
        | exact ph_none
        | exact ph_some
        | refine ph_gI (by first | decide | omega) (fun _ => ?_)
        | refine ph_gCp (by first | decide | omega) (fun _ => ?_)
        | refine ph_gB (by first | decide | omega) (fun _ => ?_)
        | refine ph_gR (by first | decide | omega) (fun _ => ?_)
        | refine ph_gv (fun _ => ?_)
        | refine ph_gg (fun _ => ?_)
        | refine ph_gc ?_ (fun _ _ => ?_)
        | refine ph_ite (fun _ => ?_) (fun _ => ?_)
        | exact h22 _ _ _
        | exact (kr_X12_puts _) _ _ _ _
        | exact (kr_X12_putsInt _).1 _ _ _ _)
    · intro _ _ _
      rw [e_X12_addsPlace_22]
      unfold b_X12_addsPlace_22
      repeat' (with_reducible first
        | exact ph_none
        | exact ph_some
        | refine ph_gI (by first | decide | omega) (fun _ => ?_)
        | refine ph_gCp (by first | decide | omega) (fun _ => ?_)
        | refine ph_gB (by first | decide | omega) (fun _ => ?_)
        | refine ph_gR (by first | decide | omega) (fun _ => ?_)
        | refine ph_gv (fun _ => ?_)
        | refine ph_gg (fun _ => ?_)
        | refine ph_gc ?_ (fun _ _ => ?_)
        | refine ph_ite (fun _ => ?_) (fun _ => ?_)
        | exact h22 _ _ _)

theorem kr_X12_addsWord : ∀ n : Nat, (∀ (d : Nat) (S : GS), PH 600 S (f_X12_addsWord n d 0 S [])) ∧ (∀ (d : Nat) (S : GS) (a1 : Int), PH 600 S (f_X12_addsWord n d 23 S [a1])) ∧ (∀ (d : Nat) (S : GS) (a1 : Int) (s0 : Int), PH 600 S (f_X12_addsWord n d 58 S [a1, s0])) ∧ (∀ (d : Nat) (S : GS) (a1 : Int) (a2 : Int) (s0 : Int) (s1 : Int), PH 600 S (f_X12_addsWord n d 82 S [a1, a2, s0, s1])) ∧ (∀ (d : Nat) (S : GS) (a1 : Int) (s0 : Int) (s1 : Int), PH 600 S (f_X12_addsWord n d 123 S [a1, s0, s1]))
  | 0 => ⟨(fun _ _ => ph_none), (fun _ _ _ => ph_none), (fun _ _ _ _ => ph_none), (fun _ _ _ _ _ _ => ph_none), (fun _ _ _ _ _ => ph_none)⟩
  | n + 1 => by
    obtain ⟨h0, h23, h58, h82, h123⟩ := kr_X12_addsWord n
    refine ⟨?_, ?_, ?_, ?_, ?_⟩
    · intro _ _
      rw [e_X12_addsWord_0]
      unfold b_X12_addsWord_0
      repeat' (with_reducible first
        | exact ph_none
        | exact ph_some
        | refine ph_gI (by first | decide | omega) (fun _ => ?_)
        | refine ph_gCp (by first | decide | omega) (fun _ => ?_)
        | refine ph_gB (by first | decide | omega) (fun _ => ?_)
        | refine ph_gR (by first | decide | omega) (fun _ => ?_)
        | refine ph_gv (fun _ => ?_)
        | refine ph_gg (fun _ => ?_)
        | refine ph_gc ?_ (fun _ _ => ?_)
        | refine ph_ite (fun _ => ?_) (fun _ => ?_)
        | exact h23 _ _ _)
    · intro _ _ _
      rw [e_X12_addsWord_23]
      unfold b_X12_addsWord_23
      repeat' (with_reducible first
        | exact ph_none
        | exact ph_some
        | refine ph_gI (by first | decide | omega) (fun _ => ?_)
        | refine ph_gCp (by first | decide | omega) (fun _ => ?_)
        | refine ph_gB (by first | decide | omega) (fun _ => ?_)
        | refine ph_gR (by first | decide | omega) (fun _ => ?_)
        | refine ph_gv (fun _ => ?_)
        | refine ph_gg (fun _ => ?_)
        | refine ph_gc ?_ (fun _ _ => ?_)
        | refine ph_ite (fun _ => ?_) (fun _ => ?_)
        | exact h58 _ _ _ _)
    · intro _ _ _ _
      rw [e_X12_addsWord_58]
      unfold b_X12_addsWord_58
      repeat' (with_reducible first
        | exact ph_none
        | exact ph_some
        | refine ph_gI (by first | decide | omega) (fun _ => ?_)
        | refine ph_gCp (by first | decide | omega) (fun _ => ?_)
        | refine ph_gB (by first | decide | omega) (fun _ => ?_)
        | refine ph_gR (by first | decide | omega) (fun _ => ?_)
        | refine ph_gv (fun _ => ?_)
        | refine ph_gg (fun _ => ?_)
        | refine ph_gc ?_ (fun _ _ => ?_)
        | refine ph_ite (fun _ => ?_) (fun _ => ?_)
        | exact h82 _ _ _ _ _ _)
    · intro _ _ _ _ _ _
      rw [e_X12_addsWord_82]
      unfold b_X12_addsWord_82
      repeat' (with_reducible first
        | exact ph_none
        | exact ph_some
        | refine ph_gI (by first | decide | omega) (fun _ => ?_)
        | refine ph_gCp (by first | decide | omega) (fun _ => ?_)
        | refine ph_gB (by first | decide | omega) (fun _ => ?_)
        | refine ph_gR (by first | decide | omega) (fun _ => ?_)
        | refine ph_gv (fun _ => ?_)
        | refine ph_gg (fun _ => ?_)
        | refine ph_gc ?_ (fun _ _ => ?_)
        | refine ph_ite (fun _ => ?_) (fun _ => ?_)
        | exact h23 _ _ _
        | exact h123 _ _ _ _ _)
    · intro _ _ _ _ _
      rw [e_X12_addsWord_123]
      unfold b_X12_addsWord_123
      repeat' (with_reducible first
        | exact ph_none
        | exact ph_some
        | refine ph_gI (by first | decide | omega) (fun _ => ?_)
        | refine ph_gCp (by first | decide | omega) (fun _ => ?_)
        | refine ph_gB (by first | decide | omega) (fun _ => ?_)
        | refine ph_gR (by first | decide | omega) (fun _ => ?_)
        | refine ph_gv (fun _ => ?_)
        | refine ph_gg (fun _ => ?_)
        | refine ph_gc ?_ (fun _ _ => ?_)
        | refine ph_ite (fun _ => ?_) (fun _ => ?_)
        | exact h23 _ _ _)

