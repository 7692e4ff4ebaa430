/-! CELLS that the reference never touches -/
theorem kr_X12_putsLetters : ∀ n : Nat, (∀ (d : Nat) (S : GS) (a1 : Int) (a2 : Int), PH 600 S (f_X12_putsLetters n d 0 S [a1, a2])) ∧ (∀ (d : Nat) (S : GS) (a1 : Int) (a2 : Int) (a4 : Int), PH 600 S (f_X12_putsLetters n d 4 S [a1, a2, a4]))
  | 0 => ⟨(fun _ _ _ _ => ph_none), (fun _ _ _ _ _ => ph_none)⟩
  | n + 1 => by
    obtain ⟨h0, h4⟩ := kr_X12_putsLetters n
    refine ⟨?_, ?_⟩
    · intro _ _ _ _
      rw [e_X12_putsLetters_0]
      unfold b_X12_putsLetters_0
      repeat' (with_reducible first
        | exact ph_none
        | exact ph_some
        | refine ph_gI (by first | decide | omega) (fun _ => ?_)
        | refine ph_gCp (by first | decide | omega) (fun _ => ?_)
        | refine ph_gB (by first | decide | omega) (fun _ => ?_)
        | refine ph_gR (by first | decide | omega) (fun _ => ?_)
        | refine ph_gv (fun _ => ?_)
        | refine ph_gg (fun _ => ?_)
        | refine ph_gc ?_ (fun _ _ => ?_)
        | refine ph_ite (fun _ => ?_) (fun _ => ?_)
        | exact h4 _ _ _ _ _)
    · intro _ _ _ _ _
      rw [e_X12_putsLetters_4]
      unfold b_X12_putsLetters_4
      repeat' (with_reducible first
        | exact ph_none
        | exact ph_some
        | refine ph_gI (by first | decide | omega) (fun _ => ?_)
        | refine ph_gCp (by first | decide | omega) (fun _ => ?_)
        | refine ph_gB (by first | decide | omega) (fun _ => ?_)
        | refine ph_gR (by first | decide | omega) (fun _ => ?_)
        | refine ph_gv (fun _ => ?_)
        | refine ph_gg (fun _ => ?_)
        | refine ph_gc ?_ (fun _ _ => ?_)
        | refine ph_ite (fun _ => ?_) (fun _ => ?_)
        | exact h4 _ _ _ _ _
        | exact (kr_X12_puts _) _ _ _ _)

theorem kr_X12_hexSign : ∀ n : Nat, (∀ (d : Nat) (S : GS) (a0 : Int), PH 600 S (f_X12_hexSign n d 0 S [a0]))
  | 0 => (fun _ _ _ => ph_none)
  | n + 1 => by
    have h0 := kr_X12_hexSign n
    · intro _ _ _
      rw [e_X12_hexSign_0]
      unfold b_X12_hexSign_0
      repeat' (with_reducible first
        | exact ph_none
        | exact ph_some
        | refine ph_gI (by first | decide | omega) (fun _ => ?_)
        | refine ph_gCp (by first | decide | omega) (fun _ => ?_)
        | refine ph_gB (by first | decide | omega) (fun _ => ?_)
        | refine ph_gR (by first | decide | omega) (fun _ => ?_)
        | refine ph_gv (fun _ => ?_)
        | refine ph_gg (fun _ => ?_)
        | refine ph_gc ?_ (fun _ _ => ?_)
        | refine ph_ite (fun _ => ?_) (fun _ => ?_))

theorem kr_X12_putsQuoted : ∀ n : Nat, (∀ (d : Nat) (S : GS) (a1 : Int) (a2 : Int) (a3 : Int), PH 600 S (f_X12_putsQuoted n d 0 S [a1, a2, a3])) ∧ (∀ (d : Nat) (S : GS) (a1 : Int) (a2 : Int) (a3 : Int) (a4 : Int), PH 600 S (f_X12_putsQuoted n d 10 S [a1, a2, a3, a4])) ∧ (∀ (d : Nat) (S : GS) (a1 : Int) (a2 : Int) (a3 : Int) (a4 : Int) (a5 : Int), PH 600 S (f_X12_putsQuoted n d 41 S [a1, a2, a3, a4, a5])) ∧ (∀ (d : Nat) (S : GS) (a1 : Int) (a2 : Int) (a3 : Int) (a4 : Int) (a5 : Int), PH 600 S (f_X12_putsQuoted n d 112 S [a1, a2, a3, a4, a5]))
  | 0 => ⟨(fun _ _ _ _ _ => ph_none), (fun _ _ _ _ _ _ => ph_none), (fun _ _ _ _ _ _ _ => ph_none), (fun _ _ _ _ _ _ _ => ph_none)⟩
  | n + 1 => by
    obtain ⟨h0, h10, h41, h112⟩ := kr_X12_putsQuoted n
    refine ⟨?_, ?_, ?_, ?_⟩
    · intro _ _ _ _ _
      rw [e_X12_putsQuoted_0]
      unfold b_X12_putsQuoted_0
      repeat' (with_reducible first
        | exact ph_none
        | exact ph_some
        | refine ph_gI (by first | decide | omega) (fun _ => ?_)
        | refine ph_gCp (by first | decide | omega) (fun _ => ?_)
        | refine ph_gB (by first | decide | omega) (fun _ => ?_)
        | refine ph_gR (by first | decide | omega) (fun _ => ?_)
        | refine ph_gv (fun _ => ?_)
        | refine ph_gg (fun _ => ?_)
        | refine ph_gc ?_ (fun _ _ => ?_)
        | refine ph_ite (fun _ => ?_) (fun _ => ?_)
        | exact h10 _ _ _ _ _ _
        | exact (kr_X12_puts _) _ _ _ _)
    · intro _ _ _ _ _ _
      rw [e_X12_putsQuoted_10]
      unfold b_X12_putsQuoted_10
      repeat' (with_reducible first
        | exact ph_none
        | exact ph_some
        | refine ph_gI (by first | decide | omega) (fun _ => ?_)
        | refine ph_gCp (by first | decide | omega) (fun _ => ?_)
        | refine ph_gB (by first | decide | omega) (fun _ => ?_)
        | refine ph_gR (by first | decide | omega) (fun _ => ?_)
        | refine ph_gv (fun _ => ?_)
        | refine ph_gg (fun _ => ?_)
        | refine ph_gc ?_ (fun _ _ => ?_)
        | refine ph_ite (fun _ => ?_) (fun _ => ?_)
        | exact h10 _ _ _ _ _ _
        | exact h41 _ _ _ _ _ _ _
        | exact h112 _ _ _ _ _ _ _
        | exact (kr_X12_puts _) _ _ _ _)
    · intro _ _ _ _ _ _ _
      rw [e_X12_putsQuoted_41]
      unfold b_X12_putsQuoted_41
      repeat' (with_reducible first
        | exact ph_none
        | exact ph_some
        | refine ph_gI (by first | decide | omega) (fun _ => ?_)
        | refine ph_gCp (by first | decide | omega) (fun _ => ?_)
        | refine ph_gB (by first | decide | omega) (fun _ => ?_)
        | refine ph_gR (by first | decide | omega) (fun _ => ?_)
        | refine ph_gv (fun _ => ?_)
        | refine ph_gg (fun _ => ?_)
        | refine ph_gc ?_ (fun _ _ => ?_)
        | refine ph_ite (fun _ => ?_) (fun _ => ?_)
        | exact h10 _ _ _ _ _ _
        | exact (kr_X12_hexSign _) _ _ _
        | exact (kr_X12_puts _) _ _ _ _)
    · intro _ _ _ _ _ _ _
      rw [e_X12_putsQuoted_112]
      unfold b_X12_putsQuoted_112
      repeat' (with_reducible first
        | exact ph_none
        | exact ph_some
        | refine ph_gI (by first | decide | omega) (fun _ => ?_)
        | refine ph_gCp (by first | decide | omega) (fun _ => ?_)
        | refine ph_gB (by first | decide | omega) (fun _ => ?_)
        | refine ph_gR (by first | decide | omega) (fun _ => ?_)
        | refine ph_gv (fun _ => ?_)
        | refine ph_gg (fun _ => ?_)
        | refine ph_gc ?_ (fun _ _ => ?_)
        | refine ph_ite (fun _ => ?_) (fun _ => ?_)
        | exact h10 _ _ _ _ _ _
        | exact (kr_X12_puts _) _ _ _ _)

theorem kr_X12_putsScalar : ∀ n : Nat, (∀ (d : Nat) (S : GS) (a1 : Int) (a2 : Int) (a3 : Int), PH 600 S (f_X12_putsScalar n d 0 S [a1, a2, a3])) ∧ (∀ (d : Nat) (S : GS) (a1 : Int) (a4 : Int) (a6 : Int), PH 600 S (f_X12_putsScalar n d 127 S [a1, a4, a6])) ∧ (∀ (d : Nat) (S : GS) (a1 : Int) (a5 : Int) (s0 : Int) (s1 : Int), PH 600 S (f_X12_putsScalar n d 219 S [a1, a5, s0, s1]))
  | 0 => ⟨(fun _ _ _ _ _ => ph_none), (fun _ _ _ _ _ => ph_none), (fun _ _ _ _ _ _ => ph_none)⟩
  | n + 1 => by
    obtain ⟨h0, h127, h219⟩ := kr_X12_putsScalar n
    refine ⟨?_, ?_, ?_⟩
    · intro _ _ _ _ _
      rw [e_X12_putsScalar_0]
      unfold b_X12_putsScalar_0
      repeat' (with_reducible first
        | exact ph_none
        | exact ph_some
        | refine ph_gI (by first | decide | omega) (fun _ => ?_)
        | refine ph_gCp (by first | decide | omega) (fun _ => ?_)
        | refine ph_gB (by first | decide | omega) (fun _ => ?_)
        | refine ph_gR (by first | decide | omega) (fun _ => ?_)
        | refine ph_gv (fun _ => ?_)
        | refine ph_gg (fun _ => ?_)
        | refine ph_gc ?_ (fun _ _ => ?_)
        | refine ph_ite (fun _ => ?_) (fun _ => ?_)
        | exact h127 _ _ _ _ _
        | exact h219 _ _ _ _ _ _
        | exact (kr_X12_at _) _ _ _ _
        | exact (kr_X12_puts _) _ _ _ _
        | exact (kr_X12_putsLetters _).1 _ _ _ _
        | exact (kr_X12_putsQuoted _).1 _ _ _ _ _)
    · intro _ _ _ _ _
      rw [e_X12_putsScalar_127]
      unfold b_X12_putsScalar_127
      repeat' (with_reducible first
        | exact ph_none
        | exact ph_some
        | refine ph_gI (by first | decide | omega) (fun _ => ?_)
        | refine ph_gCp (by first | decide | omega) (fun _ => ?_)
        | refine ph_gB (by first | decide | omega) (fun _ => ?_)
        | refine ph_gR (by first | decide | omega) (fun _ => ?_)
        | refine ph_gv (fun _ => ?_)
        | refine ph_gg (fun _ => ?_)
        | refine ph_gc ?_ (fun _ _ => ?_)
        | refine ph_ite (fun _ => ?_) (fun _ => ?_)
        | exact h127 _ _ _ _ _
        | exact (kr_X12_puts _) _ _ _ _
        | exact (kr_X12_putsInt _).1 _ _ _ _)
    · intro _ _ _ _ _ _
      rw [e_X12_putsScalar_219]
      unfold b_X12_putsScalar_219
      repeat' (with_reducible first
        | exact ph_none
        | exact ph_some
        | refine ph_gI (by first | decide | omega) (fun _ => ?_)
        | refine ph_gCp (by first | decide | omega) (fun _ => ?_)
        | refine ph_gB (by first | decide | omega) (fun _ => ?_)
        | refine ph_gR (by first | decide | omega) (fun _ => ?_)
        | refine ph_gv (fun _ => ?_)
        | refine ph_gg (fun _ => ?_)
        | refine ph_gc ?_ (fun _ _ => ?_)
        | refine ph_ite (fun _ => ?_) (fun _ => ?_)
        | exact (kr_X12_puts _) _ _ _ _)

theorem kr_X12_isLater : ∀ n : Nat, (∀ (d : Nat) (S : GS) (a1 : Int) (a2 : Int) (a3 : Int), PH 600 S (f_X12_isLater n d 0 S [a1, a2, a3])) ∧ (∀ (d : Nat) (S : GS) (a1 : Int) (a3 : Int) (a4 : Int), PH 600 S (f_X12_isLater n d 5 S [a1, a3, a4]))
  | 0 => ⟨(fun _ _ _ _ _ => ph_none), (fun _ _ _ _ _ => ph_none)⟩
  | n + 1 => by
    obtain ⟨h0, h5⟩ := kr_X12_isLater n
    refine ⟨?_, ?_⟩
    · intro _ _ _ _ _
      rw [e_X12_isLater_0]
      unfold b_X12_isLater_0
      repeat' (with_reducible first
        | exact ph_none
        | exact ph_some
        | refine ph_gI (by first | decide | omega) (fun _ => ?_)
        | refine ph_gCp (by first | decide | omega) (fun _ => ?_)
        | refine ph_gB (by first | decide | omega) (fun _ => ?_)
        | refine ph_gR (by first | decide | omega) (fun _ => ?_)
        | refine ph_gv (fun _ => ?_)
        | refine ph_gg (fun _ => ?_)
        | refine ph_gc ?_ (fun _ _ => ?_)
        | refine ph_ite (fun _ => ?_) (fun _ => ?_)
        | exact h5 _ _ _ _ _)
    · intro _ _ _ _ _
      rw [e_X12_isLater_5]
      unfold b_X12_isLater_5
      repeat' (with_reducible first
        | exact ph_none
        | exact ph_some
        | refine ph_gI (by first | decide | omega) (fun _ => ?_)
        | refine ph_gCp (by first | decide | omega) (fun _ => ?_)
        | refine ph_gB (by first | decide | omega) (fun _ => ?_)
        | refine ph_gR (by first | decide | omega) (fun _ => ?_)
        | refine ph_gv (fun _ => ?_)
        | refine ph_gg (fun _ => ?_)
        | refine ph_gc ?_ (fun _ _ => ?_)
        | refine ph_ite (fun _ => ?_) (fun _ => ?_)
        | exact h5 _ _ _ _ _
        | exact (kr_X12_byKeys _).1 _ _ _ _ _ _
        | exact (kr_X12_endOf _) _ _ _ _)

theorem kr_X12_nextChild : ∀ n : Nat, (∀ (d : Nat) (S : GS) (a1 : Int) (a2 : Int) (a3 : Int) (a4 : Int), PH 600 S (f_X12_nextChild n d 0 S [a1, a2, a3, a4])) ∧ (∀ (d : Nat) (S : GS) (a1 : Int) (a2 : Int) (a3 : Int) (a4 : Int) (s0 : Int), PH 600 S (f_X12_nextChild n d 17 S [a1, a2, a3, a4, s0])) ∧ (∀ (d : Nat) (S : GS) (a1 : Int) (a2 : Int) (a5 : Int), PH 600 S (f_X12_nextChild n d 34 S [a1, a2, a5])) ∧ (∀ (d : Nat) (S : GS) (a1 : Int) (a2 : Int) (a3 : Int) (a5 : Int) (a6 : Int) (a7 : Int), PH 600 S (f_X12_nextChild n d 69 S [a1, a2, a3, a5, a6, a7])) ∧ (∀ (d : Nat) (S : GS) (a1 : Int) (a2 : Int) (a3 : Int) (a5 : Int) (a6 : Int) (a7 : Int) (s0 : Int), PH 600 S (f_X12_nextChild n d 103 S [a1, a2, a3, a5, a6, a7, s0])) ∧ (∀ (d : Nat) (S : GS) (a1 : Int) (a2 : Int) (a3 : Int) (a5 : Int) (a7 : Int) (s0 : Int), PH 600 S (f_X12_nextChild n d 136 S [a1, a2, a3, a5, a7, s0])) ∧ (∀ (d : Nat) (S : GS) (a1 : Int) (a2 : Int) (a5 : Int), PH 600 S (f_X12_nextChild n d 156 S [a1, a2, a5])) ∧ (∀ (d : Nat) (S : GS) (a1 : Int) (a2 : Int) (a5 : Int), PH 600 S (f_X12_nextChild n d 190 S [a1, a2, a5]))
  | 0 => ⟨(fun _ _ _ _ _ _ => ph_none), (fun _ _ _ _ _ _ _ => ph_none), (fun _ _ _ _ _ => ph_none), (fun _ _ _ _ _ _ _ _ => ph_none), (fun _ _ _ _ _ _ _ _ _ => ph_none), (fun _ _ _ _ _ _ _ _ => ph_none), (fun _ _ _ _ _ => ph_none), (fun _ _ _ _ _ => ph_none)⟩
  | n + 1 => by
    obtain ⟨h0, h17, h34, h69, h103, h136, h156, h190⟩ := kr_X12_nextChild n
    refine ⟨?_, ?_, ?_, ?_, ?_, ?_, ?_, ?_⟩
    · intro _ _ _ _ _ _
      rw [e_X12_nextChild_0]
      unfold b_X12_nextChild_0
      repeat' (with_reducible first
        | exact ph_none
        | exact ph_some
        | refine ph_gI (by first | decide | omega) (fun _ => ?_)
        | refine ph_gCp (by first | decide | omega) (fun _ => ?_)
        | refine ph_gB (by first | decide | omega) (fun _ => ?_)
        | refine ph_gR (by first | decide | omega) (fun _ => ?_)
        | refine ph_gv (fun _ => ?_)
        | refine ph_gg (fun _ => ?_)
        | refine ph_gc ?_ (fun _ _ => ?_)
        | refine ph_ite (fun _ => ?_) (fun _ => ?_)
        | exact h17 _ _ _ _ _ _ _
        | exact (kr_X12_endOf _) _ _ _ _)
    · intro _ _ _ _ _ _ _
      rw [e_X12_nextChild_17]
      unfold b_X12_nextChild_17
      repeat' (with_reducible first
        | exact ph_none
        | exact ph_some
        | refine ph_gI (by first | decide | omega) (fun _ => ?_)
        | refine ph_gCp (by first | decide | omega) (fun _ => ?_)
        | refine ph_gB (by first | decide | omega) (fun _ => ?_)
        | refine ph_gR (by first | decide | omega) (fun _ => ?_)
        | refine ph_gv (fun _ => ?_)
        | refine ph_gg (fun _ => ?_)
        | refine ph_gc ?_ (fun _ _ => ?_)
        | refine ph_ite (fun _ => ?_) (fun _ => ?_)
        | exact h34 _ _ _ _ _
        | exact h69 _ _ _ _ _ _ _ _
        | exact h156 _ _ _ _ _
        | exact (kr_X12_kind _) _ _ _ _)
    · intro _ _ _ _ _
      rw [e_X12_nextChild_34]
      unfold b_X12_nextChild_34
      repeat' (with_reducible first
        | exact ph_none
        | exact ph_some
        | refine ph_gI (by first | decide | omega) (fun _ => ?_)
        | refine ph_gCp (by first | decide | omega) (fun _ => ?_)
        | refine ph_gB (by first | decide | omega) (fun _ => ?_)
        | refine ph_gR (by first | decide | omega) (fun _ => ?_)
        | refine ph_gv (fun _ => ?_)
        | refine ph_gg (fun _ => ?_)
        | refine ph_gc ?_ (fun _ _ => ?_)
        | refine ph_ite (fun _ => ?_) (fun _ => ?_)
        | exact (kr_X12_endOf _) _ _ _ _)
    · intro _ _ _ _ _ _ _ _
      rw [e_X12_nextChild_69]
      unfold b_X12_nextChild_69
      repeat' (with_reducible first
        | exact ph_none
        | exact ph_some
        | refine ph_gI (by first | decide | omega) (fun _ => ?_)
        | refine ph_gCp (by first | decide | omega) (fun _ => ?_)
        | refine ph_gB (by first | decide | omega) (fun _ => ?_)
        | refine ph_gR (by first | decide | omega) (fun _ => ?_)
        | refine ph_gv (fun _ => ?_)
        | refine ph_gg (fun _ => ?_)
        | refine ph_gc ?_ (fun _ _ => ?_)
        | refine ph_ite (fun _ => ?_) (fun _ => ?_)
        | exact h103 _ _ _ _ _ _ _ _ _
        | exact (kr_X12_byKeys _).1 _ _ _ _ _ _
        | exact (kr_X12_part _) _ _ _ _ _)
    · intro _ _ _ _ _ _ _ _ _
      rw [e_X12_nextChild_103]
      unfold b_X12_nextChild_103
      repeat' (with_reducible first
        | exact ph_none
        | exact ph_some
        | refine ph_gI (by first | decide | omega) (fun _ => ?_)
        | refine ph_gCp (by first | decide | omega) (fun _ => ?_)
        | refine ph_gB (by first | decide | omega) (fun _ => ?_)
        | refine ph_gR (by first | decide | omega) (fun _ => ?_)
        | refine ph_gv (fun _ => ?_)
        | refine ph_gg (fun _ => ?_)
        | refine ph_gc ?_ (fun _ _ => ?_)
        | refine ph_ite (fun _ => ?_) (fun _ => ?_)
        | exact h136 _ _ _ _ _ _ _ _
        | exact (kr_X12_byKeys _).1 _ _ _ _ _ _)
    · intro _ _ _ _ _ _ _ _
      rw [e_X12_nextChild_136]
      unfold b_X12_nextChild_136
      repeat' (with_reducible first
        | exact ph_none
        | exact ph_some
        | refine ph_gI (by first | decide | omega) (fun _ => ?_)
        | refine ph_gCp (by first | decide | omega) (fun _ => ?_)
        | refine ph_gB (by first | decide | omega) (fun _ => ?_)
        | refine ph_gR (by first | decide | omega) (fun _ => ?_)
        | refine ph_gv (fun _ => ?_)
        | refine ph_gg (fun _ => ?_)
        | refine ph_gc ?_ (fun _ _ => ?_)
        | refine ph_ite (fun _ => ?_) (fun _ => ?_)
        | exact h69 _ _ _ _ _ _ _ _
        | exact (kr_X12_endOf _) _ _ _ _)
    · intro _ _ _ _ _
      rw [e_X12_nextChild_156]
      unfold b_X12_nextChild_156
      repeat' (with_reducible first
        | exact ph_none
        | exact ph_some
        | refine ph_gI (by first | decide | omega) (fun _ => ?_)
        | refine ph_gCp (by first | decide | omega) (fun _ => ?_)
        | refine ph_gB (by first | decide | omega) (fun _ => ?_)
        | refine ph_gR (by first | decide | omega) (fun _ => ?_)
        | refine ph_gv (fun _ => ?_)
        | refine ph_gg (fun _ => ?_)
        | refine ph_gc ?_ (fun _ _ => ?_)
        | refine ph_ite (fun _ => ?_) (fun _ => ?_)
        | exact h156 _ _ _ _ _
        | exact h190 _ _ _ _ _
        | exact (kr_X12_endOf _) _ _ _ _
        | exact (kr_X12_isLater _).1 _ _ _ _ _)
    · intro _ _ _ _ _
      rw [e_X12_nextChild_190]
      unfold b_X12_nextChild_190
      repeat' (with_reducible first
        | exact ph_none
        | exact ph_some
        | refine ph_gI (by first | decide | omega) (fun _ => ?_)
        | refine ph_gCp (by first | decide | omega) (fun _ => ?_)
        | refine ph_gB (by first | decide | omega) (fun _ => ?_)
        | refine ph_gR (by first | decide | omega) (fun _ => ?_)
        | refine ph_gv (fun _ => ?_)
        | refine ph_gg (fun _ => ?_)
        | refine ph_gc ?_ (fun _ _ => ?_)
        | refine ph_ite (fun _ => ?_) (fun _ => ?_)
        | exact (kr_X12_endOf _) _ _ _ _)

theorem kr_X12_putsLine : ∀ n : Nat, (∀ (d : Nat) (S : GS) (a1 : Int) (a2 : Int), PH 600 S (f_X12_putsLine n d 0 S [a1, a2])) ∧ (∀ (d : Nat) (S : GS) (a1 : Int) (a2 : Int) (a3 : Int), PH 600 S (f_X12_putsLine n d 9 S [a1, a2, a3]))
  | 0 => ⟨(fun _ _ _ _ => ph_none), (fun _ _ _ _ _ => ph_none)⟩
  | n + 1 => by
    obtain ⟨h0, h9⟩ := kr_X12_putsLine n
    refine ⟨?_, ?_⟩
    · intro _ _ _ _
      rw [e_X12_putsLine_0]
      unfold b_X12_putsLine_0
      repeat' (with_reducible first
        | exact ph_none
        | exact ph_some
        | refine ph_gI (by first | decide | omega) (fun _ => ?_)
        | refine ph_gCp (by first | decide | omega) (fun _ => ?_)
        | refine ph_gB (by first | decide | omega) (fun _ => ?_)
        | refine ph_gR (by first | decide | omega) (fun _ => ?_)
        | refine ph_gv (fun _ => ?_)
        | refine ph_gg (fun _ => ?_)
        | refine ph_gc ?_ (fun _ _ => ?_)
        | refine ph_ite (fun _ => ?_) (fun _ => ?_)
        | exact h9 _ _ _ _ _
        | exact (kr_X12_puts _) _ _ _ _)
    · intro _ _ _ _ _
      rw [e_X12_putsLine_9]
      unfold b_X12_putsLine_9
      repeat' (with_reducible first
        | exact ph_none
        | exact ph_some
        | refine ph_gI (by first | decide | omega) (fun _ => ?_)
        | refine ph_gCp (by first | decide | omega) (fun _ => ?_)
        | refine ph_gB (by first | decide | omega) (fun _ => ?_)
        | refine ph_gR (by first | decide | omega) (fun _ => ?_)
        | refine ph_gv (fun _ => ?_)
        | refine ph_gg (fun _ => ?_)
        | refine ph_gc ?_ (fun _ _ => ?_)
        | refine ph_ite (fun _ => ?_) (fun _ => ?_)
        | exact h9 _ _ _ _ _
        | exact (kr_X12_puts _) _ _ _ _)

theorem kr_X12_writes : ∀ n : Nat, (∀ (d : Nat) (S : GS) (a1 : Int) (a2 : Int) (a3 : Int) (a4 : Int), PH 600 S (f_X12_writes n d 0 S [a1, a2, a3, a4])) ∧ (∀ (d : Nat) (S : GS) (a1 : Int) (a2 : Int) (a3 : Int) (a4 : Int) (s0 : Int) (s1 : Int), PH 600 S (f_X12_writes n d 44 S [a1, a2, a3, a4, s0, s1])) ∧ (∀ (d : Nat) (S : GS) (a1 : Int) (a2 : Int) (a4 : Int) (a5 : Int), PH 600 S (f_X12_writes n d 64 S [a1, a2, a4, a5])) ∧ (∀ (d : Nat) (S : GS) (a1 : Int) (a2 : Int) (a4 : Int) (a5 : Int) (a6 : Int) (s0 : Int) (s1 : Int) (s2 : Int) (s3 : Int), PH 600 S (f_X12_writes n d 104 S [a1, a2, a4, a5, a6, s0, s1, s2, s3])) ∧ (∀ (d : Nat) (S : GS) (a1 : Int) (a2 : Int) (a4 : Int) (a5 : Int) (a6 : Int), PH 600 S (f_X12_writes n d 131 S [a1, a2, a4, a5, a6])) ∧ (∀ (d : Nat) (S : GS) (a1 : Int) (a2 : Int) (a4 : Int) (a5 : Int) (a6 : Int) (a7 : Int), PH 600 S (f_X12_writes n d 177 S [a1, a2, a4, a5, a6, a7])) ∧ (∀ (d : Nat) (S : GS) (a1 : Int) (a2 : Int) (a4 : Int) (a5 : Int) (a6 : Int) (a7 : Int), PH 600 S (f_X12_writes n d 201 S [a1, a2, a4, a5, a6, a7])) ∧ (∀ (d : Nat) (S : GS) (a1 : Int) (a2 : Int) (a4 : Int) (a5 : Int) (a7 : Int), PH 600 S (f_X12_writes n d 254 S [a1, a2, a4, a5, a7])) ∧ (∀ (d : Nat) (S : GS) (a1 : Int) (a2 : Int) (a4 : Int) (a5 : Int) (a7 : Int) (s0 : Int) (s1 : Int), PH 600 S (f_X12_writes n d 296 S [a1, a2, a4, a5, a7, s0, s1]))
  | 0 => ⟨(fun _ _ _ _ _ _ => ph_none), (fun _ _ _ _ _ _ _ _ => ph_none), (fun _ _ _ _ _ _ => ph_none), (fun _ _ _ _ _ _ _ _ _ _ _ => ph_none), (fun _ _ _ _ _ _ _ => ph_none), (fun _ _ _ _ _ _ _ _ => ph_none), (fun _ _ _ _ _ _ _ _ => ph_none), (fun _ _ _ _ _ _ _ => ph_none), (fun _ _ _ _ _ _ _ _ _ => ph_none)⟩
  | n + 1 => by
    obtain ⟨h0, h44, h64, h104, h131, h177, h201, h254, h296⟩ := kr_X12_writes n
    refine ⟨?_, ?_, ?_, ?_, ?_, ?_, ?_, ?_, ?_⟩
    · intro _ _ _ _ _ _
      rw [e_X12_writes_0]
      unfold b_X12_writes_0
      repeat' (with_reducible first
        | exact ph_none
        | exact ph_some
        | refine ph_gI (by first | decide | omega) (fun _ => ?_)
        | refine ph_gCp (by first | decide | omega) (fun _ => ?_)
        | refine ph_gB (by first | decide | omega) (fun _ => ?_)
        | refine ph_gR (by first | decide | omega) (fun _ => ?_)
        | refine ph_gv (fun _ => ?_)
        | refine ph_gg (fun _ => ?_)
        | refine ph_gc ?_ (fun _ _ => ?_)
        | refine ph_ite (fun _ => ?_) (fun _ => ?_)
        | exact h44 _ _ _ _ _ _ _ _
        | exact (kr_X12_kind _) _ _ _ _
        | exact (kr_X12_part _) _ _ _ _ _
        | exact (kr_X12_putsScalar _).1 _ _ _ _ _)
    · intro _ _ _ _ _ _ _ _
      rw [e_X12_writes_44]
      unfold b_X12_writes_44
      repeat' (with_reducible first
        | exact ph_none
        | exact ph_some
        | refine ph_gI (by first | decide | omega) (fun _ => ?_)
        | refine ph_gCp (by first | decide | omega) (fun _ => ?_)
        | refine ph_gB (by first | decide | omega) (fun _ => ?_)
        | refine ph_gR (by first | decide | omega) (fun _ => ?_)
        | refine ph_gv (fun _ => ?_)
        | refine ph_gg (fun _ => ?_)
        | refine ph_gc ?_ (fun _ _ => ?_)
        | refine ph_ite (fun _ => ?_) (fun _ => ?_)
        | exact h64 _ _ _ _ _ _
        | exact (kr_X12_puts _) _ _ _ _)
    · intro _ _ _ _ _ _
      rw [e_X12_writes_64]
      unfold b_X12_writes_64
      repeat' (with_reducible first
        | exact ph_none
        | exact ph_some
        | refine ph_gI (by first | decide | omega) (fun _ => ?_)
        | refine ph_gCp (by first | decide | omega) (fun _ => ?_)
        | refine ph_gB (by first | decide | omega) (fun _ => ?_)
        | refine ph_gR (by first | decide | omega) (fun _ => ?_)
        | refine ph_gv (fun _ => ?_)
        | refine ph_gg (fun _ => ?_)
        | refine ph_gc ?_ (fun _ _ => ?_)
        | refine ph_ite (fun _ => ?_) (fun _ => ?_)
        | exact h104 _ _ _ _ _ _ _ _ _ _ _)
    · intro _ _ _ _ _ _ _ _ _ _ _
      rw [e_X12_writes_104]
      unfold b_X12_writes_104
      repeat' (with_reducible first
        | exact ph_none
        | exact ph_some
        | refine ph_gI (by first | decide | omega) (fun _ => ?_)
        | refine ph_gCp (by first | decide | omega) (fun _ => ?_)
        | refine ph_gB (by first | decide | omega) (fun _ => ?_)
        | refine ph_gR (by first | decide | omega) (fun _ => ?_)
        | refine ph_gv (fun _ => ?_)
        | refine ph_gg (fun _ => ?_)
        | refine ph_gc ?_ (fun _ _ => ?_)
        | refine ph_ite (fun _ => ?_) (fun _ => ?_)
        | exact h131 _ _ _ _ _ _ _
        | exact h177 _ _ _ _ _ _ _ _
        | exact (kr_X12_nextChild _).1 _ _ _ _ _ _
        | exact (kr_X12_puts _) _ _ _ _
        | exact (kr_X12_putsLine _).1 _ _ _ _)
    · intro _ _ _ _ _ _ _
      rw [e_X12_writes_131]
      unfold b_X12_writes_131
      repeat' (with_reducible first
        | exact ph_none
        | exact ph_some
        | refine ph_gI (by first | decide | omega) (fun _ => ?_)
        | refine ph_gCp (by first | decide | omega) (fun _ => ?_)
        | refine ph_gB (by first | decide | omega) (fun _ => ?_)
        | refine ph_gR (by first | decide | omega) (fun _ => ?_)
        | refine ph_gv (fun _ => ?_)
        | refine ph_gg (fun _ => ?_)
        | refine ph_gc ?_ (fun _ _ => ?_)
        | refine ph_ite (fun _ => ?_) (fun _ => ?_)
        | exact h64 _ _ _ _ _ _
        | exact (kr_X12_kind _) _ _ _ _
        | exact (kr_X12_puts _) _ _ _ _)
    · intro _ _ _ _ _ _ _ _
      rw [e_X12_writes_177]
      unfold b_X12_writes_177
      repeat' (with_reducible first
        | exact ph_none
        | exact ph_some
        | refine ph_gI (by first | decide | omega) (fun _ => ?_)
        | refine ph_gCp (by first | decide | omega) (fun _ => ?_)
        | refine ph_gB (by first | decide | omega) (fun _ => ?_)
        | refine ph_gR (by first | decide | omega) (fun _ => ?_)
        | refine ph_gv (fun _ => ?_)
        | refine ph_gg (fun _ => ?_)
        | refine ph_gc ?_ (fun _ _ => ?_)
        | refine ph_ite (fun _ => ?_) (fun _ => ?_)
        | exact h201 _ _ _ _ _ _ _ _
        | exact (kr_X12_putsLine _).1 _ _ _ _)
    · intro _ _ _ _ _ _ _ _
      rw [e_X12_writes_201]
      unfold b_X12_writes_201
      repeat' (with_reducible first
        | exact ph_none
        | exact ph_some
        | refine ph_gI (by first | decide | omega) (fun _ => ?_)
        | refine ph_gCp (by first | decide | omega) (fun _ => ?_)
        | refine ph_gB (by first | decide | omega) (fun _ => ?_)
        | refine ph_gR (by first | decide | omega) (fun _ => ?_)
        | refine ph_gv (fun _ => ?_)
        | refine ph_gg (fun _ => ?_)
        | refine ph_gc ?_ (fun _ _ => ?_)
        | refine ph_ite (fun _ => ?_) (fun _ => ?_)
        | exact h254 _ _ _ _ _ _ _
        | exact (kr_X12_at _) _ _ _ _
        | exact (kr_X12_kind _) _ _ _ _
        | exact (kr_X12_part _) _ _ _ _ _
        | exact (kr_X12_puts _) _ _ _ _
        | exact (kr_X12_putsQuoted _).1 _ _ _ _ _)
    · intro _ _ _ _ _ _ _
      rw [e_X12_writes_254]
      unfold b_X12_writes_254
      repeat' (with_reducible first
        | exact ph_none
        | exact ph_some
        | refine ph_gI (by first | decide | omega) (fun _ => ?_)
        | refine ph_gCp (by first | decide | omega) (fun _ => ?_)
        | refine ph_gB (by first | decide | omega) (fun _ => ?_)
        | refine ph_gR (by first | decide | omega) (fun _ => ?_)
        | refine ph_gv (fun _ => ?_)
        | refine ph_gg (fun _ => ?_)
        | refine ph_gc ?_ (fun _ _ => ?_)
        | refine ph_ite (fun _ => ?_) (fun _ => ?_)
        | exact h64 _ _ _ _ _ _
        | exact h296 _ _ _ _ _ _ _ _ _
        | exact (kr_X12_kind _) _ _ _ _
        | exact (kr_X12_part _) _ _ _ _ _
        | exact (kr_X12_putsScalar _).1 _ _ _ _ _)
    · intro _ _ _ _ _ _ _ _ _
      rw [e_X12_writes_296]
      unfold b_X12_writes_296
      repeat' (with_reducible first
        | exact ph_none
        | exact ph_some
        | refine ph_gI (by first | decide | omega) (fun _ => ?_)
        | refine ph_gCp (by first | decide | omega) (fun _ => ?_)
        | refine ph_gB (by first | decide | omega) (fun _ => ?_)
        | refine ph_gR (by first | decide | omega) (fun _ => ?_)
        | refine ph_gv (fun _ => ?_)
        | refine ph_gg (fun _ => ?_)
        | refine ph_gc ?_ (fun _ _ => ?_)
        | refine ph_ite (fun _ => ?_) (fun _ => ?_)
        | exact h64 _ _ _ _ _ _
        | exact (kr_X12_puts _) _ _ _ _)

theorem kr_X12_areEqual : ∀ n : Nat, (∀ (d : Nat) (S : GS) (a1 : Int) (a2 : Int) (a3 : Int) (a4 : Int), PH 600 S (f_X12_areEqual n d 0 S [a1, a2, a3, a4])) ∧ (∀ (d : Nat) (S : GS) (a5 : Int) (a6 : Int), PH 600 S (f_X12_areEqual n d 78 S [a5, a6]))
  | 0 => ⟨(fun _ _ _ _ _ _ => ph_none), (fun _ _ _ _ => ph_none)⟩
  | n + 1 => by
    obtain ⟨h0, h78⟩ := kr_X12_areEqual n
    refine ⟨?_, ?_⟩
    · intro _ _ _ _ _ _
      rw [e_X12_areEqual_0]
      unfold b_X12_areEqual_0
      repeat' (with_reducible first
        | exact ph_none
        | exact ph_some
        | refine ph_gI (by first | decide | omega) (fun _ => ?_)
        | refine ph_gCp (by first | decide | omega) (fun _ => ?_)
        | refine ph_gB (by first | decide | omega) (fun _ => ?_)
        | refine ph_gR (by first | decide | omega) (fun _ => ?_)
        | refine ph_gv (fun _ => ?_)
        | refine ph_gg (fun _ => ?_)
        | refine ph_gc ?_ (fun _ _ => ?_)
        | refine ph_ite (fun _ => ?_) (fun _ => ?_)
        | exact h78 _ _ _ _
        | exact (kr_X12_kind _) _ _ _ _
        | exact (kr_X12_part _) _ _ _ _ _
        | exact (kr_X12_writes _).1 _ _ _ _ _ _)
    · intro _ _ _ _
      rw [e_X12_areEqual_78]
      unfold b_X12_areEqual_78
      repeat' (with_reducible first
        | exact ph_none
        | exact ph_some
        | refine ph_gI (by first | decide | omega) (fun _ => ?_)
        | refine ph_gCp (by first | decide | omega) (fun _ => ?_)
        | refine ph_gB (by first | decide | omega) (fun _ => ?_)
        | refine ph_gR (by first | decide | omega) (fun _ => ?_)
        | refine ph_gv (fun _ => ?_)
        | refine ph_gg (fun _ => ?_)
        | refine ph_gc ?_ (fun _ _ => ?_)
        | refine ph_ite (fun _ => ?_) (fun _ => ?_)
        | exact h78 _ _ _ _)

theorem kr_X12_areAlike : ∀ n : Nat, (∀ (d : Nat) (S : GS) (a1 : Int) (a2 : Int) (a3 : Int) (a4 : Int), PH 600 S (f_X12_areAlike n d 0 S [a1, a2, a3, a4])) ∧ (∀ (d : Nat) (S : GS) (a2 : Int) (a4 : Int), PH 600 S (f_X12_areAlike n d 11 S [a2, a4]))
  | 0 => ⟨(fun _ _ _ _ _ _ => ph_none), (fun _ _ _ _ => ph_none)⟩
  | n + 1 => by
    obtain ⟨h0, h11⟩ := kr_X12_areAlike n
    refine ⟨?_, ?_⟩
    · intro _ _ _ _ _ _
      rw [e_X12_areAlike_0]
      unfold b_X12_areAlike_0
      repeat' (with_reducible first
        | exact ph_none
        | exact ph_some
        | refine ph_gI (by first | decide | omega) (fun _ => ?_)
        | refine ph_gCp (by first | decide | omega) (fun _ => ?_)
        | refine ph_gB (by first | decide | omega) (fun _ => ?_)
        | refine ph_gR (by first | decide | omega) (fun _ => ?_)
        | refine ph_gv (fun _ => ?_)
        | refine ph_gg (fun _ => ?_)
        | refine ph_gc ?_ (fun _ _ => ?_)
        | refine ph_ite (fun _ => ?_) (fun _ => ?_)
        | exact h11 _ _ _ _
        | exact (kr_X12_areEqual _).1 _ _ _ _ _ _)
    · intro _ _ _ _
      rw [e_X12_areAlike_11]
      unfold b_X12_areAlike_11
      repeat' (with_reducible first
        | exact ph_none
        | exact ph_some
        | refine ph_gI (by first | decide | omega) (fun _ => ?_)
        | refine ph_gCp (by first | decide | omega) (fun _ => ?_)
        | refine ph_gB (by first | decide | omega) (fun _ => ?_)
        | refine ph_gR (by first | decide | omega) (fun _ => ?_)
        | refine ph_gv (fun _ => ?_)
        | refine ph_gg (fun _ => ?_)
        | refine ph_gc ?_ (fun _ _ => ?_)
        | refine ph_ite (fun _ => ?_) (fun _ => ?_))

theorem kr_X12_childAt : ∀ n : Nat, (∀ (d : Nat) (S : GS) (a1 : Int) (a2 : Int) (a3 : Int), PH 600 S (f_X12_childAt n d 0 S [a1, a2, a3])) ∧ (∀ (d : Nat) (S : GS) (a1 : Int) (a3 : Int) (a4 : Int) (a5 : Int), PH 600 S (f_X12_childAt n d 8 S [a1, a3, a4, a5]))
  | 0 => ⟨(fun _ _ _ _ _ => ph_none), (fun _ _ _ _ _ _ => ph_none)⟩
  | n + 1 => by
    obtain ⟨h0, h8⟩ := kr_X12_childAt n
    refine ⟨?_, ?_⟩
    · intro _ _ _ _ _
      rw [e_X12_childAt_0]
      unfold b_X12_childAt_0
      repeat' (with_reducible first
        | exact ph_none
        | exact ph_some
        | refine ph_gI (by first | decide | omega) (fun _ => ?_)
        | refine ph_gCp (by first | decide | omega) (fun _ => ?_)
        | refine ph_gB (by first | decide | omega) (fun _ => ?_)
        | refine ph_gR (by first | decide | omega) (fun _ => ?_)
        | refine ph_gv (fun _ => ?_)
        | refine ph_gg (fun _ => ?_)
        | refine ph_gc ?_ (fun _ _ => ?_)
        | refine ph_ite (fun _ => ?_) (fun _ => ?_)
        | exact h8 _ _ _ _ _ _)
    · intro _ _ _ _ _ _
      rw [e_X12_childAt_8]
      unfold b_X12_childAt_8
      repeat' (with_reducible first
        | exact ph_none
        | exact ph_some
        | refine ph_gI (by first | decide | omega) (fun _ => ?_)
        | refine ph_gCp (by first | decide | omega) (fun _ => ?_)
        | refine ph_gB (by first | decide | omega) (fun _ => ?_)
        | refine ph_gR (by first | decide | omega) (fun _ => ?_)
        | refine ph_gv (fun _ => ?_)
        | refine ph_gg (fun _ => ?_)
        | refine ph_gc ?_ (fun _ _ => ?_)
        | refine ph_ite (fun _ => ?_) (fun _ => ?_)
        | exact h8 _ _ _ _ _ _
        | exact (kr_X12_endOf _) _ _ _ _)

theorem kr_X12_areAll : ∀ n : Nat, (∀ (d : Nat) (S : GS) (a1 : Int) (a2 : Int), PH 600 S (f_X12_areAll n d 0 S [a1, a2])) ∧ (∀ (d : Nat) (S : GS) (a1 : Int) (a2 : Int) (a3 : Int) (a4 : Int), PH 600 S (f_X12_areAll n d 5 S [a1, a2, a3, a4]))
  | 0 => ⟨(fun _ _ _ _ => ph_none), (fun _ _ _ _ _ _ => ph_none)⟩
  | n + 1 => by
    obtain ⟨h0, h5⟩ := kr_X12_areAll n
    refine ⟨?_, ?_⟩
    · intro _ _ _ _
      rw [e_X12_areAll_0]
      unfold b_X12_areAll_0
      repeat' (with_reducible first
        | exact ph_none
        | exact ph_some
        | refine ph_gI (by first | decide | omega) (fun _ => ?_)
        | refine ph_gCp (by first | decide | omega) (fun _ => ?_)
        | refine ph_gB (by first | decide | omega) (fun _ => ?_)
        | refine ph_gR (by first | decide | omega) (fun _ => ?_)
        | refine ph_gv (fun _ => ?_)
        | refine ph_gg (fun _ => ?_)
        | refine ph_gc ?_ (fun _ _ => ?_)
        | refine ph_ite (fun _ => ?_) (fun _ => ?_)
        | exact h5 _ _ _ _ _ _)
    · intro _ _ _ _ _ _
      rw [e_X12_areAll_5]
      unfold b_X12_areAll_5
      repeat' (with_reducible first
        | exact ph_none
        | exact ph_some
        | refine ph_gI (by first | decide | omega) (fun _ => ?_)
        | refine ph_gCp (by first | decide | omega) (fun _ => ?_)
        | refine ph_gB (by first | decide | omega) (fun _ => ?_)
        | refine ph_gR (by first | decide | omega) (fun _ => ?_)
        | refine ph_gv (fun _ => ?_)
        | refine ph_gg (fun _ => ?_)
        | refine ph_gc ?_ (fun _ _ => ?_)
        | refine ph_ite (fun _ => ?_) (fun _ => ?_)
        | exact h5 _ _ _ _ _ _
        | exact (kr_X12_childAt _).1 _ _ _ _ _
        | exact (kr_X12_kind _) _ _ _ _
        | exact (kr_X12_part _) _ _ _ _ _)

theorem kr_X12_complains : ∀ n : Nat, (∀ (d : Nat) (S : GS) (a1 : Int) (a2 : Int), PH 600 S (f_X12_complains n d 0 S [a1, a2]))
  | 0 => (fun _ _ _ _ => ph_none)
  | n + 1 => by
    have h0 := kr_X12_complains n
    · intro _ _ _ _
      rw [e_X12_complains_0]
      unfold b_X12_complains_0
      repeat' (with_reducible first
        | exact ph_none
        | exact ph_some
        | refine ph_gI (by first | decide | omega) (fun _ => ?_)
        | refine ph_gCp (by first | decide | omega) (fun _ => ?_)
        | refine ph_gB (by first | decide | omega) (fun _ => ?_)
        | refine ph_gR (by first | decide | omega) (fun _ => ?_)
        | refine ph_gv (fun _ => ?_)
        | refine ph_gg (fun _ => ?_)
        | refine ph_gc ?_ (fun _ _ => ?_)
        | refine ph_ite (fun _ => ?_) (fun _ => ?_))

theorem kr_X12_hears : ∀ n : Nat, (∀ (d : Nat) (S : GS) (a1 : Int), PH 600 S (f_X12_hears n d 0 S [a1])) ∧ (∀ (d : Nat) (S : GS) (a1 : Int) (a2 : Int) (s0 : Int) (s1 : Int) (s2 : Int), PH 600 S (f_X12_hears n d 45 S [a1, a2, s0, s1, s2])) ∧ (∀ (d : Nat) (S : GS) (a1 : Int) (a2 : Int), PH 600 S (f_X12_hears n d 57 S [a1, a2])) ∧ (∀ (d : Nat) (S : GS) (a1 : Int) (a2 : Int), PH 600 S (f_X12_hears n d 82 S [a1, a2])) ∧ (∀ (d : Nat) (S : GS) (a1 : Int) (a2 : Int), PH 600 S (f_X12_hears n d 92 S [a1, a2]))
  | 0 => ⟨(fun _ _ _ => ph_none), (fun _ _ _ _ _ _ _ => ph_none), (fun _ _ _ _ => ph_none), (fun _ _ _ _ => ph_none), (fun _ _ _ _ => ph_none)⟩
  | n + 1 => by
    obtain ⟨h0, h45, h57, h82, h92⟩ := kr_X12_hears n
    refine ⟨?_, ?_, ?_, ?_, ?_⟩
    · intro _ _ _
      rw [e_X12_hears_0]
      unfold b_X12_hears_0
      repeat' (with_reducible first
        | exact ph_none
        | exact ph_some
        | refine ph_gI (by first | decide | omega) (fun _ => ?_)
        | refine ph_gCp (by first | decide | omega) (fun _ => ?_)
        | refine ph_gB (by first | decide | omega) (fun _ => ?_)
        | refine ph_gR (by first | decide | omega) (fun _ => ?_)
        | refine ph_gv (fun _ => ?_)
        | refine ph_gg (fun _ => ?_)
        | refine ph_gc ?_ (fun _ _ => ?_)
        | refine ph_ite (fun _ => ?_) (fun _ => ?_)
        | exact h45 _ _ _ _ _ _ _
        | exact h57 _ _ _ _)
    · intro _ _ _ _ _ _ _
      rw [e_X12_hears_45]
      unfold b_X12_hears_45
      repeat' (with_reducible first
        | exact ph_none
        | exact ph_some
        | refine ph_gI (by first | decide | omega) (fun _ => ?_)
        | refine ph_gCp (by first | decide | omega) (fun _ => ?_)
        | refine ph_gB (by first | decide | omega) (fun _ => ?_)
        | refine ph_gR (by first | decide | omega) (fun _ => ?_)
        | refine ph_gv (fun _ => ?_)
        | refine ph_gg (fun _ => ?_)
        | refine ph_gc ?_ (fun _ _ => ?_)
        | refine ph_ite (fun _ => ?_) (fun _ => ?_)
        | exact h57 _ _ _ _)
    · intro _ _ _ _
      rw [e_X12_hears_57]
      unfold b_X12_hears_57
      repeat' (with_reducible first
        | exact ph_none
        | exact ph_some
        | refine ph_gI (by first | decide | omega) (fun _ => ?_)
        | refine ph_gCp (by first | decide | omega) (fun _ => ?_)
        | refine ph_gB (by first | decide | omega) (fun _ => ?_)
        | refine ph_gR (by first | decide | omega) (fun _ => ?_)
        | refine ph_gv (fun _ => ?_)
        | refine ph_gg (fun _ => ?_)
        | refine ph_gc ?_ (fun _ _ => ?_)
        | refine ph_ite (fun _ => ?_) (fun _ => ?_)
        | exact h82 _ _ _ _
        | exact h92 _ _ _ _
        | exact (kr_X12_complains _) _ _ _ _)
    · intro _ _ _ _
      rw [e_X12_hears_82]
      unfold b_X12_hears_82
      repeat' (with_reducible first
        | exact ph_none
        | exact ph_some
        | refine ph_gI (by first | decide | omega) (fun _ => ?_)
        | refine ph_gCp (by first | decide | omega) (fun _ => ?_)
        | refine ph_gB (by first | decide | omega) (fun _ => ?_)
        | refine ph_gR (by first | decide | omega) (fun _ => ?_)
        | refine ph_gv (fun _ => ?_)
        | refine ph_gg (fun _ => ?_)
        | refine ph_gc ?_ (fun _ _ => ?_)
        | refine ph_ite (fun _ => ?_) (fun _ => ?_)
        | exact h92 _ _ _ _)
    · intro _ _ _ _
      rw [e_X12_hears_92]
      unfold b_X12_hears_92
      repeat' (with_reducible first
        | exact ph_none
        | exact ph_some
        | refine ph_gI (by first | decide | omega) (fun _ => ?_)
        | refine ph_gCp (by first | decide | omega) (fun _ => ?_)
        | refine ph_gB (by first | decide | omega) (fun _ => ?_)
        | refine ph_gR (by first | decide | omega) (fun _ => ?_)
        | refine ph_gv (fun _ => ?_)
        | refine ph_gg (fun _ => ?_)
        | refine ph_gc ?_ (fun _ _ => ?_)
        | refine ph_ite (fun _ => ?_) (fun _ => ?_))

theorem kr_X12_childByWord : ∀ n : Nat, (∀ (d : Nat) (S : GS) (a1 : Int) (a2 : Int), PH 600 S (f_X12_childByWord n d 0 S [a1, a2])) ∧ (∀ (d : Nat) (S : GS) (a1 : Int) (a2 : Int) (a3 : Int) (a4 : Int), PH 600 S (f_X12_childByWord n d 7 S [a1, a2, a3, a4])) ∧ (∀ (d : Nat) (S : GS) (a1 : Int) (a2 : Int) (a3 : Int) (a4 : Int) (a5 : Int) (a6 : Int), PH 600 S (f_X12_childByWord n d 43 S [a1, a2, a3, a4, a5, a6])) ∧ (∀ (d : Nat) (S : GS) (a1 : Int) (a2 : Int) (a3 : Int) (a4 : Int) (a5 : Int), PH 600 S (f_X12_childByWord n d 91 S [a1, a2, a3, a4, a5]))
  | 0 => ⟨(fun _ _ _ _ => ph_none), (fun _ _ _ _ _ _ => ph_none), (fun _ _ _ _ _ _ _ _ => ph_none), (fun _ _ _ _ _ _ _ => ph_none)⟩
  | n + 1 => by
    obtain ⟨h0, h7, h43, h91⟩ := kr_X12_childByWord n
    refine ⟨?_, ?_, ?_, ?_⟩
    · intro _ _ _ _
      rw [e_X12_childByWord_0]
      unfold b_X12_childByWord_0
      repeat' (with_reducible first
        | exact ph_none
        | exact ph_some
        | refine ph_gI (by first | decide | omega) (fun _ => ?_)
        | refine ph_gCp (by first | decide | omega) (fun _ => ?_)
        | refine ph_gB (by first | decide | omega) (fun _ => ?_)
        | refine ph_gR (by first | decide | omega) (fun _ => ?_)
        | refine ph_gv (fun _ => ?_)
        | refine ph_gg (fun _ => ?_)
        | refine ph_gc ?_ (fun _ _ => ?_)
        | refine ph_ite (fun _ => ?_) (fun _ => ?_)
        | exact h7 _ _ _ _ _ _)
    · intro _ _ _ _ _ _
      rw [e_X12_childByWord_7]
      unfold b_X12_childByWord_7
      repeat' (with_reducible first
        | exact ph_none
        | exact ph_some
        | refine ph_gI (by first | decide | omega) (fun _ => ?_)
        | refine ph_gCp (by first | decide | omega) (fun _ => ?_)
        | refine ph_gB (by first | decide | omega) (fun _ => ?_)
        | refine ph_gR (by first | decide | omega) (fun _ => ?_)
        | refine ph_gv (fun _ => ?_)
        | refine ph_gg (fun _ => ?_)
        | refine ph_gc ?_ (fun _ _ => ?_)
        | refine ph_ite (fun _ => ?_) (fun _ => ?_)
        | exact h43 _ _ _ _ _ _ _ _
        | exact (kr_X12_part _) _ _ _ _ _)
    · intro _ _ _ _ _ _ _ _
      rw [e_X12_childByWord_43]
      unfold b_X12_childByWord_43
      repeat' (with_reducible first
        | exact ph_none
        | exact ph_some
        | refine ph_gI (by first | decide | omega) (fun _ => ?_)
        | refine ph_gCp (by first | decide | omega) (fun _ => ?_)
        | refine ph_gB (by first | decide | omega) (fun _ => ?_)
        | refine ph_gR (by first | decide | omega) (fun _ => ?_)
        | refine ph_gv (fun _ => ?_)
        | refine ph_gg (fun _ => ?_)
        | refine ph_gc ?_ (fun _ _ => ?_)
        | refine ph_ite (fun _ => ?_) (fun _ => ?_)
        | exact h43 _ _ _ _ _ _ _ _
        | exact h91 _ _ _ _ _ _ _
        | exact (kr_X12_part _) _ _ _ _ _)
    · intro _ _ _ _ _ _ _
      rw [e_X12_childByWord_91]
      unfold b_X12_childByWord_91
      repeat' (with_reducible first
        | exact ph_none
        | exact ph_some
        | refine ph_gI (by first | decide | omega) (fun _ => ?_)
        | refine ph_gCp (by first | decide | omega) (fun _ => ?_)
        | refine ph_gB (by first | decide | omega) (fun _ => ?_)
        | refine ph_gR (by first | decide | omega) (fun _ => ?_)
        | refine ph_gv (fun _ => ?_)
        | refine ph_gg (fun _ => ?_)
        | refine ph_gc ?_ (fun _ _ => ?_)
        | refine ph_ite (fun _ => ?_) (fun _ => ?_)
        | exact h7 _ _ _ _ _ _
        | exact (kr_X12_endOf _) _ _ _ _)

theorem kr_X12_childNamed : ∀ n : Nat, (∀ (d : Nat) (S : GS) (a1 : Int) (a2 : Int) (a3 : Int), PH 600 S (f_X12_childNamed n d 0 S [a1, a2, a3]))
  | 0 => (fun _ _ _ _ _ => ph_none)
  | n + 1 => by
    have h0 := kr_X12_childNamed n
    · intro _ _ _ _ _
      rw [e_X12_childNamed_0]
      unfold b_X12_childNamed_0
      repeat' (with_reducible first
        | exact ph_none
        | exact ph_some
        | refine ph_gI (by first | decide | omega) (fun _ => ?_)
        | refine ph_gCp (by first | decide | omega) (fun _ => ?_)
        | refine ph_gB (by first | decide | omega) (fun _ => ?_)
        | refine ph_gR (by first | decide | omega) (fun _ => ?_)
        | refine ph_gv (fun _ => ?_)
        | refine ph_gg (fun _ => ?_)
        | refine ph_gc ?_ (fun _ _ => ?_)
        | refine ph_ite (fun _ => ?_) (fun _ => ?_)
        | exact (kr_X12_childByWord _).1 _ _ _ _
        | exact (kr_X12_says _).1 _ _ _)

theorem kr_X12_isText : ∀ n : Nat, (∀ (d : Nat) (S : GS) (a1 : Int) (a2 : Int) (a3 : Int), PH 600 S (f_X12_isText n d 0 S [a1, a2, a3])) ∧ (∀ (d : Nat) (S : GS) (a1 : Int) (a2 : Int) (a5 : Int) (a6 : Int), PH 600 S (f_X12_isText n d 40 S [a1, a2, a5, a6]))
  | 0 => ⟨(fun _ _ _ _ _ => ph_none), (fun _ _ _ _ _ _ => ph_none)⟩
  | n + 1 => by
    obtain ⟨h0, h40⟩ := kr_X12_isText n
    refine ⟨?_, ?_⟩
    · intro _ _ _ _ _
      rw [e_X12_isText_0]
      unfold b_X12_isText_0
      repeat' (with_reducible first
        | exact ph_none
        | exact ph_some
        | refine ph_gI (by first | decide | omega) (fun _ => ?_)
        | refine ph_gCp (by first | decide | omega) (fun _ => ?_)
        | refine ph_gB (by first | decide | omega) (fun _ => ?_)
        | refine ph_gR (by first | decide | omega) (fun _ => ?_)
        | refine ph_gv (fun _ => ?_)
        | refine ph_gg (fun _ => ?_)
        | refine ph_gc ?_ (fun _ _ => ?_)
        | refine ph_ite (fun _ => ?_) (fun _ => ?_)
        | exact h40 _ _ _ _ _ _
        | exact (kr_X12_kind _) _ _ _ _
        | exact (kr_X12_part _) _ _ _ _ _
        | exact (kr_X12_says _).1 _ _ _)
    · intro _ _ _ _ _ _
      rw [e_X12_isText_40]
      unfold b_X12_isText_40
      repeat' (with_reducible first
        | exact ph_none
        | exact ph_some
        | refine ph_gI (by first | decide | omega) (fun _ => ?_)
        | refine ph_gCp (by first | decide | omega) (fun _ => ?_)
        | refine ph_gB (by first | decide | omega) (fun _ => ?_)
        | refine ph_gR (by first | decide | omega) (fun _ => ?_)
        | refine ph_gv (fun _ => ?_)
        | refine ph_gg (fun _ => ?_)
        | refine ph_gc ?_ (fun _ _ => ?_)
        | refine ph_ite (fun _ => ?_) (fun _ => ?_)
        | exact h40 _ _ _ _ _ _
        | exact (kr_X12_part _) _ _ _ _ _)

theorem kr_X12_isKind : ∀ n : Nat, (∀ (d : Nat) (S : GS) (a1 : Int) (a2 : Int), PH 600 S (f_X12_isKind n d 0 S [a1, a2])) ∧ (∀ (d : Nat) (S : GS) (a1 : Int) (a2 : Int) (a3 : Int) (a4 : Int), PH 600 S (f_X12_isKind n d 5 S [a1, a2, a3, a4]))
  | 0 => ⟨(fun _ _ _ _ => ph_none), (fun _ _ _ _ _ _ => ph_none)⟩
  | n + 1 => by
    obtain ⟨h0, h5⟩ := kr_X12_isKind n
    refine ⟨?_, ?_⟩
    · intro _ _ _ _
      rw [e_X12_isKind_0]
      unfold b_X12_isKind_0
      repeat' (with_reducible first
        | exact ph_none
        | exact ph_some
        | refine ph_gI (by first | decide | omega) (fun _ => ?_)
        | refine ph_gCp (by first | decide | omega) (fun _ => ?_)
        | refine ph_gB (by first | decide | omega) (fun _ => ?_)
        | refine ph_gR (by first | decide | omega) (fun _ => ?_)
        | refine ph_gv (fun _ => ?_)
        | refine ph_gg (fun _ => ?_)
        | refine ph_gc ?_ (fun _ _ => ?_)
        | refine ph_ite (fun _ => ?_) (fun _ => ?_)
        | exact h5 _ _ _ _ _ _)
    · intro _ _ _ _ _ _
      rw [e_X12_isKind_5]
      unfold b_X12_isKind_5
      repeat' (with_reducible first
        | exact ph_none
        | exact ph_some
        | refine ph_gI (by first | decide | omega) (fun _ => ?_)
        | refine ph_gCp (by first | decide | omega) (fun _ => ?_)
        | refine ph_gB (by first | decide | omega) (fun _ => ?_)
        | refine ph_gR (by first | decide | omega) (fun _ => ?_)
        | refine ph_gv (fun _ => ?_)
        | refine ph_gg (fun _ => ?_)
        | refine ph_gc ?_ (fun _ _ => ?_)
        | refine ph_ite (fun _ => ?_) (fun _ => ?_)
        | exact h5 _ _ _ _ _ _
        | exact (kr_X12_isText _).1 _ _ _ _ _
        | exact (kr_X12_kind _) _ _ _ _
        | exact (kr_X12_part _) _ _ _ _ _)

theorem kr_X12_compared : ∀ n : Nat, (∀ (d : Nat) (S : GS) (a1 : Int) (a2 : Int) (a3 : Int) (a4 : Int), PH 600 S (f_X12_compared n d 0 S [a1, a2, a3, a4])) ∧ (∀ (d : Nat) (S : GS) (a5 : Int) (a6 : Int) (a7 : Int) (a8 : Int), PH 600 S (f_X12_compared n d 130 S [a5, a6, a7, a8])) ∧ (∀ (d : Nat) (S : GS) (a5 : Int) (a6 : Int) (a8 : Int) (s0 : Int), PH 600 S (f_X12_compared n d 175 S [a5, a6, a8, s0])) ∧ (∀ (d : Nat) (S : GS) (a5 : Int) (a7 : Int), PH 600 S (f_X12_compared n d 221 S [a5, a7])) ∧ (∀ (d : Nat) (S : GS) (a5 : Int) (s0 : Int), PH 600 S (f_X12_compared n d 240 S [a5, s0]))
  | 0 => ⟨(fun _ _ _ _ _ _ => ph_none), (fun _ _ _ _ _ _ => ph_none), (fun _ _ _ _ _ _ => ph_none), (fun _ _ _ _ => ph_none), (fun _ _ _ _ => ph_none)⟩
  | n + 1 => by
    obtain ⟨h0, h130, h175, h221, h240⟩ := kr_X12_compared n
    refine ⟨?_, ?_, ?_, ?_, ?_⟩
    · intro _ _ _ _ _ _
      rw [e_X12_compared_0]
      unfold b_X12_compared_0
      repeat' (with_reducible first
        | exact ph_none
        | exact ph_some
        | refine ph_gI (by first | decide | omega) (fun _ => ?_)
        | refine ph_gCp (by first | decide | omega) (fun _ => ?_)
        | refine ph_gB (by first | decide | omega) (fun _ => ?_)
        | refine ph_gR (by first | decide | omega) (fun _ => ?_)
        | refine ph_gv (fun _ => ?_)
        | refine ph_gg (fun _ => ?_)
        | refine ph_gc ?_ (fun _ _ => ?_)
        | refine ph_ite (fun _ => ?_) (fun _ => ?_)
        | exact h130 _ _ _ _ _ _
        | exact (kr_X12_at _) _ _ _ _)
    · intro _ _ _ _ _ _
      rw [e_X12_compared_130]
      unfold b_X12_compared_130
      repeat' (with_reducible first
        | exact ph_none
        | exact ph_some
        | refine ph_gI (by first | decide | omega) (fun _ => ?_)
        | refine ph_gCp (by first | decide | omega) (fun _ => ?_)
        | refine ph_gB (by first | decide | omega) (fun _ => ?_)
        | refine ph_gR (by first | decide | omega) (fun _ => ?_)
        | refine ph_gv (fun _ => ?_)
        | refine ph_gg (fun _ => ?_)
        | refine ph_gc ?_ (fun _ _ => ?_)
        | refine ph_ite (fun _ => ?_) (fun _ => ?_)
        | exact h175 _ _ _ _ _ _
        | exact h221 _ _ _ _)
    · intro _ _ _ _ _ _
      rw [e_X12_compared_175]
      unfold b_X12_compared_175
      repeat' (with_reducible first
        | exact ph_none
        | exact ph_some
        | refine ph_gI (by first | decide | omega) (fun _ => ?_)
        | refine ph_gCp (by first | decide | omega) (fun _ => ?_)
        | refine ph_gB (by first | decide | omega) (fun _ => ?_)
        | refine ph_gR (by first | decide | omega) (fun _ => ?_)
        | refine ph_gv (fun _ => ?_)
        | refine ph_gg (fun _ => ?_)
        | refine ph_gc ?_ (fun _ _ => ?_)
        | refine ph_ite (fun _ => ?_) (fun _ => ?_)
        | exact h130 _ _ _ _ _ _)
    · intro _ _ _ _
      rw [e_X12_compared_221]
      unfold b_X12_compared_221
      repeat' (with_reducible first
        | exact ph_none
        | exact ph_some
        | refine ph_gI (by first | decide | omega) (fun _ => ?_)
        | refine ph_gCp (by first | decide | omega) (fun _ => ?_)
        | refine ph_gB (by first | decide | omega) (fun _ => ?_)
        | refine ph_gR (by first | decide | omega) (fun _ => ?_)
        | refine ph_gv (fun _ => ?_)
        | refine ph_gg (fun _ => ?_)
        | refine ph_gc ?_ (fun _ _ => ?_)
        | refine ph_ite (fun _ => ?_) (fun _ => ?_)
        | exact h240 _ _ _ _)
    · intro _ _ _ _
      rw [e_X12_compared_240]
      unfold b_X12_compared_240
      repeat' (with_reducible first
        | exact ph_none
        | exact ph_some
        | refine ph_gI (by first | decide | omega) (fun _ => ?_)
        | refine ph_gCp (by first | decide | omega) (fun _ => ?_)
        | refine ph_gB (by first | decide | omega) (fun _ => ?_)
        | refine ph_gR (by first | decide | omega) (fun _ => ?_)
        | refine ph_gv (fun _ => ?_)
        | refine ph_gg (fun _ => ?_)
        | refine ph_gc ?_ (fun _ _ => ?_)
        | refine ph_ite (fun _ => ?_) (fun _ => ?_))

theorem kr_X12_begin : ∀ n : Nat, (∀ (d : Nat) (S : GS) (a1 : Int), PH 600 S (f_X12_begin n d 0 S [a1]))
  | 0 => (fun _ _ _ => ph_none)
  | n + 1 => by
    have h0 := kr_X12_begin n
    · intro _ _ _
      rw [e_X12_begin_0]
      unfold b_X12_begin_0
      repeat' (with_reducible first
        | exact ph_none
        | exact ph_some
        | refine ph_gI (by first | decide | omega) (fun _ => ?_)
        | refine ph_gCp (by first | decide | omega) (fun _ => ?_)
        | refine ph_gB (by first | decide | omega) (fun _ => ?_)
        | refine ph_gR (by first | decide | omega) (fun _ => ?_)
        | refine ph_gv (fun _ => ?_)
        | refine ph_gg (fun _ => ?_)
        | refine ph_gc ?_ (fun _ _ => ?_)
        | refine ph_ite (fun _ => ?_) (fun _ => ?_))

theorem kr_X12_in : ∀ n : Nat, (∀ (d : Nat) (S : GS) (a0 : Int) (a1 : Int) (a2 : Int), PH 600 S (f_X12_in n d 0 S [a0, a1, a2]))
  | 0 => (fun _ _ _ _ _ => ph_none)
  | n + 1 => by
    have h0 := kr_X12_in n
    · intro _ _ _ _ _
      rw [e_X12_in_0]
      unfold b_X12_in_0
      repeat' (with_reducible first
        | exact ph_none
        | exact ph_some
        | refine ph_gI (by first | decide | omega) (fun _ => ?_)
        | refine ph_gCp (by first | decide | omega) (fun _ => ?_)
        | refine ph_gB (by first | decide | omega) (fun _ => ?_)
        | refine ph_gR (by first | decide | omega) (fun _ => ?_)
        | refine ph_gv (fun _ => ?_)
        | refine ph_gg (fun _ => ?_)
        | refine ph_gc ?_ (fun _ _ => ?_)
        | refine ph_ite (fun _ => ?_) (fun _ => ?_))

theorem kr_X12_isNumber : ∀ n : Nat, (∀ (d : Nat) (S : GS) (a1 : Int) (a2 : Int) (a3 : Int) (a4 : Int), PH 600 S (f_X12_isNumber n d 0 S [a1, a2, a3, a4])) ∧ (∀ (d : Nat) (S : GS) (a1 : Int) (a2 : Int) (a5 : Int) (a6 : Int) (a7 : Int), PH 600 S (f_X12_isNumber n d 10 S [a1, a2, a5, a6, a7])) ∧ (∀ (d : Nat) (S : GS) (a1 : Int) (a2 : Int) (a5 : Int) (a6 : Int) (a7 : Int), PH 600 S (f_X12_isNumber n d 33 S [a1, a2, a5, a6, a7])) ∧ (∀ (d : Nat) (S : GS) (a1 : Int) (a2 : Int) (a5 : Int) (a6 : Int) (a7 : Int), PH 600 S (f_X12_isNumber n d 61 S [a1, a2, a5, a6, a7])) ∧ (∀ (d : Nat) (S : GS) (a5 : Int) (a6 : Int) (a7 : Int) (a8 : Int) (s0 : Int) (s1 : Int), PH 600 S (f_X12_isNumber n d 156 S [a5, a6, a7, a8, s0, s1])) ∧ (∀ (d : Nat) (S : GS) (a5 : Int) (a6 : Int) (a7 : Int) (a8 : Int) (a9 : Int), PH 600 S (f_X12_isNumber n d 173 S [a5, a6, a7, a8, a9]))
  | 0 => ⟨(fun _ _ _ _ _ _ => ph_none), (fun _ _ _ _ _ _ _ => ph_none), (fun _ _ _ _ _ _ _ => ph_none), (fun _ _ _ _ _ _ _ => ph_none), (fun _ _ _ _ _ _ _ _ => ph_none), (fun _ _ _ _ _ _ _ => ph_none)⟩
  | n + 1 => by
    obtain ⟨h0, h10, h33, h61, h156, h173⟩ := kr_X12_isNumber n
    refine ⟨?_, ?_, ?_, ?_, ?_, ?_⟩
    · intro _ _ _ _ _ _
      rw [e_X12_isNumber_0]
      unfold b_X12_isNumber_0
      repeat' (with_reducible first
        | exact ph_none
        | exact ph_some
        | refine ph_gI (by first | decide | omega) (fun _ => ?_)
        | refine ph_gCp (by first | decide | omega) (fun _ => ?_)
        | refine ph_gB (by first | decide | omega) (fun _ => ?_)
        | refine ph_gR (by first | decide | omega) (fun _ => ?_)
        | refine ph_gv (fun _ => ?_)
        | refine ph_gg (fun _ => ?_)
        | refine ph_gc ?_ (fun _ _ => ?_)
        | refine ph_ite (fun _ => ?_) (fun _ => ?_)
        | exact h10 _ _ _ _ _ _ _)
    · intro _ _ _ _ _ _ _
      rw [e_X12_isNumber_10]
      unfold b_X12_isNumber_10
      repeat' (with_reducible first
        | exact ph_none
        | exact ph_some
        | refine ph_gI (by first | decide | omega) (fun _ => ?_)
        | refine ph_gCp (by first | decide | omega) (fun _ => ?_)
        | refine ph_gB (by first | decide | omega) (fun _ => ?_)
        | refine ph_gR (by first | decide | omega) (fun _ => ?_)
        | refine ph_gv (fun _ => ?_)
        | refine ph_gg (fun _ => ?_)
        | refine ph_gc ?_ (fun _ _ => ?_)
        | refine ph_ite (fun _ => ?_) (fun _ => ?_)
        | exact h10 _ _ _ _ _ _ _
        | exact h33 _ _ _ _ _ _ _)
    · intro _ _ _ _ _ _ _
      rw [e_X12_isNumber_33]
      unfold b_X12_isNumber_33
      repeat' (with_reducible first
        | exact ph_none
        | exact ph_some
        | refine ph_gI (by first | decide | omega) (fun _ => ?_)
        | refine ph_gCp (by first | decide | omega) (fun _ => ?_)
        | refine ph_gB (by first | decide | omega) (fun _ => ?_)
        | refine ph_gR (by first | decide | omega) (fun _ => ?_)
        | refine ph_gv (fun _ => ?_)
        | refine ph_gg (fun _ => ?_)
        | refine ph_gc ?_ (fun _ _ => ?_)
        | refine ph_ite (fun _ => ?_) (fun _ => ?_)
        | exact h33 _ _ _ _ _ _ _
        | exact h61 _ _ _ _ _ _ _)
    · intro _ _ _ _ _ _ _
      rw [e_X12_isNumber_61]
      unfold b_X12_isNumber_61
      repeat' (with_reducible first
        | exact ph_none
        | exact ph_some
        | refine ph_gI (by first | decide | omega) (fun _ => ?_)
        | refine ph_gCp (by first | decide | omega) (fun _ => ?_)
        | refine ph_gB (by first | decide | omega) (fun _ => ?_)
        | refine ph_gR (by first | decide | omega) (fun _ => ?_)
        | refine ph_gv (fun _ => ?_)
        | refine ph_gg (fun _ => ?_)
        | refine ph_gc ?_ (fun _ _ => ?_)
        | refine ph_ite (fun _ => ?_) (fun _ => ?_)
        | exact h156 _ _ _ _ _ _ _ _
        | exact (kr_X12_at _) _ _ _ _)
    · intro _ _ _ _ _ _ _ _
      rw [e_X12_isNumber_156]
      unfold b_X12_isNumber_156
      repeat' (with_reducible first
        | exact ph_none
        | exact ph_some
        | refine ph_gI (by first | decide | omega) (fun _ => ?_)
        | refine ph_gCp (by first | decide | omega) (fun _ => ?_)
        | refine ph_gB (by first | decide | omega) (fun _ => ?_)
        | refine ph_gR (by first | decide | omega) (fun _ => ?_)
        | refine ph_gv (fun _ => ?_)
        | refine ph_gg (fun _ => ?_)
        | refine ph_gc ?_ (fun _ _ => ?_)
        | refine ph_ite (fun _ => ?_) (fun _ => ?_)
        | exact h173 _ _ _ _ _ _ _)
    · intro _ _ _ _ _ _ _
      rw [e_X12_isNumber_173]
      unfold b_X12_isNumber_173
      repeat' (with_reducible first
        | exact ph_none
        | exact ph_some
        | refine ph_gI (by first | decide | omega) (fun _ => ?_)
        | refine ph_gCp (by first | decide | omega) (fun _ => ?_)
        | refine ph_gB (by first | decide | omega) (fun _ => ?_)
        | refine ph_gR (by first | decide | omega) (fun _ => ?_)
        | refine ph_gv (fun _ => ?_)
        | refine ph_gg (fun _ => ?_)
        | refine ph_gc ?_ (fun _ _ => ?_)
        | refine ph_ite (fun _ => ?_) (fun _ => ?_)
        | exact h173 _ _ _ _ _ _ _
        | exact (kr_X12_in _) _ _ _ _ _)

theorem kr_X12_beside : ∀ n : Nat, (∀ (d : Nat) (S : GS) (a1 : Int) (a2 : Int), PH 600 S (f_X12_beside n d 0 S [a1, a2]))
  | 0 => (fun _ _ _ _ => ph_none)
  | n + 1 => by
    have h0 := kr_X12_beside n
    · intro _ _ _ _
      rw [e_X12_beside_0]
      unfold b_X12_beside_0
      repeat' (with_reducible first
        | exact ph_none
        | exact ph_some
        | refine ph_gI (by first | decide | omega) (fun _ => ?_)
        | refine ph_gCp (by first | decide | omega) (fun _ => ?_)
        | refine ph_gB (by first | decide | omega) (fun _ => ?_)
        | refine ph_gR (by first | decide | omega) (fun _ => ?_)
        | refine ph_gv (fun _ => ?_)
        | refine ph_gg (fun _ => ?_)
        | refine ph_gc ?_ (fun _ _ => ?_)
        | refine ph_ite (fun _ => ?_) (fun _ => ?_)
        | exact (kr_X12_added _).1 _ _ _ _
        | exact (kr_X12_begin _) _ _ _
        | exact (kr_X12_compared _).1 _ _ _ _ _ _
        | exact (kr_X12_isNumber _).1 _ _ _ _ _ _)

theorem kr_X12_wordOfText : ∀ n : Nat, (∀ (d : Nat) (S : GS) (a1 : Int) (a2 : Int), PH 600 S (f_X12_wordOfText n d 0 S [a1, a2])) ∧ (∀ (d : Nat) (S : GS) (a1 : Int) (a2 : Int) (a3 : Int), PH 600 S (f_X12_wordOfText n d 14 S [a1, a2, a3]))
  | 0 => ⟨(fun _ _ _ _ => ph_none), (fun _ _ _ _ _ => ph_none)⟩
  | n + 1 => by
    obtain ⟨h0, h14⟩ := kr_X12_wordOfText n
    refine ⟨?_, ?_⟩
    · intro _ _ _ _
      rw [e_X12_wordOfText_0]
      unfold b_X12_wordOfText_0
      repeat' (with_reducible first
        | exact ph_none
        | exact ph_some
        | refine ph_gI (by first | decide | omega) (fun _ => ?_)
        | refine ph_gCp (by first | decide | omega) (fun _ => ?_)
        | refine ph_gB (by first | decide | omega) (fun _ => ?_)
        | refine ph_gR (by first | decide | omega) (fun _ => ?_)
        | refine ph_gv (fun _ => ?_)
        | refine ph_gg (fun _ => ?_)
        | refine ph_gc ?_ (fun _ _ => ?_)
        | refine ph_ite (fun _ => ?_) (fun _ => ?_)
        | exact h14 _ _ _ _ _
        | exact (kr_X12_part _) _ _ _ _ _)
    · intro _ _ _ _ _
      rw [e_X12_wordOfText_14]
      unfold b_X12_wordOfText_14
      repeat' (with_reducible first
        | exact ph_none
        | exact ph_some
        | refine ph_gI (by first | decide | omega) (fun _ => ?_)
        | refine ph_gCp (by first | decide | omega) (fun _ => ?_)
        | refine ph_gB (by first | decide | omega) (fun _ => ?_)
        | refine ph_gR (by first | decide | omega) (fun _ => ?_)
        | refine ph_gv (fun _ => ?_)
        | refine ph_gg (fun _ => ?_)
        | refine ph_gc ?_ (fun _ _ => ?_)
        | refine ph_ite (fun _ => ?_) (fun _ => ?_)
        | exact h14 _ _ _ _ _
        | exact (kr_X12_part _) _ _ _ _ _)

theorem kr_X12_says_ : ∀ n : Nat, (∀ (d : Nat) (S : GS) (a1 : Int) (a2 : Int) (a3 : Int), PH 600 S (f_X12_says_ n d 0 S [a1, a2, a3])) ∧ (∀ (d : Nat) (S : GS) (a1 : Int) (a2 : Int) (a3 : Int) (a4 : Int) (s0 : Int), PH 600 S (f_X12_says_ n d 41 S [a1, a2, a3, a4, s0])) ∧ (∀ (d : Nat) (S : GS) (a1 : Int) (a2 : Int) (a3 : Int) (a6 : Int) (a7 : Int), PH 600 S (f_X12_says_ n d 62 S [a1, a2, a3, a6, a7])) ∧ (∀ (d : Nat) (S : GS) (a1 : Int) (a3 : Int) (s0 : Int), PH 600 S (f_X12_says_ n d 150 S [a1, a3, s0])) ∧ (∀ (d : Nat) (S : GS) (a1 : Int) (a3 : Int) (s0 : Int), PH 600 S (f_X12_says_ n d 188 S [a1, a3, s0])) ∧ (∀ (d : Nat) (S : GS) (a1 : Int) (a3 : Int) (s0 : Int), PH 600 S (f_X12_says_ n d 219 S [a1, a3, s0])) ∧ (∀ (d : Nat) (S : GS) (a1 : Int) (a3 : Int) (s0 : Int), PH 600 S (f_X12_says_ n d 250 S [a1, a3, s0])) ∧ (∀ (d : Nat) (S : GS) (a1 : Int) (a2 : Int) (a3 : Int) (a4 : Int) (a6 : Int) (a7 : Int), PH 600 S (f_X12_says_ n d 264 S [a1, a2, a3, a4, a6, a7])) ∧ (∀ (d : Nat) (S : GS) (a1 : Int) (a3 : Int) (a6 : Int), PH 600 S (f_X12_says_ n d 330 S [a1, a3, a6])) ∧ (∀ (d : Nat) (S : GS) (a1 : Int) (a2 : Int) (a3 : Int) (a6 : Int) (a7 : Int), PH 600 S (f_X12_says_ n d 339 S [a1, a2, a3, a6, a7]))
  | 0 => ⟨(fun _ _ _ _ _ => ph_none), (fun _ _ _ _ _ _ _ => ph_none), (fun _ _ _ _ _ _ _ => ph_none), (fun _ _ _ _ _ => ph_none), (fun _ _ _ _ _ => ph_none), (fun _ _ _ _ _ => ph_none), (fun _ _ _ _ _ => ph_none), (fun _ _ _ _ _ _ _ _ => ph_none), (fun _ _ _ _ _ => ph_none), (fun _ _ _ _ _ _ _ => ph_none)⟩
  | n + 1 => by
    obtain ⟨h0, h41, h62, h150, h188, h219, h250, h264, h330, h339⟩ := kr_X12_says_ n
    refine ⟨?_, ?_, ?_, ?_, ?_, ?_, ?_, ?_, ?_, ?_⟩
    · intro _ _ _ _ _
      rw [e_X12_says__0]
      unfold b_X12_says__0
      repeat' (with_reducible first
        | exact ph_none
        | exact ph_some
        | refine ph_gI (by first | decide | omega) (fun _ => ?_)
        | refine ph_gCp (by first | decide | omega) (fun _ => ?_)
        | refine ph_gB (by first | decide | omega) (fun _ => ?_)
        | refine ph_gR (by first | decide | omega) (fun _ => ?_)
        | refine ph_gv (fun _ => ?_)
        | refine ph_gg (fun _ => ?_)
        | refine ph_gc ?_ (fun _ _ => ?_)
        | refine ph_ite (fun _ => ?_) (fun _ => ?_)
        | exact h41 _ _ _ _ _ _ _
        | exact (kr_X12_kind _) _ _ _ _
        | exact (kr_X12_part _) _ _ _ _ _)
    · intro _ _ _ _ _ _ _
      rw [e_X12_says__41]
      unfold b_X12_says__41
      repeat' (with_reducible first
        | exact ph_none
        | exact ph_some
        | refine ph_gI (by first | decide | omega) (fun _ => ?_)
        | refine ph_gCp (by first | decide | omega) (fun _ => ?_)
        | refine ph_gB (by first | decide | omega) (fun _ => ?_)
        | refine ph_gR (by first | decide | omega) (fun _ => ?_)
        | refine ph_gv (fun _ => ?_)
        | refine ph_gg (fun _ => ?_)
        | refine ph_gc ?_ (fun _ _ => ?_)
        | refine ph_ite (fun _ => ?_) (fun _ => ?_)
        | exact h62 _ _ _ _ _ _ _
        | exact h150 _ _ _ _ _
        | exact h188 _ _ _ _ _
        | exact h219 _ _ _ _ _
        | exact h250 _ _ _ _ _
        | exact h264 _ _ _ _ _ _ _ _
        | exact h339 _ _ _ _ _ _ _
        | exact (kr_X12_beside _) _ _ _ _
        | exact (kr_X12_compared _).1 _ _ _ _ _ _
        | exact (kr_X12_isKind _).1 _ _ _ _)
    · intro _ _ _ _ _ _ _
      rw [e_X12_says__62]
      unfold b_X12_says__62
      repeat' (with_reducible first
        | exact ph_none
        | exact ph_some
        | refine ph_gI (by first | decide | omega) (fun _ => ?_)
        | refine ph_gCp (by first | decide | omega) (fun _ => ?_)
        | refine ph_gB (by first | decide | omega) (fun _ => ?_)
        | refine ph_gR (by first | decide | omega) (fun _ => ?_)
        | refine ph_gv (fun _ => ?_)
        | refine ph_gg (fun _ => ?_)
        | refine ph_gc ?_ (fun _ _ => ?_)
        | refine ph_ite (fun _ => ?_) (fun _ => ?_)
        | exact h62 _ _ _ _ _ _ _
        | exact (kr_X12_childAt _).1 _ _ _ _ _
        | exact (kr_X12_complains _) _ _ _ _
        | exact (kr_X12_isKind _).1 _ _ _ _
        | exact (kr_X12_part _) _ _ _ _ _)
    · intro _ _ _ _ _
      rw [e_X12_says__150]
      unfold b_X12_says__150
      repeat' (with_reducible first
        | exact ph_none
        | exact ph_some
        | refine ph_gI (by first | decide | omega) (fun _ => ?_)
        | refine ph_gCp (by first | decide | omega) (fun _ => ?_)
        | refine ph_gB (by first | decide | omega) (fun _ => ?_)
        | refine ph_gR (by first | decide | omega) (fun _ => ?_)
        | refine ph_gv (fun _ => ?_)
        | refine ph_gg (fun _ => ?_)
        | refine ph_gc ?_ (fun _ _ => ?_)
        | refine ph_ite (fun _ => ?_) (fun _ => ?_)
        | exact (kr_X12_complains _) _ _ _ _)
    · intro _ _ _ _ _
      rw [e_X12_says__188]
      unfold b_X12_says__188
      repeat' (with_reducible first
        | exact ph_none
        | exact ph_some
        | refine ph_gI (by first | decide | omega) (fun _ => ?_)
        | refine ph_gCp (by first | decide | omega) (fun _ => ?_)
        | refine ph_gB (by first | decide | omega) (fun _ => ?_)
        | refine ph_gR (by first | decide | omega) (fun _ => ?_)
        | refine ph_gv (fun _ => ?_)
        | refine ph_gg (fun _ => ?_)
        | refine ph_gc ?_ (fun _ _ => ?_)
        | refine ph_ite (fun _ => ?_) (fun _ => ?_)
        | exact (kr_X12_complains _) _ _ _ _)
    · intro _ _ _ _ _
      rw [e_X12_says__219]
      unfold b_X12_says__219
      repeat' (with_reducible first
        | exact ph_none
        | exact ph_some
        | refine ph_gI (by first | decide | omega) (fun _ => ?_)
        | refine ph_gCp (by first | decide | omega) (fun _ => ?_)
        | refine ph_gB (by first | decide | omega) (fun _ => ?_)
        | refine ph_gR (by first | decide | omega) (fun _ => ?_)
        | refine ph_gv (fun _ => ?_)
        | refine ph_gg (fun _ => ?_)
        | refine ph_gc ?_ (fun _ _ => ?_)
        | refine ph_ite (fun _ => ?_) (fun _ => ?_)
        | exact (kr_X12_complains _) _ _ _ _)
    · intro _ _ _ _ _
      rw [e_X12_says__250]
      unfold b_X12_says__250
      repeat' (with_reducible first
        | exact ph_none
        | exact ph_some
        | refine ph_gI (by first | decide | omega) (fun _ => ?_)
        | refine ph_gCp (by first | decide | omega) (fun _ => ?_)
        | refine ph_gB (by first | decide | omega) (fun _ => ?_)
        | refine ph_gR (by first | decide | omega) (fun _ => ?_)
        | refine ph_gv (fun _ => ?_)
        | refine ph_gg (fun _ => ?_)
        | refine ph_gc ?_ (fun _ _ => ?_)
        | refine ph_ite (fun _ => ?_) (fun _ => ?_)
        | exact (kr_X12_complains _) _ _ _ _)
    · intro _ _ _ _ _ _ _ _
      rw [e_X12_says__264]
      unfold b_X12_says__264
      repeat' (with_reducible first
        | exact ph_none
        | exact ph_some
        | refine ph_gI (by first | decide | omega) (fun _ => ?_)
        | refine ph_gCp (by first | decide | omega) (fun _ => ?_)
        | refine ph_gB (by first | decide | omega) (fun _ => ?_)
        | refine ph_gR (by first | decide | omega) (fun _ => ?_)
        | refine ph_gv (fun _ => ?_)
        | refine ph_gg (fun _ => ?_)
        | refine ph_gc ?_ (fun _ _ => ?_)
        | refine ph_ite (fun _ => ?_) (fun _ => ?_)
        | exact h264 _ _ _ _ _ _ _ _
        | exact h330 _ _ _ _ _
        | exact (kr_X12_childAt _).1 _ _ _ _ _
        | exact (kr_X12_childByWord _).1 _ _ _ _
        | exact (kr_X12_complains _) _ _ _ _
        | exact (kr_X12_part _) _ _ _ _ _
        | exact (kr_X12_wordOfText _).1 _ _ _ _)
    · intro _ _ _ _ _
      rw [e_X12_says__330]
      unfold b_X12_says__330
      repeat' (with_reducible first
        | exact ph_none
        | exact ph_some
        | refine ph_gI (by first | decide | omega) (fun _ => ?_)
        | refine ph_gCp (by first | decide | omega) (fun _ => ?_)
        | refine ph_gB (by first | decide | omega) (fun _ => ?_)
        | refine ph_gR (by first | decide | omega) (fun _ => ?_)
        | refine ph_gv (fun _ => ?_)
        | refine ph_gg (fun _ => ?_)
        | refine ph_gc ?_ (fun _ _ => ?_)
        | refine ph_ite (fun _ => ?_) (fun _ => ?_)
        | exact (kr_X12_complains _) _ _ _ _)
    · intro _ _ _ _ _ _ _
      rw [e_X12_says__339]
      unfold b_X12_says__339
      repeat' (with_reducible first
        | exact ph_none
        | exact ph_some
        | refine ph_gI (by first | decide | omega) (fun _ => ?_)
        | refine ph_gCp (by first | decide | omega) (fun _ => ?_)
        | refine ph_gB (by first | decide | omega) (fun _ => ?_)
        | refine ph_gR (by first | decide | omega) (fun _ => ?_)
        | refine ph_gv (fun _ => ?_)
        | refine ph_gg (fun _ => ?_)
        | refine ph_gc ?_ (fun _ _ => ?_)
        | refine ph_ite (fun _ => ?_) (fun _ => ?_)
        | exact h339 _ _ _ _ _ _ _
        | exact (kr_X12_areEqual _).1 _ _ _ _ _ _
        | exact (kr_X12_childAt _).1 _ _ _ _ _
        | exact (kr_X12_complains _) _ _ _ _
        | exact (kr_X12_part _) _ _ _ _ _)

