/-! CELLS that the reference never touches -/
theorem kr_X12_quarrels : ∀ n : Nat, (∀ (d : Nat) (S : GS), PH 600 S (f_X12_quarrels n d 0 S []))
  | 0 => (fun _ _ => ph_none)
  | n + 1 => by
    have h0 := kr_X12_quarrels n
    · intro _ _
      rw [e_X12_quarrels_0]
      unfold b_X12_quarrels_0
      repeat' (with_reducible first
        | exact ph_none
        | exact ph_some
        | refine ph_gI (by first | decide | omega) (fun _ => ?_)
        | refine ph_gCp (by first | decide | omega) (fun _ => ?_)
        | refine ph_gB (by first | decide | omega) (fun _ => ?_)
        | refine ph_gR (by first | decide | omega) (fun _ => ?_)
        | refine ph_gv (fun _ => ?_)
        | refine ph_gg (fun _ => ?_)
        | refine ph_gc ?_ (fun _ _ => ?_)
        | refine ph_ite (fun _ => ?_) (fun _ => ?_))

theorem kr_X12_readsText : ∀ n : Nat, (∀ (d : Nat) (S : GS) (a1 : Int), PH 600 S (f_X12_readsText n d 0 S [a1])) ∧ (∀ (d : Nat) (S : GS) (a1 : Int), PH 600 S (f_X12_readsText n d 15 S [a1])) ∧ (∀ (d : Nat) (S : GS) (a1 : Int) (a3 : Int), PH 600 S (f_X12_readsText n d 91 S [a1, a3])) ∧ (∀ (d : Nat) (S : GS) (a1 : Int) (a2 : Int), PH 600 S (f_X12_readsText n d 175 S [a1, a2])) ∧ (∀ (d : Nat) (S : GS) (a1 : Int) (a2 : Int), PH 600 S (f_X12_readsText n d 192 S [a1, a2]))
  | 0 => ⟨(fun _ _ _ => ph_none), (fun _ _ _ => ph_none), (fun _ _ _ _ => ph_none), (fun _ _ _ _ => ph_none), (fun _ _ _ _ => ph_none)⟩
  | n + 1 => by
    obtain ⟨h0, h15, h91, h175, h192⟩ := kr_X12_readsText n
    refine ⟨?_, ?_, ?_, ?_, ?_⟩
    · intro _ _ _
      rw [e_X12_readsText_0]
      unfold b_X12_readsText_0
      repeat' (with_reducible first
        | exact ph_none
        | exact ph_some
        | refine ph_gI (by first | decide | omega) (fun _ => ?_)
        | refine ph_gCp (by first | decide | omega) (fun _ => ?_)
        | refine ph_gB (by first | decide | omega) (fun _ => ?_)
        | refine ph_gR (by first | decide | omega) (fun _ => ?_)
        | refine ph_gv (fun _ => ?_)
        | refine ph_gg (fun _ => ?_)
        | refine ph_gc ?_ (fun _ _ => ?_)
        | refine ph_ite (fun _ => ?_) (fun _ => ?_)
        | exact h15 _ _ _)
    · intro _ _ _
      rw [e_X12_readsText_15]
      unfold b_X12_readsText_15
      repeat' (with_reducible first
        | exact ph_none
        | exact ph_some
        | refine ph_gI (by first | decide | omega) (fun _ => ?_)
        | refine ph_gCp (by first | decide | omega) (fun _ => ?_)
        | refine ph_gB (by first | decide | omega) (fun _ => ?_)
        | refine ph_gR (by first | decide | omega) (fun _ => ?_)
        | refine ph_gv (fun _ => ?_)
        | refine ph_gg (fun _ => ?_)
        | refine ph_gc ?_ (fun _ _ => ?_)
        | refine ph_ite (fun _ => ?_) (fun _ => ?_)
        | exact h91 _ _ _ _
        | exact h175 _ _ _ _
        | exact h192 _ _ _ _
        | exact (kr_X12_escaped _) _ _ _
        | exact (kr_X12_sign _) _ _)
    · intro _ _ _ _
      rw [e_X12_readsText_91]
      unfold b_X12_readsText_91
      repeat' (with_reducible first
        | exact ph_none
        | exact ph_some
        | refine ph_gI (by first | decide | omega) (fun _ => ?_)
        | refine ph_gCp (by first | decide | omega) (fun _ => ?_)
        | refine ph_gB (by first | decide | omega) (fun _ => ?_)
        | refine ph_gR (by first | decide | omega) (fun _ => ?_)
        | refine ph_gv (fun _ => ?_)
        | refine ph_gg (fun _ => ?_)
        | refine ph_gc ?_ (fun _ _ => ?_)
        | refine ph_ite (fun _ => ?_) (fun _ => ?_)
        | exact h91 _ _ _ _
        | exact h175 _ _ _ _
        | exact (kr_X12_hex _) _ _ _
        | exact (kr_X12_sign _) _ _)
    · intro _ _ _ _
      rw [e_X12_readsText_175]
      unfold b_X12_readsText_175
      repeat' (with_reducible first
        | exact ph_none
        | exact ph_some
        | refine ph_gI (by first | decide | omega) (fun _ => ?_)
        | refine ph_gCp (by first | decide | omega) (fun _ => ?_)
        | refine ph_gB (by first | decide | omega) (fun _ => ?_)
        | refine ph_gR (by first | decide | omega) (fun _ => ?_)
        | refine ph_gv (fun _ => ?_)
        | refine ph_gg (fun _ => ?_)
        | refine ph_gc ?_ (fun _ _ => ?_)
        | refine ph_ite (fun _ => ?_) (fun _ => ?_)
        | exact h192 _ _ _ _)
    · intro _ _ _ _
      rw [e_X12_readsText_192]
      unfold b_X12_readsText_192
      repeat' (with_reducible first
        | exact ph_none
        | exact ph_some
        | refine ph_gI (by first | decide | omega) (fun _ => ?_)
        | refine ph_gCp (by first | decide | omega) (fun _ => ?_)
        | refine ph_gB (by first | decide | omega) (fun _ => ?_)
        | refine ph_gR (by first | decide | omega) (fun _ => ?_)
        | refine ph_gv (fun _ => ?_)
        | refine ph_gg (fun _ => ?_)
        | refine ph_gc ?_ (fun _ _ => ?_)
        | refine ph_ite (fun _ => ?_) (fun _ => ?_)
        | exact h15 _ _ _)

theorem kr_X12_readsKey : ∀ n : Nat, (∀ (d : Nat) (S : GS) (a1 : Int), PH 600 S (f_X12_readsKey n d 0 S [a1])) ∧ (∀ (d : Nat) (S : GS) (a1 : Int) (a2 : Int), PH 600 S (f_X12_readsKey n d 32 S [a1, a2])) ∧ (∀ (d : Nat) (S : GS) (a1 : Int) (a2 : Int) (a3 : Int), PH 600 S (f_X12_readsKey n d 74 S [a1, a2, a3])) ∧ (∀ (d : Nat) (S : GS) (a1 : Int) (a2 : Int) (a3 : Int) (a4 : Int) (a5 : Int), PH 600 S (f_X12_readsKey n d 126 S [a1, a2, a3, a4, a5])) ∧ (∀ (d : Nat) (S : GS) (a1 : Int) (a2 : Int) (a3 : Int) (a4 : Int), PH 600 S (f_X12_readsKey n d 175 S [a1, a2, a3, a4])) ∧ (∀ (d : Nat) (S : GS), PH 600 S (f_X12_readsKey n d 198 S []))
  | 0 => ⟨(fun _ _ _ => ph_none), (fun _ _ _ _ => ph_none), (fun _ _ _ _ _ => ph_none), (fun _ _ _ _ _ _ _ => ph_none), (fun _ _ _ _ _ _ => ph_none), (fun _ _ => ph_none)⟩
  | n + 1 => by
    obtain ⟨h0, h32, h74, h126, h175, h198⟩ := kr_X12_readsKey n
    refine ⟨?_, ?_, ?_, ?_, ?_, ?_⟩
    · intro _ _ _
      rw [e_X12_readsKey_0]
      unfold b_X12_readsKey_0
      repeat' (with_reducible first
        | exact ph_none
        | exact ph_some
        | refine ph_gI (by first | decide | omega) (fun _ => ?_)
        | refine ph_gCp (by first | decide | omega) (fun _ => ?_)
        | refine ph_gB (by first | decide | omega) (fun _ => ?_)
        | refine ph_gR (by first | decide | omega) (fun _ => ?_)
        | refine ph_gv (fun _ => ?_)
        | refine ph_gg (fun _ => ?_)
        | refine ph_gc ?_ (fun _ _ => ?_)
        | refine ph_ite (fun _ => ?_) (fun _ => ?_)
        | exact h32 _ _ _ _
        | exact (kr_X12_readsText _).1 _ _ _
        | exact (kr_X12_sign _) _ _)
    · intro _ _ _ _
      rw [e_X12_readsKey_32]
      unfold b_X12_readsKey_32
      repeat' (with_reducible first
        | exact ph_none
        | exact ph_some
        | refine ph_gI (by first | decide | omega) (fun _ => ?_)
        | refine ph_gCp (by first | decide | omega) (fun _ => ?_)
        | refine ph_gB (by first | decide | omega) (fun _ => ?_)
        | refine ph_gR (by first | decide | omega) (fun _ => ?_)
        | refine ph_gv (fun _ => ?_)
        | refine ph_gg (fun _ => ?_)
        | refine ph_gc ?_ (fun _ _ => ?_)
        | refine ph_ite (fun _ => ?_) (fun _ => ?_)
        | exact h32 _ _ _ _
        | exact h74 _ _ _ _ _)
    · intro _ _ _ _ _
      rw [e_X12_readsKey_74]
      unfold b_X12_readsKey_74
      repeat' (with_reducible first
        | exact ph_none
        | exact ph_some
        | refine ph_gI (by first | decide | omega) (fun _ => ?_)
        | refine ph_gCp (by first | decide | omega) (fun _ => ?_)
        | refine ph_gB (by first | decide | omega) (fun _ => ?_)
        | refine ph_gR (by first | decide | omega) (fun _ => ?_)
        | refine ph_gv (fun _ => ?_)
        | refine ph_gg (fun _ => ?_)
        | refine ph_gc ?_ (fun _ _ => ?_)
        | refine ph_ite (fun _ => ?_) (fun _ => ?_)
        | exact h126 _ _ _ _ _ _ _
        | exact h198 _ _
        | exact (kr_X12_part _) _ _ _ _ _)
    · intro _ _ _ _ _ _ _
      rw [e_X12_readsKey_126]
      unfold b_X12_readsKey_126
      repeat' (with_reducible first
        | exact ph_none
        | exact ph_some
        | refine ph_gI (by first | decide | omega) (fun _ => ?_)
        | refine ph_gCp (by first | decide | omega) (fun _ => ?_)
        | refine ph_gB (by first | decide | omega) (fun _ => ?_)
        | refine ph_gR (by first | decide | omega) (fun _ => ?_)
        | refine ph_gv (fun _ => ?_)
        | refine ph_gg (fun _ => ?_)
        | refine ph_gc ?_ (fun _ _ => ?_)
        | refine ph_ite (fun _ => ?_) (fun _ => ?_)
        | exact h126 _ _ _ _ _ _ _
        | exact h175 _ _ _ _ _ _
        | exact (kr_X12_part _) _ _ _ _ _)
    · intro _ _ _ _ _ _
      rw [e_X12_readsKey_175]
      unfold b_X12_readsKey_175
      repeat' (with_reducible first
        | exact ph_none
        | exact ph_some
        | refine ph_gI (by first | decide | omega) (fun _ => ?_)
        | refine ph_gCp (by first | decide | omega) (fun _ => ?_)
        | refine ph_gB (by first | decide | omega) (fun _ => ?_)
        | refine ph_gR (by first | decide | omega) (fun _ => ?_)
        | refine ph_gv (fun _ => ?_)
        | refine ph_gg (fun _ => ?_)
        | refine ph_gc ?_ (fun _ _ => ?_)
        | refine ph_ite (fun _ => ?_) (fun _ => ?_)
        | exact h74 _ _ _ _ _)
    · intro _ _
      rw [e_X12_readsKey_198]
      unfold b_X12_readsKey_198
      repeat' (with_reducible first
        | exact ph_none
        | exact ph_some
        | refine ph_gI (by first | decide | omega) (fun _ => ?_)
        | refine ph_gCp (by first | decide | omega) (fun _ => ?_)
        | refine ph_gB (by first | decide | omega) (fun _ => ?_)
        | refine ph_gR (by first | decide | omega) (fun _ => ?_)
        | refine ph_gv (fun _ => ?_)
        | refine ph_gg (fun _ => ?_)
        | refine ph_gc ?_ (fun _ _ => ?_)
        | refine ph_ite (fun _ => ?_) (fun _ => ?_)
        | exact h198 _ _
        | exact (kr_X12_isBlank _) _ _
        | exact (kr_X12_sign _) _ _)

theorem kr_X12_readsLetters : ∀ n : Nat, (∀ (d : Nat) (S : GS) (a1 : Int), PH 600 S (f_X12_readsLetters n d 0 S [a1])) ∧ (∀ (d : Nat) (S : GS) (a3 : Int), PH 600 S (f_X12_readsLetters n d 7 S [a3]))
  | 0 => ⟨(fun _ _ _ => ph_none), (fun _ _ _ => ph_none)⟩
  | n + 1 => by
    obtain ⟨h0, h7⟩ := kr_X12_readsLetters n
    refine ⟨?_, ?_⟩
    · intro _ _ _
      rw [e_X12_readsLetters_0]
      unfold b_X12_readsLetters_0
      repeat' (with_reducible first
        | exact ph_none
        | exact ph_some
        | refine ph_gI (by first | decide | omega) (fun _ => ?_)
        | refine ph_gCp (by first | decide | omega) (fun _ => ?_)
        | refine ph_gB (by first | decide | omega) (fun _ => ?_)
        | refine ph_gR (by first | decide | omega) (fun _ => ?_)
        | refine ph_gv (fun _ => ?_)
        | refine ph_gg (fun _ => ?_)
        | refine ph_gc ?_ (fun _ _ => ?_)
        | refine ph_ite (fun _ => ?_) (fun _ => ?_)
        | exact h7 _ _ _
        | exact (kr_X12_says _).1 _ _ _)
    · intro _ _ _
      rw [e_X12_readsLetters_7]
      unfold b_X12_readsLetters_7
      repeat' (with_reducible first
        | exact ph_none
        | exact ph_some
        | refine ph_gI (by first | decide | omega) (fun _ => ?_)
        | refine ph_gCp (by first | decide | omega) (fun _ => ?_)
        | refine ph_gB (by first | decide | omega) (fun _ => ?_)
        | refine ph_gR (by first | decide | omega) (fun _ => ?_)
        | refine ph_gv (fun _ => ?_)
        | refine ph_gg (fun _ => ?_)
        | refine ph_gc ?_ (fun _ _ => ?_)
        | refine ph_ite (fun _ => ?_) (fun _ => ?_)
        | exact h7 _ _ _
        | exact (kr_X12_sign _) _ _)

theorem kr_X12_readsNumber : ∀ n : Nat, (∀ (d : Nat) (S : GS) (a1 : Int), PH 600 S (f_X12_readsNumber n d 0 S [a1])) ∧ (∀ (d : Nat) (S : GS) (a1 : Int) (a2 : Int) (s0 : Int), PH 600 S (f_X12_readsNumber n d 19 S [a1, a2, s0])) ∧ (∀ (d : Nat) (S : GS) (a1 : Int) (a2 : Int) (a3 : Int) (s0 : Int) (s1 : Int), PH 600 S (f_X12_readsNumber n d 34 S [a1, a2, a3, s0, s1])) ∧ (∀ (d : Nat) (S : GS) (a1 : Int) (a2 : Int) (a3 : Int) (a4 : Int) (a5 : Int) (a6 : Int) (a7 : Int) (a8 : Int), PH 600 S (f_X12_readsNumber n d 75 S [a1, a2, a3, a4, a5, a6, a7, a8])) ∧ (∀ (d : Nat) (S : GS) (a1 : Int) (a2 : Int) (a3 : Int) (a4 : Int) (a6 : Int) (a7 : Int) (a8 : Int) (s0 : Int) (s1 : Int), PH 600 S (f_X12_readsNumber n d 118 S [a1, a2, a3, a4, a6, a7, a8, s0, s1])) ∧ (∀ (d : Nat) (S : GS) (a1 : Int) (a2 : Int) (a3 : Int) (a4 : Int) (a5 : Int) (a6 : Int) (a7 : Int), PH 600 S (f_X12_readsNumber n d 167 S [a1, a2, a3, a4, a5, a6, a7])) ∧ (∀ (d : Nat) (S : GS) (a1 : Int) (a2 : Int) (a3 : Int) (a4 : Int) (a5 : Int), PH 600 S (f_X12_readsNumber n d 215 S [a1, a2, a3, a4, a5])) ∧ (∀ (d : Nat) (S : GS) (a1 : Int) (a2 : Int) (a3 : Int) (a4 : Int) (a5 : Int) (s0 : Int), PH 600 S (f_X12_readsNumber n d 239 S [a1, a2, a3, a4, a5, s0])) ∧ (∀ (d : Nat) (S : GS) (a1 : Int) (a2 : Int) (a3 : Int) (a4 : Int) (a5 : Int) (a10 : Int) (s0 : Int) (s1 : Int), PH 600 S (f_X12_readsNumber n d 265 S [a1, a2, a3, a4, a5, a10, s0, s1])) ∧ (∀ (d : Nat) (S : GS) (a1 : Int) (a2 : Int) (a3 : Int) (a4 : Int) (a5 : Int) (a9 : Int), PH 600 S (f_X12_readsNumber n d 344 S [a1, a2, a3, a4, a5, a9]))
  | 0 => ⟨(fun _ _ _ => ph_none), (fun _ _ _ _ _ => ph_none), (fun _ _ _ _ _ _ _ => ph_none), (fun _ _ _ _ _ _ _ _ _ _ => ph_none), (fun _ _ _ _ _ _ _ _ _ _ _ => ph_none), (fun _ _ _ _ _ _ _ _ _ => ph_none), (fun _ _ _ _ _ _ _ => ph_none), (fun _ _ _ _ _ _ _ _ => ph_none), (fun _ _ _ _ _ _ _ _ _ _ => ph_none), (fun _ _ _ _ _ _ _ _ => ph_none)⟩
  | n + 1 => by
    obtain ⟨h0, h19, h34, h75, h118, h167, h215, h239, h265, h344⟩ := kr_X12_readsNumber n
    refine ⟨?_, ?_, ?_, ?_, ?_, ?_, ?_, ?_, ?_, ?_⟩
    · intro _ _ _
      rw [e_X12_readsNumber_0]
      unfold b_X12_readsNumber_0
      repeat' (with_reducible first
        | exact ph_none
        | exact ph_some
        | refine ph_gI (by first | decide | omega) (fun _ => ?_)
        | refine ph_gCp (by first | decide | omega) (fun _ => ?_)
        | refine ph_gB (by first | decide | omega) (fun _ => ?_)
        | refine ph_gR (by first | decide | omega) (fun _ => ?_)
        | refine ph_gv (fun _ => ?_)
        | refine ph_gg (fun _ => ?_)
        | refine ph_gc ?_ (fun _ _ => ?_)
        | refine ph_ite (fun _ => ?_) (fun _ => ?_)
        | exact h19 _ _ _ _ _
        | exact (kr_X12_sign _) _ _)
    · intro _ _ _ _ _
      rw [e_X12_readsNumber_19]
      unfold b_X12_readsNumber_19
      repeat' (with_reducible first
        | exact ph_none
        | exact ph_some
        | refine ph_gI (by first | decide | omega) (fun _ => ?_)
        | refine ph_gCp (by first | decide | omega) (fun _ => ?_)
        | refine ph_gB (by first | decide | omega) (fun _ => ?_)
        | refine ph_gR (by first | decide | omega) (fun _ => ?_)
        | refine ph_gv (fun _ => ?_)
        | refine ph_gg (fun _ => ?_)
        | refine ph_gc ?_ (fun _ _ => ?_)
        | refine ph_ite (fun _ => ?_) (fun _ => ?_)
        | exact h34 _ _ _ _ _ _ _)
    · intro _ _ _ _ _ _ _
      rw [e_X12_readsNumber_34]
      unfold b_X12_readsNumber_34
      repeat' (with_reducible first
        | exact ph_none
        | exact ph_some
        | refine ph_gI (by first | decide | omega) (fun _ => ?_)
        | refine ph_gCp (by first | decide | omega) (fun _ => ?_)
        | refine ph_gB (by first | decide | omega) (fun _ => ?_)
        | refine ph_gR (by first | decide | omega) (fun _ => ?_)
        | refine ph_gv (fun _ => ?_)
        | refine ph_gg (fun _ => ?_)
        | refine ph_gc ?_ (fun _ _ => ?_)
        | refine ph_ite (fun _ => ?_) (fun _ => ?_)
        | exact h75 _ _ _ _ _ _ _ _ _ _
        | exact (kr_X12_isFigure _) _ _
        | exact (kr_X12_sign _) _ _)
    · intro _ _ _ _ _ _ _ _ _ _
      rw [e_X12_readsNumber_75]
      unfold b_X12_readsNumber_75
      repeat' (with_reducible first
        | exact ph_none
        | exact ph_some
        | refine ph_gI (by first | decide | omega) (fun _ => ?_)
        | refine ph_gCp (by first | decide | omega) (fun _ => ?_)
        | refine ph_gB (by first | decide | omega) (fun _ => ?_)
        | refine ph_gR (by first | decide | omega) (fun _ => ?_)
        | refine ph_gv (fun _ => ?_)
        | refine ph_gg (fun _ => ?_)
        | refine ph_gc ?_ (fun _ _ => ?_)
        | refine ph_ite (fun _ => ?_) (fun _ => ?_)
        | exact h118 _ _ _ _ _ _ _ _ _ _ _
        | exact h215 _ _ _ _ _ _ _
        | exact h344 _ _ _ _ _ _ _ _
        | exact (kr_X12_sign _) _ _)
    · intro _ _ _ _ _ _ _ _ _ _ _
      rw [e_X12_readsNumber_118]
      unfold b_X12_readsNumber_118
      repeat' (with_reducible first
        | exact ph_none
        | exact ph_some
        | refine ph_gI (by first | decide | omega) (fun _ => ?_)
        | refine ph_gCp (by first | decide | omega) (fun _ => ?_)
        | refine ph_gB (by first | decide | omega) (fun _ => ?_)
        | refine ph_gR (by first | decide | omega) (fun _ => ?_)
        | refine ph_gv (fun _ => ?_)
        | refine ph_gg (fun _ => ?_)
        | refine ph_gc ?_ (fun _ _ => ?_)
        | refine ph_ite (fun _ => ?_) (fun _ => ?_)
        | exact h75 _ _ _ _ _ _ _ _ _ _
        | exact h167 _ _ _ _ _ _ _ _ _
        | exact (kr_X12_isFigure _) _ _
        | exact (kr_X12_sign _) _ _)
    · intro _ _ _ _ _ _ _ _ _
      rw [e_X12_readsNumber_167]
      unfold b_X12_readsNumber_167
      repeat' (with_reducible first
        | exact ph_none
        | exact ph_some
        | refine ph_gI (by first | decide | omega) (fun _ => ?_)
        | refine ph_gCp (by first | decide | omega) (fun _ => ?_)
        | refine ph_gB (by first | decide | omega) (fun _ => ?_)
        | refine ph_gR (by first | decide | omega) (fun _ => ?_)
        | refine ph_gv (fun _ => ?_)
        | refine ph_gg (fun _ => ?_)
        | refine ph_gc ?_ (fun _ _ => ?_)
        | refine ph_ite (fun _ => ?_) (fun _ => ?_)
        | exact h75 _ _ _ _ _ _ _ _ _ _
        | exact (kr_X12_isFigure _) _ _)
    · intro _ _ _ _ _ _ _
      rw [e_X12_readsNumber_215]
      unfold b_X12_readsNumber_215
      repeat' (with_reducible first
        | exact ph_none
        | exact ph_some
        | refine ph_gI (by first | decide | omega) (fun _ => ?_)
        | refine ph_gCp (by first | decide | omega) (fun _ => ?_)
        | refine ph_gB (by first | decide | omega) (fun _ => ?_)
        | refine ph_gR (by first | decide | omega) (fun _ => ?_)
        | refine ph_gv (fun _ => ?_)
        | refine ph_gg (fun _ => ?_)
        | refine ph_gc ?_ (fun _ _ => ?_)
        | refine ph_ite (fun _ => ?_) (fun _ => ?_)
        | exact h239 _ _ _ _ _ _ _ _
        | exact (kr_X12_sign _) _ _)
    · intro _ _ _ _ _ _ _ _
      rw [e_X12_readsNumber_239]
      unfold b_X12_readsNumber_239
      repeat' (with_reducible first
        | exact ph_none
        | exact ph_some
        | refine ph_gI (by first | decide | omega) (fun _ => ?_)
        | refine ph_gCp (by first | decide | omega) (fun _ => ?_)
        | refine ph_gB (by first | decide | omega) (fun _ => ?_)
        | refine ph_gR (by first | decide | omega) (fun _ => ?_)
        | refine ph_gv (fun _ => ?_)
        | refine ph_gg (fun _ => ?_)
        | refine ph_gc ?_ (fun _ _ => ?_)
        | refine ph_ite (fun _ => ?_) (fun _ => ?_)
        | exact h265 _ _ _ _ _ _ _ _ _ _
        | exact (kr_X12_sign _) _ _)
    · intro _ _ _ _ _ _ _ _ _ _
      rw [e_X12_readsNumber_265]
      unfold b_X12_readsNumber_265
      repeat' (with_reducible first
        | exact ph_none
        | exact ph_some
        | refine ph_gI (by first | decide | omega) (fun _ => ?_)
        | refine ph_gCp (by first | decide | omega) (fun _ => ?_)
        | refine ph_gB (by first | decide | omega) (fun _ => ?_)
        | refine ph_gR (by first | decide | omega) (fun _ => ?_)
        | refine ph_gv (fun _ => ?_)
        | refine ph_gg (fun _ => ?_)
        | refine ph_gc ?_ (fun _ _ => ?_)
        | refine ph_ite (fun _ => ?_) (fun _ => ?_)
        | exact h344 _ _ _ _ _ _ _ _
        | exact (kr_X12_isFigure _) _ _
        | exact (kr_X12_sign _) _ _)
    · intro _ _ _ _ _ _ _ _
      rw [e_X12_readsNumber_344]
      unfold b_X12_readsNumber_344
      repeat' (with_reducible first
        | exact ph_none
        | exact ph_some
        | refine ph_gI (by first | decide | omega) (fun _ => ?_)
        | refine ph_gCp (by first | decide | omega) (fun _ => ?_)
        | refine ph_gB (by first | decide | omega) (fun _ => ?_)
        | refine ph_gR (by first | decide | omega) (fun _ => ?_)
        | refine ph_gv (fun _ => ?_)
        | refine ph_gg (fun _ => ?_)
        | refine ph_gc ?_ (fun _ _ => ?_)
        | refine ph_ite (fun _ => ?_) (fun _ => ?_)
        | exact (kr_X12_isNumber _).1 _ _ _ _ _ _)

theorem kr_X12_readsValue : ∀ n : Nat, (∀ (d : Nat) (S : GS) (a1 : Int), PH 600 S (f_X12_readsValue n d 0 S [a1])) ∧ (∀ (d : Nat) (S : GS), PH 600 S (f_X12_readsValue n d 39 S [])) ∧ (∀ (d : Nat) (S : GS) (a1 : Int) (a2 : Int), PH 600 S (f_X12_readsValue n d 77 S [a1, a2])) ∧ (∀ (d : Nat) (S : GS) (a2 : Int) (s0 : Int) (s1 : Int), PH 600 S (f_X12_readsValue n d 101 S [a2, s0, s1]))
  | 0 => ⟨(fun _ _ _ => ph_none), (fun _ _ => ph_none), (fun _ _ _ _ => ph_none), (fun _ _ _ _ _ => ph_none)⟩
  | n + 1 => by
    obtain ⟨h0, h39, h77, h101⟩ := kr_X12_readsValue n
    refine ⟨?_, ?_, ?_, ?_⟩
    · intro _ _ _
      rw [e_X12_readsValue_0]
      unfold b_X12_readsValue_0
      repeat' (with_reducible first
        | exact ph_none
        | exact ph_some
        | refine ph_gI (by first | decide | omega) (fun _ => ?_)
        | refine ph_gCp (by first | decide | omega) (fun _ => ?_)
        | refine ph_gB (by first | decide | omega) (fun _ => ?_)
        | refine ph_gR (by first | decide | omega) (fun _ => ?_)
        | refine ph_gv (fun _ => ?_)
        | refine ph_gg (fun _ => ?_)
        | refine ph_gc ?_ (fun _ _ => ?_)
        | refine ph_ite (fun _ => ?_) (fun _ => ?_)
        | exact h39 _ _
        | exact h77 _ _ _ _
        | exact (kr_X12_readsLetters _).1 _ _ _
        | exact (kr_X12_readsNumber _).1 _ _ _
        | exact (kr_X12_readsText _).1 _ _ _
        | exact (kr_X12_sign _) _ _
        | exact (kr_X12_textIs _).1 _ _ _ _)
    · intro _ _
      rw [e_X12_readsValue_39]
      unfold b_X12_readsValue_39
      repeat' (with_reducible first
        | exact ph_none
        | exact ph_some
        | refine ph_gI (by first | decide | omega) (fun _ => ?_)
        | refine ph_gCp (by first | decide | omega) (fun _ => ?_)
        | refine ph_gB (by first | decide | omega) (fun _ => ?_)
        | refine ph_gR (by first | decide | omega) (fun _ => ?_)
        | refine ph_gv (fun _ => ?_)
        | refine ph_gg (fun _ => ?_)
        | refine ph_gc ?_ (fun _ _ => ?_)
        | refine ph_ite (fun _ => ?_) (fun _ => ?_))
    · intro _ _ _ _
      rw [e_X12_readsValue_77]
      unfold b_X12_readsValue_77
      repeat' (with_reducible first
        | exact ph_none
        | exact ph_some
        | refine ph_gI (by first | decide | omega) (fun _ => ?_)
        | refine ph_gCp (by first | decide | omega) (fun _ => ?_)
        | refine ph_gB (by first | decide | omega) (fun _ => ?_)
        | refine ph_gR (by first | decide | omega) (fun _ => ?_)
        | refine ph_gv (fun _ => ?_)
        | refine ph_gg (fun _ => ?_)
        | refine ph_gc ?_ (fun _ _ => ?_)
        | refine ph_ite (fun _ => ?_) (fun _ => ?_)
        | exact h101 _ _ _ _ _
        | exact (kr_X12_at _) _ _ _ _)
    · intro _ _ _ _ _
      rw [e_X12_readsValue_101]
      unfold b_X12_readsValue_101
      repeat' (with_reducible first
        | exact ph_none
        | exact ph_some
        | refine ph_gI (by first | decide | omega) (fun _ => ?_)
        | refine ph_gCp (by first | decide | omega) (fun _ => ?_)
        | refine ph_gB (by first | decide | omega) (fun _ => ?_)
        | refine ph_gR (by first | decide | omega) (fun _ => ?_)
        | refine ph_gv (fun _ => ?_)
        | refine ph_gg (fun _ => ?_)
        | refine ph_gc ?_ (fun _ _ => ?_)
        | refine ph_ite (fun _ => ?_) (fun _ => ?_)
        | exact (kr_X12_readsLetters _).1 _ _ _)

theorem kr_X12_reads : ∀ n : Nat, (∀ (d : Nat) (S : GS) (a1 : Int), PH 600 S (f_X12_reads n d 0 S [a1])) ∧ (∀ (d : Nat) (S : GS) (a1 : Int) (a2 : Int) (a3 : Int) (a4 : Int), PH 600 S (f_X12_reads n d 23 S [a1, a2, a3, a4])) ∧ (∀ (d : Nat) (S : GS) (a1 : Int) (a2 : Int) (a3 : Int) (a4 : Int), PH 600 S (f_X12_reads n d 28 S [a1, a2, a3, a4])) ∧ (∀ (d : Nat) (S : GS) (a1 : Int) (a2 : Int) (a3 : Int) (a4 : Int) (a5 : Int) (s0 : Int), PH 600 S (f_X12_reads n d 99 S [a1, a2, a3, a4, a5, s0])) ∧ (∀ (d : Nat) (S : GS) (a1 : Int) (a2 : Int) (a3 : Int) (a4 : Int) (a5 : Int) (a6 : Int), PH 600 S (f_X12_reads n d 116 S [a1, a2, a3, a4, a5, a6])) ∧ (∀ (d : Nat) (S : GS) (a1 : Int) (a2 : Int) (a3 : Int) (a4 : Int) (a5 : Int), PH 600 S (f_X12_reads n d 146 S [a1, a2, a3, a4, a5])) ∧ (∀ (d : Nat) (S : GS) (a1 : Int) (a2 : Int) (a4 : Int), PH 600 S (f_X12_reads n d 226 S [a1, a2, a4])) ∧ (∀ (d : Nat) (S : GS) (a1 : Int) (a2 : Int) (a4 : Int) (a7 : Int), PH 600 S (f_X12_reads n d 282 S [a1, a2, a4, a7])) ∧ (∀ (d : Nat) (S : GS) (a1 : Int) (a2 : Int) (a4 : Int) (a7 : Int) (a8 : Int) (s0 : Int), PH 600 S (f_X12_reads n d 317 S [a1, a2, a4, a7, a8, s0])) ∧ (∀ (d : Nat) (S : GS) (a1 : Int) (a2 : Int) (a4 : Int) (a7 : Int) (a8 : Int) (a9 : Int) (a10 : Int), PH 600 S (f_X12_reads n d 396 S [a1, a2, a4, a7, a8, a9, a10])) ∧ (∀ (d : Nat) (S : GS) (a1 : Int) (a2 : Int) (a4 : Int) (a7 : Int) (a8 : Int), PH 600 S (f_X12_reads n d 448 S [a1, a2, a4, a7, a8])) ∧ (∀ (d : Nat) (S : GS) (a1 : Int) (a2 : Int) (a4 : Int) (a7 : Int) (a8 : Int) (s0 : Int), PH 600 S (f_X12_reads n d 483 S [a1, a2, a4, a7, a8, s0])) ∧ (∀ (d : Nat) (S : GS) (s0 : Int) (s1 : Int) (s2 : Int) (s3 : Int), PH 600 S (f_X12_reads n d 552 S [s0, s1, s2, s3]))
  | 0 => ⟨(fun _ _ _ => ph_none), (fun _ _ _ _ _ _ => ph_none), (fun _ _ _ _ _ _ => ph_none), (fun _ _ _ _ _ _ _ _ => ph_none), (fun _ _ _ _ _ _ _ _ => ph_none), (fun _ _ _ _ _ _ _ => ph_none), (fun _ _ _ _ _ => ph_none), (fun _ _ _ _ _ _ => ph_none), (fun _ _ _ _ _ _ _ _ => ph_none), (fun _ _ _ _ _ _ _ _ _ => ph_none), (fun _ _ _ _ _ _ _ => ph_none), (fun _ _ _ _ _ _ _ _ => ph_none), (fun _ _ _ _ _ _ => ph_none)⟩
  | n + 1 => by
    obtain ⟨h0, h23, h28, h99, h116, h146, h226, h282, h317, h396, h448, h483, h552⟩ := kr_X12_reads n
    refine ⟨?_, ?_, ?_, ?_, ?_, ?_, ?_, ?_, ?_, ?_, ?_, ?_, ?_⟩
    · intro _ _ _
      rw [e_X12_reads_0]
      unfold b_X12_reads_0
      repeat' (with_reducible first
        | exact ph_none
        | exact ph_some
        | refine ph_gI (by first | decide | omega) (fun _ => ?_)
        | refine ph_gCp (by first | decide | omega) (fun _ => ?_)
        | refine ph_gB (by first | decide | omega) (fun _ => ?_)
        | refine ph_gR (by first | decide | omega) (fun _ => ?_)
        | refine ph_gv (fun _ => ?_)
        | refine ph_gg (fun _ => ?_)
        | refine ph_gc ?_ (fun _ _ => ?_)
        | refine ph_ite (fun _ => ?_) (fun _ => ?_)
        | exact h23 _ _ _ _ _ _
        | exact (kr_X12_begin _) _ _ _)
    · intro _ _ _ _ _ _
      rw [e_X12_reads_23]
      unfold b_X12_reads_23
      repeat' (with_reducible first
        | exact ph_none
        | exact ph_some
        | refine ph_gI (by first | decide | omega) (fun _ => ?_)
        | refine ph_gCp (by first | decide | omega) (fun _ => ?_)
        | refine ph_gB (by first | decide | omega) (fun _ => ?_)
        | refine ph_gR (by first | decide | omega) (fun _ => ?_)
        | refine ph_gv (fun _ => ?_)
        | refine ph_gg (fun _ => ?_)
        | refine ph_gc ?_ (fun _ _ => ?_)
        | refine ph_ite (fun _ => ?_) (fun _ => ?_)
        | exact h28 _ _ _ _ _ _
        | exact h552 _ _ _ _ _ _
        | exact (kr_X12_link _).1 _ _ _)
    · intro _ _ _ _ _ _
      rw [e_X12_reads_28]
      unfold b_X12_reads_28
      repeat' (with_reducible first
        | exact ph_none
        | exact ph_some
        | refine ph_gI (by first | decide | omega) (fun _ => ?_)
        | refine ph_gCp (by first | decide | omega) (fun _ => ?_)
        | refine ph_gB (by first | decide | omega) (fun _ => ?_)
        | refine ph_gR (by first | decide | omega) (fun _ => ?_)
        | refine ph_gv (fun _ => ?_)
        | refine ph_gg (fun _ => ?_)
        | refine ph_gc ?_ (fun _ _ => ?_)
        | refine ph_ite (fun _ => ?_) (fun _ => ?_)
        | exact h28 _ _ _ _ _ _
        | exact h99 _ _ _ _ _ _ _ _
        | exact (kr_X12_isBlank _) _ _
        | exact (kr_X12_kind _) _ _ _ _
        | exact (kr_X12_sign _) _ _)
    · intro _ _ _ _ _ _ _ _
      rw [e_X12_reads_99]
      unfold b_X12_reads_99
      repeat' (with_reducible first
        | exact ph_none
        | exact ph_some
        | refine ph_gI (by first | decide | omega) (fun _ => ?_)
        | refine ph_gCp (by first | decide | omega) (fun _ => ?_)
        | refine ph_gB (by first | decide | omega) (fun _ => ?_)
        | refine ph_gR (by first | decide | omega) (fun _ => ?_)
        | refine ph_gv (fun _ => ?_)
        | refine ph_gg (fun _ => ?_)
        | refine ph_gc ?_ (fun _ _ => ?_)
        | refine ph_ite (fun _ => ?_) (fun _ => ?_)
        | exact h116 _ _ _ _ _ _ _ _
        | exact h146 _ _ _ _ _ _ _)
    · intro _ _ _ _ _ _ _ _
      rw [e_X12_reads_116]
      unfold b_X12_reads_116
      repeat' (with_reducible first
        | exact ph_none
        | exact ph_some
        | refine ph_gI (by first | decide | omega) (fun _ => ?_)
        | refine ph_gCp (by first | decide | omega) (fun _ => ?_)
        | refine ph_gB (by first | decide | omega) (fun _ => ?_)
        | refine ph_gR (by first | decide | omega) (fun _ => ?_)
        | refine ph_gv (fun _ => ?_)
        | refine ph_gg (fun _ => ?_)
        | refine ph_gc ?_ (fun _ _ => ?_)
        | refine ph_ite (fun _ => ?_) (fun _ => ?_)
        | exact h23 _ _ _ _ _ _
        | exact h146 _ _ _ _ _ _ _)
    · intro _ _ _ _ _ _ _
      rw [e_X12_reads_146]
      unfold b_X12_reads_146
      repeat' (with_reducible first
        | exact ph_none
        | exact ph_some
        | refine ph_gI (by first | decide | omega) (fun _ => ?_)
        | refine ph_gCp (by first | decide | omega) (fun _ => ?_)
        | refine ph_gB (by first | decide | omega) (fun _ => ?_)
        | refine ph_gR (by first | decide | omega) (fun _ => ?_)
        | refine ph_gv (fun _ => ?_)
        | refine ph_gg (fun _ => ?_)
        | refine ph_gc ?_ (fun _ _ => ?_)
        | refine ph_ite (fun _ => ?_) (fun _ => ?_)
        | exact h23 _ _ _ _ _ _
        | exact h226 _ _ _ _ _
        | exact h282 _ _ _ _ _ _
        | exact (kr_X12_kind _) _ _ _ _
        | exact (kr_X12_kindAhead _) _ _)
    · intro _ _ _ _ _
      rw [e_X12_reads_226]
      unfold b_X12_reads_226
      repeat' (with_reducible first
        | exact ph_none
        | exact ph_some
        | refine ph_gI (by first | decide | omega) (fun _ => ?_)
        | refine ph_gCp (by first | decide | omega) (fun _ => ?_)
        | refine ph_gB (by first | decide | omega) (fun _ => ?_)
        | refine ph_gR (by first | decide | omega) (fun _ => ?_)
        | refine ph_gv (fun _ => ?_)
        | refine ph_gg (fun _ => ?_)
        | refine ph_gc ?_ (fun _ _ => ?_)
        | refine ph_ite (fun _ => ?_) (fun _ => ?_)
        | exact h23 _ _ _ _ _ _
        | exact (kr_X12_readsKey _).1 _ _ _)
    · intro _ _ _ _ _ _
      rw [e_X12_reads_282]
      unfold b_X12_reads_282
      repeat' (with_reducible first
        | exact ph_none
        | exact ph_some
        | refine ph_gI (by first | decide | omega) (fun _ => ?_)
        | refine ph_gCp (by first | decide | omega) (fun _ => ?_)
        | refine ph_gB (by first | decide | omega) (fun _ => ?_)
        | refine ph_gR (by first | decide | omega) (fun _ => ?_)
        | refine ph_gv (fun _ => ?_)
        | refine ph_gg (fun _ => ?_)
        | refine ph_gc ?_ (fun _ _ => ?_)
        | refine ph_ite (fun _ => ?_) (fun _ => ?_)
        | exact h317 _ _ _ _ _ _ _ _
        | exact (kr_X12_added _).1 _ _ _ _)
    · intro _ _ _ _ _ _ _ _
      rw [e_X12_reads_317]
      unfold b_X12_reads_317
      repeat' (with_reducible first
        | exact ph_none
        | exact ph_some
        | refine ph_gI (by first | decide | omega) (fun _ => ?_)
        | refine ph_gCp (by first | decide | omega) (fun _ => ?_)
        | refine ph_gB (by first | decide | omega) (fun _ => ?_)
        | refine ph_gR (by first | decide | omega) (fun _ => ?_)
        | refine ph_gv (fun _ => ?_)
        | refine ph_gg (fun _ => ?_)
        | refine ph_gc ?_ (fun _ _ => ?_)
        | refine ph_ite (fun _ => ?_) (fun _ => ?_)
        | exact h396 _ _ _ _ _ _ _ _ _
        | exact h448 _ _ _ _ _ _ _
        | exact (kr_X12_at _) _ _ _ _
        | exact (kr_X12_kind _) _ _ _ _)
    · intro _ _ _ _ _ _ _ _ _
      rw [e_X12_reads_396]
      unfold b_X12_reads_396
      repeat' (with_reducible first
        | exact ph_none
        | exact ph_some
        | refine ph_gI (by first | decide | omega) (fun _ => ?_)
        | refine ph_gCp (by first | decide | omega) (fun _ => ?_)
        | refine ph_gB (by first | decide | omega) (fun _ => ?_)
        | refine ph_gR (by first | decide | omega) (fun _ => ?_)
        | refine ph_gv (fun _ => ?_)
        | refine ph_gg (fun _ => ?_)
        | refine ph_gc ?_ (fun _ _ => ?_)
        | refine ph_ite (fun _ => ?_) (fun _ => ?_)
        | exact h396 _ _ _ _ _ _ _ _ _
        | exact h448 _ _ _ _ _ _ _
        | exact (kr_X12_at _) _ _ _ _
        | exact (kr_X12_kind _) _ _ _ _)
    · intro _ _ _ _ _ _ _
      rw [e_X12_reads_448]
      unfold b_X12_reads_448
      repeat' (with_reducible first
        | exact ph_none
        | exact ph_some
        | refine ph_gI (by first | decide | omega) (fun _ => ?_)
        | refine ph_gCp (by first | decide | omega) (fun _ => ?_)
        | refine ph_gB (by first | decide | omega) (fun _ => ?_)
        | refine ph_gR (by first | decide | omega) (fun _ => ?_)
        | refine ph_gv (fun _ => ?_)
        | refine ph_gg (fun _ => ?_)
        | refine ph_gc ?_ (fun _ _ => ?_)
        | refine ph_ite (fun _ => ?_) (fun _ => ?_)
        | exact h483 _ _ _ _ _ _ _ _
        | exact (kr_X12_readsValue _).1 _ _ _)
    · intro _ _ _ _ _ _ _ _
      rw [e_X12_reads_483]
      unfold b_X12_reads_483
      repeat' (with_reducible first
        | exact ph_none
        | exact ph_some
        | refine ph_gI (by first | decide | omega) (fun _ => ?_)
        | refine ph_gCp (by first | decide | omega) (fun _ => ?_)
        | refine ph_gB (by first | decide | omega) (fun _ => ?_)
        | refine ph_gR (by first | decide | omega) (fun _ => ?_)
        | refine ph_gv (fun _ => ?_)
        | refine ph_gg (fun _ => ?_)
        | refine ph_gc ?_ (fun _ _ => ?_)
        | refine ph_ite (fun _ => ?_) (fun _ => ?_)
        | exact h23 _ _ _ _ _ _)
    · intro _ _ _ _ _ _
      rw [e_X12_reads_552]
      unfold b_X12_reads_552
      repeat' (with_reducible first
        | exact ph_none
        | exact ph_some
        | refine ph_gI (by first | decide | omega) (fun _ => ?_)
        | refine ph_gCp (by first | decide | omega) (fun _ => ?_)
        | refine ph_gB (by first | decide | omega) (fun _ => ?_)
        | refine ph_gR (by first | decide | omega) (fun _ => ?_)
        | refine ph_gv (fun _ => ?_)
        | refine ph_gg (fun _ => ?_)
        | refine ph_gc ?_ (fun _ _ => ?_)
        | refine ph_ite (fun _ => ?_) (fun _ => ?_)
        | exact (kr_X12_becomes _).1 _ _ _ _
        | exact (kr_X12_choose _).1 _ _ _ _ _ _
        | exact (kr_X12_link _).1 _ _ _)

theorem kr_X12_read : ∀ n : Nat, (∀ (d : Nat) (S : GS), PH 600 S (f_X12_read n d 0 S [])) ∧ (∀ (d : Nat) (S : GS) (s0 : Int), PH 600 S (f_X12_read n d 15 S [s0])) ∧ (∀ (d : Nat) (S : GS) (a1 : Int), PH 600 S (f_X12_read n d 34 S [a1]))
  | 0 => ⟨(fun _ _ => ph_none), (fun _ _ _ => ph_none), (fun _ _ _ => ph_none)⟩
  | n + 1 => by
    obtain ⟨h0, h15, h34⟩ := kr_X12_read n
    refine ⟨?_, ?_, ?_⟩
    · intro _ _
      rw [e_X12_read_0]
      unfold b_X12_read_0
      repeat' (with_reducible first
        | exact ph_none
        | exact ph_some
        | refine ph_gI (by first | decide | omega) (fun _ => ?_)
        | refine ph_gCp (by first | decide | omega) (fun _ => ?_)
        | refine ph_gB (by first | decide | omega) (fun _ => ?_)
        | refine ph_gR (by first | decide | omega) (fun _ => ?_)
        | refine ph_gv (fun _ => ?_)
        | refine ph_gg (fun _ => ?_)
        | refine ph_gc ?_ (fun _ _ => ?_)
        | refine ph_ite (fun _ => ?_) (fun _ => ?_)
        | exact h15 _ _ _)
    · intro _ _ _
      rw [e_X12_read_15]
      unfold b_X12_read_15
      repeat' (with_reducible first
        | exact ph_none
        | exact ph_some
        | refine ph_gI (by first | decide | omega) (fun _ => ?_)
        | refine ph_gCp (by first | decide | omega) (fun _ => ?_)
        | refine ph_gB (by first | decide | omega) (fun _ => ?_)
        | refine ph_gR (by first | decide | omega) (fun _ => ?_)
        | refine ph_gv (fun _ => ?_)
        | refine ph_gg (fun _ => ?_)
        | refine ph_gc ?_ (fun _ _ => ?_)
        | refine ph_ite (fun _ => ?_) (fun _ => ?_)
        | exact h34 _ _ _
        | exact (kr_X12_fails _) _ _ _ _)
    · intro _ _ _
      rw [e_X12_read_34]
      unfold b_X12_read_34
      repeat' (with_reducible first
        | exact ph_none
        | exact ph_some
        | refine ph_gI (by first | decide | omega) (fun _ => ?_)
        | refine ph_gCp (by first | decide | omega) (fun _ => ?_)
        | refine ph_gB (by first | decide | omega) (fun _ => ?_)
        | refine ph_gR (by first | decide | omega) (fun _ => ?_)
        | refine ph_gv (fun _ => ?_)
        | refine ph_gg (fun _ => ?_)
        | refine ph_gc ?_ (fun _ _ => ?_)
        | refine ph_ite (fun _ => ?_) (fun _ => ?_)
        | exact h34 _ _ _
        | exact (kr_X12_keeps _).1 _ _ _
        | exact (kr_X12_reads _).1 _ _ _)

theorem kr_X12_rows : ∀ n : Nat, (∀ (d : Nat) (S : GS) (a1 : Int), PH 600 S (f_X12_rows n d 0 S [a1])) ∧ (∀ (d : Nat) (S : GS) (a1 : Int) (a2 : Int) (a3 : Int) (a4 : Int), PH 600 S (f_X12_rows n d 55 S [a1, a2, a3, a4])) ∧ (∀ (d : Nat) (S : GS) (a1 : Int) (a2 : Int) (a3 : Int), PH 600 S (f_X12_rows n d 101 S [a1, a2, a3])) ∧ (∀ (d : Nat) (S : GS) (a1 : Int) (a2 : Int) (a5 : Int) (a6 : Int), PH 600 S (f_X12_rows n d 155 S [a1, a2, a5, a6])) ∧ (∀ (d : Nat) (S : GS) (a1 : Int) (a2 : Int) (a5 : Int) (a6 : Int) (a8 : Int), PH 600 S (f_X12_rows n d 189 S [a1, a2, a5, a6, a8])) ∧ (∀ (d : Nat) (S : GS) (s0 : Int), PH 600 S (f_X12_rows n d 265 S [s0]))
  | 0 => ⟨(fun _ _ _ => ph_none), (fun _ _ _ _ _ _ => ph_none), (fun _ _ _ _ _ => ph_none), (fun _ _ _ _ _ _ => ph_none), (fun _ _ _ _ _ _ _ => ph_none), (fun _ _ _ => ph_none)⟩
  | n + 1 => by
    obtain ⟨h0, h55, h101, h155, h189, h265⟩ := kr_X12_rows n
    refine ⟨?_, ?_, ?_, ?_, ?_, ?_⟩
    · intro _ _ _
      rw [e_X12_rows_0]
      unfold b_X12_rows_0
      repeat' (with_reducible first
        | exact ph_none
        | exact ph_some
        | refine ph_gI (by first | decide | omega) (fun _ => ?_)
        | refine ph_gCp (by first | decide | omega) (fun _ => ?_)
        | refine ph_gB (by first | decide | omega) (fun _ => ?_)
        | refine ph_gR (by first | decide | omega) (fun _ => ?_)
        | refine ph_gv (fun _ => ?_)
        | refine ph_gg (fun _ => ?_)
        | refine ph_gc ?_ (fun _ _ => ?_)
        | refine ph_ite (fun _ => ?_) (fun _ => ?_)
        | exact h55 _ _ _ _ _ _
        | exact (kr_X12_areAll _).1 _ _ _ _
        | exact (kr_X12_fails _) _ _ _ _
        | exact (kr_X12_isDoc _) _ _ _
        | exact (kr_X12_kind _) _ _ _ _
        | exact (kr_X12_part _) _ _ _ _ _)
    · intro _ _ _ _ _ _
      rw [e_X12_rows_55]
      unfold b_X12_rows_55
      repeat' (with_reducible first
        | exact ph_none
        | exact ph_some
        | refine ph_gI (by first | decide | omega) (fun _ => ?_)
        | refine ph_gCp (by first | decide | omega) (fun _ => ?_)
        | refine ph_gB (by first | decide | omega) (fun _ => ?_)
        | refine ph_gR (by first | decide | omega) (fun _ => ?_)
        | refine ph_gv (fun _ => ?_)
        | refine ph_gg (fun _ => ?_)
        | refine ph_gc ?_ (fun _ _ => ?_)
        | refine ph_ite (fun _ => ?_) (fun _ => ?_)
        | exact h55 _ _ _ _ _ _
        | exact h101 _ _ _ _ _
        | exact (kr_X12_childAt _).1 _ _ _ _ _
        | exact (kr_X12_part _) _ _ _ _ _)
    · intro _ _ _ _ _
      rw [e_X12_rows_101]
      unfold b_X12_rows_101
      repeat' (with_reducible first
        | exact ph_none
        | exact ph_some
        | refine ph_gI (by first | decide | omega) (fun _ => ?_)
        | refine ph_gCp (by first | decide | omega) (fun _ => ?_)
        | refine ph_gB (by first | decide | omega) (fun _ => ?_)
        | refine ph_gR (by first | decide | omega) (fun _ => ?_)
        | refine ph_gv (fun _ => ?_)
        | refine ph_gg (fun _ => ?_)
        | refine ph_gc ?_ (fun _ _ => ?_)
        | refine ph_ite (fun _ => ?_) (fun _ => ?_)
        | exact h155 _ _ _ _ _ _
        | exact (kr_X12_added _).1 _ _ _ _
        | exact (kr_X12_at _) _ _ _ _
        | exact (kr_X12_begin _) _ _ _
        | exact (kr_X12_fails _) _ _ _ _
        | exact (kr_X12_part _) _ _ _ _ _)
    · intro _ _ _ _ _ _
      rw [e_X12_rows_155]
      unfold b_X12_rows_155
      repeat' (with_reducible first
        | exact ph_none
        | exact ph_some
        | refine ph_gI (by first | decide | omega) (fun _ => ?_)
        | refine ph_gCp (by first | decide | omega) (fun _ => ?_)
        | refine ph_gB (by first | decide | omega) (fun _ => ?_)
        | refine ph_gR (by first | decide | omega) (fun _ => ?_)
        | refine ph_gv (fun _ => ?_)
        | refine ph_gg (fun _ => ?_)
        | refine ph_gc ?_ (fun _ _ => ?_)
        | refine ph_ite (fun _ => ?_) (fun _ => ?_)
        | exact h189 _ _ _ _ _ _ _
        | exact h265 _ _ _
        | exact (kr_X12_added _).1 _ _ _ _
        | exact (kr_X12_at _) _ _ _ _
        | exact (kr_X12_isWhole _) _ _ _)
    · intro _ _ _ _ _ _ _
      rw [e_X12_rows_189]
      unfold b_X12_rows_189
      repeat' (with_reducible first
        | exact ph_none
        | exact ph_some
        | refine ph_gI (by first | decide | omega) (fun _ => ?_)
        | refine ph_gCp (by first | decide | omega) (fun _ => ?_)
        | refine ph_gB (by first | decide | omega) (fun _ => ?_)
        | refine ph_gR (by first | decide | omega) (fun _ => ?_)
        | refine ph_gv (fun _ => ?_)
        | refine ph_gg (fun _ => ?_)
        | refine ph_gc ?_ (fun _ _ => ?_)
        | refine ph_ite (fun _ => ?_) (fun _ => ?_)
        | exact h155 _ _ _ _ _ _
        | exact h189 _ _ _ _ _ _ _
        | exact (kr_X12_brings _) _ _ _ _ _ _
        | exact (kr_X12_childAt _).1 _ _ _ _ _
        | exact (kr_X12_wordOfKey _).1 _ _ _ _)
    · intro _ _ _
      rw [e_X12_rows_265]
      unfold b_X12_rows_265
      repeat' (with_reducible first
        | exact ph_none
        | exact ph_some
        | refine ph_gI (by first | decide | omega) (fun _ => ?_)
        | refine ph_gCp (by first | decide | omega) (fun _ => ?_)
        | refine ph_gB (by first | decide | omega) (fun _ => ?_)
        | refine ph_gR (by first | decide | omega) (fun _ => ?_)
        | refine ph_gv (fun _ => ?_)
        | refine ph_gg (fun _ => ?_)
        | refine ph_gc ?_ (fun _ _ => ?_)
        | refine ph_ite (fun _ => ?_) (fun _ => ?_)
        | exact (kr_X12_fails _) _ _ _ _
        | exact (kr_X12_keeps _).1 _ _ _)

theorem kr_X12_rule : ∀ n : Nat, (∀ (d : Nat) (S : GS) (a1 : Int), PH 600 S (f_X12_rule n d 0 S [a1]))
  | 0 => (fun _ _ _ => ph_none)
  | n + 1 => by
    have h0 := kr_X12_rule n
    · intro _ _ _
      rw [e_X12_rule_0]
      unfold b_X12_rule_0
      repeat' (with_reducible first
        | exact ph_none
        | exact ph_some
        | refine ph_gI (by first | decide | omega) (fun _ => ?_)
        | refine ph_gCp (by first | decide | omega) (fun _ => ?_)
        | refine ph_gB (by first | decide | omega) (fun _ => ?_)
        | refine ph_gR (by first | decide | omega) (fun _ => ?_)
        | refine ph_gv (fun _ => ?_)
        | refine ph_gg (fun _ => ?_)
        | refine ph_gc ?_ (fun _ _ => ?_)
        | refine ph_ite (fun _ => ?_) (fun _ => ?_)
        | exact (kr_X12_fails _) _ _ _ _
        | exact (kr_X12_in _) _ _ _ _ _)

theorem kr_X12_selectsBy : ∀ n : Nat, (∀ (d : Nat) (S : GS) (a1 : Int) (a2 : Int), PH 600 S (f_X12_selectsBy n d 0 S [a1, a2])) ∧ (∀ (d : Nat) (S : GS) (a1 : Int) (a2 : Int) (a4 : Int), PH 600 S (f_X12_selectsBy n d 48 S [a1, a2, a4])) ∧ (∀ (d : Nat) (S : GS) (a1 : Int) (a2 : Int) (a3 : Int), PH 600 S (f_X12_selectsBy n d 72 S [a1, a2, a3])) ∧ (∀ (d : Nat) (S : GS) (a1 : Int) (a2 : Int) (a3 : Int) (s0 : Int), PH 600 S (f_X12_selectsBy n d 96 S [a1, a2, a3, s0])) ∧ (∀ (d : Nat) (S : GS) (a1 : Int) (a2 : Int), PH 600 S (f_X12_selectsBy n d 121 S [a1, a2])) ∧ (∀ (d : Nat) (S : GS) (a1 : Int) (a2 : Int) (a4 : Int) (a5 : Int), PH 600 S (f_X12_selectsBy n d 161 S [a1, a2, a4, a5])) ∧ (∀ (d : Nat) (S : GS) (a1 : Int) (a2 : Int) (a4 : Int) (a5 : Int) (a6 : Int) (a7 : Int), PH 600 S (f_X12_selectsBy n d 196 S [a1, a2, a4, a5, a6, a7])) ∧ (∀ (d : Nat) (S : GS) (a1 : Int) (a2 : Int) (a4 : Int) (a5 : Int) (a6 : Int) (a7 : Int), PH 600 S (f_X12_selectsBy n d 234 S [a1, a2, a4, a5, a6, a7]))
  | 0 => ⟨(fun _ _ _ _ => ph_none), (fun _ _ _ _ _ => ph_none), (fun _ _ _ _ _ => ph_none), (fun _ _ _ _ _ _ => ph_none), (fun _ _ _ _ => ph_none), (fun _ _ _ _ _ _ => ph_none), (fun _ _ _ _ _ _ _ _ => ph_none), (fun _ _ _ _ _ _ _ _ => ph_none)⟩
  | n + 1 => by
    obtain ⟨h0, h48, h72, h96, h121, h161, h196, h234⟩ := kr_X12_selectsBy n
    refine ⟨?_, ?_, ?_, ?_, ?_, ?_, ?_, ?_⟩
    · intro _ _ _ _
      rw [e_X12_selectsBy_0]
      unfold b_X12_selectsBy_0
      repeat' (with_reducible first
        | exact ph_none
        | exact ph_some
        | refine ph_gI (by first | decide | omega) (fun _ => ?_)
        | refine ph_gCp (by first | decide | omega) (fun _ => ?_)
        | refine ph_gB (by first | decide | omega) (fun _ => ?_)
        | refine ph_gR (by first | decide | omega) (fun _ => ?_)
        | refine ph_gv (fun _ => ?_)
        | refine ph_gg (fun _ => ?_)
        | refine ph_gc ?_ (fun _ _ => ?_)
        | refine ph_ite (fun _ => ?_) (fun _ => ?_)
        | exact h48 _ _ _ _ _
        | exact h72 _ _ _ _ _)
    · intro _ _ _ _ _
      rw [e_X12_selectsBy_48]
      unfold b_X12_selectsBy_48
      repeat' (with_reducible first
        | exact ph_none
        | exact ph_some
        | refine ph_gI (by first | decide | omega) (fun _ => ?_)
        | refine ph_gCp (by first | decide | omega) (fun _ => ?_)
        | refine ph_gB (by first | decide | omega) (fun _ => ?_)
        | refine ph_gR (by first | decide | omega) (fun _ => ?_)
        | refine ph_gv (fun _ => ?_)
        | refine ph_gg (fun _ => ?_)
        | refine ph_gc ?_ (fun _ _ => ?_)
        | refine ph_ite (fun _ => ?_) (fun _ => ?_)
        | exact h48 _ _ _ _ _
        | exact (kr_X12_endOf _) _ _ _ _
        | exact (kr_X12_meets _) _ _ _)
    · intro _ _ _ _ _
      rw [e_X12_selectsBy_72]
      unfold b_X12_selectsBy_72
      repeat' (with_reducible first
        | exact ph_none
        | exact ph_some
        | refine ph_gI (by first | decide | omega) (fun _ => ?_)
        | refine ph_gCp (by first | decide | omega) (fun _ => ?_)
        | refine ph_gB (by first | decide | omega) (fun _ => ?_)
        | refine ph_gR (by first | decide | omega) (fun _ => ?_)
        | refine ph_gv (fun _ => ?_)
        | refine ph_gg (fun _ => ?_)
        | refine ph_gc ?_ (fun _ _ => ?_)
        | refine ph_ite (fun _ => ?_) (fun _ => ?_)
        | exact h96 _ _ _ _ _ _)
    · intro _ _ _ _ _ _
      rw [e_X12_selectsBy_96]
      unfold b_X12_selectsBy_96
      repeat' (with_reducible first
        | exact ph_none
        | exact ph_some
        | refine ph_gI (by first | decide | omega) (fun _ => ?_)
        | refine ph_gCp (by first | decide | omega) (fun _ => ?_)
        | refine ph_gB (by first | decide | omega) (fun _ => ?_)
        | refine ph_gR (by first | decide | omega) (fun _ => ?_)
        | refine ph_gv (fun _ => ?_)
        | refine ph_gg (fun _ => ?_)
        | refine ph_gc ?_ (fun _ _ => ?_)
        | refine ph_ite (fun _ => ?_) (fun _ => ?_)
        | exact h121 _ _ _ _
        | exact h161 _ _ _ _ _ _)
    · intro _ _ _ _
      rw [e_X12_selectsBy_121]
      unfold b_X12_selectsBy_121
      repeat' (with_reducible first
        | exact ph_none
        | exact ph_some
        | refine ph_gI (by first | decide | omega) (fun _ => ?_)
        | refine ph_gCp (by first | decide | omega) (fun _ => ?_)
        | refine ph_gB (by first | decide | omega) (fun _ => ?_)
        | refine ph_gR (by first | decide | omega) (fun _ => ?_)
        | refine ph_gv (fun _ => ?_)
        | refine ph_gg (fun _ => ?_)
        | refine ph_gc ?_ (fun _ _ => ?_)
        | refine ph_ite (fun _ => ?_) (fun _ => ?_)
        | exact (kr_X12_meets _) _ _ _
        | exact (kr_X12_stepped _).1 _ _ _ _ _
        | exact (kr_X12_wordOf _).1 _ _ _ _)
    · intro _ _ _ _ _ _
      rw [e_X12_selectsBy_161]
      unfold b_X12_selectsBy_161
      repeat' (with_reducible first
        | exact ph_none
        | exact ph_some
        | refine ph_gI (by first | decide | omega) (fun _ => ?_)
        | refine ph_gCp (by first | decide | omega) (fun _ => ?_)
        | refine ph_gB (by first | decide | omega) (fun _ => ?_)
        | refine ph_gR (by first | decide | omega) (fun _ => ?_)
        | refine ph_gv (fun _ => ?_)
        | refine ph_gg (fun _ => ?_)
        | refine ph_gc ?_ (fun _ _ => ?_)
        | refine ph_ite (fun _ => ?_) (fun _ => ?_)
        | exact h161 _ _ _ _ _ _
        | exact h196 _ _ _ _ _ _ _ _)
    · intro _ _ _ _ _ _ _ _
      rw [e_X12_selectsBy_196]
      unfold b_X12_selectsBy_196
      repeat' (with_reducible first
        | exact ph_none
        | exact ph_some
        | refine ph_gI (by first | decide | omega) (fun _ => ?_)
        | refine ph_gCp (by first | decide | omega) (fun _ => ?_)
        | refine ph_gB (by first | decide | omega) (fun _ => ?_)
        | refine ph_gR (by first | decide | omega) (fun _ => ?_)
        | refine ph_gv (fun _ => ?_)
        | refine ph_gg (fun _ => ?_)
        | refine ph_gc ?_ (fun _ _ => ?_)
        | refine ph_ite (fun _ => ?_) (fun _ => ?_)
        | exact h196 _ _ _ _ _ _ _ _
        | exact h234 _ _ _ _ _ _ _ _
        | exact (kr_X12_endOf _) _ _ _ _
        | exact (kr_X12_isSo _).1 _ _ _ _ _
        | exact (kr_X12_part _) _ _ _ _ _)
    · intro _ _ _ _ _ _ _ _
      rw [e_X12_selectsBy_234]
      unfold b_X12_selectsBy_234
      repeat' (with_reducible first
        | exact ph_none
        | exact ph_some
        | refine ph_gI (by first | decide | omega) (fun _ => ?_)
        | refine ph_gCp (by first | decide | omega) (fun _ => ?_)
        | refine ph_gB (by first | decide | omega) (fun _ => ?_)
        | refine ph_gR (by first | decide | omega) (fun _ => ?_)
        | refine ph_gv (fun _ => ?_)
        | refine ph_gg (fun _ => ?_)
        | refine ph_gc ?_ (fun _ _ => ?_)
        | refine ph_ite (fun _ => ?_) (fun _ => ?_)
        | exact h196 _ _ _ _ _ _ _ _
        | exact (kr_X12_endOf _) _ _ _ _
        | exact (kr_X12_meets _) _ _ _)

theorem kr_X12_select : ∀ n : Nat, (∀ (d : Nat) (S : GS) (a1 : Int), PH 600 S (f_X12_select n d 0 S [a1])) ∧ (∀ (d : Nat) (S : GS) (a1 : Int) (a2 : Int), PH 600 S (f_X12_select n d 52 S [a1, a2])) ∧ (∀ (d : Nat) (S : GS) (a1 : Int) (a3 : Int), PH 600 S (f_X12_select n d 72 S [a1, a3])) ∧ (∀ (d : Nat) (S : GS) (a1 : Int) (a3 : Int), PH 600 S (f_X12_select n d 93 S [a1, a3])) ∧ (∀ (d : Nat) (S : GS) (a1 : Int) (a3 : Int), PH 600 S (f_X12_select n d 128 S [a1, a3]))
  | 0 => ⟨(fun _ _ _ => ph_none), (fun _ _ _ _ => ph_none), (fun _ _ _ _ => ph_none), (fun _ _ _ _ => ph_none), (fun _ _ _ _ => ph_none)⟩
  | n + 1 => by
    obtain ⟨h0, h52, h72, h93, h128⟩ := kr_X12_select n
    refine ⟨?_, ?_, ?_, ?_, ?_⟩
    · intro _ _ _
      rw [e_X12_select_0]
      unfold b_X12_select_0
      repeat' (with_reducible first
        | exact ph_none
        | exact ph_some
        | refine ph_gI (by first | decide | omega) (fun _ => ?_)
        | refine ph_gCp (by first | decide | omega) (fun _ => ?_)
        | refine ph_gB (by first | decide | omega) (fun _ => ?_)
        | refine ph_gR (by first | decide | omega) (fun _ => ?_)
        | refine ph_gv (fun _ => ?_)
        | refine ph_gg (fun _ => ?_)
        | refine ph_gc ?_ (fun _ _ => ?_)
        | refine ph_ite (fun _ => ?_) (fun _ => ?_)
        | exact h52 _ _ _ _
        | exact (kr_X12_fails _) _ _ _ _
        | exact (kr_X12_isDoc _) _ _ _
        | exact (kr_X12_isPath _).1 _ _
        | exact (kr_X12_pathOfPage _).1 _ _)
    · intro _ _ _ _
      rw [e_X12_select_52]
      unfold b_X12_select_52
      repeat' (with_reducible first
        | exact ph_none
        | exact ph_some
        | refine ph_gI (by first | decide | omega) (fun _ => ?_)
        | refine ph_gCp (by first | decide | omega) (fun _ => ?_)
        | refine ph_gB (by first | decide | omega) (fun _ => ?_)
        | refine ph_gR (by first | decide | omega) (fun _ => ?_)
        | refine ph_gv (fun _ => ?_)
        | refine ph_gg (fun _ => ?_)
        | refine ph_gc ?_ (fun _ _ => ?_)
        | refine ph_ite (fun _ => ?_) (fun _ => ?_)
        | exact h72 _ _ _ _
        | exact (kr_X12_step _).1 _ _ _)
    · intro _ _ _ _
      rw [e_X12_select_72]
      unfold b_X12_select_72
      repeat' (with_reducible first
        | exact ph_none
        | exact ph_some
        | refine ph_gI (by first | decide | omega) (fun _ => ?_)
        | refine ph_gCp (by first | decide | omega) (fun _ => ?_)
        | refine ph_gB (by first | decide | omega) (fun _ => ?_)
        | refine ph_gR (by first | decide | omega) (fun _ => ?_)
        | refine ph_gv (fun _ => ?_)
        | refine ph_gg (fun _ => ?_)
        | refine ph_gc ?_ (fun _ _ => ?_)
        | refine ph_ite (fun _ => ?_) (fun _ => ?_)
        | exact h72 _ _ _ _
        | exact h93 _ _ _ _)
    · intro _ _ _ _
      rw [e_X12_select_93]
      unfold b_X12_select_93
      repeat' (with_reducible first
        | exact ph_none
        | exact ph_some
        | refine ph_gI (by first | decide | omega) (fun _ => ?_)
        | refine ph_gCp (by first | decide | omega) (fun _ => ?_)
        | refine ph_gB (by first | decide | omega) (fun _ => ?_)
        | refine ph_gR (by first | decide | omega) (fun _ => ?_)
        | refine ph_gv (fun _ => ?_)
        | refine ph_gg (fun _ => ?_)
        | refine ph_gc ?_ (fun _ _ => ?_)
        | refine ph_ite (fun _ => ?_) (fun _ => ?_)
        | exact h93 _ _ _ _
        | exact h128 _ _ _ _
        | exact (kr_X12_selectsBy _).1 _ _ _ _)
    · intro _ _ _ _
      rw [e_X12_select_128]
      unfold b_X12_select_128
      repeat' (with_reducible first
        | exact ph_none
        | exact ph_some
        | refine ph_gI (by first | decide | omega) (fun _ => ?_)
        | refine ph_gCp (by first | decide | omega) (fun _ => ?_)
        | refine ph_gB (by first | decide | omega) (fun _ => ?_)
        | refine ph_gR (by first | decide | omega) (fun _ => ?_)
        | refine ph_gv (fun _ => ?_)
        | refine ph_gg (fun _ => ?_)
        | refine ph_gc ?_ (fun _ _ => ?_)
        | refine ph_ite (fun _ => ?_) (fun _ => ?_)
        | exact h52 _ _ _ _
        | exact h128 _ _ _ _)

theorem kr_X12_sorted : ∀ n : Nat, (∀ (d : Nat) (S : GS) (a1 : Int), PH 600 S (f_X12_sorted n d 0 S [a1])) ∧ (∀ (d : Nat) (S : GS) (a1 : Int) (s0 : Int), PH 600 S (f_X12_sorted n d 28 S [a1, s0]))
  | 0 => ⟨(fun _ _ _ => ph_none), (fun _ _ _ _ => ph_none)⟩
  | n + 1 => by
    obtain ⟨h0, h28⟩ := kr_X12_sorted n
    refine ⟨?_, ?_⟩
    · intro _ _ _
      rw [e_X12_sorted_0]
      unfold b_X12_sorted_0
      repeat' (with_reducible first
        | exact ph_none
        | exact ph_some
        | refine ph_gI (by first | decide | omega) (fun _ => ?_)
        | refine ph_gCp (by first | decide | omega) (fun _ => ?_)
        | refine ph_gB (by first | decide | omega) (fun _ => ?_)
        | refine ph_gR (by first | decide | omega) (fun _ => ?_)
        | refine ph_gv (fun _ => ?_)
        | refine ph_gg (fun _ => ?_)
        | refine ph_gc ?_ (fun _ _ => ?_)
        | refine ph_ite (fun _ => ?_) (fun _ => ?_)
        | exact h28 _ _ _ _
        | exact (kr_X12_fails _) _ _ _ _
        | exact (kr_X12_isDoc _) _ _ _)
    · intro _ _ _ _
      rw [e_X12_sorted_28]
      unfold b_X12_sorted_28
      repeat' (with_reducible first
        | exact ph_none
        | exact ph_some
        | refine ph_gI (by first | decide | omega) (fun _ => ?_)
        | refine ph_gCp (by first | decide | omega) (fun _ => ?_)
        | refine ph_gB (by first | decide | omega) (fun _ => ?_)
        | refine ph_gR (by first | decide | omega) (fun _ => ?_)
        | refine ph_gv (fun _ => ?_)
        | refine ph_gg (fun _ => ?_)
        | refine ph_gc ?_ (fun _ _ => ?_)
        | refine ph_ite (fun _ => ?_) (fun _ => ?_)
        | exact (kr_X12_choose _).1 _ _ _ _ _ _
        | exact (kr_X12_fails _) _ _ _ _
        | exact (kr_X12_keeps _).1 _ _ _
        | exact (kr_X12_link _).1 _ _ _)

theorem kr_X12_standard : ∀ n : Nat, (∀ (d : Nat) (S : GS), PH 600 S (f_X12_standard n d 0 S [])) ∧ (∀ (d : Nat) (S : GS) (s0 : Int), PH 600 S (f_X12_standard n d 15 S [s0]))
  | 0 => ⟨(fun _ _ => ph_none), (fun _ _ _ => ph_none)⟩
  | n + 1 => by
    obtain ⟨h0, h15⟩ := kr_X12_standard n
    refine ⟨?_, ?_⟩
    · intro _ _
      rw [e_X12_standard_0]
      unfold b_X12_standard_0
      repeat' (with_reducible first
        | exact ph_none
        | exact ph_some
        | refine ph_gI (by first | decide | omega) (fun _ => ?_)
        | refine ph_gCp (by first | decide | omega) (fun _ => ?_)
        | refine ph_gB (by first | decide | omega) (fun _ => ?_)
        | refine ph_gR (by first | decide | omega) (fun _ => ?_)
        | refine ph_gv (fun _ => ?_)
        | refine ph_gg (fun _ => ?_)
        | refine ph_gc ?_ (fun _ _ => ?_)
        | refine ph_ite (fun _ => ?_) (fun _ => ?_)
        | exact h15 _ _ _)
    · intro _ _ _
      rw [e_X12_standard_15]
      unfold b_X12_standard_15
      repeat' (with_reducible first
        | exact ph_none
        | exact ph_some
        | refine ph_gI (by first | decide | omega) (fun _ => ?_)
        | refine ph_gCp (by first | decide | omega) (fun _ => ?_)
        | refine ph_gB (by first | decide | omega) (fun _ => ?_)
        | refine ph_gR (by first | decide | omega) (fun _ => ?_)
        | refine ph_gv (fun _ => ?_)
        | refine ph_gg (fun _ => ?_)
        | refine ph_gc ?_ (fun _ _ => ?_)
        | refine ph_ite (fun _ => ?_) (fun _ => ?_)
        | exact (kr_X12_fails _) _ _ _ _
        | exact (kr_X12_keeps _).1 _ _ _)

theorem kr_X12_sum : ∀ n : Nat, (∀ (d : Nat) (S : GS) (a1 : Int), PH 600 S (f_X12_sum n d 0 S [a1])) ∧ (∀ (d : Nat) (S : GS) (a1 : Int) (a2 : Int) (a3 : Int), PH 600 S (f_X12_sum n d 21 S [a1, a2, a3]))
  | 0 => ⟨(fun _ _ _ => ph_none), (fun _ _ _ _ _ => ph_none)⟩
  | n + 1 => by
    obtain ⟨h0, h21⟩ := kr_X12_sum n
    refine ⟨?_, ?_⟩
    · intro _ _ _
      rw [e_X12_sum_0]
      unfold b_X12_sum_0
      repeat' (with_reducible first
        | exact ph_none
        | exact ph_some
        | refine ph_gI (by first | decide | omega) (fun _ => ?_)
        | refine ph_gCp (by first | decide | omega) (fun _ => ?_)
        | refine ph_gB (by first | decide | omega) (fun _ => ?_)
        | refine ph_gR (by first | decide | omega) (fun _ => ?_)
        | refine ph_gv (fun _ => ?_)
        | refine ph_gg (fun _ => ?_)
        | refine ph_gc ?_ (fun _ _ => ?_)
        | refine ph_ite (fun _ => ?_) (fun _ => ?_)
        | exact h21 _ _ _ _ _
        | exact (kr_X12_fails _) _ _ _ _
        | exact (kr_X12_in _) _ _ _ _ _)
    · intro _ _ _ _ _
      rw [e_X12_sum_21]
      unfold b_X12_sum_21
      repeat' (with_reducible first
        | exact ph_none
        | exact ph_some
        | refine ph_gI (by first | decide | omega) (fun _ => ?_)
        | refine ph_gCp (by first | decide | omega) (fun _ => ?_)
        | refine ph_gB (by first | decide | omega) (fun _ => ?_)
        | refine ph_gR (by first | decide | omega) (fun _ => ?_)
        | refine ph_gv (fun _ => ?_)
        | refine ph_gg (fun _ => ?_)
        | refine ph_gc ?_ (fun _ _ => ?_)
        | refine ph_ite (fun _ => ?_) (fun _ => ?_)
        | exact h21 _ _ _ _ _)

theorem kr_X12_take : ∀ n : Nat, (∀ (d : Nat) (S : GS) (a1 : Int) (a2 : Int), PH 600 S (f_X12_take n d 0 S [a1, a2])) ∧ (∀ (d : Nat) (S : GS) (a1 : Int) (a2 : Int) (s0 : Int), PH 600 S (f_X12_take n d 29 S [a1, a2, s0]))
  | 0 => ⟨(fun _ _ _ _ => ph_none), (fun _ _ _ _ _ => ph_none)⟩
  | n + 1 => by
    obtain ⟨h0, h29⟩ := kr_X12_take n
    refine ⟨?_, ?_⟩
    · intro _ _ _ _
      rw [e_X12_take_0]
      unfold b_X12_take_0
      repeat' (with_reducible first
        | exact ph_none
        | exact ph_some
        | refine ph_gI (by first | decide | omega) (fun _ => ?_)
        | refine ph_gCp (by first | decide | omega) (fun _ => ?_)
        | refine ph_gB (by first | decide | omega) (fun _ => ?_)
        | refine ph_gR (by first | decide | omega) (fun _ => ?_)
        | refine ph_gv (fun _ => ?_)
        | refine ph_gg (fun _ => ?_)
        | refine ph_gc ?_ (fun _ _ => ?_)
        | refine ph_ite (fun _ => ?_) (fun _ => ?_)
        | exact h29 _ _ _ _ _
        | exact (kr_X12_fails _) _ _ _ _
        | exact (kr_X12_isNode _) _ _ _ _)
    · intro _ _ _ _ _
      rw [e_X12_take_29]
      unfold b_X12_take_29
      repeat' (with_reducible first
        | exact ph_none
        | exact ph_some
        | refine ph_gI (by first | decide | omega) (fun _ => ?_)
        | refine ph_gCp (by first | decide | omega) (fun _ => ?_)
        | refine ph_gB (by first | decide | omega) (fun _ => ?_)
        | refine ph_gR (by first | decide | omega) (fun _ => ?_)
        | refine ph_gv (fun _ => ?_)
        | refine ph_gg (fun _ => ?_)
        | refine ph_gc ?_ (fun _ _ => ?_)
        | refine ph_ite (fun _ => ?_) (fun _ => ?_)
        | exact (kr_X12_choose _).1 _ _ _ _ _ _
        | exact (kr_X12_fails _) _ _ _ _
        | exact (kr_X12_keeps _).1 _ _ _
        | exact (kr_X12_link _).1 _ _ _)

theorem kr_X12_tell : ∀ n : Nat, (∀ (d : Nat) (S : GS) (a1 : Int) (a2 : Int) (a3 : Int), PH 600 S (f_X12_tell n d 0 S [a1, a2, a3])) ∧ (∀ (d : Nat) (S : GS) (a1 : Int) (a2 : Int) (a3 : Int) (a4 : Int) (s0 : Int), PH 600 S (f_X12_tell n d 63 S [a1, a2, a3, a4, s0])) ∧ (∀ (d : Nat) (S : GS) (a1 : Int) (a2 : Int) (a3 : Int) (a4 : Int) (a5 : Int), PH 600 S (f_X12_tell n d 81 S [a1, a2, a3, a4, a5])) ∧ (∀ (d : Nat) (S : GS) (a1 : Int) (a2 : Int) (a3 : Int) (a5 : Int), PH 600 S (f_X12_tell n d 92 S [a1, a2, a3, a5])) ∧ (∀ (d : Nat) (S : GS) (a1 : Int) (a2 : Int) (a3 : Int) (s0 : Int), PH 600 S (f_X12_tell n d 107 S [a1, a2, a3, s0])) ∧ (∀ (d : Nat) (S : GS) (a1 : Int) (a2 : Int) (a6 : Int), PH 600 S (f_X12_tell n d 145 S [a1, a2, a6])) ∧ (∀ (d : Nat) (S : GS) (a1 : Int) (a2 : Int) (a6 : Int), PH 600 S (f_X12_tell n d 208 S [a1, a2, a6]))
  | 0 => ⟨(fun _ _ _ _ _ => ph_none), (fun _ _ _ _ _ _ _ => ph_none), (fun _ _ _ _ _ _ _ => ph_none), (fun _ _ _ _ _ _ => ph_none), (fun _ _ _ _ _ _ => ph_none), (fun _ _ _ _ _ => ph_none), (fun _ _ _ _ _ => ph_none)⟩
  | n + 1 => by
    obtain ⟨h0, h63, h81, h92, h107, h145, h208⟩ := kr_X12_tell n
    refine ⟨?_, ?_, ?_, ?_, ?_, ?_, ?_⟩
    · intro _ _ _ _ _
      rw [e_X12_tell_0]
      unfold b_X12_tell_0
      repeat' (with_reducible first
        | exact ph_none
        | exact ph_some
        | refine ph_gI (by first | decide | omega) (fun _ => ?_)
        | refine ph_gCp (by first | decide | omega) (fun _ => ?_)
        | refine ph_gB (by first | decide | omega) (fun _ => ?_)
        | refine ph_gR (by first | decide | omega) (fun _ => ?_)
        | refine ph_gv (fun _ => ?_)
        | refine ph_gg (fun _ => ?_)
        | refine ph_gc ?_ (fun _ _ => ?_)
        | refine ph_ite (fun _ => ?_) (fun _ => ?_)
        | exact h63 _ _ _ _ _ _ _
        | exact (kr_X12_fails _) _ _ _ _
        | exact (kr_X12_in _) _ _ _ _ _
        | exact (kr_X12_isNode _) _ _ _ _
        | exact (kr_X12_kind _) _ _ _ _
        | exact (kr_X12_part _) _ _ _ _ _)
    · intro _ _ _ _ _ _ _
      rw [e_X12_tell_63]
      unfold b_X12_tell_63
      repeat' (with_reducible first
        | exact ph_none
        | exact ph_some
        | refine ph_gI (by first | decide | omega) (fun _ => ?_)
        | refine ph_gCp (by first | decide | omega) (fun _ => ?_)
        | refine ph_gB (by first | decide | omega) (fun _ => ?_)
        | refine ph_gR (by first | decide | omega) (fun _ => ?_)
        | refine ph_gv (fun _ => ?_)
        | refine ph_gg (fun _ => ?_)
        | refine ph_gc ?_ (fun _ _ => ?_)
        | refine ph_ite (fun _ => ?_) (fun _ => ?_)
        | exact h81 _ _ _ _ _ _ _
        | exact h107 _ _ _ _ _ _)
    · intro _ _ _ _ _ _ _
      rw [e_X12_tell_81]
      unfold b_X12_tell_81
      repeat' (with_reducible first
        | exact ph_none
        | exact ph_some
        | refine ph_gI (by first | decide | omega) (fun _ => ?_)
        | refine ph_gCp (by first | decide | omega) (fun _ => ?_)
        | refine ph_gB (by first | decide | omega) (fun _ => ?_)
        | refine ph_gR (by first | decide | omega) (fun _ => ?_)
        | refine ph_gv (fun _ => ?_)
        | refine ph_gg (fun _ => ?_)
        | refine ph_gc ?_ (fun _ _ => ?_)
        | refine ph_ite (fun _ => ?_) (fun _ => ?_)
        | exact h92 _ _ _ _ _ _
        | exact h107 _ _ _ _ _ _)
    · intro _ _ _ _ _ _
      rw [e_X12_tell_92]
      unfold b_X12_tell_92
      repeat' (with_reducible first
        | exact ph_none
        | exact ph_some
        | refine ph_gI (by first | decide | omega) (fun _ => ?_)
        | refine ph_gCp (by first | decide | omega) (fun _ => ?_)
        | refine ph_gB (by first | decide | omega) (fun _ => ?_)
        | refine ph_gR (by first | decide | omega) (fun _ => ?_)
        | refine ph_gv (fun _ => ?_)
        | refine ph_gg (fun _ => ?_)
        | refine ph_gc ?_ (fun _ _ => ?_)
        | refine ph_ite (fun _ => ?_) (fun _ => ?_)
        | exact h107 _ _ _ _ _ _)
    · intro _ _ _ _ _ _
      rw [e_X12_tell_107]
      unfold b_X12_tell_107
      repeat' (with_reducible first
        | exact ph_none
        | exact ph_some
        | refine ph_gI (by first | decide | omega) (fun _ => ?_)
        | refine ph_gCp (by first | decide | omega) (fun _ => ?_)
        | refine ph_gB (by first | decide | omega) (fun _ => ?_)
        | refine ph_gR (by first | decide | omega) (fun _ => ?_)
        | refine ph_gv (fun _ => ?_)
        | refine ph_gg (fun _ => ?_)
        | refine ph_gc ?_ (fun _ _ => ?_)
        | refine ph_ite (fun _ => ?_) (fun _ => ?_)
        | exact h145 _ _ _ _ _
        | exact h208 _ _ _ _ _
        | exact (kr_X12_fails _) _ _ _ _
        | exact (kr_X12_onPaper _).1 _ _
        | exact (kr_X12_part _) _ _ _ _ _
        | exact (kr_X12_puts _) _ _ _ _
        | exact (kr_X12_putsPath _).1 _ _ _ _)
    · intro _ _ _ _ _
      rw [e_X12_tell_145]
      unfold b_X12_tell_145
      repeat' (with_reducible first
        | exact ph_none
        | exact ph_some
        | refine ph_gI (by first | decide | omega) (fun _ => ?_)
        | refine ph_gCp (by first | decide | omega) (fun _ => ?_)
        | refine ph_gB (by first | decide | omega) (fun _ => ?_)
        | refine ph_gR (by first | decide | omega) (fun _ => ?_)
        | refine ph_gv (fun _ => ?_)
        | refine ph_gg (fun _ => ?_)
        | refine ph_gc ?_ (fun _ _ => ?_)
        | refine ph_ite (fun _ => ?_) (fun _ => ?_)
        | exact h145 _ _ _ _ _
        | exact (kr_X12_onPaper _).1 _ _
        | exact (kr_X12_part _) _ _ _ _ _
        | exact (kr_X12_puts _) _ _ _ _)
    · intro _ _ _ _ _
      rw [e_X12_tell_208]
      unfold b_X12_tell_208
      repeat' (with_reducible first
        | exact ph_none
        | exact ph_some
        | refine ph_gI (by first | decide | omega) (fun _ => ?_)
        | refine ph_gCp (by first | decide | omega) (fun _ => ?_)
        | refine ph_gB (by first | decide | omega) (fun _ => ?_)
        | refine ph_gR (by first | decide | omega) (fun _ => ?_)
        | refine ph_gv (fun _ => ?_)
        | refine ph_gg (fun _ => ?_)
        | refine ph_gc ?_ (fun _ _ => ?_)
        | refine ph_ite (fun _ => ?_) (fun _ => ?_)
        | exact h208 _ _ _ _ _
        | exact (kr_X12_onPaper _).1 _ _
        | exact (kr_X12_part _) _ _ _ _ _
        | exact (kr_X12_puts _) _ _ _ _)

theorem kr_X12_thrown : ∀ n : Nat, (∀ (d : Nat) (S : GS), PH 600 S (f_X12_thrown n d 0 S []))
  | 0 => (fun _ _ => ph_none)
  | n + 1 => by
    have h0 := kr_X12_thrown n
    · intro _ _
      rw [e_X12_thrown_0]
      unfold b_X12_thrown_0
      repeat' (with_reducible first
        | exact ph_none
        | exact ph_some
        | refine ph_gI (by first | decide | omega) (fun _ => ?_)
        | refine ph_gCp (by first | decide | omega) (fun _ => ?_)
        | refine ph_gB (by first | decide | omega) (fun _ => ?_)
        | refine ph_gR (by first | decide | omega) (fun _ => ?_)
        | refine ph_gv (fun _ => ?_)
        | refine ph_gg (fun _ => ?_)
        | refine ph_gc ?_ (fun _ _ => ?_)
        | refine ph_ite (fun _ => ?_) (fun _ => ?_))

theorem kr_X12_undoesPut : ∀ n : Nat, (∀ (d : Nat) (S : GS) (a1 : Int), PH 600 S (f_X12_undoesPut n d 0 S [a1])) ∧ (∀ (d : Nat) (S : GS) (a1 : Int) (s0 : Int), PH 600 S (f_X12_undoesPut n d 20 S [a1, s0])) ∧ (∀ (d : Nat) (S : GS) (a1 : Int) (a2 : Int) (s0 : Int), PH 600 S (f_X12_undoesPut n d 36 S [a1, a2, s0])) ∧ (∀ (d : Nat) (S : GS) (a1 : Int) (a2 : Int) (a3 : Int) (s0 : Int), PH 600 S (f_X12_undoesPut n d 54 S [a1, a2, a3, s0])) ∧ (∀ (d : Nat) (S : GS) (a1 : Int) (a3 : Int) (a4 : Int), PH 600 S (f_X12_undoesPut n d 89 S [a1, a3, a4]))
  | 0 => ⟨(fun _ _ _ => ph_none), (fun _ _ _ _ => ph_none), (fun _ _ _ _ _ => ph_none), (fun _ _ _ _ _ _ => ph_none), (fun _ _ _ _ _ => ph_none)⟩
  | n + 1 => by
    obtain ⟨h0, h20, h36, h54, h89⟩ := kr_X12_undoesPut n
    refine ⟨?_, ?_, ?_, ?_, ?_⟩
    · intro _ _ _
      rw [e_X12_undoesPut_0]
      unfold b_X12_undoesPut_0
      repeat' (with_reducible first
        | exact ph_none
        | exact ph_some
        | refine ph_gI (by first | decide | omega) (fun _ => ?_)
        | refine ph_gCp (by first | decide | omega) (fun _ => ?_)
        | refine ph_gB (by first | decide | omega) (fun _ => ?_)
        | refine ph_gR (by first | decide | omega) (fun _ => ?_)
        | refine ph_gv (fun _ => ?_)
        | refine ph_gg (fun _ => ?_)
        | refine ph_gc ?_ (fun _ _ => ?_)
        | refine ph_ite (fun _ => ?_) (fun _ => ?_)
        | exact h20 _ _ _ _
        | exact (kr_X12_plain _).1 _ _ _ _)
    · intro _ _ _ _
      rw [e_X12_undoesPut_20]
      unfold b_X12_undoesPut_20
      repeat' (with_reducible first
        | exact ph_none
        | exact ph_some
        | refine ph_gI (by first | decide | omega) (fun _ => ?_)
        | refine ph_gCp (by first | decide | omega) (fun _ => ?_)
        | refine ph_gB (by first | decide | omega) (fun _ => ?_)
        | refine ph_gR (by first | decide | omega) (fun _ => ?_)
        | refine ph_gv (fun _ => ?_)
        | refine ph_gg (fun _ => ?_)
        | refine ph_gc ?_ (fun _ _ => ?_)
        | refine ph_ite (fun _ => ?_) (fun _ => ?_)
        | exact h36 _ _ _ _ _
        | exact (kr_X12_lastStep _).1 _ _)
    · intro _ _ _ _ _
      rw [e_X12_undoesPut_36]
      unfold b_X12_undoesPut_36
      repeat' (with_reducible first
        | exact ph_none
        | exact ph_some
        | refine ph_gI (by first | decide | omega) (fun _ => ?_)
        | refine ph_gCp (by first | decide | omega) (fun _ => ?_)
        | refine ph_gB (by first | decide | omega) (fun _ => ?_)
        | refine ph_gR (by first | decide | omega) (fun _ => ?_)
        | refine ph_gv (fun _ => ?_)
        | refine ph_gg (fun _ => ?_)
        | refine ph_gc ?_ (fun _ _ => ?_)
        | refine ph_ite (fun _ => ?_) (fun _ => ?_)
        | exact h54 _ _ _ _ _ _
        | exact (kr_X12_plain _).1 _ _ _ _)
    · intro _ _ _ _ _ _
      rw [e_X12_undoesPut_54]
      unfold b_X12_undoesPut_54
      repeat' (with_reducible first
        | exact ph_none
        | exact ph_some
        | refine ph_gI (by first | decide | omega) (fun _ => ?_)
        | refine ph_gCp (by first | decide | omega) (fun _ => ?_)
        | refine ph_gB (by first | decide | omega) (fun _ => ?_)
        | refine ph_gR (by first | decide | omega) (fun _ => ?_)
        | refine ph_gv (fun _ => ?_)
        | refine ph_gg (fun _ => ?_)
        | refine ph_gc ?_ (fun _ _ => ?_)
        | refine ph_ite (fun _ => ?_) (fun _ => ?_)
        | exact h89 _ _ _ _ _
        | exact (kr_X12_kind _) _ _ _ _
        | exact (kr_X12_ordered _).1 _ _ _ _ _ _)
    · intro _ _ _ _ _
      rw [e_X12_undoesPut_89]
      unfold b_X12_undoesPut_89
      repeat' (with_reducible first
        | exact ph_none
        | exact ph_some
        | refine ph_gI (by first | decide | omega) (fun _ => ?_)
        | refine ph_gCp (by first | decide | omega) (fun _ => ?_)
        | refine ph_gB (by first | decide | omega) (fun _ => ?_)
        | refine ph_gR (by first | decide | omega) (fun _ => ?_)
        | refine ph_gv (fun _ => ?_)
        | refine ph_gg (fun _ => ?_)
        | refine ph_gc ?_ (fun _ _ => ?_)
        | refine ph_ite (fun _ => ?_) (fun _ => ?_)
        | exact (kr_X12_addsPlace _).1 _ _ _
        | exact (kr_X12_kind _) _ _ _ _
        | exact (kr_X12_ordered _).1 _ _ _ _ _ _
        | exact (kr_X12_part _) _ _ _ _ _)

theorem kr_X12_undoes : ∀ n : Nat, (∀ (d : Nat) (S : GS) (a1 : Int) (a2 : Int), PH 600 S (f_X12_undoes n d 0 S [a1, a2])) ∧ (∀ (d : Nat) (S : GS) (s0 : Int) (s1 : Int), PH 600 S (f_X12_undoes n d 147 S [s0, s1]))
  | 0 => ⟨(fun _ _ _ _ => ph_none), (fun _ _ _ _ => ph_none)⟩
  | n + 1 => by
    obtain ⟨h0, h147⟩ := kr_X12_undoes n
    refine ⟨?_, ?_⟩
    · intro _ _ _ _
      rw [e_X12_undoes_0]
      unfold b_X12_undoes_0
      repeat' (with_reducible first
        | exact ph_none
        | exact ph_some
        | refine ph_gI (by first | decide | omega) (fun _ => ?_)
        | refine ph_gCp (by first | decide | omega) (fun _ => ?_)
        | refine ph_gB (by first | decide | omega) (fun _ => ?_)
        | refine ph_gR (by first | decide | omega) (fun _ => ?_)
        | refine ph_gv (fun _ => ?_)
        | refine ph_gg (fun _ => ?_)
        | refine ph_gc ?_ (fun _ _ => ?_)
        | refine ph_ite (fun _ => ?_) (fun _ => ?_)
        | exact h147 _ _ _ _
        | exact (kr_X12_canCut _) _ _ _ _
        | exact (kr_X12_childNamed _) _ _ _ _ _
        | exact (kr_X12_opOf _).1 _ _ _ _
        | exact (kr_X12_ordered _).1 _ _ _ _ _ _
        | exact (kr_X12_pathNamed _) _ _ _ _ _
        | exact (kr_X12_plain _).1 _ _ _ _
        | exact (kr_X12_undoesPut _).1 _ _ _)
    · intro _ _ _ _
      rw [e_X12_undoes_147]
      unfold b_X12_undoes_147
      repeat' (with_reducible first
        | exact ph_none
        | exact ph_some
        | refine ph_gI (by first | decide | omega) (fun _ => ?_)
        | refine ph_gCp (by first | decide | omega) (fun _ => ?_)
        | refine ph_gB (by first | decide | omega) (fun _ => ?_)
        | refine ph_gR (by first | decide | omega) (fun _ => ?_)
        | refine ph_gv (fun _ => ?_)
        | refine ph_gg (fun _ => ?_)
        | refine ph_gc ?_ (fun _ _ => ?_)
        | refine ph_ite (fun _ => ?_) (fun _ => ?_)
        | exact (kr_X12_ordered _).1 _ _ _ _ _ _
        | exact (kr_X12_plain _).1 _ _ _ _)

theorem kr_X12_turn : ∀ n : Nat, (∀ (d : Nat) (S : GS) (a1 : Int) (a2 : Int), PH 600 S (f_X12_turn n d 0 S [a1, a2])) ∧ (∀ (d : Nat) (S : GS) (a1 : Int) (a2 : Int) (s0 : Int), PH 600 S (f_X12_turn n d 22 S [a1, a2, s0])) ∧ (∀ (d : Nat) (S : GS) (a1 : Int) (a2 : Int) (a3 : Int) (s0 : Int), PH 600 S (f_X12_turn n d 75 S [a1, a2, a3, s0])) ∧ (∀ (d : Nat) (S : GS) (a1 : Int) (a2 : Int) (a5 : Int), PH 600 S (f_X12_turn n d 109 S [a1, a2, a5])) ∧ (∀ (d : Nat) (S : GS), PH 600 S (f_X12_turn n d 150 S []))
  | 0 => ⟨(fun _ _ _ _ => ph_none), (fun _ _ _ _ _ => ph_none), (fun _ _ _ _ _ _ => ph_none), (fun _ _ _ _ _ => ph_none), (fun _ _ => ph_none)⟩
  | n + 1 => by
    obtain ⟨h0, h22, h75, h109, h150⟩ := kr_X12_turn n
    refine ⟨?_, ?_, ?_, ?_, ?_⟩
    · intro _ _ _ _
      rw [e_X12_turn_0]
      unfold b_X12_turn_0
      repeat' (with_reducible first
        | exact ph_none
        | exact ph_some
        | refine ph_gI (by first | decide | omega) (fun _ => ?_)
        | refine ph_gCp (by first | decide | omega) (fun _ => ?_)
        | refine ph_gB (by first | decide | omega) (fun _ => ?_)
        | refine ph_gR (by first | decide | omega) (fun _ => ?_)
        | refine ph_gv (fun _ => ?_)
        | refine ph_gg (fun _ => ?_)
        | refine ph_gc ?_ (fun _ _ => ?_)
        | refine ph_ite (fun _ => ?_) (fun _ => ?_)
        | exact h22 _ _ _ _ _
        | exact (kr_X12_isDoc _) _ _ _)
    · intro _ _ _ _ _
      rw [e_X12_turn_22]
      unfold b_X12_turn_22
      repeat' (with_reducible first
        | exact ph_none
        | exact ph_some
        | refine ph_gI (by first | decide | omega) (fun _ => ?_)
        | refine ph_gCp (by first | decide | omega) (fun _ => ?_)
        | refine ph_gB (by first | decide | omega) (fun _ => ?_)
        | refine ph_gR (by first | decide | omega) (fun _ => ?_)
        | refine ph_gv (fun _ => ?_)
        | refine ph_gg (fun _ => ?_)
        | refine ph_gc ?_ (fun _ _ => ?_)
        | refine ph_ite (fun _ => ?_) (fun _ => ?_)
        | exact h75 _ _ _ _ _ _
        | exact (kr_X12_fails _) _ _ _ _
        | exact (kr_X12_kind _) _ _ _ _
        | exact (kr_X12_lays _).1 _ _ _ _ _
        | exact (kr_X12_part _) _ _ _ _ _)
    · intro _ _ _ _ _ _
      rw [e_X12_turn_75]
      unfold b_X12_turn_75
      repeat' (with_reducible first
        | exact ph_none
        | exact ph_some
        | refine ph_gI (by first | decide | omega) (fun _ => ?_)
        | refine ph_gCp (by first | decide | omega) (fun _ => ?_)
        | refine ph_gB (by first | decide | omega) (fun _ => ?_)
        | refine ph_gR (by first | decide | omega) (fun _ => ?_)
        | refine ph_gv (fun _ => ?_)
        | refine ph_gg (fun _ => ?_)
        | refine ph_gc ?_ (fun _ _ => ?_)
        | refine ph_ite (fun _ => ?_) (fun _ => ?_)
        | exact h109 _ _ _ _ _
        | exact (kr_X12_added _).1 _ _ _ _
        | exact (kr_X12_begin _) _ _ _
        | exact (kr_X12_fails _) _ _ _ _)
    · intro _ _ _ _ _
      rw [e_X12_turn_109]
      unfold b_X12_turn_109
      repeat' (with_reducible first
        | exact ph_none
        | exact ph_some
        | refine ph_gI (by first | decide | omega) (fun _ => ?_)
        | refine ph_gCp (by first | decide | omega) (fun _ => ?_)
        | refine ph_gB (by first | decide | omega) (fun _ => ?_)
        | refine ph_gR (by first | decide | omega) (fun _ => ?_)
        | refine ph_gv (fun _ => ?_)
        | refine ph_gg (fun _ => ?_)
        | refine ph_gc ?_ (fun _ _ => ?_)
        | refine ph_ite (fun _ => ?_) (fun _ => ?_)
        | exact h109 _ _ _ _ _
        | exact h150 _ _
        | exact (kr_X12_childAt _).1 _ _ _ _ _
        | exact (kr_X12_lays _).1 _ _ _ _ _
        | exact (kr_X12_undoes _).1 _ _ _ _)
    · intro _ _
      rw [e_X12_turn_150]
      unfold b_X12_turn_150
      repeat' (with_reducible first
        | exact ph_none
        | exact ph_some
        | refine ph_gI (by first | decide | omega) (fun _ => ?_)
        | refine ph_gCp (by first | decide | omega) (fun _ => ?_)
        | refine ph_gB (by first | decide | omega) (fun _ => ?_)
        | refine ph_gR (by first | decide | omega) (fun _ => ?_)
        | refine ph_gv (fun _ => ?_)
        | refine ph_gg (fun _ => ?_)
        | refine ph_gc ?_ (fun _ _ => ?_)
        | refine ph_ite (fun _ => ?_) (fun _ => ?_)
        | exact (kr_X12_fails _) _ _ _ _
        | exact (kr_X12_isWhole _) _ _ _
        | exact (kr_X12_keeps _).1 _ _ _)

theorem kr_X12_undo : ∀ n : Nat, (∀ (d : Nat) (S : GS), PH 600 S (f_X12_undo n d 0 S [])) ∧ (∀ (d : Nat) (S : GS) (s0 : Int), PH 600 S (f_X12_undo n d 13 S [s0]))
  | 0 => ⟨(fun _ _ => ph_none), (fun _ _ _ => ph_none)⟩
  | n + 1 => by
    obtain ⟨h0, h13⟩ := kr_X12_undo n
    refine ⟨?_, ?_⟩
    · intro _ _
      rw [e_X12_undo_0]
      unfold b_X12_undo_0
      repeat' (with_reducible first
        | exact ph_none
        | exact ph_some
        | refine ph_gI (by first | decide | omega) (fun _ => ?_)
        | refine ph_gCp (by first | decide | omega) (fun _ => ?_)
        | refine ph_gB (by first | decide | omega) (fun _ => ?_)
        | refine ph_gR (by first | decide | omega) (fun _ => ?_)
        | refine ph_gv (fun _ => ?_)
        | refine ph_gg (fun _ => ?_)
        | refine ph_gc ?_ (fun _ _ => ?_)
        | refine ph_ite (fun _ => ?_) (fun _ => ?_)
        | exact h13 _ _ _)
    · intro _ _ _
      rw [e_X12_undo_13]
      unfold b_X12_undo_13
      repeat' (with_reducible first
        | exact ph_none
        | exact ph_some
        | refine ph_gI (by first | decide | omega) (fun _ => ?_)
        | refine ph_gCp (by first | decide | omega) (fun _ => ?_)
        | refine ph_gB (by first | decide | omega) (fun _ => ?_)
        | refine ph_gR (by first | decide | omega) (fun _ => ?_)
        | refine ph_gv (fun _ => ?_)
        | refine ph_gg (fun _ => ?_)
        | refine ph_gc ?_ (fun _ _ => ?_)
        | refine ph_ite (fun _ => ?_) (fun _ => ?_)
        | exact (kr_X12_fails _) _ _ _ _)

theorem kr_X12_vary : ∀ n : Nat, (∀ (d : Nat) (S : GS) (a1 : Int) (a2 : Int), PH 600 S (f_X12_vary n d 0 S [a1, a2])) ∧ (∀ (d : Nat) (S : GS) (s0 : Int), PH 600 S (f_X12_vary n d 88 S [s0]))
  | 0 => ⟨(fun _ _ _ _ => ph_none), (fun _ _ _ => ph_none)⟩
  | n + 1 => by
    obtain ⟨h0, h88⟩ := kr_X12_vary n
    refine ⟨?_, ?_⟩
    · intro _ _ _ _
      rw [e_X12_vary_0]
      unfold b_X12_vary_0
      repeat' (with_reducible first
        | exact ph_none
        | exact ph_some
        | refine ph_gI (by first | decide | omega) (fun _ => ?_)
        | refine ph_gCp (by first | decide | omega) (fun _ => ?_)
        | refine ph_gB (by first | decide | omega) (fun _ => ?_)
        | refine ph_gR (by first | decide | omega) (fun _ => ?_)
        | refine ph_gv (fun _ => ?_)
        | refine ph_gg (fun _ => ?_)
        | refine ph_gc ?_ (fun _ _ => ?_)
        | refine ph_ite (fun _ => ?_) (fun _ => ?_)
        | exact h88 _ _ _
        | exact (kr_X12_draw _) _ _ _
        | exact (kr_X12_fails _) _ _ _ _
        | exact (kr_X12_grows _).1 _ _ _ _
        | exact (kr_X12_in _) _ _ _ _ _
        | exact (kr_X12_isDoc _) _ _ _
        | exact (kr_X12_isWhole _) _ _ _
        | exact (kr_X12_replaced _).1 _ _ _ _ _ _ _)
    · intro _ _ _
      rw [e_X12_vary_88]
      unfold b_X12_vary_88
      repeat' (with_reducible first
        | exact ph_none
        | exact ph_some
        | refine ph_gI (by first | decide | omega) (fun _ => ?_)
        | refine ph_gCp (by first | decide | omega) (fun _ => ?_)
        | refine ph_gB (by first | decide | omega) (fun _ => ?_)
        | refine ph_gR (by first | decide | omega) (fun _ => ?_)
        | refine ph_gv (fun _ => ?_)
        | refine ph_gg (fun _ => ?_)
        | refine ph_gc ?_ (fun _ _ => ?_)
        | refine ph_ite (fun _ => ?_) (fun _ => ?_)
        | exact (kr_X12_fails _) _ _ _ _
        | exact (kr_X12_keeps _).1 _ _ _)

theorem kr_X12_wipe : ∀ n : Nat, (∀ (d : Nat) (S : GS), PH 600 S (f_X12_wipe n d 0 S []))
  | 0 => (fun _ _ => ph_none)
  | n + 1 => by
    have h0 := kr_X12_wipe n
    · intro _ _
      rw [e_X12_wipe_0]
      unfold b_X12_wipe_0
      repeat' (with_reducible first
        | exact ph_none
        | exact ph_some
        | refine ph_gI (by first | decide | omega) (fun _ => ?_)
        | refine ph_gCp (by first | decide | omega) (fun _ => ?_)
        | refine ph_gB (by first | decide | omega) (fun _ => ?_)
        | refine ph_gR (by first | decide | omega) (fun _ => ?_)
        | refine ph_gv (fun _ => ?_)
        | refine ph_gg (fun _ => ?_)
        | refine ph_gc ?_ (fun _ _ => ?_)
        | refine ph_ite (fun _ => ?_) (fun _ => ?_))

theorem kr_X12_write : ∀ n : Nat, (∀ (d : Nat) (S : GS) (a1 : Int) (a2 : Int), PH 600 S (f_X12_write n d 0 S [a1, a2])) ∧ (∀ (d : Nat) (S : GS) (a1 : Int) (a2 : Int) (a4 : Int) (a5 : Int), PH 600 S (f_X12_write n d 43 S [a1, a2, a4, a5])) ∧ (∀ (d : Nat) (S : GS) (a1 : Int) (a2 : Int) (a4 : Int), PH 600 S (f_X12_write n d 104 S [a1, a2, a4])) ∧ (∀ (d : Nat) (S : GS) (a1 : Int) (a2 : Int) (a5 : Int), PH 600 S (f_X12_write n d 144 S [a1, a2, a5]))
  | 0 => ⟨(fun _ _ _ _ => ph_none), (fun _ _ _ _ _ _ => ph_none), (fun _ _ _ _ _ => ph_none), (fun _ _ _ _ _ => ph_none)⟩
  | n + 1 => by
    obtain ⟨h0, h43, h104, h144⟩ := kr_X12_write n
    refine ⟨?_, ?_, ?_, ?_⟩
    · intro _ _ _ _
      rw [e_X12_write_0]
      unfold b_X12_write_0
      repeat' (with_reducible first
        | exact ph_none
        | exact ph_some
        | refine ph_gI (by first | decide | omega) (fun _ => ?_)
        | refine ph_gCp (by first | decide | omega) (fun _ => ?_)
        | refine ph_gB (by first | decide | omega) (fun _ => ?_)
        | refine ph_gR (by first | decide | omega) (fun _ => ?_)
        | refine ph_gv (fun _ => ?_)
        | refine ph_gg (fun _ => ?_)
        | refine ph_gc ?_ (fun _ _ => ?_)
        | refine ph_ite (fun _ => ?_) (fun _ => ?_)
        | exact h43 _ _ _ _ _ _
        | exact (kr_X12_in _) _ _ _ _ _)
    · intro _ _ _ _ _ _
      rw [e_X12_write_43]
      unfold b_X12_write_43
      repeat' (with_reducible first
        | exact ph_none
        | exact ph_some
        | refine ph_gI (by first | decide | omega) (fun _ => ?_)
        | refine ph_gCp (by first | decide | omega) (fun _ => ?_)
        | refine ph_gB (by first | decide | omega) (fun _ => ?_)
        | refine ph_gR (by first | decide | omega) (fun _ => ?_)
        | refine ph_gv (fun _ => ?_)
        | refine ph_gg (fun _ => ?_)
        | refine ph_gc ?_ (fun _ _ => ?_)
        | refine ph_ite (fun _ => ?_) (fun _ => ?_)
        | exact h43 _ _ _ _ _ _
        | exact h104 _ _ _ _ _
        | exact (kr_X12_in _) _ _ _ _ _)
    · intro _ _ _ _ _
      rw [e_X12_write_104]
      unfold b_X12_write_104
      repeat' (with_reducible first
        | exact ph_none
        | exact ph_some
        | refine ph_gI (by first | decide | omega) (fun _ => ?_)
        | refine ph_gCp (by first | decide | omega) (fun _ => ?_)
        | refine ph_gB (by first | decide | omega) (fun _ => ?_)
        | refine ph_gR (by first | decide | omega) (fun _ => ?_)
        | refine ph_gv (fun _ => ?_)
        | refine ph_gg (fun _ => ?_)
        | refine ph_gc ?_ (fun _ _ => ?_)
        | refine ph_ite (fun _ => ?_) (fun _ => ?_)
        | exact h144 _ _ _ _ _
        | exact (kr_X12_fails _) _ _ _ _)
    · intro _ _ _ _ _
      rw [e_X12_write_144]
      unfold b_X12_write_144
      repeat' (with_reducible first
        | exact ph_none
        | exact ph_some
        | refine ph_gI (by first | decide | omega) (fun _ => ?_)
        | refine ph_gCp (by first | decide | omega) (fun _ => ?_)
        | refine ph_gB (by first | decide | omega) (fun _ => ?_)
        | refine ph_gR (by first | decide | omega) (fun _ => ?_)
        | refine ph_gv (fun _ => ?_)
        | refine ph_gg (fun _ => ?_)
        | refine ph_gc ?_ (fun _ _ => ?_)
        | refine ph_ite (fun _ => ?_) (fun _ => ?_)
        | exact h144 _ _ _ _ _)

