/-! CELLS that the reference never touches -/
theorem kr_X12_hex : ∀ n : Nat, (∀ (d : Nat) (S : GS) (a1 : Int), PH 600 S (f_X12_hex n d 0 S [a1]))
  | 0 => (fun _ _ _ => ph_none)
  | n + 1 => by
    have h0 := kr_X12_hex n
    · intro _ _ _
      rw [e_X12_hex_0]
      unfold b_X12_hex_0
      repeat' (with_reducible first
        | exact ph_none
        | exact ph_some
        | refine ph_gI (by first | decide | omega) (fun _ => ?_)
        | refine ph_gCp (by first | decide | omega) (fun _ => ?_)
        | refine ph_gB (by first | decide | omega) (fun _ => ?_)
        | refine ph_gR (by first | decide | omega) (fun _ => ?_)
        | refine ph_gv (fun _ => ?_)
        | refine ph_gg (fun _ => ?_)
        | refine ph_gc ?_ (fun _ _ => ?_)
        | refine ph_ite (fun _ => ?_) (fun _ => ?_)
        | exact (kr_X12_in _) _ _ _ _ _)

theorem kr_X12_isBlank : ∀ n : Nat, (∀ (d : Nat) (S : GS), PH 600 S (f_X12_isBlank n d 0 S []))
  | 0 => (fun _ _ => ph_none)
  | n + 1 => by
    have h0 := kr_X12_isBlank n
    · intro _ _
      rw [e_X12_isBlank_0]
      unfold b_X12_isBlank_0
      repeat' (with_reducible first
        | exact ph_none
        | exact ph_some
        | refine ph_gI (by first | decide | omega) (fun _ => ?_)
        | refine ph_gCp (by first | decide | omega) (fun _ => ?_)
        | refine ph_gB (by first | decide | omega) (fun _ => ?_)
        | refine ph_gR (by first | decide | omega) (fun _ => ?_)
        | refine ph_gv (fun _ => ?_)
        | refine ph_gg (fun _ => ?_)
        | refine ph_gc ?_ (fun _ _ => ?_)
        | refine ph_ite (fun _ => ?_) (fun _ => ?_))

theorem kr_X12_sign : ∀ n : Nat, (∀ (d : Nat) (S : GS), PH 600 S (f_X12_sign n d 0 S []))
  | 0 => (fun _ _ => ph_none)
  | n + 1 => by
    have h0 := kr_X12_sign n
    · intro _ _
      rw [e_X12_sign_0]
      unfold b_X12_sign_0
      repeat' (with_reducible first
        | exact ph_none
        | exact ph_some
        | refine ph_gI (by first | decide | omega) (fun _ => ?_)
        | refine ph_gCp (by first | decide | omega) (fun _ => ?_)
        | refine ph_gB (by first | decide | omega) (fun _ => ?_)
        | refine ph_gR (by first | decide | omega) (fun _ => ?_)
        | refine ph_gv (fun _ => ?_)
        | refine ph_gg (fun _ => ?_)
        | refine ph_gc ?_ (fun _ _ => ?_)
        | refine ph_ite (fun _ => ?_) (fun _ => ?_))

theorem kr_X12_isFigure : ∀ n : Nat, (∀ (d : Nat) (S : GS), PH 600 S (f_X12_isFigure n d 0 S []))
  | 0 => (fun _ _ => ph_none)
  | n + 1 => by
    have h0 := kr_X12_isFigure n
    · intro _ _
      rw [e_X12_isFigure_0]
      unfold b_X12_isFigure_0
      repeat' (with_reducible first
        | exact ph_none
        | exact ph_some
        | refine ph_gI (by first | decide | omega) (fun _ => ?_)
        | refine ph_gCp (by first | decide | omega) (fun _ => ?_)
        | refine ph_gB (by first | decide | omega) (fun _ => ?_)
        | refine ph_gR (by first | decide | omega) (fun _ => ?_)
        | refine ph_gv (fun _ => ?_)
        | refine ph_gg (fun _ => ?_)
        | refine ph_gc ?_ (fun _ _ => ?_)
        | refine ph_ite (fun _ => ?_) (fun _ => ?_)
        | exact (kr_X12_in _) _ _ _ _ _
        | exact (kr_X12_sign _) _ _)

theorem kr_X12_isSo : ∀ n : Nat, (∀ (d : Nat) (S : GS) (a1 : Int) (a2 : Int) (a3 : Int), PH 600 S (f_X12_isSo n d 0 S [a1, a2, a3])) ∧ (∀ (d : Nat) (S : GS) (a5 : Int) (a6 : Int), PH 600 S (f_X12_isSo n d 82 S [a5, a6]))
  | 0 => ⟨(fun _ _ _ _ _ => ph_none), (fun _ _ _ _ => ph_none)⟩
  | n + 1 => by
    obtain ⟨h0, h82⟩ := kr_X12_isSo n
    refine ⟨?_, ?_⟩
    · intro _ _ _ _ _
      rw [e_X12_isSo_0]
      unfold b_X12_isSo_0
      repeat' (with_reducible first
        | exact ph_none
        | exact ph_some
        | refine ph_gI (by first | decide | omega) (fun _ => ?_)
        | refine ph_gCp (by first | decide | omega) (fun _ => ?_)
        | refine ph_gB (by first | decide | omega) (fun _ => ?_)
        | refine ph_gR (by first | decide | omega) (fun _ => ?_)
        | refine ph_gv (fun _ => ?_)
        | refine ph_gg (fun _ => ?_)
        | refine ph_gc ?_ (fun _ _ => ?_)
        | refine ph_ite (fun _ => ?_) (fun _ => ?_)
        | exact h82 _ _ _ _
        | exact (kr_X12_childByWord _).1 _ _ _ _
        | exact (kr_X12_kind _) _ _ _ _
        | exact (kr_X12_wordOf _).1 _ _ _ _
        | exact (kr_X12_writes _).1 _ _ _ _ _ _)
    · intro _ _ _ _
      rw [e_X12_isSo_82]
      unfold b_X12_isSo_82
      repeat' (with_reducible first
        | exact ph_none
        | exact ph_some
        | refine ph_gI (by first | decide | omega) (fun _ => ?_)
        | refine ph_gCp (by first | decide | omega) (fun _ => ?_)
        | refine ph_gB (by first | decide | omega) (fun _ => ?_)
        | refine ph_gR (by first | decide | omega) (fun _ => ?_)
        | refine ph_gv (fun _ => ?_)
        | refine ph_gg (fun _ => ?_)
        | refine ph_gc ?_ (fun _ _ => ?_)
        | refine ph_ite (fun _ => ?_) (fun _ => ?_)
        | exact h82 _ _ _ _)

theorem kr_X12_isSound : ∀ n : Nat, (∀ (d : Nat) (S : GS) (a1 : Int), PH 600 S (f_X12_isSound n d 0 S [a1]))
  | 0 => (fun _ _ _ => ph_none)
  | n + 1 => by
    have h0 := kr_X12_isSound n
    · intro _ _ _
      rw [e_X12_isSound_0]
      unfold b_X12_isSound_0
      repeat' (with_reducible first
        | exact ph_none
        | exact ph_some
        | refine ph_gI (by first | decide | omega) (fun _ => ?_)
        | refine ph_gCp (by first | decide | omega) (fun _ => ?_)
        | refine ph_gB (by first | decide | omega) (fun _ => ?_)
        | refine ph_gR (by first | decide | omega) (fun _ => ?_)
        | refine ph_gv (fun _ => ?_)
        | refine ph_gg (fun _ => ?_)
        | refine ph_gc ?_ (fun _ _ => ?_)
        | refine ph_ite (fun _ => ?_) (fun _ => ?_)
        | exact (kr_X12_fails _) _ _ _ _
        | exact (kr_X12_isDoc _) _ _ _)

theorem kr_X12_joinsOne : ∀ n : Nat, (∀ (d : Nat) (S : GS) (a1 : Int) (a2 : Int) (a3 : Int) (a4 : Int), PH 600 S (f_X12_joinsOne n d 0 S [a1, a2, a3, a4])) ∧ (∀ (d : Nat) (S : GS) (a1 : Int) (a2 : Int) (a3 : Int) (a4 : Int) (a5 : Int) (s0 : Int), PH 600 S (f_X12_joinsOne n d 43 S [a1, a2, a3, a4, a5, s0])) ∧ (∀ (d : Nat) (S : GS) (a4 : Int) (a6 : Int) (s0 : Int), PH 600 S (f_X12_joinsOne n d 82 S [a4, a6, s0])) ∧ (∀ (d : Nat) (S : GS) (a4 : Int) (a7 : Int) (s0 : Int) (s1 : Int), PH 600 S (f_X12_joinsOne n d 109 S [a4, a7, s0, s1])) ∧ (∀ (d : Nat) (S : GS) (a1 : Int) (a4 : Int) (s0 : Int), PH 600 S (f_X12_joinsOne n d 169 S [a1, a4, s0])) ∧ (∀ (d : Nat) (S : GS) (a4 : Int), PH 600 S (f_X12_joinsOne n d 194 S [a4])) ∧ (∀ (d : Nat) (S : GS) (a8 : Int), PH 600 S (f_X12_joinsOne n d 221 S [a8]))
  | 0 => ⟨(fun _ _ _ _ _ _ => ph_none), (fun _ _ _ _ _ _ _ _ => ph_none), (fun _ _ _ _ _ => ph_none), (fun _ _ _ _ _ _ => ph_none), (fun _ _ _ _ _ => ph_none), (fun _ _ _ => ph_none), (fun _ _ _ => ph_none)⟩
  | n + 1 => by
    obtain ⟨h0, h43, h82, h109, h169, h194, h221⟩ := kr_X12_joinsOne n
    refine ⟨?_, ?_, ?_, ?_, ?_, ?_, ?_⟩
    · intro _ _ _ _ _ _
      rw [e_X12_joinsOne_0]
      unfold b_X12_joinsOne_0
      repeat' (with_reducible first
        | exact ph_none
        | exact ph_some
        | refine ph_gI (by first | decide | omega) (fun _ => ?_)
        | refine ph_gCp (by first | decide | omega) (fun _ => ?_)
        | refine ph_gB (by first | decide | omega) (fun _ => ?_)
        | refine ph_gR (by first | decide | omega) (fun _ => ?_)
        | refine ph_gv (fun _ => ?_)
        | refine ph_gg (fun _ => ?_)
        | refine ph_gc ?_ (fun _ _ => ?_)
        | refine ph_ite (fun _ => ?_) (fun _ => ?_)
        | exact h43 _ _ _ _ _ _ _ _
        | exact (kr_X12_areAlike _).1 _ _ _ _ _ _)
    · intro _ _ _ _ _ _ _ _
      rw [e_X12_joinsOne_43]
      unfold b_X12_joinsOne_43
      repeat' (with_reducible first
        | exact ph_none
        | exact ph_some
        | refine ph_gI (by first | decide | omega) (fun _ => ?_)
        | refine ph_gCp (by first | decide | omega) (fun _ => ?_)
        | refine ph_gB (by first | decide | omega) (fun _ => ?_)
        | refine ph_gR (by first | decide | omega) (fun _ => ?_)
        | refine ph_gv (fun _ => ?_)
        | refine ph_gg (fun _ => ?_)
        | refine ph_gc ?_ (fun _ _ => ?_)
        | refine ph_ite (fun _ => ?_) (fun _ => ?_)
        | exact h82 _ _ _ _ _
        | exact h169 _ _ _ _ _
        | exact (kr_X12_areAlike _).1 _ _ _ _ _ _
        | exact (kr_X12_kind _) _ _ _ _)
    · intro _ _ _ _ _
      rw [e_X12_joinsOne_82]
      unfold b_X12_joinsOne_82
      repeat' (with_reducible first
        | exact ph_none
        | exact ph_some
        | refine ph_gI (by first | decide | omega) (fun _ => ?_)
        | refine ph_gCp (by first | decide | omega) (fun _ => ?_)
        | refine ph_gB (by first | decide | omega) (fun _ => ?_)
        | refine ph_gR (by first | decide | omega) (fun _ => ?_)
        | refine ph_gv (fun _ => ?_)
        | refine ph_gg (fun _ => ?_)
        | refine ph_gc ?_ (fun _ _ => ?_)
        | refine ph_ite (fun _ => ?_) (fun _ => ?_)
        | exact h109 _ _ _ _ _ _)
    · intro _ _ _ _ _ _
      rw [e_X12_joinsOne_109]
      unfold b_X12_joinsOne_109
      repeat' (with_reducible first
        | exact ph_none
        | exact ph_some
        | refine ph_gI (by first | decide | omega) (fun _ => ?_)
        | refine ph_gCp (by first | decide | omega) (fun _ => ?_)
        | refine ph_gB (by first | decide | omega) (fun _ => ?_)
        | refine ph_gR (by first | decide | omega) (fun _ => ?_)
        | refine ph_gv (fun _ => ?_)
        | refine ph_gg (fun _ => ?_)
        | refine ph_gc ?_ (fun _ _ => ?_)
        | refine ph_ite (fun _ => ?_) (fun _ => ?_)
        | exact (kr_X12_brings _) _ _ _ _ _ _)
    · intro _ _ _ _ _
      rw [e_X12_joinsOne_169]
      unfold b_X12_joinsOne_169
      repeat' (with_reducible first
        | exact ph_none
        | exact ph_some
        | refine ph_gI (by first | decide | omega) (fun _ => ?_)
        | refine ph_gCp (by first | decide | omega) (fun _ => ?_)
        | refine ph_gB (by first | decide | omega) (fun _ => ?_)
        | refine ph_gR (by first | decide | omega) (fun _ => ?_)
        | refine ph_gv (fun _ => ?_)
        | refine ph_gg (fun _ => ?_)
        | refine ph_gc ?_ (fun _ _ => ?_)
        | refine ph_ite (fun _ => ?_) (fun _ => ?_)
        | exact h194 _ _ _
        | exact h221 _ _ _
        | exact (kr_X12_kind _) _ _ _ _)
    · intro _ _ _
      rw [e_X12_joinsOne_194]
      unfold b_X12_joinsOne_194
      repeat' (with_reducible first
        | exact ph_none
        | exact ph_some
        | refine ph_gI (by first | decide | omega) (fun _ => ?_)
        | refine ph_gCp (by first | decide | omega) (fun _ => ?_)
        | refine ph_gB (by first | decide | omega) (fun _ => ?_)
        | refine ph_gR (by first | decide | omega) (fun _ => ?_)
        | refine ph_gv (fun _ => ?_)
        | refine ph_gg (fun _ => ?_)
        | refine ph_gc ?_ (fun _ _ => ?_)
        | refine ph_ite (fun _ => ?_) (fun _ => ?_)
        | exact (kr_X12_added _).1 _ _ _ _
        | exact (kr_X12_keyIs _).1 _ _ _ _)
    · intro _ _ _
      rw [e_X12_joinsOne_221]
      unfold b_X12_joinsOne_221
      repeat' (with_reducible first
        | exact ph_none
        | exact ph_some
        | refine ph_gI (by first | decide | omega) (fun _ => ?_)
        | refine ph_gCp (by first | decide | omega) (fun _ => ?_)
        | refine ph_gB (by first | decide | omega) (fun _ => ?_)
        | refine ph_gR (by first | decide | omega) (fun _ => ?_)
        | refine ph_gv (fun _ => ?_)
        | refine ph_gg (fun _ => ?_)
        | refine ph_gc ?_ (fun _ _ => ?_)
        | refine ph_ite (fun _ => ?_) (fun _ => ?_)
        | exact h221 _ _ _)

theorem kr_X12_mapOf : ∀ n : Nat, (∀ (d : Nat) (S : GS) (a1 : Int) (a2 : Int), PH 600 S (f_X12_mapOf n d 0 S [a1, a2]))
  | 0 => (fun _ _ _ _ => ph_none)
  | n + 1 => by
    have h0 := kr_X12_mapOf n
    · intro _ _ _ _
      rw [e_X12_mapOf_0]
      unfold b_X12_mapOf_0
      repeat' (with_reducible first
        | exact ph_none
        | exact ph_some
        | refine ph_gI (by first | decide | omega) (fun _ => ?_)
        | refine ph_gCp (by first | decide | omega) (fun _ => ?_)
        | refine ph_gB (by first | decide | omega) (fun _ => ?_)
        | refine ph_gR (by first | decide | omega) (fun _ => ?_)
        | refine ph_gv (fun _ => ?_)
        | refine ph_gg (fun _ => ?_)
        | refine ph_gc ?_ (fun _ _ => ?_)
        | refine ph_ite (fun _ => ?_) (fun _ => ?_))

theorem kr_X12_joins : ∀ n : Nat, (∀ (d : Nat) (S : GS), PH 600 S (f_X12_joins n d 0 S [])) ∧ (∀ (d : Nat) (S : GS) (a1 : Int), PH 600 S (f_X12_joins n d 47 S [a1])) ∧ (∀ (d : Nat) (S : GS) (a1 : Int) (a2 : Int) (a3 : Int), PH 600 S (f_X12_joins n d 96 S [a1, a2, a3])) ∧ (∀ (d : Nat) (S : GS) (a1 : Int) (a2 : Int) (a3 : Int) (a5 : Int) (a6 : Int) (s0 : Int), PH 600 S (f_X12_joins n d 197 S [a1, a2, a3, a5, a6, s0])) ∧ (∀ (d : Nat) (S : GS) (a1 : Int) (a2 : Int) (a5 : Int) (a6 : Int) (a7 : Int) (a8 : Int) (a9 : Int), PH 600 S (f_X12_joins n d 260 S [a1, a2, a5, a6, a7, a8, a9])) ∧ (∀ (d : Nat) (S : GS) (a1 : Int) (a7 : Int) (a8 : Int) (a9 : Int) (a10 : Int) (s0 : Int) (s1 : Int) (s2 : Int), PH 600 S (f_X12_joins n d 324 S [a1, a7, a8, a9, a10, s0, s1, s2]))
  | 0 => ⟨(fun _ _ => ph_none), (fun _ _ _ => ph_none), (fun _ _ _ _ _ => ph_none), (fun _ _ _ _ _ _ _ _ => ph_none), (fun _ _ _ _ _ _ _ _ _ => ph_none), (fun _ _ _ _ _ _ _ _ _ _ => ph_none)⟩
  | n + 1 => by
    obtain ⟨h0, h47, h96, h197, h260, h324⟩ := kr_X12_joins n
    refine ⟨?_, ?_, ?_, ?_, ?_, ?_⟩
    · intro _ _
      rw [e_X12_joins_0]
      unfold b_X12_joins_0
      repeat' (with_reducible first
        | exact ph_none
        | exact ph_some
        | refine ph_gI (by first | decide | omega) (fun _ => ?_)
        | refine ph_gCp (by first | decide | omega) (fun _ => ?_)
        | refine ph_gB (by first | decide | omega) (fun _ => ?_)
        | refine ph_gR (by first | decide | omega) (fun _ => ?_)
        | refine ph_gv (fun _ => ?_)
        | refine ph_gg (fun _ => ?_)
        | refine ph_gc ?_ (fun _ _ => ?_)
        | refine ph_ite (fun _ => ?_) (fun _ => ?_)
        | exact h47 _ _ _
        | exact (kr_X12_begin _) _ _ _
        | exact (kr_X12_goesInto _).1 _ _ _ _ _ _
        | exact (kr_X12_joinsOne _).1 _ _ _ _ _ _)
    · intro _ _ _
      rw [e_X12_joins_47]
      unfold b_X12_joins_47
      repeat' (with_reducible first
        | exact ph_none
        | exact ph_some
        | refine ph_gI (by first | decide | omega) (fun _ => ?_)
        | refine ph_gCp (by first | decide | omega) (fun _ => ?_)
        | refine ph_gB (by first | decide | omega) (fun _ => ?_)
        | refine ph_gR (by first | decide | omega) (fun _ => ?_)
        | refine ph_gv (fun _ => ?_)
        | refine ph_gg (fun _ => ?_)
        | refine ph_gc ?_ (fun _ _ => ?_)
        | refine ph_ite (fun _ => ?_) (fun _ => ?_)
        | exact h96 _ _ _ _ _
        | exact h197 _ _ _ _ _ _ _ _
        | exact (kr_X12_childLike _).1 _ _ _ _ _ _
        | exact (kr_X12_docOf _) _ _ _
        | exact (kr_X12_endOf _) _ _ _ _
        | exact (kr_X12_mapOf _) _ _ _ _)
    · intro _ _ _ _ _
      rw [e_X12_joins_96]
      unfold b_X12_joins_96
      repeat' (with_reducible first
        | exact ph_none
        | exact ph_some
        | refine ph_gI (by first | decide | omega) (fun _ => ?_)
        | refine ph_gCp (by first | decide | omega) (fun _ => ?_)
        | refine ph_gB (by first | decide | omega) (fun _ => ?_)
        | refine ph_gR (by first | decide | omega) (fun _ => ?_)
        | refine ph_gv (fun _ => ?_)
        | refine ph_gg (fun _ => ?_)
        | refine ph_gc ?_ (fun _ _ => ?_)
        | refine ph_ite (fun _ => ?_) (fun _ => ?_)
        | exact h47 _ _ _
        | exact (kr_X12_mapOf _) _ _ _ _)
    · intro _ _ _ _ _ _ _ _
      rw [e_X12_joins_197]
      unfold b_X12_joins_197
      repeat' (with_reducible first
        | exact ph_none
        | exact ph_some
        | refine ph_gI (by first | decide | omega) (fun _ => ?_)
        | refine ph_gCp (by first | decide | omega) (fun _ => ?_)
        | refine ph_gB (by first | decide | omega) (fun _ => ?_)
        | refine ph_gR (by first | decide | omega) (fun _ => ?_)
        | refine ph_gv (fun _ => ?_)
        | refine ph_gg (fun _ => ?_)
        | refine ph_gc ?_ (fun _ _ => ?_)
        | refine ph_ite (fun _ => ?_) (fun _ => ?_)
        | exact h47 _ _ _
        | exact h260 _ _ _ _ _ _ _ _ _
        | exact (kr_X12_childLike _).1 _ _ _ _ _ _)
    · intro _ _ _ _ _ _ _ _ _
      rw [e_X12_joins_260]
      unfold b_X12_joins_260
      repeat' (with_reducible first
        | exact ph_none
        | exact ph_some
        | refine ph_gI (by first | decide | omega) (fun _ => ?_)
        | refine ph_gCp (by first | decide | omega) (fun _ => ?_)
        | refine ph_gB (by first | decide | omega) (fun _ => ?_)
        | refine ph_gR (by first | decide | omega) (fun _ => ?_)
        | refine ph_gv (fun _ => ?_)
        | refine ph_gg (fun _ => ?_)
        | refine ph_gc ?_ (fun _ _ => ?_)
        | refine ph_ite (fun _ => ?_) (fun _ => ?_)
        | exact h324 _ _ _ _ _ _ _ _ _ _
        | exact (kr_X12_addsWord _).1 _ _
        | exact (kr_X12_at _) _ _ _ _
        | exact (kr_X12_joinsOne _).1 _ _ _ _ _ _
        | exact (kr_X12_wordOfKey _).1 _ _ _ _)
    · intro _ _ _ _ _ _ _ _ _ _
      rw [e_X12_joins_324]
      unfold b_X12_joins_324
      repeat' (with_reducible first
        | exact ph_none
        | exact ph_some
        | refine ph_gI (by first | decide | omega) (fun _ => ?_)
        | refine ph_gCp (by first | decide | omega) (fun _ => ?_)
        | refine ph_gB (by first | decide | omega) (fun _ => ?_)
        | refine ph_gR (by first | decide | omega) (fun _ => ?_)
        | refine ph_gv (fun _ => ?_)
        | refine ph_gg (fun _ => ?_)
        | refine ph_gc ?_ (fun _ _ => ?_)
        | refine ph_ite (fun _ => ?_) (fun _ => ?_)
        | exact h47 _ _ _
        | exact (kr_X12_goesInto _).1 _ _ _ _ _ _)

theorem kr_X12_join : ∀ n : Nat, (∀ (d : Nat) (S : GS) (a1 : Int) (a2 : Int) (a3 : Int), PH 600 S (f_X12_join n d 0 S [a1, a2, a3])) ∧ (∀ (d : Nat) (S : GS) (a1 : Int) (a2 : Int) (a3 : Int) (s0 : Int), PH 600 S (f_X12_join n d 30 S [a1, a2, a3, s0])) ∧ (∀ (d : Nat) (S : GS) (s0 : Int), PH 600 S (f_X12_join n d 89 S [s0])) ∧ (∀ (d : Nat) (S : GS) (a4 : Int), PH 600 S (f_X12_join n d 109 S [a4])) ∧ (∀ (d : Nat) (S : GS) (a4 : Int), PH 600 S (f_X12_join n d 141 S [a4]))
  | 0 => ⟨(fun _ _ _ _ _ => ph_none), (fun _ _ _ _ _ _ => ph_none), (fun _ _ _ => ph_none), (fun _ _ _ => ph_none), (fun _ _ _ => ph_none)⟩
  | n + 1 => by
    obtain ⟨h0, h30, h89, h109, h141⟩ := kr_X12_join n
    refine ⟨?_, ?_, ?_, ?_, ?_⟩
    · intro _ _ _ _ _
      rw [e_X12_join_0]
      unfold b_X12_join_0
      repeat' (with_reducible first
        | exact ph_none
        | exact ph_some
        | refine ph_gI (by first | decide | omega) (fun _ => ?_)
        | refine ph_gCp (by first | decide | omega) (fun _ => ?_)
        | refine ph_gB (by first | decide | omega) (fun _ => ?_)
        | refine ph_gR (by first | decide | omega) (fun _ => ?_)
        | refine ph_gv (fun _ => ?_)
        | refine ph_gg (fun _ => ?_)
        | refine ph_gc ?_ (fun _ _ => ?_)
        | refine ph_ite (fun _ => ?_) (fun _ => ?_)
        | exact h30 _ _ _ _ _ _
        | exact (kr_X12_isDoc _) _ _ _)
    · intro _ _ _ _ _ _
      rw [e_X12_join_30]
      unfold b_X12_join_30
      repeat' (with_reducible first
        | exact ph_none
        | exact ph_some
        | refine ph_gI (by first | decide | omega) (fun _ => ?_)
        | refine ph_gCp (by first | decide | omega) (fun _ => ?_)
        | refine ph_gB (by first | decide | omega) (fun _ => ?_)
        | refine ph_gR (by first | decide | omega) (fun _ => ?_)
        | refine ph_gv (fun _ => ?_)
        | refine ph_gg (fun _ => ?_)
        | refine ph_gc ?_ (fun _ _ => ?_)
        | refine ph_ite (fun _ => ?_) (fun _ => ?_)
        | exact h89 _ _ _
        | exact h109 _ _ _
        | exact (kr_X12_fails _) _ _ _ _
        | exact (kr_X12_isWhole _) _ _ _
        | exact (kr_X12_joins _).1 _ _)
    · intro _ _ _
      rw [e_X12_join_89]
      unfold b_X12_join_89
      repeat' (with_reducible first
        | exact ph_none
        | exact ph_some
        | refine ph_gI (by first | decide | omega) (fun _ => ?_)
        | refine ph_gCp (by first | decide | omega) (fun _ => ?_)
        | refine ph_gB (by first | decide | omega) (fun _ => ?_)
        | refine ph_gR (by first | decide | omega) (fun _ => ?_)
        | refine ph_gv (fun _ => ?_)
        | refine ph_gg (fun _ => ?_)
        | refine ph_gc ?_ (fun _ _ => ?_)
        | refine ph_ite (fun _ => ?_) (fun _ => ?_)
        | exact h109 _ _ _
        | exact (kr_X12_fails _) _ _ _ _)
    · intro _ _ _
      rw [e_X12_join_109]
      unfold b_X12_join_109
      repeat' (with_reducible first
        | exact ph_none
        | exact ph_some
        | refine ph_gI (by first | decide | omega) (fun _ => ?_)
        | refine ph_gCp (by first | decide | omega) (fun _ => ?_)
        | refine ph_gB (by first | decide | omega) (fun _ => ?_)
        | refine ph_gR (by first | decide | omega) (fun _ => ?_)
        | refine ph_gv (fun _ => ?_)
        | refine ph_gg (fun _ => ?_)
        | refine ph_gc ?_ (fun _ _ => ?_)
        | refine ph_ite (fun _ => ?_) (fun _ => ?_)
        | exact h109 _ _ _
        | exact h141 _ _ _)
    · intro _ _ _
      rw [e_X12_join_141]
      unfold b_X12_join_141
      repeat' (with_reducible first
        | exact ph_none
        | exact ph_some
        | refine ph_gI (by first | decide | omega) (fun _ => ?_)
        | refine ph_gCp (by first | decide | omega) (fun _ => ?_)
        | refine ph_gB (by first | decide | omega) (fun _ => ?_)
        | refine ph_gR (by first | decide | omega) (fun _ => ?_)
        | refine ph_gv (fun _ => ?_)
        | refine ph_gg (fun _ => ?_)
        | refine ph_gc ?_ (fun _ _ => ?_)
        | refine ph_ite (fun _ => ?_) (fun _ => ?_)
        | exact h141 _ _ _
        | exact (kr_X12_keeps _).1 _ _ _)

theorem kr_X12_kindAhead : ∀ n : Nat, (∀ (d : Nat) (S : GS), PH 600 S (f_X12_kindAhead n d 0 S []))
  | 0 => (fun _ _ => ph_none)
  | n + 1 => by
    have h0 := kr_X12_kindAhead n
    · intro _ _
      rw [e_X12_kindAhead_0]
      unfold b_X12_kindAhead_0
      repeat' (with_reducible first
        | exact ph_none
        | exact ph_some
        | refine ph_gI (by first | decide | omega) (fun _ => ?_)
        | refine ph_gCp (by first | decide | omega) (fun _ => ?_)
        | refine ph_gB (by first | decide | omega) (fun _ => ?_)
        | refine ph_gR (by first | decide | omega) (fun _ => ?_)
        | refine ph_gv (fun _ => ?_)
        | refine ph_gg (fun _ => ?_)
        | refine ph_gc ?_ (fun _ _ => ?_)
        | refine ph_ite (fun _ => ?_) (fun _ => ?_)
        | exact (kr_X12_isFigure _) _ _
        | exact (kr_X12_sign _) _ _)

theorem kr_X12_lays : ∀ n : Nat, (∀ (d : Nat) (S : GS) (a1 : Int) (a2 : Int) (a3 : Int), PH 600 S (f_X12_lays n d 0 S [a1, a2, a3])) ∧ (∀ (d : Nat) (S : GS) (a2 : Int) (a3 : Int) (a4 : Int), PH 600 S (f_X12_lays n d 10 S [a2, a3, a4]))
  | 0 => ⟨(fun _ _ _ _ _ => ph_none), (fun _ _ _ _ _ => ph_none)⟩
  | n + 1 => by
    obtain ⟨h0, h10⟩ := kr_X12_lays n
    refine ⟨?_, ?_⟩
    · intro _ _ _ _ _
      rw [e_X12_lays_0]
      unfold b_X12_lays_0
      repeat' (with_reducible first
        | exact ph_none
        | exact ph_some
        | refine ph_gI (by first | decide | omega) (fun _ => ?_)
        | refine ph_gCp (by first | decide | omega) (fun _ => ?_)
        | refine ph_gB (by first | decide | omega) (fun _ => ?_)
        | refine ph_gR (by first | decide | omega) (fun _ => ?_)
        | refine ph_gv (fun _ => ?_)
        | refine ph_gg (fun _ => ?_)
        | refine ph_gc ?_ (fun _ _ => ?_)
        | refine ph_ite (fun _ => ?_) (fun _ => ?_)
        | exact h10 _ _ _ _ _
        | exact (kr_X12_becomes _).1 _ _ _ _)
    · intro _ _ _ _ _
      rw [e_X12_lays_10]
      unfold b_X12_lays_10
      repeat' (with_reducible first
        | exact ph_none
        | exact ph_some
        | refine ph_gI (by first | decide | omega) (fun _ => ?_)
        | refine ph_gCp (by first | decide | omega) (fun _ => ?_)
        | refine ph_gB (by first | decide | omega) (fun _ => ?_)
        | refine ph_gR (by first | decide | omega) (fun _ => ?_)
        | refine ph_gv (fun _ => ?_)
        | refine ph_gg (fun _ => ?_)
        | refine ph_gc ?_ (fun _ _ => ?_)
        | refine ph_ite (fun _ => ?_) (fun _ => ?_)
        | exact h10 _ _ _ _ _
        | exact (kr_X12_childAt _).1 _ _ _ _ _
        | exact (kr_X12_does _).1 _ _ _ _)

theorem kr_X12_lay : ∀ n : Nat, (∀ (d : Nat) (S : GS) (a1 : Int) (a2 : Int), PH 600 S (f_X12_lay n d 0 S [a1, a2])) ∧ (∀ (d : Nat) (S : GS) (a1 : Int) (a2 : Int) (s0 : Int), PH 600 S (f_X12_lay n d 22 S [a1, a2, s0])) ∧ (∀ (d : Nat) (S : GS) (s0 : Int), PH 600 S (f_X12_lay n d 82 S [s0]))
  | 0 => ⟨(fun _ _ _ _ => ph_none), (fun _ _ _ _ _ => ph_none), (fun _ _ _ => ph_none)⟩
  | n + 1 => by
    obtain ⟨h0, h22, h82⟩ := kr_X12_lay n
    refine ⟨?_, ?_, ?_⟩
    · intro _ _ _ _
      rw [e_X12_lay_0]
      unfold b_X12_lay_0
      repeat' (with_reducible first
        | exact ph_none
        | exact ph_some
        | refine ph_gI (by first | decide | omega) (fun _ => ?_)
        | refine ph_gCp (by first | decide | omega) (fun _ => ?_)
        | refine ph_gB (by first | decide | omega) (fun _ => ?_)
        | refine ph_gR (by first | decide | omega) (fun _ => ?_)
        | refine ph_gv (fun _ => ?_)
        | refine ph_gg (fun _ => ?_)
        | refine ph_gc ?_ (fun _ _ => ?_)
        | refine ph_ite (fun _ => ?_) (fun _ => ?_)
        | exact h22 _ _ _ _ _
        | exact (kr_X12_isDoc _) _ _ _)
    · intro _ _ _ _ _
      rw [e_X12_lay_22]
      unfold b_X12_lay_22
      repeat' (with_reducible first
        | exact ph_none
        | exact ph_some
        | refine ph_gI (by first | decide | omega) (fun _ => ?_)
        | refine ph_gCp (by first | decide | omega) (fun _ => ?_)
        | refine ph_gB (by first | decide | omega) (fun _ => ?_)
        | refine ph_gR (by first | decide | omega) (fun _ => ?_)
        | refine ph_gv (fun _ => ?_)
        | refine ph_gg (fun _ => ?_)
        | refine ph_gc ?_ (fun _ _ => ?_)
        | refine ph_ite (fun _ => ?_) (fun _ => ?_)
        | exact h82 _ _ _
        | exact (kr_X12_fails _) _ _ _ _
        | exact (kr_X12_kind _) _ _ _ _
        | exact (kr_X12_lays _).1 _ _ _ _ _
        | exact (kr_X12_part _) _ _ _ _ _)
    · intro _ _ _
      rw [e_X12_lay_82]
      unfold b_X12_lay_82
      repeat' (with_reducible first
        | exact ph_none
        | exact ph_some
        | refine ph_gI (by first | decide | omega) (fun _ => ?_)
        | refine ph_gCp (by first | decide | omega) (fun _ => ?_)
        | refine ph_gB (by first | decide | omega) (fun _ => ?_)
        | refine ph_gR (by first | decide | omega) (fun _ => ?_)
        | refine ph_gv (fun _ => ?_)
        | refine ph_gg (fun _ => ?_)
        | refine ph_gc ?_ (fun _ _ => ?_)
        | refine ph_ite (fun _ => ?_) (fun _ => ?_)
        | exact (kr_X12_fails _) _ _ _ _
        | exact (kr_X12_keeps _).1 _ _ _)

theorem kr_X12_patchRows : ∀ n : Nat, (∀ (d : Nat) (S : GS) (a1 : Int) (a2 : Int) (a3 : Int) (a4 : Int), PH 600 S (f_X12_patchRows n d 0 S [a1, a2, a3, a4])) ∧ (∀ (d : Nat) (S : GS) (a1 : Int) (a2 : Int) (a3 : Int) (a4 : Int) (a5 : Int) (a6 : Int) (a7 : Int), PH 600 S (f_X12_patchRows n d 23 S [a1, a2, a3, a4, a5, a6, a7])) ∧ (∀ (d : Nat) (S : GS) (a1 : Int) (a2 : Int) (a3 : Int) (a4 : Int) (a5 : Int) (a6 : Int) (a7 : Int) (a8 : Int), PH 600 S (f_X12_patchRows n d 32 S [a1, a2, a3, a4, a5, a6, a7, a8])) ∧ (∀ (d : Nat) (S : GS) (a1 : Int) (a2 : Int) (a3 : Int) (a4 : Int) (a5 : Int) (a6 : Int) (a7 : Int) (a8 : Int) (s0 : Int), PH 600 S (f_X12_patchRows n d 103 S [a1, a2, a3, a4, a5, a6, a7, a8, s0])) ∧ (∀ (d : Nat) (S : GS) (a1 : Int) (a2 : Int) (a3 : Int) (a4 : Int) (a5 : Int) (a6 : Int) (a7 : Int) (a8 : Int) (s0 : Int), PH 600 S (f_X12_patchRows n d 145 S [a1, a2, a3, a4, a5, a6, a7, a8, s0])) ∧ (∀ (d : Nat) (S : GS) (a1 : Int) (a2 : Int) (a3 : Int) (a4 : Int) (a5 : Int) (a6 : Int) (a7 : Int) (a8 : Int) (a9 : Int), PH 600 S (f_X12_patchRows n d 189 S [a1, a2, a3, a4, a5, a6, a7, a8, a9])) ∧ (∀ (d : Nat) (S : GS) (a1 : Int) (a2 : Int) (a3 : Int) (a4 : Int) (a5 : Int) (a6 : Int) (a7 : Int), PH 600 S (f_X12_patchRows n d 219 S [a1, a2, a3, a4, a5, a6, a7])) ∧ (∀ (d : Nat) (S : GS) (a1 : Int) (a2 : Int) (a3 : Int) (a4 : Int) (a5 : Int) (a6 : Int) (a7 : Int) (a8 : Int), PH 600 S (f_X12_patchRows n d 254 S [a1, a2, a3, a4, a5, a6, a7, a8])) ∧ (∀ (d : Nat) (S : GS) (a1 : Int) (a2 : Int) (a3 : Int) (a4 : Int) (a6 : Int) (a9 : Int), PH 600 S (f_X12_patchRows n d 368 S [a1, a2, a3, a4, a6, a9])) ∧ (∀ (d : Nat) (S : GS) (a1 : Int) (a2 : Int) (a3 : Int) (a4 : Int) (a6 : Int) (a9 : Int), PH 600 S (f_X12_patchRows n d 414 S [a1, a2, a3, a4, a6, a9]))
  | 0 => ⟨(fun _ _ _ _ _ _ => ph_none), (fun _ _ _ _ _ _ _ _ _ => ph_none), (fun _ _ _ _ _ _ _ _ _ _ => ph_none), (fun _ _ _ _ _ _ _ _ _ _ _ => ph_none), (fun _ _ _ _ _ _ _ _ _ _ _ => ph_none), (fun _ _ _ _ _ _ _ _ _ _ _ => ph_none), (fun _ _ _ _ _ _ _ _ _ => ph_none), (fun _ _ _ _ _ _ _ _ _ _ => ph_none), (fun _ _ _ _ _ _ _ _ => ph_none), (fun _ _ _ _ _ _ _ _ => ph_none)⟩
  | n + 1 => by
    obtain ⟨h0, h23, h32, h103, h145, h189, h219, h254, h368, h414⟩ := kr_X12_patchRows n
    refine ⟨?_, ?_, ?_, ?_, ?_, ?_, ?_, ?_, ?_, ?_⟩
    · intro _ _ _ _ _ _
      rw [e_X12_patchRows_0]
      unfold b_X12_patchRows_0
      repeat' (with_reducible first
        | exact ph_none
        | exact ph_some
        | refine ph_gI (by first | decide | omega) (fun _ => ?_)
        | refine ph_gCp (by first | decide | omega) (fun _ => ?_)
        | refine ph_gB (by first | decide | omega) (fun _ => ?_)
        | refine ph_gR (by first | decide | omega) (fun _ => ?_)
        | refine ph_gv (fun _ => ?_)
        | refine ph_gg (fun _ => ?_)
        | refine ph_gc ?_ (fun _ _ => ?_)
        | refine ph_ite (fun _ => ?_) (fun _ => ?_)
        | exact h23 _ _ _ _ _ _ _ _ _
        | exact (kr_X12_part _) _ _ _ _ _)
    · intro _ _ _ _ _ _ _ _ _
      rw [e_X12_patchRows_23]
      unfold b_X12_patchRows_23
      repeat' (with_reducible first
        | exact ph_none
        | exact ph_some
        | refine ph_gI (by first | decide | omega) (fun _ => ?_)
        | refine ph_gCp (by first | decide | omega) (fun _ => ?_)
        | refine ph_gB (by first | decide | omega) (fun _ => ?_)
        | refine ph_gR (by first | decide | omega) (fun _ => ?_)
        | refine ph_gv (fun _ => ?_)
        | refine ph_gg (fun _ => ?_)
        | refine ph_gc ?_ (fun _ _ => ?_)
        | refine ph_ite (fun _ => ?_) (fun _ => ?_)
        | exact h32 _ _ _ _ _ _ _ _ _ _
        | exact h219 _ _ _ _ _ _ _ _ _)
    · intro _ _ _ _ _ _ _ _ _ _
      rw [e_X12_patchRows_32]
      unfold b_X12_patchRows_32
      repeat' (with_reducible first
        | exact ph_none
        | exact ph_some
        | refine ph_gI (by first | decide | omega) (fun _ => ?_)
        | refine ph_gCp (by first | decide | omega) (fun _ => ?_)
        | refine ph_gB (by first | decide | omega) (fun _ => ?_)
        | refine ph_gR (by first | decide | omega) (fun _ => ?_)
        | refine ph_gv (fun _ => ?_)
        | refine ph_gg (fun _ => ?_)
        | refine ph_gc ?_ (fun _ _ => ?_)
        | refine ph_ite (fun _ => ?_) (fun _ => ?_)
        | exact h23 _ _ _ _ _ _ _ _ _
        | exact h103 _ _ _ _ _ _ _ _ _ _ _
        | exact h189 _ _ _ _ _ _ _ _ _ _ _
        | exact (kr_X12_areEqual _).1 _ _ _ _ _ _
        | exact (kr_X12_childAt _).1 _ _ _ _ _)
    · intro _ _ _ _ _ _ _ _ _ _ _
      rw [e_X12_patchRows_103]
      unfold b_X12_patchRows_103
      repeat' (with_reducible first
        | exact ph_none
        | exact ph_some
        | refine ph_gI (by first | decide | omega) (fun _ => ?_)
        | refine ph_gCp (by first | decide | omega) (fun _ => ?_)
        | refine ph_gB (by first | decide | omega) (fun _ => ?_)
        | refine ph_gR (by first | decide | omega) (fun _ => ?_)
        | refine ph_gv (fun _ => ?_)
        | refine ph_gg (fun _ => ?_)
        | refine ph_gc ?_ (fun _ _ => ?_)
        | refine ph_ite (fun _ => ?_) (fun _ => ?_)
        | exact h145 _ _ _ _ _ _ _ _ _ _ _)
    · intro _ _ _ _ _ _ _ _ _ _ _
      rw [e_X12_patchRows_145]
      unfold b_X12_patchRows_145
      repeat' (with_reducible first
        | exact ph_none
        | exact ph_some
        | refine ph_gI (by first | decide | omega) (fun _ => ?_)
        | refine ph_gCp (by first | decide | omega) (fun _ => ?_)
        | refine ph_gB (by first | decide | omega) (fun _ => ?_)
        | refine ph_gR (by first | decide | omega) (fun _ => ?_)
        | refine ph_gv (fun _ => ?_)
        | refine ph_gg (fun _ => ?_)
        | refine ph_gc ?_ (fun _ _ => ?_)
        | refine ph_ite (fun _ => ?_) (fun _ => ?_)
        | exact h189 _ _ _ _ _ _ _ _ _ _ _)
    · intro _ _ _ _ _ _ _ _ _ _ _
      rw [e_X12_patchRows_189]
      unfold b_X12_patchRows_189
      repeat' (with_reducible first
        | exact ph_none
        | exact ph_some
        | refine ph_gI (by first | decide | omega) (fun _ => ?_)
        | refine ph_gCp (by first | decide | omega) (fun _ => ?_)
        | refine ph_gB (by first | decide | omega) (fun _ => ?_)
        | refine ph_gR (by first | decide | omega) (fun _ => ?_)
        | refine ph_gv (fun _ => ?_)
        | refine ph_gg (fun _ => ?_)
        | refine ph_gc ?_ (fun _ _ => ?_)
        | refine ph_ite (fun _ => ?_) (fun _ => ?_)
        | exact h32 _ _ _ _ _ _ _ _ _ _)
    · intro _ _ _ _ _ _ _ _ _
      rw [e_X12_patchRows_219]
      unfold b_X12_patchRows_219
      repeat' (with_reducible first
        | exact ph_none
        | exact ph_some
        | refine ph_gI (by first | decide | omega) (fun _ => ?_)
        | refine ph_gCp (by first | decide | omega) (fun _ => ?_)
        | refine ph_gB (by first | decide | omega) (fun _ => ?_)
        | refine ph_gR (by first | decide | omega) (fun _ => ?_)
        | refine ph_gv (fun _ => ?_)
        | refine ph_gg (fun _ => ?_)
        | refine ph_gc ?_ (fun _ _ => ?_)
        | refine ph_ite (fun _ => ?_) (fun _ => ?_)
        | exact h219 _ _ _ _ _ _ _ _ _
        | exact h254 _ _ _ _ _ _ _ _ _ _)
    · intro _ _ _ _ _ _ _ _ _ _
      rw [e_X12_patchRows_254]
      unfold b_X12_patchRows_254
      repeat' (with_reducible first
        | exact ph_none
        | exact ph_some
        | refine ph_gI (by first | decide | omega) (fun _ => ?_)
        | refine ph_gCp (by first | decide | omega) (fun _ => ?_)
        | refine ph_gB (by first | decide | omega) (fun _ => ?_)
        | refine ph_gR (by first | decide | omega) (fun _ => ?_)
        | refine ph_gv (fun _ => ?_)
        | refine ph_gg (fun _ => ?_)
        | refine ph_gc ?_ (fun _ _ => ?_)
        | refine ph_ite (fun _ => ?_) (fun _ => ?_)
        | exact h254 _ _ _ _ _ _ _ _ _ _
        | exact h368 _ _ _ _ _ _ _ _
        | exact (kr_X12_areEqual _).1 _ _ _ _ _ _
        | exact (kr_X12_childAt _).1 _ _ _ _ _)
    · intro _ _ _ _ _ _ _ _
      rw [e_X12_patchRows_368]
      unfold b_X12_patchRows_368
      repeat' (with_reducible first
        | exact ph_none
        | exact ph_some
        | refine ph_gI (by first | decide | omega) (fun _ => ?_)
        | refine ph_gCp (by first | decide | omega) (fun _ => ?_)
        | refine ph_gB (by first | decide | omega) (fun _ => ?_)
        | refine ph_gR (by first | decide | omega) (fun _ => ?_)
        | refine ph_gv (fun _ => ?_)
        | refine ph_gg (fun _ => ?_)
        | refine ph_gc ?_ (fun _ _ => ?_)
        | refine ph_ite (fun _ => ?_) (fun _ => ?_)
        | exact h368 _ _ _ _ _ _ _ _
        | exact h414 _ _ _ _ _ _ _ _
        | exact (kr_X12_childAt _).1 _ _ _ _ _
        | exact (kr_X12_ordered _).1 _ _ _ _ _ _
        | exact (kr_X12_pathOfNode _).1 _ _ _ _)
    · intro _ _ _ _ _ _ _ _
      rw [e_X12_patchRows_414]
      unfold b_X12_patchRows_414
      repeat' (with_reducible first
        | exact ph_none
        | exact ph_some
        | refine ph_gI (by first | decide | omega) (fun _ => ?_)
        | refine ph_gCp (by first | decide | omega) (fun _ => ?_)
        | refine ph_gB (by first | decide | omega) (fun _ => ?_)
        | refine ph_gR (by first | decide | omega) (fun _ => ?_)
        | refine ph_gv (fun _ => ?_)
        | refine ph_gg (fun _ => ?_)
        | refine ph_gc ?_ (fun _ _ => ?_)
        | refine ph_ite (fun _ => ?_) (fun _ => ?_)
        | exact h414 _ _ _ _ _ _ _ _
        | exact (kr_X12_addsPlace _).1 _ _ _
        | exact (kr_X12_childAt _).1 _ _ _ _ _
        | exact (kr_X12_ordered _).1 _ _ _ _ _ _
        | exact (kr_X12_pathOfNode _).1 _ _ _ _)

theorem kr_X12_patches : ∀ n : Nat, (∀ (d : Nat) (S : GS) (a1 : Int) (a2 : Int) (a3 : Int) (a4 : Int), PH 600 S (f_X12_patches n d 0 S [a1, a2, a3, a4])) ∧ (∀ (d : Nat) (S : GS) (a1 : Int) (a2 : Int) (a3 : Int) (a4 : Int), PH 600 S (f_X12_patches n d 37 S [a1, a2, a3, a4])) ∧ (∀ (d : Nat) (S : GS) (a1 : Int) (a2 : Int) (a3 : Int) (a4 : Int), PH 600 S (f_X12_patches n d 69 S [a1, a2, a3, a4]))
  | 0 => ⟨(fun _ _ _ _ _ _ => ph_none), (fun _ _ _ _ _ _ => ph_none), (fun _ _ _ _ _ _ => ph_none)⟩
  | n + 1 => by
    obtain ⟨h0, h37, h69⟩ := kr_X12_patches n
    refine ⟨?_, ?_, ?_⟩
    · intro _ _ _ _ _ _
      rw [e_X12_patches_0]
      unfold b_X12_patches_0
      repeat' (with_reducible first
        | exact ph_none
        | exact ph_some
        | refine ph_gI (by first | decide | omega) (fun _ => ?_)
        | refine ph_gCp (by first | decide | omega) (fun _ => ?_)
        | refine ph_gB (by first | decide | omega) (fun _ => ?_)
        | refine ph_gR (by first | decide | omega) (fun _ => ?_)
        | refine ph_gv (fun _ => ?_)
        | refine ph_gg (fun _ => ?_)
        | refine ph_gc ?_ (fun _ _ => ?_)
        | refine ph_ite (fun _ => ?_) (fun _ => ?_)
        | exact h37 _ _ _ _ _ _
        | exact (kr_X12_areEqual _).1 _ _ _ _ _ _
        | exact (kr_X12_kind _) _ _ _ _)
    · intro _ _ _ _ _ _
      rw [e_X12_patches_37]
      unfold b_X12_patches_37
      repeat' (with_reducible first
        | exact ph_none
        | exact ph_some
        | refine ph_gI (by first | decide | omega) (fun _ => ?_)
        | refine ph_gCp (by first | decide | omega) (fun _ => ?_)
        | refine ph_gB (by first | decide | omega) (fun _ => ?_)
        | refine ph_gR (by first | decide | omega) (fun _ => ?_)
        | refine ph_gv (fun _ => ?_)
        | refine ph_gg (fun _ => ?_)
        | refine ph_gc ?_ (fun _ _ => ?_)
        | refine ph_ite (fun _ => ?_) (fun _ => ?_)
        | exact h69 _ _ _ _ _ _
        | exact (kr_X12_kind _) _ _ _ _
        | exact (kr_X12_patchRows _).1 _ _ _ _ _ _)
    · intro _ _ _ _ _ _
      rw [e_X12_patches_69]
      unfold b_X12_patches_69
      repeat' (with_reducible first
        | exact ph_none
        | exact ph_some
        | refine ph_gI (by first | decide | omega) (fun _ => ?_)
        | refine ph_gCp (by first | decide | omega) (fun _ => ?_)
        | refine ph_gB (by first | decide | omega) (fun _ => ?_)
        | refine ph_gR (by first | decide | omega) (fun _ => ?_)
        | refine ph_gv (fun _ => ?_)
        | refine ph_gg (fun _ => ?_)
        | refine ph_gc ?_ (fun _ _ => ?_)
        | refine ph_ite (fun _ => ?_) (fun _ => ?_)
        | exact (kr_X12_ordered _).1 _ _ _ _ _ _
        | exact (kr_X12_pathOfNode _).1 _ _ _ _)

theorem kr_X12_removesKeys : ∀ n : Nat, (∀ (d : Nat) (S : GS) (a1 : Int) (a2 : Int) (a3 : Int) (a4 : Int), PH 600 S (f_X12_removesKeys n d 0 S [a1, a2, a3, a4])) ∧ (∀ (d : Nat) (S : GS) (a1 : Int) (a2 : Int) (a3 : Int) (a4 : Int) (a5 : Int) (a6 : Int), PH 600 S (f_X12_removesKeys n d 8 S [a1, a2, a3, a4, a5, a6]))
  | 0 => ⟨(fun _ _ _ _ _ _ => ph_none), (fun _ _ _ _ _ _ _ _ => ph_none)⟩
  | n + 1 => by
    obtain ⟨h0, h8⟩ := kr_X12_removesKeys n
    refine ⟨?_, ?_⟩
    · intro _ _ _ _ _ _
      rw [e_X12_removesKeys_0]
      unfold b_X12_removesKeys_0
      repeat' (with_reducible first
        | exact ph_none
        | exact ph_some
        | refine ph_gI (by first | decide | omega) (fun _ => ?_)
        | refine ph_gCp (by first | decide | omega) (fun _ => ?_)
        | refine ph_gB (by first | decide | omega) (fun _ => ?_)
        | refine ph_gR (by first | decide | omega) (fun _ => ?_)
        | refine ph_gv (fun _ => ?_)
        | refine ph_gg (fun _ => ?_)
        | refine ph_gc ?_ (fun _ _ => ?_)
        | refine ph_ite (fun _ => ?_) (fun _ => ?_)
        | exact h8 _ _ _ _ _ _ _ _)
    · intro _ _ _ _ _ _ _ _
      rw [e_X12_removesKeys_8]
      unfold b_X12_removesKeys_8
      repeat' (with_reducible first
        | exact ph_none
        | exact ph_some
        | refine ph_gI (by first | decide | omega) (fun _ => ?_)
        | refine ph_gCp (by first | decide | omega) (fun _ => ?_)
        | refine ph_gB (by first | decide | omega) (fun _ => ?_)
        | refine ph_gR (by first | decide | omega) (fun _ => ?_)
        | refine ph_gv (fun _ => ?_)
        | refine ph_gg (fun _ => ?_)
        | refine ph_gc ?_ (fun _ _ => ?_)
        | refine ph_ite (fun _ => ?_) (fun _ => ?_)
        | exact h8 _ _ _ _ _ _ _ _
        | exact (kr_X12_childLike _).1 _ _ _ _ _ _
        | exact (kr_X12_endOf _) _ _ _ _
        | exact (kr_X12_ordered _).1 _ _ _ _ _ _
        | exact (kr_X12_part _) _ _ _ _ _
        | exact (kr_X12_pathOfNode _).1 _ _ _ _)

theorem kr_X12_makesPatch : ∀ n : Nat, (∀ (d : Nat) (S : GS) (a1 : Int) (a2 : Int), PH 600 S (f_X12_makesPatch n d 0 S [a1, a2])) ∧ (∀ (d : Nat) (S : GS) (a1 : Int) (a2 : Int) (a4 : Int), PH 600 S (f_X12_makesPatch n d 65 S [a1, a2, a4]))
  | 0 => ⟨(fun _ _ _ _ => ph_none), (fun _ _ _ _ _ => ph_none)⟩
  | n + 1 => by
    obtain ⟨h0, h65⟩ := kr_X12_makesPatch n
    refine ⟨?_, ?_⟩
    · intro _ _ _ _
      rw [e_X12_makesPatch_0]
      unfold b_X12_makesPatch_0
      repeat' (with_reducible first
        | exact ph_none
        | exact ph_some
        | refine ph_gI (by first | decide | omega) (fun _ => ?_)
        | refine ph_gCp (by first | decide | omega) (fun _ => ?_)
        | refine ph_gB (by first | decide | omega) (fun _ => ?_)
        | refine ph_gR (by first | decide | omega) (fun _ => ?_)
        | refine ph_gv (fun _ => ?_)
        | refine ph_gg (fun _ => ?_)
        | refine ph_gc ?_ (fun _ _ => ?_)
        | refine ph_ite (fun _ => ?_) (fun _ => ?_)
        | exact h65 _ _ _ _ _
        | exact (kr_X12_added _).1 _ _ _ _
        | exact (kr_X12_begin _) _ _ _
        | exact (kr_X12_patches _).1 _ _ _ _ _ _
        | exact (kr_X12_removesKeys _).1 _ _ _ _ _ _)
    · intro _ _ _ _ _
      rw [e_X12_makesPatch_65]
      unfold b_X12_makesPatch_65
      repeat' (with_reducible first
        | exact ph_none
        | exact ph_some
        | refine ph_gI (by first | decide | omega) (fun _ => ?_)
        | refine ph_gCp (by first | decide | omega) (fun _ => ?_)
        | refine ph_gB (by first | decide | omega) (fun _ => ?_)
        | refine ph_gR (by first | decide | omega) (fun _ => ?_)
        | refine ph_gv (fun _ => ?_)
        | refine ph_gg (fun _ => ?_)
        | refine ph_gc ?_ (fun _ _ => ?_)
        | refine ph_ite (fun _ => ?_) (fun _ => ?_)
        | exact h65 _ _ _ _ _
        | exact (kr_X12_addsKeys _).1 _ _ _ _ _ _
        | exact (kr_X12_childLike _).1 _ _ _ _ _ _
        | exact (kr_X12_endOf _) _ _ _ _
        | exact (kr_X12_patches _).1 _ _ _ _ _ _
        | exact (kr_X12_removesKeys _).1 _ _ _ _ _ _)

theorem kr_X12_meets : ∀ n : Nat, (∀ (d : Nat) (S : GS) (a1 : Int), PH 600 S (f_X12_meets n d 0 S [a1]))
  | 0 => (fun _ _ _ => ph_none)
  | n + 1 => by
    have h0 := kr_X12_meets n
    · intro _ _ _
      rw [e_X12_meets_0]
      unfold b_X12_meets_0
      repeat' (with_reducible first
        | exact ph_none
        | exact ph_some
        | refine ph_gI (by first | decide | omega) (fun _ => ?_)
        | refine ph_gCp (by first | decide | omega) (fun _ => ?_)
        | refine ph_gB (by first | decide | omega) (fun _ => ?_)
        | refine ph_gR (by first | decide | omega) (fun _ => ?_)
        | refine ph_gv (fun _ => ?_)
        | refine ph_gg (fun _ => ?_)
        | refine ph_gc ?_ (fun _ _ => ?_)
        | refine ph_ite (fun _ => ?_) (fun _ => ?_))

theorem kr_X12_node : ∀ n : Nat, (∀ (d : Nat) (S : GS) (a1 : Int) (a2 : Int) (a3 : Int), PH 600 S (f_X12_node n d 0 S [a1, a2, a3]))
  | 0 => (fun _ _ _ _ _ => ph_none)
  | n + 1 => by
    have h0 := kr_X12_node n
    · intro _ _ _ _ _
      rw [e_X12_node_0]
      unfold b_X12_node_0
      repeat' (with_reducible first
        | exact ph_none
        | exact ph_some
        | refine ph_gI (by first | decide | omega) (fun _ => ?_)
        | refine ph_gCp (by first | decide | omega) (fun _ => ?_)
        | refine ph_gB (by first | decide | omega) (fun _ => ?_)
        | refine ph_gR (by first | decide | omega) (fun _ => ?_)
        | refine ph_gv (fun _ => ?_)
        | refine ph_gg (fun _ => ?_)
        | refine ph_gc ?_ (fun _ _ => ?_)
        | refine ph_ite (fun _ => ?_) (fun _ => ?_)
        | exact (kr_X12_deepOf _).1 _ _ _ _
        | exact (kr_X12_fails _) _ _ _ _
        | exact (kr_X12_in _) _ _ _ _ _
        | exact (kr_X12_isNode _) _ _ _ _
        | exact (kr_X12_kind _) _ _ _ _
        | exact (kr_X12_part _) _ _ _ _ _)

theorem kr_X12_onPaper : ∀ n : Nat, (∀ (d : Nat) (S : GS), PH 600 S (f_X12_onPaper n d 0 S [])) ∧ (∀ (d : Nat) (S : GS) (a1 : Int), PH 600 S (f_X12_onPaper n d 12 S [a1]))
  | 0 => ⟨(fun _ _ => ph_none), (fun _ _ _ => ph_none)⟩
  | n + 1 => by
    obtain ⟨h0, h12⟩ := kr_X12_onPaper n
    refine ⟨?_, ?_⟩
    · intro _ _
      rw [e_X12_onPaper_0]
      unfold b_X12_onPaper_0
      repeat' (with_reducible first
        | exact ph_none
        | exact ph_some
        | refine ph_gI (by first | decide | omega) (fun _ => ?_)
        | refine ph_gCp (by first | decide | omega) (fun _ => ?_)
        | refine ph_gB (by first | decide | omega) (fun _ => ?_)
        | refine ph_gR (by first | decide | omega) (fun _ => ?_)
        | refine ph_gv (fun _ => ?_)
        | refine ph_gg (fun _ => ?_)
        | refine ph_gc ?_ (fun _ _ => ?_)
        | refine ph_ite (fun _ => ?_) (fun _ => ?_)
        | exact h12 _ _ _)
    · intro _ _ _
      rw [e_X12_onPaper_12]
      unfold b_X12_onPaper_12
      repeat' (with_reducible first
        | exact ph_none
        | exact ph_some
        | refine ph_gI (by first | decide | omega) (fun _ => ?_)
        | refine ph_gCp (by first | decide | omega) (fun _ => ?_)
        | refine ph_gB (by first | decide | omega) (fun _ => ?_)
        | refine ph_gR (by first | decide | omega) (fun _ => ?_)
        | refine ph_gv (fun _ => ?_)
        | refine ph_gg (fun _ => ?_)
        | refine ph_gc ?_ (fun _ _ => ?_)
        | refine ph_ite (fun _ => ?_) (fun _ => ?_)
        | exact h12 _ _ _)

theorem kr_X12_paper : ∀ n : Nat, (∀ (d : Nat) (S : GS) (a1 : Int) (a2 : Int), PH 600 S (f_X12_paper n d 0 S [a1, a2])) ∧ (∀ (d : Nat) (S : GS) (a1 : Int) (a2 : Int) (s0 : Int), PH 600 S (f_X12_paper n d 45 S [a1, a2, s0])) ∧ (∀ (d : Nat) (S : GS) (a1 : Int) (a2 : Int) (a3 : Int) (a5 : Int), PH 600 S (f_X12_paper n d 59 S [a1, a2, a3, a5]))
  | 0 => ⟨(fun _ _ _ _ => ph_none), (fun _ _ _ _ _ => ph_none), (fun _ _ _ _ _ _ => ph_none)⟩
  | n + 1 => by
    obtain ⟨h0, h45, h59⟩ := kr_X12_paper n
    refine ⟨?_, ?_, ?_⟩
    · intro _ _ _ _
      rw [e_X12_paper_0]
      unfold b_X12_paper_0
      repeat' (with_reducible first
        | exact ph_none
        | exact ph_some
        | refine ph_gI (by first | decide | omega) (fun _ => ?_)
        | refine ph_gCp (by first | decide | omega) (fun _ => ?_)
        | refine ph_gB (by first | decide | omega) (fun _ => ?_)
        | refine ph_gR (by first | decide | omega) (fun _ => ?_)
        | refine ph_gv (fun _ => ?_)
        | refine ph_gg (fun _ => ?_)
        | refine ph_gc ?_ (fun _ _ => ?_)
        | refine ph_ite (fun _ => ?_) (fun _ => ?_)
        | exact h45 _ _ _ _ _
        | exact (kr_X12_fails _) _ _ _ _
        | exact (kr_X12_in _) _ _ _ _ _)
    · intro _ _ _ _ _
      rw [e_X12_paper_45]
      unfold b_X12_paper_45
      repeat' (with_reducible first
        | exact ph_none
        | exact ph_some
        | refine ph_gI (by first | decide | omega) (fun _ => ?_)
        | refine ph_gCp (by first | decide | omega) (fun _ => ?_)
        | refine ph_gB (by first | decide | omega) (fun _ => ?_)
        | refine ph_gR (by first | decide | omega) (fun _ => ?_)
        | refine ph_gv (fun _ => ?_)
        | refine ph_gg (fun _ => ?_)
        | refine ph_gc ?_ (fun _ _ => ?_)
        | refine ph_ite (fun _ => ?_) (fun _ => ?_)
        | exact h59 _ _ _ _ _ _
        | exact (kr_X12_fails _) _ _ _ _)
    · intro _ _ _ _ _ _
      rw [e_X12_paper_59]
      unfold b_X12_paper_59
      repeat' (with_reducible first
        | exact ph_none
        | exact ph_some
        | refine ph_gI (by first | decide | omega) (fun _ => ?_)
        | refine ph_gCp (by first | decide | omega) (fun _ => ?_)
        | refine ph_gB (by first | decide | omega) (fun _ => ?_)
        | refine ph_gR (by first | decide | omega) (fun _ => ?_)
        | refine ph_gv (fun _ => ?_)
        | refine ph_gg (fun _ => ?_)
        | refine ph_gc ?_ (fun _ _ => ?_)
        | refine ph_ite (fun _ => ?_) (fun _ => ?_)
        | exact h59 _ _ _ _ _ _)

theorem kr_X12_patch : ∀ n : Nat, (∀ (d : Nat) (S : GS) (a1 : Int) (a2 : Int), PH 600 S (f_X12_patch n d 0 S [a1, a2])) ∧ (∀ (d : Nat) (S : GS) (a1 : Int) (a2 : Int) (s0 : Int), PH 600 S (f_X12_patch n d 22 S [a1, a2, s0])) ∧ (∀ (d : Nat) (S : GS) (s0 : Int), PH 600 S (f_X12_patch n d 68 S [s0]))
  | 0 => ⟨(fun _ _ _ _ => ph_none), (fun _ _ _ _ _ => ph_none), (fun _ _ _ => ph_none)⟩
  | n + 1 => by
    obtain ⟨h0, h22, h68⟩ := kr_X12_patch n
    refine ⟨?_, ?_, ?_⟩
    · intro _ _ _ _
      rw [e_X12_patch_0]
      unfold b_X12_patch_0
      repeat' (with_reducible first
        | exact ph_none
        | exact ph_some
        | refine ph_gI (by first | decide | omega) (fun _ => ?_)
        | refine ph_gCp (by first | decide | omega) (fun _ => ?_)
        | refine ph_gB (by first | decide | omega) (fun _ => ?_)
        | refine ph_gR (by first | decide | omega) (fun _ => ?_)
        | refine ph_gv (fun _ => ?_)
        | refine ph_gg (fun _ => ?_)
        | refine ph_gc ?_ (fun _ _ => ?_)
        | refine ph_ite (fun _ => ?_) (fun _ => ?_)
        | exact h22 _ _ _ _ _
        | exact (kr_X12_isDoc _) _ _ _)
    · intro _ _ _ _ _
      rw [e_X12_patch_22]
      unfold b_X12_patch_22
      repeat' (with_reducible first
        | exact ph_none
        | exact ph_some
        | refine ph_gI (by first | decide | omega) (fun _ => ?_)
        | refine ph_gCp (by first | decide | omega) (fun _ => ?_)
        | refine ph_gB (by first | decide | omega) (fun _ => ?_)
        | refine ph_gR (by first | decide | omega) (fun _ => ?_)
        | refine ph_gv (fun _ => ?_)
        | refine ph_gg (fun _ => ?_)
        | refine ph_gc ?_ (fun _ _ => ?_)
        | refine ph_ite (fun _ => ?_) (fun _ => ?_)
        | exact h68 _ _ _
        | exact (kr_X12_fails _) _ _ _ _
        | exact (kr_X12_isWhole _) _ _ _
        | exact (kr_X12_makesPatch _).1 _ _ _ _)
    · intro _ _ _
      rw [e_X12_patch_68]
      unfold b_X12_patch_68
      repeat' (with_reducible first
        | exact ph_none
        | exact ph_some
        | refine ph_gI (by first | decide | omega) (fun _ => ?_)
        | refine ph_gCp (by first | decide | omega) (fun _ => ?_)
        | refine ph_gB (by first | decide | omega) (fun _ => ?_)
        | refine ph_gR (by first | decide | omega) (fun _ => ?_)
        | refine ph_gv (fun _ => ?_)
        | refine ph_gg (fun _ => ?_)
        | refine ph_gc ?_ (fun _ _ => ?_)
        | refine ph_ite (fun _ => ?_) (fun _ => ?_)
        | exact (kr_X12_fails _) _ _ _ _
        | exact (kr_X12_keeps _).1 _ _ _)

theorem kr_X12_print : ∀ n : Nat, (∀ (d : Nat) (S : GS) (a1 : Int) (a2 : Int), PH 600 S (f_X12_print n d 0 S [a1, a2]))
  | 0 => (fun _ _ _ _ => ph_none)
  | n + 1 => by
    have h0 := kr_X12_print n
    · intro _ _ _ _
      rw [e_X12_print_0]
      unfold b_X12_print_0
      repeat' (with_reducible first
        | exact ph_none
        | exact ph_some
        | refine ph_gI (by first | decide | omega) (fun _ => ?_)
        | refine ph_gCp (by first | decide | omega) (fun _ => ?_)
        | refine ph_gB (by first | decide | omega) (fun _ => ?_)
        | refine ph_gR (by first | decide | omega) (fun _ => ?_)
        | refine ph_gv (fun _ => ?_)
        | refine ph_gg (fun _ => ?_)
        | refine ph_gc ?_ (fun _ _ => ?_)
        | refine ph_ite (fun _ => ?_) (fun _ => ?_)
        | exact (kr_X12_fails _) _ _ _ _
        | exact (kr_X12_in _) _ _ _ _ _
        | exact (kr_X12_isDoc _) _ _ _
        | exact (kr_X12_onPaper _).1 _ _
        | exact (kr_X12_writes _).1 _ _ _ _ _ _)

theorem kr_X12_put : ∀ n : Nat, (∀ (d : Nat) (S : GS) (a1 : Int) (a2 : Int), PH 600 S (f_X12_put n d 0 S [a1, a2])) ∧ (∀ (d : Nat) (S : GS) (a1 : Int) (a2 : Int) (s0 : Int), PH 600 S (f_X12_put n d 22 S [a1, a2, s0])) ∧ (∀ (d : Nat) (S : GS) (s0 : Int), PH 600 S (f_X12_put n d 69 S [s0]))
  | 0 => ⟨(fun _ _ _ _ => ph_none), (fun _ _ _ _ _ => ph_none), (fun _ _ _ => ph_none)⟩
  | n + 1 => by
    obtain ⟨h0, h22, h69⟩ := kr_X12_put n
    refine ⟨?_, ?_, ?_⟩
    · intro _ _ _ _
      rw [e_X12_put_0]
      unfold b_X12_put_0
      repeat' (with_reducible first
        | exact ph_none
        | exact ph_some
        | refine ph_gI (by first | decide | omega) (fun _ => ?_)
        | refine ph_gCp (by first | decide | omega) (fun _ => ?_)
        | refine ph_gB (by first | decide | omega) (fun _ => ?_)
        | refine ph_gR (by first | decide | omega) (fun _ => ?_)
        | refine ph_gv (fun _ => ?_)
        | refine ph_gg (fun _ => ?_)
        | refine ph_gc ?_ (fun _ _ => ?_)
        | refine ph_ite (fun _ => ?_) (fun _ => ?_)
        | exact h22 _ _ _ _ _
        | exact (kr_X12_isDoc _) _ _ _)
    · intro _ _ _ _ _
      rw [e_X12_put_22]
      unfold b_X12_put_22
      repeat' (with_reducible first
        | exact ph_none
        | exact ph_some
        | refine ph_gI (by first | decide | omega) (fun _ => ?_)
        | refine ph_gCp (by first | decide | omega) (fun _ => ?_)
        | refine ph_gB (by first | decide | omega) (fun _ => ?_)
        | refine ph_gR (by first | decide | omega) (fun _ => ?_)
        | refine ph_gv (fun _ => ?_)
        | refine ph_gg (fun _ => ?_)
        | refine ph_gc ?_ (fun _ _ => ?_)
        | refine ph_ite (fun _ => ?_) (fun _ => ?_)
        | exact h69 _ _ _
        | exact (kr_X12_canPut _).1 _ _ _ _ _ _
        | exact (kr_X12_fails _) _ _ _ _
        | exact (kr_X12_isPath _).1 _ _
        | exact (kr_X12_pathOfPage _).1 _ _)
    · intro _ _ _
      rw [e_X12_put_69]
      unfold b_X12_put_69
      repeat' (with_reducible first
        | exact ph_none
        | exact ph_some
        | refine ph_gI (by first | decide | omega) (fun _ => ?_)
        | refine ph_gCp (by first | decide | omega) (fun _ => ?_)
        | refine ph_gB (by first | decide | omega) (fun _ => ?_)
        | refine ph_gR (by first | decide | omega) (fun _ => ?_)
        | refine ph_gv (fun _ => ?_)
        | refine ph_gg (fun _ => ?_)
        | refine ph_gc ?_ (fun _ _ => ?_)
        | refine ph_ite (fun _ => ?_) (fun _ => ?_)
        | exact (kr_X12_fails _) _ _ _ _
        | exact (kr_X12_keeps _).1 _ _ _)

theorem kr_X12_quarrel : ∀ n : Nat, (∀ (d : Nat) (S : GS) (a1 : Int), PH 600 S (f_X12_quarrel n d 0 S [a1])) ∧ (∀ (d : Nat) (S : GS) (a1 : Int) (a2 : Int), PH 600 S (f_X12_quarrel n d 35 S [a1, a2]))
  | 0 => ⟨(fun _ _ _ => ph_none), (fun _ _ _ _ => ph_none)⟩
  | n + 1 => by
    obtain ⟨h0, h35⟩ := kr_X12_quarrel n
    refine ⟨?_, ?_⟩
    · intro _ _ _
      rw [e_X12_quarrel_0]
      unfold b_X12_quarrel_0
      repeat' (with_reducible first
        | exact ph_none
        | exact ph_some
        | refine ph_gI (by first | decide | omega) (fun _ => ?_)
        | refine ph_gCp (by first | decide | omega) (fun _ => ?_)
        | refine ph_gB (by first | decide | omega) (fun _ => ?_)
        | refine ph_gR (by first | decide | omega) (fun _ => ?_)
        | refine ph_gv (fun _ => ?_)
        | refine ph_gg (fun _ => ?_)
        | refine ph_gc ?_ (fun _ _ => ?_)
        | refine ph_ite (fun _ => ?_) (fun _ => ?_)
        | exact h35 _ _ _ _
        | exact (kr_X12_fails _) _ _ _ _
        | exact (kr_X12_in _) _ _ _ _ _)
    · intro _ _ _ _
      rw [e_X12_quarrel_35]
      unfold b_X12_quarrel_35
      repeat' (with_reducible first
        | exact ph_none
        | exact ph_some
        | refine ph_gI (by first | decide | omega) (fun _ => ?_)
        | refine ph_gCp (by first | decide | omega) (fun _ => ?_)
        | refine ph_gB (by first | decide | omega) (fun _ => ?_)
        | refine ph_gR (by first | decide | omega) (fun _ => ?_)
        | refine ph_gv (fun _ => ?_)
        | refine ph_gg (fun _ => ?_)
        | refine ph_gc ?_ (fun _ _ => ?_)
        | refine ph_ite (fun _ => ?_) (fun _ => ?_)
        | exact h35 _ _ _ _
        | exact (kr_X12_onPaper _).1 _ _
        | exact (kr_X12_puts _) _ _ _ _)

