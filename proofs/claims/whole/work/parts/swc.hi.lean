/-! CELLS that the reference never touches -/
theorem kr_X12_asksOf : ∀ n : Nat, (∀ (d : Nat) (S : GS) (a1 : Int) (a2 : Int), PH 600 S (f_X12_asksOf n d 0 S [a1, a2]))
  | 0 => (fun _ _ _ _ => ph_none)
  | n + 1 => by
    have h0 := kr_X12_asksOf n
    · intro _ _ _ _
      rw [e_X12_asksOf_0]
      unfold b_X12_asksOf_0
      repeat' (with_reducible first
        | exact ph_none
        | exact ph_some
        | refine ph_gI (by first | decide | omega) (fun _ => ?_)
        | refine ph_gCp (by first | decide | omega) (fun _ => ?_)
        | refine ph_gB (by first | decide | omega) (fun _ => ?_)
        | refine ph_gR (by first | decide | omega) (fun _ => ?_)
        | refine ph_gv (fun _ => ?_)
        | refine ph_gg (fun _ => ?_)
        | refine ph_gc ?_ (fun _ _ => ?_)
        | refine ph_ite (fun _ => ?_) (fun _ => ?_))

theorem kr_X12_asksRef : ∀ n : Nat, (∀ (d : Nat) (S : GS) (a1 : Int) (a2 : Int) (a3 : Int), PH 600 S (f_X12_asksRef n d 0 S [a1, a2, a3])) ∧ (∀ (d : Nat) (S : GS) (a1 : Int) (a2 : Int) (a3 : Int) (s0 : Int), PH 600 S (f_X12_asksRef n d 29 S [a1, a2, a3, s0])) ∧ (∀ (d : Nat) (S : GS) (a1 : Int) (a3 : Int) (a5 : Int) (a6 : Int), PH 600 S (f_X12_asksRef n d 79 S [a1, a3, a5, a6]))
  | 0 => ⟨(fun _ _ _ _ _ => ph_none), (fun _ _ _ _ _ _ => ph_none), (fun _ _ _ _ _ _ => ph_none)⟩
  | n + 1 => by
    obtain ⟨h0, h29, h79⟩ := kr_X12_asksRef n
    refine ⟨?_, ?_, ?_⟩
    · intro _ _ _ _ _
      rw [e_X12_asksRef_0]
      unfold b_X12_asksRef_0
      repeat' (with_reducible first
        | exact ph_none
        | exact ph_some
        | refine ph_gI (by first | decide | omega) (fun _ => ?_)
        | refine ph_gCp (by first | decide | omega) (fun _ => ?_)
        | refine ph_gB (by first | decide | omega) (fun _ => ?_)
        | refine ph_gR (by first | decide | omega) (fun _ => ?_)
        | refine ph_gv (fun _ => ?_)
        | refine ph_gg (fun _ => ?_)
        | refine ph_gc ?_ (fun _ _ => ?_)
        | refine ph_ite (fun _ => ?_) (fun _ => ?_)
        | exact h29 _ _ _ _ _ _
        | exact (kr_X12_childNamed _) _ _ _ _ _
        | exact (kr_X12_kind _) _ _ _ _)
    · intro _ _ _ _ _ _
      rw [e_X12_asksRef_29]
      unfold b_X12_asksRef_29
      repeat' (with_reducible first
        | exact ph_none
        | exact ph_some
        | refine ph_gI (by first | decide | omega) (fun _ => ?_)
        | refine ph_gCp (by first | decide | omega) (fun _ => ?_)
        | refine ph_gB (by first | decide | omega) (fun _ => ?_)
        | refine ph_gR (by first | decide | omega) (fun _ => ?_)
        | refine ph_gv (fun _ => ?_)
        | refine ph_gg (fun _ => ?_)
        | refine ph_gc ?_ (fun _ _ => ?_)
        | refine ph_ite (fun _ => ?_) (fun _ => ?_)
        | exact h79 _ _ _ _ _ _
        | exact (kr_X12_childByWord _).1 _ _ _ _
        | exact (kr_X12_kind _) _ _ _ _
        | exact (kr_X12_wordOfText _).1 _ _ _ _)
    · intro _ _ _ _ _ _
      rw [e_X12_asksRef_79]
      unfold b_X12_asksRef_79
      repeat' (with_reducible first
        | exact ph_none
        | exact ph_some
        | refine ph_gI (by first | decide | omega) (fun _ => ?_)
        | refine ph_gCp (by first | decide | omega) (fun _ => ?_)
        | refine ph_gB (by first | decide | omega) (fun _ => ?_)
        | refine ph_gR (by first | decide | omega) (fun _ => ?_)
        | refine ph_gv (fun _ => ?_)
        | refine ph_gg (fun _ => ?_)
        | refine ph_gc ?_ (fun _ _ => ?_)
        | refine ph_ite (fun _ => ?_) (fun _ => ?_)
        | exact h79 _ _ _ _ _ _
        | exact (kr_X12_asksOf _) _ _ _ _
        | exact (kr_X12_complains _) _ _ _ _)

theorem kr_X12_asksNext : ∀ n : Nat, (∀ (d : Nat) (S : GS) (a1 : Int) (a2 : Int) (a3 : Int) (a4 : Int), PH 600 S (f_X12_asksNext n d 0 S [a1, a2, a3, a4])) ∧ (∀ (d : Nat) (S : GS) (a1 : Int) (a2 : Int) (a3 : Int) (a4 : Int) (a5 : Int) (s0 : Int), PH 600 S (f_X12_asksNext n d 23 S [a1, a2, a3, a4, a5, s0])) ∧ (∀ (d : Nat) (S : GS) (a1 : Int) (a2 : Int) (a3 : Int) (a4 : Int) (a6 : Int) (s0 : Int) (s1 : Int), PH 600 S (f_X12_asksNext n d 56 S [a1, a2, a3, a4, a6, s0, s1])) ∧ (∀ (d : Nat) (S : GS) (a1 : Int) (a2 : Int) (a3 : Int) (a4 : Int) (a6 : Int) (a7 : Int), PH 600 S (f_X12_asksNext n d 76 S [a1, a2, a3, a4, a6, a7])) ∧ (∀ (d : Nat) (S : GS) (a1 : Int) (a2 : Int) (a3 : Int) (a4 : Int) (a6 : Int) (a7 : Int) (s0 : Int), PH 600 S (f_X12_asksNext n d 113 S [a1, a2, a3, a4, a6, a7, s0])) ∧ (∀ (d : Nat) (S : GS) (a1 : Int) (a2 : Int) (a3 : Int) (a4 : Int) (a6 : Int) (a7 : Int) (a8 : Int) (a9 : Int), PH 600 S (f_X12_asksNext n d 231 S [a1, a2, a3, a4, a6, a7, a8, a9]))
  | 0 => ⟨(fun _ _ _ _ _ _ => ph_none), (fun _ _ _ _ _ _ _ _ => ph_none), (fun _ _ _ _ _ _ _ _ _ => ph_none), (fun _ _ _ _ _ _ _ _ => ph_none), (fun _ _ _ _ _ _ _ _ _ => ph_none), (fun _ _ _ _ _ _ _ _ _ _ => ph_none)⟩
  | n + 1 => by
    obtain ⟨h0, h23, h56, h76, h113, h231⟩ := kr_X12_asksNext n
    refine ⟨?_, ?_, ?_, ?_, ?_, ?_⟩
    · intro _ _ _ _ _ _
      rw [e_X12_asksNext_0]
      unfold b_X12_asksNext_0
      repeat' (with_reducible first
        | exact ph_none
        | exact ph_some
        | refine ph_gI (by first | decide | omega) (fun _ => ?_)
        | refine ph_gCp (by first | decide | omega) (fun _ => ?_)
        | refine ph_gB (by first | decide | omega) (fun _ => ?_)
        | refine ph_gR (by first | decide | omega) (fun _ => ?_)
        | refine ph_gv (fun _ => ?_)
        | refine ph_gg (fun _ => ?_)
        | refine ph_gc ?_ (fun _ _ => ?_)
        | refine ph_ite (fun _ => ?_) (fun _ => ?_)
        | exact h23 _ _ _ _ _ _ _ _
        | exact (kr_X12_kind _) _ _ _ _)
    · intro _ _ _ _ _ _ _ _
      rw [e_X12_asksNext_23]
      unfold b_X12_asksNext_23
      repeat' (with_reducible first
        | exact ph_none
        | exact ph_some
        | refine ph_gI (by first | decide | omega) (fun _ => ?_)
        | refine ph_gCp (by first | decide | omega) (fun _ => ?_)
        | refine ph_gB (by first | decide | omega) (fun _ => ?_)
        | refine ph_gR (by first | decide | omega) (fun _ => ?_)
        | refine ph_gv (fun _ => ?_)
        | refine ph_gg (fun _ => ?_)
        | refine ph_gc ?_ (fun _ _ => ?_)
        | refine ph_ite (fun _ => ?_) (fun _ => ?_)
        | exact h56 _ _ _ _ _ _ _ _ _
        | exact h76 _ _ _ _ _ _ _ _
        | exact (kr_X12_part _) _ _ _ _ _)
    · intro _ _ _ _ _ _ _ _ _
      rw [e_X12_asksNext_56]
      unfold b_X12_asksNext_56
      repeat' (with_reducible first
        | exact ph_none
        | exact ph_some
        | refine ph_gI (by first | decide | omega) (fun _ => ?_)
        | refine ph_gCp (by first | decide | omega) (fun _ => ?_)
        | refine ph_gB (by first | decide | omega) (fun _ => ?_)
        | refine ph_gR (by first | decide | omega) (fun _ => ?_)
        | refine ph_gv (fun _ => ?_)
        | refine ph_gg (fun _ => ?_)
        | refine ph_gc ?_ (fun _ _ => ?_)
        | refine ph_ite (fun _ => ?_) (fun _ => ?_)
        | exact h76 _ _ _ _ _ _ _ _
        | exact (kr_X12_part _) _ _ _ _ _)
    · intro _ _ _ _ _ _ _ _
      rw [e_X12_asksNext_76]
      unfold b_X12_asksNext_76
      repeat' (with_reducible first
        | exact ph_none
        | exact ph_some
        | refine ph_gI (by first | decide | omega) (fun _ => ?_)
        | refine ph_gCp (by first | decide | omega) (fun _ => ?_)
        | refine ph_gB (by first | decide | omega) (fun _ => ?_)
        | refine ph_gR (by first | decide | omega) (fun _ => ?_)
        | refine ph_gv (fun _ => ?_)
        | refine ph_gg (fun _ => ?_)
        | refine ph_gc ?_ (fun _ _ => ?_)
        | refine ph_ite (fun _ => ?_) (fun _ => ?_)
        | exact h113 _ _ _ _ _ _ _ _ _
        | exact (kr_X12_childAt _).1 _ _ _ _ _)
    · intro _ _ _ _ _ _ _ _ _
      rw [e_X12_asksNext_113]
      unfold b_X12_asksNext_113
      repeat' (with_reducible first
        | exact ph_none
        | exact ph_some
        | refine ph_gI (by first | decide | omega) (fun _ => ?_)
        | refine ph_gCp (by first | decide | omega) (fun _ => ?_)
        | refine ph_gB (by first | decide | omega) (fun _ => ?_)
        | refine ph_gR (by first | decide | omega) (fun _ => ?_)
        | refine ph_gv (fun _ => ?_)
        | refine ph_gg (fun _ => ?_)
        | refine ph_gc ?_ (fun _ _ => ?_)
        | refine ph_ite (fun _ => ?_) (fun _ => ?_)
        | exact h231 _ _ _ _ _ _ _ _ _ _
        | exact (kr_X12_childAt _).1 _ _ _ _ _
        | exact (kr_X12_childLike _).1 _ _ _ _ _ _
        | exact (kr_X12_childNamed _) _ _ _ _ _)
    · intro _ _ _ _ _ _ _ _ _ _
      rw [e_X12_asksNext_231]
      unfold b_X12_asksNext_231
      repeat' (with_reducible first
        | exact ph_none
        | exact ph_some
        | refine ph_gI (by first | decide | omega) (fun _ => ?_)
        | refine ph_gCp (by first | decide | omega) (fun _ => ?_)
        | refine ph_gB (by first | decide | omega) (fun _ => ?_)
        | refine ph_gR (by first | decide | omega) (fun _ => ?_)
        | refine ph_gv (fun _ => ?_)
        | refine ph_gg (fun _ => ?_)
        | refine ph_gc ?_ (fun _ _ => ?_)
        | refine ph_ite (fun _ => ?_) (fun _ => ?_)
        | exact h76 _ _ _ _ _ _ _ _
        | exact (kr_X12_asksOf _) _ _ _ _)

theorem kr_X12_asksMore : ∀ n : Nat, (∀ (d : Nat) (S : GS) (a1 : Int), PH 600 S (f_X12_asksMore n d 0 S [a1])) ∧ (∀ (d : Nat) (S : GS) (a1 : Int), PH 600 S (f_X12_asksMore n d 14 S [a1])) ∧ (∀ (d : Nat) (S : GS) (a1 : Int), PH 600 S (f_X12_asksMore n d 64 S [a1])) ∧ (∀ (d : Nat) (S : GS) (a1 : Int) (a2 : Int) (a3 : Int), PH 600 S (f_X12_asksMore n d 120 S [a1, a2, a3])) ∧ (∀ (d : Nat) (S : GS) (a1 : Int) (a2 : Int) (a3 : Int), PH 600 S (f_X12_asksMore n d 135 S [a1, a2, a3])) ∧ (∀ (d : Nat) (S : GS) (a1 : Int) (a2 : Int) (a3 : Int), PH 600 S (f_X12_asksMore n d 176 S [a1, a2, a3])) ∧ (∀ (d : Nat) (S : GS) (a1 : Int) (a2 : Int) (a3 : Int), PH 600 S (f_X12_asksMore n d 204 S [a1, a2, a3])) ∧ (∀ (d : Nat) (S : GS) (a1 : Int) (a2 : Int), PH 600 S (f_X12_asksMore n d 242 S [a1, a2])) ∧ (∀ (d : Nat) (S : GS) (a1 : Int), PH 600 S (f_X12_asksMore n d 269 S [a1]))
  | 0 => ⟨(fun _ _ _ => ph_none), (fun _ _ _ => ph_none), (fun _ _ _ => ph_none), (fun _ _ _ _ _ => ph_none), (fun _ _ _ _ _ => ph_none), (fun _ _ _ _ _ => ph_none), (fun _ _ _ _ _ => ph_none), (fun _ _ _ _ => ph_none), (fun _ _ _ => ph_none)⟩
  | n + 1 => by
    obtain ⟨h0, h14, h64, h120, h135, h176, h204, h242, h269⟩ := kr_X12_asksMore n
    refine ⟨?_, ?_, ?_, ?_, ?_, ?_, ?_, ?_, ?_⟩
    · intro _ _ _
      rw [e_X12_asksMore_0]
      unfold b_X12_asksMore_0
      repeat' (with_reducible first
        | exact ph_none
        | exact ph_some
        | refine ph_gI (by first | decide | omega) (fun _ => ?_)
        | refine ph_gCp (by first | decide | omega) (fun _ => ?_)
        | refine ph_gB (by first | decide | omega) (fun _ => ?_)
        | refine ph_gR (by first | decide | omega) (fun _ => ?_)
        | refine ph_gv (fun _ => ?_)
        | refine ph_gg (fun _ => ?_)
        | refine ph_gc ?_ (fun _ _ => ?_)
        | refine ph_ite (fun _ => ?_) (fun _ => ?_)
        | exact h14 _ _ _
        | exact (kr_X12_hears _).1 _ _ _)
    · intro _ _ _
      rw [e_X12_asksMore_14]
      unfold b_X12_asksMore_14
      repeat' (with_reducible first
        | exact ph_none
        | exact ph_some
        | refine ph_gI (by first | decide | omega) (fun _ => ?_)
        | refine ph_gCp (by first | decide | omega) (fun _ => ?_)
        | refine ph_gB (by first | decide | omega) (fun _ => ?_)
        | refine ph_gR (by first | decide | omega) (fun _ => ?_)
        | refine ph_gv (fun _ => ?_)
        | refine ph_gg (fun _ => ?_)
        | refine ph_gc ?_ (fun _ _ => ?_)
        | refine ph_ite (fun _ => ?_) (fun _ => ?_)
        | exact h64 _ _ _
        | exact (kr_X12_complains _) _ _ _ _
        | exact (kr_X12_kind _) _ _ _ _
        | exact (kr_X12_part _) _ _ _ _ _)
    · intro _ _ _
      rw [e_X12_asksMore_64]
      unfold b_X12_asksMore_64
      repeat' (with_reducible first
        | exact ph_none
        | exact ph_some
        | refine ph_gI (by first | decide | omega) (fun _ => ?_)
        | refine ph_gCp (by first | decide | omega) (fun _ => ?_)
        | refine ph_gB (by first | decide | omega) (fun _ => ?_)
        | refine ph_gR (by first | decide | omega) (fun _ => ?_)
        | refine ph_gv (fun _ => ?_)
        | refine ph_gg (fun _ => ?_)
        | refine ph_gc ?_ (fun _ _ => ?_)
        | refine ph_ite (fun _ => ?_) (fun _ => ?_)
        | exact h120 _ _ _ _ _
        | exact h135 _ _ _ _ _
        | exact (kr_X12_childNamed _) _ _ _ _ _)
    · intro _ _ _ _ _
      rw [e_X12_asksMore_120]
      unfold b_X12_asksMore_120
      repeat' (with_reducible first
        | exact ph_none
        | exact ph_some
        | refine ph_gI (by first | decide | omega) (fun _ => ?_)
        | refine ph_gCp (by first | decide | omega) (fun _ => ?_)
        | refine ph_gB (by first | decide | omega) (fun _ => ?_)
        | refine ph_gR (by first | decide | omega) (fun _ => ?_)
        | refine ph_gv (fun _ => ?_)
        | refine ph_gg (fun _ => ?_)
        | refine ph_gc ?_ (fun _ _ => ?_)
        | refine ph_ite (fun _ => ?_) (fun _ => ?_)
        | exact h269 _ _ _
        | exact (kr_X12_says_ _).1 _ _ _ _ _)
    · intro _ _ _ _ _
      rw [e_X12_asksMore_135]
      unfold b_X12_asksMore_135
      repeat' (with_reducible first
        | exact ph_none
        | exact ph_some
        | refine ph_gI (by first | decide | omega) (fun _ => ?_)
        | refine ph_gCp (by first | decide | omega) (fun _ => ?_)
        | refine ph_gB (by first | decide | omega) (fun _ => ?_)
        | refine ph_gR (by first | decide | omega) (fun _ => ?_)
        | refine ph_gv (fun _ => ?_)
        | refine ph_gg (fun _ => ?_)
        | refine ph_gc ?_ (fun _ _ => ?_)
        | refine ph_ite (fun _ => ?_) (fun _ => ?_)
        | exact h176 _ _ _ _ _
        | exact (kr_X12_asksOf _) _ _ _ _)
    · intro _ _ _ _ _
      rw [e_X12_asksMore_176]
      unfold b_X12_asksMore_176
      repeat' (with_reducible first
        | exact ph_none
        | exact ph_some
        | refine ph_gI (by first | decide | omega) (fun _ => ?_)
        | refine ph_gCp (by first | decide | omega) (fun _ => ?_)
        | refine ph_gB (by first | decide | omega) (fun _ => ?_)
        | refine ph_gR (by first | decide | omega) (fun _ => ?_)
        | refine ph_gv (fun _ => ?_)
        | refine ph_gg (fun _ => ?_)
        | refine ph_gc ?_ (fun _ _ => ?_)
        | refine ph_ite (fun _ => ?_) (fun _ => ?_)
        | exact h204 _ _ _ _ _
        | exact h269 _ _ _
        | exact (kr_X12_asksRef _).1 _ _ _ _ _)
    · intro _ _ _ _ _
      rw [e_X12_asksMore_204]
      unfold b_X12_asksMore_204
      repeat' (with_reducible first
        | exact ph_none
        | exact ph_some
        | refine ph_gI (by first | decide | omega) (fun _ => ?_)
        | refine ph_gCp (by first | decide | omega) (fun _ => ?_)
        | refine ph_gB (by first | decide | omega) (fun _ => ?_)
        | refine ph_gR (by first | decide | omega) (fun _ => ?_)
        | refine ph_gv (fun _ => ?_)
        | refine ph_gg (fun _ => ?_)
        | refine ph_gc ?_ (fun _ _ => ?_)
        | refine ph_ite (fun _ => ?_) (fun _ => ?_)
        | exact h242 _ _ _ _
        | exact h269 _ _ _
        | exact (kr_X12_asksNext _).1 _ _ _ _ _ _
        | exact (kr_X12_complains _) _ _ _ _)
    · intro _ _ _ _
      rw [e_X12_asksMore_242]
      unfold b_X12_asksMore_242
      repeat' (with_reducible first
        | exact ph_none
        | exact ph_some
        | refine ph_gI (by first | decide | omega) (fun _ => ?_)
        | refine ph_gCp (by first | decide | omega) (fun _ => ?_)
        | refine ph_gB (by first | decide | omega) (fun _ => ?_)
        | refine ph_gR (by first | decide | omega) (fun _ => ?_)
        | refine ph_gv (fun _ => ?_)
        | refine ph_gg (fun _ => ?_)
        | refine ph_gc ?_ (fun _ _ => ?_)
        | refine ph_ite (fun _ => ?_) (fun _ => ?_)
        | exact h269 _ _ _
        | exact (kr_X12_complains _) _ _ _ _)
    · intro _ _ _
      rw [e_X12_asksMore_269]
      unfold b_X12_asksMore_269
      repeat' (with_reducible first
        | exact ph_none
        | exact ph_some
        | refine ph_gI (by first | decide | omega) (fun _ => ?_)
        | refine ph_gCp (by first | decide | omega) (fun _ => ?_)
        | refine ph_gB (by first | decide | omega) (fun _ => ?_)
        | refine ph_gR (by first | decide | omega) (fun _ => ?_)
        | refine ph_gv (fun _ => ?_)
        | refine ph_gg (fun _ => ?_)
        | refine ph_gc ?_ (fun _ _ => ?_)
        | refine ph_ite (fun _ => ?_) (fun _ => ?_)
        | exact h64 _ _ _)

theorem kr_X12_asksWhole : ∀ n : Nat, (∀ (d : Nat) (S : GS) (a1 : Int) (a2 : Int) (a3 : Int), PH 600 S (f_X12_asksWhole n d 0 S [a1, a2, a3])) ∧ (∀ (d : Nat) (S : GS) (a3 : Int), PH 600 S (f_X12_asksWhole n d 36 S [a3])) ∧ (∀ (d : Nat) (S : GS) (a3 : Int), PH 600 S (f_X12_asksWhole n d 102 S [a3]))
  | 0 => ⟨(fun _ _ _ _ _ => ph_none), (fun _ _ _ => ph_none), (fun _ _ _ => ph_none)⟩
  | n + 1 => by
    obtain ⟨h0, h36, h102⟩ := kr_X12_asksWhole n
    refine ⟨?_, ?_, ?_⟩
    · intro _ _ _ _ _
      rw [e_X12_asksWhole_0]
      unfold b_X12_asksWhole_0
      repeat' (with_reducible first
        | exact ph_none
        | exact ph_some
        | refine ph_gI (by first | decide | omega) (fun _ => ?_)
        | refine ph_gCp (by first | decide | omega) (fun _ => ?_)
        | refine ph_gB (by first | decide | omega) (fun _ => ?_)
        | refine ph_gR (by first | decide | omega) (fun _ => ?_)
        | refine ph_gv (fun _ => ?_)
        | refine ph_gg (fun _ => ?_)
        | refine ph_gc ?_ (fun _ _ => ?_)
        | refine ph_ite (fun _ => ?_) (fun _ => ?_)
        | exact h36 _ _ _
        | exact (kr_X12_asksOf _) _ _ _ _)
    · intro _ _ _
      rw [e_X12_asksWhole_36]
      unfold b_X12_asksWhole_36
      repeat' (with_reducible first
        | exact ph_none
        | exact ph_some
        | refine ph_gI (by first | decide | omega) (fun _ => ?_)
        | refine ph_gCp (by first | decide | omega) (fun _ => ?_)
        | refine ph_gB (by first | decide | omega) (fun _ => ?_)
        | refine ph_gR (by first | decide | omega) (fun _ => ?_)
        | refine ph_gv (fun _ => ?_)
        | refine ph_gg (fun _ => ?_)
        | refine ph_gc ?_ (fun _ _ => ?_)
        | refine ph_ite (fun _ => ?_) (fun _ => ?_)
        | exact h36 _ _ _
        | exact h102 _ _ _
        | exact (kr_X12_asksMore _).1 _ _ _)
    · intro _ _ _
      rw [e_X12_asksWhole_102]
      unfold b_X12_asksWhole_102
      repeat' (with_reducible first
        | exact ph_none
        | exact ph_some
        | refine ph_gI (by first | decide | omega) (fun _ => ?_)
        | refine ph_gCp (by first | decide | omega) (fun _ => ?_)
        | refine ph_gB (by first | decide | omega) (fun _ => ?_)
        | refine ph_gR (by first | decide | omega) (fun _ => ?_)
        | refine ph_gv (fun _ => ?_)
        | refine ph_gg (fun _ => ?_)
        | refine ph_gc ?_ (fun _ _ => ?_)
        | refine ph_ite (fun _ => ?_) (fun _ => ?_))

theorem kr_X12_becomes : ∀ n : Nat, (∀ (d : Nat) (S : GS) (a1 : Int) (a2 : Int), PH 600 S (f_X12_becomes n d 0 S [a1, a2])) ∧ (∀ (d : Nat) (S : GS) (a1 : Int) (a2 : Int) (a3 : Int), PH 600 S (f_X12_becomes n d 14 S [a1, a2, a3]))
  | 0 => ⟨(fun _ _ _ _ => ph_none), (fun _ _ _ _ _ => ph_none)⟩
  | n + 1 => by
    obtain ⟨h0, h14⟩ := kr_X12_becomes n
    refine ⟨?_, ?_⟩
    · intro _ _ _ _
      rw [e_X12_becomes_0]
      unfold b_X12_becomes_0
      repeat' (with_reducible first
        | exact ph_none
        | exact ph_some
        | refine ph_gI (by first | decide | omega) (fun _ => ?_)
        | refine ph_gCp (by first | decide | omega) (fun _ => ?_)
        | refine ph_gB (by first | decide | omega) (fun _ => ?_)
        | refine ph_gR (by first | decide | omega) (fun _ => ?_)
        | refine ph_gv (fun _ => ?_)
        | refine ph_gg (fun _ => ?_)
        | refine ph_gc ?_ (fun _ _ => ?_)
        | refine ph_ite (fun _ => ?_) (fun _ => ?_)
        | exact h14 _ _ _ _ _)
    · intro _ _ _ _ _
      rw [e_X12_becomes_14]
      unfold b_X12_becomes_14
      repeat' (with_reducible first
        | exact ph_none
        | exact ph_some
        | refine ph_gI (by first | decide | omega) (fun _ => ?_)
        | refine ph_gCp (by first | decide | omega) (fun _ => ?_)
        | refine ph_gB (by first | decide | omega) (fun _ => ?_)
        | refine ph_gR (by first | decide | omega) (fun _ => ?_)
        | refine ph_gv (fun _ => ?_)
        | refine ph_gg (fun _ => ?_)
        | refine ph_gc ?_ (fun _ _ => ?_)
        | refine ph_ite (fun _ => ?_) (fun _ => ?_)
        | exact h14 _ _ _ _ _
        | exact (kr_X12_at _) _ _ _ _)

theorem kr_X12_isDoc : ∀ n : Nat, (∀ (d : Nat) (S : GS) (a1 : Int), PH 600 S (f_X12_isDoc n d 0 S [a1]))
  | 0 => (fun _ _ _ => ph_none)
  | n + 1 => by
    have h0 := kr_X12_isDoc n
    · intro _ _ _
      rw [e_X12_isDoc_0]
      unfold b_X12_isDoc_0
      repeat' (with_reducible first
        | exact ph_none
        | exact ph_some
        | refine ph_gI (by first | decide | omega) (fun _ => ?_)
        | refine ph_gCp (by first | decide | omega) (fun _ => ?_)
        | refine ph_gB (by first | decide | omega) (fun _ => ?_)
        | refine ph_gR (by first | decide | omega) (fun _ => ?_)
        | refine ph_gv (fun _ => ?_)
        | refine ph_gg (fun _ => ?_)
        | refine ph_gc ?_ (fun _ _ => ?_)
        | refine ph_ite (fun _ => ?_) (fun _ => ?_)
        | exact (kr_X12_in _) _ _ _ _ _)

theorem kr_X12_fails : ∀ n : Nat, (∀ (d : Nat) (S : GS) (a1 : Int) (a2 : Int), PH 600 S (f_X12_fails n d 0 S [a1, a2]))
  | 0 => (fun _ _ _ _ => ph_none)
  | n + 1 => by
    have h0 := kr_X12_fails n
    · intro _ _ _ _
      rw [e_X12_fails_0]
      unfold b_X12_fails_0
      repeat' (with_reducible first
        | exact ph_none
        | exact ph_some
        | refine ph_gI (by first | decide | omega) (fun _ => ?_)
        | refine ph_gCp (by first | decide | omega) (fun _ => ?_)
        | refine ph_gB (by first | decide | omega) (fun _ => ?_)
        | refine ph_gR (by first | decide | omega) (fun _ => ?_)
        | refine ph_gv (fun _ => ?_)
        | refine ph_gg (fun _ => ?_)
        | refine ph_gc ?_ (fun _ _ => ?_)
        | refine ph_ite (fun _ => ?_) (fun _ => ?_))

theorem kr_X12_link : ∀ n : Nat, (∀ (d : Nat) (S : GS) (a1 : Int), PH 600 S (f_X12_link n d 0 S [a1])) ∧ (∀ (d : Nat) (S : GS) (a1 : Int) (a2 : Int) (a3 : Int), PH 600 S (f_X12_link n d 4 S [a1, a2, a3])) ∧ (∀ (d : Nat) (S : GS) (a1 : Int) (a2 : Int) (a3 : Int) (a4 : Int) (s0 : Int) (s1 : Int), PH 600 S (f_X12_link n d 45 S [a1, a2, a3, a4, s0, s1])) ∧ (∀ (d : Nat) (S : GS) (a1 : Int) (a2 : Int) (a3 : Int) (a4 : Int) (s0 : Int) (s1 : Int), PH 600 S (f_X12_link n d 85 S [a1, a2, a3, a4, s0, s1])) ∧ (∀ (d : Nat) (S : GS) (a1 : Int) (a2 : Int) (a3 : Int) (a4 : Int), PH 600 S (f_X12_link n d 112 S [a1, a2, a3, a4])) ∧ (∀ (d : Nat) (S : GS) (a1 : Int) (a2 : Int) (a3 : Int), PH 600 S (f_X12_link n d 149 S [a1, a2, a3]))
  | 0 => ⟨(fun _ _ _ => ph_none), (fun _ _ _ _ _ => ph_none), (fun _ _ _ _ _ _ _ _ => ph_none), (fun _ _ _ _ _ _ _ _ => ph_none), (fun _ _ _ _ _ _ => ph_none), (fun _ _ _ _ _ => ph_none)⟩
  | n + 1 => by
    obtain ⟨h0, h4, h45, h85, h112, h149⟩ := kr_X12_link n
    refine ⟨?_, ?_, ?_, ?_, ?_, ?_⟩
    · intro _ _ _
      rw [e_X12_link_0]
      unfold b_X12_link_0
      repeat' (with_reducible first
        | exact ph_none
        | exact ph_some
        | refine ph_gI (by first | decide | omega) (fun _ => ?_)
        | refine ph_gCp (by first | decide | omega) (fun _ => ?_)
        | refine ph_gB (by first | decide | omega) (fun _ => ?_)
        | refine ph_gR (by first | decide | omega) (fun _ => ?_)
        | refine ph_gv (fun _ => ?_)
        | refine ph_gg (fun _ => ?_)
        | refine ph_gc ?_ (fun _ _ => ?_)
        | refine ph_ite (fun _ => ?_) (fun _ => ?_)
        | exact h4 _ _ _ _ _)
    · intro _ _ _ _ _
      rw [e_X12_link_4]
      unfold b_X12_link_4
      repeat' (with_reducible first
        | exact ph_none
        | exact ph_some
        | refine ph_gI (by first | decide | omega) (fun _ => ?_)
        | refine ph_gCp (by first | decide | omega) (fun _ => ?_)
        | refine ph_gB (by first | decide | omega) (fun _ => ?_)
        | refine ph_gR (by first | decide | omega) (fun _ => ?_)
        | refine ph_gv (fun _ => ?_)
        | refine ph_gg (fun _ => ?_)
        | refine ph_gc ?_ (fun _ _ => ?_)
        | refine ph_ite (fun _ => ?_) (fun _ => ?_)
        | exact h45 _ _ _ _ _ _ _ _
        | exact (kr_X12_at _) _ _ _ _)
    · intro _ _ _ _ _ _ _ _
      rw [e_X12_link_45]
      unfold b_X12_link_45
      repeat' (with_reducible first
        | exact ph_none
        | exact ph_some
        | refine ph_gI (by first | decide | omega) (fun _ => ?_)
        | refine ph_gCp (by first | decide | omega) (fun _ => ?_)
        | refine ph_gB (by first | decide | omega) (fun _ => ?_)
        | refine ph_gR (by first | decide | omega) (fun _ => ?_)
        | refine ph_gv (fun _ => ?_)
        | refine ph_gg (fun _ => ?_)
        | refine ph_gc ?_ (fun _ _ => ?_)
        | refine ph_ite (fun _ => ?_) (fun _ => ?_)
        | exact h85 _ _ _ _ _ _ _ _
        | exact (kr_X12_part _) _ _ _ _ _)
    · intro _ _ _ _ _ _ _ _
      rw [e_X12_link_85]
      unfold b_X12_link_85
      repeat' (with_reducible first
        | exact ph_none
        | exact ph_some
        | refine ph_gI (by first | decide | omega) (fun _ => ?_)
        | refine ph_gCp (by first | decide | omega) (fun _ => ?_)
        | refine ph_gB (by first | decide | omega) (fun _ => ?_)
        | refine ph_gR (by first | decide | omega) (fun _ => ?_)
        | refine ph_gv (fun _ => ?_)
        | refine ph_gg (fun _ => ?_)
        | refine ph_gc ?_ (fun _ _ => ?_)
        | refine ph_ite (fun _ => ?_) (fun _ => ?_)
        | exact h112 _ _ _ _ _ _)
    · intro _ _ _ _ _ _
      rw [e_X12_link_112]
      unfold b_X12_link_112
      repeat' (with_reducible first
        | exact ph_none
        | exact ph_some
        | refine ph_gI (by first | decide | omega) (fun _ => ?_)
        | refine ph_gCp (by first | decide | omega) (fun _ => ?_)
        | refine ph_gB (by first | decide | omega) (fun _ => ?_)
        | refine ph_gR (by first | decide | omega) (fun _ => ?_)
        | refine ph_gv (fun _ => ?_)
        | refine ph_gg (fun _ => ?_)
        | refine ph_gc ?_ (fun _ _ => ?_)
        | refine ph_ite (fun _ => ?_) (fun _ => ?_)
        | exact h149 _ _ _ _ _)
    · intro _ _ _ _ _
      rw [e_X12_link_149]
      unfold b_X12_link_149
      repeat' (with_reducible first
        | exact ph_none
        | exact ph_some
        | refine ph_gI (by first | decide | omega) (fun _ => ?_)
        | refine ph_gCp (by first | decide | omega) (fun _ => ?_)
        | refine ph_gB (by first | decide | omega) (fun _ => ?_)
        | refine ph_gR (by first | decide | omega) (fun _ => ?_)
        | refine ph_gv (fun _ => ?_)
        | refine ph_gg (fun _ => ?_)
        | refine ph_gc ?_ (fun _ _ => ?_)
        | refine ph_ite (fun _ => ?_) (fun _ => ?_)
        | exact h4 _ _ _ _ _
        | exact h149 _ _ _ _ _
        | exact (kr_X12_at _) _ _ _ _)

theorem kr_X12_deepOf : ∀ n : Nat, (∀ (d : Nat) (S : GS) (a1 : Int) (a2 : Int), PH 600 S (f_X12_deepOf n d 0 S [a1, a2])) ∧ (∀ (d : Nat) (S : GS) (a1 : Int) (a2 : Int) (a3 : Int) (a4 : Int), PH 600 S (f_X12_deepOf n d 5 S [a1, a2, a3, a4])) ∧ (∀ (d : Nat) (S : GS) (a1 : Int) (a2 : Int) (a3 : Int) (a4 : Int) (a5 : Int) (a6 : Int), PH 600 S (f_X12_deepOf n d 23 S [a1, a2, a3, a4, a5, a6]))
  | 0 => ⟨(fun _ _ _ _ => ph_none), (fun _ _ _ _ _ _ => ph_none), (fun _ _ _ _ _ _ _ _ => ph_none)⟩
  | n + 1 => by
    obtain ⟨h0, h5, h23⟩ := kr_X12_deepOf n
    refine ⟨?_, ?_, ?_⟩
    · intro _ _ _ _
      rw [e_X12_deepOf_0]
      unfold b_X12_deepOf_0
      repeat' (with_reducible first
        | exact ph_none
        | exact ph_some
        | refine ph_gI (by first | decide | omega) (fun _ => ?_)
        | refine ph_gCp (by first | decide | omega) (fun _ => ?_)
        | refine ph_gB (by first | decide | omega) (fun _ => ?_)
        | refine ph_gR (by first | decide | omega) (fun _ => ?_)
        | refine ph_gv (fun _ => ?_)
        | refine ph_gg (fun _ => ?_)
        | refine ph_gc ?_ (fun _ _ => ?_)
        | refine ph_ite (fun _ => ?_) (fun _ => ?_)
        | exact h5 _ _ _ _ _ _)
    · intro _ _ _ _ _ _
      rw [e_X12_deepOf_5]
      unfold b_X12_deepOf_5
      repeat' (with_reducible first
        | exact ph_none
        | exact ph_some
        | refine ph_gI (by first | decide | omega) (fun _ => ?_)
        | refine ph_gCp (by first | decide | omega) (fun _ => ?_)
        | refine ph_gB (by first | decide | omega) (fun _ => ?_)
        | refine ph_gR (by first | decide | omega) (fun _ => ?_)
        | refine ph_gv (fun _ => ?_)
        | refine ph_gg (fun _ => ?_)
        | refine ph_gc ?_ (fun _ _ => ?_)
        | refine ph_ite (fun _ => ?_) (fun _ => ?_)
        | exact h23 _ _ _ _ _ _ _ _
        | exact (kr_X12_endOf _) _ _ _ _)
    · intro _ _ _ _ _ _ _ _
      rw [e_X12_deepOf_23]
      unfold b_X12_deepOf_23
      repeat' (with_reducible first
        | exact ph_none
        | exact ph_some
        | refine ph_gI (by first | decide | omega) (fun _ => ?_)
        | refine ph_gCp (by first | decide | omega) (fun _ => ?_)
        | refine ph_gB (by first | decide | omega) (fun _ => ?_)
        | refine ph_gR (by first | decide | omega) (fun _ => ?_)
        | refine ph_gv (fun _ => ?_)
        | refine ph_gg (fun _ => ?_)
        | refine ph_gc ?_ (fun _ _ => ?_)
        | refine ph_ite (fun _ => ?_) (fun _ => ?_)
        | exact h5 _ _ _ _ _ _
        | exact h23 _ _ _ _ _ _ _ _
        | exact (kr_X12_kind _) _ _ _ _
        | exact (kr_X12_part _) _ _ _ _ _)

theorem kr_X12_isWhole : ∀ n : Nat, (∀ (d : Nat) (S : GS) (a1 : Int), PH 600 S (f_X12_isWhole n d 0 S [a1]))
  | 0 => (fun _ _ _ => ph_none)
  | n + 1 => by
    have h0 := kr_X12_isWhole n
    · intro _ _ _
      rw [e_X12_isWhole_0]
      unfold b_X12_isWhole_0
      repeat' (with_reducible first
        | exact ph_none
        | exact ph_some
        | refine ph_gI (by first | decide | omega) (fun _ => ?_)
        | refine ph_gCp (by first | decide | omega) (fun _ => ?_)
        | refine ph_gB (by first | decide | omega) (fun _ => ?_)
        | refine ph_gR (by first | decide | omega) (fun _ => ?_)
        | refine ph_gv (fun _ => ?_)
        | refine ph_gg (fun _ => ?_)
        | refine ph_gc ?_ (fun _ _ => ?_)
        | refine ph_ite (fun _ => ?_) (fun _ => ?_)
        | exact (kr_X12_deepOf _).1 _ _ _ _
        | exact (kr_X12_link _).1 _ _ _)

theorem kr_X12_keeps : ∀ n : Nat, (∀ (d : Nat) (S : GS) (a1 : Int), PH 600 S (f_X12_keeps n d 0 S [a1])) ∧ (∀ (d : Nat) (S : GS) (a1 : Int) (a2 : Int), PH 600 S (f_X12_keeps n d 17 S [a1, a2]))
  | 0 => ⟨(fun _ _ _ => ph_none), (fun _ _ _ _ => ph_none)⟩
  | n + 1 => by
    obtain ⟨h0, h17⟩ := kr_X12_keeps n
    refine ⟨?_, ?_⟩
    · intro _ _ _
      rw [e_X12_keeps_0]
      unfold b_X12_keeps_0
      repeat' (with_reducible first
        | exact ph_none
        | exact ph_some
        | refine ph_gI (by first | decide | omega) (fun _ => ?_)
        | refine ph_gCp (by first | decide | omega) (fun _ => ?_)
        | refine ph_gB (by first | decide | omega) (fun _ => ?_)
        | refine ph_gR (by first | decide | omega) (fun _ => ?_)
        | refine ph_gv (fun _ => ?_)
        | refine ph_gg (fun _ => ?_)
        | refine ph_gc ?_ (fun _ _ => ?_)
        | refine ph_ite (fun _ => ?_) (fun _ => ?_)
        | exact h17 _ _ _ _)
    · intro _ _ _ _
      rw [e_X12_keeps_17]
      unfold b_X12_keeps_17
      repeat' (with_reducible first
        | exact ph_none
        | exact ph_some
        | refine ph_gI (by first | decide | omega) (fun _ => ?_)
        | refine ph_gCp (by first | decide | omega) (fun _ => ?_)
        | refine ph_gB (by first | decide | omega) (fun _ => ?_)
        | refine ph_gR (by first | decide | omega) (fun _ => ?_)
        | refine ph_gv (fun _ => ?_)
        | refine ph_gg (fun _ => ?_)
        | refine ph_gc ?_ (fun _ _ => ?_)
        | refine ph_ite (fun _ => ?_) (fun _ => ?_)
        | exact h17 _ _ _ _
        | exact (kr_X12_at _) _ _ _ _)

theorem kr_X12_both : ∀ n : Nat, (∀ (d : Nat) (S : GS) (a1 : Int) (a2 : Int), PH 600 S (f_X12_both n d 0 S [a1, a2])) ∧ (∀ (d : Nat) (S : GS) (a1 : Int) (a2 : Int) (s0 : Int), PH 600 S (f_X12_both n d 22 S [a1, a2, s0])) ∧ (∀ (d : Nat) (S : GS) (s0 : Int), PH 600 S (f_X12_both n d 111 S [s0]))
  | 0 => ⟨(fun _ _ _ _ => ph_none), (fun _ _ _ _ _ => ph_none), (fun _ _ _ => ph_none)⟩
  | n + 1 => by
    obtain ⟨h0, h22, h111⟩ := kr_X12_both n
    refine ⟨?_, ?_, ?_⟩
    · intro _ _ _ _
      rw [e_X12_both_0]
      unfold b_X12_both_0
      repeat' (with_reducible first
        | exact ph_none
        | exact ph_some
        | refine ph_gI (by first | decide | omega) (fun _ => ?_)
        | refine ph_gCp (by first | decide | omega) (fun _ => ?_)
        | refine ph_gB (by first | decide | omega) (fun _ => ?_)
        | refine ph_gR (by first | decide | omega) (fun _ => ?_)
        | refine ph_gv (fun _ => ?_)
        | refine ph_gg (fun _ => ?_)
        | refine ph_gc ?_ (fun _ _ => ?_)
        | refine ph_ite (fun _ => ?_) (fun _ => ?_)
        | exact h22 _ _ _ _ _
        | exact (kr_X12_isDoc _) _ _ _)
    · intro _ _ _ _ _
      rw [e_X12_both_22]
      unfold b_X12_both_22
      repeat' (with_reducible first
        | exact ph_none
        | exact ph_some
        | refine ph_gI (by first | decide | omega) (fun _ => ?_)
        | refine ph_gCp (by first | decide | omega) (fun _ => ?_)
        | refine ph_gB (by first | decide | omega) (fun _ => ?_)
        | refine ph_gR (by first | decide | omega) (fun _ => ?_)
        | refine ph_gv (fun _ => ?_)
        | refine ph_gg (fun _ => ?_)
        | refine ph_gc ?_ (fun _ _ => ?_)
        | refine ph_ite (fun _ => ?_) (fun _ => ?_)
        | exact h111 _ _ _
        | exact (kr_X12_added _).1 _ _ _ _
        | exact (kr_X12_at _) _ _ _ _
        | exact (kr_X12_begin _) _ _ _
        | exact (kr_X12_copies _).1 _ _ _ _ _ _
        | exact (kr_X12_fails _) _ _ _ _
        | exact (kr_X12_isWhole _) _ _ _)
    · intro _ _ _
      rw [e_X12_both_111]
      unfold b_X12_both_111
      repeat' (with_reducible first
        | exact ph_none
        | exact ph_some
        | refine ph_gI (by first | decide | omega) (fun _ => ?_)
        | refine ph_gCp (by first | decide | omega) (fun _ => ?_)
        | refine ph_gB (by first | decide | omega) (fun _ => ?_)
        | refine ph_gR (by first | decide | omega) (fun _ => ?_)
        | refine ph_gv (fun _ => ?_)
        | refine ph_gg (fun _ => ?_)
        | refine ph_gc ?_ (fun _ _ => ?_)
        | refine ph_ite (fun _ => ?_) (fun _ => ?_)
        | exact (kr_X12_fails _) _ _ _ _
        | exact (kr_X12_keeps _).1 _ _ _)

theorem kr_X12_step : ∀ n : Nat, (∀ (d : Nat) (S : GS) (a1 : Int), PH 600 S (f_X12_step n d 0 S [a1])) ∧ (∀ (d : Nat) (S : GS), PH 600 S (f_X12_step n d 15 S []))
  | 0 => ⟨(fun _ _ _ => ph_none), (fun _ _ => ph_none)⟩
  | n + 1 => by
    obtain ⟨h0, h15⟩ := kr_X12_step n
    refine ⟨?_, ?_⟩
    · intro _ _ _
      rw [e_X12_step_0]
      unfold b_X12_step_0
      repeat' (with_reducible first
        | exact ph_none
        | exact ph_some
        | refine ph_gI (by first | decide | omega) (fun _ => ?_)
        | refine ph_gCp (by first | decide | omega) (fun _ => ?_)
        | refine ph_gB (by first | decide | omega) (fun _ => ?_)
        | refine ph_gR (by first | decide | omega) (fun _ => ?_)
        | refine ph_gv (fun _ => ?_)
        | refine ph_gg (fun _ => ?_)
        | refine ph_gc ?_ (fun _ _ => ?_)
        | refine ph_ite (fun _ => ?_) (fun _ => ?_)
        | exact h15 _ _)
    · intro _ _
      rw [e_X12_step_15]
      unfold b_X12_step_15
      repeat' (with_reducible first
        | exact ph_none
        | exact ph_some
        | refine ph_gI (by first | decide | omega) (fun _ => ?_)
        | refine ph_gCp (by first | decide | omega) (fun _ => ?_)
        | refine ph_gB (by first | decide | omega) (fun _ => ?_)
        | refine ph_gR (by first | decide | omega) (fun _ => ?_)
        | refine ph_gv (fun _ => ?_)
        | refine ph_gg (fun _ => ?_)
        | refine ph_gc ?_ (fun _ _ => ?_)
        | refine ph_ite (fun _ => ?_) (fun _ => ?_)
        | exact h15 _ _)

theorem kr_X12_wordOf : ∀ n : Nat, (∀ (d : Nat) (S : GS) (a1 : Int) (a2 : Int), PH 600 S (f_X12_wordOf n d 0 S [a1, a2])) ∧ (∀ (d : Nat) (S : GS) (a2 : Int) (a3 : Int), PH 600 S (f_X12_wordOf n d 7 S [a2, a3])) ∧ (∀ (d : Nat) (S : GS) (a2 : Int) (a3 : Int) (a4 : Int), PH 600 S (f_X12_wordOf n d 50 S [a2, a3, a4]))
  | 0 => ⟨(fun _ _ _ _ => ph_none), (fun _ _ _ _ => ph_none), (fun _ _ _ _ _ => ph_none)⟩
  | n + 1 => by
    obtain ⟨h0, h7, h50⟩ := kr_X12_wordOf n
    refine ⟨?_, ?_, ?_⟩
    · intro _ _ _ _
      rw [e_X12_wordOf_0]
      unfold b_X12_wordOf_0
      repeat' (with_reducible first
        | exact ph_none
        | exact ph_some
        | refine ph_gI (by first | decide | omega) (fun _ => ?_)
        | refine ph_gCp (by first | decide | omega) (fun _ => ?_)
        | refine ph_gB (by first | decide | omega) (fun _ => ?_)
        | refine ph_gR (by first | decide | omega) (fun _ => ?_)
        | refine ph_gv (fun _ => ?_)
        | refine ph_gg (fun _ => ?_)
        | refine ph_gc ?_ (fun _ _ => ?_)
        | refine ph_ite (fun _ => ?_) (fun _ => ?_)
        | exact h7 _ _ _ _)
    · intro _ _ _ _
      rw [e_X12_wordOf_7]
      unfold b_X12_wordOf_7
      repeat' (with_reducible first
        | exact ph_none
        | exact ph_some
        | refine ph_gI (by first | decide | omega) (fun _ => ?_)
        | refine ph_gCp (by first | decide | omega) (fun _ => ?_)
        | refine ph_gB (by first | decide | omega) (fun _ => ?_)
        | refine ph_gR (by first | decide | omega) (fun _ => ?_)
        | refine ph_gv (fun _ => ?_)
        | refine ph_gg (fun _ => ?_)
        | refine ph_gc ?_ (fun _ _ => ?_)
        | refine ph_ite (fun _ => ?_) (fun _ => ?_)
        | exact h50 _ _ _ _ _)
    · intro _ _ _ _ _
      rw [e_X12_wordOf_50]
      unfold b_X12_wordOf_50
      repeat' (with_reducible first
        | exact ph_none
        | exact ph_some
        | refine ph_gI (by first | decide | omega) (fun _ => ?_)
        | refine ph_gCp (by first | decide | omega) (fun _ => ?_)
        | refine ph_gB (by first | decide | omega) (fun _ => ?_)
        | refine ph_gR (by first | decide | omega) (fun _ => ?_)
        | refine ph_gv (fun _ => ?_)
        | refine ph_gg (fun _ => ?_)
        | refine ph_gc ?_ (fun _ _ => ?_)
        | refine ph_ite (fun _ => ?_) (fun _ => ?_)
        | exact h7 _ _ _ _)

theorem kr_X12_figured : ∀ n : Nat, (∀ (d : Nat) (S : GS) (a1 : Int), PH 600 S (f_X12_figured n d 0 S [a1])) ∧ (∀ (d : Nat) (S : GS) (a2 : Int) (a3 : Int), PH 600 S (f_X12_figured n d 35 S [a2, a3]))
  | 0 => ⟨(fun _ _ _ => ph_none), (fun _ _ _ _ => ph_none)⟩
  | n + 1 => by
    obtain ⟨h0, h35⟩ := kr_X12_figured n
    refine ⟨?_, ?_⟩
    · intro _ _ _
      rw [e_X12_figured_0]
      unfold b_X12_figured_0
      repeat' (with_reducible first
        | exact ph_none
        | exact ph_some
        | refine ph_gI (by first | decide | omega) (fun _ => ?_)
        | refine ph_gCp (by first | decide | omega) (fun _ => ?_)
        | refine ph_gB (by first | decide | omega) (fun _ => ?_)
        | refine ph_gR (by first | decide | omega) (fun _ => ?_)
        | refine ph_gv (fun _ => ?_)
        | refine ph_gg (fun _ => ?_)
        | refine ph_gc ?_ (fun _ _ => ?_)
        | refine ph_ite (fun _ => ?_) (fun _ => ?_)
        | exact h35 _ _ _ _)
    · intro _ _ _ _
      rw [e_X12_figured_35]
      unfold b_X12_figured_35
      repeat' (with_reducible first
        | exact ph_none
        | exact ph_some
        | refine ph_gI (by first | decide | omega) (fun _ => ?_)
        | refine ph_gCp (by first | decide | omega) (fun _ => ?_)
        | refine ph_gB (by first | decide | omega) (fun _ => ?_)
        | refine ph_gR (by first | decide | omega) (fun _ => ?_)
        | refine ph_gv (fun _ => ?_)
        | refine ph_gg (fun _ => ?_)
        | refine ph_gc ?_ (fun _ _ => ?_)
        | refine ph_ite (fun _ => ?_) (fun _ => ?_)
        | exact h35 _ _ _ _
        | exact (kr_X12_in _) _ _ _ _ _)

theorem kr_X12_stepped : ∀ n : Nat, (∀ (d : Nat) (S : GS) (a1 : Int) (a2 : Int) (a3 : Int), PH 600 S (f_X12_stepped n d 0 S [a1, a2, a3])) ∧ (∀ (d : Nat) (S : GS) (a1 : Int) (a2 : Int) (a4 : Int) (a5 : Int), PH 600 S (f_X12_stepped n d 90 S [a1, a2, a4, a5]))
  | 0 => ⟨(fun _ _ _ _ _ => ph_none), (fun _ _ _ _ _ _ => ph_none)⟩
  | n + 1 => by
    obtain ⟨h0, h90⟩ := kr_X12_stepped n
    refine ⟨?_, ?_⟩
    · intro _ _ _ _ _
      rw [e_X12_stepped_0]
      unfold b_X12_stepped_0
      repeat' (with_reducible first
        | exact ph_none
        | exact ph_some
        | refine ph_gI (by first | decide | omega) (fun _ => ?_)
        | refine ph_gCp (by first | decide | omega) (fun _ => ?_)
        | refine ph_gB (by first | decide | omega) (fun _ => ?_)
        | refine ph_gR (by first | decide | omega) (fun _ => ?_)
        | refine ph_gv (fun _ => ?_)
        | refine ph_gg (fun _ => ?_)
        | refine ph_gc ?_ (fun _ _ => ?_)
        | refine ph_ite (fun _ => ?_) (fun _ => ?_)
        | exact h90 _ _ _ _ _ _
        | exact (kr_X12_childByWord _).1 _ _ _ _
        | exact (kr_X12_figured _).1 _ _ _
        | exact (kr_X12_kind _) _ _ _ _
        | exact (kr_X12_part _) _ _ _ _ _)
    · intro _ _ _ _ _ _
      rw [e_X12_stepped_90]
      unfold b_X12_stepped_90
      repeat' (with_reducible first
        | exact ph_none
        | exact ph_some
        | refine ph_gI (by first | decide | omega) (fun _ => ?_)
        | refine ph_gCp (by first | decide | omega) (fun _ => ?_)
        | refine ph_gB (by first | decide | omega) (fun _ => ?_)
        | refine ph_gR (by first | decide | omega) (fun _ => ?_)
        | refine ph_gv (fun _ => ?_)
        | refine ph_gg (fun _ => ?_)
        | refine ph_gc ?_ (fun _ _ => ?_)
        | refine ph_ite (fun _ => ?_) (fun _ => ?_)
        | exact (kr_X12_childAt _).1 _ _ _ _ _
        | exact (kr_X12_in _) _ _ _ _ _)

theorem kr_X12_plain : ∀ n : Nat, (∀ (d : Nat) (S : GS) (a1 : Int) (a2 : Int), PH 600 S (f_X12_plain n d 0 S [a1, a2])) ∧ (∀ (d : Nat) (S : GS) (a1 : Int) (a2 : Int) (a3 : Int) (a4 : Int), PH 600 S (f_X12_plain n d 5 S [a1, a2, a3, a4]))
  | 0 => ⟨(fun _ _ _ _ => ph_none), (fun _ _ _ _ _ _ => ph_none)⟩
  | n + 1 => by
    obtain ⟨h0, h5⟩ := kr_X12_plain n
    refine ⟨?_, ?_⟩
    · intro _ _ _ _
      rw [e_X12_plain_0]
      unfold b_X12_plain_0
      repeat' (with_reducible first
        | exact ph_none
        | exact ph_some
        | refine ph_gI (by first | decide | omega) (fun _ => ?_)
        | refine ph_gCp (by first | decide | omega) (fun _ => ?_)
        | refine ph_gB (by first | decide | omega) (fun _ => ?_)
        | refine ph_gR (by first | decide | omega) (fun _ => ?_)
        | refine ph_gv (fun _ => ?_)
        | refine ph_gg (fun _ => ?_)
        | refine ph_gc ?_ (fun _ _ => ?_)
        | refine ph_ite (fun _ => ?_) (fun _ => ?_)
        | exact h5 _ _ _ _ _ _)
    · intro _ _ _ _ _ _
      rw [e_X12_plain_5]
      unfold b_X12_plain_5
      repeat' (with_reducible first
        | exact ph_none
        | exact ph_some
        | refine ph_gI (by first | decide | omega) (fun _ => ?_)
        | refine ph_gCp (by first | decide | omega) (fun _ => ?_)
        | refine ph_gB (by first | decide | omega) (fun _ => ?_)
        | refine ph_gR (by first | decide | omega) (fun _ => ?_)
        | refine ph_gv (fun _ => ?_)
        | refine ph_gg (fun _ => ?_)
        | refine ph_gc ?_ (fun _ _ => ?_)
        | refine ph_ite (fun _ => ?_) (fun _ => ?_)
        | exact h5 _ _ _ _ _ _
        | exact (kr_X12_step _).1 _ _ _
        | exact (kr_X12_stepped _).1 _ _ _ _ _
        | exact (kr_X12_wordOf _).1 _ _ _ _)

theorem kr_X12_taken : ∀ n : Nat, (∀ (d : Nat) (S : GS) (a1 : Int) (a2 : Int) (a3 : Int), PH 600 S (f_X12_taken n d 0 S [a1, a2, a3]))
  | 0 => (fun _ _ _ _ _ => ph_none)
  | n + 1 => by
    have h0 := kr_X12_taken n
    · intro _ _ _ _ _
      rw [e_X12_taken_0]
      unfold b_X12_taken_0
      repeat' (with_reducible first
        | exact ph_none
        | exact ph_some
        | refine ph_gI (by first | decide | omega) (fun _ => ?_)
        | refine ph_gCp (by first | decide | omega) (fun _ => ?_)
        | refine ph_gB (by first | decide | omega) (fun _ => ?_)
        | refine ph_gR (by first | decide | omega) (fun _ => ?_)
        | refine ph_gv (fun _ => ?_)
        | refine ph_gg (fun _ => ?_)
        | refine ph_gc ?_ (fun _ _ => ?_)
        | refine ph_ite (fun _ => ?_) (fun _ => ?_)
        | exact (kr_X12_at _) _ _ _ _
        | exact (kr_X12_begin _) _ _ _
        | exact (kr_X12_copies _).1 _ _ _ _ _ _
        | exact (kr_X12_endOf _) _ _ _ _
        | exact (kr_X12_part _) _ _ _ _ _)

theorem kr_X12_canCut : ∀ n : Nat, (∀ (d : Nat) (S : GS) (a1 : Int) (a2 : Int), PH 600 S (f_X12_canCut n d 0 S [a1, a2]))
  | 0 => (fun _ _ _ _ => ph_none)
  | n + 1 => by
    have h0 := kr_X12_canCut n
    · intro _ _ _ _
      rw [e_X12_canCut_0]
      unfold b_X12_canCut_0
      repeat' (with_reducible first
        | exact ph_none
        | exact ph_some
        | refine ph_gI (by first | decide | omega) (fun _ => ?_)
        | refine ph_gCp (by first | decide | omega) (fun _ => ?_)
        | refine ph_gB (by first | decide | omega) (fun _ => ?_)
        | refine ph_gR (by first | decide | omega) (fun _ => ?_)
        | refine ph_gv (fun _ => ?_)
        | refine ph_gg (fun _ => ?_)
        | refine ph_gc ?_ (fun _ _ => ?_)
        | refine ph_ite (fun _ => ?_) (fun _ => ?_)
        | exact (kr_X12_link _).1 _ _ _
        | exact (kr_X12_plain _).1 _ _ _ _
        | exact (kr_X12_taken _) _ _ _ _ _)

theorem kr_X12_lastStep : ∀ n : Nat, (∀ (d : Nat) (S : GS), PH 600 S (f_X12_lastStep n d 0 S [])) ∧ (∀ (d : Nat) (S : GS) (a1 : Int), PH 600 S (f_X12_lastStep n d 7 S [a1]))
  | 0 => ⟨(fun _ _ => ph_none), (fun _ _ _ => ph_none)⟩
  | n + 1 => by
    obtain ⟨h0, h7⟩ := kr_X12_lastStep n
    refine ⟨?_, ?_⟩
    · intro _ _
      rw [e_X12_lastStep_0]
      unfold b_X12_lastStep_0
      repeat' (with_reducible first
        | exact ph_none
        | exact ph_some
        | refine ph_gI (by first | decide | omega) (fun _ => ?_)
        | refine ph_gCp (by first | decide | omega) (fun _ => ?_)
        | refine ph_gB (by first | decide | omega) (fun _ => ?_)
        | refine ph_gR (by first | decide | omega) (fun _ => ?_)
        | refine ph_gv (fun _ => ?_)
        | refine ph_gg (fun _ => ?_)
        | refine ph_gc ?_ (fun _ _ => ?_)
        | refine ph_ite (fun _ => ?_) (fun _ => ?_)
        | exact h7 _ _ _)
    · intro _ _ _
      rw [e_X12_lastStep_7]
      unfold b_X12_lastStep_7
      repeat' (with_reducible first
        | exact ph_none
        | exact ph_some
        | refine ph_gI (by first | decide | omega) (fun _ => ?_)
        | refine ph_gCp (by first | decide | omega) (fun _ => ?_)
        | refine ph_gB (by first | decide | omega) (fun _ => ?_)
        | refine ph_gR (by first | decide | omega) (fun _ => ?_)
        | refine ph_gv (fun _ => ?_)
        | refine ph_gg (fun _ => ?_)
        | refine ph_gc ?_ (fun _ _ => ?_)
        | refine ph_ite (fun _ => ?_) (fun _ => ?_)
        | exact h7 _ _ _)

theorem kr_X12_wordOfKey : ∀ n : Nat, (∀ (d : Nat) (S : GS) (a1 : Int) (a2 : Int), PH 600 S (f_X12_wordOfKey n d 0 S [a1, a2])) ∧ (∀ (d : Nat) (S : GS) (a1 : Int) (a2 : Int) (a3 : Int), PH 600 S (f_X12_wordOfKey n d 13 S [a1, a2, a3]))
  | 0 => ⟨(fun _ _ _ _ => ph_none), (fun _ _ _ _ _ => ph_none)⟩
  | n + 1 => by
    obtain ⟨h0, h13⟩ := kr_X12_wordOfKey n
    refine ⟨?_, ?_⟩
    · intro _ _ _ _
      rw [e_X12_wordOfKey_0]
      unfold b_X12_wordOfKey_0
      repeat' (with_reducible first
        | exact ph_none
        | exact ph_some
        | refine ph_gI (by first | decide | omega) (fun _ => ?_)
        | refine ph_gCp (by first | decide | omega) (fun _ => ?_)
        | refine ph_gB (by first | decide | omega) (fun _ => ?_)
        | refine ph_gR (by first | decide | omega) (fun _ => ?_)
        | refine ph_gv (fun _ => ?_)
        | refine ph_gg (fun _ => ?_)
        | refine ph_gc ?_ (fun _ _ => ?_)
        | refine ph_ite (fun _ => ?_) (fun _ => ?_)
        | exact h13 _ _ _ _ _
        | exact (kr_X12_part _) _ _ _ _ _)
    · intro _ _ _ _ _
      rw [e_X12_wordOfKey_13]
      unfold b_X12_wordOfKey_13
      repeat' (with_reducible first
        | exact ph_none
        | exact ph_some
        | refine ph_gI (by first | decide | omega) (fun _ => ?_)
        | refine ph_gCp (by first | decide | omega) (fun _ => ?_)
        | refine ph_gB (by first | decide | omega) (fun _ => ?_)
        | refine ph_gR (by first | decide | omega) (fun _ => ?_)
        | refine ph_gv (fun _ => ?_)
        | refine ph_gg (fun _ => ?_)
        | refine ph_gc ?_ (fun _ _ => ?_)
        | refine ph_ite (fun _ => ?_) (fun _ => ?_)
        | exact h13 _ _ _ _ _
        | exact (kr_X12_part _) _ _ _ _ _)

theorem kr_X12_replaced : ∀ n : Nat, (∀ (d : Nat) (S : GS) (a1 : Int) (a2 : Int) (a3 : Int) (a4 : Int) (a5 : Int), PH 600 S (f_X12_replaced n d 0 S [a1, a2, a3, a4, a5])) ∧ (∀ (d : Nat) (S : GS) (a1 : Int) (a2 : Int) (a3 : Int) (s0 : Int) (s1 : Int) (s2 : Int) (s3 : Int), PH 600 S (f_X12_replaced n d 60 S [a1, a2, a3, s0, s1, s2, s3]))
  | 0 => ⟨(fun _ _ _ _ _ _ _ => ph_none), (fun _ _ _ _ _ _ _ _ _ => ph_none)⟩
  | n + 1 => by
    obtain ⟨h0, h60⟩ := kr_X12_replaced n
    refine ⟨?_, ?_⟩
    · intro _ _ _ _ _ _ _
      rw [e_X12_replaced_0]
      unfold b_X12_replaced_0
      repeat' (with_reducible first
        | exact ph_none
        | exact ph_some
        | refine ph_gI (by first | decide | omega) (fun _ => ?_)
        | refine ph_gCp (by first | decide | omega) (fun _ => ?_)
        | refine ph_gB (by first | decide | omega) (fun _ => ?_)
        | refine ph_gR (by first | decide | omega) (fun _ => ?_)
        | refine ph_gv (fun _ => ?_)
        | refine ph_gg (fun _ => ?_)
        | refine ph_gc ?_ (fun _ _ => ?_)
        | refine ph_ite (fun _ => ?_) (fun _ => ?_)
        | exact h60 _ _ _ _ _ _ _ _ _
        | exact (kr_X12_begin _) _ _ _
        | exact (kr_X12_copies _).1 _ _ _ _ _ _
        | exact (kr_X12_kind _) _ _ _ _
        | exact (kr_X12_part _) _ _ _ _ _
        | exact (kr_X12_wordOfKey _).1 _ _ _ _)
    · intro _ _ _ _ _ _ _ _ _
      rw [e_X12_replaced_60]
      unfold b_X12_replaced_60
      repeat' (with_reducible first
        | exact ph_none
        | exact ph_some
        | refine ph_gI (by first | decide | omega) (fun _ => ?_)
        | refine ph_gCp (by first | decide | omega) (fun _ => ?_)
        | refine ph_gB (by first | decide | omega) (fun _ => ?_)
        | refine ph_gR (by first | decide | omega) (fun _ => ?_)
        | refine ph_gv (fun _ => ?_)
        | refine ph_gg (fun _ => ?_)
        | refine ph_gc ?_ (fun _ _ => ?_)
        | refine ph_ite (fun _ => ?_) (fun _ => ?_)
        | exact (kr_X12_brings _) _ _ _ _ _ _
        | exact (kr_X12_copies _).1 _ _ _ _ _ _
        | exact (kr_X12_endOf _) _ _ _ _)

theorem kr_X12_canPut : ∀ n : Nat, (∀ (d : Nat) (S : GS) (a1 : Int) (a2 : Int) (a3 : Int) (a4 : Int), PH 600 S (f_X12_canPut n d 0 S [a1, a2, a3, a4])) ∧ (∀ (d : Nat) (S : GS) (a1 : Int) (a2 : Int) (a3 : Int) (a4 : Int) (a6 : Int), PH 600 S (f_X12_canPut n d 133 S [a1, a2, a3, a4, a6])) ∧ (∀ (d : Nat) (S : GS) (a1 : Int) (a2 : Int) (a3 : Int) (a4 : Int) (a6 : Int) (a7 : Int), PH 600 S (f_X12_canPut n d 177 S [a1, a2, a3, a4, a6, a7])) ∧ (∀ (d : Nat) (S : GS) (a1 : Int) (a2 : Int) (a3 : Int) (a4 : Int) (a6 : Int) (a8 : Int), PH 600 S (f_X12_canPut n d 197 S [a1, a2, a3, a4, a6, a8])) ∧ (∀ (d : Nat) (S : GS) (a1 : Int) (a2 : Int) (a6 : Int) (a9 : Int) (s0 : Int) (s1 : Int) (s2 : Int) (s3 : Int), PH 600 S (f_X12_canPut n d 243 S [a1, a2, a6, a9, s0, s1, s2, s3]))
  | 0 => ⟨(fun _ _ _ _ _ _ => ph_none), (fun _ _ _ _ _ _ _ => ph_none), (fun _ _ _ _ _ _ _ _ => ph_none), (fun _ _ _ _ _ _ _ _ => ph_none), (fun _ _ _ _ _ _ _ _ _ _ => ph_none)⟩
  | n + 1 => by
    obtain ⟨h0, h133, h177, h197, h243⟩ := kr_X12_canPut n
    refine ⟨?_, ?_, ?_, ?_, ?_⟩
    · intro _ _ _ _ _ _
      rw [e_X12_canPut_0]
      unfold b_X12_canPut_0
      repeat' (with_reducible first
        | exact ph_none
        | exact ph_some
        | refine ph_gI (by first | decide | omega) (fun _ => ?_)
        | refine ph_gCp (by first | decide | omega) (fun _ => ?_)
        | refine ph_gB (by first | decide | omega) (fun _ => ?_)
        | refine ph_gR (by first | decide | omega) (fun _ => ?_)
        | refine ph_gv (fun _ => ?_)
        | refine ph_gg (fun _ => ?_)
        | refine ph_gc ?_ (fun _ _ => ?_)
        | refine ph_ite (fun _ => ?_) (fun _ => ?_)
        | exact h133 _ _ _ _ _ _ _
        | exact (kr_X12_begin _) _ _ _
        | exact (kr_X12_brings _) _ _ _ _ _ _
        | exact (kr_X12_childByWord _).1 _ _ _ _
        | exact (kr_X12_isWhole _) _ _ _
        | exact (kr_X12_kind _) _ _ _ _
        | exact (kr_X12_lastStep _).1 _ _
        | exact (kr_X12_plain _).1 _ _ _ _
        | exact (kr_X12_replaced _).1 _ _ _ _ _ _ _
        | exact (kr_X12_step _).1 _ _ _
        | exact (kr_X12_wordOf _).1 _ _ _ _)
    · intro _ _ _ _ _ _ _
      rw [e_X12_canPut_133]
      unfold b_X12_canPut_133
      repeat' (with_reducible first
        | exact ph_none
        | exact ph_some
        | refine ph_gI (by first | decide | omega) (fun _ => ?_)
        | refine ph_gCp (by first | decide | omega) (fun _ => ?_)
        | refine ph_gB (by first | decide | omega) (fun _ => ?_)
        | refine ph_gR (by first | decide | omega) (fun _ => ?_)
        | refine ph_gv (fun _ => ?_)
        | refine ph_gg (fun _ => ?_)
        | refine ph_gc ?_ (fun _ _ => ?_)
        | refine ph_ite (fun _ => ?_) (fun _ => ?_)
        | exact h177 _ _ _ _ _ _ _ _
        | exact h197 _ _ _ _ _ _ _ _
        | exact (kr_X12_kind _) _ _ _ _
        | exact (kr_X12_part _) _ _ _ _ _)
    · intro _ _ _ _ _ _ _ _
      rw [e_X12_canPut_177]
      unfold b_X12_canPut_177
      repeat' (with_reducible first
        | exact ph_none
        | exact ph_some
        | refine ph_gI (by first | decide | omega) (fun _ => ?_)
        | refine ph_gCp (by first | decide | omega) (fun _ => ?_)
        | refine ph_gB (by first | decide | omega) (fun _ => ?_)
        | refine ph_gR (by first | decide | omega) (fun _ => ?_)
        | refine ph_gv (fun _ => ?_)
        | refine ph_gg (fun _ => ?_)
        | refine ph_gc ?_ (fun _ _ => ?_)
        | refine ph_ite (fun _ => ?_) (fun _ => ?_)
        | exact h197 _ _ _ _ _ _ _ _
        | exact (kr_X12_figured _).1 _ _ _
        | exact (kr_X12_in _) _ _ _ _ _)
    · intro _ _ _ _ _ _ _ _
      rw [e_X12_canPut_197]
      unfold b_X12_canPut_197
      repeat' (with_reducible first
        | exact ph_none
        | exact ph_some
        | refine ph_gI (by first | decide | omega) (fun _ => ?_)
        | refine ph_gCp (by first | decide | omega) (fun _ => ?_)
        | refine ph_gB (by first | decide | omega) (fun _ => ?_)
        | refine ph_gR (by first | decide | omega) (fun _ => ?_)
        | refine ph_gv (fun _ => ?_)
        | refine ph_gg (fun _ => ?_)
        | refine ph_gc ?_ (fun _ _ => ?_)
        | refine ph_ite (fun _ => ?_) (fun _ => ?_)
        | exact h243 _ _ _ _ _ _ _ _ _ _
        | exact (kr_X12_begin _) _ _ _
        | exact (kr_X12_childAt _).1 _ _ _ _ _
        | exact (kr_X12_copies _).1 _ _ _ _ _ _
        | exact (kr_X12_kind _) _ _ _ _)
    · intro _ _ _ _ _ _ _ _ _ _
      rw [e_X12_canPut_243]
      unfold b_X12_canPut_243
      repeat' (with_reducible first
        | exact ph_none
        | exact ph_some
        | refine ph_gI (by first | decide | omega) (fun _ => ?_)
        | refine ph_gCp (by first | decide | omega) (fun _ => ?_)
        | refine ph_gB (by first | decide | omega) (fun _ => ?_)
        | refine ph_gR (by first | decide | omega) (fun _ => ?_)
        | refine ph_gv (fun _ => ?_)
        | refine ph_gg (fun _ => ?_)
        | refine ph_gc ?_ (fun _ _ => ?_)
        | refine ph_ite (fun _ => ?_) (fun _ => ?_)
        | exact (kr_X12_at _) _ _ _ _
        | exact (kr_X12_brings _) _ _ _ _ _ _
        | exact (kr_X12_copies _).1 _ _ _ _ _ _
        | exact (kr_X12_isWhole _) _ _ _)

theorem kr_X12_check : ∀ n : Nat, (∀ (d : Nat) (S : GS) (a1 : Int) (a2 : Int), PH 600 S (f_X12_check n d 0 S [a1, a2])) ∧ (∀ (d : Nat) (S : GS) (a1 : Int) (a2 : Int) (s0 : Int), PH 600 S (f_X12_check n d 22 S [a1, a2, s0])) ∧ (∀ (d : Nat) (S : GS) (a1 : Int) (a2 : Int) (s0 : Int), PH 600 S (f_X12_check n d 54 S [a1, a2, s0])) ∧ (∀ (d : Nat) (S : GS) (s0 : Int), PH 600 S (f_X12_check n d 95 S [s0])) ∧ (∀ (d : Nat) (S : GS) (a3 : Int), PH 600 S (f_X12_check n d 114 S [a3]))
  | 0 => ⟨(fun _ _ _ _ => ph_none), (fun _ _ _ _ _ => ph_none), (fun _ _ _ _ _ => ph_none), (fun _ _ _ => ph_none), (fun _ _ _ => ph_none)⟩
  | n + 1 => by
    obtain ⟨h0, h22, h54, h95, h114⟩ := kr_X12_check n
    refine ⟨?_, ?_, ?_, ?_, ?_⟩
    · intro _ _ _ _
      rw [e_X12_check_0]
      unfold b_X12_check_0
      repeat' (with_reducible first
        | exact ph_none
        | exact ph_some
        | refine ph_gI (by first | decide | omega) (fun _ => ?_)
        | refine ph_gCp (by first | decide | omega) (fun _ => ?_)
        | refine ph_gB (by first | decide | omega) (fun _ => ?_)
        | refine ph_gR (by first | decide | omega) (fun _ => ?_)
        | refine ph_gv (fun _ => ?_)
        | refine ph_gg (fun _ => ?_)
        | refine ph_gc ?_ (fun _ _ => ?_)
        | refine ph_ite (fun _ => ?_) (fun _ => ?_)
        | exact h22 _ _ _ _ _
        | exact (kr_X12_isDoc _) _ _ _)
    · intro _ _ _ _ _
      rw [e_X12_check_22]
      unfold b_X12_check_22
      repeat' (with_reducible first
        | exact ph_none
        | exact ph_some
        | refine ph_gI (by first | decide | omega) (fun _ => ?_)
        | refine ph_gCp (by first | decide | omega) (fun _ => ?_)
        | refine ph_gB (by first | decide | omega) (fun _ => ?_)
        | refine ph_gR (by first | decide | omega) (fun _ => ?_)
        | refine ph_gv (fun _ => ?_)
        | refine ph_gg (fun _ => ?_)
        | refine ph_gc ?_ (fun _ _ => ?_)
        | refine ph_ite (fun _ => ?_) (fun _ => ?_)
        | exact h54 _ _ _ _ _
        | exact (kr_X12_asksWhole _).1 _ _ _ _ _
        | exact (kr_X12_fails _) _ _ _ _)
    · intro _ _ _ _ _
      rw [e_X12_check_54]
      unfold b_X12_check_54
      repeat' (with_reducible first
        | exact ph_none
        | exact ph_some
        | refine ph_gI (by first | decide | omega) (fun _ => ?_)
        | refine ph_gCp (by first | decide | omega) (fun _ => ?_)
        | refine ph_gB (by first | decide | omega) (fun _ => ?_)
        | refine ph_gR (by first | decide | omega) (fun _ => ?_)
        | refine ph_gv (fun _ => ?_)
        | refine ph_gg (fun _ => ?_)
        | refine ph_gc ?_ (fun _ _ => ?_)
        | refine ph_ite (fun _ => ?_) (fun _ => ?_)
        | exact h95 _ _ _
        | exact (kr_X12_asksWhole _).1 _ _ _ _ _
        | exact (kr_X12_fails _) _ _ _ _)
    · intro _ _ _
      rw [e_X12_check_95]
      unfold b_X12_check_95
      repeat' (with_reducible first
        | exact ph_none
        | exact ph_some
        | refine ph_gI (by first | decide | omega) (fun _ => ?_)
        | refine ph_gCp (by first | decide | omega) (fun _ => ?_)
        | refine ph_gB (by first | decide | omega) (fun _ => ?_)
        | refine ph_gR (by first | decide | omega) (fun _ => ?_)
        | refine ph_gv (fun _ => ?_)
        | refine ph_gg (fun _ => ?_)
        | refine ph_gc ?_ (fun _ _ => ?_)
        | refine ph_ite (fun _ => ?_) (fun _ => ?_)
        | exact h114 _ _ _
        | exact (kr_X12_fails _) _ _ _ _)
    · intro _ _ _
      rw [e_X12_check_114]
      unfold b_X12_check_114
      repeat' (with_reducible first
        | exact ph_none
        | exact ph_some
        | refine ph_gI (by first | decide | omega) (fun _ => ?_)
        | refine ph_gCp (by first | decide | omega) (fun _ => ?_)
        | refine ph_gB (by first | decide | omega) (fun _ => ?_)
        | refine ph_gR (by first | decide | omega) (fun _ => ?_)
        | refine ph_gv (fun _ => ?_)
        | refine ph_gg (fun _ => ?_)
        | refine ph_gc ?_ (fun _ _ => ?_)
        | refine ph_ite (fun _ => ?_) (fun _ => ?_)
        | exact h114 _ _ _)

