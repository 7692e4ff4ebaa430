/-! CELLS that the class never touches -/
theorem kh_X11_admit : ∀ n : Nat, (∀ (d : Nat) (S : GS) (a1 : Nat), PH 495 S (f_X11_admit n d 0 S [((a1 : Nat) : Int)]))
  | 0 => (fun _ _ _ => ph_none)
  | n + 1 => by
    have h0 := kh_X11_admit n
    · intro _ _ _
      rw [e_X11_admit_0]
      unfold b_X11_admit_0
      repeat' (with_reducible first
        | exact ph_none
        | exact ph_some
        | refine ph_gI (by first | decide | omega) (fun _ => ?_)
        | refine ph_gCp (by first | decide | omega) (fun _ => ?_)
        | refine ph_gB (by first | decide | omega) (fun _ => ?_)
        | refine ph_gR (by first | decide | omega) (fun _ => ?_)
        | refine ph_gv (fun _ => ?_)
        | refine ph_gg (fun _ => ?_)
        | refine ph_gc ?_ (fun _ _ => ?_)
        | refine ph_ite (fun _ => ?_) (fun _ => ?_)
        | exact (kh_X10_copyOf _) _ _ _ _ _
        | exact (kh_X10_isDocument _) _ _ _)

theorem kh_X11_admitAndWipe : ∀ n : Nat, (∀ (d : Nat) (S : GS) (a1 : Nat), PH 495 S (f_X11_admitAndWipe n d 0 S [((a1 : Nat) : Int)]))
  | 0 => (fun _ _ _ => ph_none)
  | n + 1 => by
    have h0 := kh_X11_admitAndWipe n
    · intro _ _ _
      rw [e_X11_admitAndWipe_0]
      unfold b_X11_admitAndWipe_0
      repeat' (with_reducible first
        | exact ph_none
        | exact ph_some
        | refine ph_gI (by first | decide | omega) (fun _ => ?_)
        | refine ph_gCp (by first | decide | omega) (fun _ => ?_)
        | refine ph_gB (by first | decide | omega) (fun _ => ?_)
        | refine ph_gR (by first | decide | omega) (fun _ => ?_)
        | refine ph_gv (fun _ => ?_)
        | refine ph_gg (fun _ => ?_)
        | refine ph_gc ?_ (fun _ _ => ?_)
        | refine ph_ite (fun _ => ?_) (fun _ => ?_)
        | exact (kh_X11_admit _) _ _ _
        | exact (kh_X9_clear _) _ _ _)

theorem kh_X11_document : ∀ n : Nat, (∀ (d : Nat) (S : GS) (a1 : Int), PH 495 S (f_X11_document n d 0 S [a1]))
  | 0 => (fun _ _ _ => ph_none)
  | n + 1 => by
    have h0 := kh_X11_document n
    · intro _ _ _
      rw [e_X11_document_0]
      unfold b_X11_document_0
      repeat' (with_reducible first
        | exact ph_none
        | exact ph_some
        | refine ph_gI (by first | decide | omega) (fun _ => ?_)
        | refine ph_gCp (by first | decide | omega) (fun _ => ?_)
        | refine ph_gB (by first | decide | omega) (fun _ => ?_)
        | refine ph_gR (by first | decide | omega) (fun _ => ?_)
        | refine ph_gv (fun _ => ?_)
        | refine ph_gg (fun _ => ?_)
        | refine ph_gc ?_ (fun _ _ => ?_)
        | refine ph_ite (fun _ => ?_) (fun _ => ?_))

theorem kh_X11_allNodes : ∀ n : Nat, (∀ (d : Nat) (S : GS), PH 495 S (f_X11_allNodes n d 0 S [])) ∧ (∀ (d : Nat) (S : GS) (a1 : Int) (a2 : Int), PH 495 S (f_X11_allNodes n d 4 S [a1, a2]))
  | 0 => ⟨(fun _ _ => ph_none), (fun _ _ _ _ => ph_none)⟩
  | n + 1 => by
    obtain ⟨h0, h4⟩ := kh_X11_allNodes n
    refine ⟨?_, ?_⟩
    · intro _ _
      rw [e_X11_allNodes_0]
      unfold b_X11_allNodes_0
      repeat' (with_reducible first
        | exact ph_none
        | exact ph_some
        | refine ph_gI (by first | decide | omega) (fun _ => ?_)
        | refine ph_gCp (by first | decide | omega) (fun _ => ?_)
        | refine ph_gB (by first | decide | omega) (fun _ => ?_)
        | refine ph_gR (by first | decide | omega) (fun _ => ?_)
        | refine ph_gv (fun _ => ?_)
        | refine ph_gg (fun _ => ?_)
        | refine ph_gc ?_ (fun _ _ => ?_)
        | refine ph_ite (fun _ => ?_) (fun _ => ?_)
        | exact h4 _ _ _ _)
    · intro _ _ _ _
      rw [e_X11_allNodes_4]
      unfold b_X11_allNodes_4
      repeat' (with_reducible first
        | exact ph_none
        | exact ph_some
        | refine ph_gI (by first | decide | omega) (fun _ => ?_)
        | refine ph_gCp (by first | decide | omega) (fun _ => ?_)
        | refine ph_gB (by first | decide | omega) (fun _ => ?_)
        | refine ph_gR (by first | decide | omega) (fun _ => ?_)
        | refine ph_gv (fun _ => ?_)
        | refine ph_gg (fun _ => ?_)
        | refine ph_gc ?_ (fun _ _ => ?_)
        | refine ph_ite (fun _ => ?_) (fun _ => ?_)
        | exact h4 _ _ _ _
        | exact (kh_X10_count _) _ _ _
        | exact (kh_X11_document _) _ _ _)

theorem kh_X11_letterAt : ∀ n : Nat, (∀ (d : Nat) (S : GS) (a0 : Int) (a2 : Int), PH 495 S (f_X11_letterAt n d 0 S [a0, a2]))
  | 0 => (fun _ _ _ _ => ph_none)
  | n + 1 => by
    have h0 := kh_X11_letterAt n
    · intro _ _ _ _
      rw [e_X11_letterAt_0]
      unfold b_X11_letterAt_0
      repeat' (with_reducible first
        | exact ph_none
        | exact ph_some
        | refine ph_gI (by first | decide | omega) (fun _ => ?_)
        | refine ph_gCp (by first | decide | omega) (fun _ => ?_)
        | refine ph_gB (by first | decide | omega) (fun _ => ?_)
        | refine ph_gR (by first | decide | omega) (fun _ => ?_)
        | refine ph_gv (fun _ => ?_)
        | refine ph_gg (fun _ => ?_)
        | refine ph_gc ?_ (fun _ _ => ?_)
        | refine ph_ite (fun _ => ?_) (fun _ => ?_))

theorem kh_X11_areSigns : ∀ n : Nat, (∀ (d : Nat) (S : GS) (a0 : Int) (a1 : Int), PH 495 S (f_X11_areSigns n d 0 S [a0, a1])) ∧ (∀ (d : Nat) (S : GS) (a0 : Int) (a1 : Int) (a3 : Int), PH 495 S (f_X11_areSigns n d 21 S [a0, a1, a3]))
  | 0 => ⟨(fun _ _ _ _ => ph_none), (fun _ _ _ _ _ => ph_none)⟩
  | n + 1 => by
    obtain ⟨h0, h21⟩ := kh_X11_areSigns n
    refine ⟨?_, ?_⟩
    · intro _ _ _ _
      rw [e_X11_areSigns_0]
      unfold b_X11_areSigns_0
      repeat' (with_reducible first
        | exact ph_none
        | exact ph_some
        | refine ph_gI (by first | decide | omega) (fun _ => ?_)
        | refine ph_gCp (by first | decide | omega) (fun _ => ?_)
        | refine ph_gB (by first | decide | omega) (fun _ => ?_)
        | refine ph_gR (by first | decide | omega) (fun _ => ?_)
        | refine ph_gv (fun _ => ?_)
        | refine ph_gg (fun _ => ?_)
        | refine ph_gc ?_ (fun _ _ => ?_)
        | refine ph_ite (fun _ => ?_) (fun _ => ?_)
        | exact h21 _ _ _ _ _)
    · intro _ _ _ _ _
      rw [e_X11_areSigns_21]
      unfold b_X11_areSigns_21
      repeat' (with_reducible first
        | exact ph_none
        | exact ph_some
        | refine ph_gI (by first | decide | omega) (fun _ => ?_)
        | refine ph_gCp (by first | decide | omega) (fun _ => ?_)
        | refine ph_gB (by first | decide | omega) (fun _ => ?_)
        | refine ph_gR (by first | decide | omega) (fun _ => ?_)
        | refine ph_gv (fun _ => ?_)
        | refine ph_gg (fun _ => ?_)
        | refine ph_gc ?_ (fun _ _ => ?_)
        | refine ph_ite (fun _ => ?_) (fun _ => ?_)
        | exact h21 _ _ _ _ _
        | exact (kh_X11_letterAt _) _ _ _ _)

theorem kh_X11_both : ∀ n : Nat, (∀ (d : Nat) (S : GS) (a1 : Int) (a2 : Int), PH 495 S (f_X11_both n d 0 S [a1, a2]))
  | 0 => (fun _ _ _ _ => ph_none)
  | n + 1 => by
    have h0 := kh_X11_both n
    · intro _ _ _ _
      rw [e_X11_both_0]
      unfold b_X11_both_0
      repeat' (with_reducible first
        | exact ph_none
        | exact ph_some
        | refine ph_gI (by first | decide | omega) (fun _ => ?_)
        | refine ph_gCp (by first | decide | omega) (fun _ => ?_)
        | refine ph_gB (by first | decide | omega) (fun _ => ?_)
        | refine ph_gR (by first | decide | omega) (fun _ => ?_)
        | refine ph_gv (fun _ => ?_)
        | refine ph_gg (fun _ => ?_)
        | refine ph_gc ?_ (fun _ _ => ?_)
        | refine ph_ite (fun _ => ?_) (fun _ => ?_)
        | exact (kh_X10_add _) _ _ _ _
        | exact (kh_X10_append _) _ _ _ _ _
        | exact (kh_X10_clear _) _ _ _
        | exact (kh_X10_close _) _ _ _ _
        | exact (kh_X11_admit _) _ _ _
        | exact (kh_X11_document _) _ _ _)

theorem kh_X11_byColumns : ∀ n : Nat, (∀ (d : Nat) (S : GS) (a0 : Nat) (a1 : Nat), PH 495 S (f_X11_byColumns n d 0 S [((a0 : Nat) : Int), ((a1 : Nat) : Int)])) ∧ (∀ (d : Nat) (S : GS) (a0 : Nat) (a1 : Nat) (a2 : Int) (a3 : Int) (a4 : Int), PH 495 S (f_X11_byColumns n d 19 S [((a0 : Nat) : Int), ((a1 : Nat) : Int), a2, a3, a4])) ∧ (∀ (d : Nat) (S : GS) (a0 : Nat) (a1 : Nat) (a2 : Int) (a3 : Int) (a4 : Int) (a5 : Int) (a6 : Int), PH 495 S (f_X11_byColumns n d 41 S [((a0 : Nat) : Int), ((a1 : Nat) : Int), a2, a3, a4, a5, a6]))
  | 0 => ⟨(fun _ _ _ _ => ph_none), (fun _ _ _ _ _ _ _ => ph_none), (fun _ _ _ _ _ _ _ _ _ => ph_none)⟩
  | n + 1 => by
    obtain ⟨h0, h19, h41⟩ := kh_X11_byColumns n
    refine ⟨?_, ?_, ?_⟩
    · intro _ _ _ _
      rw [e_X11_byColumns_0]
      unfold b_X11_byColumns_0
      repeat' (with_reducible first
        | exact ph_none
        | exact ph_some
        | refine ph_gI (by first | decide | omega) (fun _ => ?_)
        | refine ph_gCp (by first | decide | omega) (fun _ => ?_)
        | refine ph_gB (by first | decide | omega) (fun _ => ?_)
        | refine ph_gR (by first | decide | omega) (fun _ => ?_)
        | refine ph_gv (fun _ => ?_)
        | refine ph_gg (fun _ => ?_)
        | refine ph_gc ?_ (fun _ _ => ?_)
        | refine ph_ite (fun _ => ?_) (fun _ => ?_)
        | exact h19 _ _ _ _ _ _ _
        | exact (kh_X10_add _) _ _ _ _
        | exact (kh_X10_clear _) _ _ _
        | exact (kh_X10_first _).1 _ _ _ _)
    · intro _ _ _ _ _ _ _
      rw [e_X11_byColumns_19]
      unfold b_X11_byColumns_19
      repeat' (with_reducible first
        | exact ph_none
        | exact ph_some
        | refine ph_gI (by first | decide | omega) (fun _ => ?_)
        | refine ph_gCp (by first | decide | omega) (fun _ => ?_)
        | refine ph_gB (by first | decide | omega) (fun _ => ?_)
        | refine ph_gR (by first | decide | omega) (fun _ => ?_)
        | refine ph_gv (fun _ => ?_)
        | refine ph_gg (fun _ => ?_)
        | refine ph_gc ?_ (fun _ _ => ?_)
        | refine ph_ite (fun _ => ?_) (fun _ => ?_)
        | exact h41 _ _ _ _ _ _ _ _ _
        | exact (kh_X10_close _) _ _ _ _
        | exact (kh_X10_first _).1 _ _ _ _)
    · intro _ _ _ _ _ _ _ _ _
      rw [e_X11_byColumns_41]
      unfold b_X11_byColumns_41
      repeat' (with_reducible first
        | exact ph_none
        | exact ph_some
        | refine ph_gI (by first | decide | omega) (fun _ => ?_)
        | refine ph_gCp (by first | decide | omega) (fun _ => ?_)
        | refine ph_gB (by first | decide | omega) (fun _ => ?_)
        | refine ph_gR (by first | decide | omega) (fun _ => ?_)
        | refine ph_gv (fun _ => ?_)
        | refine ph_gg (fun _ => ?_)
        | refine ph_gc ?_ (fun _ _ => ?_)
        | refine ph_ite (fun _ => ?_) (fun _ => ?_)
        | exact h19 _ _ _ _ _ _ _
        | exact h41 _ _ _ _ _ _ _ _ _
        | exact (kh_X10_close _) _ _ _ _
        | exact (kh_X10_next _) _ _ _ _ _
        | exact (kh_X10_valueLike _).1 _ _ _ _ _ _
        | exact (kh_X11_addColumn _).1 _ _ _ _ _)

theorem kh_X11_byRows : ∀ n : Nat, (∀ (d : Nat) (S : GS) (a0 : Nat) (a1 : Nat), PH 495 S (f_X11_byRows n d 0 S [((a0 : Nat) : Int), ((a1 : Nat) : Int)])) ∧ (∀ (d : Nat) (S : GS) (a0 : Nat) (a1 : Nat) (a2 : Int) (a3 : Int) (a4 : Int), PH 495 S (f_X11_byRows n d 23 S [((a0 : Nat) : Int), ((a1 : Nat) : Int), a2, a3, a4])) ∧ (∀ (d : Nat) (S : GS) (a0 : Nat) (a1 : Nat) (a2 : Int) (a3 : Int) (a4 : Int) (a5 : Int) (a6 : Int) (a7 : Int), PH 495 S (f_X11_byRows n d 46 S [((a0 : Nat) : Int), ((a1 : Nat) : Int), a2, a3, a4, a5, a6, a7]))
  | 0 => ⟨(fun _ _ _ _ => ph_none), (fun _ _ _ _ _ _ _ => ph_none), (fun _ _ _ _ _ _ _ _ _ _ => ph_none)⟩
  | n + 1 => by
    obtain ⟨h0, h23, h46⟩ := kh_X11_byRows n
    refine ⟨?_, ?_, ?_⟩
    · intro _ _ _ _
      rw [e_X11_byRows_0]
      unfold b_X11_byRows_0
      repeat' (with_reducible first
        | exact ph_none
        | exact ph_some
        | refine ph_gI (by first | decide | omega) (fun _ => ?_)
        | refine ph_gCp (by first | decide | omega) (fun _ => ?_)
        | refine ph_gB (by first | decide | omega) (fun _ => ?_)
        | refine ph_gR (by first | decide | omega) (fun _ => ?_)
        | refine ph_gv (fun _ => ?_)
        | refine ph_gg (fun _ => ?_)
        | refine ph_gc ?_ (fun _ _ => ?_)
        | refine ph_ite (fun _ => ?_) (fun _ => ?_)
        | exact h23 _ _ _ _ _ _ _
        | exact (kh_X10_add _) _ _ _ _
        | exact (kh_X10_clear _) _ _ _
        | exact (kh_X10_firstOfMap _).1 _ _ _ _
        | exact (kh_X10_values _).1 _ _ _ _)
    · intro _ _ _ _ _ _ _
      rw [e_X11_byRows_23]
      unfold b_X11_byRows_23
      repeat' (with_reducible first
        | exact ph_none
        | exact ph_some
        | refine ph_gI (by first | decide | omega) (fun _ => ?_)
        | refine ph_gCp (by first | decide | omega) (fun _ => ?_)
        | refine ph_gB (by first | decide | omega) (fun _ => ?_)
        | refine ph_gR (by first | decide | omega) (fun _ => ?_)
        | refine ph_gv (fun _ => ?_)
        | refine ph_gg (fun _ => ?_)
        | refine ph_gc ?_ (fun _ _ => ?_)
        | refine ph_ite (fun _ => ?_) (fun _ => ?_)
        | exact h46 _ _ _ _ _ _ _ _ _ _
        | exact (kh_X10_add _) _ _ _ _
        | exact (kh_X10_close _) _ _ _ _
        | exact (kh_X10_firstOfMap _).1 _ _ _ _)
    · intro _ _ _ _ _ _ _ _ _ _
      rw [e_X11_byRows_46]
      unfold b_X11_byRows_46
      repeat' (with_reducible first
        | exact ph_none
        | exact ph_some
        | refine ph_gI (by first | decide | omega) (fun _ => ?_)
        | refine ph_gCp (by first | decide | omega) (fun _ => ?_)
        | refine ph_gB (by first | decide | omega) (fun _ => ?_)
        | refine ph_gR (by first | decide | omega) (fun _ => ?_)
        | refine ph_gv (fun _ => ?_)
        | refine ph_gg (fun _ => ?_)
        | refine ph_gc ?_ (fun _ _ => ?_)
        | refine ph_ite (fun _ => ?_) (fun _ => ?_)
        | exact h23 _ _ _ _ _ _ _
        | exact h46 _ _ _ _ _ _ _ _ _ _
        | exact (kh_X10_append _) _ _ _ _ _
        | exact (kh_X10_close _) _ _ _ _
        | exact (kh_X10_next _) _ _ _ _ _
        | exact (kh_X10_setKeyLike _).1 _ _ _ _ _ _
        | exact (kh_X10_valueAt _).1 _ _ _ _ _)

theorem kh_X11_canTell : ∀ n : Nat, (∀ (d : Nat) (S : GS) (a0 : Nat) (a1 : Int) (a2 : Int), PH 495 S (f_X11_canTell n d 0 S [((a0 : Nat) : Int), a1, a2]))
  | 0 => (fun _ _ _ _ _ => ph_none)
  | n + 1 => by
    have h0 := kh_X11_canTell n
    · intro _ _ _ _ _
      rw [e_X11_canTell_0]
      unfold b_X11_canTell_0
      repeat' (with_reducible first
        | exact ph_none
        | exact ph_some
        | refine ph_gI (by first | decide | omega) (fun _ => ?_)
        | refine ph_gCp (by first | decide | omega) (fun _ => ?_)
        | refine ph_gB (by first | decide | omega) (fun _ => ?_)
        | refine ph_gR (by first | decide | omega) (fun _ => ?_)
        | refine ph_gv (fun _ => ?_)
        | refine ph_gg (fun _ => ?_)
        | refine ph_gc ?_ (fun _ _ => ?_)
        | refine ph_ite (fun _ => ?_) (fun _ => ?_)
        | exact (kh_X10_is _) _ _ _ _ _
        | exact (kh_X10_ownerOf _).1 _ _ _ _)

theorem kh_X11_check : ∀ n : Nat, (∀ (d : Nat) (S : GS) (a1 : Int) (a2 : Int), PH 495 S (f_X11_check n d 0 S [a1, a2]))
  | 0 => (fun _ _ _ _ => ph_none)
  | n + 1 => by
    have h0 := kh_X11_check n
    · intro _ _ _ _
      rw [e_X11_check_0]
      unfold b_X11_check_0
      repeat' (with_reducible first
        | exact ph_none
        | exact ph_some
        | refine ph_gI (by first | decide | omega) (fun _ => ?_)
        | refine ph_gCp (by first | decide | omega) (fun _ => ?_)
        | refine ph_gB (by first | decide | omega) (fun _ => ?_)
        | refine ph_gR (by first | decide | omega) (fun _ => ?_)
        | refine ph_gv (fun _ => ?_)
        | refine ph_gg (fun _ => ?_)
        | refine ph_gc ?_ (fun _ _ => ?_)
        | refine ph_ite (fun _ => ?_) (fun _ => ?_)
        | exact (kh_X0_agrees _) _ _ _ _
        | exact (kh_X0_count _) _ _
        | exact (kh_X0_examine _).1 _ _ _ _
        | exact (kh_X11_document _) _ _ _)

theorem kh_X11_columns : ∀ n : Nat, (∀ (d : Nat) (S : GS) (a1 : Int), PH 495 S (f_X11_columns n d 0 S [a1]))
  | 0 => (fun _ _ _ => ph_none)
  | n + 1 => by
    have h0 := kh_X11_columns n
    · intro _ _ _
      rw [e_X11_columns_0]
      unfold b_X11_columns_0
      repeat' (with_reducible first
        | exact ph_none
        | exact ph_some
        | refine ph_gI (by first | decide | omega) (fun _ => ?_)
        | refine ph_gCp (by first | decide | omega) (fun _ => ?_)
        | refine ph_gB (by first | decide | omega) (fun _ => ?_)
        | refine ph_gR (by first | decide | omega) (fun _ => ?_)
        | refine ph_gv (fun _ => ?_)
        | refine ph_gg (fun _ => ?_)
        | refine ph_gc ?_ (fun _ _ => ?_)
        | refine ph_ite (fun _ => ?_) (fun _ => ?_)
        | exact (kh_X10_hasOnly _).1 _ _ _ _ _
        | exact (kh_X10_is _) _ _ _ _ _
        | exact (kh_X11_admit _) _ _ _
        | exact (kh_X11_byColumns _).1 _ _ _ _
        | exact (kh_X11_document _) _ _ _)

theorem kh_X11_compare : ∀ n : Nat, (∀ (d : Nat) (S : GS) (a1 : Int) (a2 : Int), PH 495 S (f_X11_compare n d 0 S [a1, a2]))
  | 0 => (fun _ _ _ _ => ph_none)
  | n + 1 => by
    have h0 := kh_X11_compare n
    · intro _ _ _ _
      rw [e_X11_compare_0]
      unfold b_X11_compare_0
      repeat' (with_reducible first
        | exact ph_none
        | exact ph_some
        | refine ph_gI (by first | decide | omega) (fun _ => ?_)
        | refine ph_gCp (by first | decide | omega) (fun _ => ?_)
        | refine ph_gB (by first | decide | omega) (fun _ => ?_)
        | refine ph_gR (by first | decide | omega) (fun _ => ?_)
        | refine ph_gv (fun _ => ?_)
        | refine ph_gg (fun _ => ?_)
        | refine ph_gc ?_ (fun _ _ => ?_)
        | refine ph_ite (fun _ => ?_) (fun _ => ?_)
        | exact (kh_X10_is _) _ _ _ _ _
        | exact (kh_X10_orderOfNumbers _).1 _ _ _ _ _ _
        | exact (kh_X11_document _) _ _ _)

theorem kh_X11_complaint : ∀ n : Nat, (∀ (d : Nat) (S : GS) (a1 : Int) (a2 : Int), PH 495 S (f_X11_complaint n d 0 S [a1, a2]))
  | 0 => (fun _ _ _ _ => ph_none)
  | n + 1 => by
    have h0 := kh_X11_complaint n
    · intro _ _ _ _
      rw [e_X11_complaint_0]
      unfold b_X11_complaint_0
      repeat' (with_reducible first
        | exact ph_none
        | exact ph_some
        | refine ph_gI (by first | decide | omega) (fun _ => ?_)
        | refine ph_gCp (by first | decide | omega) (fun _ => ?_)
        | refine ph_gB (by first | decide | omega) (fun _ => ?_)
        | refine ph_gR (by first | decide | omega) (fun _ => ?_)
        | refine ph_gv (fun _ => ?_)
        | refine ph_gg (fun _ => ?_)
        | refine ph_gc ?_ (fun _ _ => ?_)
        | refine ph_ite (fun _ => ?_) (fun _ => ?_)
        | exact (kh_X0_count _) _ _
        | exact (kh_X0_nodeAt _) _ _ _
        | exact (kh_X0_wordAt _) _ _ _)

theorem kh_X9_addPart : ∀ n : Nat, (∀ (d : Nat) (S : GS) (a0 : Nat) (a1 : Nat) (a2 : Int) (a3 : Int), PH 495 S (f_X9_addPart n d 0 S [((a0 : Nat) : Int), ((a1 : Nat) : Int), a2, a3])) ∧ (∀ (d : Nat) (S : GS) (a0 : Nat) (a1 : Nat) (a3 : Int) (a4 : Int), PH 495 S (f_X9_addPart n d 7 S [((a0 : Nat) : Int), ((a1 : Nat) : Int), a3, a4]))
  | 0 => ⟨(fun _ _ _ _ _ _ => ph_none), (fun _ _ _ _ _ _ => ph_none)⟩
  | n + 1 => by
    obtain ⟨h0, h7⟩ := kh_X9_addPart n
    refine ⟨?_, ?_⟩
    · intro _ _ _ _ _ _
      rw [e_X9_addPart_0]
      unfold b_X9_addPart_0
      repeat' (with_reducible first
        | exact ph_none
        | exact ph_some
        | refine ph_gI (by first | decide | omega) (fun _ => ?_)
        | refine ph_gCp (by first | decide | omega) (fun _ => ?_)
        | refine ph_gB (by first | decide | omega) (fun _ => ?_)
        | refine ph_gR (by first | decide | omega) (fun _ => ?_)
        | refine ph_gv (fun _ => ?_)
        | refine ph_gg (fun _ => ?_)
        | refine ph_gc ?_ (fun _ _ => ?_)
        | refine ph_ite (fun _ => ?_) (fun _ => ?_)
        | exact h7 _ _ _ _ _ _)
    · intro _ _ _ _ _ _
      rw [e_X9_addPart_7]
      unfold b_X9_addPart_7
      repeat' (with_reducible first
        | exact ph_none
        | exact ph_some
        | refine ph_gI (by first | decide | omega) (fun _ => ?_)
        | refine ph_gCp (by first | decide | omega) (fun _ => ?_)
        | refine ph_gB (by first | decide | omega) (fun _ => ?_)
        | refine ph_gR (by first | decide | omega) (fun _ => ?_)
        | refine ph_gv (fun _ => ?_)
        | refine ph_gg (fun _ => ?_)
        | refine ph_gc ?_ (fun _ _ => ?_)
        | refine ph_ite (fun _ => ?_) (fun _ => ?_)
        | exact h7 _ _ _ _ _ _
        | exact (kh_X9_add _) _ _ _ _
        | exact (kh_X9_at _) _ _ _ _
        | exact (kh_X9_length _) _ _ _)

theorem kh_X7_divide : ∀ n : Nat, (∀ (d : Nat) (S : GS) (a0 : Nat), PH 495 S (f_X7_divide n d 0 S [((a0 : Nat) : Int)])) ∧ (∀ (d : Nat) (S : GS) (a0 : Nat) (a1 : Int) (a2 : Int), PH 495 S (f_X7_divide n d 36 S [((a0 : Nat) : Int), a1, a2]))
  | 0 => ⟨(fun _ _ _ => ph_none), (fun _ _ _ _ _ => ph_none)⟩
  | n + 1 => by
    obtain ⟨h0, h36⟩ := kh_X7_divide n
    refine ⟨?_, ?_⟩
    · intro _ _ _
      rw [e_X7_divide_0]
      unfold b_X7_divide_0
      repeat' (with_reducible first
        | exact ph_none
        | exact ph_some
        | refine ph_gI (by first | decide | omega) (fun _ => ?_)
        | refine ph_gCp (by first | decide | omega) (fun _ => ?_)
        | refine ph_gB (by first | decide | omega) (fun _ => ?_)
        | refine ph_gR (by first | decide | omega) (fun _ => ?_)
        | refine ph_gv (fun _ => ?_)
        | refine ph_gg (fun _ => ?_)
        | refine ph_gc ?_ (fun _ _ => ?_)
        | refine ph_ite (fun _ => ?_) (fun _ => ?_)
        | exact h36 _ _ _ _ _
        | exact (kh_X9_at _) _ _ _ _
        | exact (kh_X9_length _) _ _ _)
    · intro _ _ _ _ _
      rw [e_X7_divide_36]
      unfold b_X7_divide_36
      repeat' (with_reducible first
        | exact ph_none
        | exact ph_some
        | refine ph_gI (by first | decide | omega) (fun _ => ?_)
        | refine ph_gCp (by first | decide | omega) (fun _ => ?_)
        | refine ph_gB (by first | decide | omega) (fun _ => ?_)
        | refine ph_gR (by first | decide | omega) (fun _ => ?_)
        | refine ph_gv (fun _ => ?_)
        | refine ph_gg (fun _ => ?_)
        | refine ph_gc ?_ (fun _ _ => ?_)
        | refine ph_ite (fun _ => ?_) (fun _ => ?_)
        | exact h36 _ _ _ _ _
        | exact (kh_X9_at _) _ _ _ _
        | exact (kh_X9_length _) _ _ _)

theorem kh_X7_load : ∀ n : Nat, (∀ (d : Nat) (S : GS) (a0 : Nat) (a1 : Nat), PH 495 S (f_X7_load n d 0 S [((a0 : Nat) : Int), ((a1 : Nat) : Int)]))
  | 0 => (fun _ _ _ _ => ph_none)
  | n + 1 => by
    have h0 := kh_X7_load n
    · intro _ _ _ _
      rw [e_X7_load_0]
      unfold b_X7_load_0
      repeat' (with_reducible first
        | exact ph_none
        | exact ph_some
        | refine ph_gI (by first | decide | omega) (fun _ => ?_)
        | refine ph_gCp (by first | decide | omega) (fun _ => ?_)
        | refine ph_gB (by first | decide | omega) (fun _ => ?_)
        | refine ph_gR (by first | decide | omega) (fun _ => ?_)
        | refine ph_gv (fun _ => ?_)
        | refine ph_gg (fun _ => ?_)
        | refine ph_gc ?_ (fun _ _ => ?_)
        | refine ph_ite (fun _ => ?_) (fun _ => ?_)
        | exact (kh_X7_divide _).1 _ _ _
        | exact (kh_X9_addPart _).1 _ _ _ _ _ _
        | exact (kh_X9_clear _) _ _ _
        | exact (kh_X9_length _) _ _ _)

theorem kh_X11_loadPage : ∀ n : Nat, (∀ (d : Nat) (S : GS), PH 495 S (f_X11_loadPage n d 0 S []))
  | 0 => (fun _ _ => ph_none)
  | n + 1 => by
    have h0 := kh_X11_loadPage n
    · intro _ _
      rw [e_X11_loadPage_0]
      unfold b_X11_loadPage_0
      repeat' (with_reducible first
        | exact ph_none
        | exact ph_some
        | refine ph_gI (by first | decide | omega) (fun _ => ?_)
        | refine ph_gCp (by first | decide | omega) (fun _ => ?_)
        | refine ph_gB (by first | decide | omega) (fun _ => ?_)
        | refine ph_gR (by first | decide | omega) (fun _ => ?_)
        | refine ph_gv (fun _ => ?_)
        | refine ph_gg (fun _ => ?_)
        | refine ph_gc ?_ (fun _ _ => ?_)
        | refine ph_ite (fun _ => ?_) (fun _ => ?_)
        | exact (kh_X7_load _) _ _ _ _)

theorem kh_X1_begin : ∀ n : Nat, (∀ (d : Nat) (S : GS) (a1 : Nat) (a2 : Int), PH 495 S (f_X1_begin n d 0 S [((a1 : Nat) : Int), a2]))
  | 0 => (fun _ _ _ _ => ph_none)
  | n + 1 => by
    have h0 := kh_X1_begin n
    · intro _ _ _ _
      rw [e_X1_begin_0]
      unfold b_X1_begin_0
      repeat' (with_reducible first
        | exact ph_none
        | exact ph_some
        | refine ph_gI (by first | decide | omega) (fun _ => ?_)
        | refine ph_gCp (by first | decide | omega) (fun _ => ?_)
        | refine ph_gB (by first | decide | omega) (fun _ => ?_)
        | refine ph_gR (by first | decide | omega) (fun _ => ?_)
        | refine ph_gv (fun _ => ?_)
        | refine ph_gg (fun _ => ?_)
        | refine ph_gc ?_ (fun _ _ => ?_)
        | refine ph_ite (fun _ => ?_) (fun _ => ?_)
        | exact (kh_X10_add _) _ _ _ _
        | exact (kh_X10_clear _) _ _ _
        | exact (kh_X10_copyOf _) _ _ _ _ _)

theorem kh_X7_steps : ∀ n : Nat, (∀ (d : Nat) (S : GS) (a0 : Nat), PH 495 S (f_X7_steps n d 0 S [((a0 : Nat) : Int)]))
  | 0 => (fun _ _ _ => ph_none)
  | n + 1 => by
    have h0 := kh_X7_steps n
    · intro _ _ _
      rw [e_X7_steps_0]
      unfold b_X7_steps_0
      repeat' (with_reducible first
        | exact ph_none
        | exact ph_some
        | refine ph_gI (by first | decide | omega) (fun _ => ?_)
        | refine ph_gCp (by first | decide | omega) (fun _ => ?_)
        | refine ph_gB (by first | decide | omega) (fun _ => ?_)
        | refine ph_gR (by first | decide | omega) (fun _ => ?_)
        | refine ph_gv (fun _ => ?_)
        | refine ph_gg (fun _ => ?_)
        | refine ph_gc ?_ (fun _ _ => ?_)
        | refine ph_ite (fun _ => ?_) (fun _ => ?_))

theorem kh_X7_startOf : ∀ n : Nat, (∀ (d : Nat) (S : GS) (a0 : Nat) (a1 : Int), PH 495 S (f_X7_startOf n d 0 S [((a0 : Nat) : Int), a1]))
  | 0 => (fun _ _ _ _ => ph_none)
  | n + 1 => by
    have h0 := kh_X7_startOf n
    · intro _ _ _ _
      rw [e_X7_startOf_0]
      unfold b_X7_startOf_0
      repeat' (with_reducible first
        | exact ph_none
        | exact ph_some
        | refine ph_gI (by first | decide | omega) (fun _ => ?_)
        | refine ph_gCp (by first | decide | omega) (fun _ => ?_)
        | refine ph_gB (by first | decide | omega) (fun _ => ?_)
        | refine ph_gR (by first | decide | omega) (fun _ => ?_)
        | refine ph_gv (fun _ => ?_)
        | refine ph_gg (fun _ => ?_)
        | refine ph_gc ?_ (fun _ _ => ?_)
        | refine ph_ite (fun _ => ?_) (fun _ => ?_)
        | exact (kh_X9_length _) _ _ _)

theorem kh_X7_wordTo : ∀ n : Nat, (∀ (d : Nat) (S : GS) (a0 : Nat) (a1 : Int) (a2 : Nat), PH 495 S (f_X7_wordTo n d 0 S [((a0 : Nat) : Int), a1, ((a2 : Nat) : Int)])) ∧ (∀ (d : Nat) (S : GS) (a0 : Nat) (a2 : Nat) (a3 : Int) (a4 : Int), PH 495 S (f_X7_wordTo n d 21 S [((a0 : Nat) : Int), ((a2 : Nat) : Int), a3, a4]))
  | 0 => ⟨(fun _ _ _ _ _ => ph_none), (fun _ _ _ _ _ _ => ph_none)⟩
  | n + 1 => by
    obtain ⟨h0, h21⟩ := kh_X7_wordTo n
    refine ⟨?_, ?_⟩
    · intro _ _ _ _ _
      rw [e_X7_wordTo_0]
      unfold b_X7_wordTo_0
      repeat' (with_reducible first
        | exact ph_none
        | exact ph_some
        | refine ph_gI (by first | decide | omega) (fun _ => ?_)
        | refine ph_gCp (by first | decide | omega) (fun _ => ?_)
        | refine ph_gB (by first | decide | omega) (fun _ => ?_)
        | refine ph_gR (by first | decide | omega) (fun _ => ?_)
        | refine ph_gv (fun _ => ?_)
        | refine ph_gg (fun _ => ?_)
        | refine ph_gc ?_ (fun _ _ => ?_)
        | refine ph_ite (fun _ => ?_) (fun _ => ?_)
        | exact h21 _ _ _ _ _ _
        | exact (kh_X7_startOf _) _ _ _ _
        | exact (kh_X9_clear _) _ _ _)
    · intro _ _ _ _ _ _
      rw [e_X7_wordTo_21]
      unfold b_X7_wordTo_21
      repeat' (with_reducible first
        | exact ph_none
        | exact ph_some
        | refine ph_gI (by first | decide | omega) (fun _ => ?_)
        | refine ph_gCp (by first | decide | omega) (fun _ => ?_)
        | refine ph_gB (by first | decide | omega) (fun _ => ?_)
        | refine ph_gR (by first | decide | omega) (fun _ => ?_)
        | refine ph_gv (fun _ => ?_)
        | refine ph_gg (fun _ => ?_)
        | refine ph_gc ?_ (fun _ _ => ?_)
        | refine ph_ite (fun _ => ?_) (fun _ => ?_)
        | exact h21 _ _ _ _ _ _
        | exact (kh_X9_add _) _ _ _ _
        | exact (kh_X9_at _) _ _ _ _)

theorem kh_X7_placeIn : ∀ n : Nat, (∀ (d : Nat) (S : GS) (a0 : Nat) (a1 : Int), PH 495 S (f_X7_placeIn n d 0 S [((a0 : Nat) : Int), a1])) ∧ (∀ (d : Nat) (S : GS) (a0 : Nat) (a3 : Int) (a4 : Int), PH 495 S (f_X7_placeIn n d 39 S [((a0 : Nat) : Int), a3, a4]))
  | 0 => ⟨(fun _ _ _ _ => ph_none), (fun _ _ _ _ _ => ph_none)⟩
  | n + 1 => by
    obtain ⟨h0, h39⟩ := kh_X7_placeIn n
    refine ⟨?_, ?_⟩
    · intro _ _ _ _
      rw [e_X7_placeIn_0]
      unfold b_X7_placeIn_0
      repeat' (with_reducible first
        | exact ph_none
        | exact ph_some
        | refine ph_gI (by first | decide | omega) (fun _ => ?_)
        | refine ph_gCp (by first | decide | omega) (fun _ => ?_)
        | refine ph_gB (by first | decide | omega) (fun _ => ?_)
        | refine ph_gR (by first | decide | omega) (fun _ => ?_)
        | refine ph_gv (fun _ => ?_)
        | refine ph_gg (fun _ => ?_)
        | refine ph_gc ?_ (fun _ _ => ?_)
        | refine ph_ite (fun _ => ?_) (fun _ => ?_)
        | exact h39 _ _ _ _ _
        | exact (kh_X9_at _) _ _ _ _
        | exact (kh_X9_length _) _ _ _)
    · intro _ _ _ _ _
      rw [e_X7_placeIn_39]
      unfold b_X7_placeIn_39
      repeat' (with_reducible first
        | exact ph_none
        | exact ph_some
        | refine ph_gI (by first | decide | omega) (fun _ => ?_)
        | refine ph_gCp (by first | decide | omega) (fun _ => ?_)
        | refine ph_gB (by first | decide | omega) (fun _ => ?_)
        | refine ph_gR (by first | decide | omega) (fun _ => ?_)
        | refine ph_gv (fun _ => ?_)
        | refine ph_gg (fun _ => ?_)
        | refine ph_gc ?_ (fun _ _ => ?_)
        | refine ph_ite (fun _ => ?_) (fun _ => ?_)
        | exact h39 _ _ _ _ _
        | exact (kh_X9_at _) _ _ _ _
        | exact (kh_X9_length _) _ _ _)

theorem kh_X7_leadsTo : ∀ n : Nat, (∀ (d : Nat) (S : GS) (a0 : Nat) (a1 : Nat) (a2 : Int), PH 495 S (f_X7_leadsTo n d 0 S [((a0 : Nat) : Int), ((a1 : Nat) : Int), a2])) ∧ (∀ (d : Nat) (S : GS) (a0 : Nat) (a1 : Nat) (a2 : Int) (a3 : Int) (a4 : Int), PH 495 S (f_X7_leadsTo n d 5 S [((a0 : Nat) : Int), ((a1 : Nat) : Int), a2, a3, a4]))
  | 0 => ⟨(fun _ _ _ _ _ => ph_none), (fun _ _ _ _ _ _ _ => ph_none)⟩
  | n + 1 => by
    obtain ⟨h0, h5⟩ := kh_X7_leadsTo n
    refine ⟨?_, ?_⟩
    · intro _ _ _ _ _
      rw [e_X7_leadsTo_0]
      unfold b_X7_leadsTo_0
      repeat' (with_reducible first
        | exact ph_none
        | exact ph_some
        | refine ph_gI (by first | decide | omega) (fun _ => ?_)
        | refine ph_gCp (by first | decide | omega) (fun _ => ?_)
        | refine ph_gB (by first | decide | omega) (fun _ => ?_)
        | refine ph_gR (by first | decide | omega) (fun _ => ?_)
        | refine ph_gv (fun _ => ?_)
        | refine ph_gg (fun _ => ?_)
        | refine ph_gc ?_ (fun _ _ => ?_)
        | refine ph_ite (fun _ => ?_) (fun _ => ?_)
        | exact h5 _ _ _ _ _ _ _)
    · intro _ _ _ _ _ _ _
      rw [e_X7_leadsTo_5]
      unfold b_X7_leadsTo_5
      repeat' (with_reducible first
        | exact ph_none
        | exact ph_some
        | refine ph_gI (by first | decide | omega) (fun _ => ?_)
        | refine ph_gCp (by first | decide | omega) (fun _ => ?_)
        | refine ph_gB (by first | decide | omega) (fun _ => ?_)
        | refine ph_gR (by first | decide | omega) (fun _ => ?_)
        | refine ph_gv (fun _ => ?_)
        | refine ph_gg (fun _ => ?_)
        | refine ph_gc ?_ (fun _ _ => ?_)
        | refine ph_ite (fun _ => ?_) (fun _ => ?_)
        | exact h5 _ _ _ _ _ _ _
        | exact (kh_X10_is _) _ _ _ _ _
        | exact (kh_X10_valueAt _).1 _ _ _ _ _
        | exact (kh_X10_valueOf _).1 _ _ _ _ _
        | exact (kh_X7_placeIn _).1 _ _ _ _
        | exact (kh_X7_wordTo _).1 _ _ _ _ _)

theorem kh_X7_textTo : ∀ n : Nat, (∀ (d : Nat) (S : GS) (a0 : Nat) (a1 : Nat), PH 495 S (f_X7_textTo n d 0 S [((a0 : Nat) : Int), ((a1 : Nat) : Int)]))
  | 0 => (fun _ _ _ _ => ph_none)
  | n + 1 => by
    have h0 := kh_X7_textTo n
    · intro _ _ _ _
      rw [e_X7_textTo_0]
      unfold b_X7_textTo_0
      repeat' (with_reducible first
        | exact ph_none
        | exact ph_some
        | refine ph_gI (by first | decide | omega) (fun _ => ?_)
        | refine ph_gCp (by first | decide | omega) (fun _ => ?_)
        | refine ph_gB (by first | decide | omega) (fun _ => ?_)
        | refine ph_gR (by first | decide | omega) (fun _ => ?_)
        | refine ph_gv (fun _ => ?_)
        | refine ph_gg (fun _ => ?_)
        | refine ph_gc ?_ (fun _ _ => ?_)
        | refine ph_ite (fun _ => ?_) (fun _ => ?_)
        | exact (kh_X9_addPart _).1 _ _ _ _ _ _
        | exact (kh_X9_clear _) _ _ _
        | exact (kh_X9_length _) _ _ _)

