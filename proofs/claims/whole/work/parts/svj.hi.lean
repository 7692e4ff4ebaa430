/-! CELLS that the class never touches -/
theorem kh_X11_sorted : ∀ n : Nat, (∀ (d : Nat) (S : GS) (a1 : Int), PH 495 S (f_X11_sorted n d 0 S [a1]))
  | 0 => (fun _ _ _ => ph_none)
  | n + 1 => by
    have h0 := kh_X11_sorted n
    · intro _ _ _
      rw [e_X11_sorted_0]
      unfold b_X11_sorted_0
      repeat' (with_reducible first
        | exact ph_none
        | exact ph_some
        | refine ph_gI (by first | decide | omega) (fun _ => ?_)
        | refine ph_gCp (by first | decide | omega) (fun _ => ?_)
        | refine ph_gB (by first | decide | omega) (fun _ => ?_)
        | refine ph_gR (by first | decide | omega) (fun _ => ?_)
        | refine ph_gv (fun _ => ?_)
        | refine ph_gg (fun _ => ?_)
        | refine ph_gc ?_ (fun _ _ => ?_)
        | refine ph_ite (fun _ => ?_) (fun _ => ?_)
        | exact (kh_X10_appendInOrder _).1 _ _ _ _ _ _
        | exact (kh_X10_clear _) _ _ _
        | exact (kh_X11_admit _) _ _ _
        | exact (kh_X11_document _) _ _ _)

theorem kh_X11_standard : ∀ n : Nat, (∀ (d : Nat) (S : GS), PH 495 S (f_X11_standard n d 0 S []))
  | 0 => (fun _ _ => ph_none)
  | n + 1 => by
    have h0 := kh_X11_standard n
    · intro _ _
      rw [e_X11_standard_0]
      unfold b_X11_standard_0
      repeat' (with_reducible first
        | exact ph_none
        | exact ph_some
        | refine ph_gI (by first | decide | omega) (fun _ => ?_)
        | refine ph_gCp (by first | decide | omega) (fun _ => ?_)
        | refine ph_gB (by first | decide | omega) (fun _ => ?_)
        | refine ph_gR (by first | decide | omega) (fun _ => ?_)
        | refine ph_gv (fun _ => ?_)
        | refine ph_gg (fun _ => ?_)
        | refine ph_gc ?_ (fun _ _ => ?_)
        | refine ph_ite (fun _ => ?_) (fun _ => ?_)
        | exact (kh_X11_admit _) _ _ _)

theorem kh_X11_sum : ∀ n : Nat, (∀ (d : Nat) (S : GS) (a1 : Int), PH 495 S (f_X11_sum n d 0 S [a1]))
  | 0 => (fun _ _ _ => ph_none)
  | n + 1 => by
    have h0 := kh_X11_sum n
    · intro _ _ _
      rw [e_X11_sum_0]
      unfold b_X11_sum_0
      repeat' (with_reducible first
        | exact ph_none
        | exact ph_some
        | refine ph_gI (by first | decide | omega) (fun _ => ?_)
        | refine ph_gCp (by first | decide | omega) (fun _ => ?_)
        | refine ph_gB (by first | decide | omega) (fun _ => ?_)
        | refine ph_gR (by first | decide | omega) (fun _ => ?_)
        | refine ph_gv (fun _ => ?_)
        | refine ph_gg (fun _ => ?_)
        | refine ph_gc ?_ (fun _ _ => ?_)
        | refine ph_ite (fun _ => ?_) (fun _ => ?_)
        | exact (kh_X0_count _) _ _
        | exact (kh_X11_allNodes _).1 _ _
        | exact (kh_X2_count _) _ _
        | exact (kh_X9_length _) _ _ _)

theorem kh_X11_take : ∀ n : Nat, (∀ (d : Nat) (S : GS) (a1 : Int) (a2 : Int), PH 495 S (f_X11_take n d 0 S [a1, a2]))
  | 0 => (fun _ _ _ _ => ph_none)
  | n + 1 => by
    have h0 := kh_X11_take n
    · intro _ _ _ _
      rw [e_X11_take_0]
      unfold b_X11_take_0
      repeat' (with_reducible first
        | exact ph_none
        | exact ph_some
        | refine ph_gI (by first | decide | omega) (fun _ => ?_)
        | refine ph_gCp (by first | decide | omega) (fun _ => ?_)
        | refine ph_gB (by first | decide | omega) (fun _ => ?_)
        | refine ph_gR (by first | decide | omega) (fun _ => ?_)
        | refine ph_gv (fun _ => ?_)
        | refine ph_gg (fun _ => ?_)
        | refine ph_gc ?_ (fun _ _ => ?_)
        | refine ph_ite (fun _ => ?_) (fun _ => ?_)
        | exact (kh_X10_copyOf _) _ _ _ _ _
        | exact (kh_X11_admit _) _ _ _
        | exact (kh_X11_documentWith _) _ _ _ _)

theorem kh_X11_tell : ∀ n : Nat, (∀ (d : Nat) (S : GS) (a1 : Int) (a2 : Int) (a3 : Int), PH 495 S (f_X11_tell n d 0 S [a1, a2, a3]))
  | 0 => (fun _ _ _ _ _ => ph_none)
  | n + 1 => by
    have h0 := kh_X11_tell n
    · intro _ _ _ _ _
      rw [e_X11_tell_0]
      unfold b_X11_tell_0
      repeat' (with_reducible first
        | exact ph_none
        | exact ph_some
        | refine ph_gI (by first | decide | omega) (fun _ => ?_)
        | refine ph_gCp (by first | decide | omega) (fun _ => ?_)
        | refine ph_gB (by first | decide | omega) (fun _ => ?_)
        | refine ph_gR (by first | decide | omega) (fun _ => ?_)
        | refine ph_gv (fun _ => ?_)
        | refine ph_gg (fun _ => ?_)
        | refine ph_gc ?_ (fun _ _ => ?_)
        | refine ph_ite (fun _ => ?_) (fun _ => ?_)
        | exact (kh_X10_keyTo _).1 _ _ _ _ _
        | exact (kh_X10_pathTo _).1 _ _ _ _ _
        | exact (kh_X10_signsTo _).1 _ _ _ _ _
        | exact (kh_X11_canTell _) _ _ _ _ _
        | exact (kh_X11_documentWith _) _ _ _ _
        | exact (kh_X9_clear _) _ _ _
        | exact (kh_X9_length _) _ _ _)

theorem kh_X1_wayBack : ∀ n : Nat, (∀ (d : Nat) (S : GS), PH 495 S (f_X1_wayBack n d 0 S []))
  | 0 => (fun _ _ => ph_none)
  | n + 1 => by
    have h0 := kh_X1_wayBack n
    · intro _ _
      rw [e_X1_wayBack_0]
      unfold b_X1_wayBack_0
      repeat' (with_reducible first
        | exact ph_none
        | exact ph_some
        | refine ph_gI (by first | decide | omega) (fun _ => ?_)
        | refine ph_gCp (by first | decide | omega) (fun _ => ?_)
        | refine ph_gB (by first | decide | omega) (fun _ => ?_)
        | refine ph_gR (by first | decide | omega) (fun _ => ?_)
        | refine ph_gv (fun _ => ?_)
        | refine ph_gg (fun _ => ?_)
        | refine ph_gc ?_ (fun _ _ => ?_)
        | refine ph_ite (fun _ => ?_) (fun _ => ?_))

theorem kh_X11_turn : ∀ n : Nat, (∀ (d : Nat) (S : GS) (a1 : Int) (a2 : Int), PH 495 S (f_X11_turn n d 0 S [a1, a2]))
  | 0 => (fun _ _ _ _ => ph_none)
  | n + 1 => by
    have h0 := kh_X11_turn n
    · intro _ _ _ _
      rw [e_X11_turn_0]
      unfold b_X11_turn_0
      repeat' (with_reducible first
        | exact ph_none
        | exact ph_some
        | refine ph_gI (by first | decide | omega) (fun _ => ?_)
        | refine ph_gCp (by first | decide | omega) (fun _ => ?_)
        | refine ph_gB (by first | decide | omega) (fun _ => ?_)
        | refine ph_gR (by first | decide | omega) (fun _ => ?_)
        | refine ph_gv (fun _ => ?_)
        | refine ph_gg (fun _ => ?_)
        | refine ph_gc ?_ (fun _ _ => ?_)
        | refine ph_ite (fun _ => ?_) (fun _ => ?_)
        | exact (kh_X10_is _) _ _ _ _ _
        | exact (kh_X11_admit _) _ _ _
        | exact (kh_X11_document _) _ _ _
        | exact (kh_X1_begin _) _ _ _ _
        | exact (kh_X1_layAll _).1 _ _ _
        | exact (kh_X1_wayBack _) _ _)

theorem kh_X11_undo : ∀ n : Nat, (∀ (d : Nat) (S : GS), PH 495 S (f_X11_undo n d 0 S []))
  | 0 => (fun _ _ => ph_none)
  | n + 1 => by
    have h0 := kh_X11_undo n
    · intro _ _
      rw [e_X11_undo_0]
      unfold b_X11_undo_0
      repeat' (with_reducible first
        | exact ph_none
        | exact ph_some
        | refine ph_gI (by first | decide | omega) (fun _ => ?_)
        | refine ph_gCp (by first | decide | omega) (fun _ => ?_)
        | refine ph_gB (by first | decide | omega) (fun _ => ?_)
        | refine ph_gR (by first | decide | omega) (fun _ => ?_)
        | refine ph_gv (fun _ => ?_)
        | refine ph_gg (fun _ => ?_)
        | refine ph_gc ?_ (fun _ _ => ?_)
        | refine ph_ite (fun _ => ?_) (fun _ => ?_))

theorem kh_X11_vary : ∀ n : Nat, (∀ (d : Nat) (S : GS) (a1 : Int) (a2 : Int), PH 495 S (f_X11_vary n d 0 S [a1, a2]))
  | 0 => (fun _ _ _ _ => ph_none)
  | n + 1 => by
    have h0 := kh_X11_vary n
    · intro _ _ _ _
      rw [e_X11_vary_0]
      unfold b_X11_vary_0
      repeat' (with_reducible first
        | exact ph_none
        | exact ph_some
        | refine ph_gI (by first | decide | omega) (fun _ => ?_)
        | refine ph_gCp (by first | decide | omega) (fun _ => ?_)
        | refine ph_gB (by first | decide | omega) (fun _ => ?_)
        | refine ph_gR (by first | decide | omega) (fun _ => ?_)
        | refine ph_gv (fun _ => ?_)
        | refine ph_gg (fun _ => ?_)
        | refine ph_gc ?_ (fun _ _ => ?_)
        | refine ph_ite (fun _ => ?_) (fun _ => ?_)
        | exact (kh_X10_copyOf _) _ _ _ _ _
        | exact (kh_X10_count _) _ _ _
        | exact (kh_X10_replace _) _ _ _ _ _ _
        | exact (kh_X11_admit _) _ _ _
        | exact (kh_X11_document _) _ _ _
        | exact (kh_X3_begin _) _ _ _
        | exact (kh_X3_draw _) _ _ _
        | exact (kh_X3_entry _).2.2.2.1 _ _ _ _
        | exact (kh_X3_result _) _ _)

theorem kh_X11_wipe : ∀ n : Nat, (∀ (d : Nat) (S : GS), PH 495 S (f_X11_wipe n d 0 S []))
  | 0 => (fun _ _ => ph_none)
  | n + 1 => by
    have h0 := kh_X11_wipe n
    · intro _ _
      rw [e_X11_wipe_0]
      unfold b_X11_wipe_0
      repeat' (with_reducible first
        | exact ph_none
        | exact ph_some
        | refine ph_gI (by first | decide | omega) (fun _ => ?_)
        | refine ph_gCp (by first | decide | omega) (fun _ => ?_)
        | refine ph_gB (by first | decide | omega) (fun _ => ?_)
        | refine ph_gR (by first | decide | omega) (fun _ => ?_)
        | refine ph_gv (fun _ => ?_)
        | refine ph_gg (fun _ => ?_)
        | refine ph_gc ?_ (fun _ _ => ?_)
        | refine ph_ite (fun _ => ?_) (fun _ => ?_)
        | exact (kh_X9_clear _) _ _ _
        | exact (kh_X9_length _) _ _ _)

theorem kh_X11_write : ∀ n : Nat, (∀ (d : Nat) (S : GS) (a1 : Int) (a2 : Int), PH 495 S (f_X11_write n d 0 S [a1, a2])) ∧ (∀ (d : Nat) (S : GS) (a2 : Int) (a4 : Int), PH 495 S (f_X11_write n d 55 S [a2, a4]))
  | 0 => ⟨(fun _ _ _ _ => ph_none), (fun _ _ _ _ => ph_none)⟩
  | n + 1 => by
    obtain ⟨h0, h55⟩ := kh_X11_write n
    refine ⟨?_, ?_⟩
    · intro _ _ _ _
      rw [e_X11_write_0]
      unfold b_X11_write_0
      repeat' (with_reducible first
        | exact ph_none
        | exact ph_some
        | refine ph_gI (by first | decide | omega) (fun _ => ?_)
        | refine ph_gCp (by first | decide | omega) (fun _ => ?_)
        | refine ph_gB (by first | decide | omega) (fun _ => ?_)
        | refine ph_gR (by first | decide | omega) (fun _ => ?_)
        | refine ph_gv (fun _ => ?_)
        | refine ph_gg (fun _ => ?_)
        | refine ph_gc ?_ (fun _ _ => ?_)
        | refine ph_ite (fun _ => ?_) (fun _ => ?_)
        | exact h55 _ _ _ _
        | exact (kh_X11_areSigns _).1 _ _ _ _
        | exact (kh_X9_length _) _ _ _)
    · intro _ _ _ _
      rw [e_X11_write_55]
      unfold b_X11_write_55
      repeat' (with_reducible first
        | exact ph_none
        | exact ph_some
        | refine ph_gI (by first | decide | omega) (fun _ => ?_)
        | refine ph_gCp (by first | decide | omega) (fun _ => ?_)
        | refine ph_gB (by first | decide | omega) (fun _ => ?_)
        | refine ph_gR (by first | decide | omega) (fun _ => ?_)
        | refine ph_gv (fun _ => ?_)
        | refine ph_gg (fun _ => ?_)
        | refine ph_gc ?_ (fun _ _ => ?_)
        | refine ph_ite (fun _ => ?_) (fun _ => ?_)
        | exact h55 _ _ _ _
        | exact (kh_X11_letterAt _) _ _ _ _
        | exact (kh_X9_add _) _ _ _ _
        | exact (kh_X9_length _) _ _ _)

theorem kh_X8_standardTo : ∀ n : Nat, (∀ (d : Nat) (S : GS) (a0 : Nat), PH 495 S (f_X8_standardTo n d 0 S [((a0 : Nat) : Int)]))
  | 0 => (fun _ _ _ => ph_none)
  | n + 1 => by
    have h0 := kh_X8_standardTo n
    · intro _ _ _
      rw [e_X8_standardTo_0]
      unfold b_X8_standardTo_0
      repeat' (with_reducible first
        | exact ph_none
        | exact ph_some
        | refine ph_gI (by first | decide | omega) (fun _ => ?_)
        | refine ph_gCp (by first | decide | omega) (fun _ => ?_)
        | refine ph_gB (by first | decide | omega) (fun _ => ?_)
        | refine ph_gR (by first | decide | omega) (fun _ => ?_)
        | refine ph_gv (fun _ => ?_)
        | refine ph_gg (fun _ => ?_)
        | refine ph_gc ?_ (fun _ _ => ?_)
        | refine ph_ite (fun _ => ?_) (fun _ => ?_)
        | exact (kh_X9_addAll _).1 _ _ _ _
        | exact (kh_X9_clear _) _ _ _)

theorem kh_X11_init : ∀ n : Nat, (∀ (d : Nat) (S : GS), PH 495 S (f_X11_init n d 193 S []))
  | 0 => (fun _ _ => ph_none)
  | n + 1 => by
    have h193 := kh_X11_init n
    · intro _ _
      rw [e_X11_init_193]
      unfold b_X11_init_193
      repeat' (with_reducible first
        | exact ph_none
        | exact ph_some
        | refine ph_gI (by first | decide | omega) (fun _ => ?_)
        | refine ph_gCp (by first | decide | omega) (fun _ => ?_)
        | refine ph_gB (by first | decide | omega) (fun _ => ?_)
        | refine ph_gR (by first | decide | omega) (fun _ => ?_)
        | refine ph_gv (fun _ => ?_)
        | refine ph_gg (fun _ => ?_)
        | refine ph_gc ?_ (fun _ _ => ?_)
        | refine ph_ite (fun _ => ?_) (fun _ => ?_)
        | exact (kh_X10_copyOf _) _ _ _ _ _
        | exact (kh_X6_parse _) _ _ _ _
        | exact (kh_X6_result _) _ _
        | exact (kh_X8_standardTo _) _ _ _)

