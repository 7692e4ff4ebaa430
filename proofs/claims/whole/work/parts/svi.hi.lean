/-! CELLS that the class never touches -/
theorem kh_X5_markPairs : ∀ n : Nat, (∀ (d : Nat) (S : GS) (a1 : Int) (a2 : Int), PH 495 S (f_X5_markPairs n d 0 S [a1, a2])) ∧ (∀ (d : Nat) (S : GS) (a1 : Int) (a2 : Int) (a3 : Int) (a4 : Int) (a5 : Int), PH 495 S (f_X5_markPairs n d 8 S [a1, a2, a3, a4, a5]))
  | 0 => ⟨(fun _ _ _ _ => ph_none), (fun _ _ _ _ _ _ _ => ph_none)⟩
  | n + 1 => by
    obtain ⟨h0, h8⟩ := kh_X5_markPairs n
    refine ⟨?_, ?_⟩
    · intro _ _ _ _
      rw [e_X5_markPairs_0]
      unfold b_X5_markPairs_0
      repeat' (with_reducible first
        | exact ph_none
        | exact ph_some
        | refine ph_gI (by first | decide | omega) (fun _ => ?_)
        | refine ph_gCp (by first | decide | omega) (fun _ => ?_)
        | refine ph_gB (by first | decide | omega) (fun _ => ?_)
        | refine ph_gR (by first | decide | omega) (fun _ => ?_)
        | refine ph_gv (fun _ => ?_)
        | refine ph_gg (fun _ => ?_)
        | refine ph_gc ?_ (fun _ _ => ?_)
        | refine ph_ite (fun _ => ?_) (fun _ => ?_)
        | exact h8 _ _ _ _ _ _ _)
    · intro _ _ _ _ _ _ _
      rw [e_X5_markPairs_8]
      unfold b_X5_markPairs_8
      repeat' (with_reducible first
        | exact ph_none
        | exact ph_some
        | refine ph_gI (by first | decide | omega) (fun _ => ?_)
        | refine ph_gCp (by first | decide | omega) (fun _ => ?_)
        | refine ph_gB (by first | decide | omega) (fun _ => ?_)
        | refine ph_gR (by first | decide | omega) (fun _ => ?_)
        | refine ph_gv (fun _ => ?_)
        | refine ph_gg (fun _ => ?_)
        | refine ph_gc ?_ (fun _ _ => ?_)
        | refine ph_ite (fun _ => ?_) (fun _ => ?_)
        | exact h8 _ _ _ _ _ _ _
        | exact (kh_X5_pairsFrom _) _ _ _ _)

theorem kh_X5_addAtPlace : ∀ n : Nat, (∀ (d : Nat) (S : GS) (a1 : Nat) (a2 : Int) (a3 : Int), PH 495 S (f_X5_addAtPlace n d 0 S [((a1 : Nat) : Int), a2, a3]))
  | 0 => (fun _ _ _ _ _ => ph_none)
  | n + 1 => by
    have h0 := kh_X5_addAtPlace n
    · intro _ _ _ _ _
      rw [e_X5_addAtPlace_0]
      unfold b_X5_addAtPlace_0
      repeat' (with_reducible first
        | exact ph_none
        | exact ph_some
        | refine ph_gI (by first | decide | omega) (fun _ => ?_)
        | refine ph_gCp (by first | decide | omega) (fun _ => ?_)
        | refine ph_gB (by first | decide | omega) (fun _ => ?_)
        | refine ph_gR (by first | decide | omega) (fun _ => ?_)
        | refine ph_gv (fun _ => ?_)
        | refine ph_gg (fun _ => ?_)
        | refine ph_gc ?_ (fun _ _ => ?_)
        | refine ph_ite (fun _ => ?_) (fun _ => ?_)
        | exact (kh_X5_add _).1 _ _ _ _ _ _ _
        | exact (kh_X9_add _) _ _ _ _
        | exact (kh_X9_addNumber _).1 _ _ _ _)

theorem kh_X5_betweenRows : ∀ n : Nat, (∀ (d : Nat) (S : GS) (a1 : Int) (a2 : Int), PH 495 S (f_X5_betweenRows n d 0 S [a1, a2])) ∧ (∀ (d : Nat) (S : GS) (a4 : Int) (a5 : Int) (a6 : Int), PH 495 S (f_X5_betweenRows n d 62 S [a4, a5, a6])) ∧ (∀ (d : Nat) (S : GS) (a4 : Int) (a5 : Int) (a6 : Int), PH 495 S (f_X5_betweenRows n d 112 S [a4, a5, a6]))
  | 0 => ⟨(fun _ _ _ _ => ph_none), (fun _ _ _ _ _ => ph_none), (fun _ _ _ _ _ => ph_none)⟩
  | n + 1 => by
    obtain ⟨h0, h62, h112⟩ := kh_X5_betweenRows n
    refine ⟨?_, ?_, ?_⟩
    · intro _ _ _ _
      rw [e_X5_betweenRows_0]
      unfold b_X5_betweenRows_0
      repeat' (with_reducible first
        | exact ph_none
        | exact ph_some
        | refine ph_gI (by first | decide | omega) (fun _ => ?_)
        | refine ph_gCp (by first | decide | omega) (fun _ => ?_)
        | refine ph_gB (by first | decide | omega) (fun _ => ?_)
        | refine ph_gR (by first | decide | omega) (fun _ => ?_)
        | refine ph_gv (fun _ => ?_)
        | refine ph_gg (fun _ => ?_)
        | refine ph_gc ?_ (fun _ _ => ?_)
        | refine ph_ite (fun _ => ?_) (fun _ => ?_)
        | exact h62 _ _ _ _ _
        | exact (kh_X5_countPairs _).1 _ _ _ _
        | exact (kh_X5_gather _).1 _ _ _ _ _
        | exact (kh_X5_markPairs _).1 _ _ _ _
        | exact (kh_X5_matchAll _).1 _ _ _ _
        | exact (kh_X9_length _) _ _ _)
    · intro _ _ _ _ _
      rw [e_X5_betweenRows_62]
      unfold b_X5_betweenRows_62
      repeat' (with_reducible first
        | exact ph_none
        | exact ph_some
        | refine ph_gI (by first | decide | omega) (fun _ => ?_)
        | refine ph_gCp (by first | decide | omega) (fun _ => ?_)
        | refine ph_gB (by first | decide | omega) (fun _ => ?_)
        | refine ph_gR (by first | decide | omega) (fun _ => ?_)
        | refine ph_gv (fun _ => ?_)
        | refine ph_gg (fun _ => ?_)
        | refine ph_gc ?_ (fun _ _ => ?_)
        | refine ph_ite (fun _ => ?_) (fun _ => ?_)
        | exact h62 _ _ _ _ _
        | exact h112 _ _ _ _ _
        | exact (kh_X5_addAtPlace _) _ _ _ _ _
        | exact (kh_X9_shorten _) _ _ _ _)
    · intro _ _ _ _ _
      rw [e_X5_betweenRows_112]
      unfold b_X5_betweenRows_112
      repeat' (with_reducible first
        | exact ph_none
        | exact ph_some
        | refine ph_gI (by first | decide | omega) (fun _ => ?_)
        | refine ph_gCp (by first | decide | omega) (fun _ => ?_)
        | refine ph_gB (by first | decide | omega) (fun _ => ?_)
        | refine ph_gR (by first | decide | omega) (fun _ => ?_)
        | refine ph_gv (fun _ => ?_)
        | refine ph_gg (fun _ => ?_)
        | refine ph_gc ?_ (fun _ _ => ?_)
        | refine ph_ite (fun _ => ?_) (fun _ => ?_)
        | exact h112 _ _ _ _ _
        | exact (kh_X5_addAtPlace _) _ _ _ _ _
        | exact (kh_X9_shorten _) _ _ _ _)

theorem kh_X5_between : ∀ n : Nat, (∀ (d : Nat) (S : GS) (a1 : Int) (a2 : Int) (a3 : Int), PH 495 S (f_X5_between n d 0 S [a1, a2, a3])) ∧ (∀ (d : Nat) (S : GS) (a1 : Int) (a2 : Int), PH 495 S (f_X5_between n d 58 S [a1, a2])) ∧ (∀ (d : Nat) (S : GS) (a2 : Int), PH 495 S (f_X5_between n d 91 S [a2])) ∧ (∀ (d : Nat) (S : GS) (a1 : Int) (a2 : Int) (a3 : Int), PH 495 S (f_X5_between n d 10000 S [a1, a2, a3])) ∧ (∀ (d : Nat) (S : GS) (a1 : Int) (a2 : Int) (a3 : Int) (a4 : Int) (a5 : Int) (a6 : Int), PH 495 S (f_X5_between n d 10022 S [a1, a2, a3, a4, a5, a6])) ∧ (∀ (d : Nat) (S : GS) (a1 : Int) (a2 : Int) (a3 : Int) (a4 : Int) (a5 : Int) (a6 : Int), PH 495 S (f_X5_between n d 10093 S [a1, a2, a3, a4, a5, a6])) ∧ (∀ (d : Nat) (S : GS) (a1 : Int) (a2 : Int) (a3 : Int) (a4 : Int) (a5 : Int) (a6 : Int), PH 495 S (f_X5_between n d 10124 S [a1, a2, a3, a4, a5, a6])) ∧ (∀ (d : Nat) (S : GS) (a1 : Int) (a2 : Int) (a3 : Int) (a4 : Int) (a5 : Int) (a6 : Int), PH 495 S (f_X5_between n d 10192 S [a1, a2, a3, a4, a5, a6])) ∧ (∀ (d : Nat) (S : GS) (a1 : Int) (a2 : Int) (a4 : Int) (a5 : Int) (a6 : Int), PH 495 S (f_X5_between n d 10223 S [a1, a2, a4, a5, a6])) ∧ (∀ (d : Nat) (S : GS) (a1 : Int) (a2 : Int) (a4 : Int) (a5 : Int) (a6 : Int), PH 495 S (f_X5_between n d 10295 S [a1, a2, a4, a5, a6]))
  | 0 => ⟨(fun _ _ _ _ _ => ph_none), (fun _ _ _ _ => ph_none), (fun _ _ _ => ph_none), (fun _ _ _ _ _ => ph_none), (fun _ _ _ _ _ _ _ _ => ph_none), (fun _ _ _ _ _ _ _ _ => ph_none), (fun _ _ _ _ _ _ _ _ => ph_none), (fun _ _ _ _ _ _ _ _ => ph_none), (fun _ _ _ _ _ _ _ => ph_none), (fun _ _ _ _ _ _ _ => ph_none)⟩
  | n + 1 => by
    obtain ⟨h0, h58, h91, h10000, h10022, h10093, h10124, h10192, h10223, h10295⟩ := kh_X5_between n
    refine ⟨?_, ?_, ?_, ?_, ?_, ?_, ?_, ?_, ?_, ?_⟩
    · intro _ _ _ _ _
      rw [e_X5_between_0]
      unfold b_X5_between_0
      repeat' (with_reducible first
        | exact ph_none
        | exact ph_some
        | refine ph_gI (by first | decide | omega) (fun _ => ?_)
        | refine ph_gCp (by first | decide | omega) (fun _ => ?_)
        | refine ph_gB (by first | decide | omega) (fun _ => ?_)
        | refine ph_gR (by first | decide | omega) (fun _ => ?_)
        | refine ph_gv (fun _ => ?_)
        | refine ph_gg (fun _ => ?_)
        | refine ph_gc ?_ (fun _ _ => ?_)
        | refine ph_ite (fun _ => ?_) (fun _ => ?_)
        | exact h58 _ _ _ _
        | exact h10000 _ _ _ _ _
        | exact (kh_X10_is _) _ _ _ _ _
        | exact (kh_X10_same _).1 _ _ _ _ _ _ _)
    · intro _ _ _ _
      rw [e_X5_between_58]
      unfold b_X5_between_58
      repeat' (with_reducible first
        | exact ph_none
        | exact ph_some
        | refine ph_gI (by first | decide | omega) (fun _ => ?_)
        | refine ph_gCp (by first | decide | omega) (fun _ => ?_)
        | refine ph_gB (by first | decide | omega) (fun _ => ?_)
        | refine ph_gR (by first | decide | omega) (fun _ => ?_)
        | refine ph_gv (fun _ => ?_)
        | refine ph_gg (fun _ => ?_)
        | refine ph_gc ?_ (fun _ _ => ?_)
        | refine ph_ite (fun _ => ?_) (fun _ => ?_)
        | exact h91 _ _ _
        | exact (kh_X10_is _) _ _ _ _ _
        | exact (kh_X5_betweenRows _).1 _ _ _ _)
    · intro _ _ _
      rw [e_X5_between_91]
      unfold b_X5_between_91
      repeat' (with_reducible first
        | exact ph_none
        | exact ph_some
        | refine ph_gI (by first | decide | omega) (fun _ => ?_)
        | refine ph_gCp (by first | decide | omega) (fun _ => ?_)
        | refine ph_gB (by first | decide | omega) (fun _ => ?_)
        | refine ph_gR (by first | decide | omega) (fun _ => ?_)
        | refine ph_gv (fun _ => ?_)
        | refine ph_gg (fun _ => ?_)
        | refine ph_gc ?_ (fun _ _ => ?_)
        | refine ph_ite (fun _ => ?_) (fun _ => ?_)
        | exact (kh_X5_add _).1 _ _ _ _ _ _ _)
    · intro _ _ _ _ _
      rw [e_X5_betweenMaps_0]
      unfold b_X5_betweenMaps_0
      repeat' (with_reducible first
        | exact ph_none
        | exact ph_some
        | refine ph_gI (by first | decide | omega) (fun _ => ?_)
        | refine ph_gCp (by first | decide | omega) (fun _ => ?_)
        | refine ph_gB (by first | decide | omega) (fun _ => ?_)
        | refine ph_gR (by first | decide | omega) (fun _ => ?_)
        | refine ph_gv (fun _ => ?_)
        | refine ph_gg (fun _ => ?_)
        | refine ph_gc ?_ (fun _ _ => ?_)
        | refine ph_ite (fun _ => ?_) (fun _ => ?_)
        | exact h10022 _ _ _ _ _ _ _ _
        | exact (kh_X10_first _).1 _ _ _ _
        | exact (kh_X9_length _) _ _ _)
    · intro _ _ _ _ _ _ _ _
      rw [e_X5_betweenMaps_22]
      unfold b_X5_betweenMaps_22
      repeat' (with_reducible first
        | exact ph_none
        | exact ph_some
        | refine ph_gI (by first | decide | omega) (fun _ => ?_)
        | refine ph_gCp (by first | decide | omega) (fun _ => ?_)
        | refine ph_gB (by first | decide | omega) (fun _ => ?_)
        | refine ph_gR (by first | decide | omega) (fun _ => ?_)
        | refine ph_gv (fun _ => ?_)
        | refine ph_gg (fun _ => ?_)
        | refine ph_gc ?_ (fun _ _ => ?_)
        | refine ph_ite (fun _ => ?_) (fun _ => ?_)
        | exact h10093 _ _ _ _ _ _ _ _
        | exact h10124 _ _ _ _ _ _ _ _
        | exact (kh_X10_first _).1 _ _ _ _
        | exact (kh_X10_stepTo _).1 _ _ _ _ _
        | exact (kh_X10_valueLike _).1 _ _ _ _ _ _
        | exact (kh_X5_add _).1 _ _ _ _ _ _ _
        | exact (kh_X9_shorten _) _ _ _ _)
    · intro _ _ _ _ _ _ _ _
      rw [e_X5_betweenMaps_93]
      unfold b_X5_betweenMaps_93
      repeat' (with_reducible first
        | exact ph_none
        | exact ph_some
        | refine ph_gI (by first | decide | omega) (fun _ => ?_)
        | refine ph_gCp (by first | decide | omega) (fun _ => ?_)
        | refine ph_gB (by first | decide | omega) (fun _ => ?_)
        | refine ph_gR (by first | decide | omega) (fun _ => ?_)
        | refine ph_gv (fun _ => ?_)
        | refine ph_gg (fun _ => ?_)
        | refine ph_gc ?_ (fun _ _ => ?_)
        | refine ph_ite (fun _ => ?_) (fun _ => ?_)
        | exact h10022 _ _ _ _ _ _ _ _
        | exact (kh_X10_next _) _ _ _ _ _)
    · intro _ _ _ _ _ _ _ _
      rw [e_X5_betweenMaps_124]
      unfold b_X5_betweenMaps_124
      repeat' (with_reducible first
        | exact ph_none
        | exact ph_some
        | refine ph_gI (by first | decide | omega) (fun _ => ?_)
        | refine ph_gCp (by first | decide | omega) (fun _ => ?_)
        | refine ph_gB (by first | decide | omega) (fun _ => ?_)
        | refine ph_gR (by first | decide | omega) (fun _ => ?_)
        | refine ph_gv (fun _ => ?_)
        | refine ph_gg (fun _ => ?_)
        | refine ph_gc ?_ (fun _ _ => ?_)
        | refine ph_ite (fun _ => ?_) (fun _ => ?_)
        | exact h0 _ _ _ _ _
        | exact h10192 _ _ _ _ _ _ _ _
        | exact h10223 _ _ _ _ _ _ _
        | exact (kh_X10_first _).1 _ _ _ _
        | exact (kh_X10_stepTo _).1 _ _ _ _ _
        | exact (kh_X10_valueLike _).1 _ _ _ _ _ _
        | exact (kh_X9_shorten _) _ _ _ _)
    · intro _ _ _ _ _ _ _ _
      rw [e_X5_betweenMaps_192]
      unfold b_X5_betweenMaps_192
      repeat' (with_reducible first
        | exact ph_none
        | exact ph_some
        | refine ph_gI (by first | decide | omega) (fun _ => ?_)
        | refine ph_gCp (by first | decide | omega) (fun _ => ?_)
        | refine ph_gB (by first | decide | omega) (fun _ => ?_)
        | refine ph_gR (by first | decide | omega) (fun _ => ?_)
        | refine ph_gv (fun _ => ?_)
        | refine ph_gg (fun _ => ?_)
        | refine ph_gc ?_ (fun _ _ => ?_)
        | refine ph_ite (fun _ => ?_) (fun _ => ?_)
        | exact h10124 _ _ _ _ _ _ _ _
        | exact (kh_X10_next _) _ _ _ _ _)
    · intro _ _ _ _ _ _ _
      rw [e_X5_betweenMaps_223]
      unfold b_X5_betweenMaps_223
      repeat' (with_reducible first
        | exact ph_none
        | exact ph_some
        | refine ph_gI (by first | decide | omega) (fun _ => ?_)
        | refine ph_gCp (by first | decide | omega) (fun _ => ?_)
        | refine ph_gB (by first | decide | omega) (fun _ => ?_)
        | refine ph_gR (by first | decide | omega) (fun _ => ?_)
        | refine ph_gv (fun _ => ?_)
        | refine ph_gg (fun _ => ?_)
        | refine ph_gc ?_ (fun _ _ => ?_)
        | refine ph_ite (fun _ => ?_) (fun _ => ?_)
        | exact h10295 _ _ _ _ _ _ _
        | exact (kh_X10_stepTo _).1 _ _ _ _ _
        | exact (kh_X10_valueLike _).1 _ _ _ _ _ _
        | exact (kh_X5_add _).1 _ _ _ _ _ _ _
        | exact (kh_X9_shorten _) _ _ _ _)
    · intro _ _ _ _ _ _ _
      rw [e_X5_betweenMaps_295]
      unfold b_X5_betweenMaps_295
      repeat' (with_reducible first
        | exact ph_none
        | exact ph_some
        | refine ph_gI (by first | decide | omega) (fun _ => ?_)
        | refine ph_gCp (by first | decide | omega) (fun _ => ?_)
        | refine ph_gB (by first | decide | omega) (fun _ => ?_)
        | refine ph_gR (by first | decide | omega) (fun _ => ?_)
        | refine ph_gv (fun _ => ?_)
        | refine ph_gg (fun _ => ?_)
        | refine ph_gc ?_ (fun _ _ => ?_)
        | refine ph_ite (fun _ => ?_) (fun _ => ?_)
        | exact h10223 _ _ _ _ _ _ _
        | exact (kh_X10_next _) _ _ _ _ _)

theorem kh_X5_listTo : ∀ n : Nat, (∀ (d : Nat) (S : GS) (a1 : Nat) (a2 : Nat) (a3 : Nat), PH 495 S (f_X5_listTo n d 0 S [((a1 : Nat) : Int), ((a2 : Nat) : Int), ((a3 : Nat) : Int)]))
  | 0 => (fun _ _ _ _ _ => ph_none)
  | n + 1 => by
    have h0 := kh_X5_listTo n
    · intro _ _ _ _ _
      rw [e_X5_listTo_0]
      unfold b_X5_listTo_0
      repeat' (with_reducible first
        | exact ph_none
        | exact ph_some
        | refine ph_gI (by first | decide | omega) (fun _ => ?_)
        | refine ph_gCp (by first | decide | omega) (fun _ => ?_)
        | refine ph_gB (by first | decide | omega) (fun _ => ?_)
        | refine ph_gR (by first | decide | omega) (fun _ => ?_)
        | refine ph_gv (fun _ => ?_)
        | refine ph_gg (fun _ => ?_)
        | refine ph_gc ?_ (fun _ _ => ?_)
        | refine ph_ite (fun _ => ?_) (fun _ => ?_)
        | exact (kh_X10_add _) _ _ _ _
        | exact (kh_X10_clear _) _ _ _
        | exact (kh_X10_close _) _ _ _ _
        | exact (kh_X5_between _).1 _ _ _ _ _
        | exact (kh_X9_clear _) _ _ _)

theorem kh_X11_patch : ∀ n : Nat, (∀ (d : Nat) (S : GS) (a1 : Int) (a2 : Int), PH 495 S (f_X11_patch n d 0 S [a1, a2]))
  | 0 => (fun _ _ _ _ => ph_none)
  | n + 1 => by
    have h0 := kh_X11_patch n
    · intro _ _ _ _
      rw [e_X11_patch_0]
      unfold b_X11_patch_0
      repeat' (with_reducible first
        | exact ph_none
        | exact ph_some
        | refine ph_gI (by first | decide | omega) (fun _ => ?_)
        | refine ph_gCp (by first | decide | omega) (fun _ => ?_)
        | refine ph_gB (by first | decide | omega) (fun _ => ?_)
        | refine ph_gR (by first | decide | omega) (fun _ => ?_)
        | refine ph_gv (fun _ => ?_)
        | refine ph_gg (fun _ => ?_)
        | refine ph_gc ?_ (fun _ _ => ?_)
        | refine ph_ite (fun _ => ?_) (fun _ => ?_)
        | exact (kh_X11_admit _) _ _ _
        | exact (kh_X11_document _) _ _ _
        | exact (kh_X5_listTo _) _ _ _ _ _)

theorem kh_X11_print : ∀ n : Nat, (∀ (d : Nat) (S : GS) (a1 : Int) (a2 : Int), PH 495 S (f_X11_print n d 0 S [a1, a2]))
  | 0 => (fun _ _ _ _ => ph_none)
  | n + 1 => by
    have h0 := kh_X11_print n
    · intro _ _ _ _
      rw [e_X11_print_0]
      unfold b_X11_print_0
      repeat' (with_reducible first
        | exact ph_none
        | exact ph_some
        | refine ph_gI (by first | decide | omega) (fun _ => ?_)
        | refine ph_gCp (by first | decide | omega) (fun _ => ?_)
        | refine ph_gB (by first | decide | omega) (fun _ => ?_)
        | refine ph_gR (by first | decide | omega) (fun _ => ?_)
        | refine ph_gv (fun _ => ?_)
        | refine ph_gg (fun _ => ?_)
        | refine ph_gc ?_ (fun _ _ => ?_)
        | refine ph_ite (fun _ => ?_) (fun _ => ?_)
        | exact (kh_X11_document _) _ _ _
        | exact (kh_X8_group _).2.2.2.2.2.2.2.2 _ _ _ _ _ _ _
        | exact (kh_X9_clear _) _ _ _
        | exact (kh_X9_length _) _ _ _)

theorem kh_X11_put : ∀ n : Nat, (∀ (d : Nat) (S : GS) (a1 : Int) (a2 : Int), PH 495 S (f_X11_put n d 0 S [a1, a2]))
  | 0 => (fun _ _ _ _ => ph_none)
  | n + 1 => by
    have h0 := kh_X11_put n
    · intro _ _ _ _
      rw [e_X11_put_0]
      unfold b_X11_put_0
      repeat' (with_reducible first
        | exact ph_none
        | exact ph_some
        | refine ph_gI (by first | decide | omega) (fun _ => ?_)
        | refine ph_gCp (by first | decide | omega) (fun _ => ?_)
        | refine ph_gB (by first | decide | omega) (fun _ => ?_)
        | refine ph_gR (by first | decide | omega) (fun _ => ?_)
        | refine ph_gv (fun _ => ?_)
        | refine ph_gg (fun _ => ?_)
        | refine ph_gc ?_ (fun _ _ => ?_)
        | refine ph_ite (fun _ => ?_) (fun _ => ?_)
        | exact (kh_X11_admitAndWipe _) _ _ _
        | exact (kh_X11_document _) _ _ _
        | exact (kh_X11_loadPage _) _ _
        | exact (kh_X1_begin _) _ _ _ _
        | exact (kh_X1_putIn _).1 _ _ _ _ _
        | exact (kh_X1_result _) _ _)

theorem kh_X4_count : ∀ n : Nat, (∀ (d : Nat) (S : GS), PH 495 S (f_X4_count n d 0 S []))
  | 0 => (fun _ _ => ph_none)
  | n + 1 => by
    have h0 := kh_X4_count n
    · intro _ _
      rw [e_X4_count_0]
      unfold b_X4_count_0
      repeat' (with_reducible first
        | exact ph_none
        | exact ph_some
        | refine ph_gI (by first | decide | omega) (fun _ => ?_)
        | refine ph_gCp (by first | decide | omega) (fun _ => ?_)
        | refine ph_gB (by first | decide | omega) (fun _ => ?_)
        | refine ph_gR (by first | decide | omega) (fun _ => ?_)
        | refine ph_gv (fun _ => ?_)
        | refine ph_gg (fun _ => ?_)
        | refine ph_gc ?_ (fun _ _ => ?_)
        | refine ph_ite (fun _ => ?_) (fun _ => ?_))

theorem kh_X4_endOf : ∀ n : Nat, (∀ (d : Nat) (S : GS) (a1 : Int), PH 495 S (f_X4_endOf n d 0 S [a1]))
  | 0 => (fun _ _ _ => ph_none)
  | n + 1 => by
    have h0 := kh_X4_endOf n
    · intro _ _ _
      rw [e_X4_endOf_0]
      unfold b_X4_endOf_0
      repeat' (with_reducible first
        | exact ph_none
        | exact ph_some
        | refine ph_gI (by first | decide | omega) (fun _ => ?_)
        | refine ph_gCp (by first | decide | omega) (fun _ => ?_)
        | refine ph_gB (by first | decide | omega) (fun _ => ?_)
        | refine ph_gR (by first | decide | omega) (fun _ => ?_)
        | refine ph_gv (fun _ => ?_)
        | refine ph_gg (fun _ => ?_)
        | refine ph_gc ?_ (fun _ _ => ?_)
        | refine ph_ite (fun _ => ?_) (fun _ => ?_))

theorem kh_X4_pathTo : ∀ n : Nat, (∀ (d : Nat) (S : GS) (a1 : Int) (a2 : Nat), PH 495 S (f_X4_pathTo n d 0 S [a1, ((a2 : Nat) : Int)]))
  | 0 => (fun _ _ _ _ => ph_none)
  | n + 1 => by
    have h0 := kh_X4_pathTo n
    · intro _ _ _ _
      rw [e_X4_pathTo_0]
      unfold b_X4_pathTo_0
      repeat' (with_reducible first
        | exact ph_none
        | exact ph_some
        | refine ph_gI (by first | decide | omega) (fun _ => ?_)
        | refine ph_gCp (by first | decide | omega) (fun _ => ?_)
        | refine ph_gB (by first | decide | omega) (fun _ => ?_)
        | refine ph_gR (by first | decide | omega) (fun _ => ?_)
        | refine ph_gv (fun _ => ?_)
        | refine ph_gg (fun _ => ?_)
        | refine ph_gc ?_ (fun _ _ => ?_)
        | refine ph_ite (fun _ => ?_) (fun _ => ?_)
        | exact (kh_X4_endOf _) _ _ _
        | exact (kh_X9_addPart _).1 _ _ _ _ _ _)

theorem kh_X11_quarrel : ∀ n : Nat, (∀ (d : Nat) (S : GS) (a1 : Int), PH 495 S (f_X11_quarrel n d 0 S [a1]))
  | 0 => (fun _ _ _ => ph_none)
  | n + 1 => by
    have h0 := kh_X11_quarrel n
    · intro _ _ _
      rw [e_X11_quarrel_0]
      unfold b_X11_quarrel_0
      repeat' (with_reducible first
        | exact ph_none
        | exact ph_some
        | refine ph_gI (by first | decide | omega) (fun _ => ?_)
        | refine ph_gCp (by first | decide | omega) (fun _ => ?_)
        | refine ph_gB (by first | decide | omega) (fun _ => ?_)
        | refine ph_gR (by first | decide | omega) (fun _ => ?_)
        | refine ph_gv (fun _ => ?_)
        | refine ph_gg (fun _ => ?_)
        | refine ph_gc ?_ (fun _ _ => ?_)
        | refine ph_ite (fun _ => ?_) (fun _ => ?_)
        | exact (kh_X4_count _) _ _
        | exact (kh_X4_pathTo _) _ _ _ _
        | exact (kh_X9_clear _) _ _ _
        | exact (kh_X9_length _) _ _ _)

theorem kh_X11_quarrels : ∀ n : Nat, (∀ (d : Nat) (S : GS), PH 495 S (f_X11_quarrels n d 0 S []))
  | 0 => (fun _ _ => ph_none)
  | n + 1 => by
    have h0 := kh_X11_quarrels n
    · intro _ _
      rw [e_X11_quarrels_0]
      unfold b_X11_quarrels_0
      repeat' (with_reducible first
        | exact ph_none
        | exact ph_some
        | refine ph_gI (by first | decide | omega) (fun _ => ?_)
        | refine ph_gCp (by first | decide | omega) (fun _ => ?_)
        | refine ph_gB (by first | decide | omega) (fun _ => ?_)
        | refine ph_gR (by first | decide | omega) (fun _ => ?_)
        | refine ph_gv (fun _ => ?_)
        | refine ph_gg (fun _ => ?_)
        | refine ph_gc ?_ (fun _ _ => ?_)
        | refine ph_ite (fun _ => ?_) (fun _ => ?_)
        | exact (kh_X4_count _) _ _)

theorem kh_X11_read : ∀ n : Nat, (∀ (d : Nat) (S : GS), PH 495 S (f_X11_read n d 0 S []))
  | 0 => (fun _ _ => ph_none)
  | n + 1 => by
    have h0 := kh_X11_read n
    · intro _ _
      rw [e_X11_read_0]
      unfold b_X11_read_0
      repeat' (with_reducible first
        | exact ph_none
        | exact ph_some
        | refine ph_gI (by first | decide | omega) (fun _ => ?_)
        | refine ph_gCp (by first | decide | omega) (fun _ => ?_)
        | refine ph_gB (by first | decide | omega) (fun _ => ?_)
        | refine ph_gR (by first | decide | omega) (fun _ => ?_)
        | refine ph_gv (fun _ => ?_)
        | refine ph_gg (fun _ => ?_)
        | refine ph_gc ?_ (fun _ _ => ?_)
        | refine ph_ite (fun _ => ?_) (fun _ => ?_)
        | exact (kh_X11_admit _) _ _ _
        | exact (kh_X6_parse _) _ _ _ _
        | exact (kh_X6_result _) _ _
        | exact (kh_X9_clear _) _ _ _)

theorem kh_X11_rows : ∀ n : Nat, (∀ (d : Nat) (S : GS) (a1 : Int), PH 495 S (f_X11_rows n d 0 S [a1]))
  | 0 => (fun _ _ _ => ph_none)
  | n + 1 => by
    have h0 := kh_X11_rows n
    · intro _ _ _
      rw [e_X11_rows_0]
      unfold b_X11_rows_0
      repeat' (with_reducible first
        | exact ph_none
        | exact ph_some
        | refine ph_gI (by first | decide | omega) (fun _ => ?_)
        | refine ph_gCp (by first | decide | omega) (fun _ => ?_)
        | refine ph_gB (by first | decide | omega) (fun _ => ?_)
        | refine ph_gR (by first | decide | omega) (fun _ => ?_)
        | refine ph_gv (fun _ => ?_)
        | refine ph_gg (fun _ => ?_)
        | refine ph_gc ?_ (fun _ _ => ?_)
        | refine ph_ite (fun _ => ?_) (fun _ => ?_)
        | exact (kh_X11_admit _) _ _ _
        | exact (kh_X11_byRows _).1 _ _ _ _
        | exact (kh_X11_document _) _ _ _
        | exact (kh_X11_isByColumns _).1 _ _ _)

theorem kh_X11_rule : ∀ n : Nat, (∀ (d : Nat) (S : GS) (a1 : Int), PH 495 S (f_X11_rule n d 0 S [a1]))
  | 0 => (fun _ _ _ => ph_none)
  | n + 1 => by
    have h0 := kh_X11_rule n
    · intro _ _ _
      rw [e_X11_rule_0]
      unfold b_X11_rule_0
      repeat' (with_reducible first
        | exact ph_none
        | exact ph_some
        | refine ph_gI (by first | decide | omega) (fun _ => ?_)
        | refine ph_gCp (by first | decide | omega) (fun _ => ?_)
        | refine ph_gB (by first | decide | omega) (fun _ => ?_)
        | refine ph_gR (by first | decide | omega) (fun _ => ?_)
        | refine ph_gv (fun _ => ?_)
        | refine ph_gg (fun _ => ?_)
        | refine ph_gc ?_ (fun _ _ => ?_)
        | refine ph_ite (fun _ => ?_) (fun _ => ?_))

theorem kh_X2_begin : ∀ n : Nat, (∀ (d : Nat) (S : GS), PH 495 S (f_X2_begin n d 0 S [])) ∧ (∀ (d : Nat) (S : GS) (a1 : Int), PH 495 S (f_X2_begin n d 7 S [a1]))
  | 0 => ⟨(fun _ _ => ph_none), (fun _ _ _ => ph_none)⟩
  | n + 1 => by
    obtain ⟨h0, h7⟩ := kh_X2_begin n
    refine ⟨?_, ?_⟩
    · intro _ _
      rw [e_X2_begin_0]
      unfold b_X2_begin_0
      repeat' (with_reducible first
        | exact ph_none
        | exact ph_some
        | refine ph_gI (by first | decide | omega) (fun _ => ?_)
        | refine ph_gCp (by first | decide | omega) (fun _ => ?_)
        | refine ph_gB (by first | decide | omega) (fun _ => ?_)
        | refine ph_gR (by first | decide | omega) (fun _ => ?_)
        | refine ph_gv (fun _ => ?_)
        | refine ph_gg (fun _ => ?_)
        | refine ph_gc ?_ (fun _ _ => ?_)
        | refine ph_ite (fun _ => ?_) (fun _ => ?_)
        | exact h7 _ _ _)
    · intro _ _ _
      rw [e_X2_begin_7]
      unfold b_X2_begin_7
      repeat' (with_reducible first
        | exact ph_none
        | exact ph_some
        | refine ph_gI (by first | decide | omega) (fun _ => ?_)
        | refine ph_gCp (by first | decide | omega) (fun _ => ?_)
        | refine ph_gB (by first | decide | omega) (fun _ => ?_)
        | refine ph_gR (by first | decide | omega) (fun _ => ?_)
        | refine ph_gv (fun _ => ?_)
        | refine ph_gg (fun _ => ?_)
        | refine ph_gc ?_ (fun _ _ => ?_)
        | refine ph_ite (fun _ => ?_) (fun _ => ?_)
        | exact h7 _ _ _)

theorem kh_X2_meet : ∀ n : Nat, (∀ (d : Nat) (S : GS) (a1 : Int), PH 495 S (f_X2_meet n d 0 S [a1]))
  | 0 => (fun _ _ _ => ph_none)
  | n + 1 => by
    have h0 := kh_X2_meet n
    · intro _ _ _
      rw [e_X2_meet_0]
      unfold b_X2_meet_0
      repeat' (with_reducible first
        | exact ph_none
        | exact ph_some
        | refine ph_gI (by first | decide | omega) (fun _ => ?_)
        | refine ph_gCp (by first | decide | omega) (fun _ => ?_)
        | refine ph_gB (by first | decide | omega) (fun _ => ?_)
        | refine ph_gR (by first | decide | omega) (fun _ => ?_)
        | refine ph_gv (fun _ => ?_)
        | refine ph_gg (fun _ => ?_)
        | refine ph_gc ?_ (fun _ _ => ?_)
        | refine ph_ite (fun _ => ?_) (fun _ => ?_))

theorem kh_X9_placeOf : ∀ n : Nat, (∀ (d : Nat) (S : GS) (a0 : Nat) (a1 : Int), PH 495 S (f_X9_placeOf n d 0 S [((a0 : Nat) : Int), a1])) ∧ (∀ (d : Nat) (S : GS) (a0 : Nat) (a1 : Int) (a2 : Int), PH 495 S (f_X9_placeOf n d 2 S [((a0 : Nat) : Int), a1, a2]))
  | 0 => ⟨(fun _ _ _ _ => ph_none), (fun _ _ _ _ _ => ph_none)⟩
  | n + 1 => by
    obtain ⟨h0, h2⟩ := kh_X9_placeOf n
    refine ⟨?_, ?_⟩
    · intro _ _ _ _
      rw [e_X9_placeOf_0]
      unfold b_X9_placeOf_0
      repeat' (with_reducible first
        | exact ph_none
        | exact ph_some
        | refine ph_gI (by first | decide | omega) (fun _ => ?_)
        | refine ph_gCp (by first | decide | omega) (fun _ => ?_)
        | refine ph_gB (by first | decide | omega) (fun _ => ?_)
        | refine ph_gR (by first | decide | omega) (fun _ => ?_)
        | refine ph_gv (fun _ => ?_)
        | refine ph_gg (fun _ => ?_)
        | refine ph_gc ?_ (fun _ _ => ?_)
        | refine ph_ite (fun _ => ?_) (fun _ => ?_)
        | exact h2 _ _ _ _ _)
    · intro _ _ _ _ _
      rw [e_X9_placeOf_2]
      unfold b_X9_placeOf_2
      repeat' (with_reducible first
        | exact ph_none
        | exact ph_some
        | refine ph_gI (by first | decide | omega) (fun _ => ?_)
        | refine ph_gCp (by first | decide | omega) (fun _ => ?_)
        | refine ph_gB (by first | decide | omega) (fun _ => ?_)
        | refine ph_gR (by first | decide | omega) (fun _ => ?_)
        | refine ph_gv (fun _ => ?_)
        | refine ph_gg (fun _ => ?_)
        | refine ph_gc ?_ (fun _ _ => ?_)
        | refine ph_ite (fun _ => ?_) (fun _ => ?_)
        | exact h2 _ _ _ _ _
        | exact (kh_X9_at _) _ _ _ _)

theorem kh_X9_endsWith : ∀ n : Nat, (∀ (d : Nat) (S : GS) (a0 : Nat) (a1 : Nat) (a2 : Int), PH 495 S (f_X9_endsWith n d 0 S [((a0 : Nat) : Int), ((a1 : Nat) : Int), a2])) ∧ (∀ (d : Nat) (S : GS) (a0 : Nat) (a1 : Nat) (a2 : Int) (a3 : Int) (a4 : Int), PH 495 S (f_X9_endsWith n d 22 S [((a0 : Nat) : Int), ((a1 : Nat) : Int), a2, a3, a4]))
  | 0 => ⟨(fun _ _ _ _ _ => ph_none), (fun _ _ _ _ _ _ _ => ph_none)⟩
  | n + 1 => by
    obtain ⟨h0, h22⟩ := kh_X9_endsWith n
    refine ⟨?_, ?_⟩
    · intro _ _ _ _ _
      rw [e_X9_endsWith_0]
      unfold b_X9_endsWith_0
      repeat' (with_reducible first
        | exact ph_none
        | exact ph_some
        | refine ph_gI (by first | decide | omega) (fun _ => ?_)
        | refine ph_gCp (by first | decide | omega) (fun _ => ?_)
        | refine ph_gB (by first | decide | omega) (fun _ => ?_)
        | refine ph_gR (by first | decide | omega) (fun _ => ?_)
        | refine ph_gv (fun _ => ?_)
        | refine ph_gg (fun _ => ?_)
        | refine ph_gc ?_ (fun _ _ => ?_)
        | refine ph_ite (fun _ => ?_) (fun _ => ?_)
        | exact h22 _ _ _ _ _ _ _
        | exact (kh_X9_length _) _ _ _)
    · intro _ _ _ _ _ _ _
      rw [e_X9_endsWith_22]
      unfold b_X9_endsWith_22
      repeat' (with_reducible first
        | exact ph_none
        | exact ph_some
        | refine ph_gI (by first | decide | omega) (fun _ => ?_)
        | refine ph_gCp (by first | decide | omega) (fun _ => ?_)
        | refine ph_gB (by first | decide | omega) (fun _ => ?_)
        | refine ph_gR (by first | decide | omega) (fun _ => ?_)
        | refine ph_gv (fun _ => ?_)
        | refine ph_gg (fun _ => ?_)
        | refine ph_gc ?_ (fun _ _ => ?_)
        | refine ph_ite (fun _ => ?_) (fun _ => ?_)
        | exact h22 _ _ _ _ _ _ _
        | exact (kh_X9_at _) _ _ _ _
        | exact (kh_X9_length _) _ _ _)

theorem kh_X2_meetMatches : ∀ n : Nat, (∀ (d : Nat) (S : GS) (a1 : Nat) (a2 : Int), PH 495 S (f_X2_meetMatches n d 0 S [((a1 : Nat) : Int), a2])) ∧ (∀ (d : Nat) (S : GS) (a1 : Nat) (a2 : Int) (a3 : Int) (a4 : Int) (a5 : Int), PH 495 S (f_X2_meetMatches n d 40 S [((a1 : Nat) : Int), a2, a3, a4, a5]))
  | 0 => ⟨(fun _ _ _ _ => ph_none), (fun _ _ _ _ _ _ _ => ph_none)⟩
  | n + 1 => by
    obtain ⟨h0, h40⟩ := kh_X2_meetMatches n
    refine ⟨?_, ?_⟩
    · intro _ _ _ _
      rw [e_X2_meetMatches_0]
      unfold b_X2_meetMatches_0
      repeat' (with_reducible first
        | exact ph_none
        | exact ph_some
        | refine ph_gI (by first | decide | omega) (fun _ => ?_)
        | refine ph_gCp (by first | decide | omega) (fun _ => ?_)
        | refine ph_gB (by first | decide | omega) (fun _ => ?_)
        | refine ph_gR (by first | decide | omega) (fun _ => ?_)
        | refine ph_gv (fun _ => ?_)
        | refine ph_gg (fun _ => ?_)
        | refine ph_gc ?_ (fun _ _ => ?_)
        | refine ph_ite (fun _ => ?_) (fun _ => ?_)
        | exact h40 _ _ _ _ _ _ _
        | exact (kh_X10_first _).1 _ _ _ _
        | exact (kh_X9_addPart _).1 _ _ _ _ _ _
        | exact (kh_X9_clear _) _ _ _
        | exact (kh_X9_placeOf _).1 _ _ _ _)
    · intro _ _ _ _ _ _ _
      rw [e_X2_meetMatches_40]
      unfold b_X2_meetMatches_40
      repeat' (with_reducible first
        | exact ph_none
        | exact ph_some
        | refine ph_gI (by first | decide | omega) (fun _ => ?_)
        | refine ph_gCp (by first | decide | omega) (fun _ => ?_)
        | refine ph_gB (by first | decide | omega) (fun _ => ?_)
        | refine ph_gR (by first | decide | omega) (fun _ => ?_)
        | refine ph_gv (fun _ => ?_)
        | refine ph_gg (fun _ => ?_)
        | refine ph_gc ?_ (fun _ _ => ?_)
        | refine ph_ite (fun _ => ?_) (fun _ => ?_)
        | exact h40 _ _ _ _ _ _ _
        | exact (kh_X10_next _) _ _ _ _ _
        | exact (kh_X10_valueOf _).1 _ _ _ _ _
        | exact (kh_X2_meet _) _ _ _
        | exact (kh_X8_group _).2.2.2.2.2.2.2.2 _ _ _ _ _ _ _
        | exact (kh_X9_clear _) _ _ _
        | exact (kh_X9_endsWith _).1 _ _ _ _ _)

theorem kh_X2_placeIn : ∀ n : Nat, (∀ (d : Nat) (S : GS) (a1 : Nat) (a2 : Int), PH 495 S (f_X2_placeIn n d 0 S [((a1 : Nat) : Int), a2]))
  | 0 => (fun _ _ _ _ => ph_none)
  | n + 1 => by
    have h0 := kh_X2_placeIn n
    · intro _ _ _ _
      rw [e_X2_placeIn_0]
      unfold b_X2_placeIn_0
      repeat' (with_reducible first
        | exact ph_none
        | exact ph_some
        | refine ph_gI (by first | decide | omega) (fun _ => ?_)
        | refine ph_gCp (by first | decide | omega) (fun _ => ?_)
        | refine ph_gB (by first | decide | omega) (fun _ => ?_)
        | refine ph_gR (by first | decide | omega) (fun _ => ?_)
        | refine ph_gv (fun _ => ?_)
        | refine ph_gg (fun _ => ?_)
        | refine ph_gc ?_ (fun _ _ => ?_)
        | refine ph_ite (fun _ => ?_) (fun _ => ?_)
        | exact (kh_X10_values _).1 _ _ _ _
        | exact (kh_X7_placeIn _).1 _ _ _ _
        | exact (kh_X9_at _) _ _ _ _)

theorem kh_X2_stepFrom : ∀ n : Nat, (∀ (d : Nat) (S : GS) (a1 : Nat) (a2 : Int), PH 495 S (f_X2_stepFrom n d 0 S [((a1 : Nat) : Int), a2])) ∧ (∀ (d : Nat) (S : GS) (a1 : Nat) (a2 : Int) (a3 : Int), PH 495 S (f_X2_stepFrom n d 14 S [((a1 : Nat) : Int), a2, a3])) ∧ (∀ (d : Nat) (S : GS) (a1 : Nat) (a2 : Int) (a3 : Int) (a4 : Int), PH 495 S (f_X2_stepFrom n d 58 S [((a1 : Nat) : Int), a2, a3, a4]))
  | 0 => ⟨(fun _ _ _ _ => ph_none), (fun _ _ _ _ _ => ph_none), (fun _ _ _ _ _ _ => ph_none)⟩
  | n + 1 => by
    obtain ⟨h0, h14, h58⟩ := kh_X2_stepFrom n
    refine ⟨?_, ?_, ?_⟩
    · intro _ _ _ _
      rw [e_X2_stepFrom_0]
      unfold b_X2_stepFrom_0
      repeat' (with_reducible first
        | exact ph_none
        | exact ph_some
        | refine ph_gI (by first | decide | omega) (fun _ => ?_)
        | refine ph_gCp (by first | decide | omega) (fun _ => ?_)
        | refine ph_gB (by first | decide | omega) (fun _ => ?_)
        | refine ph_gR (by first | decide | omega) (fun _ => ?_)
        | refine ph_gv (fun _ => ?_)
        | refine ph_gg (fun _ => ?_)
        | refine ph_gc ?_ (fun _ _ => ?_)
        | refine ph_ite (fun _ => ?_) (fun _ => ?_)
        | exact h14 _ _ _ _ _
        | exact h58 _ _ _ _ _ _
        | exact (kh_X10_first _).1 _ _ _ _
        | exact (kh_X10_is _) _ _ _ _ _
        | exact (kh_X10_valueAt _).1 _ _ _ _ _
        | exact (kh_X10_valueOf _).1 _ _ _ _ _
        | exact (kh_X2_meet _) _ _ _
        | exact (kh_X2_meetMatches _).1 _ _ _ _
        | exact (kh_X2_placeIn _) _ _ _ _
        | exact (kh_X9_at _) _ _ _ _
        | exact (kh_X9_says _).1 _ _ _ _)
    · intro _ _ _ _ _
      rw [e_X2_stepFrom_14]
      unfold b_X2_stepFrom_14
      repeat' (with_reducible first
        | exact ph_none
        | exact ph_some
        | refine ph_gI (by first | decide | omega) (fun _ => ?_)
        | refine ph_gCp (by first | decide | omega) (fun _ => ?_)
        | refine ph_gB (by first | decide | omega) (fun _ => ?_)
        | refine ph_gR (by first | decide | omega) (fun _ => ?_)
        | refine ph_gv (fun _ => ?_)
        | refine ph_gg (fun _ => ?_)
        | refine ph_gc ?_ (fun _ _ => ?_)
        | refine ph_ite (fun _ => ?_) (fun _ => ?_)
        | exact h14 _ _ _ _ _
        | exact (kh_X10_after _) _ _ _ _
        | exact (kh_X2_meet _) _ _ _)
    · intro _ _ _ _ _ _
      rw [e_X2_stepFrom_58]
      unfold b_X2_stepFrom_58
      repeat' (with_reducible first
        | exact ph_none
        | exact ph_some
        | refine ph_gI (by first | decide | omega) (fun _ => ?_)
        | refine ph_gCp (by first | decide | omega) (fun _ => ?_)
        | refine ph_gB (by first | decide | omega) (fun _ => ?_)
        | refine ph_gR (by first | decide | omega) (fun _ => ?_)
        | refine ph_gv (fun _ => ?_)
        | refine ph_gg (fun _ => ?_)
        | refine ph_gc ?_ (fun _ _ => ?_)
        | refine ph_ite (fun _ => ?_) (fun _ => ?_)
        | exact h58 _ _ _ _ _ _
        | exact (kh_X10_next _) _ _ _ _ _
        | exact (kh_X2_meet _) _ _ _)

theorem kh_X2_seek : ∀ n : Nat, (∀ (d : Nat) (S : GS) (a1 : Nat) (a2 : Nat), PH 495 S (f_X2_seek n d 0 S [((a1 : Nat) : Int), ((a2 : Nat) : Int)])) ∧ (∀ (d : Nat) (S : GS) (a1 : Nat) (a2 : Nat) (a3 : Int), PH 495 S (f_X2_seek n d 11 S [((a1 : Nat) : Int), ((a2 : Nat) : Int), a3])) ∧ (∀ (d : Nat) (S : GS) (a1 : Nat) (a2 : Nat) (a3 : Int) (a4 : Int) (a5 : Int), PH 495 S (f_X2_seek n d 42 S [((a1 : Nat) : Int), ((a2 : Nat) : Int), a3, a4, a5])) ∧ (∀ (d : Nat) (S : GS) (a1 : Nat) (a2 : Nat) (a3 : Int) (a4 : Int) (a5 : Int), PH 495 S (f_X2_seek n d 76 S [((a1 : Nat) : Int), ((a2 : Nat) : Int), a3, a4, a5]))
  | 0 => ⟨(fun _ _ _ _ => ph_none), (fun _ _ _ _ _ => ph_none), (fun _ _ _ _ _ _ _ => ph_none), (fun _ _ _ _ _ _ _ => ph_none)⟩
  | n + 1 => by
    obtain ⟨h0, h11, h42, h76⟩ := kh_X2_seek n
    refine ⟨?_, ?_, ?_, ?_⟩
    · intro _ _ _ _
      rw [e_X2_seek_0]
      unfold b_X2_seek_0
      repeat' (with_reducible first
        | exact ph_none
        | exact ph_some
        | refine ph_gI (by first | decide | omega) (fun _ => ?_)
        | refine ph_gCp (by first | decide | omega) (fun _ => ?_)
        | refine ph_gB (by first | decide | omega) (fun _ => ?_)
        | refine ph_gR (by first | decide | omega) (fun _ => ?_)
        | refine ph_gv (fun _ => ?_)
        | refine ph_gg (fun _ => ?_)
        | refine ph_gc ?_ (fun _ _ => ?_)
        | refine ph_ite (fun _ => ?_) (fun _ => ?_)
        | exact h11 _ _ _ _ _
        | exact (kh_X2_begin _).1 _ _
        | exact (kh_X2_meet _) _ _ _)
    · intro _ _ _ _ _
      rw [e_X2_seek_11]
      unfold b_X2_seek_11
      repeat' (with_reducible first
        | exact ph_none
        | exact ph_some
        | refine ph_gI (by first | decide | omega) (fun _ => ?_)
        | refine ph_gCp (by first | decide | omega) (fun _ => ?_)
        | refine ph_gB (by first | decide | omega) (fun _ => ?_)
        | refine ph_gR (by first | decide | omega) (fun _ => ?_)
        | refine ph_gv (fun _ => ?_)
        | refine ph_gg (fun _ => ?_)
        | refine ph_gc ?_ (fun _ _ => ?_)
        | refine ph_ite (fun _ => ?_) (fun _ => ?_)
        | exact h42 _ _ _ _ _ _ _
        | exact (kh_X7_steps _) _ _ _
        | exact (kh_X7_wordTo _).1 _ _ _ _ _)
    · intro _ _ _ _ _ _ _
      rw [e_X2_seek_42]
      unfold b_X2_seek_42
      repeat' (with_reducible first
        | exact ph_none
        | exact ph_some
        | refine ph_gI (by first | decide | omega) (fun _ => ?_)
        | refine ph_gCp (by first | decide | omega) (fun _ => ?_)
        | refine ph_gB (by first | decide | omega) (fun _ => ?_)
        | refine ph_gR (by first | decide | omega) (fun _ => ?_)
        | refine ph_gv (fun _ => ?_)
        | refine ph_gg (fun _ => ?_)
        | refine ph_gc ?_ (fun _ _ => ?_)
        | refine ph_ite (fun _ => ?_) (fun _ => ?_)
        | exact h42 _ _ _ _ _ _ _
        | exact h76 _ _ _ _ _ _ _
        | exact (kh_X2_begin _).1 _ _)
    · intro _ _ _ _ _ _ _
      rw [e_X2_seek_76]
      unfold b_X2_seek_76
      repeat' (with_reducible first
        | exact ph_none
        | exact ph_some
        | refine ph_gI (by first | decide | omega) (fun _ => ?_)
        | refine ph_gCp (by first | decide | omega) (fun _ => ?_)
        | refine ph_gB (by first | decide | omega) (fun _ => ?_)
        | refine ph_gR (by first | decide | omega) (fun _ => ?_)
        | refine ph_gv (fun _ => ?_)
        | refine ph_gg (fun _ => ?_)
        | refine ph_gc ?_ (fun _ _ => ?_)
        | refine ph_ite (fun _ => ?_) (fun _ => ?_)
        | exact h11 _ _ _ _ _
        | exact h76 _ _ _ _ _ _ _
        | exact (kh_X2_stepFrom _).1 _ _ _ _)

theorem kh_X11_select : ∀ n : Nat, (∀ (d : Nat) (S : GS) (a1 : Int), PH 495 S (f_X11_select n d 0 S [a1]))
  | 0 => (fun _ _ _ => ph_none)
  | n + 1 => by
    have h0 := kh_X11_select n
    · intro _ _ _
      rw [e_X11_select_0]
      unfold b_X11_select_0
      repeat' (with_reducible first
        | exact ph_none
        | exact ph_some
        | refine ph_gI (by first | decide | omega) (fun _ => ?_)
        | refine ph_gCp (by first | decide | omega) (fun _ => ?_)
        | refine ph_gB (by first | decide | omega) (fun _ => ?_)
        | refine ph_gR (by first | decide | omega) (fun _ => ?_)
        | refine ph_gv (fun _ => ?_)
        | refine ph_gg (fun _ => ?_)
        | refine ph_gc ?_ (fun _ _ => ?_)
        | refine ph_ite (fun _ => ?_) (fun _ => ?_)
        | exact (kh_X11_document _) _ _ _
        | exact (kh_X11_loadPage _) _ _
        | exact (kh_X2_count _) _ _
        | exact (kh_X2_seek _).1 _ _ _ _
        | exact (kh_X9_clear _) _ _ _)

