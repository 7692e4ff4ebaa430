/-! CELLS that the class never touches -/
theorem kh_X10_nextByKey : ∀ n : Nat, (∀ (d : Nat) (S : GS) (a0 : Nat) (a1 : Int) (a2 : Int), PH 495 S (f_X10_nextByKey n d 0 S [((a0 : Nat) : Int), a1, a2])) ∧ (∀ (d : Nat) (S : GS) (a0 : Nat) (a1 : Int) (a2 : Int) (a3 : Int) (a4 : Int) (a5 : Int), PH 495 S (f_X10_nextByKey n d 12 S [((a0 : Nat) : Int), a1, a2, a3, a4, a5])) ∧ (∀ (d : Nat) (S : GS) (a0 : Nat) (a1 : Int) (a2 : Int) (a3 : Int) (a4 : Int) (a5 : Int) (s0 : Int), PH 495 S (f_X10_nextByKey n d 46 S [((a0 : Nat) : Int), a1, a2, a3, a4, a5, s0])) ∧ (∀ (d : Nat) (S : GS) (a0 : Nat) (a1 : Int) (a2 : Int) (a4 : Int) (a5 : Int), PH 495 S (f_X10_nextByKey n d 69 S [((a0 : Nat) : Int), a1, a2, a4, a5]))
  | 0 => ⟨(fun _ _ _ _ _ => ph_none), (fun _ _ _ _ _ _ _ _ => ph_none), (fun _ _ _ _ _ _ _ _ _ => ph_none), (fun _ _ _ _ _ _ _ => ph_none)⟩
  | n + 1 => by
    obtain ⟨h0, h12, h46, h69⟩ := kh_X10_nextByKey n
    refine ⟨?_, ?_, ?_, ?_⟩
    · intro _ _ _ _ _
      rw [e_X10_nextByKey_0]
      unfold b_X10_nextByKey_0
      repeat' (with_reducible first
        | exact ph_none
        | exact ph_some
        | refine ph_gI (by first | decide | omega) (fun _ => ?_)
        | refine ph_gCp (by first | decide | omega) (fun _ => ?_)
        | refine ph_gB (by first | decide | omega) (fun _ => ?_)
        | refine ph_gR (by first | decide | omega) (fun _ => ?_)
        | refine ph_gv (fun _ => ?_)
        | refine ph_gg (fun _ => ?_)
        | refine ph_gc ?_ (fun _ _ => ?_)
        | refine ph_ite (fun _ => ?_) (fun _ => ?_)
        | exact h12 _ _ _ _ _ _ _ _
        | exact (kh_X10_firstOfMap _).1 _ _ _ _)
    · intro _ _ _ _ _ _ _ _
      rw [e_X10_nextByKey_12]
      unfold b_X10_nextByKey_12
      repeat' (with_reducible first
        | exact ph_none
        | exact ph_some
        | refine ph_gI (by first | decide | omega) (fun _ => ?_)
        | refine ph_gCp (by first | decide | omega) (fun _ => ?_)
        | refine ph_gB (by first | decide | omega) (fun _ => ?_)
        | refine ph_gR (by first | decide | omega) (fun _ => ?_)
        | refine ph_gv (fun _ => ?_)
        | refine ph_gg (fun _ => ?_)
        | refine ph_gc ?_ (fun _ _ => ?_)
        | refine ph_ite (fun _ => ?_) (fun _ => ?_)
        | exact h46 _ _ _ _ _ _ _ _ _
        | exact (kh_X10_orderOfKeys _).1 _ _ _ _ _ _)
    · intro _ _ _ _ _ _ _ _ _
      rw [e_X10_nextByKey_46]
      unfold b_X10_nextByKey_46
      repeat' (with_reducible first
        | exact ph_none
        | exact ph_some
        | refine ph_gI (by first | decide | omega) (fun _ => ?_)
        | refine ph_gCp (by first | decide | omega) (fun _ => ?_)
        | refine ph_gB (by first | decide | omega) (fun _ => ?_)
        | refine ph_gR (by first | decide | omega) (fun _ => ?_)
        | refine ph_gv (fun _ => ?_)
        | refine ph_gg (fun _ => ?_)
        | refine ph_gc ?_ (fun _ _ => ?_)
        | refine ph_ite (fun _ => ?_) (fun _ => ?_)
        | exact h12 _ _ _ _ _ _ _ _
        | exact h69 _ _ _ _ _ _ _
        | exact (kh_X10_next _) _ _ _ _ _
        | exact (kh_X10_orderOfKeys _).1 _ _ _ _ _ _)
    · intro _ _ _ _ _ _ _
      rw [e_X10_nextByKey_69]
      unfold b_X10_nextByKey_69
      repeat' (with_reducible first
        | exact ph_none
        | exact ph_some
        | refine ph_gI (by first | decide | omega) (fun _ => ?_)
        | refine ph_gCp (by first | decide | omega) (fun _ => ?_)
        | refine ph_gB (by first | decide | omega) (fun _ => ?_)
        | refine ph_gR (by first | decide | omega) (fun _ => ?_)
        | refine ph_gv (fun _ => ?_)
        | refine ph_gg (fun _ => ?_)
        | refine ph_gc ?_ (fun _ _ => ?_)
        | refine ph_ite (fun _ => ?_) (fun _ => ?_)
        | exact h12 _ _ _ _ _ _ _ _
        | exact (kh_X10_next _) _ _ _ _ _)

theorem kh_X10_close : ∀ n : Nat, (∀ (d : Nat) (S : GS) (a0 : Nat) (a1 : Int), PH 495 S (f_X10_close n d 0 S [((a0 : Nat) : Int), a1]))
  | 0 => (fun _ _ _ _ => ph_none)
  | n + 1 => by
    have h0 := kh_X10_close n
    · intro _ _ _ _
      rw [e_X10_close_0]
      unfold b_X10_close_0
      repeat' (with_reducible first
        | exact ph_none
        | exact ph_some
        | refine ph_gI (by first | decide | omega) (fun _ => ?_)
        | refine ph_gCp (by first | decide | omega) (fun _ => ?_)
        | refine ph_gB (by first | decide | omega) (fun _ => ?_)
        | refine ph_gR (by first | decide | omega) (fun _ => ?_)
        | refine ph_gv (fun _ => ?_)
        | refine ph_gg (fun _ => ?_)
        | refine ph_gc ?_ (fun _ _ => ?_)
        | refine ph_ite (fun _ => ?_) (fun _ => ?_)
        | exact (kh_X10_has _) _ _ _ _)

theorem kh_X10_appendInOrder : ∀ n : Nat, (∀ (d : Nat) (S : GS) (a0 : Nat) (a1 : Nat) (a2 : Int) (a3 : Int), PH 495 S (f_X10_appendInOrder n d 0 S [((a0 : Nat) : Int), ((a1 : Nat) : Int), a2, a3])) ∧ (∀ (d : Nat) (S : GS) (a0 : Nat) (a1 : Nat) (a2 : Int) (a3 : Int) (a4 : Int) (a5 : Int) (a6 : Int) (a7 : Int), PH 495 S (f_X10_appendInOrder n d 86 S [((a0 : Nat) : Int), ((a1 : Nat) : Int), a2, a3, a4, a5, a6, a7]))
  | 0 => ⟨(fun _ _ _ _ _ _ => ph_none), (fun _ _ _ _ _ _ _ _ _ _ => ph_none)⟩
  | n + 1 => by
    obtain ⟨h0, h86⟩ := kh_X10_appendInOrder n
    refine ⟨?_, ?_⟩
    · intro _ _ _ _ _ _
      rw [e_X10_appendInOrder_0]
      unfold b_X10_appendInOrder_0
      repeat' (with_reducible first
        | exact ph_none
        | exact ph_some
        | refine ph_gI (by first | decide | omega) (fun _ => ?_)
        | refine ph_gCp (by first | decide | omega) (fun _ => ?_)
        | refine ph_gB (by first | decide | omega) (fun _ => ?_)
        | refine ph_gR (by first | decide | omega) (fun _ => ?_)
        | refine ph_gv (fun _ => ?_)
        | refine ph_gg (fun _ => ?_)
        | refine ph_gc ?_ (fun _ _ => ?_)
        | refine ph_ite (fun _ => ?_) (fun _ => ?_)
        | exact h86 _ _ _ _ _ _ _ _ _ _
        | exact (kh_X10_copyNodes _) _ _ _ _ _ _ _
        | exact (kh_X10_first _).1 _ _ _ _
        | exact (kh_X10_has _) _ _ _ _
        | exact (kh_X10_is _) _ _ _ _ _
        | exact (kh_X10_nextByKey _).1 _ _ _ _ _)
    · intro _ _ _ _ _ _ _ _ _ _
      rw [e_X10_appendInOrder_86]
      unfold b_X10_appendInOrder_86
      repeat' (with_reducible first
        | exact ph_none
        | exact ph_some
        | refine ph_gI (by first | decide | omega) (fun _ => ?_)
        | refine ph_gCp (by first | decide | omega) (fun _ => ?_)
        | refine ph_gB (by first | decide | omega) (fun _ => ?_)
        | refine ph_gR (by first | decide | omega) (fun _ => ?_)
        | refine ph_gv (fun _ => ?_)
        | refine ph_gg (fun _ => ?_)
        | refine ph_gc ?_ (fun _ _ => ?_)
        | refine ph_ite (fun _ => ?_) (fun _ => ?_)
        | exact h0 _ _ _ _ _ _
        | exact h86 _ _ _ _ _ _ _ _ _ _
        | exact (kh_X10_close _) _ _ _ _
        | exact (kh_X10_next _) _ _ _ _ _
        | exact (kh_X10_nextByKey _).1 _ _ _ _ _)

theorem kh_X10_clearKey : ∀ n : Nat, (∀ (d : Nat) (S : GS) (a0 : Nat) (a1 : Int), PH 495 S (f_X10_clearKey n d 0 S [((a0 : Nat) : Int), a1]))
  | 0 => (fun _ _ _ _ => ph_none)
  | n + 1 => by
    have h0 := kh_X10_clearKey n
    · intro _ _ _ _
      rw [e_X10_clearKey_0]
      unfold b_X10_clearKey_0
      repeat' (with_reducible first
        | exact ph_none
        | exact ph_some
        | refine ph_gI (by first | decide | omega) (fun _ => ?_)
        | refine ph_gCp (by first | decide | omega) (fun _ => ?_)
        | refine ph_gB (by first | decide | omega) (fun _ => ?_)
        | refine ph_gR (by first | decide | omega) (fun _ => ?_)
        | refine ph_gv (fun _ => ?_)
        | refine ph_gg (fun _ => ?_)
        | refine ph_gc ?_ (fun _ _ => ?_)
        | refine ph_ite (fun _ => ?_) (fun _ => ?_))

theorem kh_X10_copyOf : ∀ n : Nat, (∀ (d : Nat) (S : GS) (a0 : Nat) (a1 : Nat) (a2 : Int), PH 495 S (f_X10_copyOf n d 0 S [((a0 : Nat) : Int), ((a1 : Nat) : Int), a2]))
  | 0 => (fun _ _ _ _ _ => ph_none)
  | n + 1 => by
    have h0 := kh_X10_copyOf n
    · intro _ _ _ _ _
      rw [e_X10_copyOf_0]
      unfold b_X10_copyOf_0
      repeat' (with_reducible first
        | exact ph_none
        | exact ph_some
        | refine ph_gI (by first | decide | omega) (fun _ => ?_)
        | refine ph_gCp (by first | decide | omega) (fun _ => ?_)
        | refine ph_gB (by first | decide | omega) (fun _ => ?_)
        | refine ph_gR (by first | decide | omega) (fun _ => ?_)
        | refine ph_gv (fun _ => ?_)
        | refine ph_gg (fun _ => ?_)
        | refine ph_gc ?_ (fun _ _ => ?_)
        | refine ph_ite (fun _ => ?_) (fun _ => ?_)
        | exact (kh_X10_append _) _ _ _ _ _
        | exact (kh_X10_clear _) _ _ _
        | exact (kh_X10_clearKey _) _ _ _ _)

theorem kh_X10_count : ∀ n : Nat, (∀ (d : Nat) (S : GS) (a0 : Nat), PH 495 S (f_X10_count n d 0 S [((a0 : Nat) : Int)]))
  | 0 => (fun _ _ _ => ph_none)
  | n + 1 => by
    have h0 := kh_X10_count n
    · intro _ _ _
      rw [e_X10_count_0]
      unfold b_X10_count_0
      repeat' (with_reducible first
        | exact ph_none
        | exact ph_some
        | refine ph_gI (by first | decide | omega) (fun _ => ?_)
        | refine ph_gCp (by first | decide | omega) (fun _ => ?_)
        | refine ph_gB (by first | decide | omega) (fun _ => ?_)
        | refine ph_gR (by first | decide | omega) (fun _ => ?_)
        | refine ph_gv (fun _ => ?_)
        | refine ph_gg (fun _ => ?_)
        | refine ph_gc ?_ (fun _ _ => ?_)
        | refine ph_ite (fun _ => ?_) (fun _ => ?_))

theorem kh_X10_dropFrom : ∀ n : Nat, (∀ (d : Nat) (S : GS) (a0 : Nat) (a1 : Int), PH 495 S (f_X10_dropFrom n d 0 S [((a0 : Nat) : Int), a1]))
  | 0 => (fun _ _ _ _ => ph_none)
  | n + 1 => by
    have h0 := kh_X10_dropFrom n
    · intro _ _ _ _
      rw [e_X10_dropFrom_0]
      unfold b_X10_dropFrom_0
      repeat' (with_reducible first
        | exact ph_none
        | exact ph_some
        | refine ph_gI (by first | decide | omega) (fun _ => ?_)
        | refine ph_gCp (by first | decide | omega) (fun _ => ?_)
        | refine ph_gB (by first | decide | omega) (fun _ => ?_)
        | refine ph_gR (by first | decide | omega) (fun _ => ?_)
        | refine ph_gv (fun _ => ?_)
        | refine ph_gg (fun _ => ?_)
        | refine ph_gc ?_ (fun _ _ => ?_)
        | refine ph_ite (fun _ => ?_) (fun _ => ?_)
        | exact (kh_X10_has _) _ _ _ _)

theorem kh_X10_hasOnly : ∀ n : Nat, (∀ (d : Nat) (S : GS) (a0 : Nat) (a1 : Int) (a2 : Int), PH 495 S (f_X10_hasOnly n d 0 S [((a0 : Nat) : Int), a1, a2])) ∧ (∀ (d : Nat) (S : GS) (a0 : Nat) (a1 : Int) (a2 : Int) (a3 : Int) (a4 : Int) (a5 : Int), PH 495 S (f_X10_hasOnly n d 12 S [((a0 : Nat) : Int), a1, a2, a3, a4, a5])) ∧ (∀ (d : Nat) (S : GS) (a0 : Nat) (a1 : Int) (a2 : Int) (a4 : Int) (a5 : Int) (s0 : Int), PH 495 S (f_X10_hasOnly n d 44 S [((a0 : Nat) : Int), a1, a2, a4, a5, s0]))
  | 0 => ⟨(fun _ _ _ _ _ => ph_none), (fun _ _ _ _ _ _ _ _ => ph_none), (fun _ _ _ _ _ _ _ _ => ph_none)⟩
  | n + 1 => by
    obtain ⟨h0, h12, h44⟩ := kh_X10_hasOnly n
    refine ⟨?_, ?_, ?_⟩
    · intro _ _ _ _ _
      rw [e_X10_hasOnly_0]
      unfold b_X10_hasOnly_0
      repeat' (with_reducible first
        | exact ph_none
        | exact ph_some
        | refine ph_gI (by first | decide | omega) (fun _ => ?_)
        | refine ph_gCp (by first | decide | omega) (fun _ => ?_)
        | refine ph_gB (by first | decide | omega) (fun _ => ?_)
        | refine ph_gR (by first | decide | omega) (fun _ => ?_)
        | refine ph_gv (fun _ => ?_)
        | refine ph_gg (fun _ => ?_)
        | refine ph_gc ?_ (fun _ _ => ?_)
        | refine ph_ite (fun _ => ?_) (fun _ => ?_)
        | exact h12 _ _ _ _ _ _ _ _
        | exact (kh_X10_first _).1 _ _ _ _)
    · intro _ _ _ _ _ _ _ _
      rw [e_X10_hasOnly_12]
      unfold b_X10_hasOnly_12
      repeat' (with_reducible first
        | exact ph_none
        | exact ph_some
        | refine ph_gI (by first | decide | omega) (fun _ => ?_)
        | refine ph_gCp (by first | decide | omega) (fun _ => ?_)
        | refine ph_gB (by first | decide | omega) (fun _ => ?_)
        | refine ph_gR (by first | decide | omega) (fun _ => ?_)
        | refine ph_gv (fun _ => ?_)
        | refine ph_gg (fun _ => ?_)
        | refine ph_gc ?_ (fun _ _ => ?_)
        | refine ph_ite (fun _ => ?_) (fun _ => ?_)
        | exact h44 _ _ _ _ _ _ _ _
        | exact (kh_X10_is _) _ _ _ _ _)
    · intro _ _ _ _ _ _ _ _
      rw [e_X10_hasOnly_44]
      unfold b_X10_hasOnly_44
      repeat' (with_reducible first
        | exact ph_none
        | exact ph_some
        | refine ph_gI (by first | decide | omega) (fun _ => ?_)
        | refine ph_gCp (by first | decide | omega) (fun _ => ?_)
        | refine ph_gB (by first | decide | omega) (fun _ => ?_)
        | refine ph_gR (by first | decide | omega) (fun _ => ?_)
        | refine ph_gv (fun _ => ?_)
        | refine ph_gg (fun _ => ?_)
        | refine ph_gc ?_ (fun _ _ => ?_)
        | refine ph_ite (fun _ => ?_) (fun _ => ?_)
        | exact h12 _ _ _ _ _ _ _ _
        | exact (kh_X10_next _) _ _ _ _ _)

theorem kh_X10_hasSoundKeys : ∀ n : Nat, (∀ (d : Nat) (S : GS) (a0 : Nat) (a1 : Int), PH 495 S (f_X10_hasSoundKeys n d 0 S [((a0 : Nat) : Int), a1])) ∧ (∀ (d : Nat) (S : GS) (a0 : Nat) (a1 : Int) (a2 : Int) (a3 : Int) (a4 : Int), PH 495 S (f_X10_hasSoundKeys n d 11 S [((a0 : Nat) : Int), a1, a2, a3, a4])) ∧ (∀ (d : Nat) (S : GS) (a0 : Nat) (a1 : Int) (a3 : Int) (a4 : Int) (s0 : Int), PH 495 S (f_X10_hasSoundKeys n d 53 S [((a0 : Nat) : Int), a1, a3, a4, s0]))
  | 0 => ⟨(fun _ _ _ _ => ph_none), (fun _ _ _ _ _ _ _ => ph_none), (fun _ _ _ _ _ _ _ => ph_none)⟩
  | n + 1 => by
    obtain ⟨h0, h11, h53⟩ := kh_X10_hasSoundKeys n
    refine ⟨?_, ?_, ?_⟩
    · intro _ _ _ _
      rw [e_X10_hasSoundKeys_0]
      unfold b_X10_hasSoundKeys_0
      repeat' (with_reducible first
        | exact ph_none
        | exact ph_some
        | refine ph_gI (by first | decide | omega) (fun _ => ?_)
        | refine ph_gCp (by first | decide | omega) (fun _ => ?_)
        | refine ph_gB (by first | decide | omega) (fun _ => ?_)
        | refine ph_gR (by first | decide | omega) (fun _ => ?_)
        | refine ph_gv (fun _ => ?_)
        | refine ph_gg (fun _ => ?_)
        | refine ph_gc ?_ (fun _ _ => ?_)
        | refine ph_ite (fun _ => ?_) (fun _ => ?_)
        | exact h11 _ _ _ _ _ _ _
        | exact (kh_X10_firstOfMap _).1 _ _ _ _)
    · intro _ _ _ _ _ _ _
      rw [e_X10_hasSoundKeys_11]
      unfold b_X10_hasSoundKeys_11
      repeat' (with_reducible first
        | exact ph_none
        | exact ph_some
        | refine ph_gI (by first | decide | omega) (fun _ => ?_)
        | refine ph_gCp (by first | decide | omega) (fun _ => ?_)
        | refine ph_gB (by first | decide | omega) (fun _ => ?_)
        | refine ph_gR (by first | decide | omega) (fun _ => ?_)
        | refine ph_gv (fun _ => ?_)
        | refine ph_gg (fun _ => ?_)
        | refine ph_gc ?_ (fun _ _ => ?_)
        | refine ph_ite (fun _ => ?_) (fun _ => ?_)
        | exact h53 _ _ _ _ _ _ _
        | exact (kh_X10_keyLength _) _ _ _ _
        | exact (kh_X10_valueLike _).1 _ _ _ _ _ _)
    · intro _ _ _ _ _ _ _
      rw [e_X10_hasSoundKeys_53]
      unfold b_X10_hasSoundKeys_53
      repeat' (with_reducible first
        | exact ph_none
        | exact ph_some
        | refine ph_gI (by first | decide | omega) (fun _ => ?_)
        | refine ph_gCp (by first | decide | omega) (fun _ => ?_)
        | refine ph_gB (by first | decide | omega) (fun _ => ?_)
        | refine ph_gR (by first | decide | omega) (fun _ => ?_)
        | refine ph_gv (fun _ => ?_)
        | refine ph_gg (fun _ => ?_)
        | refine ph_gc ?_ (fun _ _ => ?_)
        | refine ph_ite (fun _ => ?_) (fun _ => ?_)
        | exact h11 _ _ _ _ _ _ _
        | exact (kh_X10_next _) _ _ _ _ _)

theorem kh_X10_hasSoundSigns : ∀ n : Nat, (∀ (d : Nat) (S : GS) (a0 : Nat) (a1 : Int), PH 495 S (f_X10_hasSoundSigns n d 0 S [((a0 : Nat) : Int), a1])) ∧ (∀ (d : Nat) (S : GS) (a0 : Nat) (a1 : Int) (s0 : Int), PH 495 S (f_X10_hasSoundSigns n d 18 S [((a0 : Nat) : Int), a1, s0])) ∧ (∀ (d : Nat) (S : GS) (a0 : Nat) (a1 : Int) (s0 : Int), PH 495 S (f_X10_hasSoundSigns n d 68 S [((a0 : Nat) : Int), a1, s0])) ∧ (∀ (d : Nat) (S : GS) (a0 : Nat) (a1 : Int) (s0 : Int), PH 495 S (f_X10_hasSoundSigns n d 120 S [((a0 : Nat) : Int), a1, s0]))
  | 0 => ⟨(fun _ _ _ _ => ph_none), (fun _ _ _ _ _ => ph_none), (fun _ _ _ _ _ => ph_none), (fun _ _ _ _ _ => ph_none)⟩
  | n + 1 => by
    obtain ⟨h0, h18, h68, h120⟩ := kh_X10_hasSoundSigns n
    refine ⟨?_, ?_, ?_, ?_⟩
    · intro _ _ _ _
      rw [e_X10_hasSoundSigns_0]
      unfold b_X10_hasSoundSigns_0
      repeat' (with_reducible first
        | exact ph_none
        | exact ph_some
        | refine ph_gI (by first | decide | omega) (fun _ => ?_)
        | refine ph_gCp (by first | decide | omega) (fun _ => ?_)
        | refine ph_gB (by first | decide | omega) (fun _ => ?_)
        | refine ph_gR (by first | decide | omega) (fun _ => ?_)
        | refine ph_gv (fun _ => ?_)
        | refine ph_gg (fun _ => ?_)
        | refine ph_gc ?_ (fun _ _ => ?_)
        | refine ph_ite (fun _ => ?_) (fun _ => ?_)
        | exact h18 _ _ _ _ _
        | exact (kh_X10_has _) _ _ _ _)
    · intro _ _ _ _ _
      rw [e_X10_hasSoundSigns_18]
      unfold b_X10_hasSoundSigns_18
      repeat' (with_reducible first
        | exact ph_none
        | exact ph_some
        | refine ph_gI (by first | decide | omega) (fun _ => ?_)
        | refine ph_gCp (by first | decide | omega) (fun _ => ?_)
        | refine ph_gB (by first | decide | omega) (fun _ => ?_)
        | refine ph_gR (by first | decide | omega) (fun _ => ?_)
        | refine ph_gv (fun _ => ?_)
        | refine ph_gg (fun _ => ?_)
        | refine ph_gc ?_ (fun _ _ => ?_)
        | refine ph_ite (fun _ => ?_) (fun _ => ?_)
        | exact h68 _ _ _ _ _
        | exact (kh_X10_is _) _ _ _ _ _
        | exact (kh_X10_signOf _) _ _ _ _)
    · intro _ _ _ _ _
      rw [e_X10_hasSoundSigns_68]
      unfold b_X10_hasSoundSigns_68
      repeat' (with_reducible first
        | exact ph_none
        | exact ph_some
        | refine ph_gI (by first | decide | omega) (fun _ => ?_)
        | refine ph_gCp (by first | decide | omega) (fun _ => ?_)
        | refine ph_gB (by first | decide | omega) (fun _ => ?_)
        | refine ph_gR (by first | decide | omega) (fun _ => ?_)
        | refine ph_gv (fun _ => ?_)
        | refine ph_gg (fun _ => ?_)
        | refine ph_gc ?_ (fun _ _ => ?_)
        | refine ph_ite (fun _ => ?_) (fun _ => ?_)
        | exact h120 _ _ _ _ _
        | exact (kh_X10_digit _).1 _ _ _ _ _
        | exact (kh_X10_figures _) _ _ _ _
        | exact (kh_X10_power _) _ _ _ _)
    · intro _ _ _ _ _
      rw [e_X10_hasSoundSigns_120]
      unfold b_X10_hasSoundSigns_120
      repeat' (with_reducible first
        | exact ph_none
        | exact ph_some
        | refine ph_gI (by first | decide | omega) (fun _ => ?_)
        | refine ph_gCp (by first | decide | omega) (fun _ => ?_)
        | refine ph_gB (by first | decide | omega) (fun _ => ?_)
        | refine ph_gR (by first | decide | omega) (fun _ => ?_)
        | refine ph_gv (fun _ => ?_)
        | refine ph_gg (fun _ => ?_)
        | refine ph_gc ?_ (fun _ _ => ?_)
        | refine ph_ite (fun _ => ?_) (fun _ => ?_)
        | exact (kh_X10_figures _) _ _ _ _
        | exact (kh_X10_power _) _ _ _ _)

theorem kh_X10_splice : ∀ n : Nat, (∀ (d : Nat) (S : GS) (a0 : Nat) (a1 : Int) (a2 : Int) (a3 : Int) (a4 : Nat) (a5 : Int) (a6 : Int), PH 495 S (f_X10_splice n d 0 S [((a0 : Nat) : Int), a1, a2, a3, ((a4 : Nat) : Int), a5, a6])) ∧ (∀ (d : Nat) (S : GS) (a0 : Nat) (a1 : Int) (a3 : Int) (a6 : Int) (a8 : Int), PH 495 S (f_X10_splice n d 111 S [((a0 : Nat) : Int), a1, a3, a6, a8]))
  | 0 => ⟨(fun _ _ _ _ _ _ _ _ _ => ph_none), (fun _ _ _ _ _ _ _ => ph_none)⟩
  | n + 1 => by
    obtain ⟨h0, h111⟩ := kh_X10_splice n
    refine ⟨?_, ?_⟩
    · intro _ _ _ _ _ _ _ _ _
      rw [e_X10_splice_0]
      unfold b_X10_splice_0
      repeat' (with_reducible first
        | exact ph_none
        | exact ph_some
        | refine ph_gI (by first | decide | omega) (fun _ => ?_)
        | refine ph_gCp (by first | decide | omega) (fun _ => ?_)
        | refine ph_gB (by first | decide | omega) (fun _ => ?_)
        | refine ph_gR (by first | decide | omega) (fun _ => ?_)
        | refine ph_gv (fun _ => ?_)
        | refine ph_gg (fun _ => ?_)
        | refine ph_gc ?_ (fun _ _ => ?_)
        | refine ph_ite (fun _ => ?_) (fun _ => ?_)
        | exact h111 _ _ _ _ _ _ _
        | exact (kh_X10_copyNodes _) _ _ _ _ _ _ _
        | exact (kh_X10_has _) _ _ _ _
        | exact (kh_X10_isOverfull _) _ _ _)
    · intro _ _ _ _ _ _ _
      rw [e_X10_splice_111]
      unfold b_X10_splice_111
      repeat' (with_reducible first
        | exact ph_none
        | exact ph_some
        | refine ph_gI (by first | decide | omega) (fun _ => ?_)
        | refine ph_gCp (by first | decide | omega) (fun _ => ?_)
        | refine ph_gB (by first | decide | omega) (fun _ => ?_)
        | refine ph_gR (by first | decide | omega) (fun _ => ?_)
        | refine ph_gv (fun _ => ?_)
        | refine ph_gg (fun _ => ?_)
        | refine ph_gc ?_ (fun _ _ => ?_)
        | refine ph_ite (fun _ => ?_) (fun _ => ?_)
        | exact h111 _ _ _ _ _ _ _)

theorem kh_X10_insert : ∀ n : Nat, (∀ (d : Nat) (S : GS) (a0 : Nat) (a1 : Int) (a2 : Int) (a3 : Nat) (a4 : Int), PH 495 S (f_X10_insert n d 0 S [((a0 : Nat) : Int), a1, a2, ((a3 : Nat) : Int), a4]))
  | 0 => (fun _ _ _ _ _ _ _ => ph_none)
  | n + 1 => by
    have h0 := kh_X10_insert n
    · intro _ _ _ _ _ _ _
      rw [e_X10_insert_0]
      unfold b_X10_insert_0
      repeat' (with_reducible first
        | exact ph_none
        | exact ph_some
        | refine ph_gI (by first | decide | omega) (fun _ => ?_)
        | refine ph_gCp (by first | decide | omega) (fun _ => ?_)
        | refine ph_gB (by first | decide | omega) (fun _ => ?_)
        | refine ph_gR (by first | decide | omega) (fun _ => ?_)
        | refine ph_gv (fun _ => ?_)
        | refine ph_gg (fun _ => ?_)
        | refine ph_gc ?_ (fun _ _ => ?_)
        | refine ph_ite (fun _ => ?_) (fun _ => ?_)
        | exact (kh_X10_size _) _ _ _ _
        | exact (kh_X10_splice _).1 _ _ _ _ _ _ _ _ _)

theorem kh_X10_isDocument : ∀ n : Nat, (∀ (d : Nat) (S : GS) (a0 : Nat), PH 495 S (f_X10_isDocument n d 0 S [((a0 : Nat) : Int)]))
  | 0 => (fun _ _ _ => ph_none)
  | n + 1 => by
    have h0 := kh_X10_isDocument n
    · intro _ _ _
      rw [e_X10_isDocument_0]
      unfold b_X10_isDocument_0
      repeat' (with_reducible first
        | exact ph_none
        | exact ph_some
        | refine ph_gI (by first | decide | omega) (fun _ => ?_)
        | refine ph_gCp (by first | decide | omega) (fun _ => ?_)
        | refine ph_gB (by first | decide | omega) (fun _ => ?_)
        | refine ph_gR (by first | decide | omega) (fun _ => ?_)
        | refine ph_gv (fun _ => ?_)
        | refine ph_gg (fun _ => ?_)
        | refine ph_gc ?_ (fun _ _ => ?_)
        | refine ph_ite (fun _ => ?_) (fun _ => ?_)
        | exact (kh_X10_depth _).1 _ _ _ _ _
        | exact (kh_X10_size _) _ _ _ _)

theorem kh_X10_isWithinBounds : ∀ n : Nat, (∀ (d : Nat) (S : GS) (a0 : Nat), PH 495 S (f_X10_isWithinBounds n d 0 S [((a0 : Nat) : Int)])) ∧ (∀ (d : Nat) (S : GS) (a0 : Nat) (a1 : Int) (a2 : Int), PH 495 S (f_X10_isWithinBounds n d 4 S [((a0 : Nat) : Int), a1, a2]))
  | 0 => ⟨(fun _ _ _ => ph_none), (fun _ _ _ _ _ => ph_none)⟩
  | n + 1 => by
    obtain ⟨h0, h4⟩ := kh_X10_isWithinBounds n
    refine ⟨?_, ?_⟩
    · intro _ _ _
      rw [e_X10_isWithinBounds_0]
      unfold b_X10_isWithinBounds_0
      repeat' (with_reducible first
        | exact ph_none
        | exact ph_some
        | refine ph_gI (by first | decide | omega) (fun _ => ?_)
        | refine ph_gCp (by first | decide | omega) (fun _ => ?_)
        | refine ph_gB (by first | decide | omega) (fun _ => ?_)
        | refine ph_gR (by first | decide | omega) (fun _ => ?_)
        | refine ph_gv (fun _ => ?_)
        | refine ph_gg (fun _ => ?_)
        | refine ph_gc ?_ (fun _ _ => ?_)
        | refine ph_ite (fun _ => ?_) (fun _ => ?_)
        | exact h4 _ _ _ _ _)
    · intro _ _ _ _ _
      rw [e_X10_isWithinBounds_4]
      unfold b_X10_isWithinBounds_4
      repeat' (with_reducible first
        | exact ph_none
        | exact ph_some
        | refine ph_gI (by first | decide | omega) (fun _ => ?_)
        | refine ph_gCp (by first | decide | omega) (fun _ => ?_)
        | refine ph_gB (by first | decide | omega) (fun _ => ?_)
        | refine ph_gR (by first | decide | omega) (fun _ => ?_)
        | refine ph_gv (fun _ => ?_)
        | refine ph_gg (fun _ => ?_)
        | refine ph_gc ?_ (fun _ _ => ?_)
        | refine ph_ite (fun _ => ?_) (fun _ => ?_)
        | exact h4 _ _ _ _ _
        | exact (kh_X10_after _) _ _ _ _
        | exact (kh_X10_hasSoundKeys _).1 _ _ _ _
        | exact (kh_X10_hasSoundSigns _).1 _ _ _ _
        | exact (kh_X10_size _) _ _ _ _)

theorem kh_X10_keyTo : ∀ n : Nat, (∀ (d : Nat) (S : GS) (a0 : Nat) (a1 : Int) (a2 : Nat), PH 495 S (f_X10_keyTo n d 0 S [((a0 : Nat) : Int), a1, ((a2 : Nat) : Int)])) ∧ (∀ (d : Nat) (S : GS) (a0 : Nat) (a1 : Int) (a2 : Nat) (a3 : Int), PH 495 S (f_X10_keyTo n d 2 S [((a0 : Nat) : Int), a1, ((a2 : Nat) : Int), a3]))
  | 0 => ⟨(fun _ _ _ _ _ => ph_none), (fun _ _ _ _ _ _ => ph_none)⟩
  | n + 1 => by
    obtain ⟨h0, h2⟩ := kh_X10_keyTo n
    refine ⟨?_, ?_⟩
    · intro _ _ _ _ _
      rw [e_X10_keyTo_0]
      unfold b_X10_keyTo_0
      repeat' (with_reducible first
        | exact ph_none
        | exact ph_some
        | refine ph_gI (by first | decide | omega) (fun _ => ?_)
        | refine ph_gCp (by first | decide | omega) (fun _ => ?_)
        | refine ph_gB (by first | decide | omega) (fun _ => ?_)
        | refine ph_gR (by first | decide | omega) (fun _ => ?_)
        | refine ph_gv (fun _ => ?_)
        | refine ph_gg (fun _ => ?_)
        | refine ph_gc ?_ (fun _ _ => ?_)
        | refine ph_ite (fun _ => ?_) (fun _ => ?_)
        | exact h2 _ _ _ _ _ _)
    · intro _ _ _ _ _ _
      rw [e_X10_keyTo_2]
      unfold b_X10_keyTo_2
      repeat' (with_reducible first
        | exact ph_none
        | exact ph_some
        | refine ph_gI (by first | decide | omega) (fun _ => ?_)
        | refine ph_gCp (by first | decide | omega) (fun _ => ?_)
        | refine ph_gB (by first | decide | omega) (fun _ => ?_)
        | refine ph_gR (by first | decide | omega) (fun _ => ?_)
        | refine ph_gv (fun _ => ?_)
        | refine ph_gg (fun _ => ?_)
        | refine ph_gc ?_ (fun _ _ => ?_)
        | refine ph_ite (fun _ => ?_) (fun _ => ?_)
        | exact h2 _ _ _ _ _ _
        | exact (kh_X10_keyLength _) _ _ _ _
        | exact (kh_X10_keySign _).1 _ _ _ _ _
        | exact (kh_X9_add _) _ _ _ _)

theorem kh_X10_stepTo : ∀ n : Nat, (∀ (d : Nat) (S : GS) (a0 : Nat) (a1 : Int) (a2 : Nat), PH 495 S (f_X10_stepTo n d 0 S [((a0 : Nat) : Int), a1, ((a2 : Nat) : Int)])) ∧ (∀ (d : Nat) (S : GS) (a0 : Nat) (a1 : Int) (a2 : Nat) (a3 : Int), PH 495 S (f_X10_stepTo n d 35 S [((a0 : Nat) : Int), a1, ((a2 : Nat) : Int), a3])) ∧ (∀ (d : Nat) (S : GS) (a0 : Nat) (a1 : Int) (a2 : Nat) (a3 : Int) (a4 : Int), PH 495 S (f_X10_stepTo n d 66 S [((a0 : Nat) : Int), a1, ((a2 : Nat) : Int), a3, a4]))
  | 0 => ⟨(fun _ _ _ _ _ => ph_none), (fun _ _ _ _ _ _ => ph_none), (fun _ _ _ _ _ _ _ => ph_none)⟩
  | n + 1 => by
    obtain ⟨h0, h35, h66⟩ := kh_X10_stepTo n
    refine ⟨?_, ?_, ?_⟩
    · intro _ _ _ _ _
      rw [e_X10_stepTo_0]
      unfold b_X10_stepTo_0
      repeat' (with_reducible first
        | exact ph_none
        | exact ph_some
        | refine ph_gI (by first | decide | omega) (fun _ => ?_)
        | refine ph_gCp (by first | decide | omega) (fun _ => ?_)
        | refine ph_gB (by first | decide | omega) (fun _ => ?_)
        | refine ph_gR (by first | decide | omega) (fun _ => ?_)
        | refine ph_gv (fun _ => ?_)
        | refine ph_gg (fun _ => ?_)
        | refine ph_gc ?_ (fun _ _ => ?_)
        | refine ph_ite (fun _ => ?_) (fun _ => ?_)
        | exact h35 _ _ _ _ _ _
        | exact (kh_X10_is _) _ _ _ _ _
        | exact (kh_X10_ownerOf _).1 _ _ _ _
        | exact (kh_X10_placeOf _).1 _ _ _ _
        | exact (kh_X9_add _) _ _ _ _
        | exact (kh_X9_addNumber _).1 _ _ _ _)
    · intro _ _ _ _ _ _
      rw [e_X10_stepTo_35]
      unfold b_X10_stepTo_35
      repeat' (with_reducible first
        | exact ph_none
        | exact ph_some
        | refine ph_gI (by first | decide | omega) (fun _ => ?_)
        | refine ph_gCp (by first | decide | omega) (fun _ => ?_)
        | refine ph_gB (by first | decide | omega) (fun _ => ?_)
        | refine ph_gR (by first | decide | omega) (fun _ => ?_)
        | refine ph_gv (fun _ => ?_)
        | refine ph_gg (fun _ => ?_)
        | refine ph_gc ?_ (fun _ _ => ?_)
        | refine ph_ite (fun _ => ?_) (fun _ => ?_)
        | exact h35 _ _ _ _ _ _
        | exact h66 _ _ _ _ _ _ _
        | exact (kh_X10_keyLength _) _ _ _ _
        | exact (kh_X10_keySign _).1 _ _ _ _ _
        | exact (kh_X9_add _) _ _ _ _)
    · intro _ _ _ _ _ _ _
      rw [e_X10_stepTo_66]
      unfold b_X10_stepTo_66
      repeat' (with_reducible first
        | exact ph_none
        | exact ph_some
        | refine ph_gI (by first | decide | omega) (fun _ => ?_)
        | refine ph_gCp (by first | decide | omega) (fun _ => ?_)
        | refine ph_gB (by first | decide | omega) (fun _ => ?_)
        | refine ph_gR (by first | decide | omega) (fun _ => ?_)
        | refine ph_gv (fun _ => ?_)
        | refine ph_gg (fun _ => ?_)
        | refine ph_gc ?_ (fun _ _ => ?_)
        | refine ph_ite (fun _ => ?_) (fun _ => ?_)
        | exact h35 _ _ _ _ _ _
        | exact (kh_X9_add _) _ _ _ _)

theorem kh_X10_pathTo : ∀ n : Nat, (∀ (d : Nat) (S : GS) (a0 : Nat) (a1 : Int) (a2 : Nat), PH 495 S (f_X10_pathTo n d 0 S [((a0 : Nat) : Int), a1, ((a2 : Nat) : Int)])) ∧ (∀ (d : Nat) (S : GS) (a0 : Nat) (a1 : Int) (a2 : Nat) (a3 : Int), PH 495 S (f_X10_pathTo n d 2 S [((a0 : Nat) : Int), a1, ((a2 : Nat) : Int), a3]))
  | 0 => ⟨(fun _ _ _ _ _ => ph_none), (fun _ _ _ _ _ _ => ph_none)⟩
  | n + 1 => by
    obtain ⟨h0, h2⟩ := kh_X10_pathTo n
    refine ⟨?_, ?_⟩
    · intro _ _ _ _ _
      rw [e_X10_pathTo_0]
      unfold b_X10_pathTo_0
      repeat' (with_reducible first
        | exact ph_none
        | exact ph_some
        | refine ph_gI (by first | decide | omega) (fun _ => ?_)
        | refine ph_gCp (by first | decide | omega) (fun _ => ?_)
        | refine ph_gB (by first | decide | omega) (fun _ => ?_)
        | refine ph_gR (by first | decide | omega) (fun _ => ?_)
        | refine ph_gv (fun _ => ?_)
        | refine ph_gg (fun _ => ?_)
        | refine ph_gc ?_ (fun _ _ => ?_)
        | refine ph_ite (fun _ => ?_) (fun _ => ?_)
        | exact h2 _ _ _ _ _ _)
    · intro _ _ _ _ _ _
      rw [e_X10_pathTo_2]
      unfold b_X10_pathTo_2
      repeat' (with_reducible first
        | exact ph_none
        | exact ph_some
        | refine ph_gI (by first | decide | omega) (fun _ => ?_)
        | refine ph_gCp (by first | decide | omega) (fun _ => ?_)
        | refine ph_gB (by first | decide | omega) (fun _ => ?_)
        | refine ph_gR (by first | decide | omega) (fun _ => ?_)
        | refine ph_gv (fun _ => ?_)
        | refine ph_gg (fun _ => ?_)
        | refine ph_gc ?_ (fun _ _ => ?_)
        | refine ph_ite (fun _ => ?_) (fun _ => ?_)
        | exact h2 _ _ _ _ _ _
        | exact (kh_X10_after _) _ _ _ _
        | exact (kh_X10_stepTo _).1 _ _ _ _ _)

theorem kh_X10_remove : ∀ n : Nat, (∀ (d : Nat) (S : GS) (a0 : Nat) (a1 : Int), PH 495 S (f_X10_remove n d 0 S [((a0 : Nat) : Int), a1]))
  | 0 => (fun _ _ _ _ => ph_none)
  | n + 1 => by
    have h0 := kh_X10_remove n
    · intro _ _ _ _
      rw [e_X10_remove_0]
      unfold b_X10_remove_0
      repeat' (with_reducible first
        | exact ph_none
        | exact ph_some
        | refine ph_gI (by first | decide | omega) (fun _ => ?_)
        | refine ph_gCp (by first | decide | omega) (fun _ => ?_)
        | refine ph_gB (by first | decide | omega) (fun _ => ?_)
        | refine ph_gR (by first | decide | omega) (fun _ => ?_)
        | refine ph_gv (fun _ => ?_)
        | refine ph_gg (fun _ => ?_)
        | refine ph_gc ?_ (fun _ _ => ?_)
        | refine ph_ite (fun _ => ?_) (fun _ => ?_)
        | exact (kh_X10_ownerOf _).1 _ _ _ _
        | exact (kh_X10_size _) _ _ _ _
        | exact (kh_X10_splice _).1 _ _ _ _ _ _ _ _ _)

theorem kh_X10_replace : ∀ n : Nat, (∀ (d : Nat) (S : GS) (a0 : Nat) (a1 : Int) (a2 : Nat) (a3 : Int), PH 495 S (f_X10_replace n d 0 S [((a0 : Nat) : Int), a1, ((a2 : Nat) : Int), a3]))
  | 0 => (fun _ _ _ _ _ _ => ph_none)
  | n + 1 => by
    have h0 := kh_X10_replace n
    · intro _ _ _ _ _ _
      rw [e_X10_replace_0]
      unfold b_X10_replace_0
      repeat' (with_reducible first
        | exact ph_none
        | exact ph_some
        | refine ph_gI (by first | decide | omega) (fun _ => ?_)
        | refine ph_gCp (by first | decide | omega) (fun _ => ?_)
        | refine ph_gB (by first | decide | omega) (fun _ => ?_)
        | refine ph_gR (by first | decide | omega) (fun _ => ?_)
        | refine ph_gv (fun _ => ?_)
        | refine ph_gg (fun _ => ?_)
        | refine ph_gc ?_ (fun _ _ => ?_)
        | refine ph_ite (fun _ => ?_) (fun _ => ?_)
        | exact (kh_X10_has _) _ _ _ _
        | exact (kh_X10_size _) _ _ _ _
        | exact (kh_X10_splice _).1 _ _ _ _ _ _ _ _ _)

theorem kh_X10_replaceByLast : ∀ n : Nat, (∀ (d : Nat) (S : GS) (a0 : Nat) (a1 : Int) (a2 : Int) (a3 : Nat), PH 495 S (f_X10_replaceByLast n d 0 S [((a0 : Nat) : Int), a1, a2, ((a3 : Nat) : Int)]))
  | 0 => (fun _ _ _ _ _ _ => ph_none)
  | n + 1 => by
    have h0 := kh_X10_replaceByLast n
    · intro _ _ _ _ _ _
      rw [e_X10_replaceByLast_0]
      unfold b_X10_replaceByLast_0
      repeat' (with_reducible first
        | exact ph_none
        | exact ph_some
        | refine ph_gI (by first | decide | omega) (fun _ => ?_)
        | refine ph_gCp (by first | decide | omega) (fun _ => ?_)
        | refine ph_gB (by first | decide | omega) (fun _ => ?_)
        | refine ph_gR (by first | decide | omega) (fun _ => ?_)
        | refine ph_gv (fun _ => ?_)
        | refine ph_gg (fun _ => ?_)
        | refine ph_gc ?_ (fun _ _ => ?_)
        | refine ph_ite (fun _ => ?_) (fun _ => ?_)
        | exact (kh_X10_copyOf _) _ _ _ _ _
        | exact (kh_X10_dropFrom _) _ _ _ _
        | exact (kh_X10_replace _) _ _ _ _ _ _)

theorem kh_X10_setKey : ∀ n : Nat, (∀ (d : Nat) (S : GS) (a0 : Nat) (a1 : Int) (a2 : Nat), PH 495 S (f_X10_setKey n d 0 S [((a0 : Nat) : Int), a1, ((a2 : Nat) : Int)])) ∧ (∀ (d : Nat) (S : GS) (a0 : Nat) (a1 : Int) (a2 : Nat) (a3 : Int), PH 495 S (f_X10_setKey n d 7 S [((a0 : Nat) : Int), a1, ((a2 : Nat) : Int), a3]))
  | 0 => ⟨(fun _ _ _ _ _ => ph_none), (fun _ _ _ _ _ _ => ph_none)⟩
  | n + 1 => by
    obtain ⟨h0, h7⟩ := kh_X10_setKey n
    refine ⟨?_, ?_⟩
    · intro _ _ _ _ _
      rw [e_X10_setKey_0]
      unfold b_X10_setKey_0
      repeat' (with_reducible first
        | exact ph_none
        | exact ph_some
        | refine ph_gI (by first | decide | omega) (fun _ => ?_)
        | refine ph_gCp (by first | decide | omega) (fun _ => ?_)
        | refine ph_gB (by first | decide | omega) (fun _ => ?_)
        | refine ph_gR (by first | decide | omega) (fun _ => ?_)
        | refine ph_gv (fun _ => ?_)
        | refine ph_gg (fun _ => ?_)
        | refine ph_gc ?_ (fun _ _ => ?_)
        | refine ph_ite (fun _ => ?_) (fun _ => ?_)
        | exact h7 _ _ _ _ _ _
        | exact (kh_X10_clearKey _) _ _ _ _)
    · intro _ _ _ _ _ _
      rw [e_X10_setKey_7]
      unfold b_X10_setKey_7
      repeat' (with_reducible first
        | exact ph_none
        | exact ph_some
        | refine ph_gI (by first | decide | omega) (fun _ => ?_)
        | refine ph_gCp (by first | decide | omega) (fun _ => ?_)
        | refine ph_gB (by first | decide | omega) (fun _ => ?_)
        | refine ph_gR (by first | decide | omega) (fun _ => ?_)
        | refine ph_gv (fun _ => ?_)
        | refine ph_gg (fun _ => ?_)
        | refine ph_gc ?_ (fun _ _ => ?_)
        | refine ph_ite (fun _ => ?_) (fun _ => ?_)
        | exact h7 _ _ _ _ _ _
        | exact (kh_X10_addKeySign _).1 _ _ _ _ _
        | exact (kh_X9_at _) _ _ _ _
        | exact (kh_X9_length _) _ _ _)

theorem kh_X10_setKeyLike : ∀ n : Nat, (∀ (d : Nat) (S : GS) (a0 : Nat) (a1 : Int) (a2 : Nat) (a3 : Int), PH 495 S (f_X10_setKeyLike n d 0 S [((a0 : Nat) : Int), a1, ((a2 : Nat) : Int), a3])) ∧ (∀ (d : Nat) (S : GS) (a0 : Nat) (a1 : Int) (a2 : Nat) (a3 : Int) (a4 : Int), PH 495 S (f_X10_setKeyLike n d 8 S [((a0 : Nat) : Int), a1, ((a2 : Nat) : Int), a3, a4]))
  | 0 => ⟨(fun _ _ _ _ _ _ => ph_none), (fun _ _ _ _ _ _ _ => ph_none)⟩
  | n + 1 => by
    obtain ⟨h0, h8⟩ := kh_X10_setKeyLike n
    refine ⟨?_, ?_⟩
    · intro _ _ _ _ _ _
      rw [e_X10_setKeyLike_0]
      unfold b_X10_setKeyLike_0
      repeat' (with_reducible first
        | exact ph_none
        | exact ph_some
        | refine ph_gI (by first | decide | omega) (fun _ => ?_)
        | refine ph_gCp (by first | decide | omega) (fun _ => ?_)
        | refine ph_gB (by first | decide | omega) (fun _ => ?_)
        | refine ph_gR (by first | decide | omega) (fun _ => ?_)
        | refine ph_gv (fun _ => ?_)
        | refine ph_gg (fun _ => ?_)
        | refine ph_gc ?_ (fun _ _ => ?_)
        | refine ph_ite (fun _ => ?_) (fun _ => ?_)
        | exact h8 _ _ _ _ _ _ _
        | exact (kh_X10_clearKey _) _ _ _ _)
    · intro _ _ _ _ _ _ _
      rw [e_X10_setKeyLike_8]
      unfold b_X10_setKeyLike_8
      repeat' (with_reducible first
        | exact ph_none
        | exact ph_some
        | refine ph_gI (by first | decide | omega) (fun _ => ?_)
        | refine ph_gCp (by first | decide | omega) (fun _ => ?_)
        | refine ph_gB (by first | decide | omega) (fun _ => ?_)
        | refine ph_gR (by first | decide | omega) (fun _ => ?_)
        | refine ph_gv (fun _ => ?_)
        | refine ph_gg (fun _ => ?_)
        | refine ph_gc ?_ (fun _ _ => ?_)
        | refine ph_ite (fun _ => ?_) (fun _ => ?_)
        | exact h8 _ _ _ _ _ _ _
        | exact (kh_X10_addKeySign _).1 _ _ _ _ _
        | exact (kh_X10_keyLength _) _ _ _ _
        | exact (kh_X10_keySign _).1 _ _ _ _ _)

theorem kh_X10_setKeyWord : ∀ n : Nat, (∀ (d : Nat) (S : GS) (a0 : Nat) (a1 : Int) (a2 : Nat), PH 495 S (f_X10_setKeyWord n d 0 S [((a0 : Nat) : Int), a1, ((a2 : Nat) : Int)])) ∧ (∀ (d : Nat) (S : GS) (a0 : Nat) (a1 : Int) (a2 : Nat) (a3 : Int), PH 495 S (f_X10_setKeyWord n d 7 S [((a0 : Nat) : Int), a1, ((a2 : Nat) : Int), a3]))
  | 0 => ⟨(fun _ _ _ _ _ => ph_none), (fun _ _ _ _ _ _ => ph_none)⟩
  | n + 1 => by
    obtain ⟨h0, h7⟩ := kh_X10_setKeyWord n
    refine ⟨?_, ?_⟩
    · intro _ _ _ _ _
      rw [e_X10_setKeyWord_0]
      unfold b_X10_setKeyWord_0
      repeat' (with_reducible first
        | exact ph_none
        | exact ph_some
        | refine ph_gI (by first | decide | omega) (fun _ => ?_)
        | refine ph_gCp (by first | decide | omega) (fun _ => ?_)
        | refine ph_gB (by first | decide | omega) (fun _ => ?_)
        | refine ph_gR (by first | decide | omega) (fun _ => ?_)
        | refine ph_gv (fun _ => ?_)
        | refine ph_gg (fun _ => ?_)
        | refine ph_gc ?_ (fun _ _ => ?_)
        | refine ph_ite (fun _ => ?_) (fun _ => ?_)
        | exact h7 _ _ _ _ _ _
        | exact (kh_X10_clearKey _) _ _ _ _)
    · intro _ _ _ _ _ _
      rw [e_X10_setKeyWord_7]
      unfold b_X10_setKeyWord_7
      repeat' (with_reducible first
        | exact ph_none
        | exact ph_some
        | refine ph_gI (by first | decide | omega) (fun _ => ?_)
        | refine ph_gCp (by first | decide | omega) (fun _ => ?_)
        | refine ph_gB (by first | decide | omega) (fun _ => ?_)
        | refine ph_gR (by first | decide | omega) (fun _ => ?_)
        | refine ph_gv (fun _ => ?_)
        | refine ph_gg (fun _ => ?_)
        | refine ph_gc ?_ (fun _ _ => ?_)
        | refine ph_ite (fun _ => ?_) (fun _ => ?_)
        | exact h7 _ _ _ _ _ _
        | exact (kh_X10_addKeySign _).1 _ _ _ _ _)

theorem kh_X10_valueAt : ∀ n : Nat, (∀ (d : Nat) (S : GS) (a0 : Nat) (a1 : Int) (a2 : Int), PH 495 S (f_X10_valueAt n d 0 S [((a0 : Nat) : Int), a1, a2])) ∧ (∀ (d : Nat) (S : GS) (a0 : Nat) (a1 : Int) (a2 : Int) (a3 : Int) (a4 : Int), PH 495 S (f_X10_valueAt n d 9 S [((a0 : Nat) : Int), a1, a2, a3, a4]))
  | 0 => ⟨(fun _ _ _ _ _ => ph_none), (fun _ _ _ _ _ _ _ => ph_none)⟩
  | n + 1 => by
    obtain ⟨h0, h9⟩ := kh_X10_valueAt n
    refine ⟨?_, ?_⟩
    · intro _ _ _ _ _
      rw [e_X10_valueAt_0]
      unfold b_X10_valueAt_0
      repeat' (with_reducible first
        | exact ph_none
        | exact ph_some
        | refine ph_gI (by first | decide | omega) (fun _ => ?_)
        | refine ph_gCp (by first | decide | omega) (fun _ => ?_)
        | refine ph_gB (by first | decide | omega) (fun _ => ?_)
        | refine ph_gR (by first | decide | omega) (fun _ => ?_)
        | refine ph_gv (fun _ => ?_)
        | refine ph_gg (fun _ => ?_)
        | refine ph_gc ?_ (fun _ _ => ?_)
        | refine ph_ite (fun _ => ?_) (fun _ => ?_)
        | exact h9 _ _ _ _ _ _ _
        | exact (kh_X10_first _).1 _ _ _ _)
    · intro _ _ _ _ _ _ _
      rw [e_X10_valueAt_9]
      unfold b_X10_valueAt_9
      repeat' (with_reducible first
        | exact ph_none
        | exact ph_some
        | refine ph_gI (by first | decide | omega) (fun _ => ?_)
        | refine ph_gCp (by first | decide | omega) (fun _ => ?_)
        | refine ph_gB (by first | decide | omega) (fun _ => ?_)
        | refine ph_gR (by first | decide | omega) (fun _ => ?_)
        | refine ph_gv (fun _ => ?_)
        | refine ph_gg (fun _ => ?_)
        | refine ph_gc ?_ (fun _ _ => ?_)
        | refine ph_ite (fun _ => ?_) (fun _ => ?_)
        | exact h9 _ _ _ _ _ _ _
        | exact (kh_X10_next _) _ _ _ _ _)

theorem kh_X11_addColumn : ∀ n : Nat, (∀ (d : Nat) (S : GS) (a0 : Nat) (a1 : Int) (a2 : Nat), PH 495 S (f_X11_addColumn n d 0 S [((a0 : Nat) : Int), a1, ((a2 : Nat) : Int)])) ∧ (∀ (d : Nat) (S : GS) (a0 : Nat) (a1 : Int) (a2 : Nat) (a3 : Int) (a4 : Int) (a5 : Int), PH 495 S (f_X11_addColumn n d 23 S [((a0 : Nat) : Int), a1, ((a2 : Nat) : Int), a3, a4, a5])) ∧ (∀ (d : Nat) (S : GS) (a0 : Nat) (a1 : Int) (a2 : Nat) (a3 : Int) (a4 : Int) (a5 : Int) (s0 : Int) (s1 : Nat), PH 495 S (f_X11_addColumn n d 68 S [((a0 : Nat) : Int), a1, ((a2 : Nat) : Int), a3, a4, a5, s0, ((s1 : Nat) : Int)]))
  | 0 => ⟨(fun _ _ _ _ _ => ph_none), (fun _ _ _ _ _ _ _ _ => ph_none), (fun _ _ _ _ _ _ _ _ _ _ => ph_none)⟩
  | n + 1 => by
    obtain ⟨h0, h23, h68⟩ := kh_X11_addColumn n
    refine ⟨?_, ?_, ?_⟩
    · intro _ _ _ _ _
      rw [e_X11_addColumn_0]
      unfold b_X11_addColumn_0
      repeat' (with_reducible first
        | exact ph_none
        | exact ph_some
        | refine ph_gI (by first | decide | omega) (fun _ => ?_)
        | refine ph_gCp (by first | decide | omega) (fun _ => ?_)
        | refine ph_gB (by first | decide | omega) (fun _ => ?_)
        | refine ph_gR (by first | decide | omega) (fun _ => ?_)
        | refine ph_gv (fun _ => ?_)
        | refine ph_gg (fun _ => ?_)
        | refine ph_gc ?_ (fun _ _ => ?_)
        | refine ph_ite (fun _ => ?_) (fun _ => ?_)
        | exact h23 _ _ _ _ _ _ _ _
        | exact (kh_X10_add _) _ _ _ _
        | exact (kh_X10_first _).1 _ _ _ _
        | exact (kh_X10_setKeyLike _).1 _ _ _ _ _ _)
    · intro _ _ _ _ _ _ _ _
      rw [e_X11_addColumn_23]
      unfold b_X11_addColumn_23
      repeat' (with_reducible first
        | exact ph_none
        | exact ph_some
        | refine ph_gI (by first | decide | omega) (fun _ => ?_)
        | refine ph_gCp (by first | decide | omega) (fun _ => ?_)
        | refine ph_gB (by first | decide | omega) (fun _ => ?_)
        | refine ph_gR (by first | decide | omega) (fun _ => ?_)
        | refine ph_gv (fun _ => ?_)
        | refine ph_gg (fun _ => ?_)
        | refine ph_gc ?_ (fun _ _ => ?_)
        | refine ph_ite (fun _ => ?_) (fun _ => ?_)
        | exact h68 _ _ _ _ _ _ _ _ _ _
        | exact (kh_X10_add _) _ _ _ _
        | exact (kh_X10_append _) _ _ _ _ _
        | exact (kh_X10_close _) _ _ _ _
        | exact (kh_X10_valueLike _).1 _ _ _ _ _ _)
    · intro _ _ _ _ _ _ _ _ _ _
      rw [e_X11_addColumn_68]
      unfold b_X11_addColumn_68
      repeat' (with_reducible first
        | exact ph_none
        | exact ph_some
        | refine ph_gI (by first | decide | omega) (fun _ => ?_)
        | refine ph_gCp (by first | decide | omega) (fun _ => ?_)
        | refine ph_gB (by first | decide | omega) (fun _ => ?_)
        | refine ph_gR (by first | decide | omega) (fun _ => ?_)
        | refine ph_gv (fun _ => ?_)
        | refine ph_gg (fun _ => ?_)
        | refine ph_gc ?_ (fun _ _ => ?_)
        | refine ph_ite (fun _ => ?_) (fun _ => ?_)
        | exact h23 _ _ _ _ _ _ _ _
        | exact (kh_X10_clearKey _) _ _ _ _
        | exact (kh_X10_next _) _ _ _ _ _)

