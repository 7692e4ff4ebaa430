/-! CELLS that the reference never touches -/
theorem kr_X12_init : ∀ n : Nat, (∀ (d : Nat) (S : GS), PH 600 S (f_X12_init n d 1201 S [])) ∧ (∀ (d : Nat) (S : GS) (a1 : Int), PH 600 S (f_X12_init n d 1208 S [a1])) ∧ (∀ (d : Nat) (S : GS) (a1 : Int) (a2 : Int), PH 600 S (f_X12_init n d 1217 S [a1, a2]))
  | 0 => ⟨(fun _ _ => ph_none), (fun _ _ _ => ph_none), (fun _ _ _ _ => ph_none)⟩
  | n + 1 => by
    obtain ⟨h1201, h1208, h1217⟩ := kr_X12_init n
    refine ⟨?_, ?_, ?_⟩
    · intro _ _
      rw [e_X12_init_1201]
      unfold b_X12_init_1201
      repeat' (with_reducible first
        | exact ph_none
        | exact ph_some
        | refine ph_gI (by first | decide | omega) (fun _ => ?_)
        | refine ph_gCp (by first | decide | omega) (fun _ => ?_)
        | refine ph_gB (by first | decide | omega) (fun _ => ?_)
        | refine ph_gR (by first | decide | omega) (fun _ => ?_)
        | refine ph_gv (fun _ => ?_)
        | refine ph_gg (fun _ => ?_)
        | refine ph_gc ?_ (fun _ _ => ?_)
        | refine ph_ite (fun _ => ?_) (fun _ => ?_)
        | exact h1208 _ _ _)
    · intro _ _ _
      rw [e_X12_init_1208]
      unfold b_X12_init_1208
      repeat' (with_reducible first
        | exact ph_none
        | exact ph_some
        | refine ph_gI (by first | decide | omega) (fun _ => ?_)
        | refine ph_gCp (by first | decide | omega) (fun _ => ?_)
        | refine ph_gB (by first | decide | omega) (fun _ => ?_)
        | refine ph_gR (by first | decide | omega) (fun _ => ?_)
        | refine ph_gv (fun _ => ?_)
        | refine ph_gg (fun _ => ?_)
        | refine ph_gc ?_ (fun _ _ => ?_)
        | refine ph_ite (fun _ => ?_) (fun _ => ?_)
        | exact h1217 _ _ _ _
        | exact (kr_X12_becomes _).1 _ _ _ _
        | exact (kr_X12_reads _).1 _ _ _)
    · intro _ _ _ _
      rw [e_X12_init_1217]
      unfold b_X12_init_1217
      repeat' (with_reducible first
        | exact ph_none
        | exact ph_some
        | refine ph_gI (by first | decide | omega) (fun _ => ?_)
        | refine ph_gCp (by first | decide | omega) (fun _ => ?_)
        | refine ph_gB (by first | decide | omega) (fun _ => ?_)
        | refine ph_gR (by first | decide | omega) (fun _ => ?_)
        | refine ph_gv (fun _ => ?_)
        | refine ph_gg (fun _ => ?_)
        | refine ph_gc ?_ (fun _ _ => ?_)
        | refine ph_ite (fun _ => ?_) (fun _ => ?_)
        | exact h1208 _ _ _
        | exact h1217 _ _ _ _)

