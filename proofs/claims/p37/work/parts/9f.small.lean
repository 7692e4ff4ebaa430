/-! rule, undo, wipe, of the class -/
section SML
variable {S S0 : GS} {d : Nat} {l : List Int}
theorem t_undo {n : Nat} (hn : S.1 468 14 = (n : Int)) (h40 : n ≤ 40) : Ev (fun m => f_X11_undo m d 0 S []) (fun x S1 => if 1 ≤ n then x = (n : Int) - 1 ∧ S1 = gI S 468 14 ((n : Int) - 1) else x = exB + 2 ∧ S1 = S) := by
  have ex : exB = 18446744073709551616 := rfl
  by_cases h : 1 ≤ n
  · simp only [if_pos h]
    have e : (gI S 468 14 ((n : Int) - 1)).1 468 14 = (n : Int) - 1 := gI_a
    refine ev_up (fun n => e_X11_undo_0) ?_
    unfold b_X11_undo_0
    rw [hn]
    repeat' (first
      | with_reducible refine ev_gv ?_
      | with_reducible refine ev_gg ?_ ?_
      | with_reducible refine ev_ite (fun _ => ?_) (fun _ => ?_)
      | omega
      | assumption)
    rw [e]
    exact ev_ret ⟨rfl, rfl⟩
  · simp only [if_neg h]
    refine ev_up (fun n => e_X11_undo_0) ?_
    unfold b_X11_undo_0
    rw [hn]
    repeat' (first
      | with_reducible refine ev_gv ?_
      | with_reducible refine ev_gg ?_ ?_
      | with_reducible refine ev_ite (fun _ => ?_) (fun _ => ?_)
      | omega
      | assumption)
    exact ev_ret ⟨rfl, rfl⟩
theorem t_wipe (hd : 1 ≤ d) (h : SX 424 S0 l S) : Ev (fun m => f_X11_wipe m d 0 S []) (fun x S1 => x = (l.length : Int) ∧ SX 424 S0 [] S1) := by
  have hs : gSh 424 := by decide
  refine ev_up (fun n => e_X11_wipe_0) ?_
  unfold b_X11_wipe_0
  repeat' (first
    | with_reducible refine ev_gv ?_
    | with_reducible refine ev_gg ?_ ?_
    | with_reducible refine ev_ite (fun _ => ?_) (fun _ => ?_)
    | refine ev_gcr (s9_length hs h.1) ?_
    | omega
    | assumption)
  refine ev_gc (sx_clear hs h.2.2) (fun _ S1 h1 => ?_)
  exact ev_ret ⟨rfl, h1.1, fr_tr h.2.1 h1.2.1, h1.2.2⟩
end SML
