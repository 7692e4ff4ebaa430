/-! THE CLASS's put, cut, select -/
section CPU
variable {S S1 : GS} {T0 : List ND} {Ds : List (List ND)} {pg pp : List Int} {r : Int} {L : List Nat} {Q : List (List Int)} {C : List (Int × Int)} {d : Nat}
theorem rl_wk {k : Nat} (z : rlM 471 k) : wkM k := by
  have z' : roM 471 k ∨ shM (rS 471) k := z
  have e : rS 471 = 436 := rfl
  rw [e] at z'
  unfold roM shM at z'
  unfold wkM
  omega
theorem c_loadPage (h : ClS T0 Ds pg pp r L Q C S) (hd : 5 ≤ d) : Ev (fun m => f_X11_loadPage m d 0 S []) (fun x S1 => ((isP pg ∧ x = 0 ∧ RoS 471 pg S1) ∨ (¬ isP pg ∧ x = exB + 2)) ∧ ClS T0 Ds pg pp r L Q C S1) := by
  refine ev_up (fun n => e_X11_loadPage_0) ?_
  unfold b_X11_loadPage_0
  refine ev_gg (by first | omega | (constructor <;> omega)) ?_
  refine ev_gc (ro_load (d := d - 1) (a := 471) (c := 424) (by decide) (by decide) (by decide) (by omega) h.2.1.1 h.2.2.2.2.2.2.2.2 h.2.1.2) (fun x S2 q2 => ?_)
  obtain ⟨q2, f2, G2⟩ := q2
  have h2 := cl_fr h f2 (fun k z => rl_wk z) G2
  rcases q2 with ⟨p, xe, ro⟩ | ⟨p, xe⟩
  · subst xe
    refine ev_gg (by decide) ?_
    refine ev_ite (fun _ => ?_) (fun z => absurd (by decide) z)
    exact ev_ret ⟨Or.inl ⟨p, rfl, ro⟩, h2⟩
  · subst xe
    refine ev_gg (by decide) ?_
    refine ev_ite (fun z => absurd rfl z) (fun _ => ?_)
    exact ev_ret ⟨Or.inr ⟨p, rfl⟩, h2⟩
end CPU
