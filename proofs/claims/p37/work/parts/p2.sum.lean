/-! THE CLASS's sum -/
section CSU
variable {S S1 : GS} {T0 : List ND} {Ds : List (List ND)} {pg pp : List Int} {r : Int} {L : List Nat} {Q : List (List Int)} {C : List (Int × Int)} {d : Nat}
theorem c_sum {w : Int} (h : ClS T0 Ds pg pp r L Q C S) (hd : 4 ≤ d) (hw : inr w) : Rd (fun m => f_X11_sum m d 0 S [w]) (if 0 ≤ w ∧ w ≤ 6 then (if w = 0 then (Ds.length : Int) else if w = 1 then (pg.length : Int) else if w = 2 then (pp.length : Int) else if w = 3 then r else if w = 4 then (L.length : Int) else if w = 5 then (C.length : Int) else (szs Ds : Int)) else exB + 1) S := by
  have ex := ex_e
  have g24 : gSh 424 := by decide
  have g26 : gSh 426 := by decide
  have n4 := h.1.2.1
  have l1 : pg.length ≤ 400 := h.2.1.2
  have l2 : pp.length ≤ 36000 := h.2.2.1.2.1
  have r2 := h.2.2.2.1.2
  have lb : ∀ (D : List (List ND)), (∀ V ∈ D, V.length ≤ 100) → szs D ≤ 100 * D.length := by
    intro D
    induction D with
    | nil => intro _; exact Nat.le_refl _
    | cons V D ih =>
      intro hV
      have a := hV V List.mem_cons_self
      have b := ih (fun U hU => hV U (List.mem_cons_of_mem _ hU))
      show V.length + szs D ≤ 100 * (D.length + 1)
      omega
  have dl : ∀ V ∈ Ds, V.length ≤ 100 := fun V hV => by
    obtain ⟨i, hi, e⟩ := List.getElem_of_mem hV
    have := (h.1.2.2 i hi).2.2.2.1
    rw [List.getD_eq_getElem?_getD, List.getElem?_eq_getElem hi] at this
    rw [← e]
    exact this
  have sz := lb Ds dl
  have lp : ∀ (D : List (List ND)) (u : Nat) (x : Int), Ds.drop u = D → u ≤ Ds.length → x + (szs D : Int) = (szs Ds : Int) → Rd (fun m => f_X11_allNodes m (d - 1) 4 S [x, (u : Int)]) (szs Ds : Int) S := by
    intro D
    induction D with
    | nil =>
      intro u x hu hul hx
      have := List.drop_eq_nil_iff.mp hu
      have s0 : szs [] = 0 := rfl
      refine ev_up (fun n => e_X11_allNodes_4) ?_
      unfold b_X11_allNodes_4
      refine ev_gv ?_
      rw [h.1.1]
      refine ev_gg (by first | omega | (constructor <;> omega)) ?_
      refine ev_gg (by first | omega | (constructor <;> omega)) ?_
      refine ev_ite (fun _ => ?_) (fun z => by omega)
      refine ev_gg (by omega) ?_
      exact ev_ret ⟨by omega, rfl⟩
    | cons V D ih =>
      intro u x hu hul hx
      have lu : u < Ds.length := by
        by_cases y : u < Ds.length
        · exact y
        · rw [List.drop_eq_nil_of_le (by omega)] at hu; cases hu
      have eD := List.drop_eq_getElem_cons lu
      rw [hu] at eD
      obtain ⟨ev, ed⟩ := List.cons.inj eD
      have eg : Ds.getD u [] = V := by rw [List.getD_eq_getElem?_getD, List.getElem?_eq_getElem lu, ev]; rfl
      have hu2 : 0 ≤ (u : Int) ∧ (u : Int) < (Ds.length : Int) := by omega
      have at_ := cl_at h hu2
      rw [Int.toNat_natCast, eg] at at_
      refine ev_up (fun n => e_X11_allNodes_4) ?_
      unfold b_X11_allNodes_4
      refine ev_gv ?_
      rw [h.1.1]
      refine ev_gg (by first | omega | (constructor <;> omega)) ?_
      refine ev_gg (by first | omega | (constructor <;> omega)) ?_
      refine ev_ite (fun z => by omega) (fun _ => ?_)
      refine ev_gg (by first | omega | (constructor <;> omega)) ?_
      refine ev_gcr (cl_doc (d := d - 1 - 1) h (a := (u : Int)) (by constructor <;> omega)) ?_
      rw [if_pos hu2]
      refine ev_ite (fun _ => ?_) (fun z => by omega)
      rw [Int.toNat_natCast, Int.toNat_natCast]
      refine ev_gg (at_.1.1) ?_
      refine ev_gcr (t_count (d := d - 1 - 1) at_.1.1 at_.2.1.1) ?_
      refine ev_gv ?_
      refine ev_gv ?_
      rw [show (u : Int) + 1 = ((u + 1 : Nat) : Int) by omega]
      have es : szs (V :: D) = V.length + szs D := rfl
      have ef : (V, false).1.length = V.length := rfl
      exact ih (u + 1) _ ed.symm (by omega) (by omega)
  refine ev_up (fun n => e_X11_sum_0) ?_
  unfold b_X11_sum_0
  refine ev_gg (hw) ?_
  refine ev_ite (fun z => ?_) (fun z => ?_)
  · exact ev_ret ⟨by rw [if_neg (by omega)], rfl⟩
  refine ev_ite (fun z6 => ?_) (fun z6 => ?_)
  · rw [if_pos (show 0 ≤ w ∧ w ≤ 6 by omega)]
    refine ev_ite (fun y => ?_) (fun y => ?_)
    · refine ev_gv ?_
      rw [h.1.1]
      refine ev_gg (by omega) ?_
      exact ev_ret ⟨by rw [if_pos y], rfl⟩
    rw [if_neg y]
    refine ev_ite (fun y => ?_) (fun y => ?_)
    · refine ev_gg (by first | omega | (constructor <;> omega)) ?_
      refine ev_gcr (s9_length g24 h.2.1.1) ?_
      refine ev_gg (by omega) ?_
      exact ev_ret ⟨by rw [if_pos y], rfl⟩
    rw [if_neg y]
    refine ev_ite (fun y => ?_) (fun y => ?_)
    · refine ev_gg (by first | omega | (constructor <;> omega)) ?_
      refine ev_gcr (s9_length g26 h.2.2.1) ?_
      refine ev_gg (by omega) ?_
      exact ev_ret ⟨by rw [if_pos y], rfl⟩
    rw [if_neg y]
    refine ev_ite (fun y => ?_) (fun y => ?_)
    · refine ev_gv ?_
      rw [h.2.2.2.1.1]
      refine ev_gg (by omega) ?_
      exact ev_ret ⟨by rw [if_pos y], rfl⟩
    rw [if_neg y]
    refine ev_ite (fun y => ?_) (fun y => ?_)
    · refine ev_gg (by first | omega | (constructor <;> omega)) ?_
      refine ev_gcr (fn_cnt (d := d - 1) h.2.2.2.2.1.1) ?_
      have lL := nodup_len 100 L h.2.2.2.2.1.2.1 h.2.2.2.2.1.2.2
      refine ev_gg (by omega) ?_
      exact ev_ret ⟨by rw [if_pos y], rfl⟩
    rw [if_neg y]
    refine ev_ite (fun y => ?_) (fun y => ?_)
    · refine ev_gg (by first | omega | (constructor <;> omega)) ?_
      refine ev_gcr (ck_count (d := d - 1) h.2.2.2.2.2.2.1) ?_
      have lC : C.length ≤ 1000 := h.2.2.2.2.2.2.1.2.1
      refine ev_gg (by omega) ?_
      exact ev_ret ⟨by rw [if_pos y], rfl⟩
    rw [if_neg y]
    refine ev_gg (by first | omega | (constructor <;> omega)) ?_
    have al : Rd (fun m => f_X11_allNodes m (d - 1) 0 S []) (szs Ds : Int) S := by
      refine ev_up (fun n => e_X11_allNodes_0) ?_
      unfold b_X11_allNodes_0
      exact lp Ds 0 0 rfl (Nat.zero_le _) (by omega)
    refine ev_gcr (al) ?_
    refine ev_ite (fun _ => ?_) (fun z => by omega)
    refine ev_gg (by omega) ?_
    exact ev_ret ⟨rfl, rfl⟩
  · exact ev_ret ⟨by rw [if_neg (by omega)], rfl⟩
end CSU
