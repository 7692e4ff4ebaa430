/-! THE CLASS's calls that only ask -/
section ASK1
variable {S S1 : GS} {T0 : List ND} {Ds : List (List ND)} {pg pp : List Int} {r : Int} {L : List Nat} {Q : List (List Int)} {C : List (Int × Int)} {d : Nat}
abbrev hasD (Ds : List (List ND)) (a : Int) : Prop := 0 ≤ a ∧ a < (Ds.length : Int)
abbrev atD' (Ds : List (List ND)) (a : Int) : List ND := Ds.getD a.toNat []
theorem ex_e : exB = 18446744073709551616 := rfl
theorem c_docWith {a i : Int} (h : ClS T0 Ds pg pp r L Q C S) (hd : 3 ≤ d) (ha : inr a) (hi : inr i) : Rd (fun m => f_X11_documentWith m d 0 S [a, i]) (if hasD Ds a ∧ 0 ≤ i ∧ i < ((atD' Ds a).length : Int) then ((8 * a.toNat : Nat) : Int) else exB + 3) S := by
  have ex := ex_e
  have n4 := h.1.2.1
  refine ev_up (fun n => e_X11_documentWith_0) ?_
  unfold b_X11_documentWith_0
  refine ev_gg (by omega) ?_
  refine ev_gcr (cl_doc (d := d - 1) h ha) ?_
  by_cases c : hasD Ds a
  · have at_ := cl_at h c
    rw [if_pos c]
    refine ev_ite (fun _ => ?_) (fun z => by omega)
    rw [Int.toNat_natCast]
    refine ev_gg at_.1.1 ?_
    refine ev_gcr (t_has (V := atD' Ds a) (d := d - 1) (i := i) at_.1.1 at_.2.1.1 hi) ?_
    by_cases c2 : 0 ≤ i ∧ i < ((atD' Ds a).length : Int)
    · have c12 : hasD Ds a ∧ 0 ≤ i ∧ i < ((atD' Ds a).length : Int) := ⟨c, c2⟩
      rw [if_pos c2, if_pos c12]
      refine ev_gg (by decide) ?_
      refine ev_ite (fun _ => ?_) (fun z => absurd (by decide) z)
      refine ev_gg (by omega) ?_
      exact ev_ret ⟨rfl, rfl⟩
    · have c12 : ¬ (hasD Ds a ∧ 0 ≤ i ∧ i < ((atD' Ds a).length : Int)) := fun z => c2 z.2
      rw [if_neg c2, if_neg c12]
      refine ev_gg (by decide) ?_
      refine ev_ite (fun z => absurd rfl z) (fun _ => ?_)
      exact ev_ret ⟨rfl, rfl⟩
  · rw [if_neg c, if_neg (fun z => c z.1)]
    refine ev_ite (fun z => by omega) (fun _ => ?_)
    exact ev_ret ⟨rfl, rfl⟩
theorem c_equal {a b : Int} (h : ClS T0 Ds pg pp r L Q C S) (hd : 40 ≤ d) (ha : inr a) (hb : inr b) : Rd (fun m => f_X11_equal m d 0 S [a, b]) (if hasD Ds a ∧ hasD Ds b then (if smJ 13 (atD' Ds a) 0 (atD' Ds b) 0 = true then 1 else 0) else exB + 3) S := by
  have ex := ex_e
  have n4 := h.1.2.1
  refine ev_up (fun n => e_X11_equal_0) ?_
  unfold b_X11_equal_0
  refine ev_gg (by omega) ?_
  refine ev_gcr (cl_doc (d := d - 1) h ha) ?_
  by_cases c : hasD Ds a
  · have at_ := cl_at h c
    rw [if_pos c]
    refine ev_ite (fun _ => ?_) (fun z => by omega)
    refine ev_gcr (cl_doc (d := d - 1) h hb) ?_
    by_cases c2 : hasD Ds b
    · have bt := cl_at h c2
      rw [if_pos c2, if_pos ⟨c, c2⟩]
      refine ev_ite (fun _ => ?_) (fun z => by omega)
      rw [Int.toNat_natCast, Int.toNat_natCast]
      refine ev_gg at_.1.1 ?_
      have sm := t_same (S := S) (V := atD' Ds a) (U := atD' Ds b) at_.1.1 bt.1.1 at_.2.1.1 bt.2.1.1 at_.2.2.1.1.1.1 bt.2.2.1.1.1.1 13 0 (d - 1) 0 (Nat.le_refl _) at_.2.2.1.1.1.2.1 (by decide) (by omega)
      rw [show (13 : Int) - ((13 : Nat) : Int) = 0 by decide] at sm
      refine ev_gcr sm ?_
      cases smJ 13 (atD' Ds a) 0 (atD' Ds b) 0 with
      | true =>
        refine ev_gg (by decide) ?_
        refine ev_gg (by decide) ?_
        exact ev_ret ⟨rfl, rfl⟩
      | false =>
        refine ev_gg (by decide) ?_
        refine ev_gg (by decide) ?_
        exact ev_ret ⟨rfl, rfl⟩
    · rw [if_neg c2, if_neg (fun z => c2 z.2)]
      refine ev_ite (fun z => by omega) (fun _ => ?_)
      exact ev_ret ⟨rfl, rfl⟩
  · rw [if_neg c, if_neg (fun z => c z.1)]
    refine ev_ite (fun z => by omega) (fun _ => ?_)
    exact ev_ret ⟨rfl, rfl⟩
end ASK1
