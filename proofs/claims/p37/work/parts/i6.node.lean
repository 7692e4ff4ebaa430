/-! THE CLASS's node -/
section NODE
variable {S S1 : GS} {T0 : List ND} {Ds : List (List ND)} {pg pp : List Int} {r : Int} {L : List Nat} {Q : List (List Int)} {C : List (Int × Int)} {d : Nat}
theorem abI_r {S : GS} {c : Nat} {V : List ND} (hv : TV S c V) (hw : WF V) {i : Nat} (hi : i < V.length) (w : Int) : -1000 ≤ abI V i w ∧ abI V i w ≤ 1000 := by
  have lV := tv_l hv
  have nr := tv_r hv hi
  have k0 : 0 ≤ nk V i ∧ nk V i ≤ 5 := ⟨nr.1, nr.2.1⟩
  have d0 := dpF_r V 13 i
  have wi := hw.1 i hi
  have l0 := lnI_r hv hw (i : Int)
  have p0 : -200 ≤ np V i ∧ np V i ≤ 200 := ⟨nr.2.2.2.2.1, nr.2.2.2.2.2.1⟩
  have p1 := pwI_r hv (i : Int)
  have f1 := fgI_r hv (i : Int)
  have s1 := sgI_r V (i : Int)
  have o1 := ow_r V i i
  have e1 : owI V i = ow V i i := rfl
  have g1 := plI_r hw (pz_l (nr_pzl hv.2.2.2)) hi lV
  have e2 : plI V i = if 0 ≤ owI V i then plK i (kids V (owI V i).toNat) 0 else -1 := rfl
  unfold abI
  split
  · omega
  · split
    · omega
    · split
      · omega
      · split
        · omega
        · split
          · split <;> omega
          · split
            · omega
            · split
              · omega
              · split
                · split <;> omega
                · split
                  · omega
                  · rw [← e2]; omega
theorem c_node {a i w : Int} (h : ClS T0 Ds pg pp r L Q C S) (hd : 30 ≤ d) (ha : inr a) (hi : inr i) (hw : inr w) : Rd (fun m => f_X11_node m d 0 S [a, i, w]) (if hasD Ds a ∧ 0 ≤ i ∧ i < ((atD' Ds a).length : Int) then (if 0 ≤ w ∧ w ≤ 9 then abI (atD' Ds a) i.toNat w else exB + 1) else exB + 3) S := by
  have ex := ex_e
  have n4 := h.1.2.1
  refine ev_up (fun n => e_X11_node_0) ?_
  unfold b_X11_node_0
  refine ev_gg (by omega) ?_
  refine ev_gcr (c_docWith (d := d - 1) h (by omega) ha hi) ?_
  by_cases c : hasD Ds a ∧ 0 ≤ i ∧ i < ((atD' Ds a).length : Int)
  · have at_ := cl_at h c.1
    have tV : TV S (8 * a.toNat) (atD' Ds a) := at_.2.1.1
    have wV : WF (atD' Ds a) := at_.2.2.1.1.1.1
    simp only [if_pos c]
    refine ev_ite (fun _ => ?_) (fun z => by omega)
    refine ev_gg hw ?_
    refine ev_ite (fun z => ?_) (fun z => ?_)
    · rw [if_neg (show ¬ (0 ≤ w ∧ w ≤ 9) by omega)]
      exact ev_ret ⟨rfl, rfl⟩
    refine ev_ite (fun z2 => ?_) (fun z2 => ?_)
    · obtain ⟨i, rfl⟩ : ∃ k : Nat, i = (k : Int) := ⟨i.toNat, by omega⟩
      have il : i < (atD' Ds a).length := by omega
      have ar := abI_r tV wV il w
      rw [Int.toNat_natCast, Int.toNat_natCast, if_pos (show 0 ≤ w ∧ w ≤ 9 by omega)]
      refine ev_gg at_.1.1 ?_
      refine ev_gcr (t_about (d := d - 1) (w := w) at_.1.1 tV wV (by omega) il hw) ?_
      refine ev_gg (by omega) ?_
      exact ev_ret ⟨rfl, rfl⟩
    · rw [if_neg (show ¬ (0 ≤ w ∧ w ≤ 9) by omega)]
      exact ev_ret ⟨rfl, rfl⟩
  · simp only [if_neg c]
    refine ev_ite (fun z => by omega) (fun _ => ?_)
    exact ev_ret ⟨rfl, rfl⟩
end NODE
