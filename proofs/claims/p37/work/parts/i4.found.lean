/-! THE CLASS's find -/
section FND
variable {S S1 : GS} {T0 : List ND} {Ds : List (List ND)} {pg pp : List Int} {r : Int} {L : List Nat} {Q : List (List Int)} {C : List (Int × Int)} {d : Nat}
theorem fn_cnt (h : FsL L S) : Rd (fun n => f_X2_count n d 0 S []) (L.length : Int) S := by
  refine ev_up (fun n => e_X2_count_0) ?_
  unfold b_X2_count_0
  refine ev_gv ?_
  rw [h.1]
  exact ev_ret ⟨rfl, rfl⟩
theorem c_find {k : Int} (h : ClS T0 Ds pg pp r L Q C S) (hd : 3 ≤ d) (hk : inr k) : Rd (fun m => f_X11_find m d 0 S [k]) (if 0 ≤ k ∧ k < (L.length : Int) then ((L.getD k.toNat 0 : Nat) : Int) else exB + 3) S := by
  have ex := ex_e
  have hF := h.2.2.2.2.1
  have ll : L.length ≤ 100 := nodup_len 100 L hF.2.1 hF.2.2
  refine ev_up (fun n => e_X11_find_0) ?_
  unfold b_X11_find_0
  refine ev_gg hk ?_
  refine ev_ite (fun z => ?_) (fun z => ?_)
  · rw [if_neg (by omega)]
    exact ev_ret ⟨rfl, rfl⟩
  refine ev_gg (by omega) ?_
  refine ev_gcr (fn_cnt (d := d - 1) hF.1) ?_
  refine ev_gg (by constructor <;> omega) ?_
  refine ev_ite (fun z2 => ?_) (fun z2 => ?_)
  · obtain ⟨k, rfl⟩ : ∃ j : Nat, k = (j : Int) := ⟨k.toNat, by omega⟩
    have kl : k < L.length := by omega
    have lt : L.getD k 0 < 100 := by
      refine hF.2.2 _ ?_
      rw [List.getD_eq_getElem?_getD, List.getElem?_eq_getElem kl]
      exact List.getElem_mem _
    have e := hF.1.2.1 k kl
    have at_ : Rd (fun n => f_X2_at n (d - 1) 0 S [(k : Int)]) ((L.getD k 0 : Nat) : Int) S := by
      refine ev_up (fun n => e_X2_at_0) ?_
      unfold b_X2_at_0
      refine ev_gg hk ?_
      refine ev_ite (fun z => by omega) (fun _ => ?_)
      refine ev_gv ?_
      rw [hF.1.1]
      refine ev_gg (by constructor <;> omega) ?_
      refine ev_ite (fun z => by omega) (fun _ => ?_)
      refine ev_ite (fun z => by omega) (fun _ => ?_)
      refine ev_gg (by omega) ?_
      refine ev_gv ?_
      rw [Int.toNat_natCast, e]
      exact ev_ret ⟨rfl, rfl⟩
    rw [if_pos (by omega), Int.toNat_natCast]
    refine ev_gcr at_ ?_
    refine ev_gg (by omega) ?_
    exact ev_ret ⟨rfl, rfl⟩
  · rw [if_neg (by omega)]
    exact ev_ret ⟨rfl, rfl⟩
end FND
