/-! TREES in the making: what the methods do, on a pair: nodes, whether overfull -/
abbrev TW : Type := List ND × Bool
def TY (c : Nat) (S0 : GS) (W : TW) (S : GS) : Prop := TX c S0 W.1 W.2 S
def aSg (W : TW) (i a : Int) : TW := if 0 ≤ i ∧ i < (W.1.length : Int) ∧ (nt W.1 i.toNat).length < 40 then (W.1.set i.toNat (wT (W.1.getD i.toNat nd0) (nt W.1 i.toNat ++ [a])), W.2) else (W.1, true)
def aKs (W : TW) (i a : Int) : TW := if 0 ≤ i ∧ i < (W.1.length : Int) ∧ (nq W.1 i.toNat).length < 12 then (W.1.set i.toNat (wQ (W.1.getD i.toNat nd0) (nq W.1 i.toNat ++ [a])), W.2) else (W.1, true)
def cKy (W : TW) (i : Int) : TW := if 0 ≤ i ∧ i < (W.1.length : Int) then (W.1.set i.toNat (wQ (W.1.getD i.toNat nd0) []), W.2) else W
def clo (W : TW) (i : Int) : TW := if 0 ≤ i ∧ i < (W.1.length : Int) then (W.1.set i.toNat (wZ (W.1.getD i.toNat nd0) (W.1.length - i.toNat)), W.2) else W
def dro (W : TW) (i : Int) : TW := if 0 ≤ i ∧ i < (W.1.length : Int) then (W.1.take i.toNat, W.2) else W
def aNd (W : TW) (k : Int) : TW := if W.1.length < 100 then (W.1 ++ [ndK k], W.2) else (W.1, true)
def aTr (W : TW) (b : Int) : TW := if W.1.length < 100 then (W.1 ++ [(1, 1, if b = 0 then 0 else 1, [], [])], W.2) else (W.1, true)
section MK3
variable {S S0 : GS} {c d : Nat} {W : TW}
theorem ty_rf (hv : TV S c W.1) (ho : S.2.1 c 8 = W.2) (hG : Good S) : TY c S W S := tx_rf hv ho hG
theorem ty_since {S1 : GS} {W1 : TW} (h : TY c S0 W S) (h1 : TY c S W1 S1) : TY c S0 W1 S1 := tx_since h h1
theorem ty_clear (hc : gT c) (hG : Good S) : Ev (fun n => f_X10_clear n d 0 S [((c : Nat) : Int)]) (fun _ S1 => TY c S ([], false) S1) := t_clear hc hG
theorem ty_add {k : Int} (hc : gT c) (h : TY c S0 W S) (hk : 0 ≤ k ∧ k ≤ 5) : Ev (fun n => f_X10_add n d 0 S [((c : Nat) : Int), k]) (fun x S1 => x = addA W.1 ∧ TY c S0 (aNd W k) S1) := by
  refine ev_mono (t_add hc h hk) (fun x S1 q => ⟨q.1, ?_⟩)
  have q2 := q.2
  unfold addV addO at q2
  unfold aNd
  split
  · rename_i e; simp only [if_pos e] at q2; exact q2
  · rename_i e; simp only [if_neg e] at q2; exact q2
theorem ty_addTruth {b : Int} (hc : gT c) (hd : 1 ≤ d) (h : TY c S0 W S) (hb : inr b) : Ev (fun n => f_X10_addTruth n d 0 S [((c : Nat) : Int), b]) (fun x S1 => x = addA W.1 ∧ TY c S0 (aTr W b) S1) := by
  have hl := tv_l h.1
  refine ev_up (fun n => e_X10_addTruth_0) ?_
  unfold b_X10_addTruth_0
  refine ev_gg hd ?_
  refine ev_gg hc ?_
  refine ev_gc (ty_add hc h (by decide)) (fun x S h => ?_)
  obtain ⟨hx, h⟩ := h
  have hv := h.1
  unfold aNd at h hv
  unfold aTr
  unfold addA at hx ⊢
  by_cases e : W.1.length < 100
  · simp only [if_pos e] at h hx hv ⊢
    subst hx
    have hlen : (W.1 ++ [ndK 1]).length = W.1.length + 1 := by simp
    repeat' (first
      | with_reducible refine ev_gv ?_
      | with_reducible refine ev_gg ?_ ?_
      | with_reducible refine ev_ite (fun _ => ?_) (fun _ => ?_)
      | refine ev_gcr (t_has hc hv (by constructor <;> omega)) ?_
      | omega
      | assumption)
    · exact ev_ret ⟨rfl, by rw [if_pos (by assumption)]; exact h⟩
    · refine ev_ret ⟨rfl, ?_⟩
      rw [if_neg (by assumption)]
      have k := tx_power (i := W.1.length) (p := 1) hc h (by show _ < (W.1 ++ [ndK 1]).length; omega) (by decide)
      rw [getD_push, if_neg (by omega), if_pos rfl] at k
      simpa [wP, ndK, TY] using k
  · simp only [if_neg e] at h hx hv ⊢
    subst hx
    repeat' (first
      | with_reducible refine ev_gv ?_
      | with_reducible refine ev_gg ?_ ?_
      | with_reducible refine ev_ite (fun _ => ?_) (fun _ => ?_)
      | refine ev_gcr (t_has hc hv (by decide)) ?_
      | omega
      | assumption)
    exact ev_ret ⟨rfl, h⟩
theorem ty_addSign {i a : Int} (hc : gT c) (h : TY c S0 W S) (hi : inr i) (ha : 0 ≤ a ∧ a < 256) : Ev (fun n => f_X10_addSign n d 0 S [((c : Nat) : Int), i, a]) (fun _ S1 => TY c S0 (aSg W i a) S1) := by
  have h1 := tv_n h.1
  have h2 := tv_l h.1
  have k0 : ¬ (0 ≤ i ∧ i < (W.1.length : Int) ∧ (nt W.1 i.toNat).length < 40) → Ev (fun n => f_X10_addSign n d 32 S [((c : Nat) : Int), i, a, 0]) (fun _ S1 => TY c S0 (aSg W i a) S1) := by
    intro e
    unfold aSg
    rw [if_neg e]
    refine ev_up (fun n => e_X10_addSign_32) ?_
    unfold b_X10_addSign_32
    repeat' (first
      | with_reducible refine ev_gv ?_
      | with_reducible refine ev_gg ?_ ?_
      | with_reducible refine ev_ite (fun _ => ?_) (fun _ => ?_)
      | omega
      | assumption)
    all_goals exact ev_ret (tx_over h)
  by_cases hin : 0 ≤ i ∧ i < (W.1.length : Int)
  · obtain ⟨k1, k2, k3, k4, k5, k6, k7, k8, k9, k10, k11, k12, k13⟩ := tv_all h.1 hin.1 hin.2
    have key : Ev (fun n => f_X10_addSign n d 32 S [((c : Nat) : Int), i, a, 1]) (fun _ S1 => TY c S0 (aSg W i a) S1) := by
      unfold aSg
      by_cases e : (nt W.1 i.toNat).length < 40
      · rw [if_pos ⟨hin.1, hin.2, e⟩]
        have k := tx_sign (i := i.toNat) (a := a) (p := (i * 40 + (nt W.1 i.toNat).length).toNat) hc h (by omega) ha e (by omega)
        refine ev_up (fun n => e_X10_addSign_32) ?_
        unfold b_X10_addSign_32
        repeat' (first
          | with_reducible refine ev_gv ?_
          | with_reducible refine ev_gg ?_ ?_
          | with_reducible refine ev_ite (fun _ => ?_) (fun _ => ?_)
          | omega
          | assumption
          | simp (disch := omega) only [gI_a, gI_k, gI_c, gI_b, gB_i, gB_a, gB_k, gB_c, gB_r, gR_i, gR_b, gR_a, gR_k, gR_c, gIs_a, gIs_c, gIs_b, Int.toNat_natCast, k4])
        exact ev_ret k
      · rw [if_neg (fun q => e q.2.2)]
        refine ev_up (fun n => e_X10_addSign_32) ?_
        unfold b_X10_addSign_32
        repeat' (first
          | with_reducible refine ev_gv ?_
          | with_reducible refine ev_gg ?_ ?_
          | with_reducible refine ev_ite (fun _ => ?_) (fun _ => ?_)
          | omega
          | assumption)
        all_goals exact ev_ret (tx_over h)
    refine ev_up (fun n => e_X10_addSign_0) ?_
    unfold b_X10_addSign_0
    repeat' (first
      | with_reducible refine ev_gv ?_
      | with_reducible refine ev_gg ?_ ?_
      | with_reducible refine ev_ite (fun _ => ?_) (fun _ => ?_)
      | omega
      | assumption)
    all_goals exact k0 (by omega)
  · refine ev_up (fun n => e_X10_addSign_0) ?_
    unfold b_X10_addSign_0
    repeat' (first
      | with_reducible refine ev_gv ?_
      | with_reducible refine ev_gg ?_ ?_
      | with_reducible refine ev_ite (fun _ => ?_) (fun _ => ?_)
      | omega
      | assumption)
    all_goals exact k0 (by omega)
theorem ty_addKeySign {i a : Int} (hc : gT c) (h : TY c S0 W S) (hi : inr i) (ha : 0 ≤ a ∧ a < 256) : Ev (fun n => f_X10_addKeySign n d 0 S [((c : Nat) : Int), i, a]) (fun _ S1 => TY c S0 (aKs W i a) S1) := by
  have h1 := tv_n h.1
  have h2 := tv_l h.1
  have k0 : ¬ (0 ≤ i ∧ i < (W.1.length : Int) ∧ (nq W.1 i.toNat).length < 12) → Ev (fun n => f_X10_addKeySign n d 32 S [((c : Nat) : Int), i, a, 0]) (fun _ S1 => TY c S0 (aKs W i a) S1) := by
    intro e
    unfold aKs
    rw [if_neg e]
    refine ev_up (fun n => e_X10_addKeySign_32) ?_
    unfold b_X10_addKeySign_32
    repeat' (first
      | with_reducible refine ev_gv ?_
      | with_reducible refine ev_gg ?_ ?_
      | with_reducible refine ev_ite (fun _ => ?_) (fun _ => ?_)
      | omega
      | assumption)
    all_goals exact ev_ret (tx_over h)
  by_cases hin : 0 ≤ i ∧ i < (W.1.length : Int)
  · obtain ⟨k1, k2, k3, k4, k5, k6, k7, k8, k9, k10, k11, k12, k13⟩ := tv_all h.1 hin.1 hin.2
    have key : Ev (fun n => f_X10_addKeySign n d 32 S [((c : Nat) : Int), i, a, 1]) (fun _ S1 => TY c S0 (aKs W i a) S1) := by
      unfold aKs
      by_cases e : (nq W.1 i.toNat).length < 12
      · rw [if_pos ⟨hin.1, hin.2, e⟩]
        have k := tx_ksign (i := i.toNat) (a := a) (p := (i * 12 + (nq W.1 i.toNat).length).toNat) hc h (by omega) ha e (by omega)
        refine ev_up (fun n => e_X10_addKeySign_32) ?_
        unfold b_X10_addKeySign_32
        repeat' (first
          | with_reducible refine ev_gv ?_
          | with_reducible refine ev_gg ?_ ?_
          | with_reducible refine ev_ite (fun _ => ?_) (fun _ => ?_)
          | omega
          | assumption
          | simp (disch := omega) only [gI_a, gI_k, gI_c, gI_b, gB_i, gB_a, gB_k, gB_c, gB_r, gR_i, gR_b, gR_a, gR_k, gR_c, gIs_a, gIs_c, gIs_b, Int.toNat_natCast, k5])
        exact ev_ret k
      · rw [if_neg (fun q => e q.2.2)]
        refine ev_up (fun n => e_X10_addKeySign_32) ?_
        unfold b_X10_addKeySign_32
        repeat' (first
          | with_reducible refine ev_gv ?_
          | with_reducible refine ev_gg ?_ ?_
          | with_reducible refine ev_ite (fun _ => ?_) (fun _ => ?_)
          | omega
          | assumption)
        all_goals exact ev_ret (tx_over h)
    refine ev_up (fun n => e_X10_addKeySign_0) ?_
    unfold b_X10_addKeySign_0
    repeat' (first
      | with_reducible refine ev_gv ?_
      | with_reducible refine ev_gg ?_ ?_
      | with_reducible refine ev_ite (fun _ => ?_) (fun _ => ?_)
      | omega
      | assumption)
    all_goals exact k0 (by omega)
  · refine ev_up (fun n => e_X10_addKeySign_0) ?_
    unfold b_X10_addKeySign_0
    repeat' (first
      | with_reducible refine ev_gv ?_
      | with_reducible refine ev_gg ?_ ?_
      | with_reducible refine ev_ite (fun _ => ?_) (fun _ => ?_)
      | omega
      | assumption)
    all_goals exact k0 (by omega)
theorem ty_clearKey {i : Int} (hc : gT c) (h : TY c S0 W S) (hi : inr i) : Ev (fun n => f_X10_clearKey n d 0 S [((c : Nat) : Int), i]) (fun _ S1 => TY c S0 (cKy W i) S1) := by
  have h1 := tv_n h.1
  have h2 := tv_l h.1
  unfold cKy
  by_cases hin : 0 ≤ i ∧ i < (W.1.length : Int)
  · rw [if_pos hin]
    have k := tx_key0 (i := i.toNat) hc h (by omega)
    refine ev_up (fun n => e_X10_clearKey_0) ?_
    unfold b_X10_clearKey_0
    repeat' (first
      | with_reducible refine ev_gv ?_
      | with_reducible refine ev_gg ?_ ?_
      | with_reducible refine ev_ite (fun _ => ?_) (fun _ => ?_)
      | omega
      | assumption)
    all_goals exact ev_ret k
  · rw [if_neg hin]
    refine ev_up (fun n => e_X10_clearKey_0) ?_
    unfold b_X10_clearKey_0
    repeat' (first
      | with_reducible refine ev_gv ?_
      | with_reducible refine ev_gg ?_ ?_
      | with_reducible refine ev_ite (fun _ => ?_) (fun _ => ?_)
      | omega
      | assumption)
    all_goals exact ev_ret h
theorem ty_close {i : Int} (hc : gT c) (hd : 1 ≤ d) (h : TY c S0 W S) (hi : inr i) : Ev (fun n => f_X10_close n d 0 S [((c : Nat) : Int), i]) (fun _ S1 => TY c S0 (clo W i) S1) := by
  have h1 := tv_n h.1
  have h2 := tv_l h.1
  unfold clo
  by_cases hin : 0 ≤ i ∧ i < (W.1.length : Int)
  · rw [if_pos hin]
    have k := tx_size (i := i.toNat) (z := W.1.length - i.toNat) hc h (by omega) (by omega)
    rw [show ((W.1.length - i.toNat : Nat) : Int) = (W.1.length : Int) - i by omega] at k
    refine ev_up (fun n => e_X10_close_0) ?_
    unfold b_X10_close_0
    repeat' (first
      | with_reducible refine ev_gv ?_
      | with_reducible refine ev_gg ?_ ?_
      | with_reducible refine ev_ite (fun _ => ?_) (fun _ => ?_)
      | refine ev_gcr (t_has hc h.1 hi) ?_
      | omega
      | assumption)
    rw [h1]
    exact ev_ret k
  · rw [if_neg hin]
    refine ev_up (fun n => e_X10_close_0) ?_
    unfold b_X10_close_0
    repeat' (first
      | with_reducible refine ev_gv ?_
      | with_reducible refine ev_gg ?_ ?_
      | with_reducible refine ev_ite (fun _ => ?_) (fun _ => ?_)
      | refine ev_gcr (t_has hc h.1 hi) ?_
      | omega
      | assumption)
    exact ev_ret h
theorem tv_take {i : Nat} (hv : TV S c W.1) (hi : i ≤ W.1.length) : TV (gI S c 7 i) c (W.1.take i) := by
  obtain ⟨v1, v2, v3, v4⟩ := hv
  have hl : (W.1.take i).length = i := by rw [List.length_take]; omega
  refine ⟨by rw [gI_a, hl], by omega, fun j hj => ?_, fun x hx => v4 x (List.mem_of_mem_take hx)⟩
  rw [hl] at hj
  have e : (W.1.take i).getD j nd0 = W.1.getD j nd0 := by
    rw [List.getD_eq_getElem?_getD, List.getD_eq_getElem?_getD, List.getElem?_take, if_pos hj]
  rw [e]
  refine nv_same (v3 j (by omega)) (v4 _ (nd_mem (by omega))) ?_
  refine ⟨?_, ?_, ?_, ?_, fun t ht => ?_, ?_, fun t ht => ?_⟩ <;> rw [gI_c (by omega)]
theorem ty_dropFrom {i : Int} (hc : gT c) (hd : 1 ≤ d) (h : TY c S0 W S) (hi : inr i) : Ev (fun n => f_X10_dropFrom n d 0 S [((c : Nat) : Int), i]) (fun _ S1 => TY c S0 (dro W i) S1) := by
  have h1 := tv_n h.1
  have h2 := tv_l h.1
  unfold dro
  by_cases hin : 0 ≤ i ∧ i < (W.1.length : Int)
  · rw [if_pos hin]
    have k := tv_take (i := i.toNat) h.1 (by omega)
    rw [show ((i.toNat : Nat) : Int) = i by omega] at k
    refine ev_up (fun n => e_X10_dropFrom_0) ?_
    unfold b_X10_dropFrom_0
    repeat' (first
      | with_reducible refine ev_gv ?_
      | with_reducible refine ev_gg ?_ ?_
      | with_reducible refine ev_ite (fun _ => ?_) (fun _ => ?_)
      | refine ev_gcr (t_has hc h.1 hi) ?_
      | omega
      | assumption)
    exact ev_ret ⟨k, h.2.1, fr_tr h.2.2.1 (fr_gI trMc), good_gI h.2.2.2 hi (fun q => absurd q (not_isC (k := 0) hc (by decide)))⟩
  · rw [if_neg hin]
    refine ev_up (fun n => e_X10_dropFrom_0) ?_
    unfold b_X10_dropFrom_0
    repeat' (first
      | with_reducible refine ev_gv ?_
      | with_reducible refine ev_gg ?_ ?_
      | with_reducible refine ev_ite (fun _ => ?_) (fun _ => ?_)
      | refine ev_gcr (t_has hc h.1 hi) ?_
      | omega
      | assumption)
    exact ev_ret h
end MK3
