/-! TREES in the making -/
/-- a tree since a state: its nodes, whether it is overfull; nothing else has changed -/
def TX (c : Nat) (S0 : GS) (V : List ND) (o : Bool) (S : GS) : Prop := TV S c V ∧ S.2.1 c 8 = o ∧ Fr (trM c) S0 S ∧ Good S
/-- all of a node is as it was -/
def SameN (S S1 : GS) (c i : Nat) : Prop := S1.1 (c + 1) i = S.1 (c + 1) i ∧ S1.1 (c + 2) i = S.1 (c + 2) i ∧ S1.1 (c + 3) i = S.1 (c + 3) i ∧ S1.1 (c + 4) i = S.1 (c + 4) i ∧ (∀ j, j < 40 → S1.1 (c + 5) (40 * i + j) = S.1 (c + 5) (40 * i + j)) ∧ S1.1 (c + 6) i = S.1 (c + 6) i ∧ ∀ j, j < 12 → S1.1 (c + 7) (12 * i + j) = S.1 (c + 7) (12 * i + j)
theorem nv_same {S S1 : GS} {c i : Nat} {x : ND} (h : NV S c i x) (hr : NR x) (hs : SameN S S1 c i) : NV S1 c i x := by
  obtain ⟨n1, n2, n3, n4, n5, n6, n7⟩ := h
  obtain ⟨s1, s2, s3, s4, s5, s6, s7⟩ := hs
  obtain ⟨-, -, -, -, -, -, r7, -, r8, -⟩ := hr
  exact ⟨s1.trans n1, s2.trans n2, s3.trans n3, s4.trans n4, fun j hj => (s5 j (by omega)).trans (n5 j hj), s6.trans n6, fun j hj => (s7 j (by omega)).trans (n7 j hj)⟩
theorem getD_set {V : List ND} {i j : Nat} {x : ND} (hi : i < V.length) : (V.set i x).getD j nd0 = if j = i then x else V.getD j nd0 := by
  simp only [List.getD_eq_getElem?_getD, List.getElem?_set]
  by_cases h : i = j
  · subst h; simp [hi]
  · rw [if_neg h, if_neg (fun e => h e.symm)]
theorem getD_push {V : List ND} {x : ND} {i : Nat} : (V ++ [x]).getD i nd0 = if i < V.length then V.getD i nd0 else if i = V.length then x else nd0 := by
  simp only [List.getD_eq_getElem?_getD]
  split
  · rename_i h; rw [List.getElem?_append_left h]
  · rename_i h
    rw [List.getElem?_append_right (by omega)]
    split
    · rename_i e; subst e; simp
    · rename_i e
      rw [List.getElem?_eq_none (by simp; omega)]
      rfl
theorem tv_upd {S S1 : GS} {c i : Nat} {V : List ND} {x : ND} (hv : TV S c V) (hi : i < V.length) (h7 : S1.1 c 7 = S.1 c 7) (hk : ∀ j, j < V.length → j ≠ i → SameN S S1 c j) (hn : NV S1 c i x) (hr : NR x) : TV S1 c (V.set i x) := by
  obtain ⟨v1, v2, v3, v4⟩ := hv
  refine ⟨by rw [h7, v1, List.length_set], by rw [List.length_set]; exact v2, fun j hj => ?_, fun y hy => ?_⟩
  · rw [List.length_set] at hj
    rw [getD_set hi]
    split
    · rename_i e; subst e; exact hn
    · rename_i e
      exact nv_same (v3 j hj) (v4 _ (nd_mem hj)) (hk j hj e)
  · rcases List.mem_or_eq_of_mem_set hy with h | h
    · exact v4 y h
    · subst h; exact hr
theorem tv_push {S S1 : GS} {c : Nat} {V : List ND} {x : ND} (hv : TV S c V) (hl : V.length < 100) (h7 : S1.1 c 7 = (V.length : Int) + 1) (hk : ∀ j, j < V.length → SameN S S1 c j) (hn : NV S1 c V.length x) (hr : NR x) : TV S1 c (V ++ [x]) := by
  obtain ⟨v1, v2, v3, v4⟩ := hv
  refine ⟨by rw [h7]; simp, by simp; omega, fun j hj => ?_, fun y hy => ?_⟩
  · simp only [List.length_append, List.length_cons, List.length_nil] at hj
    rw [getD_push]
    by_cases e : j < V.length
    · rw [if_pos e]
      exact nv_same (v3 j e) (v4 _ (nd_mem e)) (hk j e)
    · rw [if_neg e, if_pos (by omega), show j = V.length by omega]
      exact hn
  · rcases List.mem_append.mp hy with h | h
    · exact v4 y h
    · simp at h; subst h; exact hr
section MK
variable {S S0 : GS} {c d : Nat} {V : List ND} {o : Bool}
theorem tx_rf (hv : TV S c V) (ho : S.2.1 c 8 = o) (hG : Good S) : TX c S V o S := ⟨hv, ho, fr_rf, hG⟩
theorem tx_since {S1 : GS} {V1 : List ND} {o1 : Bool} (h : TX c S0 V o S) (h1 : TX c S V1 o1 S1) : TX c S0 V1 o1 S1 := ⟨h1.1, h1.2.1, fr_tr h.2.2.1 h1.2.2.1, h1.2.2.2⟩
theorem trM0 {k : Nat} (h : k < 8) : trM c (c + k) := ⟨by omega, by omega⟩
theorem trMc : trM c c := ⟨by omega, by omega⟩
theorem tx_over (h : TX c S0 V o S) : TX c S0 V true (gB S c 8 true) := by
  obtain ⟨hv, ho, hf, hG⟩ := h
  exact ⟨hv, gB_a, fr_tr hf (fr_gB trMc), hG⟩
theorem t_clear (hc : gT c) (hG : Good S) : Ev (fun n => f_X10_clear n d 0 S [((c : Nat) : Int)]) (fun _ S1 => TX c S [] false S1) := by
  refine ev_up (fun n => e_X10_clear_0) ?_
  unfold b_X10_clear_0
  repeat' (first
    | with_reducible refine ev_gv ?_
    | with_reducible refine ev_gg ?_ ?_
    | with_reducible refine ev_ite (fun _ => ?_) (fun _ => ?_)
    | omega
    | assumption)
  refine ev_ret ⟨⟨?_, Nat.zero_le _, fun i hi => absurd hi (Nat.not_lt_zero i), fun x hx => by cases hx⟩, ?_, ?_, ?_⟩
  · simp (disch := omega) only [gI_a, gI_k, gI_c, gI_b, gB_i, gB_a, gB_k, gB_c, gB_r, gR_i, gR_b, gR_a, gR_k, gR_c, gIs_a, gIs_c, gIs_b]
    rfl
  · simp (disch := omega) only [gI_a, gI_k, gI_c, gI_b, gB_i, gB_a, gB_k, gB_c, gB_r, gR_i, gR_b, gR_a, gR_k, gR_c, gIs_a, gIs_c, gIs_b]
    rfl
  · exact fr_tr (fr_gI trMc) (fr_gB trMc)
  · exact good_gB (good_gI hG (by decide) (fun _ => by decide))
/-- a fresh node -/
def ndK (k : Int) : ND := (k, 1, 0, [], [])
theorem nr_ndK {k : Int} (h : 0 ≤ k ∧ k ≤ 5) : NR (ndK k) := by
  unfold NR ndK
  simp
  omega
def addA (V : List ND) : Int := if V.length < 100 then V.length else -1
def addV (V : List ND) (x : ND) : List ND := if V.length < 100 then V ++ [x] else V
def addO (V : List ND) (o : Bool) : Bool := if V.length < 100 then o else true
theorem not_isC {c k : Nat} (hc : gT c) (hk : k = 0 ∨ k = 1 ∨ k = 2 ∨ k = 3 ∨ k = 4 ∨ k = 6) : ¬ isC (c + k) := by
  unfold isC
  omega
theorem t_add {k : Int} (hc : gT c) (h : TX c S0 V o S) (hk : 0 ≤ k ∧ k ≤ 5) : Ev (fun n => f_X10_add n d 0 S [((c : Nat) : Int), k]) (fun x S1 => x = addA V ∧ TX c S0 (addV V (ndK k)) (addO V o) S1) := by
  have h1 := tv_n h.1
  have h2 := tv_l h.1
  unfold addA addV addO
  by_cases hl : V.length < 100
  · simp only [if_pos hl]
    refine ev_up (fun n => e_X10_add_0) ?_
    unfold b_X10_add_0
    repeat' (first
      | with_reducible refine ev_gv ?_
      | with_reducible refine ev_gg ?_ ?_
      | with_reducible refine ev_ite (fun _ => ?_) (fun _ => ?_)
      | omega
      | assumption
      | simp (disch := omega) only [gI_a, gI_k, gI_c, gI_b, gB_i, gB_a, gB_k, gB_c, gB_r, gR_i, gR_b, gR_a, gR_k, gR_c, gIs_a, gIs_c, gIs_b, Int.toNat_natCast, h1])
    refine ev_ret ?_
    refine ⟨by omega, tv_push h.1 hl ?_ (fun j hj => ?_) ?_ (nr_ndK hk), ?_, ?_, ?_⟩
    · simp (disch := omega) only [gI_a, gI_k, gI_c, gI_b, gB_i, gB_a, gB_k, gB_c, gB_r, gR_i, gR_b, gR_a, gR_k, gR_c, gIs_a, gIs_c, gIs_b]
    · refine ⟨?_, ?_, ?_, ?_, fun t ht => ?_, ?_, fun t ht => ?_⟩ <;> simp (disch := omega) only [gI_a, gI_k, gI_c]
    · refine ⟨?_, ?_, ?_, ?_, fun t ht => absurd ht (Nat.not_lt_zero t), ?_, fun t ht => absurd ht (Nat.not_lt_zero t)⟩ <;> simp (disch := omega) only [gI_a, gI_k, gI_c] <;> rfl
    · exact h.2.1
    · exact fr_tr h.2.2.1 (fr_tr (fr_tr (fr_tr (fr_tr (fr_tr (fr_gI (trM0 (by decide))) (fr_gI (trM0 (by decide)))) (fr_gI (trM0 (by decide)))) (fr_gI (trM0 (by decide)))) (fr_gI (trM0 (by decide)))) (fr_gI trMc))
    · exact good_gI (good_gI (good_gI (good_gI (good_gI (good_gI h.2.2.2 (by constructor <;> omega) (fun q => absurd q (not_isC hc (by decide)))) (by decide) (fun q => absurd q (not_isC hc (by decide)))) (by decide) (fun q => absurd q (not_isC hc (by decide)))) (by decide) (fun q => absurd q (not_isC hc (by decide)))) (by decide) (fun q => absurd q (not_isC hc (by decide)))) (by constructor <;> omega) (fun q => absurd q (not_isC (k := 0) hc (by decide)))
  · simp only [if_neg hl]
    refine ev_up (fun n => e_X10_add_0) ?_
    unfold b_X10_add_0
    repeat' (first
      | with_reducible refine ev_gv ?_
      | with_reducible refine ev_gg ?_ ?_
      | with_reducible refine ev_ite (fun _ => ?_) (fun _ => ?_)
      | omega
      | assumption)
    all_goals exact ev_ret ⟨by omega, tx_over h⟩
end MK
