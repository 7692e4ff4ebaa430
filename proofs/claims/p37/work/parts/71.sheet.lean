/-! SHEETS -/
def SV (S : GS) (c : Nat) (l : List Int) : Prop := S.1 c 1 = (l.length : Int) ∧ l.length ≤ g_room (c + 1) ∧ (∀ i, i < l.length → S.1 (c + 1) i = l.getD i 0) ∧ ∀ x ∈ l, 0 ≤ x ∧ x < 65536
def shM (c : Nat) : Nat → Prop := fun k => k = c ∨ k = c + 1
theorem g_room_le (c : Nat) : g_room c ≤ 60000 := by
  unfold g_room
  split <;> omega
theorem sv_le {S : GS} {c : Nat} {l : List Int} (h : SV S c l) : l.length ≤ 60000 := Nat.le_trans h.2.1 (g_room_le _)
theorem sv_fr {S S1 : GS} {c : Nat} {l : List Int} {M : Nat → Prop} (h : SV S c l) (hf : Fr M S S1) (h1 : ¬ M c) (h2 : ¬ M (c + 1)) : SV S1 c l := by
  obtain ⟨e1, e2, e3, e4⟩ := h
  refine ⟨by rw [(hf c h1).1]; exact e1, e2, fun i hi => ?_, e4⟩
  rw [(hf _ h2).1]
  exact e3 i hi
theorem sv_at {S : GS} {c : Nat} {l : List Int} (h : SV S c l) {i : Nat} (hi : i < l.length) : 0 ≤ l.getD i 0 ∧ l.getD i 0 < 65536 := by
  have := h.2.2.2 (l.getD i 0) (by rw [List.getD_eq_getElem?_getD, List.getElem?_eq_getElem hi]; exact List.getElem_mem hi)
  exact this
theorem s9_length {S : GS} {c d : Nat} {l : List Int} (hc : gSh c) (hv : SV S c l) : Rd (fun n => f_X9_length n d 0 S [((c : Nat) : Int)]) l.length S := by
  refine ev_up (fun n => e_X9_length_0) ?_
  unfold b_X9_length_0
  refine ev_gg hc ?_
  refine ev_gv ?_
  exact ev_ret ⟨hv.1, rfl⟩
/-- what stands at a place; NONE -/
def atD (l : List Int) (i : Int) : Int := if 0 ≤ i ∧ i < l.length then l.getD i.toNat 0 else -1
theorem s9_at {S : GS} {c d : Nat} {l : List Int} {i : Int} (hc : gSh c) (hv : SV S c l) (hi : inr i) : Rd (fun n => f_X9_at n d 0 S [((c : Nat) : Int), i]) (atD l i) S := by
  refine ev_up (fun n => e_X9_at_0) ?_
  unfold b_X9_at_0 atD
  have h1 := sv_le hv
  have h2 := hv.1
  have h3 := hv.2.1
  have h4 := g_room_le (c + 1)
  refine ev_gg hi ?_
  refine ev_ite (fun h => ?_) (fun h => ?_)
  · exact ev_ret ⟨(if_neg (by omega)).symm, rfl⟩
  · refine ev_gg hc ?_
    refine ev_gv ?_
    refine ev_gg (by constructor <;> omega) ?_
    refine ev_ite (fun h => ?_) (fun h => ?_)
    · exact ev_ret ⟨(if_neg (by omega)).symm, rfl⟩
    · refine ev_gg (by constructor <;> omega) ?_
      refine ev_ite (fun h => ?_) (fun h => ?_)
      · exact ev_ret ⟨by omega, rfl⟩
      · refine ev_gg (by omega) ?_
        refine ev_gv ?_
        refine ev_ret ⟨?_, rfl⟩
        rw [if_pos (by omega)]
        exact hv.2.2.1 _ (by omega)
theorem getD_app {l : List Int} {x : Int} {i : Nat} : (l ++ [x]).getD i 0 = if i < l.length then l.getD i 0 else if i = l.length then x else 0 := by
  simp only [List.getD_eq_getElem?_getD]
  split
  · rename_i h; rw [List.getElem?_append_left h]
  · rename_i h
    rw [List.getElem?_append_right (by omega)]
    split
    · rename_i e; subst e; simp
    · rename_i e
      rw [List.getElem?_eq_none (by simp; omega)]
      rfl
theorem s9_add {S : GS} {c d : Nat} {l : List Int} {x : Int} (hc : gSh c) (hG : Good S) (hv : SV S c l) (hx : 0 ≤ x ∧ x < 65536) (hr : l.length < g_room (c + 1)) : Ev (fun n => f_X9_add n d 0 S [((c : Nat) : Int), x]) (fun _ S1 => SV S1 c (l ++ [x]) ∧ Fr (shM c) S S1 ∧ Good S1) := by
  refine ev_up (fun n => e_X9_add_0) ?_
  unfold b_X9_add_0
  obtain ⟨h1, h2, h3, h5⟩ := hv
  have h4 := g_room_le (c + 1)
  refine ev_gg hc ?_
  refine ev_gv ?_
  refine ev_gg (by constructor <;> omega) ?_
  refine ev_ite (fun h => by omega) (fun h => ?_)
  refine ev_gv ?_
  refine ev_gg (by constructor <;> omega) ?_
  refine ev_gg (by constructor <;> omega) ?_
  refine ev_ite (fun h => by omega) (fun h => ?_)
  refine ev_gv ?_
  refine ev_gg hx ?_
  refine ev_gg (by omega) ?_
  refine ev_gv ?_
  refine ev_gv ?_
  refine ev_gv ?_
  refine ev_gv ?_
  have e1 : (gI S (c + 1) (S.1 c 1).toNat x).1 c 1 = S.1 c 1 := gI_c (by omega)
  have e2 : (S.1 c 1).toNat = l.length := by omega
  rw [e1, e2]
  refine ev_ret ⟨⟨?_, ?_, fun i hi => ?_, fun z hz => ?_⟩, fr_tr (fr_gI (Or.inr rfl)) (fr_gI (Or.inl rfl)), good_gI (good_gI hG (by constructor <;> omega) (fun q => by unfold isC at q; omega)) (by constructor <;> omega) (fun q => by unfold isC at q; omega)⟩
  · rw [gI_a, h1]; simp
  · simp; omega
  · simp only [List.length_append, List.length_cons, List.length_nil] at hi
    rw [gI_c (by omega), getD_app]
    by_cases e : i = l.length
    · subst e
      rw [gI_a, if_neg (by omega), if_pos rfl]
    · rw [gI_k e, if_pos (by omega)]
      exact h3 i (by omega)
  · rcases List.mem_append.mp hz with h | h
    · exact h5 z h
    · simp at h; subst h; exact hx
