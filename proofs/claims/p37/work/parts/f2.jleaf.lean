/-! JOINING: leaves -/
theorem alk_n {T U : List ND} {i j : Int} (h : i = -1 ∨ j = -1) : alk T i U j ↔ i = j := by
  unfold alk
  rw [if_pos h]
theorem alk_s {T U : List ND} {i j : Int} (h1 : i ≠ -1) (h2 : j ≠ -1) : alk T i U j ↔ smJ 13 T i.toNat U j = true := by
  unfold alk
  rw [if_neg (fun z => by rcases z with z | z; exact h1 z; exact h2 z)]
theorem gT392 : gT 392 := by decide
theorem gSh456 : gSh 456 := by decide
theorem gSh458 : gSh 458 := by decide
section JLEAF
variable {S S0 : GS} {d : Nat}
theorem jn_alike {c1 c2 : Nat} {T U : List ND} {i j : Int} (hc1 : gT c1) (hc2 : gT c2) (hd : 34 ≤ d) (hT : TV S c1 T) (hU : TV S c2 U) (wT : WF T) (wU : WF U) (hi : nOK T i) (hj : nOK U j) : Rd (fun n => f_X4_alike n d 0 S [((c1 : Nat) : Int), i, ((c2 : Nat) : Int), j]) (if alk T i U j then 1 else 0) S := by
  have lT := tv_l hT
  have lU := tv_l hU
  have iT : inr i := by rcases hi with z | z <;> constructor <;> omega
  have iU : inr j := by rcases hj with z | z <;> constructor <;> omega
  have no : (i = -1 ∨ j = -1) → Rd (fun n => f_X4_alike n d 10 S [i, j]) (if alk T i U j then 1 else 0) S := by
    intro h
    refine ev_up (fun n => e_X4_alike_10) ?_
    unfold b_X4_alike_10
    refine ev_gg iT ?_
    refine ev_gg iU ?_
    by_cases e : i = j
    · rw [if_pos ((alk_n h).mpr e)]
      refine ev_ite (fun z => absurd e z) (fun _ => ?_)
      exact ev_ret ⟨rfl, rfl⟩
    · rw [if_neg (fun w => e ((alk_n h).mp w))]
      refine ev_ite (fun _ => ?_) (fun z => absurd e z)
      exact ev_ret ⟨rfl, rfl⟩
  refine ev_up (fun n => e_X4_alike_0) ?_
  unfold b_X4_alike_0
  refine ev_gg iT ?_
  refine ev_ite (fun h => no (Or.inl h)) (fun h => ?_)
  refine ev_gg iU ?_
  refine ev_ite (fun h2 => ?_) (fun h2 => no (Or.inr (by omega)))
  have i0 : 0 ≤ i ∧ i < (T.length : Int) := by rcases hi with z | z; exact absurd z h; exact z
  have sm := t_same (S := S) (c := c1) (c2 := c2) (V := T) (U := U) hc1 hc2 hT hU wT wU 13 i.toNat (d - 1) j (Nat.le_refl _) (by omega) iU (by omega)
  rw [show (13 : Int) - ((13 : Nat) : Int) = 0 by decide, show ((i.toNat : Nat) : Int) = i by omega] at sm
  refine ev_gg (by omega) ?_
  refine ev_gg hc1 ?_
  refine ev_gcr sm ?_
  by_cases c : smJ 13 T i.toNat U j = true
  · rw [if_pos c, if_pos ((alk_s h h2).mpr c)]
    refine ev_gg (by decide) ?_
    exact ev_ret ⟨rfl, rfl⟩
  · rw [if_neg c, if_neg (fun w => c ((alk_s h h2).mp w))]
    refine ev_gg (by decide) ?_
    exact ev_ret ⟨rfl, rfl⟩
theorem md_fr {S1 : GS} {r : Option (List ND)} {M : Nat → Prop} (h : MdR r S) (hf : Fr M S S1) (hM : ∀ k, 392 ≤ k → k < 400 → ¬ M k) : MdR r S1 := by
  cases r with
  | none => obtain ⟨W, h1, h2⟩ := h; exact ⟨W, h1, to_fr h2 hf hM⟩
  | some V => exact to_fr (W := (V, false)) h hf hM
theorem md_nil {r : Option (List ND)} (h : MdR r S) : MdR (apM r []) S := by
  cases r with
  | none => exact h
  | some V =>
    have := tv_l (V := V) h.1
    show MdR (if V.length + 0 ≤ 100 then some (V ++ []) else none) S
    rw [if_pos (by omega), List.append_nil]
    exact h
theorem apM_gp {r : Option (List ND)} {x : ND} {E n : List (List ND)} : apM (apM r (gpN x E 0)) n.flatten = apM r (gpN x (E ++ n) 0) := by
  cases r with
  | none => rfl
  | some V =>
    have l1 : (gpN x (E ++ n) 0).length = (gpN x E 0).length + n.flatten.length := by
      rw [gp_len, gp_len, List.flatten_append, List.length_append]
      omega
    have e1 : gpN x (E ++ n) 0 = gpN x E 0 ++ n.flatten := by
      show wZ x _ :: (E ++ n).flatten = wZ x _ :: E.flatten ++ n.flatten
      rw [List.flatten_append]
      rfl
    show apM (if V.length + (gpN x E 0).length ≤ 100 then some (V ++ gpN x E 0) else none) n.flatten = if V.length + (gpN x (E ++ n) 0).length ≤ 100 then some (V ++ gpN x (E ++ n) 0) else none
    by_cases c : V.length + (gpN x E 0).length ≤ 100
    · rw [if_pos c]
      show (if (V ++ gpN x E 0).length + n.flatten.length ≤ 100 then some (V ++ gpN x E 0 ++ n.flatten) else none) = _
      rw [l1, List.length_append, e1, List.append_assoc]
      by_cases c2 : V.length + (gpN x E 0).length + n.flatten.length ≤ 100
      · rw [if_pos c2, if_pos (by omega)]
      · rw [if_neg c2, if_neg (by omega)]
    · rw [if_neg c, if_neg (by omega)]
      rfl
theorem jn_accept {cT : Nat} {T : List ND} {i : Int} {r : Option (List ND)} (hc : gT cT) (hn : cT ≠ 392) (hd : 2 ≤ d) (hT : TO cT (T, false) S) (wT : WF T) (hi : nOK T i) (hr : MdR r S) (hG : Good S) : Ev (fun n => f_X4_accept n d 0 S [((cT : Nat) : Int), i]) (fun _ S1 => MdR (apM r (acT T i).flatten) S1 ∧ Fr (trM 392) S S1 ∧ Good S1) := by
  have lT : T.length ≤ 100 := tv_l hT.1
  refine ev_up (fun n => e_X4_accept_0) ?_
  unfold b_X4_accept_0
  refine ev_gg (by rcases hi with z | z <;> constructor <;> omega) ?_
  refine ev_ite (fun h => ?_) (fun h => ?_)
  · refine ev_ret ⟨?_, fr_rf, hG⟩
    unfold acT
    rw [if_pos h]
    exact md_nil hr
  have i0 : 0 ≤ i ∧ i < (T.length : Int) := by rcases hi with z | z; exact absurd z h; exact z
  have zT : PZ T := pz_l (nr_pzl hT.1.2.2.2)
  have wi := wT.1 i.toNat (by omega)
  have zi := zT i.toNat
  have es : szI T i = (nz T i.toNat : Int) := if_pos i0
  have ea : (acT T i).flatten = seg T i.toNat (nz T i.toNat) := by
    unfold acT
    rw [if_neg h]
    show sg T i.toNat ++ [] = _
    rw [List.append_nil]
    rfl
  have la : (seg T i.toNat (nz T i.toNat)).length = nz T i.toNat := seg_len wi
  have ap : ∀ W : TW, TO 392 W S → Ev (fun n => f_X10_append n (d - 1) 0 S [((392 : Nat) : Int), ((cT : Nat) : Int), i]) (fun x S1 => x = apA W T false i ∧ TY 392 S (apW W T false i) S1) := fun W hW => ty_append gT392 hc hn (by omega) hT.1 hT.2 (by constructor <;> omega) (Or.inl (by omega)) (ty_to hW hG)
  refine ev_gg (by omega) ?_
  rw [ea]
  cases r with
  | none =>
    obtain ⟨W, w1, w2⟩ := hr
    refine ev_gc (ap W w2) (fun x S1 q => ?_)
    refine ev_ret ⟨⟨apW W T false i, ?_, to_ty q.2⟩, q.2.2.2.1, q.2.2.2.2⟩
    unfold apW
    split
    · exact w1
    · rfl
  | some V =>
    refine ev_gc (ap (V, false) hr) (fun x S1 q => ?_)
    refine ev_ret ⟨?_, q.2.2.2.1, q.2.2.2.2⟩
    have q2 := to_ty q.2
    show MdR (if V.length + (seg T i.toNat (nz T i.toNat)).length ≤ 100 then some (V ++ seg T i.toNat (nz T i.toNat)) else none) S1
    rw [la]
    unfold apW at q2
    rw [es, Int.toNat_natCast] at q2
    by_cases c : V.length + nz T i.toNat ≤ 100
    · rw [if_pos ⟨rfl, by omega, by show (V.length : Int) + _ ≤ 100; omega⟩] at q2
      rw [if_pos c]
      exact q2
    · rw [if_neg (fun z => c (by have : (V.length : Int) + _ ≤ 100 := z.2.2; omega))] at q2
      rw [if_neg c]
      exact ⟨_, rfl, q2⟩
/-- what is said of QUARRELS so far -/
def QnS (Qo Qn : List (List Int)) (S : GS) : Prop := S.2.1 485 8 = decide (Qn ≠ []) ∧ QuS (if Qn = [] then Qo else Qn) S
theorem qu_fr {S1 : GS} {Q : List (List Int)} {M : Nat → Prop} (h : QuS Q S) (hf : Fr M S S1) (h1 : ¬ M 458) (h2 : ¬ M 459) (h3 : ¬ M 485) (h4 : ¬ M 486) : QuS Q S1 :=
  ⟨by rw [(hf _ h3).1]; exact h.1, sv_fr h.2.1 hf h1 h2, fun k hk => by rw [(hf _ h4).1]; exact h.2.2.1 k hk, h.2.2.2⟩
theorem qn_fr {S1 : GS} {Qo Q : List (List Int)} {M : Nat → Prop} (h : QnS Qo Q S) (hf : Fr M S S1) (h1 : ¬ M 458) (h2 : ¬ M 459) (h3 : ¬ M 485) (h4 : ¬ M 486) : QnS Qo Q S1 :=
  ⟨by rw [(hf _ h3).2.1]; exact h.1, qu_fr h.2 hf h1 h2 h3 h4⟩
abbrev quM : Nat → Prop := fun k => k = 458 ∨ k = 459 ∨ k = 485 ∨ k = 486
theorem jn_forget (hd : 2 ≤ d) (hG : Good S) : Ev (fun n => f_X4_forget n d 0 S []) (fun _ S1 => QuS [] S1 ∧ Fr quM S S1 ∧ (∀ k, S1.2.2 485 k = S.2.2 485 k) ∧ Good S1) := by
  refine ev_up (fun n => e_X4_forget_0) ?_
  unfold b_X4_forget_0
  refine ev_gv ?_
  refine ev_gg (by omega) ?_
  refine ev_gc (sx_clear gSh458 (good_gI hG (by decide) (fun q => by unfold isC at q; omega))) (fun _ S1 q => ?_)
  have n := q.2.1 485 (by unfold shM; omega)
  refine ev_ret ⟨⟨?_, q.1, fun k hk => absurd hk (Nat.not_lt_zero _), by decide, fun x hx => by cases hx⟩, ?_, fun k => by rw [n.2.2]; rfl, q.2.2⟩
  · rw [n.1, gI_a]
    rfl
  · exact fr_tr (fr_gI (Or.inr (Or.inr (Or.inl rfl)))) (fr_mono q.2.1 (fun k z => by unfold shM at z; unfold quM; omega))
theorem flat_le {Q : List (List Int)} {b : Nat} (h : ∀ q ∈ Q, q.length ≤ b) : Q.flatten.length ≤ Q.length * b := by
  induction Q with
  | nil => simp
  | cons q Q ih =>
    have h1 := ih (fun x hx => h x (List.mem_cons_of_mem _ hx))
    have h2 := h q List.mem_cons_self
    rw [List.flatten_cons, List.length_append, List.length_cons, Nat.succ_mul]
    omega
theorem jn_disp11 {p : List Int} {Q : List (List Int)} (hd : 4 ≤ d) (hp : SV S 456 p) (hp2 : p.length ≤ 300 ∧ ∀ x ∈ p, 0 ≤ x ∧ x < 256) (hQ : QuS Q S) (hl : Q.length < 200) (hG : Good S) : Ev (fun n => f_X4_dispute n d 11 S []) (fun _ S1 => S1.2.1 485 8 = true ∧ QuS (Q ++ [p]) S1 ∧ Fr quM S S1 ∧ (∀ k, S1.2.2 485 k = S.2.2 485 k) ∧ Good S1) := by
  have fl := flat_le (b := 300) (fun q hq => (hQ.2.2.2.2 q hq).1)
  refine ev_up (fun n => e_X4_dispute_11) ?_
  unfold b_X4_dispute_11
  refine ev_gv ?_
  generalize hS1 : gB S 485 8 (decide ((1 : Int) = 1)) = S1
  have f1 : Fr (fun k => k = 485) S S1 := by rw [← hS1]; exact fr_gB rfl
  have G1 : Good S1 := by rw [← hS1]; exact hG
  have b1 : S1.2.1 485 8 = true := by rw [← hS1, gB_a]; rfl
  have c1 : S1.1 485 7 = (Q.length : Int) := by rw [← hS1]; exact hQ.1
  have r1 : ∀ k, S1.2.2 485 k = S.2.2 485 k := fun k => by rw [← hS1]; rfl
  have e1 : S1.1 486 = S.1 486 := by rw [← hS1]; rfl
  refine ev_gv ?_
  rw [c1]
  refine ev_gg (by constructor <;> omega) ?_
  refine ev_ite (fun z => by omega) (fun _ => ?_)
  refine ev_gv ?_
  refine ev_gg (by constructor <;> omega) ?_
  refine ev_gg (by decide) ?_
  refine ev_ite (fun z => by omega) (fun _ => ?_)
  refine ev_gg (by omega) ?_
  have p1 : SV S1 456 p := sv_fr hp f1 (by omega) (by omega)
  have q1 : SV S1 458 Q.flatten := sv_fr hQ.2.1 f1 (by omega) (by omega)
  refine ev_gcr (s9_length gSh456 p1) ?_
  have ad := s9_addPart (S0 := S1) (d := d - 1) (c := 458) (c2 := 456) (l := Q.flatten) (l2 := p) (i := 0) (t := p.length) gSh458 gSh456 (by decide) (by omega) (Nat.le_refl _) (by decide) p1 (sx_rf G1 q1) (by show _ ≤ 60000; omega)
  refine ev_gc ad (fun _ S2 q2 => ?_)
  rw [List.take_length, List.drop_zero] at q2
  have n2 := q2.2.1 485 (by unfold shM; omega)
  have n6 := q2.2.1 486 (by unfold shM; omega)
  refine ev_gv ?_
  rw [n2.1, c1]
  refine ev_gcr (s9_length gSh458 q2.1) ?_
  refine ev_gg (by omega) ?_
  refine ev_gv ?_
  refine ev_gv ?_
  refine ev_gv ?_
  refine ev_gv ?_
  rw [Int.toNat_natCast]
  have ll := q2.1.2.1
  have l6 : g_room (458 + 1) = 60000 := rfl
  rw [l6] at ll
  have c3 : (gI S2 486 Q.length ((Q.flatten ++ p).length : Int)).1 485 7 = (Q.length : Int) := by rw [gI_c (by decide), n2.1, c1]
  refine ev_ret ⟨by show S2.2.1 485 8 = true; rw [n2.2.1]; exact b1, ⟨?_, ?_, ?_, ?_, ?_⟩, ?_, fun k => by show S2.2.2 485 k = _; rw [n2.2.2]; exact r1 k, ?_⟩
  · rw [gI_a, c3, List.length_append]
    rfl
  · refine sv_fr (M := fun k => k = 485 ∨ k = 486) ?_ (fr_tr (fr_gI (Or.inr rfl)) (fr_gI (Or.inl rfl))) (by omega) (by omega)
    have : (Q ++ [p]).flatten = Q.flatten ++ p := by simp
    rw [this]
    exact q2.1
  · intro k hk
    rw [gI_c (by decide)]
    rw [List.length_append, List.length_singleton] at hk
    by_cases e : k = Q.length
    · subst e
      rw [gI_a, List.take_of_length_le (by rw [List.length_append]; exact Nat.le_refl _)]
      simp
    · rw [gI_k e, n6.1, e1, hQ.2.2.1 k (by omega), List.take_append_of_le_length (by omega)]
  · rw [List.length_append, List.length_singleton]; omega
  · intro q hq
    rcases List.mem_append.mp hq with z | z
    · exact hQ.2.2.2.2 q z
    · simp only [List.mem_cons, List.not_mem_nil, or_false] at z
      rw [z]
      exact hp2
  · refine fr_tr (fr_mono f1 (fun k z => ?_)) (fr_tr (fr_mono q2.2.1 (fun k z => ?_)) (fr_tr (fr_gI (Or.inr (Or.inr (Or.inr rfl)))) (fr_gI (Or.inr (Or.inr (Or.inl rfl))))))
    · exact Or.inr (Or.inr (Or.inl z))
    · unfold shM at z; unfold quM; omega
  · exact good_gI (good_gI q2.2.2 (by constructor <;> omega) (fun q => by unfold isC at q; omega)) (by rw [c3]; constructor <;> omega) (fun q => by unfold isC at q; omega)
theorem jn_disp {p : List Int} {Qo Qn : List (List Int)} (hd : 5 ≤ d) (hp : SV S 456 p) (hp2 : p.length ≤ 300 ∧ ∀ x ∈ p, 0 ≤ x ∧ x < 256) (hQ : QnS Qo Qn S) (hl : Qn.length < 200) (hG : Good S) : Ev (fun n => f_X4_dispute n d 0 S []) (fun _ S1 => QnS Qo (Qn ++ [p]) S1 ∧ Fr quM S S1 ∧ (∀ k, S1.2.2 485 k = S.2.2 485 k) ∧ Good S1) := by
  have fin : ∀ S1 : GS, S1.2.1 485 8 = true → QuS (Qn ++ [p]) S1 → QnS Qo (Qn ++ [p]) S1 := by
    intro S1 h1 h2
    refine ⟨by rw [h1]; simp, ?_⟩
    rw [if_neg (by simp)]
    exact h2
  refine ev_up (fun n => e_X4_dispute_0) ?_
  unfold b_X4_dispute_0
  refine ev_gv ?_
  rw [hQ.1]
  by_cases c : Qn = []
  · subst c
    rw [show bi (decide (([] : List (List Int)) ≠ [])) = 0 from rfl]
    refine ev_gg (by decide) ?_
    refine ev_ite (fun z => absurd rfl z) (fun _ => ?_)
    refine ev_gg (by omega) ?_
    refine ev_gc (jn_forget (d := d - 1) (by omega) hG) (fun _ S1 q1 => ?_)
    refine ev_mono (jn_disp11 (d := d) (by omega) (sv_fr hp q1.2.1 (by unfold quM; omega) (by unfold quM; omega)) hp2 q1.1 (by decide) q1.2.2.2) (fun _ S2 q2 => ?_)
    exact ⟨fin S2 q2.1 q2.2.1, fr_tr q1.2.1 q2.2.2.1, fun k => by rw [q2.2.2.2.1, q1.2.2.1], q2.2.2.2.2⟩
  · have b : bi (decide (Qn ≠ [])) = 1 := by rw [decide_eq_true c]; rfl
    rw [b]
    refine ev_gg (by decide) ?_
    refine ev_ite (fun _ => ?_) (fun z => absurd (by decide) z)
    have q := hQ.2
    rw [if_neg c] at q
    refine ev_mono (jn_disp11 (d := d) (by omega) hp hp2 q hl hG) (fun _ S2 q2 => ?_)
    exact ⟨fin S2 q2.1 q2.2.1, q2.2.2.1, q2.2.2.2.1, q2.2.2.2.2⟩
end JLEAF
