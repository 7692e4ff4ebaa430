/-! THE REFERENCE's calls: page, paper, rule, what was found -/
section CAL
variable {S0 S S1 : GS} {T0 : List ND} {Ds : List (List ND)} {pg pp : List Int} {r : Int} {L : List Nat} {Q : List (List Int)} {C : List (Int × Int)} {d : Nat}
theorem r_wipe (h : RfS S0 T0 Ds pg pp r L Q C S) : Ev (fun n => f_X12_wipe n d 0 S []) (fun x S1 => x = (pg.length : Int) ∧ S1.1 500 0 = 0 ∧ RfS S0 T0 Ds [] pp r L Q C S1) := by
  have h1 := rf_sc h (fc_gI (P := fun c j => c = 500 ∧ j = 0) (x := 0) ⟨rfl, rfl⟩) (fun c j z => by omega)
  refine ev_up (fun n => e_X12_wipe_0) ?_
  unfold b_X12_wipe_0
  refine ev_gv ?_
  refine ev_gv ?_
  refine ev_gv ?_
  rw [h1.2.1.1]
  refine ev_ret ⟨rfl, by rw [gI_k (by decide), gI_a], rf_page h1 (fc_gI (Or.inl ⟨rfl, rfl⟩)) ⟨gI_a, by decide, fun i hi => absurd hi (Nat.not_lt_zero i), fun x hx => by cases hx⟩⟩
theorem r_rule {a : Int} (hd : 1 ≤ d) (ha : inr a) (h : RfS S0 T0 Ds pg pp r L Q C S) : Ev (fun n => f_X12_rule n d 0 S [a]) (fun x S1 => if 0 ≤ a ∧ a ≤ 2 then x = r ∧ S1.1 500 0 = 0 ∧ RfS S0 T0 Ds pg pp a L Q C S1 else S1.1 500 0 = 1 ∧ RfS S0 T0 Ds pg pp r L Q C S1) := by
  refine ev_up (fun n => e_X12_rule_0) ?_
  unfold b_X12_rule_0
  refine ev_gg (by first | omega | (constructor <;> omega)) ?_
  refine ev_gcr (q_in (d := d - 1) ⟨ha, by decide, by decide⟩) ?_
  refine fa_c rfl h (fun c S1 t1 f1 h1 => ?_) (fun c S1 t1 f1 h1 => ?_)
  · refine ev_gg (by decide) ?_
    refine ev_ite (fun _ => ?_) (fun z => by omega)
    refine ev_gv ?_
    rw [h1.2.2.2.1.1]
    refine ev_gv ?_
    refine ev_ret ?_
    rw [if_pos c]
    exact ⟨rfl, by rw [gI_k (by decide)]; exact t1, rf_rule h1 c⟩
  · refine ev_gg (by decide) ?_
    refine ev_ite (fun z => by omega) (fun _ => ?_)
    refine ev_ret ?_
    rw [if_neg c]
    exact ⟨t1, h1⟩
theorem r_undo (hd : 1 ≤ d) (h : RfS S0 T0 Ds pg pp r L Q C S) : Ev (fun n => f_X12_undo n d 0 S []) (fun x S1 => if 1 ≤ Ds.length then x = (Ds.length : Int) - 1 ∧ S1.1 500 0 = 0 ∧ RfS S0 T0 (Ds.take (Ds.length - 1)) pg pp r L Q C S1 else S1.1 500 0 = 1 ∧ RfS S0 T0 Ds pg pp r L Q C S1) := by
  have n4 := h.1.2.1
  have p13 : ∀ s : Int, s = (if 1 ≤ Ds.length then 1 else 0) → Ev (fun n => f_X12_undo n d 13 S [s]) (fun x S1 => if 1 ≤ Ds.length then x = (Ds.length : Int) - 1 ∧ S1.1 500 0 = 0 ∧ RfS S0 T0 (Ds.take (Ds.length - 1)) pg pp r L Q C S1 else S1.1 500 0 = 1 ∧ RfS S0 T0 Ds pg pp r L Q C S1) := by
    intro s hs
    refine ev_up (fun n => e_X12_undo_13) ?_
    unfold b_X12_undo_13
    refine ev_gg (by first | omega | (constructor <;> omega)) ?_
    refine fa_c hs h (fun c S1 t1 f1 h1 => ?_) (fun c S1 t1 f1 h1 => ?_)
    · refine ev_gg (by decide) ?_
      refine ev_ite (fun _ => ?_) (fun z => by omega)
      refine ev_gv ?_
      rw [h1.1.1]
      refine ev_gv ?_
      refine ev_gv ?_
      refine ev_gv ?_
      rw [gI_a]
      refine ev_ret ?_
      rw [if_pos c]
      have lt : (Ds.take (Ds.length - 1)).length = Ds.length - 1 := by rw [List.length_take]; omega
      refine ⟨rfl, by rw [gI_k (by decide)]; exact t1, rf_docs h1 (fc_gI (Or.inr (Or.inr ⟨rfl, rfl⟩))) ⟨by rw [gI_a, lt]; omega, by omega, fun i hi => ?_⟩⟩
      rw [lt] at hi
      have eg : (Ds.take (Ds.length - 1)).getD i [] = Ds.getD i [] := by
        rw [List.getD_eq_getElem?_getD, List.getD_eq_getElem?_getD, List.getElem?_take, if_pos hi]
      rw [eg]
      have := h1.1.2.2 i (by omega)
      exact ⟨lk_fr this.1 (fc_gI (P := fun c j => c = 500 ∧ j = 1) ⟨rfl, rfl⟩) (fun j _ _ => by omega) (by omega), this.2⟩
    · refine ev_gg (by decide) ?_
      refine ev_ite (fun z => by omega) (fun _ => ?_)
      refine ev_ret ?_
      rw [if_neg c]
      exact ⟨t1, h1⟩
  refine ev_up (fun n => e_X12_undo_0) ?_
  unfold b_X12_undo_0
  refine ev_gv ?_
  rw [h.1.1]
  refine ev_gg (by first | omega | (constructor <;> omega)) ?_
  refine ev_ite (fun z => ?_) (fun z => ?_)
  · exact p13 0 (by rw [if_neg (by omega)])
  · exact p13 1 (by rw [if_pos (by omega)])
theorem r_find {k : Int} (hd : 1 ≤ d) (hk : inr k) (h : RfS S0 T0 Ds pg pp r L Q C S) : Ev (fun n => f_X12_find n d 0 S [k]) (fun x S1 => (if 0 ≤ k ∧ k < (L.length : Int) then x = (L.getD k.toNat 0 : Int) ∧ S1.1 500 0 = 0 else S1.1 500 0 = 1) ∧ RfS S0 T0 Ds pg pp r L Q C S1) := by
  have n4 := h.2.2.2.2.1.2.1
  refine ev_up (fun n => e_X12_find_0) ?_
  unfold b_X12_find_0
  refine ev_gv ?_
  refine ev_gv ?_
  refine ev_gg (by first | omega | (constructor <;> omega)) ?_
  rw [h.2.2.2.2.1.1]
  refine ev_gcr (q_in (d := d - 1) ⟨hk, by decide, by constructor <;> omega⟩) ?_
  refine fa_c (p := 0 ≤ k ∧ k ≤ (L.length : Int) - 1) rfl h (fun c S1 t1 f1 h1 => ?_) (fun c S1 t1 f1 h1 => ?_)
  · refine ev_gg (by decide) ?_
    refine ev_ite (fun _ => ?_) (fun z => by omega)
    refine ev_gg (by first | omega | (constructor <;> omega)) ?_
    refine ev_gv ?_
    obtain ⟨k, rfl⟩ : ∃ j : Nat, k = (j : Int) := ⟨k.toNat, by omega⟩
    rw [Int.toNat_natCast, h1.2.2.2.2.1.2.2.1 k (by omega)]
    refine ev_ret ⟨?_, h1⟩
    rw [if_pos (by omega)]
    exact ⟨rfl, t1⟩
  · refine ev_gg (by decide) ?_
    refine ev_ite (fun z => by omega) (fun _ => ?_)
    refine ev_ret ⟨?_, h1⟩
    rw [if_neg (by omega)]
    exact t1
theorem r_quarrels (h : RfS S0 T0 Ds pg pp r L Q C S) : Ev (fun n => f_X12_quarrels n d 0 S []) (fun x S1 => x = (Q.length : Int) ∧ S1.1 500 0 = 0 ∧ RfS S0 T0 Ds pg pp r L Q C S1) := by
  have h1 := rf_sc h (fc_gI (P := fun c j => c = 500 ∧ j = 0) (x := 0) ⟨rfl, rfl⟩) (fun c j z => by omega)
  refine ev_up (fun n => e_X12_quarrels_0) ?_
  unfold b_X12_quarrels_0
  refine ev_gv ?_
  refine ev_gv ?_
  rw [h1.2.2.2.2.2.1.1]
  exact ev_ret ⟨rfl, gI_a, h1⟩
theorem r_complaint {k w : Int} (hd : 1 ≤ d) (hk : inr k) (hw : inr w) (h : RfS S0 T0 Ds pg pp r L Q C S) : Ev (fun n => f_X12_complaint n d 0 S [k, w]) (fun x S1 => (if 0 ≤ k ∧ k < (C.length : Int) then (if 0 ≤ w ∧ w ≤ 1 then x = (if w = 0 then (prA C k.toNat).1 else (prA C k.toNat).2) ∧ S1.1 500 0 = 0 else S1.1 500 0 = 2) else S1.1 500 0 = 1) ∧ RfS S0 T0 Ds pg pp r L Q C S1) := by
  have n4 := h.2.2.2.2.2.2.1.2.1
  refine ev_up (fun n => e_X12_complaint_0) ?_
  unfold b_X12_complaint_0
  refine ev_gv ?_
  refine ev_gv ?_
  refine ev_gg (by first | omega | (constructor <;> omega)) ?_
  rw [h.2.2.2.2.2.2.1.1]
  refine ev_gcr (q_in (d := d - 1) ⟨hk, by decide, by constructor <;> omega⟩) ?_
  refine fa_c (p := 0 ≤ k ∧ k ≤ (C.length : Int) - 1) rfl h (fun c S1 t1 f1 h1 => ?_) (fun c S1 t1 f1 h1 => ?_)
  · refine ev_gg (by decide) ?_
    refine ev_ite (fun z => by omega) (fun _ => ?_)
    refine ev_gcr (q_in (d := d - 1) ⟨hw, by decide, by decide⟩) ?_
    obtain ⟨k, rfl⟩ : ∃ j : Nat, k = (j : Int) := ⟨k.toNat, by omega⟩
    have cell := h1.2.2.2.2.2.2.1.2.2.1 k (by omega)
    rw [Int.toNat_natCast]
    refine fa_c (p := 0 ≤ w ∧ w ≤ 1) rfl h1 (fun c2 S2 t2 f2 h2 => ?_) (fun c2 S2 t2 f2 h2 => ?_)
    · refine ev_gg (by decide) ?_
      refine ev_ite (fun _ => ?_) (fun z => by omega)
      refine ev_gg (by first | omega | (constructor <;> omega)) ?_
      refine ev_ite (fun z => ?_) (fun z => ?_)
      · refine ev_gg (by first | omega | (constructor <;> omega)) ?_
        refine ev_gv ?_
        rw [fc_i f2 (by omega), cell.1]
        refine ev_gg (by first | omega | (constructor <;> omega)) ?_
        refine ev_gv ?_
        refine ev_ret ⟨?_, h2⟩
        rw [if_pos (by omega), if_pos c2, if_neg z]
        exact ⟨by omega, t2⟩
      · refine ev_gg (by first | omega | (constructor <;> omega)) ?_
        refine ev_gv ?_
        rw [fc_i f2 (by omega), cell.1]
        refine ev_gg (by first | omega | (constructor <;> omega)) ?_
        refine ev_gv ?_
        refine ev_ret ⟨?_, h2⟩
        rw [if_pos (by omega), if_pos c2, if_pos (by omega)]
        exact ⟨by omega, t2⟩
    · refine ev_gg (by decide) ?_
      refine ev_ite (fun z => by omega) (fun _ => ?_)
      refine ev_ret ⟨?_, h2⟩
      rw [if_pos (by omega), if_neg c2]
      exact t2
  · refine ev_gg (by decide) ?_
    refine ev_ite (fun _ => ?_) (fun z => by omega)
    refine ev_ret ⟨?_, h1⟩
    rw [if_neg (by omega)]
    exact t1
theorem r_standard (hd : 2 ≤ d) (h : RfS S0 T0 Ds pg pp r L Q C S) : Ev (fun n => f_X12_standard n d 0 S []) (fun x S1 => if Ds.length < 40 then x = (Ds.length : Int) ∧ S1.1 500 0 = 0 ∧ RfS S0 T0 (Ds ++ [T0]) pg pp r L Q C S1 else S1.1 500 0 = 1 ∧ RfS S0 T0 Ds pg pp r L Q C S1) := by
  have n4 := h.1.2.1
  have p15 : ∀ s : Int, s = (if Ds.length < 40 then 1 else 0) → Ev (fun n => f_X12_standard n d 15 S [s]) (fun x S1 => if Ds.length < 40 then x = (Ds.length : Int) ∧ S1.1 500 0 = 0 ∧ RfS S0 T0 (Ds ++ [T0]) pg pp r L Q C S1 else S1.1 500 0 = 1 ∧ RfS S0 T0 Ds pg pp r L Q C S1) := by
    intro s hs
    refine ev_up (fun n => e_X12_standard_15) ?_
    unfold b_X12_standard_15
    refine ev_gg (by first | omega | (constructor <;> omega)) ?_
    refine fa_c hs h (fun c S1 t1 f1 h1 => ?_) (fun c S1 t1 f1 h1 => ?_)
    · refine ev_gg (by decide) ?_
      refine ev_ite (fun _ => ?_) (fun z => by omega)
      refine ev_gc (r_keeps (d := d - 1) (K := 45) (V := T0) (by omega) rfl (by decide) h1 c h1.2.2.2.2.2.2.2.1.1 h1.2.2.2.2.2.2.2.1.2) (fun x S2 q => ?_)
      refine ev_ret ?_
      rw [if_pos c]
      exact ⟨q.1, q.2.1.trans t1, q.2.2⟩
    · refine ev_gg (by decide) ?_
      refine ev_ite (fun z => by omega) (fun _ => ?_)
      refine ev_ret ?_
      rw [if_neg c]
      exact ⟨t1, h1⟩
  refine ev_up (fun n => e_X12_standard_0) ?_
  unfold b_X12_standard_0
  refine ev_gv ?_
  rw [h.1.1]
  refine ev_gg (by first | omega | (constructor <;> omega)) ?_
  refine ev_ite (fun z => ?_) (fun z => ?_)
  · exact p15 0 (by rw [if_neg (by omega)])
  · exact p15 1 (by rw [if_pos (by omega)])
theorem r_isSound {a : Int} (hd : 2 ≤ d) (ha : inr a) (h : RfS S0 T0 Ds pg pp r L Q C S) : Ev (fun n => f_X12_isSound n d 0 S [a]) (fun x S1 => (if hasD Ds a then x = 1 ∧ S1.1 500 0 = 0 else S1.1 500 0 = 1) ∧ RfS S0 T0 Ds pg pp r L Q C S1) := by
  refine ev_up (fun n => e_X12_isSound_0) ?_
  unfold b_X12_isSound_0
  refine ev_gg (by first | omega | (constructor <;> omega)) ?_
  refine ev_gcr (r_isDoc (d := d - 1) (by omega) ha h) ?_
  refine fa_c rfl h (fun c S1 t1 f1 h1 => ?_) (fun c S1 t1 f1 h1 => ?_)
  · refine ev_gg (by decide) ?_
    refine ev_ite (fun z => by omega) (fun _ => ?_)
    refine ev_ret ⟨?_, h1⟩
    rw [if_pos c]
    exact ⟨rfl, t1⟩
  · refine ev_gg (by decide) ?_
    refine ev_ite (fun _ => ?_) (fun z => by omega)
    refine ev_ret ⟨?_, h1⟩
    rw [if_neg c]
    exact t1
/-- what was written comes onto the paper -/
theorem r_onPaper {l : List Int} (h : RfS S0 T0 Ds pg pp r L Q C S) (ho : OuS S 0 l) : Ev (fun n => f_X12_onPaper n d 0 S []) (fun x S1 => x = (l.length : Int) ∧ S1.1 500 0 = S.1 500 0 ∧ RfS S0 T0 Ds pg l r L Q C S1) :=
  ev_mono (q_onPaper ho) (fun x S1 q => ⟨q.1, fc_i q.2.2 (by omega), rf_paper h q.2.2 q.2.1⟩)
theorem r_print {a w : Int} (hd : 9 ≤ d) (ha : inr a) (hw : inr w) (h : RfS S0 T0 Ds pg pp r L Q C S) : Ev (fun n => f_X12_print n d 0 S [a, w]) (fun x S1 => if hasD Ds a then (if 0 ≤ w ∧ w ≤ 2 then x = ((wrF 12 w 0 (atD' Ds a)).length : Int) ∧ S1.1 500 0 = 0 ∧ RfS S0 T0 Ds pg (wrF 12 w 0 (atD' Ds a)) r L Q C S1 else S1.1 500 0 = 2 ∧ RfS S0 T0 Ds pg pp r L Q C S1) else S1.1 500 0 = 1 ∧ RfS S0 T0 Ds pg pp r L Q C S1) := by
  refine ev_up (fun n => e_X12_print_0) ?_
  unfold b_X12_print_0
  refine ev_gg (by first | omega | (constructor <;> omega)) ?_
  refine ev_gcr (r_isDoc (d := d - 1) (by omega) ha h) ?_
  refine fa_c rfl h (fun c S1 t1 f1 h1 => ?_) (fun c S1 t1 f1 h1 => ?_)
  · obtain ⟨e1, e2, e3, e4⟩ := r_at h1 c
    refine ev_gg (by decide) ?_
    refine ev_ite (fun z => by omega) (fun _ => ?_)
    refine ev_gcr (q_in (d := d - 1) ⟨hw, by decide, by decide⟩) ?_
    refine fa_c (p := 0 ≤ w ∧ w ≤ 2) rfl h1 (fun c2 S2 t2 f2 h2 => ?_) (fun c2 S2 t2 f2 h2 => ?_)
    · refine ev_gg (by decide) ?_
      refine ev_ite (fun _ => ?_) (fun z => by omega)
      have s0 := sg_selT e4.1.1.1
      have l1 := e4.1.1.1.2.1
      refine ev_gc (q_writes (d := d - 1) (t := 0) (K := a.toNat) (I := 0) (by omega) rfl (by decide) e1 (by omega) rfl c2 (r_at h2 c).2.2.1 e4.1 (by omega) (by rw [s0]; exact e4.2.1)) (fun _ S3 q3 => ?_)
      rw [s0] at q3
      have h3 := rf_sc h2 q3.2 (fun c j z => by omega)
      refine ev_gc (r_onPaper (d := d - 1) h3 q3.1) (fun x S4 q4 => ?_)
      refine ev_ret ?_
      rw [if_pos c, if_pos c2]
      exact ⟨q4.1, by rw [q4.2.1, fc_i q3.2 (by omega)]; exact t2, q4.2.2⟩
    · refine ev_gg (by decide) ?_
      refine ev_ite (fun z => by omega) (fun _ => ?_)
      refine ev_ret ?_
      rw [if_pos c, if_neg c2]
      exact ⟨t2, h2⟩
  · refine ev_gg (by decide) ?_
    refine ev_ite (fun _ => ?_) (fun z => by omega)
    refine ev_ret ?_
    rw [if_neg c]
    exact ⟨t1, h1⟩
theorem dgst_r : ∀ (l : List Int) (h : Int), 0 ≤ h ∧ h < 65521 → (∀ x ∈ l, 0 ≤ x ∧ x < 256) → 0 ≤ dgst h l ∧ dgst h l < 65521
  | [], h, hh, _ => hh
  | y :: l, h, hh, hx => by
    have := hx y List.mem_cons_self
    exact dgst_r l _ (by constructor <;> omega) (fun z hz => hx z (List.mem_cons_of_mem _ hz))
theorem r_digest {a i : Int} (hd : 9 ≤ d) (ha : inr a) (hi : inr i) (h : RfS S0 T0 Ds pg pp r L Q C S) : Ev (fun n => f_X12_digest n d 0 S [a, i]) (fun x S1 => (if hasD Ds a ∧ 0 ≤ i ∧ i < ((atD' Ds a).length : Int) then x = dgst 7 (wrF 12 1 0 (sg (atD' Ds a) i.toNat)) ∧ S1.1 500 0 = 0 else S1.1 500 0 = 1) ∧ RfS S0 T0 Ds pg pp r L Q C S1) := by
  refine ev_up (fun n => e_X12_digest_0) ?_
  unfold b_X12_digest_0
  refine ev_gg (by first | omega | (constructor <;> omega)) ?_
  refine ev_gcr (r_isNode (d := d - 1) (by omega) ha hi h) ?_
  refine fa_c rfl h (fun c S1 t1 f1 h1 => ?_) (fun c S1 t1 f1 h1 => ?_)
  · obtain ⟨e1, e2, e3, e4⟩ := r_at h1 c.1
    obtain ⟨i, rfl⟩ : ∃ j : Nat, i = (j : Int) := ⟨i.toNat, by omega⟩
    refine ev_gg (by decide) ?_
    refine ev_ite (fun _ => ?_) (fun z => by omega)
    refine ev_gc (q_writes (d := d - 1) (t := 0) (K := a.toNat) (I := i) (by omega) rfl (by decide) e1 (by omega) rfl (by decide) e3 e4.1 (by omega) (doc_sg e4 (by omega)).2.1) (fun _ S3 q3 => ?_)
    have h3 := rf_sc h1 q3.2 (fun c j z => by omega)
    have t3 : S3.1 500 0 = 0 := by rw [fc_i q3.2 (by omega)]; exact t1
    simp only [if_pos c, Int.toNat_natCast]
    have o3 := q3.1
    generalize wrF 12 1 0 (sg (atD' Ds a) i) = W at o3
    obtain ⟨p1, p2, p3, p4⟩ := o3
    have lp : ∀ (w : List Int) (u : Nat) (x : Int), W.drop u = w → u ≤ W.length → 0 ≤ x ∧ x < 65521 → Ev (fun n => f_X12_digest n d 30 S3 [x, (u : Int)]) (fun y S4 => (y = dgst x w ∧ S4.1 500 0 = 0) ∧ RfS S0 T0 Ds pg pp r L Q C S4) := by
      intro w
      induction w with
      | nil =>
        intro u x hu hul hx
        have := drop_nl hu
        refine ev_up (fun n => e_X12_digest_30) ?_
        unfold b_X12_digest_30
        refine ev_gg (by decide) ?_
        refine ev_gv ?_
        rw [show (0 : Int).toNat = 0 from rfl, p1]
        refine ev_gg (by first | omega | (constructor <;> omega)) ?_
        refine ev_gg (by first | omega | (constructor <;> omega)) ?_
        refine ev_ite (fun _ => ?_) (fun z => by omega)
        exact ev_ret ⟨⟨rfl, t3⟩, h3⟩
      | cons y w ih =>
        intro u x hu hul hx
        obtain ⟨lu, g1, r1⟩ := drop_hd hu
        have yr := p4 y (by rw [← g1]; exact getD_in lu)
        have c3 := p3 u lu
        rw [Nat.mul_zero, Nat.zero_add, g1] at c3
        refine ev_up (fun n => e_X12_digest_30) ?_
        unfold b_X12_digest_30
        refine ev_gg (by decide) ?_
        refine ev_gv ?_
        rw [show (0 : Int).toNat = 0 from rfl, p1]
        refine ev_gg (by first | omega | (constructor <;> omega)) ?_
        refine ev_gg (by first | omega | (constructor <;> omega)) ?_
        refine ev_ite (fun z => by omega) (fun _ => ?_)
        refine ev_gv ?_
        refine ev_gg (by first | omega | (constructor <;> omega)) ?_
        refine ev_gv ?_
        rw [Int.toNat_natCast, c3]
        refine ev_gv ?_
        refine ev_gg (by first | omega | (constructor <;> omega)) ?_
        refine ev_gv ?_
        refine ev_gv ?_
        rw [show (u : Int) + 1 = ((u + 1 : Nat) : Int) by omega]
        exact ih (u + 1) _ r1 (by omega) (by constructor <;> omega)
    exact lp W 0 7 rfl (Nat.zero_le _) (by decide)
  · refine ev_gg (by decide) ?_
    refine ev_ite (fun z => by omega) (fun _ => ?_)
    refine ev_ret ⟨?_, h1⟩
    rw [if_neg c]
    exact t1
theorem r_equal {a b : Int} (hd : 10 ≤ d) (ha : inr a) (hb : inr b) (h : RfS S0 T0 Ds pg pp r L Q C S) : Ev (fun n => f_X12_equal n d 0 S [a, b]) (fun x S1 => (if hasD Ds a ∧ hasD Ds b then x = (if smF 13 (atD' Ds a) (atD' Ds b) = true then 1 else 0) ∧ S1.1 500 0 = 0 else x = 0 ∧ S1.1 500 0 = 1) ∧ RfS S0 T0 Ds pg pp r L Q C S1) := by
  have p22 : ∀ s : Int, s = (if hasD Ds a ∧ hasD Ds b then 1 else 0) → Ev (fun n => f_X12_equal n d 22 S [a, b, s]) (fun x S1 => (if hasD Ds a ∧ hasD Ds b then x = (if smF 13 (atD' Ds a) (atD' Ds b) = true then 1 else 0) ∧ S1.1 500 0 = 0 else x = 0 ∧ S1.1 500 0 = 1) ∧ RfS S0 T0 Ds pg pp r L Q C S1) := by
    intro s hs
    refine ev_up (fun n => e_X12_equal_22) ?_
    unfold b_X12_equal_22
    refine ev_gg (by first | omega | (constructor <;> omega)) ?_
    refine fa_c hs h (fun c S1 t1 f1 h1 => ?_) (fun c S1 t1 f1 h1 => ?_)
    · obtain ⟨e1, e2, e3, e4⟩ := r_at h1 c.1
      obtain ⟨g1, g2, g3, g4⟩ := r_at h1 c.2
      have sa := sg_selT e4.1.1.1
      have sb := sg_selT g4.1.1.1
      have la := e4.1.1.1.2.1
      have lb := g4.1.1.1.2.1
      refine ev_gg (by decide) ?_
      refine ev_ite (fun z => by omega) (fun _ => ?_)
      refine ev_gc (q_areEqual (d := d - 1) (K := a.toNat) (I := 0) (F := b.toNat) (J := 0) (by omega) e1 (by omega) rfl g1 (by omega) rfl e3 g3 e4.1 g4.1 (by omega) (by omega) (by rw [sa]; exact e4.2.1) (by rw [sb]; exact g4.2.1)) (fun x S2 q => ?_)
      obtain ⟨q1, q2⟩ := q
      rw [sa, sb] at q1
      have h2 := rf_sc h1 q2 (fun c j z => by omega)
      have t2 : S2.1 500 0 = 0 := by rw [fc_i q2 (by omega)]; exact t1
      simp only [if_pos c]
      rw [q1]
      by_cases e : smF 13 (atD' Ds a) (atD' Ds b) = true
      · rw [if_pos e]
        refine ev_gg (by decide) ?_
        refine ev_ite (fun z => by omega) (fun _ => ?_)
        exact ev_ret ⟨⟨rfl, t2⟩, h2⟩
      · rw [if_neg e]
        refine ev_gg (by decide) ?_
        refine ev_ite (fun _ => ?_) (fun z => by omega)
        exact ev_ret ⟨⟨rfl, t2⟩, h2⟩
    · refine ev_gg (by decide) ?_
      refine ev_ite (fun _ => ?_) (fun z => by omega)
      refine ev_ret ⟨?_, h1⟩
      rw [if_neg c]
      exact ⟨rfl, t1⟩
  refine ev_up (fun n => e_X12_equal_0) ?_
  unfold b_X12_equal_0
  refine ev_gg (by first | omega | (constructor <;> omega)) ?_
  refine ev_gcr (r_isDoc (d := d - 1) (by omega) ha h) ?_
  by_cases c : hasD Ds a
  · rw [if_pos c]
    refine ev_gg (by decide) ?_
    refine ev_ite (fun z => by omega) (fun _ => ?_)
    refine ev_gcr (r_isDoc (d := d - 1) (by omega) hb h) ?_
    by_cases c2 : hasD Ds b
    · rw [if_pos c2]
      refine ev_gg (by decide) ?_
      refine ev_ite (fun z => by omega) (fun _ => ?_)
      exact p22 1 (by rw [if_pos ⟨c, c2⟩])
    · rw [if_neg c2]
      refine ev_gg (by decide) ?_
      refine ev_ite (fun _ => ?_) (fun z => by omega)
      exact p22 0 (by rw [if_neg (fun z => c2 z.2)])
  · rw [if_neg c]
    refine ev_gg (by decide) ?_
    refine ev_ite (fun _ => ?_) (fun z => by omega)
    exact p22 0 (by rw [if_neg (fun z => c z.1)])
end CAL
