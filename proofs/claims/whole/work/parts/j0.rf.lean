/-! THE REFERENCE: frames by cells, leaves -/
/-- only such cells change, of ints and truths; references stay -/
def FC (P : Nat → Nat → Prop) (S S1 : GS) : Prop := (∀ c k, ¬ P c k → S1.1 c k = S.1 c k ∧ S1.2.1 c k = S.2.1 c k) ∧ S1.2.2 = S.2.2
theorem fc_rf {P : Nat → Nat → Prop} {S : GS} : FC P S S := ⟨fun _ _ _ => ⟨rfl, rfl⟩, rfl⟩
theorem fc_tr {P : Nat → Nat → Prop} {S S1 S2 : GS} (h : FC P S S1) (g : FC P S1 S2) : FC P S S2 := ⟨fun c k hc => ⟨((g.1 c k hc).1).trans (h.1 c k hc).1, ((g.1 c k hc).2).trans (h.1 c k hc).2⟩, g.2.trans h.2⟩
theorem fc_mono {P P1 : Nat → Nat → Prop} {S S1 : GS} (h : FC P S S1) (hm : ∀ c k, P c k → P1 c k) : FC P1 S S1 := ⟨fun c k hc => h.1 c k (fun q => hc (hm c k q)), h.2⟩
theorem fc_i {P : Nat → Nat → Prop} {S S1 : GS} {c k : Nat} (h : FC P S S1) (hn : ¬ P c k) : S1.1 c k = S.1 c k := (h.1 c k hn).1
theorem fc_b {P : Nat → Nat → Prop} {S S1 : GS} {c k : Nat} (h : FC P S S1) (hn : ¬ P c k) : S1.2.1 c k = S.2.1 c k := (h.1 c k hn).2
theorem gI_d {S : GS} {c c' k k' : Nat} {x : Int} (h : ¬ (c' = c ∧ k' = k)) : (gI S c k x).1 c' k' = S.1 c' k' := by
  by_cases e : c' = c
  · subst e
    exact gI_k (fun e2 => h ⟨rfl, e2⟩)
  · exact gI_c e
theorem gB_d {S : GS} {c c' k k' : Nat} {x : Bool} (h : ¬ (c' = c ∧ k' = k)) : (gB S c k x).2.1 c' k' = S.2.1 c' k' := by
  by_cases e : c' = c
  · subst e
    exact gB_k (fun e2 => h ⟨rfl, e2⟩)
  · exact gB_c e
theorem fc_gI {P : Nat → Nat → Prop} {S : GS} {c k : Nat} {x : Int} (h : P c k) : FC P S (gI S c k x) := ⟨fun c' k' hc => ⟨gI_d (fun e => hc (by rw [e.1, e.2]; exact h)), rfl⟩, rfl⟩
theorem fc_gB {P : Nat → Nat → Prop} {S : GS} {c k : Nat} {x : Bool} (h : P c k) : FC P S (gB S c k x) := ⟨fun c' k' hc => ⟨rfl, gB_d (fun e => hc (by rw [e.1, e.2]; exact h))⟩, rfl⟩
section RF0
variable {S : GS} {d : Nat}
theorem q_at {k i : Int} : Rd (fun n => f_X12_at n d 0 S [k, i]) ((101 * k + i) * 61) S := by
  refine ev_up (fun n => e_X12_at_0) ?_
  unfold b_X12_at_0
  refine ev_gv ?_
  refine ev_gv ?_
  refine ev_gv ?_
  exact ev_ret ⟨rfl, rfl⟩
theorem q_kind {k i : Int} (a : Nat) (hd : 1 ≤ d) (ha : (101 * k + i) * 61 = (a : Int)) (hl : a < 295728) : Rd (fun n => f_X12_kind n d 0 S [k, i]) (S.1 501 a) S := by
  refine ev_up (fun n => e_X12_kind_0) ?_
  unfold b_X12_kind_0
  refine ev_gg (by first | omega | (constructor <;> omega)) ?_
  refine ev_gcr (q_at) ?_
  refine ev_gg (by first | omega | (constructor <;> omega)) ?_
  refine ev_gv ?_
  rw [ha]
  exact ev_ret ⟨rfl, rfl⟩
theorem q_part {k i w : Int} (a : Nat) (hd : 1 ≤ d) (ha : (101 * k + i) * 61 + w = (a : Int)) (hl : a < 295728) : Rd (fun n => f_X12_part n d 0 S [k, i, w]) (S.1 501 a) S := by
  refine ev_up (fun n => e_X12_part_0) ?_
  unfold b_X12_part_0
  refine ev_gg (by first | omega | (constructor <;> omega)) ?_
  refine ev_gcr (q_at) ?_
  refine ev_gv ?_
  refine ev_gg (by first | omega | (constructor <;> omega)) ?_
  refine ev_gv ?_
  rw [ha]
  exact ev_ret ⟨rfl, rfl⟩
theorem q_endOf {k i : Int} (a : Nat) (hd : 2 ≤ d) (ha : (101 * k + i) * 61 + 4 = (a : Int)) (hl : a < 295728) : Rd (fun n => f_X12_endOf n d 0 S [k, i]) (i + S.1 501 a) S := by
  refine ev_up (fun n => e_X12_endOf_0) ?_
  unfold b_X12_endOf_0
  refine ev_gg (by first | omega | (constructor <;> omega)) ?_
  refine ev_gcr (q_part (d := d - 1) a (by omega) ha hl) ?_
  refine ev_gv ?_
  exact ev_ret ⟨rfl, rfl⟩
theorem q_in {a b c : Int} (h : inr a ∧ inr b ∧ inr c) : Rd (fun n => f_X12_in n d 0 S [a, b, c]) (if b ≤ a ∧ a ≤ c then 1 else 0) S := by
  refine ev_up (fun n => e_X12_in_0) ?_
  unfold b_X12_in_0
  refine ev_gg (h.1) ?_
  refine ev_gg (h.2.1) ?_
  refine ev_ite (fun z => ?_) (fun z => ?_)
  · exact ev_ret ⟨by rw [if_neg (by omega)], rfl⟩
  refine ev_gg (h.2.2) ?_
  refine ev_ite (fun z => ?_) (fun z => ?_)
  · exact ev_ret ⟨by rw [if_neg (by omega)], rfl⟩
  · exact ev_ret ⟨by rw [if_pos (by omega)], rfl⟩
theorem q_isDoc {a : Int} {D : Nat} (hd : 1 ≤ d) (ha : inr a) (h : S.1 500 1 = (D : Int)) (hD : D ≤ 40) : Rd (fun n => f_X12_isDoc n d 0 S [a]) (if 0 ≤ a ∧ a < (D : Int) then 1 else 0) S := by
  refine ev_up (fun n => e_X12_isDoc_0) ?_
  unfold b_X12_isDoc_0
  refine ev_gv ?_
  refine ev_gv ?_
  refine ev_gg (by first | omega | (constructor <;> omega)) ?_
  rw [h]
  refine ev_gcr (q_in (d := d - 1) ⟨ha, by decide, by constructor <;> omega⟩) ?_
  by_cases c : 0 ≤ a ∧ a < (D : Int)
  · rw [if_pos (by omega), if_pos c]
    refine ev_gg (by first | omega | (constructor <;> omega)) ?_
    exact ev_ret ⟨rfl, rfl⟩
  · rw [if_neg (by omega), if_neg c]
    refine ev_gg (by first | omega | (constructor <;> omega)) ?_
    exact ev_ret ⟨rfl, rfl⟩
theorem q_fails {b : Bool} {x c : Int} (hx : x = if b = true then 1 else 0) : Ev (fun n => f_X12_fails n d 0 S [x, c]) (fun y S1 => y = (if b = true then 0 else 1) ∧ S1.1 500 0 = (if b = true then 0 else c) ∧ FC (fun c j => c = 500 ∧ j = 0) S S1) := by
  refine ev_up (fun n => e_X12_fails_0) ?_
  unfold b_X12_fails_0
  cases b with
  | true =>
    rw [if_pos rfl] at hx
    subst hx
    refine ev_gg (⟨by decide, by decide⟩) ?_
    refine ev_ite (fun z => by omega) (fun _ => ?_)
    refine ev_gv ?_
    refine ev_ite (fun _ => ?_) (fun z => by omega)
    exact ev_ret ⟨rfl, gI_a, fc_gI ⟨rfl, rfl⟩⟩
  | false =>
    rw [if_neg (by decide)] at hx
    subst hx
    refine ev_gg (⟨by decide, by decide⟩) ?_
    refine ev_ite (fun _ => ?_) (fun z => by omega)
    refine ev_gv ?_
    refine ev_ite (fun z => by omega) (fun _ => ?_)
    exact ev_ret ⟨rfl, gI_a, fc_gI ⟨rfl, rfl⟩⟩
theorem q_begin {k : Int} {K : Nat} (hk : k = (K : Int)) (hK : K < 48) : Ev (fun n => f_X12_begin n d 0 S [k]) (fun _ S1 => S1.1 502 K = 0 ∧ S1.2.1 500 5 = false ∧ FC (fun c j => (c = 502 ∧ j = K) ∨ (c = 500 ∧ j = 5)) S S1) := by
  subst hk
  refine ev_up (fun n => e_X12_begin_0) ?_
  unfold b_X12_begin_0
  refine ev_gg (by first | omega | (constructor <;> omega)) ?_
  refine ev_gv ?_
  refine ev_gv ?_
  rw [Int.toNat_natCast]
  exact ev_ret ⟨by rw [gB_i]; exact gI_a, gB_a, fc_tr (fc_gI (Or.inl ⟨rfl, rfl⟩)) (fc_gB (Or.inr ⟨rfl, rfl⟩))⟩
/-- a node comes, cell by cell -/
theorem q_added0 {k kd : Int} {K m : Nat} (hd : 1 ≤ d) (hk : k = (K : Int)) (hK : K < 48) (hm : S.1 502 K = (m : Int)) (hl : m ≤ 100) : Ev (fun n => f_X12_added n d 0 S [k, kd]) (fun x S1 => x = (m : Int) ∧ (∀ w, w < 61 → S1.1 501 (6161 * K + 61 * m + w) = if w = 0 then kd else 0) ∧ S1.1 502 K = ((if m = 100 then 100 else m + 1 : Nat) : Int) ∧ S1.2.1 500 5 = (S.2.1 500 5 || decide (m = 100)) ∧ FC (fun c j => (c = 501 ∧ 6161 * K + 61 * m ≤ j ∧ j < 6161 * K + 61 * m + 61) ∨ (c = 502 ∧ j = K) ∨ (c = 500 ∧ j = 5)) S S1) := by
  subst hk
  refine ev_up (fun n => e_X12_added_0) ?_
  unfold b_X12_added_0
  refine ev_gg (by first | omega | (constructor <;> omega)) ?_
  refine ev_gv ?_
  refine ev_gg (by first | omega | (constructor <;> omega)) ?_
  rw [Int.toNat_natCast, hm]
  refine ev_gcr (q_at) ?_
  have lp : ∀ (t w : Nat) (S1 : GS), w + t = 61 → (∀ v, v < w → S1.1 501 (6161 * K + 61 * m + v) = 0) → FC (fun c j => (c = 501 ∧ 6161 * K + 61 * m ≤ j ∧ j < 6161 * K + 61 * m + 61) ∨ (c = 502 ∧ j = K) ∨ (c = 500 ∧ j = 5)) S S1 → S1.1 502 K = (m : Int) → S1.2.1 500 5 = S.2.1 500 5 → Ev (fun n => f_X12_added n d 14 S1 [(K : Int), kd, (m : Int), ((6161 * K + 61 * m + w : Nat) : Int)]) (fun x S1 => x = (m : Int) ∧ (∀ w, w < 61 → S1.1 501 (6161 * K + 61 * m + w) = if w = 0 then kd else 0) ∧ S1.1 502 K = ((if m = 100 then 100 else m + 1 : Nat) : Int) ∧ S1.2.1 500 5 = (S.2.1 500 5 || decide (m = 100)) ∧ FC (fun c j => (c = 501 ∧ 6161 * K + 61 * m ≤ j ∧ j < 6161 * K + 61 * m + 61) ∨ (c = 502 ∧ j = K) ∨ (c = 500 ∧ j = 5)) S S1) := by
    intro t
    induction t with
    | zero =>
      intro w S1 hw h0 hf hn hb
      have : w = 61 := by omega
      subst this
      refine ev_up (fun n => e_X12_added_14) ?_
      unfold b_X12_added_14
      refine ev_gg (by first | omega | (constructor <;> omega)) ?_
      refine ev_gcr (q_at) ?_
      refine ev_gv ?_
      refine ev_gg (by first | omega | (constructor <;> omega)) ?_
      refine ev_gg (by first | omega | (constructor <;> omega)) ?_
      refine ev_ite (fun _ => ?_) (fun z => by omega)
      refine ev_gcr (q_at) ?_
      refine ev_gg (by first | omega | (constructor <;> omega)) ?_
      refine ev_gv ?_
      rw [show ((101 * (K : Int) + (m : Int)) * 61).toNat = 6161 * K + 61 * m by omega]
      have fin : ∀ (o : Bool) (s : Int), s = bi o → o = (S.2.1 500 5 || decide (m = 100)) → Ev (fun n => f_X12_added n d 71 (gI S1 501 (6161 * K + 61 * m) kd) [(K : Int), (m : Int), s]) (fun x S1 => x = (m : Int) ∧ (∀ w, w < 61 → S1.1 501 (6161 * K + 61 * m + w) = if w = 0 then kd else 0) ∧ S1.1 502 K = ((if m = 100 then 100 else m + 1 : Nat) : Int) ∧ S1.2.1 500 5 = (S.2.1 500 5 || decide (m = 100)) ∧ FC (fun c j => (c = 501 ∧ 6161 * K + 61 * m ≤ j ∧ j < 6161 * K + 61 * m + 61) ∨ (c = 502 ∧ j = K) ∨ (c = 500 ∧ j = 5)) S S1) := by
        intro o s hs ho
        subst hs
        have bo1 : (decide (bi o = 1)) = o := by cases o <;> rfl
        refine ev_up (fun n => e_X12_added_71) ?_
        unfold b_X12_added_71
        refine ev_gg (by cases o <;> simp [bi]) ?_
        refine ev_gv ?_
        refine ev_gg (by first | omega | (constructor <;> omega)) ?_
        refine ev_gv ?_
        refine ev_gg (by first | omega | (constructor <;> omega)) ?_
        rw [bo1, Int.toNat_natCast, gB_i, gI_c (show (502 : Nat) ≠ 501 by decide), hn]
        refine ev_ite (fun z => ?_) (fun z => ?_)
        · refine ev_gv ?_
          refine ev_gv ?_
          refine ev_ret ⟨rfl, fun w hw => ?_, ?_, ?_, ?_⟩
          · rw [gI_c (by decide), gB_i]
            by_cases e : w = 0
            · subst e
              rw [if_pos rfl, Nat.add_zero]
              exact gI_a
            · rw [if_neg e, gI_k (by omega)]
              exact h0 w hw
          · rw [gI_a, if_neg (by omega)]
            omega
          · rw [gI_b, gB_a, ho]
          · exact fc_tr hf (fc_tr (fc_gI (Or.inl ⟨rfl, by omega, by omega⟩)) (fc_tr (fc_gB (Or.inr (Or.inr ⟨rfl, rfl⟩))) (fc_gI (Or.inr (Or.inl ⟨rfl, rfl⟩)))))
        · refine ev_gv ?_
          refine ev_gv ?_
          refine ev_ret ⟨rfl, fun w hw => ?_, ?_, ?_, ?_⟩
          · rw [gI_c (by decide), gB_i]
            by_cases e : w = 0
            · subst e
              rw [if_pos rfl, Nat.add_zero]
              exact gI_a
            · rw [if_neg e, gI_k (by omega)]
              exact h0 w hw
          · rw [gI_a, if_pos (by omega)]
            omega
          · rw [gI_b, gB_a, ho]
          · exact fc_tr hf (fc_tr (fc_gI (Or.inl ⟨rfl, by omega, by omega⟩)) (fc_tr (fc_gB (Or.inr (Or.inr ⟨rfl, rfl⟩))) (fc_gI (Or.inr (Or.inl ⟨rfl, rfl⟩)))))
      have eb : (gI S1 501 (6161 * K + 61 * m) kd).2.1 500 5 = S.2.1 500 5 := hb
      rw [eb]
      refine ev_gv ?_
      have bt : bi true = 1 := rfl
      have bf : bi false = 0 := rfl
      by_cases e5 : S.2.1 500 5 = true
      · rw [show bi (S.2.1 500 5) = 1 by rw [e5]; rfl]
        refine ev_gg (by decide) ?_
        refine ev_ite (fun _ => ?_) (fun z => by omega)
        exact fin true 1 rfl (by rw [e5]; rfl)
      · have e5 : S.2.1 500 5 = false := by cases h : S.2.1 500 5 with
          | true => exact absurd h e5
          | false => rfl
        rw [show bi (S.2.1 500 5) = 0 by rw [e5]; rfl]
        refine ev_gg (by decide) ?_
        refine ev_ite (fun z => by omega) (fun _ => ?_)
        refine ev_gg (by first | omega | (constructor <;> omega)) ?_
        refine ev_ite (fun z => ?_) (fun z => ?_)
        · exact fin false 0 rfl (by rw [e5, decide_eq_false (by omega)]; rfl)
        · exact fin true 1 rfl (by rw [e5, decide_eq_true (by omega)]; rfl)
    | succ t ih =>
      intro w S1 hw h0 hf hn hb
      refine ev_up (fun n => e_X12_added_14) ?_
      unfold b_X12_added_14
      refine ev_gg (by first | omega | (constructor <;> omega)) ?_
      refine ev_gcr (q_at) ?_
      refine ev_gv ?_
      refine ev_gg (by first | omega | (constructor <;> omega)) ?_
      refine ev_gg (by first | omega | (constructor <;> omega)) ?_
      refine ev_ite (fun z => by omega) (fun _ => ?_)
      refine ev_gg (by first | omega | (constructor <;> omega)) ?_
      refine ev_gv ?_
      refine ev_gv ?_
      rw [Int.toNat_natCast]
      rw [show ((6161 * K + 61 * m + w : Nat) : Int) + 1 = ((6161 * K + 61 * m + (w + 1) : Nat) : Int) by omega]
      refine ih (w + 1) _ (by omega) (fun v hv => ?_) (fc_tr hf (fc_gI (Or.inl ⟨rfl, by omega, by omega⟩))) (by rw [gI_c (by decide)]; exact hn) hb
      by_cases e : v = w
      · subst e
        exact gI_a
      · rw [gI_k (by omega)]
        exact h0 v (by omega)
  have := lp 61 0 S rfl (fun v hv => absurd hv (Nat.not_lt_zero v)) fc_rf hm rfl
  rw [show ((101 * (K : Int) + (m : Int)) * 61) = ((6161 * K + 61 * m + 0 : Nat) : Int) by omega]
  exact this
/-- a node like one of another document comes, cell by cell -/
theorem q_like0 {k f i : Int} {K F I m : Nat} (hd : 2 ≤ d) (hk : k = (K : Int)) (hK : K < 48) (hf : f = (F : Int)) (hF : F < 48) (hi : i = (I : Int)) (hI : I ≤ 100) (hne : F ≠ K ∨ I ≠ m) (hm : S.1 502 K = (m : Int)) (hl : m ≤ 100) : Ev (fun n => f_X12_like n d 0 S [k, f, i]) (fun x S1 => x = (m : Int) ∧ (∀ w, w < 61 → S1.1 501 (6161 * K + 61 * m + w) = if w = 3 then 0 else S.1 501 (6161 * F + 61 * I + w)) ∧ S1.1 502 K = ((if m = 100 then 100 else m + 1 : Nat) : Int) ∧ S1.2.1 500 5 = (S.2.1 500 5 || decide (m = 100)) ∧ FC (fun c j => (c = 501 ∧ 6161 * K + 61 * m ≤ j ∧ j < 6161 * K + 61 * m + 61) ∨ (c = 502 ∧ j = K) ∨ (c = 500 ∧ j = 5)) S S1) := by
  subst hk hf hi
  refine ev_up (fun n => e_X12_like_0) ?_
  unfold b_X12_like_0
  refine ev_gg (by first | omega | (constructor <;> omega)) ?_
  refine ev_gc (q_added0 (d := d - 1) (k := (K : Int)) (kd := 0) (by omega) rfl hK hm hl) (fun x S1 q1 => ?_)
  obtain ⟨rfl, -, q2, q3, q4⟩ := q1
  have lp : ∀ (t w : Nat) (S2 : GS), w + t = 61 → (∀ v, v < w → S2.1 501 (6161 * K + 61 * m + v) = S.1 501 (6161 * F + 61 * I + v)) → FC (fun c j => c = 501 ∧ 6161 * K + 61 * m ≤ j ∧ j < 6161 * K + 61 * m + 61) S1 S2 → Ev (fun n => f_X12_like n d 11 S2 [(K : Int), (F : Int), (I : Int), (m : Int), (w : Int)]) (fun x S3 => x = (m : Int) ∧ (∀ w, w < 61 → S3.1 501 (6161 * K + 61 * m + w) = if w = 3 then 0 else S.1 501 (6161 * F + 61 * I + w)) ∧ FC (fun c j => c = 501 ∧ 6161 * K + 61 * m ≤ j ∧ j < 6161 * K + 61 * m + 61) S1 S3) := by
    intro t
    induction t with
    | zero =>
      intro w S2 hw h0 hf
      have : w = 61 := by omega
      subst this
      refine ev_up (fun n => e_X12_like_11) ?_
      unfold b_X12_like_11
      refine ev_gg (⟨by decide, by decide⟩) ?_
      refine ev_ite (fun _ => ?_) (fun z => by omega)
      refine ev_gg (by first | omega | (constructor <;> omega)) ?_
      refine ev_gcr (q_at) ?_
      refine ev_gv ?_
      refine ev_gg (by first | omega | (constructor <;> omega)) ?_
      refine ev_gv ?_
      rw [show ((101 * (K : Int) + (m : Int)) * 61 + 3).toNat = 6161 * K + 61 * m + 3 by omega]
      refine ev_ret ⟨rfl, fun w hw => ?_, fc_tr hf (fc_gI ⟨rfl, by omega, by omega⟩)⟩
      by_cases e : w = 3
      · subst e
        rw [if_pos rfl]
        exact gI_a
      · rw [if_neg e, gI_k (by omega)]
        exact h0 w hw
    | succ t ih =>
      intro w S2 hw h0 hf
      refine ev_up (fun n => e_X12_like_11) ?_
      unfold b_X12_like_11
      refine ev_gg (by constructor <;> omega) ?_
      refine ev_ite (fun z => by omega) (fun _ => ?_)
      refine ev_gg (by first | omega | (constructor <;> omega)) ?_
      refine ev_gcr (q_at) ?_
      refine ev_gv ?_
      refine ev_gcr (q_at) ?_
      refine ev_gv ?_
      refine ev_gg (by first | omega | (constructor <;> omega)) ?_
      refine ev_gv ?_
      refine ev_gg (by first | omega | (constructor <;> omega)) ?_
      refine ev_gv ?_
      refine ev_gv ?_
      rw [show ((101 * (K : Int) + (m : Int)) * 61 + (w : Int)).toNat = 6161 * K + 61 * m + w by omega, show ((101 * (F : Int) + (I : Int)) * 61 + (w : Int)).toNat = 6161 * F + 61 * I + w by omega, show (w : Int) + 1 = ((w + 1 : Nat) : Int) by omega]
      refine ih (w + 1) _ (by omega) (fun v hv => ?_) (fc_tr hf (fc_gI ⟨rfl, by omega, by omega⟩))
      by_cases e : v = w
      · subst e
        rw [gI_a, fc_i hf (by omega), fc_i q4 (by omega)]
      · rw [gI_k (by omega)]
        exact h0 v (by omega)
  refine ev_mono (lp 61 0 S1 rfl (fun v hv => absurd hv (Nat.not_lt_zero v)) fc_rf) (fun x S3 q => ⟨q.1, q.2.1, ?_, ?_, fc_tr q4 (fc_mono q.2.2 (fun c j z => Or.inl z))⟩)
  · rw [fc_i q.2.2 (by omega)]
    exact q2
  · rw [fc_b q.2.2 (by omega)]
    exact q3
theorem q_noKey {k i : Int} (a : Nat) (hd : 1 ≤ d) (ha : (101 * k + i) * 61 + 5 = (a : Int)) (hl : a < 295728) : Ev (fun n => f_X12_noKey n d 0 S [k, i]) (fun _ S1 => S1 = gI S 501 a 0) := by
  refine ev_up (fun n => e_X12_noKey_0) ?_
  unfold b_X12_noKey_0
  refine ev_gg (by first | omega | (constructor <;> omega)) ?_
  refine ev_gcr (q_at) ?_
  refine ev_gv ?_
  refine ev_gg (by first | omega | (constructor <;> omega)) ?_
  refine ev_gv ?_
  rw [ha, Int.toNat_natCast]
  exact ev_ret rfl
end RF0
