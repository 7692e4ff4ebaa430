/-! TREES: NUMBERS, what a node is about, the least KEY -/
section NUM
variable {S : GS} {c d : Nat} {V : List ND}
theorem isI_e (V : List ND) (i k : Int) : isI V i k = if (0 ≤ i ∧ i < (V.length : Int)) ∧ nk V i.toNat = k then 1 else 0 := rfl
theorem atD_t (hv : TV S c V) (i j : Int) : -1 ≤ atD (tI V i) j ∧ atD (tI V i) j < 256 := by
  unfold atD
  split
  · have := tI_at hv (i := i) (j := j.toNat) (by omega)
    omega
  · omega
theorem t_signOf {i : Int} (hc : gT c) (hv : TV S c V) (hd : 1 ≤ d) (hi : inr i) : Rd (fun n => f_X10_signOf n d 0 S [((c : Nat) : Int), i]) (sgI V i) S := by
  have h := atD_t hv i 0
  unfold sgI
  refine ev_up (fun n => e_X10_signOf_0) ?_
  unfold b_X10_signOf_0
  repeat' (first
    | with_reducible refine ev_gv ?_
    | with_reducible refine ev_gg ?_ ?_
    | with_reducible refine ev_ite (fun _ => ?_) (fun _ => ?_)
    | refine ev_gcr (t_signAt hc hv hi (by decide)) ?_
    | omega
    | assumption)
  · rw [if_neg (by omega), if_neg (by omega)]
    exact ev_ret ⟨rfl, rfl⟩
  · rw [if_neg (by omega), if_pos (by omega)]
    exact ev_ret ⟨rfl, rfl⟩
  · rw [if_pos (by omega)]
    exact ev_ret ⟨rfl, rfl⟩
theorem sgI_r (V : List ND) (i : Int) : sgI V i = -1 ∨ sgI V i = 0 ∨ sgI V i = 1 := by
  unfold sgI
  split
  · omega
  · split <;> omega
theorem ord3_r (a b : Int) : ord3 a b = -1 ∨ ord3 a b = 0 ∨ ord3 a b = 1 := by
  unfold ord3
  omega
theorem t_order {a b : Int} (h : inr (a - b)) : Rd (fun n => f_X10_order n d 0 S [a, b]) (ord3 a b) S := by
  refine ev_up (fun n => e_X10_order_0) ?_
  unfold b_X10_order_0
  repeat' (first
    | with_reducible refine ev_gv ?_
    | with_reducible refine ev_gg ?_ ?_
    | with_reducible refine ev_ite (fun _ => ?_) (fun _ => ?_)
    | omega
    | assumption)
  exact ev_ret ⟨rfl, rfl⟩
theorem fgI_r (hv : TV S c V) (i : Int) : -1 ≤ fgI V i ∧ fgI V i ≤ 40 := by
  have := (tI_r hv i).1
  unfold fgI
  split
  · split <;> omega
  · omega
theorem pwI_r (hv : TV S c V) (i : Int) : -200 ≤ pwI V i ∧ pwI V i ≤ 200 := by
  unfold pwI
  split
  · rename_i h
    have := tv_r hv (i := i.toNat) (by omega)
    exact ⟨this.2.2.2.2.1, this.2.2.2.2.2.1⟩
  · omega
theorem dgI_r (hv : TV S c V) (i p : Int) : -1 ≤ dgI V i p ∧ dgI V i p < 256 := by
  unfold dgI
  by_cases h : 0 ≤ p + (if atD (tI V i) 0 = 45 then 1 else 0) ∧ p + (if atD (tI V i) 0 = 45 then 1 else 0) < ((tI V i).length : Int)
  · rw [if_pos h]
    exact atD_t hv i _
  · rw [if_neg h]
    omega
theorem t_power {i : Int} (hc : gT c) (hv : TV S c V) (hd : 1 ≤ d) (hi : inr i) : Rd (fun n => f_X10_power n d 0 S [((c : Nat) : Int), i]) (pwI V i) S := by
  have h2 := tv_l hv
  unfold pwI
  by_cases h : nmI V i
  · obtain ⟨k1, k2, k3, k4, k5, k6, k7, k8, k9, k10, k11, k12, k13⟩ := tv_all hv h.1.1 h.1.2
    rw [if_pos h, ← k3]
    refine ev_up (fun n => e_X10_power_0) ?_
    unfold b_X10_power_0
    repeat' (first
      | with_reducible refine ev_gv ?_
      | with_reducible refine ev_gg ?_ ?_
      | with_reducible refine ev_ite (fun _ => ?_) (fun _ => ?_)
      | refine ev_gcr (rd_as (t_is hc hv hi (by decide)) (if_pos h)) ?_
      | omega
      | assumption)
    exact ev_ret ⟨rfl, rfl⟩
  · rw [if_neg h]
    refine ev_up (fun n => e_X10_power_0) ?_
    unfold b_X10_power_0
    repeat' (first
      | with_reducible refine ev_gv ?_
      | with_reducible refine ev_gg ?_ ?_
      | with_reducible refine ev_ite (fun _ => ?_) (fun _ => ?_)
      | refine ev_gcr (rd_as (t_is hc hv hi (by decide)) (if_neg h)) ?_
      | omega
      | assumption)
    exact ev_ret ⟨rfl, rfl⟩
theorem t_figures {i : Int} (hc : gT c) (hv : TV S c V) (hd : 1 ≤ d) (hi : inr i) : Rd (fun n => f_X10_figures n d 0 S [((c : Nat) : Int), i]) (fgI V i) S := by
  have h2 := tv_l hv
  have h3 := atD_t hv i 0
  unfold fgI
  by_cases h : nmI V i
  · obtain ⟨k1, k2, k3, k4, k5, k6, k7, k8, k9, k10, k11, k12, k13⟩ := tv_all hv h.1.1 h.1.2
    rw [if_pos h, show ((tI V i).length : Int) = S.1 (c + 4) i.toNat by rw [k4, tI_p h.1]]
    refine ev_up (fun n => e_X10_figures_0) ?_
    unfold b_X10_figures_0
    repeat' (first
      | with_reducible refine ev_gv ?_
      | with_reducible refine ev_gg ?_ ?_
      | with_reducible refine ev_ite (fun _ => ?_) (fun _ => ?_)
      | refine ev_gcr (rd_as (t_is hc hv hi (by decide)) (if_pos h)) ?_
      | refine ev_gcr (t_signAt hc hv hi (by decide)) ?_
      | omega
      | assumption)
    · rw [if_neg (by omega)]
      exact ev_ret ⟨rfl, rfl⟩
    · rw [if_pos (by omega)]
      exact ev_ret ⟨rfl, rfl⟩
  · rw [if_neg h]
    refine ev_up (fun n => e_X10_figures_0) ?_
    unfold b_X10_figures_0
    repeat' (first
      | with_reducible refine ev_gv ?_
      | with_reducible refine ev_gg ?_ ?_
      | with_reducible refine ev_ite (fun _ => ?_) (fun _ => ?_)
      | refine ev_gcr (rd_as (t_is hc hv hi (by decide)) (if_neg h)) ?_
      | omega
      | assumption)
    exact ev_ret ⟨rfl, rfl⟩
theorem t_digit {i p : Int} (hc : gT c) (hv : TV S c V) (hd : 1 ≤ d) (hi : inr i) (hp : -100 < p ∧ p < 100) : Rd (fun n => f_X10_digit n d 0 S [((c : Nat) : Int), i, p]) (dgI V i p) S := by
  have h3 := atD_t hv i 0
  have h4 := (tI_r hv i).1
  have key : ∀ s : Int, s = (if atD (tI V i) 0 = 45 then 1 else 0) → Rd (fun n => f_X10_digit n d 17 S [((c : Nat) : Int), i, s, p]) (dgI V i p) S := by
    intro s hs
    have hs2 : s = 0 ∨ s = 1 := by
      split at hs <;> omega
    unfold dgI
    rw [← hs]
    refine ev_up (fun n => e_X10_digit_17) ?_
    unfold b_X10_digit_17
    repeat' (first
      | with_reducible refine ev_gv ?_
      | with_reducible refine ev_gg ?_ ?_
      | with_reducible refine ev_ite (fun _ => ?_) (fun _ => ?_)
      | refine ev_gcr (t_textLength hc hv hi) ?_
      | refine ev_gcr (t_signAt hc hv hi (by constructor <;> omega)) ?_
      | omega
      | assumption)
    · rw [if_neg (by omega)]
      exact ev_ret ⟨rfl, rfl⟩
    · rw [if_neg (by omega)]
      exact ev_ret ⟨rfl, rfl⟩
    · rw [if_pos (by omega)]
      exact ev_ret ⟨rfl, rfl⟩
  refine ev_up (fun n => e_X10_digit_0) ?_
  unfold b_X10_digit_0
  repeat' (first
    | with_reducible refine ev_gv ?_
    | with_reducible refine ev_gg ?_ ?_
    | with_reducible refine ev_ite (fun _ => ?_) (fun _ => ?_)
    | refine ev_gcr (t_signAt hc hv hi (by decide)) ?_
    | omega
    | assumption)
  · exact key 0 (if_neg (by omega)).symm
  · exact key 1 (if_pos (by omega)).symm
theorem oD_r {V U : List ND} {i j : Int} : ∀ f p s, (s = -1 ∨ s = 0 ∨ s = 1) → (oD V i U j f p s = -1 ∨ oD V i U j f p s = 0 ∨ oD V i U j f p s = 1)
  | 0, _, s, h => h
  | f + 1, p, s, h => by
    unfold oD
    split
    · exact h
    · exact oD_r f _ _ (ord3_r _ _)
theorem order_63 {c2 : Nat} {U : List ND} {i j a : Int} (hc : gT c) (hc2 : gT c2) (hv : TV S c V) (hv2 : TV S c2 U) (hd : 2 ≤ d) (hi : inr i) (hj : inr j) (ha : a = -1 ∨ a = 1) : ∀ (f p : Nat) (s : Int), f + p = 24 → (s = -1 ∨ s = 0 ∨ s = 1) → Rd (fun n => f_X10_orderOfNumbers n d 63 S [((c : Nat) : Int), i, ((c2 : Nat) : Int), j, a, s, (p : Int)]) (a * oD V i U j f p s) S := by
  intro f
  induction f with
  | zero =>
    intro p s hp hs
    refine ev_up (fun n => e_X10_orderOfNumbers_63) ?_
    unfold b_X10_orderOfNumbers_63
    repeat' (first
      | with_reducible refine ev_gv ?_
      | with_reducible refine ev_gg ?_ ?_
      | with_reducible refine ev_ite (fun _ => ?_) (fun _ => ?_)
      | omega
      | assumption)
    exact ev_ret ⟨rfl, rfl⟩
  | succ f ih =>
    intro p s hp hs
    have r1 := dgI_r hv i (p : Int)
    have r2 := dgI_r hv2 j (p : Int)
    unfold oD
    refine ev_up (fun n => e_X10_orderOfNumbers_63) ?_
    unfold b_X10_orderOfNumbers_63
    repeat' (first
      | with_reducible refine ev_gv ?_
      | with_reducible refine ev_gg ?_ ?_
      | with_reducible refine ev_ite (fun _ => ?_) (fun _ => ?_)
      | refine ev_gcr (t_digit hc hv (by omega) hi (by omega)) ?_
      | refine ev_gcr (t_digit hc2 hv2 (by omega) hj (by omega)) ?_
      | refine ev_gcr (t_order (by constructor <;> omega)) ?_
      | omega
      | assumption)
    · rw [if_pos (by omega)]
      exact ev_ret ⟨rfl, rfl⟩
    · rw [if_neg (by omega)]
      exact ih (p + 1) _ (by omega) (ord3_r _ _)
theorem t_orderOfNumbers {c2 : Nat} {U : List ND} {i j : Int} (hc : gT c) (hc2 : gT c2) (hv : TV S c V) (hv2 : TV S c2 U) (hd : 3 ≤ d) (hi : inr i) (hj : inr j) : Rd (fun n => f_X10_orderOfNumbers n d 0 S [((c : Nat) : Int), i, ((c2 : Nat) : Int), j]) (onI V i U j) S := by
  have r1 := sgI_r V i
  have r2 := sgI_r U j
  have r3 := fgI_r hv i
  have r4 := fgI_r hv2 j
  have r5 := pwI_r hv i
  have r6 := pwI_r hv2 j
  unfold onI
  refine ev_up (fun n => e_X10_orderOfNumbers_0) ?_
  unfold b_X10_orderOfNumbers_0
  repeat' (first
    | with_reducible refine ev_gv ?_
    | with_reducible refine ev_gg ?_ ?_
    | with_reducible refine ev_ite (fun _ => ?_) (fun _ => ?_)
    | refine ev_gcr (t_signOf hc hv (by omega) hi) ?_
    | refine ev_gcr (t_signOf hc2 hv2 (by omega) hj) ?_
    | refine ev_gcr (t_figures hc hv (by omega) hi) ?_
    | refine ev_gcr (t_figures hc2 hv2 (by omega) hj) ?_
    | refine ev_gcr (t_power hc hv (by omega) hi) ?_
    | refine ev_gcr (t_power hc2 hv2 (by omega) hj) ?_
    | refine ev_gcr (t_order (by constructor <;> omega)) ?_
    | omega
    | assumption)
  · rw [if_pos (by omega)]
    exact ev_ret ⟨rfl, rfl⟩
  · rw [if_neg (by omega)]
    exact order_63 hc hc2 hv hv2 (by omega) hi hj (by omega) 24 0 _ rfl (ord3_r _ _)
  · rw [if_pos (by omega)]
    exact ev_ret ⟨rfl, rfl⟩
theorem t_isTrue {i : Int} (hc : gT c) (hv : TV S c V) (hd : 1 ≤ d) (hi : inr i) : Rd (fun n => f_X10_isTrue n d 0 S [((c : Nat) : Int), i]) (if ((0 ≤ i ∧ i < (V.length : Int)) ∧ nk V i.toNat = 1) ∧ np V i.toNat = 1 then 1 else 0) S := by
  have h2 := tv_l hv
  by_cases h : (0 ≤ i ∧ i < (V.length : Int)) ∧ nk V i.toNat = 1
  · obtain ⟨k1, k2, k3, k4, k5, k6, k7, k8, k9, k10, k11, k12, k13⟩ := tv_all hv h.1.1 h.1.2
    rw [← k3]
    refine ev_up (fun n => e_X10_isTrue_0) ?_
    unfold b_X10_isTrue_0
    repeat' (first
      | with_reducible refine ev_gv ?_
      | with_reducible refine ev_gg ?_ ?_
      | with_reducible refine ev_ite (fun _ => ?_) (fun _ => ?_)
      | refine ev_gcr (rd_as (t_is hc hv hi (by decide)) (if_pos h)) ?_
      | omega
      | assumption)
    · rw [if_neg (fun q => by omega)]
      exact ev_ret ⟨rfl, rfl⟩
    · rw [if_pos ⟨h, by omega⟩]
      exact ev_ret ⟨rfl, rfl⟩
  · rw [if_neg (fun q => h q.1)]
    refine ev_up (fun n => e_X10_isTrue_0) ?_
    unfold b_X10_isTrue_0
    repeat' (first
      | with_reducible refine ev_gv ?_
      | with_reducible refine ev_gg ?_ ?_
      | with_reducible refine ev_ite (fun _ => ?_) (fun _ => ?_)
      | refine ev_gcr (rd_as (t_is hc hv hi (by decide)) (if_neg h)) ?_
      | omega
      | assumption)
    exact ev_ret ⟨rfl, rfl⟩
theorem t_length {i : Int} (hc : gT c) (hv : TV S c V) (hw : WF V) (hd : 3 ≤ d) (hi : inr i) : Rd (fun n => f_X10_length n d 0 S [((c : Nat) : Int), i]) (lnI V i) S := by
  have h2 := tv_l hv
  unfold lnI
  by_cases h : 0 ≤ i ∧ i < (V.length : Int)
  · obtain ⟨k1, k2, k3, k4, k5, k6, k7, k8, k9, k10, k11, k12, k13⟩ := tv_all hv h.1 h.2
    rw [if_pos h]
    by_cases e : nk V i.toNat = 3
    · rw [if_pos e, ← k4]
      refine ev_up (fun n => e_X10_length_0) ?_
      unfold b_X10_length_0
      repeat' (first
        | with_reducible refine ev_gv ?_
        | with_reducible refine ev_gg ?_ ?_
        | with_reducible refine ev_ite (fun _ => ?_) (fun _ => ?_)
        | refine ev_gcr (rd_as (t_is hc hv hi (by decide)) (if_pos ⟨h, e⟩)) ?_
        | omega
        | assumption)
      exact ev_ret ⟨rfl, rfl⟩
    · rw [if_neg e]
      by_cases e4 : 4 ≤ nk V i.toNat
      · obtain ⟨j, rfl⟩ : ∃ j : Nat, i = (j : Int) := ⟨i.toNat, by omega⟩
        rw [if_pos e4, Int.toNat_natCast]
        refine ev_up (fun n => e_X10_length_0) ?_
        unfold b_X10_length_0
        repeat' (first
          | with_reducible refine ev_gv ?_
          | with_reducible refine ev_gg ?_ ?_
          | with_reducible refine ev_ite (fun _ => ?_) (fun _ => ?_)
          | refine ev_gcr (rd_as (t_is hc hv hi (by decide)) (if_neg (fun q => e q.2))) ?_
          | refine ev_gcr (rd_as (t_isGroup hc hv hi) (if_pos ⟨h, e4⟩)) ?_
          | refine ev_gcr (t_values hc hv hw (by omega) (by omega)) ?_
          | omega
          | assumption)
        exact ev_ret ⟨rfl, rfl⟩
      · rw [if_neg e4]
        refine ev_up (fun n => e_X10_length_0) ?_
        unfold b_X10_length_0
        repeat' (first
          | with_reducible refine ev_gv ?_
          | with_reducible refine ev_gg ?_ ?_
          | with_reducible refine ev_ite (fun _ => ?_) (fun _ => ?_)
          | refine ev_gcr (rd_as (t_is hc hv hi (by decide)) (if_neg (fun q => e q.2))) ?_
          | refine ev_gcr (rd_as (t_isGroup hc hv hi) (if_neg (fun q => e4 q.2))) ?_
          | omega
          | assumption)
        exact ev_ret ⟨rfl, rfl⟩
  · rw [if_neg h]
    refine ev_up (fun n => e_X10_length_0) ?_
    unfold b_X10_length_0
    repeat' (first
      | with_reducible refine ev_gv ?_
      | with_reducible refine ev_gg ?_ ?_
      | with_reducible refine ev_ite (fun _ => ?_) (fun _ => ?_)
      | refine ev_gcr (rd_as (t_is hc hv hi (by decide)) (if_neg (fun q => h q.1))) ?_
      | refine ev_gcr (rd_as (t_isGroup hc hv hi) (if_neg (fun q => h q.1))) ?_
      | omega
      | assumption)
    exact ev_ret ⟨rfl, rfl⟩
/-- what node() answers -/
def abI (V : List ND) (i : Nat) (w : Int) : Int := if w = 0 then nk V i else if w = 1 then dpF 13 V i else if w = 2 then (nz V i : Int) else if w = 3 then lnI V (i : Int) else if w = 4 then (if nk V i = 1 then np V i else -1) else if w = 5 then pwI V (i : Int) else if w = 6 then fgI V (i : Int) else if w = 7 then (if nk V i = 2 then sgI V (i : Int) else -1) else if w = 8 then owI V i else if 0 ≤ owI V i then plK i (kids V (owI V i).toNat) 0 else -1
theorem t_about {i : Nat} {w : Int} (hc : gT c) (hv : TV S c V) (hw : WF V) (hd : 20 ≤ d) (hi : i < V.length) (hq : inr w) : Rd (fun n => f_X10_about n d 0 S [((c : Nat) : Int), (i : Int), w]) (abI V i w) S := by
  have h2 := tv_l hv
  have hin : inr (i : Int) := by constructor <;> omega
  obtain ⟨k1, k2, k3, k4, k5, k6, k7, k8, k9, k10, k11, k12, k13⟩ := tv_all hv (i := (i : Int)) (by omega) (by omega)
  simp only [Int.toNat_natCast] at k3
  have e0 : kdI V (i : Int) = nk V i := by unfold kdI; rw [if_pos (by omega), Int.toNat_natCast]
  have e2 : szI V (i : Int) = (nz V i : Int) := by unfold szI; rw [if_pos (by omega), Int.toNat_natCast]
  have e1 : isI V (i : Int) 1 = if nk V i = 1 then 1 else 0 := by
    rw [isI_e, Int.toNat_natCast]
    by_cases h : nk V i = 1
    · rw [if_pos ⟨by omega, h⟩, if_pos h]
    · rw [if_neg (fun q => h q.2), if_neg h]
  have e7 : isI V (i : Int) 2 = if nk V i = 2 then 1 else 0 := by
    rw [isI_e, Int.toNat_natCast]
    by_cases h : nk V i = 2
    · rw [if_pos ⟨by omega, h⟩, if_pos h]
    · rw [if_neg (fun q => h q.2), if_neg h]
  unfold abI
  have kd := t_depth hc hv hw 13 i (d - 1) (Nat.le_refl _) hi (by omega)
  rw [show (13 : Int) - ((13 : Nat) : Int) = 0 by decide] at kd
  refine ev_up (fun n => e_X10_about_0) ?_
  unfold b_X10_about_0
  refine ev_gg hq ?_
  refine ev_ite (fun h0 => ?_) (fun h0 => ?_)
  · rw [if_pos h0]
    repeat' (first
      | with_reducible refine ev_gv ?_
      | with_reducible refine ev_gg ?_ ?_
      | with_reducible refine ev_ite (fun _ => ?_) (fun _ => ?_)
      | refine ev_gcr (rd_as (t_kind hc hv hin) e0) ?_
      | omega
      | assumption)
    exact ev_ret ⟨rfl, rfl⟩
  rw [if_neg h0]
  refine ev_ite (fun h0 => ?_) (fun h0 => ?_)
  · rw [if_pos h0]
    repeat' (first
      | with_reducible refine ev_gv ?_
      | with_reducible refine ev_gg ?_ ?_
      | with_reducible refine ev_ite (fun _ => ?_) (fun _ => ?_)
      | refine ev_gcr (kd) ?_
      | omega
      | assumption)
    exact ev_ret ⟨rfl, rfl⟩
  rw [if_neg h0]
  refine ev_ite (fun h0 => ?_) (fun h0 => ?_)
  · rw [if_pos h0]
    repeat' (first
      | with_reducible refine ev_gv ?_
      | with_reducible refine ev_gg ?_ ?_
      | with_reducible refine ev_ite (fun _ => ?_) (fun _ => ?_)
      | refine ev_gcr (rd_as (t_size hc hv hin) e2) ?_
      | omega
      | assumption)
    exact ev_ret ⟨rfl, rfl⟩
  rw [if_neg h0]
  refine ev_ite (fun h0 => ?_) (fun h0 => ?_)
  · rw [if_pos h0]
    repeat' (first
      | with_reducible refine ev_gv ?_
      | with_reducible refine ev_gg ?_ ?_
      | with_reducible refine ev_ite (fun _ => ?_) (fun _ => ?_)
      | refine ev_gcr (t_length hc hv hw (by omega) hin) ?_
      | omega
      | assumption)
    exact ev_ret ⟨rfl, rfl⟩
  rw [if_neg h0]
  refine ev_ite (fun h0 => ?_) (fun h0 => ?_)
  · rw [if_pos h0]
    by_cases h : nk V i = 1
    · rw [if_pos h] at e1 ⊢
      rw [← k3]
      repeat' (first
        | with_reducible refine ev_gv ?_
        | with_reducible refine ev_gg ?_ ?_
        | with_reducible refine ev_ite (fun _ => ?_) (fun _ => ?_)
        | refine ev_gcr (rd_as (t_is hc hv hin (by decide)) e1) ?_
        | omega
        | assumption)
      exact ev_ret ⟨rfl, rfl⟩
    · rw [if_neg h] at e1 ⊢
      repeat' (first
        | with_reducible refine ev_gv ?_
        | with_reducible refine ev_gg ?_ ?_
        | with_reducible refine ev_ite (fun _ => ?_) (fun _ => ?_)
        | refine ev_gcr (rd_as (t_is hc hv hin (by decide)) e1) ?_
        | omega
        | assumption)
      exact ev_ret ⟨rfl, rfl⟩
  rw [if_neg h0]
  refine ev_ite (fun h0 => ?_) (fun h0 => ?_)
  · rw [if_pos h0]
    repeat' (first
      | with_reducible refine ev_gv ?_
      | with_reducible refine ev_gg ?_ ?_
      | with_reducible refine ev_ite (fun _ => ?_) (fun _ => ?_)
      | refine ev_gcr (t_power hc hv (by omega) hin) ?_
      | omega
      | assumption)
    exact ev_ret ⟨rfl, rfl⟩
  rw [if_neg h0]
  refine ev_ite (fun h0 => ?_) (fun h0 => ?_)
  · rw [if_pos h0]
    repeat' (first
      | with_reducible refine ev_gv ?_
      | with_reducible refine ev_gg ?_ ?_
      | with_reducible refine ev_ite (fun _ => ?_) (fun _ => ?_)
      | refine ev_gcr (t_figures hc hv (by omega) hin) ?_
      | omega
      | assumption)
    exact ev_ret ⟨rfl, rfl⟩
  rw [if_neg h0]
  refine ev_ite (fun h0 => ?_) (fun h0 => ?_)
  · rw [if_pos h0]
    by_cases h : nk V i = 2
    · rw [if_pos h] at e7 ⊢
      repeat' (first
        | with_reducible refine ev_gv ?_
        | with_reducible refine ev_gg ?_ ?_
        | with_reducible refine ev_ite (fun _ => ?_) (fun _ => ?_)
        | refine ev_gcr (rd_as (t_is hc hv hin (by decide)) e7) ?_
        | refine ev_gcr (t_signOf hc hv (by omega) hin) ?_
        | omega
        | assumption)
      exact ev_ret ⟨rfl, rfl⟩
    · rw [if_neg h] at e7 ⊢
      repeat' (first
        | with_reducible refine ev_gv ?_
        | with_reducible refine ev_gg ?_ ?_
        | with_reducible refine ev_ite (fun _ => ?_) (fun _ => ?_)
        | refine ev_gcr (rd_as (t_is hc hv hin (by decide)) e7) ?_
        | omega
        | assumption)
      exact ev_ret ⟨rfl, rfl⟩
  rw [if_neg h0]
  refine ev_ite (fun h0 => ?_) (fun h0 => ?_)
  · rw [if_pos h0]
    repeat' (first
      | with_reducible refine ev_gv ?_
      | with_reducible refine ev_gg ?_ ?_
      | with_reducible refine ev_ite (fun _ => ?_) (fun _ => ?_)
      | refine ev_gcr (t_ownerOf hc hv (by omega) hi) ?_
      | omega
      | assumption)
    exact ev_ret ⟨rfl, rfl⟩
  rw [if_neg h0]
  repeat' (first
    | with_reducible refine ev_gv ?_
    | with_reducible refine ev_gg ?_ ?_
    | with_reducible refine ev_ite (fun _ => ?_) (fun _ => ?_)
    | refine ev_gcr (t_placeOf hc hv hw (by omega) hi) ?_
    | omega
    | assumption)
  exact ev_ret ⟨rfl, rfl⟩
/-- the least KEY behind that of a VALUE -/
theorem next_L {g : Nat} {last : Int} (hc : gT c) (hv : TV S c V) (hw : WF V) (hz : PZ V) (hl : g < V.length) (hd : 1 ≤ d) (hlast : last = -1 ∨ (0 ≤ last ∧ last < (V.length : Int))) : ∀ (m i : Nat) (n least : Int), g + nz V g - i < m → g < i → 0 ≤ n → n + ((g + nz V g - i : Nat) : Int) ≤ 99 → (least = -1 ∨ (0 ≤ least ∧ least < (V.length : Int))) → Rd (fun k => f_X10_nextByKey k d 12 S [((c : Nat) : Int), (g : Int), last, least, cur i (g + nz V g), n]) (nbK V last least (ks V i (g + nz V g))) S := by
  have hlen := tv_l hv
  have w1 := hw.1 g hl
  intro m
  induction m with
  | zero => intros; omega
  | succ m ih =>
    intro i n least h1 h2 h3 h4 h5
    by_cases hi : i < g + nz V g
    · have z := hz i
      have w2 := hw.2.1 g i h2 hi
      have hiV : i < V.length := by omega
      have k0 := ih (i + nz V i) (n + 1) least (by omega) (by omega) (by omega) (by omega) h5
      have k1 := ih (i + nz V i) (n + 1) (i : Int) (by omega) (by omega) (by omega) (by omega) (by omega)
      have k69 : Rd (fun k => f_X10_nextByKey k d 69 S [((c : Nat) : Int), (g : Int), last, (i : Int), n]) (nbK V last (i : Int) (ks V (i + nz V i) (g + nz V g))) S := by
        refine ev_up (fun n => e_X10_nextByKey_69) ?_
        unfold b_X10_nextByKey_69
        repeat' (first
          | with_reducible refine ev_gv ?_
          | with_reducible refine ev_gg ?_ ?_
          | with_reducible refine ev_ite (fun _ => ?_) (fun _ => ?_)
          | refine ev_gcr (t_next hc hv hw h2 hi hl) ?_
          | omega
          | assumption)
        all_goals exact k1
      have k46 : ∀ s : Int, (s = 0 ∨ s = 1) → Rd (fun k => f_X10_nextByKey k d 46 S [((c : Nat) : Int), (g : Int), last, least, (i : Int), n, s]) (if s = 1 ∧ (least = -1 ∨ oK (nq V i) (nq V least.toNat) < 0) then nbK V last (i : Int) (ks V (i + nz V i) (g + nz V g)) else nbK V last least (ks V (i + nz V i) (g + nz V g))) S := by
        intro s hs
        rcases hs with rfl | rfl
        · rw [if_neg (fun q => by omega)]
          refine ev_up (fun n => e_X10_nextByKey_46) ?_
          unfold b_X10_nextByKey_46
          repeat' (first
            | with_reducible refine ev_gv ?_
            | with_reducible refine ev_gg ?_ ?_
            | with_reducible refine ev_ite (fun _ => ?_) (fun _ => ?_)
            | refine ev_gcr (t_next hc hv hw h2 hi hl) ?_
            | omega
            | assumption)
          all_goals exact k0
        · by_cases e : least = -1
          · rw [if_pos ⟨rfl, Or.inl e⟩]
            refine ev_up (fun n => e_X10_nextByKey_46) ?_
            unfold b_X10_nextByKey_46
            repeat' (first
              | with_reducible refine ev_gv ?_
              | with_reducible refine ev_gg ?_ ?_
              | with_reducible refine ev_ite (fun _ => ?_) (fun _ => ?_)
              | omega
              | assumption)
            all_goals exact k69
          · obtain ⟨j, rfl⟩ : ∃ j : Nat, least = (j : Int) := ⟨least.toNat, by omega⟩
            have hj : j < V.length := by omega
            rw [Int.toNat_natCast]
            have r := oK_r (nq V i) (nq V j)
            refine ev_up (fun n => e_X10_nextByKey_46) ?_
            unfold b_X10_nextByKey_46
            repeat' (first
              | with_reducible refine ev_gv ?_
              | with_reducible refine ev_gg ?_ ?_
              | with_reducible refine ev_ite (fun _ => ?_) (fun _ => ?_)
              | refine ev_gcr (t_orderOfKeys hc hc hv hv hiV hj) ?_
              | refine ev_gcr (t_next hc hv hw h2 hi hl) ?_
              | omega
              | assumption)
            · rw [if_neg (fun q => by omega)]
              exact k0
            · rw [if_pos ⟨rfl, Or.inr (by omega)⟩]
              exact k69
      rw [ks_cons hz hi, show cur i (g + nz V g) = (i : Int) from if_pos hi]
      unfold nbK
      by_cases e : last = -1
      · have k := k46 1 (Or.inr rfl)
        simp only [true_and] at k
        simp only [e, true_or, true_and] at k ⊢
        refine ev_up (fun n => e_X10_nextByKey_12) ?_
        unfold b_X10_nextByKey_12
        repeat' (first
          | with_reducible refine ev_gv ?_
          | with_reducible refine ev_gg ?_ ?_
          | with_reducible refine ev_ite (fun _ => ?_) (fun _ => ?_)
          | omega
          | assumption)
        all_goals exact k
      · obtain ⟨j, rfl⟩ : ∃ j : Nat, last = (j : Int) := ⟨last.toNat, by omega⟩
        have hj : j < V.length := by omega
        rw [Int.toNat_natCast]
        have r := oK_r (nq V i) (nq V j)
        refine ev_up (fun n => e_X10_nextByKey_12) ?_
        unfold b_X10_nextByKey_12
        repeat' (first
          | with_reducible refine ev_gv ?_
          | with_reducible refine ev_gg ?_ ?_
          | with_reducible refine ev_ite (fun _ => ?_) (fun _ => ?_)
          | refine ev_gcr (t_orderOfKeys hc hc hv hv hiV hj) ?_
          | omega
          | assumption)
        · rw [if_neg (fun q => by omega)]
          have k := k46 0 (Or.inl rfl)
          rw [if_neg (fun q => by omega)] at k
          exact k
        · have k := k46 1 (Or.inr rfl)
          simp only [true_and] at k
          by_cases e2 : least = -1 ∨ oK (nq V i) (nq V least.toNat) < 0
          · rw [if_pos e2] at k
            rw [if_pos ⟨Or.inr (by omega), e2⟩]
            exact k
          · rw [if_neg e2] at k
            rw [if_neg (fun q => e2 q.2)]
            exact k
    · rw [ks_nil (by omega), show cur i (g + nz V g) = -1 from if_neg (by omega)]
      refine ev_up (fun n => e_X10_nextByKey_12) ?_
      unfold b_X10_nextByKey_12
      repeat' (first
        | with_reducible refine ev_gv ?_
        | with_reducible refine ev_gg ?_ ?_
        | with_reducible refine ev_ite (fun _ => ?_) (fun _ => ?_)
        | omega
        | assumption)
      all_goals exact ev_ret ⟨rfl, rfl⟩
theorem t_nextByKey {g : Nat} {last : Int} (hc : gT c) (hv : TV S c V) (hw : WF V) (hl : g < V.length) (hd : 2 ≤ d) (hk : nk V g = 5) (hlast : last = -1 ∨ (0 ≤ last ∧ last < (V.length : Int))) : Rd (fun n => f_X10_nextByKey n d 0 S [((c : Nat) : Int), (g : Int), last]) (nbK V last (-1) (kids V g)) S := by
  have hz := pz_of hv.2.2.2
  have hlen := tv_l hv
  have w1 := hw.1 g hl
  have k := next_L (d := d) hc hv hw hz hl (by omega) hlast _ (g + 1) 0 (-1) (Nat.lt_succ_self _) (by omega) (by omega) (by omega) (Or.inl rfl)
  refine ev_up (fun n => e_X10_nextByKey_0) ?_
  unfold b_X10_nextByKey_0
  repeat' (first
    | with_reducible refine ev_gv ?_
    | with_reducible refine ev_gg ?_ ?_
    | with_reducible refine ev_ite (fun _ => ?_) (fun _ => ?_)
    | refine ev_gcr (rd_as (t_firstOfMap hc hv hw hl) (if_pos hk)) ?_
    | omega
    | assumption)
  all_goals exact k
end NUM
