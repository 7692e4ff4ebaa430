/-! TREES: signs, KEYS, finding by a KEY -/
def tI (V : List ND) (i : Int) : List Int := if 0 ≤ i ∧ i < (V.length : Int) then nt V i.toNat else []
def kI (V : List ND) (i : Int) : List Int := if 0 ≤ i ∧ i < (V.length : Int) then nq V i.toNat else []
section RD2
variable {S : GS} {c d : Nat} {V : List ND}
theorem tI_p {i : Int} (h : 0 ≤ i ∧ i < (V.length : Int)) : tI V i = nt V i.toNat := if_pos h
theorem kI_p {i : Int} (h : 0 ≤ i ∧ i < (V.length : Int)) : kI V i = nq V i.toNat := if_pos h
theorem tI_nat {i : Nat} (h : i < V.length) : tI V (i : Int) = nt V i := if_pos (by omega)
theorem kI_nat {i : Nat} (h : i < V.length) : kI V (i : Int) = nq V i := if_pos (by omega)
theorem tI_len (i : Int) : tlI V i = (tI V i).length := by
  unfold tlI tI
  split <;> rfl
theorem kI_len (i : Int) : qlI V i = (kI V i).length := by
  unfold qlI kI
  split <;> rfl
theorem tI_r (hv : TV S c V) (i : Int) : (tI V i).length ≤ 40 ∧ ∀ y ∈ tI V i, 0 ≤ y ∧ y < 256 := by
  unfold tI
  split
  · have := tv_r hv (i := i.toNat) (by omega)
    exact ⟨this.2.2.2.2.2.2.1, this.2.2.2.2.2.2.2.1⟩
  · exact ⟨by decide, fun y hy => by cases hy⟩
theorem kI_r (hv : TV S c V) (i : Int) : (kI V i).length ≤ 12 ∧ ∀ y ∈ kI V i, 0 ≤ y ∧ y < 256 := by
  unfold kI
  split
  · have := tv_r hv (i := i.toNat) (by omega)
    exact ⟨this.2.2.2.2.2.2.2.2.1, this.2.2.2.2.2.2.2.2.2⟩
  · exact ⟨by decide, fun y hy => by cases hy⟩
theorem gD_mem {l : List Int} {j : Nat} (h : j < l.length) : l.getD j 0 ∈ l := by
  rw [List.getD_eq_getElem?_getD, List.getElem?_eq_getElem h]
  exact List.getElem_mem h
theorem tI_at (hv : TV S c V) {i : Int} {j : Nat} (h : j < (tI V i).length) : 0 ≤ (tI V i).getD j 0 ∧ (tI V i).getD j 0 < 256 := (tI_r hv i).2 _ (gD_mem h)
theorem kI_at (hv : TV S c V) {i : Int} {j : Nat} (h : j < (kI V i).length) : 0 ≤ (kI V i).getD j 0 ∧ (kI V i).getD j 0 < 256 := (kI_r hv i).2 _ (gD_mem h)
theorem t_textLength {i : Int} (hc : gT c) (hv : TV S c V) (hi : inr i) : Rd (fun n => f_X10_lengthOf n d 0 S [((c : Nat) : Int), i]) (tI V i).length S := rd_as (t_lengthOf hc hv hi) (tI_len i)
theorem t_keyLen {i : Int} (hc : gT c) (hv : TV S c V) (hi : inr i) : Rd (fun n => f_X10_keyLength n d 0 S [((c : Nat) : Int), i]) (kI V i).length S := rd_as (t_keyLength hc hv hi) (kI_len i)
theorem t_signAt {i j : Int} (hc : gT c) (hv : TV S c V) (hi : inr i) (hj : inr j) : Rd (fun n => f_X10_signAt n d 0 S [((c : Nat) : Int), i, j]) (atD (tI V i) j) S := by
  have h1 := tv_n hv
  have h2 := tv_l hv
  have h3 := (tI_r hv i).1
  have k0 : ¬ (0 ≤ i ∧ i < (V.length : Int) ∧ 0 ≤ j ∧ j < 40) → Rd (fun n => f_X10_signAt n d 33 S [((c : Nat) : Int), i, j, 0]) (atD (tI V i) j) S := by
    intro e
    have e2 : atD (tI V i) j = -1 := by
      by_cases hin : 0 ≤ i ∧ i < (V.length : Int)
      · exact atD_no (by omega)
      · unfold tI
        rw [if_neg hin]
        exact atD_no (by simp; omega)
    rw [e2]
    refine ev_up (fun n => e_X10_signAt_33) ?_
    unfold b_X10_signAt_33
    repeat' (first
      | with_reducible refine ev_gv ?_
      | with_reducible refine ev_gg ?_ ?_
      | with_reducible refine ev_ite (fun _ => ?_) (fun _ => ?_)
      | omega
      | assumption)
    all_goals exact ev_ret ⟨by omega, rfl⟩
  by_cases hin : 0 ≤ i ∧ i < (V.length : Int)
  · obtain ⟨k1, k2, k3, k4, k5, k6, k7, k8, k9, k10, k11, k12, k13⟩ := tv_all hv hin.1 hin.2
    have key : 0 ≤ j ∧ j < 40 → Rd (fun n => f_X10_signAt n d 33 S [((c : Nat) : Int), i, j, 1]) (atD (tI V i) j) S := by
      intro hj2
      rw [tI_p hin]
      unfold atD
      have n5 := fun q => tv_ts hv (i := i.toNat) (j := j.toNat) (by omega) q
      rw [show 40 * i.toNat + j.toNat = (i * 40 + j).toNat by omega] at n5
      refine ev_up (fun n => e_X10_signAt_33) ?_
      unfold b_X10_signAt_33
      repeat' (first
        | with_reducible refine ev_gv ?_
        | with_reducible refine ev_gg ?_ ?_
        | with_reducible refine ev_ite (fun _ => ?_) (fun _ => ?_)
        | omega
        | assumption)
      all_goals refine ev_ret ⟨?_, rfl⟩
      · rw [if_neg (by omega)]
      · rw [if_pos (by omega)]
        exact n5 (by omega)
    refine ev_up (fun n => e_X10_signAt_0) ?_
    unfold b_X10_signAt_0
    repeat' (first
      | with_reducible refine ev_gv ?_
      | with_reducible refine ev_gg ?_ ?_
      | with_reducible refine ev_ite (fun _ => ?_) (fun _ => ?_)
      | omega
      | assumption)
    · exact k0 (by omega)
    · exact k0 (by omega)
    · exact key (by omega)
  · refine ev_up (fun n => e_X10_signAt_0) ?_
    unfold b_X10_signAt_0
    repeat' (first
      | with_reducible refine ev_gv ?_
      | with_reducible refine ev_gg ?_ ?_
      | with_reducible refine ev_ite (fun _ => ?_) (fun _ => ?_)
      | omega
      | assumption)
    all_goals exact k0 (by omega)
theorem t_keySign {i j : Int} (hc : gT c) (hv : TV S c V) (hi : inr i) (hj : inr j) : Rd (fun n => f_X10_keySign n d 0 S [((c : Nat) : Int), i, j]) (atD (kI V i) j) S := by
  have h1 := tv_n hv
  have h2 := tv_l hv
  have h3 := (kI_r hv i).1
  have k0 : ¬ (0 ≤ i ∧ i < (V.length : Int) ∧ 0 ≤ j ∧ j < 12) → Rd (fun n => f_X10_keySign n d 33 S [((c : Nat) : Int), i, j, 0]) (atD (kI V i) j) S := by
    intro e
    have e2 : atD (kI V i) j = -1 := by
      by_cases hin : 0 ≤ i ∧ i < (V.length : Int)
      · exact atD_no (by omega)
      · unfold kI
        rw [if_neg hin]
        exact atD_no (by simp; omega)
    rw [e2]
    refine ev_up (fun n => e_X10_keySign_33) ?_
    unfold b_X10_keySign_33
    repeat' (first
      | with_reducible refine ev_gv ?_
      | with_reducible refine ev_gg ?_ ?_
      | with_reducible refine ev_ite (fun _ => ?_) (fun _ => ?_)
      | omega
      | assumption)
    all_goals exact ev_ret ⟨by omega, rfl⟩
  by_cases hin : 0 ≤ i ∧ i < (V.length : Int)
  · obtain ⟨k1, k2, k3, k4, k5, k6, k7, k8, k9, k10, k11, k12, k13⟩ := tv_all hv hin.1 hin.2
    have key : 0 ≤ j ∧ j < 12 → Rd (fun n => f_X10_keySign n d 33 S [((c : Nat) : Int), i, j, 1]) (atD (kI V i) j) S := by
      intro hj2
      rw [kI_p hin]
      unfold atD
      have n5 := fun q => tv_qs hv (i := i.toNat) (j := j.toNat) (by omega) q
      rw [show 12 * i.toNat + j.toNat = (i * 12 + j).toNat by omega] at n5
      refine ev_up (fun n => e_X10_keySign_33) ?_
      unfold b_X10_keySign_33
      repeat' (first
        | with_reducible refine ev_gv ?_
        | with_reducible refine ev_gg ?_ ?_
        | with_reducible refine ev_ite (fun _ => ?_) (fun _ => ?_)
        | omega
        | assumption)
      all_goals refine ev_ret ⟨?_, rfl⟩
      · rw [if_neg (by omega)]
      · rw [if_pos (by omega)]
        exact n5 (by omega)
    refine ev_up (fun n => e_X10_keySign_0) ?_
    unfold b_X10_keySign_0
    repeat' (first
      | with_reducible refine ev_gv ?_
      | with_reducible refine ev_gg ?_ ?_
      | with_reducible refine ev_ite (fun _ => ?_) (fun _ => ?_)
      | omega
      | assumption)
    · exact k0 (by omega)
    · exact k0 (by omega)
    · exact key (by omega)
  · refine ev_up (fun n => e_X10_keySign_0) ?_
    unfold b_X10_keySign_0
    repeat' (first
      | with_reducible refine ev_gv ?_
      | with_reducible refine ev_gg ?_ ?_
      | with_reducible refine ev_ite (fun _ => ?_) (fun _ => ?_)
      | omega
      | assumption)
    all_goals exact k0 (by omega)

theorem hasKey_21 {c2 : Nat} {l2 : List Int} {i0 : Int} (hc : gT c) (hc2 : gSh c2) (hd : 1 ≤ d) (hv : TV S c V) (hv2 : SV S c2 l2) (hi0 : inr i0) {R : Int} : ∀ (m i : Nat) (s : Int), l2.length - i < m → i ≤ l2.length → (s = 0 ∧ R = 0 ∨ s = 1 ∧ (kI V i0).length = l2.length ∧ (kI V i0).take i = l2.take i ∧ R = if (kI V i0) = l2 then 1 else 0) → Rd (fun n => f_X10_hasKey n d 21 S [((c : Nat) : Int), i0, ((c2 : Nat) : Int), s, (i : Int)]) R S := by
  have h2 := (kI_r hv i0).1
  have h3 := sv_le hv2
  have h4 := hv2.1
  intro m
  induction m with
  | zero => intros; omega
  | succ m ih =>
    intro i s hm hi hs
    rcases hs with ⟨rfl, hR⟩ | ⟨rfl, e2, e3, hR⟩
    · subst hR
      refine ev_up (fun n => e_X10_hasKey_21) ?_
      unfold b_X10_hasKey_21
      repeat' (first
        | with_reducible refine ev_gv ?_
        | with_reducible refine ev_gg ?_ ?_
        | with_reducible refine ev_ite (fun _ => ?_) (fun _ => ?_)
        | refine ev_gcr (s9_length hc2 hv2) ?_
        | omega
        | assumption)
      all_goals exact ev_ret ⟨by omega, rfl⟩
    · by_cases hil : i < l2.length
      · have ha := kI_at hv (i := i0) (j := i) (by omega)
        have hA := atD_nat (l := kI V i0) (i := i) (by omega)
        have hb := sv_at hv2 (i := i) (by omega)
        have hB := atD_nat (l := l2) (i := i) (by omega)
        refine ev_up (fun n => e_X10_hasKey_21) ?_
        unfold b_X10_hasKey_21
        repeat' (first
          | with_reducible refine ev_gv ?_
          | with_reducible refine ev_gg ?_ ?_
          | with_reducible refine ev_ite (fun _ => ?_) (fun _ => ?_)
          | refine ev_gcr (s9_length hc2 hv2) ?_
          | refine ev_gcr (t_keySign hc hv hi0 (by constructor <;> omega)) ?_
          | refine ev_gcr (s9_at hc2 hv2 (by constructor <;> omega)) ?_
          | omega
          | assumption)
        · rename_i hx
          refine ih (i + 1) 0 (by omega) (by omega) (Or.inl ⟨rfl, ?_⟩)
          rw [hR, if_neg]
          intro e
          refine hx ?_
          rw [hA, hB, e]
        · rename_i hx
          simp only [Decidable.not_not] at hx
          refine ih (i + 1) 1 (by omega) (by omega) (Or.inr ⟨rfl, e2, ?_, hR⟩)
          rw [hA, hB, List.getD_eq_getElem?_getD, List.getD_eq_getElem?_getD, List.getElem?_eq_getElem (by omega), List.getElem?_eq_getElem (by omega)] at hx
          rw [List.take_add_one, List.take_add_one, e3, List.getElem?_eq_getElem (by omega), List.getElem?_eq_getElem (by omega)]
          simp at hx
          simp [hx]
      · have e4 : (kI V i0) = l2 := by
          rw [List.take_of_length_le (by omega), List.take_of_length_le (by omega)] at e3
          exact e3
        rw [if_pos e4] at hR
        subst hR
        refine ev_up (fun n => e_X10_hasKey_21) ?_
        unfold b_X10_hasKey_21
        repeat' (first
          | with_reducible refine ev_gv ?_
          | with_reducible refine ev_gg ?_ ?_
          | with_reducible refine ev_ite (fun _ => ?_) (fun _ => ?_)
          | refine ev_gcr (s9_length hc2 hv2) ?_
          | omega
          | assumption)
        all_goals exact ev_ret ⟨by omega, rfl⟩
theorem t_hasKey {c2 : Nat} {l2 : List Int} {i : Int} (hc : gT c) (hc2 : gSh c2) (hd : 1 ≤ d) (hv : TV S c V) (hv2 : SV S c2 l2) (hi : inr i) : Rd (fun n => f_X10_hasKey n d 0 S [((c : Nat) : Int), i, ((c2 : Nat) : Int)]) (if kI V i = l2 then 1 else 0) S := by
  have h2 := (kI_r hv i).1
  have h3 := sv_le hv2
  refine ev_up (fun n => e_X10_hasKey_0) ?_
  unfold b_X10_hasKey_0
  repeat' (first
    | with_reducible refine ev_gv ?_
    | with_reducible refine ev_gg ?_ ?_
    | with_reducible refine ev_ite (fun _ => ?_) (fun _ => ?_)
    | refine ev_gcr (t_keyLen hc hv hi) ?_
    | refine ev_gcr (s9_length hc2 hv2) ?_
    | omega
    | assumption)
  · refine hasKey_21 hc hc2 hd hv hv2 hi _ 0 0 (Nat.lt_succ_self _) (by omega) (Or.inl ⟨rfl, if_neg (fun e => ?_)⟩)
    have := congrArg List.length e
    omega
  · exact hasKey_21 hc hc2 hd hv hv2 hi _ 0 1 (Nat.lt_succ_self _) (by omega) (Or.inr ⟨rfl, by omega, rfl, rfl⟩)
theorem xlen_le2 (t : Nat) (ht : t < 54) : xlen.getD t 0 ≤ 200 := by
  have : ∀ t, t < 54 → xlen.getD t 0 ≤ 200 := by decide +kernel
  exact this t ht
theorem hasKeyWord_21 {t : Nat} {i0 : Int} (hc : gT c) (ht : t < 54) (hd : 4 ≤ d) (hv : TV S c V) (hi0 : inr i0) {R : Int} : ∀ (m i : Nat) (s : Int), (sx t).length - i < m → i ≤ (sx t).length → (s = 0 ∧ R = 0 ∨ s = 1 ∧ (kI V i0).length = (sx t).length ∧ (kI V i0).take i = (sx t).take i ∧ R = if (kI V i0) = (sx t) then 1 else 0) → Rd (fun n => f_X10_hasKeyWord n d 21 S [((c : Nat) : Int), i0, ((t : Nat) : Int), s, (i : Int)]) R S := by
  have h2 := (kI_r hv i0).1
  have h3 := sx_len t
  have h4 := xlen_le2 t ht
  intro m
  induction m with
  | zero => intros; omega
  | succ m ih =>
    intro i s hm hi hs
    rcases hs with ⟨rfl, hR⟩ | ⟨rfl, e2, e3, hR⟩
    · subst hR
      refine ev_up (fun n => e_X10_hasKeyWord_21) ?_
      unfold b_X10_hasKeyWord_21
      repeat' (first
        | with_reducible refine ev_gv ?_
        | with_reducible refine ev_gg ?_ ?_
        | with_reducible refine ev_ite (fun _ => ?_) (fun _ => ?_)
        | refine ev_gcr (t_keySign hc hv hi0 (by constructor <;> omega)) ?_
        | omega
        | assumption)
      all_goals exact ev_ret ⟨by omega, rfl⟩
    · by_cases hil : i < (sx t).length
      · have ha := kI_at hv (i := i0) (j := i) (by omega)
        have hA := atD_nat (l := kI V i0) (i := i) (by omega)
        have hb : 0 ≤ xch t (i : Int).toNat ∧ xch t (i : Int).toNat < 128 := xch_rng t ht i (by omega)
        have hB : xch t (i : Int).toNat = (sx t).getD i 0 := (sx_at (by omega)).symm
        refine ev_up (fun n => e_X10_hasKeyWord_21) ?_
        unfold b_X10_hasKeyWord_21
        repeat' (first
          | with_reducible refine ev_gv ?_
          | with_reducible refine ev_gg ?_ ?_
          | with_reducible refine ev_ite (fun _ => ?_) (fun _ => ?_)
          | refine ev_gcr (t_keySign hc hv hi0 (by constructor <;> omega)) ?_
          | omega
          | assumption)
        · rename_i hx
          refine ih (i + 1) 0 (by omega) (by omega) (Or.inl ⟨rfl, ?_⟩)
          rw [hR, if_neg]
          intro e
          refine hx ?_
          rw [hA, hB, e]
        · rename_i hx
          simp only [Decidable.not_not] at hx
          refine ih (i + 1) 1 (by omega) (by omega) (Or.inr ⟨rfl, e2, ?_, hR⟩)
          rw [hA, hB, List.getD_eq_getElem?_getD, List.getD_eq_getElem?_getD, List.getElem?_eq_getElem (by omega), List.getElem?_eq_getElem (by omega)] at hx
          rw [List.take_add_one, List.take_add_one, e3, List.getElem?_eq_getElem (by omega), List.getElem?_eq_getElem (by omega)]
          simp at hx
          simp [hx]
      · have e4 : (kI V i0) = (sx t) := by
          rw [List.take_of_length_le (by omega), List.take_of_length_le (by omega)] at e3
          exact e3
        rw [if_pos e4] at hR
        subst hR
        refine ev_up (fun n => e_X10_hasKeyWord_21) ?_
        unfold b_X10_hasKeyWord_21
        repeat' (first
          | with_reducible refine ev_gv ?_
          | with_reducible refine ev_gg ?_ ?_
          | with_reducible refine ev_ite (fun _ => ?_) (fun _ => ?_)
          | refine ev_gcr (t_keySign hc hv hi0 (by constructor <;> omega)) ?_
          | omega
          | assumption)
        all_goals exact ev_ret ⟨by omega, rfl⟩
theorem t_hasKeyWord {t : Nat} {i : Int} (hc : gT c) (ht : t < 54) (hd : 4 ≤ d) (hv : TV S c V) (hi : inr i) : Rd (fun n => f_X10_hasKeyWord n d 0 S [((c : Nat) : Int), i, ((t : Nat) : Int)]) (if kI V i = sx t then 1 else 0) S := by
  have h2 := (kI_r hv i).1
  have h3 := sx_len t
  have h4 := xlen_le2 t ht
  refine ev_up (fun n => e_X10_hasKeyWord_0) ?_
  unfold b_X10_hasKeyWord_0
  repeat' (first
    | with_reducible refine ev_gv ?_
    | with_reducible refine ev_gg ?_ ?_
    | with_reducible refine ev_ite (fun _ => ?_) (fun _ => ?_)
    | refine ev_gcr (t_keyLen hc hv hi) ?_
    | omega
    | assumption)
  · refine hasKeyWord_21 hc ht hd hv hi _ 0 0 (Nat.lt_succ_self _) (by omega) (Or.inl ⟨rfl, if_neg (fun e => ?_)⟩)
    have := congrArg List.length e
    omega
  · exact hasKeyWord_21 hc ht hd hv hi _ 0 1 (Nat.lt_succ_self _) (by omega) (Or.inr ⟨rfl, by omega, rfl, rfl⟩)
theorem saysT_30 {t : Nat} {i0 : Int} (hc : gT c) (ht : t < 54) (hd : 4 ≤ d) (hv : TV S c V) (hi0 : inr i0) {R : Int} : ∀ (m i : Nat) (s : Int), (sx t).length - i < m → i ≤ (sx t).length → (s = 0 ∧ R = 0 ∨ s = 1 ∧ (tI V i0).length = (sx t).length ∧ (tI V i0).take i = (sx t).take i ∧ R = if (tI V i0) = (sx t) then 1 else 0) → Rd (fun n => f_X10_says n d 30 S [((c : Nat) : Int), i0, ((t : Nat) : Int), s, (i : Int)]) R S := by
  have h2 := (tI_r hv i0).1
  have h3 := sx_len t
  have h4 := xlen_le2 t ht
  intro m
  induction m with
  | zero => intros; omega
  | succ m ih =>
    intro i s hm hi hs
    rcases hs with ⟨rfl, hR⟩ | ⟨rfl, e2, e3, hR⟩
    · subst hR
      refine ev_up (fun n => e_X10_says_30) ?_
      unfold b_X10_says_30
      repeat' (first
        | with_reducible refine ev_gv ?_
        | with_reducible refine ev_gg ?_ ?_
        | with_reducible refine ev_ite (fun _ => ?_) (fun _ => ?_)
        | refine ev_gcr (t_signAt hc hv hi0 (by constructor <;> omega)) ?_
        | omega
        | assumption)
      all_goals exact ev_ret ⟨by omega, rfl⟩
    · by_cases hil : i < (sx t).length
      · have ha := tI_at hv (i := i0) (j := i) (by omega)
        have hA := atD_nat (l := tI V i0) (i := i) (by omega)
        have hb : 0 ≤ xch t (i : Int).toNat ∧ xch t (i : Int).toNat < 128 := xch_rng t ht i (by omega)
        have hB : xch t (i : Int).toNat = (sx t).getD i 0 := (sx_at (by omega)).symm
        refine ev_up (fun n => e_X10_says_30) ?_
        unfold b_X10_says_30
        repeat' (first
          | with_reducible refine ev_gv ?_
          | with_reducible refine ev_gg ?_ ?_
          | with_reducible refine ev_ite (fun _ => ?_) (fun _ => ?_)
          | refine ev_gcr (t_signAt hc hv hi0 (by constructor <;> omega)) ?_
          | omega
          | assumption)
        · rename_i hx
          refine ih (i + 1) 0 (by omega) (by omega) (Or.inl ⟨rfl, ?_⟩)
          rw [hR, if_neg]
          intro e
          refine hx ?_
          rw [hA, hB, e]
        · rename_i hx
          simp only [Decidable.not_not] at hx
          refine ih (i + 1) 1 (by omega) (by omega) (Or.inr ⟨rfl, e2, ?_, hR⟩)
          rw [hA, hB, List.getD_eq_getElem?_getD, List.getD_eq_getElem?_getD, List.getElem?_eq_getElem (by omega), List.getElem?_eq_getElem (by omega)] at hx
          rw [List.take_add_one, List.take_add_one, e3, List.getElem?_eq_getElem (by omega), List.getElem?_eq_getElem (by omega)]
          simp at hx
          simp [hx]
      · have e4 : (tI V i0) = (sx t) := by
          rw [List.take_of_length_le (by omega), List.take_of_length_le (by omega)] at e3
          exact e3
        rw [if_pos e4] at hR
        subst hR
        refine ev_up (fun n => e_X10_says_30) ?_
        unfold b_X10_says_30
        repeat' (first
          | with_reducible refine ev_gv ?_
          | with_reducible refine ev_gg ?_ ?_
          | with_reducible refine ev_ite (fun _ => ?_) (fun _ => ?_)
          | refine ev_gcr (t_signAt hc hv hi0 (by constructor <;> omega)) ?_
          | omega
          | assumption)
        all_goals exact ev_ret ⟨by omega, rfl⟩
theorem t_says {t : Nat} {i : Int} (hc : gT c) (ht : t < 54) (hd : 4 ≤ d) (hv : TV S c V) (hi : inr i) : Rd (fun n => f_X10_says n d 0 S [((c : Nat) : Int), i, ((t : Nat) : Int)]) (if kdI V i = 3 ∧ tI V i = sx t then 1 else 0) S := by
  have h2 := (tI_r hv i).1
  have h3 := sx_len t
  have h4 := xlen_le2 t ht
  have h5 : isI V i 3 = if kdI V i = 3 then 1 else 0 := by
    unfold isI kdI
    by_cases h : 0 ≤ i ∧ i < (V.length : Int)
    · simp only [if_pos h, h, true_and]
      simp
    · rw [if_neg (fun q => h q.1), if_neg h]
      rfl
  refine ev_up (fun n => e_X10_says_0) ?_
  unfold b_X10_says_0
  by_cases hk : kdI V i = 3
  · rw [if_pos hk] at h5
    simp only [hk, true_and]
    repeat' (first
      | with_reducible refine ev_gv ?_
      | with_reducible refine ev_gg ?_ ?_
      | with_reducible refine ev_ite (fun _ => ?_) (fun _ => ?_)
      | refine ev_gcr (t_is hc hv hi (by decide)) ?_
      | refine ev_gcr (t_textLength hc hv hi) ?_
      | omega
      | assumption)
    · refine saysT_30 hc ht hd hv hi _ 0 0 (Nat.lt_succ_self _) (by omega) (Or.inl ⟨rfl, if_neg (fun e => ?_)⟩)
      have := congrArg List.length e
      omega
    · exact saysT_30 hc ht hd hv hi _ 0 1 (Nat.lt_succ_self _) (by omega) (Or.inr ⟨rfl, by omega, rfl, rfl⟩)
  · rw [if_neg hk] at h5
    rw [if_neg (fun q => hk q.1)]
    repeat' (first
      | with_reducible refine ev_gv ?_
      | with_reducible refine ev_gg ?_ ?_
      | with_reducible refine ev_ite (fun _ => ?_) (fun _ => ?_)
      | refine ev_gcr (t_is hc hv hi (by decide)) ?_
      | omega
      | assumption)
    exact saysT_30 hc ht hd hv hi _ 0 0 (Nat.lt_succ_self _) (by omega) (Or.inl ⟨rfl, rfl⟩)
theorem sameS_36 {c2 : Nat} {U : List ND} {i0 j0 : Int} (hc : gT c) (hc2 : gT c2) (hd : 1 ≤ d) (hv : TV S c V) (hv2 : TV S c2 U) (hi0 : inr i0) (hj0 : inr j0) {R : Int} : ∀ (m i : Nat) (s : Int), (tI V i0).length - i < m → i ≤ (tI V i0).length → (s = 0 ∧ R = 0 ∨ s = 1 ∧ (tI V i0).length = (tI U j0).length ∧ (tI V i0).take i = (tI U j0).take i ∧ R = if (tI V i0) = (tI U j0) then 1 else 0) → Rd (fun n => f_X10_sameSigns n d 36 S [((c : Nat) : Int), i0, ((c2 : Nat) : Int), j0, s, (i : Int)]) R S := by
  have h2 := (tI_r hv i0).1
  have h3 := (tI_r hv2 j0).1
  intro m
  induction m with
  | zero => intros; omega
  | succ m ih =>
    intro i s hm hi hs
    rcases hs with ⟨rfl, hR⟩ | ⟨rfl, e2, e3, hR⟩
    · subst hR
      refine ev_up (fun n => e_X10_sameSigns_36) ?_
      unfold b_X10_sameSigns_36
      repeat' (first
        | with_reducible refine ev_gv ?_
        | with_reducible refine ev_gg ?_ ?_
        | with_reducible refine ev_ite (fun _ => ?_) (fun _ => ?_)
        | refine ev_gcr (t_textLength hc hv hi0) ?_
        | omega
        | assumption)
      all_goals exact ev_ret ⟨by omega, rfl⟩
    · by_cases hil : i < (tI V i0).length
      · have ha := tI_at hv (i := i0) (j := i) (by omega)
        have hA := atD_nat (l := tI V i0) (i := i) (by omega)
        have hb := tI_at hv2 (i := j0) (j := i) (by omega)
        have hB := atD_nat (l := tI U j0) (i := i) (by omega)
        refine ev_up (fun n => e_X10_sameSigns_36) ?_
        unfold b_X10_sameSigns_36
        repeat' (first
          | with_reducible refine ev_gv ?_
          | with_reducible refine ev_gg ?_ ?_
          | with_reducible refine ev_ite (fun _ => ?_) (fun _ => ?_)
          | refine ev_gcr (t_textLength hc hv hi0) ?_
          | refine ev_gcr (t_signAt hc hv hi0 (by constructor <;> omega)) ?_
          | refine ev_gcr (t_signAt hc2 hv2 hj0 (by constructor <;> omega)) ?_
          | omega
          | assumption)
        · rename_i hx
          refine ih (i + 1) 0 (by omega) (by omega) (Or.inl ⟨rfl, ?_⟩)
          rw [hR, if_neg]
          intro e
          refine hx ?_
          rw [hA, hB, e]
        · rename_i hx
          simp only [Decidable.not_not] at hx
          refine ih (i + 1) 1 (by omega) (by omega) (Or.inr ⟨rfl, e2, ?_, hR⟩)
          rw [hA, hB, List.getD_eq_getElem?_getD, List.getD_eq_getElem?_getD, List.getElem?_eq_getElem (by omega), List.getElem?_eq_getElem (by omega)] at hx
          rw [List.take_add_one, List.take_add_one, e3, List.getElem?_eq_getElem (by omega), List.getElem?_eq_getElem (by omega)]
          simp at hx
          simp [hx]
      · have e4 : (tI V i0) = (tI U j0) := by
          rw [List.take_of_length_le (by omega), List.take_of_length_le (by omega)] at e3
          exact e3
        rw [if_pos e4] at hR
        subst hR
        refine ev_up (fun n => e_X10_sameSigns_36) ?_
        unfold b_X10_sameSigns_36
        repeat' (first
          | with_reducible refine ev_gv ?_
          | with_reducible refine ev_gg ?_ ?_
          | with_reducible refine ev_ite (fun _ => ?_) (fun _ => ?_)
          | refine ev_gcr (t_textLength hc hv hi0) ?_
          | omega
          | assumption)
        all_goals exact ev_ret ⟨by omega, rfl⟩
theorem ptI_r (hv : TV S c V) (i : Int) : -200 ≤ ptI V i ∧ ptI V i ≤ 200 := by
  unfold ptI
  split
  · have := tv_r hv (i := i.toNat) (by omega)
    exact ⟨this.2.2.2.2.1, this.2.2.2.2.2.1⟩
  · omega
theorem t_sameSigns {c2 : Nat} {U : List ND} {i j : Int} (hc : gT c) (hc2 : gT c2) (hd : 1 ≤ d) (hv : TV S c V) (hv2 : TV S c2 U) (hi : inr i) (hj : inr j) : Rd (fun n => f_X10_sameSigns n d 0 S [((c : Nat) : Int), i, ((c2 : Nat) : Int), j]) (if ptI V i = ptI U j ∧ tI V i = tI U j then 1 else 0) S := by
  have h2 := (tI_r hv i).1
  have h3 := (tI_r hv2 j).1
  have h4 := ptI_r hv i
  have h5 := ptI_r hv2 j
  refine ev_up (fun n => e_X10_sameSigns_0) ?_
  unfold b_X10_sameSigns_0
  by_cases hp : ptI V i = ptI U j
  · simp only [hp, true_and]
    repeat' (first
      | with_reducible refine ev_gv ?_
      | with_reducible refine ev_gg ?_ ?_
      | with_reducible refine ev_ite (fun _ => ?_) (fun _ => ?_)
      | refine ev_gcr (t_powerOrTruth hc hv hi) ?_
      | refine ev_gcr (t_powerOrTruth hc2 hv2 hj) ?_
      | refine ev_gcr (t_textLength hc hv hi) ?_
      | refine ev_gcr (t_textLength hc2 hv2 hj) ?_
      | omega
      | assumption)
    · refine sameS_36 hc hc2 hd hv hv2 hi hj _ 0 0 (Nat.lt_succ_self _) (by omega) (Or.inl ⟨rfl, if_neg (fun e => ?_)⟩)
      have := congrArg List.length e
      omega
    · exact sameS_36 hc hc2 hd hv hv2 hi hj _ 0 1 (Nat.lt_succ_self _) (by omega) (Or.inr ⟨rfl, by omega, rfl, rfl⟩)
  · rw [if_neg (fun q => hp q.1)]
    repeat' (first
      | with_reducible refine ev_gv ?_
      | with_reducible refine ev_gg ?_ ?_
      | with_reducible refine ev_ite (fun _ => ?_) (fun _ => ?_)
      | refine ev_gcr (t_powerOrTruth hc hv hi) ?_
      | refine ev_gcr (t_powerOrTruth hc2 hv2 hj) ?_
      | omega
      | assumption)
    exact sameS_36 hc hc2 hd hv hv2 hi hj _ 0 0 (Nat.lt_succ_self _) (by omega) (Or.inl ⟨rfl, rfl⟩)
end RD2
