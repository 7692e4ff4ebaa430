/-! VALUES of a group, one behind the other -/
def kidsF : Nat → List ND → Nat → Nat → List Nat
  | 0, _, _, _ => []
  | f + 1, V, i, e => if i < e then i :: kidsF f V (i + nz V i) e else []
/-- the values that begin from i on, up to e -/
def ks (V : List ND) (i e : Nat) : List Nat := kidsF (e - i) V i e
def kids (V : List ND) (g : Nat) : List Nat := ks V (g + 1) (g + nz V g)
/-- sizes are at least 1 -/
def PZ (V : List ND) : Prop := ∀ i, 1 ≤ nz V i
theorem pz_of {V : List ND} (h : ∀ x ∈ V, NR x) : PZ V := by
  intro i
  unfold nz
  by_cases hi : i < V.length
  · exact (h _ (nd_mem hi)).2.2.1
  · rw [List.getD_eq_getElem?_getD, List.getElem?_eq_none (by omega)]
    decide
theorem kidsF_f {V : List ND} (hz : PZ V) {e : Nat} : ∀ (f f2 i : Nat), e - i ≤ f → e - i ≤ f2 → kidsF f V i e = kidsF f2 V i e := by
  intro f
  induction f with
  | zero =>
    intro f2 i h1 h2
    cases f2 with
    | zero => rfl
    | succ f2 =>
      show [] = kidsF (f2 + 1) V i e
      unfold kidsF
      rw [if_neg (by omega)]
  | succ f ih =>
    intro f2 i h1 h2
    have := hz i
    cases f2 with
    | zero =>
      show kidsF (f + 1) V i e = []
      unfold kidsF
      rw [if_neg (by omega)]
    | succ f2 =>
      unfold kidsF
      by_cases h : i < e
      · rw [if_pos h, if_pos h, ih f2 (i + nz V i) (by omega) (by omega)]
      · rw [if_neg h, if_neg h]
theorem ks_nil {V : List ND} {i e : Nat} (h : e ≤ i) : ks V i e = [] := by
  unfold ks
  rw [show e - i = 0 by omega]
  rfl
theorem ks_cons {V : List ND} (hz : PZ V) {i e : Nat} (h : i < e) : ks V i e = i :: ks V (i + nz V i) e := by
  have := hz i
  unfold ks
  obtain ⟨f, hf⟩ : ∃ f, e - i = f + 1 := ⟨e - i - 1, by omega⟩
  rw [hf]
  show (if i < e then i :: kidsF f V (i + nz V i) e else []) = _
  rw [if_pos h, kidsF_f hz f (e - (i + nz V i)) (i + nz V i) (by omega) (by omega)]
/-- a forest: each node's own lie within it -/
def WF (V : List ND) : Prop := (∀ i, i < V.length → i + nz V i ≤ V.length) ∧ (∀ i j, i < j → j < i + nz V i → j + nz V j ≤ i + nz V i) ∧ ∀ i, i < V.length → nk V i < 4 → nz V i = 1
/-- the value that begins at i, if that is ahead of e -/
def cur (i e : Nat) : Int := if i < e then (i : Int) else -1
section KID
variable {S : GS} {c d : Nat} {V : List ND}
theorem t_first {g : Nat} (hc : gT c) (hv : TV S c V) (hw : WF V) (hg : g < V.length) : Rd (fun n => f_X10_first n d 0 S [((c : Nat) : Int), (g : Int)]) (cur (g + 1) (g + nz V g)) S := by
  obtain ⟨k1, k2, k3, k4, k5, k6, k7, k8, k9, k10, k11, k12, k13⟩ := tv_all (i := (g : Int)) hv (by omega) (by omega)
  have w1 := hw.1 g hg
  have w3 := hw.2.2 g hg
  have h1 := tv_n hv
  have h2 := tv_l hv
  simp only [Int.toNat_natCast] at k1 k2 k6 k7 k8
  have key : ∀ s : Int, (s = 0 ∧ (V.length : Int) - 1 ≤ g) ∨ s = 1 → Rd (fun n => f_X10_first n d 25 S [((c : Nat) : Int), (g : Int), s]) (cur (g + 1) (g + nz V g)) S := by
    intro s hs
    refine ev_up (fun n => e_X10_first_25) ?_
    unfold b_X10_first_25
    simp only [Int.toNat_natCast]
    unfold cur
    repeat' (first
      | with_reducible refine ev_gvi (fun _ _ => ?_)
      | with_reducible refine ev_gv ?_
      | with_reducible refine ev_gg ?_ ?_
      | with_reducible refine ev_ite (fun _ => ?_) (fun _ => ?_)
      | omega
      | assumption)
    all_goals exact ev_ret ⟨by omega, rfl⟩
  refine ev_up (fun n => e_X10_first_0) ?_
  unfold b_X10_first_0
  repeat' (first
    | with_reducible refine ev_gvi (fun _ _ => ?_)
    | with_reducible refine ev_gv ?_
    | with_reducible refine ev_gg ?_ ?_
    | with_reducible refine ev_ite (fun _ => ?_) (fun _ => ?_)
    | omega
    | assumption)
  all_goals exact key _ (by omega)
theorem t_firstN {g : Int} (hc : gT c) (hv : TV S c V) (hg : g < 0) (hi : inr g) : Rd (fun n => f_X10_first n d 0 S [((c : Nat) : Int), g]) (-1) S := by
  have key : Rd (fun n => f_X10_first n d 25 S [((c : Nat) : Int), g, 0]) (-1) S := by
    refine ev_up (fun n => e_X10_first_25) ?_
    unfold b_X10_first_25
    repeat' (first
      | with_reducible refine ev_gvi (fun _ _ => ?_)
      | with_reducible refine ev_gv ?_
      | with_reducible refine ev_gg ?_ ?_
      | with_reducible refine ev_ite (fun _ => ?_) (fun _ => ?_)
      | omega
      | assumption)
    all_goals exact ev_ret ⟨by omega, rfl⟩
  refine ev_up (fun n => e_X10_first_0) ?_
  unfold b_X10_first_0
  repeat' (first
    | with_reducible refine ev_gvi (fun _ _ => ?_)
    | with_reducible refine ev_gv ?_
    | with_reducible refine ev_gg ?_ ?_
    | with_reducible refine ev_ite (fun _ => ?_) (fun _ => ?_)
    | omega
    | assumption)
  all_goals exact key
theorem t_firstOfMap {g : Nat} (hc : gT c) (hv : TV S c V) (hw : WF V) (hg : g < V.length) : Rd (fun n => f_X10_firstOfMap n d 0 S [((c : Nat) : Int), (g : Int)]) (if nk V g = 5 then cur (g + 1) (g + nz V g) else -1) S := by
  obtain ⟨k1, k2, k3, k4, k5, k6, k7, k8, k9, k10, k11, k12, k13⟩ := tv_all (i := (g : Int)) hv (by omega) (by omega)
  have w1 := hw.1 g hg
  have w3 := hw.2.2 g hg
  have h1 := tv_n hv
  have h2 := tv_l hv
  simp only [Int.toNat_natCast] at k1 k2 k6 k7 k8
  have key : ∀ s : Int, (s = 0 ∧ (V.length : Int) - 1 ≤ g) ∨ s = 1 → Rd (fun n => f_X10_firstOfMap n d 25 S [((c : Nat) : Int), (g : Int), s]) (if nk V g = 5 then cur (g + 1) (g + nz V g) else -1) S := by
    intro s hs
    refine ev_up (fun n => e_X10_firstOfMap_25) ?_
    unfold b_X10_firstOfMap_25
    simp only [Int.toNat_natCast]
    unfold cur
    repeat' (first
      | with_reducible refine ev_gvi (fun _ _ => ?_)
      | with_reducible refine ev_gv ?_
      | with_reducible refine ev_gg ?_ ?_
      | with_reducible refine ev_ite (fun _ => ?_) (fun _ => ?_)
      | omega
      | assumption)
    all_goals exact ev_ret ⟨by omega, rfl⟩
  refine ev_up (fun n => e_X10_firstOfMap_0) ?_
  unfold b_X10_firstOfMap_0
  repeat' (first
    | with_reducible refine ev_gvi (fun _ _ => ?_)
    | with_reducible refine ev_gv ?_
    | with_reducible refine ev_gg ?_ ?_
    | with_reducible refine ev_ite (fun _ => ?_) (fun _ => ?_)
    | omega
    | assumption)
  all_goals exact key _ (by omega)
theorem t_next {g k : Nat} (hc : gT c) (hv : TV S c V) (hw : WF V) (hg : g < k) (hk : k < g + nz V g) (hl : g < V.length) : Rd (fun n => f_X10_next n d 0 S [((c : Nat) : Int), (g : Int), (k : Int)]) (cur (k + nz V k) (g + nz V g)) S := by
  have w1 := hw.1 g hl
  obtain ⟨k1, k2, k3, k4, k5, k6, k7, k8, k9, k10, k11, k12, k13⟩ := tv_all (i := (k : Int)) hv (by omega) (by omega)
  obtain ⟨-, g2, -, -, -, -, -, -, g9, -⟩ := tv_all (i := (g : Int)) hv (by omega) (by omega)
  have h1 := tv_n hv
  have h2 := tv_l hv
  simp only [Int.toNat_natCast] at k2 k8 k9 g2 g9
  refine ev_up (fun n => e_X10_next_0) ?_
  unfold b_X10_next_0
  simp only [Int.toNat_natCast]
  unfold cur
  repeat' (first
    | with_reducible refine ev_gvi (fun _ _ => ?_)
    | with_reducible refine ev_gv ?_
    | with_reducible refine ev_gg ?_ ?_
    | with_reducible refine ev_ite (fun _ => ?_) (fun _ => ?_)
    | omega
    | assumption)
  all_goals exact ev_ret ⟨by omega, rfl⟩
theorem values_8 {g : Nat} (hc : gT c) (hv : TV S c V) (hw : WF V) (hz : PZ V) (hl : g < V.length) (hd : 1 ≤ d) : ∀ (m i : Nat) (n : Int), g + nz V g - i ≤ m → g < i → 0 ≤ n → n + ((g + nz V g - i : Nat) : Int) ≤ 99 → Rd (fun k => f_X10_values k d 8 S [((c : Nat) : Int), (g : Int), n, cur i (g + nz V g)]) (n + (ks V i (g + nz V g)).length) S := by
  intro m
  induction m with
  | zero =>
    intro i n h1 h2 h3 h4
    rw [ks_nil (by omega), show cur i (g + nz V g) = -1 from if_neg (by omega)]
    refine ev_up (fun n => e_X10_values_8) ?_
    unfold b_X10_values_8
    repeat' (first
      | with_reducible refine ev_gvi (fun _ _ => ?_)
      | with_reducible refine ev_gv ?_
      | with_reducible refine ev_gg ?_ ?_
      | with_reducible refine ev_ite (fun _ => ?_) (fun _ => ?_)
      | omega
      | assumption)
    all_goals exact ev_ret ⟨by simp, rfl⟩
  | succ m ih =>
    intro i n h1 h2 h3 h4
    by_cases hi : i < g + nz V g
    · have z := hz i
      have w1 := hw.1 g hl
      have w2 := hw.2.1 g i h2 hi
      have hlen := tv_l hv
      rw [ks_cons hz hi, show cur i (g + nz V g) = (i : Int) from if_pos hi]
      refine ev_up (fun n => e_X10_values_8) ?_
      unfold b_X10_values_8
      repeat' (first
        | with_reducible refine ev_gvi (fun _ _ => ?_)
        | with_reducible refine ev_gv ?_
        | with_reducible refine ev_gg ?_ ?_
        | with_reducible refine ev_ite (fun _ => ?_) (fun _ => ?_)
        | refine ev_gcx (t_next hc hv hw h2 hi hl) (fun _ _ => ?_)
        | omega
        | assumption)
      rename_i x hx y hy
      rw [hy, hx]
      exact rd_as (ih (i + nz V i) (n + 1) (by omega) (by omega) (by omega) (by omega)) (by simp; omega)
    · rw [ks_nil (by omega), show cur i (g + nz V g) = -1 from if_neg (by omega)]
      refine ev_up (fun n => e_X10_values_8) ?_
      unfold b_X10_values_8
      repeat' (first
        | with_reducible refine ev_gvi (fun _ _ => ?_)
        | with_reducible refine ev_gv ?_
        | with_reducible refine ev_gg ?_ ?_
        | with_reducible refine ev_ite (fun _ => ?_) (fun _ => ?_)
        | omega
        | assumption)
      all_goals exact ev_ret ⟨by simp, rfl⟩
theorem t_values {g : Nat} (hc : gT c) (hv : TV S c V) (hw : WF V) (hl : g < V.length) (hd : 2 ≤ d) : Rd (fun n => f_X10_values n d 0 S [((c : Nat) : Int), (g : Int)]) ((kids V g).length : Int) S := by
  have hz := pz_of hv.2.2.2
  have h9 := tv_all (i := (g : Int)) hv (by omega) (by omega)
  have w1 := hw.1 g hl
  have h2 := tv_l hv
  refine ev_up (fun n => e_X10_values_0) ?_
  unfold b_X10_values_0
  refine ev_gg (by omega) ?_
  refine ev_gg hc ?_
  refine ev_gcr (t_first hc hv hw hl) ?_
  exact rd_as (values_8 hc hv hw hz hl (by omega) _ (g + 1) 0 (Nat.le_refl _) (by omega) (by omega) (by omega)) (by simp [kids])
end KID
