/-! PLAIN PATHS -/
def esc (x : Int) : List Int := if x = 126 then [126, 48] else if x = 47 then [126, 49] else [x]
def plI (V : List ND) (i : Nat) : Int := if 0 ≤ owI V i then plK i (kids V (owI V i).toNat) 0 else -1
def stp (V : List ND) (i : Nat) : List Int := [47] ++ (if kdI V (owI V i) = 5 then (nq V i).flatMap esc else wnum (max 0 (plI V i)))
/-- the steps to a node, from a place on -/
def ptF (V : List ND) (i : Nat) : Nat → Nat → List Int
  | 0, _ => []
  | f + 1, p => (if i < p + nz V p then stp V p else []) ++ ptF V i f (p + 1)
def pth (V : List ND) (i : Nat) : List Int := ptF V i i 1
theorem esc_len (x : Int) : (esc x).length ≤ 2 := by
  unfold esc
  split
  · decide
  · split <;> simp
theorem ks_len {V : List ND} (hz : PZ V) : ∀ (m a e : Nat), e - a < m → (ks V a e).length ≤ e - a := by
  intro m
  induction m with
  | zero => intros; omega
  | succ m ihm =>
    intro a e hm
    by_cases q : a < e
    · have z := hz a
      have := ihm (a + nz V a) e (by omega)
      rw [ks_cons hz q, List.length_cons]
      omega
    · rw [ks_nil (by omega)]; simp
theorem plK_r (x : Nat) : ∀ (l : List Nat) (n : Nat), plK x l n = -1 ∨ ((n : Int) ≤ plK x l n ∧ plK x l n < n + l.length)
  | [], n => Or.inl rfl
  | k :: r, n => by
    unfold plK
    simp only [List.length_cons]
    split
    · exact Or.inr (by omega)
    · rcases plK_r x r (n + 1) with h | h
      · exact Or.inl h
      · exact Or.inr (by omega)
theorem plI_r {V : List ND} (hw : WF V) (hz : PZ V) {i : Nat} (hi : i < V.length) (hl : V.length ≤ 100) : -1 ≤ plI V i ∧ plI V i ≤ 100 := by
  have r := ow_r V i i
  have e : owI V i = ow V i i := rfl
  unfold plI
  split
  · rename_i h
    have w := hw.1 (owI V i).toNat (by omega)
    have := ks_len hz _ ((owI V i).toNat + 1) ((owI V i).toNat + nz V (owI V i).toNat) (Nat.lt_succ_self _)
    unfold kids
    rcases plK_r i (ks V ((owI V i).toNat + 1) ((owI V i).toNat + nz V (owI V i).toNat)) 0 with q | q <;> omega
  · omega
section PTH
variable {S S0 : GS} {c s d : Nat} {V : List ND} {l : List Int}
theorem step_35 {i : Nat} (hc : gT c) (hs : gSh s) (hd : 1 ≤ d) (hv0 : TV S0 c V) (hi : i < V.length) : ∀ (m t : Nat) (S : GS) (l : List Int), (nq V i).length - t < m → t ≤ (nq V i).length → SX s S0 l S → l.length + (((nq V i).drop t).flatMap esc).length ≤ g_room (s + 1) → Ev (fun n => f_X10_stepTo n d 35 S [((c : Nat) : Int), (i : Int), ((s : Nat) : Int), (t : Int)]) (fun _ S1 => SX s S0 (l ++ ((nq V i).drop t).flatMap esc) S1) := by
  have hq := kI_nat hi
  have hl := (kI_r hv0 (i : Int)).1
  rw [hq] at hl
  have l1 := tv_l hv0
  have hin : inr (i : Int) := by constructor <;> omega
  intro m
  induction m with
  | zero => intros; omega
  | succ m ih =>
    intro t S l hm ht h hr
    have hv := tv_sx hc hs hv0 h
    by_cases e : t < (nq V i).length
    · have a1 := kI_at hv0 (i := (i : Int)) (j := t) (by rw [hq]; exact e)
      rw [hq] at a1
      have a3 := atD_nat e
      rw [drop_one e, List.flatMap_cons] at hr ⊢
      rw [List.length_append] at hr
      have ks := t_keySign (d := d - 1) (j := (t : Int)) hc hv hin (by constructor <;> omega)
      rw [hq, a3] at ks
      have kl := t_keyLen (d := d - 1) hc hv hin
      rw [hq] at kl
      unfold esc at hr ⊢
      by_cases e1 : (nq V i).getD t 0 = 126
      · simp only [if_pos e1, List.length_cons, List.length_nil] at hr ⊢
        have k66 : Ev (fun n => f_X10_stepTo n d 66 S [((c : Nat) : Int), (i : Int), ((s : Nat) : Int), (t : Int), (nq V i).getD t 0]) (fun _ S1 => SX s S0 (l ++ ([126, 48] ++ ((nq V i).drop (t + 1)).flatMap esc)) S1) := by
          refine ev_up (fun n => e_X10_stepTo_66) ?_
          unfold b_X10_stepTo_66
          refine ev_gg (by omega) ?_
          refine ev_gg hs ?_
          refine ev_gc (sx_add hs h (by decide) (by omega)) (fun _ S1 h1 => ?_)
          refine ev_gg (by constructor <;> omega) ?_
          refine ev_ite (fun z => absurd e1 z) (fun _ => ?_)
          refine ev_gc (sx_add hs h1 (by decide) (by simp; omega)) (fun _ S2 h2 => ?_)
          refine ev_gv ?_
          have kk := ih (t + 1) S2 _ (by omega) (by omega) h2 (by simp only [List.length_append, List.length_cons, List.length_nil]; unfold esc; omega)
          simpa using kk
        unfold esc at k66
        refine ev_up (fun n => e_X10_stepTo_35) ?_
        unfold b_X10_stepTo_35
        repeat' (first
          | with_reducible refine ev_gv ?_
          | with_reducible refine ev_gg ?_ ?_
          | with_reducible refine ev_ite (fun _ => ?_) (fun _ => ?_)
          | refine ev_gcr (kl) ?_
          | refine ev_gcr (ks) ?_
          | omega
          | assumption)
        all_goals exact k66
      · by_cases e2 : (nq V i).getD t 0 = 47
        · simp only [if_neg e1, if_pos e2, List.length_cons, List.length_nil] at hr ⊢
          have k66 : Ev (fun n => f_X10_stepTo n d 66 S [((c : Nat) : Int), (i : Int), ((s : Nat) : Int), (t : Int), (nq V i).getD t 0]) (fun _ S1 => SX s S0 (l ++ ([126, 49] ++ ((nq V i).drop (t + 1)).flatMap esc)) S1) := by
            refine ev_up (fun n => e_X10_stepTo_66) ?_
            unfold b_X10_stepTo_66
            refine ev_gg (by omega) ?_
            refine ev_gg hs ?_
            refine ev_gc (sx_add hs h (by decide) (by omega)) (fun _ S1 h1 => ?_)
            refine ev_gg (by constructor <;> omega) ?_
            refine ev_ite (fun _ => ?_) (fun z => absurd e1 z)
            refine ev_gc (sx_add hs h1 (by decide) (by simp; omega)) (fun _ S2 h2 => ?_)
            refine ev_gv ?_
            have kk := ih (t + 1) S2 _ (by omega) (by omega) h2 (by simp only [List.length_append, List.length_cons, List.length_nil]; unfold esc; omega)
            simpa using kk
          unfold esc at k66
          refine ev_up (fun n => e_X10_stepTo_35) ?_
          unfold b_X10_stepTo_35
          repeat' (first
            | with_reducible refine ev_gv ?_
            | with_reducible refine ev_gg ?_ ?_
            | with_reducible refine ev_ite (fun _ => ?_) (fun _ => ?_)
            | refine ev_gcr (kl) ?_
            | refine ev_gcr (ks) ?_
            | omega
            | assumption)
          all_goals exact k66
        · simp only [if_neg e1, if_neg e2, List.length_cons, List.length_nil] at hr ⊢
          refine ev_up (fun n => e_X10_stepTo_35) ?_
          unfold b_X10_stepTo_35
          repeat' (first
            | with_reducible refine ev_gv ?_
            | with_reducible refine ev_gg ?_ ?_
            | with_reducible refine ev_ite (fun _ => ?_) (fun _ => ?_)
            | refine ev_gcr (kl) ?_
            | refine ev_gcr (ks) ?_
            | omega
            | assumption)
          refine ev_gc (sx_add hs h (by omega) (by omega)) (fun _ S1 h1 => ?_)
          refine ev_gv ?_
          have kk := ih (t + 1) S1 _ (by omega) (by omega) h1 (by simp only [List.length_append, List.length_cons, List.length_nil]; unfold esc; omega)
          unfold esc at kk
          simpa using kk
    · rw [List.drop_eq_nil_of_le (by omega)]
      have kl := t_keyLen (d := d - 1) hc hv hin
      rw [hq] at kl
      simp only [List.flatMap_nil, List.append_nil]
      refine ev_up (fun n => e_X10_stepTo_35) ?_
      unfold b_X10_stepTo_35
      repeat' (first
        | with_reducible refine ev_gv ?_
        | with_reducible refine ev_gg ?_ ?_
        | with_reducible refine ev_ite (fun _ => ?_) (fun _ => ?_)
        | refine ev_gcr (kl) ?_
        | omega
        | assumption)
      exact ev_ret h
theorem t_stepTo {i : Nat} (hc : gT c) (hs : gSh s) (hd : 4 ≤ d) (hv0 : TV S0 c V) (hw : WF V) (hi : i < V.length) (h : SX s S0 l S) (hr : l.length + (stp V i).length + 4 ≤ g_room (s + 1)) : Ev (fun n => f_X10_stepTo n d 0 S [((c : Nat) : Int), (i : Int), ((s : Nat) : Int)]) (fun _ S1 => SX s S0 (l ++ stp V i) S1) := by
  have l1 := tv_l hv0
  have hz := pz_of hv0.2.2.2
  have r := ow_r V i i
  have ro : owI V i = ow V i i := rfl
  have rp := plI_r hw hz hi l1
  unfold stp at hr ⊢
  rw [List.length_append] at hr
  simp only [List.length_cons, List.length_nil] at hr
  refine ev_up (fun n => e_X10_stepTo_0) ?_
  unfold b_X10_stepTo_0
  refine ev_gg (by omega) ?_
  refine ev_gg hs ?_
  refine ev_gc (sx_add hs h (by decide) (by omega)) (fun _ S1 h1 => ?_)
  have hv := tv_sx hc hs hv0 h1
  refine ev_gg hc ?_
  refine ev_gcr (t_ownerOf hc hv (by omega) hi) ?_
  have ei : isI V (owI V i) 5 = if kdI V (owI V i) = 5 then 1 else 0 := by
    unfold isI kdI
    by_cases q : 0 ≤ owI V i ∧ owI V i < (V.length : Int)
    · simp only [q, and_self, true_and, if_true]
    · rw [if_neg (fun z => q z.1), if_neg q]
      rfl
  by_cases e : kdI V (owI V i) = 5
  · rw [if_pos e] at hr ei ⊢
    refine ev_gcr (rd_as (t_is hc hv (by constructor <;> omega) (by decide)) ei) ?_
    refine ev_gg (by decide) ?_
    refine ev_ite (fun _ => ?_) (fun z => absurd (by decide) z)
    have kk := step_35 (d := d) hc hs (by omega) hv0 hi _ 0 S1 _ (Nat.lt_succ_self _) (Nat.zero_le _) h1 (by simp only [List.length_append, List.length_cons, List.length_nil, List.drop_zero]; omega)
    simpa using kk
  · rw [if_neg e] at hr ei ⊢
    refine ev_gcr (rd_as (t_is hc hv (by constructor <;> omega) (by decide)) ei) ?_
    refine ev_gg (by decide) ?_
    refine ev_ite (fun z => absurd rfl z) (fun _ => ?_)
    refine ev_gcr (t_placeOf hc hv hw (by omega) hi) ?_
    have ep : (if 0 ≤ owI V i then plK i (kids V (owI V i).toNat) 0 else -1) = plI V i := rfl
    rw [ep]
    refine ev_gg (by constructor <;> omega) ?_
    refine ev_gv ?_
    refine ev_gc (s9_addNumber hs (by omega) h1 (by omega) (by simp only [List.length_append, List.length_cons, List.length_nil]; omega)) (fun _ S2 h2 => ?_)
    refine ev_ret ?_
    simpa using h2
theorem path_2 {i : Nat} (hc : gT c) (hs : gSh s) (hd : 5 ≤ d) (hv0 : TV S0 c V) (hw : WF V) (hi : i < V.length) : ∀ (f p : Nat) (S : GS) (l : List Int), p + f = i + 1 → SX s S0 l S → l.length + (ptF V i f p).length + 4 ≤ g_room (s + 1) → Ev (fun n => f_X10_pathTo n d 2 S [((c : Nat) : Int), (i : Int), ((s : Nat) : Int), (p : Int)]) (fun _ S1 => SX s S0 (l ++ ptF V i f p) S1) := by
  have l1 := tv_l hv0
  intro f
  induction f with
  | zero =>
    intro p S l hp h hr
    have e : ptF V i 0 p = [] := rfl
    rw [e, List.append_nil]
    refine ev_up (fun n => e_X10_pathTo_2) ?_
    unfold b_X10_pathTo_2
    refine ev_gg (by constructor <;> omega) ?_
    refine ev_gg (by constructor <;> omega) ?_
    refine ev_ite (fun _ => ?_) (fun z => by omega)
    exact ev_ret h
  | succ f ih =>
    intro p S l hp h hr
    have hv := tv_sx hc hs hv0 h
    have h1 := tv_n hv
    have ea : afI V (p : Int) = (p : Int) + nz V p := if_pos (by omega)
    have rz : nz V p ≤ 100 := (tv_r hv (i := p) (by omega)).2.2.2.1
    unfold ptF at hr ⊢
    rw [List.length_append] at hr
    refine ev_up (fun n => e_X10_pathTo_2) ?_
    unfold b_X10_pathTo_2
    by_cases q : i < p + nz V p
    · rw [if_pos q] at hr ⊢
      repeat' (first
        | with_reducible refine ev_gv ?_
        | with_reducible refine ev_gg ?_ ?_
        | with_reducible refine ev_ite (fun _ => ?_) (fun _ => ?_)
        | refine ev_gcr (rd_as (t_after hc hv (i := (p : Int)) (by constructor <;> omega)) ea) ?_
        | omega
        | assumption)
      refine ev_gc (t_stepTo hc hs (by omega) hv0 hw (by omega) h (by omega)) (fun _ S1 h2 => ?_)
      refine ev_gv ?_
      have kk := ih (p + 1) S1 _ (by omega) h2 (by rw [List.length_append]; omega)
      simpa using kk
    · rw [if_neg q] at hr ⊢
      have kk := ih (p + 1) S l (by omega) h (by simpa using hr)
      repeat' (first
        | with_reducible refine ev_gv ?_
        | with_reducible refine ev_gg ?_ ?_
        | with_reducible refine ev_ite (fun _ => ?_) (fun _ => ?_)
        | refine ev_gcr (rd_as (t_after hc hv (i := (p : Int)) (by constructor <;> omega)) ea) ?_
        | omega
        | assumption)
      all_goals exact kk
theorem t_pathTo {i : Nat} (hc : gT c) (hs : gSh s) (hd : 5 ≤ d) (hv0 : TV S0 c V) (hw : WF V) (hi : i < V.length) (h : SX s S0 l S) (hr : l.length + (pth V i).length + 4 ≤ g_room (s + 1)) : Ev (fun n => f_X10_pathTo n d 0 S [((c : Nat) : Int), (i : Int), ((s : Nat) : Int)]) (fun _ S1 => SX s S0 (l ++ pth V i) S1) := by
  refine ev_up (fun n => e_X10_pathTo_0) ?_
  unfold b_X10_pathTo_0
  exact path_2 hc hs hd hv0 hw hi i 1 S l (by omega) h hr
end PTH
