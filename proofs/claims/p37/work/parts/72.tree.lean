/-! TREES: a tree as the list of its nodes -/
abbrev ND : Type := Int × Nat × Int × List Int × List Int
def nd0 : ND := (0, 1, 0, [], [])
def nk (V : List ND) (i : Nat) : Int := (V.getD i nd0).1
def nz (V : List ND) (i : Nat) : Nat := (V.getD i nd0).2.1
def np (V : List ND) (i : Nat) : Int := (V.getD i nd0).2.2.1
def nt (V : List ND) (i : Nat) : List Int := (V.getD i nd0).2.2.2.1
def nq (V : List ND) (i : Nat) : List Int := (V.getD i nd0).2.2.2.2
def NV (S : GS) (c i : Nat) (x : ND) : Prop := S.1 (c + 1) i = x.1 ∧ S.1 (c + 2) i = (x.2.1 : Int) ∧ S.1 (c + 3) i = x.2.2.1 ∧ S.1 (c + 4) i = (x.2.2.2.1.length : Int) ∧ (∀ j, j < x.2.2.2.1.length → S.1 (c + 5) (40 * i + j) = x.2.2.2.1.getD j 0) ∧ S.1 (c + 6) i = (x.2.2.2.2.length : Int) ∧ ∀ j, j < x.2.2.2.2.length → S.1 (c + 7) (12 * i + j) = x.2.2.2.2.getD j 0
/-- what a node may be -/
def NR (x : ND) : Prop := 0 ≤ x.1 ∧ x.1 ≤ 5 ∧ 1 ≤ x.2.1 ∧ x.2.1 ≤ 100 ∧ -200 ≤ x.2.2.1 ∧ x.2.2.1 ≤ 200 ∧ x.2.2.2.1.length ≤ 40 ∧ (∀ y ∈ x.2.2.2.1, 0 ≤ y ∧ y < 256) ∧ x.2.2.2.2.length ≤ 12 ∧ ∀ y ∈ x.2.2.2.2, 0 ≤ y ∧ y < 256
def TV (S : GS) (c : Nat) (V : List ND) : Prop := S.1 c 7 = (V.length : Int) ∧ V.length ≤ 100 ∧ (∀ i, i < V.length → NV S c i (V.getD i nd0)) ∧ ∀ x ∈ V, NR x
def trM (c : Nat) : Nat → Prop := fun k => c ≤ k ∧ k < c + 8
theorem tv_fr {S S1 : GS} {c : Nat} {V : List ND} {M : Nat → Prop} (h : TV S c V) (hf : Fr M S S1) (hM : ∀ k, c ≤ k → k < c + 8 → ¬ M k) : TV S1 c V := by
  obtain ⟨e1, e2, e3, e4⟩ := h
  have f : ∀ j, j < 8 → S1.1 (c + j) = S.1 (c + j) := fun j hj => (hf _ (hM _ (by omega) (by omega))).1
  refine ⟨by rw [show S1.1 c = S.1 c from f 0 (by omega)]; exact e1, e2, fun i hi => ?_, e4⟩
  obtain ⟨n1, n2, n3, n4, n5, n6, n7⟩ := e3 i hi
  unfold NV
  rw [f 1 (by omega), f 2 (by omega), f 3 (by omega), f 4 (by omega), f 5 (by omega), f 6 (by omega), f 7 (by omega)]
  exact ⟨n1, n2, n3, n4, n5, n6, n7⟩
section TVL
variable {S : GS} {c d : Nat} {V : List ND}
theorem nd_mem {i : Nat} (hi : i < V.length) : V.getD i nd0 ∈ V := by
  rw [List.getD_eq_getElem?_getD, List.getElem?_eq_getElem hi]
  exact List.getElem_mem hi
theorem tv_n (hv : TV S c V) : S.1 c 7 = (V.length : Int) := hv.1
theorem tv_l (hv : TV S c V) : V.length ≤ 100 := hv.2.1
theorem tv_r (hv : TV S c V) {i : Nat} (hi : i < V.length) : NR (V.getD i nd0) := hv.2.2.2 _ (nd_mem hi)
theorem tv_k (hv : TV S c V) {i : Nat} (hi : i < V.length) : S.1 (c + 1) i = nk V i := (hv.2.2.1 i hi).1
theorem tv_z (hv : TV S c V) {i : Nat} (hi : i < V.length) : S.1 (c + 2) i = (nz V i : Int) := (hv.2.2.1 i hi).2.1
theorem tv_p (hv : TV S c V) {i : Nat} (hi : i < V.length) : S.1 (c + 3) i = np V i := (hv.2.2.1 i hi).2.2.1
theorem tv_t (hv : TV S c V) {i : Nat} (hi : i < V.length) : S.1 (c + 4) i = ((nt V i).length : Int) := (hv.2.2.1 i hi).2.2.2.1
theorem tv_ts (hv : TV S c V) {i j : Nat} (hi : i < V.length) (hj : j < (nt V i).length) : S.1 (c + 5) (40 * i + j) = (nt V i).getD j 0 := (hv.2.2.1 i hi).2.2.2.2.1 j hj
theorem tv_q (hv : TV S c V) {i : Nat} (hi : i < V.length) : S.1 (c + 6) i = ((nq V i).length : Int) := (hv.2.2.1 i hi).2.2.2.2.2.1
theorem tv_qs (hv : TV S c V) {i j : Nat} (hi : i < V.length) (hj : j < (nq V i).length) : S.1 (c + 7) (12 * i + j) = (nq V i).getD j 0 := (hv.2.2.1 i hi).2.2.2.2.2.2 j hj
/-- all of one node, by a whole number -/
theorem tv_all (hv : TV S c V) {i : Int} (h0 : 0 ≤ i) (hi : i < (V.length : Int)) : S.1 (c + 1) i.toNat = nk V i.toNat ∧ S.1 (c + 2) i.toNat = (nz V i.toNat : Int) ∧ S.1 (c + 3) i.toNat = np V i.toNat ∧ S.1 (c + 4) i.toNat = ((nt V i.toNat).length : Int) ∧ S.1 (c + 6) i.toNat = ((nq V i.toNat).length : Int) ∧ 0 ≤ nk V i.toNat ∧ nk V i.toNat ≤ 5 ∧ 1 ≤ nz V i.toNat ∧ nz V i.toNat ≤ 100 ∧ -200 ≤ np V i.toNat ∧ np V i.toNat ≤ 200 ∧ (nt V i.toNat).length ≤ 40 ∧ (nq V i.toNat).length ≤ 12 := by
  have hn : i.toNat < V.length := by omega
  obtain ⟨r1, r2, r3, r4, r5, r6, r7, -, r8, -⟩ := tv_r hv hn
  exact ⟨tv_k hv hn, tv_z hv hn, tv_p hv hn, tv_t hv hn, tv_q hv hn, r1, r2, r3, r4, r5, r6, r7, r8⟩
theorem t_has {i : Int} (hc : gT c) (hv : TV S c V) (hi : inr i) : Rd (fun n => f_X10_has n d 0 S [((c : Nat) : Int), i]) (if 0 ≤ i ∧ i < (V.length : Int) then 1 else 0) S := by
  refine ev_up (fun n => e_X10_has_0) ?_
  unfold b_X10_has_0
  have h1 := tv_n hv
  have h2 := tv_l hv
  by_cases hin : 0 ≤ i ∧ i < (V.length : Int)
  · obtain ⟨k1, k2, k3, k4, k5, k6, k7, k8, k9, k10, k11, k12, k13⟩ := tv_all hv hin.1 hin.2
    repeat' (first
      | with_reducible refine ev_gvi (fun _ _ => ?_)
      | with_reducible refine ev_gv ?_
      | with_reducible refine ev_gg ?_ ?_
      | with_reducible refine ev_ite (fun _ => ?_) (fun _ => ?_)
      | omega
      | assumption)
    all_goals exact ev_ret ⟨by omega, rfl⟩
  · repeat' (first
      | with_reducible refine ev_gvi (fun _ _ => ?_)
      | with_reducible refine ev_gv ?_
      | with_reducible refine ev_gg ?_ ?_
      | with_reducible refine ev_ite (fun _ => ?_) (fun _ => ?_)
      | omega
      | assumption)
    all_goals exact ev_ret ⟨by omega, rfl⟩

def kdI (V : List ND) (i : Int) : Int := if 0 ≤ i ∧ i < (V.length : Int) then nk V i.toNat else -1
theorem t_kind {i : Int} (hc : gT c) (hv : TV S c V) (hi : inr i) : Rd (fun n => f_X10_kind n d 0 S [((c : Nat) : Int), i]) (kdI V i) S := by
  refine ev_up (fun n => e_X10_kind_0) ?_
  unfold b_X10_kind_0
  have h1 := tv_n hv
  have h2 := tv_l hv
  by_cases hin : 0 ≤ i ∧ i < (V.length : Int)
  · obtain ⟨k1, k2, k3, k4, k5, k6, k7, k8, k9, k10, k11, k12, k13⟩ := tv_all hv hin.1 hin.2
    repeat' (first
      | with_reducible refine ev_gvi (fun _ _ => ?_)
      | with_reducible refine ev_gv ?_
      | with_reducible refine ev_gg ?_ ?_
      | with_reducible refine ev_ite (fun _ => ?_) (fun _ => ?_)
      | omega
      | assumption)
    all_goals exact ev_ret ⟨by unfold kdI; omega, rfl⟩
  · repeat' (first
      | with_reducible refine ev_gvi (fun _ _ => ?_)
      | with_reducible refine ev_gv ?_
      | with_reducible refine ev_gg ?_ ?_
      | with_reducible refine ev_ite (fun _ => ?_) (fun _ => ?_)
      | omega
      | assumption)
    all_goals exact ev_ret ⟨by unfold kdI; omega, rfl⟩

def isI (V : List ND) (i k : Int) : Int := if (0 ≤ i ∧ i < (V.length : Int)) ∧ nk V i.toNat = k then 1 else 0
theorem t_is {i k : Int} (hc : gT c) (hv : TV S c V) (hi : inr i) (hk : inr k) : Rd (fun n => f_X10_is n d 0 S [((c : Nat) : Int), i, k]) (isI V i k) S := by
  refine ev_up (fun n => e_X10_is_0) ?_
  unfold b_X10_is_0
  have h1 := tv_n hv
  have h2 := tv_l hv
  by_cases hin : 0 ≤ i ∧ i < (V.length : Int)
  · obtain ⟨k1, k2, k3, k4, k5, k6, k7, k8, k9, k10, k11, k12, k13⟩ := tv_all hv hin.1 hin.2
    repeat' (first
      | with_reducible refine ev_gvi (fun _ _ => ?_)
      | with_reducible refine ev_gv ?_
      | with_reducible refine ev_gg ?_ ?_
      | with_reducible refine ev_ite (fun _ => ?_) (fun _ => ?_)
      | omega
      | assumption)
    all_goals exact ev_ret ⟨by unfold isI; omega, rfl⟩
  · repeat' (first
      | with_reducible refine ev_gvi (fun _ _ => ?_)
      | with_reducible refine ev_gv ?_
      | with_reducible refine ev_gg ?_ ?_
      | with_reducible refine ev_ite (fun _ => ?_) (fun _ => ?_)
      | omega
      | assumption)
    all_goals exact ev_ret ⟨by unfold isI; omega, rfl⟩

def isG (V : List ND) (i : Int) : Int := if (0 ≤ i ∧ i < (V.length : Int)) ∧ 4 ≤ nk V i.toNat then 1 else 0
theorem t_isGroup {i : Int} (hc : gT c) (hv : TV S c V) (hi : inr i) : Rd (fun n => f_X10_isGroup n d 0 S [((c : Nat) : Int), i]) (isG V i) S := by
  refine ev_up (fun n => e_X10_isGroup_0) ?_
  unfold b_X10_isGroup_0
  have h1 := tv_n hv
  have h2 := tv_l hv
  by_cases hin : 0 ≤ i ∧ i < (V.length : Int)
  · obtain ⟨k1, k2, k3, k4, k5, k6, k7, k8, k9, k10, k11, k12, k13⟩ := tv_all hv hin.1 hin.2
    repeat' (first
      | with_reducible refine ev_gvi (fun _ _ => ?_)
      | with_reducible refine ev_gv ?_
      | with_reducible refine ev_gg ?_ ?_
      | with_reducible refine ev_ite (fun _ => ?_) (fun _ => ?_)
      | omega
      | assumption)
    all_goals exact ev_ret ⟨by unfold isG; omega, rfl⟩
  · repeat' (first
      | with_reducible refine ev_gvi (fun _ _ => ?_)
      | with_reducible refine ev_gv ?_
      | with_reducible refine ev_gg ?_ ?_
      | with_reducible refine ev_ite (fun _ => ?_) (fun _ => ?_)
      | omega
      | assumption)
    all_goals exact ev_ret ⟨by unfold isG; omega, rfl⟩

def szI (V : List ND) (i : Int) : Int := if 0 ≤ i ∧ i < (V.length : Int) then (nz V i.toNat : Int) else 0
theorem t_size {i : Int} (hc : gT c) (hv : TV S c V) (hi : inr i) : Rd (fun n => f_X10_size n d 0 S [((c : Nat) : Int), i]) (szI V i) S := by
  refine ev_up (fun n => e_X10_size_0) ?_
  unfold b_X10_size_0
  have h1 := tv_n hv
  have h2 := tv_l hv
  by_cases hin : 0 ≤ i ∧ i < (V.length : Int)
  · obtain ⟨k1, k2, k3, k4, k5, k6, k7, k8, k9, k10, k11, k12, k13⟩ := tv_all hv hin.1 hin.2
    repeat' (first
      | with_reducible refine ev_gvi (fun _ _ => ?_)
      | with_reducible refine ev_gv ?_
      | with_reducible refine ev_gg ?_ ?_
      | with_reducible refine ev_ite (fun _ => ?_) (fun _ => ?_)
      | omega
      | assumption)
    all_goals exact ev_ret ⟨by unfold szI; omega, rfl⟩
  · repeat' (first
      | with_reducible refine ev_gvi (fun _ _ => ?_)
      | with_reducible refine ev_gv ?_
      | with_reducible refine ev_gg ?_ ?_
      | with_reducible refine ev_ite (fun _ => ?_) (fun _ => ?_)
      | omega
      | assumption)
    all_goals exact ev_ret ⟨by unfold szI; omega, rfl⟩

def afI (V : List ND) (i : Int) : Int := if 0 ≤ i ∧ i < (V.length : Int) then i + (nz V i.toNat : Int) else i + 1
theorem t_after {i : Int} (hc : gT c) (hv : TV S c V) (hi : inr i) : Rd (fun n => f_X10_after n d 0 S [((c : Nat) : Int), i]) (afI V i) S := by
  refine ev_up (fun n => e_X10_after_0) ?_
  unfold b_X10_after_0
  have h1 := tv_n hv
  have h2 := tv_l hv
  by_cases hin : 0 ≤ i ∧ i < (V.length : Int)
  · obtain ⟨k1, k2, k3, k4, k5, k6, k7, k8, k9, k10, k11, k12, k13⟩ := tv_all hv hin.1 hin.2
    repeat' (first
      | with_reducible refine ev_gvi (fun _ _ => ?_)
      | with_reducible refine ev_gv ?_
      | with_reducible refine ev_gg ?_ ?_
      | with_reducible refine ev_ite (fun _ => ?_) (fun _ => ?_)
      | omega
      | assumption)
    all_goals exact ev_ret ⟨by unfold afI; omega, rfl⟩
  · repeat' (first
      | with_reducible refine ev_gvi (fun _ _ => ?_)
      | with_reducible refine ev_gv ?_
      | with_reducible refine ev_gg ?_ ?_
      | with_reducible refine ev_ite (fun _ => ?_) (fun _ => ?_)
      | omega
      | assumption)
    all_goals exact ev_ret ⟨by unfold afI; omega, rfl⟩

def tlI (V : List ND) (i : Int) : Int := if 0 ≤ i ∧ i < (V.length : Int) then ((nt V i.toNat).length : Int) else 0
theorem t_lengthOf {i : Int} (hc : gT c) (hv : TV S c V) (hi : inr i) : Rd (fun n => f_X10_lengthOf n d 0 S [((c : Nat) : Int), i]) (tlI V i) S := by
  refine ev_up (fun n => e_X10_lengthOf_0) ?_
  unfold b_X10_lengthOf_0
  have h1 := tv_n hv
  have h2 := tv_l hv
  by_cases hin : 0 ≤ i ∧ i < (V.length : Int)
  · obtain ⟨k1, k2, k3, k4, k5, k6, k7, k8, k9, k10, k11, k12, k13⟩ := tv_all hv hin.1 hin.2
    repeat' (first
      | with_reducible refine ev_gvi (fun _ _ => ?_)
      | with_reducible refine ev_gv ?_
      | with_reducible refine ev_gg ?_ ?_
      | with_reducible refine ev_ite (fun _ => ?_) (fun _ => ?_)
      | omega
      | assumption)
    all_goals exact ev_ret ⟨by unfold tlI; omega, rfl⟩
  · repeat' (first
      | with_reducible refine ev_gvi (fun _ _ => ?_)
      | with_reducible refine ev_gv ?_
      | with_reducible refine ev_gg ?_ ?_
      | with_reducible refine ev_ite (fun _ => ?_) (fun _ => ?_)
      | omega
      | assumption)
    all_goals exact ev_ret ⟨by unfold tlI; omega, rfl⟩

def qlI (V : List ND) (i : Int) : Int := if 0 ≤ i ∧ i < (V.length : Int) then ((nq V i.toNat).length : Int) else 0
theorem t_keyLength {i : Int} (hc : gT c) (hv : TV S c V) (hi : inr i) : Rd (fun n => f_X10_keyLength n d 0 S [((c : Nat) : Int), i]) (qlI V i) S := by
  refine ev_up (fun n => e_X10_keyLength_0) ?_
  unfold b_X10_keyLength_0
  have h1 := tv_n hv
  have h2 := tv_l hv
  by_cases hin : 0 ≤ i ∧ i < (V.length : Int)
  · obtain ⟨k1, k2, k3, k4, k5, k6, k7, k8, k9, k10, k11, k12, k13⟩ := tv_all hv hin.1 hin.2
    repeat' (first
      | with_reducible refine ev_gvi (fun _ _ => ?_)
      | with_reducible refine ev_gv ?_
      | with_reducible refine ev_gg ?_ ?_
      | with_reducible refine ev_ite (fun _ => ?_) (fun _ => ?_)
      | omega
      | assumption)
    all_goals exact ev_ret ⟨by unfold qlI; omega, rfl⟩
  · repeat' (first
      | with_reducible refine ev_gvi (fun _ _ => ?_)
      | with_reducible refine ev_gv ?_
      | with_reducible refine ev_gg ?_ ?_
      | with_reducible refine ev_ite (fun _ => ?_) (fun _ => ?_)
      | omega
      | assumption)
    all_goals exact ev_ret ⟨by unfold qlI; omega, rfl⟩

def ptI (V : List ND) (i : Int) : Int := if 0 ≤ i ∧ i < (V.length : Int) then np V i.toNat else 0
theorem t_powerOrTruth {i : Int} (hc : gT c) (hv : TV S c V) (hi : inr i) : Rd (fun n => f_X10_powerOrTruth n d 0 S [((c : Nat) : Int), i]) (ptI V i) S := by
  refine ev_up (fun n => e_X10_powerOrTruth_0) ?_
  unfold b_X10_powerOrTruth_0
  have h1 := tv_n hv
  have h2 := tv_l hv
  by_cases hin : 0 ≤ i ∧ i < (V.length : Int)
  · obtain ⟨k1, k2, k3, k4, k5, k6, k7, k8, k9, k10, k11, k12, k13⟩ := tv_all hv hin.1 hin.2
    repeat' (first
      | with_reducible refine ev_gvi (fun _ _ => ?_)
      | with_reducible refine ev_gv ?_
      | with_reducible refine ev_gg ?_ ?_
      | with_reducible refine ev_ite (fun _ => ?_) (fun _ => ?_)
      | omega
      | assumption)
    all_goals exact ev_ret ⟨by unfold ptI; omega, rfl⟩
  · repeat' (first
      | with_reducible refine ev_gvi (fun _ _ => ?_)
      | with_reducible refine ev_gv ?_
      | with_reducible refine ev_gg ?_ ?_
      | with_reducible refine ev_ite (fun _ => ?_) (fun _ => ?_)
      | omega
      | assumption)
    all_goals exact ev_ret ⟨by unfold ptI; omega, rfl⟩

theorem t_count (hc : gT c) (hv : TV S c V) : Rd (fun n => f_X10_count n d 0 S [((c : Nat) : Int)]) V.length S := by
  refine ev_up (fun n => e_X10_count_0) ?_
  unfold b_X10_count_0
  have h1 := tv_n hv
  repeat' (first
    | with_reducible refine ev_gvi (fun _ _ => ?_)
    | with_reducible refine ev_gv ?_
    | with_reducible refine ev_gg ?_ ?_
    | with_reducible refine ev_ite (fun _ => ?_) (fun _ => ?_)
    | omega
    | assumption)
  exact ev_ret ⟨by omega, rfl⟩
theorem t_isOverfull (hc : gT c) : Rd (fun n => f_X10_isOverfull n d 0 S [((c : Nat) : Int)]) (bi (S.2.1 c 8)) S := by
  refine ev_up (fun n => e_X10_isOverfull_0) ?_
  unfold b_X10_isOverfull_0
  have h : bi (S.2.1 c 8) = 0 ∨ bi (S.2.1 c 8) = 1 := by cases S.2.1 c 8 <;> simp [bi]
  repeat' (first
    | with_reducible refine ev_gvi (fun _ _ => ?_)
    | with_reducible refine ev_gv ?_
    | with_reducible refine ev_gg ?_ ?_
    | with_reducible refine ev_ite (fun _ => ?_) (fun _ => ?_)
    | omega
    | assumption)
  exact ev_ret ⟨by omega, rfl⟩
end TVL
