/-! EQUAL, as the class asks it -/
def fdS (key : List Int) (L : List (List ND)) : Option (List ND) := L.find? (fun u => decide (rq u = key))
def smF : Nat → List ND → List ND → Bool
  | 0, _, _ => false
  | f + 1, T, U => decide (rk T = rk U) && (decide (rz T = rz U) && (if 4 ≤ rk T then decide ((kd T).length = (kd U).length) && (if rk T = 4 then ((kd T).zip (kd U)).all (fun p => smF f p.1 p.2) else (kd T).all (fun t => match fdS (rq t) (kd U) with | some u => smF f t u | none => false)) else decide (rp T = rp U) && decide (rt T = rt U)))
theorem fdK_S {U : List ND} (hz : PZL U) {key : List Int} : ∀ (K : List Nat), (∀ k ∈ K, k < U.length) → (fdK U key K = -1 ∧ fdS key (K.map (sg U)) = none) ∨ ∃ k, k ∈ K ∧ fdK U key K = (k : Int) ∧ fdS key (K.map (sg U)) = some (sg U k) ∧ nq U k = key := by
  intro K
  induction K with
  | nil => intro _; exact Or.inl ⟨rfl, rfl⟩
  | cons k K ih =>
    intro h
    have e := rq_sg (h k List.mem_cons_self) (pz_l hz k)
    unfold fdK
    by_cases q : nq U k = key
    · refine Or.inr ⟨k, List.mem_cons_self, if_pos q, ?_, q⟩
      unfold fdS
      rw [List.map_cons, List.find?_cons_of_pos (by rw [e]; exact decide_eq_true q)]
    · rw [if_neg q]
      have e2 : fdS key ((k :: K).map (sg U)) = fdS key (K.map (sg U)) := by
        unfold fdS
        rw [List.map_cons, List.find?_cons_of_neg (by rw [e]; simpa using q)]
      rw [e2]
      rcases ih (fun x hx => h x (List.mem_cons_of_mem _ hx)) with r | ⟨x, hx, r⟩
      · exact Or.inl r
      · exact Or.inr ⟨x, List.mem_cons_of_mem _ hx, r⟩
/-- EQUAL by numbers of nodes -/
def smJ (f : Nat) (V : List ND) (i : Nat) (U : List ND) (j : Int) : Bool := if 0 ≤ j ∧ j < (U.length : Int) then smF f (sg V i) (sg U j.toNat) else false
section SAM
variable {S : GS} {c d : Nat} {V : List ND}
theorem same_no {c2 : Nat} {i j o a : Int} {p q n : Int} (hp : inr p) (hq : inr q) (hn : inr n) (hi : inr i) : Rd (fun k => f_X10_same k d 104 S [((c : Nat) : Int), i, ((c2 : Nat) : Int), j, o, a, 0, p, q, n]) 0 S := by
  refine ev_up (fun n => e_X10_same_104) ?_
  unfold b_X10_same_104
  repeat' (first
    | with_reducible refine ev_gv ?_
    | with_reducible refine ev_gg ?_ ?_
    | with_reducible refine ev_ite (fun _ => ?_) (fun _ => ?_)
    | omega
    | assumption)
  all_goals exact ev_ret ⟨rfl, rfl⟩
theorem kd_nat {V : List ND} {i : Nat} (h : i < V.length) : kdI V (i : Int) = nk V i := by unfold kdI; rw [if_pos (by omega), Int.toNat_natCast]
theorem cur_r {i e : Nat} (h : e ≤ 200) : inr (cur i e) := by
  unfold cur
  split
  · constructor <;> omega
  · decide
theorem t_same {c2 : Nat} {U : List ND} (hc : gT c) (hc2 : gT c2) (hv : TV S c V) (hv2 : TV S c2 U) (hw : WF V) (hw2 : WF U) : ∀ (f i d : Nat) (j : Int), f ≤ 13 → i < V.length → inr j → 2 * f + 4 ≤ d → Rd (fun n => f_X10_same n d 0 S [((c : Nat) : Int), (i : Int), ((c2 : Nat) : Int), j, 13 - (f : Int)]) (if smJ f V i U j then 1 else 0) S := by
  have hz := nr_pzl hv.2.2.2
  have hz2 := nr_pzl hv2.2.2.2
  have hzz := pz_l hz
  have hzz2 := pz_l hz2
  have l1 := tv_l hv
  have l2 := tv_l hv2
  intro f
  induction f with
  | zero =>
    intro i d j hf hi hj hd
    have e0 : (if smJ 0 V i U j then (1 : Int) else 0) = 0 := by
      unfold smJ
      split <;> rfl
    rw [e0]
    have r1 := (tv_all hv (i := (i : Int)) (by omega) (by omega)).2.2.2.2.2
    simp only [Int.toNat_natCast] at r1
    have r2 : -1 ≤ kdI U j ∧ kdI U j ≤ 5 := by
      unfold kdI
      split
      · have := (tv_all hv2 (i := j) (by omega) (by omega)).2.2.2.2.2
        omega
      · omega
    have r3 : 0 ≤ szI U j ∧ szI U j ≤ 100 := by
      unfold szI
      split
      · have := (tv_all hv2 (i := j) (by omega) (by omega)).2.2.2.2.2
        omega
      · omega
    refine ev_up (fun n => e_X10_same_0) ?_
    unfold b_X10_same_0
    repeat' (first
      | with_reducible refine ev_gv ?_
      | with_reducible refine ev_gg ?_ ?_
      | with_reducible refine ev_ite (fun _ => ?_) (fun _ => ?_)
      | refine ev_gcr (rd_as (t_has hc hv (i := (i : Int)) (by constructor <;> omega)) (if_pos (by omega))) ?_
      | refine ev_gcr (rd_as (t_kind hc hv (i := (i : Int)) (by constructor <;> omega)) (kd_nat hi)) ?_
      | refine ev_gcr (t_kind hc2 hv2 hj) ?_
      | refine ev_gcr (rd_as (t_size hc hv (i := (i : Int)) (by constructor <;> omega)) (szI_nat hi)) ?_
      | refine ev_gcr (t_size hc2 hv2 hj) ?_
      | omega
      | assumption)
    all_goals exact ev_ret ⟨rfl, rfl⟩
  | succ f ih =>
    intro i d j hf hi hj hd
    have r1 := (tv_all hv (i := (i : Int)) (by omega) (by omega)).2.2.2.2.2
    simp only [Int.toNat_natCast] at r1
    by_cases hj2 : 0 ≤ j ∧ j < (U.length : Int)
    · obtain ⟨j, rfl⟩ : ∃ k : Nat, j = (k : Int) := ⟨j.toNat, by omega⟩
      have hjl : j < U.length := by omega
      have r2 := (tv_all hv2 (i := (j : Int)) (by omega) (by omega)).2.2.2.2.2
      simp only [Int.toNat_natCast] at r2
      have eJ : smJ (f + 1) V i U (j : Int) = smF (f + 1) (sg V i) (sg U j) := by
        unfold smJ
        rw [if_pos hj2, Int.toNat_natCast]
      rw [eJ]
      unfold smF
      rw [rk_sg hi (hzz i), rk_sg hjl (hzz2 j), rz_sg hi (hzz i), rz_sg hjl (hzz2 j), rp_sg hi (hzz i), rp_sg hjl (hzz2 j), rt_sg hi (hzz i), rt_sg hjl (hzz2 j), kd_sg hz hw hi, kd_sg hz2 hw2 hjl]
      by_cases hk : nk V i = nk U j
      · by_cases hs : nz V i = nz U j
        · have wi := hw.1 i hi
          have wj := hw2.1 j hjl
          by_cases hg : 4 ≤ nk V i
          · have klen := t_values (d := d - 1) hc hv hw hi (by omega)
            have klen2 := t_values (d := d - 1) hc2 hv2 hw2 hjl (by omega)
            have isr : isI V (i : Int) 4 = if nk V i = 4 then 1 else 0 := by
              unfold isI
              rw [Int.toNat_natCast]
              by_cases h : nk V i = 4
              · rw [if_pos ⟨by omega, h⟩, if_pos h]
              · rw [if_neg (fun q => h q.2), if_neg h]
            have isg : isG V (i : Int) = 1 := by
              unfold isG
              rw [if_pos ⟨by omega, by rw [Int.toNat_natCast]; exact hg⟩]
            have kb : (kids V i).length ≤ 100 := by
              have key : ∀ (m a e : Nat), e - a < m → (ks V a e).length ≤ e - a := by
                intro m
                induction m with
                | zero => intros; omega
                | succ m ihm =>
                  intro a e hm
                  by_cases q : a < e
                  · have z := hzz a
                    have := ihm (a + nz V a) e (by omega)
                    rw [ks_cons hzz q, List.length_cons]
                    omega
                  · rw [ks_nil (by omega)]; simp
              have := key _ (i + 1) (i + nz V i) (Nat.lt_succ_self _)
              unfold kids
              omega
            have kb2 : (kids U j).length ≤ 100 := by
              have key : ∀ (m a e : Nat), e - a < m → (ks U a e).length ≤ e - a := by
                intro m
                induction m with
                | zero => intros; omega
                | succ m ihm =>
                  intro a e hm
                  by_cases q : a < e
                  · have z := hzz2 a
                    have := ihm (a + nz U a) e (by omega)
                    rw [ks_cons hzz2 q, List.length_cons]
                    omega
                  · rw [ks_nil (by omega)]; simp
              have := key _ (j + 1) (j + nz U j) (Nat.lt_succ_self _)
              unfold kids
              omega
            -- the loop, all that came having been the same
            have row : nk V i = 4 → ∀ (m a b : Nat) (n : Int), i + nz V i - a < m → i < a → j < b → 0 ≤ n → n + ((i + nz V i - a : Nat) : Int) ≤ 99 → (ks V a (i + nz V i)).length = (ks U b (j + nz U j)).length → Rd (fun k => f_X10_same k d 104 S [((c : Nat) : Int), (i : Int), ((c2 : Nat) : Int), (j : Int), 13 - ((f + 1 : Nat) : Int), 1, 1, cur b (j + nz U j), cur a (i + nz V i), n]) (if (((ks V a (i + nz V i)).map (sg V)).zip ((ks U b (j + nz U j)).map (sg U))).all (fun p => smF f p.1 p.2) then 1 else 0) S := by
              intro hrow m
              induction m with
              | zero => intros; omega
              | succ m ihm =>
                intro a b n h1 h2 h2' h3 h4 hl
                by_cases ha : a < i + nz V i
                · have hb : b < j + nz U j := by
                    by_cases q : b < j + nz U j
                    · exact q
                    · rw [ks_cons hzz ha, ks_nil (V := U) (by omega)] at hl
                      simp at hl
                  have za := hzz a
                  have wa := hw.2.1 i a h2 ha
                  rw [ks_cons hzz ha, ks_cons hzz2 hb] at hl ⊢
                  simp only [List.length_cons] at hl
                  have call := ih a (d - 1) (b : Int) (by omega) (by omega) (by constructor <;> omega) (by omega)
                  rw [show 13 - (f : Int) = 13 - ((f + 1 : Nat) : Int) + 1 by omega] at call
                  have eJ2 : smJ f V a U (b : Int) = smF f (sg V a) (sg U b) := by
                    unfold smJ
                    rw [if_pos (by omega), Int.toNat_natCast]
                  rw [eJ2] at call
                  rw [show cur a (i + nz V i) = (a : Int) from if_pos ha, show cur b (j + nz U j) = (b : Int) from if_pos hb]
                  simp only [List.map_cons, List.zip_cons_cons, List.all_cons]
                  have k144 : Rd (fun k => f_X10_same k d 144 S [((c : Nat) : Int), (i : Int), ((c2 : Nat) : Int), (j : Int), 13 - ((f + 1 : Nat) : Int), 1, (b : Int), (a : Int), n, (b : Int), ((c2 : Nat) : Int), (a : Int), ((c : Nat) : Int)]) (if (smF f (sg V a) (sg U b) && (((ks V (a + nz V a) (i + nz V i)).map (sg V)).zip ((ks U (b + nz U b) (j + nz U j)).map (sg U))).all (fun p => smF f p.1 p.2)) then 1 else 0) S := by
                    cases hs1 : smF f (sg V a) (sg U b)
                    · rw [hs1] at call
                      refine ev_up (fun n => e_X10_same_144) ?_
                      unfold b_X10_same_144
                      repeat' (first
                        | with_reducible refine ev_gv ?_
                        | with_reducible refine ev_gg ?_ ?_
                        | with_reducible refine ev_ite (fun _ => ?_) (fun _ => ?_)
                        | refine ev_gcr (rd_as call rfl) ?_
                        | refine ev_gcr (t_next hc2 hv2 hw2 h2' hb hjl) ?_
                        | refine ev_gcr (t_next hc hv hw h2 ha hi) ?_
                        | omega
                        | assumption)
                      exact same_no (cur_r (by omega)) (cur_r (by omega)) (by constructor <;> omega) (by constructor <;> omega)
                    · rw [hs1] at call
                      have k := ihm (a + nz V a) (b + nz U b) (n + 1) (by omega) (by omega) (by omega) (by omega) (by omega) (by omega)
                      simp only [Bool.true_and]
                      refine ev_up (fun n => e_X10_same_144) ?_
                      unfold b_X10_same_144
                      repeat' (first
                        | with_reducible refine ev_gv ?_
                        | with_reducible refine ev_gg ?_ ?_
                        | with_reducible refine ev_ite (fun _ => ?_) (fun _ => ?_)
                        | refine ev_gcr (rd_as call rfl) ?_
                        | refine ev_gcr (t_next hc2 hv2 hw2 h2' hb hjl) ?_
                        | refine ev_gcr (t_next hc hv hw h2 ha hi) ?_
                        | omega
                        | assumption)
                      all_goals exact k
                  refine ev_up (fun n => e_X10_same_104) ?_
                  unfold b_X10_same_104
                  repeat' (first
                    | with_reducible refine ev_gv ?_
                    | with_reducible refine ev_gg ?_ ?_
                    | with_reducible refine ev_ite (fun _ => ?_) (fun _ => ?_)
                    | omega
                    | assumption)
                  all_goals exact k144
                · have hb : ¬ b < j + nz U j := by
                    intro q
                    rw [ks_nil (V := V) (by omega), ks_cons hzz2 q] at hl
                    simp at hl
                  rw [ks_nil (V := V) (by omega), show cur a (i + nz V i) = -1 from if_neg ha]
                  refine ev_up (fun n => e_X10_same_104) ?_
                  unfold b_X10_same_104
                  repeat' (first
                    | with_reducible refine ev_gv ?_
                    | with_reducible refine ev_gg ?_ ?_
                    | with_reducible refine ev_ite (fun _ => ?_) (fun _ => ?_)
                    | omega
                    | assumption)
                  all_goals exact ev_ret ⟨rfl, rfl⟩
            have map : nk V i = 5 → ∀ (m a b : Nat) (n : Int), i + nz V i - a < m → i < a → j < b → 0 ≤ n → n + ((i + nz V i - a : Nat) : Int) ≤ 99 → (ks V a (i + nz V i)).length = (ks U b (j + nz U j)).length → Rd (fun k => f_X10_same k d 104 S [((c : Nat) : Int), (i : Int), ((c2 : Nat) : Int), (j : Int), 13 - ((f + 1 : Nat) : Int), 0, 1, cur b (j + nz U j), cur a (i + nz V i), n]) (if ((ks V a (i + nz V i)).map (sg V)).all (fun t => match fdS (rq t) ((kids U j).map (sg U)) with | some u => smF f t u | none => false) then 1 else 0) S := by
              intro hrow m
              induction m with
              | zero => intros; omega
              | succ m ihm =>
                intro a b n h1 h2 h2' h3 h4 hl
                by_cases ha : a < i + nz V i
                · have hb : b < j + nz U j := by
                    by_cases q : b < j + nz U j
                    · exact q
                    · rw [ks_cons hzz ha, ks_nil (V := U) (by omega)] at hl
                      simp at hl
                  have za := hzz a
                  have wa := hw.2.1 i a h2 ha
                  rw [ks_cons hzz ha, ks_cons hzz2 hb] at hl
                  rw [ks_cons hzz ha]
                  simp only [List.length_cons] at hl
                  have vl := t_valueLike (d := d - 1) (g := (j : Int)) hc2 hv2 hw2 (by constructor <;> omega) (by omega) hc hv (show a < V.length by omega)
                  have ev : vLk U (j : Int) (nq V a) = fdK U (nq V a) (kids U j) := by
                    unfold vLk kidsM
                    rw [if_pos (by omega), Int.toNat_natCast, if_pos (by omega)]
                  rw [ev] at vl
                  have fk := fdK_S hz2 (key := nq V a) (kids U j) (fun k hk => by have := mem_kids hzz2 hk; omega)
                  rw [show cur a (i + nz V i) = (a : Int) from if_pos ha, show cur b (j + nz U j) = (b : Int) from if_pos hb]
                  simp only [List.map_cons, List.all_cons, rq_sg (show a < V.length by omega) za]
                  have k144 : ∀ q : Int, q = fdK U (nq V a) (kids U j) → Rd (fun k => f_X10_same k d 144 S [((c : Nat) : Int), (i : Int), ((c2 : Nat) : Int), (j : Int), 13 - ((f + 1 : Nat) : Int), 0, (b : Int), (a : Int), n, q, ((c2 : Nat) : Int), (a : Int), ((c : Nat) : Int)]) (if ((match fdS (nq V a) ((kids U j).map (sg U)) with | some u => smF f (sg V a) u | none => false) && ((ks V (a + nz V a) (i + nz V i)).map (sg V)).all (fun t => match fdS (rq t) ((kids U j).map (sg U)) with | some u => smF f t u | none => false)) then 1 else 0) S := by
                    intro q hq
                    have eB : ∃ B : Bool, (match fdS (nq V a) ((kids U j).map (sg U)) with | some u => smF f (sg V a) u | none => false) = B ∧ smJ f V a U q = B ∧ inr q := by
                      rcases fk with ⟨q1, q2⟩ | ⟨k, hk, q1, q2, q3⟩
                      · refine ⟨false, by rw [q2], ?_, by rw [hq, q1]; decide⟩
                        rw [hq, q1]
                        rfl
                      · have := mem_kids hzz2 hk
                        refine ⟨smF f (sg V a) (sg U k), by rw [q2], ?_, by rw [hq, q1]; constructor <;> omega⟩
                        rw [hq, q1]
                        unfold smJ
                        rw [if_pos (by omega), Int.toNat_natCast]
                    obtain ⟨B, b1, b2, b3⟩ := eB
                    have call := ih a (d - 1) q (by omega) (by omega) b3 (by omega)
                    rw [show 13 - (f : Int) = 13 - ((f + 1 : Nat) : Int) + 1 by omega, b2] at call
                    rw [b1]
                    cases B
                    · refine ev_up (fun n => e_X10_same_144) ?_
                      unfold b_X10_same_144
                      repeat' (first
                        | with_reducible refine ev_gv ?_
                        | with_reducible refine ev_gg ?_ ?_
                        | with_reducible refine ev_ite (fun _ => ?_) (fun _ => ?_)
                        | refine ev_gcr (rd_as call rfl) ?_
                        | refine ev_gcr (t_next hc2 hv2 hw2 h2' hb hjl) ?_
                        | refine ev_gcr (t_next hc hv hw h2 ha hi) ?_
                        | omega
                        | assumption)
                      exact same_no (cur_r (by omega)) (cur_r (by omega)) (by constructor <;> omega) (by constructor <;> omega)
                    · have k := ihm (a + nz V a) (b + nz U b) (n + 1) (by omega) (by omega) (by omega) (by omega) (by omega) (by omega)
                      simp only [Bool.true_and]
                      refine ev_up (fun n => e_X10_same_144) ?_
                      unfold b_X10_same_144
                      repeat' (first
                        | with_reducible refine ev_gv ?_
                        | with_reducible refine ev_gg ?_ ?_
                        | with_reducible refine ev_ite (fun _ => ?_) (fun _ => ?_)
                        | refine ev_gcr (rd_as call rfl) ?_
                        | refine ev_gcr (t_next hc2 hv2 hw2 h2' hb hjl) ?_
                        | refine ev_gcr (t_next hc hv hw h2 ha hi) ?_
                        | omega
                        | assumption)
                      all_goals exact k
                  refine ev_up (fun n => e_X10_same_104) ?_
                  unfold b_X10_same_104
                  repeat' (first
                    | with_reducible refine ev_gv ?_
                    | with_reducible refine ev_gg ?_ ?_
                    | with_reducible refine ev_ite (fun _ => ?_) (fun _ => ?_)
                    | refine ev_gcr (vl) ?_
                    | omega
                    | assumption)
                  all_goals exact k144 _ rfl
                · rw [ks_nil (V := V) (by omega), show cur a (i + nz V i) = -1 from if_neg ha]
                  refine ev_up (fun n => e_X10_same_104) ?_
                  unfold b_X10_same_104
                  repeat' (first
                    | with_reducible refine ev_gv ?_
                    | with_reducible refine ev_gg ?_ ?_
                    | with_reducible refine ev_ite (fun _ => ?_) (fun _ => ?_)
                    | omega
                    | assumption)
                  all_goals exact ev_ret ⟨rfl, rfl⟩
            simp only [hk, hs, decide_true, Bool.true_and, List.length_map]
            rw [if_pos (show 4 ≤ nk U j by omega)]
            have k85 : ∀ o : Int, o = (if nk V i = 4 then 1 else 0) → ∀ s : Int, s = (if (kids V i).length = (kids U j).length then 1 else 0) → Rd (fun k => f_X10_same k d 85 S [((c : Nat) : Int), (i : Int), ((c2 : Nat) : Int), (j : Int), 13 - ((f + 1 : Nat) : Int), o, s]) (if (decide ((kids V i).length = (kids U j).length) && (if nk U j = 4 then (((kids V i).map (sg V)).zip ((kids U j).map (sg U))).all (fun p => smF f p.1 p.2) else ((kids V i).map (sg V)).all (fun t => match fdS (rq t) ((kids U j).map (sg U)) with | some u => smF f t u | none => false))) then 1 else 0) S := by
              intro o ho s hs'
              by_cases hlen : (kids V i).length = (kids U j).length
              · rw [if_pos hlen] at hs'
                subst hs'
                simp only [hlen, decide_true, Bool.true_and]
                by_cases h4 : nk V i = 4
                · rw [if_pos h4] at ho
                  subst ho
                  rw [if_pos (show nk U j = 4 by omega)]
                  have k := row h4 _ (i + 1) (j + 1) 0 (Nat.lt_succ_self _) (by omega) (by omega) (by omega) (by omega) hlen
                  refine ev_up (fun n => e_X10_same_85) ?_
                  unfold b_X10_same_85
                  repeat' (first
                    | with_reducible refine ev_gv ?_
                    | with_reducible refine ev_gg ?_ ?_
                    | with_reducible refine ev_ite (fun _ => ?_) (fun _ => ?_)
                    | refine ev_gcr (t_first hc2 hv2 hw2 hjl) ?_
                    | refine ev_gcr (t_first hc hv hw hi) ?_
                    | omega
                    | assumption)
                  all_goals exact k
                · rw [if_neg h4] at ho
                  subst ho
                  rw [if_neg (show ¬ nk U j = 4 by omega)]
                  have k := map (by omega) _ (i + 1) (j + 1) 0 (Nat.lt_succ_self _) (by omega) (by omega) (by omega) (by omega) hlen
                  refine ev_up (fun n => e_X10_same_85) ?_
                  unfold b_X10_same_85
                  repeat' (first
                    | with_reducible refine ev_gv ?_
                    | with_reducible refine ev_gg ?_ ?_
                    | with_reducible refine ev_ite (fun _ => ?_) (fun _ => ?_)
                    | refine ev_gcr (t_first hc2 hv2 hw2 hjl) ?_
                    | refine ev_gcr (t_first hc hv hw hi) ?_
                    | omega
                    | assumption)
                  all_goals exact k
              · rw [if_neg hlen] at hs'
                subst hs'
                simp only [hlen, decide_false, Bool.false_and]
                refine ev_up (fun n => e_X10_same_85) ?_
                unfold b_X10_same_85
                repeat' (first
                  | with_reducible refine ev_gv ?_
                  | with_reducible refine ev_gg ?_ ?_
                  | with_reducible refine ev_ite (fun _ => ?_) (fun _ => ?_)
                  | refine ev_gcr (t_first hc2 hv2 hw2 hjl) ?_
                  | refine ev_gcr (t_first hc hv hw hi) ?_
                  | omega
                  | assumption)
                exact same_no (cur_r (by omega)) (cur_r (by omega)) (by decide) (by constructor <;> omega)
            refine ev_up (fun n => e_X10_same_0) ?_
            unfold b_X10_same_0
            repeat' (first
              | with_reducible refine ev_gv ?_
              | with_reducible refine ev_gg ?_ ?_
              | with_reducible refine ev_ite (fun _ => ?_) (fun _ => ?_)
              | refine ev_gcr (rd_as (t_has hc hv (i := (i : Int)) (by constructor <;> omega)) (if_pos (by omega))) ?_
              | refine ev_gcr (rd_as (t_kind hc hv (i := (i : Int)) (by constructor <;> omega)) (kd_nat hi)) ?_
              | refine ev_gcr (rd_as (t_kind hc2 hv2 (i := (j : Int)) (by constructor <;> omega)) (kd_nat hjl)) ?_
              | refine ev_gcr (rd_as (t_size hc hv (i := (i : Int)) (by constructor <;> omega)) (szI_nat hi)) ?_
              | refine ev_gcr (rd_as (t_size hc2 hv2 (i := (j : Int)) (by constructor <;> omega)) (szI_nat hjl)) ?_
              | refine ev_gcr (rd_as (t_isGroup hc hv (i := (i : Int)) (by constructor <;> omega)) isg) ?_
              | refine ev_gcr (rd_as (t_is hc hv (i := (i : Int)) (by constructor <;> omega) (by decide)) isr) ?_
              | refine ev_gcr (klen) ?_
              | refine ev_gcr (klen2) ?_
              | omega
              | assumption)
            · rename_i hne
              exact k85 _ rfl 0 (if_neg (by omega)).symm
            · rename_i hne
              exact k85 _ rfl 1 (if_pos (by omega)).symm
          · have isg : isG V (i : Int) = 0 := by
              unfold isG
              rw [if_neg (fun q => hg (by have := q.2; rw [Int.toNat_natCast] at this; exact this))]
            have sm := t_sameSigns (d := d - 1) (i := (i : Int)) (j := (j : Int)) hc hc2 (by omega) hv hv2 (by constructor <;> omega) (by constructor <;> omega)
            have p1 : ptI V (i : Int) = np V i := by unfold ptI; rw [if_pos (by omega), Int.toNat_natCast]
            have p2 : ptI U (j : Int) = np U j := by unfold ptI; rw [if_pos (by omega), Int.toNat_natCast]
            rw [p1, p2, tI_nat hi, tI_nat hjl] at sm
            simp only [hk, hs, decide_true, Bool.true_and]
            rw [if_neg (show ¬ 4 ≤ nk U j by omega)]
            have e9 : (if (decide (np V i = np U j) && decide (nt V i = nt U j)) = true then (1 : Int) else 0) = if np V i = np U j ∧ nt V i = nt U j then 1 else 0 := by
              by_cases q1 : np V i = np U j <;> by_cases q2 : nt V i = nt U j <;> simp [q1, q2]
            rw [e9]
            have e10 : (if np V i = np U j ∧ nt V i = nt U j then (1 : Int) else 0) = 0 ∨ (if np V i = np U j ∧ nt V i = nt U j then (1 : Int) else 0) = 1 := by
              split
              · exact Or.inr rfl
              · exact Or.inl rfl
            refine ev_up (fun n => e_X10_same_0) ?_
            unfold b_X10_same_0
            repeat' (first
              | with_reducible refine ev_gv ?_
              | with_reducible refine ev_gg ?_ ?_
              | with_reducible refine ev_ite (fun _ => ?_) (fun _ => ?_)
              | refine ev_gcr (rd_as (t_has hc hv (i := (i : Int)) (by constructor <;> omega)) (if_pos (by omega))) ?_
              | refine ev_gcr (rd_as (t_kind hc hv (i := (i : Int)) (by constructor <;> omega)) (kd_nat hi)) ?_
              | refine ev_gcr (rd_as (t_kind hc2 hv2 (i := (j : Int)) (by constructor <;> omega)) (kd_nat hjl)) ?_
              | refine ev_gcr (rd_as (t_size hc hv (i := (i : Int)) (by constructor <;> omega)) (szI_nat hi)) ?_
              | refine ev_gcr (rd_as (t_size hc2 hv2 (i := (j : Int)) (by constructor <;> omega)) (szI_nat hjl)) ?_
              | refine ev_gcr (rd_as (t_isGroup hc hv (i := (i : Int)) (by constructor <;> omega)) isg) ?_
              | refine ev_gcr (sm) ?_
              | omega
              | assumption)
            all_goals exact ev_ret ⟨rfl, rfl⟩
        · simp only [hs, decide_false, Bool.false_and, Bool.and_false]
          refine ev_up (fun n => e_X10_same_0) ?_
          unfold b_X10_same_0
          repeat' (first
            | with_reducible refine ev_gv ?_
            | with_reducible refine ev_gg ?_ ?_
            | with_reducible refine ev_ite (fun _ => ?_) (fun _ => ?_)
            | refine ev_gcr (rd_as (t_has hc hv (i := (i : Int)) (by constructor <;> omega)) (if_pos (by omega))) ?_
            | refine ev_gcr (rd_as (t_kind hc hv (i := (i : Int)) (by constructor <;> omega)) (kd_nat hi)) ?_
            | refine ev_gcr (rd_as (t_kind hc2 hv2 (i := (j : Int)) (by constructor <;> omega)) (kd_nat hjl)) ?_
            | refine ev_gcr (rd_as (t_size hc hv (i := (i : Int)) (by constructor <;> omega)) (szI_nat hi)) ?_
            | refine ev_gcr (rd_as (t_size hc2 hv2 (i := (j : Int)) (by constructor <;> omega)) (szI_nat hjl)) ?_
            | omega
            | assumption)
          all_goals exact ev_ret ⟨rfl, rfl⟩
      · simp only [hk, decide_false, Bool.false_and]
        refine ev_up (fun n => e_X10_same_0) ?_
        unfold b_X10_same_0
        repeat' (first
          | with_reducible refine ev_gv ?_
          | with_reducible refine ev_gg ?_ ?_
          | with_reducible refine ev_ite (fun _ => ?_) (fun _ => ?_)
          | refine ev_gcr (rd_as (t_has hc hv (i := (i : Int)) (by constructor <;> omega)) (if_pos (by omega))) ?_
          | refine ev_gcr (rd_as (t_kind hc hv (i := (i : Int)) (by constructor <;> omega)) (kd_nat hi)) ?_
          | refine ev_gcr (rd_as (t_kind hc2 hv2 (i := (j : Int)) (by constructor <;> omega)) (kd_nat hjl)) ?_
          | omega
          | assumption)
        all_goals exact ev_ret ⟨rfl, rfl⟩
    · have eJ : smJ (f + 1) V i U j = false := by
        unfold smJ
        rw [if_neg hj2]
      have ek : kdI U j = -1 := if_neg hj2
      rw [eJ]
      refine ev_up (fun n => e_X10_same_0) ?_
      unfold b_X10_same_0
      repeat' (first
        | with_reducible refine ev_gv ?_
        | with_reducible refine ev_gg ?_ ?_
        | with_reducible refine ev_ite (fun _ => ?_) (fun _ => ?_)
        | refine ev_gcr (rd_as (t_has hc hv (i := (i : Int)) (by constructor <;> omega)) (if_pos (by omega))) ?_
        | refine ev_gcr (rd_as (t_kind hc hv (i := (i : Int)) (by constructor <;> omega)) (kd_nat hi)) ?_
        | refine ev_gcr (rd_as (t_kind hc2 hv2 hj) ek) ?_
        | omega
        | assumption)
      all_goals exact ev_ret ⟨rfl, rfl⟩
end SAM
