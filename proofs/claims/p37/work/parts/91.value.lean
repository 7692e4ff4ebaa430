/-! WRITING: whole VALUES -/
section VAL
variable {S0 : GS} {c s : Nat} {V : List ND}
theorem wbd_len {lines map : Bool} {ind : Nat} {g : List ND → List Int} {b : Bool} {t : List ND} {r : List (List ND)} : (wbd lines map ind g b (t :: r)).length = (wpr b lines map ind (rq t)).length + (g t).length + (wbd lines map ind g false r).length := by
  show (wpr b lines map ind (rq t) ++ g t ++ wbd lines map ind g false r).length = _
  simp only [List.length_append]
theorem s8_value (hc : gT c) (hs : gSh s) (hv0 : TV S0 c V) (hw : WF V) {w : Int} (hway : 0 ≤ w ∧ w ≤ 2) : ∀ (f g i d ind : Nat) (S : GS) (l : List Int), i < V.length → dpS g (sg V i) ≤ f → f < g → ind + f ≤ 12 → 2 * f + 12 ≤ d → SX s S0 l S → l.length + (wrF f w ind (sg V i)).length + 4 ≤ g_room (s + 1) → Ev (fun m => f_X8_group m d 10000 S [((c : Nat) : Int), (i : Int), w, (ind : Int), ((s : Nat) : Int)]) (fun _ S1 => SX s S0 (l ++ wrF f w ind (sg V i)) S1) := by
  have hz := nr_pzl hv0.2.2.2
  have hzz := pz_l hz
  have l1 := tv_l hv0
  -- what is no group
  have scal : ∀ (i d : Nat) (S : GS) (l : List Int) (ind : Int), i < V.length → rk (sg V i) < 4 → 12 ≤ d → SX s S0 l S → l.length + (wsc (sg V i)).length + 4 ≤ g_room (s + 1) → Ev (fun m => f_X8_group m d 10000 S [((c : Nat) : Int), (i : Int), w, ind, ((s : Nat) : Int)]) (fun _ S1 => SX s S0 (l ++ wsc (sg V i)) S1) := by
    intro i d S l ind hi hk hd h hr
    have hv := tv_sx hc hs hv0 h
    have hin : inr (i : Int) := by constructor <;> omega
    have r0 := (tv_all hv0 (i := (i : Int)) (by omega) (by omega)).2.2.2.2.2.1
    rw [Int.toNat_natCast] at r0
    rw [rk_sg hi (hzz i)] at hk
    unfold wsc at hr ⊢
    rw [rk_sg hi (hzz i), rp_sg hi (hzz i), rt_sg hi (hzz i)] at hr ⊢
    refine ev_up (fun n => e_X8_value_0) ?_
    unfold b_X8_value_0
    by_cases h0 : nk V i = 0
    · rw [if_pos h0] at hr ⊢
      repeat' (first
        | with_reducible refine ev_gv ?_
        | with_reducible refine ev_gg ?_ ?_
        | with_reducible refine ev_ite (fun _ => ?_) (fun _ => ?_)
        | refine ev_gcr (rd_as (t_kind hc hv hin) (kd_nat hi)) ?_
        | omega
        | assumption)
      refine ev_gc (sx_addAll (t := 12) hs (by decide) (by omega) h (by omega)) (fun _ S1 h1 => ?_)
      exact ev_ret h1
    rw [if_neg h0] at hr ⊢
    by_cases h1 : nk V i = 1
    · rw [if_pos h1] at hr ⊢
      by_cases hp : np V i = 1
      · rw [if_pos hp] at hr ⊢
        repeat' (first
          | with_reducible refine ev_gv ?_
          | with_reducible refine ev_gg ?_ ?_
          | with_reducible refine ev_ite (fun _ => ?_) (fun _ => ?_)
          | refine ev_gcr (rd_as (t_kind hc hv hin) (kd_nat hi)) ?_
          | refine ev_gcr (rd_as (t_isTrue hc hv (by omega) hin) (if_pos ⟨⟨by omega, h1⟩, hp⟩)) ?_
          | omega
          | assumption)
        refine ev_gc (sx_addAll (t := 13) hs (by decide) (by omega) h (by omega)) (fun _ S1 h1 => ?_)
        exact ev_ret h1
      · rw [if_neg hp] at hr ⊢
        repeat' (first
          | with_reducible refine ev_gv ?_
          | with_reducible refine ev_gg ?_ ?_
          | with_reducible refine ev_ite (fun _ => ?_) (fun _ => ?_)
          | refine ev_gcr (rd_as (t_kind hc hv hin) (kd_nat hi)) ?_
          | refine ev_gcr (rd_as (t_isTrue hc hv (by omega) hin) (if_neg (fun q => hp q.2))) ?_
          | omega
          | assumption)
        refine ev_gc (sx_addAll (t := 14) hs (by decide) (by omega) h (by omega)) (fun _ S1 h1 => ?_)
        exact ev_ret h1
    rw [if_neg h1] at hr ⊢
    by_cases h2 : nk V i = 2
    · rw [if_pos h2] at hr ⊢
      have ep : pwI V (i : Int) = np V i := by unfold pwI; rw [if_pos ⟨by omega, h2⟩, Int.toNat_natCast]
      have kk := s8_number (d := d - 1) (i := (i : Int)) hc hs (by omega) hv0 hin h (by rw [tI_nat hi, ep]; omega)
      rw [tI_nat hi, ep] at kk
      repeat' (first
        | with_reducible refine ev_gv ?_
        | with_reducible refine ev_gg ?_ ?_
        | with_reducible refine ev_ite (fun _ => ?_) (fun _ => ?_)
        | refine ev_gcr (rd_as (t_kind hc hv hin) (kd_nat hi)) ?_
        | omega
        | assumption)
      refine ev_gc kk (fun _ S1 h1 => ?_)
      exact ev_ret h1
    rw [if_neg h2] at hr ⊢
    have kk := s8_text (d := d - 1) (i := (i : Int)) hc hs (by omega) hv0 hin h (by rw [tI_nat hi]; omega)
    rw [tI_nat hi] at kk
    repeat' (first
      | with_reducible refine ev_gv ?_
      | with_reducible refine ev_gg ?_ ?_
      | with_reducible refine ev_ite (fun _ => ?_) (fun _ => ?_)
      | refine ev_gcr (rd_as (t_kind hc hv hin) (kd_nat hi)) ?_
      | omega
      | assumption)
    refine ev_gc kk (fun _ S1 h1 => ?_)
    exact ev_ret h1
  intro f
  induction f with
  | zero =>
    intro g i d ind S l hi hdp hg hind hd h hr
    have hk : rk (sg V i) < 4 := by
      cases g with
      | zero => omega
      | succ g =>
        unfold dpS at hdp
        by_cases q : 4 ≤ rk (sg V i)
        · rw [if_pos q] at hdp
          have := (foldl_max (g := dpS g) (kd (sg V i)) 0).1
          omega
        · omega
    exact scal i d S l ind hi hk (by omega) h hr
  | succ f ih =>
    intro g i d ind S l hi hdp hg hind hd h hr
    by_cases hk : rk (sg V i) < 4
    · have e : wrF (f + 1) w ind (sg V i) = wsc (sg V i) := if_pos hk
      rw [e] at hr ⊢
      exact scal i d S l ind hi hk (by omega) h hr
    · have e : wrF (f + 1) w ind (sg V i) = [if rk (sg V i) = 5 then 123 else 91] ++ wbd (wli w (sg V i)) (decide (rk (sg V i) = 5)) ind (wrF f w (ind + 1)) true (koS w (sg V i)) ++ wend (wli w (sg V i)) (decide (rk (sg V i) = 5)) ind := if_neg hk
      rw [e] at hr ⊢
      obtain ⟨g, rfl⟩ : ∃ g', g = g' + 1 := ⟨g - 1, by omega⟩
      have hkd := dpS_kd (g := g) (f := (f : Int)) (by simpa using hdp) (by omega)
      have hin : inr (i : Int) := by constructor <;> omega
      have hv := tv_sx hc hs hv0 h
      have wi := hw.1 i hi
      have r0 := (tv_all hv0 (i := (i : Int)) (by omega) (by omega)).2.2.2.2.2.2.1
      rw [Int.toNat_natCast] at r0
      have hmem : ∀ k ∈ kids V i, k < V.length ∧ dpS g (sg V k) ≤ f := by
        intro k hk'
        have := mem_kids hzz hk'
        refine ⟨by omega, hkd _ ?_⟩
        rw [kd_sg hz hw hi]
        exact List.mem_map_of_mem hk'
      have ekids : (kd (sg V i)).isEmpty = decide (nz V i = 1) := by
        rw [kd_sg hz hw hi]
        have z := hzz i
        by_cases q : nz V i = 1
        · unfold kids
          rw [ks_nil (by omega)]
          simp [q]
        · unfold kids
          rw [ks_cons hzz (by omega)]
          simp [q]
      generalize hmp : decide (rk (sg V i) = 5) = mp at hr ⊢
      generalize hln : wli w (sg V i) = ln at hr ⊢
      have emp : (if rk (sg V i) = 5 then (123 : Int) else 91) = if mp then 123 else 91 := by
        rw [← hmp]
        by_cases q : rk (sg V i) = 5 <;> simp [q]
      rw [emp] at hr ⊢
      rw [rk_sg hi (hzz i)] at hmp hk
      simp only [List.length_append, List.length_cons, List.length_nil] at hr
      have hval : ∀ k ∈ kids V i, ∀ S l, SX s S0 l S → l.length + (wrF f w (ind + 1) (sg V k)).length + 4 ≤ g_room (s + 1) → Ev (fun m => f_X8_group m (d - 1 - 1) 10000 S [((c : Nat) : Int), (k : Int), w, (ind : Int) + 1, ((s : Nat) : Int)]) (fun _ S1 => SX s S0 (l ++ wrF f w (ind + 1) (sg V k)) S1) := by
        intro k hk' S l h' hr'
        have := hmem k hk'
        have kk := ih g k (d - 1 - 1) (ind + 1) S l this.1 this.2 (by omega) (by omega) (by omega) h' hr'
        rw [show ((ind + 1 : Nat) : Int) = (ind : Int) + 1 by omega] at kk
        exact kk
      -- through the VALUES as they stand
      have plain : ∀ (m a : Nat) (n : Int) (S : GS) (l : List Int), i + nz V i - a < m → i < a → 0 ≤ n → n + ((i + nz V i - a : Nat) : Int) ≤ 99 → (∀ k ∈ ks V a (i + nz V i), k ∈ kids V i) → SX s S0 l S → l.length + (wbd ln mp ind (wrF f w (ind + 1)) (decide (n = 0)) ((ks V a (i + nz V i)).map (sg V))).length + (wend ln mp ind).length + 4 ≤ g_room (s + 1) → Ev (fun m => f_X8_group m (d - 1) 87 S [((c : Nat) : Int), (i : Int), w, (ind : Int), ((s : Nat) : Int), if mp then 1 else 0, 0, if ln then 1 else 0, cur a (i + nz V i), n]) (fun _ S1 => SX s S0 (l ++ wbd ln mp ind (wrF f w (ind + 1)) (decide (n = 0)) ((ks V a (i + nz V i)).map (sg V)) ++ wend ln mp ind) S1) := by
        intro m
        induction m with
        | zero => intros; omega
        | succ m ihm =>
          intro a n S l h1 h2 h3 h4 hsub h' hr'
          by_cases ha : a < i + nz V i
          · have za := hzz a
            have wa := hw.2.1 i a h2 ha
            have haV : a < V.length := by omega
            rw [ks_cons hzz ha] at hsub hr' ⊢
            rw [List.map_cons] at hr' ⊢
            rw [wbd_len, rq_sg haV za] at hr'
            rw [show cur a (i + nz V i) = (a : Int) from if_pos ha]
            refine grp_step (nx := cur (a + nz V a) (i + nz V i)) (val := wrF f w (ind + 1) (sg V a)) hc hs (by omega) hv0 haV rfl rfl (by omega) (by omega) h' (by omega) (hval a (hsub a List.mem_cons_self)) (Or.inl ⟨rfl, fun S1 hv1 => t_next hc hv1 hw h2 ha hi⟩) (fun S1 h1' => ?_)
            have hd0 : decide (n + 1 = 0) = false := by simp; omega
            have kk := ihm (a + nz V a) (n + 1) S1 _ (by omega) (by omega) (by omega) (by omega) (fun k hk' => hsub k (List.mem_cons_of_mem _ hk')) h1' (by rw [hd0]; simp only [List.length_append]; omega)
            rw [hd0] at kk
            have ew : wbd ln mp ind (wrF f w (ind + 1)) (decide (n = 0)) (sg V a :: (ks V (a + nz V a) (i + nz V i)).map (sg V)) = wpr (decide (n = 0)) ln mp ind (nq V a) ++ wrF f w (ind + 1) (sg V a) ++ wbd ln mp ind (wrF f w (ind + 1)) false ((ks V (a + nz V a) (i + nz V i)).map (sg V)) := by
              show wpr (decide (n = 0)) ln mp ind (rq (sg V a)) ++ _ ++ _ = _
              rw [rq_sg haV za]
            rw [ew]
            simp only [List.append_assoc] at kk ⊢
            exact kk
          · rw [ks_nil (by omega)] at hr' ⊢
            have e0 : wbd ln mp ind (wrF f w (ind + 1)) (decide (n = 0)) (([] : List Nat).map (sg V)) = [] := rfl
            rw [e0] at hr' ⊢
            rw [List.append_nil]
            rw [show cur a (i + nz V i) = -1 from if_neg ha]
            exact grp_end hs (by omega) rfl rfl (by omega) ⟨by decide, by constructor <;> omega⟩ (Or.inl rfl) h' (by simp at hr'; omega)
      -- by KEYS
      have keyed : nk V i = 5 → ∀ (F : Nat) (last n : Int) (S : GS) (l : List Int), n + F = 100 → 0 ≤ n → (last = -1 ∨ (0 ≤ last ∧ last < (V.length : Int))) → (∀ k ∈ obK F V last (kids V i), k ∈ kids V i) → SX s S0 l S → l.length + (wbd ln mp ind (wrF f w (ind + 1)) (decide (n = 0)) ((obK F V last (kids V i)).map (sg V))).length + (wend ln mp ind).length + 4 ≤ g_room (s + 1) → Ev (fun m => f_X8_group m (d - 1) 87 S [((c : Nat) : Int), (i : Int), w, (ind : Int), ((s : Nat) : Int), if mp then 1 else 0, 1, if ln then 1 else 0, nbK V last (-1) (kids V i), n]) (fun _ S1 => SX s S0 (l ++ wbd ln mp ind (wrF f w (ind + 1)) (decide (n = 0)) ((obK F V last (kids V i)).map (sg V)) ++ wend ln mp ind) S1) := by
        intro h5 F
        induction F with
        | zero =>
          intro last n S l hn h3 hlast hsub h' hr'
          have hnb := nbK_S hz (last := -1) (lk := none) (Or.inl ⟨rfl, rfl⟩) [] (-1) none (fun k hk => by cases hk) (Or.inl ⟨rfl, rfl⟩)
          have e0 : wbd ln mp ind (wrF f w (ind + 1)) (decide (n = 0)) ((obK 0 V last (kids V i)).map (sg V)) = [] := rfl
          rw [e0] at hr' ⊢
          rw [List.append_nil]
          have hb : inr (nbK V last (-1) (kids V i)) := by
            have hl2 : (last = -1 ∧ (if last = -1 then none else some (nq V last.toNat)) = none) ∨ ∃ k : Nat, k < V.length ∧ last = (k : Int) ∧ (if last = -1 then none else some (nq V last.toNat)) = some (nq V k) := by
              rcases hlast with q | q
              · exact Or.inl ⟨q, if_pos q⟩
              · refine Or.inr ⟨last.toNat, by omega, by omega, if_neg (by omega)⟩
            rcases nbK_S hz hl2 (kids V i) (-1) none (fun k hk => (hmem k hk).1) (Or.inl ⟨rfl, rfl⟩) with ⟨q, _⟩ | ⟨k, hk', q, _⟩
            · rw [q]; decide
            · rw [q]; constructor <;> omega
          exact grp_end hs (by omega) rfl rfl (by omega) ⟨hb, by constructor <;> omega⟩ (Or.inr (by omega)) h' (by simp at hr'; omega)
        | succ F ihF =>
          intro last n S l hn h3 hlast hsub h' hr'
          have hl2 : (last = -1 ∧ (if last = -1 then none else some (nq V last.toNat)) = none) ∨ ∃ k : Nat, k < V.length ∧ last = (k : Int) ∧ (if last = -1 then none else some (nq V last.toNat)) = some (nq V k) := by
            rcases hlast with q | q
            · exact Or.inl ⟨q, if_pos q⟩
            · refine Or.inr ⟨last.toNat, by omega, by omega, if_neg (by omega)⟩
          have hnb := nbK_S hz hl2 (kids V i) (-1) none (fun k hk => (hmem k hk).1) (Or.inl ⟨rfl, rfl⟩)
          unfold obK at hsub hr' ⊢
          rcases hnb with ⟨q, _⟩ | ⟨a, ha, q, _⟩
          · rw [if_pos q] at hr' ⊢
            have e0 : wbd ln mp ind (wrF f w (ind + 1)) (decide (n = 0)) (([] : List Nat).map (sg V)) = [] := rfl
            rw [e0] at hr' ⊢
            rw [List.append_nil, q]
            exact grp_end hs (by omega) rfl rfl (by omega) ⟨by decide, by constructor <;> omega⟩ (Or.inl rfl) h' (by simp at hr'; omega)
          · have hne : ¬ nbK V last (-1) (kids V i) = -1 := by omega
            rw [if_neg hne] at hsub hr' ⊢
            rw [q, Int.toNat_natCast] at hsub hr' ⊢
            have za := hzz a
            rw [List.map_cons] at hr' ⊢
            rw [wbd_len, rq_sg ha za] at hr'
            refine grp_step (nx := nbK V (a : Int) (-1) (kids V i)) (val := wrF f w (ind + 1) (sg V a)) hc hs (by omega) hv0 ha rfl rfl (by omega) (by omega) h' (by omega) (hval a (hsub a List.mem_cons_self)) (Or.inr ⟨rfl, fun S1 hv1 => t_nextByKey hc hv1 hw hi (by omega) h5 (Or.inr (by omega))⟩) (fun S1 h1' => ?_)
            have hd0 : decide (n + 1 = 0) = false := by simp; omega
            have kk := ihF (a : Int) (n + 1) S1 _ (by omega) (by omega) (Or.inr (by omega)) (fun k hk' => hsub k (List.mem_cons_of_mem _ hk')) h1' (by rw [hd0]; simp only [List.length_append]; omega)
            rw [hd0] at kk
            have ew : wbd ln mp ind (wrF f w (ind + 1)) (decide (n = 0)) (sg V a :: (obK F V (a : Int) (kids V i)).map (sg V)) = wpr (decide (n = 0)) ln mp ind (nq V a) ++ wrF f w (ind + 1) (sg V a) ++ wbd ln mp ind (wrF f w (ind + 1)) false ((obK F V (a : Int) (kids V i)).map (sg V)) := by
              show wpr (decide (n = 0)) ln mp ind (rq (sg V a)) ++ _ ++ _ = _
              rw [rq_sg ha za]
            rw [ew]
            simp only [List.append_assoc] at kk ⊢
            exact kk
      have hkdm : kd (sg V i) = (kids V i).map (sg V) := kd_sg hz hw hi
      have k60 : ∀ y : Int, (y = 0 ∧ koS w (sg V i) = kd (sg V i) ∨ y = 1 ∧ nk V i = 5 ∧ koS w (sg V i) = obS 100 none (kd (sg V i))) → Ev (fun m => f_X8_group m (d - 1) 60 S [((c : Nat) : Int), (i : Int), w, (ind : Int), ((s : Nat) : Int), if mp then 1 else 0, y, if ln then 1 else 0, if mp then 123 else 91, ((s : Nat) : Int)]) (fun _ S1 => SX s S0 (l ++ ([if mp then 123 else 91] ++ wbd ln mp ind (wrF f w (ind + 1)) true (koS w (sg V i)) ++ wend ln mp ind)) S1) := by
        intro y hy
        have hch : 0 ≤ (if mp then (123 : Int) else 91) ∧ (if mp then (123 : Int) else 91) < 65536 := by cases mp <;> simp
        refine ev_up (fun n => e_X8_group_60) ?_
        unfold b_X8_group_60
        refine ev_gg (by omega) ?_
        refine ev_gg hs ?_
        refine ev_gc (sx_add hs h hch (by omega)) (fun _ S1 h1 => ?_)
        have hv1 := tv_sx hc hs hv0 h1
        rcases hy with ⟨y0, y1⟩ | ⟨y0, y5, y1⟩
        · subst y0
          rw [y1, hkdm] at hr ⊢
          have kk := plain _ (i + 1) 0 S1 _ (Nat.lt_succ_self _) (by omega) (by omega) (by omega) (fun k hk' => hk') h1 (by simp only [List.length_append, List.length_cons, List.length_nil]; exact Nat.le_trans (by show _ ≤ l.length + (0 + 1 + (wbd ln mp ind (wrF f w (ind + 1)) true ((kids V i).map (sg V))).length + (wend ln mp ind).length) + 4; unfold kids; simp only [decide_true]; omega) hr)
          simp only [List.append_assoc] at kk ⊢
          refine ev_gg (by decide) ?_
          refine ev_ite (fun _ => ?_) (fun z => absurd trivial z)
          repeat' (first
            | with_reducible refine ev_gv ?_
            | with_reducible refine ev_gg ?_ ?_
            | with_reducible refine ev_ite (fun _ => ?_) (fun _ => ?_)
            | refine ev_gcr (t_first hc hv1 hw hi) ?_
            | omega
            | assumption)
          all_goals exact kk
        · subst y0
          have hob := obK_S hz (fun k hk' => (hmem k hk').1) 100 (-1) none (Or.inl ⟨rfl, rfl⟩)
          rw [y1, hkdm, ← hob.1] at hr ⊢
          have hsub : ∀ (F : Nat) (last : Int), (last = -1 ∨ (0 ≤ last ∧ last < (V.length : Int))) → ∀ k ∈ obK F V last (kids V i), k ∈ kids V i := by
            have nbm : ∀ (K : List Nat) (last x : Int), nbK V last x K = x ∨ ∃ k ∈ K, nbK V last x K = (k : Int) := by
              intro K
              induction K with
              | nil => intro last x; exact Or.inl rfl
              | cons k K ihK =>
                intro last x
                unfold nbK
                split
                · rcases ihK last (k : Int) with q | ⟨j, hj, q⟩
                  · exact Or.inr ⟨k, List.mem_cons_self, q⟩
                  · exact Or.inr ⟨j, List.mem_cons_of_mem _ hj, q⟩
                · rcases ihK last x with q | ⟨j, hj, q⟩
                  · exact Or.inl q
                  · exact Or.inr ⟨j, List.mem_cons_of_mem _ hj, q⟩
            intro F
            induction F with
            | zero => intro last _ k hk'; cases hk'
            | succ F ihF =>
              intro last hlast k hk'
              unfold obK at hk'
              by_cases q : nbK V last (-1) (kids V i) = -1
              · rw [if_pos q] at hk'; cases hk'
              · rw [if_neg q] at hk'
                rcases nbm (kids V i) last (-1) with z | ⟨j, hj, z⟩
                · exact absurd z q
                · have := (hmem j hj).1
                  rw [z, Int.toNat_natCast] at hk'
                  rcases List.mem_cons.mp hk' with r | r
                  · subst r; exact hj
                  · exact ihF (j : Int) (Or.inr (by omega)) k r
          have kk := keyed y5 100 (-1) 0 S1 _ (by omega) (by omega) (Or.inl rfl) (hsub 100 (-1) (Or.inl rfl)) h1 (by simp only [List.length_append, List.length_cons, List.length_nil, decide_true]; omega)
          simp only [List.append_assoc] at kk ⊢
          refine ev_gg (by decide) ?_
          refine ev_ite (fun z => absurd z (by decide)) (fun _ => ?_)
          repeat' (first
            | with_reducible refine ev_gv ?_
            | with_reducible refine ev_gg ?_ ?_
            | with_reducible refine ev_ite (fun _ => ?_) (fun _ => ?_)
            | refine ev_gcr (t_nextByKey hc hv1 hw hi (by omega) y5 (Or.inl rfl)) ?_
            | omega
            | assumption)
          all_goals exact kk
      have e5 : isI V (i : Int) 5 = if mp then 1 else 0 := by
        rw [isI_e, Int.toNat_natCast, ← hmp]
        by_cases q : nk V i = 5
        · rw [if_pos ⟨by omega, q⟩]; simp [q]
        · rw [if_neg (fun z => q z.2)]; simp [q]
      have k43 : ln = false → ∀ y : Int, (y = 0 ∧ koS w (sg V i) = kd (sg V i) ∨ y = 1 ∧ nk V i = 5 ∧ koS w (sg V i) = obS 100 none (kd (sg V i))) → Ev (fun m => f_X8_group m (d - 1) 43 S [((c : Nat) : Int), (i : Int), w, (ind : Int), ((s : Nat) : Int), if mp then 1 else 0, y]) (fun _ S1 => SX s S0 (l ++ ([if mp then 123 else 91] ++ wbd ln mp ind (wrF f w (ind + 1)) true (koS w (sg V i)) ++ wend ln mp ind)) S1) := by
        intro hl0 y hy
        have kk := k60 y hy
        rw [hl0] at kk ⊢
        cases mp
        · simp only [Bool.false_eq_true, if_false] at kk ⊢
          refine ev_up (fun n => e_X8_group_43) ?_
          unfold b_X8_group_43
          repeat' (first
            | with_reducible refine ev_gv ?_
            | with_reducible refine ev_gg ?_ ?_
            | with_reducible refine ev_ite (fun _ => ?_) (fun _ => ?_)
            | omega
            | assumption)
          all_goals exact kk
        · simp only [Bool.false_eq_true, if_false, if_true] at kk ⊢
          refine ev_up (fun n => e_X8_group_43) ?_
          unfold b_X8_group_43
          repeat' (first
            | with_reducible refine ev_gv ?_
            | with_reducible refine ev_gg ?_ ?_
            | with_reducible refine ev_ite (fun _ => ?_) (fun _ => ?_)
            | omega
            | assumption)
          all_goals exact kk
      have k23 : ∀ y : Int, (y = 0 ∧ koS w (sg V i) = kd (sg V i) ∨ y = 1 ∧ nk V i = 5 ∧ koS w (sg V i) = obS 100 none (kd (sg V i))) → Ev (fun m => f_X8_group m (d - 1) 23 S [((c : Nat) : Int), (i : Int), w, (ind : Int), ((s : Nat) : Int), if mp then 1 else 0, y]) (fun _ S1 => SX s S0 (l ++ ([if mp then 123 else 91] ++ wbd ln mp ind (wrF f w (ind + 1)) true (koS w (sg V i)) ++ wend ln mp ind)) S1) := by
        intro y hy
        unfold wli at hln
        rw [ekids] at hln
        by_cases hw2 : w = 2
        · by_cases hz1 : nz V i = 1
          · have hl0 : ln = false := by rw [← hln]; simp [hz1]
            have ec : cur (i + 1) (i + nz V i) = -1 := if_neg (by omega)
            have kk := k43 hl0 y hy
            refine ev_up (fun n => e_X8_group_23) ?_
            unfold b_X8_group_23
            repeat' (first
              | with_reducible refine ev_gv ?_
              | with_reducible refine ev_gg ?_ ?_
              | with_reducible refine ev_ite (fun _ => ?_) (fun _ => ?_)
              | refine ev_gcr (rd_as (t_first hc hv hw hi) ec) ?_
              | omega
              | assumption)
            all_goals exact kk
          · have hl1 : ln = true := by rw [← hln]; simp [hz1, hw2]
            have ec : cur (i + 1) (i + nz V i) = ((i + 1 : Nat) : Int) := if_pos (by have := hzz i; omega)
            have kk := k60 y hy
            rw [hl1] at kk ⊢
            cases mp
            · simp only [Bool.false_eq_true, if_false, if_true] at kk ⊢
              refine ev_up (fun n => e_X8_group_23) ?_
              unfold b_X8_group_23
              repeat' (first
                | with_reducible refine ev_gv ?_
                | with_reducible refine ev_gg ?_ ?_
                | with_reducible refine ev_ite (fun _ => ?_) (fun _ => ?_)
                | refine ev_gcr (rd_as (t_first hc hv hw hi) ec) ?_
                | omega
                | assumption)
              all_goals exact kk
            · simp only [if_true] at kk ⊢
              refine ev_up (fun n => e_X8_group_23) ?_
              unfold b_X8_group_23
              repeat' (first
                | with_reducible refine ev_gv ?_
                | with_reducible refine ev_gg ?_ ?_
                | with_reducible refine ev_ite (fun _ => ?_) (fun _ => ?_)
                | refine ev_gcr (rd_as (t_first hc hv hw hi) ec) ?_
                | omega
                | assumption)
              all_goals exact kk
        · have hl0 : ln = false := by rw [← hln]; simp [hw2]
          have kk := k43 hl0 y hy
          refine ev_up (fun n => e_X8_group_23) ?_
          unfold b_X8_group_23
          repeat' (first
            | with_reducible refine ev_gv ?_
            | with_reducible refine ev_gg ?_ ?_
            | with_reducible refine ev_ite (fun _ => ?_) (fun _ => ?_)
            | omega
            | assumption)
          all_goals exact kk
      have k0 : Ev (fun m => f_X8_group m (d - 1) 0 S [((c : Nat) : Int), (i : Int), w, (ind : Int), ((s : Nat) : Int)]) (fun _ S1 => SX s S0 (l ++ ([if mp then 123 else 91] ++ wbd ln mp ind (wrF f w (ind + 1)) true (koS w (sg V i)) ++ wend ln mp ind)) S1) := by
        have er := rk_sg hi (hzz i)
        by_cases h5 : nk V i = 5
        · have hm1 : mp = true := by rw [← hmp]; simp [h5]
          by_cases hw1 : w = 1
          · have kk := k23 1 (Or.inr ⟨rfl, h5, by unfold koS; rw [er, if_pos ⟨h5, hw1⟩]⟩)
            rw [hm1] at e5 kk ⊢
            simp only [if_true] at e5 kk ⊢
            refine ev_up (fun n => e_X8_group_0) ?_
            unfold b_X8_group_0
            repeat' (first
              | with_reducible refine ev_gv ?_
              | with_reducible refine ev_gg ?_ ?_
              | with_reducible refine ev_ite (fun _ => ?_) (fun _ => ?_)
              | refine ev_gcr (rd_as (t_is hc hv hin (by decide)) e5) ?_
              | omega
              | assumption)
            all_goals exact kk
          · have kk := k23 0 (Or.inl ⟨rfl, by unfold koS; rw [if_neg (fun z => hw1 z.2)]⟩)
            rw [hm1] at e5 kk ⊢
            simp only [if_true] at e5 kk ⊢
            refine ev_up (fun n => e_X8_group_0) ?_
            unfold b_X8_group_0
            repeat' (first
              | with_reducible refine ev_gv ?_
              | with_reducible refine ev_gg ?_ ?_
              | with_reducible refine ev_ite (fun _ => ?_) (fun _ => ?_)
              | refine ev_gcr (rd_as (t_is hc hv hin (by decide)) e5) ?_
              | omega
              | assumption)
            all_goals exact kk
        · have hm0 : mp = false := by rw [← hmp]; simp [h5]
          have kk := k23 0 (Or.inl ⟨rfl, by unfold koS; rw [er, if_neg (fun z => h5 z.1)]⟩)
          rw [hm0] at e5 kk ⊢
          simp only [Bool.false_eq_true, if_false] at e5 kk ⊢
          refine ev_up (fun n => e_X8_group_0) ?_
          unfold b_X8_group_0
          repeat' (first
            | with_reducible refine ev_gv ?_
            | with_reducible refine ev_gg ?_ ?_
            | with_reducible refine ev_ite (fun _ => ?_) (fun _ => ?_)
            | refine ev_gcr (rd_as (t_is hc hv hin (by decide)) e5) ?_
            | omega
            | assumption)
          all_goals exact kk
      refine ev_up (fun n => e_X8_value_0) ?_
      unfold b_X8_value_0
      repeat' (first
        | with_reducible refine ev_gv ?_
        | with_reducible refine ev_gg ?_ ?_
        | with_reducible refine ev_ite (fun _ => ?_) (fun _ => ?_)
        | refine ev_gcr (rd_as (t_kind hc hv hin) (kd_nat hi)) ?_
        | omega
        | assumption)
      refine ev_gc k0 (fun _ S1 h1 => ?_)
      exact ev_ret h1
end VAL
