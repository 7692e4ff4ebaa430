/-! BY KEYS: appendInOrder of the class, all of it -/
section ORD2
variable {S S0 : GS} {c c2 d : Nat} {V P : List ND}
theorem ao_86f {F f i : Nat} {y : Int} {x : ND} (hc : gT c) (hc2 : gT c2) (hd : 10 ≤ d) (hne : c2 ≠ c) (hv0 : TV S0 c2 V) (hy : inr y) (hi : i < V.length) (hf : F ≤ 12)
    (ihf : ∀ (k : Nat) (S : GS) (P : List ND), k ∈ kids V i → P.length + (soF f (sg V k)).length ≤ 100 → TY c S0 (P, false) S → Ev (fun n => f_X10_appendInOrder n (d - 1) 0 S [((c : Nat) : Int), ((c2 : Nat) : Int), (k : Int), 13 - (F : Int)]) (fun _ S1 => TY c S0 (P ++ soF f (sg V k), false) S1)) :
    ∀ (L : List Nat) (n q : Int) (E : List (List ND)) (S : GS), CuO c2 V i y n q L → (∀ k ∈ L, k ∈ kids V i) → 0 ≤ n → n ≤ 100 → P.length + 1 + E.flatten.length + ((L.map (fun k => soF f (sg V k))).flatten).length ≤ 100 → TY c S0 (P ++ x :: E.flatten, false) S → Ev (fun m => f_X10_appendInOrder m d 86 S [((c : Nat) : Int), ((c2 : Nat) : Int), (i : Int), 12 - (F : Int), (P.length : Int), y, q, n]) (fun _ S1 => TY c S0 (P ++ gpN x (E ++ L.map (fun k => soF f (sg V k))) (E ++ L.map (fun k => soF f (sg V k))).length, false) S1) := by
  intro L
  induction L with
  | nil =>
    intro n q E S hcu hL h0 h1 hl h
    obtain ⟨iq, hq⟩ := hcu
    rw [List.map_nil, List.append_nil]
    have fin : Ev (fun m => gc (f_X10_close m (d - 1) 0 S [((c : Nat) : Int), (P.length : Int)]) fun _ S_6 => some (0, S_6)) (fun _ S1 => TY c S0 (P ++ gpN x E E.length, false) S1) := by
      have lp : P.length ≤ 100 := by omega
      refine ev_gc (ty_close (d := d - 1) hc (by omega) h (by constructor <;> omega)) (fun _ S1 q1 => ?_)
      rw [clo_y] at q1
      have e : gpN x E E.length = wZ x (1 + E.flatten.length) :: E.flatten := by
        unfold gpN
        rw [List.take_length]
      rw [e]
      exact ev_ret q1
    refine ev_up (fun n => e_X10_appendInOrder_86) ?_
    unfold b_X10_appendInOrder_86
    refine ev_gg (by constructor <;> omega) ?_
    refine ev_ite (fun z => ?_) (fun z => ?_)
    · refine ev_gg (by omega) ?_
      refine ev_gg hc ?_
      exact fin
    · refine ev_gg iq ?_
      refine ev_ite (fun _ => ?_) (fun w => by rcases hq with a | a; exact absurd a w; omega)
      refine ev_gg (by omega) ?_
      refine ev_gg hc ?_
      exact fin
  | cons k L ih =>
    intro n q E S hcu hL h0 h1 hl h
    obtain ⟨hq, hk, hn, q', hnx, hcu'⟩ := hcu
    have lV : V.length ≤ 100 := tv_l hv0
    rw [List.map_cons] at hl ⊢
    rw [List.flatten_cons, List.length_append] at hl
    have go := ihf k S (P ++ x :: E.flatten) (hL k List.mem_cons_self) (by rw [List.length_append, List.length_cons]; omega) h
    have nx : ∀ S1, TY c S0 (P ++ x :: E.flatten ++ soF f (sg V k), false) S1 → Ev (fun m => f_X10_appendInOrder m d 86 S1 [((c : Nat) : Int), ((c2 : Nat) : Int), (i : Int), 12 - (F : Int), (P.length : Int), y, q', n + 1]) (fun _ S1 => TY c S0 (P ++ gpN x (E ++ soF f (sg V k) :: L.map (fun k => soF f (sg V k))) (E ++ soF f (sg V k) :: L.map (fun k => soF f (sg V k))).length, false) S1) := by
      intro S1 q1
      have e1 : P ++ x :: E.flatten ++ soF f (sg V k) = P ++ x :: (E ++ [soF f (sg V k)]).flatten := by
        rw [List.flatten_append]
        simp
      rw [e1] at q1
      have l1 : (E ++ [soF f (sg V k)]).flatten.length = E.flatten.length + (soF f (sg V k)).length := by
        rw [List.flatten_append, List.length_append]
        simp
      have := ih (n + 1) q' (E ++ [soF f (sg V k)]) S1 hcu' (fun j hj => hL j (List.mem_cons_of_mem _ hj)) (by omega) (by omega) (by omega) q1
      rw [List.append_assoc] at this
      exact this
    subst hq
    refine ev_up (fun n => e_X10_appendInOrder_86) ?_
    unfold b_X10_appendInOrder_86
    refine ev_gg (by constructor <;> omega) ?_
    refine ev_ite (fun z => by omega) (fun _ => ?_)
    refine ev_gg (by constructor <;> omega) ?_
    refine ev_ite (fun z => by omega) (fun _ => ?_)
    refine ev_gv ?_
    refine ev_gg (by omega) ?_
    refine ev_gg hc ?_
    rw [show 12 - (F : Int) + 1 = 13 - (F : Int) by omega]
    refine ev_gc go (fun _ S1 q1 => ?_)
    have hv1 := tv_ty hc hc2 hne hv0 q1
    have st := hnx (d - 1) S1 (by omega) hv1
    refine ev_gg hy ?_
    refine ev_ite (fun z => ?_) (fun z => ?_)
    · refine ev_gg hc2 ?_
      refine ev_gcr (st.1 z) ?_
      refine ev_gv ?_
      exact nx S1 q1
    · refine ev_gg hc2 ?_
      refine ev_gcr (st.2 z) ?_
      refine ev_gv ?_
      exact nx S1 q1
theorem ob_in {V : List ND} {i : Nat} (hw : WF V) (hz : PZL V) (hi : i < V.length) : ∀ (F : Nat) (last : Int), (last = -1 ∨ (0 ≤ last ∧ last < (V.length : Int))) → ∀ k ∈ obK F V last (kids V i), k ∈ kids V i := by
  have nb : ∀ (L : List Nat) (last least : Int), (least = -1 ∨ ∃ k ∈ kids V i, least = (k : Int)) → (∀ k ∈ L, k ∈ kids V i) → nbK V last least L = -1 ∨ ∃ k ∈ kids V i, nbK V last least L = (k : Int) := by
    intro L
    induction L with
    | nil => intro last least h _; exact h
    | cons a L ih =>
      intro last least h hL
      unfold nbK
      split
      · exact ih last (a : Int) (Or.inr ⟨a, hL a List.mem_cons_self, rfl⟩) (fun k hk => hL k (List.mem_cons_of_mem _ hk))
      · exact ih last least h (fun k hk => hL k (List.mem_cons_of_mem _ hk))
  intro F
  induction F with
  | zero => intro last _ k hk; cases hk
  | succ F ih =>
    intro last hl k hk
    unfold obK at hk
    rcases nb (kids V i) last (-1) (Or.inl rfl) (fun k hk => hk) with q | ⟨j, hj, q⟩
    · rw [if_pos q] at hk; cases hk
    · rw [if_neg (by omega), q, Int.toNat_natCast] at hk
      rcases List.mem_cons.mp hk with z | z
      · rw [z]; exact hj
      · exact ih (j : Int) (Or.inr (by have := kids_in hw (pz_l hz) hi hj; omega)) k z
theorem ty_inOrder (hc : gT c) (hc2 : gT c2) (hne : c2 ≠ c) (hv0 : TV S0 c2 V) (hw : WF V) : ∀ (f g i d : Nat) (S : GS) (P : List ND), i < V.length → dpS g (sg V i) ≤ f → f < g → f ≤ 12 → f + 14 ≤ d → P.length + (soF f (sg V i)).length ≤ 100 → TY c S0 (P, false) S → Ev (fun n => f_X10_appendInOrder n d 0 S [((c : Nat) : Int), ((c2 : Nat) : Int), (i : Int), 12 - (f : Int)]) (fun _ S1 => TY c S0 (P ++ soF f (sg V i), false) S1) := by
  have hz := nr_pzl hv0.2.2.2
  have hzz := pz_l hz
  have lV := tv_l hv0
  -- up to the VALUES
  have head : ∀ (f i d : Nat) (S : GS) (P : List ND) (Q : Int → GS → Prop), i < V.length → f ≤ 12 → 14 ≤ d → P.length < 100 → TY c S0 (P, false) S → (∀ S1, TY c S0 (P ++ [V.getD i nd0], false) S1 → nk V i ≠ 4 → nk V i ≠ 5 → Ev (fun n => f_X10_appendInOrder n d 86 S1 [((c : Nat) : Int), ((c2 : Nat) : Int), (i : Int), 12 - (f : Int), (P.length : Int), 0, -1, 0]) Q) → (∀ S1, TY c S0 (P ++ [V.getD i nd0], false) S1 → nk V i = 5 → Ev (fun n => f_X10_appendInOrder n d 86 S1 [((c : Nat) : Int), ((c2 : Nat) : Int), (i : Int), 12 - (f : Int), (P.length : Int), 0, nbK V (-1) (-1) (kids V i), 0]) Q) → (∀ S1, TY c S0 (P ++ [V.getD i nd0], false) S1 → nk V i = 4 → Ev (fun n => f_X10_appendInOrder n d 86 S1 [((c : Nat) : Int), ((c2 : Nat) : Int), (i : Int), 12 - (f : Int), (P.length : Int), 1, cur (i + 1) (i + nz V i), 0]) Q) → Ev (fun n => f_X10_appendInOrder n d 0 S [((c : Nat) : Int), ((c2 : Nat) : Int), (i : Int), 12 - (f : Int)]) Q := by
    intro f i d S P Q hi hf hd hP h k1 k2 k3
    have hv := tv_ty hc hc2 hne hv0 h
    have n7 := tv_n h.1
    have n7' : S.1 c 7 = (P.length : Int) := n7
    have ha := t_has (S := S) (V := V) (d := d - 1) (i := (i : Int)) hc2 hv (by constructor <;> omega)
    rw [if_pos (by omega)] at ha
    refine ev_up (fun n => e_X10_appendInOrder_0) ?_
    unfold b_X10_appendInOrder_0
    refine ev_gg (by omega) ?_
    refine ev_gg hc2 ?_
    refine ev_gcr ha ?_
    refine ev_gg (by decide) ?_
    refine ev_ite (fun z => absurd z (by decide)) (fun _ => ?_)
    refine ev_gg hc ?_
    refine ev_gv ?_
    rw [n7']
    refine ev_gg (by constructor <;> omega) ?_
    refine ev_ite (fun z => by omega) (fun _ => ?_)
    refine ev_gg (by constructor <;> omega) ?_
    refine ev_ite (fun _ => ?_) (fun z => by omega)
    refine ev_gv ?_
    refine ty_copy1 (d := d) hc hc2 hne hv hi hP h (fun S1 q1 => ?_)
    have hv1 := tv_ty hc hc2 hne hv0 q1
    refine ev_gcr (rd_as (t_is (S := S1) (V := V) (d := d - 1) (i := (i : Int)) (k := 4) hc2 hv1 (by constructor <;> omega) (by decide)) (is_kd (by decide))) ?_
    rw [kd_nat hi]
    by_cases c4 : nk V i = 4
    · rw [if_pos c4]
      refine ev_gg (by decide) ?_
      refine ev_ite (fun z => absurd z (by decide)) (fun _ => ?_)
      refine ev_gcr (t_first (V := V) (d := d - 1) hc2 hv1 hw hi) ?_
      exact k3 S1 q1 c4
    · rw [if_neg c4]
      refine ev_gg (by decide) ?_
      refine ev_ite (fun _ => ?_) (fun z => absurd rfl z)
      by_cases c5 : nk V i = 5
      · refine ev_gcr (t_nextByKey (V := V) (d := d - 1) hc2 hv1 hw hi (by omega) c5 (Or.inl rfl)) ?_
        exact k2 S1 q1 c5
      · refine ev_gcr (t_nextByKeyN (V := V) (d := d - 1) hc2 hv1 hw hi (by omega) c5) ?_
        exact k1 S1 q1 c4 c5
  have root : ∀ i, i < V.length → (sg V i).getD 0 nd0 = V.getD i nd0 := fun i hi => sg_root hi (hzz i)
  have rke : ∀ i, i < V.length → rk (sg V i) = nk V i := fun i hi => by
    show ((sg V i).getD 0 nd0).1 = (V.getD i nd0).1
    rw [root i hi]
  -- what is no group
  have leafE : ∀ (i d : Nat) (f : Nat) (S : GS) (P : List ND), i < V.length → f ≤ 12 → 14 ≤ d → P.length < 100 → TY c S0 (P ++ [V.getD i nd0], false) S → Ev (fun n => f_X10_appendInOrder n d 86 S [((c : Nat) : Int), ((c2 : Nat) : Int), (i : Int), 12 - (f : Int), (P.length : Int), 0, -1, 0]) (fun _ S1 => TY c S0 (P ++ gpN (V.getD i nd0) [] 0, false) S1) := by
    intro i d f S P hi hf hd hP h
    have e0 : P ++ [V.getD i nd0] = P ++ V.getD i nd0 :: ([] : List (List ND)).flatten := rfl
    rw [e0] at h
    refine ev_up (fun n => e_X10_appendInOrder_86) ?_
    unfold b_X10_appendInOrder_86
    refine ev_gg (by decide) ?_
    refine ev_ite (fun z => absurd z (by decide)) (fun _ => ?_)
    refine ev_gg (by decide) ?_
    refine ev_ite (fun _ => ?_) (fun z => absurd rfl z)
    refine ev_gg (by omega) ?_
    refine ev_gg hc ?_
    refine ev_gc (ty_close (d := d - 1) hc (by omega) h (by constructor <;> omega)) (fun _ S1 q1 => ?_)
    rw [clo_y] at q1
    exact ev_ret q1
  intro f
  induction f with
  | zero =>
    intro g i d S P hi hdp hg hf hd hl h
    have hk : rk (sg V i) < 4 := by
      cases g with
      | zero => omega
      | succ g =>
        unfold dpS at hdp
        by_cases q : 4 ≤ rk (sg V i)
        · rw [if_pos q] at hdp
          have := (foldl_max (g := dpS g) (kd (sg V i)) 0).1
          omega
        · omega
    rw [rke i hi] at hk
    have e : soF 0 (sg V i) = gpN (V.getD i nd0) [] 0 := by
      show gpN ((sg V i).getD 0 nd0) [] 0 = _
      rw [root i hi]
    rw [e] at hl ⊢
    rw [gp_len] at hl
    exact head 0 i d S P _ hi (by omega) (by omega) (by omega) h (fun S1 q1 _ _ => leafE i d 0 S1 P hi (by omega) (by omega) (by omega) q1) (fun S1 q1 c5 => by omega) (fun S1 q1 c4 => by omega)
  | succ f ih =>
    intro g i d S P hi hdp hg hf hd hl h
    have eS : soF (f + 1) (sg V i) = gpN (V.getD i nd0) ((koS 1 (sg V i)).map (soF f)) ((koS 1 (sg V i)).map (soF f)).length := by
      rw [soF_s, root i hi]
    rw [eS] at hl ⊢
    rw [gp_len] at hl
    have kdE : kd (sg V i) = (kids V i).map (sg V) := kd_sg hz hw hi
    obtain ⟨g, rfl⟩ : ∃ g', g = g' + 1 := ⟨g - 1, by omega⟩
    have ihk : 4 ≤ nk V i → ∀ (k : Nat) (S : GS) (P : List ND), k ∈ kids V i → P.length + (soF f (sg V k)).length ≤ 100 → TY c S0 (P, false) S → Ev (fun n => f_X10_appendInOrder n (d - 1) 0 S [((c : Nat) : Int), ((c2 : Nat) : Int), (k : Int), 13 - ((f + 1 : Nat) : Int)]) (fun _ S1 => TY c S0 (P ++ soF f (sg V k), false) S1) := by
      intro h4 k S P hk hl' h'
      have hkd := dpS_kd (g := g) (f := (f : Int)) (by simpa using hdp) (by rw [rke i hi]; exact h4)
      have := ih g k (d - 1) S P (kids_in hw hzz hi hk) (hkd _ (by rw [kdE]; exact List.mem_map_of_mem hk)) (by omega) (by omega) (by omega) hl' h'
      rw [show (13 : Int) - ((f + 1 : Nat) : Int) = 12 - (f : Int) by omega]
      exact this
    have grp : ∀ (L : List Nat) (y q : Int) (S1 : GS), (koS 1 (sg V i)) = L.map (sg V) → 4 ≤ nk V i → inr y → CuO c2 V i y 0 q L → (∀ k ∈ L, k ∈ kids V i) → TY c S0 (P ++ [V.getD i nd0], false) S1 → Ev (fun n => f_X10_appendInOrder n d 86 S1 [((c : Nat) : Int), ((c2 : Nat) : Int), (i : Int), 12 - ((f + 1 : Nat) : Int), (P.length : Int), y, q, 0]) (fun _ S1 => TY c S0 (P ++ gpN (V.getD i nd0) ((koS 1 (sg V i)).map (soF f)) ((koS 1 (sg V i)).map (soF f)).length, false) S1) := by
      intro L y q S1 eL h4 hy hcu hL q1
      have eM : (koS 1 (sg V i)).map (soF f) = L.map (fun k => soF f (sg V k)) := by rw [eL, List.map_map]; rfl
      rw [eM] at hl ⊢
      have ih' : ∀ (k : Nat) (S : GS) (P : List ND), k ∈ kids V i → P.length + (soF f (sg V k)).length ≤ 100 → TY c S0 (P, false) S → Ev (fun n => f_X10_appendInOrder n (d - 1) 0 S [((c : Nat) : Int), ((c2 : Nat) : Int), (k : Int), 13 - ((f + 1 : Nat) : Int)]) (fun _ S1 => TY c S0 (P ++ soF f (sg V k), false) S1) := ihk h4
      have lp : ∀ (L : List Nat) (n q : Int) (E : List (List ND)) (S : GS), CuO c2 V i y n q L → (∀ k ∈ L, k ∈ kids V i) → 0 ≤ n → n ≤ 100 → P.length + 1 + E.flatten.length + ((L.map (fun k => soF f (sg V k))).flatten).length ≤ 100 → TY c S0 (P ++ V.getD i nd0 :: E.flatten, false) S → Ev (fun m => f_X10_appendInOrder m d 86 S [((c : Nat) : Int), ((c2 : Nat) : Int), (i : Int), 12 - ((f + 1 : Nat) : Int), (P.length : Int), y, q, n]) (fun _ S1 => TY c S0 (P ++ gpN (V.getD i nd0) (E ++ L.map (fun k => soF f (sg V k))) (E ++ L.map (fun k => soF f (sg V k))).length, false) S1) := ao_86f hc hc2 (by omega) hne hv0 hy hi hf ih'
      have := lp L 0 q [] S1 hcu hL (by decide) (by decide) (by simp only [List.flatten_nil, List.length_nil]; omega) q1
      rw [List.nil_append] at this
      exact this
    refine head (f + 1) i d S P _ hi (by omega) (by omega) (by omega) h (fun S1 q1 n4 n5 => ?_) (fun S1 q1 c5 => ?_) (fun S1 q1 c4 => ?_)
    · have nr := tv_r hv0 hi
      have kz : kids V i = [] := by
        have := hw.2.2 i hi (by have := nr.1; have := nr.2.1; show (V.getD i nd0).1 < 4; unfold nk at n4 n5; omega)
        unfold kids
        exact ks_nil (by omega)
      have ek : koS 1 (sg V i) = [] := by
        unfold koS
        rw [rke i hi, if_neg (fun z => n5 z.1), kdE, kz]
        rfl
      rw [ek]
      exact leafE i d (f + 1) S1 P hi (by omega) (by omega) (by omega) q1
    · have eo := (obK_S hz (K := kids V i) (fun k hk => kids_in hw hzz hi hk) 100 (-1) none (Or.inl ⟨rfl, rfl⟩)).1
      refine grp (obK 100 V (-1) (kids V i)) 0 _ S1 ?_ (by omega) (by decide) (co_map hc2 hw hz hi lV c5 100 (-1) 0 (by decide) (by decide) (Or.inl rfl)) (ob_in hw hz hi 100 (-1) (Or.inl rfl)) q1
      unfold koS
      rw [rke i hi, if_pos ⟨c5, rfl⟩, kdE, eo]
    · have wi := hw.1 i hi
      have zi := hzz i
      refine grp (kids V i) 1 _ S1 ?_ (by omega) (by decide) (co_row hc2 hw hzz hi lV _ (i + 1) 0 (Nat.lt_succ_self _) (by omega) (by decide) (by omega)) (fun k hk => hk) q1
      unfold koS
      rw [rke i hi, if_neg (fun z => by have := z.1; omega), kdE]
end ORD2
