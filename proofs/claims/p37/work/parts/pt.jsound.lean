/-! what joining makes is sound -/
theorem vLk_key {V : List ND} {n : Int} {q : List Int} (h : vLk V n q ≠ -1) : nq V (vLk V n q).toNat = q := by
  unfold vLk at h ⊢
  by_cases c : 0 ≤ n ∧ n < (V.length : Int)
  · rw [if_pos c] at h ⊢
    rcases fdK_mem (V := V) (key := q) (kidsM V n.toNat) with z | ⟨k, _, z, e⟩
    · exact absurd z h
    · rw [z, Int.toNat_natCast]
      exact e
  · rw [if_neg c] at h
    exact absurd rfl h
/-- sound, with that KEY, one at most -/
abbrev JG (w : List Int) (L : List (List ND)) : Prop := L.length ≤ 1 ∧ ∀ t ∈ L, ((TR t ∧ PZL t) ∧ (t.length ≤ 100 → SDC t)) ∧ rq t = w
abbrev JH (O A B : List ND) (g : List Int → Int → Int → Int → JR) : Prop := ∀ (p w : List Int) (o a b : Int), nOK O o → nOK A a → nOK B b → (a ≠ -1 → nq A a.toNat = w) → (b ≠ -1 → nq B b.toNat = w) → JG w (g p o a b).1
theorem jg_act {V : List ND} {v : Int} {w : List Int} (hV : SDC V) (hv : nOK V v) (e : v ≠ -1 → nq V v.toNat = w) : JG w (acT V v) := by
  unfold acT
  by_cases c : v = -1
  · rw [if_pos c]
    exact ⟨Nat.zero_le _, fun t ht => by cases ht⟩
  · rw [if_neg c]
    refine ⟨Nat.le_refl _, fun t ht => ?_⟩
    rw [List.mem_singleton] at ht
    subst ht
    have hl : v.toNat < V.length := by omega
    have sv := sdc_sg V.length V (Nat.le_refl _) hV _ hl
    exact ⟨⟨sv.1, fun _ => sv⟩, (rq_sg hl (pz_l hV.1.2 _)).trans (e c)⟩
section JSO
variable {O A B : List ND}
theorem jk_1 {g : List Int → Int → Int → Int → JR} {a b : Int} {p : List Int} (hg : JH O A B g) (wA : WF A) (zA : PZ A) (wB : WF B) (zB : PZ B) : ∀ (K : List Nat), (∀ c ∈ K, c < O.length) → (∀ t ∈ (j1F g O A B a b p K).1, (TR t ∧ PZL t) ∧ (t.length ≤ 100 → SDC t)) ∧ ((j1F g O A B a b p K).1.map rq).Sublist (K.map (nq O))
  | [], _ => ⟨fun t ht => (by cases ht), List.Sublist.refl _⟩
  | c :: K, hK => by
    obtain ⟨i1, i2⟩ := jk_1 (a := a) (b := b) (p := p) hg wA zA wB zB K (fun c hc => hK c (List.mem_cons_of_mem _ hc))
    have cl := hK c List.mem_cons_self
    have j := hg (p ++ stp O c) (nq O c) (c : Int) (vLk A a (nq O c)) (vLk B b (nq O c)) (Or.inr ⟨by omega, by omega⟩) (vLk_r wA zA a _) (vLk_r wB zB b _) vLk_key vLk_key
    have e : (j1F g O A B a b p (c :: K)).1 = (g (p ++ stp O c) (c : Int) (vLk A a (nq O c)) (vLk B b (nq O c))).1 ++ (j1F g O A B a b p K).1 := rfl
    rw [e]
    generalize (g (p ++ stp O c) (c : Int) (vLk A a (nq O c)) (vLk B b (nq O c))).1 = L at j
    refine ⟨fun t ht => (List.mem_append.mp ht).elim (fun z => (j.2 t z).1) (i1 t), ?_⟩
    rw [List.map_append, List.map_cons]
    match L, j with
    | [], _ => exact List.Sublist.cons _ i2
    | [t], j =>
      have := (j.2 t List.mem_cons_self).2
      show (rq t :: (j1F g O A B a b p K).1.map rq).Sublist (nq O c :: K.map (nq O))
      rw [this]
      exact List.Sublist.cons_cons _ i2
    | _ :: _ :: _, j => exact absurd j.1 (by simp)
theorem jk_2 {g : List Int → Int → Int → Int → JR} {o b : Int} {p : List Int} (hg : JH O A B g) (wB : WF B) (zB : PZ B) : ∀ (K : List Nat), (∀ c ∈ K, c < A.length) → (∀ t ∈ (j2F g O A B o b p K).1, ((TR t ∧ PZL t) ∧ (t.length ≤ 100 → SDC t)) ∧ vLk O o (rq t) = -1) ∧ ((j2F g O A B o b p K).1.map rq).Sublist (K.map (nq A))
  | [], _ => ⟨fun t ht => (by cases ht), List.Sublist.refl _⟩
  | c :: K, hK => by
    obtain ⟨i1, i2⟩ := jk_2 (o := o) (b := b) (p := p) hg wB zB K (fun c hc => hK c (List.mem_cons_of_mem _ hc))
    have cl := hK c List.mem_cons_self
    have e : j2F g O A B o b p (c :: K) = if vLk O o (nq A c) = -1 then ((g (p ++ stp A c) (-1) (c : Int) (vLk B b (nq A c))).1 ++ (j2F g O A B o b p K).1, (g (p ++ stp A c) (-1) (c : Int) (vLk B b (nq A c))).2 ++ (j2F g O A B o b p K).2) else j2F g O A B o b p K := rfl
    rw [e]
    by_cases v : vLk O o (nq A c) = -1
    · rw [if_pos v]
      have j := hg (p ++ stp A c) (nq A c) (-1) (c : Int) (vLk B b (nq A c)) (Or.inl rfl) (Or.inr ⟨by omega, by omega⟩) (vLk_r wB zB b _) (fun _ => by rw [Int.toNat_natCast]) vLk_key
      dsimp only
      generalize (g (p ++ stp A c) (-1) (c : Int) (vLk B b (nq A c))).1 = L at j
      refine ⟨fun t ht => (List.mem_append.mp ht).elim (fun z => ⟨(j.2 t z).1, by rw [(j.2 t z).2]; exact v⟩) (i1 t), ?_⟩
      rw [List.map_append, List.map_cons]
      match L, j with
      | [], _ => exact List.Sublist.cons _ i2
      | [t], j =>
        have := (j.2 t List.mem_cons_self).2
        show (rq t :: (j2F g O A B o b p K).1.map rq).Sublist (nq A c :: K.map (nq A))
        rw [this]
        exact List.Sublist.cons_cons _ i2
      | _ :: _ :: _, j => exact absurd j.1 (by simp)
    · rw [if_neg v]
      exact ⟨i1, List.Sublist.cons _ i2⟩
theorem jk_3 {o a : Int} (hB : SDC B) : ∀ (K : List Nat), (∀ c ∈ K, c < B.length) → (∀ t ∈ j3F O A B o a K, ((TR t ∧ PZL t) ∧ (t.length ≤ 100 → SDC t)) ∧ vLk O o (rq t) = -1 ∧ vLk A a (rq t) = -1) ∧ ((j3F O A B o a K).map rq).Sublist (K.map (nq B))
  | [], _ => ⟨fun t ht => (by cases ht), List.Sublist.refl _⟩
  | c :: K, hK => by
    obtain ⟨i1, i2⟩ := jk_3 (o := o) (a := a) hB K (fun c hc => hK c (List.mem_cons_of_mem _ hc))
    have cl := hK c List.mem_cons_self
    have e : j3F O A B o a (c :: K) = (if vLk O o (nq B c) = -1 ∧ vLk A a (nq B c) = -1 then [sg B c] else []) ++ j3F O A B o a K := rfl
    rw [e]
    by_cases v : vLk O o (nq B c) = -1 ∧ vLk A a (nq B c) = -1
    · rw [if_pos v]
      have sv := sdc_sg B.length B (Nat.le_refl _) hB _ cl
      have rs := rq_sg cl (pz_l hB.1.2 c)
      refine ⟨fun t ht => (List.mem_append.mp ht).elim (fun z => ?_) (i1 t), ?_⟩
      · rw [List.mem_singleton] at z
        subst z
        rw [rs]
        exact ⟨⟨sv.1, fun _ => sv⟩, v⟩
      · show (rq (sg B c) :: (j3F O A B o a K).map rq).Sublist (nq B c :: K.map (nq B))
        rw [rs]
        exact List.Sublist.cons_cons _ i2
    · rw [if_neg v]
      exact ⟨i1, List.Sublist.cons _ i2⟩
theorem kI_n {V : List ND} {a : Int} (h : 0 ≤ a ∧ a < (V.length : Int)) : kI V a = nq V a.toNat := by
  unfold kI
  rw [if_pos h]
theorem jn_ok (hO : DOC O) (hA : DOC A) (hB : DOC B) : ∀ (f : Nat), JH O A B (jnF O A B f)
  | 0 => fun p w o a b ho ha hb ka kb => by
    have e : jnF O A B 0 p o a b = if alk A a B b ∨ alk B b O o then (acT A a, []) else if alk A a O o then (acT B b, []) else ([], [p]) := rfl
    rw [e]
    split
    · exact jg_act hA.1 ha ka
    · split
      · exact jg_act hB.1 hb kb
      · exact ⟨Nat.zero_le _, fun t ht => by cases ht⟩
  | f + 1 => fun p w o a b ho ha hb ka kb => by
    rw [jnF_s]
    by_cases c0 : alk A a B b ∨ alk B b O o
    · rw [if_pos c0]
      exact jg_act hA.1 ha ka
    rw [if_neg c0]
    by_cases c1 : alk A a O o
    · rw [if_pos c1]
      exact jg_act hB.1 hb kb
    rw [if_neg c1]
    by_cases c2 : kdI A a = 5 ∧ kdI B b = 5 ∧ (o = -1 ∨ kdI O o = 5)
    · rw [if_pos c2]
      have k5 := kd_5 c2.1 (by decide)
      have l5 := kd_5 c2.2.1 (by decide)
      have hm : mpO O o := c2.2.2.elim Or.inl (fun z => Or.inr (kd_5 z (by decide)))
      have ih := jn_ok hO hA hB f
      have zO := pz_l hO.1.1.2
      have zA := pz_l hA.1.1.2
      have zB := pz_l hB.1.1.2
      have ia : kidI A a = kids A a.toNat := by unfold kidI; rw [if_neg (by omega)]
      have ib : kidI B b = kids B b.toNat := by unfold kidI; rw [if_neg (by omega)]
      obtain ⟨x1, x2⟩ := jk_1 (a := a) (b := b) (p := p) ih hA.1.1.1.1 zA hB.1.1.1.1 zB (kidI O o) (kidI_in hO.1.1.1.1 zO hm)
      obtain ⟨y1, y2⟩ := jk_2 (o := o) (b := b) (p := p) ih hB.1.1.1.1 zB (kidI A a) (by rw [ia]; exact fun c hc => (kid_in3 hA.1.1.1.1 zA (by omega) hc).2.1)
      obtain ⟨z1, z2⟩ := jk_3 (O := O) (A := A) (o := o) (a := a) hB.1 (kidI B b) (by rw [ib]; exact fun c hc => (kid_in3 hB.1.1.1.1 zB (by omega) hc).2.1)
      have uO : ((kidI O o).map (nq O)).Nodup := by
        rcases hm with z | z
        · unfold kidI
          rw [if_pos z]
          exact List.nodup_nil
        · unfold kidI
          rw [if_neg (by omega)]
          exact kuv_sdc hO.1 _ (by omega) z.2.2
      have uA : ((kidI A a).map (nq A)).Nodup := by rw [ia]; exact kuv_sdc hA.1 _ (by omega) k5.2.2
      have uB : ((kidI B b).map (nq B)).Nodup := by rw [ib]; exact kuv_sdc hB.1 _ (by omega) l5.2.2
      have vA : ∀ q, vLk A a q = -1 → q ∉ (kidI A a).map (nq A) := fun q h => by
        rw [ia]
        have e : a = ((a.toNat : Nat) : Int) := by omega
        rw [e, vLk_c (by omega) k5.2.2] at h
        exact fdK_m1 _ h
      generalize (j1F (jnF O A B f) O A B a b p (kidI O o)).1 = E1 at *
      generalize (j2F (jnF O A B f) O A B o b p (kidI A a)).1 = E2 at *
      generalize j3F O A B o a (kidI B b) = E3 at *
      have all : ∀ t ∈ E1 ++ E2 ++ E3, (TR t ∧ PZL t) ∧ (t.length ≤ 100 → SDC t) := fun t ht => by
        rcases List.mem_append.mp ht with z | z
        · rcases List.mem_append.mp z with z | z
          · exact x1 t z
          · exact (y1 t z).1
        · exact (z1 t z).1
      have nd : ((E1 ++ E2 ++ E3).map rq).Nodup := by
        rw [List.map_append, List.map_append]
        have n1 := List.Sublist.nodup x2 uO
        have n2 := List.Sublist.nodup y2 uA
        have n3 := List.Sublist.nodup z2 uB
        rw [List.nodup_append, List.nodup_append]
        refine ⟨⟨n1, n2, ?_⟩, n3, ?_⟩
        · intro q hq q2 hq2 e
          subst e
          obtain ⟨t, ht, rfl⟩ := List.mem_map.mp hq2
          exact (vLk_m1 hm _).mp (y1 t ht).2 (x2.subset hq)
        · intro q hq q2 hq2 e
          subst e
          obtain ⟨t, ht, rfl⟩ := List.mem_map.mp hq2
          rcases List.mem_append.mp hq with z | z
          · exact (vLk_m1 hm _).mp (z1 t ht).2.1 (x2.subset z)
          · exact vA _ (z1 t ht).2.2 (y2.subset z)
      have nr := (hA.1.2.1 _ (nd_mem (i := a.toNat) (by omega))).1
      have ek : kI A a = nq A a.toNat := kI_n ⟨k5.1, k5.2.1⟩
      refine ⟨Nat.le_refl _, fun t ht => ?_⟩
      rw [List.mem_singleton] at ht
      subst ht
      have tr : TR (gpN (5, 1, 0, [], kI A a) (E1 ++ E2 ++ E3) (E1 ++ E2 ++ E3).length) := tr_gp (show (4 : Int) ≤ 5 by decide) (fun t ht => (all t ht).1.1)
      have pz : PZL (gpN (5, 1, 0, [], kI A a) (E1 ++ E2 ++ E3) (E1 ++ E2 ++ E3).length) := pzl_gp (fun t ht => (all t ht).1.2)
      refine ⟨⟨⟨tr, pz⟩, fun hl => ?_⟩, ?_⟩
      · have hl2 : (E1 ++ E2 ++ E3).flatten.length < 100 := by
          unfold gpN at hl
          rw [List.length_cons] at hl
          omega
        refine sdc_gp (show (4 : Int) ≤ 5 by decide) ⟨⟨show (0 : Int) ≤ 5 by decide, show (5 : Int) ≤ 5 by decide, Nat.le_refl 1, show 1 ≤ 100 by decide, show (-200 : Int) ≤ 0 by decide, show (0 : Int) ≤ 200 by decide, Nat.zero_le _, (fun y hy => by cases hy), by rw [ek]; exact nr.2.2.2.2.2.2.2.2.1, by rw [ek]; exact nr.2.2.2.2.2.2.2.2.2⟩, Or.inr (Or.inr (Or.inr (Or.inr ⟨show (4 : Int) ≤ 5 by decide, rfl, rfl⟩)))⟩ (fun t ht => ?_) (fun _ => nd) (fun z => absurd (show (5 : Int) = 4 from z) (by decide)) hl2
        have : t.length ≤ (E1 ++ E2 ++ E3).flatten.length := List.Sublist.length_le (List.sublist_flatten_of_mem ht)
        exact (all t ht).2 (by omega)
      · show kI A a = w
        rw [ek]
        exact ka (by omega)
    · rw [if_neg c2]
      exact ⟨Nat.zero_le _, fun t ht => by cases ht⟩
end JSO
