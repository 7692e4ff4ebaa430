/-! p37: the PATCH leads from the one to the other, and, turned round, back -/
theorem pt_else {f : Nat} {a b : List ND} (hb : SB (f : Int) b) (hq : rq a = rq b) : lyQ (fun c => SB (f : Int) c ∧ rq c = rq a ∧ c.length ≤ a.length + b.length) [(21, [], [b])] a b := by
  refine ⟨b, Or.inl ⟨rfl, b, rfl, ?_⟩, ⟨hb, hq.symm, by omega⟩, rfl⟩
  show b = kyT b (rq a)
  rw [hq, ky_self (sb_len1 hb)]
theorem sb_down {f : Nat} {T t : List ND} (h : SB ((f + 1 : Nat) : Int) T) (c4 : 4 ≤ rk T) (ht : t ∈ kd T) : SB (f : Int) t := sb_up (sb_kd h c4 ht) (by omega)
theorem sb_0 {T : List ND} (h : SB ((0 : Nat) : Int) T) : rk T < 4 := by
  by_cases c : 4 ≤ rk T
  · exfalso
    have := h.2.2 0
    unfold dpS at this
    rw [if_pos c] at this
    have : (1 : Int) ≤ ((0 : Nat) : Int) := this
    omega
  · omega
theorem pt_lay : ∀ (f : Nat) (a b : List ND), f ≤ 12 → SB (f : Int) a → SB (f : Int) b → a.length + b.length ≤ 100 → rq a = rq b → ∃ a', lyQ (fun c => SB (f : Int) c ∧ rq c = rq a ∧ c.length ≤ a.length + b.length) (ptN (f + 1) a b) a a' ∧ SB (f : Int) a' ∧ EK a' b
  | 0, a, b, hf, sa, sb, hl, hq => by
    have ka := sb_0 sa
    show ∃ a', lyQ _ (if smF 13 a b then [] else if rk a = 5 ∧ rk b = 5 then _ else if rk a = 4 ∧ rk b = 4 then _ else [(21, [], [b])]) a a' ∧ _
    by_cases c : smF 13 a b = true
    · rw [if_pos c]
      exact ⟨a, rfl, sa, (ek_sm (sb_up sa (by decide)) (sb_up sb (by decide)) hq).mp c⟩
    · rw [if_neg c, if_neg (by omega), if_neg (by omega)]
      exact ⟨b, pt_else sb hq, sb, rfl⟩
  | f + 1, a, b, hf, sa, sb, hl, hq => by
    have up : ∀ {T : List ND}, SB ((f + 1 : Nat) : Int) T → SB 12 T := fun h => sb_up h (by omega)
    show ∃ a', lyQ _ (if smF 13 a b then [] else if rk a = 5 ∧ rk b = 5 then rmP (kd b) (kd a) ++ gnP (ptN (f + 1)) (kd b) (kd a) ++ anP (kd a) (kd b) else if rk a = 4 ∧ rk b = 4 then rowP (kd a) (kd b) else [(21, [], [b])]) a a' ∧ _
    by_cases c : smF 13 a b = true
    · rw [if_pos c]
      exact ⟨a, rfl, sa, (ek_sm (up sa) (up sb) hq).mp c⟩
    rw [if_neg c]
    have la := kd_len sa.1.1
    have lb := kd_len sb.1.1
    have hx := sb_root sa
    have cv : ∀ T, PQ f (a.length + b.length) (rq a) T → SB ((f + 1 : Nat) : Int) T ∧ rq T = rq a ∧ T.length ≤ a.length + b.length := fun T h => h
    by_cases c5 : rk a = 5 ∧ rk b = 5
    · rw [if_pos c5]
      have ea := gp_self sa.1 (by omega)
      have sE : ∀ t ∈ kd a, SB (f : Int) t := fun t ht => sb_down sa (by omega) ht
      have sF : ∀ t ∈ kd b, SB (f : Int) t := fun t ht => sb_down sb (by omega) ht
      have ndE := sdc_nd sa.1 c5.1
      have ndF := sdc_nd sb.1 c5.2
      have p1 := mp_rm (x := a.getD 0 nd0) (f := f) (n := a.length + b.length) (q := rq a) (F := kd b) hx c5.1 (by omega) rfl hl (kd a) [] sE ndE (by rw [List.nil_append]; omega)
      obtain ⟨P2, us, vs, p2, s2, m2, h2, a5, a6, a7⟩ := mp_gn (x := a.getD 0 nd0) (f := f) (n := a.length + b.length) (q := rq a) (F := kd b) hx c5.1 (by omega) rfl hl (g := ptN (f + 1)) sF ndF (nE := (kd a).flatten.length) (by omega) (fun t u ht hu hlt htu => pt_lay f t u (by omega) ht hu hlt htu) (kd a) [] [] (kd b) sE ndE (Nat.le_refl _) rfl (List.Perm.refl _)
      -- what is left of b is what a has not
      have nF : (kd b).Nodup := List.Pairwise.of_map rq (fun _ _ h e => h (congrArg rq e)) ndF
      have nuv := List.nodup_append.mp (h2.nodup_iff.mpr nF)
      have f1 : us.filter (fun u => !(fdS (rq u) (kd a)).isSome) = [] := List.filter_eq_nil_iff.mpr (fun u hu z => by
        rcases a7 u hu with y | ⟨t, ht, et⟩
        · cases y
        · cases e : fdS (rq u) (kd a) with
          | none => exact fd_no e t ht et
          | some w => rw [e] at z; cases z)
      have f2 : vs.filter (fun u => !(fdS (rq u) (kd a)).isSome) = vs := List.filter_eq_self.mpr (fun v hv => by
        cases e : fdS (rq v) (kd a) with
        | none => rfl
        | some t =>
          exfalso
          obtain ⟨t1, t2⟩ := fdS_in _ _ e
          have vF : v ∈ kd b := h2.mem_iff.mp (List.mem_append_right _ hv)
          exact nuv.2.2 v (a5 t t1 v vF t2.symm) v hv rfl)
      have pf := h2.filter (fun u => !(fdS (rq u) (kd a)).isSome)
      rw [List.filter_append, f1, f2, List.nil_append] at pf
      have pm : ((P2 ++ (kd b).filter (fun u => !(fdS (rq u) (kd a)).isSome)).map nm).Perm ((kd b).map nm) := by
        rw [List.map_append, m2, ← List.map_append]
        exact ((List.Perm.append_left us pf.symm).trans h2).map nm
      have pq : ((P2 ++ (kd b).filter (fun u => !(fdS (rq u) (kd a)).isSome)).map rq).Perm ((kd b).map rq) := by
        have := pm.map rq
        rw [map_rq_nm, map_rq_nm] at this
        exact this
      have s3 : ∀ t ∈ P2 ++ (kd b).filter (fun u => !(fdS (rq u) (kd a)).isSome), SB (f : Int) t := fun t ht => by
        rcases List.mem_append.mp ht with z | z
        · exact s2 t z
        · exact sF t (List.mem_filter.mp z).1
      have l3 : (P2 ++ (kd b).filter (fun u => !(fdS (rq u) (kd a)).isSome)).flatten.length = (kd b).flatten.length := by
        rw [← flat_nm _ s3, ← flat_nm _ sF]
        exact flat_perm pm
      have p3 := mp_an (x := a.getD 0 nd0) (f := f) (n := a.length + b.length) (q := rq a) hx c5.1 (by omega) rfl hl (E := kd a) (kd b) P2 s3 (pq.nodup_iff.mpr ndF) (by omega)
      have g := gp_sb (x := a.getD 0 nd0) (f := f) (q := rq a) (n := a.length + b.length) hx (by omega) rfl s3 (by omega) hl (Or.inl ⟨c5.1, pq.nodup_iff.mpr ndF⟩)
      rw [List.nil_append, ← ea, List.nil_append] at p1
      rw [List.nil_append] at p2
      refine ⟨_, lyQ_mono cv _ _ _ (lyQ_app _ _ _ _ _ (lyQ_app _ _ _ _ _ p1 p2) p3), g.1, ?_⟩
      refine (ek_map (up g.1) (up sb) (show rk _ = 5 from c5.1)).mpr ⟨c5.2, g.2.1.trans hq, ?_⟩
      rw [kd_gp (fun t ht => (s3 t ht).1.1)]
      exact pm
    rw [if_neg c5]
    by_cases c4 : rk a = 4 ∧ rk b = 4
    · rw [if_pos c4]
      have ea := gp_self sa.1 (by omega)
      have sE : ∀ t ∈ kd a, SB (f : Int) t ∧ rq t = [] := fun t ht => ⟨sb_down sa (by omega) ht, row_q sa.1 c4.1 t ht⟩
      have sF : ∀ t ∈ kd b, SB (f : Int) t ∧ rq t = [] := fun t ht => ⟨sb_down sb (by omega) ht, row_q sb.1 c4.2 t ht⟩
      obtain ⟨k1, k2, k3⟩ := mk_ok (eq := eqN (kd a) (kd b)) (n := (kd a).length) (m := (kd b).length) 200 0 0
      have p1 := rw_rm (x := a.getD 0 nd0) (f := f) (n := a.length + b.length) (q := rq a) (E := kd a) hx c4.1 (by omega) rfl hl sE (by omega) (M := (mkP (eqN (kd a) (kd b)) (kd a).length (kd b).length 200 0 0).map Prod.fst) (kd a).length 0 (by omega)
      have es : selP (kd a) ((mkP (eqN (kd a) (kd b)) (kd a).length (kd b).length 200 0 0).map Prod.fst) (kd a).length 0 = (mkP (eqN (kd a) (kd b)) (kd a).length (kd b).length 200 0 0).map (fun p => (kd a).getD p.1 []) := by
        rw [sel_is (kd a).length 0 ((mkP (eqN (kd a) (kd b)) (kd a).length (kd b).length 200 0 0).map Prod.fst) (by omega) k2 (fun y hy => by
          obtain ⟨p, hp, rfl⟩ := List.mem_map.mp hy
          exact ⟨Nat.zero_le _, (k1 p hp).1.2⟩) (fun y _ => Iff.rfl), List.map_map]
        rfl
      have e0 : selP (kd a) ((mkP (eqN (kd a) (kd b)) (kd a).length (kd b).length 200 0 0).map Prod.fst) 0 (kd a).length = [] := rfl
      rw [es, e0, List.append_nil, List.take_length, ← ea] at p1
      obtain ⟨X', p2, s2, m2⟩ := rw_ad (x := a.getD 0 nd0) (f := f) (n := a.length + b.length) (q := rq a) (E := kd a) (F := kd b) hx c4.1 (by omega) rfl hl sE sF (by omega) (M := (mkP (eqN (kd a) (kd b)) (kd a).length (kd b).length 200 0 0).map Prod.snd) (kd b).length 0 [] (mkP (eqN (kd a) (kd b)) (kd a).length (kd b).length 200 0 0) (by omega) rfl (fun t ht => by cases ht) (fun p hp => by
        obtain ⟨b1, b2, b3⟩ := k1 p hp
        have m1 : (kd a).getD p.1 [] ∈ kd a := by
          rw [List.getD_eq_getElem?_getD, List.getElem?_eq_getElem b1.2]
          exact List.getElem_mem _
        have m2 : (kd b).getD p.2 [] ∈ kd b := by
          rw [List.getD_eq_getElem?_getD, List.getElem?_eq_getElem b2.2]
          exact List.getElem_mem _
        refine ⟨b1.2, b2, (ek_sm (sb_up (sE _ m1).1 (by omega)) (sb_up (sF _ m2).1 (by omega)) ((sE _ m1).2.trans (sF _ m2).2.symm)).mp b3⟩) k3 (fun y _ => Iff.rfl)
      rw [List.nil_append] at p2
      have l2 : X'.flatten.length = (kd b).flatten.length := by
        rw [← flat_nm X' (fun t ht => (s2 t ht).1), ← flat_nm (kd b) (fun t ht => (sF t ht).1), m2]
      have g := gp_sb (x := a.getD 0 nd0) (f := f) (q := rq a) (n := a.length + b.length) hx (by omega) rfl (fun t ht => (s2 t ht).1) (by omega) hl (Or.inr ⟨c4.1, fun t ht => (s2 t ht).2⟩)
      refine ⟨_, lyQ_mono cv _ _ _ (lyQ_app _ _ _ _ _ p1 p2), g.1, ?_⟩
      refine (ek_row (up g.1) (up sb) (show rk _ = 4 from c4.1)).mpr ⟨c4.2, g.2.1.trans hq, ?_⟩
      rw [kd_gp (fun t ht => (s2 t ht).1.1.1)]
      exact m2
    · rw [if_neg c4]
      exact ⟨b, pt_else sb hq, sb, rfl⟩
/-- parts of PATHS of a PATCH -/
theorem ky_seg {t : List ND} : sgOK (kyS t) := ⟨esc_no (rq t), esc_ok (rq t)⟩
theorem num_seg {k : Nat} (h : k < 100) : sgOK (wnum (k : Int)) := ⟨fg_no (num_fg h), fg_ok (num_fg h)⟩
theorem rvP_ok {M : List Nat} : ∀ (k : Nat), k ≤ 100 → ∀ o ∈ rvP M k, segOK o
  | 0, _, o, ho => by cases ho
  | k + 1, h, o, ho => by
    rcases List.mem_append.mp (show o ∈ (if k ∈ M then [] else [(25, [wnum (k : Int)], [])]) ++ rvP M k from ho) with z | z
    · split at z
      · cases z
      · simp only [List.mem_cons, List.not_mem_nil, or_false] at z
        rw [z]
        refine ⟨fun s hs => ?_, fun t ht => by cases ht⟩
        simp only [List.mem_cons, List.not_mem_nil, or_false] at hs
        rw [hs]
        exact num_seg (by omega)
    · exact rvP_ok k (by omega) o z
theorem adP_ok {F : List (List ND)} {M : List Nat} (hF : ∀ t ∈ F, TR t ∧ PZL t) (h100 : F.length ≤ 100) : ∀ (j k : Nat), k + j = F.length → ∀ o ∈ adP F M j k, segOK o
  | 0, k, _, o, ho => by cases ho
  | j + 1, k, h, o, ho => by
    rcases List.mem_append.mp (show o ∈ (if k ∈ M then [] else [(26, [wnum (k : Int)], [F.getD k []])]) ++ adP F M j (k + 1) from ho) with z | z
    · split at z
      · cases z
      · simp only [List.mem_cons, List.not_mem_nil, or_false] at z
        rw [z]
        refine ⟨fun s hs => ?_, fun t ht => ?_⟩
        · simp only [List.mem_cons, List.not_mem_nil, or_false] at hs
          rw [hs]
          exact num_seg (by omega)
        · simp only [List.mem_cons, List.not_mem_nil, or_false] at ht
          rw [ht]
          refine hF _ ?_
          rw [List.getD_eq_getElem?_getD, List.getElem?_eq_getElem (by omega)]
          exact List.getElem_mem _
    · exact adP_ok hF h100 j (k + 1) (by omega) o z
theorem pre_ok {s : List Int} {X : List SEG} (hs : sgOK s) (hX : ∀ o ∈ X, segOK o) : ∀ o ∈ pre1 s X, segOK o := fun o ho => by
  obtain ⟨p, hp, rfl⟩ := List.mem_map.mp ho
  refine ⟨fun t ht => ?_, (hX p hp).2⟩
  rcases List.mem_cons.mp ht with z | z
  · rw [z]; exact hs
  · exact (hX p hp).1 t z
theorem ptN_ok : ∀ (f : Nat) (a b : List ND), SB 12 a → SB 12 b → ∀ o ∈ ptN f a b, segOK o
  | 0, a, b, _, _, o, ho => by cases ho
  | f + 1, a, b, sa, sb, o, ho => by
    have ho : o ∈ (if smF 13 a b then [] else if rk a = 5 ∧ rk b = 5 then rmP (kd b) (kd a) ++ gnP (ptN f) (kd b) (kd a) ++ anP (kd a) (kd b) else if rk a = 4 ∧ rk b = 4 then rowP (kd a) (kd b) else [((21, [], [b]) : SEG)]) := ho
    have la := kd_len sa.1.1
    have lb := kd_len sb.1.1
    have l1 := sa.2.1
    have l2 := sb.2.1
    by_cases c : smF 13 a b = true
    · rw [if_pos c] at ho; cases ho
    rw [if_neg c] at ho
    by_cases c5 : rk a = 5 ∧ rk b = 5
    · rw [if_pos c5] at ho
      have sE := fun t (ht : t ∈ kd a) => sb_up (sb_kd sa (by omega) ht) (show (12 : Int) - 1 ≤ 12 by decide)
      have sF := fun t (ht : t ∈ kd b) => sb_up (sb_kd sb (by omega) ht) (show (12 : Int) - 1 ≤ 12 by decide)
      have one : ∀ (op : Nat) (t : List ND) (v : List (List ND)), (∀ u ∈ v, TR u ∧ PZL u) → segOK (op, [kyS t], v) := fun op t v hv => ⟨fun s hs => by
        simp only [List.mem_cons, List.not_mem_nil, or_false] at hs
        rw [hs]; exact ky_seg, hv⟩
      rcases List.mem_append.mp ho with z | z
      · rcases List.mem_append.mp z with z | z
        · obtain ⟨t, ht, z⟩ := List.mem_flatMap.mp z
          split at z
          · simp only [List.mem_cons, List.not_mem_nil, or_false] at z
            rw [z]
            exact one _ _ _ (fun u hu => by cases hu)
          · cases z
        · obtain ⟨t, ht, z⟩ := List.mem_flatMap.mp z
          cases e : fdS (rq t) (kd b) with
          | none => rw [e] at z; cases z
          | some u =>
            rw [e] at z
            exact pre_ok ky_seg (ptN_ok f t u (sE t ht) (sF u (fdS_in _ _ e).1)) o z
      · obtain ⟨u, hu, z⟩ := List.mem_flatMap.mp z
        split at z
        · simp only [List.mem_cons, List.not_mem_nil, or_false] at z
          rw [z]
          refine one _ _ _ (fun w hw => ?_)
          simp only [List.mem_cons, List.not_mem_nil, or_false] at hw
          rw [hw]; exact (sF u hu).1.1
        · cases z
    rw [if_neg c5] at ho
    by_cases c4 : rk a = 4 ∧ rk b = 4
    · rw [if_pos c4] at ho
      have lE : (kd a).length ≤ (kd a).flatten.length := os_le (fun t ht => (sdc_kd sa.1 ht).1)
      have lF : (kd b).length ≤ (kd b).flatten.length := os_le (fun t ht => (sdc_kd sb.1 ht).1)
      rcases List.mem_append.mp ho with z | z
      · exact rvP_ok _ (by omega) o z
      · exact adP_ok (fun t ht => (sdc_kd sb.1 ht).1) (by omega) _ 0 (by omega) o z
    · rw [if_neg c4] at ho
      simp only [List.mem_cons, List.not_mem_nil, or_false] at ho
      rw [ho]
      refine ⟨(fun s hs => by cases hs), fun t ht => ?_⟩
      simp only [List.mem_cons, List.not_mem_nil, or_false] at ht
      rw [ht]; exact sb.1.1
theorem toO_val {X : List SEG} (h : ∀ o ∈ X, segOK o) : ∀ o ∈ toO [] X, ∀ t ∈ o.2.2, TR t ∧ PZL t := fun o ho => by
  obtain ⟨p, hp, rfl⟩ := List.mem_map.mp ho
  exact (h p hp).2
/-- ORDERS as a DOCUMENT -/
theorem pc_tr {X : List ORD} (h : ∀ o ∈ X, ∀ t ∈ o.2.2, TR t ∧ PZL t) : ∀ t ∈ pcO X, TR t ∧ PZL t := fun t ht => by
  obtain ⟨o, ho, rfl⟩ := List.mem_map.mp ht
  have hv := h o ho
  have lf : ∀ x : ND, x.2.1 = 1 → TR [x] ∧ PZL [x] := fun x hx => ⟨tr_leaf hx, pzl_one hx⟩
  have hE : ∀ T ∈ [[((3, 1, 0, sx o.1, sx 22) : ND)], [(3, 1, 0, o.2.1, sx 23)]] ++ o.2.2.map (fun t => kyT t (sx 24)), TR T ∧ PZL T := fun T hT => by
    rcases List.mem_append.mp hT with z | z
    · simp only [List.mem_cons, List.not_mem_nil, or_false] at z
      rcases z with rfl | rfl
      · exact lf _ rfl
      · exact lf _ rfl
    · obtain ⟨t, ht, rfl⟩ := List.mem_map.mp z
      exact ⟨tr_ky (hv t ht).1, pzl_ky (hv t ht).1.2.1 (hv t ht).2⟩
  have el : (2 + o.2.2.length) = ([[((3, 1, 0, sx o.1, sx 22) : ND)], [(3, 1, 0, o.2.1, sx 23)]] ++ o.2.2.map (fun t => kyT t (sx 24))).length := by
    rw [List.length_append, List.length_map]
    rfl
  have eo : ordP o.1 o.2.1 o.2.2 = gpN (ndK 5) ([[((3, 1, 0, sx o.1, sx 22) : ND)], [(3, 1, 0, o.2.1, sx 23)]] ++ o.2.2.map (fun t => kyT t (sx 24))) ([[((3, 1, 0, sx o.1, sx 22) : ND)], [(3, 1, 0, o.2.1, sx 23)]] ++ o.2.2.map (fun t => kyT t (sx 24))).length := by
    unfold ordP
    rw [el]
  rw [eo]
  exact ⟨tr_gp (by decide) (fun t ht => (hE t ht).1), pzl_gp (fun t ht => (hE t ht).2)⟩
theorem ad_some {X : List ORD} {Os : List (List ND)} (hX : ∀ o ∈ X, ∀ t ∈ o.2.2, TR t ∧ PZL t) (h : adL X (some []) = some Os) : Os = pcO X := by
  have a := adL_is X [] (by rw [List.nil_append]; exact fun o ho t ht => (hX o ho t ht).1.2.1) ⟨(fun o ho => by cases ho), by decide⟩
  rw [List.nil_append] at a
  by_cases c : okO X
  · have := a.1 c
    have h2 : adL X (some (pcO [])) = some Os := h
    rw [this] at h2
    exact (Option.some.inj h2).symm
  · have := a.2 c
    have h2 : adL X (some (pcO [])) = some Os := h
    rw [this] at h2
    cases h2
/-- a DOCUMENT of ORDERS, by numbers -/
theorem row_of {X : List ORD} (hX : ∀ o ∈ X, ∀ t ∈ o.2.2, TR t ∧ PZL t) {T : List ND} (e : T = gpN (ndK 4) (pcO X) (pcO X).length) : (TR T ∧ PZL T) ∧ rk T = 4 ∧ (kids T 0).map (sg T) = pcO X ∧ (kd T).length = X.length ∧ ∀ k ∈ kids T 0, k < T.length := by
  have hp := pc_tr hX
  have t : TR T ∧ PZL T := by rw [e]; exact ⟨tr_gp (by decide) (fun t ht => (hp t ht).1), pzl_gp (fun t ht => (hp t ht).2)⟩
  have k : kd T = pcO X := by rw [e]; exact kd_gp hp
  have l1 := t.1.2.1
  have k2 := kd_sg t.2 t.1.1 (i := 0) (by omega)
  rw [sg_self t.1, k] at k2
  refine ⟨t, by rw [e]; rfl, k2.symm, by rw [k]; exact List.length_map .., fun c hc => kids_in t.1.1 (pz_l t.2) (by omega) hc⟩
theorem pt_doc {V U : List ND} (hV : DOC V) (hU : DOC U) (hl : V.length + U.length ≤ 100) : ∃ W, lyT (toO [] (ptN 13 V U)) V W ∧ DOC W ∧ EK W U := by
  obtain ⟨W, a, b, c⟩ := pt_lay 12 V U (Nat.le_refl _) (doc_sb hV) (doc_sb hU) hl (by rw [hV.2.2.2, hU.2.2.2])
  have a' : lyQ DOC (ptN 13 V U) V W := lyQ_mono (fun T h => sb_doc h.1 (h.2.1.trans hV.2.2.2)) _ _ _ a
  exact ⟨W, lyQ_T _ _ _ (ptN_ok 13 V U (doc_sb hV) (doc_sb hU)) a', sb_doc b (by rw [ek_rq c]; exact hU.2.2.2), c⟩
theorem pt_nil {V U : List ND} (hV : DOC V) (hU : DOC U) (hl : V.length + U.length ≤ 100) : ptN 13 V U = [] ↔ EK V U := by
  constructor
  · intro h
    obtain ⟨W, a, b, c⟩ := pt_doc hV hU hl
    rw [h] at a
    have a : W = V := a
    rw [← a]; exact c
  · intro h
    have := (ek_sm (doc_sb hV) (doc_sb hU) (by rw [hV.2.2.2, hU.2.2.2])).mpr h
    exact if_pos this
/-- all that the law says of a PATCH -/
theorem patch_ok {V U T : List ND} (hV : DOC V) (hU : DOC U) (hl : V.length + U.length ≤ 100) (hT : ptT V U = some T) : rk T = 4 ∧ ((kd T).length = 0 ↔ EK V U) ∧ ∃ W, laF T (kids T 0) 0 V = .inr W ∧ DOC W ∧ EK W U ∧ ∀ T2, tuT T V = some T2 → rk T2 = 4 ∧ (kd T2).length = (kd T).length ∧ ∃ Z, laF T2 (kids T2 0) 0 W = .inr Z ∧ DOC Z ∧ EK Z V := by
  have seg := ptN_ok 13 V U (doc_sb hV) (doc_sb hU)
  have val := toO_val seg
  obtain ⟨W, w1, w2, w3⟩ := pt_doc hV hU hl
  have eT : T = gpN (ndK 4) (pcO (toO [] (ptN 13 V U))) (pcO (toO [] (ptN 13 V U))).length := by
    unfold ptT at hT
    rw [pt_is hV.1.1 hU.1.1] at hT
    cases e : adL (toO [] (ptN 13 V U)) (some []) with
    | none => rw [e] at hT; cases hT
    | some Os =>
      rw [e, ad_some val e] at hT
      dsimp only at hT
      split at hT
      · exact (Option.some.inj hT).symm
      · cases hT
  obtain ⟨t1, t2, t3, t4, t5⟩ := row_of val eT
  have la := la_lay t1 _ (kids T 0) 0 V W hV t5 t3 w1
  refine ⟨t2, ?_, W, la, w2, w3, fun T2 h2 => ?_⟩
  · rw [t4, ← pt_nil hV hU hl]
    unfold toO
    rw [List.length_map]
    exact List.length_eq_zero_iff
  · obtain ⟨u1, u2⟩ := un_lay t1 _ (kids T 0) V W hV t5 t3 w1
    obtain ⟨Z, z1, z2, z3⟩ := u2 W w2 rfl
    have v2 : ∀ o ∈ unF T (kids T 0) V, ∀ t ∈ o.2.2, TR t ∧ PZL t := by
      have gen : ∀ (X : List ORD) (A B : List ND), lyT X A B → ∀ o ∈ X, ∀ t ∈ o.2.2, TR t ∧ PZL t := by
        intro X
        induction X with
        | nil => intro A B _ o ho; cases ho
        | cons p X ih =>
          intro A B h o ho
          obtain ⟨T1, h1, _, _, h4⟩ := h
          rcases List.mem_cons.mp ho with z | z
          · rw [z]; exact h1.2
          · exact ih T1 B h4 o z
      exact gen _ _ _ z1
    have e2 : T2 = gpN (ndK 4) (pcO (unF T (kids T 0) V)) (pcO (unF T (kids T 0) V)).length := by
      unfold tuT at h2
      rw [la] at h2
      dsimp only at h2
      cases e : adL (unF T (kids T 0) V) (some []) with
      | none => rw [e] at h2; cases h2
      | some Os =>
        rw [e, ad_some v2 e] at h2
        dsimp only at h2
        split at h2
        · exact (Option.some.inj h2).symm
        · cases h2
    obtain ⟨s1, s2, s3, s4, s5⟩ := row_of v2 e2
    exact ⟨s2, by rw [s4, t4, u1], Z, la_lay s1 _ (kids T2 0) 0 W Z w2 s5 s3 z1, z2, z3⟩
