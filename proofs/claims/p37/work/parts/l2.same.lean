/-! EQUAL, as the class asks it, is to be written alike in THE ONE WAY -/
theorem zp1 {p : List ND × List ND → Bool} {h : List ND → List ND} : ∀ (L M : List (List ND)), L.length = M.length → (L.zip M).all p = true → (∀ t ∈ L, ∀ u ∈ M, p (t, u) = true → h t = h u) → L.map h = M.map h
  | [], [], _, _, _ => rfl
  | [], _ :: _, e, _, _ => by cases e
  | _ :: _, [], e, _, _ => by cases e
  | t :: L, u :: M, e, ha, hp => by
    rw [List.zip_cons_cons, List.all_cons, Bool.and_eq_true] at ha
    rw [List.map_cons, List.map_cons, hp t List.mem_cons_self u List.mem_cons_self ha.1, zp1 L M (by simpa using e) ha.2 (fun a h1 b h2 => hp a (List.mem_cons_of_mem _ h1) b (List.mem_cons_of_mem _ h2))]
theorem zp2 {p : List ND × List ND → Bool} {h : List ND → List ND} : ∀ (L M : List (List ND)), L.map h = M.map h → (∀ t ∈ L, ∀ u ∈ M, h t = h u → p (t, u) = true) → (L.zip M).all p = true
  | [], M, _, _ => by simp
  | _ :: _, [], e, _ => by cases e
  | t :: L, u :: M, e, hp => by
    rw [List.map_cons, List.map_cons] at e
    have e1 := List.cons.inj e
    rw [List.zip_cons_cons, List.all_cons, Bool.and_eq_true]
    exact ⟨hp t List.mem_cons_self u List.mem_cons_self e1.1, zp2 L M e1.2 (fun a h1 b h2 => hp a (List.mem_cons_of_mem _ h1) b (List.mem_cons_of_mem _ h2))⟩
theorem sub_back {L M : List (List ND)} (h1 : L.Nodup) (hs : ∀ x ∈ L, x ∈ M) (hl : M.length ≤ L.length) : ∀ x ∈ M, x ∈ L := by
  intro x hx
  by_cases c : x ∈ L
  · exact c
  · exfalso
    have s2 : L ⊆ M.erase x := fun y hy => (List.mem_erase_of_ne (fun e => c (by rw [← e]; exact hy))).mpr (hs y hy)
    have l2 := List.Nodup.length_le_of_subset h1 s2
    rw [List.length_erase_of_mem hx] at l2
    have : 0 < M.length := List.length_pos_of_mem hx
    omega
theorem fdS_some {q : List Int} : ∀ (L : List (List ND)) (u : List ND), u ∈ L → rq u = q → (∀ a ∈ L, ∀ b ∈ L, rq a = rq b → a = b) → fdS q L = some u
  | [], u, h, _, _ => by cases h
  | x :: L, u, h, e, inj => by
    unfold fdS
    by_cases c : rq x = q
    · rw [List.find?_cons_of_pos (p := fun u => decide (rq u = q)) (by simpa using c), inj x List.mem_cons_self u h (c.trans e.symm)]
    · rw [List.find?_cons_of_neg (p := fun u => decide (rq u = q)) (by simpa using c)]
      rcases List.mem_cons.mp h with z | z
      · rw [z] at e; exact absurd e c
      · exact fdS_some L u z e (fun a ha b hb => inj a (List.mem_cons_of_mem _ ha) b (List.mem_cons_of_mem _ hb))
theorem fdS_in {q : List Int} : ∀ (L : List (List ND)) (u : List ND), fdS q L = some u → u ∈ L ∧ rq u = q := by
  intro L u h
  unfold fdS at h
  exact ⟨List.mem_of_find?_eq_some h, by have := List.find?_some h; simpa using this⟩
theorem koS_sorted {T : List ND} (h5 : rk T = 5) : (koS 1 T).Pairwise (fun a b => oK (rq a) (rq b) < 0) := by
  unfold koS
  rw [if_pos ⟨h5, rfl⟩]
  exact obS_sorted 100 none
theorem ky_inj {A B : List ND} (hA : 1 ≤ A.length) (hB : 1 ≤ B.length) (hq : rq A = rq B) (h : kyT A [] = kyT B []) : A = B := by
  have a := ky_self hA
  have b := ky_self hB
  have e : kyT (kyT A []) (rq A) = kyT (kyT B []) (rq B) := by rw [h, hq]
  rw [ky_ky, ky_ky, a, b] at e
  exact e
theorem gp_inj {x y : ND} {A B : List (List ND)} (hA : ∀ t ∈ A, TR t ∧ PZL t) (hB : ∀ t ∈ B, TR t ∧ PZL t) (h : kyT (gpN x A A.length) [] = kyT (gpN y B B.length) []) : A = B ∧ x.1 = y.1 := by
  have e : wQ (wZ x (1 + (A.take A.length).flatten.length)) [] :: A.flatten = wQ (wZ y (1 + (B.take B.length).flatten.length)) [] :: B.flatten := h
  have e1 := List.cons.inj e
  refine ⟨?_, (congrArg (fun z : ND => z.1) e1.1 : _)⟩
  rw [← sgs_flat hA, ← sgs_flat hB, e1.2]
theorem gp_eq {x y : ND} {A : List (List ND)} (h1 : x.1 = y.1) (hx : x.2.2.1 = 0 ∧ x.2.2.2.1 = []) (hy : y.2.2.1 = 0 ∧ y.2.2.2.1 = []) : kyT (gpN x A A.length) [] = kyT (gpN y A A.length) [] := by
  show wQ (wZ x _) [] :: A.flatten = wQ (wZ y _) [] :: A.flatten
  rw [grp_root (k := x.1) rfl hx.1 hx.2, grp_root (k := x.1) h1.symm hy.1 hy.2]
/-- EQUAL just if they are the same in order -/
theorem sm_wo : ∀ (f : Nat) (T U : List ND), SDC T → SDC U → T.length ≤ 100 → U.length ≤ 100 → (∀ r, dpS r T ≤ (f : Int)) → (∀ r, dpS r U ≤ (f : Int)) → (smF (f + 1) T U = true ↔ kyT (woF 1 f T) [] = kyT (woF 1 f U) []) := by
  intro f
  induction f with
  | zero =>
    intro T U hT hU lT lU dT dU
    have c0 : ∀ X, (∀ r, dpS r X ≤ ((0 : Nat) : Int)) → rk X < 4 := fun X hX => by
      have h0 := hX 0
      unfold dpS at h0
      by_cases c : 4 ≤ rk X
      · rw [if_pos c] at h0; omega
      · omega
    have cT := c0 T dT
    have cU := c0 U dU
    obtain ⟨eT, zT⟩ := one_leaf hT cT
    obtain ⟨eU, zU⟩ := one_leaf hU cU
    show (decide (rk T = rk U) && (decide (rz T = rz U) && (if 4 ≤ rk T then _ else decide (rp T = rp U) && decide (rt T = rt U)))) = true ↔ kyT T [] = kyT U []
    rw [if_neg (by omega)]
    simp only [Bool.and_eq_true, decide_eq_true_eq]
    have kT : kyT T [] = [wQ (T.getD 0 nd0) []] := by rw [eT]; rfl
    have kU : kyT U [] = [wQ (U.getD 0 nd0) []] := by rw [eU]; rfl
    rw [kT, kU]
    have r1 : rk T = (T.getD 0 nd0).1 ∧ rz T = (T.getD 0 nd0).2.1 ∧ rp T = (T.getD 0 nd0).2.2.1 ∧ rt T = (T.getD 0 nd0).2.2.2.1 := ⟨rfl, rfl, rfl, rfl⟩
    have r2 : rk U = (U.getD 0 nd0).1 ∧ rz U = (U.getD 0 nd0).2.1 ∧ rp U = (U.getD 0 nd0).2.2.1 ∧ rt U = (U.getD 0 nd0).2.2.2.1 := ⟨rfl, rfl, rfl, rfl⟩
    rw [r1.1, r1.2.1, r1.2.2.1, r1.2.2.2, r2.1, r2.2.1, r2.2.2.1, r2.2.2.2]
    generalize T.getD 0 nd0 = x
    generalize U.getD 0 nd0 = y
    obtain ⟨a, b, c, d, e⟩ := x
    obtain ⟨a', b', c', d', e'⟩ := y
    constructor
    · rintro ⟨h1, h2, h3, h4⟩
      dsimp only at h1 h2 h3 h4
      subst h1 h2 h3 h4
      rfl
    · intro h
      have h1 := (List.cons.inj h).1
      unfold wQ at h1
      dsimp only at h1 ⊢
      injection h1 with q1 q2
      injection q2 with q3 q4
      injection q4 with q5 q6
      injection q6 with q7 q8
      exact ⟨q1, q3, q5, q7⟩
  | succ f ih =>
    intro T U hT hU lT lU dT dU
    by_cases cT : rk T < 4
    · have eT : woF 1 (f + 1) T = T := by unfold woF; rw [if_neg (by omega)]
      rw [eT]
      obtain ⟨e1, zT⟩ := one_leaf hT cT
      by_cases cU : rk U < 4
      · have eU : woF 1 (f + 1) U = U := by unfold woF; rw [if_neg (by omega)]
        rw [eU]
        obtain ⟨e2, zU⟩ := one_leaf hU cU
        show (decide (rk T = rk U) && (decide (rz T = rz U) && (if 4 ≤ rk T then _ else decide (rp T = rp U) && decide (rt T = rt U)))) = true ↔ kyT T [] = kyT U []
        rw [if_neg (by omega)]
        simp only [Bool.and_eq_true, decide_eq_true_eq]
        have kT : kyT T [] = [wQ (T.getD 0 nd0) []] := by rw [e1]; rfl
        have kU : kyT U [] = [wQ (U.getD 0 nd0) []] := by rw [e2]; rfl
        rw [kT, kU]
        have r1 : rk T = (T.getD 0 nd0).1 ∧ rz T = (T.getD 0 nd0).2.1 ∧ rp T = (T.getD 0 nd0).2.2.1 ∧ rt T = (T.getD 0 nd0).2.2.2.1 := ⟨rfl, rfl, rfl, rfl⟩
        have r2 : rk U = (U.getD 0 nd0).1 ∧ rz U = (U.getD 0 nd0).2.1 ∧ rp U = (U.getD 0 nd0).2.2.1 ∧ rt U = (U.getD 0 nd0).2.2.2.1 := ⟨rfl, rfl, rfl, rfl⟩
        rw [r1.1, r1.2.1, r1.2.2.1, r1.2.2.2, r2.1, r2.2.1, r2.2.2.1, r2.2.2.2]
        generalize T.getD 0 nd0 = x
        generalize U.getD 0 nd0 = y
        obtain ⟨a, b, c, d, e⟩ := x
        obtain ⟨a', b', c', d', e'⟩ := y
        constructor
        · rintro ⟨h1, h2, h3, h4⟩
          dsimp only at h1 h2 h3 h4
          subst h1 h2 h3 h4
          rfl
        · intro h
          have h1 := (List.cons.inj h).1
          unfold wQ at h1
          dsimp only at h1 ⊢
          injection h1 with q1 q2
          injection q2 with q3 q4
          injection q4 with q5 q6
          injection q6 with q7 q8
          exact ⟨q1, q3, q5, q7⟩
      · constructor
        · intro h
          unfold smF at h
          rw [Bool.and_eq_true, decide_eq_true_eq] at h
          omega
        · intro h
          have : rk (kyT T []) = rk (kyT (woF 1 (f + 1) U) []) := by rw [h]
          have e3 : rk (kyT T []) = rk T := rfl
          have e4 : rk (kyT (woF 1 (f + 1) U) []) = rk U := (wo_rq (w := 1) (f + 1) U).2
          omega
    · by_cases cU : rk U < 4
      · have eU : woF 1 (f + 1) U = U := by unfold woF; rw [if_neg (by omega)]
        rw [eU]
        constructor
        · intro h
          unfold smF at h
          rw [Bool.and_eq_true, decide_eq_true_eq] at h
          omega
        · intro h
          have : rk (kyT (woF 1 (f + 1) T) []) = rk (kyT U []) := by rw [h]
          have e3 : rk (kyT U []) = rk U := rfl
          have e4 : rk (kyT (woF 1 (f + 1) T) []) = rk T := (wo_rq (w := 1) (f + 1) T).2
          omega
      · have c4 : 4 ≤ rk T := by omega
        have d4 : 4 ≤ rk U := by omega
        obtain ⟨v1, v2, v3⟩ := vn_grp hT c4
        obtain ⟨u1, u2, u3⟩ := vn_grp hU d4
        have eT : woF 1 (f + 1) T = gpN (T.getD 0 nd0) ((koS 1 T).map (woF 1 f)) ((koS 1 T).map (woF 1 f)).length := by unfold woF; rw [if_pos c4]
        have eU : woF 1 (f + 1) U = gpN (U.getD 0 nd0) ((koS 1 U).map (woF 1 f)) ((koS 1 U).map (woF 1 f)).length := by unfold woF; rw [if_pos d4]
        have pT := koS_perm (w := 1) hT lT
        have pU := koS_perm (w := 1) hU lU
        have kT : ∀ t ∈ kd T, SDC t ∧ t.length ≤ 100 ∧ ∀ r, dpS r t ≤ (f : Int) := fun t ht => ⟨sdc_kd hT ht, by have := mem_len ht; have := len_kd hT.1; omega, dp_kd dT c4 ht⟩
        have kU : ∀ t ∈ kd U, SDC t ∧ t.length ≤ 100 ∧ ∀ r, dpS r t ≤ (f : Int) := fun t ht => ⟨sdc_kd hU ht, by have := mem_len ht; have := len_kd hU.1; omega, dp_kd dU d4 ht⟩
        have woT : ∀ t ∈ kd T, SDC (woF 1 f t) ∧ (woF 1 f t).length = t.length := fun t ht => wo_sdc f t (kT t ht).1 (kT t ht).2.1
        have woU : ∀ t ∈ kd U, SDC (woF 1 f t) ∧ (woF 1 f t).length = t.length := fun t ht => wo_sdc f t (kU t ht).1 (kU t ht).2.1
        have one : ∀ t ∈ kd T, ∀ u ∈ kd U, rq t = rq u → (smF (f + 1) t u = true ↔ woF 1 f t = woF 1 f u) := fun t ht u hu hq => by
          have i := ih t u (kT t ht).1 (kU u hu).1 (kT t ht).2.1 (kU u hu).2.1 (kT t ht).2.2 (kU u hu).2.2
          rw [i]
          constructor
          · intro h
            exact ky_inj (woT t ht).1.1.1.2.1 (woU u hu).1.1.1.2.1 (by rw [(wo_rq (w := 1) f t).1, (wo_rq (w := 1) f u).1, hq]) h
          · intro h; rw [h]
        have sizes : (koS 1 T).map (woF 1 f) = (koS 1 U).map (woF 1 f) → rz T = rz U := fun h => by
          have zT : rz T = T.length := hT.1.1.2.2
          have zU : rz U = U.length := hU.1.1.2.2
          have a := (wo_sdc (w := 1) (f + 1) T hT lT).2
          have b := (wo_sdc (w := 1) (f + 1) U hU lU).2
          rw [eT, gp_len] at a
          rw [eU, gp_len] at b
          rw [h] at a
          omega
        have goal : (kyT (woF 1 (f + 1) T) [] = kyT (woF 1 (f + 1) U) []) ↔ ((koS 1 T).map (woF 1 f) = (koS 1 U).map (woF 1 f) ∧ rk T = rk U) := by
          rw [eT, eU]
          constructor
          · intro h
            exact gp_inj (fun t ht => by obtain ⟨s, hs, rfl⟩ := List.mem_map.mp ht; exact (woT s (koS_mem s hs)).1.1) (fun t ht => by obtain ⟨s, hs, rfl⟩ := List.mem_map.mp ht; exact (woU s (koS_mem s hs)).1.1) h
          · rintro ⟨h1, h2⟩
            rw [h1]
            exact gp_eq h2 ⟨v1, v2⟩ ⟨u1, u2⟩
        rw [goal]
        show (decide (rk T = rk U) && (decide (rz T = rz U) && (if 4 ≤ rk T then decide ((kd T).length = (kd U).length) && (if rk T = 4 then ((kd T).zip (kd U)).all (fun p => smF (f + 1) p.1 p.2) else (kd T).all (fun t => match fdS (rq t) (kd U) with | some u => smF (f + 1) t u | none => false)) else _))) = true ↔ _
        rw [if_pos c4]
        by_cases r4 : rk T = 4
        · rw [if_pos r4]
          simp only [Bool.and_eq_true, decide_eq_true_eq]
          have oT : koS 1 T = kd T := by unfold koS; rw [if_neg (by omega)]
          constructor
          · rintro ⟨h1, h2, h3, h4⟩
            have oU : koS 1 U = kd U := by unfold koS; rw [if_neg (by omega)]
            rw [oT, oU]
            refine ⟨zp1 (kd T) (kd U) h3 h4 (fun t ht u hu hp => ?_), h1⟩
            exact (one t ht u hu (by rw [(hT.2.2 1).2.1 r4 t ht, (hU.2.2 1).2.1 (by omega) u hu])).mp hp
          · rintro ⟨h1, h2⟩
            have oU : koS 1 U = kd U := by unfold koS; rw [if_neg (by omega)]
            have hz := sizes h1
            rw [oT, oU] at h1
            refine ⟨h2, hz, ?_, zp2 (kd T) (kd U) h1 (fun t ht u hu hp => ?_)⟩
            · have := congrArg List.length h1
              rw [List.length_map, List.length_map] at this
              exact this
            · exact (one t ht u hu (by rw [(hT.2.2 1).2.1 r4 t ht, (hU.2.2 1).2.1 (by omega) u hu])).mpr hp
        · have r5 : rk T = 5 := by omega
          rw [if_neg r4]
          simp only [Bool.and_eq_true, decide_eq_true_eq, List.all_eq_true]
          have injT := nodup_inj ((hT.2.2 1).1 r5)
          constructor
          · rintro ⟨h1, h2, h3, h4⟩
            have s5 : rk U = 5 := by omega
            have injU := nodup_inj ((hU.2.2 1).1 s5)
            refine ⟨?_, h1⟩
            have sT : ((koS 1 T).map (woF 1 f)).Pairwise (fun a b => oK (rq a) (rq b) < 0) := by
              rw [List.pairwise_map]
              refine (koS_sorted r5).imp (fun {a b} h => ?_)
              rw [(wo_rq f a).1, (wo_rq f b).1]
              exact h
            have sU : ((koS 1 U).map (woF 1 f)).Pairwise (fun a b => oK (rq a) (rq b) < 0) := by
              rw [List.pairwise_map]
              refine (koS_sorted s5).imp (fun {a b} h => ?_)
              rw [(wo_rq f a).1, (wo_rq f b).1]
              exact h
            have nT : ((koS 1 T).map (woF 1 f)).Nodup := sT.imp (fun {a b} h e => by rw [e, oK_0.mpr rfl] at h; omega)
            have nU : ((koS 1 U).map (woF 1 f)).Nodup := sU.imp (fun {a b} h e => by rw [e, oK_0.mpr rfl] at h; omega)
            have sub : ∀ x ∈ (koS 1 T).map (woF 1 f), x ∈ (koS 1 U).map (woF 1 f) := fun x hx => by
              obtain ⟨t, ht, rfl⟩ := List.mem_map.mp hx
              have tk := koS_mem t ht
              have m := h4 t tk
              cases e : fdS (rq t) (kd U) with
              | none => rw [e] at m; cases m
              | some u =>
                rw [e] at m
                obtain ⟨uk, uq⟩ := fdS_in _ _ e
                rw [(one t tk u uk uq.symm).mp m]
                exact List.mem_map.mpr ⟨u, pU.mem_iff.mpr uk, rfl⟩
            have ll : ((koS 1 U).map (woF 1 f)).length ≤ ((koS 1 T).map (woF 1 f)).length := by
              rw [List.length_map, List.length_map, pT.length_eq, pU.length_eq]
              omega
            have pm : ((koS 1 T).map (woF 1 f)).Perm ((koS 1 U).map (woF 1 f)) := (List.perm_ext_iff_of_nodup nT nU).mpr (fun x => ⟨sub x, sub_back nT sub ll x⟩)
            exact List.Perm.eq_of_pairwise (fun a b _ _ h1 h2 => by have := oK_sym (rq a) (rq b); omega) sT sU pm
          · rintro ⟨h1, h2⟩
            have s5 : rk U = 5 := by omega
            have injU := nodup_inj ((hU.2.2 1).1 s5)
            refine ⟨h2, sizes h1, ?_, fun t ht => ?_⟩
            · have := congrArg List.length h1
              rw [List.length_map, List.length_map, pT.length_eq, pU.length_eq] at this
              exact this
            · have m : woF 1 f t ∈ (koS 1 U).map (woF 1 f) := by rw [← h1]; exact List.mem_map.mpr ⟨t, pT.mem_iff.mpr ht, rfl⟩
              obtain ⟨u, hu, eu⟩ := List.mem_map.mp m
              have uk := koS_mem u hu
              have uq : rq u = rq t := by rw [← (wo_rq (w := 1) f u).1, eu, (wo_rq f t).1]
              rw [fdS_some (kd U) u uk uq injU]
              exact (one t ht u uk uq.symm).mpr eu.symm
theorem wbd_map {ln mp : Bool} {ind : Nat} {g h : List ND → List Int} {m : List ND → List ND} : ∀ (b : Bool) (L : List (List ND)), (∀ t ∈ L, rq (m t) = rq t ∧ h (m t) = g t) → wbd ln mp ind h b (L.map m) = wbd ln mp ind g b L
  | b, [], _ => by cases b <;> rfl
  | b, t :: L, e => by
    obtain ⟨e1, e2⟩ := e t List.mem_cons_self
    rw [List.map_cons]
    show wpr b ln mp ind (rq (m t)) ++ h (m t) ++ wbd ln mp ind h false (L.map m) = wpr b ln mp ind (rq t) ++ g t ++ wbd ln mp ind g false L
    rw [e1, e2, wbd_map false L (fun u hu => e u (List.mem_cons_of_mem _ hu))]
theorem wr_ky {f : Nat} {w : Int} {ind : Nat} {T : List ND} {q : List Int} : wrF f w ind (kyT T q) = wrF f w ind T := by
  cases f with
  | zero => rfl
  | succ f => rfl
/-- THE ONE WAY is LEAST of what is in order -/
theorem wr_wo : ∀ (f : Nat) (T : List ND) (ind : Nat), SDC T → T.length ≤ 100 → wrF f 1 ind T = wrF f 0 ind (woF 1 f T)
  | 0, T, ind, h, hl => rfl
  | f + 1, T, ind, h, hl => by
    by_cases c : rk T < 4
    · have e : woF 1 (f + 1) T = T := by unfold woF; rw [if_neg (by omega)]
      rw [e, wr_leaf c, wr_leaf c]
    · have eT : woF 1 (f + 1) T = gpN (T.getD 0 nd0) ((koS 1 T).map (woF 1 f)) ((koS 1 T).map (woF 1 f)).length := by unfold woF; rw [if_pos (by omega)]
      have kt : ∀ t ∈ koS 1 T, SDC t ∧ t.length ≤ 100 := fun t ht => ⟨sdc_kd h (koS_mem t ht), by have := mem_len (koS_mem t ht); have := len_kd h.1; omega⟩
      have kg : kd (woF 1 (f + 1) T) = (koS 1 T).map (woF 1 f) := by
        rw [eT]
        exact kd_gp (fun u hu => by obtain ⟨t, ht, rfl⟩ := List.mem_map.mp hu; exact (wo_sdc f t (kt t ht).1 (kt t ht).2).1.1)
      have rg : rk (woF 1 (f + 1) T) = rk T := (wo_rq (f + 1) T).2
      unfold wrF
      rw [rg, if_neg c, if_neg c]
      have o0 : koS 0 (woF 1 (f + 1) T) = (koS 1 T).map (woF 1 f) := by unfold koS; rw [if_neg (fun z => absurd z.2 (by decide)), kg]; rfl
      have l1 : wli 1 T = false := rfl
      have l2 : wli 0 (woF 1 (f + 1) T) = false := rfl
      rw [o0, l1, l2, wbd_map true (koS 1 T) (fun t ht => ⟨(wo_rq f t).1, (wr_wo f t (ind + 1) (kt t ht).1 (kt t ht).2).symm⟩)]
/-- EQUAL just if written alike -/
theorem eq_wr {T U : List ND} (hT : SDC T) (hU : SDC U) (lT : T.length ≤ 100) (lU : U.length ≤ 100) (dT : ∀ r, dpS r T ≤ 12) (dU : ∀ r, dpS r U ≤ 12) : smF 13 T U = true ↔ wrF 12 1 0 T = wrF 12 1 0 U := by
  rw [sm_wo 12 T U hT hU lT lU dT dU]
  constructor
  · intro h
    rw [wr_wo 12 T 0 hT lT, wr_wo 12 U 0 hU lU, ← wr_ky (q := []), h, wr_ky]
  · intro h
    have a := rdA_back (w := 1) (how := 0) hT lT dT
    have b := rdA_back (w := 1) (how := 0) hU lU dU
    rw [h, b] at a
    exact (Sum.inr.inj a).symm
