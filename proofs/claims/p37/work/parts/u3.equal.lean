/-! p37: EQUAL is to be the same in THE ONE WAY's order -/
def nm (T : List ND) : List ND := woF 1 12 T
/-- EQUAL, with the same KEY -/
abbrev EK (T U : List ND) : Prop := nm T = nm U
/-- sound, within a DEPTH -/
abbrev SB (m : Int) (T : List ND) : Prop := SDC T ∧ T.length ≤ 100 ∧ ∀ r, dpS r T ≤ m
theorem sb_up {m n : Int} {T : List ND} (h : SB m T) (hm : m ≤ n) : SB n T := ⟨h.1, h.2.1, fun r => by have := h.2.2 r; omega⟩
theorem sb_len1 {m : Int} {T : List ND} (h : SB m T) : 1 ≤ T.length := h.1.1.1.2.1
theorem sb_kd {m : Int} {T t : List ND} (h : SB m T) (c4 : 4 ≤ rk T) (ht : t ∈ kd T) : SB (m - 1) t := by
  have l := kd_len h.1.1
  have := mem_len ht
  have l1 := h.2.1
  exact ⟨sdc_kd h.1 ht, by omega, dp_kd (b := m - 1) (fun g => by have := h.2.2 g; omega) c4 ht⟩
theorem wo_fuel : ∀ (f g : Nat) (T : List ND), (∀ r, dpS r T ≤ (f : Int)) → f ≤ g → woF 1 g T = woF 1 f T
  | 0, g, T, h, _ => by
    have c : ¬ 4 ≤ rk T := fun c => by
      have := h 0
      unfold dpS at this
      rw [if_pos c] at this
      omega
    cases g with
    | zero => rfl
    | succ g => exact if_neg c
  | f + 1, 0, T, _, h => by omega
  | f + 1, g + 1, T, h, hg => by
    unfold woF
    by_cases c : 4 ≤ rk T
    · rw [if_pos c, if_pos c]
      have e : (koS 1 T).map (woF 1 g) = (koS 1 T).map (woF 1 f) := List.map_congr_left (fun t ht => wo_fuel f g t (dp_kd (b := (f : Int)) (fun r => by have := h r; omega) c (koS_mem t ht)) (by omega))
      rw [e]
    · rw [if_neg c, if_neg c]
theorem nm_grp {T : List ND} (h : ∀ r, dpS r T ≤ 12) (c4 : 4 ≤ rk T) : nm T = gpN (T.getD 0 nd0) ((koS 1 T).map nm) ((koS 1 T).map nm).length := by
  have e : nm T = gpN (T.getD 0 nd0) ((koS 1 T).map (woF 1 11)) ((koS 1 T).map (woF 1 11)).length := by
    show woF 1 (11 + 1) T = _
    unfold woF
    rw [if_pos c4]
  have e2 : (koS 1 T).map (woF 1 11) = (koS 1 T).map nm := List.map_congr_left (fun t ht => (wo_fuel 11 12 t (dp_kd (b := 11) (fun r => by have := h r; omega) c4 (koS_mem t ht)) (by omega)).symm)
  rw [e, e2]
theorem nm_leaf {T : List ND} (c : rk T < 4) : nm T = T := by
  show woF 1 (11 + 1) T = T
  unfold woF
  rw [if_neg (by omega)]
theorem nm_rq {T : List ND} : rq (nm T) = rq T := (wo_rq (w := 1) 12 T).1
theorem nm_rk {T : List ND} : rk (nm T) = rk T := (wo_rq (w := 1) 12 T).2
theorem nm_sdc {m : Int} {T : List ND} (h : SB m T) : SDC (nm T) ∧ (nm T).length = T.length := wo_sdc 12 T h.1 h.2.1
theorem ek_rq {T U : List ND} (h : EK T U) : rq T = rq U := by rw [← nm_rq (T := T), h, nm_rq]
theorem ek_rk {T U : List ND} (h : EK T U) : rk T = rk U := by rw [← nm_rk (T := T), h, nm_rk]
theorem ek_len {m n : Int} {T U : List ND} (hT : SB m T) (hU : SB n U) (h : EK T U) : T.length = U.length := by rw [← (nm_sdc hT).2, h, (nm_sdc hU).2]
theorem ek_sm {T U : List ND} (hT : SB 12 T) (hU : SB 12 U) (hq : rq T = rq U) : smF 13 T U = true ↔ EK T U := by
  rw [sm_wo 12 T U hT.1 hU.1 hT.2.1 hU.2.1 hT.2.2 hU.2.2]
  constructor
  · intro h
    exact ky_inj (nm_sdc hT).1.1.1.2.1 (nm_sdc hU).1.1.1.2.1 (by rw [nm_rq, nm_rq, hq]) h
  · intro h
    have h : woF 1 12 T = woF 1 12 U := h
    rw [h]
theorem map_nm_tr {m : Int} {E : List (List ND)} (h : ∀ t ∈ E, SB m t) : ∀ t ∈ E.map nm, TR t ∧ PZL t := fun t ht => by
  obtain ⟨s, hs, rfl⟩ := List.mem_map.mp ht
  exact (nm_sdc (h s hs)).1.1
/-- what EQUAL groups are -/
theorem ek_grp {T U : List ND} (hT : SB 12 T) (hU : SB 12 U) (c4 : 4 ≤ rk T) (d4 : 4 ≤ rk U) : EK T U ↔ (koS 1 T).map nm = (koS 1 U).map nm ∧ rk T = rk U ∧ rq T = rq U := by
  obtain ⟨v1, v2, v3⟩ := vn_grp hT.1 c4
  obtain ⟨u1, u2, u3⟩ := vn_grp hU.1 d4
  have eT := nm_grp hT.2.2 c4
  have eU := nm_grp hU.2.2 d4
  constructor
  · intro h
    have h2 := ek_rq h
    have h3 := ek_rk h
    refine ⟨?_, h3, h2⟩
    have h : nm T = nm U := h
    rw [eT, eU] at h
    exact (gp_inj (map_nm_tr (m := 11) (fun t ht => sb_kd hT c4 (koS_mem t ht))) (map_nm_tr (m := 11) (fun t ht => sb_kd hU d4 (koS_mem t ht))) (by rw [h])).1
  · rintro ⟨h1, h2, h3⟩
    have k : kyT (nm T) [] = kyT (nm U) [] := by
      rw [eT, eU, h1]
      exact gp_eq h2 ⟨v1, v2⟩ ⟨u1, u2⟩
    exact ky_inj (nm_sdc hT).1.1.1.2.1 (nm_sdc hU).1.1.1.2.1 (by rw [nm_rq, nm_rq, h3]) k
theorem ko_row {T : List ND} (r4 : rk T = 4) : koS 1 T = kd T := by
  unfold koS
  rw [if_neg (by omega)]
theorem ek_row {T U : List ND} (hT : SB 12 T) (hU : SB 12 U) (r4 : rk T = 4) : EK T U ↔ rk U = 4 ∧ rq T = rq U ∧ (kd T).map nm = (kd U).map nm := by
  constructor
  · intro h
    have hk := ek_rk h
    have g := (ek_grp hT hU (by omega) (by omega)).mp h
    rw [ko_row r4, ko_row (by omega)] at g
    exact ⟨by omega, g.2.2, g.1⟩
  · rintro ⟨h1, h2, h3⟩
    rw [ek_grp hT hU (by omega) (by omega), ko_row r4, ko_row h1]
    exact ⟨h3, by omega, h2⟩
theorem map_rq_nm {E : List (List ND)} : (E.map nm).map rq = E.map rq := by
  rw [List.map_map]
  exact List.map_congr_left (fun t _ => nm_rq)
theorem ko_sorted {T : List ND} (h5 : rk T = 5) : ((koS 1 T).map nm).Pairwise (fun a b => oK (rq a) (rq b) < 0) := by
  rw [List.pairwise_map]
  refine (koS_sorted h5).imp (fun {a b} h => ?_)
  rw [nm_rq, nm_rq]
  exact h
theorem ek_map {T U : List ND} (hT : SB 12 T) (hU : SB 12 U) (r5 : rk T = 5) : EK T U ↔ rk U = 5 ∧ rq T = rq U ∧ ((kd T).map nm).Perm ((kd U).map nm) := by
  have pT := (koS_perm (w := 1) hT.1 hT.2.1).map nm
  have pU := (koS_perm (w := 1) hU.1 hU.2.1).map nm
  constructor
  · intro h
    have hk := ek_rk h
    have g := (ek_grp hT hU (by omega) (by omega)).mp h
    refine ⟨by omega, g.2.2, ?_⟩
    have p := pT.symm
    rw [g.1] at p
    exact p.trans pU
  · rintro ⟨h1, h2, h3⟩
    rw [ek_grp hT hU (by omega) (by omega)]
    refine ⟨?_, by omega, h2⟩
    exact List.Perm.eq_of_pairwise (fun a b _ _ h1 h2 => by have := oK_sym (rq a) (rq b); omega) (ko_sorted r5) (ko_sorted h1) (pT.trans (h3.trans pU.symm))
theorem ek_leaf {T U : List ND} (c : rk T < 4) (h : EK T U) : U = T := by
  have hk := ek_rk h
  have h : nm T = nm U := h
  rw [nm_leaf c, nm_leaf (by omega)] at h
  exact h.symm
theorem flat_nm {m : Int} : ∀ (E : List (List ND)), (∀ t ∈ E, SB m t) → (E.map nm).flatten.length = E.flatten.length
  | [], _ => rfl
  | t :: E, h => by
    rw [List.map_cons, List.flatten_cons, List.flatten_cons, List.length_append, List.length_append, (nm_sdc (h t List.mem_cons_self)).2, flat_nm E (fun s hs => h s (List.mem_cons_of_mem _ hs))]
/-- a group out of EQUAL VALUES is EQUAL -/
theorem grp_ek {x y : ND} {E F : List (List ND)} (hx : NR x ∧ VN x) (hk : x.1 = y.1) (hq : x.2.2.2.2 = y.2.2.2.2) (hE : ∀ t ∈ E, SB 11 t) (hF : ∀ t ∈ F, SB 11 t) (hy : SB 12 (gpN y F F.length)) (h : (x.1 = 5 ∧ (E.map nm).Perm (F.map nm)) ∨ (x.1 = 4 ∧ E.map nm = F.map nm)) : SB 12 (gpN x E E.length) ∧ EK (gpN x E E.length) (gpN y F F.length) := by
  have tE : ∀ t ∈ E, TR t ∧ PZL t := fun t ht => (hE t ht).1.1
  have tF : ∀ t ∈ F, TR t ∧ PZL t := fun t ht => (hF t ht).1.1
  have kE : kd (gpN x E E.length) = E := kd_gp tE
  have kF : kd (gpN y F F.length) = F := kd_gp tF
  have p : (E.map nm).Perm (F.map nm) := h.elim (fun z => z.2) (fun z => by rw [z.2])
  have lf : E.flatten.length = F.flatten.length := by
    rw [← flat_nm E hE, ← flat_nm F hF]
    exact p.flatten.length_eq
  have lF : (gpN y F F.length).length = F.flatten.length + 1 := gp_len
  have l100 := hy.2.1
  have pq : (E.map rq).Perm (F.map rq) := by
    have := p.map rq
    rw [map_rq_nm, map_rq_nm] at this
    exact this
  have ry : rk (gpN y F F.length) = y.1 := rfl
  have rx : rk (gpN x E E.length) = x.1 := rfl
  have x4 : 4 ≤ x.1 := by rcases h with z | z <;> omega
  have sx : SDC (gpN x E E.length) := by
    refine sdc_gp x4 hx (fun t ht => (hE t ht).1) (fun z => ?_) (fun z t ht => ?_) (by omega)
    · have nd := sdc_nd hy.1 (by rw [ry]; omega)
      rw [kF] at nd
      exact pq.nodup_iff.mpr nd
    · have n4 := (hy.1.2.2 1).2.1 (by rw [ry]; omega)
      rw [kF] at n4
      obtain ⟨u, hu, e⟩ := List.mem_map.mp (pq.mem_iff.mp (List.mem_map_of_mem ht))
      rw [← e]
      exact n4 u hu
  have sb : SB 12 (gpN x E E.length) := ⟨sx, by rw [gp_len]; omega, fun g => dp_gp (b := 11) (by decide) tE (fun t ht => (hE t ht).2.2) g⟩
  refine ⟨sb, ?_⟩
  have eq : rq (gpN x E E.length) = rq (gpN y F F.length) := hq
  rcases h with ⟨c5, hp⟩ | ⟨c4, he⟩
  · exact (ek_map sb hy (by rw [rx]; exact c5)).mpr ⟨by rw [ry]; omega, eq, by rw [kE, kF]; exact hp⟩
  · exact (ek_row sb hy (by rw [rx]; exact c4)).mpr ⟨by rw [ry]; omega, eq, by rw [kE, kF]; exact he⟩
/-- EQUAL ones are as deep -/
theorem nm_dp : ∀ (n : Nat) (T : List ND) (b : Int), T.length ≤ n → SB 12 T → (∀ g, dpS g (nm T) ≤ b) → ∀ g, dpS g T ≤ b
  | 0, T, b, hn, h, _ => by have := sb_len1 h; omega
  | n + 1, T, b, hn, h, hb => by
    by_cases c4 : 4 ≤ rk T
    · have e := nm_grp h.2.2 c4
      have kt : ∀ t ∈ (koS 1 T).map nm, TR t ∧ PZL t := map_nm_tr (m := 11) (fun t ht => sb_kd h c4 (koS_mem t ht))
      have ek : kd (nm T) = (koS 1 T).map nm := by rw [e]; exact kd_gp kt
      have b1 : 1 ≤ b := by
        have := hb 0
        unfold dpS at this
        rw [nm_rk, if_pos c4] at this
        exact this
      rcases tr_cases h.1.1 with ⟨z, _, _⟩ | ⟨_, z⟩
      · omega
      · intro g
        rw [z]
        have key : ∀ t ∈ kd T, ∀ g, dpS g t ≤ b - 1 := fun t ht => by
          have lt := kd_len h.1.1
          have := mem_len ht
          refine nm_dp n t (b - 1) (by omega) (sb_up (sb_kd h c4 ht) (by decide)) ?_
          have m : nm t ∈ kd (nm T) := by
            rw [ek]
            exact List.mem_map_of_mem ((koS_perm h.1 h.2.1).mem_iff.mpr ht)
          exact dp_kd (b := b - 1) (fun g => by have := hb g; omega) (by rw [nm_rk]; exact c4) m
        have := dp_gp (x := T.getD 0 nd0) (m := (kd T).length) (b := b - 1) (by omega) (fun t ht => (sdc_kd h.1 ht).1) key g
        omega
    · rw [nm_leaf (by omega)] at hb
      exact hb
theorem ek_dp {T U : List ND} {b : Int} (hT : SB 12 T) (hU : SB 12 U) (h : EK T U) (hb : ∀ g, dpS g T ≤ b) : ∀ g, dpS g U ≤ b := by
  refine nm_dp _ U b (Nat.le_refl _) hU ?_
  have h : nm T = nm U := h
  rw [← h]
  exact wo_dp 12 T b hT.1 hT.2.1 hb
