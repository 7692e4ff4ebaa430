/-! GROWING: the class, leaves -/
theorem aNd_ok {P : List ND} {k : Int} (h : P.length < 100) : aNd (P, false) k = (P ++ [ndK k], false) := if_pos h
theorem addA_ok {P : List ND} (h : P.length < 100) : addA P = (P.length : Int) := if_pos h
theorem set_end {P : List ND} {x y : ND} : (P ++ [x]).set P.length y = P ++ [y] := by
  rw [List.set_append_right _ _ (Nat.le_refl _), Nat.sub_self]
  rfl
theorem get_end {P : List ND} {x : ND} : (P ++ [x]).getD P.length nd0 = x := by rw [getD_push, if_neg (by omega), if_pos rfl]
theorem wnum_r {v : Int} (h : 0 ≤ v) : ∀ x ∈ wnum v, 0 ≤ x ∧ x < 256 := by
  intro x hx
  unfold wnum at hx
  rcases List.mem_append.mp hx with q | q
  · rcases List.mem_append.mp q with q | q
    · rcases List.mem_append.mp q with q | q
      · split at q
        · simp at q; omega
        · cases q
      · split at q
        · simp only [List.mem_cons, List.not_mem_nil, or_false] at q; omega
        · cases q
    · split at q
      · simp only [List.mem_cons, List.not_mem_nil, or_false] at q; omega
      · cases q
  · simp only [List.mem_cons, List.not_mem_nil, or_false] at q; omega
section GR2
variable {S S0 : GS} {d : Nat} {P : List ND}
theorem gT408 : gT 408 := by decide
theorem gT416 : gT 416 := by decide
theorem gSh464 : gSh 464 := by decide
theorem gSh466 : gSh 466 := by decide
theorem grw_add {k st : Int} (h : GrS S0 P st S) (hl : P.length < 100) (hk : 0 ≤ k ∧ k ≤ 5) : Ev (fun n => f_X10_add n d 0 S [((408 : Nat) : Int), k]) (fun x S1 => x = (P.length : Int) ∧ GrS S0 (P ++ [ndK k]) st S1) := by
  refine ev_mono (ty_add gT408 (gr_ty h) hk) (fun x S1 q => ⟨by rw [q.1]; exact addA_ok hl, gr_tree h ?_⟩)
  have q2 := q.2
  rw [aNd_ok hl] at q2
  exact q2
theorem gr_number {st : Int} (h : GrS S0 P st S) (hst : 0 ≤ st ∧ st < 65536) (hl : P.length < 100) (hd : 10 ≤ d) : Ev (fun n => f_X3_number n d 0 S []) (fun x S1 => x = (P.length : Int) ∧ GrS S0 (P ++ [(2, 1, nmPw (wnum (dv st 1000)) (dv (dr st) 5 - 2), nmSg 0 (wnum (dv st 1000)), [])]) (dr (dr st)) S1) := by
  have r1 := dv_r (st := st) (n := 1000) (by decide)
  have r2 := dv_r (st := dr st) (n := 5) (by decide)
  have hwl := wnum_len (dv st 1000)
  refine ev_up (fun n => e_X3_number_0) ?_
  unfold b_X3_number_0
  refine ev_gg (by omega) ?_
  refine ev_gc (grw_add h hl (by decide)) (fun x S1 q1 => ?_)
  obtain ⟨rfl, g1⟩ := q1
  refine ev_gc (sx_clear gSh464 g1.2.2.2) (fun _ S2 s2 => ?_)
  have g2 := gr_sheet (Or.inl rfl) g1 s2
  refine ev_gc (fr_draw g2 hst (by decide)) (fun x S3 q3 => ?_)
  obtain ⟨rfl, g3, f3⟩ := q3
  have v3 : SV S3 464 [] := sv_fr s2.1 f3 (by omega) (by omega)
  refine ev_gc (s9_addNumber (x := dv st 1000) gSh464 (by omega) (sx_rf g3.2.2.2 v3) (by omega) (by show 0 + 4 ≤ g_room 465; decide)) (fun _ S4 s4 => ?_)
  rw [List.nil_append] at s4
  have g4 := gr_sheet (Or.inl rfl) g3 s4
  refine ev_gc (fr_draw g4 dr_r (by decide)) (fun x S5 q5 => ?_)
  obtain ⟨rfl, g5, f5⟩ := q5
  have v5 : SV S5 464 (wnum (dv st 1000)) := sv_fr s4.1 f5 (by omega) (by omega)
  refine ev_gv ?_
  have hn := ty_setNumber (d := d - 1) (i := P.length) (neg := 0) (p := dv (dr st) 5 - 2) gT408 gSh464 (by omega) v5 (fun x hx => (wnum_r r1.1 x hx).2) (by omega) (by omega) (by show P.length < (P ++ [ndK 2]).length; simp) (by decide) (gr_ty g5)
  refine ev_gc hn (fun x S6 q6 => ?_)
  refine ev_ret ⟨rfl, gr_tree g5 ?_⟩
  have q := q6.2
  unfold stN at q
  simp only [get_end, set_end] at q
  exact q
theorem gr_text_17 {n0 : Nat} : ∀ (k i : Nat) (S : GS) (st : Int) (a : List Int), i + k = n0 → n0 ≤ 3 → 0 ≤ st ∧ st < 65536 → a.length = i → P.length < 100 → 3 ≤ d → GrS S0 (P ++ [(3, 1, 0, a, [])]) st S → Ev (fun n => f_X3_text n d 17 S [(P.length : Int), (n0 : Int), (i : Int)]) (fun x S1 => x = (P.length : Int) ∧ GrS S0 (P ++ [(3, 1, 0, a ++ (grT k st).1, [])]) (grT k st).2 S1) := by
  intro k
  induction k with
  | zero =>
    intro i S st a hi hn hst ha hl hd h
    have e : (grT 0 st).1 = [] := rfl
    rw [e, List.append_nil]
    refine ev_up (fun n => e_X3_text_17) ?_
    unfold b_X3_text_17
    repeat' (first
      | with_reducible refine ev_gv ?_
      | with_reducible refine ev_gg ?_ ?_
      | with_reducible refine ev_ite (fun _ => ?_) (fun _ => ?_)
      | omega
      | assumption)
    exact ev_ret ⟨rfl, h⟩
  | succ k ih =>
    intro i S st a hi hn hst ha hl hd h
    have r1 := dv_r (st := st) (n := 3) (by decide)
    refine ev_up (fun n => e_X3_text_17) ?_
    unfold b_X3_text_17
    repeat' (first
      | with_reducible refine ev_gv ?_
      | with_reducible refine ev_gg ?_ ?_
      | with_reducible refine ev_ite (fun _ => ?_) (fun _ => ?_)
      | omega
      | assumption)
    refine ev_gc (gr_draw h hst (by decide)) (fun x S1 q1 => ?_)
    obtain ⟨rfl, g1⟩ := q1
    refine ev_gv ?_
    refine ev_gc (ty_addSign (i := (P.length : Int)) (a := 97 + dv st 3) gT408 (gr_ty g1) (by constructor <;> omega) (by omega)) (fun _ S2 q2 => ?_)
    have e5 := aSgs_ok [97 + dv st 3] (P ++ [(3, 1, 0, a, [])], false) P.length (by simp) (by
      unfold nt
      simp only [get_end, List.length_cons, List.length_nil]
      omega)
    have e6 : aSgs (P ++ [(3, 1, 0, a, [])], false) (P.length : Int) [97 + dv st 3] = aSg (P ++ [(3, 1, 0, a, [])], false) P.length (97 + dv st 3) := rfl
    rw [e6] at e5
    rw [e5] at q2
    unfold nt at q2
    simp only [get_end, set_end] at q2
    have g2 := gr_tree g1 q2
    refine ev_gv ?_
    have kk := ih (i + 1) S2 (dr st) (a ++ [97 + dv st 3]) (by omega) hn dr_r (by simp; omega) hl hd g2
    have e7 : a ++ (grT (k + 1) st).1 = a ++ [97 + dv st 3] ++ (grT k (dr st)).1 := by
      show a ++ ((97 + dv st 3) :: (grT k (dr st)).1) = _
      simp
    rw [e7]
    exact kk
theorem gr_text {st : Int} (h : GrS S0 P st S) (hst : 0 ≤ st ∧ st < 65536) (hl : P.length < 100) (hd : 4 ≤ d) : Ev (fun n => f_X3_text n d 0 S []) (fun x S1 => x = (P.length : Int) ∧ GrS S0 (P ++ [(3, 1, 0, (grT (dv st 4).toNat (dr st)).1, [])]) (grT (dv st 4).toNat (dr st)).2 S1) := by
  have r1 := dv_r (st := st) (n := 4) (by decide)
  refine ev_up (fun n => e_X3_text_0) ?_
  unfold b_X3_text_0
  refine ev_gg (by omega) ?_
  refine ev_gc (grw_add h hl (by decide)) (fun x S1 q1 => ?_)
  obtain ⟨rfl, g1⟩ := q1
  refine ev_gc (gr_draw g1 hst (by decide)) (fun x S2 q2 => ?_)
  obtain ⟨rfl, g2⟩ := q2
  have kk := gr_text_17 (d := d) (n0 := (dv st 4).toNat) (dv st 4).toNat 0 S2 (dr st) [] (by omega) (by omega) dr_r rfl hl (by omega) g2
  rw [show (((dv st 4).toNat : Nat) : Int) = dv st 4 by omega] at kk
  exact kk
end GR2
/-! whole pieces within whole pieces -/
theorem nz_seg {V : List ND} {i n k : Nat} (h : k < n) : nz (seg V i n) k = nz V (i + k) := by
  unfold nz
  rw [seg_at h]
theorem nk_seg {V : List ND} {i n k : Nat} (h : k < n) : nk (seg V i n) k = nk V (i + k) := by
  unfold nk
  rw [seg_at h]
theorem tr_sg {V : List ND} (hw : WF V) (hp : PZL V) {i : Nat} (hi : i < V.length) : TR (sg V i) ∧ PZL (sg V i) := by
  have z := pz_l hp i
  have l := sg_len hw hi
  refine ⟨⟨⟨fun k hk => ?_, fun k j h1 h2 => ?_, fun k hk hkk => ?_⟩, by omega, by rw [rz_sg hi z, l]⟩, fun x hx => hp x (seg_mem hx)⟩
  · rw [l] at hk ⊢
    have e : nz (sg V i) k = nz V (i + k) := nz_seg hk
    rw [e]
    cases k with
    | zero => simp
    | succ k =>
      have := hw.2.1 i (i + (k + 1)) (by omega) (by omega)
      omega
  · by_cases hk : k < nz V i
    · have e : nz (sg V i) k = nz V (i + k) := nz_seg hk
      rw [e] at h2 ⊢
      have hj : j < nz V i := by
        cases k with
        | zero => simpa using h2
        | succ k =>
          have := hw.2.1 i (i + (k + 1)) (by omega) (by omega)
          omega
      have e2 : nz (sg V i) j = nz V (i + j) := nz_seg hj
      rw [e2]
      have := hw.2.1 (i + k) (i + j) (by omega) (by omega)
      omega
    · have e : nz (sg V i) k = 1 := nz_out (by omega)
      omega
  · rw [l] at hk
    have e : nk (sg V i) k = nk V (i + k) := nk_seg hk
    have e2 : nz (sg V i) k = nz V (i + k) := nz_seg hk
    rw [e] at hkk
    rw [e2]
    have := hw.1 i hi
    exact hw.2.2 _ (by omega) hkk
theorem sg_self {T : List ND} (h : TR T) : sg T 0 = T := by
  have e : nz T 0 = T.length := h.2.2
  unfold sg seg
  rw [e, List.drop_zero, List.take_length]
theorem kd_tr {T : List ND} (h : TR T) (hp : PZL T) : ∀ t ∈ kd T, TR t ∧ PZL t := by
  intro t ht
  have e := kd_sg hp h.1 (show 0 < T.length by have := h.2.1; omega)
  rw [sg_self h] at e
  rw [e] at ht
  obtain ⟨k, hk, rfl⟩ := List.mem_map.mp ht
  have m := mem_kids (pz_l hp) hk
  have := h.1.1 0 (by have := h.2.1; omega)
  exact tr_sg h.1 hp (by omega)
theorem fold_all {p : List ND → Prop} {g : List ND → List ND} (hg : ∀ t q, p t → p (kyT (g t) q)) : ∀ (L E : List (List ND)), (∀ T ∈ E, p T) → (∀ T ∈ L, p T) → ∀ T ∈ L.foldl (fun E t => insK (g t) (rq t) E) E, p T
  | [], E, hE, _ => hE
  | t :: L, E, hE, hL => by
    refine fold_all hg L _ (fun T hT => ?_) (fun T hT => hL T (List.mem_cons_of_mem _ hT))
    rcases insK_mem hT with q | q
    · rw [q]; exact hg _ _ (hL t List.mem_cons_self)
    · exact hE T q
theorem nr3_tr : ∀ (f : Nat) (T : List ND), TR T ∧ PZL T → (TR (nr3 f T) ∧ PZL (nr3 f T)) ∧ rq (nr3 f T) = rq T
  | 0, T, h => ⟨h, rfl⟩
  | f + 1, T, h => by
    have hk := kd_tr h.1 h.2
    have ih := fun T h => nr3_tr f T h
    unfold nr3
    by_cases h5 : rk T = 5
    · rw [if_pos h5]
      have hE := fold_all (p := fun T => TR T ∧ PZL T) (g := nr3 f) (fun t q ht => ⟨tr_ky (ih t ht).1.1, pzl_ky (ih t ht).1.1.2.1 (ih t ht).1.2⟩) (kd T) [] (fun T hT => by cases hT) hk
      exact ⟨⟨tr_gp (by show 4 ≤ rk T; omega) (fun T hT => (hE T hT).1), pzl_gp (fun T hT => (hE T hT).2)⟩, rfl⟩
    · rw [if_neg h5]
      by_cases h4 : rk T = 4
      · rw [if_pos h4]
        have hE : ∀ U ∈ (kd T).map (nr3 f), TR U ∧ PZL U := by
          intro U hU
          obtain ⟨t, ht, rfl⟩ := List.mem_map.mp hU
          exact (ih t (hk t ht)).1
        exact ⟨⟨tr_gp (by show 4 ≤ rk T; omega) (fun T hT => (hE T hT).1), pzl_gp (fun T hT => (hE T hT).2)⟩, rfl⟩
      · rw [if_neg h4]
        exact ⟨h, rfl⟩
