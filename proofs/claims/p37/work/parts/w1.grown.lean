/-! p37: what grows: its KEYS are letters, its NODES few -/
abbrev oneL (q : List Int) : Prop := q = [] ∨ ∃ c : Int, 97 ≤ c ∧ c ≤ 101 ∧ q = [c]
theorem lk_ky {T : List ND} {q : List Int} (h : LKy T) (hq : oneL q) : LKy (kyT T q) := fun x hx => by
  rcases mem_ky hx with z | z
  · rw [z]; exact hq
  · exact h x z
theorem lk_gp {x : ND} {E : List (List ND)} {m : Nat} (hx : oneL x.2.2.2.2) (h : ∀ t ∈ E, LKy t) : LKy (gpN x E m) := fun y hy => by
  rcases List.mem_cons.mp (show y ∈ wZ x (1 + (E.take m).flatten.length) :: E.flatten from hy) with z | z
  · rw [z]; exact hx
  · obtain ⟨t, ht, hy⟩ := List.mem_flatten.mp z
    exact h t ht y hy
theorem lk_leaf {x : ND} (hx : x.2.2.2.2 = []) : LKy [x] := fun y hy => by
  simp only [List.mem_cons, List.not_mem_nil, or_false] at hy
  rw [hy]; exact Or.inl hx
theorem lk_rq {T : List ND} (h : LKy T) (h1 : 1 ≤ T.length) : oneL (rq T) := h _ (nd_mem h1)
theorem lk_kd {T t : List ND} (h : LKy T) (hT : TR T ∧ PZL T) (ht : t ∈ kd T) : LKy t := fun x hx => h x (mem_kd hT.2 hT.1.2.1 ht hx)
theorem lk_grL {g : Int → List ND × Int} (hg : ∀ st, LKy (g st).1) (mp : Bool) : ∀ (n : Nat) (st : Int), ∀ T ∈ (grL g mp n st).1, LKy T
  | 0, st, T, hT => by cases hT
  | n + 1, st, T, hT => by
    cases mp with
    | true =>
      rw [grL_t] at hT
      rcases List.mem_cons.mp hT with z | z
      · rw [z]
        have d5 := dv_r (st := st) (n := 5) (by decide)
        exact lk_ky (hg (dr st)) (Or.inr ⟨_, by omega, by omega, rfl⟩)
      · exact lk_grL hg true n _ T z
    | false =>
      rw [grL_f] at hT
      rcases List.mem_cons.mp hT with z | z
      · rw [z]; exact hg st
      · exact lk_grL hg false n _ T z
theorem lk_grF : ∀ (f : Nat) (lv sz st : Int), LKy (grF f lv sz st).1
  | 0, lv, sz, st => lk_leaf rfl
  | f + 1, lv, sz, st => by
    unfold grF
    split
    · exact lk_leaf rfl
    split
    · exact lk_leaf rfl
    split
    · exact lk_leaf rfl
    split
    · exact lk_leaf rfl
    · exact lk_gp (Or.inl rfl) (lk_grL (fun st => lk_grF f (lv + 1) sz st) _ _ _)
theorem lk_insK {t : List ND} {q : List Int} (ht : LKy t) (hq : oneL q) : ∀ (E : List (List ND)), (∀ u ∈ E, LKy u) → ∀ u ∈ insK t q E, LKy u := fun E h u hu => by
  rcases insK_mem hu with z | z
  · rw [z]; exact lk_ky ht hq
  · exact h u z
theorem lk_nr3 : ∀ (f : Nat) (T : List ND), TR T ∧ PZL T → LKy T → LKy (nr3 f T)
  | 0, T, _, h => h
  | f + 1, T, hT, h => by
    have kt := kd_tr hT.1 hT.2
    have one : ∀ t ∈ kd T, LKy (nr3 f t) ∧ oneL (rq t) := fun t ht => ⟨lk_nr3 f t (kt t ht) (lk_kd h hT ht), lk_rq (lk_kd h hT ht) (kt t ht).1.2.1⟩
    rw [nr3_s]
    have r : oneL (T.getD 0 nd0).2.2.2.2 := lk_rq h hT.1.2.1
    split
    · refine lk_gp r ?_
      have fold : ∀ (L E : List (List ND)), (∀ t ∈ L, t ∈ kd T) → (∀ u ∈ E, LKy u) → ∀ u ∈ L.foldl (fun E t => insK (nr3 f t) (rq t) E) E, LKy u := by
        intro L
        induction L with
        | nil => intro E _ hE; exact hE
        | cons t L ih =>
          intro E hL hE
          have o := one t (hL t List.mem_cons_self)
          exact ih _ (fun s hs => hL s (List.mem_cons_of_mem _ hs)) (lk_insK o.1 o.2 E hE)
      exact fold (kd T) [] (fun t ht => ht) (fun u hu => by cases hu)
    · split
      · refine lk_gp r (fun u hu => ?_)
        obtain ⟨t, ht, rfl⟩ := List.mem_map.mp hu
        exact (one t ht).1
      · exact h
/-- a change by WORDS of what has letters alone -/
theorem lk_at {t : List ND} (ht : LKy t) : ∀ (ws : List (List Int)) (T U : List ND), TR T ∧ PZL T → LKy T → atR (hRep t) ws T U → LKy U
  | [], T, U, hT, h, a => by
    have a : U = kyT t (rq T) := a
    rw [a]
    exact lk_ky ht (lk_rq h hT.1.2.1)
  | w :: ws, T, U, hT, h, a => by
    obtain ⟨A, e, e1, B, k, i, a1, rfl⟩ := a
    obtain ⟨he, ka, _⟩ := kd_ok hT k
    have lk : ∀ u ∈ A ++ e :: B, LKy u := fun u hu => lk_kd h hT (by rw [k]; exact hu)
    refine lk_gp (lk_rq h hT.1.2.1) (fun u hu => ?_)
    rcases List.mem_append.mp hu with z | z
    · exact lk u (List.mem_append_left _ z)
    · rcases List.mem_cons.mp z with z | z
      · rw [z]
        exact lk_at ht ws e e1 he (lk e (List.mem_append_right _ List.mem_cons_self)) a1
      · exact lk u (List.mem_append_right _ (List.mem_cons_of_mem _ z))
theorem dp_at {t : List ND} {m : Nat} (ht : TR t ∧ PZL t) (hd : ∀ g, dpS g t ≤ (m : Int)) : ∀ (ws : List (List Int)) (T U : List ND) (b : Int), TR T ∧ PZL T → 0 ≤ b → (∀ g, dpS g T ≤ b) → atR (hRep t) ws T U → ∀ g, dpS g U ≤ b + m
  | [], T, U, b, hT, hb, h, a => fun g => by
    have a : U = kyT t (rq T) := a
    rw [a, dp_ky]
    have := hd g
    omega
  | w :: ws, T, U, b, hT, hb, h, a => fun g => by
    obtain ⟨A, e, e1, B, k, i, a1, rfl⟩ := a
    obtain ⟨he, ka, _⟩ := kd_ok hT k
    have c4 := isK_4 i
    have b1 : 1 ≤ b := by
      have := h 0
      unfold dpS at this
      rw [if_pos c4] at this
      exact this
    have lk : ∀ u ∈ A ++ e :: B, ∀ g, dpS g u ≤ b - 1 := fun u hu => dp_kd (b := b - 1) (fun g => by have := h g; omega) c4 (by rw [k]; exact hu)
    have t1 := (atR_tr (h := hRep t) (fun T U _ h => rep_tr ht h) ws e e1 he a1).1
    have d1 := dp_at ht hd ws e e1 (b - 1) he (by omega) (lk e (List.mem_append_right _ List.mem_cons_self)) a1
    have hE : ∀ u ∈ A ++ e1 :: B, TR u ∧ PZL u := fun u hu => by
      rcases List.mem_append.mp hu with z | z
      · exact ka u (List.mem_append_left _ z)
      · rcases List.mem_cons.mp z with z | z
        · rw [z]; exact t1
        · exact ka u (List.mem_append_right _ (List.mem_cons_of_mem _ z))
    have := dp_gp (x := T.getD 0 nd0) (m := (A ++ e1 :: B).length) (b := b - 1 + m) (by omega) hE (fun u hu g => by
      rcases List.mem_append.mp hu with z | z
      · have := lk u (List.mem_append_left _ z) g; omega
      · rcases List.mem_cons.mp z with z | z
        · rw [z]; exact d1 g
        · have := lk u (List.mem_append_right _ (List.mem_cons_of_mem _ z)) g; omega) g
    omega
/-- what grows -/
theorem grw_ok {seed sz : Int} (hs : 0 ≤ seed ∧ seed < 65536) (hz : 1 ≤ sz ∧ sz ≤ 3) : DOC (grw seed sz) ∧ LKy (grw seed sz) ∧ (grw seed sz).length ≤ 40 ∧ ∀ g, dpS g (grw seed sz) ≤ 3 := by
  obtain ⟨a, b, c, d⟩ := gr_sdc (f := 4) (lv := 0) (sz := sz) (st := seed) hz (by decide) (by decide) (by decide) hs
  have t := grF_tr 4 0 sz seed
  exact ⟨⟨a, fun g => by have := b g; show dpS g (nr3 4 (grF 4 0 sz seed).1) ≤ 12; omega, by show (nr3 4 (grF 4 0 sz seed).1).length ≤ 100; omega, d⟩, lk_nr3 4 _ t (lk_grF 4 0 sz seed), c, b⟩
theorem vrT_4 {seed : Int} : (vrT seed).length ≤ 4 ∧ LKy (vrT seed) := by
  obtain ⟨g1, g2, g3, g4, _⟩ := grF_ok (sz := 2) (by decide) 2 2 (dr seed) (by decide) (by decide) (by decide) dr_r
  have t := grF_tr 2 2 2 (dr seed)
  refine ⟨?_, lk_nr3 2 _ t (lk_grF 2 2 2 (dr seed))⟩
  have := nrH_len (h := true) 2 _ g1.1
  rw [nrH_3] at this
  have b : bz 2 = 4 := rfl
  show (nr3 2 (grF 2 2 2 (dr seed)).1).length ≤ 4
  omega
/-- what varies -/
theorem vry_ok {V : List ND} {seed : Int} (hV : DOC V) (hK : LKy V) (hl : V.length ≤ 40) (hd : ∀ g, dpS g V ≤ 3) : pOK (vrW V seed) ∧ DOC (vrW V seed) ∧ LKy (vrW V seed) ∧ (vrW V seed).length ≤ 43 := by
  have l1 := hV.1.1.1.2.1
  obtain ⟨il, _⟩ := vr_at (seed := seed) l1
  have vo := vrT_ok (seed := seed)
  obtain ⟨v4, vk⟩ := vrT_4 (seed := seed)
  obtain ⟨ss, _, _, _, _, p5⟩ := pth_ld hV.1 hV.2.2.1 hK _ _ (Nat.le_refl _) il
  have u := upd_at (h := fun c => kyT (vrT seed) (rq c)) (ss.map une) V.length V _ _ (Nat.le_refl _) hV.1.1 p5
  have u : atR (hRep (vrT seed)) (ss.map une) V (vrW V seed) := u
  have tv := vo.1.1
  have tr := upd_tr (h := fun c => kyT (vrT seed) (rq c)) V.length V (dv seed V.length).toNat (Nat.le_refl _) hV.1.1 il ⟨tr_ky tv.1, pzl_ky tv.1.2.1 tv.2⟩
  have tr2 : (vrW V seed).length + (sg V (dv seed V.length).toNat).length = V.length + (kyT (vrT seed) (rq (sg V (dv seed V.length).toNat))).length := tr.2
  rw [ky_len tv.1.2.1] at tr2
  have s1 : 1 ≤ (sg V (dv seed V.length).toNat).length := (sdc_sg _ V (Nat.le_refl _) hV.1 _ il).1.1.2.1
  have len : (vrW V seed).length ≤ 43 := by omega
  have dp := dp_at (m := 3) tv vo.2.1 _ V _ 3 hV.1.1 (by decide) hd u
  have ok : pOK (vrW V seed) := ⟨by omega, by have := dp 13; omega⟩
  exact ⟨ok, (vrW_ok hV).2.1 ok, lk_at vk _ V _ hV.1.1 hK u, len⟩
