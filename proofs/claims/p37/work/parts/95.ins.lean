/-! like KEYS in a row of VALUES -/
def fdE (key : List Int) : List (List ND) → Nat → Int
  | [], _ => -1
  | u :: E, i => if rq u = key then (i : Int) else fdE key E (i + u.length)
theorem fdK_flat {key : List Int} : ∀ (E : List (List ND)) (Q : List ND), (∀ T ∈ E, TR T) → PZ (Q ++ E.flatten) → fdK (Q ++ E.flatten) key (ks (Q ++ E.flatten) Q.length (Q ++ E.flatten).length) = fdE key E Q.length
  | [], Q, _, _ => by
    rw [ks_nil (by simp)]
    rfl
  | u :: E, Q, h, hz => by
    obtain ⟨uw, u1, u2⟩ := h u List.mem_cons_self
    have hE := fun T hT => h T (List.mem_cons_of_mem _ hT)
    have e : Q ++ (u :: E).flatten = (Q ++ u) ++ E.flatten := by rw [List.flatten_cons, List.append_assoc]
    have ih := fdK_flat (key := key) E (Q ++ u) hE (by rw [← e]; exact hz)
    have ez : nz (Q ++ (u :: E).flatten) Q.length = u.length := by
      rw [List.flatten_cons, nz_r (Nat.le_refl _), Nat.sub_self, nz_l (by omega)]
      exact u2
    have eq : nq (Q ++ (u :: E).flatten) Q.length = rq u := by
      rw [List.flatten_cons, nq_r (Nat.le_refl _), Nat.sub_self, nq_l (by omega)]
      rfl
    rw [ks_cons hz (by rw [List.length_append, List.flatten_cons, List.length_append]; omega)]
    unfold fdK fdE
    rw [eq, ez]
    by_cases q : rq u = key
    · rw [if_pos q, if_pos q]
    · rw [if_neg q, if_neg q]
      rw [e]
      have l : (Q ++ u).length = Q.length + u.length := List.length_append
      rw [l] at ih
      exact ih
theorem fdE_ins {t : List ND} {key : List Int} : ∀ (E : List (List ND)) (i : Nat), (fdE key E i = -1 ∧ insK t key E = E ++ [kyT t key]) ∨ ∃ A u B, E = A ++ u :: B ∧ rq u = key ∧ fdE key E i = ((i + A.flatten.length : Nat) : Int) ∧ insK t key E = A ++ kyT t key :: B
  | [], i => Or.inl ⟨rfl, rfl⟩
  | u :: E, i => by
    unfold fdE insK
    by_cases q : rq u = key
    · rw [if_pos q, if_pos q]
      exact Or.inr ⟨[], u, E, rfl, q, rfl, rfl⟩
    · rw [if_neg q, if_neg q]
      rcases fdE_ins (t := t) (key := key) E (i + u.length) with ⟨h1, h2⟩ | ⟨A, v, B, h1, h2, h3, h4⟩
      · exact Or.inl ⟨h1, by rw [h2]; rfl⟩
      · refine Or.inr ⟨u :: A, v, B, by rw [h1]; rfl, h2, ?_, by rw [h4]; rfl⟩
        rw [h3, List.flatten_cons, List.length_append]
        congr 1
        omega
theorem insK_mem {t : List ND} {key : List Int} : ∀ {E : List (List ND)} {T : List ND}, T ∈ insK t key E → T = kyT t key ∨ T ∈ E
  | [], T, h => by
    simp only [insK, List.mem_cons, List.not_mem_nil, or_false] at h
    exact Or.inl h
  | u :: E, T, h => by
    unfold insK at h
    split at h
    · rcases List.mem_cons.mp h with q | q
      · exact Or.inl q
      · exact Or.inr (List.mem_cons_of_mem _ q)
    · rcases List.mem_cons.mp h with q | q
      · exact Or.inr (q ▸ List.mem_cons_self)
      · rcases insK_mem q with r | r
        · exact Or.inl r
        · exact Or.inr (List.mem_cons_of_mem _ r)
theorem insK_len {t : List ND} {key : List Int} (h1 : 1 ≤ t.length) : ∀ (E : List (List ND)), (insK t key E).flatten.length ≤ E.flatten.length + t.length
  | [] => by
    show (List.flatten [kyT t key]).length ≤ _
    simp only [List.flatten_cons, List.flatten_nil, List.append_nil, List.length_nil]
    rw [ky_len h1]
    omega
  | u :: E => by
    have := insK_len (t := t) (key := key) h1 E
    unfold insK
    split
    · simp only [List.flatten_cons, List.length_append]
      rw [ky_len h1]
      omega
    · simp only [List.flatten_cons, List.length_append]
      omega
/-- how great a VALUE can grow -/
def bz : Nat → Nat
  | 0 => 1
  | 1 => 1
  | 2 => 4
  | 3 => 13
  | _ => 40
theorem grL_len (g : Int → List ND × Int) (mp : Bool) : ∀ n st, (grL g mp n st).1.length = n
  | 0, _ => rfl
  | n + 1, st => by
    unfold grL
    split
    · simp only [List.length_cons, grL_len g mp n]
    · simp only [List.length_cons, grL_len g mp n]
theorem grL_all {g : Int → List ND × Int} {mp : Bool} {p : List ND → Prop} (h : ∀ st, p (g st).1) (hk : ∀ T q, p T → p (kyT T q)) : ∀ n st, ∀ T ∈ (grL g mp n st).1, p T
  | 0, _, T, hT => by cases hT
  | n + 1, st, T, hT => by
    unfold grL at hT
    split at hT
    · rcases List.mem_cons.mp hT with q | q
      · rw [q]; exact hk _ _ (h _)
      · exact grL_all h hk n _ T q
    · rcases List.mem_cons.mp hT with q | q
      · rw [q]; exact h _
      · exact grL_all h hk n _ T q
theorem pzl_gp {x : ND} {E : List (List ND)} {m : Nat} (hE : ∀ T ∈ E, PZL T) : PZL (gpN x E m) := by
  intro y hy
  rcases List.mem_cons.mp hy with q | q
  · subst q
    show 1 ≤ 1 + _
    omega
  · exact pzl_flat hE y q
theorem pzl_one {x : ND} (h : x.2.1 = 1) : PZL [x] := by
  intro y hy
  simp only [List.mem_cons, List.not_mem_nil, or_false] at hy
  subst hy
  omega
/-- what grows is a whole piece -/
theorem grF_tr : ∀ (f : Nat) (lv sz st : Int), TR (grF f lv sz st).1 ∧ PZL (grF f lv sz st).1
  | 0, _, _, _ => ⟨tr_leaf rfl, pzl_one rfl⟩
  | f + 1, lv, sz, st => by
    have ih := fun st => grF_tr f (lv + 1) sz st
    unfold grF
    split
    · exact ⟨tr_leaf rfl, pzl_one rfl⟩
    · split
      · exact ⟨tr_leaf rfl, pzl_one rfl⟩
      · split
        · exact ⟨tr_leaf rfl, pzl_one rfl⟩
        · split
          · exact ⟨tr_leaf rfl, pzl_one rfl⟩
          · have hall := grL_all (g := grF f (lv + 1) sz) (mp := decide (6 ≤ grK lv st)) (p := fun T => TR T ∧ PZL T) ih (fun T q h => ⟨tr_ky h.1, pzl_ky h.1.2.1 h.2⟩) (dv (dr st) (sz + 1)).toNat (dr (dr st))
            have hl := grL_len (grF f (lv + 1) sz) (decide (6 ≤ grK lv st)) (dv (dr st) (sz + 1)).toNat (dr (dr st))
            have ht := tr_gp (x := ndK (if grK lv st < 6 then 4 else 5)) (E := (grL (grF f (lv + 1) sz) (decide (6 ≤ grK lv st)) (dv (dr st) (sz + 1)).toNat (dr (dr st))).1) (by show 4 ≤ (if grK lv st < 6 then (4 : Int) else 5); split <;> omega) (fun T hT => (hall T hT).1)
            rw [hl] at ht
            exact ⟨ht, pzl_gp (fun T hT => (hall T hT).2)⟩
