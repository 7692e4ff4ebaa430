/-! FORESTS: rows of whole pieces -/
theorem nz_l {A B : List ND} {i : Nat} (h : i < A.length) : nz (A ++ B) i = nz A i := by
  unfold nz
  rw [getD_append, if_pos h]
theorem nk_l {A B : List ND} {i : Nat} (h : i < A.length) : nk (A ++ B) i = nk A i := by
  unfold nk
  rw [getD_append, if_pos h]
theorem nq_l {A B : List ND} {i : Nat} (h : i < A.length) : nq (A ++ B) i = nq A i := by
  unfold nq
  rw [getD_append, if_pos h]
theorem nz_r {A B : List ND} {i : Nat} (h : A.length ≤ i) : nz (A ++ B) i = nz B (i - A.length) := by
  unfold nz
  rw [getD_append, if_neg (by omega)]
theorem nk_r {A B : List ND} {i : Nat} (h : A.length ≤ i) : nk (A ++ B) i = nk B (i - A.length) := by
  unfold nk
  rw [getD_append, if_neg (by omega)]
theorem nq_r {A B : List ND} {i : Nat} (h : A.length ≤ i) : nq (A ++ B) i = nq B (i - A.length) := by
  unfold nq
  rw [getD_append, if_neg (by omega)]
theorem wf_nil : WF [] := ⟨fun i hi => by simp at hi, fun i j h1 h2 => by
  have e : nz [] i = 1 := rfl
  omega, fun i hi => by simp at hi⟩
theorem nz_out {A : List ND} {i : Nat} (h : A.length ≤ i) : nz A i = 1 := by
  unfold nz
  rw [List.getD_eq_getElem?_getD, List.getElem?_eq_none h]
  rfl
theorem wf_app {A B : List ND} (ha : WF A) (hb : WF B) : WF (A ++ B) := by
  refine ⟨fun i hi => ?_, fun i j h1 h2 => ?_, fun i hi hk => ?_⟩
  · rw [List.length_append] at hi ⊢
    by_cases q : i < A.length
    · rw [nz_l q]
      have := ha.1 i q
      omega
    · rw [nz_r (by omega)]
      have := hb.1 (i - A.length) (by omega)
      omega
  · by_cases q : i < A.length
    · rw [nz_l q] at h2 ⊢
      have := ha.1 i q
      rw [nz_l (by omega)]
      exact ha.2.1 i j h1 h2
    · rw [nz_r (by omega)] at h2 ⊢
      rw [nz_r (by omega)]
      have := hb.2.1 (i - A.length) (j - A.length) (by omega) (by omega)
      omega
  · rw [List.length_append] at hi
    by_cases q : i < A.length
    · rw [nk_l q] at hk
      rw [nz_l q]
      exact ha.2.2 i q hk
    · rw [nk_r (by omega)] at hk
      rw [nz_r (by omega)]
      exact hb.2.2 _ (by omega) hk
/-- a whole piece -/
def TR (T : List ND) : Prop := WF T ∧ 1 ≤ T.length ∧ rz T = T.length
theorem wf_flat : ∀ {E : List (List ND)}, (∀ T ∈ E, TR T) → WF E.flatten
  | [], _ => wf_nil
  | T :: E, h => by
    rw [List.flatten_cons]
    exact wf_app (h T List.mem_cons_self).1 (wf_flat (fun U hU => h U (List.mem_cons_of_mem _ hU)))
/-- a group that covers its first values, up to m of them -/
def gpN (x : ND) (E : List (List ND)) (m : Nat) : List ND := wZ x (1 + (E.take m).flatten.length) :: E.flatten
theorem take_flat {E : List (List ND)} {m : Nat} : E.flatten = (E.take m).flatten ++ (E.drop m).flatten := by
  rw [← List.flatten_append, List.take_append_drop]
theorem nz_cons {x : ND} {A : List ND} {i : Nat} : nz (x :: A) (i + 1) = nz A i := by
  unfold nz
  simp
theorem nk_cons {x : ND} {A : List ND} {i : Nat} : nk (x :: A) (i + 1) = nk A i := by
  unfold nk
  simp
theorem wf_gp {x : ND} {E : List (List ND)} {m : Nat} (hx : 4 ≤ x.1) (hE : ∀ T ∈ E, TR T) : WF (gpN x E m) := by
  have w1 : WF (E.take m).flatten := wf_flat (fun T hT => hE T (List.mem_of_mem_take hT))
  have w : WF E.flatten := wf_flat hE
  have hl : (E.take m).flatten.length ≤ E.flatten.length := by rw [take_flat (E := E) (m := m), List.length_append]; omega
  have z0 : nz (gpN x E m) 0 = 1 + (E.take m).flatten.length := rfl
  have k0 : nk (gpN x E m) 0 = x.1 := rfl
  have zs : ∀ i, nz (gpN x E m) (i + 1) = nz E.flatten i := fun i => nz_cons
  have kss : ∀ i, nk (gpN x E m) (i + 1) = nk E.flatten i := fun i => nk_cons
  have len : (gpN x E m).length = E.flatten.length + 1 := rfl
  refine ⟨fun i hi => ?_, fun i j h1 h2 => ?_, fun i hi hk => ?_⟩
  · rw [len] at hi ⊢
    cases i with
    | zero => rw [z0]; omega
    | succ i =>
      rw [zs]
      have := w.1 i (by omega)
      omega
  · cases j with
    | zero => omega
    | succ j =>
      rw [zs]
      cases i with
      | zero =>
        rw [z0] at h2 ⊢
        have e : nz E.flatten j = nz (E.take m).flatten j := by
          rw [take_flat (E := E) (m := m), nz_l (by omega)]
        rw [e]
        have := w1.1 j (by omega)
        omega
      | succ i =>
        rw [zs] at h2 ⊢
        have := w.2.1 i j (by omega) (by omega)
        omega
  · rw [len] at hi
    cases i with
    | zero => rw [k0] at hk; omega
    | succ i =>
      rw [kss] at hk
      rw [zs]
      exact w.2.2 i (by omega) hk
theorem tr_gp {x : ND} {E : List (List ND)} (hx : 4 ≤ x.1) (hE : ∀ T ∈ E, TR T) : TR (gpN x E E.length) := by
  refine ⟨wf_gp hx hE, by show 1 ≤ E.flatten.length + 1; omega, ?_⟩
  show 1 + (E.take E.length).flatten.length = E.flatten.length + 1
  rw [List.take_length]
  omega
theorem tr_leaf {x : ND} (hz : x.2.1 = 1) : TR [x] := by
  have e : ∀ i, nz [x] i = 1 := by
    intro i
    cases i with
    | zero => exact hz
    | succ i => exact nz_out (by simp)
  refine ⟨⟨fun i hi => ?_, fun i j h1 h2 => ?_, fun i _ _ => e i⟩, Nat.le_refl _, hz⟩
  · rw [e i]
    simp at hi ⊢
    omega
  · rw [e i] at h2
    omega
/-- whole pieces, one behind the other, are found again -/
theorem sgs_flat : ∀ {E : List (List ND)}, (∀ T ∈ E, TR T ∧ PZL T) → sgs E.flatten = E
  | [], _ => rfl
  | T :: E, h => by
    obtain ⟨⟨hw, h1, h2⟩, hp⟩ := h T List.mem_cons_self
    have hE := fun U hU => h U (List.mem_cons_of_mem _ hU)
    rw [List.flatten_cons]
    cases T with
    | nil => simp at h1
    | cons x r =>
      have hz : ∀ y ∈ x :: (r ++ E.flatten), 1 ≤ y.2.1 := by
        intro y hy
        have : y ∈ (x :: r) ++ E.flatten := hy
        rcases List.mem_append.mp this with q | q
        · exact hp y q
        · obtain ⟨U, hU, hyU⟩ := List.mem_flatten.mp q
          exact (hE U hU).2 y hyU
      have hx : x.2.1 = (x :: r).length := h2
      rw [List.cons_append, sgs_cons hz]
      have e1 : (x :: (r ++ E.flatten)).take x.2.1 = x :: r := by
        rw [hx, ← List.cons_append, List.take_left']
        rfl
      have e2 : (x :: (r ++ E.flatten)).drop x.2.1 = E.flatten := by
        rw [hx, ← List.cons_append, List.drop_left']
        rfl
      rw [e1, e2, sgs_flat hE]
theorem kd_gp {x : ND} {E : List (List ND)} {m : Nat} (hE : ∀ T ∈ E, TR T ∧ PZL T) : kd (gpN x E m) = E := sgs_flat hE
theorem pzl_flat {E : List (List ND)} (h : ∀ T ∈ E, PZL T) : PZL E.flatten := fun x hx => by
  obtain ⟨U, hU, hxU⟩ := List.mem_flatten.mp hx
  exact h U hU x hxU