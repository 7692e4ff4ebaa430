/-! DOCUMENTS, as whole pieces -/
theorem tr_cases {T : List ND} (h : TR T ∧ PZL T) : (rk T < 4 ∧ T = [T.getD 0 nd0] ∧ (T.getD 0 nd0).2.1 = 1) ∨ (4 ≤ rk T ∧ T = gpN (T.getD 0 nd0) (kd T) (kd T).length) := by
  obtain ⟨⟨hw, h1, h2⟩, hz⟩ := h
  have e := kd_flat hz h1
  by_cases c : rk T < 4
  · left
    have z : nz T 0 = 1 := hw.2.2 0 h1 c
    have l : T.length = 1 := by
      have : rz T = nz T 0 := rfl
      omega
    cases T with
    | nil => simp at h1
    | cons x r =>
      have : r = [] := List.eq_nil_of_length_eq_zero (by simpa using l)
      subst this
      exact ⟨c, rfl, z⟩
  · right
    refine ⟨by omega, ?_⟩
    unfold gpN
    rw [List.take_length]
    have l : T.length = 1 + (kd T).flatten.length := by
      have := congrArg List.length e
      rw [List.length_cons] at this
      omega
    have : wZ (T.getD 0 nd0) (1 + (kd T).flatten.length) = T.getD 0 nd0 := by
      rw [← l, ← h2]
      rfl
    rw [this]
    exact e
theorem mem_len {E : List (List ND)} {t : List ND} (h : t ∈ E) : t.length ≤ E.flatten.length := by
  obtain ⟨A, B, rfl⟩ := List.append_of_mem h
  simp
  omega
/-- the signs of a NUMBER -/
def NbOK (t : List Int) (p : Int) : Prop := (t = [48] ∧ p = 0) ∨ ∃ (g : Int) (F : List Int), t = (if g = 0 then [] else [45]) ++ F ∧ fgR F ∧ 1 ≤ F.length ∧ F.length ≤ 24 ∧ F.getD 0 0 ≠ 48 ∧ F.getD (F.length - 1) 0 ≠ 48 ∧ -99 ≤ p ∧ p ≤ 99
/-- what a NODE holds by its KIND -/
def VN (x : ND) : Prop := (x.1 = 0 ∧ x.2.2.1 = 0 ∧ x.2.2.2.1 = []) ∨ (x.1 = 1 ∧ (x.2.2.1 = 0 ∨ x.2.2.1 = 1) ∧ x.2.2.2.1 = []) ∨ (x.1 = 2 ∧ NbOK x.2.2.2.1 x.2.2.1) ∨ (x.1 = 3 ∧ x.2.2.1 = 0) ∨ (4 ≤ x.1 ∧ x.2.2.1 = 0 ∧ x.2.2.2.1 = [])
/-- KEYS of MAPS are none twice, VALUES of ROWS have none -/
def KU : Nat → List ND → Prop
  | 0, _ => True
  | f + 1, T => (rk T = 5 → ((kd T).map rq).Nodup) ∧ (rk T = 4 → ∀ t ∈ kd T, rq t = []) ∧ ∀ t ∈ kd T, KU f t
/-- a sound piece -/
def SDC (T : List ND) : Prop := (TR T ∧ PZL T) ∧ (∀ x ∈ T, NR x ∧ VN x) ∧ ∀ f, KU f T
/-- a DOCUMENT -/
def DOC (T : List ND) : Prop := SDC T ∧ (∀ g, dpS g T ≤ 12) ∧ T.length ≤ 100 ∧ rq T = []
theorem ku_ky : ∀ {f : Nat} {T : List ND} {q : List Int}, KU f (kyT T q) ↔ KU f T
  | 0, _, _ => Iff.rfl
  | f + 1, _, _ => Iff.rfl
theorem vn_Q {x : ND} {q : List Int} (h : VN x) : VN (wQ x q) := h
theorem vn_Z {x : ND} {z : Nat} (h : VN x) : VN (wZ x z) := h
theorem sdc_ky {T : List ND} {q : List Int} (h : SDC T) (hq : rng q) (hl : q.length ≤ 12) : SDC (kyT T q) := by
  refine ⟨⟨tr_ky h.1.1, pzl_ky h.1.1.2.1 h.1.2⟩, fun x hx => ?_, fun f => ku_ky.mpr (h.2.2 f)⟩
  rcases mem_ky hx with z | z
  · rw [z]
    have := h.2.1 _ (nd_mem h.1.1.2.1)
    exact ⟨nr_Q this.1 hl hq, vn_Q this.2⟩
  · exact h.2.1 x z
theorem mem_kd {T t : List ND} {x : ND} (h : PZL T) (h1 : 1 ≤ T.length) (ht : t ∈ kd T) (hx : x ∈ t) : x ∈ T := by
  rw [kd_flat h h1]
  exact List.mem_cons_of_mem _ (List.mem_flatten.mpr ⟨t, ht, hx⟩)
theorem sdc_kd {T t : List ND} (h : SDC T) (ht : t ∈ kd T) : SDC t := ⟨kd_tr h.1.1 h.1.2 t ht, fun x hx => h.2.1 x (mem_kd h.1.2 h.1.1.2.1 ht hx), fun f => (h.2.2 (f + 1)).2.2 t ht⟩
theorem sdc_gp {x : ND} {E : List (List ND)} (hx : 4 ≤ x.1) (hn : NR x ∧ VN x) (hE : ∀ t ∈ E, SDC t) (h5 : x.1 = 5 → (E.map rq).Nodup) (h4 : x.1 = 4 → ∀ t ∈ E, rq t = []) (hl : E.flatten.length < 100) : SDC (gpN x E E.length) := by
  have hE' : ∀ t ∈ E, TR t ∧ PZL t := fun t ht => (hE t ht).1
  refine ⟨⟨tr_gp hx (fun t ht => (hE' t ht).1), pzl_gp (fun t ht => (hE' t ht).2)⟩, fun y hy => ?_, fun f => ?_⟩
  · unfold gpN at hy
    rcases List.mem_cons.mp hy with z | z
    · rw [z, List.take_length]
      exact ⟨nr_Z hn.1 (by omega), vn_Z hn.2⟩
    · obtain ⟨t, ht, hyt⟩ := List.mem_flatten.mp z
      exact (hE t ht).2.1 y hyt
  · cases f with
    | zero => trivial
    | succ f =>
      have e : kd (gpN x E E.length) = E := kd_gp hE'
      refine ⟨?_, ?_, ?_⟩
      · rw [e]; exact h5
      · rw [e]; exact h4
      · rw [e]; exact fun t ht => (hE t ht).2.2 f
theorem sdc_leaf {x : ND} (hx : x.1 < 4) (hz : x.2.1 = 1) (hn : NR x ∧ VN x) : SDC [x] := by
  refine ⟨⟨tr_leaf hz, pzl_one hz⟩, fun y hy => ?_, fun f => ?_⟩
  · simp only [List.mem_cons, List.not_mem_nil, or_false] at hy
    rw [hy]; exact hn
  · cases f with
    | zero => trivial
    | succ f =>
      have e : kd [x] = [] := rfl
      refine ⟨?_, ?_, ?_⟩
      · intro _; rw [e]; exact List.nodup_nil
      · rw [e]; intro _ t ht; cases ht
      · rw [e]; intro t ht; cases ht
/-- a depth that is told is the depth -/
theorem dp_all : ∀ (f : Nat) (T : List ND) (b : Int), dpS f T ≤ b → b ≤ f → ∀ g, dpS g T ≤ b
  | 0, T, b, h, hb, g => by
    have hk : rk T < 4 := by
      by_cases q : 4 ≤ rk T
      · unfold dpS at h; rw [if_pos q] at h; omega
      · omega
    have h0 : 0 ≤ b := by unfold dpS at h; rw [if_neg (by omega)] at h; exact h
    cases g with
    | zero => unfold dpS; rw [if_neg (by omega)]; exact h0
    | succ g => unfold dpS; rw [if_neg (by omega)]; exact h0
  | f + 1, T, b, h, hb, g => by
    by_cases q : 4 ≤ rk T
    · have hd := h
      unfold dpS at hd
      rw [if_pos q] at hd
      have m := foldl_max (g := dpS f) (kd T) 0
      cases g with
      | zero => unfold dpS; rw [if_pos q]; omega
      | succ g =>
        unfold dpS
        rw [if_pos q]
        have := foldl_le (g := dpS g) (b := b - 1) (kd T) 0 (by omega) (fun t ht => dp_all f t (b - 1) (by have := m.2 t ht; omega) (by omega) g)
        omega
    · have h0 : 0 ≤ b := by unfold dpS at h; rw [if_neg q] at h; exact h
      cases g with
      | zero => unfold dpS; rw [if_neg q]; exact h0
      | succ g => unfold dpS; rw [if_neg q]; exact h0
theorem dp_0 {g : Nat} {T : List ND} : 0 ≤ dpS g T := by
  cases g with
  | zero => unfold dpS; split <;> omega
  | succ g =>
    unfold dpS
    have m := foldl_max (g := dpS g) (kd T) 0
    split <;> omega
theorem dp_kd {T t : List ND} {b : Int} (h : ∀ g, dpS g T ≤ b + 1) (h4 : 4 ≤ rk T) (ht : t ∈ kd T) : ∀ g, dpS g t ≤ b := by
  intro g
  have := h (g + 1)
  unfold dpS at this
  rw [if_pos h4] at this
  have m := (foldl_max (g := dpS g) (kd T) 0).2 t ht
  omega
/-- what lies at a NODE lies in one VALUE -/
theorem sg_child {T : List ND} (h : TR T ∧ PZL T) {i : Nat} (hi : i + 1 < T.length) : ∃ A c B, kd T = A ++ c :: B ∧ A.flatten.length ≤ i ∧ i < A.flatten.length + c.length ∧ sg T (i + 1) = sg c (i - A.flatten.length) := by
  have hk := kd_tr h.1 h.2
  have e := kd_flat h.2 h.1.2.1
  have hl : T.length = (kd T).flatten.length + 1 := by
    have := congrArg List.length e
    rwa [List.length_cons] at this
  have gen : ∀ (E : List (List ND)) (j : Nat), j < E.flatten.length → ∃ A c B, E = A ++ c :: B ∧ A.flatten.length ≤ j ∧ j < A.flatten.length + c.length := by
    intro E
    induction E with
    | nil => intro j hj; simp at hj
    | cons u E ih =>
      intro j hj
      rw [List.flatten_cons, List.length_append] at hj
      by_cases c : j < u.length
      · exact ⟨[], u, E, rfl, Nat.zero_le _, by simpa using c⟩
      · obtain ⟨A, c', B, h1, h2, h3⟩ := ih (j - u.length) (by omega)
        refine ⟨u :: A, c', B, by rw [h1]; rfl, ?_, ?_⟩
        · rw [List.flatten_cons, List.length_append]; omega
        · rw [List.flatten_cons, List.length_append]; omega
  obtain ⟨A, c, B, h1, h2, h3⟩ := gen (kd T) i (by omega)
  refine ⟨A, c, B, h1, h2, h3, ?_⟩
  have hc := hk c (by rw [h1]; exact List.mem_append_right _ List.mem_cons_self)
  have ef : T = (T.getD 0 nd0 :: A.flatten) ++ (c ++ B.flatten) := by
    rw [h1] at e
    rw [List.flatten_append, List.flatten_cons] at e
    exact e
  have lX : (T.getD 0 nd0 :: A.flatten).length = A.flatten.length + 1 := List.length_cons
  generalize hX : T.getD 0 nd0 :: A.flatten = X at *
  have hz : nz T (i + 1) = nz c (i - A.flatten.length) := by
    rw [ef, nz_r (by omega), nz_l (by omega)]
    congr 1
    omega
  have hw := hc.1.1.1 (i - A.flatten.length) (by omega)
  unfold sg seg
  rw [hz]
  generalize hx : nz c (i - A.flatten.length) = z at *
  rw [ef, List.drop_append, List.drop_eq_nil_of_le (by omega), List.nil_append, show i + 1 - X.length = i - A.flatten.length by omega, List.drop_append_of_le_length (by omega), List.take_append_of_le_length (by rw [List.length_drop]; omega)]
theorem sdc_sg : ∀ (n : Nat) (T : List ND), T.length ≤ n → SDC T → ∀ i, i < T.length → SDC (sg T i)
  | 0, T, h1, h2, i, hi => by omega
  | n + 1, T, h1, h2, 0, hi => by rw [sg_self h2.1.1]; exact h2
  | n + 1, T, h1, h2, i + 1, hi => by
    obtain ⟨A, c, B, e1, e2, e3, e4⟩ := sg_child h2.1 hi
    rw [e4]
    have hc := sdc_kd h2 (t := c) (by rw [e1]; exact List.mem_append_right _ List.mem_cons_self)
    have e := congrArg List.length (kd_flat h2.1.2 h2.1.1.2.1)
    have := mem_len (E := kd T) (t := c) (by rw [e1]; exact List.mem_append_right _ List.mem_cons_self)
    rw [List.length_cons] at e
    exact sdc_sg n c (by omega) hc _ (by omega)
theorem dp_sg {b : Int} : ∀ (n : Nat) (T : List ND), T.length ≤ n → TR T ∧ PZL T → (∀ g, dpS g T ≤ b) → ∀ i, i < T.length → ∀ g, dpS g (sg T i) ≤ b
  | 0, T, h1, h2, h, i, hi => by omega
  | n + 1, T, h1, h2, h, 0, hi => by rw [sg_self h2.1]; exact h
  | n + 1, T, h1, h2, h, i + 1, hi => by
    obtain ⟨A, c, B, e1, e2, e3, e4⟩ := sg_child h2 hi
    rw [e4]
    have mc : c ∈ kd T := by rw [e1]; exact List.mem_append_right _ List.mem_cons_self
    have hc := kd_tr h2.1 h2.2 c mc
    have e := congrArg List.length (kd_flat h2.2 h2.1.2.1)
    have ml := mem_len mc
    rw [List.length_cons] at e
    have h4 : 4 ≤ rk T := by
      rcases tr_cases h2 with ⟨a, b', -⟩ | ⟨a, -⟩
      · rw [b'] at hi; simp at hi
      · exact a
    have hb : ∀ g, dpS g c ≤ b := fun g => by
      have := dp_kd (b := b - 1) (fun g => by have := h g; omega) h4 mc g
      omega
    exact dp_sg n c (by omega) hc hb _ (by omega)
theorem doc_sg {T : List ND} (h : DOC T) {i : Nat} (hi : i < T.length) : SDC (sg T i) ∧ (∀ g, dpS g (sg T i) ≤ 12) ∧ (sg T i).length ≤ 100 := by
  refine ⟨sdc_sg _ T (Nat.le_refl _) h.1 i hi, dp_sg _ T (Nat.le_refl _) h.1.1 h.2.1 i hi, ?_⟩
  rw [sg_len h.1.1.1.1 hi]
  have := h.1.1.1.1.1 i hi
  have := h.2.2.1
  omega
