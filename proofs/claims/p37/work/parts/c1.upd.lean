/-! a piece within a piece changes -/
def updE (g : List ND → Nat → List ND) : Nat → List (List ND) → List (List ND)
  | _, [] => []
  | o, c :: E => if o < c.length then g c o :: E else c :: updE g (o - c.length) E
def updF (h : List ND → List ND) : Nat → List ND → Nat → List ND
  | 0, T, _ => h T
  | f + 1, T, o => if o = 0 then h T else gpN (T.getD 0 nd0) (updE (updF h f) (o - 1) (kd T)) (kd T).length
theorem updE_at {g : List ND → Nat → List ND} {c : List ND} {B : List (List ND)} {j : Nat} (hj : j < c.length) : ∀ (A : List (List ND)), updE g (A.flatten.length + j) (A ++ c :: B) = A ++ g c j :: B
  | [] => by
    show (if ([] : List (List ND)).flatten.length + j < c.length then _ else _) = _
    rw [if_pos (by simpa using hj)]
    simp
  | a :: A => by
    have e := updE_at (g := g) (B := B) hj A
    show (if (a :: A).flatten.length + j < a.length then _ else _) = _
    rw [List.flatten_cons, List.length_append, if_neg (by omega), show a.length + A.flatten.length + j - a.length = A.flatten.length + j by omega]
    show a :: updE g (A.flatten.length + j) (A ++ c :: B) = _
    rw [e]
    rfl
theorem updF_0 {h : List ND → List ND} {f : Nat} {T : List ND} : updF h f T 0 = h T := by
  cases f with
  | zero => rfl
  | succ f => exact if_pos rfl
/-- by leaves and groups, with the place in a VALUE of its own -/
theorem upd_step {h : List ND → List ND} {f : Nat} {T : List ND} (ht : TR T ∧ PZL T) {i : Nat} (hi : i + 1 < T.length) : ∃ A c B, kd T = A ++ c :: B ∧ A.flatten.length ≤ i ∧ i < A.flatten.length + c.length ∧ sg T (i + 1) = sg c (i - A.flatten.length) ∧ updF h (f + 1) T (i + 1) = gpN (T.getD 0 nd0) (A ++ updF h f c (i - A.flatten.length) :: B) (A ++ updF h f c (i - A.flatten.length) :: B).length ∧ T = gpN (T.getD 0 nd0) (A ++ c :: B) (A ++ c :: B).length ∧ 4 ≤ rk T := by
  obtain ⟨A, c, B, e1, e2, e3, e4⟩ := sg_child ht hi
  refine ⟨A, c, B, e1, e2, e3, e4, ?_, ?_⟩
  · show (if i + 1 = 0 then _ else _) = _
    rw [if_neg (by omega), e1]
    have := updE_at (g := updF h f) (c := c) (B := B) (j := i - A.flatten.length) (by omega) A
    rw [show A.flatten.length + (i - A.flatten.length) = i by omega] at this
    rw [show i + 1 - 1 = i by omega, this]
    congr 1
    simp
  · rcases tr_cases ht with ⟨_, b, -⟩ | ⟨a, b⟩
    · rw [b] at hi; simp at hi
    · rw [e1] at b
      exact ⟨b, a⟩
theorem gp_flat3 {x : ND} {A B : List (List ND)} {c : List ND} : gpN x (A ++ c :: B) (A ++ c :: B).length = wZ x (1 + (A.flatten.length + c.length + B.flatten.length)) :: (A.flatten ++ (c ++ B.flatten)) := by
  unfold gpN
  rw [List.take_length, List.flatten_append, List.flatten_cons]
  simp only [List.length_append]
  congr 3
  omega
theorem split3 {X Y : List ND} {A c B : List ND} {i j : Nat} (hA : A.length ≤ i) (hj : j ≤ i - A.length + (c.length - (i - A.length))) (hi : i - A.length ≤ c.length) (x : ND) : (x :: (A ++ (c ++ B))).take (i + 1) = x :: (A ++ c.take (i - A.length)) := by
  rw [List.take_succ_cons, List.take_append, List.take_of_length_le hA, List.take_append_of_le_length hi]
theorem drop3 {A c B : List ND} {i : Nat} (hA : A.length ≤ i) (hi : i - A.length ≤ c.length) (x : ND) : (x :: (A ++ (c ++ B))).drop (i + 1) = c.drop (i - A.length) ++ B := by
  rw [List.drop_succ_cons, List.drop_append, List.drop_eq_nil_of_le hA, List.nil_append, List.drop_append_of_le_length hi]
/-- the class's way: what changed is laid in, the sizes of all that it is in follow -/
theorem upd_adj {b : Nat} {h : List ND → List ND} {r : List ND} {e : Int} : ∀ (f : Nat) (T : List ND) (o b : Nat), T.length ≤ f → TR T ∧ PZL T → o < T.length → (∃ x, h (sg T o) = wZ x (((sg T o).length : Int) + e).toNat :: r ∧ x.2.1 = (sg T o).length ∧ (r.length : Int) + 1 = (sg T o).length + e ∧ 0 ≤ ((sg T o).length : Int) + e - 1) → ∀ x0 : ND, (∃ z, h (sg T o) = wZ x0 z :: r) → x0.2.1 = (sg T o).length → adjB b (T.take o ++ (x0 :: r) ++ T.drop (o + (sg T o).length)) (b + o) e = updF h f T o
  | 0, T, o, b, hl, ht, ho, _, _, _, _ => by have := ht.1.2.1; omega
  | f + 1, T, 0, b, hl, ht, ho, hx, x0, hx0, hz0 => by
    rw [sg_self ht.1] at hx hx0 hz0 ⊢
    rw [List.take_zero, List.nil_append, Nat.add_zero, Nat.zero_add, List.drop_length, List.append_nil, updF_0]
    obtain ⟨x, h1, h2, h3, h4⟩ := hx
    obtain ⟨z, hz⟩ := hx0
    have hlen := ht.1.2.1
    rw [adjB_cons, if_pos ⟨Nat.le_refl _, by omega⟩, adjB_past (by omega), hz, hz0]
    rw [hz] at h1
    have e1 := List.cons.inj h1
    have : z = (((T.length : Int)) + e).toNat := by
      have := congrArg (fun y : ND => y.2.1) e1.1
      exact this
    rw [this]
  | f + 1, T, i + 1, b, hl, ht, ho, hx, x0, hx0, hz0 => by
    obtain ⟨A, c, B, e1, e2, e3, e4, e5, e6, e7⟩ := upd_step (h := h) (f := f) ht ho
    have hk := kd_tr ht.1 ht.2
    have hc := hk c (by rw [e1]; exact List.mem_append_right _ List.mem_cons_self)
    have hA : WF A.flatten := wf_flat (fun t hh => (hk t (by rw [e1]; exact List.mem_append_left _ hh)).1)
    rw [e4] at hx hx0 hz0 ⊢
    have hTl : T.length = A.flatten.length + c.length + B.flatten.length + 1 := by
      have := congrArg List.length e6
      rw [gp_flat3] at this
      simp only [List.length_cons, List.length_append] at this
      omega
    have ih := upd_adj (h := h) (r := r) (e := e) (b := b) f c (i - A.flatten.length) (b + 1 + A.flatten.length) (by omega) hc (by omega) hx x0 hx0 hz0
    have hw := hc.1.1.1 (i - A.flatten.length) (by omega)
    have hsl : (sg c (i - A.flatten.length)).length = nz c (i - A.flatten.length) := sg_len hc.1.1 (by omega)
    generalize hm : (sg c (i - A.flatten.length)).length = m at *
    rw [e5]
    have et : T.take (i + 1) = wZ (T.getD 0 nd0) (1 + (A.flatten.length + c.length + B.flatten.length)) :: (A.flatten ++ c.take (i - A.flatten.length)) := by
      rw [e6, gp_flat3]
      have := split3 (X := []) (Y := []) (A := A.flatten) (c := c) (B := B.flatten) (i := i) (j := 0) e2 (by omega) (by omega) (wZ (T.getD 0 nd0) (1 + (A.flatten.length + c.length + B.flatten.length)))
      exact this
    have ed : T.drop (i + 1 + m) = c.drop (i - A.flatten.length + m) ++ B.flatten := by
      rw [e6, gp_flat3]
      have := drop3 (A := A.flatten) (c := c) (B := B.flatten) (i := i + m) (by omega) (by omega) (wZ (T.getD 0 nd0) (1 + (A.flatten.length + c.length + B.flatten.length)))
      rw [show i + 1 + m = i + m + 1 by omega, this, show i + m - A.flatten.length = i - A.flatten.length + m by omega]
    rw [et, ed]
    have ea : (wZ (T.getD 0 nd0) (1 + (A.flatten.length + c.length + B.flatten.length)) :: (A.flatten ++ c.take (i - A.flatten.length))) ++ (x0 :: r) ++ (c.drop (i - A.flatten.length + m) ++ B.flatten) = wZ (T.getD 0 nd0) (1 + (A.flatten.length + c.length + B.flatten.length)) :: (A.flatten ++ ((c.take (i - A.flatten.length) ++ (x0 :: r) ++ c.drop (i - A.flatten.length + m)) ++ B.flatten)) := by simp
    have lmid : ((c.take (i - A.flatten.length) ++ (x0 :: r) ++ c.drop (i - A.flatten.length + m)).length : Int) = c.length + e := by
      obtain ⟨x, h1, h2, h3, h4⟩ := hx
      simp only [List.length_append, List.length_take, List.length_drop, List.length_cons]
      omega
    rw [ea, adjB_cons, adjB_app, adjB_app, adjB_wf hA (by omega)]
    have eb : b + (i + 1) = b + 1 + A.flatten.length + (i - A.flatten.length) := by omega
    rw [eb, ih]
    have lz : (wZ (T.getD 0 nd0) (1 + (A.flatten.length + c.length + B.flatten.length))).2.1 = 1 + (A.flatten.length + c.length + B.flatten.length) := rfl
    rw [lz, if_pos ⟨by omega, by omega⟩]
    have lu : (updF h f c (i - A.flatten.length)).length = (c.take (i - A.flatten.length) ++ (x0 :: r) ++ c.drop (i - A.flatten.length + m)).length := by
      rw [← ih]
      simp [adjB]
    rw [adjB_past (b := b + 1 + A.flatten.length + (c.take (i - A.flatten.length) ++ (x0 :: r) ++ c.drop (i - A.flatten.length + m)).length) (by omega), gp_flat3]
    congr 1
    show wZ (T.getD 0 nd0) _ = wZ (T.getD 0 nd0) _
    congr 1
    omega
theorem upd_tr {h : List ND → List ND} : ∀ (f : Nat) (T : List ND) (o : Nat), T.length ≤ f → TR T ∧ PZL T → o < T.length → TR (h (sg T o)) ∧ PZL (h (sg T o)) → (TR (updF h f T o) ∧ PZL (updF h f T o)) ∧ (updF h f T o).length + (sg T o).length = T.length + (h (sg T o)).length
  | 0, T, o, hl, ht, ho, _ => by have := ht.1.2.1; omega
  | f + 1, T, 0, hl, ht, ho, hp => by
    rw [sg_self ht.1] at hp ⊢
    rw [updF_0]
    exact ⟨hp, by omega⟩
  | f + 1, T, i + 1, hl, ht, ho, hp => by
    obtain ⟨A, c, B, e1, e2, e3, e4, e5, e6, e7⟩ := upd_step (h := h) (f := f) ht ho
    have hk' := kd_tr ht.1 ht.2
    have hc := hk' c (by rw [e1]; exact List.mem_append_right _ List.mem_cons_self)
    have hTl : T.length = A.flatten.length + c.length + B.flatten.length + 1 := by
      have := congrArg List.length e6
      rw [gp_flat3] at this
      simp only [List.length_cons, List.length_append] at this
      omega
    rw [e4] at hp ⊢
    have ih := upd_tr f c (i - A.flatten.length) (by omega) hc (by omega) hp
    rw [e5]
    have hE : ∀ t ∈ A ++ updF h f c (i - A.flatten.length) :: B, TR t ∧ PZL t := fun t hh => by
      rcases List.mem_append.mp hh with w | w
      · exact hk' t (by rw [e1]; exact List.mem_append_left _ w)
      · rcases List.mem_cons.mp w with w | w
        · rw [w]; exact ih.1
        · exact hk' t (by rw [e1]; exact List.mem_append_right _ (List.mem_cons_of_mem _ w))
    refine ⟨⟨tr_gp e7 (fun t hh => (hE t hh).1), pzl_gp (fun t hh => (hE t hh).2)⟩, ?_⟩
    rw [gp_flat3]
    simp only [List.length_cons, List.length_append]
    omega
theorem upd_sdc {h : List ND → List ND} : ∀ (f : Nat) (T : List ND) (o : Nat), T.length ≤ f → SDC T → o < T.length → SDC (h (sg T o)) → rq (h (sg T o)) = rq (sg T o) → (updF h f T o).length ≤ 100 → SDC (updF h f T o) ∧ rq (updF h f T o) = rq T
  | 0, T, o, hl, ht, ho, _, _, _ => by have := ht.1.1.2.1; omega
  | f + 1, T, 0, hl, ht, ho, hp, hq, h1 => by
    rw [sg_self ht.1.1] at hp hq
    rw [updF_0]
    exact ⟨hp, hq⟩
  | f + 1, T, i + 1, hl, ht, ho, hp, hq, h1 => by
    obtain ⟨A, c, B, e1, e2, e3, e4, e5, e6, e7⟩ := upd_step (h := h) (f := f) ht.1 ho
    have mc : c ∈ kd T := by rw [e1]; exact List.mem_append_right _ List.mem_cons_self
    have hc := sdc_kd ht mc
    have hTl : T.length = A.flatten.length + c.length + B.flatten.length + 1 := by
      have := congrArg List.length e6
      rw [gp_flat3] at this
      simp only [List.length_cons, List.length_append] at this
      omega
    rw [e4] at hp hq
    rw [e5] at h1 ⊢
    have hl' : (A ++ updF h f c (i - A.flatten.length) :: B).flatten.length < 100 := by
      rw [gp_len] at h1
      omega
    have lu : (updF h f c (i - A.flatten.length)).length ≤ 100 := by
      have := mem_len (E := A ++ updF h f c (i - A.flatten.length) :: B) (t := updF h f c (i - A.flatten.length)) (List.mem_append_right _ List.mem_cons_self)
      omega
    have ih := upd_sdc f c (i - A.flatten.length) (by omega) hc (by omega) hp hq lu
    have ku := ht.2.2 1
    rw [show KU 1 T = ((rk T = 5 → ((kd T).map rq).Nodup) ∧ (rk T = 4 → ∀ t ∈ kd T, rq t = []) ∧ ∀ t ∈ kd T, KU 0 t) from rfl, e1] at ku
    have n0 := ht.2.1 _ (nd_mem ht.1.1.2.1)
    have erq : ∀ t, t ∈ A ++ updF h f c (i - A.flatten.length) :: B → t ∈ A ++ c :: B ∨ t = updF h f c (i - A.flatten.length) := fun t hh => by
      rcases List.mem_append.mp hh with w | w
      · exact Or.inl (List.mem_append_left _ w)
      · rcases List.mem_cons.mp w with w | w
        · exact Or.inr w
        · exact Or.inl (List.mem_append_right _ (List.mem_cons_of_mem _ w))
    refine ⟨sdc_gp e7 n0 (fun t hh => ?_) (fun z => ?_) (fun z t hh => ?_) hl', rfl⟩
    · rcases erq t hh with w | w
      · exact sdc_kd ht (by rw [e1]; exact w)
      · rw [w]; exact ih.1
    · have := ku.1 z
      rw [List.map_append, List.map_cons] at this ⊢
      rw [ih.2]
      exact this
    · rcases erq t hh with w | w
      · exact ku.2.1 z t w
      · rw [w, ih.2]
        exact ku.2.1 z c (List.mem_append_right _ List.mem_cons_self)
