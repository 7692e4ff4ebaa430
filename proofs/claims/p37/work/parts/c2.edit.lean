/-! a VALUE gives way, comes, goes: the class's trees as pieces -/
theorem split_eq {A A' B B' : List (List ND)} {c c' : List ND} {i : Nat} (h1 : ∀ t ∈ A ++ c :: B, 1 ≤ t.length) (he : A ++ c :: B = A' ++ c' :: B') (a1 : A.flatten.length ≤ i) (a2 : i < A.flatten.length + c.length) (b1 : A'.flatten.length ≤ i) (b2 : i < A'.flatten.length + c'.length) : A' = A ∧ c' = c ∧ B' = B := by
  induction A generalizing A' i with
  | nil =>
    cases A' with
    | nil =>
      have := List.cons.inj he
      exact ⟨rfl, this.1.symm, this.2.symm⟩
    | cons a A' =>
      have := List.cons.inj he
      rw [List.flatten_cons, List.length_append, ← this.1] at b1
      simp at a2
      omega
  | cons a A ih =>
    cases A' with
    | nil =>
      have := List.cons.inj he
      rw [List.flatten_cons, List.length_append, this.1] at a1
      simp at b2
      omega
    | cons a' A' =>
      have e := List.cons.inj he
      have e1 := e.1
      subst e1
      rw [List.flatten_cons, List.length_append] at a1 a2 b1 b2
      have := ih (A' := A') (i := i - a.length) (fun t ht => h1 t (List.mem_cons_of_mem _ ht)) e.2 (by omega) (by omega) (by omega) (by omega)
      exact ⟨by rw [this.1], this.2.1, this.2.2⟩
theorem upd_long {h : List ND → List ND} : ∀ (f : Nat) (T : List ND) (o : Nat), T.length ≤ f → TR T ∧ PZL T → o < T.length → (∃ z r, h (sg T o) = z :: r) → o < (updF h f T o).length
  | 0, T, o, hl, ht, ho, _ => by have := ht.1.2.1; omega
  | f + 1, T, 0, hl, ht, ho, e1 => by
    obtain ⟨z, r, e1⟩ := e1
    rw [sg_self ht.1] at e1
    rw [updF_0, e1]
    exact Nat.succ_pos _
  | f + 1, T, i + 1, hl, ht, ho, h1 => by
    obtain ⟨A, c, B, e1, e2, e3, e4, e5, e6, e7⟩ := upd_step (h := h) (f := f) ht ho
    have hk := kd_tr ht.1 ht.2
    have hc := hk c (by rw [e1]; exact List.mem_append_right _ List.mem_cons_self)
    have hTl : T.length = A.flatten.length + c.length + B.flatten.length + 1 := by
      have := congrArg List.length e6
      rw [gp_flat3] at this
      simp only [List.length_cons, List.length_append] at this
      omega
    rw [e4] at h1
    have ih := upd_long f c (i - A.flatten.length) (by omega) hc (by omega) h1
    rw [e5, gp_flat3]
    simp only [List.length_cons, List.length_append]
    omega
theorem upd_set {h1 h2 : List ND → List ND} {y z : ND} {r : List ND} : ∀ (f : Nat) (T : List ND) (o : Nat), T.length ≤ f → TR T ∧ PZL T → o < T.length → h1 (sg T o) = z :: r → h2 (sg T o) = y :: r → (updF h1 f T o).set o y = updF h2 f T o
  | 0, T, o, hl, ht, ho, _, _ => by have := ht.1.2.1; omega
  | f + 1, T, 0, hl, ht, ho, e1, e2 => by
    rw [sg_self ht.1] at e1 e2
    rw [updF_0, updF_0, e1, e2]
    rfl
  | f + 1, T, i + 1, hl, ht, ho, h1', h2' => by
    obtain ⟨A, c, B, e1, e2, e3, e4, e5, e6, e7⟩ := upd_step (h := h1) (f := f) ht ho
    obtain ⟨A', c', B', e1', e2', e3', e4', e5', e6', e7'⟩ := upd_step (h := h2) (f := f) ht ho
    have hk := kd_tr ht.1 ht.2
    have eq : A' = A ∧ c' = c ∧ B' = B := by
      have l := updE_at (g := fun c j => c) (c := c) (B := B) (j := i - A.flatten.length) (by omega) A
      have e : A ++ c :: B = A' ++ c' :: B' := by rw [← e1, ← e1']
      exact split_eq (fun t ht' => (hk t (by rw [e1]; exact ht')).1.2.1) e (by omega) (by omega) (by omega) (by omega)
    obtain ⟨rfl, rfl, rfl⟩ := eq
    have hc := hk c' (by rw [e1]; exact List.mem_append_right _ List.mem_cons_self)
    have hTl : T.length = A'.flatten.length + c'.length + B'.flatten.length + 1 := by
      have := congrArg List.length e6
      rw [gp_flat3] at this
      simp only [List.length_cons, List.length_append] at this
      omega
    rw [e4] at h1' h2'
    have ih := upd_set f c' (i - A'.flatten.length) (by omega) hc (by omega) h1' h2'
    have lu : (updF h1 f c' (i - A'.flatten.length)).length = (updF h2 f c' (i - A'.flatten.length)).length := by rw [← ih, List.length_set]
    have li : i - A'.flatten.length < (updF h1 f c' (i - A'.flatten.length)).length := upd_long f c' _ (by omega) hc (by omega) ⟨z, r, h1'⟩
    rw [e5, e5', gp_flat3, gp_flat3, List.set_cons_succ, List.set_append_right _ _ e2, List.set_append_left _ _ li, ih, lu]
theorem ks_reach {V : List ND} (hz : PZ V) {i e : Nat} (he : i < e) : ∀ (m a : Nat), i - a < m → a ≤ i → (∀ q, a ≤ q → q < i → q + nz V q ≤ i) → i ∈ ks V a e
  | 0, a, h1, h2, h3 => by omega
  | m + 1, a, h1, h2, h3 => by
    rw [ks_cons hz (by omega)]
    by_cases c : a = i
    · rw [c]; exact List.mem_cons_self
    · have z := hz a
      have := h3 a (Nat.le_refl _) (by omega)
      exact List.mem_cons_of_mem _ (ks_reach hz he m _ (by omega) this (fun q h4 h5 => h3 q (by omega) h5))
theorem ow_ok {V : List ND} {i : Nat} : ∀ (p : Nat), (ow V i p = -1 ∧ ∀ q, q < p → ¬ i < q + nz V q) ∨ ∃ o : Nat, ow V i p = (o : Int) ∧ o < p ∧ i < o + nz V o ∧ ∀ q, o < q → q < p → ¬ i < q + nz V q
  | 0 => Or.inl ⟨rfl, fun q h => by omega⟩
  | p + 1 => by
    unfold ow
    by_cases c : i < p + nz V p
    · rw [if_pos c]
      exact Or.inr ⟨p, rfl, by omega, c, fun q h1 h2 => by omega⟩
    · rw [if_neg c]
      rcases ow_ok (V := V) (i := i) p with ⟨a, b⟩ | ⟨o, a, b, c', d⟩
      · refine Or.inl ⟨a, fun q h => ?_⟩
        by_cases z : q = p
        · rw [z]; exact c
        · exact b q (by omega)
      · refine Or.inr ⟨o, a, by omega, c', fun q h1 h2 => ?_⟩
        by_cases z : q = p
        · rw [z]; exact c
        · exact d q h1 (by omega)
/-- each NODE but the first is a VALUE of its owner -/
theorem own_kid {V : List ND} (h : TR V ∧ PZL V) {i : Nat} (h1 : 1 ≤ i) (hi : i < V.length) : ∃ o : Nat, owI V i = (o : Int) ∧ o < i ∧ i < o + nz V o ∧ i ∈ kids V o ∧ 4 ≤ nk V o := by
  have hz := pz_l h.2
  rcases ow_ok (V := V) (i := i) i with ⟨a, b⟩ | ⟨o, a, b, c, d⟩
  · have z : nz V 0 = V.length := h.1.2.2
    exact absurd (by omega) (b 0 (by omega))
  · refine ⟨o, a, b, c, ks_reach hz c _ (o + 1) (Nat.lt_succ_self _) (by omega) (fun q h2 h3 => ?_), ?_⟩
    · have := d q (by omega) h3
      omega
    · by_cases z : nk V o < 4
      · have := h.1.1.2.2 o (by omega) z
        omega
      · omega
theorem ks_split {V : List ND} (hw : WF V) (hz : PZ V) {e : Nat} (he : e ≤ V.length) : ∀ (K1 : List Nat) (a k : Nat) (K2 : List Nat), ks V a e = K1 ++ k :: K2 → (K1.map (sg V)).flatten.length + a = k ∧ a ≤ k ∧ k < e
  | [], a, k, K2, h => by
    by_cases c : a < e
    · rw [ks_cons hz c] at h
      have := (List.cons.inj h).1
      refine ⟨by rw [← this]; simp, by omega, by omega⟩
    · rw [ks_nil (by omega)] at h
      cases h
  | b :: K1, a, k, K2, h => by
    by_cases c : a < e
    · rw [ks_cons hz c] at h
      have h' := List.cons.inj h
      have e1 := h'.1
      subst e1
      obtain ⟨q1, q2, q3⟩ := ks_split hw hz he K1 _ k K2 h'.2
      have := sg_len hw (i := a) (by omega)
      rw [List.map_cons, List.flatten_cons, List.length_append, this]
      exact ⟨by omega, by omega, q3⟩
    · rw [ks_nil (by omega)] at h
      cases h
def insT (p : Nat) (t c : List ND) : List ND := gpN (c.getD 0 nd0) ((kd c).take p ++ t :: (kd c).drop p) ((kd c).take p ++ t :: (kd c).drop p).length
def delT (p : Nat) (c : List ND) : List ND := gpN (c.getD 0 nd0) ((kd c).take p ++ (kd c).drop (p + 1)) ((kd c).take p ++ (kd c).drop (p + 1)).length
theorem sg_parts {V : List ND} (hw : WF V) {o : Nat} (ho : o < V.length) (z : 1 ≤ nz V o) : V = V.take o ++ (V.getD o nd0 :: (sg V o).tail) ++ V.drop (o + (sg V o).length) := by
  have l := sg_len hw ho
  have e1 : sg V o = V.getD o nd0 :: (sg V o).tail := by
    rw [sg_cons ho z]
    rfl
  rw [← e1, l]
  unfold sg seg
  have : V.drop (o + nz V o) = (V.drop o).drop (nz V o) := by rw [List.drop_drop]
  rw [this, List.append_assoc, List.take_append_drop, List.take_append_drop]
theorem take_snoc {V : List ND} {i : Nat} (hi : i < V.length) : V.take (i + 1) = V.take i ++ [V.getD i nd0] := by
  rw [List.take_succ, List.getElem?_eq_getElem hi, List.getD_eq_getElem?_getD, List.getElem?_eq_getElem hi]
  rfl
/-- a VALUE of another tree in the place of one -/
theorem rpl_upd {V U : List ND} {i j : Nat} (hV : TR V ∧ PZL V) (hi : i < V.length) (hU : WF U) (hz : PZL U) (hj : j < U.length) : rpl V i U j = updF (fun c => kyT (sg U j) (rq c)) V.length V i := by
  have zz := pz_l hV.2
  have zi := zz i
  have zu := pz_l hz
  have zj := zu j
  have wi := hV.1.1.1 i hi
  have wj := hU.1 j hj
  have ls := sg_len hV.1.1 hi
  have lu := sg_len hU hj
  have eu : seg U (j + 1) (nz U j - 1) = (sg U j).tail := by rw [sg_cons hj zj]; rfl
  have lt : ((sg U j).tail).length = nz U j - 1 := by rw [List.length_tail, lu]
  unfold rpl spl
  rw [adjS_B, eu, lt]
  have ea : V.take (i + 1) ++ (sg U j).tail ++ V.drop (i + 1 + (nz V i - 1)) = V.take i ++ (V.getD i nd0 :: (sg U j).tail) ++ V.drop (i + (sg V i).length) := by
    rw [ls, show i + 1 + (nz V i - 1) = i + nz V i by omega, take_snoc hi]
    simp only [List.append_assoc, List.cons_append, List.nil_append]
  rw [ea]
  have rs : (sg V i).getD 0 nd0 = V.getD i nd0 := sg_root hi zi
  have key := upd_adj (b := 0) (h := fun c => wZ (c.getD 0 nd0) (((c.length : Int) + (((nz U j - 1 : Nat) : Int) - ((nz V i - 1 : Nat) : Int))).toNat) :: (sg U j).tail) (r := (sg U j).tail) (e := ((nz U j - 1 : Nat) : Int) - ((nz V i - 1 : Nat) : Int)) V.length V i 0 (Nat.le_refl _) hV hi ⟨(sg V i).getD 0 nd0, rfl, by rw [rs, ls]; rfl, by rw [lt, ls]; omega, by rw [ls]; omega⟩ (V.getD i nd0) ⟨(((sg V i).length : Int) + (((nz U j - 1 : Nat) : Int) - ((nz V i - 1 : Nat) : Int))).toNat, by rw [← rs]⟩ (by rw [ls]; rfl)
  rw [Nat.zero_add] at key
  rw [key]
  refine upd_set V.length V i (Nat.le_refl _) hV hi rfl ?_
  show wQ ((sg U j).getD 0 nd0) (rq (sg V i)) :: (sg U j).tail = _
  rw [sg_root hj zj, rq_sg hi zi]
  congr 1
  have : (((nz V i : Int) + (((nz U j - 1 : Nat) : Int) - ((nz V i - 1 : Nat) : Int))).toNat) = nz U j := by omega
  rw [this]
  rfl
/-- a run of VALUES of a group in the place of another one, ahead of which as many stand -/
theorem spl_upd {V : List ND} {o a g : Nat} {E1 M E2 N : List (List ND)} (hV : TR V ∧ PZL V) (ho : o < V.length) (h4 : 4 ≤ nk V o) (hE : kd (sg V o) = E1 ++ M ++ E2) (ha : a = o + 1 + E1.flatten.length) (hg : g = M.flatten.length) (hN : ∀ t ∈ N, TR t ∧ PZL t) : spl V o a g N.flatten = updF (fun c => gpN (c.getD 0 nd0) (E1 ++ N ++ E2) (E1 ++ N ++ E2).length) V.length V o := by
  have zz := pz_l hV.2
  have zo := zz o
  have wo := hV.1.1.1 o ho
  have ls := sg_len hV.1.1 ho
  have hs := tr_sg hV.1.1 hV.2 ho
  have rs : (sg V o).getD 0 nd0 = V.getD o nd0 := sg_root ho zo
  have et : (sg V o).tail = E1.flatten ++ (M.flatten ++ E2.flatten) := by
    have e := kd_flat hs.2 hs.1.2.1
    rw [hE] at e
    rw [e]
    simp
  have lt : nz V o = 1 + E1.flatten.length + (M.flatten.length + E2.flatten.length) := by
    have := congrArg List.length et
    rw [List.length_tail, ls, List.length_append, List.length_append] at this
    omega
  have parts := sg_parts hV.1.1 ho zo
  rw [et, ls] at parts
  have lT : (V.take o).length = o := by rw [List.length_take]; omega
  have ea : V.take a ++ N.flatten ++ V.drop (a + g) = V.take o ++ (V.getD o nd0 :: (E1.flatten ++ (N.flatten ++ E2.flatten))) ++ V.drop (o + (sg V o).length) := by
    rw [ls]
    generalize hD : V.drop (o + nz V o) = D at *
    generalize hT : V.take o = X at *
    generalize hx : V.getD o nd0 = x at *
    have e1 : V.take a = X ++ (x :: E1.flatten) := by
      rw [parts, ha]
      rw [List.append_assoc, List.take_append, List.take_of_length_le (by omega)]
      congr 1
      rw [List.cons_append, show o + 1 + E1.flatten.length - X.length = E1.flatten.length + 1 by omega, List.take_succ_cons, List.append_assoc, List.take_append, List.take_of_length_le (Nat.le_refl _), Nat.sub_self, List.take_zero, List.append_nil]
    have e2 : V.drop (a + g) = E2.flatten ++ D := by
      rw [parts, ha, hg]
      rw [List.append_assoc, List.drop_append, List.drop_eq_nil_of_le (by omega), List.nil_append, List.cons_append, show o + 1 + E1.flatten.length + M.flatten.length - X.length = E1.flatten.length + M.flatten.length + 1 by omega, List.drop_succ_cons, List.append_assoc, List.drop_append, List.drop_eq_nil_of_le (by omega), List.nil_append, show E1.flatten.length + M.flatten.length - E1.flatten.length = M.flatten.length by omega, List.append_assoc, List.drop_append, List.drop_eq_nil_of_le (Nat.le_refl _), List.nil_append, Nat.sub_self, List.drop_zero]
    rw [e1, e2]
    simp only [List.append_assoc, List.cons_append]
  unfold spl
  rw [adjS_B, ea]
  have er : gpN ((sg V o).getD 0 nd0) (E1 ++ N ++ E2) (E1 ++ N ++ E2).length = wZ ((sg V o).getD 0 nd0) (((sg V o).length : Int) + ((N.flatten.length : Int) - g)).toNat :: (E1.flatten ++ (N.flatten ++ E2.flatten)) := by
    unfold gpN
    rw [List.take_length]
    simp only [List.flatten_append, List.append_assoc, List.length_append]
    congr 2
    omega
  have key := upd_adj (b := 0) (h := fun c => gpN (c.getD 0 nd0) (E1 ++ N ++ E2) (E1 ++ N ++ E2).length) (r := E1.flatten ++ (N.flatten ++ E2.flatten)) (e := (N.flatten.length : Int) - g) V.length V o 0 (Nat.le_refl _) hV ho ⟨(sg V o).getD 0 nd0, er, by rw [rs, ls]; rfl, by rw [ls]; simp only [List.length_append]; omega, by rw [ls]; omega⟩ (V.getD o nd0) ⟨_, by rw [← rs]; exact er⟩ (by rw [ls]; rfl)
  rw [Nat.zero_add] at key
  exact key
