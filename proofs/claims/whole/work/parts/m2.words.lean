/-! WORDS and what they are written as -/
theorem une_nl : ∀ {r : List Int}, une r = [] → r = []
  | [], _ => rfl
  | [x], h => by
    have : [if x = 126 then (47 : Int) else x] = [] := h
    cases this
  | x :: y :: r, h => by
    have h' : (if x = 126 then (if y = 48 then (126 : Int) else 47) :: une r else x :: une (y :: r)) = [] := h
    split at h' <;> cases h'
theorem une_hd {r : List Int} {x : Int} (hx : x ≠ 126 ∧ x ≠ 47) : hdI (une r) = x ↔ hdI r = x := by
  match r with
  | [] => exact Iff.rfl
  | [y] =>
    show (if y = 126 then (47 : Int) else y) = x ↔ y = x
    by_cases c : y = 126
    · rw [if_pos c]; exact ⟨fun h => absurd h.symm hx.2, fun h => absurd (h ▸ c) hx.1⟩
    · rw [if_neg c]
  | y :: z :: r =>
    have e : une (y :: z :: r) = if y = 126 then (if z = 48 then (126 : Int) else 47) :: une r else y :: une (z :: r) := rfl
    rw [e]
    show _ ↔ y = x
    by_cases c : y = 126
    · rw [if_pos c]
      show (if z = 48 then (126 : Int) else 47) = x ↔ y = x
      by_cases q : z = 48
      · rw [if_pos q]; exact ⟨fun h => absurd h.symm hx.1, fun h => absurd (h ▸ c) hx.1⟩
      · rw [if_neg q]; exact ⟨fun h => absurd h.symm hx.2, fun h => absurd (h ▸ c) hx.1⟩
    · rw [if_neg c]; exact Iff.rfl
theorem une_42 {r : List Int} : une r = [42] ↔ r = [42] := by
  refine ⟨fun h => ?_, fun h => by rw [h]; rfl⟩
  have h1 : hdI r = 42 := (une_hd (by decide)).mp (by rw [h]; rfl)
  cases r with
  | nil => cases h1
  | cons y r =>
    have e : y = 42 := h1
    subst e
    rw [une_ne (by decide)] at h
    rw [une_nl (List.cons.inj h).2]
theorem une_4242 {r : List Int} : une r = [42, 42] ↔ r = [42, 42] := by
  refine ⟨fun h => ?_, fun h => by rw [h]; rfl⟩
  have h1 : hdI r = 42 := (une_hd (by decide)).mp (by rw [h]; rfl)
  cases r with
  | nil => cases h1
  | cons y r =>
    have e : y = 42 := h1
    subst e
    rw [une_ne (by decide)] at h
    rw [une_42.mp (List.cons.inj h).2]
theorem une_app {x : Int} {B : List Int} (hx : x ≠ 126 ∧ x ≠ 48 ∧ x ≠ 49) : ∀ (A : List Int), ptOK (A ++ x :: B) = true → une (A ++ x :: B) = une A ++ x :: une B
  | [], _ => une_ne hx.1
  | [a], h => by
    by_cases c : a = 126
    · subst c
      exfalso
      have : (decide ((126 : Int) ≠ 126 ∨ x = 48 ∨ x = 49) && ptOK (x :: B)) = true := h
      rw [Bool.and_eq_true, decide_eq_true_eq] at this
      omega
    · show une (a :: x :: B) = [if a = 126 then 47 else a] ++ x :: une B
      rw [une_ne c, une_ne hx.1, if_neg c]
      rfl
  | a :: b :: A, h => by
    by_cases c : a = 126
    · subst c
      have h2 : (decide ((126 : Int) ≠ 126 ∨ b = 48 ∨ b = 49) && ptOK (b :: (A ++ x :: B))) = true := h
      rw [Bool.and_eq_true] at h2
      have h3 : (decide (b ≠ 126 ∨ hdI (A ++ x :: B) = 48 ∨ hdI (A ++ x :: B) = 49) && ptOK (A ++ x :: B)) = true := h2.2
      rw [Bool.and_eq_true] at h3
      have ih := une_app hx A h3.2
      show une (126 :: b :: (A ++ x :: B)) = une (126 :: b :: A) ++ _
      rw [une_126, une_126, ih]
      rfl
    · have h2 : (decide (a ≠ 126 ∨ b = 48 ∨ b = 49) && ptOK ((b :: A) ++ x :: B)) = true := h
      rw [Bool.and_eq_true] at h2
      have ih := une_app hx (b :: A) h2.2
      show une (a :: ((b :: A) ++ x :: B)) = une (a :: b :: A) ++ _
      rw [une_ne c, une_ne c, ih]
      rfl
theorem une_mem : ∀ {r : List Int} {x : Int}, x ∈ une r → x ∈ r ∨ x = 126 ∨ x = 47
  | [], x, h => by cases h
  | [y], x, h => by
    have h' : x ∈ [if y = 126 then (47 : Int) else y] := h
    rw [List.mem_singleton] at h'
    split at h'
    · exact Or.inr (Or.inr h')
    · rw [h']; exact Or.inl List.mem_cons_self
  | y :: z :: r, x, h => by
    have h' : x ∈ (if y = 126 then (if z = 48 then (126 : Int) else 47) :: une r else y :: une (z :: r)) := h
    split at h'
    · rcases List.mem_cons.mp h' with e | e
      · split at e
        · exact Or.inr (Or.inl e)
        · exact Or.inr (Or.inr e)
      · rcases une_mem e with w | w
        · exact Or.inl (List.mem_cons_of_mem _ (List.mem_cons_of_mem _ w))
        · exact Or.inr w
    · rcases List.mem_cons.mp h' with e | e
      · rw [e]; exact Or.inl List.mem_cons_self
      · rcases une_mem e with w | w
        · exact Or.inl (List.mem_cons_of_mem _ w)
        · exact Or.inr w
/-- as far as the first = -/
def t6 : List Int → Nat
  | [] => 0
  | x :: r => if x = 61 then 0 else t6 r + 1
theorem t6_le : ∀ (r : List Int), t6 r ≤ r.length
  | [] => Nat.le_refl _
  | x :: r => by
    unfold t6
    have := t6_le r
    rw [List.length_cons]
    split <;> omega
theorem t6_sp : ∀ (r : List Int), t6 r < r.length → r = r.take (t6 r) ++ 61 :: r.drop (t6 r + 1)
  | [], h => by cases h
  | x :: r, h => by
    unfold t6 at h ⊢
    by_cases c : x = 61
    · rw [if_pos c, c]
      rfl
    · rw [if_neg c, List.length_cons] at h
      rw [if_neg c, List.take_succ_cons, List.drop_succ_cons, List.cons_append, ← t6_sp r (by omega)]
theorem t6_no : ∀ (r : List Int), ∀ x ∈ r.take (t6 r), x ≠ 61
  | [], x, h => by cases h
  | y :: r, x, h => by
    unfold t6 at h
    by_cases c : y = 61
    · rw [if_pos c] at h
      cases h
    · rw [if_neg c, List.take_succ_cons] at h
      rcases List.mem_cons.mp h with e | e
      · rw [e]; exact c
      · exact t6_no r x e
theorem t6_at : ∀ (r : List Int), t6 r < r.length → r.getD (t6 r) 0 = 61
  | [], h => by cases h
  | x :: r, h => by
    unfold t6 at h ⊢
    by_cases c : x = 61
    · rw [if_pos c]; exact c
    · rw [if_neg c, List.length_cons] at h
      rw [if_neg c]
      exact t6_at r (by omega)
theorem plF_none {x : Int} : ∀ (A : List Int) (i : Nat), (∀ y ∈ A, y ≠ x) → plF x A i = -1
  | [], _, _ => rfl
  | y :: A, i, h => by
    unfold plF
    rw [if_neg (h y List.mem_cons_self)]
    exact plF_none A (i + 1) (fun z hz => h z (List.mem_cons_of_mem _ hz))
theorem plF_some {x : Int} {B : List Int} : ∀ (A : List Int) (i : Nat), (∀ y ∈ A, y ≠ x) → plF x (A ++ x :: B) i = ((i + A.length : Nat) : Int)
  | [], i, _ => by
    show (if x = x then _ else _) = _
    rw [if_pos rfl]
    rfl
  | y :: A, i, h => by
    show (if y = x then _ else plF x (A ++ x :: B) (i + 1)) = _
    rw [if_neg (h y List.mem_cons_self), plF_some A (i + 1) (fun z hz => h z (List.mem_cons_of_mem _ hz)), List.length_cons]
    congr 1
    omega
/-- whether a VALUE meets, told by the STEP as it is written -/
theorem mch_raw {V : List ND} {r : List Int} {c : Nat} (hp : ptOK r = true) (h63 : hdI r = 63) : mchS V (une r) c = (decide (t6 r < r.length) && (decide (vLk V (c : Int) (une ((r.take (t6 r)).drop 1)) ≠ -1) && decide (une (r.drop (t6 r + 1)) = wrF 12 0 0 (sg V (vLk V (c : Int) (une ((r.take (t6 r)).drop 1))).toNat)))) := by
  unfold mchS
  have no : ∀ (A : List Int), (∀ x ∈ A, x ≠ 61) → ∀ y ∈ une A, y ≠ 61 := fun A hA y hy => by
    rcases une_mem hy with w | w | w
    · exact hA y w
    · rw [w]; decide
    · rw [w]; decide
  have tl := t6_le r
  by_cases c6 : t6 r < r.length
  · have e := t6_sp r c6
    have n6 := t6_no r
    have hA : ∃ A2, r.take (t6 r) = 63 :: A2 := by
      cases r with
      | nil => cases h63
      | cons y r =>
        have e : y = 63 := h63
        subst e
        unfold t6
        rw [if_neg (by decide), List.take_succ_cons]
        exact ⟨_, rfl⟩
    obtain ⟨A2, hA2⟩ := hA
    have hpp := hp
    rw [e] at hpp
    have eu : une r = une (r.take (t6 r)) ++ 61 :: une (r.drop (t6 r + 1)) := by
      conv => lhs; rw [e]
      exact une_app (by decide) _ hpp
    have pl : plF 61 (une r) 0 = ((une (r.take (t6 r))).length : Int) := by
      rw [eu, plF_some _ 0 (no _ n6), Nat.zero_add]
    rw [decide_eq_true c6, pl, Int.toNat_natCast, decide_eq_true (show ((une (r.take (t6 r))).length : Int) ≠ -1 by omega)]
    have e1 : ((une r).take (une (r.take (t6 r))).length).drop 1 = une ((r.take (t6 r)).drop 1) := by
      rw [eu, List.take_left', hA2, une_ne (by decide)]
      · rfl
      · rfl
    have e2 : (une r).drop (((une (r.take (t6 r))).length : Int) + 1).toNat = une (r.drop (t6 r + 1)) := by
      rw [show (((une (r.take (t6 r))).length : Int) + 1).toNat = (une (r.take (t6 r))).length + 1 by omega, eu, List.drop_append, List.drop_eq_nil_of_le (by omega), Nat.add_sub_cancel_left]
      rfl
    rw [e1, e2]
  · have et : r.take (t6 r) = r := List.take_of_length_le (by omega)
    have n6 := t6_no r
    rw [et] at n6
    rw [plF_none _ 0 (no r n6), decide_eq_false c6, decide_eq_false (by decide), Bool.false_and, Bool.false_and]
