/-! THE REFERENCE joins: VALUES of MAPS -/
theorem jnF_cs {O A B : List ND} {f : Nat} {p : List Int} {o a b : Int} : (jCs O A B o a b = 0 → jnF O A B f p o a b = (acT A a, [])) ∧ (jCs O A B o a b = 1 → jnF O A B f p o a b = (acT B b, [])) ∧ (jCs O A B o a b = 3 → jnF O A B f p o a b = ([], [p])) := by
  have all : jnF O A B f p o a b = if alk A a B b ∨ alk B b O o then (acT A a, []) else if alk A a O o then (acT B b, []) else if kdI A a = 5 ∧ kdI B b = 5 ∧ (o = -1 ∨ kdI O o = 5) then jnF O A B f p o a b else ([], [p]) := by
    cases f with
    | zero =>
      have e : jnF O A B 0 p o a b = if alk A a B b ∨ alk B b O o then (acT A a, []) else if alk A a O o then (acT B b, []) else ([], [p]) := rfl
      rw [e]
      split
      · rfl
      · split
        · rfl
        · split <;> rfl
    | succ f =>
      rw [jnF_s]
      by_cases c0 : alk A a B b ∨ alk B b O o
      · rw [if_pos c0, if_pos c0]
      rw [if_neg c0, if_neg c0]
      by_cases c1 : alk A a O o
      · rw [if_pos c1, if_pos c1]
      rw [if_neg c1, if_neg c1]
      by_cases c2 : kdI A a = 5 ∧ kdI B b = 5 ∧ (o = -1 ∨ kdI O o = 5)
      · rw [if_pos c2, if_pos c2]
      · rw [if_neg c2, if_neg c2]
  unfold jCs
  by_cases c0 : alk A a B b ∨ alk B b O o
  · rw [if_pos c0] at all ⊢
    exact ⟨fun _ => all, (fun z => by cases z), (fun z => by cases z)⟩
  rw [if_neg c0] at all ⊢
  by_cases c1 : alk A a O o
  · rw [if_pos c1] at all ⊢
    exact ⟨(fun z => by cases z), fun _ => all, (fun z => by cases z)⟩
  rw [if_neg c1] at all ⊢
  by_cases c2 : kdI A a = 5 ∧ kdI B b = 5 ∧ (o = -1 ∨ kdI O o = 5)
  · rw [if_pos c2]
    exact ⟨(fun z => by cases z), (fun z => by cases z), (fun z => by cases z)⟩
  · rw [if_neg c2] at all ⊢
    exact ⟨(fun z => by cases z), (fun z => by cases z), fun _ => all⟩
/-- VALUES and QUARRELS of a MAP -/
abbrev jvF (O A B : List ND) (f : Nat) (p : List Int) (o a b : Int) : List (List ND) := (j1F (jnF O A B f) O A B a b p (kidI O o)).1 ++ (j2F (jnF O A B f) O A B o b p (kidI A a)).1 ++ j3F O A B o a (kidI B b)
abbrev jqF (O A B : List ND) (f : Nat) (p : List Int) (o a b : Int) : List (List Int) := (j1F (jnF O A B f) O A B a b p (kidI O o)).2 ++ (j2F (jnF O A B f) O A B o b p (kidI A a)).2
theorem jnF_2 {O A B : List ND} {f : Nat} {p : List Int} {o a b : Int} (h : jCs O A B o a b = 2) : (kdI A a = 5 ∧ kdI B b = 5 ∧ (o = -1 ∨ kdI O o = 5)) ∧ jnF O A B (f + 1) p o a b = ([gpN (5, 1, 0, [], kI A a) (jvF O A B f p o a b) (jvF O A B f p o a b).length], jqF O A B f p o a b) := by
  unfold jCs at h
  by_cases c0 : alk A a B b ∨ alk B b O o
  · rw [if_pos c0] at h; cases h
  rw [if_neg c0] at h
  by_cases c1 : alk A a O o
  · rw [if_pos c1] at h; cases h
  rw [if_neg c1] at h
  by_cases c2 : kdI A a = 5 ∧ kdI B b = 5 ∧ (o = -1 ∨ kdI O o = 5)
  · refine ⟨c2, ?_⟩
    rw [jnF_s, if_neg c0, if_neg c1, if_pos c2]
  · rw [if_neg c2] at h; cases h
theorem jcs_4 (O A B : List ND) (o a b : Int) : jCs O A B o a b = 0 ∨ jCs O A B o a b = 1 ∨ jCs O A B o a b = 2 ∨ jCs O A B o a b = 3 := by
  unfold jCs
  split
  · exact Or.inl rfl
  · split
    · exact Or.inr (Or.inl rfl)
    · split
      · exact Or.inr (Or.inr (Or.inl rfl))
      · exact Or.inr (Or.inr (Or.inr rfl))
