/-! THE REFERENCE's check -/
theorem agB_ask {Sc T : List ND} {n : Int} {cs : List (Int × Int)} (h : askR Sc T 2000 151 [] 0 0 (0, []) = some (n, cs)) : agB Sc T = true ↔ cs = [] := by
  have h2 := ask_mo (show (2000 : Int) ≤ 1000000 by decide) _ _ _ _ _ _ h
  have a := ask_ak (Sc := Sc) (T := T) (most := 1000000) 151 [] 0 0 true [] [] 0 (Or.inl rfl)
  unfold AK at a
  rw [h2] at a
  obtain ⟨es, q1, q2⟩ := a
  have q1' : cs = [] ++ es := q1
  rw [List.nil_append] at q1'
  rw [if_pos (Or.inl rfl)] at q2
  unfold agB
  rw [q2, q1']
  show ((decide (es = []) && true) && !false) = true ↔ _
  rw [Bool.and_true, Bool.not_false, Bool.and_true, decide_eq_true_eq]
theorem exa_ask {Sc T : List ND} : match askR Sc T 2000 151 [] 0 0 (0, []) with
    | none => (exaR Sc T).2.1 = true
    | some K1 => if K1.2.length ≤ 1000 then (exaR Sc T).2.1 = false ∧ (exaR Sc T).2.2 = K1.2 else (exaR Sc T).2.1 = true := by
  have a := ask_ak (Sc := Sc) (T := T) (most := 2000) 151 [] 0 0 false [] [] 0 (Or.inr (by decide))
  unfold AK at a
  unfold exaR
  cases e : askR Sc T 2000 151 [] 0 0 (0, []) with
  | none =>
    rw [e] at a
    exact a
  | some K1 =>
    rw [e] at a
    obtain ⟨es, q1, q2⟩ := a
    rw [List.nil_append] at q1
    rw [List.nil_append, ← q1] at q2
    show if K1.2.length ≤ 1000 then _ else _
    by_cases c : K1.2.length ≤ 1000
    · rw [if_pos (Or.inr c)] at q2
      rw [if_pos c, q2]
      exact ⟨rfl, rfl⟩
    · rw [if_neg (fun z => by
        rcases z with z | z
        · cases z
        · exact c z)] at q2
      rw [if_neg c]
      exact q2
