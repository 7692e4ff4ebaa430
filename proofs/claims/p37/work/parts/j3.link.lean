/-! THE REFERENCE: links -/
section KSX
variable {V : List ND} {e : Nat}
theorem ks_tail (hz : PZ V) {k : Nat} {K2 : List Nat} : ∀ (K1 : List Nat) (a : Nat), ks V a e = K1 ++ k :: K2 → K2 = ks V (k + nz V k) e ∧ k < e ∧ a ≤ k
  | [], a, h => by
    by_cases c : a < e
    · rw [ks_cons hz c, List.nil_append] at h
      have h1 := List.cons.inj h
      obtain ⟨rfl, h2⟩ := h1
      exact ⟨h2.symm, c, Nat.le_refl _⟩
    · rw [ks_nil (by omega)] at h; cases h
  | x :: K1, a, h => by
    by_cases c : a < e
    · rw [ks_cons hz c, List.cons_append] at h
      have h1 := List.cons.inj h
      have := ks_tail hz K1 _ h1.2
      exact ⟨this.1, this.2.1, by omega⟩
    · rw [ks_nil (by omega)] at h; cases h
theorem ks_lt (hz : PZ V) {k : Nat} {K2 : List Nat} : ∀ (K1 : List Nat) (a : Nat), ks V a e = K1 ++ k :: K2 → ∀ x ∈ K1, x < k
  | [], _, _ => fun x hx => by cases hx
  | y :: K1, a, h => by
    by_cases c : a < e
    · rw [ks_cons hz c, List.cons_append] at h
      have h1 := List.cons.inj h
      intro x hx
      rcases List.mem_cons.mp hx with z | z
      · subst z
        have := (ks_tail hz K1 _ h1.2).2.2
        have := hz a
        omega
      · exact ks_lt hz K1 _ h1.2 x z
    · rw [ks_nil (by omega)] at h; cases h
/-- what begins ahead of a VALUE ends there -/
theorem ks_ahead (hw : WF V) (hz : PZ V) {k : Nat} {K2 : List Nat} : ∀ (K1 : List Nat) (a : Nat), ks V a e = K1 ++ k :: K2 → ∀ q, a ≤ q → q < k → q + nz V q ≤ k
  | [], a, h => by
    by_cases c : a < e
    · rw [ks_cons hz c, List.nil_append] at h
      have h1 := List.cons.inj h
      intro q; omega
    · rw [ks_nil (by omega)] at h; cases h
  | y :: K1, a, h => by
    by_cases c : a < e
    · rw [ks_cons hz c, List.cons_append] at h
      have h1 := List.cons.inj h
      have t := ks_tail hz K1 _ h1.2
      intro q q1 q2
      by_cases c2 : a + nz V a ≤ q
      · exact ks_ahead hw hz K1 _ h1.2 q c2 q2
      · by_cases c3 : q = a
        · subst c3; exact t.2.2
        · have := hw.2.1 a q (by omega) (by omega)
          omega
    · rw [ks_nil (by omega)] at h; cases h
end KSX
theorem plK_at {x : Nat} {K2 : List Nat} : ∀ (K1 : List Nat) (n : Nat), x ∉ K1 → plK x (K1 ++ x :: K2) n = ((n + K1.length : Nat) : Int)
  | [], n, _ => by
    unfold plK
    rw [List.nil_append]
    simp
  | y :: K1, n, h => by
    rw [List.mem_cons] at h
    rw [List.cons_append]
    unfold plK
    rw [if_neg (fun z => h (Or.inl z.symm)), plK_at K1 (n + 1) (fun z => h (Or.inr z)), List.length_cons]
    omega
theorem kid_own {V : List ND} (hw : WF V) (hz : PZ V) {g k : Nat} {K1 K2 : List Nat} (h : kids V g = K1 ++ k :: K2) : owI V k = (g : Int) ∧ plI V k = (K1.length : Int) := by
  have hk : k ∈ kids V g := by rw [h]; exact List.mem_append_right _ List.mem_cons_self
  have m := mem_kids hz hk
  have e1 : owI V k = (g : Int) := by
    unfold owI
    rcases ow_ok (V := V) (i := k) k with ⟨a, b⟩ | ⟨o, a, b, c, d⟩
    · exact absurd m.2 (b g m.1)
    · by_cases c1 : g = o
      · rw [a, c1]
      · by_cases c2 : o < g
        · exact absurd m.2 (d g c2 m.1)
        · have := ks_ahead hw hz K1 (g + 1) h o (by omega) b
          omega
  refine ⟨e1, ?_⟩
  unfold plI
  rw [e1, if_pos (by omega), Int.toNat_natCast, h, plK_at K1 0 (fun z => by have := ks_lt hz K1 (g + 1) h k z; omega), Nat.zero_add]
theorem kids_le {V : List ND} (hw : WF V) (hz : PZ V) {g : Nat} : (kids V g).length ≤ nz V g - 1 := by
  have h := kids_sum hw hz (g := g)
  have : ∀ (K : List Nat), K.length ≤ suF (nz V) K := by
    intro K
    induction K with
    | nil => exact Nat.le_refl _
    | cons c K ih => have := hz c; unfold suF; rw [List.length_cons]; omega
  have := this (kids V g)
  omega
