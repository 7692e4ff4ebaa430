/-! THE REFERENCE: EQUAL; PLAIN PATHS written -/
section REQ
variable {S : GS} {d K F : Nat} {V U : List ND}
variable {l : List Int}
theorem pth_up (hV : TR V ∧ PZL V) {i o : Nat} (h1 : 1 ≤ i) (hi : i < V.length) (ho : owI V i = (o : Int)) : pth V i = pth V o ++ stp V i := by
  have hz := pz_l hV.2
  have near : o < i ∧ i < o + nz V o ∧ ∀ q, o < q → q < i → ¬ i < q + nz V q := by
    unfold owI at ho
    rcases ow_ok (V := V) (i := i) i with ⟨a, b⟩ | ⟨o', a, b, c, e⟩
    · omega
    · have : o' = o := by omega
      subst this
      exact ⟨b, c, e⟩
  have zi := hz i
  have split_ : ∀ (a b p k : Nat), ptF V k (a + b) p = ptF V k a p ++ ptF V k b (p + a) := by
    intro a
    induction a with
    | zero => intro b p k; rw [Nat.zero_add, Nat.add_zero]; rfl
    | succ a ih =>
      intro b p k
      rw [show a + 1 + b = (a + b) + 1 by omega]
      show (if k < p + nz V p then stp V p else []) ++ ptF V k (a + b) (p + 1) = ((if k < p + nz V p then stp V p else []) ++ ptF V k a (p + 1)) ++ ptF V k b (p + (a + 1))
      rw [ih b (p + 1) k, List.append_assoc, show p + 1 + a = p + (a + 1) by omega]
  have same : ∀ (t p : Nat), p + t ≤ o + 1 → 1 ≤ p → ptF V i t p = ptF V o t p := by
    intro t
    induction t with
    | zero => intro p _ _; rfl
    | succ t ih =>
      intro p hp hp1
      show (if i < p + nz V p then stp V p else []) ++ ptF V i t (p + 1) = (if o < p + nz V p then stp V p else []) ++ ptF V o t (p + 1)
      rw [ih (p + 1) (by omega) (by omega)]
      have : (i < p + nz V p) ↔ (o < p + nz V p) := by
        constructor
        · intro q; omega
        · intro q
          by_cases c : p = o
          · rw [c]; exact near.2.1
          · have := hV.1.1.2.1 p o (by omega) q
            omega
      by_cases c : i < p + nz V p
      · rw [if_pos c, if_pos (this.mp c)]
      · rw [if_neg c, if_neg (fun z => c (this.mpr z))]
  have none_ : ∀ (t p : Nat), p + t ≤ i → o < p → ptF V i t p = [] := by
    intro t
    induction t with
    | zero => intro p _ _; rfl
    | succ t ih =>
      intro p hp hp1
      show (if i < p + nz V p then stp V p else []) ++ ptF V i t (p + 1) = []
      rw [ih (p + 1) (by omega) (by omega), if_neg (near.2.2 p hp1 (by omega))]
      rfl
  unfold pth
  rw [show i = o + ((i - o - 1) + 1) by omega, show o + (i - o - 1 + 1) = i by omega]
  have e := split_ o ((i - o - 1) + 1) 1 i
  rw [show o + (i - o - 1 + 1) = i by omega] at e
  rw [e, same o 1 (by omega) (by omega), split_ (i - o - 1) 1 (1 + o) i, none_ (i - o - 1) (1 + o) (by omega) (by omega), List.nil_append]
  congr 1
  show (if i < 1 + o + (i - o - 1) + nz V (1 + o + (i - o - 1)) then stp V (1 + o + (i - o - 1)) else []) ++ [] = stp V i
  rw [show 1 + o + (i - o - 1) = i by omega, if_pos (by omega), List.append_nil]
end REQ
