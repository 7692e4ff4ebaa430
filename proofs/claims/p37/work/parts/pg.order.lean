/-! THE REFERENCE: an ORDER is made -/
section ROM
variable {S : GS} {d K F : Nat} {V : List ND}
theorem os_le {Os : List (List ND)} (h : ∀ t ∈ Os, TR t ∧ PZL t) : Os.length ≤ Os.flatten.length := by
  induction Os with
  | nil => exact Nat.le_refl _
  | cons u E ih =>
    rw [List.length_cons, List.flatten_cons, List.length_append]
    have := ih (fun T hT => h T (List.mem_cons_of_mem _ hT))
    have := (h u List.mem_cons_self).1.2.1
    omega
end ROM
