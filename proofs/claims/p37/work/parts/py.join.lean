/-! THE REFERENCE's join -/
section RJ7
variable {S : GS} {d cO cA cB : Nat} {O A B : List ND}
/-- what joining makes is one VALUE -/
theorem jnD_one (hO : DOC O) (hA : DOC A) (hB : DOC B) (h : (jnD O A B).2 = []) : ∃ T, (jnD O A B).1 = [T] ∧ (TR T ∧ PZL T) ∧ (T.length ≤ 100 → SDC T) ∧ rq T = [] := by
  have l1 := hO.1.1.1.2.1
  have l2 := hA.1.1.1.2.1
  have l3 := hB.1.1.1.2.1
  have jg := jn_ok hO hA hB 13 [] [] 0 0 0 (Or.inr ⟨by omega, by omega⟩) (Or.inr ⟨by omega, by omega⟩) (Or.inr ⟨by omega, by omega⟩) (fun _ => hA.2.2.2) (fun _ => hB.2.2.2)
  have jc := jnF_cs (O := O) (A := A) (B := B) (f := 13) (p := []) (o := 0) (a := 0) (b := 0)
  have ne : (jnD O A B).1 ≠ [] := by
    rcases jcs_4 O A B 0 0 0 with z | z | z | z
    · have e : jnD O A B = (acT A 0, []) := jc.1 z
      rw [e]
      unfold acT
      rw [if_neg (by decide)]
      exact List.cons_ne_nil _ _
    · have e : jnD O A B = (acT B 0, []) := jc.2.1 z
      rw [e]
      unfold acT
      rw [if_neg (by decide)]
      exact List.cons_ne_nil _ _
    · have e := (jnF_2 (f := 12) (p := []) z).2
      have e2 : jnD O A B = jnF O A B (12 + 1) [] 0 0 0 := rfl
      rw [e2, e]
      exact List.cons_ne_nil _ _
    · have e : jnD O A B = ([], [[]]) := jc.2.2 z
      rw [e] at h
      exact absurd h (List.cons_ne_nil _ _)
  have jg' : JG [] (jnD O A B).1 := jg
  match hL : (jnD O A B).1, ne, jg' with
  | [], ne, _ => exact absurd rfl ne
  | [T], _, jg => exact ⟨T, rfl, (jg.2 T List.mem_cons_self).1.1, (jg.2 T List.mem_cons_self).1.2, (jg.2 T List.mem_cons_self).2⟩
  | _ :: _ :: _, _, jg => exact absurd jg.1 (by simp)
end RJ7
