/-! THE REFERENCE turns an ORDER round -/
theorem kdI_v {V : List ND} {i k : Int} (h : kdI V i = k) (hk : 0 ≤ k) : 0 ≤ i ∧ i < (V.length : Int) ∧ nk V i.toNat = k := by
  unfold kdI at h
  by_cases c : 0 ≤ i ∧ i < (V.length : Int)
  · rw [if_pos c] at h
    exact ⟨c.1, c.2, h⟩
  · rw [if_neg c] at h
    omega
section RUN
variable {S : GS} {d K : Nat} {U V : List ND} {l : List Int} {os : Option (List (List ND))}
theorem adL_app {X Y : List ORD} : adL (X ++ Y) os = adL Y (adL X os) := by
  unfold adL
  rw [List.foldl_append]
theorem adL_1 {o : ORD} : adL [o] os = addS os o.1 o.2.1 o.2.2 := rfl
end RUN
