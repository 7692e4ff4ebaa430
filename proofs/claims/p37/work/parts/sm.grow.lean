/-! SCHEMAS: how much asking comes to -/
section GRO
variable {Sc T : List ND}
theorem ask_ext {most : Int} {f : Nat} {refs : List (Int × Int)} {sub nd : Int} {K K1 : RK} (h : askR Sc T most f refs sub nd K = some K1) : ∃ es, K1.2 = K.2 ++ es := by
  have a := ask_ak (Sc := Sc) (T := T) (most := most) f refs sub nd true [] K.2 K.1 (Or.inl rfl)
  have e : (K.1, K.2) = K := rfl
  rw [e, h] at a
  obtain ⟨es, q, _⟩ := a
  exact ⟨es, q⟩
end GRO
