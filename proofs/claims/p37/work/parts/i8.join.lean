/-! THE CLASS's state when QUARRELS change -/
section JST
variable {S S1 : GS} {T0 : List ND} {Ds : List (List ND)} {pg pp : List Int} {r : Int} {L : List Nat} {Q Q1 : List (List Int)} {C : List (Int × Int)} {d : Nat}
theorem cl_qu {M : Nat → Prop} (h : ClS T0 Ds pg pp r L Q C S) (hf : Fr M S S1) (hM : ∀ k, M k → joM k) (hQ : QuS Q1 S1) (hG : Good S1) : ClS T0 Ds pg pp r L Q1 C S1 := by
  obtain ⟨⟨n1, n2, n3⟩, ⟨p1, p2⟩, q1, ⟨r1, r2⟩, f1, u1, c1, t1, g⟩ := h
  have no : ∀ k, (k < 392 ∨ (400 ≤ k ∧ k < 456) ∨ (460 ≤ k ∧ k < 485) ∨ 487 ≤ k) → ¬ M k := fun k hk z => by
    have := hM k z
    unfold joM trM at this
    omega
  have n468 := hf 468 (no _ (by omega))
  have n487 := hf 487 (no _ (by omega))
  exact ⟨⟨by rw [n468.1]; exact n1, n2, fun i hi => ⟨to_fr (n3 i hi).1 hf (fun k a b => no _ (by omega)), (n3 i hi).2⟩⟩, ⟨sv_fr p1 hf (no _ (by omega)) (no _ (by omega)), p2⟩, sv_fr q1 hf (no _ (by omega)) (no _ (by omega)), ⟨by rw [n468.1]; exact r1, r2⟩, fsl_fr f1 hf (no _ (by omega)) (no _ (by omega)) (no _ (by omega)), hQ, cp_fr c1 hf (by rw [n487.1]) (no _ (by omega)) (no _ (by omega)), to_fr t1 hf (fun k a b => no _ (by omega)), hG⟩
end JST
