/-! THE REFERENCE joins: what is alike, QUARRELS met -/
section RJ0
variable {S : GS} {d K F : Nat} {V U : List ND}
/-- EQUAL to one is EQUAL to the other -/
theorem alk_tr {O A B : List ND} {o a b : Int} (hO : DOC O) (hA : DOC A) (hB : DOC B) (ho : nOK O o) (ha : nOK A a) (hb : nOK B b) (h1 : alk A a O o) (h2 : alk B b O o) : alk A a B b := by
  have wr : ∀ (V U : List ND) (I J : Nat), DOC V → DOC U → I < V.length → J < U.length → (alk V (I : Int) U (J : Int) ↔ wrF 12 1 0 (sg V I) = wrF 12 1 0 (sg U J)) := fun V U I J hV hU hI hJ => by
    have e : alk V (I : Int) U (J : Int) ↔ smF 13 (sg V I) (sg U J) = true := by
      show (if (I : Int) = -1 ∨ (J : Int) = -1 then (I : Int) = J else smJ 13 V (I : Int).toNat U (J : Int) = true) ↔ _
      rw [if_neg (by omega), Int.toNat_natCast]
      unfold smJ
      rw [if_pos (show 0 ≤ (J : Int) ∧ (J : Int) < (U.length : Int) by omega), Int.toNat_natCast]
    rw [e]
    obtain ⟨s1, s2, s3⟩ := doc_sg hV hI
    obtain ⟨t1, t2, t3⟩ := doc_sg hU hJ
    exact eq_wr s1 t1 s3 t3 s2 t2
  have no : ∀ (V U : List ND) (i j : Int), alk V i U j → (i = -1 ∨ j = -1) → i = j := fun V U i j h z => by
    have h' : (if i = -1 ∨ j = -1 then i = j else smJ 13 V i.toNat U j = true) := h
    rw [if_pos z] at h'
    exact h'
  by_cases c : o = -1
  · have e1 := no _ _ _ _ h1 (Or.inr c)
    have e2 := no _ _ _ _ h2 (Or.inr c)
    show (if a = -1 ∨ b = -1 then a = b else smJ 13 A a.toNat B b = true)
    rw [if_pos (by omega)]
    omega
  · have c1 : a ≠ -1 := fun z => c (by have := no _ _ _ _ h1 (Or.inl z); omega)
    have c2 : b ≠ -1 := fun z => c (by have := no _ _ _ _ h2 (Or.inl z); omega)
    obtain ⟨I, rfl⟩ : ∃ I : Nat, a = (I : Int) := ⟨a.toNat, by omega⟩
    obtain ⟨J, rfl⟩ : ∃ J : Nat, b = (J : Int) := ⟨b.toNat, by omega⟩
    obtain ⟨M, rfl⟩ : ∃ M : Nat, o = (M : Int) := ⟨o.toNat, by omega⟩
    rw [wr A O I M hA hO (by omega) (by omega)] at h1
    rw [wr B O J M hB hO (by omega) (by omega)] at h2
    exact (wr A B I J hA hB (by omega) (by omega)).mpr (h1.trans h2.symm)
end RJ0
