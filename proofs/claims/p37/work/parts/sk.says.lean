/-! THE REFERENCE asks: COMPLAINTS, kinds, WORDS that ask nothing -/
section SAY
variable {S : GS} {d A B : Nat} {Sc T : List ND} {cs : List (Int × Int)}
abbrev kh (Sc T : List ND) (c node j : Nat) : Prop := (nk Sc c = 3 ∧ nt Sc c = lw (gl_kinds.getD j 0).toInt) ∧ (if j = 6 then nk T node = 2 ∧ 0 ≤ pwN (T.getD node nd0) else nk T node = (j : Int))
/-- what is right of a WORD that the reference rests on -/
abbrev okWd (Sc : List ND) (w said : Nat) : Prop := ((2 ≤ w ∧ w ≤ 5 → nk Sc said = 2) ∧ (w = 6 → ∀ c ∈ kids Sc said, nk Sc c = 3)) ∧ (w = 7 → nk Sc said = 5) ∧ (w = 15 → nk Sc said = 3)
end SAY
