/-! THE REFERENCE asks: a ref, and what a WORD asks next -/
section NXT
variable {S : GS} {d A B k : Nat} {Sc T : List ND} {refs cs : List (Int × Int)} {n : Int}
theorem vl_kM {g : Nat} {q : List Int} (hg : g < Sc.length) (h : nk Sc g ≠ 5) : vLk Sc (g : Int) q = -1 := by
  unfold vLk
  rw [if_pos (by omega), Int.toNat_natCast]
  unfold kidsM
  rw [if_neg h]
  rfl
theorem vl_neg {q : List Int} : vLk Sc (-1) q = -1 := by
  unfold vLk
  rw [if_neg (by omega)]
end NXT
