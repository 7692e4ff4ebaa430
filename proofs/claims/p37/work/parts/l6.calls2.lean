/-! THE REFERENCE's calls: node, tell, write, paper, quarrel, sum -/
def ppN (pp : List Int) : Nat → Nat → Int → Int
  | 0, _, x => x
  | n + 1, p, x => ppN pp n (p + 1) (256 * x + pp.getD p 0)
theorem tI_n {V : List ND} {i : Nat} (h : i < V.length) : tI V (i : Int) = nt V i := by
  unfold tI
  rw [if_pos (by omega), Int.toNat_natCast]
