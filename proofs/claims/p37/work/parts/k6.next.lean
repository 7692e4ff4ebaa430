/-! THE REFERENCE: the next VALUE of a group, by a way -/
section ORW
variable {V : List ND}
theorem kids_100 (hw : WF V) (hz : PZ V) (hl : V.length ≤ 100) {g : Nat} (hg : g < V.length) : (kids V g).length ≤ 100 := by
  have := kids_le hw hz (g := g)
  have := hw.1 g hg
  omega
end ORW
