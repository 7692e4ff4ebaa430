/-! THE REFERENCE: KEYS, VALUES of a group, words -/
/-- KEYS beside each other, as the reference tells it -/
def bk : List Int → List Int → Int
  | [], b => -(b.length : Int)
  | x :: a, [] => ((x :: a).length : Int)
  | x :: a, y :: b => if x = y then bk a b else if x < y then -1 else 1
section RK2
variable {S : GS} {d K : Nat} {V : List ND}
theorem kid_in3 (hw : WF V) (hz : PZ V) {g c : Nat} (hg : g < V.length) (hc : c ∈ kids V g) : g < c ∧ c < V.length ∧ c + nz V c ≤ g + nz V g := by
  have m := mem_kids hz hc
  have := hw.1 g hg
  have := hw.2.1 g c m.1 m.2
  have := hz c
  omega
theorem getD_in {q : List Int} {t : Nat} (h : t < q.length) : q.getD t 0 ∈ q := by
  rw [List.getD_eq_getElem?_getD, List.getElem?_eq_getElem h]; exact List.getElem_mem h
end RK2
