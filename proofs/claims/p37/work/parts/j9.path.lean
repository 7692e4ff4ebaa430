/-! THE REFERENCE: PATHS -/
def tw : List Int → Nat
  | [] => 0
  | x :: r => if x = 47 then 0 else tw r + 1
theorem slP_c {x : Int} {r : List Int} {i : Nat} : slP (x :: r) i = if x = 47 then (i + 1) :: slP r (i + 1) else slP r (i + 1) := rfl
section STA
variable {l : List Int}
theorem stA_k {k : Nat} (h : k < nW l) : stA l (k : Int) = ((slP l 0).getD k 0 : Nat) := by
  unfold stA
  rw [if_pos (by unfold nW at h; omega), Int.toNat_natCast]
theorem stA_hi {k : Int} (h : (nW l : Int) ≤ k) : stA l k = (l.length : Int) + 1 := by
  unfold stA
  rw [if_neg (by unfold nW at h; omega)]
end STA
