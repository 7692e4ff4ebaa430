/-! THE CLASS's paper, sum -/
def b256 : Nat → Int
  | 0 => 1
  | k + 1 => 256 * b256 k
section CPS
variable {S S1 : GS} {T0 : List ND} {Ds : List (List ND)} {pg pp : List Int} {r : Int} {L : List Nat} {Q : List (List Int)} {C : List (Int × Int)} {d : Nat}
theorem c_paper {p n : Int} (h : ClS T0 Ds pg pp r L Q C S) (hb : ∀ x ∈ pp, 0 ≤ x ∧ x < 256) (hd : 2 ≤ d) (hp : inr p) (hn : inr n) : Rd (fun m => f_X11_paper m d 0 S [p, n]) (if 0 ≤ p ∧ p < (pp.length : Int) then (if 1 ≤ n ∧ n ≤ 7 ∧ n ≤ (pp.length : Int) - p then ppN pp n.toNat p.toNat 0 else exB + 1) else exB + 3) S := by
  have ex := ex_e
  have g26 : gSh 426 := by decide
  have hv := h.2.2.1
  have l36 : pp.length ≤ 36000 := hv.2.1
  refine ev_up (fun n => e_X11_paper_0) ?_
  unfold b_X11_paper_0
  refine ev_gg (hp) ?_
  refine ev_ite (fun z => ?_) (fun z => ?_)
  · exact ev_ret ⟨by rw [if_neg (by omega)], rfl⟩
  refine ev_gg (by first | omega | (constructor <;> omega)) ?_
  refine ev_gcr (s9_length g26 hv) ?_
  refine ev_gg (by first | omega | (constructor <;> omega)) ?_
  refine ev_ite (fun z1 => ?_) (fun z1 => ?_)
  · rw [if_pos (show 0 ≤ p ∧ p < (pp.length : Int) by omega)]
    refine ev_gg (hn) ?_
    refine ev_ite (fun z2 => ?_) (fun z2 => ?_)
    · exact ev_ret ⟨by rw [if_neg (by omega)], rfl⟩
    refine ev_ite (fun z3 => ?_) (fun z3 => ?_)
    · exact ev_ret ⟨by rw [if_neg (by omega)], rfl⟩
    refine ev_gcr (s9_length g26 hv) ?_
    refine ev_gv ?_
    refine ev_gg (by first | omega | (constructor <;> omega)) ?_
    refine ev_ite (fun z4 => ?_) (fun z4 => ?_)
    · rw [if_pos (show 1 ≤ n ∧ n ≤ 7 ∧ n ≤ (pp.length : Int) - p by omega)]
      obtain ⟨p, rfl⟩ : ∃ j : Nat, p = (j : Int) := ⟨p.toNat, by omega⟩
      obtain ⟨n, rfl⟩ : ∃ j : Nat, n = (j : Int) := ⟨n.toNat, by omega⟩
      rw [Int.toNat_natCast, Int.toNat_natCast]
      have b7 : ∀ k, k ≤ 7 → b256 k ≤ 72057594037927936 := fun k hk => by
        rcases (show k = 0 ∨ k = 1 ∨ k = 2 ∨ k = 3 ∨ k = 4 ∨ k = 5 ∨ k = 6 ∨ k = 7 by omega) with rfl | rfl | rfl | rfl | rfl | rfl | rfl | rfl <;> decide
      have lp : ∀ (t u : Nat) (x : Int), u + t = n → 0 ≤ x ∧ x < b256 u → Rd (fun m => f_X11_paper m d 60 S [(p : Int), (n : Int), x, (u : Int)]) (ppN pp t (p + u) x) S := by
        intro t
        induction t with
        | zero =>
          intro u x hu hx
          have := b7 u (by omega)
          refine ev_up (fun n => e_X11_paper_60) ?_
          unfold b_X11_paper_60
          refine ev_gg (by first | omega | (constructor <;> omega)) ?_
          refine ev_gg (by first | omega | (constructor <;> omega)) ?_
          refine ev_ite (fun _ => ?_) (fun z => by omega)
          refine ev_gg (by omega) ?_
          exact ev_ret ⟨rfl, rfl⟩
        | succ t ih =>
          intro u x hu hx
          have pr := hb _ (getD_in (q := pp) (t := p + u) (by omega))
          have e : atD pp ((p : Int) + (u : Int)) = pp.getD (p + u) 0 := by
            rw [show (p : Int) + (u : Int) = ((p + u : Nat) : Int) by omega, atD_nat (by omega)]
          refine ev_up (fun n => e_X11_paper_60) ?_
          unfold b_X11_paper_60
          refine ev_gg (by first | omega | (constructor <;> omega)) ?_
          refine ev_gg (by first | omega | (constructor <;> omega)) ?_
          refine ev_ite (fun z => by omega) (fun _ => ?_)
          refine ev_gv ?_
          refine ev_gv ?_
          refine ev_gg (by first | omega | (constructor <;> omega)) ?_
          refine ev_gcr (s9_at (i := (p : Int) + (u : Int)) g26 hv (by constructor <;> omega)) ?_
          rw [e]
          refine ev_gg (by first | omega | (constructor <;> omega)) ?_
          refine ev_gv ?_
          refine ev_gv ?_
          rw [show (u : Int) + 1 = ((u + 1 : Nat) : Int) by omega, show x * 256 + pp.getD (p + u) 0 = 256 * x + pp.getD (p + u) 0 by omega]
          have b1 : b256 (u + 1) = 256 * b256 u := rfl
          exact ih (u + 1) _ (by omega) (by constructor <;> omega)
      exact lp n 0 0 (by omega) (by decide)
    · exact ev_ret ⟨by rw [if_neg (by omega)], rfl⟩
  · exact ev_ret ⟨by rw [if_neg (by omega)], rfl⟩
end CPS
