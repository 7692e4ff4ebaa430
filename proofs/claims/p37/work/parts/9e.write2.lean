/-! write, of the class: whole -/
def asL (n : Nat) (a : Int) : Int := if n < 8 ∧ a % 18446744073709551616 / ((2 ^ (8 * n) : Nat) : Int) ≠ 0 then 0 else alS a n 0
theorem top_r (a : Int) {n : Nat} (h1 : 1 ≤ n) (h8 : n < 8) : 0 ≤ a % 18446744073709551616 / ((2 ^ (8 * n) : Nat) : Int) ∧ a % 18446744073709551616 / ((2 ^ (8 * n) : Nat) : Int) < 72057594037927936 := by
  rcases (show n = 1 ∨ n = 2 ∨ n = 3 ∨ n = 4 ∨ n = 5 ∨ n = 6 ∨ n = 7 by omega) with rfl | rfl | rfl | rfl | rfl | rfl | rfl
  · rw [show ((2 ^ (8 * 1) : Nat) : Int) = 256 from rfl]; omega
  · rw [show ((2 ^ (8 * 2) : Nat) : Int) = 65536 from rfl]; omega
  · rw [show ((2 ^ (8 * 3) : Nat) : Int) = 16777216 from rfl]; omega
  · rw [show ((2 ^ (8 * 4) : Nat) : Int) = 4294967296 from rfl]; omega
  · rw [show ((2 ^ (8 * 5) : Nat) : Int) = 1099511627776 from rfl]; omega
  · rw [show ((2 ^ (8 * 6) : Nat) : Int) = 281474976710656 from rfl]; omega
  · rw [show ((2 ^ (8 * 7) : Nat) : Int) = 72057594037927936 from rfl]; omega
section WR2
variable {S S0 : GS} {d : Nat} {l : List Int}
theorem t_areSigns {a : Int} {n : Nat} (hd : 1 ≤ d) (h1 : 1 ≤ n) (h8 : n ≤ 8) : Rd (fun m => f_X11_areSigns m d 0 S [(n : Int), a]) (asL n a) S := by
  have k := areS_21 (S := S) (d := d) (a := a) (n := n) hd h8 n 0 (by omega)
  unfold asL
  by_cases h : n < 8
  · have r := top_r a h1 h
    have e : (8 * (n : Int)).toNat = 8 * n := by omega
    by_cases q : a % 18446744073709551616 / ((2 ^ (8 * n) : Nat) : Int) = 0
    · rw [if_neg (fun z => z.2 q)]
      refine ev_up (fun n => e_X11_areSigns_0) ?_
      unfold b_X11_areSigns_0
      refine ev_gg (by constructor <;> omega) ?_
      refine ev_ite (fun z => by omega) (fun _ => ?_)
      refine ev_gv ?_
      refine ev_gg (by omega) ?_
      rw [e]
      refine ev_gv ?_
      refine ev_gg (by constructor <;> omega) ?_
      refine ev_gv ?_
      rw [q]
      refine ev_gg (by decide) ?_
      refine ev_ite (fun _ => ?_) (fun z => absurd (by decide) z)
      exact k
    · rw [if_pos ⟨h, q⟩]
      refine ev_up (fun n => e_X11_areSigns_0) ?_
      unfold b_X11_areSigns_0
      refine ev_gg (by constructor <;> omega) ?_
      refine ev_ite (fun z => by omega) (fun _ => ?_)
      refine ev_gv ?_
      refine ev_gg (by omega) ?_
      rw [e]
      refine ev_gv ?_
      refine ev_gg (by constructor <;> omega) ?_
      refine ev_gv ?_
      have el : lsg (a % 18446744073709551616 / ((2 ^ (8 * n) : Nat) : Int)) 0 = 1 := if_pos (by omega)
      rw [el]
      refine ev_gg (by decide) ?_
      refine ev_ite (fun z => absurd z (by decide)) (fun _ => ?_)
      exact ev_ret ⟨rfl, rfl⟩
  · rw [if_neg (fun z => h z.1)]
    refine ev_up (fun n => e_X11_areSigns_0) ?_
    unfold b_X11_areSigns_0
    repeat' (first
      | with_reducible refine ev_gv ?_
      | with_reducible refine ev_gg ?_ ?_
      | with_reducible refine ev_ite (fun _ => ?_) (fun _ => ?_)
      | omega
      | assumption)
    all_goals exact k
theorem alS_r (a : Int) : ∀ f t, alS a f t = 0 ∨ alS a f t = 1
  | 0, _ => Or.inr rfl
  | f + 1, t => by
    unfold alS
    split
    · exact alS_r a f _
    · exact Or.inl rfl
theorem asL_r (n : Nat) (a : Int) : asL n a = 0 ∨ asL n a = 1 := by
  unfold asL
  split
  · exact Or.inl rfl
  · exact alS_r a n 0
theorem t_write {a n : Int} (hd : 3 ≤ d) (hn : inr n) (h : SX 424 S0 l S) (hl : l.length ≤ 400) : Ev (fun m => f_X11_write m d 0 S [n, a]) (fun x S1 => if 1 ≤ n ∧ n ≤ 8 ∧ asL n.toNat a = 1 then (if (l.length : Int) + n ≤ 400 then x = (l.length : Int) + n ∧ SX 424 S0 (l ++ wrD a n.toNat) S1 else x = exB + 2 ∧ S1 = S) else x = exB + 1 ∧ S1 = S) := by
  have hs : gSh 424 := by decide
  by_cases hin : 1 ≤ n ∧ n ≤ 8
  · obtain ⟨k, rfl⟩ : ∃ k : Nat, n = (k : Int) := ⟨n.toNat, by omega⟩
    have ar := t_areSigns (S := S) (d := d - 1) (a := a) (n := k) (by omega) (by omega) (by omega)
    have rr := asL_r k a
    simp only [Int.toNat_natCast]
    by_cases q : asL k a = 1
    · simp only [if_pos (show 1 ≤ (k : Int) ∧ (k : Int) ≤ 8 ∧ asL k a = 1 from ⟨hin.1, hin.2, q⟩)]
      by_cases r : (l.length : Int) + k ≤ 400
      · simp only [if_pos r]
        have kk := write_55 (d := d) (a := a) (by omega) k S l (by omega) h (by omega)
        refine ev_up (fun n => e_X11_write_0) ?_
        unfold b_X11_write_0
        repeat' (first
          | with_reducible refine ev_gv ?_
          | with_reducible refine ev_gg ?_ ?_
          | with_reducible refine ev_ite (fun _ => ?_) (fun _ => ?_)
          | refine ev_gcr (ar) ?_
          | refine ev_gcr (s9_length hs h.1) ?_
          | omega
          | assumption)
        all_goals exact kk
      · simp only [if_neg r]
        refine ev_up (fun n => e_X11_write_0) ?_
        unfold b_X11_write_0
        repeat' (first
          | with_reducible refine ev_gv ?_
          | with_reducible refine ev_gg ?_ ?_
          | with_reducible refine ev_ite (fun _ => ?_) (fun _ => ?_)
          | refine ev_gcr (ar) ?_
          | refine ev_gcr (s9_length hs h.1) ?_
          | omega
          | assumption)
        all_goals exact ev_ret ⟨rfl, rfl⟩
    · simp only [if_neg (show ¬ (1 ≤ (k : Int) ∧ (k : Int) ≤ 8 ∧ asL k a = 1) from fun z => q z.2.2)]
      refine ev_up (fun n => e_X11_write_0) ?_
      unfold b_X11_write_0
      repeat' (first
        | with_reducible refine ev_gv ?_
        | with_reducible refine ev_gg ?_ ?_
        | with_reducible refine ev_ite (fun _ => ?_) (fun _ => ?_)
        | refine ev_gcr (ar) ?_
        | omega
        | assumption)
      all_goals exact ev_ret ⟨rfl, rfl⟩
  · simp only [if_neg (show ¬ (1 ≤ n ∧ n ≤ 8 ∧ asL n.toNat a = 1) from fun z => hin ⟨z.1, z.2.1⟩)]
    refine ev_up (fun n => e_X11_write_0) ?_
    unfold b_X11_write_0
    repeat' (first
      | with_reducible refine ev_gv ?_
      | with_reducible refine ev_gg ?_ ?_
      | with_reducible refine ev_ite (fun _ => ?_) (fun _ => ?_)
      | omega
      | assumption)
    all_goals exact ev_ret ⟨rfl, rfl⟩
end WR2
