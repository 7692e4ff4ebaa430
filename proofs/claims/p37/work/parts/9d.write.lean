/-! write, of the class -/
def ltr (a : Int) (i : Nat) : Int := a % 18446744073709551616 / ((2 ^ (8 * i) : Nat) : Int) % 256
/-- a sign that may be written -/
abbrev okS (x : Int) : Prop := x = 10 ∨ (32 ≤ x ∧ x ≤ 126)
def alS (a : Int) : Nat → Nat → Int
  | 0, _ => 1
  | f + 1, t => if okS (ltr a t) then alS a f (t + 1) else 0
def wrD (a : Int) : Nat → List Int
  | 0 => []
  | k + 1 => ltr a k :: wrD a k
theorem ltr_r (a : Int) (i : Nat) : 0 ≤ ltr a i ∧ ltr a i < 256 := by
  unfold ltr
  omega
theorem wrD_len (a : Int) : ∀ k, (wrD a k).length = k
  | 0 => rfl
  | k + 1 => by
    show (wrD a k).length + 1 = _
    rw [wrD_len a k]
section WRT
variable {S S0 : GS} {d : Nat} {l : List Int}
theorem t_letterAt {a : Int} {i : Nat} (hi : i < 8) : Rd (fun n => f_X11_letterAt n d 0 S [a, (i : Int)]) (ltr a i) S := by
  have e : (8 * (i : Int)).toNat = 8 * i := by omega
  refine ev_up (fun n => e_X11_letterAt_0) ?_
  unfold b_X11_letterAt_0
  refine ev_gv ?_
  refine ev_gg (by omega) ?_
  rw [e]
  refine ev_gv ?_
  refine ev_gv ?_
  exact ev_ret ⟨rfl, rfl⟩
theorem areS_21 {a : Int} {n : Nat} (hd : 1 ≤ d) (hn : n ≤ 8) : ∀ (f t : Nat), t + f = n → Rd (fun m => f_X11_areSigns m d 21 S [(n : Int), a, (t : Int)]) (alS a f t) S := by
  intro f
  induction f with
  | zero =>
    intro t ht
    refine ev_up (fun n => e_X11_areSigns_21) ?_
    unfold b_X11_areSigns_21
    repeat' (first
      | with_reducible refine ev_gv ?_
      | with_reducible refine ev_gg ?_ ?_
      | with_reducible refine ev_ite (fun _ => ?_) (fun _ => ?_)
      | omega
      | assumption)
    exact ev_ret ⟨rfl, rfl⟩
  | succ f ih =>
    intro t ht
    have r := ltr_r a t
    have k := ih (t + 1) (by omega)
    unfold alS
    by_cases h : okS (ltr a t)
    · rw [if_pos h]
      unfold okS at h
      refine ev_up (fun n => e_X11_areSigns_21) ?_
      unfold b_X11_areSigns_21
      repeat' (first
        | with_reducible refine ev_gv ?_
        | with_reducible refine ev_gg ?_ ?_
        | with_reducible refine ev_ite (fun _ => ?_) (fun _ => ?_)
        | refine ev_gcr (t_letterAt (a := a) (i := t) (by omega)) ?_
        | omega
        | assumption)
      all_goals exact k
    · rw [if_neg h]
      unfold okS at h
      refine ev_up (fun n => e_X11_areSigns_21) ?_
      unfold b_X11_areSigns_21
      repeat' (first
        | with_reducible refine ev_gv ?_
        | with_reducible refine ev_gg ?_ ?_
        | with_reducible refine ev_ite (fun _ => ?_) (fun _ => ?_)
        | refine ev_gcr (t_letterAt (a := a) (i := t) (by omega)) ?_
        | omega
        | assumption)
      all_goals exact ev_ret ⟨rfl, rfl⟩
theorem write_55 {a : Int} (hd : 1 ≤ d) : ∀ (k : Nat) (S : GS) (l : List Int), k ≤ 8 → SX 424 S0 l S → l.length + k ≤ 400 → Ev (fun n => f_X11_write n d 55 S [a, (k : Int) - 1]) (fun x S1 => x = (l.length : Int) + k ∧ SX 424 S0 (l ++ wrD a k) S1) := by
  have ex : exB = 18446744073709551616 := rfl
  have hs : gSh 424 := by decide
  intro k
  induction k with
  | zero =>
    intro S l hk h hr
    have e : wrD a 0 = [] := rfl
    rw [e, List.append_nil]
    refine ev_up (fun n => e_X11_write_55) ?_
    unfold b_X11_write_55
    repeat' (first
      | with_reducible refine ev_gv ?_
      | with_reducible refine ev_gg ?_ ?_
      | with_reducible refine ev_ite (fun _ => ?_) (fun _ => ?_)
      | refine ev_gcr (s9_length hs h.1) ?_
      | omega
      | assumption)
    exact ev_ret ⟨by omega, h⟩
  | succ k ih =>
    intro S l hk h hr
    have r := ltr_r a k
    have e : ((k + 1 : Nat) : Int) - 1 = (k : Int) := by omega
    rw [e]
    refine ev_up (fun n => e_X11_write_55) ?_
    unfold b_X11_write_55
    repeat' (first
      | with_reducible refine ev_gv ?_
      | with_reducible refine ev_gg ?_ ?_
      | with_reducible refine ev_ite (fun _ => ?_) (fun _ => ?_)
      | refine ev_gcr (t_letterAt (a := a) (i := k) (by omega)) ?_
      | omega
      | assumption)
    refine ev_gc (sx_add hs h (by omega) (by show l.length < 400; omega)) (fun _ S1 h1 => ?_)
    refine ev_gv ?_
    have kk := ih S1 _ (by omega) h1 (by simp; omega)
    refine ev_mono kk (fun x S2 q => ⟨?_, ?_⟩)
    · rw [q.1]
      simp
      omega
    · have e2 : l ++ wrD a (k + 1) = l ++ [ltr a k] ++ wrD a k := by
        show l ++ (ltr a k :: wrD a k) = _
        simp
      rw [e2]
      exact q.2
end WRT
