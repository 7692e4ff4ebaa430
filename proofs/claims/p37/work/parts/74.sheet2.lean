/-! SHEETS, more -/
/-- a String constant, by its signs -/
def sx (i : Nat) : List Int := (List.range (xlen.getD i 0)).map (fun j => xch i j)
theorem sx_len (i : Nat) : (sx i).length = xlen.getD i 0 := by simp [sx]
theorem xch_rng : ∀ i, i < 54 → ∀ j, j < xlen.getD i 0 → 0 ≤ xch i j ∧ xch i j < 128 := by decide +kernel
theorem sx_at {i j : Nat} (hj : j < xlen.getD i 0) : (sx i).getD j 0 = xch i j := by
  unfold sx
  rw [List.getD_eq_getElem?_getD, List.getElem?_map, List.getElem?_range hj]
  rfl
theorem drop_one {l : List Int} {i : Nat} (h : i < l.length) : l.drop i = l.getD i 0 :: l.drop (i + 1) := by
  rw [List.drop_eq_getElem_cons h, List.getD_eq_getElem?_getD, List.getElem?_eq_getElem h]
  rfl
section SH2
variable {S : GS} {c d : Nat} {l : List Int}
theorem addAll_2 {t : Nat} (hc : gSh c) (ht : t < 54) (hd : 5 ≤ d) : ∀ (m i : Nat) (S : GS) (l : List Int), xlen.getD t 0 - i ≤ m → i ≤ xlen.getD t 0 → Good S → SV S c l → l.length + (xlen.getD t 0 - i) ≤ g_room (c + 1) → Ev (fun n => f_X9_addAll n d 2 S [((c : Nat) : Int), ((t : Nat) : Int), (i : Int)]) (fun _ S1 => SV S1 c (l ++ (sx t).drop i) ∧ Fr (shM c) S S1 ∧ Good S1) := by
  have hlen : xlen.getD t 0 ≤ 200 := by
    have : ∀ t, t < 54 → xlen.getD t 0 ≤ 200 := by decide +kernel
    exact this t ht
  intro m
  induction m with
  | zero =>
    intro i S l h1 h2 hG hv hr
    refine ev_up (fun n => e_X9_addAll_2) ?_
    unfold b_X9_addAll_2
    repeat' (first
      | with_reducible refine ev_gvi (fun _ _ => ?_)
      | with_reducible refine ev_gv ?_
      | with_reducible refine ev_gg ?_ ?_
      | with_reducible refine ev_ite (fun _ => ?_) (fun _ => ?_)
      | omega
      | assumption)
    refine ev_ret ⟨?_, fr_rf, hG⟩
    rw [List.drop_eq_nil_of_le (by rw [sx_len]; omega), List.append_nil]
    exact hv
  | succ m ih =>
    intro i S l h1 h2 hG hv hr
    by_cases hi : i < xlen.getD t 0
    · have hx := xch_rng t ht i hi
      refine ev_up (fun n => e_X9_addAll_2) ?_
      unfold b_X9_addAll_2
      simp only [Int.toNat_natCast]
      repeat' (first
        | with_reducible refine ev_gvi (fun _ _ => ?_)
        | with_reducible refine ev_gv ?_
        | with_reducible refine ev_gg ?_ ?_
        | with_reducible refine ev_ite (fun _ => ?_) (fun _ => ?_)
        | omega
        | assumption)
      rename_i x hx9
      subst hx9
      refine ev_gc (s9_add hc hG hv (by omega) (by omega)) (fun _ S1 hq => ?_)
      obtain ⟨q1, q2, q3⟩ := hq
      refine ev_gv ?_
      refine ev_mono (ih (i + 1) S1 _ (by omega) (by omega) q3 q1 (by simp only [List.length_append, List.length_cons, List.length_nil]; omega)) (fun _ S2 hq => ?_)
      obtain ⟨r1, r2, r3⟩ := hq
      refine ⟨?_, fr_tr q2 r2, r3⟩
      rw [drop_one (by rw [sx_len]; exact hi), sx_at hi]
      simpa using r1
    · refine ev_up (fun n => e_X9_addAll_2) ?_
      unfold b_X9_addAll_2
      repeat' (first
        | with_reducible refine ev_gvi (fun _ _ => ?_)
        | with_reducible refine ev_gv ?_
        | with_reducible refine ev_gg ?_ ?_
        | with_reducible refine ev_ite (fun _ => ?_) (fun _ => ?_)
        | omega
        | assumption)
      refine ev_ret ⟨?_, fr_rf, hG⟩
      rw [List.drop_eq_nil_of_le (by rw [sx_len]; omega), List.append_nil]
      exact hv
theorem s9_addAll {t : Nat} (hc : gSh c) (ht : t < 54) (hd : 5 ≤ d) (hG : Good S) (hv : SV S c l) (hr : l.length + (sx t).length ≤ g_room (c + 1)) : Ev (fun n => f_X9_addAll n d 0 S [((c : Nat) : Int), ((t : Nat) : Int)]) (fun _ S1 => SV S1 c (l ++ sx t) ∧ Fr (shM c) S S1 ∧ Good S1) := by
  rw [sx_len] at hr
  refine ev_up (fun n => e_X9_addAll_0) ?_
  unfold b_X9_addAll_0
  exact addAll_2 hc ht hd _ 0 S l (Nat.le_refl _) (Nat.zero_le _) hG hv (by omega)
end SH2
section SH3
variable {S : GS} {c d : Nat} {l : List Int}
/-- a sign of a TEXT as it is written -/
def hexS (v : Int) : Int := if v < 10 then 48 + v else 87 + v
def wsign (x : Int) : List Int := if 32 ≤ x ∧ x ≤ 126 then (if x = 34 ∨ x = 92 then [92, x] else [x]) else [92, 117, 48, 48, hexS (x / 16 % 16), hexS (x % 16)]
/-- a sheet since a state: its signs, nothing else has changed -/
def SX (c : Nat) (S0 : GS) (l : List Int) (S : GS) : Prop := SV S c l ∧ Fr (shM c) S0 S ∧ Good S
theorem sx_rf (hG : Good S) (hv : SV S c l) : SX c S l S := ⟨hv, fr_rf, hG⟩
theorem sx_add {S0 : GS} {x : Int} (hc : gSh c) (h : SX c S0 l S) (hx : 0 ≤ x ∧ x < 65536) (hr : l.length < g_room (c + 1)) : Ev (fun n => f_X9_add n d 0 S [((c : Nat) : Int), x]) (fun _ S1 => SX c S0 (l ++ [x]) S1) :=
  ev_mono (s9_add hc h.2.2 h.1 hx hr) (fun _ _ q => ⟨q.1, fr_tr h.2.1 q.2.1, q.2.2⟩)
theorem hexS_r {v : Int} (h : 0 ≤ v ∧ v < 16) : 0 ≤ hexS v ∧ hexS v < 65536 := by
  unfold hexS
  split <;> omega
theorem addW_96 {S0 : GS} {x y : Int} (hc : gSh c) (hd : 1 ≤ d) (h : SX c S0 l S) (hx : 0 ≤ x ∧ x < 256) (hy : 0 ≤ y ∧ y < 65536) (hr : l.length + 2 ≤ g_room (c + 1)) : Ev (fun n => f_X9_addWritten n d 96 S [((c : Nat) : Int), x, y, ((c : Nat) : Int)]) (fun _ S1 => SX c S0 (l ++ [y, hexS (x % 16)]) S1) := by
  refine ev_up (fun n => e_X9_addWritten_96) ?_
  unfold b_X9_addWritten_96
  refine ev_gg hd ?_
  refine ev_gg hc ?_
  refine ev_gc (sx_add hc h hy (by omega)) (fun _ S h => ?_)
  have hx2 : 0 ≤ x % 16 ∧ x % 16 < 16 := by omega
  repeat' (first
    | with_reducible refine ev_gv ?_
    | with_reducible refine ev_gg ?_ ?_
    | with_reducible refine ev_ite (fun _ => ?_) (fun _ => ?_)
    | omega
    | assumption)
  · refine ev_gc (sx_add hc h (by omega) (by simp; omega)) (fun _ S h => ?_)
    refine ev_ret ?_
    unfold hexS
    rw [if_neg (by omega)]
    simpa using h
  · refine ev_gc (sx_add hc h (by omega) (by simp; omega)) (fun _ S h => ?_)
    refine ev_ret ?_
    unfold hexS
    rw [if_pos (by omega)]
    simpa using h
theorem addW_36 {S0 : GS} {x : Int} (hc : gSh c) (hd : 2 ≤ d) (h : SX c S0 l S) (hx : 0 ≤ x ∧ x < 256) (hr : l.length + 6 ≤ g_room (c + 1)) : Ev (fun n => f_X9_addWritten n d 36 S [((c : Nat) : Int), x]) (fun _ S1 => SX c S0 (l ++ [92, 117, 48, 48, hexS (x / 16 % 16), hexS (x % 16)]) S1) := by
  refine ev_up (fun n => e_X9_addWritten_36) ?_
  unfold b_X9_addWritten_36
  refine ev_gg (by omega) ?_
  refine ev_gg hc ?_
  refine ev_gc (sx_add hc h (by decide) (by omega)) (fun _ S h => ?_)
  refine ev_gc (sx_add hc h (by decide) (by simp; omega)) (fun _ S h => ?_)
  refine ev_gc (sx_add hc h (by decide) (by simp; omega)) (fun _ S h => ?_)
  refine ev_gc (sx_add hc h (by decide) (by simp; omega)) (fun _ S h => ?_)
  have hy := hexS_r (v := x / 16 % 16) (by omega)
  have k := addW_96 (d := d) (x := x) (y := hexS (x / 16 % 16)) hc (by omega) h hx hy (by simp; omega)
  simp only [List.append_assoc, List.cons_append, List.nil_append] at k
  have hx2 : 0 ≤ x / 16 % 16 ∧ x / 16 % 16 < 16 := by omega
  repeat' (first
    | with_reducible refine ev_gv ?_
    | with_reducible refine ev_gg ?_ ?_
    | with_reducible refine ev_ite (fun _ => ?_) (fun _ => ?_)
    | omega
    | assumption)
  · rw [show hexS (x / 16 % 16) = _ from if_neg (by omega)] at k ⊢
    exact k
  · rw [show hexS (x / 16 % 16) = _ from if_pos (by omega)] at k ⊢
    exact k
end SH3
