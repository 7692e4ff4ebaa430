/-! SHEETS, the rest -/
section SH4
variable {S S0 : GS} {c d : Nat} {l : List Int}
theorem s9_addWritten {x : Int} (hc : gSh c) (hd : 2 ≤ d) (h : SX c S0 l S) (hx : 0 ≤ x ∧ x < 256) (hr : l.length + (wsign x).length ≤ g_room (c + 1)) : Ev (fun n => f_X9_addWritten n d 0 S [((c : Nat) : Int), x]) (fun _ S1 => SX c S0 (l ++ wsign x) S1) := by
  unfold wsign at hr ⊢
  by_cases h1 : 32 ≤ x ∧ x ≤ 126
  · rw [if_pos h1] at hr ⊢
    by_cases h2 : x = 34 ∨ x = 92
    · rw [if_pos h2] at hr ⊢
      simp at hr
      refine ev_up (fun n => e_X9_addWritten_0) ?_
      unfold b_X9_addWritten_0
      repeat' (first
        | with_reducible refine ev_gv ?_
        | with_reducible refine ev_gg ?_ ?_
        | with_reducible refine ev_ite (fun _ => ?_) (fun _ => ?_)
        | omega
        | assumption)
      · refine ev_gc (sx_add hc h (by decide) (by omega)) (fun _ S h => ?_)
        refine ev_gc (sx_add hc h (by omega) (by simp; omega)) (fun _ S h => ?_)
        exact ev_ret (by simpa using h)
      · refine ev_gc (sx_add hc h (by decide) (by omega)) (fun _ S h => ?_)
        refine ev_gc (sx_add hc h (by omega) (by simp; omega)) (fun _ S h => ?_)
        exact ev_ret (by simpa using h)
    · rw [if_neg h2] at hr ⊢
      simp at hr
      refine ev_up (fun n => e_X9_addWritten_0) ?_
      unfold b_X9_addWritten_0
      repeat' (first
        | with_reducible refine ev_gv ?_
        | with_reducible refine ev_gg ?_ ?_
        | with_reducible refine ev_ite (fun _ => ?_) (fun _ => ?_)
        | omega
        | assumption)
      refine ev_gc (sx_add hc h (by omega) (by omega)) (fun _ S h => ?_)
      exact ev_ret h
  · rw [if_neg h1] at hr ⊢
    simp at hr
    refine ev_up (fun n => e_X9_addWritten_0) ?_
    unfold b_X9_addWritten_0
    repeat' (first
      | with_reducible refine ev_gv ?_
      | with_reducible refine ev_gg ?_ ?_
      | with_reducible refine ev_ite (fun _ => ?_) (fun _ => ?_)
      | omega
      | assumption)
    all_goals exact addW_36 hc hd h hx (by omega)
/-- a whole number as it is written, up to 999 -/
def wnum (x : Int) : List Int := (if x < 0 then [45] else []) ++ (if 99 < max x (-x) then [48 + max x (-x) / 100 % 10] else []) ++ (if 9 < max x (-x) then [48 + max x (-x) / 10 % 10] else []) ++ [48 + max x (-x) % 10]
theorem addN_55 {x : Int} (hc : gSh c) (hd : 1 ≤ d) (h : SX c S0 l S) (hx : 0 ≤ x ∧ x < 1000) (hr : l.length + 1 ≤ g_room (c + 1)) : Ev (fun n => f_X9_addNumber n d 55 S [((c : Nat) : Int), x]) (fun _ S1 => SX c S0 (l ++ [48 + x % 10]) S1) := by
  refine ev_up (fun n => e_X9_addNumber_55) ?_
  unfold b_X9_addNumber_55
  repeat' (first
    | with_reducible refine ev_gv ?_
    | with_reducible refine ev_gg ?_ ?_
    | with_reducible refine ev_ite (fun _ => ?_) (fun _ => ?_)
    | omega
    | assumption)
  refine ev_gc (sx_add hc h (by omega) (by omega)) (fun _ S h => ?_)
  exact ev_ret h
theorem addN_35 {x : Int} (hc : gSh c) (hd : 1 ≤ d) (h : SX c S0 l S) (hx : 0 ≤ x ∧ x < 1000) (hr : l.length + 2 ≤ g_room (c + 1)) : Ev (fun n => f_X9_addNumber n d 35 S [((c : Nat) : Int), x]) (fun _ S1 => SX c S0 (l ++ ((if 9 < x then [48 + x / 10 % 10] else []) ++ [48 + x % 10])) S1) := by
  refine ev_up (fun n => e_X9_addNumber_35) ?_
  unfold b_X9_addNumber_35
  repeat' (first
    | with_reducible refine ev_gv ?_
    | with_reducible refine ev_gg ?_ ?_
    | with_reducible refine ev_ite (fun _ => ?_) (fun _ => ?_)
    | omega
    | assumption)
  · rw [if_neg (by omega)]
    exact addN_55 hc hd h hx (by omega)
  · rw [if_pos (by omega)]
    refine ev_gc (sx_add hc h (by omega) (by omega)) (fun _ S h => ?_)
    have k := addN_55 (d := d) hc hd h hx (by simp; omega)
    simpa using k
theorem addN_15 {x : Int} (hc : gSh c) (hd : 1 ≤ d) (h : SX c S0 l S) (hx : 0 ≤ x ∧ x < 1000) (hr : l.length + 3 ≤ g_room (c + 1)) : Ev (fun n => f_X9_addNumber n d 15 S [((c : Nat) : Int), x]) (fun _ S1 => SX c S0 (l ++ ((if 99 < x then [48 + x / 100 % 10] else []) ++ ((if 9 < x then [48 + x / 10 % 10] else []) ++ [48 + x % 10]))) S1) := by
  refine ev_up (fun n => e_X9_addNumber_15) ?_
  unfold b_X9_addNumber_15
  repeat' (first
    | with_reducible refine ev_gv ?_
    | with_reducible refine ev_gg ?_ ?_
    | with_reducible refine ev_ite (fun _ => ?_) (fun _ => ?_)
    | omega
    | assumption)
  · rw [if_neg (by omega)]
    exact addN_35 hc hd h hx (by omega)
  · rw [if_pos (by omega)]
    refine ev_gc (sx_add hc h (by omega) (by omega)) (fun _ S h => ?_)
    have k := addN_35 (d := d) hc hd h hx (by simp; omega)
    simpa using k
theorem s9_addNumber {x : Int} (hc : gSh c) (hd : 1 ≤ d) (h : SX c S0 l S) (hx : -1000 < x ∧ x < 1000) (hr : l.length + 4 ≤ g_room (c + 1)) : Ev (fun n => f_X9_addNumber n d 0 S [((c : Nat) : Int), x]) (fun _ S1 => SX c S0 (l ++ wnum x) S1) := by
  unfold wnum
  refine ev_up (fun n => e_X9_addNumber_0) ?_
  unfold b_X9_addNumber_0
  repeat' (first
    | with_reducible refine ev_gv ?_
    | with_reducible refine ev_gg ?_ ?_
    | with_reducible refine ev_ite (fun _ => ?_) (fun _ => ?_)
    | omega
    | assumption)
  · rw [if_neg (by omega)]
    have k := addN_15 (d := d) (x := max x (-x)) hc hd h (by omega) (by omega)
    simpa using k
  · rw [if_pos (by omega)]
    refine ev_gc (sx_add hc h (by omega) (by omega)) (fun _ S h => ?_)
    have k := addN_15 (d := d) (x := max x (-x)) hc hd h (by omega) (by simp; omega)
    simpa using k
theorem sv_clear (hG : Good S) : SX c S [] (gI S c 1 0) := ⟨⟨gI_a, Nat.zero_le _, fun i hi => absurd hi (Nat.not_lt_zero i), fun x hx => by cases hx⟩, fr_gI (Or.inl rfl), good_gI hG (by decide) (fun _ => by decide)⟩
theorem sx_clear (hc : gSh c) (hG : Good S) : Ev (fun n => f_X9_clear n d 0 S [((c : Nat) : Int)]) (fun _ S1 => SX c S [] S1) := by
  refine ev_up (fun n => e_X9_clear_0) ?_
  unfold b_X9_clear_0
  repeat' (first
    | with_reducible refine ev_gv ?_
    | with_reducible refine ev_gg ?_ ?_
    | with_reducible refine ev_ite (fun _ => ?_) (fun _ => ?_)
    | omega
    | assumption)
  exact ev_ret (sv_clear hG)
theorem s9_shorten {k : Nat} (hc : gSh c) (h : SX c S0 l S) (hk : k ≤ l.length) : Ev (fun n => f_X9_shorten n d 0 S [((c : Nat) : Int), (k : Int)]) (fun _ S1 => SX c S0 (l.take k) S1) := by
  have h1 := h.1.1
  have h2 := sv_le h.1
  obtain ⟨⟨v1, v2, v3, v4⟩, hf, hG⟩ := h
  refine ev_up (fun n => e_X9_shorten_0) ?_
  unfold b_X9_shorten_0
  repeat' (first
    | with_reducible refine ev_gv ?_
    | with_reducible refine ev_gg ?_ ?_
    | with_reducible refine ev_ite (fun _ => ?_) (fun _ => ?_)
    | omega
    | assumption)
  · refine ev_ret ⟨⟨?_, ?_, fun i hi => ?_, fun x hx => v4 x (List.mem_of_mem_take hx)⟩, hf, hG⟩
    · rw [v1, List.length_take]; omega
    · rw [List.length_take]; omega
    · rw [List.length_take] at hi
      rw [v3 i (by omega), List.getD_eq_getElem?_getD, List.getD_eq_getElem?_getD, List.getElem?_take, if_pos (by omega)]
  · refine ev_ret ⟨⟨?_, ?_, fun i hi => ?_, fun x hx => v4 x (List.mem_of_mem_take hx)⟩, fr_tr hf (fr_gI (Or.inl rfl)), good_gI hG (by constructor <;> omega) (fun q => by unfold isC gSh at *; omega)⟩
    · rw [gI_a, List.length_take]; omega
    · rw [List.length_take]; omega
    · rw [List.length_take] at hi
      rw [gI_c (by omega), v3 i (by omega), List.getD_eq_getElem?_getD, List.getD_eq_getElem?_getD, List.getElem?_take, if_pos (by omega)]
theorem atD_nat {l : List Int} {i : Nat} (h : i < l.length) : atD l (i : Int) = l.getD i 0 := by
  unfold atD
  rw [if_pos (by omega), Int.toNat_natCast]
theorem atD_no {l : List Int} {i : Int} (h : i < 0 ∨ (l.length : Int) ≤ i) : atD l i = -1 := if_neg (by omega)
theorem sv_wb {i : Nat} (hv : SV S c l) : -1 ≤ atD l (i : Int) ∧ atD l (i : Int) < 65536 := by
  unfold atD
  split
  · have := sv_at hv (i := (i : Int).toNat) (by omega)
    omega
  · omega
/-- another sheet's part comes behind -/
theorem sh_ne {c c2 k : Nat} (hc : gSh c) (hc2 : gSh c2) (hne : c2 ≠ c) (h : k = c2 ∨ k = c2 + 1) : ¬ shM c k := by
  unfold gSh at hc hc2
  unfold shM
  omega
theorem sv_sx {c2 : Nat} {l2 : List Int} (hc : gSh c) (hc2 : gSh c2) (hne : c2 ≠ c) (hv : SV S0 c2 l2) (h : SX c S0 l S) : SV S c2 l2 := sv_fr hv h.2.1 (sh_ne hc hc2 hne (Or.inl rfl)) (sh_ne hc hc2 hne (Or.inr rfl))
theorem addP_7 {c2 : Nat} {l2 : List Int} {t : Nat} (hc : gSh c) (hc2 : gSh c2) (hne : c2 ≠ c) (hd : 1 ≤ d) (ht : t ≤ l2.length) (hv0 : SV S0 c2 l2) : ∀ (m i : Nat) (S : GS) (l : List Int), t - i < m → i ≤ 60001 → SX c S0 l S → l.length + (t - i) ≤ g_room (c + 1) → Ev (fun n => f_X9_addPart n d 7 S [((c : Nat) : Int), ((c2 : Nat) : Int), (t : Int), (i : Int)]) (fun _ S1 => SX c S0 (l ++ (l2.take t).drop i) S1) := by
  intro m
  induction m with
  | zero => intros; omega
  | succ m ih =>
    intro i S l hm hi9 h hr
    have hv := sv_sx hc hc2 hne hv0 h
    have h2 := sv_le hv
    have hlen : (l2.take t).length = t := by rw [List.length_take]; omega
    by_cases hi : i < t
    · have h3 := sv_at hv (i := i) (by omega)
      have h4 := atD_nat (l := l2) (i := i) (by omega)
      have e : (l2.take t).drop i = l2.getD i 0 :: (l2.take t).drop (i + 1) := by
        rw [drop_one (by omega), List.getD_eq_getElem?_getD, List.getElem?_take, if_pos hi, ← List.getD_eq_getElem?_getD]
      rw [e]
      refine ev_up (fun n => e_X9_addPart_7) ?_
      unfold b_X9_addPart_7
      repeat' (first
        | with_reducible refine ev_gv ?_
        | with_reducible refine ev_gg ?_ ?_
        | with_reducible refine ev_ite (fun _ => ?_) (fun _ => ?_)
        | refine ev_gcr (s9_length hc2 hv) ?_
        | refine ev_gcr (s9_at hc2 hv (by constructor <;> omega)) ?_
        | omega
        | assumption)
      rw [h4]
      refine ev_gc (sx_add hc h (by omega) (by omega)) (fun _ S1 h1 => ?_)
      refine ev_gv ?_
      have k := ih (i + 1) S1 _ (by omega) (by omega) h1 (by simp; omega)
      simpa using k
    · rw [List.drop_eq_nil_of_le (by omega), List.append_nil]
      refine ev_up (fun n => e_X9_addPart_7) ?_
      unfold b_X9_addPart_7
      repeat' (first
        | with_reducible refine ev_gv ?_
        | with_reducible refine ev_gg ?_ ?_
        | with_reducible refine ev_ite (fun _ => ?_) (fun _ => ?_)
        | refine ev_gcr (s9_length hc2 hv) ?_
        | omega
        | assumption)
      exact ev_ret h
theorem s9_addPart {c2 : Nat} {l2 : List Int} {i t : Nat} (hc : gSh c) (hc2 : gSh c2) (hne : c2 ≠ c) (hd : 1 ≤ d) (ht : t ≤ l2.length) (hi : i ≤ 60001) (hv0 : SV S0 c2 l2) (h : SX c S0 l S) (hr : l.length + (t - i) ≤ g_room (c + 1)) : Ev (fun n => f_X9_addPart n d 0 S [((c : Nat) : Int), ((c2 : Nat) : Int), (i : Int), (t : Int)]) (fun _ S1 => SX c S0 (l ++ (l2.take t).drop i) S1) := by
  have k := addP_7 (d := d) hc hc2 hne hd ht hv0 _ i S l (Nat.lt_succ_self _) hi h hr
  rw [show ((i : Nat) : Int) = max 0 (i : Int) by omega] at k
  refine ev_up (fun n => e_X9_addPart_0) ?_
  unfold b_X9_addPart_0
  repeat' (first
    | with_reducible refine ev_gv ?_
    | with_reducible refine ev_gg ?_ ?_
    | with_reducible refine ev_ite (fun _ => ?_) (fun _ => ?_)
    | omega
    | assumption)
/-- says: the same signs -/
theorem says_19 {t : Nat} (hc : gSh c) (ht : t < 54) (hd : 4 ≤ d) (hv : SV S c l) : ∀ (m i : Nat) (s : Int), l.length - i < m → i ≤ l.length → (s = 0 ∨ s = 1 ∧ l.length = (sx t).length ∧ l.take i = (sx t).take i) → (s = 0 → l ≠ sx t) → Rd (fun n => f_X9_says n d 19 S [((c : Nat) : Int), ((t : Nat) : Int), s, (i : Int)]) (if l = sx t then 1 else 0) S := by
  have h1 := hv.1
  have h2 := sv_le hv
  intro m
  induction m with
  | zero => intros; omega
  | succ m ih =>
    intro i s hm hi hs hs0
    by_cases h0 : s = 0
    · subst h0
      rw [if_neg (hs0 rfl)]
      refine ev_up (fun n => e_X9_says_19) ?_
      unfold b_X9_says_19
      repeat' (first
        | with_reducible refine ev_gv ?_
        | with_reducible refine ev_gg ?_ ?_
        | with_reducible refine ev_ite (fun _ => ?_) (fun _ => ?_)
        | omega
        | assumption)
      all_goals exact ev_ret ⟨by omega, rfl⟩
    · obtain ⟨e1, e2, e3⟩ : s = 1 ∧ l.length = (sx t).length ∧ l.take i = (sx t).take i := by
        rcases hs with h | h
        · exact absurd h h0
        · exact h
      subst e1
      have e4 := e2
      rw [sx_len] at e4
      by_cases hil : i < l.length
      · have h3 := sv_at hv hil
        have h4 := atD_nat hil
        have h5 : 0 ≤ xch t (i : Int).toNat ∧ xch t (i : Int).toNat < 128 := xch_rng t ht i (by omega)
        have h6 := sx_at (i := t) (j := i) (by omega)
        refine ev_up (fun n => e_X9_says_19) ?_
        unfold b_X9_says_19
        repeat' (first
          | with_reducible refine ev_gv ?_
          | with_reducible refine ev_gg ?_ ?_
          | with_reducible refine ev_ite (fun _ => ?_) (fun _ => ?_)
          | refine ev_gcr (s9_at hc hv (by constructor <;> omega)) ?_
          | omega
          | assumption)
        · rename_i hx
          simp only [Int.toNat_natCast] at hx
          refine ih (i + 1) 0 (by omega) (by omega) (Or.inl rfl) (fun _ e => hx ?_)
          rw [h4, e, h6]
        · rename_i hx
          simp only [Int.toNat_natCast, Decidable.not_not] at hx
          refine ih (i + 1) 1 (by omega) (by omega) (Or.inr ⟨rfl, e2, ?_⟩) (fun e => by cases e)
          rw [List.take_add_one, List.take_add_one, e3, List.getElem?_eq_getElem hil, List.getElem?_eq_getElem (by omega)]
          rw [h4, ← h6, List.getD_eq_getElem?_getD, List.getD_eq_getElem?_getD, List.getElem?_eq_getElem hil, List.getElem?_eq_getElem (by omega)] at hx
          simp at hx
          simp [hx]
      · rw [if_pos]
        · refine ev_up (fun n => e_X9_says_19) ?_
          unfold b_X9_says_19
          repeat' (first
            | with_reducible refine ev_gv ?_
            | with_reducible refine ev_gg ?_ ?_
            | with_reducible refine ev_ite (fun _ => ?_) (fun _ => ?_)
            | omega
            | assumption)
          all_goals exact ev_ret ⟨by omega, rfl⟩
        · rw [List.take_of_length_le (by omega), List.take_of_length_le (by omega)] at e3
          exact e3
theorem s9_says {t : Nat} (hc : gSh c) (ht : t < 54) (hd : 4 ≤ d) (hv : SV S c l) : Rd (fun n => f_X9_says n d 0 S [((c : Nat) : Int), ((t : Nat) : Int)]) (if l = sx t then 1 else 0) S := by
  have h1 := hv.1
  have h2 := sv_le hv
  have h3 : xlen.getD t 0 ≤ 200 := by
    have : ∀ t, t < 54 → xlen.getD t 0 ≤ 200 := by decide +kernel
    exact this t ht
  have h4 := sx_len t
  refine ev_up (fun n => e_X9_says_0) ?_
  unfold b_X9_says_0
  repeat' (first
    | with_reducible refine ev_gv ?_
    | with_reducible refine ev_gg ?_ ?_
    | with_reducible refine ev_ite (fun _ => ?_) (fun _ => ?_)
    | omega
    | assumption)
  · exact says_19 hc ht hd hv _ 0 0 (Nat.lt_succ_self _) (by omega) (Or.inl rfl) (fun _ e => by have := congrArg List.length e; omega)
  · exact says_19 hc ht hd hv _ 0 1 (Nat.lt_succ_self _) (by omega) (Or.inr ⟨rfl, by omega, rfl⟩) (fun e => by cases e)
/-- endsWith -/
theorem ends_22 {c2 : Nat} {l2 : List Int} {f : Nat} (hc : gSh c) (hc2 : gSh c2) (hd : 1 ≤ d) (hv : SV S c l) (hv2 : SV S c2 l2) (hf : f ≤ l.length) : ∀ (m i : Nat) (s : Int), l2.length - i < m → i ≤ l2.length → (s = 0 ∨ s = 1 ∧ (l.drop f).length = l2.length ∧ (l.drop f).take i = l2.take i) → (s = 0 → l.drop f ≠ l2) → Rd (fun n => f_X9_endsWith n d 22 S [((c : Nat) : Int), ((c2 : Nat) : Int), (f : Int), s, (i : Int)]) (if l.drop f = l2 then 1 else 0) S := by
  have h1 := hv.1
  have h2 := sv_le hv
  have h1' := hv2.1
  have h2' := sv_le hv2
  have hdl : (l.drop f).length = l.length - f := List.length_drop
  intro m
  induction m with
  | zero => intros; omega
  | succ m ih =>
    intro i s hm hi hs hs0
    by_cases h0 : s = 0
    · subst h0
      rw [if_neg (hs0 rfl)]
      refine ev_up (fun n => e_X9_endsWith_22) ?_
      unfold b_X9_endsWith_22
      repeat' (first
        | with_reducible refine ev_gv ?_
        | with_reducible refine ev_gg ?_ ?_
        | with_reducible refine ev_ite (fun _ => ?_) (fun _ => ?_)
        | refine ev_gcr (s9_length hc2 hv2) ?_
        | omega
        | assumption)
      all_goals exact ev_ret ⟨by omega, rfl⟩
    · obtain ⟨e1, e2, e3⟩ : s = 1 ∧ (l.drop f).length = l2.length ∧ (l.drop f).take i = l2.take i := by
        rcases hs with h | h
        · exact absurd h h0
        · exact h
      subst e1
      by_cases hil : i < l2.length
      · have h3 := sv_at hv (i := f + i) (by omega)
        have h4 := atD_nat (l := l) (i := f + i) (by omega)
        have h3' := sv_at hv2 hil
        have h4' := atD_nat hil
        have h6 : (l.drop f).getD i 0 = l.getD (f + i) 0 := by
          rw [List.getD_eq_getElem?_getD, List.getD_eq_getElem?_getD, List.getElem?_drop]
        rw [show ((f + i : Nat) : Int) = (f : Int) + (i : Int) by omega] at h4
        refine ev_up (fun n => e_X9_endsWith_22) ?_
        unfold b_X9_endsWith_22
        repeat' (first
          | with_reducible refine ev_gv ?_
          | with_reducible refine ev_gg ?_ ?_
          | with_reducible refine ev_ite (fun _ => ?_) (fun _ => ?_)
          | refine ev_gcr (s9_length hc2 hv2) ?_
          | refine ev_gcr (s9_at hc hv (by constructor <;> omega)) ?_
          | refine ev_gcr (s9_at hc2 hv2 (by constructor <;> omega)) ?_
          | omega
          | assumption)
        · rename_i hx
          refine ih (i + 1) 0 (by omega) (by omega) (Or.inl rfl) (fun _ e => hx ?_)
          rw [h4, h4', ← e, h6]
        · rename_i hx
          simp only [Decidable.not_not] at hx
          refine ih (i + 1) 1 (by omega) (by omega) (Or.inr ⟨rfl, e2, ?_⟩) (fun e => by cases e)
          rw [List.take_add_one, List.take_add_one, e3, List.getElem?_eq_getElem (by omega), List.getElem?_eq_getElem hil]
          rw [h4, h4', ← h6, List.getD_eq_getElem?_getD, List.getD_eq_getElem?_getD, List.getElem?_eq_getElem (by omega), List.getElem?_eq_getElem hil] at hx
          simp at hx
          simp [hx]
      · rw [if_pos]
        · refine ev_up (fun n => e_X9_endsWith_22) ?_
          unfold b_X9_endsWith_22
          repeat' (first
            | with_reducible refine ev_gv ?_
            | with_reducible refine ev_gg ?_ ?_
            | with_reducible refine ev_ite (fun _ => ?_) (fun _ => ?_)
            | refine ev_gcr (s9_length hc2 hv2) ?_
            | omega
            | assumption)
          all_goals exact ev_ret ⟨by omega, rfl⟩
        · rw [List.take_of_length_le (by omega), List.take_of_length_le (by omega)] at e3
          exact e3
theorem s9_endsWith {c2 : Nat} {l2 : List Int} {f : Nat} (hc : gSh c) (hc2 : gSh c2) (hd : 1 ≤ d) (hv : SV S c l) (hv2 : SV S c2 l2) (hf : f ≤ l.length) : Rd (fun n => f_X9_endsWith n d 0 S [((c : Nat) : Int), ((c2 : Nat) : Int), (f : Int)]) (if l.drop f = l2 then 1 else 0) S := by
  have h1 := hv.1
  have h2 := sv_le hv
  have h1' := hv2.1
  have h2' := sv_le hv2
  have hdl : (l.drop f).length = l.length - f := List.length_drop
  refine ev_up (fun n => e_X9_endsWith_0) ?_
  unfold b_X9_endsWith_0
  repeat' (first
    | with_reducible refine ev_gv ?_
    | with_reducible refine ev_gg ?_ ?_
    | with_reducible refine ev_ite (fun _ => ?_) (fun _ => ?_)
    | refine ev_gcr (s9_length hc2 hv2) ?_
    | omega
    | assumption)
  · exact ends_22 hc hc2 hd hv hv2 hf _ 0 0 (Nat.lt_succ_self _) (by omega) (Or.inl rfl) (fun _ e => by have := congrArg List.length e; omega)
  · exact ends_22 hc hc2 hd hv hv2 hf _ 0 1 (Nat.lt_succ_self _) (by omega) (Or.inr ⟨rfl, by omega, rfl⟩) (fun e => by cases e)
/-- the first place of a sign; none -/
def plF (x : Int) : List Int → Nat → Int
  | [], _ => -1
  | y :: l, i => if y = x then (i : Int) else plF x l (i + 1)
theorem place_2 {x : Int} (hc : gSh c) (hd : 1 ≤ d) (hv : SV S c l) (hx : inr x) : ∀ (m i : Nat), l.length - i < m → i ≤ l.length → Rd (fun n => f_X9_placeOf n d 2 S [((c : Nat) : Int), x, (i : Int)]) (plF x (l.drop i) i) S := by
  have h1 := hv.1
  have h2 := sv_le hv
  intro m
  induction m with
  | zero => intros; omega
  | succ m ih =>
    intro i hm hi
    by_cases hil : i < l.length
    · have h3 := sv_at hv hil
      have h4 := atD_nat hil
      rw [drop_one hil]
      unfold plF
      refine ev_up (fun n => e_X9_placeOf_2) ?_
      unfold b_X9_placeOf_2
      repeat' (first
        | with_reducible refine ev_gv ?_
        | with_reducible refine ev_gg ?_ ?_
        | with_reducible refine ev_ite (fun _ => ?_) (fun _ => ?_)
        | refine ev_gcr (s9_at hc hv (by constructor <;> omega)) ?_
        | omega
        | assumption)
      · rw [if_neg (by omega)]
        exact ih (i + 1) (by omega) (by omega)
      · rw [if_pos (by omega)]
        exact ev_ret ⟨rfl, rfl⟩
    · rw [List.drop_eq_nil_of_le (by omega)]
      refine ev_up (fun n => e_X9_placeOf_2) ?_
      unfold b_X9_placeOf_2
      repeat' (first
        | with_reducible refine ev_gv ?_
        | with_reducible refine ev_gg ?_ ?_
        | with_reducible refine ev_ite (fun _ => ?_) (fun _ => ?_)
        | omega
        | assumption)
      all_goals exact ev_ret ⟨rfl, rfl⟩
theorem s9_placeOf {x : Int} (hc : gSh c) (hd : 1 ≤ d) (hv : SV S c l) (hx : inr x) : Rd (fun n => f_X9_placeOf n d 0 S [((c : Nat) : Int), x]) (plF x l 0) S := by
  refine ev_up (fun n => e_X9_placeOf_0) ?_
  unfold b_X9_placeOf_0
  exact place_2 hc hd hv hx _ 0 (Nat.lt_succ_self _) (Nat.zero_le _)
def dgst (h : Int) : List Int → Int
  | [] => h
  | y :: l => dgst ((257 * h + y) % 65521) l
theorem digest_5 (hc : gSh c) (hd : 1 ≤ d) (hv : SV S c l) : ∀ (m i : Nat) (h : Int), l.length - i < m → i ≤ l.length → 0 ≤ h → h < 65521 → Rd (fun n => f_X9_digestOf n d 5 S [((c : Nat) : Int), h, (i : Int)]) (dgst h (l.drop i)) S := by
  have h1 := hv.1
  have h2 := sv_le hv
  intro m
  induction m with
  | zero => intros; omega
  | succ m ih =>
    intro i h hm hi hh0 hh1
    by_cases hil : i < l.length
    · have h3 := sv_at hv hil
      have h4 := atD_nat hil
      rw [drop_one hil]
      unfold dgst
      refine ev_up (fun n => e_X9_digestOf_5) ?_
      unfold b_X9_digestOf_5
      repeat' (first
        | with_reducible refine ev_gv ?_
        | with_reducible refine ev_gg ?_ ?_
        | with_reducible refine ev_ite (fun _ => ?_) (fun _ => ?_)
        | refine ev_gcr (s9_at hc hv (by constructor <;> omega)) ?_
        | omega
        | assumption)
      rw [h4]
      exact ih (i + 1) _ (by omega) (by omega) (by omega) (by omega)
    · rw [List.drop_eq_nil_of_le (by omega)]
      refine ev_up (fun n => e_X9_digestOf_5) ?_
      unfold b_X9_digestOf_5
      repeat' (first
        | with_reducible refine ev_gv ?_
        | with_reducible refine ev_gg ?_ ?_
        | with_reducible refine ev_ite (fun _ => ?_) (fun _ => ?_)
        | omega
        | assumption)
      all_goals exact ev_ret ⟨rfl, rfl⟩
theorem s9_digestOf (hc : gSh c) (hd : 1 ≤ d) (hv : SV S c l) : Rd (fun n => f_X9_digestOf n d 0 S [((c : Nat) : Int)]) (dgst 7 l) S := by
  refine ev_up (fun n => e_X9_digestOf_0) ?_
  unfold b_X9_digestOf_0
  exact digest_5 hc hd hv _ 0 7 (Nat.lt_succ_self _) (Nat.zero_le _) (by decide) (by decide)
end SH4
