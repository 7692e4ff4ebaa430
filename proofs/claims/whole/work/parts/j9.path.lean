/-! THE REFERENCE: PATHS -/
def tw : List Int → Nat
  | [] => 0
  | x :: r => if x = 47 then 0 else tw r + 1
theorem tw_le : ∀ (r : List Int), tw r ≤ r.length
  | [] => Nat.le_refl _
  | x :: r => by
    have := tw_le r
    unfold tw
    rw [List.length_cons]
    split <;> omega
theorem slP_c {x : Int} {r : List Int} {i : Nat} : slP (x :: r) i = if x = 47 then (i + 1) :: slP r (i + 1) else slP r (i + 1) := rfl
theorem slP_tw : ∀ (r : List Int) (i : Nat), (tw r < r.length → slP r i = (i + tw r + 1) :: slP (r.drop (tw r + 1)) (i + tw r + 1)) ∧ (tw r = r.length → slP r i = [])
  | [], i => ⟨fun h => absurd h (Nat.not_lt_zero _), fun _ => rfl⟩
  | x :: r, i => by
    have ih := slP_tw r (i + 1)
    unfold tw
    rw [List.length_cons, slP_c]
    by_cases c : x = 47
    · rw [if_pos c, if_pos c]
      refine ⟨fun _ => ?_, fun h => by omega⟩
      rfl
    · rw [if_neg c, if_neg c]
      refine ⟨fun h => ?_, fun h => ih.2 (by omega)⟩
      rw [ih.1 (by omega), show i + 1 + tw r + 1 = i + (tw r + 1) + 1 by omega]
      rfl
theorem slP_at {p : Nat} {B : List Nat} : ∀ (l : List Int) (i : Nat) (A : List Nat), slP l i = A ++ p :: B → i < p ∧ B = slP (l.drop (p - i)) p ∧ l.getD (p - i - 1) 0 = 47 ∧ p - i ≤ l.length
  | [], i, A, h => by cases A <;> cases h
  | x :: r, i, A, h => by
    unfold slP at h
    have sh : ∀ (A : List Nat), slP r (i + 1) = A ++ p :: B → i < p ∧ B = slP ((x :: r).drop (p - i)) p ∧ (x :: r).getD (p - i - 1) 0 = 47 ∧ p - i ≤ (x :: r).length := fun A h => by
      obtain ⟨a, b, c, e⟩ := slP_at r (i + 1) A h
      obtain ⟨q, hq⟩ : ∃ q, p - i = q + 1 := ⟨p - i - 1, by omega⟩
      have q2 : p - (i + 1) = q := by omega
      rw [q2] at b c e
      refine ⟨by omega, by rw [hq]; exact b, ?_, by rw [List.length_cons]; omega⟩
      rw [hq, Nat.add_sub_cancel]
      obtain ⟨q3, rfl⟩ : ∃ q3, q = q3 + 1 := ⟨q - 1, by omega⟩
      rw [Nat.add_sub_cancel] at c
      exact c
    by_cases c : x = 47
    · rw [if_pos c] at h
      cases A with
      | nil =>
        have e := List.cons.inj h
        obtain ⟨rfl, e2⟩ := e
        refine ⟨by omega, ?_, ?_, by rw [List.length_cons]; omega⟩
        · rw [show i + 1 - i = 1 by omega]
          exact e2.symm
        · rw [show i + 1 - i - 1 = 0 by omega]
          exact c
      | cons a A =>
        exact sh A (List.cons.inj h).2
    · rw [if_neg c] at h
      exact sh A h
theorem split_at {α : Type} {L : List α} {k : Nat} {z : α} (h : k < L.length) : L = L.take k ++ L.getD k z :: L.drop (k + 1) := by
  have e := List.drop_eq_getElem_cons h
  rw [List.getD_eq_getElem?_getD, List.getElem?_eq_getElem h]
  show L = L.take k ++ L[k] :: L.drop (k + 1)
  rw [← e, List.take_append_drop]
section STA
variable {l : List Int}
theorem stA_k {k : Nat} (h : k < nW l) : stA l (k : Int) = ((slP l 0).getD k 0 : Nat) := by
  unfold stA
  rw [if_pos (by unfold nW at h; omega), Int.toNat_natCast]
theorem stA_hi {k : Int} (h : (nW l : Int) ≤ k) : stA l k = (l.length : Int) + 1 := by
  unfold stA
  rw [if_neg (by unfold nW at h; omega)]
theorem stA_next {k : Nat} (h : k < nW l) : stA l ((k : Int) + 1) = stA l (k : Int) + (tw (l.drop (stA l (k : Int)).toNat) : Int) + 1 ∧ l.getD ((stA l (k : Int)).toNat - 1) 0 = 47 ∧ 1 ≤ stA l (k : Int) ∧ stA l (k : Int) ≤ (l.length : Int) := by
  have e := split_at (z := 0) (show k < (slP l 0).length from h)
  obtain ⟨a, b, c, d⟩ := slP_at l 0 _ e
  have hk := stA_k h
  generalize hp : (slP l 0).getD k 0 = p at *
  rw [Nat.sub_zero] at b c d
  rw [hk, Int.toNat_natCast]
  refine ⟨?_, c, by omega, by omega⟩
  have t := slP_tw (l.drop p) p
  have tl := tw_le (l.drop p)
  rw [List.length_drop] at tl
  by_cases cc : tw (l.drop p) < (l.drop p).length
  · have s := t.1 cc
    rw [← b] at s
    have n1 : k + 1 < nW l := by
      have := congrArg List.length s
      rw [List.length_drop, List.length_cons] at this
      unfold nW
      omega
    have hk1 := stA_k n1
    rw [show ((k + 1 : Nat) : Int) = (k : Int) + 1 by omega] at hk1
    rw [hk1]
    have g : (slP l 0).getD (k + 1) 0 = p + tw (l.drop p) + 1 := by
      have : (slP l 0).getD (k + 1) 0 = ((slP l 0).drop (k + 1)).getD 0 0 := by
        rw [List.getD_eq_getElem?_getD, List.getD_eq_getElem?_getD, List.getElem?_drop, Nat.add_zero]
      rw [this, s]
      rfl
    rw [g]
    omega
  · have el : tw (l.drop p) = (l.drop p).length := by
      rw [List.length_drop]
      rw [List.length_drop] at cc
      omega
    have s := t.2 el
    rw [← b] at s
    have n1 : nW l = k + 1 := by
      have := congrArg List.length s
      rw [List.length_drop, List.length_nil] at this
      unfold nW at h ⊢
      omega
    rw [stA_hi (by omega), el, List.length_drop]
    omega
theorem stA_0 (h : isP l) : stA l 0 = 1 := by
  cases l with
  | nil => rfl
  | cons x r =>
    have x47 : x = 47 := by
      rcases h.1 with z | z
      · cases z
      · exact z
    have e : slP (x :: r) 0 = 1 :: slP r 1 := by
      rw [slP_c, if_pos x47]
    have := stA_k (l := x :: r) (k := 0) (by unfold nW; rw [e, List.length_cons]; omega)
    rw [e] at this
    exact this
theorem nW_pos (h : isP l) (hl : l ≠ []) : 1 ≤ nW l := by
  cases l with
  | nil => exact absurd rfl hl
  | cons x r =>
    have x47 : x = 47 := by
      rcases h.1 with z | z
      · cases z
      · exact z
    unfold nW
    rw [slP_c, if_pos x47, List.length_cons]
    omega
theorem nW_0 : nW ([] : List Int) = 0 := rfl
theorem tw_47 : ∀ (r : List Int), tw r < r.length → r.getD (tw r) 0 = 47
  | [], h => absurd h (Nat.not_lt_zero _)
  | x :: r, h => by
    have := tw_47 r
    unfold tw at h ⊢
    by_cases c : x = 47
    · rw [if_pos c]; exact c
    · rw [if_neg c] at h ⊢
      rw [List.length_cons] at h
      exact this (by omega)
theorem tw_ne : ∀ (r : List Int) (j : Nat), j < tw r → r.getD j 0 ≠ 47
  | [], j, h => absurd h (Nat.not_lt_zero _)
  | x :: r, j, h => by
    unfold tw at h
    by_cases c : x = 47
    · rw [if_pos c] at h; omega
    · rw [if_neg c] at h
      cases j with
      | zero => exact c
      | succ j => exact tw_ne r j (by omega)
theorem ptOK_take : ∀ (l : List Int) (e : Nat), ptOK l = true → (e < l.length → l.getD e 0 ≠ 48 ∧ l.getD e 0 ≠ 49) → ptOK (l.take e) = true
  | [], e, _, _ => by rw [List.take_nil]; rfl
  | x :: r, 0, _, _ => rfl
  | x :: r, e + 1, h, hb => by
    unfold ptOK at h
    rw [Bool.and_eq_true, decide_eq_true_eq] at h
    rw [List.take_succ_cons]
    unfold ptOK
    rw [Bool.and_eq_true, decide_eq_true_eq]
    refine ⟨?_, ptOK_take r e h.2 (fun z => hb (by rw [List.length_cons]; omega))⟩
    cases r with
    | nil => rw [List.take_nil]; exact h.1
    | cons y r =>
      cases e with
      | zero =>
        have := hb (by simp)
        have e1 : (x :: y :: r).getD (0 + 1) 0 = y := rfl
        rw [e1] at this
        rcases h.1 with z | z | z
        · exact Or.inl z
        · exact absurd z this.1
        · exact absurd z this.2
      | succ e => rw [List.take_succ_cons]; exact h.1
end STA
/-- the path that is looked at -/
def PaS (S : GS) (l : List Int) : Prop := S.1 500 29 = (l.length : Int) ∧ l.length ≤ 900 ∧ (∀ i, i < l.length → S.1 518 i = l.getD i 0) ∧ ∀ x ∈ l, 0 ≤ x ∧ x < 256
theorem pa_fr {P : Nat → Nat → Prop} {S S1 : GS} {l : List Int} (h : PaS S l) (hf : FC P S S1) (h1 : ¬ P 500 29) (h2 : ∀ j, ¬ P 518 j) : PaS S1 l := ⟨(fc_i hf h1).trans h.1, h.2.1, fun i hi => (fc_i hf (h2 i)).trans (h.2.2.1 i hi), h.2.2.2⟩
section RPA
variable {S : GS} {d : Nat} {l : List Int}
abbrev paP : Nat → Nat → Prop := fun c j => (c = 500 ∧ j = 29) ∨ c = 518
theorem q_pathOfPage (h1 : S.1 500 7 = (l.length : Int)) (hl : l.length ≤ 400) (h2 : ∀ i, i < l.length → S.1 503 i = l.getD i 0) (h3 : ∀ x ∈ l, 0 ≤ x ∧ x < 256) : Ev (fun n => f_X12_pathOfPage n d 0 S []) (fun _ S1 => PaS S1 l ∧ FC paP S S1) := by
  have lp : ∀ (t u : Nat) (S1 : GS), u + t = l.length → S1.1 500 29 = (l.length : Int) → (∀ j, j < u → S1.1 518 j = l.getD j 0) → FC paP S S1 → Ev (fun n => f_X12_pathOfPage n d 10 S1 [(u : Int)]) (fun _ S1 => PaS S1 l ∧ FC paP S S1) := by
    intro t
    induction t with
    | zero =>
      intro u S1 hu a1 hj hf
      refine ev_up (fun n => e_X12_pathOfPage_10) ?_
      unfold b_X12_pathOfPage_10
      refine ev_gv ?_
      rw [fc_i hf (by omega), h1]
      refine ev_gg (by first | omega | (constructor <;> omega)) ?_
      refine ev_gg (by first | omega | (constructor <;> omega)) ?_
      refine ev_ite (fun _ => ?_) (fun z => by omega)
      exact ev_ret ⟨⟨a1, by omega, fun j j1 => hj j (by omega), h3⟩, hf⟩
    | succ t ih =>
      intro u S1 hu a1 hj hf
      refine ev_up (fun n => e_X12_pathOfPage_10) ?_
      unfold b_X12_pathOfPage_10
      refine ev_gv ?_
      rw [fc_i hf (show ¬ paP 500 7 by omega), h1]
      refine ev_gg (by first | omega | (constructor <;> omega)) ?_
      refine ev_gg (by first | omega | (constructor <;> omega)) ?_
      refine ev_ite (fun z => by omega) (fun _ => ?_)
      refine ev_gg (by first | omega | (constructor <;> omega)) ?_
      refine ev_gv ?_
      refine ev_gg (by first | omega | (constructor <;> omega)) ?_
      refine ev_gv ?_
      refine ev_gv ?_
      rw [Int.toNat_natCast, fc_i hf (show ¬ paP 503 u by omega), h2 u (by omega), show (u : Int) + 1 = ((u + 1 : Nat) : Int) by omega]
      refine ih (u + 1) _ (by omega) (by rw [gI_c (by decide)]; exact a1) (fun j j1 => ?_) (fc_tr hf (fc_gI (Or.inr rfl)))
      by_cases c : j = u
      · subst c; exact gI_a
      · rw [gI_k c]; exact hj j (by omega)
  refine ev_up (fun n => e_X12_pathOfPage_0) ?_
  unfold b_X12_pathOfPage_0
  refine ev_gv ?_
  refine ev_gv ?_
  rw [h1]
  exact lp l.length 0 _ (by omega) gI_a (fun j j1 => by omega) (fc_gI (Or.inl ⟨rfl, rfl⟩))
theorem q_pathOf {K I : Nat} {V : List ND} {k i : Int} (hd : 2 ≤ d) (hk : k = (K : Int)) (hK : K < 48) (hi : i = (I : Int)) (h : LK S K V) (hI : I < V.length) : Ev (fun n => f_X12_pathOf n d 0 S [k, i]) (fun _ S1 => PaS S1 (sgN (V.getD I nd0)) ∧ FC paP S S1) := by
  subst hk hi
  have ky := lk_txt h hI
  have l12 : (sgN (V.getD I nd0)).length ≤ 40 := ky.1
  have lp : ∀ (t u : Nat) (S1 : GS), u + t = (sgN (V.getD I nd0)).length → S1.1 500 29 = ((sgN (V.getD I nd0)).length : Int) → (∀ j, j < u → S1.1 518 j = (sgN (V.getD I nd0)).getD j 0) → FC paP S S1 → Ev (fun n => f_X12_pathOf n d 14 S1 [(K : Int), (I : Int), (u : Int)]) (fun _ S2 => PaS S2 (sgN (V.getD I nd0)) ∧ FC paP S S2) := by
    intro t
    induction t with
    | zero =>
      intro u S1 hu h1 hj hf
      refine ev_up (fun n => e_X12_pathOf_14) ?_
      unfold b_X12_pathOf_14
      refine ev_gv ?_
      rw [h1]
      refine ev_gg (by first | omega | (constructor <;> omega)) ?_
      refine ev_gg (by first | omega | (constructor <;> omega)) ?_
      refine ev_ite (fun _ => ?_) (fun z => by omega)
      exact ev_ret ⟨⟨h1, by omega, fun j j1 => hj j (by omega), ky.2⟩, hf⟩
    | succ t ih =>
      intro u S1 hu h1 hj hf
      have h2 : LK S1 K V := lk_fr h hf (fun j _ _ => by omega) (by omega)
      refine ev_up (fun n => e_X12_pathOf_14) ?_
      unfold b_X12_pathOf_14
      refine ev_gv ?_
      rw [h1]
      refine ev_gg (by first | omega | (constructor <;> omega)) ?_
      refine ev_gg (by first | omega | (constructor <;> omega)) ?_
      refine ev_ite (fun z => by omega) (fun _ => ?_)
      refine ev_gv ?_
      refine ev_gg (by first | omega | (constructor <;> omega)) ?_
      refine ev_gcr (q_signL (d := d - 1) (K := K) (I := I) (J := u) (by omega) rfl hK rfl rfl h2 hI (by omega)) ?_
      refine ev_gg (by first | omega | (constructor <;> omega)) ?_
      refine ev_gv ?_
      refine ev_gv ?_
      rw [Int.toNat_natCast, show (u : Int) + 1 = ((u + 1 : Nat) : Int) by omega]
      refine ih (u + 1) _ (by omega) (by rw [gI_c (by decide)]; exact h1) (fun j j1 => ?_) (fc_tr hf (fc_gI (Or.inr rfl)))
      by_cases c : j = u
      · subst c; exact gI_a
      · rw [gI_k c]; exact hj j (by omega)
  refine ev_up (fun n => e_X12_pathOf_0) ?_
  unfold b_X12_pathOf_0
  refine ev_gg (by first | omega | (constructor <;> omega)) ?_
  refine ev_gcr (q_longL (d := d - 1) (K := K) (I := I) (by omega) rfl hK rfl h hI) ?_
  refine ev_gv ?_
  exact lp (sgN (V.getD I nd0)).length 0 _ (by omega) gI_a (fun j j1 => by omega) (fc_gI (Or.inl ⟨rfl, rfl⟩))
theorem hdI_dr {u : Nat} (h : u < l.length) : hdI (l.drop u) = l.getD u 0 := by
  rw [drop_one h]
  rfl
theorem q_isPath (h : PaS S l) : Rd (fun n => f_X12_isPath n d 0 S []) (if isP l then 1 else 0) S := by
  obtain ⟨p1, p2, p3, p4⟩ := h
  have rg : ∀ u, u < l.length → 0 ≤ l.getD u 0 ∧ l.getD u 0 < 256 := fun u hu => p4 _ (getD_in hu)
  have l0 : ∀ (t u : Nat), u + t = l.length → Rd (fun n => f_X12_isPath n d 26 S [0, (u : Int)]) 0 S := by
    intro t
    induction t with
    | zero =>
      intro u hu
      refine ev_up (fun n => e_X12_isPath_26) ?_
      unfold b_X12_isPath_26
      refine ev_gv ?_
      rw [p1]
      refine ev_gg (by first | omega | (constructor <;> omega)) ?_
      refine ev_gg (by first | omega | (constructor <;> omega)) ?_
      refine ev_ite (fun _ => ?_) (fun z => by omega)
      refine ev_gg (by first | omega | (constructor <;> omega)) ?_
      exact ev_ret ⟨rfl, rfl⟩
    | succ t ih =>
      intro u hu
      refine ev_up (fun n => e_X12_isPath_26) ?_
      unfold b_X12_isPath_26
      refine ev_gv ?_
      rw [p1]
      refine ev_gg (by first | omega | (constructor <;> omega)) ?_
      refine ev_gg (by first | omega | (constructor <;> omega)) ?_
      refine ev_ite (fun z => by omega) (fun _ => ?_)
      refine ev_gg (by first | omega | (constructor <;> omega)) ?_
      refine ev_ite (fun _ => ?_) (fun z => by omega)
      refine ev_gv ?_
      rw [show (u : Int) + 1 = ((u + 1 : Nat) : Int) by omega]
      exact ih (u + 1) (by omega)
  have l1 : ∀ (t u : Nat), u + t = l.length → Rd (fun n => f_X12_isPath n d 26 S [1, (u : Int)]) (if ptOK (l.drop u) = true then 1 else 0) S := by
    intro t
    induction t with
    | zero =>
      intro u hu
      refine ev_up (fun n => e_X12_isPath_26) ?_
      unfold b_X12_isPath_26
      refine ev_gv ?_
      rw [p1]
      refine ev_gg (by first | omega | (constructor <;> omega)) ?_
      refine ev_gg (by first | omega | (constructor <;> omega)) ?_
      refine ev_ite (fun _ => ?_) (fun z => by omega)
      refine ev_gg (by first | omega | (constructor <;> omega)) ?_
      rw [List.drop_eq_nil_of_le (by omega)]
      exact ev_ret ⟨rfl, rfl⟩
    | succ t ih =>
      intro u hu
      have r0 := rg u (by omega)
      have ed : l.drop u = l.getD u 0 :: l.drop (u + 1) := drop_one (by omega)
      have eu : (u : Int) + 1 = ((u + 1 : Nat) : Int) := by omega
      rw [ed]
      unfold ptOK
      refine ev_up (fun n => e_X12_isPath_26) ?_
      unfold b_X12_isPath_26
      refine ev_gv ?_
      rw [p1]
      refine ev_gg (by first | omega | (constructor <;> omega)) ?_
      refine ev_gg (by first | omega | (constructor <;> omega)) ?_
      refine ev_ite (fun z => by omega) (fun _ => ?_)
      refine ev_gg (by first | omega | (constructor <;> omega)) ?_
      refine ev_ite (fun z => by omega) (fun _ => ?_)
      refine ev_gg (by first | omega | (constructor <;> omega)) ?_
      refine ev_gv ?_
      rw [Int.toNat_natCast, p3 u (by omega)]
      refine ev_gg (by first | omega | (constructor <;> omega)) ?_
      refine ev_ite (fun z => ?_) (fun z => ?_)
      · refine ev_gv ?_
        rw [eu, decide_eq_true (Or.inl z), Bool.true_and]
        exact ih (u + 1) (by omega)
      · refine ev_gv ?_
        refine ev_gv ?_
        refine ev_gg (by first | omega | (constructor <;> omega)) ?_
        refine ev_gg (by first | omega | (constructor <;> omega)) ?_
        refine ev_ite (fun z2 => ?_) (fun z2 => ?_)
        · refine ev_gv ?_
          rw [eu, List.drop_eq_nil_of_le (show l.length ≤ u + 1 by omega)]
          have e : (decide (l.getD u 0 ≠ 126 ∨ hdI [] = 48 ∨ hdI [] = 49) && ptOK []) = false := by
            rw [decide_eq_false (fun q => by
              rcases q with q | q | q
              · exact z q
              · exact absurd q (by decide)
              · exact absurd q (by decide))]
            rfl
          rw [e, if_neg (by decide)]
          exact l0 t (u + 1) (by omega)
        · have hd1 : hdI (l.drop (u + 1)) = l.getD (u + 1) 0 := hdI_dr (by omega)
          have r1 := rg (u + 1) (by omega)
          refine ev_gv ?_
          refine ev_gg (by first | omega | (constructor <;> omega)) ?_
          refine ev_gv ?_
          rw [eu, Int.toNat_natCast, p3 (u + 1) (by omega)]
          refine ev_gg (by first | omega | (constructor <;> omega)) ?_
          rw [hd1]
          refine ev_ite (fun z3 => ?_) (fun z3 => ?_)
          · refine ev_gv ?_
            rw [decide_eq_true (Or.inr (Or.inl z3)), Bool.true_and]
            exact ih (u + 1) (by omega)
          · refine ev_gv ?_
            refine ev_gg (by first | omega | (constructor <;> omega)) ?_
            refine ev_gv ?_
            rw [Int.toNat_natCast, p3 (u + 1) (by omega)]
            refine ev_gg (by first | omega | (constructor <;> omega)) ?_
            refine ev_ite (fun z4 => ?_) (fun z4 => ?_)
            · refine ev_gv ?_
              rw [decide_eq_false (by omega), Bool.false_and, if_neg (by decide)]
              exact l0 t (u + 1) (by omega)
            · refine ev_gv ?_
              rw [decide_eq_true (by omega), Bool.true_and]
              exact ih (u + 1) (by omega)
  refine ev_up (fun n => e_X12_isPath_0) ?_
  unfold b_X12_isPath_0
  refine ev_gv ?_
  rw [p1]
  refine ev_gg (by first | omega | (constructor <;> omega)) ?_
  refine ev_ite (fun z => ?_) (fun z => ?_)
  · have ln : l = [] := List.length_eq_zero_iff.mp (by omega)
    have := l1 l.length 0 (by omega)
    rw [List.drop_zero] at this
    refine rd_as this ?_
    by_cases c : ptOK l = true
    · rw [if_pos c, if_pos ⟨Or.inl ln, c⟩]
    · rw [if_neg c, if_neg (fun z => c z.2)]
  · have h0 := hdI_dr (l := l) (u := 0) (by omega)
    have r0 := rg 0 (by omega)
    rw [List.drop_zero] at h0
    refine ev_gg (by decide) ?_
    refine ev_gv ?_
    rw [show (0 : Int).toNat = 0 from rfl, p3 0 (by omega), ← h0]
    rw [← h0] at r0
    refine ev_gg (by first | omega | (constructor <;> omega)) ?_
    refine ev_ite (fun z2 => ?_) (fun z2 => ?_)
    · rw [if_neg (fun q => by
        rcases q.1 with w | w
        · rw [w] at z; exact z rfl
        · exact z2 w)]
      exact l0 l.length 0 (by omega)
    · have := l1 l.length 0 (by omega)
      rw [List.drop_zero] at this
      refine rd_as this ?_
      by_cases c : ptOK l = true
      · rw [if_pos c, if_pos ⟨Or.inr (by omega), c⟩]
      · rw [if_neg c, if_neg (fun z => c z.2)]
abbrev stP : Nat → Nat → Prop := fun c j => c = 500 ∧ (j = 30 ∨ j = 31)
/-- the STEP behind a / -/
theorem q_step {a : Int} {A : Nat} (ha : a + 1 = (A : Int)) (h : PaS S l) (hA : A ≤ l.length) : Ev (fun n => f_X12_step n d 0 S [a]) (fun _ S1 => S1.1 500 30 = (A : Int) ∧ S1.1 500 31 = ((A + tw (l.drop A) : Nat) : Int) ∧ FC stP S S1) := by
  obtain ⟨p1, p2, p3, p4⟩ := h
  have lp : ∀ (t u : Nat) (S1 : GS), u + t = l.length → A ≤ u → S1.1 500 30 = (A : Int) → S1.1 500 31 = (u : Int) → A + tw (l.drop A) = u + tw (l.drop u) → FC stP S S1 → Ev (fun n => f_X12_step n d 15 S1 []) (fun _ S1 => S1.1 500 30 = (A : Int) ∧ S1.1 500 31 = ((A + tw (l.drop A) : Nat) : Int) ∧ FC stP S S1) := by
    intro t
    induction t with
    | zero =>
      intro u S1 hu hA a1 a2 a3 hf
      refine ev_up (fun n => e_X12_step_15) ?_
      unfold b_X12_step_15
      refine ev_gv ?_
      refine ev_gv ?_
      rw [fc_i hf (show ¬ stP 500 29 by omega), p1, a2]
      refine ev_gg (by first | omega | (constructor <;> omega)) ?_
      refine ev_gg (by first | omega | (constructor <;> omega)) ?_
      refine ev_ite (fun _ => ?_) (fun z => by omega)
      refine ev_ret ⟨a1, ?_, hf⟩
      rw [a2, a3, List.drop_eq_nil_of_le (by omega)]
      rfl
    | succ t ih =>
      intro u S1 hu hA a1 a2 a3 hf
      have r0 := p4 _ (getD_in (q := l) (t := u) (by omega))
      have ed : l.drop u = l.getD u 0 :: l.drop (u + 1) := drop_one (by omega)
      refine ev_up (fun n => e_X12_step_15) ?_
      unfold b_X12_step_15
      refine ev_gv ?_
      refine ev_gv ?_
      rw [fc_i hf (show ¬ stP 500 29 by omega), p1, a2]
      refine ev_gg (by first | omega | (constructor <;> omega)) ?_
      refine ev_gg (by first | omega | (constructor <;> omega)) ?_
      refine ev_ite (fun z => by omega) (fun _ => ?_)
      refine ev_gv ?_
      refine ev_gg (by first | omega | (constructor <;> omega)) ?_
      refine ev_gv ?_
      rw [Int.toNat_natCast, fc_i hf (show ¬ stP 518 u by omega), p3 u (by omega)]
      refine ev_gg (by first | omega | (constructor <;> omega)) ?_
      refine ev_ite (fun z => ?_) (fun z => ?_)
      · refine ev_ret ⟨a1, ?_, hf⟩
        have e0 : tw (l.drop u) = 0 := by rw [ed]; unfold tw; rw [if_pos z]
        rw [a2, a3, e0]
        rfl
      · refine ev_gv ?_
        refine ev_gv ?_
        refine ev_gv ?_
        have e1 : tw (l.drop u) = tw (l.drop (u + 1)) + 1 := by rw [ed]; show (if _ then _ else _) = _; rw [if_neg z]
        exact ih (u + 1) _ (by omega) (by omega) (by rw [gI_k (by decide)]; exact a1) (by rw [gI_a]; omega) (by omega) (fc_tr hf (fc_gI ⟨rfl, Or.inr rfl⟩))
  refine ev_up (fun n => e_X12_step_0) ?_
  unfold b_X12_step_0
  refine ev_gv ?_
  refine ev_gv ?_
  refine ev_gv ?_
  refine ev_gv ?_
  rw [ha, gI_a]
  exact lp (l.length - A) A _ (by omega) (Nat.le_refl _) (by rw [gI_k (by decide), gI_a]) gI_a rfl (fc_tr (fc_gI ⟨rfl, Or.inl rfl⟩) (fc_gI ⟨rfl, Or.inr rfl⟩))
/-- signs of the path, put right, become the word -/
theorem q_wordOf {a e : Int} {A E : Nat} (ha : a = (A : Int)) (he : e = (E : Int)) (h : PaS S l) (hE : E ≤ l.length) (hA : A ≤ 1000) (ho : ptOK ((l.take E).drop A) = true) : Ev (fun n => f_X12_wordOf n d 0 S [a, e]) (fun _ S1 => WD S1 (une ((l.take E).drop A)) ∧ FC wdP S S1) := by
  subst ha he
  obtain ⟨p1, p2, p3, p4⟩ := h
  have put : ∀ (w : List Int) (x : Int) (i : Nat) (S1 : GS) (Q : Int → GS → Prop), WD S1 w → w.length < 900 → 0 ≤ x ∧ x < 256 → Ev (fun n => f_X12_wordOf n d 7 (gI (gI S1 507 w.length x) 500 13 ((w.length : Int) + 1)) [(E : Int), ((i + 1 : Nat) : Int)]) Q → Ev (fun n => f_X12_wordOf n d 50 S1 [(E : Int), (i : Int), x]) Q := by
    intro w x i S1 Q hw hl hx nx
    refine ev_up (fun n => e_X12_wordOf_50) ?_
    unfold b_X12_wordOf_50
    refine ev_gv ?_
    rw [hw.1]
    refine ev_gg (by first | omega | (constructor <;> omega)) ?_
    refine ev_gv ?_
    refine ev_gv ?_
    refine ev_gv ?_
    refine ev_gv ?_
    refine ev_gv ?_
    rw [Int.toNat_natCast, gI_c (show (500 : Nat) ≠ 507 by decide), hw.1, show (i : Int) + 1 = ((i + 1 : Nat) : Int) by omega]
    exact nx
  have lp : ∀ (t i : Nat) (w : List Int) (S1 : GS), E - i ≤ t → i ≤ 1002 → WD S1 w → w.length ≤ i → FC wdP S S1 → ptOK ((l.take E).drop i) = true → Ev (fun n => f_X12_wordOf n d 7 S1 [(E : Int), (i : Int)]) (fun _ S2 => WD S2 (w ++ une ((l.take E).drop i)) ∧ FC wdP S S2) := by
    intro t
    induction t with
    | zero =>
      intro i w S1 ht hi hw hl hf hp
      refine ev_up (fun n => e_X12_wordOf_7) ?_
      unfold b_X12_wordOf_7
      refine ev_gg (by first | omega | (constructor <;> omega)) ?_
      refine ev_gg (by first | omega | (constructor <;> omega)) ?_
      refine ev_ite (fun _ => ?_) (fun z => by omega)
      rw [List.drop_eq_nil_of_le (by rw [List.length_take]; omega)]
      refine ev_ret ⟨?_, hf⟩
      rw [show une ([] : List Int) = [] from rfl, List.append_nil]
      exact hw
    | succ t ih =>
      intro i w S1 ht hi hw hl hf hp
      by_cases c : E ≤ i
      · refine ev_up (fun n => e_X12_wordOf_7) ?_
        unfold b_X12_wordOf_7
        refine ev_gg (by first | omega | (constructor <;> omega)) ?_
        refine ev_gg (by first | omega | (constructor <;> omega)) ?_
        refine ev_ite (fun _ => ?_) (fun z => by omega)
        rw [List.drop_eq_nil_of_le (by rw [List.length_take]; omega)]
        refine ev_ret ⟨?_, hf⟩
        rw [show une ([] : List Int) = [] from rfl, List.append_nil]
        exact hw
      have r0 := p4 _ (getD_in (q := l) (t := i) (by omega))
      have ed := drop_take_s (l := l) (i := i) (e := E) (by omega) hE
      rw [ed] at hp ⊢
      unfold ptOK at hp
      rw [Bool.and_eq_true, decide_eq_true_eq] at hp
      refine ev_up (fun n => e_X12_wordOf_7) ?_
      unfold b_X12_wordOf_7
      refine ev_gg (by first | omega | (constructor <;> omega)) ?_
      refine ev_gg (by first | omega | (constructor <;> omega)) ?_
      refine ev_ite (fun z => by omega) (fun _ => ?_)
      refine ev_gg (by first | omega | (constructor <;> omega)) ?_
      refine ev_gv ?_
      rw [Int.toNat_natCast, fc_i hf (show ¬ wdP 518 i by omega), p3 i (by omega)]
      refine ev_gg (by first | omega | (constructor <;> omega)) ?_
      refine ev_ite (fun z => ?_) (fun z => ?_)
      · refine put w _ i S1 _ hw (by omega) r0 ?_
        have := ih (i + 1) (w ++ [l.getD i 0]) _ (by omega) (by omega) (wd_push hw r0 (by omega)) (by rw [List.length_append, List.length_singleton]; omega) (fc_tr hf (fc_tr (fc_gI (Or.inr rfl)) (fc_gI (Or.inl ⟨rfl, rfl⟩)))) hp.2
        rw [une_ne z]
        rw [List.append_assoc] at this
        exact this
      · have z1 : l.getD i 0 = 126 := by omega
        have c2 : i + 1 < E := by
          by_cases c2 : i + 1 < E
          · exact c2
          · rw [List.drop_eq_nil_of_le (show (l.take E).length ≤ i + 1 by rw [List.length_take]; omega)] at hp
            rcases hp.1 with q | q | q
            · exact absurd z1 q
            · cases q
            · cases q
        have ed2 := drop_take_s (l := l) (i := i + 1) (e := E) c2 hE
        have r1 := p4 _ (getD_in (q := l) (t := i + 1) (by omega))
        rw [ed2] at hp
        have hp3 := hp.2
        unfold ptOK at hp3
        rw [Bool.and_eq_true] at hp3
        have y01 : l.getD (i + 1) 0 = 48 ∨ l.getD (i + 1) 0 = 49 := by
          rcases hp.1 with q | q | q
          · exact absurd z1 q
          · exact Or.inl q
          · exact Or.inr q
        rw [z1, ed2, une_126]
        refine ev_gv ?_
        refine ev_gg (by first | omega | (constructor <;> omega)) ?_
        refine ev_gv ?_
        rw [show (i : Int) + 1 = ((i + 1 : Nat) : Int) by omega, Int.toNat_natCast, fc_i hf (show ¬ wdP 518 (i + 1) by omega), p3 (i + 1) (by omega)]
        refine ev_gg (by first | omega | (constructor <;> omega)) ?_
        have go : ∀ x : Int, 0 ≤ x ∧ x < 256 → Ev (fun n => f_X12_wordOf n d 50 S1 [(E : Int), ((i + 1 : Nat) : Int), x]) (fun _ S2 => WD S2 (w ++ x :: une ((l.take E).drop (i + 1 + 1))) ∧ FC wdP S S2) := by
          intro x hx
          refine put w x (i + 1) S1 _ hw (by omega) hx ?_
          have := ih (i + 1 + 1) (w ++ [x]) _ (by omega) (by omega) (wd_push hw hx (by omega)) (by rw [List.length_append, List.length_singleton]; omega) (fc_tr hf (fc_tr (fc_gI (Or.inr rfl)) (fc_gI (Or.inl ⟨rfl, rfl⟩)))) hp3.2
          rw [List.append_assoc] at this
          exact this
        refine ev_ite (fun z5 => ?_) (fun z5 => ?_)
        · rw [if_neg z5]
          exact go 47 (by decide)
        · rw [if_pos (by omega)]
          exact go 126 (by decide)
  refine ev_up (fun n => e_X12_wordOf_0) ?_
  unfold b_X12_wordOf_0
  refine ev_gv ?_
  have := lp (E - A) A [] _ (Nat.le_refl _) (by omega) wd_nil (Nat.zero_le _) (fc_gI (Or.inl ⟨rfl, rfl⟩)) ho
  rw [List.nil_append] at this
  exact this
end RPA
