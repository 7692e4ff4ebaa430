/-! PATHS: the Route of the class -/
def slP : List Int → Nat → List Nat
  | [], _ => []
  | x :: r, i => if x = 47 then (i + 1) :: slP r (i + 1) else slP r (i + 1)
theorem slP_snoc {x : Int} : ∀ (A : List Int) (i : Nat), slP (A ++ [x]) i = slP A i ++ (if x = 47 then [i + A.length + 1] else [])
  | [], i => by
    show (if x = 47 then (i + 1) :: slP [] (i + 1) else slP [] (i + 1)) = _
    split <;> rfl
  | y :: A, i => by
    have e := slP_snoc (x := x) A (i + 1)
    have el : i + 1 + A.length + 1 = i + (y :: A).length + 1 := by simp; omega
    rw [el] at e
    show (if y = 47 then (i + 1) :: slP (A ++ [x]) (i + 1) else slP (A ++ [x]) (i + 1)) = (if y = 47 then (i + 1) :: slP A (i + 1) else slP A (i + 1)) ++ _
    rw [e]
    split <;> rfl
theorem slP_len : ∀ (A : List Int) (i : Nat), (slP A i).length ≤ A.length
  | [], _ => Nat.le_refl _
  | x :: r, i => by
    have := slP_len r (i + 1)
    unfold slP
    split
    · simp only [List.length_cons]; omega
    · simp only [List.length_cons]; omega
theorem slP_r : ∀ (A : List Int) (i : Nat), ∀ p ∈ slP A i, i < p ∧ p ≤ i + A.length
  | [], _, p, h => by cases h
  | x :: r, i, p, h => by
    unfold slP at h
    have k := slP_r r (i + 1)
    simp only [List.length_cons]
    split at h
    · rcases List.mem_cons.mp h with e | e
      · omega
      · have := k p e; omega
    · have := k p h; omega
/-- a ~ has its sign -/
def ptOK : List Int → Bool
  | [] => true
  | x :: r => (decide (x ≠ 126 ∨ hdI r = 48 ∨ hdI r = 49)) && ptOK r
abbrev isP (l : List Int) : Prop := (l = [] ∨ hdI l = 47) ∧ ptOK l = true
def une : List Int → List Int
  | [] => []
  | [x] => [if x = 126 then 47 else x]
  | x :: y :: r => if x = 126 then (if y = 48 then 126 else 47) :: une r else x :: une (y :: r)
theorem une_126 {y : Int} {r : List Int} : une (126 :: y :: r) = (if y = 48 then 126 else 47) :: une r := by
  show (if (126 : Int) = 126 then _ else _) = _
  rw [if_pos rfl]
theorem une_ne {x : Int} {r : List Int} (h : x ≠ 126) : une (x :: r) = x :: une r := by
  cases r with
  | nil =>
    show [if x = 126 then 47 else x] = [x]
    rw [if_neg h]
  | cons y r =>
    show (if x = 126 then _ else _) = _
    rw [if_neg h]
theorem une_len : ∀ (l : List Int), (une l).length ≤ l.length
  | [] => Nat.le_refl _
  | [x] => Nat.le_refl _
  | x :: y :: r => by
    have a := une_len r
    have b := une_len (y :: r)
    show (if x = 126 then (if y = 48 then 126 else 47) :: une r else x :: une (y :: r)).length ≤ _
    simp only [List.length_cons] at b ⊢
    split
    · simp only [List.length_cons]; omega
    · simp only [List.length_cons]; omega
theorem une_r {b : Int} (hb : 127 ≤ b) : ∀ {l : List Int}, (∀ x ∈ l, 0 ≤ x ∧ x < b) → ∀ x ∈ une l, 0 ≤ x ∧ x < b
  | [], _, x, hx => by cases hx
  | [y], h, x, hx => by
    have := h y List.mem_cons_self
    have hx' : x ∈ [if y = 126 then 47 else y] := hx
    simp only [List.mem_cons, List.not_mem_nil, or_false] at hx'
    rw [hx']
    split <;> omega
  | y :: z :: r, h, x, hx => by
    have hy := h y List.mem_cons_self
    have a := une_r (b := b) hb (l := r) (fun w hw => h w (List.mem_cons_of_mem _ (List.mem_cons_of_mem _ hw)))
    have c := une_r (b := b) hb (l := z :: r) (fun w hw => h w (List.mem_cons_of_mem _ hw))
    have hx' : x ∈ (if y = 126 then (if z = 48 then 126 else 47) :: une r else y :: une (z :: r)) := hx
    split at hx'
    · rcases List.mem_cons.mp hx' with e | e
      · rw [e]; split <;> omega
      · exact a x e
    · rcases List.mem_cons.mp hx' with e | e
      · rw [e]; exact hy
      · exact c x e
theorem atD_drop {l : List Int} {i : Nat} : atD l (i : Int) = hdI (l.drop i) := by
  by_cases h : i < l.length
  · rw [atD_nat h, drop_one h]; rfl
  · rw [atD_no (Or.inr (by omega)), List.drop_eq_nil_of_le (by omega)]; rfl
/-- where a WORD begins; past the end, if there is none -/
def stA (l : List Int) (k : Int) : Int := if 0 ≤ k ∧ k < ((slP l 0).length : Int) then ((slP l 0).getD k.toNat 0 : Int) else (l.length : Int) + 1
def wdA (l : List Int) (k : Nat) : List Int := une ((l.take (stA l ((k : Int) + 1) - 1).toNat).drop (stA l k).toNat)
def nW (l : List Int) : Nat := (slP l 0).length
theorem gDn_mem {l : List Nat} {j : Nat} (h : j < l.length) : l.getD j 0 ∈ l := by
  rw [List.getD_eq_getElem?_getD, List.getElem?_eq_getElem h]
  exact List.getElem_mem h
theorem stA_r {l : List Int} (k : Int) : 1 ≤ stA l k ∧ stA l k ≤ (l.length : Int) + 1 := by
  unfold stA
  split
  · rename_i h
    have := slP_r l 0 _ (gDn_mem (l := slP l 0) (j := k.toNat) (by omega))
    omega
  · omega
theorem rS_r {a : Nat} (h : gRo a) : (rS a = 436 ∨ rS a = 448) ∧ (rW a = 438 ∨ rW a = 450) := by
  rcases h with rfl | rfl <;> decide
theorem rS_g {a : Nat} (h : gRo a) : gSh (rS a) ∧ gSh (rW a) ∧ rS a ≠ rW a ∧ g_room (rS a + 1) = 400 ∧ g_room (rW a + 1) = 400 := by
  rcases h with rfl | rfl <;> decide
/-- a Route that holds a PATH -/
def RoS (a : Nat) (l : List Int) (S : GS) : Prop := SV S (rS a) l ∧ S.1 a 3 = ((slP l 0).length : Int) ∧ ∀ k, k < (slP l 0).length → S.1 (a + 1) k = ((slP l 0).getD k 0 : Int)
abbrev roM (a : Nat) : Nat → Prop := fun k => k = a ∨ k = a + 1
theorem ro_fr {a : Nat} {l : List Int} {S S1 : GS} {M : Nat → Prop} (h : RoS a l S) (hf : Fr M S S1) (h1 : ¬ M a) (h2 : ¬ M (a + 1)) (h3 : ¬ M (rS a)) (h4 : ¬ M (rS a + 1)) : RoS a l S1 := by
  obtain ⟨e1, e2, e3⟩ := h
  refine ⟨sv_fr e1 hf h3 h4, by rw [(hf _ h1).1]; exact e2, fun k hk => by rw [(hf _ h2).1]; exact e3 k hk⟩
section RO
variable {S S0 : GS} {a d : Nat} {l : List Int}
theorem ro_len (h : RoS a l S) (ha : gRo a) : l.length ≤ 400 := by
  have := h.1.2.1
  rw [(rS_g ha).2.2.2.1] at this
  exact this
theorem ro_36 (ha : gRo a) (hd : 1 ≤ d) : ∀ (m i : Nat) (b : Int) (S : GS), l.length - i < m → i ≤ l.length → (b = 0 ∨ b = 1) → SV S (rS a) l → S.1 a 3 = ((slP (l.take i) 0).length : Int) → (∀ k, k < (slP (l.take i) 0).length → S.1 (a + 1) k = ((slP (l.take i) 0).getD k 0 : Int)) → Fr (roM a) S0 S → Good S → Ev (fun n => f_X7_divide n d 36 S [((a : Nat) : Int), b, (i : Int)]) (fun x S1 => x = (if b = 1 ∧ ptOK (l.drop i) = true then 1 else 0) ∧ (x = 1 → RoS a l S1) ∧ Fr (roM a) S0 S1 ∧ Good S1) := by
  have g1 := rS_g ha
  have g2 := rS_r ha
  intro m
  induction m with
  | zero => intros; omega
  | succ m ih =>
    intro i b S h1 h2 hb hv h3 h4 hf hG
    have ll : l.length ≤ 400 := by have := hv.2.1; rw [g1.2.2.2.1] at this; exact this
    have sl := slP_len (l.take i) 0
    have slt : (l.take i).length = i := by simp; omega
    by_cases hi : i < l.length
    · by_cases hb1 : b = 1
      · subst hb1
        have ed := drop_one hi
        have rr := sv_at hv hi
        have e0 := rd_as (s9_at (d := d - 1) (i := (i : Int)) g1.1 hv (by constructor <;> omega)) (atD_nat hi)
        have e1 := rd_as (s9_at (d := d - 1) (i := (i : Int) + 1) g1.1 hv (by constructor <;> omega)) (show atD l ((i : Int) + 1) = hdI (l.drop (i + 1)) from by rw [← atD_drop]; rfl)
        have rb : -1 ≤ hdI (l.drop (i + 1)) ∧ hdI (l.drop (i + 1)) < 65536 := by
          rw [← atD_drop]
          exact sv_wb hv
        have es : slP (l.take (i + 1)) 0 = slP (l.take i) 0 ++ (if l.getD i 0 = 47 then [i + 1] else []) := by
          have et : l.take (i + 1) = l.take i ++ [l.getD i 0] := by
            rw [List.take_succ, List.getD_eq_getElem?_getD, List.getElem?_eq_getElem hi]
            rfl
          rw [et, slP_snoc, slt]
          simp
        have cast1 : ((i : Int) + 1) = ((i + 1 : Nat) : Int) := by omega
        have nx : ∀ b', (b' = 0 ∨ b' = 1) → l.getD i 0 ≠ 47 → Ev (fun n => f_X7_divide n d 36 S [((a : Nat) : Int), b', (i : Int) + 1]) (fun x S1 => x = (if b' = 1 ∧ ptOK (l.drop (i + 1)) = true then 1 else 0) ∧ (x = 1 → RoS a l S1) ∧ Fr (roM a) S0 S1 ∧ Good S1) := by
          intro b' hb' hn
          rw [cast1]
          rw [if_neg hn, List.append_nil] at es
          exact ih (i + 1) b' S (by omega) (by omega) hb' hv (by rw [es]; exact h3) (by rw [es]; exact h4) hf hG
        rw [ed]
        have ep : ptOK (l.getD i 0 :: l.drop (i + 1)) = (decide (l.getD i 0 ≠ 126 ∨ hdI (l.drop (i + 1)) = 48 ∨ hdI (l.drop (i + 1)) = 49) && ptOK (l.drop (i + 1))) := rfl
        rw [ep]
        by_cases c1 : l.getD i 0 = 126
        · by_cases c2 : hdI (l.drop (i + 1)) = 48 ∨ hdI (l.drop (i + 1)) = 49
          · rw [decide_eq_true (show l.getD i 0 ≠ 126 ∨ hdI (l.drop (i + 1)) = 48 ∨ hdI (l.drop (i + 1)) = 49 from Or.inr c2), Bool.true_and]
            have k := nx 1 (Or.inr rfl) (by omega)
            refine ev_up (fun n => e_X7_divide_36) ?_
            unfold b_X7_divide_36
            repeat' (first
              | with_reducible refine ev_gv ?_
              | with_reducible refine ev_gg ?_ ?_
              | with_reducible refine ev_ite (fun _ => ?_) (fun _ => ?_)
              | refine ev_gcr (s9_length g1.1 hv) ?_
              | refine ev_gcr (e1) ?_
              | refine ev_gcr (e0) ?_
              | omega
              | assumption)
            all_goals exact k
          · rw [decide_eq_false (show ¬ (l.getD i 0 ≠ 126 ∨ hdI (l.drop (i + 1)) = 48 ∨ hdI (l.drop (i + 1)) = 49) from fun z => z.elim (fun w => w c1) c2), Bool.false_and]
            have k := nx 0 (Or.inl rfl) (by omega)
            simp only [show ¬ ((0 : Int) = 1) by decide, false_and, if_false] at k
            simp only [Bool.false_eq_true, and_false, if_false]
            refine ev_up (fun n => e_X7_divide_36) ?_
            unfold b_X7_divide_36
            repeat' (first
              | with_reducible refine ev_gv ?_
              | with_reducible refine ev_gg ?_ ?_
              | with_reducible refine ev_ite (fun _ => ?_) (fun _ => ?_)
              | refine ev_gcr (s9_length g1.1 hv) ?_
              | refine ev_gcr (e1) ?_
              | refine ev_gcr (e0) ?_
              | omega
              | assumption)
            all_goals exact k
        · rw [decide_eq_true (show l.getD i 0 ≠ 126 ∨ hdI (l.drop (i + 1)) = 48 ∨ hdI (l.drop (i + 1)) = 49 from Or.inl c1), Bool.true_and]
          by_cases c3 : l.getD i 0 = 47
          · rw [if_pos c3] at es
            have st : ∀ x, (gI S (a + 1) (S.1 a 3).toNat x).1 a 3 = S.1 a 3 := fun x => gI_c (by omega)
            have k : Ev (fun n => f_X7_divide n d 36 (gI (gI S (a + 1) (S.1 a 3).toNat ((i : Int) + 1)) a 3 (S.1 a 3 + 1)) [((a : Nat) : Int), 1, (i : Int) + 1]) (fun x S1 => x = (if (1 : Int) = 1 ∧ ptOK (l.drop (i + 1)) = true then 1 else 0) ∧ (x = 1 → RoS a l S1) ∧ Fr (roM a) S0 S1 ∧ Good S1) := by
              rw [cast1]
              have f2 : Fr (roM a) S (gI (gI S (a + 1) (S.1 a 3).toNat ((i + 1 : Nat) : Int)) a 3 (S.1 a 3 + 1)) := fr_tr (fr_gI (Or.inr rfl)) (fr_gI (Or.inl rfl))
              refine ih (i + 1) 1 _ (by omega) (by omega) (Or.inr rfl) (sv_fr hv f2 (by omega) (by omega)) ?_ ?_ (fr_tr hf f2) (good_gI (good_gI hG (by constructor <;> omega) (fun q => by unfold isC at q; omega)) (by constructor <;> omega) (fun q => by unfold isC at q; omega))
              · rw [gI_a, es, h3]; simp
              · intro j hj
                rw [es] at hj ⊢
                rw [List.length_append] at hj
                simp only [List.length_cons, List.length_nil] at hj
                rw [gI_c (by omega)]
                by_cases q : j = (slP (l.take i) 0).length
                · subst q
                  rw [show (S.1 a 3).toNat = (slP (l.take i) 0).length by omega, gI_a]
                  rw [List.getD_eq_getElem?_getD, List.getElem?_append_right (Nat.le_refl _)]
                  simp
                · rw [gI_k (by omega), h4 j (by omega)]
                  rw [List.getD_eq_getElem?_getD, List.getD_eq_getElem?_getD, List.getElem?_append_left (by omega)]
            refine ev_up (fun n => e_X7_divide_36) ?_
            unfold b_X7_divide_36
            repeat' (first
              | with_reducible refine ev_gv ?_
              | with_reducible refine ev_gg ?_ ?_
              | with_reducible refine ev_ite (fun _ => ?_) (fun _ => ?_)
              | refine ev_gcr (s9_length g1.1 hv) ?_
              | refine ev_gcr (e1) ?_
              | refine ev_gcr (e0) ?_
              | omega
              | assumption)
            rw [st]
            exact k
          · have k := nx 1 (Or.inr rfl) c3
            refine ev_up (fun n => e_X7_divide_36) ?_
            unfold b_X7_divide_36
            repeat' (first
              | with_reducible refine ev_gv ?_
              | with_reducible refine ev_gg ?_ ?_
              | with_reducible refine ev_ite (fun _ => ?_) (fun _ => ?_)
              | refine ev_gcr (s9_length g1.1 hv) ?_
              | refine ev_gcr (e1) ?_
              | refine ev_gcr (e0) ?_
              | omega
              | assumption)
            all_goals exact k
      · have : b = 0 := by omega
        subst this
        simp only [show ¬ ((0 : Int) = 1) by decide, false_and, if_false]
        refine ev_up (fun n => e_X7_divide_36) ?_
        unfold b_X7_divide_36
        repeat' (first
          | with_reducible refine ev_gv ?_
          | with_reducible refine ev_gg ?_ ?_
          | with_reducible refine ev_ite (fun _ => ?_) (fun _ => ?_)
          | refine ev_gcr (s9_length g1.1 hv) ?_
          | omega
          | assumption)
        exact ev_ret ⟨rfl, fun z => absurd z (by decide), hf, hG⟩
    · have hil : i = l.length := by omega
      subst hil
      rw [List.drop_length]
      rw [List.take_length] at h3 h4
      refine ev_up (fun n => e_X7_divide_36) ?_
      unfold b_X7_divide_36
      repeat' (first
        | with_reducible refine ev_gv ?_
        | with_reducible refine ev_gg ?_ ?_
        | with_reducible refine ev_ite (fun _ => ?_) (fun _ => ?_)
        | refine ev_gcr (s9_length g1.1 hv) ?_
        | omega
        | assumption)
      refine ev_ret ⟨?_, fun _ => ⟨hv, h3, h4⟩, hf, hG⟩
      rcases hb with e | e <;> subst e <;> rfl
theorem ro_divide (ha : gRo a) (hd : 2 ≤ d) (hv : SV S (rS a) l) (hG : Good S) : Ev (fun n => f_X7_divide n d 0 S [((a : Nat) : Int)]) (fun x S1 => ((isP l ∧ x = 1 ∧ RoS a l S1) ∨ (¬ isP l ∧ x = 0)) ∧ Fr (roM a) S S1 ∧ Good S1) := by
  have g1 := rS_g ha
  have g2 := rS_r ha
  have f1 : Fr (roM a) S (gI S a 3 0) := fr_gI (Or.inl rfl)
  have v1 : SV (gI S a 3 0) (rS a) l := sv_fr hv f1 (by omega) (by omega)
  have G1 : Good (gI S a 3 0) := good_gI hG (by decide) (fun q => by unfold isC at q; omega)
  have ll : l.length ≤ 400 := by have := hv.2.1; rw [g1.2.2.2.1] at this; exact this
  have k := fun b hb => ro_36 (S0 := S) (l := l) (d := d) ha (by omega) (l.length + 1) 0 b _ (by omega) (by omega) hb v1 gI_a (fun k hk => absurd hk (by simp [slP])) f1 G1
  have e0 := rd_as (s9_at (d := d - 1) (i := (0 : Int)) g1.1 v1 (by decide)) (show atD l 0 = hdI l from by have := atD_drop (l := l) (i := 0); simpa using this)
  have rb : -1 ≤ hdI l ∧ hdI l < 65536 := by
    have := sv_wb (i := 0) v1
    rw [atD_drop, List.drop_zero] at this
    exact this
  have fin : ∀ b : Int, (b = 0 ∨ b = 1) → (b = 1 ↔ (l = [] ∨ hdI l = 47)) → Ev (fun n => f_X7_divide n d 36 (gI S a 3 0) [((a : Nat) : Int), b, ((0 : Nat) : Int)]) (fun x S1 => ((isP l ∧ x = 1 ∧ RoS a l S1) ∨ (¬ isP l ∧ x = 0)) ∧ Fr (roM a) S S1 ∧ Good S1) := by
    intro b hb hbb
    refine ev_mono (k b hb) (fun x S1 q => ⟨?_, q.2.2.1, q.2.2.2⟩)
    obtain ⟨q1, q2, -⟩ := q
    rw [List.drop_zero] at q1
    by_cases hp : isP l
    · left
      have : x = 1 := by rw [q1, if_pos ⟨hbb.mpr hp.1, hp.2⟩]
      exact ⟨hp, this, q2 this⟩
    · right
      refine ⟨hp, ?_⟩
      rw [q1, if_neg (fun z => hp ⟨hbb.mp z.1, z.2⟩)]
  refine ev_up (fun n => e_X7_divide_0) ?_
  unfold b_X7_divide_0
  refine ev_gg ha ?_
  refine ev_gv ?_
  refine ev_gg (by omega) ?_
  refine ev_gcr (s9_length g1.1 v1) ?_
  refine ev_gg (by constructor <;> omega) ?_
  by_cases c : l = []
  · refine ev_ite (fun _ => ?_) (fun z => absurd (by rw [c]; rfl) z)
    exact fin 1 (Or.inr rfl) ⟨fun _ => Or.inl c, fun _ => rfl⟩
  · refine ev_ite (fun z => absurd (List.eq_nil_of_length_eq_zero (by omega)) c) (fun _ => ?_)
    refine ev_gcr e0 ?_
    refine ev_gg (by constructor <;> omega) ?_
    by_cases c2 : hdI l = 47
    · refine ev_ite (fun z => absurd c2 z) (fun _ => ?_)
      exact fin 1 (Or.inr rfl) ⟨fun _ => Or.inr c2, fun _ => rfl⟩
    · refine ev_ite (fun _ => ?_) (fun z => absurd (fun w => c2 w) z)
      exact fin 0 (Or.inl rfl) ⟨fun z => absurd z (by decide), fun z => z.elim (fun w => absurd w c) (fun w => absurd w c2)⟩
/-- what loading a Route may touch -/
abbrev rlM (a : Nat) : Nat → Prop := fun k => roM a k ∨ shM (rS a) k
theorem ro_load {c : Nat} (ha : gRo a) (hc : gSh c) (hne : c ≠ rS a) (hd : 3 ≤ d) (hv : SV S c l) (hG : Good S) (hl : l.length ≤ 400) : Ev (fun n => f_X7_load n d 0 S [((a : Nat) : Int), ((c : Nat) : Int)]) (fun x S1 => ((isP l ∧ x = 1 ∧ RoS a l S1) ∨ (¬ isP l ∧ x = 0)) ∧ Fr (rlM a) S S1 ∧ Good S1) := by
  have g1 := rS_g ha
  have g2 := rS_r ha
  refine ev_up (fun n => e_X7_load_0) ?_
  unfold b_X7_load_0
  refine ev_gg ha ?_
  refine ev_gg (by omega) ?_
  refine ev_gc (sx_clear g1.1 hG) (fun _ S1 s1 => ?_)
  refine ev_gg hc ?_
  have v1 := sv_sx g1.1 hc hne hv s1
  refine ev_gcr (s9_length hc v1) ?_
  have ap := s9_addPart (d := d - 1) (c := rS a) (c2 := c) (i := 0) (t := l.length) g1.1 hc hne (by omega) (Nat.le_refl _) (by decide) v1 (sx_rf s1.2.2 s1.1) (by rw [g1.2.2.2.1]; simp; omega)
  rw [List.take_length, List.drop_zero, List.nil_append] at ap
  refine ev_gc ap (fun _ S2 s2 => ?_)
  refine ev_gc (ro_divide (d := d - 1) ha (by omega) s2.1 s2.2.2) (fun x S3 q3 => ?_)
  obtain ⟨q1, q2, q3⟩ := q3
  refine ev_gg (by rcases q1 with z | z <;> omega) ?_
  exact ev_ret ⟨q1, fr_tr (fr_mono s1.2.1 (fun _ z => Or.inr z)) (fr_tr (fr_mono s2.2.1 (fun _ z => Or.inr z)) (fr_mono q2 (fun _ z => Or.inl z))), q3⟩
theorem ro_loadText {c : Nat} {V : List ND} {i : Int} (ha : gRo a) (hc : gT c) (hd : 3 ≤ d) (hv : TV S c V) (hG : Good S) (hi : inr i) : Ev (fun n => f_X7_loadText n d 0 S [((a : Nat) : Int), ((c : Nat) : Int), i]) (fun x S1 => (((kdI V i = 3 ∧ isP (tI V i)) ∧ x = 1 ∧ RoS a (tI V i) S1) ∨ (¬ (kdI V i = 3 ∧ isP (tI V i)) ∧ x = 0)) ∧ Fr (rlM a) S S1 ∧ Good S1) := by
  have g1 := rS_g ha
  have g2 := rS_r ha
  have tr := tI_r hv i
  refine ev_up (fun n => e_X7_loadText_0) ?_
  unfold b_X7_loadText_0
  refine ev_gg ha ?_
  refine ev_gg (by omega) ?_
  refine ev_gc (sx_clear g1.1 hG) (fun _ S1 s1 => ?_)
  refine ev_gg hc ?_
  have v1 := tv_sx hc g1.1 hv s1
  have st := t_signsTo (d := d - 1) (c := c) (s := rS a) hc g1.1 (by omega) v1 hi (sx_rf s1.2.2 s1.1) (by rw [g1.2.2.2.1]; simp; omega)
  rw [List.nil_append] at st
  refine ev_gc st (fun _ S2 s2 => ?_)
  have v2 := tv_sx hc g1.1 v1 s2
  have m2 : Fr (rlM a) S S2 := fr_tr (fr_mono s1.2.1 (fun _ z => Or.inr z)) (fr_mono s2.2.1 (fun _ z => Or.inr z))
  have ei : isI V i 3 = if kdI V i = 3 then 1 else 0 := by
    unfold isI kdI
    by_cases q : 0 ≤ i ∧ i < (V.length : Int)
    · simp [q]
    · simp [q]
  by_cases c3 : kdI V i = 3
  · rw [if_pos c3] at ei
    refine ev_gcr (rd_as (t_is (d := d - 1) hc v2 hi (by decide)) ei) ?_
    repeat' (first
      | with_reducible refine ev_gv ?_
      | with_reducible refine ev_gg ?_ ?_
      | with_reducible refine ev_ite (fun _ => ?_) (fun _ => ?_)
      | omega
      | assumption)
    refine ev_gc (ro_divide (d := d - 1) ha (by omega) s2.1 s2.2.2) (fun x S3 q3 => ?_)
    obtain ⟨q1, q2, q3⟩ := q3
    have m3 : Fr (rlM a) S S3 := fr_tr m2 (fr_mono q2 (fun _ z => Or.inl z))
    rcases q1 with ⟨p1, p2, p3⟩ | ⟨p1, p2⟩
    · subst p2
      repeat' (first
        | with_reducible refine ev_gv ?_
        | with_reducible refine ev_gg ?_ ?_
        | with_reducible refine ev_ite (fun _ => ?_) (fun _ => ?_)
        | omega
        | assumption)
      exact ev_ret ⟨Or.inl ⟨⟨c3, p1⟩, rfl, p3⟩, m3, q3⟩
    · subst p2
      repeat' (first
        | with_reducible refine ev_gv ?_
        | with_reducible refine ev_gg ?_ ?_
        | with_reducible refine ev_ite (fun _ => ?_) (fun _ => ?_)
        | omega
        | assumption)
      exact ev_ret ⟨Or.inr ⟨fun z => p1 z.2, rfl⟩, m3, q3⟩
  · rw [if_neg c3] at ei
    refine ev_gcr (rd_as (t_is (d := d - 1) hc v2 hi (by decide)) ei) ?_
    repeat' (first
      | with_reducible refine ev_gv ?_
      | with_reducible refine ev_gg ?_ ?_
      | with_reducible refine ev_ite (fun _ => ?_) (fun _ => ?_)
      | omega
      | assumption)
    exact ev_ret ⟨Or.inr ⟨fun z => c3 z.1, rfl⟩, m2, s2.2.2⟩
theorem ro_startOf {k : Int} (ha : gRo a) (h : RoS a l S) (hd : 1 ≤ d) (hk : inr k) : Rd (fun n => f_X7_startOf n d 0 S [((a : Nat) : Int), k]) (stA l k) S := by
  have g1 := rS_g ha
  have ll := ro_len h ha
  have sl := slP_len l 0
  obtain ⟨h1, h2, h3⟩ := h
  unfold stA
  by_cases c : 0 ≤ k ∧ k < ((slP l 0).length : Int)
  · rw [if_pos c]
    have e := h3 k.toNat (by omega)
    refine ev_up (fun n => e_X7_startOf_0) ?_
    unfold b_X7_startOf_0
    repeat' (first
      | with_reducible refine ev_gv ?_
      | with_reducible refine ev_gg ?_ ?_
      | with_reducible refine ev_ite (fun _ => ?_) (fun _ => ?_)
      | refine ev_gcr (s9_length g1.1 h1) ?_
      | omega
      | assumption)
    exact ev_ret ⟨e, rfl⟩
  · rw [if_neg c]
    refine ev_up (fun n => e_X7_startOf_0) ?_
    unfold b_X7_startOf_0
    repeat' (first
      | with_reducible refine ev_gv ?_
      | with_reducible refine ev_gg ?_ ?_
      | with_reducible refine ev_ite (fun _ => ?_) (fun _ => ?_)
      | refine ev_gcr (s9_length g1.1 h1) ?_
      | omega
      | assumption)
    all_goals exact ev_ret ⟨rfl, rfl⟩
theorem ro_steps (ha : gRo a) (h : RoS a l S) : Rd (fun n => f_X7_steps n d 0 S [((a : Nat) : Int)]) (nW l) S := by
  refine ev_up (fun n => e_X7_steps_0) ?_
  unfold b_X7_steps_0
  repeat' (first
    | with_reducible refine ev_gv ?_
    | with_reducible refine ev_gg ?_ ?_
    | with_reducible refine ev_ite (fun _ => ?_) (fun _ => ?_)
    | omega
    | assumption)
  exact ev_ret ⟨h.2.1, rfl⟩
end RO
