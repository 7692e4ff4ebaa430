/-! THE REFERENCE joins: VALUES of MAPS -/
/-- what joining rests on -/
abbrev JE (cO cA cB : Nat) (O A B : List ND) (S : GS) : Prop := JDo cO cA cB S ∧ LK S cO O ∧ LK S cA A ∧ LK S cB B
theorem je_fr {P : Nat → Nat → Prop} {S S1 : GS} {cO cA cB : Nat} {O A B : List ND} (h : JE cO cA cB O A B S) (hf : FC P S S1) (h1 : ¬ P 500 44 ∧ ¬ P 500 45 ∧ ¬ P 500 46) (h2 : ∀ j, (6161 * cO ≤ j ∧ j < 6161 * cO + 6161) ∨ (6161 * cA ≤ j ∧ j < 6161 * cA + 6161) ∨ (6161 * cB ≤ j ∧ j < 6161 * cB + 6161) → ¬ P 501 j) (h3 : ¬ P 502 cO ∧ ¬ P 502 cA ∧ ¬ P 502 cB) : JE cO cA cB O A B S1 :=
  ⟨⟨by rw [fc_i hf h1.1]; exact h.1.1, by rw [fc_i hf h1.2.1]; exact h.1.2.1, by rw [fc_i hf h1.2.2]; exact h.1.2.2⟩, lk_fr h.2.1 hf (fun j a b => h2 j (Or.inl ⟨a, b⟩)) h3.1, lk_fr h.2.2.1 hf (fun j a b => h2 j (Or.inr (Or.inl ⟨a, b⟩))) h3.2.1, lk_fr h.2.2.2 hf (fun j a b => h2 j (Or.inr (Or.inr ⟨a, b⟩))) h3.2.2⟩
/-- an open MAP -/
abbrev JF (S : GS) (t : Nat) (o : Int) (a b ix : Nat) (p : List Int) : Prop := (S.1 528 t = o ∧ S.1 529 t = (a : Int) ∧ S.1 530 t = (b : Int)) ∧ S.1 533 t = (ix : Int) ∧ S.1 534 t = (p.length : Int) ∧ ∀ i, i < p.length → S.1 518 i = p.getD i 0
theorem jf_fr {P : Nat → Nat → Prop} {S S1 : GS} {t : Nat} {o : Int} {a b ix : Nat} {p : List Int} (h : JF S t o a b ix p) (hf : FC P S S1) (h1 : ¬ P 528 t ∧ ¬ P 529 t ∧ ¬ P 530 t ∧ ¬ P 533 t ∧ ¬ P 534 t) (h2 : ∀ i, i < p.length → ¬ P 518 i) : JF S1 t o a b ix p :=
  ⟨⟨by rw [fc_i hf h1.1]; exact h.1.1, by rw [fc_i hf h1.2.1]; exact h.1.2.1, by rw [fc_i hf h1.2.2.1]; exact h.1.2.2⟩, by rw [fc_i hf h1.2.2.2.1]; exact h.2.1, by rw [fc_i hf h1.2.2.2.2]; exact h.2.2.1, fun i hi => by rw [fc_i hf (h2 i hi)]; exact h.2.2.2 i hi⟩
abbrev jlP (top pl : Nat) : Nat → Nat → Prop := fun c j => joP c j ∨ wdP c j ∨ (c = 500 ∧ j = 29) ∨ (c = 518 ∧ pl ≤ j) ∨ ((528 ≤ c ∧ c ≤ 534) ∧ top ≤ j)
theorem jl_jo {t p c j : Nat} (z : joP c j) : jlP t p c j := Or.inl z
theorem jl_wd {t p c j : Nat} (z : wdP c j) : jlP t p c j := Or.inr (Or.inl z)
theorem jl_29 {t p c j : Nat} (z : c = 500 ∧ j = 29) : jlP t p c j := Or.inr (Or.inr (Or.inl z))
theorem jl_18 {t p c j : Nat} (z : c = 518 ∧ p ≤ j) : jlP t p c j := Or.inr (Or.inr (Or.inr (Or.inl z)))
theorem jl_fr {t p c j : Nat} (z : (528 ≤ c ∧ c ≤ 534) ∧ t ≤ j) : jlP t p c j := Or.inr (Or.inr (Or.inr (Or.inr z)))
theorem jl_up {t t2 p p2 c j : Nat} (ht : t ≤ t2) (hp : p ≤ p2) (z : jlP t2 p2 c j) : jlP t p c j := by
  rcases z with z | z | z | z | z
  · exact jl_jo z
  · exact jl_wd z
  · exact jl_29 z
  · exact jl_18 ⟨z.1, by omega⟩
  · exact jl_fr ⟨z.1, by omega⟩
/-- a VALUE more -/
theorem md_inc {S : GS} {r0 : Option (List ND)} {x : ND} {n s ix : Nat} {R : List ND} (h : MD S 40 (apM r0 (wZ x n :: R))) (hx : ∀ V0, r0 = some V0 → V0.length < 100 → V0.length = ix) (hi : ix ≤ 100) (hn : n + s ≤ 1000) : MD (gI S 501 (6161 * 40 + 61 * ix + 3) (S.1 501 (6161 * 40 + 61 * ix + 3) + (s : Int))) 40 (apM r0 (wZ x (n + s) :: R)) := by
  cases r0 with
  | none => exact md_gN h
  | some V0 =>
    unfold apM at h ⊢
    dsimp only at h ⊢
    have el : (wZ x n :: R).length = (wZ x (n + s) :: R).length := rfl
    rw [← el]
    by_cases c : V0.length + (wZ x n :: R).length ≤ 100
    · rw [if_pos c] at h ⊢
      have lc : (wZ x n :: R).length = R.length + 1 := rfl
      have e := hx V0 rfl (by omega)
      subst e
      have eg : (V0 ++ wZ x n :: R).getD V0.length nd0 = wZ x n := by
        rw [List.getD_eq_getElem?_getD, List.getElem?_append_right (Nat.le_refl _), Nat.sub_self]
        rfl
      have cv : S.1 501 (6161 * 40 + 61 * V0.length + 3) = (n : Int) := by
        have := (h.2.2.2.1 V0.length (by rw [List.length_append]; omega)).2
        rw [eg] at this
        exact this
      have m := md_set3 (i := V0.length) (v := n + s) h hn hi
      rw [cv]
      have es : (V0 ++ wZ x n :: R).set V0.length (wZ ((V0 ++ wZ x n :: R).getD V0.length nd0) (n + s)) = V0 ++ wZ x (n + s) :: R := by
        rw [eg, List.set_append_right _ _ (Nat.le_refl _), Nat.sub_self]
        rfl
      have m2 : MD (gI S 501 (6161 * 40 + 61 * V0.length + 3) ((n + s : Nat) : Int)) 40 (some ((V0 ++ wZ x n :: R).set V0.length (wZ ((V0 ++ wZ x n :: R).getD V0.length nd0) (n + s)))) := m
      rw [es] at m2
      rw [show (n : Int) + (s : Int) = ((n + s : Nat) : Int) by omega]
      exact m2
    · rw [if_neg c] at h ⊢
      exact md_gN h
theorem jnF_cs {O A B : List ND} {f : Nat} {p : List Int} {o a b : Int} : (jCs O A B o a b = 0 → jnF O A B f p o a b = (acT A a, [])) ∧ (jCs O A B o a b = 1 → jnF O A B f p o a b = (acT B b, [])) ∧ (jCs O A B o a b = 3 → jnF O A B f p o a b = ([], [p])) := by
  have all : jnF O A B f p o a b = if alk A a B b ∨ alk B b O o then (acT A a, []) else if alk A a O o then (acT B b, []) else if kdI A a = 5 ∧ kdI B b = 5 ∧ (o = -1 ∨ kdI O o = 5) then jnF O A B f p o a b else ([], [p]) := by
    cases f with
    | zero =>
      have e : jnF O A B 0 p o a b = if alk A a B b ∨ alk B b O o then (acT A a, []) else if alk A a O o then (acT B b, []) else ([], [p]) := rfl
      rw [e]
      split
      · rfl
      · split
        · rfl
        · split <;> rfl
    | succ f =>
      rw [jnF_s]
      by_cases c0 : alk A a B b ∨ alk B b O o
      · rw [if_pos c0, if_pos c0]
      rw [if_neg c0, if_neg c0]
      by_cases c1 : alk A a O o
      · rw [if_pos c1, if_pos c1]
      rw [if_neg c1, if_neg c1]
      by_cases c2 : kdI A a = 5 ∧ kdI B b = 5 ∧ (o = -1 ∨ kdI O o = 5)
      · rw [if_pos c2, if_pos c2]
      · rw [if_neg c2, if_neg c2]
  unfold jCs
  by_cases c0 : alk A a B b ∨ alk B b O o
  · rw [if_pos c0] at all ⊢
    exact ⟨fun _ => all, (fun z => by cases z), (fun z => by cases z)⟩
  rw [if_neg c0] at all ⊢
  by_cases c1 : alk A a O o
  · rw [if_pos c1] at all ⊢
    exact ⟨(fun z => by cases z), fun _ => all, (fun z => by cases z)⟩
  rw [if_neg c1] at all ⊢
  by_cases c2 : kdI A a = 5 ∧ kdI B b = 5 ∧ (o = -1 ∨ kdI O o = 5)
  · rw [if_pos c2]
    exact ⟨(fun z => by cases z), (fun z => by cases z), (fun z => by cases z)⟩
  · rw [if_neg c2] at all ⊢
    exact ⟨(fun z => by cases z), (fun z => by cases z), fun _ => all⟩
/-- VALUES and QUARRELS of a MAP -/
abbrev jvF (O A B : List ND) (f : Nat) (p : List Int) (o a b : Int) : List (List ND) := (j1F (jnF O A B f) O A B a b p (kidI O o)).1 ++ (j2F (jnF O A B f) O A B o b p (kidI A a)).1 ++ j3F O A B o a (kidI B b)
abbrev jqF (O A B : List ND) (f : Nat) (p : List Int) (o a b : Int) : List (List Int) := (j1F (jnF O A B f) O A B a b p (kidI O o)).2 ++ (j2F (jnF O A B f) O A B o b p (kidI A a)).2
theorem jnF_2 {O A B : List ND} {f : Nat} {p : List Int} {o a b : Int} (h : jCs O A B o a b = 2) : (kdI A a = 5 ∧ kdI B b = 5 ∧ (o = -1 ∨ kdI O o = 5)) ∧ jnF O A B (f + 1) p o a b = ([gpN (5, 1, 0, [], kI A a) (jvF O A B f p o a b) (jvF O A B f p o a b).length], jqF O A B f p o a b) := by
  unfold jCs at h
  by_cases c0 : alk A a B b ∨ alk B b O o
  · rw [if_pos c0] at h; cases h
  rw [if_neg c0] at h
  by_cases c1 : alk A a O o
  · rw [if_pos c1] at h; cases h
  rw [if_neg c1] at h
  by_cases c2 : kdI A a = 5 ∧ kdI B b = 5 ∧ (o = -1 ∨ kdI O o = 5)
  · refine ⟨c2, ?_⟩
    rw [jnF_s, if_neg c0, if_neg c1, if_pos c2]
  · rw [if_neg c2] at h; cases h
theorem jcs_4 (O A B : List ND) (o a b : Int) : jCs O A B o a b = 0 ∨ jCs O A B o a b = 1 ∨ jCs O A B o a b = 2 ∨ jCs O A B o a b = 3 := by
  unfold jCs
  split
  · exact Or.inl rfl
  · split
    · exact Or.inr (Or.inl rfl)
    · split
      · exact Or.inr (Or.inr (Or.inl rfl))
      · exact Or.inr (Or.inr (Or.inr rfl))
/-- all VALUES of a MAP are joined -/
def JAll (cO cA cB : Nat) (O A B : List ND) (d f : Nat) : Prop := ∀ (top : Nat) (o : Int) (a b ix : Nat) (p : List Int) (r0 : Option (List ND)) (x : ND) (Q : List (List Int)) (S : GS) (Qf : Int → GS → Prop), top + f ≤ 12 → p.length + 25 * (f + 1) ≤ 325 → rng p → mpO O o → (a < A.length ∧ nk A a = 5) → (b < B.length ∧ nk B b = 5) → dpO A (a : Int) (f + 1) → dpO B (b : Int) (f + 1) → Q.length + (jqF O A B f p o a b).length ≤ 200 → JE cO cA cB O A B S → JF S top o a b ix p → S.1 531 top = 0 → S.1 532 top = (if o = -1 then -1 else o + 1) → ix ≤ 100 → (∀ V0, r0 = some V0 → V0.length < 100 → V0.length = ix) → MD S 40 (apM r0 [wZ x 0]) → QmS Q S → (∀ S1, MD S1 40 (apM r0 (wZ x (jvF O A B f p o a b).length :: ((jvF O A B f p o a b).map mny).flatten)) → QmS (Q ++ jqF O A B f p o a b) S1 → FC (jlP top p.length) S S1 → Ev (fun n => f_X12_joins n d 47 S1 [(top : Int)]) Qf) → Ev (fun n => f_X12_joins n d 47 S [((top + 1 : Nat) : Int)]) Qf
section RJ3
variable {S : GS} {d cO cA cB : Nat} {O A B : List ND}
theorem q_goesInto {t m : Nat} {o a b : Int} (ht : t < 16) (ho : inr o) (hm : S.1 502 40 = (m : Int)) : Ev (fun n => f_X12_goesInto n d 0 S [(t : Int), o, a, b]) (fun _ S1 => (S1.1 528 t = o ∧ S1.1 529 t = a ∧ S1.1 530 t = b) ∧ S1.1 531 t = 0 ∧ S1.1 532 t = (if o = -1 then -1 else o + 1) ∧ S1.1 533 t = (m : Int) - 1 ∧ S1.1 534 t = S.1 500 29 ∧ FC (fun c j => (528 ≤ c ∧ c ≤ 534) ∧ j = t) S S1) := by
  have f1 : FC (fun c j => (528 ≤ c ∧ c ≤ 534) ∧ j = t) S (gI (gI (gI (gI S 528 t o) 529 t a) 530 t b) 531 t 0) := fc_tr (fc_gI ⟨by decide, rfl⟩) (fc_tr (fc_gI ⟨by decide, rfl⟩) (fc_tr (fc_gI ⟨by decide, rfl⟩) (fc_gI ⟨by decide, rfl⟩)))
  have e28 : (gI (gI (gI (gI S 528 t o) 529 t a) 530 t b) 531 t 0).1 528 t = o := by rw [gI_c (by decide), gI_c (by decide), gI_c (by decide), gI_a]
  have e29 : (gI (gI (gI (gI S 528 t o) 529 t a) 530 t b) 531 t 0).1 529 t = a := by rw [gI_c (by decide), gI_c (by decide), gI_a]
  have e30 : (gI (gI (gI (gI S 528 t o) 529 t a) 530 t b) 531 t 0).1 530 t = b := by rw [gI_c (by decide), gI_a]
  have e31 : (gI (gI (gI (gI S 528 t o) 529 t a) 530 t b) 531 t 0).1 531 t = 0 := gI_a
  have p46 : ∀ (S1 : GS) (s0 : Int), S1 = gI (gI (gI (gI S 528 t o) 529 t a) 530 t b) 531 t 0 → s0 = (if o = -1 then -1 else o + 1) → Ev (fun n => f_X12_goesInto n d 46 S1 [(t : Int), s0, (t : Int)]) (fun _ S1 => (S1.1 528 t = o ∧ S1.1 529 t = a ∧ S1.1 530 t = b) ∧ S1.1 531 t = 0 ∧ S1.1 532 t = (if o = -1 then -1 else o + 1) ∧ S1.1 533 t = (m : Int) - 1 ∧ S1.1 534 t = S.1 500 29 ∧ FC (fun c j => (528 ≤ c ∧ c ≤ 534) ∧ j = t) S S1) := by
    intro S1 s0 e1 e0
    rw [← e1] at f1 e28 e29 e30 e31
    refine ev_up (fun n => e_X12_goesInto_46) ?_
    unfold b_X12_goesInto_46
    refine ev_gg (by first | omega | (constructor <;> omega)) ?_
    refine ev_gv ?_
    refine ev_gg (by decide) ?_
    refine ev_gv ?_
    rw [Int.toNat_natCast, show (40 : Int).toNat = 40 from rfl, gI_c (by decide), fc_i f1 (by omega), hm]
    refine ev_gv ?_
    refine ev_gg (by first | omega | (constructor <;> omega)) ?_
    refine ev_gv ?_
    refine ev_gv ?_
    rw [gI_c (by decide), gI_c (by decide), fc_i f1 (by omega)]
    refine ev_gv ?_
    have f2 : FC (fun c j => (528 ≤ c ∧ c ≤ 534) ∧ j = t) S1 (gI (gI (gI S1 532 t s0) 533 t ((m : Int) - 1)) 534 t (S.1 500 29)) := fc_tr (fc_gI ⟨by decide, rfl⟩) (fc_tr (fc_gI ⟨by decide, rfl⟩) (fc_gI ⟨by decide, rfl⟩))
    have k : ∀ c, c ≠ 532 → c ≠ 533 → c ≠ 534 → (gI (gI (gI S1 532 t s0) 533 t ((m : Int) - 1)) 534 t (S.1 500 29)).1 c t = S1.1 c t := fun c h1 h2 h3 => by rw [gI_c h3, gI_c h2, gI_c h1]
    refine ev_ret ⟨⟨by rw [k _ (by decide) (by decide) (by decide)]; exact e28, by rw [k _ (by decide) (by decide) (by decide)]; exact e29, by rw [k _ (by decide) (by decide) (by decide)]; exact e30⟩, by rw [k _ (by decide) (by decide) (by decide)]; exact e31, by rw [gI_c (by decide), gI_c (by decide), gI_a]; exact e0, by rw [gI_c (by decide), gI_a], by rw [gI_a], fc_tr f1 f2⟩
  refine ev_up (fun n => e_X12_goesInto_0) ?_
  unfold b_X12_goesInto_0
  refine ev_gg (by first | omega | (constructor <;> omega)) ?_
  refine ev_gv ?_
  refine ev_gv ?_
  refine ev_gv ?_
  refine ev_gv ?_
  refine ev_gg (ho) ?_
  refine ev_ite (fun z => ?_) (fun z => ?_)
  · refine ev_gv ?_
    exact p46 _ _ rfl (by rw [if_neg z])
  · exact p46 _ _ rfl (by rw [if_pos (by omega)])
end RJ3
