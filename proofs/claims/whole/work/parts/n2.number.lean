/-! THE REFERENCE reads: a NUMBER as it is kept -/
def DgS (S : GS) (F : List Int) : Prop := (F.length ≤ 24 ∧ ∀ x ∈ F, fgC x) ∧ ∀ i, i < F.length → S.1 510 i = F.getD i 0 - 48
/-- the cells that a VALUE fills -/
abbrev vcP (I : Nat) : Nat → Nat → Prop := fun c j => c = 501 ∧ 6161 * 40 + 61 * I + 18 ≤ j ∧ j < 6161 * 40 + 61 * I + 61
theorem lzF_at : ∀ (l : List Int) (i : Nat), i < lzF l → l.getD i 0 = 48
  | [], i, h => by cases h
  | x :: l, i, h => by
    rw [lzF_cons] at h
    by_cases c : x = 48
    · rw [if_pos c] at h
      cases i with
      | zero => exact c
      | succ i => exact lzF_at l i (by omega)
    · rw [if_neg c] at h
      omega
theorem lzF_end : ∀ (l : List Int), lzF l < l.length → l.getD (lzF l) 0 ≠ 48
  | [], h => by cases h
  | x :: l, h => by
    rw [lzF_cons] at h ⊢
    by_cases c : x = 48
    · rw [if_pos c, List.length_cons] at h
      rw [if_pos c]
      exact lzF_end l (by omega)
    · rw [if_neg c]
      exact c
theorem tzF_ge {l : List Int} {f : Nat} : ∀ t, f ≤ t → f ≤ tzF l f t
  | 0, h => h
  | t + 1, h => by
    unfold tzF
    by_cases c : f < t + 1 ∧ l.getD t 0 = 48
    · rw [if_pos c]; exact tzF_ge t (by omega)
    · rw [if_neg c]; exact h
theorem tzF_le2 {l : List Int} {f : Nat} : ∀ t, tzF l f t ≤ t
  | 0 => Nat.le_refl _
  | t + 1 => by
    unfold tzF
    have := tzF_le2 (l := l) (f := f) t
    split <;> omega
section NUM
variable {S : GS} {d : Nat} {F : List Int}
/-- the cells of a NUMBER are told -/
def NuC (S : GS) (a : Nat) (y : ND) : Prop := S.1 501 (a + 18) = ((sgN y).length : Int) ∧ S.1 501 (a + 19) = isN y ∧ S.1 501 (a + 20) = pwN y ∧ ∀ j, j < (sgN y).length → S.1 501 (a + 21 + j) = (sgN y).getD j 0
theorem q_isNumber {i neg m p : Int} {I : Nat} {q : List Int} (hd : 1 ≤ d) (hi : i = (I : Int)) (hI : I ≤ 100) (hneg : neg = 0 ∨ neg = 1) (hm : m = (F.length : Int)) (hF : 1 ≤ F.length) (hp : -200 ≤ p ∧ p ≤ 200) (h : DgS S F) : Ev (fun n => f_X12_isNumber n d 0 S [i, neg, m, p]) (fun x S1 => x = nmOk F p ∧ (nmOk F p = 1 → NuC S1 (6161 * 40 + 61 * I) (2, 1, nmPw F p, nmSg neg F, q)) ∧ FC (vcP I) S S1) := by
  subst hi hm
  obtain ⟨⟨h24, hfg⟩, hc⟩ := h
  have dg : ∀ j, j < F.length → 48 ≤ F.getD j 0 ∧ F.getD j 0 ≤ 57 := fun j hj => hfg _ (getD_in hj)
  have lz := lzF_le F
  have tg := tzF_ge (l := F) (f := lzF F) F.length lz
  have tl := tzF_le2 (l := F) (f := lzF F) F.length
  have eF : nmF F = lzF F := rfl
  have eT : nmT F = tzF F (lzF F) F.length := rfl
  have p61 : Ev (fun n => f_X12_isNumber n d 61 S [(I : Int), neg, (nmT F : Int), p + F.length - nmT F, (nmF F : Int)]) (fun x S1 => x = nmOk F p ∧ (nmOk F p = 1 → NuC S1 (6161 * 40 + 61 * I) (2, 1, nmPw F p, nmSg neg F, q)) ∧ FC (vcP I) S S1) := by
    refine ev_up (fun n => e_X12_isNumber_61) ?_
    unfold b_X12_isNumber_61
    refine ev_gg (by first | omega | (constructor <;> omega)) ?_
    refine ev_gcr (q_at) ?_
    refine ev_gg (by first | omega | (constructor <;> omega)) ?_
    refine ev_gg (by first | omega | (constructor <;> omega)) ?_
    refine ev_ite (fun z => ?_) (fun z => ?_)
    · have zn : ¬ nmF F = nmT F := by omega
      have lt : nmF F < nmT F := by omega
      have eS : nmSg neg F = (if neg = 0 then [] else [45]) ++ (F.take (nmT F)).drop (nmF F) := by unfold nmSg; rw [if_neg zn]
      have eP : nmPw F p = p + F.length - nmT F := by unfold nmPw; rw [if_neg zn]
      have first := lzF_end F (by omega)
      rw [← eF] at first
      have d0 := dg (nmF F) (by omega)
      have eD : (F.take (nmT F)).drop (nmF F) = F.getD (nmF F) 0 :: (F.take (nmT F)).drop (nmF F + 1) := by
        have l : nmF F < (F.take (nmT F)).length := by rw [List.length_take]; omega
        rw [List.drop_eq_getElem_cons l, List.getElem_take, List.getD_eq_getElem?_getD, List.getElem?_eq_getElem (by omega)]
        rfl
      have sg : sgN (2, 1, nmPw F p, nmSg neg F, q) = (F.take (nmT F)).drop (nmF F) ∧ isN (2, 1, nmPw F p, nmSg neg F, q) = (if neg = 0 then 1 else -1) := by
        rcases hneg with e | e
        · rw [eS, if_pos e, if_pos e, List.nil_append]
          have hh : hdI ((F.take (nmT F)).drop (nmF F)) = F.getD (nmF F) 0 := by rw [eD]; rfl
          refine ⟨?_, ?_⟩
          · show (if (2 : Int) = 2 ∧ hdI ((F.take (nmT F)).drop (nmF F)) = 45 then _ else _) = _
            rw [if_neg (fun y => by have := y.2; omega)]
          · show (if (2 : Int) = 2 then (if hdI ((F.take (nmT F)).drop (nmF F)) = 45 then _ else _) else _) = _
            rw [if_pos rfl, if_neg (by omega), if_neg (fun y => by
              rcases y with y | y
              · have y' : hdI ((F.take (nmT F)).drop (nmF F)) = 48 := y
                omega
              · have y' : (F.take (nmT F)).drop (nmF F) = [] := y
                rw [eD] at y'; cases y')]
        · rw [eS, if_neg (by omega), if_neg (by omega)]
          exact ⟨rfl, rfl⟩
      have ls : (sgN (2, 1, nmPw F p, nmSg neg F, q)).length = nmT F - nmF F := by rw [sg.1, List.length_drop, List.length_take]; omega
      have gs : ∀ j, j < nmT F - nmF F → (sgN (2, 1, nmPw F p, nmSg neg F, q)).getD j 0 = F.getD (nmF F + j) 0 := fun j hj => by
        rw [sg.1, List.getD_eq_getElem?_getD, List.getElem?_drop, List.getElem?_take, if_pos (by omega), ← List.getD_eq_getElem?_getD]
      have ok : nmOk F p = if -99 ≤ p + F.length - nmT F ∧ p + F.length - nmT F ≤ 99 then 1 else 0 := by
        unfold nmOk
        rw [eP]
        by_cases y : -99 ≤ p + F.length - nmT F ∧ p + F.length - nmT F ≤ 99
        · rw [if_pos (Or.inr y), if_pos y]
        · rw [if_neg (fun w => w.elim zn y), if_neg y]
      have p173 : ∀ (t u : Nat) (S1 : GS), u + t = nmT F → nmF F ≤ u → S1.1 501 (6161 * 40 + 61 * I + 18) = ((nmT F - nmF F : Nat) : Int) → S1.1 501 (6161 * 40 + 61 * I + 19) = (if neg = 0 then 1 else -1) → S1.1 501 (6161 * 40 + 61 * I + 20) = p + F.length - nmT F → (∀ j, nmF F + j < u → S1.1 501 (6161 * 40 + 61 * I + 21 + j) = F.getD (nmF F + j) 0) → FC (vcP I) S S1 → Ev (fun n => f_X12_isNumber n d 173 S1 [(nmT F : Int), p + F.length - nmT F, (nmF F : Int), (101 * (40 : Int) + (I : Int)) * 61, (u : Int)]) (fun x S1 => x = nmOk F p ∧ (nmOk F p = 1 → NuC S1 (6161 * 40 + 61 * I) (2, 1, nmPw F p, nmSg neg F, q)) ∧ FC (vcP I) S S1) := by
        intro t
        induction t with
        | zero =>
          intro u S1 hu hfu c18 c19 c20 cj hf
          refine ev_up (fun n => e_X12_isNumber_173) ?_
          unfold b_X12_isNumber_173
          refine ev_gg (by first | omega | (constructor <;> omega)) ?_
          refine ev_gg (by first | omega | (constructor <;> omega)) ?_
          refine ev_ite (fun _ => ?_) (fun z => by omega)
          refine ev_gg (by first | omega | (constructor <;> omega)) ?_
          refine ev_gcr (q_in (d := d - 1) ⟨by constructor <;> omega, by decide, by decide⟩) ?_
          refine ev_gg (by split <;> decide) ?_
          refine ev_ret ⟨ok.symm, fun _ => ⟨by rw [ls]; exact c18, by rw [sg.2]; exact c19, ?_, fun j hj => ?_⟩, hf⟩
          · rw [c20, ← eP]
            rfl
          · rw [ls] at hj
            rw [gs j hj]
            exact cj j (by omega)
        | succ t ih =>
          intro u S1 hu hfu c18 c19 c20 cj hf
          have du := dg u (by omega)
          refine ev_up (fun n => e_X12_isNumber_173) ?_
          unfold b_X12_isNumber_173
          refine ev_gg (by first | omega | (constructor <;> omega)) ?_
          refine ev_gg (by first | omega | (constructor <;> omega)) ?_
          refine ev_ite (fun z => by omega) (fun _ => ?_)
          refine ev_gv ?_
          refine ev_gv ?_
          refine ev_gv ?_
          refine ev_gg (by first | omega | (constructor <;> omega)) ?_
          refine ev_gv ?_
          rw [Int.toNat_natCast, fc_i hf (by omega), hc u (by omega)]
          refine ev_gv ?_
          refine ev_gg (by first | omega | (constructor <;> omega)) ?_
          refine ev_gv ?_
          refine ev_gv ?_
          rw [show ((101 * (40 : Int) + (I : Int)) * 61 + 21 + (u : Int) - (nmF F : Int)).toNat = 6161 * 40 + 61 * I + 21 + (u - nmF F) by omega, show (u : Int) + 1 = ((u + 1 : Nat) : Int) by omega, show 48 + (F.getD u 0 - 48) = F.getD u 0 by omega]
          refine ih (u + 1) _ (by omega) (by omega) (by rw [gI_k (by omega)]; exact c18) (by rw [gI_k (by omega)]; exact c19) (by rw [gI_k (by omega)]; exact c20) (fun j hj => ?_) (fc_tr hf (fc_gI ⟨rfl, by omega, by omega⟩))
          by_cases e : j = u - nmF F
          · subst e
            rw [gI_a, show nmF F + (u - nmF F) = u by omega]
          · rw [gI_k (by omega)]
            exact cj j (by omega)
      have p156 : ∀ (s : Int) (S1 : GS), s = (if neg = 0 then 1 else -1) → S1.1 501 (6161 * 40 + 61 * I + 18) = ((nmT F - nmF F : Nat) : Int) → FC (vcP I) S S1 → Ev (fun n => f_X12_isNumber n d 156 S1 [(nmT F : Int), p + F.length - nmT F, (nmF F : Int), (101 * (40 : Int) + (I : Int)) * 61, s, (101 * (40 : Int) + (I : Int)) * 61 + 19]) (fun x S1 => x = nmOk F p ∧ (nmOk F p = 1 → NuC S1 (6161 * 40 + 61 * I) (2, 1, nmPw F p, nmSg neg F, q)) ∧ FC (vcP I) S S1) := by
        intro s S1 hs c18 hf
        refine ev_up (fun n => e_X12_isNumber_156) ?_
        unfold b_X12_isNumber_156
        refine ev_gg (by first | omega | (constructor <;> omega)) ?_
        refine ev_gv ?_
        refine ev_gv ?_
        refine ev_gg (by first | omega | (constructor <;> omega)) ?_
        refine ev_gv ?_
        rw [show ((101 * (40 : Int) + (I : Int)) * 61 + 19).toNat = 6161 * 40 + 61 * I + 19 by omega, show ((101 * (40 : Int) + (I : Int)) * 61 + 20).toNat = 6161 * 40 + 61 * I + 20 by omega]
        refine p173 (nmT F - nmF F) (nmF F) _ (by omega) (Nat.le_refl _) (by rw [gI_k (by omega), gI_k (by omega)]; exact c18) (by rw [gI_k (by omega), gI_a]; exact hs) gI_a (fun j hj => by omega) (fc_tr hf (fc_tr (fc_gI ⟨rfl, by omega, by omega⟩) (fc_gI ⟨rfl, by omega, by omega⟩)))
      refine ev_gv ?_
      refine ev_gv ?_
      refine ev_gg (by first | omega | (constructor <;> omega)) ?_
      refine ev_gv ?_
      refine ev_gv ?_
      refine ev_gg (by first | omega | (constructor <;> omega)) ?_
      rw [show ((101 * (40 : Int) + (I : Int)) * 61 + 18).toNat = 6161 * 40 + 61 * I + 18 by omega]
      have e18 : (gI S 501 (6161 * 40 + 61 * I + 18) ((nmT F : Int) - (nmF F : Int))).1 501 (6161 * 40 + 61 * I + 18) = ((nmT F - nmF F : Nat) : Int) := by rw [gI_a]; omega
      refine ev_ite (fun y => ?_) (fun y => ?_)
      · exact p156 1 _ (by rw [if_pos y]) e18 (fc_gI ⟨rfl, by omega, by omega⟩)
      · exact p156 (-1) _ (by rw [if_neg y]) e18 (fc_gI ⟨rfl, by omega, by omega⟩)
    · have zn : nmF F = nmT F := by omega
      have eS : nmSg neg F = [48] := by unfold nmSg; rw [if_pos zn]
      have eP : nmPw F p = 0 := by unfold nmPw; rw [if_pos zn]
      have ok : nmOk F p = 1 := by unfold nmOk; rw [if_pos (Or.inl zn)]
      rw [eS, eP, ok]
      refine ev_gv ?_
      refine ev_gg (by first | omega | (constructor <;> omega)) ?_
      refine ev_gv ?_
      refine ev_gv ?_
      refine ev_gg (by first | omega | (constructor <;> omega)) ?_
      refine ev_gv ?_
      refine ev_gv ?_
      refine ev_gg (by first | omega | (constructor <;> omega)) ?_
      refine ev_gv ?_
      refine ev_gv ?_
      refine ev_gg (by first | omega | (constructor <;> omega)) ?_
      refine ev_gv ?_
      rw [show ((101 * (40 : Int) + (I : Int)) * 61 + 18).toNat = 6161 * 40 + 61 * I + 18 by omega, show ((101 * (40 : Int) + (I : Int)) * 61 + 19).toNat = 6161 * 40 + 61 * I + 19 by omega, show ((101 * (40 : Int) + (I : Int)) * 61 + 20).toNat = 6161 * 40 + 61 * I + 20 by omega, show ((101 * (40 : Int) + (I : Int)) * 61 + 21).toNat = 6161 * 40 + 61 * I + 21 by omega]
      refine ev_ret ⟨rfl, fun _ => ⟨?_, ?_, ?_, fun j hj => ?_⟩, fc_tr (fc_gI ⟨rfl, by omega, by omega⟩) (fc_tr (fc_gI ⟨rfl, by omega, by omega⟩) (fc_tr (fc_gI ⟨rfl, by omega, by omega⟩) (fc_gI ⟨rfl, by omega, by omega⟩)))⟩
      · rw [gI_k (by omega), gI_k (by omega), gI_k (by omega), gI_a]
        rfl
      · rw [gI_k (by omega), gI_k (by omega), gI_a]
        rfl
      · rw [gI_k (by omega), gI_a]
        rfl
      · have hj1 : j < 1 := hj
        have j0 : j = 0 := by omega
        subst j0
        rw [Nat.add_zero, gI_a]
        rfl
  have p33 : ∀ (t : Nat), nmF F ≤ t → t ≤ F.length → tzF F (nmF F) t = nmT F → Ev (fun n => f_X12_isNumber n d 33 S [(I : Int), neg, (t : Int), p + F.length - t, (nmF F : Int)]) (fun x S1 => x = nmOk F p ∧ (nmOk F p = 1 → NuC S1 (6161 * 40 + 61 * I) (2, 1, nmPw F p, nmSg neg F, q)) ∧ FC (vcP I) S S1) := by
    intro t
    induction t with
    | zero =>
      intro ht htl he
      have : nmT F = 0 := he.symm
      refine ev_up (fun n => e_X12_isNumber_33) ?_
      unfold b_X12_isNumber_33
      refine ev_gg (by first | omega | (constructor <;> omega)) ?_
      refine ev_gg (by first | omega | (constructor <;> omega)) ?_
      refine ev_ite (fun _ => ?_) (fun z => by omega)
      rw [this] at p61
      exact p61
    | succ t ih =>
      intro ht htl he
      have dt := dg t (by omega)
      have e1 : tzF F (nmF F) (t + 1) = if nmF F < t + 1 ∧ F.getD t 0 = 48 then tzF F (nmF F) t else t + 1 := rfl
      rw [e1] at he
      refine ev_up (fun n => e_X12_isNumber_33) ?_
      unfold b_X12_isNumber_33
      refine ev_gg (by first | omega | (constructor <;> omega)) ?_
      refine ev_gg (by first | omega | (constructor <;> omega)) ?_
      refine ev_ite (fun z => ?_) (fun z => ?_)
      · rw [if_neg (by omega)] at he
        rw [← he] at p61
        exact p61
      · refine ev_gv ?_
        refine ev_gg (by first | omega | (constructor <;> omega)) ?_
        refine ev_gv ?_
        rw [show (((t + 1 : Nat) : Int) - 1).toNat = t by omega, hc t (by omega)]
        refine ev_gg (by first | omega | (constructor <;> omega)) ?_
        refine ev_ite (fun y => ?_) (fun y => ?_)
        · rw [if_neg (by omega)] at he
          rw [← he] at p61
          exact p61
        · rw [if_pos (by omega)] at he
          refine ev_gv ?_
          refine ev_gv ?_
          rw [show ((t + 1 : Nat) : Int) + (-1) = (t : Int) by omega, show p + (F.length : Int) - ((t + 1 : Nat) : Int) + 1 = p + F.length - t by omega]
          exact ih (by omega) (by omega) he
  have p10 : ∀ (t u : Nat), u + t = F.length → u ≤ lzF F → Ev (fun n => f_X12_isNumber n d 10 S [(I : Int), neg, (F.length : Int), p, (u : Int)]) (fun x S1 => x = nmOk F p ∧ (nmOk F p = 1 → NuC S1 (6161 * 40 + 61 * I) (2, 1, nmPw F p, nmSg neg F, q)) ∧ FC (vcP I) S S1) := by
    intro t
    induction t with
    | zero =>
      intro u hu hul
      have eu : u = nmF F := by omega
      have := p33 F.length lz (Nat.le_refl _) rfl
      rw [show p + (F.length : Int) - ((F.length : Nat) : Int) = p by omega] at this
      refine ev_up (fun n => e_X12_isNumber_10) ?_
      unfold b_X12_isNumber_10
      refine ev_gg (by first | omega | (constructor <;> omega)) ?_
      refine ev_gg (by first | omega | (constructor <;> omega)) ?_
      refine ev_ite (fun _ => ?_) (fun z => by omega)
      rw [eu]
      exact this
    | succ t ih =>
      intro u hu hul
      have du := dg u (by omega)
      have := p33 F.length lz (Nat.le_refl _) rfl
      rw [show p + (F.length : Int) - ((F.length : Nat) : Int) = p by omega] at this
      refine ev_up (fun n => e_X12_isNumber_10) ?_
      unfold b_X12_isNumber_10
      refine ev_gg (by first | omega | (constructor <;> omega)) ?_
      refine ev_gg (by first | omega | (constructor <;> omega)) ?_
      refine ev_ite (fun z => by omega) (fun _ => ?_)
      refine ev_gg (by first | omega | (constructor <;> omega)) ?_
      refine ev_gv ?_
      rw [Int.toNat_natCast, hc u (by omega)]
      refine ev_gg (by first | omega | (constructor <;> omega)) ?_
      refine ev_ite (fun z => ?_) (fun z => ?_)
      · have eu : u = nmF F := by
          by_cases y : u < lzF F
          · have := lzF_at F u y; omega
          · omega
        rw [eu]
        exact this
      · have y : u < lzF F := by
          by_cases y : u < lzF F
          · exact y
          · have e : lzF F = u := by omega
            have := lzF_end F (by omega)
            rw [e] at this
            omega
        refine ev_gv ?_
        rw [show (u : Int) + 1 = ((u + 1 : Nat) : Int) by omega]
        exact ih (u + 1) (by omega) (by omega)
  refine ev_up (fun n => e_X12_isNumber_0) ?_
  unfold b_X12_isNumber_0
  exact p10 F.length 0 (by omega) (Nat.zero_le _)
end NUM
