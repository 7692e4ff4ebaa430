/-! THE REFERENCE reads: a VALUE that is no group -/
def kaN (x : Int) : Int := if x = 110 then 0 else if x = 116 ∨ x = 102 then 1 else if x = 34 then 3 else if x = 91 then 4 else if x = 123 then 5 else if x = 45 ∨ fgC x then 2 else -1
/-- what a VALUE comes to, of a group its sign -/
def rdB (r : List Int) : Rs (List ND × List Int) := if hdI r = 91 then .inr ([ndK 4], r.tail) else if hdI r = 123 then .inr ([ndK 5], r.tail) else if hdI r = 34 then rdTx r else if hdI r = 45 ∨ fgC (hdI r) then rdNb r else rdC r
abbrev vaP (I : Nat) : Nat → Nat → Prop := fun c j => vcP I c j ∨ c = 507 ∨ c = 510 ∨ (c = 500 ∧ (j = 13 ∨ j = 16))
def RvQ (t : List Int) (I : Nat) (o : Rs (List ND × List Int)) (S : GS) (x : Int) (S1 : GS) : Prop := (match o with
  | .inl q => x = 0 ∧ RdS S1 t q
  | .inr z => x = 1 ∧ RdS S1 t z.2 ∧ NuC S1 (6161 * 40 + 61 * I) (z.1.getD 0 nd0)) ∧ FC (vaP I) S S1
section RVA
variable {S : GS} {d I : Nat} {t r : List Int}
theorem q_kindAhead (hd : 2 ≤ d) (h : RdS S t r) : Rd (fun n => f_X12_kindAhead n d 0 S []) (kaN (hdI r)) S := by
  have hr := rd_hd h
  unfold kaN
  refine ev_up (fun n => e_X12_kindAhead_0) ?_
  unfold b_X12_kindAhead_0
  refine ev_gg (by first | omega | (constructor <;> omega)) ?_
  refine ev_gcr (q_sign (d := d - 1) h) ?_
  refine ev_gg (by first | omega | (constructor <;> omega)) ?_
  refine ev_ite (fun z => ?_) (fun z => ?_)
  · rw [if_neg z]
    refine ev_ite (fun z1 => ?_) (fun z1 => ?_)
    · exact ev_ret ⟨by rw [if_pos (Or.inl z1)], rfl⟩
    refine ev_ite (fun z2 => ?_) (fun z2 => ?_)
    · rw [if_neg (by omega)]
      refine ev_ite (fun z3 => ?_) (fun z3 => ?_)
      · rw [if_neg z3]
        refine ev_ite (fun z4 => ?_) (fun z4 => ?_)
        · rw [if_neg z4]
          refine ev_ite (fun z5 => ?_) (fun z5 => ?_)
          · rw [if_neg z5]
            refine ev_ite (fun z6 => ?_) (fun z6 => ?_)
            · exact ev_ret ⟨by rw [if_pos (Or.inl z6)], rfl⟩
            · refine ev_gcr (q_isFigure (d := d - 1) (by omega) h) ?_
              by_cases c : fgC (hdI r)
              · rw [if_pos c, if_pos (Or.inr c)]
                refine ev_gg (by decide) ?_
                refine ev_ite (fun z => by omega) (fun _ => ?_)
                exact ev_ret ⟨rfl, rfl⟩
              · rw [if_neg c, if_neg (show ¬ (hdI r = 45 ∨ fgC (hdI r)) from fun w => w.elim z6 c)]
                refine ev_gg (by decide) ?_
                refine ev_ite (fun _ => ?_) (fun z => by omega)
                exact ev_ret ⟨rfl, rfl⟩
          · exact ev_ret ⟨by rw [if_pos (by omega)], rfl⟩
        · exact ev_ret ⟨by rw [if_pos (by omega)], rfl⟩
      · exact ev_ret ⟨by rw [if_pos (by omega)], rfl⟩
    · exact ev_ret ⟨by rw [if_pos (Or.inr (by omega))], rfl⟩
  · exact ev_ret ⟨by rw [if_pos (by omega)], rfl⟩
theorem q_readsValue (hd : 4 ≤ d) (hI : I ≤ 100) (h : RdS S t r) (hk : 0 ≤ kaN (hdI r)) (h18 : S.1 501 (6161 * 40 + 61 * I + 18) = 0) (h19 : S.1 501 (6161 * 40 + 61 * I + 19) = 0) (h20 : S.1 501 (6161 * 40 + 61 * I + 20) = 0) : Ev (fun n => f_X12_readsValue n d 0 S [(I : Int)]) (fun x S1 => RvQ t I (rdB r) S x S1) := by
  have hr := rd_hd h
  have zero : ∀ (k : Int) (S1 : GS), k ≠ 1 → k ≠ 2 → S1.1 501 (6161 * 40 + 61 * I + 18) = 0 → S1.1 501 (6161 * 40 + 61 * I + 19) = 0 → S1.1 501 (6161 * 40 + 61 * I + 20) = 0 → NuC S1 (6161 * 40 + 61 * I) (ndK k) := by
    intro k S1 k1 k2 a b c
    have e1 : sgN (ndK k) = [] := by
      unfold sgN
      exact if_neg (show ¬ ((ndK k).1 = 2 ∧ _) from fun y => k2 y.1)
    have e2 : isN (ndK k) = 0 := by
      unfold isN
      rw [if_neg (show ¬ (ndK k).1 = 2 from k2), if_neg (show ¬ (ndK k).1 = 1 from k1)]
    have e3 : pwN (ndK k) = 0 := by
      unfold pwN
      exact if_neg (show ¬ (ndK k).1 = 2 from k2)
    exact ⟨by rw [e1]; exact a, by rw [e2]; exact b, by rw [e3]; exact c, fun j hj => by rw [e1] at hj; cases hj⟩
  have p39 : ∀ k : Int, k ≠ 1 → k ≠ 2 → r ≠ [] → Ev (fun n => f_X12_readsValue n d 39 S []) (fun x S1 => RvQ t I (.inr ([ndK k], r.tail)) S x S1) := by
    intro k k1 k2 rn
    refine ev_up (fun n => e_X12_readsValue_39) ?_
    unfold b_X12_readsValue_39
    refine ev_gv ?_
    refine ev_gv ?_
    refine ev_gv ?_
    have f1 : FC (fun c j => c = 500 ∧ j = 16) S (gI S 500 16 (S.1 500 16 + 1)) := fc_gI ⟨rfl, rfl⟩
    exact ev_ret ⟨⟨rfl, rd_on h rn, zero k _ k1 k2 (by rw [fc_i f1 (by omega)]; exact h18) (by rw [fc_i f1 (by omega)]; exact h19) (by rw [fc_i f1 (by omega)]; exact h20)⟩, fc_mono f1 (fun c j z => by omega)⟩
  have p77 : ∀ (x : Int) (b : Int), x = hdI r → (x = 116 ∧ b = 1 ∨ x = 102 ∧ b = 0) → Ev (fun n => f_X12_readsValue n d 77 S [(I : Int), x]) (fun y S1 => RvQ t I (bd (rdW (if x = 116 then sx 13 else sx 14) r) (fun r1 => .inr ([(1, 1, b, [], [])], r1))) S y S1) := by
    intro x b hx hb
    have p101 : ∀ s0 : Int, s0 = b → Ev (fun n => f_X12_readsValue n d 101 S [x, s0, (101 * (40 : Int) + (I : Int)) * 61 + 19]) (fun y S1 => RvQ t I (bd (rdW (if x = 116 then sx 13 else sx 14) r) (fun r1 => .inr ([(1, 1, b, [], [])], r1))) S y S1) := by
      intro s0 hs
      subst hs
      refine ev_up (fun n => e_X12_readsValue_101) ?_
      unfold b_X12_readsValue_101
      refine ev_gg (by first | omega | (constructor <;> omega)) ?_
      refine ev_gv ?_
      rw [show ((101 * (40 : Int) + (I : Int)) * 61 + 19).toNat = 6161 * 40 + 61 * I + 19 by omega]
      have f1 : FC (fun c j => c = 501 ∧ j = 6161 * 40 + 61 * I + 19) S (gI S 501 (6161 * 40 + 61 * I + 19) s0) := fc_gI ⟨rfl, rfl⟩
      have h1 := rd_fr h f1 (by omega) (by omega) (fun j => by omega)
      have c19 : (gI S 501 (6161 * 40 + 61 * I + 19) s0).1 501 (6161 * 40 + 61 * I + 19) = s0 := gI_a
      generalize gI S 501 (6161 * 40 + 61 * I + 19) s0 = S1 at f1 h1 c19 ⊢
      have fin : ∀ (W : List Int) (y : Int) (S2 : GS), RlQ t (rdW W r) S1 y S2 → RvQ t I (bd (rdW W r) (fun r1 => .inr ([(1, 1, s0, [], [])], r1))) S y S2 ∧ (y = 0 ∨ y = 1) := by
        intro W y S2 q
        obtain ⟨q1, q2⟩ := q
        have f02 : FC (vaP I) S S2 := fc_tr (fc_mono f1 (fun c j z => by omega)) (fc_mono q2 (fun c j z => by omega))
        cases hW : rdW W r with
        | inl q =>
          rw [hW] at q1
          exact ⟨⟨q1, f02⟩, Or.inl q1.1⟩
        | inr q =>
          rw [hW] at q1
          refine ⟨⟨⟨q1.1, q1.2, ?_, ?_, ?_, fun j hj => by cases hj⟩, f02⟩, Or.inr q1.1⟩
          · rw [fc_i q2 (by omega), fc_i f1 (by omega)]; exact h18
          · rw [fc_i q2 (by omega), c19]; rfl
          · rw [fc_i q2 (by omega), fc_i f1 (by omega)]; exact h20
      refine ev_gg (by first | omega | (constructor <;> omega)) ?_
      refine ev_ite (fun z => ?_) (fun z => ?_)
      · rw [if_neg z]
        refine ev_gg (by first | omega | (constructor <;> omega)) ?_
        refine ev_gc (q_readsLetters (d := d - 1) (by omega) (by decide) h1) (fun y S2 q => ?_)
        rw [lw_false] at q
        obtain ⟨q1, q2⟩ := fin _ y S2 q
        refine ev_gg (q2) ?_
        exact ev_ret q1
      · rw [if_pos (by omega)]
        refine ev_gg (by first | omega | (constructor <;> omega)) ?_
        refine ev_gc (q_readsLetters (d := d - 1) (by omega) (by decide) h1) (fun y S2 q => ?_)
        rw [lw_true] at q
        obtain ⟨q1, q2⟩ := fin _ y S2 q
        refine ev_gg (q2) ?_
        exact ev_ret q1
    refine ev_up (fun n => e_X12_readsValue_77) ?_
    unfold b_X12_readsValue_77
    refine ev_gg (by first | omega | (constructor <;> omega)) ?_
    refine ev_gcr (q_at) ?_
    refine ev_gv ?_
    refine ev_gg (by first | omega | (constructor <;> omega)) ?_
    refine ev_ite (fun z => ?_) (fun z => ?_)
    · exact p101 0 (by omega)
    · exact p101 1 (by omega)
  unfold rdB
  refine ev_up (fun n => e_X12_readsValue_0) ?_
  unfold b_X12_readsValue_0
  refine ev_gg (by first | omega | (constructor <;> omega)) ?_
  refine ev_gcr (q_sign (d := d - 1) h) ?_
  refine ev_gg (by first | omega | (constructor <;> omega)) ?_
  refine ev_ite (fun z => ?_) (fun z => ?_)
  · refine ev_ite (fun z1 => ?_) (fun z1 => ?_)
    · rw [if_pos z1]
      exact p39 4 (by decide) (by decide) (rd_ne (by omega))
    rw [if_neg z1]
    refine ev_ite (fun z2 => ?_) (fun z2 => ?_)
    · rw [if_neg z2, if_neg z]
      refine ev_ite (fun z3 => ?_) (fun z3 => ?_)
      · refine ev_ite (fun z4 => ?_) (fun z4 => ?_)
        · rw [if_neg (show ¬ (hdI r = 45 ∨ fgC (hdI r)) by omega)]
          have := p77 (hdI r) 1 rfl (Or.inl ⟨z4, rfl⟩)
          rw [if_pos z4] at this
          unfold rdC
          rw [if_neg z3, if_pos z4]
          exact this
        · refine ev_ite (fun z5 => ?_) (fun z5 => ?_)
          · have hc : hdI r = 45 ∨ fgC (hdI r) := by
              unfold kaN at hk
              by_cases y : hdI r = 45 ∨ fgC (hdI r)
              · exact y
              · rw [if_neg z3, if_neg (by omega), if_neg z, if_neg z1, if_neg z2, if_neg y] at hk
                omega
            rw [if_pos hc]
            refine ev_gc (q_readsNumber (d := d - 1) (by omega) hI h) (fun y S1 q => ?_)
            obtain ⟨q1, q2⟩ := q
            have f1 : FC (vaP I) S S1 := fc_mono q2 (fun c j z => by omega)
            cases hN : rdNb r with
            | inl q =>
              rw [hN] at q1
              refine ev_gg (Or.inl q1.1) ?_
              exact ev_ret ⟨q1, f1⟩
            | inr q =>
              rw [hN] at q1
              refine ev_gg (Or.inr q1.1) ?_
              exact ev_ret ⟨q1, f1⟩
          · have z5' : hdI r = 102 := by omega
            rw [if_neg (show ¬ (hdI r = 45 ∨ fgC (hdI r)) by omega)]
            have := p77 (hdI r) 0 rfl (Or.inr ⟨z5', rfl⟩)
            rw [if_neg (show ¬ hdI r = 116 by omega)] at this
            unfold rdC
            rw [if_neg z3, if_neg z4, if_pos z5']
            exact this
      · have z3' : hdI r = 110 := by omega
        rw [if_neg (show ¬ (hdI r = 45 ∨ fgC (hdI r)) by omega)]
        unfold rdC
        rw [if_pos z3']
        refine ev_gc (q_readsLetters (d := d - 1) (by omega) (by decide) h) (fun y S1 q => ?_)
        rw [lw_null] at q
        obtain ⟨q1, q2⟩ := q
        have f1 : FC (vaP I) S S1 := fc_mono q2 (fun c j z => by omega)
        cases hN : rdW (sx 12) r with
        | inl q =>
          rw [hN] at q1
          refine ev_gg (Or.inl q1.1) ?_
          exact ev_ret ⟨q1, f1⟩
        | inr q =>
          rw [hN] at q1
          refine ev_gg (Or.inr q1.1) ?_
          exact ev_ret ⟨⟨q1.1, q1.2, zero 0 S1 (by decide) (by decide) (by rw [fc_i q2 (by omega)]; exact h18) (by rw [fc_i q2 (by omega)]; exact h19) (by rw [fc_i q2 (by omega)]; exact h20)⟩, f1⟩
    · rw [if_pos (by omega)]
      exact p39 5 (by decide) (by decide) (rd_ne (by omega))
  · have z' : hdI r = 34 := by omega
    rw [if_neg (by omega), if_neg (by omega), if_pos z']
    unfold rdTx
    refine ev_gc (q_readsText (d := d - 1) (m := 40) (by omega) (by decide) h (rd_ne (by omega))) (fun y S1 q => ?_)
    obtain ⟨q1, q2⟩ := q
    cases hN : rdT 40000 40 [] r.tail with
    | inl q =>
      rw [hN] at q1
      obtain ⟨y0, r1, a, a1, w1⟩ := q1
      refine ev_gc (q_textIs (d := d - 1) (K := 40) (I := I) (by omega) rfl (by decide) rfl hI w1 a1) (fun _ S2 w => ?_)
      refine ev_gg (Or.inl y0) ?_
      exact ev_ret ⟨⟨y0, rd_fr r1 w.2.2 (by omega) (by omega) (fun j => by omega)⟩, fc_tr (fc_mono q2 (fun c j z => by omega)) (fc_mono w.2.2 (fun c j z => by omega))⟩
    | inr q =>
      rw [hN] at q1
      obtain ⟨y0, r1, a1, w1⟩ := q1
      refine ev_gc (q_textIs (d := d - 1) (K := 40) (I := I) (by omega) rfl (by decide) rfl hI w1 a1) (fun _ S2 w => ?_)
      refine ev_gg (Or.inr y0) ?_
      have e1 : sgN (3, 1, 0, q.1, []) = q.1 := by
        unfold sgN
        exact if_neg (fun y => absurd (show (3 : Int) = 2 from y.1) (by decide))
      refine ev_ret ⟨⟨y0, rd_fr r1 w.2.2 (by omega) (by omega) (fun j => by omega), ?_, ?_, ?_, fun j hj => ?_⟩, fc_tr (fc_mono q2 (fun c j z => by omega)) (fc_mono w.2.2 (fun c j z => by omega))⟩
      · show S2.1 501 _ = ((sgN (3, 1, 0, q.1, [])).length : Int)
        rw [e1]; exact w.1
      · rw [fc_i w.2.2 (by omega), fc_i q2 (by omega), h19]
        rfl
      · rw [fc_i w.2.2 (by omega), fc_i q2 (by omega), h20]
        rfl
      · have hj' : j < (sgN (3, 1, 0, q.1, [])).length := hj
        show S2.1 501 _ = (sgN (3, 1, 0, q.1, [])).getD j 0
        rw [e1] at hj' ⊢
        exact w.2.1 j hj'
end RVA
