/-! THE REFERENCE's check -/
theorem agB_ask {Sc T : List ND} {n : Int} {cs : List (Int × Int)} (h : askR Sc T 2000 151 [] 0 0 (0, []) = some (n, cs)) : agB Sc T = true ↔ cs = [] := by
  have h2 := ask_mo (show (2000 : Int) ≤ 1000000 by decide) _ _ _ _ _ _ h
  have a := ask_ak (Sc := Sc) (T := T) (most := 1000000) 151 [] 0 0 true [] [] 0 (Or.inl rfl)
  unfold AK at a
  rw [h2] at a
  obtain ⟨es, q1, q2⟩ := a
  have q1' : cs = [] ++ es := q1
  rw [List.nil_append] at q1'
  rw [if_pos (Or.inl rfl)] at q2
  unfold agB
  rw [q2, q1']
  show ((decide (es = []) && true) && !false) = true ↔ _
  rw [Bool.and_true, Bool.not_false, Bool.and_true, decide_eq_true_eq]
theorem exa_ask {Sc T : List ND} : match askR Sc T 2000 151 [] 0 0 (0, []) with
    | none => (exaR Sc T).2.1 = true
    | some K1 => if K1.2.length ≤ 1000 then (exaR Sc T).2.1 = false ∧ (exaR Sc T).2.2 = K1.2 else (exaR Sc T).2.1 = true := by
  have a := ask_ak (Sc := Sc) (T := T) (most := 2000) 151 [] 0 0 false [] [] 0 (Or.inr (by decide))
  unfold AK at a
  unfold exaR
  cases e : askR Sc T 2000 151 [] 0 0 (0, []) with
  | none =>
    rw [e] at a
    exact a
  | some K1 =>
    rw [e] at a
    obtain ⟨es, q1, q2⟩ := a
    rw [List.nil_append] at q1
    rw [List.nil_append, ← q1] at q2
    show if K1.2.length ≤ 1000 then _ else _
    by_cases c : K1.2.length ≤ 1000
    · rw [if_pos (Or.inr c)] at q2
      rw [if_pos c, q2]
      exact ⟨rfl, rfl⟩
    · rw [if_neg (fun z => by
        rcases z with z | z
        · cases z
        · exact c z)] at q2
      rw [if_neg c]
      exact q2
abbrev awP : Nat → Nat → Prop := fun c j => akP 0 c j ∨ (c = 500 ∧ (j = 62 ∨ j = 63 ∨ j = 65))
theorem aw_sc {c j : Nat} (z : awP c j) : scP c j := by
  rcases z with (z | z | z | z | z | z | z) | z <;> omega
theorem aw1 {c j : Nat} (z : c = 500 ∧ (j = 62 ∨ j = 63 ∨ j = 64 ∨ j = 66 ∨ j = 76 ∨ j = 79)) : awP c j := by
  by_cases y : j = 62 ∨ j = 63
  · exact Or.inr ⟨z.1, by omega⟩
  · exact Or.inl (i5_ak ⟨z.1, by omega⟩)
section RCH
variable {S : GS} {d A B : Nat} {Sc T : List ND}
theorem q_asksWhole {M a b : Int} {ok : Nat → Prop} (hd : 31 ≤ d) (ha : a = (A : Int)) (hb : b = (B : Int)) (hk : AbK A B Sc T) (hM : 2000 ≤ M ∧ M ≤ 1000000000) (hok : OkS Sc ok ∧ ok 0) (hA : LK S A Sc) (hB : LK S B T) (hn : M = 2000 ∨ askR Sc T 2000 151 [] 0 0 (0, []) ≠ none) : Ev (fun m => f_X12_asksWhole m d 0 S [a, b, M]) (fun _ S1 => FC awP S S1 ∧ (match askR Sc T 2000 151 [] 0 0 (0, []) with
    | none => S1.2.1 500 65 = true
    | some K1 => S1.2.1 500 65 = false ∧ CsQ K1.2 S1 ∧ K1.2.length ≤ 219900)) := by
  subst ha hb
  obtain ⟨⟨⟨kA, kA4⟩, ⟨kB, kB4⟩⟩, ⟨sS, dS⟩, sT, dT⟩ := id hk
  have l1 := sS.1.1.2.1
  have l2 := sT.1.1.2.1
  have fin : ∀ (S2 : GS) (n2 : Int) (Q : Int → GS → Prop), S2.1 500 64 = n2 → inr n2 → (M < n2 → Q 0 (gB S2 500 65 (decide ((1 : Int) = 1)))) → (n2 ≤ M → Q 0 (gB S2 500 65 (decide ((0 : Int) = 1)))) → Ev (fun m => f_X12_asksWhole m d 102 S2 [M]) Q := by
    intro S2 n2 Q e64 hi h1 h2
    refine ev_up (fun n => e_X12_asksWhole_102) ?_
    unfold b_X12_asksWhole_102
    refine ev_gv ?_
    rw [e64]
    refine ev_gg (hi) ?_
    refine ev_gg (by first | omega | (constructor <;> omega)) ?_
    refine ev_ite (fun z => ?_) (fun z => ?_)
    · refine ev_gv ?_
      exact ev_ret (h2 z)
    · refine ev_gv ?_
      exact ev_ret (h1 (by omega))
  refine ev_up (fun n => e_X12_asksWhole_0) ?_
  unfold b_X12_asksWhole_0
  refine ev_gv ?_
  refine ev_gv ?_
  refine ev_gv ?_
  refine ev_gv ?_
  refine ev_gv ?_
  refine ev_gv ?_
  have f1 : FC (fun c j => c = 500 ∧ (j = 62 ∨ j = 63 ∨ j = 64 ∨ j = 66 ∨ j = 76 ∨ j = 79)) S (gI (gI (gI (gI (gI (gI S 500 62 (A : Int)) 500 63 (B : Int)) 500 64 0) 500 66 0) 500 76 0) 500 79 0) := fc_tr (fc_gI ⟨rfl, by omega⟩) (fc_tr (fc_gI ⟨rfl, by omega⟩) (fc_tr (fc_gI ⟨rfl, by omega⟩) (fc_tr (fc_gI ⟨rfl, by omega⟩) (fc_tr (fc_gI ⟨rfl, by omega⟩) (fc_gI ⟨rfl, by omega⟩)))))
  have a1 : AkS A B Sc T [] 0 [] 0 (gI (gI (gI (gI (gI (gI S 500 62 (A : Int)) 500 63 (B : Int)) 500 64 0) 500 66 0) 500 76 0) 500 79 0) := by
    refine ⟨⟨⟨?_, ?_⟩, lk_fr hA f1 (fun j _ _ => by omega) (by omega), lk_fr hB f1 (fun j _ _ => by omega) (by omega)⟩, ⟨?_, fun i hi => absurd hi (Nat.not_lt_zero i)⟩, ⟨gI_a, (fun i hi => absurd hi (Nat.not_lt_zero i)), fun x hx => by cases hx⟩, ?_, ?_⟩
    · rw [gI_k (by decide), gI_k (by decide), gI_k (by decide), gI_k (by decide), gI_k (by decide)]; exact gI_a
    · rw [gI_k (by decide), gI_k (by decide), gI_k (by decide), gI_k (by decide)]; exact gI_a
    · rw [gI_k (by decide)]; exact gI_a
    · rw [gI_k (by decide), gI_k (by decide), gI_k (by decide)]; exact gI_a
    · rw [gI_k (by decide), gI_k (by decide)]; exact gI_a
  generalize gI (gI (gI (gI (gI (gI S 500 62 (A : Int)) 500 63 (B : Int)) 500 64 0) 500 66 0) 500 76 0) 500 79 0 = S1 at f1 a1 ⊢
  refine ev_gg (by first | omega | (constructor <;> omega)) ?_
  refine ev_gc (q_asksOf (d := d - 1) (k := 0) (a := 0) (b := 0) hk a1 (by decide)) (fun _ S2 q2 => ?_)
  obtain ⟨a2, fr2, f2⟩ := q2
  have f02 : FC awP S S2 := fc_tr (fc_mono f1 (fun c j z => aw1 z)) (fc_mono f2 (fun c j z => Or.inl (ao_ak z)))
  refine q_ask (A := A) (B := B) (Sc := Sc) (T := T) (P := 2000) (M := M) (by omega) hk ⟨hM.1, by decide, hM.2⟩ hok.1 151 [] 0 0 0 12 0 [] S2 _ (by decide) (by decide) (dp_sg Sc.length Sc (Nat.le_refl _) sS.1 dS 0 (by omega)) ⟨by decide, fun x hx => by cases hx⟩ hok.2 (by omega) (by decide) (by decide) (by decide) a2 fr2 ?_ (fun hN S3 f3 hlt hi => ?_) (fun n1 cs1 hS S3 a3 _ f3 => ?_)
  · rcases hn with z | z
    · exact Or.inl z.symm
    · exact Or.inr z
  · have hN' : askR Sc T 2000 151 [] 0 0 (0, []) = none := hN
    rw [hN']
    refine fin S3 _ _ rfl hi (fun _ => ?_) (fun z => by omega)
    exact ⟨fc_tr f02 (fc_tr (fc_mono f3 (fun c j z => Or.inl z)) (fc_gB (Or.inr ⟨rfl, by omega⟩))), by rw [gB_a]; rfl⟩
  · have hS' : askR Sc T 2000 151 [] 0 0 (0, []) = some (n1, cs1) := hS
    rw [hS']
    obtain ⟨g1, g2, g3⟩ := ask_gr sS.1 (hA.2.1) _ _ _ _ _ _ hS'
    have g3' : n1 ≤ 2000 := g3
    have g2' : 0 + 1 ≤ n1 := g2
    have g1' : (cs1.length : Int) ≤ ([] : List (Int × Int)).length + (0 : Nat) + 99 * (n1 - 0) := g1.2
    rw [List.length_nil] at g1'
    refine ev_up (fun n => e_X12_asksWhole_36) ?_
    unfold b_X12_asksWhole_36
    refine ev_gv ?_
    rw [a3.2.2.2.2]
    refine ev_gg (by decide) ?_
    refine ev_ite (fun _ => ?_) (fun z => absurd (by decide) z)
    refine fin S3 n1 _ a3.2.2.2.1 (by constructor <;> omega) (fun z => by omega) (fun _ => ?_)
    have f4 : FC (fun c j => c = 500 ∧ j = 65) S3 (gB S3 500 65 (decide ((0 : Int) = 1))) := fc_gB ⟨rfl, rfl⟩
    exact ⟨fc_tr f02 (fc_tr (fc_mono f3 (fun c j z => Or.inl z)) (fc_mono f4 (fun c j z => Or.inr ⟨z.1, by omega⟩))), by rw [gB_a]; rfl, cs_fr a3.2.2.1 f4 (by omega) (fun j => by omega), by show cs1.length ≤ 219900; omega⟩
end RCH
section RCK
variable {S0 S : GS} {T0 : List ND} {Ds : List (List ND)} {pg pp : List Int} {r : Int} {L : List Nat} {Q : List (List Int)} {C : List (Int × Int)} {d : Nat}
theorem r_check {s a : Int} (hd : 40 ≤ d) (hs : inr s) (ha : inr a) (h : RfS S0 T0 Ds pg pp r L Q C S) (hself : ∃ ok, OkS T0 ok ∧ ok 0) (hsome : ∀ T, DOC T → askR T0 T 2000 151 [] 0 0 (0, []) ≠ none) (hyes : ∀ T n, DOC T → askR T0 T 2000 151 [] 0 0 (0, []) = some (n, []) → ∃ ok, OkS T ok ∧ ok 0) : Ev (fun m => f_X12_check m d 0 S [s, a]) (fun x S1 => if hasD Ds s ∧ hasD Ds a then (if agB T0 (atD' Ds s) = true ∧ (exaR (atD' Ds s) (atD' Ds a)).2.1 = false then x = ((exaR (atD' Ds s) (atD' Ds a)).2.2.length : Int) ∧ S1.1 500 0 = 0 ∧ RfS S0 T0 Ds pg pp r L Q (exaR (atD' Ds s) (atD' Ds a)).2.2 S1 else S1.1 500 0 = 2 ∧ RfS S0 T0 Ds pg pp r L Q C S1) else S1.1 500 0 = 1 ∧ RfS S0 T0 Ds pg pp r L Q C S1) := by
  have n4 := h.1.2.1
  have p22 : ∀ (s0 : Int) (P : Prop) [Decidable P], s0 = (if P then 1 else 0) → (P ↔ hasD Ds s ∧ hasD Ds a) → Ev (fun m => f_X12_check m d 22 S [s, a, s0]) (fun x S1 => if hasD Ds s ∧ hasD Ds a then (if agB T0 (atD' Ds s) = true ∧ (exaR (atD' Ds s) (atD' Ds a)).2.1 = false then x = ((exaR (atD' Ds s) (atD' Ds a)).2.2.length : Int) ∧ S1.1 500 0 = 0 ∧ RfS S0 T0 Ds pg pp r L Q (exaR (atD' Ds s) (atD' Ds a)).2.2 S1 else S1.1 500 0 = 2 ∧ RfS S0 T0 Ds pg pp r L Q C S1) else S1.1 500 0 = 1 ∧ RfS S0 T0 Ds pg pp r L Q C S1) := by
    intro s0 P _ hs0 hp
    refine ev_up (fun n => e_X12_check_22) ?_
    unfold b_X12_check_22
    refine ev_gg (by first | omega | (constructor <;> omega)) ?_
    refine fa_c (p := P) hs0 h (fun c S1 t1 f1 h1 => ?_) (fun c S1 t1 f1 h1 => ?_)
    · have c2 := hp.mp c
      refine ev_gg (by decide) ?_
      refine ev_ite (fun _ => ?_) (fun z => by omega)
      simp only [if_pos c2]
      obtain ⟨s1, s2, s3, s4⟩ := r_at h1 c2.1
      obtain ⟨a1, a2, a3, a4⟩ := r_at h1 c2.2
      have hT := h1.2.2.2.2.2.2.2.1
      have sm := hsome _ s4
      obtain ⟨ok0, k0⟩ := hself
      refine ev_gc (q_asksWhole (d := d - 1) (a := 45) (A := 45) (B := s.toNat) (Sc := T0) (T := atD' Ds s) (M := 1000000000) (by omega) rfl s1 ⟨⟨⟨by decide, by decide⟩, by omega, by omega⟩, ⟨hT.2.1, hT.2.2.1⟩, s4.1, s4.2.1⟩ (by decide) k0 hT.1 s3 (Or.inr sm)) (fun _ S2 q2 => ?_)
      obtain ⟨f2, q2⟩ := q2
      cases eA : askR T0 (atD' Ds s) 2000 151 [] 0 0 (0, []) with
      | none => exact absurd eA sm
      | some K1 =>
        rw [eA] at q2
        obtain ⟨n1, cs1⟩ := K1
        obtain ⟨_, c3, l3⟩ := q2
        have ag := agB_ask eA
        have h2 := rf_sc h1 f2 (fun c j z => aw_sc z)
        -- it is no SCHEMA, or it is
        have p54 : ∀ (s0 : Int) (P : Prop) [Decidable P], s0 = (if P then 1 else 0) → (P ↔ agB T0 (atD' Ds s) = true) → Ev (fun m => f_X12_check m d 54 S2 [s, a, s0]) (fun x S1 => if agB T0 (atD' Ds s) = true ∧ (exaR (atD' Ds s) (atD' Ds a)).2.1 = false then x = ((exaR (atD' Ds s) (atD' Ds a)).2.2.length : Int) ∧ S1.1 500 0 = 0 ∧ RfS S0 T0 Ds pg pp r L Q (exaR (atD' Ds s) (atD' Ds a)).2.2 S1 else S1.1 500 0 = 2 ∧ RfS S0 T0 Ds pg pp r L Q C S1) := by
          intro s0 P _ hs0 hp
          refine ev_up (fun n => e_X12_check_54) ?_
          unfold b_X12_check_54
          refine ev_gg (by first | omega | (constructor <;> omega)) ?_
          refine fa_c (p := P) hs0 h2 (fun c S3 t3 f3 h3 => ?_) (fun c S3 t3 f3 h3 => ?_)
          · have c5 := hp.mp c
            refine ev_gg (by decide) ?_
            refine ev_ite (fun _ => ?_) (fun z => by omega)
            have ecs : cs1 = [] := ag.mp c5
            rw [ecs] at eA
            obtain ⟨ok, k1⟩ := hyes _ n1 s4 eA
            obtain ⟨s1', s2', s3', s4'⟩ := r_at h3 c2.1
            obtain ⟨a1', a2', a3', a4'⟩ := r_at h3 c2.2
            refine ev_gc (q_asksWhole (d := d - 1) (a := s) (A := s.toNat) (B := a.toNat) (Sc := atD' Ds s) (T := atD' Ds a) (M := 2000) (by omega) s1 a1 ⟨⟨⟨by omega, by omega⟩, by omega, by omega⟩, ⟨s4.1, s4.2.1⟩, a4.1, a4.2.1⟩ (by decide) k1 s3' a3' (Or.inl rfl)) (fun _ S4 q4 => ?_)
            obtain ⟨f4, q4⟩ := q4
            have h4 := rf_sc h3 f4 (fun c j z => aw_sc z)
            have ex := exa_ask (Sc := atD' Ds s) (T := atD' Ds a)
            have p95 : ∀ (s0 : Int) (P : Prop) [Decidable P], s0 = (if P then 1 else 0) → (¬ P → ¬ (agB T0 (atD' Ds s) = true ∧ (exaR (atD' Ds s) (atD' Ds a)).2.1 = false)) → (P → (agB T0 (atD' Ds s) = true ∧ (exaR (atD' Ds s) (atD' Ds a)).2.1 = false) ∧ CsQ (exaR (atD' Ds s) (atD' Ds a)).2.2 S4 ∧ (exaR (atD' Ds s) (atD' Ds a)).2.2.length ≤ 1000) → Ev (fun m => f_X12_check m d 95 S4 [s0]) (fun x S1 => if agB T0 (atD' Ds s) = true ∧ (exaR (atD' Ds s) (atD' Ds a)).2.1 = false then x = ((exaR (atD' Ds s) (atD' Ds a)).2.2.length : Int) ∧ S1.1 500 0 = 0 ∧ RfS S0 T0 Ds pg pp r L Q (exaR (atD' Ds s) (atD' Ds a)).2.2 S1 else S1.1 500 0 = 2 ∧ RfS S0 T0 Ds pg pp r L Q C S1) := by
              intro s0 P _ hs0 hno hyes
              refine ev_up (fun n => e_X12_check_95) ?_
              unfold b_X12_check_95
              refine ev_gg (by first | omega | (constructor <;> omega)) ?_
              refine fa_c (p := P) hs0 h4 (fun c S5 t5 f5 h5 => ?_) (fun c S5 t5 f5 h5 => ?_)
              · obtain ⟨y1, y2, y3⟩ := hyes c
                refine ev_gg (by decide) ?_
                refine ev_ite (fun _ => ?_) (fun z => by omega)
                simp only [if_pos y1]
                generalize (exaR (atD' Ds s) (atD' Ds a)).2.2 = C1 at y2 y3 ⊢
                have c5 := cs_fr y2 f5 (by omega) (fun j => by omega)
                refine ev_gv ?_
                rw [c5.1]
                refine ev_gv ?_
                have lp : ∀ (u i : Nat) (S6 : GS), i + u = C1.length → CsQ C1 S6 → S6.1 500 81 = (C1.length : Int) → (∀ j, j < i → S6.1 552 j = 32 * (prA C1 j).1 + (prA C1 j).2) → FC (fun c j => (c = 500 ∧ j = 81) ∨ c = 552) S5 S6 → Ev (fun m => f_X12_check m d 114 S6 [(i : Int)]) (fun x S1 => x = (C1.length : Int) ∧ S1.1 500 0 = 0 ∧ RfS S0 T0 Ds pg pp r L Q C1 S1) := by
                  intro u
                  induction u with
                  | zero =>
                    intro i S6 hiu c6 e81 he f6
                    refine ev_up (fun n => e_X12_check_114) ?_
                    unfold b_X12_check_114
                    refine ev_gv ?_
                    rw [c6.1]
                    refine ev_gg (by first | omega | (constructor <;> omega)) ?_
                    refine ev_gg (by first | omega | (constructor <;> omega)) ?_
                    refine ev_ite (fun _ => ?_) (fun z => by omega)
                    refine ev_gv ?_
                    rw [e81]
                    refine ev_ret ⟨rfl, by rw [fc_i f6 (by omega)]; exact t5, rf_compl h5 f6 ⟨e81, y3, fun j hj => ⟨he j (by omega), c6.2.2 _ ?_⟩, by rw [fc_i f6 (by omega)]; exact h5.2.2.2.2.2.2.1.2.2.2⟩⟩
                    show C1.getD j (0, 0) ∈ C1
                    rw [List.getD_eq_getElem?_getD, List.getElem?_eq_getElem hj]
                    exact List.getElem_mem hj
                  | succ u ih =>
                    intro i S6 hiu c6 e81 he f6
                    have il : i < C1.length := by omega
                    refine ev_up (fun n => e_X12_check_114) ?_
                    unfold b_X12_check_114
                    refine ev_gv ?_
                    rw [c6.1]
                    refine ev_gg (by first | omega | (constructor <;> omega)) ?_
                    refine ev_gg (by first | omega | (constructor <;> omega)) ?_
                    refine ev_ite (fun z => by omega) (fun _ => ?_)
                    refine ev_gg (by first | omega | (constructor <;> omega)) ?_
                    refine ev_gv ?_
                    rw [Int.toNat_natCast, c6.2.1 i il]
                    refine ev_gg (by first | omega | (constructor <;> omega)) ?_
                    refine ev_gv ?_
                    refine ev_gv ?_
                    rw [show (i : Int) + 1 = ((i + 1 : Nat) : Int) by omega]
                    have f7 : FC (fun c j => (c = 500 ∧ j = 81) ∨ c = 552) S6 (gI S6 552 i (32 * (prA C1 i).1 + (prA C1 i).2)) := fc_gI (Or.inr rfl)
                    refine ih (i + 1) _ (by omega) (cs_fr c6 f7 (by omega) (fun j => by omega)) (by rw [gI_c (by decide)]; exact e81) (fun j hj => ?_) (fc_tr f6 f7)
                    by_cases ej : j = i
                    · rw [ej]; exact gI_a
                    · rw [gI_k ej]
                      exact he j (by omega)
                have f6 : FC (fun c j => (c = 500 ∧ j = 81) ∨ c = 552) S5 (gI S5 500 81 (C1.length : Int)) := fc_gI (Or.inl ⟨rfl, rfl⟩)
                exact lp C1.length 0 _ (by omega) (cs_fr c5 f6 (by omega) (fun j => by omega)) gI_a (fun j hj => absurd hj (Nat.not_lt_zero j)) f6
              · refine ev_gg (by decide) ?_
                refine ev_ite (fun z => by omega) (fun _ => ?_)
                simp only [if_neg (hno c)]
                exact ev_ret ⟨t5, h5⟩
            refine ev_gv ?_
            cases eX : askR (atD' Ds s) (atD' Ds a) 2000 151 [] 0 0 (0, []) with
            | none =>
              rw [eX] at q4 ex
              have q4' : S4.2.1 500 65 = true := q4
              have ex' : (exaR (atD' Ds s) (atD' Ds a)).2.1 = true := ex
              rw [q4']
              refine ev_gg (by decide) ?_
              refine ev_ite (fun _ => ?_) (fun z => absurd (by decide) z)
              exact p95 0 False (by rw [if_neg (fun z => z)]) (fun _ z => by rw [ex'] at z; cases z.2) (fun z => z.elim)
            | some K2 =>
              rw [eX] at q4 ex
              obtain ⟨q5, q6, q7⟩ := q4
              rw [q5]
              refine ev_gg (by decide) ?_
              refine ev_ite (fun z => absurd rfl z) (fun _ => ?_)
              refine ev_gv ?_
              rw [q6.1]
              refine ev_gg (by first | omega | (constructor <;> omega)) ?_
              have ex' : if K2.2.length ≤ 1000 then (exaR (atD' Ds s) (atD' Ds a)).2.1 = false ∧ (exaR (atD' Ds s) (atD' Ds a)).2.2 = K2.2 else (exaR (atD' Ds s) (atD' Ds a)).2.1 = true := ex
              refine ev_ite (fun z => ?_) (fun z => ?_)
              · rw [if_neg (show ¬ K2.2.length ≤ 1000 by omega)] at ex'
                exact p95 0 False (by rw [if_neg (fun z => z)]) (fun _ z => by rw [ex'] at z; cases z.2) (fun z => z.elim)
              · rw [if_pos (show K2.2.length ≤ 1000 by omega)] at ex'
                exact p95 1 True (by rw [if_pos trivial]) (fun z => absurd trivial z) (fun _ => ⟨⟨c5, ex'.1⟩, by rw [ex'.2]; exact q6, by rw [ex'.2]; omega⟩)
          · refine ev_gg (by decide) ?_
            refine ev_ite (fun z => by omega) (fun _ => ?_)
            simp only [if_neg (show ¬ (agB T0 (atD' Ds s) = true ∧ (exaR (atD' Ds s) (atD' Ds a)).2.1 = false) from fun z => c (hp.mpr z.1))]
            exact ev_ret ⟨t3, h3⟩
        refine ev_gv ?_
        rw [c3.1]
        have l3' : cs1.length ≤ 219900 := l3
        refine ev_gg ((by constructor <;> (show _ <;> omega))) ?_
        refine ev_ite (fun z => ?_) (fun z => ?_)
        · exact p54 0 False (by rw [if_neg (fun z => z)]) ⟨fun z => z.elim, fun y => by
            have y' := ag.mp y
            rw [y'] at z
            exact absurd rfl z⟩
        · exact p54 1 True (by rw [if_pos trivial]) ⟨fun _ => ag.mpr (List.length_eq_zero_iff.mp (by
            have : ¬ ((cs1.length : Int) ≠ 0) := z
            omega)), fun _ => trivial⟩
    · refine ev_gg (by decide) ?_
      refine ev_ite (fun z => by omega) (fun _ => ?_)
      simp only [if_neg (show ¬ (hasD Ds s ∧ hasD Ds a) from fun z => c (hp.mpr z))]
      exact ev_ret ⟨t1, h1⟩
  refine ev_up (fun n => e_X12_check_0) ?_
  unfold b_X12_check_0
  refine ev_gg (by first | omega | (constructor <;> omega)) ?_
  refine ev_gcr (r_isDoc (d := d - 1) (by omega) hs h) ?_
  by_cases c : hasD Ds s
  · rw [if_pos c]
    refine ev_gg (by decide) ?_
    refine ev_ite (fun z => by omega) (fun _ => ?_)
    refine ev_gcr (r_isDoc (d := d - 1) (by omega) ha h) ?_
    by_cases c2 : hasD Ds a
    · rw [if_pos c2]
      refine ev_gg (by decide) ?_
      refine ev_ite (fun z => by omega) (fun _ => ?_)
      exact p22 1 True (by rw [if_pos trivial]) ⟨fun _ => ⟨c, c2⟩, fun _ => trivial⟩
    · rw [if_neg c2]
      refine ev_gg (by decide) ?_
      refine ev_ite (fun _ => ?_) (fun z => by omega)
      exact p22 0 False (by rw [if_neg (fun z => z)]) ⟨fun z => z.elim, fun z => c2 z.2⟩
  · rw [if_neg c]
    refine ev_gg (by decide) ?_
    refine ev_ite (fun _ => ?_) (fun z => by omega)
    exact p22 0 False (by rw [if_neg (fun z => z)]) ⟨fun z => z.elim, fun z => c z.1⟩
end RCK
