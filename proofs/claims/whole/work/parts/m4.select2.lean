/-! THE REFERENCE's select, all STEPS -/
section SE2
variable {S0 S S1 : GS} {T0 : List ND} {Ds : List (List ND)} {pg pp : List Int} {r : Int} {L : List Nat} {Q : List (List Int)} {C : List (Int × Int)} {d : Nat}
theorem r_sel {V : List ND} {a : Int} {l : List Int} (hd : 11 ≤ d) (ha : hasD Ds a) (hV : atD' Ds a = V) (hp : isP l) : ∀ (t i : Nat) (L : List Nat) (S : GS), i + t = nW l → FdL V.length L → PaS S l → S.1 500 0 = 0 → RfS S0 T0 Ds pg pp r L Q C S → Ev (fun n => f_X12_select n d 52 S [a, stA l (i : Int) - 1]) (fun x S1 => x = ((skF l V t i L).length : Int) ∧ S1.1 500 0 = 0 ∧ RfS S0 T0 Ds pg pp r (skF l V t i L) Q C S1) := by
  intro t
  induction t with
  | zero =>
    intro i L S hi hF hl t0 h
    have sr := stA_r (l := l) (i : Int)
    have hi2 := stA_hi (l := l) (k := (i : Int)) (by omega)
    have l9 := hl.2.1
    refine ev_up (fun n => e_X12_select_52) ?_
    unfold b_X12_select_52
    refine ev_gv ?_
    rw [hl.1]
    refine ev_gg (by first | omega | (constructor <;> omega)) ?_
    refine ev_gg (by first | omega | (constructor <;> omega)) ?_
    refine ev_ite (fun _ => ?_) (fun z => by omega)
    refine ev_gv ?_
    rw [h.2.2.2.2.1.1]
    exact ev_ret ⟨rfl, t0, h⟩
  | succ t ih =>
    intro i L S hi hF hl t0 h
    have sr := stA_r (l := l) (i : Int)
    have l9 := hl.2.1
    obtain ⟨e1, e2, e3, e4⟩ := r_at h ha
    rw [hV] at e3 e4
    have lV := e4.2.2.1
    have lv1 := e4.1.1.1.2.1
    have lk : ∀ S3 L3, RfS S0 T0 Ds pg pp r L3 Q C S3 → LK S3 a.toNat V := fun S3 L3 g => hV ▸ (r_at g ha).2.2.1
    have st := stA_next (l := l) (k := i) (by omega)
    obtain ⟨A, hA⟩ : ∃ A : Nat, stA l (i : Int) = (A : Int) := ⟨(stA l (i : Int)).toNat, by omega⟩
    rw [hA, Int.toNat_natCast] at st
    have tl := tw_le (l.drop A)
    rw [List.length_drop] at tl
    refine ev_up (fun n => e_X12_select_52) ?_
    unfold b_X12_select_52
    refine ev_gv ?_
    rw [hl.1]
    refine ev_gg (by first | omega | (constructor <;> omega)) ?_
    refine ev_gg (by first | omega | (constructor <;> omega)) ?_
    refine ev_ite (fun z => by omega) (fun _ => ?_)
    refine ev_gg (by first | omega | (constructor <;> omega)) ?_
    refine ev_gc (q_step (d := d - 1) (A := A) (by omega) hl (by omega)) (fun _ S1 q => ?_)
    obtain ⟨q1, q2, q3⟩ := q
    have hl1 : PaS S1 l := pa_fr hl q3 (by omega) (fun j => by omega)
    have h1 := rf_sc h q3 (fun c j z => by omega)
    have w1 : (stA l ((i : Int) + 1) - 1).toNat = A + tw (l.drop A) := by omega
    have ew : une ((l.take (A + tw (l.drop A))).drop A) = wdA l i := by
      unfold wdA
      rw [w1, hA, Int.toNat_natCast]
    have pt : ptOK ((l.take (A + tw (l.drop A))).drop A) = true := by
      refine ptOK_drop (ptOK_take l _ hp.2 (fun z => ?_))
      have e47 : l.getD (A + tw (l.drop A)) 0 = 47 := by
        have := tw_47 (l.drop A) (by rw [List.length_drop]; omega)
        rw [List.getD_eq_getElem?_getD, List.getElem?_drop, ← List.getD_eq_getElem?_getD] at this
        exact this
      rw [e47]
      decide
    refine ev_gv ?_
    have f2 : FC mtP S1 (gI S1 500 36 0) := fc_gI (Or.inl ⟨rfl, rfl⟩)
    have p128 : ∀ (S3 : GS) (M : List Nat), FC seP S1 S3 → FmS V.length M S3 → M = skS V (wdA l i) L → Ev (fun n => gv (S3.1 500 36) fun x6 => gv (gI S3 500 32 x6) fun S_8 => f_X12_select n d 128 S_8 [a, 0]) (fun x S1 => x = ((skF l V (t + 1) i L).length : Int) ∧ S1.1 500 0 = 0 ∧ RfS S0 T0 Ds pg pp r (skF l V (t + 1) i L) Q C S1) := by
      intro S3 M f3 h3 hM
      have ml := nodup_len V.length M h3.2.2.2.1 h3.2.2.2.2
      have hR3 := rf_sc h1 f3 (fun c j z => by omega)
      refine ev_gv ?_
      rw [h3.1]
      refine ev_gv ?_
      have lp : ∀ (k u : Nat) (S4 : GS), u + k = M.length → FC (fun c j => (c = 500 ∧ j = 32) ∨ c = 519) S3 S4 → S4.1 500 32 = (M.length : Int) → (∀ j, j < u → S4.1 519 j = (M.getD j 0 : Int)) → Ev (fun n => f_X12_select n d 128 S4 [a, (u : Int)]) (fun x S1 => x = ((skF l V (t + 1) i L).length : Int) ∧ S1.1 500 0 = 0 ∧ RfS S0 T0 Ds pg pp r (skF l V (t + 1) i L) Q C S1) := by
        intro k
        induction k with
        | zero =>
          intro u S4 hu f4 c32 hj
          have c31 : S4.1 500 31 = stA l ((i : Int) + 1) - 1 := by rw [fc_i f4 (by omega), fc_i f3 (by omega), q2]; omega
          have c0 : S4.1 500 0 = 0 := by rw [fc_i f4 (by omega), fc_i f3 (by omega), fc_i q3 (by omega)]; exact t0
          have hl4 : PaS S4 l := pa_fr (pa_fr hl1 f3 (by omega) (fun j => by omega)) f4 (by omega) (fun j => by omega)
          have hR4 : RfS S0 T0 Ds pg pp r M Q C S4 := rf_finds hR3 f4 ⟨c32, by omega, fun j hj2 => hj j (by omega), fun x hx => by have := h3.2.2.2.2 x hx; omega⟩
          refine ev_up (fun n => e_X12_select_128) ?_
          unfold b_X12_select_128
          refine ev_gv ?_
          rw [c32]
          refine ev_gg (by first | omega | (constructor <;> omega)) ?_
          refine ev_gg (by first | omega | (constructor <;> omega)) ?_
          refine ev_ite (fun _ => ?_) (fun z => by omega)
          refine ev_gv ?_
          rw [c31, show (i : Int) + 1 = ((i + 1 : Nat) : Int) by omega]
          have := ih (i + 1) M S4 (by omega) h3.2.2.2 hl4 c0 hR4
          rw [hM] at this
          exact this
        | succ k ihk =>
          intro u S4 hu f4 c32 hj
          have f5 : FC (fun c j => (c = 500 ∧ j = 32) ∨ c = 519) S4 (gI S4 519 u (M.getD u 0 : Int)) := fc_gI (Or.inr rfl)
          refine ev_up (fun n => e_X12_select_128) ?_
          unfold b_X12_select_128
          refine ev_gv ?_
          rw [c32]
          refine ev_gg (by first | omega | (constructor <;> omega)) ?_
          refine ev_gg (by first | omega | (constructor <;> omega)) ?_
          refine ev_ite (fun z => by omega) (fun _ => ?_)
          refine ev_gg (by first | omega | (constructor <;> omega)) ?_
          refine ev_gv ?_
          rw [Int.toNat_natCast, fc_i f4 (by omega), h3.2.1 u (by omega)]
          refine ev_gv ?_
          refine ev_gv ?_
          rw [show (u : Int) + 1 = ((u + 1 : Nat) : Int) by omega]
          refine ihk (u + 1) _ (by omega) (fc_tr f4 f5) (by rw [gI_c (by decide)]; exact c32) (fun j hj2 => ?_)
          by_cases e : j = u
          · subst e; rw [gI_a]
          · rw [gI_k (by omega)]; exact hj j (by omega)
      exact lp M.length 0 _ (by omega) (fc_gI (Or.inl ⟨rfl, rfl⟩)) gI_a (fun j hj => absurd hj (Nat.not_lt_zero j))
    have p93 : ∀ (L1 : List Nat) (u : Nat) (M : List Nat) (S3 : GS), L.drop u = L1 → u ≤ L.length → FC seP S1 S3 → FmS V.length M S3 → (L1.flatMap (stC V (wdA l i))).foldl mtA M = skS V (wdA l i) L → Ev (fun n => f_X12_select n d 93 S3 [a, (u : Int)]) (fun x S1 => x = ((skF l V (t + 1) i L).length : Int) ∧ S1.1 500 0 = 0 ∧ RfS S0 T0 Ds pg pp r (skF l V (t + 1) i L) Q C S1) := by
      intro L1
      induction L1 with
      | nil =>
        intro u M S3 hu hul f3 h3 hM
        have hR3 := rf_sc h1 f3 (fun c j z => by omega)
        have lu : L.length ≤ u := List.drop_eq_nil_iff.mp hu
        have lL := hR3.2.2.2.2.1.2.1
        refine ev_up (fun n => e_X12_select_93) ?_
        unfold b_X12_select_93
        refine ev_gv ?_
        rw [hR3.2.2.2.2.1.1]
        refine ev_gg (by first | omega | (constructor <;> omega)) ?_
        refine ev_gg (by first | omega | (constructor <;> omega)) ?_
        refine ev_ite (fun _ => ?_) (fun z => by omega)
        exact p128 S3 M f3 h3 hM
      | cons c L1 ihL =>
        intro u M S3 hu hul f3 h3 hM
        have hR3 := rf_sc h1 f3 (fun c j z => by omega)
        have lL := hR3.2.2.2.2.1.2.1
        have lu : u < L.length := by
          by_cases y : u < L.length
          · exact y
          · rw [List.drop_eq_nil_of_le (by omega)] at hu; cases hu
        have eD := List.drop_eq_getElem_cons lu
        rw [hu] at eD
        obtain ⟨ec, ed⟩ := List.cons.inj eD
        have eg : L.getD u 0 = c := by rw [List.getD_eq_getElem?_getD, List.getElem?_eq_getElem lu, ec]; rfl
        have cl : c < V.length := hF.2 c (by rw [ec]; exact List.getElem_mem lu)
        have c30 : S3.1 500 30 = (A : Int) := by rw [fc_i f3 (by omega)]; exact q1
        have c31 : S3.1 500 31 = ((A + tw (l.drop A) : Nat) : Int) := by rw [fc_i f3 (by omega)]; exact q2
        refine ev_up (fun n => e_X12_select_93) ?_
        unfold b_X12_select_93
        refine ev_gv ?_
        rw [hR3.2.2.2.2.1.1]
        refine ev_gg (by first | omega | (constructor <;> omega)) ?_
        refine ev_gg (by first | omega | (constructor <;> omega)) ?_
        refine ev_ite (fun z => by omega) (fun _ => ?_)
        refine ev_gg (by first | omega | (constructor <;> omega)) ?_
        refine ev_gv ?_
        rw [Int.toNat_natCast, hR3.2.2.2.2.1.2.2.1 u lu, eg]
        refine ev_gg (by first | omega | (constructor <;> omega)) ?_
        refine ev_gc (q_selectsBy (d := d - 1) (K := a.toNat) (g := c) (A := A) (E := A + tw (l.drop A)) (by omega) e1 (by omega) rfl (lk S3 L hR3) e4.1 e4.2.1 cl (pa_fr hl1 f3 (by omega) (fun j => by omega)) c30 c31 (by omega) (by omega) pt h3) (fun _ S4 q => ?_)
        rw [ew] at q
        refine ev_gv ?_
        rw [show (u : Int) + 1 = ((u + 1 : Nat) : Int) by omega]
        refine ihL (u + 1) _ S4 ed.symm (by omega) (fc_tr f3 q.2) q.1 ?_
        rw [← hM, List.flatMap_cons, List.foldl_append]
    have p72 : ∀ (k u : Nat) (S3 : GS), u + k = 101 → FC mtP S1 S3 → S3.1 500 36 = 0 → (∀ j, j < u → S3.2.1 521 j = false) → Ev (fun n => f_X12_select n d 72 S3 [a, (u : Int)]) (fun x S1 => x = ((skF l V (t + 1) i L).length : Int) ∧ S1.1 500 0 = 0 ∧ RfS S0 T0 Ds pg pp r (skF l V (t + 1) i L) Q C S1) := by
      intro k
      induction k with
      | zero =>
        intro u S3 hu f3 c36 hj
        refine ev_up (fun n => e_X12_select_72) ?_
        unfold b_X12_select_72
        refine ev_gg (by first | omega | (constructor <;> omega)) ?_
        refine ev_ite (fun _ => ?_) (fun z => by omega)
        exact p93 L 0 [] S3 rfl (Nat.zero_le _) (fc_mono f3 (fun c j z => Or.inl z)) ⟨c36, fun j hj2 => absurd hj2 (Nat.not_lt_zero j), fun j hj2 => by rw [hj j (by omega)]; simp, List.nodup_nil, fun x hx => by cases hx⟩ rfl
      | succ k ihk =>
        intro u S3 hu f3 c36 hj
        refine ev_up (fun n => e_X12_select_72) ?_
        unfold b_X12_select_72
        refine ev_gg (by first | omega | (constructor <;> omega)) ?_
        refine ev_ite (fun z => by omega) (fun _ => ?_)
        refine ev_gg (by first | omega | (constructor <;> omega)) ?_
        refine ev_gv ?_
        refine ev_gv ?_
        rw [Int.toNat_natCast, show (u : Int) + 1 = ((u + 1 : Nat) : Int) by omega]
        refine ihk (u + 1) _ (by omega) (fc_tr f3 (fc_gB (Or.inr (Or.inr rfl)))) c36 (fun j hj2 => ?_)
        by_cases e : j = u
        · subst e; rw [gB_a]; decide
        · rw [gB_k (by omega)]; exact hj j (by omega)
    exact p72 101 0 _ rfl f2 gI_a (fun j hj => absurd hj (Nat.not_lt_zero j))
theorem r_select {a : Int} (hd : 12 ≤ d) (ha : inr a) (h : RfS S0 T0 Ds pg pp r L Q C S) : Ev (fun n => f_X12_select n d 0 S [a]) (fun x S1 => if hasD Ds a then (if isP pg then x = ((seekL pg (atD' Ds a)).length : Int) ∧ S1.1 500 0 = 0 ∧ RfS S0 T0 Ds [] pp r (seekL pg (atD' Ds a)) Q C S1 else S1.1 500 0 = 2 ∧ RfS S0 T0 Ds pg pp r L Q C S1) else S1.1 500 0 = 1 ∧ RfS S0 T0 Ds pg pp r L Q C S1) := by
  refine ev_up (fun n => e_X12_select_0) ?_
  unfold b_X12_select_0
  refine ev_gg (by first | omega | (constructor <;> omega)) ?_
  refine ev_gcr (r_isDoc (d := d - 1) (by omega) ha h) ?_
  refine fa_c rfl h (fun c S1 t1 f1 h1 => ?_) (fun c S1 t1 f1 h1 => ?_)
  · refine ev_gg (by decide) ?_
    refine ev_ite (fun _ => ?_) (fun z => by omega)
    simp only [if_pos c]
    refine ev_gc (r_pathOfPage (d := d - 1) h1) (fun _ S2 q2 => ?_)
    obtain ⟨pa, t2, f2, h2⟩ := q2
    refine ev_gcr (q_isPath (d := d - 1) pa) ?_
    refine fa_c rfl h2 (fun c2 S3 t3 f3 h3 => ?_) (fun c2 S3 t3 f3 h3 => ?_)
    · refine ev_gg (by decide) ?_
      refine ev_ite (fun _ => ?_) (fun z => by omega)
      simp only [if_pos c2]
      refine ev_gv ?_
      refine ev_gv ?_
      refine ev_gg (by decide) ?_
      refine ev_gv ?_
      have pa3 : PaS S3 pg := pa_fr pa f3 (by omega) (fun j => by omega)
      have h4 : RfS S0 T0 Ds [] pp r L Q C (gI S3 500 7 0) := rf_page h3 (fc_gI (Or.inl ⟨rfl, rfl⟩)) ⟨gI_a, by decide, fun i hi => absurd hi (Nat.not_lt_zero i), fun x hx => by cases hx⟩
      have f5 : FC (fun c j => (c = 500 ∧ j = 32) ∨ c = 519) (gI S3 500 7 0) (gI (gI (gI S3 500 7 0) 500 32 1) 519 (0 : Int).toNat 0) := fc_tr (fc_gI (Or.inl ⟨rfl, rfl⟩)) (fc_gI (Or.inr rfl))
      have h5 : RfS S0 T0 Ds [] pp r [0] Q C (gI (gI (gI S3 500 7 0) 500 32 1) 519 (0 : Int).toNat 0) := rf_finds h4 f5 ⟨by rw [gI_c (by decide), gI_a]; rfl, by decide, fun i hi => by
        have : i = 0 := by rw [List.length_singleton] at hi; omega
        subst this
        exact gI_a, fun x hx => by rw [List.mem_singleton] at hx; omega⟩
      have pa5 : PaS (gI (gI (gI S3 500 7 0) 500 32 1) 519 (0 : Int).toNat 0) pg := pa_fr (pa_fr pa3 (fc_gI (P := fun c j => c = 500 ∧ j = 7) ⟨rfl, rfl⟩) (by omega) (fun j => by omega)) f5 (by omega) (fun j => by omega)
      have t5 : (gI (gI (gI S3 500 7 0) 500 32 1) 519 (0 : Int).toNat 0).1 500 0 = 0 := by rw [gI_c (by decide), gI_k (by decide), gI_k (by decide)]; exact t3
      have dV := (r_at h3 c).2.2.2
      have lv := dV.1.1.1.2.1
      have := r_sel (d := d) (by omega) c rfl c2 (nW pg) 0 [0] _ (by omega) ⟨by simp, fun x hx => by rw [List.mem_singleton] at hx; omega⟩ pa5 t5 h5
      rw [show stA pg ((0 : Nat) : Int) - 1 = 0 by have := stA_0 c2; rw [show ((0 : Nat) : Int) = 0 from rfl, this]; rfl] at this
      exact this
    · refine ev_gg (by decide) ?_
      refine ev_ite (fun z => by omega) (fun _ => ?_)
      refine ev_ret ?_
      rw [if_neg c2]
      exact ⟨t3, h3⟩
  · refine ev_gg (by decide) ?_
    refine ev_ite (fun z => by omega) (fun _ => ?_)
    refine ev_ret ?_
    rw [if_neg c]
    exact ⟨t1, h1⟩
end SE2
