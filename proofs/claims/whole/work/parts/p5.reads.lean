/-! THE REFERENCE reads: VALUES -/
def RvT (d : Nat) (how : Int) (t : List Int) (f : Nat) : Prop := ∀ (W : List ND) (Pr : Nat → Int) (St : List Nat) (key r : List Int) (S : GS) (Q : Int → GS → Prop) (st : Int), RI S t r W Pr St → skB r = r → W.length ≤ 100 → St.length + f = 13 → (St ≠ [] → (W.getD (tpN St) nd0).2.1 ≤ 100) → KeS S W St key → (st = 0 ∨ st = 1) → (∀ q S1, rdV f how W.length r = .inl q → RdS S1 t q → FC rsP S S1 → inr (S1.1 500 22) → Q ((t.length : Int) - q.length) S1) → (∀ T b q S1 Pr1, rdV f how W.length r = .inr (T, b, q) → RI S1 t q (upT W St ++ mny (kyT T key)) Pr1 St → PrQ Pr Pr1 W.length b (tpS St) → FC rsP S S1 → Ev (fun n => f_X12_reads n d 23 S1 [how, (b : Int), 4, 1]) Q) → Ev (fun n => f_X12_reads n d 146 S [how, (W.length : Int), st, 1, hdI r]) Q
theorem rdKy_Q {how : Int} {E : List (List ND)} {r : List Int} : rdKy how E r = rdQ how (fun key => E.any (fun u => decide (rq u = key))) (skB r) := by
  have e : ∀ z : List Int, (E.any (fun u => decide (rq u = z)) = true) = ∃ u ∈ E, rq u = z := fun z => by
    rw [List.any_eq_true]
    simp only [decide_eq_true_eq]
  unfold rdKy rdQ
  simp only [e]
theorem rdIt_sk {f : Nat} {how : Int} {mp : Bool} {E : List (List ND)} {b : Nat} {r : List Int} : rdIt (rdV f how) mp how E b r = rdIt (rdV f how) mp how E b (skB r) := by
  unfold rdIt
  cases mp with
  | true =>
    rw [if_pos rfl, if_pos rfl]
    unfold rdKy
    rw [skB_idem]
  | false =>
    rw [if_neg (by decide), if_neg (by decide)]
    exact rdV_sk
theorem rdL_sk {f : Nat} {how : Int} {mp : Bool} {n : Nat} {E : List (List ND)} {b : Nat} {r : List Int} (hn : 1 ≤ n) : rdL (rdV f how) mp how n E b r = rdL (rdV f how) mp how n E b (skB r) := by
  obtain ⟨n, rfl⟩ : ∃ k, n = k + 1 := ⟨n - 1, by omega⟩
  rw [rdL_s, rdL_s, rdIt_sk]
theorem kaN_no {f b : Nat} {how : Int} {r : List Int} (hs : skB r = r) (h : kaN (hdI r) = -1) : rdV (f + 1) how b r = .inl r := by
  have h0 : hdI r ≠ 110 ∧ ¬ (hdI r = 116 ∨ hdI r = 102) ∧ hdI r ≠ 34 ∧ hdI r ≠ 91 ∧ hdI r ≠ 123 ∧ ¬ (hdI r = 45 ∨ fgC (hdI r)) := by
    unfold kaN at h
    refine ⟨fun z => ?_, fun z => ?_, fun z => ?_, fun z => ?_, fun z => ?_, fun z => ?_⟩
    · rw [if_pos z] at h; omega
    · rw [if_neg (show ¬ hdI r = 110 by omega), if_pos z] at h; omega
    · rw [if_neg (show ¬ hdI r = 110 by omega), if_neg (show ¬ (hdI r = 116 ∨ hdI r = 102) by omega), if_pos z] at h; omega
    · rw [if_neg (show ¬ hdI r = 110 by omega), if_neg (show ¬ (hdI r = 116 ∨ hdI r = 102) by omega), if_neg (show ¬ hdI r = 34 by omega), if_pos z] at h; omega
    · rw [if_neg (show ¬ hdI r = 110 by omega), if_neg (show ¬ (hdI r = 116 ∨ hdI r = 102) by omega), if_neg (show ¬ hdI r = 34 by omega), if_neg (show ¬ hdI r = 91 by omega), if_pos z] at h; omega
    · rw [if_neg (show ¬ hdI r = 110 by omega), if_neg (show ¬ (hdI r = 116 ∨ hdI r = 102) by omega), if_neg (show ¬ hdI r = 34 by omega), if_neg (show ¬ hdI r = 91 by omega), if_neg (show ¬ hdI r = 123 by omega), if_pos z] at h; omega
  rw [rdV_s, hs]
  split
  · rfl
  · rw [if_neg (show ¬ (hdI r = 91 ∨ hdI r = 123) by omega), if_neg h0.2.2.1, if_neg h0.2.2.2.2.2]
    unfold rdC
    rw [if_neg h0.1, if_neg (show ¬ hdI r = 116 by omega), if_neg (show ¬ hdI r = 102 by omega)]
    rfl
theorem ka_ne {r : List Int} (h : 0 ≤ kaN (hdI r)) : r ≠ [] := fun e => by
  rw [e] at h
  exact absurd h (by decide)
theorem ka_gr {r : List Int} (h : 0 ≤ kaN (hdI r)) : (kaN (hdI r) < 4 ↔ ¬ (hdI r = 91 ∨ hdI r = 123)) ∧ (kaN (hdI r) = 4 ↔ hdI r = 91) ∧ (kaN (hdI r) = 5 ↔ hdI r = 123) := by
  by_cases c1 : hdI r = 91
  · rw [c1]; decide
  by_cases c2 : hdI r = 123
  · rw [c2]; decide
  have : kaN (hdI r) < 4 := by
    unfold kaN
    rw [if_neg c1, if_neg c2]
    repeat' split
    all_goals decide
  exact ⟨⟨fun _ => by omega, fun _ => this⟩, ⟨fun _ => by omega, fun z => absurd z c1⟩, ⟨fun _ => by omega, fun z => absurd z c2⟩⟩
theorem rdV_leaf {f b : Nat} {how : Int} {r : List Int} (hs : skB r = r) (h : 0 ≤ kaN (hdI r)) (h4 : kaN (hdI r) < 4) (hb : b < 100) : rdV (f + 1) how b r = bd (rdB r) (fun z => .inr (z.1, b + 1, z.2)) := by
  have g := (ka_gr h).1.mp h4
  rw [rdV_s, hs, if_neg (fun z => z.elim (ka_ne h) (fun y => by omega)), if_neg g]
  unfold rdB
  rw [if_neg (show ¬ hdI r = 91 by omega), if_neg (show ¬ hdI r = 123 by omega)]
section RVL
variable {S S0 : GS} {d f : Nat} {how p : Int} {A : List ND} {x : ND} {Pr : Nat → Int} {St : List Nat} {t r : List Int} {Q : Int → GS → Prop} {mp : Bool}
/-- one VALUE of a group, with its KEY -/
theorem rs_item {E : List (List ND)} {Pr1 : Nat → Int} {st : Int} {oI : Rs RV} (hd : 6 ≤ d) (hhow : inr how) (ih : RvT d how t f) (hx : x.1 = if mp then 5 else 4) (hl : (St ++ [A.length]).length + f = 13) (hr : skB r = r) (hE : ∀ T ∈ E, TR T ∧ PZL T) (h100 : (grW A x E).length ≤ 100) (h : RI S t r (grW A x E) Pr1 (St ++ [A.length])) (hke : KeI (grW A x E) Pr1 A.length E) (hst : if mp then st = 2 ∨ st = 3 else st = 0 ∨ st = 1) (hI : rdIt (rdV f how) mp how E (grW A x E).length r = oI) (nxF : ∀ q S1, oI = .inl q → RdS S1 t q → FC rsP S S1 → inr (S1.1 500 22) → Q ((t.length : Int) - q.length) S1) (nxS : ∀ v S1 Pr2, oI = .inr v → RI S1 t v.2.2 (upT (grW A x E) (St ++ [A.length]) ++ mny v.1) Pr2 (St ++ [A.length]) → PrQ Pr1 Pr2 (grW A x E).length v.2.1 (A.length : Int) → FC rsP S S1 → Ev (fun n => f_X12_reads n d 23 S1 [how, (v.2.1 : Int), 4, 1]) Q) : Ev (fun n => f_X12_reads n d 146 S [how, ((grW A x E).length : Int), st, 1, hdI r]) Q := by
  have rR := rd_mem h.2.2.2.1
  have hm : St ++ [A.length] ≠ [] → ((grW A x E).getD (tpN (St ++ [A.length])) nd0).2.1 ≤ 100 := fun _ => by
    rw [tp_snoc.1, gr_top]
    show E.length ≤ 100
    have := gr_len (A := A) (x := x) (E := E)
    have e : E.length ≤ E.flatten.length := by
      clear hI nxF nxS hst hke h h100 this
      induction E with
      | nil => exact Nat.le_refl _
      | cons u E ih =>
        rw [List.length_cons, List.flatten_cons, List.length_append]
        have := ih (fun T hT => hE T (List.mem_cons_of_mem _ hT))
        have := (hE u List.mem_cons_self).1.2.1
        omega
    omega
  cases mp with
  | false =>
    have ke : KeS S (grW A x E) (St ++ [A.length]) [] := by
      unfold KeS
      rw [if_neg (fun z => ?_)]
      have := z.2
      rw [tp_snoc.1, gr_top] at this
      have : x.1 = 5 := this
      rw [hx] at this
      exact absurd this (by decide)
    have hI' : rdV f how (grW A x E).length r = oI := hI
    refine ih _ Pr1 _ [] r S Q st h hr h100 hl hm ke hst (fun q S1 e => nxF q S1 (by rw [← hI', e])) (fun T b q S1 Pr2 e h1 hp f1 => ?_)
    have ok := (rdV_ok f (grW A x E).length r _ e rR).1
    have e2 : kyT T [] = T := by
      have := ky_self ok.1.1.1.2.1
      rw [ok.2.1] at this
      exact this
    rw [e2] at h1
    rw [tp_snoc.2] at hp
    exact nxS (T, b, q) S1 Pr2 (by rw [← hI', e]) h1 hp f1
  | true =>
    have hst' : st = 2 ∨ st = 3 := hst
    have g5 : ((grW A x E).getD A.length nd0).1 = 5 := by rw [gr_top]; exact hx
    obtain ⟨l1, t1, t2, t3, t4, t5⟩ := st_tp h (by simp)
    rw [tp_snoc.1] at t1 t2
    have hI' : bd (rdKy how E r) (fun z => bd (rdV f how (grW A x E).length z.2) (fun v => .inr (kyT v.1 z.1, v.2))) = oI := hI
    rw [rdKy_Q, hr] at hI'
    have p226 : Ev (fun n => f_X12_reads n d 226 S [how, ((grW A x E).length : Int), 1]) Q := by
      have sl := h.2.2.1.2.1
      refine ev_up (fun n => e_X12_reads_226) ?_
      unfold b_X12_reads_226
      refine ev_gg (by first | omega | (constructor <;> omega)) ?_
      refine ev_gc (q_readsKey (d := d - 1) (how := how) (W := grW A x E) (Pr := Pr1) (g := A.length) (dp := (St ++ [A.length]).length) (D := fun key => E.any (fun u => decide (rq u = key))) (by omega) hhow (by omega) t2 h.1 h.2.1 h.2.2.1.1 t1 (fun key => by rw [List.any_eq_true]; simp only [decide_eq_true_eq]; exact hke key) h.2.2.2.1) (fun y S1 q1 => ?_)
      obtain ⟨q1, f1⟩ := q1
      have rif : ∀ r1, RdS S1 t r1 → inr (S1.1 500 22) → RI S1 t r1 (grW A x E) Pr1 (St ++ [A.length]) := fun r1 h1 h2 => ⟨mdr_fr h.1 f1 (fun j _ _ => by omega) (by omega) (by omega), fun j hj => by rw [fc_i f1 (by omega)]; exact h.2.1 j hj, ⟨by rw [fc_i f1 (by omega)]; exact h.2.2.1.1, h.2.2.1.2.1, fun i hi => by rw [fc_i f1 (by omega)]; exact h.2.2.1.2.2 i hi⟩, h1, h2⟩
      cases hQ : rdQ how (fun key => E.any (fun u => decide (rq u = key))) r with
      | inl q =>
        rw [hQ] at q1 hI'
        obtain ⟨y0, r1, i22⟩ := q1
        subst y0
        refine ev_gg (by decide) ?_
        refine ev_ite (fun z => by omega) (fun _ => ?_)
        refine ev_gv ?_
        rw [rd_pl r1]
        refine ev_ret (nxF q S1 hI'.symm r1 (fc_mono f1 (fun c j z => by omega)) ?_)
        rcases i22 with c | c
        · rw [c]; exact h.2.2.2.2
        · constructor <;> omega
      | inr z =>
        rw [hQ] at q1 hI'
        obtain ⟨y0, r1, k1⟩ := q1
        subst y0
        refine ev_gg (by decide) ?_
        refine ev_ite (fun _ => ?_) (fun z => by omega)
        have k12 : inr (S1.1 500 22) := by have := k1.1; rw [k1.2.1]; constructor <;> omega
        refine rs_23 (b := (grW A x E).length) (st := 0) (by omega) (rif _ r1 k12) (Or.inl rfl) (fun S2 h2 f2 _ => ?_) (fun z => absurd z (by decide))
        have ke : KeS S2 (grW A x E) (St ++ [A.length]) z.1 := by
          unfold KeS
          rw [if_pos ⟨by simp, by rw [tp_snoc.1]; exact g5⟩]
          exact ky_fr k1 f2 (by omega) (fun j => by omega)
        have fs : FC rsP S S2 := fc_tr (fc_mono f1 (fun c j z => by omega)) (fc_mono f2 (fun c j z => by omega))
        have hI2 : bd (rdV f how (grW A x E).length (skB z.2)) (fun v => .inr (kyT v.1 z.1, v.2)) = oI := by
          rw [← rdV_sk]; exact hI'
        refine ih _ Pr1 _ z.1 (skB z.2) S2 Q 0 h2 (skB_idem _) h100 hl hm ke (Or.inl rfl) (fun q S3 e r3 f3 i3 => nxF q S3 (by rw [← hI2, e]; rfl) r3 (fc_tr fs f3) i3) (fun T b q S3 Pr2 e h3 hp f3 => ?_)
        rw [tp_snoc.2] at hp
        exact nxS (kyT T z.1, b, q) S3 Pr2 (by rw [← hI2, e]; rfl) h3 hp (fc_tr fs f3)
    refine ev_up (fun n => e_X12_reads_146) ?_
    unfold b_X12_reads_146
    refine ev_gg (by first | omega | (constructor <;> omega)) ?_
    refine ev_ite (fun _ => ?_) (fun z => by omega)
    refine ev_ite (fun _ => p226) (fun y => ?_)
    refine ev_ite (fun y2 => by omega) (fun _ => p226)
/-- all VALUES of a group, from one on -/
theorem rs_loop {o : Rs (List (List ND) × Nat × List Int)} (hd : 6 ≤ d) (hhow : inr how) (ih : RvT d how t f) (hx : x.1 = if mp then 5 else 4) (hl : (St ++ [A.length]).length + f = 13) (nxF : ∀ q S1, o = .inl q → RdS S1 t q → FC rsP S0 S1 → inr (S1.1 500 22) → Q ((t.length : Int) - q.length) S1) (nxS : ∀ E b q S1 Pr1, o = .inr (E, b, q) → (∀ T ∈ E, TR T ∧ PZL T) → RI S1 t q (grW A x E) Pr1 St → b = (grW A x E).length → PrQ Pr Pr1 A.length b p → FC rsP S0 S1 → Ev (fun n => f_X12_reads n d 23 S1 [how, (b : Int), 4, 1]) Q) : ∀ (n : Nat) (E : List (List ND)) (r : List Int) (Pr1 : Nat → Int) (S : GS) (st : Int), 101 ≤ n + (grW A x E).length → (∀ T ∈ E, TR T ∧ PZL T) → (grW A x E).length ≤ 100 → RI S t r (grW A x E) Pr1 (St ++ [A.length]) → skB r = r → PrQ Pr Pr1 A.length (grW A x E).length p → KeI (grW A x E) Pr1 A.length E → (if mp then st = 2 ∨ st = 3 else st = 0 ∨ st = 1) → FC rsP S0 S → rdL (rdV f how) mp how n E (grW A x E).length r = o → Ev (fun n => f_X12_reads n d 146 S [how, ((grW A x E).length : Int), st, 1, hdI r]) Q := by
  intro n
  induction n with
  | zero => intro E r Pr1 S st h1 _ h2; omega
  | succ n ihn =>
    intro E r Pr1 S st hn hE h100 h hr hP hke hst hf ho
    rw [rdL_s] at ho
    have rR := rd_mem h.2.2.2.1
    refine rs_item hd hhow ih hx hl hr hE h100 h hke hst rfl (fun q S1 e r1 f1 i1 => nxF q S1 (by rw [← ho, e]; rfl) r1 (fc_tr hf f1) i1) (fun v S1 Pr2 e h1 hp f1 => ?_)
    rw [e] at ho
    have ok := rdIt_ok (rdV_ok f) e rR
    have vT : TR v.1 ∧ PZL v.1 := ok.1.1
    have hE2 : ∀ T ∈ E ++ [v.1], TR T ∧ PZL T := snoc_all hE vT
    rw [gr_snoc] at h1
    have l2 : v.2.1 = (grW A x (E ++ [v.1])).length := by
      rw [ok.2.1, gr_len, gr_len, List.flatten_append, List.length_append]
      simp
      omega
    have gl : A.length < (grW A x E).length := by rw [gr_len]; omega
    have hP2 := pr_snoc gl hP hp
    have hk2 := ke_snoc vT.1.2.1 ok.2.1 hke hp
    have ho' : (if hdI (skB v.2.2) = enD mp then .inr (E ++ [v.1], v.2.1, (skB v.2.2).tail) else if hdI (skB v.2.2) = 44 then rdL (rdV f how) mp how n (E ++ [v.1]) v.2.1 (skB v.2.2).tail else .inl (skB v.2.2)) = o := ho
    have ens : enS (grW A x (E ++ [v.1])) (St ++ [A.length]) = enD mp := by
      unfold enS enD
      rw [tp_snoc.1, gr_top]
      show (if x.1 = 4 then (93 : Int) else 125) = _
      rw [hx]
      cases mp <;> rfl
    refine rs_23 (by omega) h1 (by omega) (fun S2 h2 f2 ne => ?_) (fun _ _ he S2 h2 f2 => ?_)
    · have nc : ¬ hdI (skB v.2.2) = enD mp := fun z => ne ⟨by omega, by simp, by rw [ens]; exact z⟩
      rw [if_neg nc] at ho'
      have f02 : FC rsP S0 S2 := fc_tr hf (fc_tr f1 (fc_mono f2 (fun c j z => by omega)))
      have s20 := h2.2.2.1.1
      have sl := h2.2.2.1.2.1
      obtain ⟨l1, t1, t2, t3, t4, t5⟩ := st_tp h2 (by simp)
      rw [tp_snoc.1] at t1 t2 t3 t4 t5
      have g1 : ((grW A x (E ++ [v.1])).getD A.length nd0).1 = if mp then 5 else 4 := by rw [gr_top]; exact hx
      refine ev_up (fun n => e_X12_reads_146) ?_
      unfold b_X12_reads_146
      refine ev_gg (by decide) ?_
      refine ev_ite (fun z => by omega) (fun _ => ?_)
      refine ev_gv ?_
      rw [s20]
      refine ev_gg (by first | omega | (constructor <;> omega)) ?_
      refine ev_ite (fun y => ?_) (fun y => by omega)
      have rg := rd_hd h2.2.2.2.1
      refine ev_gg (by first | omega | (constructor <;> omega)) ?_
      refine ev_ite (fun y2 => ?_) (fun y2 => ?_)
      · rw [if_pos y2] at ho'
        have rn : skB v.2.2 ≠ [] := rd_ne (by omega)
        refine ev_gv ?_
        refine ev_gv ?_
        refine ev_gv ?_
        refine ev_gv ?_
        have f3 : FC p16 S2 (gI S2 500 16 (S2.1 500 16 + 1)) := fc_gI ⟨rfl, rfl⟩
        have h3 := ri_16 h2 f3 (rd_on h2.2.2.2.1 rn)
        rw [h3.2.2.1.1]
        refine ev_gv ?_
        refine ev_gg (by first | omega | (constructor <;> omega)) ?_
        refine ev_gv ?_
        rw [show (((St ++ [A.length]).length : Int) - 1).toNat = (St ++ [A.length]).length - 1 by omega, fc_i f3 (by omega), t1]
        refine ev_gg (by first | omega | (constructor <;> omega)) ?_
        refine ev_gcr (q_kind (d := d - 1) (k := 40) (i := (A.length : Int)) (6161 * 40 + 61 * A.length) (by omega) (by omega) (by omega)) ?_
        rw [fc_i f3 (by omega), t3, g1]
        have go : ∀ st : Int, (if mp then st = 3 else st = 0) → Ev (fun n => f_X12_reads n d 23 (gI S2 500 16 (S2.1 500 16 + 1)) [how, (v.2.1 : Int), st, 1]) Q := by
          intro st hst2
          have hst3 : st = 0 ∨ st = 3 := by
            cases mp with
            | true => exact Or.inr hst2
            | false => exact Or.inl hst2
          refine rs_23 (by omega) h3 (by omega) (fun S4 h4 f4 _ => ?_) (fun z => by omega)
          have ho2 : rdL (rdV f how) mp how n (E ++ [v.1]) (grW A x (E ++ [v.1])).length (skB (skB v.2.2).tail) = o := by
            by_cases hn1 : 1 ≤ n
            · rw [← rdL_sk hn1, ← l2]
              exact ho'
            · exfalso
              have := ok.2.2.1
              have := ok.2.1
              have := vT.1.2.1
              omega
          rw [l2]
          refine ihn (E ++ [v.1]) _ Pr2 S4 st ?_ hE2 (by rw [← l2]; exact ok.2.2.1) h4 (skB_idem _) (by rw [← l2]; exact hP2) hk2 ?_ (fc_tr f02 (fc_tr (fc_mono f3 (fun c j z => by omega)) (fc_mono f4 (fun c j z => by omega)))) ho2
          · have := ok.2.1
            have := vT.1.2.1
            omega
          · cases mp with
            | true => exact Or.inr hst2
            | false => exact Or.inl hst2
        cases mp with
        | true =>
          refine ev_gg (by decide) ?_
          refine ev_ite (fun _ => go 3 rfl) (fun z => absurd (show (5 : Int) ≠ 4 by decide) z)
        | false =>
          refine ev_gg (by decide) ?_
          refine ev_ite (fun z => absurd rfl z) (fun _ => go 0 rfl)
      · rw [if_neg y2] at ho'
        refine ev_gv ?_
        rw [rd_pl h2.2.2.2.1]
        exact ev_ret (nxF _ S2 ho'.symm h2.2.2.2.1 f02 h2.2.2.2.2)
    · rw [ens] at he
      rw [if_pos he] at ho'
      rw [List.dropLast_concat] at h2
      exact nxS _ _ _ S2 Pr2 ho'.symm hE2 h2 l2 hP2 (fc_tr hf (fc_tr f1 (fc_mono f2 (fun c j z => by omega))))
/-- a VALUE -/
theorem rs_value (hd : 6 ≤ d) (hhow : inr how) : ∀ f, RvT d how t f := by
  intro f
  induction f with
  | zero =>
    intro W Pr St key r S Q st h _ _ hl
    have := h.2.2.1.2.1
    omega
  | succ f ih =>
    intro W Pr St key r S Q st h hr h100 hl hm hK hst nxF nxS
    have hR := h.2.2.2.1
    have rR := rd_mem hR
    have sl := h.2.2.1.2.1
    refine ev_up (fun n => e_X12_reads_146) ?_
    unfold b_X12_reads_146
    refine ev_gg (by first | omega | (constructor <;> omega)) ?_
    refine ev_ite (fun _ => ?_) (fun z => by omega)
    refine ev_ite (fun z => by omega) (fun _ => ?_)
    refine ev_ite (fun _ => ?_) (fun z => by omega)
    refine ev_gg (by first | omega | (constructor <;> omega)) ?_
    refine ev_gcr (q_kindAhead (d := d - 1) (by omega) hR) ?_
    have k5 := kaN_le (hdI r)
    have k0 : -1 ≤ kaN (hdI r) := by
      unfold kaN
      repeat' split
      all_goals decide
    refine ev_gg (by first | omega | (constructor <;> omega)) ?_
    refine ev_ite (fun y => ?_) (fun y => ?_)
    · refine ev_gv ?_
      rw [rd_pl hR]
      exact ev_ret (nxF r S (kaN_no hr y) hR fc_rf h.2.2.2.2)
    have kn : 0 ≤ kaN (hdI r) := by omega
    refine ev_gg (by first | omega | (constructor <;> omega)) ?_
    refine ev_ite (fun y2 => ?_) (fun y2 => ?_)
    · refine ev_gv ?_
      rw [rd_pl hR]
      refine ev_ret (nxF r S ?_ hR fc_rf h.2.2.2.2)
      rw [rdV_s, hr, if_pos (Or.inr (by omega))]
    have hb : W.length < 100 := by omega
    refine ev_ite (fun y3 => ?_) (fun y3 => ?_)
    · have rl := rdV_leaf (f := f) (how := how) hr kn y3 hb
      refine rs_282 (key := key) hd hhow h.1 hb h.2.1 h.2.2.1 hm hK hR kn h.2.2.2.2 (fun z => by omega) (fun q S1 e r1 f1 => nxF q S1 (by rw [rl, e]; rfl) r1 (fc_mono f1 (fun c j z => by omega)) (by rw [fc_i f1 (by omega)]; exact h.2.2.2.2)) (fun z S1 e m1 p1 s1 r1 f1 => ?_)
      rw [if_neg (by omega)] at s1
      have kd := rdB_kd e kn rR
      have sn : sbN (kaN (hdI r)) = 4 := by unfold sbN; rw [if_neg (by omega), if_neg (by omega)]
      rw [sn]
      have em : mny (kyT z.1 key) = [wQ (wZ (z.1.getD 0 nd0) 0) key] := by
        obtain ⟨-, -, -, k2, k3, k4⟩ := kd
        rw [k4]
        exact mny_leaf (x := wQ (z.1.getD 0 nd0) key) k2
      have ul := up_len (W := W) (St := St)
      have l1 : (upT W St ++ [wQ (wZ (z.1.getD 0 nd0) 0) key]).length = W.length + 1 := by rw [List.length_append, ul]; rfl
      refine nxS z.1 (W.length + 1) z.2 S1 (fun j => if j = W.length then tpS St else Pr j) (by rw [rl, e]; rfl) ⟨by rw [em]; exact m1, by rw [em, l1]; exact p1, by rw [em, l1]; exact s1, r1, by rw [fc_i f1 (by omega)]; exact h.2.2.2.2⟩ ⟨fun j hj => if_neg (by omega), if_pos rfl, fun j j1 j2 => by omega⟩ (fc_mono f1 (fun c j z => by omega))
    · refine ev_gv ?_
      rw [h.2.2.1.1]
      have gk := ka_gr kn
      have hg : hdI r = 91 ∨ hdI r = 123 := by
        by_cases c : hdI r = 91 ∨ hdI r = 123
        · exact c
        · exact absurd (gk.1.mpr c) (by omega)
      have rv : rdV (f + 1) how W.length r = if f = 0 then .inl r else rdG (rdV f how) (decide (hdI r = 123)) how (W.length + 1) r.tail := by
        rw [rdV_s, hr, if_neg (fun z => z.elim (ka_ne kn) (fun y => by omega)), if_pos hg]
      refine ev_gg (by first | omega | (constructor <;> omega)) ?_
      refine ev_ite (fun y4 => ?_) (fun y4 => ?_)
      · rw [if_neg (by omega)] at rv
        have hl12 : St.length < 12 := by omega
        refine rs_282 (key := key) hd hhow h.1 hb h.2.1 h.2.2.1 hm hK hR kn h.2.2.2.2 (fun _ => hl12) (fun q S1 e r1 f1 => ?_) (fun z S1 e m1 p1 s1 r1 f1 => ?_)
        · exfalso
          unfold rdB at e
          rcases hg with c | c
          · rw [if_pos c] at e; cases e
          · rw [if_neg (by omega), if_pos c] at e; cases e
        · rw [if_pos (by omega)] at s1
          have ul := up_len (W := W) (St := St)
          have ez : z = ([ndK (kaN (hdI r))], r.tail) := by
            unfold rdB at e
            rcases hg with c | c
            · rw [if_pos c] at e
              rw [gk.2.1.mpr c]
              exact (Sum.inr.inj e).symm
            · rw [if_neg (by omega), if_pos c] at e
              rw [gk.2.2.mpr c]
              exact (Sum.inr.inj e).symm
          subst ez
          have ex : ∃ mp : Bool, kaN (hdI r) = (if mp then 5 else 4) ∧ decide (hdI r = 123) = mp ∧ sbN (kaN (hdI r)) = if mp then 2 else 1 := by
            rcases hg with c | c
            · exact ⟨false, gk.2.1.mpr c, by rw [c]; rfl, by rw [gk.2.1.mpr c]; rfl⟩
            · exact ⟨true, gk.2.2.mpr c, by rw [c]; rfl, by rw [gk.2.2.mpr c]; rfl⟩
          obtain ⟨mp, k1, k2, k3⟩ := ex
          rw [k2] at rv
          rw [k3]
          have hx : (wQ (ndK (kaN (hdI r))) key).1 = if mp then 5 else 4 := k1
          have m1' : MD S1 40 (some (grW (upT W St) (wQ (ndK (kaN (hdI r))) key) [])) := m1
          have gl0 : (grW (upT W St) (wQ (ndK (kaN (hdI r))) key) []).length = W.length + 1 := by rw [gr_len, ul]; rfl
          have h1 : RI S1 t r.tail (grW (upT W St) (wQ (ndK (kaN (hdI r))) key) []) (fun j => if j = W.length then tpS St else Pr j) (St ++ [(upT W St).length]) := ⟨m1', by rw [gl0]; exact p1, by rw [gl0, ul]; exact s1, r1, by rw [fc_i f1 (by omega)]; exact h.2.2.2.2⟩
          have f1' : FC rsP S S1 := fc_mono f1 (fun c j z => by omega)
          have P0 : PrQ Pr (fun j => if j = W.length then tpS St else Pr j) (upT W St).length (W.length + 1) (tpS St) := by
            rw [ul]
            exact ⟨fun j hj => if_neg (by omega), if_pos rfl, fun j j1 j2 => by omega⟩
          have ens : enS (grW (upT W St) (wQ (ndK (kaN (hdI r))) key) []) (St ++ [(upT W St).length]) = enD mp := by
            unfold enS enD
            rw [tp_snoc.1, gr_top]
            show (if (wQ (ndK (kaN (hdI r))) key).1 = 4 then (93 : Int) else 125) = _
            rw [hx]
            cases mp <;> rfl
          have fin : ∀ (E : List (List ND)) (b : Nat) (q : List Int) (S2 : GS) (Pr1 : Nat → Int), rdG (rdV f how) mp how (W.length + 1) r.tail = .inr (gpN (ndK (if mp then 5 else 4)) E E.length, b, q) → (∀ T ∈ E, TR T ∧ PZL T) → RI S2 t q (grW (upT W St) (wQ (ndK (kaN (hdI r))) key) E) Pr1 St → PrQ Pr Pr1 (upT W St).length b (tpS St) → FC rsP S S2 → Ev (fun n => f_X12_reads n d 23 S2 [how, (b : Int), 4, 1]) Q := by
            intro E b q S2 Pr1 eg hE h2 hp2 f2
            have em : upT W St ++ mny (kyT (gpN (ndK (if mp then 5 else 4)) E E.length) key) = grW (upT W St) (wQ (ndK (kaN (hdI r))) key) E := by
              have e1 : kyT (gpN (ndK (if mp then 5 else 4)) E E.length) key = gpN (wQ (ndK (kaN (hdI r))) key) E E.length := by rw [k1]; rfl
              rw [e1, mny_gp (by rw [hx]; cases mp <;> decide) hE]
              rfl
            rw [ul] at hp2
            exact nxS _ b q S2 Pr1 (by rw [rv, eg]) (by rw [em]; exact h2) hp2 f2
          refine rs_23 (by omega) h1 (by cases mp <;> simp) (fun S2 h2 f2 ne => ?_) (fun _ _ he S2 h2 f2 => ?_)
          · have nc : ¬ hdI (skB r.tail) = enD mp := fun z => ne ⟨by cases mp <;> simp, by simp, by rw [ens]; exact z⟩
            have f02 : FC rsP S S2 := fc_tr f1' (fc_mono f2 (fun c j z => by omega))
            have eG : rdG (rdV f how) mp how (W.length + 1) r.tail = bd (rdL (rdV f how) mp how 101 [] (W.length + 1) (skB r.tail)) (fun z => .inr (gpN (ndK (if mp then 5 else 4)) z.1 z.1.length, z.2)) := by
              unfold rdG
              rw [if_neg nc]
            have LP := rs_loop (S0 := S) (Q := Q) (p := tpS St) (Pr := Pr) (o := rdL (rdV f how) mp how 101 [] (W.length + 1) (skB r.tail)) hd hhow ih hx (by rw [List.length_append, List.length_singleton]; omega) (fun q S3 e r3 f3 i3 => nxF q S3 (by rw [rv, eG, e]; rfl) r3 f3 i3) (fun E b q S3 Pr1 e hE h3 _ hp3 f3 => fin E b q S3 Pr1 (by rw [eG, e]; rfl) hE h3 hp3 f3)
            have := LP 101 [] (skB r.tail) _ S2 (if mp then 2 else 1) (by omega) (fun T hT => by cases hT) (by rw [gl0]; omega) h2 (skB_idem _) (by rw [gl0]; exact P0) (fun key2 => ⟨fun ⟨u, hu, _⟩ => (by cases hu), fun ⟨j, j1, j2, _⟩ => by rw [gl0] at j2; rw [ul] at j1; omega⟩) (by cases mp <;> simp) f02 (by rw [gl0])
            rw [gl0] at this
            exact this
          · rw [ens] at he
            rw [List.dropLast_concat] at h2
            refine fin [] (W.length + 1) (skB r.tail).tail S2 _ ?_ (fun T hT => by cases hT) h2 P0 (fc_tr f1' (fc_mono f2 (fun c j z => by omega)))
            unfold rdG
            rw [if_pos he]
            rfl
      · rw [if_pos (by omega)] at rv
        refine ev_gv ?_
        rw [rd_pl hR]
        exact ev_ret (nxF r S rv hR fc_rf h.2.2.2.2)
end RVL
