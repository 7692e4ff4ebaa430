/-! THE REFERENCE reads: figures -/
theorem rdF_no {a q : List Int} (h : ¬ fgC (hdI q)) : rdF a q = .inr (a, q) := by
  cases q with
  | nil => rfl
  | cons x q =>
    unfold rdF
    rw [if_neg (show ¬ fgC x from h)]
section RNF
variable {S0 : GS} {d I : Nat} {t r : List Int} {a2 neg : Int}
/-- one figure is kept -/
theorem dg_push {S : GS} {F : List Int} {x : Int} (h : DgS S F) (hl : F.length < 24) (hx : fgC x) : DgS (gI S 510 F.length (x - 48)) (F ++ [x]) := by
  refine ⟨⟨by rw [List.length_append, List.length_singleton]; omega, fun y hy => ?_⟩, fun i hi => ?_⟩
  · rcases List.mem_append.mp hy with z | z
    · exact h.1.2 y z
    · rw [List.mem_singleton] at z; rw [z]; exact hx
  · rw [List.length_append, List.length_singleton] at hi
    rw [getD_snoc hi]
    by_cases e : i = F.length
    · subst e; rw [if_pos rfl, gI_a]
    · rw [if_neg e, gI_k (by omega)]; exact h.2 i (by omega)
theorem nu_frac {a7 : Int} {l1 : Nat} (hd : 2 ≤ d) (hI : I ≤ 100) (hn : neg = if hdI r = 45 then 1 else 0) (h2 : ∃ p0 : Nat, a2 = (p0 : Int) ∧ p0 ≤ t.length ∧ t.drop p0 = r) : ∀ (q F : List Int) (S : GS), fgC (hdI q) → 1 ≤ F.length → l1 ≤ F.length → DgS S F → RdS S t q → FC (nuP I) S0 S → Ev (fun n => f_X12_readsNumber n d 75 S [(I : Int), a2, neg, (F.length : Int), ((F.length - l1 : Nat) : Int), 1, a7, 1]) (fun y S1 => RnQ t I (bd (rdF F q) (nbR r l1)) S0 y S1) := by
  intro q
  induction q with
  | nil => intro F S hq; exact absurd hq (by decide)
  | cons x q ih =>
    intro F S hq hF hl hD h hf
    have hx : fgC x := hq
    have l24 := hD.1.1
    have e1 : rdF F (x :: q) = if 24 ≤ F.length then .inl (x :: q) else rdF (F ++ [x]) q := by
      show (if fgC x then _ else _) = _
      rw [if_pos hx]
    rw [e1]
    refine ev_up (fun n => e_X12_readsNumber_75) ?_
    unfold b_X12_readsNumber_75
    refine ev_gg (by decide) ?_
    refine ev_ite (fun z => by omega) (fun _ => ?_)
    refine ev_gg (by first | omega | (constructor <;> omega)) ?_
    refine ev_ite (fun z => ?_) (fun z => ?_)
    · rw [if_neg (by omega)]
      refine ev_gg (by first | omega | (constructor <;> omega)) ?_
      refine ev_gcr (q_sign (d := d - 1) h) ?_
      refine ev_gv ?_
      refine ev_gg (by first | omega | (constructor <;> omega)) ?_
      refine ev_gv ?_
      rw [Int.toNat_natCast]
      have D1 : DgS (gI S 510 F.length (hdI (x :: q) - 48)) (F ++ [x]) := dg_push hD (by omega) hx
      have fa : FC (fun c j => c = 510) S (gI S 510 F.length (hdI (x :: q) - 48)) := fc_gI rfl
      have h1 := rd_fr h fa (by decide) (by decide) (fun j => by decide)
      have f1 : FC (nuP I) S0 (gI S 510 F.length (hdI (x :: q) - 48)) := fc_tr hf (fc_mono fa (fun c j z => Or.inr (Or.inl z)))
      generalize gI S 510 F.length (hdI (x :: q) - 48) = S1 at D1 h1 f1 ⊢
      refine ev_gv ?_
      refine ev_gg (by decide) ?_
      refine ev_ite (fun z => by omega) (fun _ => ?_)
      have lF : (F ++ [x]).length = F.length + 1 := by rw [List.length_append]; rfl
      refine ev_up (fun n => e_X12_readsNumber_118) ?_
      unfold b_X12_readsNumber_118
      refine ev_gv ?_
      refine ev_gv ?_
      refine ev_gv ?_
      refine ev_gv ?_
      refine ev_gg (by decide) ?_
      refine ev_ite (fun _ => ?_) (fun z => by omega)
      have h3 := rd_on h1 (by simp)
      have D3 : DgS (gI S1 500 16 (S1.1 500 16 + 1)) (F ++ [x]) := dg_fr D1 (fc_gI (P := fun c j => c = 500 ∧ j = 16) ⟨rfl, rfl⟩) (fun j => by omega)
      have f3 : FC (nuP I) S0 (gI S1 500 16 (S1.1 500 16 + 1)) := fc_tr f1 (fc_gI (Or.inr (Or.inr ⟨rfl, rfl⟩)))
      generalize gI S1 500 16 (S1.1 500 16 + 1) = S3 at h3 D3 f3 ⊢
      have h3' : RdS S3 t q := h3
      rw [show (F.length : Int) + 1 = ((F ++ [x]).length : Int) by omega, show ((F.length - l1 : Nat) : Int) + 1 = (((F ++ [x]).length - l1 : Nat) : Int) by omega]
      refine ev_up (fun n => e_X12_readsNumber_167) ?_
      unfold b_X12_readsNumber_167
      refine ev_gg (by first | omega | (constructor <;> omega)) ?_
      refine ev_gcr (q_isFigure (d := d - 1) (by omega) h3') ?_
      by_cases c : fgC (hdI q)
      · rw [if_pos c]
        refine ev_gg (by decide) ?_
        refine ev_ite (fun z => by omega) (fun _ => ?_)
        refine ev_gg (by decide) ?_
        refine ev_ite (fun _ => ?_) (fun z => by omega)
        exact ih (F ++ [x]) S3 c (by omega) (by omega) D3 h3' f3
      · rw [if_neg c, rdF_no c]
        refine ev_gg (by decide) ?_
        refine ev_ite (fun _ => ?_) (fun z => by omega)
        exact nu_end hd hI hn (by omega) (by omega) D3 h3' h2 f3
    · rw [if_pos (by omega)]
      exact ev_ret ⟨⟨rfl, h⟩, hf⟩
/-- after a figure ahead of the point -/
theorem nu_after {a7 x : Int} {F q : List Int} {S : GS} (hd : 2 ≤ d) (hI : I ≤ 100) (hn : neg = if hdI r = 45 then 1 else 0) (h2 : ∃ p0 : Nat, a2 = (p0 : Int) ∧ p0 ≤ t.length ∧ t.drop p0 = r) (ha7 : a7 = 0 ∨ a7 = 1) (hF : 1 ≤ F.length) (hD : DgS S F) (h : RdS S t (x :: q)) (hf : FC (nuP I) S0 S) (o : Rs (List ND × List Int)) (ho : o = if hdI q = 46 then bd (rdF1 F q.tail) (nbR r F.length) else if fgC (hdI q) ∧ a7 = 0 then bd (rdF F q) (fun z1 => bd (rdN2 z1) (nbR r z1.1.length)) else nbR r F.length (F, q)) (go : fgC (hdI q) → ∀ S3, DgS S3 F → RdS S3 t q → FC (nuP I) S0 S3 → Ev (fun n => f_X12_readsNumber n d 75 S3 [(I : Int), a2, neg, (F.length : Int), 0, 0, 0, 1]) (fun y S1 => RnQ t I (bd (rdF F q) (fun z1 => bd (rdN2 z1) (nbR r z1.1.length))) S0 y S1)) : Ev (fun n => f_X12_readsNumber n d 118 S [(I : Int), a2, neg, (F.length : Int), 0, a7, 1, 0, 0]) (fun y S1 => RnQ t I o S0 y S1) := by
  have c0 : (((F.length - F.length : Nat)) : Int) = 0 := by omega
  refine ev_up (fun n => e_X12_readsNumber_118) ?_
  unfold b_X12_readsNumber_118
  refine ev_gv ?_
  refine ev_gv ?_
  refine ev_gv ?_
  refine ev_gv ?_
  refine ev_gg (by decide) ?_
  refine ev_ite (fun z => by omega) (fun _ => ?_)
  refine ev_gg (by first | omega | (constructor <;> omega)) ?_
  have h3 := rd_on h (by simp)
  have D3 : DgS (gI S 500 16 (S.1 500 16 + 1)) F := dg_fr hD (fc_gI (P := fun c j => c = 500 ∧ j = 16) ⟨rfl, rfl⟩) (fun j => by omega)
  have f3 : FC (nuP I) S0 (gI S 500 16 (S.1 500 16 + 1)) := fc_tr hf (fc_gI (Or.inr (Or.inr ⟨rfl, rfl⟩)))
  generalize gI S 500 16 (S.1 500 16 + 1) = S3 at h3 D3 f3 ⊢
  have h3' : RdS S3 t q := h3
  have hq := rd_hd h3'
  rw [show (0 : Int) + 0 = 0 from rfl]
  refine ev_gcr (q_sign (d := d - 1) h3') ?_
  refine ev_gg (by first | omega | (constructor <;> omega)) ?_
  refine ev_ite (fun z => ?_) (fun z => ?_)
  · rw [if_neg z] at ho
    refine ev_up (fun n => e_X12_readsNumber_167) ?_
    unfold b_X12_readsNumber_167
    refine ev_gg (by first | omega | (constructor <;> omega)) ?_
    refine ev_gcr (q_isFigure (d := d - 1) (by omega) h3') ?_
    by_cases c : fgC (hdI q)
    · rw [if_pos c]
      refine ev_gg (by decide) ?_
      refine ev_ite (fun z => by omega) (fun _ => ?_)
      refine ev_gg (by decide) ?_
      refine ev_ite (fun z => by omega) (fun _ => ?_)
      refine ev_gg (by first | omega | (constructor <;> omega)) ?_
      refine ev_ite (fun y => ?_) (fun y => ?_)
      · rw [if_neg (fun w => y w.2)] at ho
        rw [ho]
        have := nu_end (a6 := 0) (a7 := a7) hd hI hn hF (Nat.le_refl _) D3 h3' h2 f3
        rw [c0] at this
        exact this
      · have a0 : a7 = 0 := by omega
        rw [if_pos ⟨c, a0⟩] at ho
        rw [ho, a0]
        exact go c S3 D3 h3' f3
    · rw [if_neg c]
      rw [if_neg (fun w => c w.1)] at ho
      rw [ho]
      refine ev_gg (by decide) ?_
      refine ev_ite (fun _ => ?_) (fun z => by omega)
      have := nu_end (a6 := 0) (a7 := a7) hd hI hn hF (Nat.le_refl _) D3 h3' h2 f3
      rw [c0] at this
      exact this
  · rw [if_pos (by omega)] at ho
    rw [ho]
    refine ev_gv ?_
    refine ev_gv ?_
    refine ev_gv ?_
    have h4 := rd_on h3' (rd_ne (by omega))
    have D4 : DgS (gI S3 500 16 (S3.1 500 16 + 1)) F := dg_fr D3 (fc_gI (P := fun c j => c = 500 ∧ j = 16) ⟨rfl, rfl⟩) (fun j => by omega)
    have f4 : FC (nuP I) S0 (gI S3 500 16 (S3.1 500 16 + 1)) := fc_tr f3 (fc_gI (Or.inr (Or.inr ⟨rfl, rfl⟩)))
    generalize gI S3 500 16 (S3.1 500 16 + 1) = S4 at h4 D4 f4 ⊢
    refine ev_gcr (q_isFigure (d := d - 1) (by omega) h4) ?_
    unfold rdF1
    by_cases c : fgC (hdI q.tail)
    · rw [if_pos c, if_pos c]
      refine ev_gg (by decide) ?_
      refine ev_ite (fun _ => ?_) (fun z => by omega)
      have := nu_frac (a7 := a7) (l1 := F.length) hd hI hn h2 q.tail F S4 c hF (Nat.le_refl _) D4 h4 f4
      rw [c0] at this
      exact this
    · rw [if_neg c, if_neg c]
      refine ev_gg (by decide) ?_
      refine ev_ite (fun z => by omega) (fun _ => ?_)
      exact ev_ret ⟨⟨rfl, h4⟩, f4⟩
theorem nu_one {a7 x : Int} {F q : List Int} {S : GS} (hd : 2 ≤ d) (hI : I ≤ 100) (hn : neg = if hdI r = 45 then 1 else 0) (h2 : ∃ p0 : Nat, a2 = (p0 : Int) ∧ p0 ≤ t.length ∧ t.drop p0 = r) (ha7 : a7 = 0 ∨ a7 = 1) (hl : F.length < 24) (hx : fgC x) (hD : DgS S F) (h : RdS S t (x :: q)) (hf : FC (nuP I) S0 S) (o : Rs (List ND × List Int)) (ho : o = if hdI q = 46 then bd (rdF1 (F ++ [x]) q.tail) (nbR r (F ++ [x]).length) else if fgC (hdI q) ∧ a7 = 0 then bd (rdF (F ++ [x]) q) (fun z1 => bd (rdN2 z1) (nbR r z1.1.length)) else nbR r (F ++ [x]).length (F ++ [x], q)) (go : fgC (hdI q) → ∀ S3, DgS S3 (F ++ [x]) → RdS S3 t q → FC (nuP I) S0 S3 → Ev (fun n => f_X12_readsNumber n d 75 S3 [(I : Int), a2, neg, ((F ++ [x]).length : Int), 0, 0, 0, 1]) (fun y S1 => RnQ t I (bd (rdF (F ++ [x]) q) (fun z1 => bd (rdN2 z1) (nbR r z1.1.length))) S0 y S1)) : Ev (fun n => f_X12_readsNumber n d 75 S [(I : Int), a2, neg, (F.length : Int), 0, 0, a7, 1]) (fun y S1 => RnQ t I o S0 y S1) := by
  refine ev_up (fun n => e_X12_readsNumber_75) ?_
  unfold b_X12_readsNumber_75
  refine ev_gg (by decide) ?_
  refine ev_ite (fun z => by omega) (fun _ => ?_)
  refine ev_gg (by first | omega | (constructor <;> omega)) ?_
  refine ev_ite (fun _ => ?_) (fun z => by omega)
  refine ev_gg (by first | omega | (constructor <;> omega)) ?_
  refine ev_gcr (q_sign (d := d - 1) h) ?_
  refine ev_gv ?_
  refine ev_gg (by first | omega | (constructor <;> omega)) ?_
  refine ev_gv ?_
  rw [Int.toNat_natCast]
  have D1 : DgS (gI S 510 F.length (hdI (x :: q) - 48)) (F ++ [x]) := dg_push hD hl hx
  have fa : FC (fun c j => c = 510) S (gI S 510 F.length (hdI (x :: q) - 48)) := fc_gI rfl
  have h1 := rd_fr h fa (by decide) (by decide) (fun j => by decide)
  have f1 : FC (nuP I) S0 (gI S 510 F.length (hdI (x :: q) - 48)) := fc_tr hf (fc_mono fa (fun c j z => Or.inr (Or.inl z)))
  generalize gI S 510 F.length (hdI (x :: q) - 48) = S1 at D1 h1 f1 ⊢
  refine ev_gv ?_
  refine ev_gg (by decide) ?_
  refine ev_ite (fun _ => ?_) (fun z => by omega)
  rw [show (F.length : Int) + 1 = ((F ++ [x]).length : Int) by rw [List.length_append, List.length_singleton]; omega]
  exact nu_after hd hI hn h2 ha7 (by rw [List.length_append, List.length_singleton]; omega) D1 h1 f1 o ho go
theorem nu_int (hd : 2 ≤ d) (hI : I ≤ 100) (hn : neg = if hdI r = 45 then 1 else 0) (h2 : ∃ p0 : Nat, a2 = (p0 : Int) ∧ p0 ≤ t.length ∧ t.drop p0 = r) : ∀ (q F : List Int) (S : GS), fgC (hdI q) → DgS S F → RdS S t q → FC (nuP I) S0 S → Ev (fun n => f_X12_readsNumber n d 75 S [(I : Int), a2, neg, (F.length : Int), 0, 0, 0, 1]) (fun y S1 => RnQ t I (bd (rdF F q) (fun z1 => bd (rdN2 z1) (nbR r z1.1.length))) S0 y S1) := by
  intro q
  induction q with
  | nil => intro F S hq; exact absurd hq (by decide)
  | cons x q ih =>
    intro F S hq hD h hf
    have hx : fgC x := hq
    have l24 := hD.1.1
    have e1 : rdF F (x :: q) = if 24 ≤ F.length then .inl (x :: q) else rdF (F ++ [x]) q := by
      show (if fgC x then _ else _) = _
      rw [if_pos hx]
    rw [e1]
    by_cases z : 24 ≤ F.length
    · rw [if_pos z]
      refine ev_up (fun n => e_X12_readsNumber_75) ?_
      unfold b_X12_readsNumber_75
      refine ev_gg (by decide) ?_
      refine ev_ite (fun z => by omega) (fun _ => ?_)
      refine ev_gg (by first | omega | (constructor <;> omega)) ?_
      refine ev_ite (fun z => by omega) (fun _ => ?_)
      exact ev_ret ⟨⟨rfl, h⟩, hf⟩
    · rw [if_neg z]
      refine nu_one hd hI hn h2 (Or.inl rfl) (by omega) hx hD h hf _ ?_ (fun c S3 D3 h3 f3 => ih (F ++ [x]) S3 c D3 h3 f3)
      by_cases c : fgC (hdI q)
      · rw [if_neg (by omega), if_pos ⟨c, rfl⟩]
      · rw [rdF_no c]
        show bd (rdN2 (F ++ [x], q)) (nbR r (F ++ [x]).length) = _
        unfold rdN2
        by_cases y : hdI q = 46
        · rw [if_pos y, if_pos y]
        · rw [if_neg y, if_neg y, if_neg (fun w => c w.1)]
          rfl
theorem q_readsNumber {S : GS} (hd : 2 ≤ d) (hI : I ≤ 100) (h : RdS S t r) : Ev (fun n => f_X12_readsNumber n d 0 S [(I : Int)]) (fun y S1 => RnQ t I (rdNb r) S y S1) := by
  have hr := rd_hd h
  have h' := h
  obtain ⟨b1, b2, b3, p0, p1, p2, p3⟩ := h
  rw [rdNb_K]
  have p34 : ∀ (neg : Int) (S1 : GS), neg = (if hdI r = 45 then 1 else 0) → S1 = gI S 500 16 ((p0 : Int) + neg) → RdS S1 t (ngS r) → Ev (fun n => f_X12_readsNumber n d 34 S [(I : Int), (p0 : Int), neg, neg, (p0 : Int)]) (fun y S1 => RnQ t I (bd (rdN1 (ngS r)) (fun z1 => bd (rdN2 z1) (nbR r z1.1.length))) S y S1) := by
    intro neg S1 hn e1 h1
    have f1 : FC (nuP I) S S1 := by rw [e1]; exact fc_gI (Or.inr (Or.inr ⟨rfl, rfl⟩))
    have hq := rd_hd h1
    have h2 : ∃ p1 : Nat, (p0 : Int) = (p1 : Int) ∧ p1 ≤ t.length ∧ t.drop p1 = r := ⟨p0, rfl, p1, p3⟩
    have D0 : DgS S1 [] := ⟨⟨by decide, fun x hx => by cases hx⟩, fun i hi => absurd hi (Nat.not_lt_zero i)⟩
    refine ev_up (fun n => e_X12_readsNumber_34) ?_
    unfold b_X12_readsNumber_34
    refine ev_gv ?_
    refine ev_gv ?_
    rw [← e1]
    refine ev_gg (by first | omega | (constructor <;> omega)) ?_
    refine ev_gcr (q_isFigure (d := d - 1) (by omega) h1) ?_
    unfold rdN1
    by_cases c : fgC (hdI (ngS r))
    · rw [if_pos c]
      refine ev_gg (by decide) ?_
      refine ev_ite (fun _ => ?_) (fun z => by omega)
      refine ev_gcr (q_sign (d := d - 1) h1) ?_
      refine ev_gg (by first | omega | (constructor <;> omega)) ?_
      refine ev_ite (fun z => ?_) (fun z => ?_)
      · rw [if_neg z]
        unfold rdF1
        rw [if_pos c]
        exact nu_int hd hI hn h2 (ngS r) [] S1 c D0 h1 f1
      · rw [if_pos (by omega)]
        have eq : ngS r = 48 :: (ngS r).tail := by
          cases hh : ngS r with
          | nil => rw [hh] at c; exact absurd c (by decide)
          | cons x q =>
            rw [hh] at z
            have : x = 48 := by have z' : ¬ x ≠ 48 := z; omega
            rw [this]
            rfl
        rw [eq] at h1
        refine nu_one (F := []) (x := 48) (q := (ngS r).tail) hd hI hn h2 (Or.inr rfl) (by decide) (by decide) D0 h1 f1 _ ?_ (fun c S3 D3 h3 f3 => nu_int hd hI hn h2 (ngS r).tail [48] S3 c D3 h3 f3)
        show bd (rdN2 ([48], (ngS r).tail)) (nbR r 1) = _
        unfold rdN2
        by_cases y : hdI (ngS r).tail = 46
        · rw [if_pos y, if_pos y]
          rfl
        · rw [if_neg y, if_neg y, if_neg (fun w => absurd w.2 (by decide))]
          rfl
    · rw [if_neg c, if_neg (by omega)]
      unfold rdF1
      rw [if_neg c]
      refine ev_gg (by decide) ?_
      refine ev_ite (fun z => by omega) (fun _ => ?_)
      exact ev_ret ⟨⟨rfl, h1⟩, f1⟩
  refine ev_up (fun n => e_X12_readsNumber_0) ?_
  unfold b_X12_readsNumber_0
  refine ev_gv ?_
  rw [p2]
  refine ev_gg (by first | omega | (constructor <;> omega)) ?_
  refine ev_gcr (q_sign (d := d - 1) h') ?_
  refine ev_gg (by first | omega | (constructor <;> omega)) ?_
  refine ev_ite (fun z => ?_) (fun z => ?_)
  · refine ev_up (fun n => e_X12_readsNumber_19) ?_
    unfold b_X12_readsNumber_19
    refine ev_gv ?_
    rw [p2]
    refine ev_gg (by decide) ?_
    refine ev_ite (fun _ => ?_) (fun z => by omega)
    refine p34 0 _ (by rw [if_neg z]) rfl ?_
    unfold ngS
    rw [if_neg z]
    exact ⟨by rw [gI_k (by decide)]; exact b1, b2, fun i hi => by rw [gI_c (by decide)]; exact b3 i hi, p0, p1, by rw [gI_a]; omega, p3⟩
  · refine ev_up (fun n => e_X12_readsNumber_19) ?_
    unfold b_X12_readsNumber_19
    refine ev_gv ?_
    rw [p2]
    refine ev_gg (by decide) ?_
    refine ev_ite (fun z => by omega) (fun _ => ?_)
    refine p34 1 _ (by rw [if_pos (by omega)]) rfl ?_
    unfold ngS
    rw [if_pos (by omega)]
    have := rd_on h' (rd_ne (by omega))
    rw [p2] at this
    exact this
end RNF
