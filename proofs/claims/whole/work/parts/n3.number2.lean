/-! THE REFERENCE reads: NUMBERS -/
abbrev nuP (I : Nat) : Nat → Nat → Prop := fun c j => vcP I c j ∨ c = 510 ∨ (c = 500 ∧ j = 16)
/-- what a NUMBER comes to -/
def RnQ (t : List Int) (I : Nat) (o : Rs (List ND × List Int)) (S : GS) (x : Int) (S1 : GS) : Prop := (match o with
  | .inl q => x = 0 ∧ RdS S1 t q
  | .inr z => x = 1 ∧ RdS S1 t z.2 ∧ NuC S1 (6161 * 40 + 61 * I) (z.1.getD 0 nd0)) ∧ FC (nuP I) S S1
/-- after the figures -/
def nbR (r : List Int) (l1 : Nat) (z2 : List Int × List Int) : Rs (List ND × List Int) := bd (rdN3 z2.2) (fun z3 => if nmOk z2.1 ((l1 : Int) - z2.1.length + z3.1) = 1 then .inr (nbT r z2.1 ((l1 : Int) - z2.1.length + z3.1), z3.2) else .inl r)
theorem rdNb_K {r : List Int} : rdNb r = bd (rdN1 (ngS r)) (fun z1 => bd (rdN2 z1) (nbR r z1.1.length)) := rfl
section RNU
variable {S0 : GS} {d I : Nat} {t r : List Int}
theorem dg_fr {P : Nat → Nat → Prop} {S S1 : GS} {F : List Int} (h : DgS S F) (hf : FC P S S1) (h1 : ∀ j, ¬ P 510 j) : DgS S1 F := ⟨h.1, fun i hi => (fc_i hf (h1 i)).trans (h.2 i hi)⟩
theorem nu_344 {a2 neg e : Int} {F q : List Int} {l1 : Nat} {S : GS} (hd : 2 ≤ d) (hI : I ≤ 100) (hn : neg = if hdI r = 45 then 1 else 0) (hF : 1 ≤ F.length) (hl : l1 ≤ F.length) (he : -99 ≤ e ∧ e ≤ 99) (hD : DgS S F) (h : RdS S t q) (h2 : ∃ p0 : Nat, a2 = (p0 : Int) ∧ p0 ≤ t.length ∧ t.drop p0 = r) (hf : FC (nuP I) S0 S) : Ev (fun n => f_X12_readsNumber n d 344 S [(I : Int), a2, neg, (F.length : Int), ((F.length - l1 : Nat) : Int), e]) (fun x S1 => RnQ t I (if nmOk F ((l1 : Int) - F.length + e) = 1 then .inr (nbT r F ((l1 : Int) - F.length + e), q) else .inl r) S0 x S1) := by
  have n01 : neg = 0 ∨ neg = 1 := by rw [hn]; split; exact Or.inr rfl; exact Or.inl rfl
  have l24 := hD.1.1
  refine ev_up (fun n => e_X12_readsNumber_344) ?_
  unfold b_X12_readsNumber_344
  refine ev_gv ?_
  rw [show e - ((F.length - l1 : Nat) : Int) = (l1 : Int) - F.length + e by omega]
  refine ev_gg (by first | omega | (constructor <;> omega)) ?_
  refine ev_gc (q_isNumber (d := d - 1) (F := F) (q := []) (by omega) rfl hI n01 rfl hF (by omega) hD) (fun x S1 w => ?_)
  obtain ⟨x1, n1, f1⟩ := w
  have h1 := rd_fr h f1 (by omega) (by omega) (fun j => by omega)
  have f01 : FC (nuP I) S0 S1 := fc_tr hf (fc_mono f1 (fun c j z => Or.inl z))
  by_cases ok : nmOk F ((l1 : Int) - F.length + e) = 1
  · rw [if_pos ok]
    rw [ok] at x1
    subst x1
    refine ev_gg (by decide) ?_
    refine ev_ite (fun _ => ?_) (fun z => by omega)
    refine ev_ret ⟨⟨rfl, h1, ?_⟩, f01⟩
    have := n1 ok
    rw [hn] at this
    exact this
  · rw [if_neg ok]
    have x0 : x = 0 := by rw [x1]; unfold nmOk at ok ⊢; split <;> rename_i y; rw [if_pos y] at ok; exact absurd rfl ok; rfl
    subst x0
    refine ev_gg (by decide) ?_
    refine ev_ite (fun z => by omega) (fun _ => ?_)
    refine ev_gv ?_
    obtain ⟨p0, rfl, p1, p2⟩ := h2
    refine ev_ret ⟨⟨rfl, ?_⟩, fc_tr f01 (fc_gI (Or.inr (Or.inr ⟨rfl, rfl⟩)))⟩
    obtain ⟨b1, b2, b3, _⟩ := h1
    exact ⟨by rw [gI_k (by decide)]; exact b1, b2, fun i hi => by rw [gI_c (by decide)]; exact b3 i hi, p0, p1, gI_a, p2⟩
theorem exV_in {q : List Int} (h : fgC (hdI q)) : 0 ≤ exV q ∧ exV q ≤ 99 := by
  unfold exV
  by_cases c : fgC (hdI q.tail)
  · rw [if_pos c]; omega
  · rw [if_neg c]; omega
/-- POWERS, and on -/
theorem nu_265 {a2 neg sg s0 s1 : Int} {F q : List Int} {l1 : Nat} {S S1 : GS} (hd : 2 ≤ d) (hI : I ≤ 100) (hn : neg = if hdI r = 45 then 1 else 0) (hF : 1 ≤ F.length) (hl : l1 ≤ F.length) (hsg : sg = 0 ∨ sg = 1) (hD : DgS S F) (hS1 : S1 = gI S 500 16 (s1 + s0)) (h : RdS S1 t q) (h2 : ∃ p0 : Nat, a2 = (p0 : Int) ∧ p0 ≤ t.length ∧ t.drop p0 = r) (hf : FC (nuP I) S0 S) : Ev (fun n => f_X12_readsNumber n d 265 S [(I : Int), a2, neg, (F.length : Int), ((F.length - l1 : Nat) : Int), sg, s0, s1]) (fun x S1 => RnQ t I (bd (if fgC (hdI q) then .inr (if sg = 1 then -exV q else exV q, exR q) else .inl q : Rs (Int × List Int)) (fun z3 => if nmOk F ((l1 : Int) - F.length + z3.1) = 1 then .inr (nbT r F ((l1 : Int) - F.length + z3.1), z3.2) else .inl r)) S0 x S1) := by
  have f1 : FC (nuP I) S0 S1 := by rw [hS1]; exact fc_tr hf (fc_gI (Or.inr (Or.inr ⟨rfl, rfl⟩)))
  have D1 : DgS S1 F := by rw [hS1]; exact dg_fr hD (fc_gI (P := fun c j => c = 500 ∧ j = 16) ⟨rfl, rfl⟩) (fun j => by omega)
  have hq := rd_hd h
  refine ev_up (fun n => e_X12_readsNumber_265) ?_
  unfold b_X12_readsNumber_265
  refine ev_gv ?_
  refine ev_gv ?_
  rw [← hS1]
  refine ev_gg (by first | omega | (constructor <;> omega)) ?_
  refine ev_gcr (q_isFigure (d := d - 1) (by omega) h) ?_
  by_cases c : fgC (hdI q)
  · rw [if_pos c, if_pos c]
    have er := exV_in c
    refine ev_gg (by decide) ?_
    refine ev_ite (fun _ => ?_) (fun z => by omega)
    refine ev_gcr (q_sign (d := d - 1) h) ?_
    refine ev_gv ?_
    refine ev_gv ?_
    refine ev_gv ?_
    refine ev_gv ?_
    have h3 := rd_on h (rd_ne (by omega))
    have D3 : DgS (gI S1 500 16 (S1.1 500 16 + 1)) F := dg_fr D1 (fc_gI (P := fun c j => c = 500 ∧ j = 16) ⟨rfl, rfl⟩) (fun j => by omega)
    have f3 : FC (nuP I) S0 (gI S1 500 16 (S1.1 500 16 + 1)) := fc_tr f1 (fc_gI (Or.inr (Or.inr ⟨rfl, rfl⟩)))
    generalize gI S1 500 16 (S1.1 500 16 + 1) = S3 at h3 D3 f3 ⊢
    have hq3 := rd_hd h3
    refine ev_gcr (q_isFigure (d := d - 1) (by omega) h3) ?_
    unfold exV exR at *
    by_cases c2 : fgC (hdI q.tail)
    · rw [show (if fgC (hdI q.tail) then (1 : Int) else 0) = 1 from if_pos c2]
      refine ev_gg (by decide) ?_
      refine ev_ite (fun z => by omega) (fun _ => ?_)
      refine ev_gv ?_
      simp only [if_pos c2] at er ⊢
      refine ev_gcr (q_sign (d := d - 1) h3) ?_
      refine ev_gv ?_
      refine ev_gv ?_
      refine ev_gv ?_
      refine ev_gv ?_
      refine ev_gv ?_
      have h4 := rd_on h3 (rd_ne (by omega))
      have D4 : DgS (gI S3 500 16 (S3.1 500 16 + 1)) F := dg_fr D3 (fc_gI (P := fun c j => c = 500 ∧ j = 16) ⟨rfl, rfl⟩) (fun j => by omega)
      have f4 : FC (nuP I) S0 (gI S3 500 16 (S3.1 500 16 + 1)) := fc_tr f3 (fc_gI (Or.inr (Or.inr ⟨rfl, rfl⟩)))
      refine ev_gg (by first | omega | (constructor <;> omega)) ?_
      rw [show 10 * (hdI q - 48) + hdI q.tail - 48 = 10 * (hdI q - 48) + (hdI q.tail - 48) by omega]
      refine ev_ite (fun z => ?_) (fun z => ?_)
      · rw [if_neg (show ¬ sg = 1 by omega)]
        exact nu_344 hd hI hn hF hl (by omega) D4 h4 h2 f4
      · refine ev_gv ?_
        rw [if_pos (show sg = 1 by omega)]
        exact nu_344 hd hI hn hF hl (by omega) D4 h4 h2 f4
    · rw [show (if fgC (hdI q.tail) then (1 : Int) else 0) = 0 from if_neg c2]
      refine ev_gg (by decide) ?_
      refine ev_ite (fun _ => ?_) (fun z => by omega)
      refine ev_gg (by first | omega | (constructor <;> omega)) ?_
      simp only [if_neg c2] at er ⊢
      refine ev_ite (fun z => ?_) (fun z => ?_)
      · rw [if_neg (show ¬ sg = 1 by omega)]
        exact nu_344 hd hI hn hF hl (by omega) D3 h3 h2 f3
      · refine ev_gv ?_
        rw [if_pos (show sg = 1 by omega)]
        exact nu_344 hd hI hn hF hl (by omega) D3 h3 h2 f3
  · rw [if_neg c, if_neg c]
    refine ev_gg (by decide) ?_
    refine ev_ite (fun z => by omega) (fun _ => ?_)
    exact ev_ret ⟨⟨rfl, h⟩, f1⟩
theorem nu_215 {a2 neg : Int} {F q : List Int} {l1 : Nat} {S : GS} (hd : 2 ≤ d) (hI : I ≤ 100) (hn : neg = if hdI r = 45 then 1 else 0) (hF : 1 ≤ F.length) (hl : l1 ≤ F.length) (hD : DgS S F) (h : RdS S t q) (hq : hdI q = 101 ∨ hdI q = 69) (h2 : ∃ p0 : Nat, a2 = (p0 : Int) ∧ p0 ≤ t.length ∧ t.drop p0 = r) (hf : FC (nuP I) S0 S) : Ev (fun n => f_X12_readsNumber n d 215 S [(I : Int), a2, neg, (F.length : Int), ((F.length - l1 : Nat) : Int)]) (fun x S1 => RnQ t I (nbR r l1 (F, q)) S0 x S1) := by
  have e3 : nbR r l1 (F, q) = bd (rdX q.tail) (fun z3 => if nmOk F ((l1 : Int) - F.length + z3.1) = 1 then .inr (nbT r F ((l1 : Int) - F.length + z3.1), z3.2) else .inl r) := by
    unfold nbR rdN3
    rw [if_pos hq]
  rw [e3]
  have h1 := rd_on h (rd_ne (show 0 ≤ hdI q by omega))
  have D1 : DgS (gI S 500 16 (S.1 500 16 + 1)) F := dg_fr hD (fc_gI (P := fun c j => c = 500 ∧ j = 16) ⟨rfl, rfl⟩) (fun j => by omega)
  have f1 : FC (nuP I) S0 (gI S 500 16 (S.1 500 16 + 1)) := fc_tr hf (fc_gI (Or.inr (Or.inr ⟨rfl, rfl⟩)))
  refine ev_up (fun n => e_X12_readsNumber_215) ?_
  unfold b_X12_readsNumber_215
  refine ev_gv ?_
  refine ev_gv ?_
  refine ev_gv ?_
  refine ev_gg (by first | omega | (constructor <;> omega)) ?_
  generalize gI S 500 16 (S.1 500 16 + 1) = S1 at h1 D1 f1 ⊢
  have hq1 := rd_hd h1
  refine ev_gcr (q_sign (d := d - 1) h1) ?_
  refine ev_gg (by first | omega | (constructor <;> omega)) ?_
  unfold rdX exS
  have same : RdS (gI S1 500 16 (S1.1 500 16 + 0)) t q.tail := by
    obtain ⟨b1, b2, b3, p, p1, p2, p3⟩ := h1
    exact ⟨by rw [gI_k (by decide)]; exact b1, b2, fun i hi => by rw [gI_c (by decide)]; exact b3 i hi, p, p1, by rw [gI_a, p2]; omega, p3⟩
  refine ev_ite (fun z => ?_) (fun z => ?_)
  · have e45 : ∀ y : List Int, (if hdI q.tail = 45 then -exV y else exV y) = if (0 : Int) = 1 then -exV y else exV y := fun y => by rw [if_neg z, if_neg (by decide)]
    simp only [e45]
    refine ev_up (fun n => e_X12_readsNumber_239) ?_
    unfold b_X12_readsNumber_239
    refine ev_gv ?_
    refine ev_gg (by decide) ?_
    refine ev_ite (fun z => by omega) (fun _ => ?_)
    refine ev_gg (by first | omega | (constructor <;> omega)) ?_
    refine ev_gcr (q_sign (d := d - 1) h1) ?_
    refine ev_gg (by first | omega | (constructor <;> omega)) ?_
    refine ev_ite (fun y => ?_) (fun y => ?_)
    · simp only [if_neg (show ¬ (hdI q.tail = 45 ∨ hdI q.tail = 43) by omega)]
      exact nu_265 hd hI hn hF hl (Or.inl rfl) D1 rfl same h2 f1
    · simp only [if_pos (show hdI q.tail = 45 ∨ hdI q.tail = 43 by omega)]
      exact nu_265 hd hI hn hF hl (Or.inl rfl) D1 rfl (rd_on h1 (rd_ne (by omega))) h2 f1
  · have e45 : ∀ y : List Int, (if hdI q.tail = 45 then -exV y else exV y) = if (1 : Int) = 1 then -exV y else exV y := fun y => by rw [if_pos (by omega), if_pos rfl]
    simp only [e45, if_pos (show hdI q.tail = 45 ∨ hdI q.tail = 43 by omega)]
    refine ev_up (fun n => e_X12_readsNumber_239) ?_
    unfold b_X12_readsNumber_239
    refine ev_gv ?_
    refine ev_gg (by decide) ?_
    refine ev_ite (fun _ => ?_) (fun z => by omega)
    exact nu_265 hd hI hn hF hl (Or.inr rfl) D1 rfl (rd_on h1 (rd_ne (by omega))) h2 f1
/-- no figure comes any more -/
theorem nu_end {a2 neg a6 a7 : Int} {F q : List Int} {l1 : Nat} {S : GS} (hd : 2 ≤ d) (hI : I ≤ 100) (hn : neg = if hdI r = 45 then 1 else 0) (hF : 1 ≤ F.length) (hl : l1 ≤ F.length) (hD : DgS S F) (h : RdS S t q) (h2 : ∃ p0 : Nat, a2 = (p0 : Int) ∧ p0 ≤ t.length ∧ t.drop p0 = r) (hf : FC (nuP I) S0 S) : Ev (fun n => f_X12_readsNumber n d 75 S [(I : Int), a2, neg, (F.length : Int), ((F.length - l1 : Nat) : Int), a6, a7, 0]) (fun x S1 => RnQ t I (nbR r l1 (F, q)) S0 x S1) := by
  have hq := rd_hd h
  refine ev_up (fun n => e_X12_readsNumber_75) ?_
  unfold b_X12_readsNumber_75
  refine ev_gg (by decide) ?_
  refine ev_ite (fun _ => ?_) (fun z => by omega)
  refine ev_gg (by first | omega | (constructor <;> omega)) ?_
  refine ev_gcr (q_sign (d := d - 1) h) ?_
  refine ev_gg (by first | omega | (constructor <;> omega)) ?_
  refine ev_ite (fun z => ?_) (fun z => ?_)
  · exact nu_215 hd hI hn hF hl hD h (Or.inl z) h2 hf
  · refine ev_gcr (q_sign (d := d - 1) h) ?_
    refine ev_gg (by first | omega | (constructor <;> omega)) ?_
    refine ev_ite (fun y => ?_) (fun y => ?_)
    · have e3 : nbR r l1 (F, q) = if nmOk F ((l1 : Int) - F.length + 0) = 1 then .inr (nbT r F ((l1 : Int) - F.length + 0), q) else .inl r := by
        unfold nbR rdN3
        rw [if_neg (show ¬ (hdI q = 101 ∨ hdI q = 69) by omega)]
        rfl
      rw [e3]
      exact nu_344 hd hI hn hF hl (by decide) hD h h2 hf
    · exact nu_215 hd hI hn hF hl hD h (Or.inr (by omega)) h2 hf
end RNU
