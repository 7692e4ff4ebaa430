/-! THE REFERENCE's state, of an object: the same lists as of the class -/
abbrev hiP : Nat → Nat → Prop := fun c _ => 500 ≤ c
/-- cells that answers rest on -/
abbrev pers (c j : Nat) : Prop := (c = 500 ∧ (j = 1 ∨ j = 2 ∨ j = 7 ∨ j = 9 ∨ j = 22 ∨ j = 32 ∨ j = 54 ∨ j = 81)) ∨ (c = 501 ∧ (j < 246440 ∨ 277245 ≤ j)) ∨ (c = 502 ∧ (j < 40 ∨ j = 45)) ∨ c = 503 ∨ c = 504 ∨ c = 519 ∨ c = 535 ∨ c = 536 ∨ c = 552
abbrev scP : Nat → Nat → Prop := fun c j => 500 ≤ c ∧ ¬ pers c j
def RDo (Ds : List (List ND)) (S : GS) : Prop := S.1 500 1 = (Ds.length : Int) ∧ Ds.length ≤ 40 ∧ ∀ i, i < Ds.length → LK S i (Ds.getD i []) ∧ DOC (Ds.getD i [])
def RPg (pg : List Int) (S : GS) : Prop := S.1 500 7 = (pg.length : Int) ∧ pg.length ≤ 400 ∧ (∀ i, i < pg.length → S.1 503 i = pg.getD i 0) ∧ ∀ x ∈ pg, 0 ≤ x ∧ x < 256
def RFi (L : List Nat) (S : GS) : Prop := S.1 500 32 = (L.length : Int) ∧ L.length ≤ 100 ∧ (∀ i, i < L.length → S.1 519 i = (L.getD i 0 : Int)) ∧ ∀ x ∈ L, x < 100
def RQu (Q : List (List Int)) (S : GS) : Prop := S.1 500 54 = (Q.length : Int) ∧ Q.length ≤ 200 ∧ (∀ q ∈ Q, q.length ≤ 300 ∧ ∀ x ∈ q, 0 ≤ x ∧ x < 256) ∧ (∀ k, k ≤ Q.length → 0 < Q.length → S.1 535 k = ((Q.take k).flatten.length : Int)) ∧ ∀ j, j < Q.flatten.length → S.1 536 j = Q.flatten.getD j 0
def RCo (C : List (Int × Int)) (S : GS) : Prop := S.1 500 81 = (C.length : Int) ∧ C.length ≤ 1000 ∧ (∀ k, k < C.length → S.1 552 k = 32 * (prA C k).1 + (prA C k).2 ∧ (0 ≤ (prA C k).1 ∧ (prA C k).1 < 100) ∧ 0 ≤ (prA C k).2 ∧ (prA C k).2 < 16) ∧ inr (S.1 500 22)
def RfS (S0 : GS) (T0 : List ND) (Ds : List (List ND)) (pg pp : List Int) (r : Int) (L : List Nat) (Q : List (List Int)) (C : List (Int × Int)) (S : GS) : Prop := RDo Ds S ∧ RPg pg S ∧ PpS S pp ∧ (S.1 500 2 = r ∧ 0 ≤ r ∧ r ≤ 2) ∧ RFi L S ∧ RQu Q S ∧ RCo C S ∧ (LK S 45 T0 ∧ DOC T0) ∧ FC hiP S0 S
section RFS
variable {P : Nat → Nat → Prop} {S0 S S1 : GS} {T0 : List ND} {Ds : List (List ND)} {pg pp : List Int} {r : Int} {L : List Nat} {Q : List (List Int)} {C : List (Int × Int)} {d : Nat}
theorem rdo_fr (h : RDo Ds S) (hf : FC P S S1) (h1 : ¬ P 500 1) (h2 : ∀ j, j < 246440 → ¬ P 501 j) (h3 : ∀ j, j < 40 → ¬ P 502 j) : RDo Ds S1 := ⟨(fc_i hf h1).trans h.1, h.2.1, fun i hi => ⟨lk_fr (h.2.2 i hi).1 hf (fun j a b => h2 j (by have := h.2.1; omega)) (h3 i (by have := h.2.1; omega)), (h.2.2 i hi).2⟩⟩
theorem rpg_fr (h : RPg pg S) (hf : FC P S S1) (h1 : ¬ P 500 7) (h2 : ∀ j, ¬ P 503 j) : RPg pg S1 := ⟨(fc_i hf h1).trans h.1, h.2.1, fun i hi => (fc_i hf (h2 i)).trans (h.2.2.1 i hi), h.2.2.2⟩
theorem pps_fr (h : PpS S pp) (hf : FC P S S1) (h1 : ¬ P 500 9) (h2 : ∀ j, ¬ P 504 j) : PpS S1 pp := ⟨(fc_i hf h1).trans h.1, h.2.1, fun i hi => (fc_i hf (h2 i)).trans (h.2.2.1 i hi), h.2.2.2⟩
theorem rfi_fr (h : RFi L S) (hf : FC P S S1) (h1 : ¬ P 500 32) (h2 : ∀ j, ¬ P 519 j) : RFi L S1 := ⟨(fc_i hf h1).trans h.1, h.2.1, fun i hi => (fc_i hf (h2 i)).trans (h.2.2.1 i hi), h.2.2.2⟩
theorem rqu_fr (h : RQu Q S) (hf : FC P S S1) (h1 : ¬ P 500 54) (h2 : ∀ j, ¬ P 535 j) (h3 : ∀ j, ¬ P 536 j) : RQu Q S1 := ⟨(fc_i hf h1).trans h.1, h.2.1, h.2.2.1, fun k hk h0 => (fc_i hf (h2 k)).trans (h.2.2.2.1 k hk h0), fun j hj => (fc_i hf (h3 j)).trans (h.2.2.2.2 j hj)⟩
theorem rco_fr (h : RCo C S) (hf : FC P S S1) (h1 : ¬ P 500 81) (h3 : ¬ P 500 22) (h2 : ∀ j, ¬ P 552 j) : RCo C S1 := ⟨(fc_i hf h1).trans h.1, h.2.1, fun k hk => by rw [fc_i hf (h2 k)]; exact h.2.2.1 k hk, by rw [fc_i hf h3]; exact h.2.2.2⟩
theorem rstd_fr (h : LK S 45 T0 ∧ DOC T0) (hf : FC P S S1) (h1 : ∀ j, 277245 ≤ j → ¬ P 501 j) (h2 : ¬ P 502 45) : LK S1 45 T0 ∧ DOC T0 := ⟨lk_fr h.1 hf (fun j a _ => h1 j (by omega)) h2, h.2⟩
/-- only cells that no answer rests on change -/
theorem rf_sc (h : RfS S0 T0 Ds pg pp r L Q C S) (hf : FC P S S1) (hP : ∀ c j, P c j → scP c j) : RfS S0 T0 Ds pg pp r L Q C S1 := by
  have no : ∀ c j, pers c j → ¬ P c j := fun c j hp z => (hP c j z).2 hp
  obtain ⟨h1, h2, h3, h4, h5, h6, h7, h8, h9⟩ := h
  exact ⟨rdo_fr h1 hf (no _ _ (by omega)) (fun j _ => no _ _ (by omega)) (fun j _ => no _ _ (by omega)), rpg_fr h2 hf (no _ _ (by omega)) (fun j => no _ _ (by omega)), pps_fr h3 hf (no _ _ (by omega)) (fun j => no _ _ (by omega)), ⟨(fc_i hf (no _ _ (by omega))).trans h4.1, h4.2⟩, rfi_fr h5 hf (no _ _ (by omega)) (fun j => no _ _ (by omega)), rqu_fr h6 hf (no _ _ (by omega)) (fun j => no _ _ (by omega)) (fun j => no _ _ (by omega)), rco_fr h7 hf (no _ _ (by omega)) (no _ _ (by omega)) (fun j => no _ _ (by omega)), rstd_fr h8 hf (fun j _ => no _ _ (by omega)) (no _ _ (by omega)), fc_tr h9 (fc_mono hf (fun c j z => (hP c j z).1))⟩
theorem rf_page {p1 : List Int} (h : RfS S0 T0 Ds pg pp r L Q C S) (hf : FC (fun c j => (c = 500 ∧ j = 7) ∨ c = 503) S S1) (hp : RPg p1 S1) : RfS S0 T0 Ds p1 pp r L Q C S1 := by
  obtain ⟨h1, h2, h3, h4, h5, h6, h7, h8, h9⟩ := h
  exact ⟨rdo_fr h1 hf (by omega) (fun j _ => by omega) (fun j _ => by omega), hp, pps_fr h3 hf (by omega) (fun j => by omega), ⟨(fc_i hf (by omega)).trans h4.1, h4.2⟩, rfi_fr h5 hf (by omega) (fun j => by omega), rqu_fr h6 hf (by omega) (fun j => by omega) (fun j => by omega), rco_fr h7 hf (by omega) (by omega) (fun j => by omega), rstd_fr h8 hf (fun j _ => by omega) (by omega), fc_tr h9 (fc_mono hf (fun c j z => by omega))⟩
theorem rf_paper {p1 : List Int} (h : RfS S0 T0 Ds pg pp r L Q C S) (hf : FC (fun c j => (c = 500 ∧ j = 9) ∨ c = 504) S S1) (hp : PpS S1 p1) : RfS S0 T0 Ds pg p1 r L Q C S1 := by
  obtain ⟨h1, h2, h3, h4, h5, h6, h7, h8, h9⟩ := h
  exact ⟨rdo_fr h1 hf (by omega) (fun j _ => by omega) (fun j _ => by omega), rpg_fr h2 hf (by omega) (fun j => by omega), hp, ⟨(fc_i hf (by omega)).trans h4.1, h4.2⟩, rfi_fr h5 hf (by omega) (fun j => by omega), rqu_fr h6 hf (by omega) (fun j => by omega) (fun j => by omega), rco_fr h7 hf (by omega) (by omega) (fun j => by omega), rstd_fr h8 hf (fun j _ => by omega) (by omega), fc_tr h9 (fc_mono hf (fun c j z => by omega))⟩
theorem rf_rule {r1 : Int} (h : RfS S0 T0 Ds pg pp r L Q C S) (hr : 0 ≤ r1 ∧ r1 ≤ 2) : RfS S0 T0 Ds pg pp r1 L Q C (gI S 500 2 r1) := by
  obtain ⟨h1, h2, h3, h4, h5, h6, h7, h8, h9⟩ := h
  have hf : FC (fun c j => c = 500 ∧ j = 2) S (gI S 500 2 r1) := fc_gI ⟨rfl, rfl⟩
  exact ⟨rdo_fr h1 hf (by omega) (fun j _ => by omega) (fun j _ => by omega), rpg_fr h2 hf (by omega) (fun j => by omega), pps_fr h3 hf (by omega) (fun j => by omega), ⟨gI_a, hr⟩, rfi_fr h5 hf (by omega) (fun j => by omega), rqu_fr h6 hf (by omega) (fun j => by omega) (fun j => by omega), rco_fr h7 hf (by omega) (by omega) (fun j => by omega), rstd_fr h8 hf (fun j _ => by omega) (by omega), fc_tr h9 (fc_mono hf (fun c j z => by omega))⟩
theorem rf_docs {D1 : List (List ND)} (h : RfS S0 T0 Ds pg pp r L Q C S) (hf : FC (fun c j => (c = 501 ∧ j < 246440) ∨ (c = 502 ∧ j < 40) ∨ (c = 500 ∧ j = 1)) S S1) (hp : RDo D1 S1) : RfS S0 T0 D1 pg pp r L Q C S1 := by
  obtain ⟨h1, h2, h3, h4, h5, h6, h7, h8, h9⟩ := h
  exact ⟨hp, rpg_fr h2 hf (by omega) (fun j => by omega), pps_fr h3 hf (by omega) (fun j => by omega), ⟨(fc_i hf (by omega)).trans h4.1, h4.2⟩, rfi_fr h5 hf (by omega) (fun j => by omega), rqu_fr h6 hf (by omega) (fun j => by omega) (fun j => by omega), rco_fr h7 hf (by omega) (by omega) (fun j => by omega), rstd_fr h8 hf (fun j _ => by omega) (by omega), fc_tr h9 (fc_mono hf (fun c j z => by omega))⟩
theorem rf_finds {L1 : List Nat} (h : RfS S0 T0 Ds pg pp r L Q C S) (hf : FC (fun c j => (c = 500 ∧ j = 32) ∨ c = 519) S S1) (hp : RFi L1 S1) : RfS S0 T0 Ds pg pp r L1 Q C S1 := by
  obtain ⟨h1, h2, h3, h4, h5, h6, h7, h8, h9⟩ := h
  exact ⟨rdo_fr h1 hf (by omega) (fun j _ => by omega) (fun j _ => by omega), rpg_fr h2 hf (by omega) (fun j => by omega), pps_fr h3 hf (by omega) (fun j => by omega), ⟨(fc_i hf (by omega)).trans h4.1, h4.2⟩, hp, rqu_fr h6 hf (by omega) (fun j => by omega) (fun j => by omega), rco_fr h7 hf (by omega) (by omega) (fun j => by omega), rstd_fr h8 hf (fun j _ => by omega) (by omega), fc_tr h9 (fc_mono hf (fun c j z => by omega))⟩
theorem rf_quarrels {Q1 : List (List Int)} (h : RfS S0 T0 Ds pg pp r L Q C S) (hf : FC (fun c j => (c = 500 ∧ j = 54) ∨ c = 535 ∨ c = 536) S S1) (hp : RQu Q1 S1) : RfS S0 T0 Ds pg pp r L Q1 C S1 := by
  obtain ⟨h1, h2, h3, h4, h5, h6, h7, h8, h9⟩ := h
  exact ⟨rdo_fr h1 hf (by omega) (fun j _ => by omega) (fun j _ => by omega), rpg_fr h2 hf (by omega) (fun j => by omega), pps_fr h3 hf (by omega) (fun j => by omega), ⟨(fc_i hf (by omega)).trans h4.1, h4.2⟩, rfi_fr h5 hf (by omega) (fun j => by omega), hp, rco_fr h7 hf (by omega) (by omega) (fun j => by omega), rstd_fr h8 hf (fun j _ => by omega) (by omega), fc_tr h9 (fc_mono hf (fun c j z => by omega))⟩
theorem rf_compl {C1 : List (Int × Int)} (h : RfS S0 T0 Ds pg pp r L Q C S) (hf : FC (fun c j => (c = 500 ∧ j = 81) ∨ c = 552) S S1) (hp : RCo C1 S1) : RfS S0 T0 Ds pg pp r L Q C1 S1 := by
  obtain ⟨h1, h2, h3, h4, h5, h6, h7, h8, h9⟩ := h
  exact ⟨rdo_fr h1 hf (by omega) (fun j _ => by omega) (fun j _ => by omega), rpg_fr h2 hf (by omega) (fun j => by omega), pps_fr h3 hf (by omega) (fun j => by omega), ⟨(fc_i hf (by omega)).trans h4.1, h4.2⟩, rfi_fr h5 hf (by omega) (fun j => by omega), rqu_fr h6 hf (by omega) (fun j => by omega) (fun j => by omega), hp, rstd_fr h8 hf (fun j _ => by omega) (by omega), fc_tr h9 (fc_mono hf (fun c j z => by omega))⟩
/-- only cells that no answer rests on change, and how long the KEY is that was read -/
theorem rf_sc22 (h : RfS S0 T0 Ds pg pp r L Q C S) (hf : FC P S S1) (hP : ∀ c j, P c j → scP c j ∨ (c = 500 ∧ j = 22)) (h22 : inr (S1.1 500 22)) : RfS S0 T0 Ds pg pp r L Q C S1 := by
  have no : ∀ c j, (pers c j ∧ ¬ (c = 500 ∧ j = 22)) → ¬ P c j := fun c j hp z => by
    rcases hP c j z with y | y
    · exact y.2 hp.1
    · exact hp.2 y
  obtain ⟨h1, h2, h3, h4, h5, h6, h7, h8, h9⟩ := h
  exact ⟨rdo_fr h1 hf (no _ _ (by omega)) (fun j _ => no _ _ (by omega)) (fun j _ => no _ _ (by omega)), rpg_fr h2 hf (no _ _ (by omega)) (fun j => no _ _ (by omega)), pps_fr h3 hf (no _ _ (by omega)) (fun j => no _ _ (by omega)), ⟨(fc_i hf (no _ _ (by omega))).trans h4.1, h4.2⟩, rfi_fr h5 hf (no _ _ (by omega)) (fun j => no _ _ (by omega)), rqu_fr h6 hf (no _ _ (by omega)) (fun j => no _ _ (by omega)) (fun j => no _ _ (by omega)), ⟨(fc_i hf (no _ _ (by omega))).trans h7.1, h7.2.1, fun k hk => by rw [fc_i hf (no _ _ (by omega))]; exact h7.2.2.1 k hk, h22⟩, rstd_fr h8 hf (fun j _ => no _ _ (by omega)) (no _ _ (by omega)), fc_tr h9 (fc_mono hf (fun c j z => by
    rcases hP c j z with y | y
    · exact y.1
    · omega))⟩
/-- whether something holds is told -/
theorem q_failsP {p : Prop} [Decidable p] {x c : Int} (hx : x = if p then 1 else 0) : Ev (fun n => f_X12_fails n d 0 S [x, c]) (fun y S1 => y = (if p then 0 else 1) ∧ S1.1 500 0 = (if p then 0 else c) ∧ FC (fun c j => c = 500 ∧ j = 0) S S1) := by
  have := q_fails (S := S) (d := d) (b := decide p) (x := x) (c := c) (by rw [hx]; by_cases h : p; rw [if_pos h, if_pos (decide_eq_true h)]; rw [if_neg h, if_neg (by simpa using h)])
  by_cases h : p
  · rw [if_pos (decide_eq_true h), if_pos (decide_eq_true h)] at this
    rw [if_pos h, if_pos h]
    exact this
  · rw [if_neg (by simpa using h), if_neg (by simpa using h)] at this
    rw [if_neg h, if_neg h]
    exact this
/-- it holds, or it is thrown -/
theorem fa_c {p : Prop} [Decidable p] {x c : Int} {k : Nat → Int → GS → Option (Int × GS)} {Q0 : Int → GS → Prop} (hx : x = if p then 1 else 0) (h : RfS S0 T0 Ds pg pp r L Q C S) (yes : p → ∀ S1, S1.1 500 0 = 0 → FC (fun c j => c = 500 ∧ j = 0) S S1 → RfS S0 T0 Ds pg pp r L Q C S1 → Ev (fun n => k n 0 S1) Q0) (no : ¬ p → ∀ S1, S1.1 500 0 = c → FC (fun c j => c = 500 ∧ j = 0) S S1 → RfS S0 T0 Ds pg pp r L Q C S1 → Ev (fun n => k n 1 S1) Q0) : Ev (fun n => gc (f_X12_fails n d 0 S [x, c]) (k n)) Q0 := by
  refine ev_gc (q_failsP hx) (fun y S1 q => ?_)
  obtain ⟨q1, q2, q3⟩ := q
  have h1 := rf_sc h q3 (fun c j z => by omega)
  by_cases hp : p
  · rw [if_pos hp] at q1 q2
    subst q1
    exact yes hp S1 q2 q3 h1
  · rw [if_neg hp] at q1 q2
    subst q1
    exact no hp S1 q2 q3 h1
theorem r_isDoc {a : Int} (hd : 1 ≤ d) (ha : inr a) (h : RfS S0 T0 Ds pg pp r L Q C S) : Rd (fun n => f_X12_isDoc n d 0 S [a]) (if hasD Ds a then 1 else 0) S := q_isDoc hd ha h.1.1 h.1.2.1
/-- of a DOCUMENT that is there -/
theorem r_at {a : Int} (h : RfS S0 T0 Ds pg pp r L Q C S) (ha : hasD Ds a) : a = (a.toNat : Int) ∧ a.toNat < 40 ∧ LK S a.toNat (atD' Ds a) ∧ DOC (atD' Ds a) := by
  have n := h.1.2.1
  have := h.1.2.2 a.toNat (by omega)
  exact ⟨by omega, by omega, this.1, this.2⟩
theorem r_isNode {a i : Int} (hd : 2 ≤ d) (ha : inr a) (hi : inr i) (h : RfS S0 T0 Ds pg pp r L Q C S) : Rd (fun n => f_X12_isNode n d 0 S [a, i]) (if hasD Ds a ∧ 0 ≤ i ∧ i < ((atD' Ds a).length : Int) then 1 else 0) S := by
  refine ev_up (fun n => e_X12_isNode_0) ?_
  unfold b_X12_isNode_0
  refine ev_gg (by first | omega | (constructor <;> omega)) ?_
  refine ev_gcr (r_isDoc (d := d - 1) (by omega) ha h) ?_
  by_cases c : hasD Ds a
  · obtain ⟨e1, e2, e3, e4⟩ := r_at h c
    have l1 := e3.2.1
    rw [if_pos c]
    refine ev_gg (by decide) ?_
    refine ev_ite (fun z => by omega) (fun _ => ?_)
    refine ev_gg (by first | omega | (constructor <;> omega)) ?_
    refine ev_gv ?_
    rw [e3.1]
    refine ev_gv ?_
    refine ev_gcr (q_in (d := d - 1) ⟨hi, by decide, by constructor <;> omega⟩) ?_
    by_cases c2 : 0 ≤ i ∧ i < ((atD' Ds a).length : Int)
    · rw [if_pos (show 0 ≤ i ∧ i ≤ ((atD' Ds a).length : Int) - 1 by omega), if_pos (show hasD Ds a ∧ 0 ≤ i ∧ i < ((atD' Ds a).length : Int) from ⟨c, c2⟩)]
      refine ev_gg (by decide) ?_
      refine ev_ite (fun z => by omega) (fun _ => ?_)
      exact ev_ret ⟨rfl, rfl⟩
    · rw [if_neg (show ¬ (0 ≤ i ∧ i ≤ ((atD' Ds a).length : Int) - 1) by omega), if_neg (show ¬ (hasD Ds a ∧ 0 ≤ i ∧ i < ((atD' Ds a).length : Int)) from fun z => c2 z.2)]
      refine ev_gg (by decide) ?_
      refine ev_ite (fun _ => ?_) (fun z => by omega)
      exact ev_ret ⟨rfl, rfl⟩
  · rw [if_neg c, if_neg (fun z => c z.1)]
    refine ev_gg (by decide) ?_
    refine ev_ite (fun _ => ?_) (fun z => by omega)
    exact ev_ret ⟨rfl, rfl⟩
/-- what was made is kept -/
theorem r_keeps {k : Int} {K : Nat} {V : List ND} (hd : 1 ≤ d) (hk : k = (K : Int)) (hK : 40 ≤ K ∧ K < 48) (h : RfS S0 T0 Ds pg pp r L Q C S) (hl : Ds.length < 40) (hv : LK S K V) (hD : DOC V) : Ev (fun n => f_X12_keeps n d 0 S [k]) (fun x S1 => x = (Ds.length : Int) ∧ S1.1 500 0 = S.1 500 0 ∧ RfS S0 T0 (Ds ++ [V]) pg pp r L Q C S1) := by
  have l1 := hv.2.1
  refine ev_mono (q_keeps (D := Ds.length) (m := V.length) hd hk hK.2 h.1.1 hl (by omega) hv.1 (by omega)) (fun x S1 q => ?_)
  obtain ⟨q1, q2, q3, q4, q5⟩ := q
  refine ⟨q1, fc_i q5 (by omega), rf_docs h (fc_mono q5 (fun c j z => by omega)) ⟨by rw [q2, List.length_append, List.length_singleton]; omega, by rw [List.length_append, List.length_singleton]; omega, fun i hi => ?_⟩⟩
  rw [List.length_append, List.length_singleton] at hi
  by_cases e : i < Ds.length
  · have eg : (Ds ++ [V]).getD i [] = Ds.getD i [] := by
      rw [List.getD_eq_getElem?_getD, List.getD_eq_getElem?_getD, List.getElem?_append_left e]
    rw [eg]
    have := h.1.2.2 i e
    exact ⟨lk_fr this.1 q5 (fun j a b => by omega) (by omega), this.2⟩
  · have ei : i = Ds.length := by omega
    subst ei
    have eg : (Ds ++ [V]).getD Ds.length [] = V := by simp
    rw [eg]
    exact ⟨lk_cp hv q3 (fun j hj => q4 j hj), hD⟩
end RFS
