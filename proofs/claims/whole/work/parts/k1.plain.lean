/-! THE REFERENCE: places, PLAIN PATHS -/
def fgF : List Int → Int → Int
  | [], p => p
  | x :: r, p => if fgC x then fgF r (if 9999 < p then p else 10 * p + x - 48) else -1
def fgN (w : List Int) : Int := if w = [] ∨ (hdI w = 48 ∧ 1 < w.length) then -1 else fgF w 0
theorem fgF_r : ∀ (w : List Int) (p : Int), 0 ≤ p → p ≤ 200000 → fgF w p = -1 ∨ (p ≤ fgF w p ∧ fgF w p ≤ 200000)
  | [], p, h, h2 => Or.inr ⟨Int.le_refl _, h2⟩
  | x :: r, p, h, h2 => by
    unfold fgF
    by_cases c : fgC x
    · rw [if_pos c]
      by_cases c2 : 9999 < p
      · rw [if_pos c2]; exact fgF_r r p h h2
      · rw [if_neg c2]
        have := fgF_r r (10 * p + x - 48) (by omega) (by omega)
        omega
    · rw [if_neg c]; exact Or.inl rfl
theorem fgN_r (w : List Int) : fgN w = -1 ∨ (0 ≤ fgN w ∧ fgN w ≤ 200000) := by
  unfold fgN
  split
  · exact Or.inl rfl
  · exact fgF_r w 0 (by decide) (by decide)
theorem fg_dg : ∀ (w : List Int) (p : Int), 0 ≤ p → w.length ≤ 3 → (p < 10 ∨ (w.length ≤ 2 ∧ p < 100) ∨ (w.length ≤ 1 ∧ p < 1000) ∨ w.length = 0) → fgF w p = dgF w p
  | [], p, _, _, _ => rfl
  | x :: r, p, h, hl, hp => by
    rw [List.length_cons] at hl hp
    unfold fgF dgF
    by_cases c : fgC x
    · rw [if_pos c, if_pos c, if_neg (by omega), show 10 * p + x - 48 = p * 10 + x - 48 by omega]
      exact fg_dg r _ (by omega) (by omega) (by omega)
    · rw [if_neg c, if_neg c]
/-- places: the class and the reference agree, or it is a place that none has -/
theorem plN_fg (w : List Int) : fgN w = plN w ∨ (plN w = -1 ∧ 1000 ≤ fgN w) := by
  unfold fgN plN
  match w with
  | [] => left; rfl
  | [a] =>
    left
    rw [if_neg (by simp), if_neg (by simp)]
    exact fg_dg [a] 0 (by decide) (by simp) (by omega)
  | [a, b] =>
    left
    by_cases c : hdI [a, b] = 48
    · rw [if_pos (Or.inr ⟨c, by simp⟩), if_pos (Or.inr (Or.inr ⟨by simp, c⟩))]
    · rw [if_neg (by rintro (z | z); cases z; exact c z.1), if_neg (by rintro (z | z | z); simp at z; simp at z; exact c z.2)]
      exact fg_dg [a, b] 0 (by decide) (by simp) (by omega)
  | [a, b, e] =>
    left
    by_cases c : hdI [a, b, e] = 48
    · rw [if_pos (Or.inr ⟨c, by simp⟩), if_pos (Or.inr (Or.inr ⟨by simp, c⟩))]
    · rw [if_neg (by rintro (z | z); cases z; exact c z.1), if_neg (by rintro (z | z | z); simp at z; simp at z; exact c z.2)]
      exact fg_dg [a, b, e] 0 (by decide) (by simp) (by omega)
  | a :: b :: e :: g :: r =>
    rw [if_pos (show _ ∨ _ from Or.inr (Or.inl (by simp)))]
    by_cases c : hdI (a :: b :: e :: g :: r) = 48
    · rw [if_pos (Or.inr ⟨c, by simp⟩)]
      left; rfl
    · rw [if_neg (by rintro (z | z); cases z; exact c z.1)]
      have c' : a ≠ 48 := c
      unfold fgF
      by_cases f1 : fgC a
      · rw [if_pos f1, if_neg (by decide)]
        unfold fgF
        by_cases f2 : fgC b
        · rw [if_pos f2, if_neg (by omega)]
          unfold fgF
          by_cases f3 : fgC e
          · rw [if_pos f3, if_neg (by omega)]
            unfold fgF
            by_cases f4 : fgC g
            · rw [if_pos f4, if_neg (by omega)]
              have := fgF_r r (10 * (10 * (10 * (10 * 0 + a - 48) + b - 48) + e - 48) + g - 48) (by omega) (by omega)
              rcases this with z | z
              · left; exact z
              · right; exact ⟨rfl, by omega⟩
            · rw [if_neg f4]; left; rfl
          · rw [if_neg f3]; left; rfl
        · rw [if_neg f2]; left; rfl
      · rw [if_neg f1]; left; rfl
theorem atK_in : ∀ (L : List Nat) (p : Int), 0 ≤ p → p < (L.length : Int) → atK L p = (L.getD p.toNat 0 : Int)
  | [], p, h1, h2 => by simp at h2; omega
  | k :: r, p, h1, h2 => by
    rw [List.length_cons] at h2
    unfold atK
    by_cases c : p = 0
    · subst c; rw [if_pos rfl]; rfl
    · rw [if_neg c, atK_in r (p - 1) (by omega) (by omega)]
      obtain ⟨q, hq⟩ : ∃ q : Nat, p = (q : Int) + 1 := ⟨(p - 1).toNat, by omega⟩
      rw [show p.toNat = q + 1 by omega, show (p - 1).toNat = q by omega]
      rfl
theorem atK_out : ∀ (L : List Nat) (p : Int), (p < 0 ∨ (L.length : Int) ≤ p) → atK L p = -1
  | [], p, _ => rfl
  | k :: r, p, h => by
    rw [List.length_cons] at h
    unfold atK
    rw [if_neg (by omega)]
    exact atK_out r (p - 1) (by omega)
section RPL1
variable {S : GS} {d : Nat} {w : List Int}
theorem q_figured {a : Int} {A : Nat} (hd : 1 ≤ d) (ha : a = (A : Int)) (hA : A ≤ 1000) (h : WD S w) : Rd (fun n => f_X12_figured n d 0 S [a]) (fgN (w.drop A)) S := by
  subst ha
  obtain ⟨p1, p2, p3, p4⟩ := h
  have rg : ∀ u, u < w.length → 0 ≤ w.getD u 0 ∧ w.getD u 0 < 256 := fun u hu => p4 _ (getD_in hu)
  have lp : ∀ (t u : Nat) (p : Int), w.length - u ≤ t → u ≤ 1002 → 0 ≤ p → p ≤ 200000 → Rd (fun n => f_X12_figured n d 35 S [p, (u : Int)]) (fgF (w.drop u) p) S := by
    intro t
    induction t with
    | zero =>
      intro u p hu hu2 q1 q2
      refine ev_up (fun n => e_X12_figured_35) ?_
      unfold b_X12_figured_35
      refine ev_gv ?_
      rw [p1]
      refine ev_gg (by first | omega | (constructor <;> omega)) ?_
      refine ev_gg (by first | omega | (constructor <;> omega)) ?_
      refine ev_ite (fun _ => ?_) (fun z => by omega)
      rw [List.drop_eq_nil_of_le (by omega)]
      exact ev_ret ⟨rfl, rfl⟩
    | succ t ih =>
      intro u p hu hu2 q1 q2
      by_cases c : w.length ≤ u
      · refine ev_up (fun n => e_X12_figured_35) ?_
        unfold b_X12_figured_35
        refine ev_gv ?_
        rw [p1]
        refine ev_gg (by first | omega | (constructor <;> omega)) ?_
        refine ev_gg (by first | omega | (constructor <;> omega)) ?_
        refine ev_ite (fun _ => ?_) (fun z => by omega)
        rw [List.drop_eq_nil_of_le c]
        exact ev_ret ⟨rfl, rfl⟩
      have r0 := rg u (by omega)
      have ed : w.drop u = w.getD u 0 :: w.drop (u + 1) := drop_one (by omega)
      have eu : (u : Int) + 1 = ((u + 1 : Nat) : Int) := by omega
      rw [ed]
      unfold fgF
      refine ev_up (fun n => e_X12_figured_35) ?_
      unfold b_X12_figured_35
      refine ev_gv ?_
      rw [p1]
      refine ev_gg (by first | omega | (constructor <;> omega)) ?_
      refine ev_gg (by first | omega | (constructor <;> omega)) ?_
      refine ev_ite (fun z => by omega) (fun _ => ?_)
      refine ev_gg (by first | omega | (constructor <;> omega)) ?_
      refine ev_gv ?_
      rw [Int.toNat_natCast, p3 u (by omega)]
      refine ev_gg (by first | omega | (constructor <;> omega)) ?_
      refine ev_gcr (q_in (d := d - 1) ⟨by constructor <;> omega, by decide, by decide⟩) ?_
      by_cases c2 : fgC (w.getD u 0)
      · rw [if_pos c2, if_pos c2]
        refine ev_gg (by decide) ?_
        refine ev_ite (fun _ => ?_) (fun z => by omega)
        refine ev_gg (by first | omega | (constructor <;> omega)) ?_
        refine ev_ite (fun z => ?_) (fun z => ?_)
        · refine ev_gv ?_
          refine ev_gv ?_
          refine ev_gv ?_
          refine ev_gv ?_
          refine ev_gv ?_
          rw [p3 u (by omega), eu, if_neg (by omega)]
          exact ih (u + 1) _ (by omega) (by omega) (by omega) (by omega)
        · refine ev_gv ?_
          rw [eu, if_pos (by omega)]
          exact ih (u + 1) p (by omega) (by omega) q1 q2
      · rw [if_neg c2, if_neg c2]
        refine ev_gg (by decide) ?_
        refine ev_ite (fun z => by omega) (fun _ => ?_)
        exact ev_ret ⟨rfl, rfl⟩
  refine ev_up (fun n => e_X12_figured_0) ?_
  unfold b_X12_figured_0
  refine ev_gv ?_
  rw [p1]
  refine ev_gg (by first | omega | (constructor <;> omega)) ?_
  refine ev_gg (by first | omega | (constructor <;> omega)) ?_
  refine ev_ite (fun z => ?_) (fun z => ?_)
  · rw [List.drop_eq_nil_of_le (by omega)]
    exact ev_ret ⟨rfl, rfl⟩
  have r0 := rg A (by omega)
  have hh := hdI_dr (l := w) (u := A) (by omega)
  have ne : w.drop A ≠ [] := fun e => by have := congrArg List.length e; rw [List.length_drop, List.length_nil] at this; omega
  refine ev_gg (by first | omega | (constructor <;> omega)) ?_
  refine ev_gv ?_
  rw [Int.toNat_natCast, p3 A (by omega)]
  refine ev_gg (by first | omega | (constructor <;> omega)) ?_
  have go : ¬ (hdI (w.drop A) = 48 ∧ 1 < (w.drop A).length) → Rd (fun n => f_X12_figured n d 35 S [0, (A : Int)]) (fgN (w.drop A)) S := fun c => by
    refine rd_as (lp w.length A 0 (by omega) (by omega) (by decide) (by decide)) ?_
    unfold fgN
    rw [if_neg (fun q => by rcases q with q | q; exact ne q; exact c q)]
  refine ev_ite (fun z2 => ?_) (fun z2 => ?_)
  · exact go (fun q => z2 (by rw [← hh]; exact q.1))
  · refine ev_gv ?_
    refine ev_gv ?_
    refine ev_gg (by first | omega | (constructor <;> omega)) ?_
    refine ev_gg (by first | omega | (constructor <;> omega)) ?_
    refine ev_ite (fun z3 => ?_) (fun z3 => ?_)
    · exact go (fun q => by rw [List.length_drop] at q; omega)
    · unfold fgN
      rw [if_pos (Or.inr ⟨by omega, by rw [List.length_drop]; omega⟩)]
      exact ev_ret ⟨rfl, rfl⟩
variable {K : Nat} {V : List ND}
theorem kdI_n {g : Nat} (hg : g < V.length) : kdI V (g : Int) = nk V g := by
  unfold kdI
  rw [if_pos (by omega), Int.toNat_natCast]
theorem vLk_n {g : Nat} (hg : g < V.length) : vLk V (g : Int) w = if nk V g = 5 then fdK V w (kids V g) else -1 := by
  unfold vLk kidsM
  rw [if_pos (by omega), Int.toNat_natCast]
  by_cases c : nk V g = 5
  · rw [if_pos c, if_pos c]
  · rw [if_neg c, if_neg c]
    rfl
/-- where a word leads from a NODE -/
theorem q_stepped {k g b : Int} {G : Nat} (hd : 6 ≤ d) (hk : k = (K : Int)) (hK : K < 48) (hg : g = (G : Int)) (hb : b = 0 ∨ b = 1) (h : LK S K V) (hw : WF V) (hz : PZL V) (hG : G < V.length) (hW : WD S w) : Rd (fun n => f_X12_stepped n d 0 S [k, g, b]) (if b = 0 then stpT V (G : Int) w else stpN V w G) S := by
  subst hk hg
  have hz' := pz_l hz
  have nr := h.2.2.2 _ (nd_mem hG)
  have kr : 0 ≤ nk V G ∧ nk V G ≤ 5 := ⟨nr.1, nr.2.1⟩
  have l := h.2.1
  have kl := kids_le hw hz' (g := G)
  have gl := hw.1 G hG
  have e0 := kdI_n hG
  refine ev_up (fun n => e_X12_stepped_0) ?_
  unfold b_X12_stepped_0
  refine ev_gg (by first | omega | (constructor <;> omega)) ?_
  refine ev_gcr (q_kindL (d := d - 1) (K := K) (I := G) (by omega) rfl hK rfl h hG) ?_
  refine ev_gg (by first | omega | (constructor <;> omega)) ?_
  refine ev_ite (fun z => ?_) (fun z => ?_)
  · refine ev_gcr (q_kindL (d := d - 1) (K := K) (I := G) (by omega) rfl hK rfl h hG) ?_
    refine ev_gg (by first | omega | (constructor <;> omega)) ?_
    refine ev_ite (fun z2 => ?_) (fun z2 => ?_)
    · refine ev_gcr (q_manyL (d := d - 1) (K := K) (I := G) (by omega) rfl hK rfl h hG) ?_
      have fr := fgN_r w
      have fin : ∀ (x : Int), (-1000000 ≤ x ∧ x ≤ 1000000) → Rd (fun n => f_X12_stepped n d 90 S [(K : Int), (G : Int), ((kids V G).length : Int), x]) (atK (kids V G) x) S := by
        intro x hx
        refine ev_up (fun n => e_X12_stepped_90) ?_
        unfold b_X12_stepped_90
        refine ev_gv ?_
        refine ev_gg (by first | omega | (constructor <;> omega)) ?_
        refine ev_gcr (q_in (d := d - 1) ⟨by constructor <;> omega, by decide, by constructor <;> omega⟩) ?_
        by_cases c : 0 ≤ x ∧ x ≤ ((kids V G).length : Int) - 1
        · rw [if_pos c]
          refine ev_gg (by decide) ?_
          refine ev_ite (fun z => by omega) (fun _ => ?_)
          obtain ⟨p, rfl⟩ : ∃ p : Nat, x = (p : Int) := ⟨x.toNat, by omega⟩
          refine ev_gcr (q_childAt (d := d - 1) (K := K) (G := G) (P := p) (by omega) rfl hK rfl rfl h hw hz hG (by omega)) ?_
          refine ev_ret ⟨?_, rfl⟩
          rw [atK_in _ _ (by omega) (by omega), Int.toNat_natCast]
          rw [List.getD_eq_getElem?_getD, List.getD_eq_getElem?_getD, List.getElem?_eq_getElem (by omega)]
          rfl
        · rw [if_neg c]
          refine ev_gg (by decide) ?_
          refine ev_ite (fun _ => ?_) (fun z => by omega)
          refine ev_ret ⟨?_, rfl⟩
          rw [atK_out _ _ (by omega)]
      have pf := plN_fg w
      have same : atK (kids V G) (fgN w) = atK (kids V G) (plN w) := by
        rcases pf with q | ⟨q1, q2⟩
        · rw [q]
        · rw [q1, atK_out _ _ (Or.inr (by omega)), atK_out _ _ (Or.inl (by decide))]
      have fr1 := fgN_r (w.drop 1)
      have pf1 := plN_fg (w.drop 1)
      refine ev_gcr (q_figured (d := d - 1) (A := 0) (by omega) rfl (by decide) hW) ?_
      rw [List.drop_zero]
      refine ev_gg (by rcases hb with q | q <;> rw [q] <;> decide) ?_
      have s0 : stpT V (G : Int) w = atK (kids V G) (plN w) := by
        unfold stpT
        rw [e0, if_pos z2, Int.toNat_natCast]
      have s1 : stpN V w G = atK (kids V G) (plW V G w) := by
        unfold stpN
        rw [if_pos z2]
      rw [s0, s1]
      refine ev_ite (fun z3 => ?_) (fun z3 => ?_)
      · rw [if_pos z3, ← same]
        exact fin _ (by omega)
      · rw [if_neg z3]
        refine ev_gv ?_
        rw [hW.1]
        have w9 := hW.2.1
        refine ev_gg (by first | omega | (constructor <;> omega)) ?_
        refine ev_ite (fun z4 => ?_) (fun z4 => ?_)
        · have wn : w = [] := List.length_eq_zero_iff.mp (by omega)
          have : plW V G w = plN w := by unfold plW; rw [wn]; rfl
          rw [this, ← same]
          exact fin _ (by omega)
        · have h0 := hdI_dr (l := w) (u := 0) (by omega)
          rw [List.drop_zero] at h0
          have r0 := hW.2.2.2 _ (getD_in (q := w) (t := 0) (by omega))
          refine ev_gg (by decide) ?_
          refine ev_gv ?_
          rw [show (0 : Int).toNat = 0 from rfl, hW.2.2.1 0 (by omega)]
          refine ev_gg (by first | omega | (constructor <;> omega)) ?_
          refine ev_ite (fun z5 => ?_) (fun z5 => ?_)
          · have : plW V G w = plN w := by unfold plW; rw [if_neg (by omega)]
            rw [this, ← same]
            exact fin _ (by omega)
          · refine ev_gcr (q_figured (d := d - 1) (A := 1) (by omega) rfl (by decide) hW) ?_
            refine ev_gg (by first | omega | (constructor <;> omega)) ?_
            refine ev_ite (fun z6 => ?_) (fun z6 => ?_)
            · have : plW V G w = -1 := by
                unfold plW
                rw [if_pos (by omega), if_pos ?_]
                rcases pf1 with q | ⟨q1, q2⟩
                · omega
                · omega
              rw [this]
              exact fin _ (by decide)
            · refine ev_gv ?_
              have e9 : atK (kids V G) (((kids V G).length : Int) - fgN (w.drop 1)) = atK (kids V G) (plW V G w) := by
                unfold plW
                rw [if_pos (by omega)]
                rcases pf1 with q | ⟨q1, q2⟩
                · rw [← q, if_neg z6]
                · rw [if_pos (by omega), atK_out _ _ (Or.inl (by omega)), atK_out _ _ (Or.inl (by decide))]
              rw [← e9]
              exact fin _ (by omega)
    · refine ev_ret ⟨?_, rfl⟩
      have s0 : stpT V (G : Int) w = -1 := by
        unfold stpT
        rw [e0, if_neg z2, vLk_n hG, if_neg (by omega)]
      have s1 : stpN V w G = -1 := by
        unfold stpN
        rw [if_neg z2, vLk_n hG, if_neg (by omega)]
      rw [s0, s1]
      split <;> rfl
  · refine ev_gcr (q_childByWord (d := d - 1) (K := K) (G := G) (by omega) rfl hK rfl h hw hz hG hW) ?_
    refine ev_ret ⟨?_, rfl⟩
    have k5 : nk V G = 5 := by omega
    have s0 : stpT V (G : Int) w = fdK V w (kids V G) := by
      unfold stpT
      rw [e0, if_neg (by omega), vLk_n hG, if_pos k5]
    have s1 : stpN V w G = fdK V w (kids V G) := by
      unfold stpN
      rw [if_neg (by omega), vLk_n hG, if_pos k5]
    rw [s0, s1]
    split <;> rfl
variable {l : List Int}
abbrev plP : Nat → Nat → Prop := fun c j => (c = 500 ∧ (j = 13 ∨ j = 30 ∨ j = 31)) ∨ c = 507
/-- one STEP of the path, as a word -/
theorem q_stepWord {u : Nat} {a : Int} {Q : Int → GS → Prop} {k : Nat → Int → GS → Option (Int × GS)} (hd : 2 ≤ d) (h : PaS S l) (hp : isP l) (hu : u < nW l) (ha : a = stA l (u : Int) - 1) (nx : ∀ y S1, WD S1 (wdA l u) → S1.1 500 31 = stA l ((u : Int) + 1) - 1 → S1.1 500 30 = stA l (u : Int) → FC plP S S1 → Ev (fun n => k n y S1) Q) : Ev (fun n => gc (f_X12_step n (d - 1) 0 S [a]) fun x7 S_8 => gv (S_8.1 500 30) fun x10 => gv (S_8.1 500 31) fun x12 => gc (f_X12_wordOf n (d - 1) 0 S_8 [x10, x12]) fun x14 S_15 => k n x14 S_15) Q := by
  have st := stA_next hu
  obtain ⟨A, hA⟩ : ∃ A : Nat, stA l (u : Int) = (A : Int) := ⟨(stA l (u : Int)).toNat, by omega⟩
  rw [hA, Int.toNat_natCast] at st
  have tl := tw_le (l.drop A)
  rw [List.length_drop] at tl
  refine ev_gc (q_step (d := d - 1) (A := A) (by omega) h (by omega)) (fun _ S1 q => ?_)
  obtain ⟨q1, q2, q3⟩ := q
  refine ev_gv ?_
  refine ev_gv ?_
  rw [q1, q2]
  have hpa : PaS S1 l := pa_fr h q3 (by omega) (fun j => by omega)
  have w1 : (stA l ((u : Int) + 1) - 1).toNat = A + tw (l.drop A) := by omega
  have ew : une ((l.take (A + tw (l.drop A))).drop A) = wdA l u := by
    unfold wdA
    rw [w1, hA, Int.toNat_natCast]
  have pt : ptOK ((l.take (A + tw (l.drop A))).drop A) = true := by
    refine ptOK_drop (ptOK_take l _ hp.2 (fun z => ?_))
    have e47 : l.getD (A + tw (l.drop A)) 0 = 47 := by
      have := tw_47 (l.drop A) (by rw [List.length_drop]; omega)
      rw [List.getD_eq_getElem?_getD, List.getElem?_drop, ← List.getD_eq_getElem?_getD] at this
      exact this
    rw [e47]
    decide
  refine ev_gc (q_wordOf (d := d - 1) (A := A) (E := A + tw (l.drop A)) rfl rfl hpa (by omega) (by have := h.2.1; omega) pt) (fun y S2 q => ?_)
  rw [ew] at q
  have f2 : FC plP S S2 := fc_tr (fc_mono q3 (fun c j z => by omega)) (fc_mono q.2 (fun c j z => by omega))
  exact nx y S2 q.1 (by rw [fc_i q.2 (by omega), q2]; omega) (by rw [fc_i q.2 (by omega), q1, hA]) f2
theorem q_plain {k e : Int} {u : Nat} (hd : 8 ≤ d) (hk : k = (K : Int)) (hK : K < 48) (h : PaS S l) (hp : isP l) (hu : u ≤ nW l) (he : e = stA l (u : Int) - 1) (hv : LK S K V) (hV : TR V ∧ PZL V) : Ev (fun n => f_X12_plain n d 0 S [k, e]) (fun x S1 => x = ldT l V u ∧ FC plP S S1) := by
  subst hk
  have hz := pz_l hV.2
  have lv := hV.1.2.1
  have mono : ∀ (t i : Nat), i + t ≤ nW l → stA l (i : Int) ≤ stA l ((i + t : Nat) : Int) ∧ (t ≠ 0 → stA l (i : Int) < stA l ((i + t : Nat) : Int)) := by
    intro t
    induction t with
    | zero => intro i hi; exact ⟨Int.le_refl _, fun z => absurd rfl z⟩
    | succ t ih =>
      intro i hi
      have a := (stA_next (l := l) (k := i) (by omega)).1
      have b := ih (i + 1) (by omega)
      rw [show (i : Int) + 1 = ((i + 1 : Nat) : Int) by omega] at a
      rw [show i + (t + 1) = i + 1 + t by omega]
      omega
  have lp : ∀ (t i : Nat) (n0 : Int) (S1 : GS), i + t = u → nOK V n0 → FC plP S S1 → Ev (fun n => f_X12_plain n d 5 S1 [(K : Int), e, n0, stA l (i : Int) - 1]) (fun x S2 => x = ldF l V t i n0 ∧ FC plP S S2) := by
    intro t
    induction t with
    | zero =>
      intro i n0 S1 hi hn hf
      have : i = u := by omega
      subst this
      have sr := stA_r (l := l) (i : Int)
      have l9 := h.2.1
      refine ev_up (fun n => e_X12_plain_5) ?_
      unfold b_X12_plain_5
      refine ev_gg (by first | omega | (constructor <;> omega)) ?_
      refine ev_gg (by first | omega | (constructor <;> omega)) ?_
      refine ev_ite (fun _ => ?_) (fun z => by omega)
      exact ev_ret ⟨rfl, hf⟩
    | succ t ih =>
      intro i n0 S1 hi hn hf
      have sr := stA_r (l := l) (i : Int)
      have sr2 := stA_r (l := l) (u : Int)
      have l9 := h.2.1
      have mo := (mono (t + 1) i (by omega)).2 (by omega)
      rw [hi] at mo
      have lV : V.length ≤ 100 := hv.2.1
      refine ev_up (fun n => e_X12_plain_5) ?_
      unfold b_X12_plain_5
      refine ev_gg (by first | omega | (constructor <;> omega)) ?_
      refine ev_gg (by first | omega | (constructor <;> omega)) ?_
      refine ev_ite (fun z => by omega) (fun _ => ?_)
      refine ev_gg (by rcases hn with z | z <;> constructor <;> omega) ?_
      refine ev_ite (fun z => ?_) (fun z => ?_)
      · refine ev_ret ⟨?_, hf⟩
        rw [z, ldF_no]
      · obtain ⟨g, rfl⟩ : ∃ g : Nat, n0 = (g : Int) := by
          rcases hn with q | q
          · exact absurd q z
          · exact ⟨n0.toNat, by omega⟩
        have hg : g < V.length := by rcases hn with q | q <;> omega
        refine ev_gg (by first | omega | (constructor <;> omega)) ?_
        refine q_stepWord (u := i) (by omega) (pa_fr h hf (by omega) (fun j => by omega)) hp (by omega) rfl (fun y S2 w2 e31 e30 f2 => ?_)
        have f3 : FC plP S S2 := fc_tr hf f2
        refine ev_gcr (q_stepped (d := d - 1) (K := K) (G := g) (by omega) rfl hK rfl (Or.inl rfl) (lk_fr hv f3 (fun j _ _ => by omega) (by omega)) hV.1.1 hV.2 hg w2) ?_
        rw [if_pos rfl]
        refine ev_gv ?_
        rw [e31, show (i : Int) + 1 = ((i + 1 : Nat) : Int) by omega]
        refine ev_mono (ih (i + 1) (stpT V (g : Int) (wdA l i)) S2 (by omega) (stpT_r hV.1.1 hz hn _) f3) (fun x S4 q => ⟨?_, q.2⟩)
        rw [q.1]
        show _ = (if (g : Int) = -1 then -1 else ldF l V t (i + 1) (stpT V (g : Int) (wdA l i)))
        rw [if_neg z]
  refine ev_up (fun n => e_X12_plain_0) ?_
  unfold b_X12_plain_0
  have := lp u 0 0 S (by omega) (Or.inr (by omega)) fc_rf
  rw [show stA l ((0 : Nat) : Int) - 1 = 0 by have := stA_0 hp; rw [show ((0 : Nat) : Int) = 0 from rfl, this]; rfl] at this
  unfold ldT
  rw [Nat.min_eq_left hu]
  exact this
/-- where the last STEP begins -/
theorem q_lastStep (h : PaS S l) (hp : isP l) (hl : l ≠ []) : Rd (fun n => f_X12_lastStep n d 0 S []) (stA l ((nW l - 1 : Nat) : Int) - 1) S := by
  have n1 := nW_pos hp hl
  obtain ⟨p1, p2, p3, p4⟩ := h
  have st := stA_next (l := l) (k := nW l - 1) (by omega)
  obtain ⟨A, hA⟩ : ∃ A : Nat, stA l ((nW l - 1 : Nat) : Int) = (A : Int) := ⟨(stA l ((nW l - 1 : Nat) : Int)).toNat, by omega⟩
  rw [hA, Int.toNat_natCast, stA_hi (k := ((nW l - 1 : Nat) : Int) + 1) (by omega)] at st
  rw [hA]
  have ne : ∀ j, A ≤ j → j < l.length → l.getD j 0 ≠ 47 := fun j j1 j2 => by
    have := tw_ne (l.drop A) (j - A) (by omega)
    rw [List.getD_eq_getElem?_getD, List.getElem?_drop, ← List.getD_eq_getElem?_getD, show A + (j - A) = j by omega] at this
    exact this
  have lp : ∀ (t u : Nat), A - 1 + t = u → u < l.length → Rd (fun n => f_X12_lastStep n d 7 S [(u : Int)]) ((A : Int) - 1) S := by
    intro t
    induction t with
    | zero =>
      intro u hu hl
      refine ev_up (fun n => e_X12_lastStep_7) ?_
      unfold b_X12_lastStep_7
      refine ev_gg (by first | omega | (constructor <;> omega)) ?_
      refine ev_gv ?_
      rw [Int.toNat_natCast, p3 u hl, ← hu, Nat.add_zero, st.2.1]
      refine ev_gg (by decide) ?_
      refine ev_ite (fun _ => ?_) (fun z => by omega)
      exact ev_ret ⟨by omega, rfl⟩
    | succ t ih =>
      intro u hu hl
      have r0 := p4 _ (getD_in (q := l) (t := u) hl)
      have := ne u (by omega) hl
      refine ev_up (fun n => e_X12_lastStep_7) ?_
      unfold b_X12_lastStep_7
      refine ev_gg (by first | omega | (constructor <;> omega)) ?_
      refine ev_gv ?_
      rw [Int.toNat_natCast, p3 u hl]
      refine ev_gg (by first | omega | (constructor <;> omega)) ?_
      refine ev_ite (fun z => by omega) (fun _ => ?_)
      refine ev_gv ?_
      rw [show (u : Int) + (-1) = ((u - 1 : Nat) : Int) by omega]
      exact ih (u - 1) (by omega) (by omega)
  refine ev_up (fun n => e_X12_lastStep_0) ?_
  unfold b_X12_lastStep_0
  refine ev_gv ?_
  refine ev_gv ?_
  rw [p1, show (l.length : Int) - 1 = ((l.length - 1 : Nat) : Int) by omega]
  exact lp (l.length - 1 - (A - 1)) (l.length - 1) (by omega) (by omega)
end RPL1
