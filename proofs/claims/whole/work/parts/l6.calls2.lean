/-! THE REFERENCE's calls: node, tell, write, paper, quarrel, sum -/
def ppN (pp : List Int) : Nat → Nat → Int → Int
  | 0, _, x => x
  | n + 1, p, x => ppN pp n (p + 1) (256 * x + pp.getD p 0)
theorem atD_hd {l : List Int} : atD l 0 = hdI l := by
  have := atD_drop (l := l) (i := 0)
  rw [List.drop_zero] at this
  exact this
theorem tI_n {V : List ND} {i : Nat} (h : i < V.length) : tI V (i : Int) = nt V i := by
  unfold tI
  rw [if_pos (by omega), Int.toNat_natCast]
theorem nb_ne {t : List Int} {p : Int} (h : NbOK t p) : t ≠ [] := by
  rcases h with ⟨a, _⟩ | ⟨g, F, a, _, l1, _⟩
  · rw [a]; decide
  · rw [a]
    intro e
    have := congrArg List.length e
    rw [List.length_append, List.length_nil] at this
    omega
theorem dp_13 {T : List ND} (h : ∀ r, dpS r T ≤ 12) : dpS 100 T = dpS 13 T := dp_fuel 13 T (by have := h 13; omega) 100 (by decide)
section CA2
variable {S0 S S1 : GS} {T0 : List ND} {Ds : List (List ND)} {pg pp : List Int} {r : Int} {L : List Nat} {Q : List (List Int)} {C : List (Int × Int)} {d : Nat}
theorem r_node {a i w : Int} (hd : 5 ≤ d) (ha : inr a) (hi : inr i) (hw : inr w) (h : RfS S0 T0 Ds pg pp r L Q C S) : Ev (fun n => f_X12_node n d 0 S [a, i, w]) (fun x S1 => (if hasD Ds a ∧ 0 ≤ i ∧ i < ((atD' Ds a).length : Int) then (if 0 ≤ w ∧ w ≤ 9 then x = abI (atD' Ds a) i.toNat w ∧ S1.1 500 0 = 0 else S1.1 500 0 = 2) else S1.1 500 0 = 1) ∧ RfS S0 T0 Ds pg pp r L Q C S1) := by
  refine ev_up (fun n => e_X12_node_0) ?_
  unfold b_X12_node_0
  refine ev_gg (by first | omega | (constructor <;> omega)) ?_
  refine ev_gcr (r_isNode (d := d - 1) (by omega) ha hi h) ?_
  refine fa_c rfl h (fun c S1 t1 f1 h1 => ?_) (fun c S1 t1 f1 h1 => ?_)
  · obtain ⟨i, rfl⟩ : ∃ j : Nat, i = (j : Int) := ⟨i.toNat, by omega⟩
    refine ev_gg (by decide) ?_
    refine ev_ite (fun z => by omega) (fun _ => ?_)
    refine ev_gcr (q_in (d := d - 1) ⟨hw, by decide, by decide⟩) ?_
    refine fa_c (p := 0 ≤ w ∧ w ≤ 9) rfl h1 (fun c2 S2 t2 f2 h2 => ?_) (fun c2 S2 t2 f2 h2 => ?_)
    · obtain ⟨e1, e2, e3, e4⟩ := r_at h2 c.1
      refine ev_gg (by decide) ?_
      refine ev_ite (fun _ => ?_) (fun z => by omega)
      simp only [if_pos c, if_pos c2, Int.toNat_natCast]
      generalize atD' Ds a = V at c e3 e4 ⊢
      have il : i < V.length := by omega
      have hK : a.toNat < 48 := by omega
      have V1 := e4.1.1
      have hz := pz_l V1.2
      have nr := e3.2.2.2 _ (nd_mem il)
      have vn := (e4.1.2.1 _ (nd_mem il)).2
      have kr : 0 ≤ nk V i ∧ nk V i ≤ 5 := ⟨nr.1, nr.2.1⟩
      have kdf : nk V i = (V.getD i nd0).1 := rfl
      have ti := tI_n il
      refine ev_gcr (q_kindL (d := d - 1) (K := a.toNat) (I := i) (by omega) e1 hK rfl e3 il) ?_
      refine ev_gg (by first | omega | (constructor <;> omega)) ?_
      unfold abI
      have ret : ∀ x y : Int, x = y → Ev (fun _ => some (x, S2)) (fun x S1 => (x = y ∧ S1.1 500 0 = 0) ∧ RfS S0 T0 Ds pg pp r L Q C S1) := fun x y e => ev_ret ⟨⟨e, t2⟩, h2⟩
      refine ev_ite (fun z => ?_) (fun z => ?_)
      · simp only [if_pos z]
        exact ret _ _ rfl
      simp only [if_neg z]
      refine ev_ite (fun z1 => ?_) (fun z1 => ?_)
      · simp only [if_pos z1]
        refine ev_gcr (q_deepOf (d := d - 1) (K := a.toNat) (I := i) (by omega) e1 hK rfl e3 V1 il) ?_
        refine ret _ _ ?_
        rw [dpM_S V1 e3.2.1 il, dpF_S V1.2 V1.1.1 13 i il]
        exact dp_13 (doc_sg e4 il).2.1
      simp only [if_neg z1]
      refine ev_ite (fun z2 => ?_) (fun z2 => ?_)
      · simp only [if_pos z2]
        refine ev_gcr (q_sizeL (d := d - 1) (K := a.toNat) (I := i) (by omega) e1 hK rfl e3 il) ?_
        exact ret _ _ rfl
      simp only [if_neg z2]
      refine ev_ite (fun z3 => ?_) (fun z3 => ?_)
      · simp only [if_pos z3]
        have eln : lnI V (i : Int) = if nk V i = 3 then ((nt V i).length : Int) else if 4 ≤ nk V i then ((kids V i).length : Int) else -1 := by
          unfold lnI
          rw [if_pos (by omega), Int.toNat_natCast]
        simp only [eln]
        refine ev_gg (by first | omega | (constructor <;> omega)) ?_
        refine ev_ite (fun k3 => ?_) (fun k3 => ?_)
        · refine ev_ite (fun k4 => ?_) (fun k4 => ?_)
          · refine ev_gcr (q_manyL (d := d - 1) (K := a.toNat) (I := i) (by omega) e1 hK rfl e3 il) ?_
            exact ret _ _ (by rw [if_neg k4, if_pos (by omega)])
          · refine ev_gcr (q_longL (d := d - 1) (K := a.toNat) (I := i) (by omega) e1 hK rfl e3 il) ?_
            refine ret _ _ ?_
            rw [if_pos (by omega), sgN_t (by omega)]
            rfl
        · exact ret _ _ (by rw [if_neg (by omega), if_neg (by omega)])
      simp only [if_neg z3]
      refine ev_ite (fun z4 => ?_) (fun z4 => ?_)
      · simp only [if_pos z4]
        refine ev_gg (by first | omega | (constructor <;> omega)) ?_
        refine ev_ite (fun k1 => ?_) (fun k1 => ?_)
        · exact ret _ _ (by rw [if_neg k1])
        · refine ev_gcr (q_isL (d := d - 1) (K := a.toNat) (I := i) (by omega) e1 hK rfl e3 il) ?_
          refine ret _ _ ?_
          rw [if_pos (by omega)]
          unfold isN
          rw [if_neg (by omega), if_pos (by omega)]
          rfl
      simp only [if_neg z4]
      have nm : nmI V (i : Int) ↔ nk V i = 2 := by
        unfold nmI
        rw [Int.toNat_natCast]
        exact ⟨fun q => q.2, fun q => ⟨by omega, q⟩⟩
      refine ev_ite (fun z5 => ?_) (fun z5 => ?_)
      · simp only [if_pos z5]
        have ep : pwI V (i : Int) = if nk V i = 2 then np V i else 0 := by
          unfold pwI
          by_cases q : nk V i = 2
          · rw [if_pos (nm.mpr q), if_pos q]
            rfl
          · rw [if_neg (fun y => q (nm.mp y)), if_neg q]
        simp only [ep]
        refine ev_gg (by first | omega | (constructor <;> omega)) ?_
        refine ev_ite (fun k2 => ?_) (fun k2 => ?_)
        · exact ret _ _ (by rw [if_neg k2])
        · refine ev_gcr (q_powL (d := d - 1) (K := a.toNat) (I := i) (by omega) e1 hK rfl e3 il) ?_
          refine ret _ _ ?_
          rw [if_pos (by omega)]
          unfold pwN
          rw [if_pos (by omega)]
          rfl
      simp only [if_neg z5]
      refine ev_ite (fun z6 => ?_) (fun z6 => ?_)
      · simp only [if_pos z6]
        refine ev_gg (by first | omega | (constructor <;> omega)) ?_
        refine ev_ite (fun k2 => ?_) (fun k2 => ?_)
        · refine ret _ _ ?_
          unfold fgI
          rw [if_neg (fun y => k2 (nm.mp y))]
        · refine ev_gcr (q_longL (d := d - 1) (K := a.toNat) (I := i) (by omega) e1 hK rfl e3 il) ?_
          refine ret _ _ ?_
          unfold fgI
          rw [if_pos (nm.mpr (by omega)), ti, atD_hd]
          have x2 : (V.getD i nd0).1 = 2 := by omega
          unfold sgN
          by_cases q : hdI (nt V i) = 45
          · rw [if_pos ⟨x2, q⟩, if_pos q, List.length_tail]
            have := congrArg List.length (hd_cons q)
            rw [List.length_cons, List.length_tail] at this
            show (((nt V i).length - 1 : Nat) : Int) = _
            omega
          · rw [if_neg (fun y => q y.2), if_neg q]
            show ((nt V i).length : Int) = _
            omega
      simp only [if_neg z6]
      refine ev_ite (fun z7 => ?_) (fun z7 => ?_)
      · simp only [if_pos z7]
        refine ev_gg (by first | omega | (constructor <;> omega)) ?_
        refine ev_ite (fun k2 => ?_) (fun k2 => ?_)
        · exact ret _ _ (by rw [if_neg k2])
        · refine ev_gcr (q_isL (d := d - 1) (K := a.toNat) (I := i) (by omega) e1 hK rfl e3 il) ?_
          refine ret _ _ ?_
          have nb : nt V i ≠ [] := by
            rcases vn with q | q | q | q | q
            · omega
            · omega
            · exact nb_ne q.2
            · omega
            · omega
          rw [if_pos (by omega)]
          unfold isN sgI
          rw [if_pos (by omega), ti, atD_hd]
          by_cases q : hdI (nt V i) = 45
          · rw [if_pos (show hdI (V.getD i nd0).2.2.2.1 = 45 from q), if_pos q]
          · rw [if_neg (show ¬ hdI (V.getD i nd0).2.2.2.1 = 45 from q), if_neg q]
            by_cases q2 : hdI (nt V i) = 48
            · rw [if_pos (Or.inl (show hdI (V.getD i nd0).2.2.2.1 = 48 from q2)), if_pos q2]
            · rw [if_neg (fun y => y.elim q2 nb), if_neg q2]
      simp only [if_neg z7]
      refine ev_ite (fun z8 => ?_) (fun z8 => ?_)
      · simp only [if_pos z8]
        refine ev_gcr (q_parentL (d := d - 1) (K := a.toNat) (I := i) (by omega) e1 hK rfl e3 il) ?_
        exact ret _ _ rfl
      · simp only [if_neg z8]
        refine ev_gcr (q_placeL (d := d - 1) (K := a.toNat) (I := i) (by omega) e1 hK rfl e3 il) ?_
        exact ret _ _ rfl
    · refine ev_gg (by decide) ?_
      refine ev_ite (fun z => by omega) (fun _ => ?_)
      refine ev_ret ⟨?_, h2⟩
      rw [if_pos c, if_neg c2]
      exact t2
  · refine ev_gg (by decide) ?_
    refine ev_ite (fun _ => ?_) (fun z => by omega)
    refine ev_ret ⟨?_, h1⟩
    rw [if_neg c]
    exact t1
theorem r_paper {p n : Int} (hd : 1 ≤ d) (hp : inr p) (hn : inr n) (h : RfS S0 T0 Ds pg pp r L Q C S) : Ev (fun m => f_X12_paper m d 0 S [p, n]) (fun x S1 => (if 0 ≤ p ∧ p < (pp.length : Int) then (if 1 ≤ n ∧ n ≤ 7 ∧ n ≤ (pp.length : Int) - p then x = ppN pp n.toNat p.toNat 0 ∧ S1.1 500 0 = 0 else S1.1 500 0 = 2) else S1.1 500 0 = 1) ∧ RfS S0 T0 Ds pg pp r L Q C S1) := by
  have n4 := h.2.2.1.2.1
  have l9 := h.2.2.1.1
  have p45 : ∀ (s : Int) (S2 : GS), 0 ≤ p → p < (pp.length : Int) → RfS S0 T0 Ds pg pp r L Q C S2 → s = (if 1 ≤ n ∧ n ≤ 7 ∧ n ≤ (pp.length : Int) - p then 1 else 0) → Ev (fun m => f_X12_paper m d 45 S2 [p, n, s]) (fun x S1 => (if 0 ≤ p ∧ p < (pp.length : Int) then (if 1 ≤ n ∧ n ≤ 7 ∧ n ≤ (pp.length : Int) - p then x = ppN pp n.toNat p.toNat 0 ∧ S1.1 500 0 = 0 else S1.1 500 0 = 2) else S1.1 500 0 = 1) ∧ RfS S0 T0 Ds pg pp r L Q C S1) := by
    intro s S2 p0 p1 h2 hs
    simp only [if_pos (show 0 ≤ p ∧ p < (pp.length : Int) from ⟨p0, p1⟩)]
    refine ev_up (fun n => e_X12_paper_45) ?_
    unfold b_X12_paper_45
    refine ev_gg (by first | omega | (constructor <;> omega)) ?_
    refine fa_c hs h2 (fun c S3 t3 f3 h3 => ?_) (fun c S3 t3 f3 h3 => ?_)
    · obtain ⟨p, rfl⟩ : ∃ j : Nat, p = (j : Int) := ⟨p.toNat, by omega⟩
      obtain ⟨n, rfl⟩ : ∃ j : Nat, n = (j : Int) := ⟨n.toNat, by omega⟩
      refine ev_gg (by decide) ?_
      refine ev_ite (fun _ => ?_) (fun z => by omega)
      simp only [if_pos c, Int.toNat_natCast]
      have lp : ∀ (t u : Nat) (x : Int), u + t = n → Ev (fun m => f_X12_paper m d 59 S3 [(p : Int), (n : Int), x, (u : Int)]) (fun y S1 => (y = ppN pp t (p + u) x ∧ S1.1 500 0 = 0) ∧ RfS S0 T0 Ds pg pp r L Q C S1) := by
        intro t
        induction t with
        | zero =>
          intro u x hu
          refine ev_up (fun n => e_X12_paper_59) ?_
          unfold b_X12_paper_59
          refine ev_gg (by first | omega | (constructor <;> omega)) ?_
          refine ev_gg (by first | omega | (constructor <;> omega)) ?_
          refine ev_ite (fun _ => ?_) (fun z => by omega)
          exact ev_ret ⟨⟨rfl, t3⟩, h3⟩
        | succ t ih =>
          intro u x hu
          have rg := h3.2.2.1.2.2.2 _ (getD_in (q := pp) (t := p + u) (by omega))
          refine ev_up (fun n => e_X12_paper_59) ?_
          unfold b_X12_paper_59
          refine ev_gg (by first | omega | (constructor <;> omega)) ?_
          refine ev_gg (by first | omega | (constructor <;> omega)) ?_
          refine ev_ite (fun z => by omega) (fun _ => ?_)
          refine ev_gv ?_
          refine ev_gv ?_
          refine ev_gg (by first | omega | (constructor <;> omega)) ?_
          refine ev_gv ?_
          rw [show ((p : Int) + (u : Int)).toNat = p + u by omega, h3.2.2.1.2.2.1 (p + u) (by omega)]
          refine ev_gg (by first | omega | (constructor <;> omega)) ?_
          refine ev_gv ?_
          refine ev_gv ?_
          rw [show (u : Int) + 1 = ((u + 1 : Nat) : Int) by omega]
          exact ih (u + 1) _ (by omega)
      exact lp n 0 0 (by omega)
    · refine ev_gg (by decide) ?_
      refine ev_ite (fun z => by omega) (fun _ => ?_)
      refine ev_ret ⟨?_, h3⟩
      rw [if_neg c]
      exact t3
  refine ev_up (fun n => e_X12_paper_0) ?_
  unfold b_X12_paper_0
  refine ev_gv ?_
  refine ev_gv ?_
  refine ev_gg (by first | omega | (constructor <;> omega)) ?_
  rw [l9]
  refine ev_gcr (q_in (d := d - 1) ⟨hp, by decide, by constructor <;> omega⟩) ?_
  refine fa_c (p := 0 ≤ p ∧ p ≤ (pp.length : Int) - 1) rfl h (fun c S1 t1 f1 h1 => ?_) (fun c S1 t1 f1 h1 => ?_)
  · refine ev_gg (by decide) ?_
    refine ev_ite (fun z => by omega) (fun _ => ?_)
    refine ev_gcr (q_in (d := d - 1) ⟨hn, by decide, by decide⟩) ?_
    by_cases c2 : 1 ≤ n ∧ n ≤ 7
    · rw [if_pos c2]
      refine ev_gg (by decide) ?_
      refine ev_ite (fun z => by omega) (fun _ => ?_)
      refine ev_gv ?_
      refine ev_gv ?_
      rw [h1.2.2.1.1]
      refine ev_gg (by first | omega | (constructor <;> omega)) ?_
      refine ev_gg (by first | omega | (constructor <;> omega)) ?_
      refine ev_ite (fun z => ?_) (fun z => ?_)
      · exact p45 0 S1 c.1 (by omega) h1 (by rw [if_neg (by omega)])
      · exact p45 1 S1 c.1 (by omega) h1 (by rw [if_pos (by omega)])
    · rw [if_neg c2]
      refine ev_gg (by decide) ?_
      refine ev_ite (fun _ => ?_) (fun z => by omega)
      exact p45 0 S1 c.1 (by omega) h1 (by rw [if_neg (by omega)])
  · refine ev_gg (by decide) ?_
    refine ev_ite (fun _ => ?_) (fun z => by omega)
    refine ev_ret ⟨?_, h1⟩
    rw [if_neg (by omega)]
    exact t1
theorem r_quarrel {k : Int} (hd : 2 ≤ d) (hk : inr k) (h : RfS S0 T0 Ds pg pp r L Q C S) : Ev (fun n => f_X12_quarrel n d 0 S [k]) (fun x S1 => if 0 ≤ k ∧ k < (Q.length : Int) then x = ((Q.getD k.toNat []).length : Int) ∧ S1.1 500 0 = 0 ∧ RfS S0 T0 Ds pg (Q.getD k.toNat []) r L Q C S1 else S1.1 500 0 = 1 ∧ RfS S0 T0 Ds pg pp r L Q C S1) := by
  have n4 := h.2.2.2.2.2.1.2.1
  refine ev_up (fun n => e_X12_quarrel_0) ?_
  unfold b_X12_quarrel_0
  refine ev_gv ?_
  refine ev_gv ?_
  refine ev_gg (by first | omega | (constructor <;> omega)) ?_
  rw [h.2.2.2.2.2.1.1]
  refine ev_gcr (q_in (d := d - 1) ⟨hk, by decide, by constructor <;> omega⟩) ?_
  refine fa_c (p := 0 ≤ k ∧ k ≤ (Q.length : Int) - 1) rfl h (fun c S1 t1 f1 h1 => ?_) (fun c S1 t1 f1 h1 => ?_)
  · obtain ⟨k, rfl⟩ : ∃ j : Nat, k = (j : Int) := ⟨k.toNat, by omega⟩
    have kl : k < Q.length := by omega
    refine ev_gg (by decide) ?_
    refine ev_ite (fun _ => ?_) (fun z => by omega)
    refine ev_gg (by decide) ?_
    refine ev_gv ?_
    refine ev_gg (by first | omega | (constructor <;> omega)) ?_
    refine ev_gv ?_
    simp only [if_pos (show 0 ≤ (k : Int) ∧ (k : Int) < (Q.length : Int) by omega), Int.toNat_natCast]
    obtain ⟨Q1, Q2, Q3, Q4, Q5⟩ := h1.2.2.2.2.2.1
    have a4 := Q4 k (by omega) (by omega)
    have b4 := Q4 (k + 1) (by omega) (by omega)
    have ek : Q.take (k + 1) = Q.take k ++ [Q.getD k []] := by
      have e := split_at (z := ([] : List Int)) kl
      conv => lhs; rw [e]
      rw [List.take_append, List.length_take, show k + 1 - min k Q.length = 1 by omega, List.take_of_length_le (by rw [List.length_take]; omega)]
      rfl
    have eQ : Q.flatten = (Q.take k).flatten ++ (Q.getD k [] ++ (Q.drop (k + 1)).flatten) := by
      have e := split_at (z := ([] : List Int)) kl
      conv => lhs; rw [e]
      rw [List.flatten_append, List.flatten_cons]
    generalize hq : Q.getD k [] = q at *
    generalize hA : (Q.take k).flatten = A at *
    rw [ek, List.flatten_append, hA] at b4
    simp only [List.flatten_cons, List.flatten_nil, List.append_nil, List.length_append] at b4
    have mq : q ∈ Q := by
      rw [← hq, List.getD_eq_getElem?_getD, List.getElem?_eq_getElem kl]
      exact List.getElem_mem kl
    have q3 := Q3 q mq
    have lQ : Q.flatten.length ≤ 60000 := by
      have : ∀ (E : List (List Int)), (∀ e ∈ E, e.length ≤ 300) → E.flatten.length ≤ 300 * E.length := by
        intro E
        induction E with
        | nil => intro _; exact Nat.le_refl _
        | cons e E ih =>
          intro he
          have a := he e List.mem_cons_self
          have b := ih (fun x hx => he x (List.mem_cons_of_mem _ hx))
          rw [List.flatten_cons, List.length_append, List.length_cons]
          omega
      have := this Q (fun e he => (Q3 e he).1)
      omega
    have lA : A.length + q.length ≤ Q.flatten.length := by
      rw [eQ, List.length_append, List.length_append]
      omega
    have cell : ∀ j, j < q.length → S1.1 536 (A.length + j) = q.getD j 0 := fun j hj => by
      rw [Q5 (A.length + j) (by omega), eQ, List.getD_eq_getElem?_getD, List.getElem?_append_right (by omega), Nat.add_sub_cancel_left, List.getElem?_append_left hj, ← List.getD_eq_getElem?_getD]
    rw [show (0 : Int).toNat = 0 from rfl, gI_c (show (535 : Nat) ≠ 517 by decide), a4]
    have o0 : OuS (gI S1 517 0 0) 0 [] := ⟨gI_a, by decide, fun i hi => absurd hi (Nat.not_lt_zero i), fun x hx => by cases hx⟩
    have lp : ∀ (w : List Int) (u : Nat) (v : List Int) (S2 : GS), q.drop u = w → u ≤ q.length → v = q.take u → OuS S2 0 v → FC (ouP 0) S1 S2 → Ev (fun n => f_X12_quarrel n d 35 S2 [(k : Int), ((A.length + u : Nat) : Int)]) (fun x S1 => x = (q.length : Int) ∧ S1.1 500 0 = 0 ∧ RfS S0 T0 Ds pg q r L Q C S1) := by
      intro w
      induction w with
      | nil =>
        intro u v S2 hu hul hv ho hf
        have := drop_nl hu
        have hvq : v = q := by rw [hv, List.take_of_length_le (by omega)]
        subst hvq
        have h2 := rf_sc h1 hf (fun c j z => by omega)
        refine ev_up (fun n => e_X12_quarrel_35) ?_
        unfold b_X12_quarrel_35
        refine ev_gv ?_
        refine ev_gg (by first | omega | (constructor <;> omega)) ?_
        refine ev_gv ?_
        rw [show ((k : Int) + 1).toNat = k + 1 by omega, fc_i hf (by omega), b4]
        refine ev_gg (by first | omega | (constructor <;> omega)) ?_
        refine ev_gg (by first | omega | (constructor <;> omega)) ?_
        refine ev_ite (fun _ => ?_) (fun z => by omega)
        refine ev_gg (by first | omega | (constructor <;> omega)) ?_
        refine ev_gc (r_onPaper (d := d - 1) h2 ho) (fun x S3 q3 => ?_)
        exact ev_ret ⟨q3.1, by rw [q3.2.1, fc_i hf (by omega)]; exact t1, q3.2.2⟩
      | cons y w ih =>
        intro u v S2 hu hul hv ho hf
        obtain ⟨lu, g1, r1⟩ := drop_hd hu
        have yr := q3.2 y (by rw [← g1]; exact getD_in lu)
        have vl : v.length = u := by rw [hv, List.length_take]; omega
        refine ev_up (fun n => e_X12_quarrel_35) ?_
        unfold b_X12_quarrel_35
        refine ev_gv ?_
        refine ev_gg (by first | omega | (constructor <;> omega)) ?_
        refine ev_gv ?_
        rw [show ((k : Int) + 1).toNat = k + 1 by omega, fc_i hf (by omega), b4]
        refine ev_gg (by first | omega | (constructor <;> omega)) ?_
        refine ev_gg (by first | omega | (constructor <;> omega)) ?_
        refine ev_ite (fun z => by omega) (fun _ => ?_)
        refine ev_gg (by first | omega | (constructor <;> omega)) ?_
        refine ev_gv ?_
        rw [Int.toNat_natCast, fc_i hf (by omega), cell u lu, g1]
        refine ev_gg (by first | omega | (constructor <;> omega)) ?_
        refine pu_c rfl (by decide) ho yr (by omega) (fun z S3 h3 f3 => ?_)
        refine ev_gv ?_
        rw [show ((A.length + u : Nat) : Int) + 1 = ((A.length + (u + 1) : Nat) : Int) by omega]
        refine ih (u + 1) _ S3 r1 (by omega) ?_ h3 (fc_tr hf f3)
        rw [hv, List.take_add_one, List.getElem?_eq_getElem lu]
        have : q[u] = y := by rw [← g1, List.getD_eq_getElem?_getD, List.getElem?_eq_getElem lu]; rfl
        rw [this]
        rfl
    have := lp q 0 [] _ rfl (Nat.zero_le _) rfl o0 (fc_gI (Or.inl ⟨rfl, rfl⟩))
    rw [Nat.add_zero] at this
    exact this
  · refine ev_gg (by decide) ?_
    refine ev_ite (fun z => by omega) (fun _ => ?_)
    refine ev_ret ?_
    rw [if_neg (by omega)]
    exact ⟨t1, h1⟩
end CA2
