/-! THE REFERENCE's lay: all ORDERS -/
def laF (U : List ND) : List Nat → Nat → List ND → Nat ⊕ List ND
  | [], _, V => .inr V
  | c :: K, n, V => match loS U c V with
    | none => .inl n
    | some T => laF U K (n + 1) T
theorem laF_c {U : List ND} {c : Nat} {K : List Nat} {n : Nat} {V : List ND} : laF U (c :: K) n V = match loS U c V with
    | none => .inl n
    | some T => laF U K (n + 1) T := rfl
theorem lyF_la {U : List ND} {bk : Option (List (List ND))} : ∀ (K : List Nat) (n : Nat) (V : List ND), lyF U false K n V bk = match laF U K n V with
    | .inl m => .inl m
    | .inr T => .inr (T, bk)
  | [], n, V => rfl
  | c :: K, n, V => by
    rw [lyF_c, laF_c]
    unfold loS
    cases lyS U c V with
    | none => rfl
    | some T =>
      dsimp only
      by_cases cp : pOK T
      · rw [if_pos cp, if_pos cp, if_neg (by decide)]
        exact lyF_la K (n + 1) T
      · rw [if_neg cp, if_neg cp]
section RLB
variable {S : GS} {d K : Nat} {U V : List ND}
theorem q_lays {a m k : Int} {A M : Nat} (hd : 17 ≤ d) (hk : k = (K : Int)) (hK : K < 42) (ha : a = (A : Int)) (hA : A < 42) (hm : m = (M : Int)) (hM : M ≤ (kids U 0).length) (h : LK S K U) (hU : DOC U) (hv : LK S A V) (hV : DOC V) : Ev (fun n => f_X12_lays n d 0 S [a, k, m]) (fun x S1 => (match laF U ((kids U 0).take M) 0 V with
    | .inl n => x = (n : Int) ∧ n < M
    | .inr T => x = -1 ∧ LK S1 42 T ∧ DOC T ∧ (S.2.1 500 5 = false → S1.2.1 500 5 = false)) ∧ FC dsP S S1) := by
  subst ha hm hk
  have l1 := hU.1.1.1.2.1
  have l100 := h.2.1
  have kl := kids_100 hU.1.1.1.1 (pz_l hU.1.1.2) l100 (g := 0) (by omega)
  have lp : ∀ (v i : Nat) (S1 : GS) (T : List ND), i + v = M → LK S1 42 T → DOC T → (S.2.1 500 5 = false → S1.2.1 500 5 = false) → FC dsP S S1 → Ev (fun n => f_X12_lays n d 10 S1 [(K : Int), (M : Int), (i : Int)]) (fun x S1 => (match laF U (((kids U 0).take M).drop i) i T with
    | .inl n => x = (n : Int) ∧ n < M
    | .inr T => x = -1 ∧ LK S1 42 T ∧ DOC T ∧ (S.2.1 500 5 = false → S1.2.1 500 5 = false)) ∧ FC dsP S S1) := by
    intro v
    induction v with
    | zero =>
      intro i S1 T hi t1 dT h5 f1
      have e : ((kids U 0).take M).drop i = [] := by
        rw [List.drop_eq_nil_iff, List.length_take]
        omega
      rw [e]
      refine ev_up (fun n => e_X12_lays_10) ?_
      unfold b_X12_lays_10
      refine ev_gg (by first | omega | (constructor <;> omega)) ?_
      refine ev_gg (by first | omega | (constructor <;> omega)) ?_
      refine ev_ite (fun _ => ?_) (fun z => by omega)
      exact ev_ret ⟨⟨rfl, t1, dT, h5⟩, f1⟩
    | succ v ih =>
      intro i S1 T hi t1 dT h5 f1
      have il : i < (kids U 0).length := by omega
      have e : ((kids U 0).take M).drop i = (kids U 0).getD i 0 :: ((kids U 0).take M).drop (i + 1) := by
        have il2 : i < ((kids U 0).take M).length := by rw [List.length_take]; omega
        rw [List.drop_eq_getElem_cons il2, List.getElem_take, List.getD_eq_getElem?_getD, List.getElem?_eq_getElem il]
        rfl
      have h1 := lk_fr h f1 (fun j _ _ => by omega) (by omega)
      have eg : (kids U 0).getD i (0 + nz U 0) = (kids U 0).getD i 0 := by
        rw [List.getD_eq_getElem?_getD, List.getD_eq_getElem?_getD, List.getElem?_eq_getElem il]
        rfl
      have cl : (kids U 0).getD i 0 < U.length := kids_in hU.1.1.1.1 (pz_l hU.1.1.2) (g := 0) (by omega) (by
        rw [List.getD_eq_getElem?_getD, List.getElem?_eq_getElem il]
        exact List.getElem_mem il)
      rw [e, laF_c]
      refine ev_up (fun n => e_X12_lays_10) ?_
      unfold b_X12_lays_10
      refine ev_gg (by first | omega | (constructor <;> omega)) ?_
      refine ev_gg (by first | omega | (constructor <;> omega)) ?_
      refine ev_ite (fun z => by omega) (fun _ => ?_)
      refine ev_gg (by first | omega | (constructor <;> omega)) ?_
      refine ev_gcr (q_childAt (d := d - 1) (K := K) (G := 0) (P := i) (V := U) (by omega) rfl (by omega) rfl rfl h1 hU.1.1.1.1 hU.1.1.2 (by omega) (by omega)) ?_
      rw [eg]
      refine ev_gc (q_does (d := d - 1) (V := T) (by omega) hK h1 hU cl t1 dT) (fun x S2 q2 => ?_)
      obtain ⟨q2, f2⟩ := q2
      have f02 : FC dsP S S2 := fc_tr f1 f2
      cases hL : loS U ((kids U 0).getD i 0) T with
      | none =>
        rw [hL] at q2
        obtain ⟨xe, v2⟩ := q2
        subst xe
        refine ev_gg (by decide) ?_
        refine ev_ite (fun z => by omega) (fun _ => ?_)
        exact ev_ret ⟨⟨rfl, by omega⟩, f02⟩
      | some T2 =>
        rw [hL] at q2
        obtain ⟨xe, v2, d2, h52⟩ := q2
        subst xe
        refine ev_gg (by decide) ?_
        refine ev_ite (fun _ => ?_) (fun z => by omega)
        refine ev_gv ?_
        rw [show (i : Int) + 1 = ((i + 1 : Nat) : Int) by omega]
        exact ih (i + 1) S2 T2 (by omega) v2 d2 (fun z => h52 (h5 z)) f02
  have vl := hv.2.1
  refine ev_up (fun n => e_X12_lays_0) ?_
  unfold b_X12_lays_0
  refine ev_gg (by first | omega | (constructor <;> omega)) ?_
  refine ev_gc (q_becomes (d := d - 1) (K := 42) (F := A) (m := V.length) (by omega) rfl (by decide) rfl (by omega) (by omega) hv.1 (by omega)) (fun _ S2 q2 => ?_)
  obtain ⟨b1, b2, f2⟩ := q2
  exact lp M 0 S2 V (by omega) (lk_cp hv b1 b2) hV (fun z => (fc_b f2 (by omega)).trans z) (fc_mono f2 (fun c j z => ds_be z))
end RLB
section RLC
variable {S0 S : GS} {T0 : List ND} {Ds : List (List ND)} {pg pp : List Int} {r : Int} {L : List Nat} {Q : List (List Int)} {C : List (Int × Int)} {d : Nat}
theorem r_lay {a b : Int} (hd : 19 ≤ d) (ha : inr a) (hb : inr b) (h : RfS S0 T0 Ds pg pp r L Q C S) : Ev (fun n => f_X12_lay n d 0 S [a, b]) (fun x S1 => if hasD Ds a ∧ hasD Ds b then (if rk (atD' Ds b) = 4 then (match laF (atD' Ds b) (kids (atD' Ds b) 0) 0 (atD' Ds a) with
    | .inl n => x = -2 - (n : Int) ∧ S1.1 500 0 = 0 ∧ RfS S0 T0 Ds pg pp r L Q C S1
    | .inr T => if Ds.length < 40 then x = (Ds.length : Int) ∧ S1.1 500 0 = 0 ∧ DOC T ∧ RfS S0 T0 (Ds ++ [T]) pg pp r L Q C S1 else S1.1 500 0 = 2 ∧ RfS S0 T0 Ds pg pp r L Q C S1) else x = -1 ∧ S1.1 500 0 = 0 ∧ RfS S0 T0 Ds pg pp r L Q C S1) else S1.1 500 0 = 1 ∧ RfS S0 T0 Ds pg pp r L Q C S1) := by
  have n4 := h.1.2.1
  have p22 : ∀ s : Int, s = (if hasD Ds a ∧ hasD Ds b then 1 else 0) → Ev (fun n => f_X12_lay n d 22 S [a, b, s]) (fun x S1 => if hasD Ds a ∧ hasD Ds b then (if rk (atD' Ds b) = 4 then (match laF (atD' Ds b) (kids (atD' Ds b) 0) 0 (atD' Ds a) with
    | .inl n => x = -2 - (n : Int) ∧ S1.1 500 0 = 0 ∧ RfS S0 T0 Ds pg pp r L Q C S1
    | .inr T => if Ds.length < 40 then x = (Ds.length : Int) ∧ S1.1 500 0 = 0 ∧ DOC T ∧ RfS S0 T0 (Ds ++ [T]) pg pp r L Q C S1 else S1.1 500 0 = 2 ∧ RfS S0 T0 Ds pg pp r L Q C S1) else x = -1 ∧ S1.1 500 0 = 0 ∧ RfS S0 T0 Ds pg pp r L Q C S1) else S1.1 500 0 = 1 ∧ RfS S0 T0 Ds pg pp r L Q C S1) := by
    intro s hs
    refine ev_up (fun n => e_X12_lay_22) ?_
    unfold b_X12_lay_22
    refine ev_gg (by first | omega | (constructor <;> omega)) ?_
    refine fa_c hs h (fun c S1 t1 f1 h1 => ?_) (fun c S1 t1 f1 h1 => ?_)
    · refine ev_gg (by decide) ?_
      refine ev_ite (fun _ => ?_) (fun z => by omega)
      simp only [if_pos c]
      obtain ⟨e1, e2, e3, e4⟩ := r_at h1 c.1
      obtain ⟨g1, g2, g3, g4⟩ := r_at h1 c.2
      have lb := g4.1.1.1.2.1
      have l100 := g4.2.2.1
      have nr := g3.2.2.2 _ (nd_mem (i := 0) (by omega))
      have nr1 : 0 ≤ nk (atD' Ds b) 0 ∧ nk (atD' Ds b) 0 ≤ 5 := ⟨nr.1, nr.2.1⟩
      refine ev_gcr (q_kindL (d := d - 1) (K := b.toNat) (I := 0) (V := atD' Ds b) (by omega) g1 (by omega) rfl g3 (by omega)) ?_
      refine ev_gg (by first | omega | (constructor <;> omega)) ?_
      have rk0 : rk (atD' Ds b) = nk (atD' Ds b) 0 := rfl
      refine ev_ite (fun z => ?_) (fun z => ?_)
      · simp only [if_pos (show rk (atD' Ds b) = 4 from z)]
        refine ev_gcr (q_manyL (d := d - 1) (K := b.toNat) (I := 0) (V := atD' Ds b) (by omega) g1 (by omega) rfl g3 (by omega)) ?_
        have kl := kids_100 g4.1.1.1.1 (pz_l g4.1.1.2) l100 (g := 0) (by omega)
        refine ev_gc (q_lays (d := d - 1) (K := b.toNat) (A := a.toNat) (M := (kids (atD' Ds b) 0).length) (U := atD' Ds b) (V := atD' Ds a) (by omega) g1 (by omega) e1 (by omega) rfl (Nat.le_refl _) g3 g4 e3 e4) (fun x S2 q2 => ?_)
        obtain ⟨q2, f2⟩ := q2
        rw [List.take_length] at q2
        have h2 := rf_sc h1 f2 (fun c j z => by omega)
        have t2 : S2.1 500 0 = 0 := by rw [fc_i f2 (by omega)]; exact t1
        cases hL : laF (atD' Ds b) (kids (atD' Ds b) 0) 0 (atD' Ds a) with
        | inl n =>
          rw [hL] at q2
          obtain ⟨xe, xl⟩ := q2
          subst xe
          refine ev_gg (by first | omega | (constructor <;> omega)) ?_
          refine ev_ite (fun z => by omega) (fun _ => ?_)
          refine ev_gv ?_
          exact ev_ret ⟨rfl, t2, h2⟩
        | inr T =>
          rw [hL] at q2
          obtain ⟨xe, l2, dT, _⟩ := q2
          subst xe
          refine ev_gg (by decide) ?_
          refine ev_ite (fun _ => ?_) (fun z => absurd rfl z)
          refine ev_gv ?_
          rw [h2.1.1]
          refine ev_gg (by first | omega | (constructor <;> omega)) ?_
          have p82 : ∀ s0 : Int, s0 = (if Ds.length < 40 then 1 else 0) → Ev (fun n => f_X12_lay n d 82 S2 [s0]) (fun x S1 => if Ds.length < 40 then x = (Ds.length : Int) ∧ S1.1 500 0 = 0 ∧ DOC T ∧ RfS S0 T0 (Ds ++ [T]) pg pp r L Q C S1 else S1.1 500 0 = 2 ∧ RfS S0 T0 Ds pg pp r L Q C S1) := by
            intro s0 hs0
            refine ev_up (fun n => e_X12_lay_82) ?_
            unfold b_X12_lay_82
            refine ev_gg (by first | omega | (constructor <;> omega)) ?_
            refine fa_c (p := Ds.length < 40) hs0 h2 (fun c3 S8 t8 f8 h8 => ?_) (fun c3 S8 t8 f8 h8 => ?_)
            · refine ev_gg (by decide) ?_
              refine ev_ite (fun _ => ?_) (fun z => by omega)
              simp only [if_pos c3]
              refine ev_gc (r_keeps (d := d - 1) (K := 42) (by omega) rfl (by decide) h8 c3 (lk_fr l2 f8 (fun j _ _ => by omega) (by omega)) dT) (fun y S9 q9 => ?_)
              exact ev_ret ⟨q9.1, by rw [q9.2.1]; exact t8, dT, q9.2.2⟩
            · refine ev_gg (by decide) ?_
              refine ev_ite (fun z => by omega) (fun _ => ?_)
              simp only [if_neg c3]
              exact ev_ret ⟨t8, h8⟩
          refine ev_ite (fun y => ?_) (fun y => ?_)
          · exact p82 0 (by rw [if_neg (by omega)])
          · exact p82 1 (by rw [if_pos (by omega)])
      · simp only [if_neg (show ¬ rk (atD' Ds b) = 4 from z)]
        exact ev_ret ⟨rfl, t1, h1⟩
    · refine ev_gg (by decide) ?_
      refine ev_ite (fun z => by omega) (fun _ => ?_)
      simp only [if_neg c]
      exact ev_ret ⟨t1, h1⟩
  refine ev_up (fun n => e_X12_lay_0) ?_
  unfold b_X12_lay_0
  refine ev_gg (by first | omega | (constructor <;> omega)) ?_
  refine ev_gcr (r_isDoc (d := d - 1) (by omega) ha h) ?_
  by_cases c : hasD Ds a
  · rw [if_pos c]
    refine ev_gg (by decide) ?_
    refine ev_ite (fun z => by omega) (fun _ => ?_)
    refine ev_gcr (r_isDoc (d := d - 1) (by omega) hb h) ?_
    by_cases c2 : hasD Ds b
    · rw [if_pos c2]
      refine ev_gg (by decide) ?_
      refine ev_ite (fun z => by omega) (fun _ => ?_)
      exact p22 1 (by rw [if_pos ⟨c, c2⟩])
    · rw [if_neg c2]
      refine ev_gg (by decide) ?_
      refine ev_ite (fun _ => ?_) (fun z => by omega)
      exact p22 0 (by rw [if_neg (fun z => c2 z.2)])
  · rw [if_neg c]
    refine ev_gg (by decide) ?_
    refine ev_ite (fun _ => ?_) (fun z => by omega)
    exact p22 0 (by rw [if_neg (fun z => c z.1)])
end RLC
