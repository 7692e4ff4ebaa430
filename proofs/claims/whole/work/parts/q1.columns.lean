/-! THE REFERENCE: columns -/
theorem tk_map {α β : Type} {f : α → β} {R : List α} {j : Nat} {z : α} (h : j < R.length) : (R.map f).take (j + 1) = (R.map f).take j ++ [f (R.getD j z)] := by
  rw [List.take_add_one, List.getElem?_map, List.getElem?_eq_getElem h, List.getD_eq_getElem?_getD, List.getElem?_eq_getElem h]
  rfl
theorem tk_1 {α : Type} {R : List α} {j : Nat} {z : α} (h : j < R.length) : R.take (j + 1) = R.take j ++ [R.getD j z] := by
  rw [List.take_add_one, List.getD_eq_getElem?_getD, List.getElem?_eq_getElem h]
  rfl
theorem dr_1 {α : Type} {R : List α} {j : Nat} {z : α} (h : j < R.length) : R.drop j = R.getD j z :: R.drop (j + 1) := by
  rw [List.drop_eq_getElem_cons h, List.getD_eq_getElem?_getD, List.getElem?_eq_getElem h]
  rfl
theorem md_put {S : GS} {r0 : Option (List ND)} {x : ND} {n v ix : Nat} {R : List ND} (h : MD S 40 (apM r0 (wZ x n :: R))) (hx : ∀ V0, r0 = some V0 → V0.length < 100 → V0.length = ix) (hi : ix ≤ 100) (hv : v ≤ 1000) : MD (gI S 501 (6161 * 40 + 61 * ix + 3) (v : Int)) 40 (apM r0 (wZ x v :: R)) := by
  cases r0 with
  | none => exact md_gN h
  | some V0 =>
    unfold apM at h ⊢
    dsimp only at h ⊢
    have el : (wZ x n :: R).length = (wZ x v :: R).length := rfl
    rw [← el]
    by_cases c : V0.length + (wZ x n :: R).length ≤ 100
    · rw [if_pos c] at h ⊢
      have lc : (wZ x n :: R).length = R.length + 1 := rfl
      have e := hx V0 rfl (by omega)
      subst e
      have eg : (V0 ++ wZ x n :: R).getD V0.length nd0 = wZ x n := by
        rw [List.getD_eq_getElem?_getD, List.getElem?_append_right (Nat.le_refl _), Nat.sub_self]
        rfl
      have m := md_set3 (i := V0.length) (v := v) h hv hi
      have es : (V0 ++ wZ x n :: R).set V0.length (wZ ((V0 ++ wZ x n :: R).getD V0.length nd0) v) = V0 ++ wZ x v :: R := by
        rw [eg, List.set_append_right _ _ (Nat.le_refl _), Nat.sub_self]
        rfl
      have m2 : MD (gI S 501 (6161 * 40 + 61 * V0.length + 3) (v : Int)) 40 (some ((V0 ++ wZ x n :: R).set V0.length (wZ ((V0 ++ wZ x n :: R).getD V0.length nd0) v))) := m
      rw [es] at m2
      exact m2
    · rw [if_neg c] at h ⊢
      exact md_gN h
abbrev cmP : Nat → Nat → Prop := fun c j => doP 40 c j ∨ wdP c j
section TB1
variable {S : GS} {d A : Nat} {V : List ND}
theorem q_areAll {a k : Int} (hd : 4 ≤ d) (ha : a = (A : Int)) (hA : A < 48) (hk : inr k) (h : LK S A V) (hV : TR V ∧ PZL V) : Rd (fun n => f_X12_areAll n d 0 S [a, k]) (if ∀ x ∈ kids V 0, nk V x = k then 1 else 0) S := by
  subst ha
  have l1 := hV.1.2.1
  have l100 := h.2.1
  have kl := kids_100 hV.1.1 (pz_l hV.2) l100 (g := 0) (by omega)
  have lp : ∀ (u i : Nat) (s : Int), i + u = (kids V 0).length → s = (if ∀ x ∈ (kids V 0).take i, nk V x = k then 1 else 0) → Rd (fun n => f_X12_areAll n d 5 S [(A : Int), k, s, (i : Int)]) (if ∀ x ∈ kids V 0, nk V x = k then 1 else 0) S := by
    intro u
    induction u with
    | zero =>
      intro i s hi hs
      rw [List.take_of_length_le (by omega)] at hs
      refine ev_up (fun n => e_X12_areAll_5) ?_
      unfold b_X12_areAll_5
      refine ev_gg (by first | omega | (constructor <;> omega)) ?_
      refine ev_gcr (q_manyL (d := d - 1) (K := A) (I := 0) (V := V) (by omega) rfl hA rfl h (by omega)) ?_
      refine ev_gg (by first | omega | (constructor <;> omega)) ?_
      refine ev_gg (by first | omega | (constructor <;> omega)) ?_
      refine ev_ite (fun _ => ?_) (fun z => by omega)
      have s01 : s = 0 ∨ s = 1 := by
        rw [hs]
        split
        · exact Or.inr rfl
        · exact Or.inl rfl
      refine ev_gg (s01) ?_
      exact ev_ret ⟨hs, rfl⟩
    | succ u ih =>
      intro i s hi hs
      have il : i < (kids V 0).length := by omega
      have ka := kid_at hV (g := 0) (by omega) il
      have tk := tk_1 (z := 0) il
      have nr := h.2.2.2 _ (nd_mem ka.1)
      have nr1 : 0 ≤ nk V ((kids V 0).getD i 0) ∧ nk V ((kids V 0).getD i 0) ≤ 5 := ⟨nr.1, nr.2.1⟩
      refine ev_up (fun n => e_X12_areAll_5) ?_
      unfold b_X12_areAll_5
      refine ev_gg (by first | omega | (constructor <;> omega)) ?_
      refine ev_gcr (q_manyL (d := d - 1) (K := A) (I := 0) (V := V) (by omega) rfl hA rfl h (by omega)) ?_
      refine ev_gg (by first | omega | (constructor <;> omega)) ?_
      refine ev_gg (by first | omega | (constructor <;> omega)) ?_
      refine ev_ite (fun z => by omega) (fun _ => ?_)
      by_cases c : ∀ x ∈ (kids V 0).take i, nk V x = k
      · rw [if_pos c] at hs
        subst hs
        refine ev_gg (by decide) ?_
        refine ev_ite (fun z => absurd z (by decide)) (fun _ => ?_)
        refine ev_gcr (q_kidAt (d := d - 1) (K := A) (G := 0) (P := i) (V := V) (by omega) rfl hA rfl rfl h hV (by omega) il) ?_
        refine ev_gcr (q_kindL (d := d - 1) (K := A) (I := (kids V 0).getD i 0) (V := V) (by omega) rfl hA rfl h ka.1) ?_
        refine ev_gg (by first | omega | (constructor <;> omega)) ?_
        refine ev_gg (hk) ?_
        refine ev_ite (fun z => ?_) (fun z => ?_)
        · refine ev_gv ?_
          rw [show (i : Int) + 1 = ((i + 1 : Nat) : Int) by omega]
          refine ih (i + 1) 0 (by omega) ?_
          rw [tk, if_neg (fun w => z (w _ (List.mem_append.mpr (Or.inr List.mem_cons_self))))]
        · refine ev_gv ?_
          rw [show (i : Int) + 1 = ((i + 1 : Nat) : Int) by omega]
          refine ih (i + 1) 1 (by omega) ?_
          rw [tk, if_pos (fun x hx => ?_)]
          rcases List.mem_append.mp hx with w | w
          · exact c x w
          · rw [List.mem_singleton] at w
            rw [w]
            omega
      · rw [if_neg c] at hs
        subst hs
        refine ev_gg (by decide) ?_
        refine ev_ite (fun _ => ?_) (fun z => absurd rfl z)
        refine ev_gv ?_
        rw [show (i : Int) + 1 = ((i + 1 : Nat) : Int) by omega]
        refine ih (i + 1) 0 (by omega) ?_
        rw [tk, if_neg (fun w => c (fun x hx => w x (List.mem_append.mpr (Or.inl hx))))]
  refine ev_up (fun n => e_X12_areAll_0) ?_
  unfold b_X12_areAll_0
  refine lp (kids V 0).length 0 1 (by omega) ?_
  rw [List.take_zero, if_pos (fun x hx => by cases hx)]
theorem q_isNewKey {a : Int} {I C : Nat} (hd : 5 ≤ d) (ha : a = (A : Int)) (hA : A < 48) (h : LK S A V) (hV : TR V ∧ PZL V) (hI : I ≤ (kids V 0).length) (hC : C < V.length) : Rd (fun n => f_X12_isNewKey n d 0 S [a, (I : Int), (C : Int)]) (if nwK V ((kids V 0).take I) (nq V C) then 1 else 0) S := by
  subst ha
  have l1 := hV.1.2.1
  have l100 := h.2.1
  have kl := kids_100 hV.1.1 (pz_l hV.2) l100 (g := 0) (by omega)
  have lp : ∀ (u i : Nat), i + u = I → (∀ y ∈ (kids V 0).take i, fdK V (nq V C) (kids V y) = -1) → Rd (fun n => f_X12_isNewKey n d 3 S [(A : Int), (I : Int), (C : Int), (i : Int)]) (if nwK V ((kids V 0).take I) (nq V C) then 1 else 0) S := by
    intro u
    induction u with
    | zero =>
      intro i hi hn
      have e : i = I := by omega
      subst e
      refine ev_up (fun n => e_X12_isNewKey_3) ?_
      unfold b_X12_isNewKey_3
      refine ev_gg (by first | omega | (constructor <;> omega)) ?_
      refine ev_gg (by first | omega | (constructor <;> omega)) ?_
      refine ev_ite (fun _ => ?_) (fun z => by omega)
      exact ev_ret ⟨by rw [if_pos hn], rfl⟩
    | succ u ih =>
      intro i hi hn
      have il : i < (kids V 0).length := by omega
      have ka := kid_at hV (g := 0) (by omega) il
      have tk := tk_1 (z := 0) il
      refine ev_up (fun n => e_X12_isNewKey_3) ?_
      unfold b_X12_isNewKey_3
      refine ev_gg (by first | omega | (constructor <;> omega)) ?_
      refine ev_gg (by first | omega | (constructor <;> omega)) ?_
      refine ev_ite (fun z => by omega) (fun _ => ?_)
      refine ev_gg (by first | omega | (constructor <;> omega)) ?_
      refine ev_gcr (q_kidAt (d := d - 1) (K := A) (G := 0) (P := i) (V := V) (by omega) rfl hA rfl rfl h hV (by omega) il) ?_
      refine ev_gcr (q_likeL (d := d - 1) (K := A) (G := (kids V 0).getD i 0) (F := A) (J := C) (V := V) (W := V) (by omega) rfl hA rfl rfl hA rfl h hV ka.1 h hC) ?_
      have fi : inr (fdK V (nq V C) (kids V ((kids V 0).getD i 0))) := by
        rcases fdK_mem (V := V) (key := nq V C) (kids V ((kids V 0).getD i 0)) with z | ⟨k, hk, z, _⟩
        · rw [z]; decide
        · have := (kid_in3 hV.1.1 (pz_l hV.2) ka.1 hk).2.1
          rw [z]
          constructor <;> omega
      refine ev_gg (fi) ?_
      refine ev_ite (fun z => ?_) (fun z => ?_)
      · refine ev_gv ?_
        rw [show (i : Int) + 1 = ((i + 1 : Nat) : Int) by omega]
        refine ih (i + 1) (by omega) (fun y hy => ?_)
        rw [tk] at hy
        rcases List.mem_append.mp hy with w | w
        · exact hn y w
        · rw [List.mem_singleton] at w
          rw [w]
          exact z
      · refine ev_ret ⟨?_, rfl⟩
        have m0 : (kids V 0).getD i 0 ∈ (kids V 0).take (i + 1) := by
          rw [tk]
          exact List.mem_append.mpr (Or.inr List.mem_cons_self)
        have m1 : (kids V 0).getD i 0 ∈ (kids V 0).take I := (List.take_subset_take_left _ (by omega)) m0
        rw [if_neg (fun w => z (w _ m1))]
  refine ev_up (fun n => e_X12_isNewKey_0) ?_
  unfold b_X12_isNewKey_0
  exact lp I 0 (by omega) (fun y hy => by rw [List.take_zero] at hy; cases hy)
/-- VALUES of a COLUMN -/
theorem q_cells {a : Int} {C i x jj : Nat} {r0 : Option (List ND)} {Qf : Int → GS → Prop} (hd : 6 ≤ d) (ha : a = (A : Int)) (hA : A < 40) (hV : DOC V) (h5 : ∀ x ∈ kids V 0, nk V x = 5) (hC : C < V.length) (h : LK S A V) (nx : ∀ S1, MD S1 40 (apM r0 (wZ (wQ (ndK 4) (nq V C)) (kids V 0).length :: (((kids V 0).map (ceT V (nq V C))).map mny).flatten)) → FC cmP S S1 → Ev (fun n => f_X12_columns n d 91 S1 [a, 0, ((kids V 0).length : Int), (i : Int), (x : Int), (jj : Int) + 1]) Qf) (hj : jj ≤ 100) : ∀ (u j : Nat) (S1 : GS), j + u = (kids V 0).length → MD S1 40 (apM r0 (wZ (wQ (ndK 4) (nq V C)) (kids V 0).length :: ((((kids V 0).map (ceT V (nq V C))).take j).map mny).flatten)) → FC cmP S S1 → Ev (fun n => f_X12_columns n d 186 S1 [a, 0, ((kids V 0).length : Int), (i : Int), (x : Int), (jj : Int), (C : Int), (j : Int)]) Qf := by
  have hV0 := hV.1.1
  have l1 := hV0.1.2.1
  have l100 := hV.2.2.1
  have kl := kids_100 hV0.1.1 (pz_l hV0.2) l100 (g := 0) (by omega)
  intro u
  induction u with
  | zero =>
    intro j S1 hju m1 f1
    rw [List.take_of_length_le (by rw [List.length_map]; omega)] at m1
    refine ev_up (fun n => e_X12_columns_186) ?_
    unfold b_X12_columns_186
    refine ev_gg (by first | omega | (constructor <;> omega)) ?_
    refine ev_gg (by first | omega | (constructor <;> omega)) ?_
    refine ev_ite (fun _ => ?_) (fun z => by omega)
    refine ev_gv ?_
    exact nx S1 m1 f1
  | succ u ih =>
    intro j S1 hju m1 f1
    have jl : j < (kids V 0).length := by omega
    have ka := kid_at hV0 (g := 0) (by omega) jl
    have L1 := lk_fr h f1 (fun j _ _ => by omega) (by omega)
    have k5 : nk V ((kids V 0).getD j 0) = 5 := h5 _ (by
      rw [List.getD_eq_getElem?_getD, List.getElem?_eq_getElem jl]
      exact List.getElem_mem jl)
    refine ev_up (fun n => e_X12_columns_186) ?_
    unfold b_X12_columns_186
    refine ev_gg (by first | omega | (constructor <;> omega)) ?_
    refine ev_gg (by first | omega | (constructor <;> omega)) ?_
    refine ev_ite (fun z => by omega) (fun _ => ?_)
    refine ev_gg (by first | omega | (constructor <;> omega)) ?_
    refine ev_gcr (q_kidAt (d := d - 1) (K := A) (G := 0) (P := j) (V := V) (by omega) ha (by omega) rfl rfl L1 hV0 (by omega) jl) ?_
    refine ev_gcr (q_likeL (d := d - 1) (K := A) (G := (kids V 0).getD j 0) (F := A) (J := C) (V := V) (W := V) (by omega) ha (by omega) rfl ha (by omega) rfl L1 hV0 ka.1 L1 hC) ?_
    rw [← vLk_c ka.1 k5]
    have vi : inr (vLk V (((kids V 0).getD j 0 : Nat) : Int) (nq V C)) := vl_in hV0 l100
    have go : ∀ S2, MD S2 40 (apM (apM r0 (wZ (wQ (ndK 4) (nq V C)) (kids V 0).length :: ((((kids V 0).map (ceT V (nq V C))).take j).map mny).flatten)) (mny (ceT V (nq V C) ((kids V 0).getD j 0)))) → FC cmP S S2 → Ev (fun n => f_X12_columns n d 186 S2 [a, 0, ((kids V 0).length : Int), (i : Int), (x : Int), (jj : Int), (C : Int), ((j + 1 : Nat) : Int)]) Qf := by
      intro S2 m2 f2
      refine ih (j + 1) S2 (by omega) ?_ f2
      rw [tk_map (z := 0) jl, List.map_append, List.flatten_append, List.map_cons, List.map_nil, List.flatten_cons, List.flatten_nil, List.append_nil]
      rw [apM_app, List.cons_append] at m2
      exact m2
    refine ev_gg (vi) ?_
    refine ev_ite (fun z => ?_) (fun z => ?_)
    · obtain ⟨v, ev, vl⟩ := vl_at (c := (kids V 0).getD j 0) (q := nq V C) hV0 z
      have ec : ceT V (nq V C) ((kids V 0).getD j 0) = kyT (sg V v) [] := by
        unfold ceT
        rw [if_neg z, ev, Int.toNat_natCast]
      rw [ec] at go
      rw [ev]
      refine ev_gc (q_brings (d := d - 1) (K := 40) (F := A) (I := v) (M := 0) (w := []) (by omega) rfl (by decide) ha (by omega) rfl rfl (by decide) (by omega) L1 hV0 vl (fun e => by cases e) m1) (fun _ S2 q2 => ?_)
      obtain ⟨m2, f2⟩ := q2
      rw [if_neg (by decide)] at m2
      refine ev_gv ?_
      rw [show (j : Int) + 1 = ((j + 1 : Nat) : Int) by omega]
      exact go S2 m2 (fc_tr f1 (fc_mono f2 (fun c j z => Or.inl z)))
    · have ec : ceT V (nq V C) ((kids V 0).getD j 0) = [ndK 0] := by
        unfold ceT
        rw [if_pos (by omega)]
      rw [ec, mny_leaf rfl] at go
      refine ev_gc (q_added (d := d - 1) (K := 40) (by omega) rfl (by decide) (by decide) m1) (fun _ S2 q2 => ?_)
      obtain ⟨m2, f2, _⟩ := q2
      refine ev_gv ?_
      rw [show (j : Int) + 1 = ((j + 1 : Nat) : Int) by omega]
      exact go S2 m2 (fc_tr f1 (fc_mono f2 (fun c j z => Or.inl z)))
/-- all COLUMNS -/
theorem q_cols {a : Int} {Qf : Int → GS → Prop} (hd : 8 ≤ d) (ha : a = (A : Int)) (hA : A < 40) (hV : DOC V) (h5 : ∀ x ∈ kids V 0, nk V x = 5) (h : LK S A V) (fin : ∀ S1, MD S1 40 (apM (some []) (mny (clT V))) → FC cmP S S1 → Ev (fun n => f_X12_columns n d 72 S1 [a, 0, ((kids V 0).length : Int), ((kids V 0).length : Int)]) Qf) (hm : MD S 40 (apM (some []) [wZ (ndK 5) 0])) : Ev (fun n => f_X12_columns n d 72 S [a, 0, ((kids V 0).length : Int), 0]) Qf := by
  have hV0 := hV.1.1
  have zV := pz_l hV0.2
  have l1 := hV0.1.2.1
  have l100 := hV.2.2.1
  have kl := kids_100 hV0.1.1 zV l100 (g := 0) (by omega)
  obtain ⟨_, ct, cl100⟩ := clT_ok hV h5
  have ek : clT V = gpN (ndK 5) (clR V (kids V 0) [] (kids V 0)) (clR V (kids V 0) [] (kids V 0)).length := rfl
  have em : mny (clT V) = wZ (ndK 5) (clR V (kids V 0) [] (kids V 0)).length :: ((clR V (kids V 0) [] (kids V 0)).map mny).flatten := by
    rw [ek]
    exact mny_gp (x := ndK 5) (show (4 : Int) ≤ 5 by decide) ct
  rw [em] at fin
  -- KEYS of one MAP
  have L91 : ∀ (i x : Nat), i < (kids V 0).length → (kids V 0).getD i 0 = x → (∀ (S1 : GS) (E : List (List ND)), E ++ clR V (kids V 0) ((kids V 0).take (i + 1)) ((kids V 0).drop (i + 1)) = clR V (kids V 0) [] (kids V 0) → MD S1 40 (apM (some []) (wZ (ndK 5) E.length :: (E.map mny).flatten)) → FC cmP S S1 → Ev (fun n => f_X12_columns n d 72 S1 [a, 0, ((kids V 0).length : Int), ((i + 1 : Nat) : Int)]) Qf) → ∀ (K : List Nat) (jj : Nat) (S1 : GS) (E : List (List ND)), (kids V x).drop jj = K → jj ≤ (kids V x).length → E ++ ((fkF V ((kids V 0).take i) K).map (fun c => coT V (kids V 0) (nq V c)) ++ clR V (kids V 0) ((kids V 0).take (i + 1)) ((kids V 0).drop (i + 1))) = clR V (kids V 0) [] (kids V 0) → MD S1 40 (apM (some []) (wZ (ndK 5) E.length :: (E.map mny).flatten)) → FC cmP S S1 → Ev (fun n => f_X12_columns n d 91 S1 [a, 0, ((kids V 0).length : Int), (i : Int), (x : Int), (jj : Int)]) Qf := by
    intro i x il ex nx K
    have ka := kid_at hV0 (g := 0) (by omega) il
    rw [ex] at ka
    have kx := kids_100 hV0.1.1 zV l100 (g := x) ka.1
    induction K with
    | nil =>
      intro jj S1 E hK hj hE m1 f1
      have L1 := lk_fr h f1 (fun j _ _ => by omega) (by omega)
      have jl : jj = (kids V x).length := by
        have := congrArg List.length hK
        rw [List.length_drop, List.length_nil] at this
        omega
      refine ev_up (fun n => e_X12_columns_91) ?_
      unfold b_X12_columns_91
      refine ev_gg (by first | omega | (constructor <;> omega)) ?_
      refine ev_gcr (q_manyL (d := d - 1) (K := A) (I := x) (V := V) (by omega) ha (by omega) rfl L1 ka.1) ?_
      refine ev_gg (by first | omega | (constructor <;> omega)) ?_
      refine ev_gg (by first | omega | (constructor <;> omega)) ?_
      refine ev_ite (fun _ => ?_) (fun z => by omega)
      refine ev_gv ?_
      rw [show (i : Int) + 1 = ((i + 1 : Nat) : Int) by omega]
      exact nx S1 E hE m1 f1
    | cons c K ihK =>
      intro jj S1 E hK hj hE m1 f1
      have L1 := lk_fr h f1 (fun j _ _ => by omega) (by omega)
      have jl : jj < (kids V x).length := by
        have := congrArg List.length hK
        rw [List.length_drop, List.length_cons] at this
        omega
      obtain ⟨ec, eK⟩ : (kids V x).getD jj 0 = c ∧ (kids V x).drop (jj + 1) = K := by
        rw [dr_1 (z := 0) jl] at hK
        exact List.cons.inj hK
      have kc := kid_at hV0 (g := x) ka.1 jl
      rw [ec] at kc
      have ef : fkF V ((kids V 0).take i) (c :: K) = if nwK V ((kids V 0).take i) (nq V c) then c :: fkF V ((kids V 0).take i) K else fkF V ((kids V 0).take i) K := rfl
      rw [ef] at hE
      refine ev_up (fun n => e_X12_columns_91) ?_
      unfold b_X12_columns_91
      refine ev_gg (by first | omega | (constructor <;> omega)) ?_
      refine ev_gcr (q_manyL (d := d - 1) (K := A) (I := x) (V := V) (by omega) ha (by omega) rfl L1 ka.1) ?_
      refine ev_gg (by first | omega | (constructor <;> omega)) ?_
      refine ev_gg (by first | omega | (constructor <;> omega)) ?_
      refine ev_ite (fun z => by omega) (fun _ => ?_)
      refine ev_gcr (q_kidAt (d := d - 1) (K := A) (G := x) (P := jj) (V := V) (by omega) ha (by omega) rfl rfl L1 hV0 ka.1 jl) ?_
      rw [ec]
      refine ev_gcr (q_isNewKey (d := d - 1) (I := i) (C := c) (by omega) ha (by omega) L1 hV0 (by omega) kc.1) ?_
      by_cases w : nwK V ((kids V 0).take i) (nq V c)
      · rw [if_pos w] at hE
        rw [if_pos w]
        refine ev_gg (by decide) ?_
        refine ev_ite (fun z => absurd z (by decide)) (fun _ => ?_)
        have El : E.length ≤ 100 := by
          have := congrArg List.length hE
          rw [List.length_append] at this
          omega
        obtain ⟨n3, n31, n32, n33⟩ := md_n m1
        refine ev_gc (q_added (d := d - 1) (K := 40) (by omega) rfl (by decide) (by decide) m1) (fun y S2 q2 => ?_)
        obtain ⟨m2, f2, ye⟩ := q2
        rw [n32] at ye
        subst ye
        refine ev_gc (q_wordOfKey (d := d - 1) (K := A) (I := c) (V := V) (by omega) ha (by omega) rfl (lk_fr L1 f2 (fun j _ _ => by omega) (by omega)) kc.1) (fun _ S3 q3 => ?_)
        obtain ⟨w3, f3⟩ := q3
        have nr := L1.2.2.2 _ (nd_mem kc.1)
        refine ev_gc (q_keyIs (d := d - 1) (K := 40) (I := n3) (w := nq V c) (by omega) rfl (by decide) rfl n31 w3 nr.2.2.2.2.2.2.2.2.1 (mdr_fr m2 f3 (fun j _ _ => by omega) (by omega) (by omega))) (fun _ S4 q4 => ?_)
        obtain ⟨m4, f4⟩ := q4
        rw [apM_upd (g := fun y => wQ y (nq V c)) n33] at m4
        have m4' : MD S4 40 (apM (apM (some []) (wZ (ndK 5) E.length :: (E.map mny).flatten)) (wZ (wQ (ndK 4) (nq V c)) 0 :: [])) := m4
        have m5 := md_put (v := (kids V 0).length) m4' (fun V0 hV0 _ => n33 V0 hV0) n31 (by omega)
        refine ev_gcr (q_at) ?_
        refine ev_gv ?_
        refine ev_gg (by first | omega | (constructor <;> omega)) ?_
        refine ev_gv ?_
        rw [show (((101 * 40 + (n3 : Int)) * 61 + 3 : Int)).toNat = 6161 * 40 + 61 * n3 + 3 by omega]
        have f5 : FC (doP 40) S4 (gI S4 501 (6161 * 40 + 61 * n3 + 3) ((kids V 0).length : Int)) := fc_gI (Or.inl ⟨rfl, by omega, by omega⟩)
        generalize gI S4 501 (6161 * 40 + 61 * n3 + 3) ((kids V 0).length : Int) = S5 at m5 f5 ⊢
        refine ev_gcr (q_at) ?_
        refine ev_gv ?_
        refine ev_gg (by first | omega | (constructor <;> omega)) ?_
        refine ev_gv ?_
        refine ev_gv ?_
        refine ev_gv ?_
        rw [show (((101 * 40 + (0 : Int)) * 61 + 3 : Int)).toNat = 6161 * 40 + 61 * 0 + 3 by decide]
        rw [apM_app, List.cons_append] at m5
        have m6 := md_inc (n := E.length) (s := 1) (ix := 0) m5 (fun V0 hV0 _ => by
          have e0 : ([] : List ND) = V0 := Option.some.inj hV0
          rw [← e0]
          rfl) (by decide) (by omega)
        have f6 : FC (doP 40) S5 (gI S5 501 (6161 * 40 + 61 * 0 + 3) (S5.1 501 (6161 * 40 + 61 * 0 + 3) + ((1 : Nat) : Int))) := fc_gI (Or.inl ⟨rfl, by omega, by omega⟩)
        have e1 : ((1 : Nat) : Int) = 1 := rfl
        rw [e1] at m6 f6
        generalize gI S5 501 (6161 * 40 + 61 * 0 + 3) (S5.1 501 (6161 * 40 + 61 * 0 + 3) + 1) = S6 at m6 f6 ⊢
        have f06 : FC cmP S S6 := fc_tr f1 (fc_tr (fc_mono f2 (fun c j z => Or.inl z)) (fc_tr (fc_mono f3 (fun c j z => Or.inr z)) (fc_tr (fc_mono f4 (fun c j z => Or.inl (Or.inl ⟨z.1, by omega, by omega⟩))) (fc_tr (fc_mono f5 (fun c j z => Or.inl z)) (fc_mono f6 (fun c j z => Or.inl z))))))
        refine q_cells (S := S6) (A := A) (V := V) (C := c) (i := i) (x := x) (jj := jj) (r0 := apM (some []) (wZ (ndK 5) (E.length + 1) :: (E.map mny).flatten)) (by omega) ha hA hV h5 kc.1 (lk_fr h f06 (fun j _ _ => by omega) (by omega)) (fun S7 m7 f7 => ?_) (by omega) (kids V 0).length 0 S6 (by omega) ?_ fc_rf
        · rw [show (jj : Int) + 1 = ((jj + 1 : Nat) : Int) by omega]
          refine ihK (jj + 1) S7 (E ++ [coT V (kids V 0) (nq V c)]) eK (by omega) (by rw [← hE]; simp only [List.map_cons, List.append_assoc, List.cons_append, List.nil_append]) ?_ (fc_tr f06 f7)
          have ec2 : mny (coT V (kids V 0) (nq V c)) = wZ (wQ (ndK 4) (nq V c)) (kids V 0).length :: (((kids V 0).map (ceT V (nq V c))).map mny).flatten := by
            unfold coT
            rw [mny_gp (x := wQ (ndK 4) (nq V c)) (show (4 : Int) ≤ 4 by decide) (fun t ht => (ce_all hV.1 t ht).1.1), List.length_map]
          rw [List.length_append, List.length_singleton, List.map_append, List.flatten_append, List.map_cons, List.map_nil, List.flatten_cons, List.flatten_nil, List.append_nil, ec2]
          rw [apM_app, List.cons_append] at m7
          exact m7
        · rw [apM_app, List.cons_append]
          exact m6
      · rw [if_neg w] at hE
        rw [if_neg w]
        refine ev_gg (by decide) ?_
        refine ev_ite (fun _ => ?_) (fun z => absurd rfl z)
        refine ev_gv ?_
        rw [show (jj : Int) + 1 = ((jj + 1 : Nat) : Int) by omega]
        exact ihK (jj + 1) S1 E eK (by omega) hE m1 f1
  have L72 : ∀ (u i : Nat) (S1 : GS) (E : List (List ND)), i + u = (kids V 0).length → E ++ clR V (kids V 0) ((kids V 0).take i) ((kids V 0).drop i) = clR V (kids V 0) [] (kids V 0) → MD S1 40 (apM (some []) (wZ (ndK 5) E.length :: (E.map mny).flatten)) → FC cmP S S1 → Ev (fun n => f_X12_columns n d 72 S1 [a, 0, ((kids V 0).length : Int), (i : Int)]) Qf := by
    intro u
    induction u with
    | zero =>
      intro i S1 E hi hE m1 f1
      have ei : i = (kids V 0).length := by omega
      subst ei
      rw [List.drop_length] at hE
      have hE' : E = clR V (kids V 0) [] (kids V 0) := by rw [← hE]; exact (List.append_nil E).symm
      rw [hE'] at m1
      exact fin S1 m1 f1
    | succ u ih =>
      intro i S1 E hi hE m1 f1
      have il : i < (kids V 0).length := by omega
      have L1 := lk_fr h f1 (fun j _ _ => by omega) (by omega)
      have e : clR V (kids V 0) ((kids V 0).take i) ((kids V 0).drop i) = (fkF V ((kids V 0).take i) (kids V ((kids V 0).getD i 0))).map (fun c => coT V (kids V 0) (nq V c)) ++ clR V (kids V 0) ((kids V 0).take (i + 1)) ((kids V 0).drop (i + 1)) := by
        rw [dr_1 (z := 0) il, tk_1 (z := 0) il]
        rfl
      rw [e] at hE
      refine ev_up (fun n => e_X12_columns_72) ?_
      unfold b_X12_columns_72
      refine ev_gg (by first | omega | (constructor <;> omega)) ?_
      refine ev_gg (by first | omega | (constructor <;> omega)) ?_
      refine ev_ite (fun z => by omega) (fun _ => ?_)
      refine ev_gg (by first | omega | (constructor <;> omega)) ?_
      refine ev_gcr (q_kidAt (d := d - 1) (K := A) (G := 0) (P := i) (V := V) (by omega) ha (by omega) rfl rfl L1 hV0 (by omega) il) ?_
      exact L91 i _ il rfl (fun S2 E2 hE2 m2 f2 => ih (i + 1) S2 E2 (by omega) hE2 m2 f2) _ 0 S1 E rfl (Nat.zero_le _) hE m1 f1
  exact L72 (kids V 0).length 0 S [] (by omega) (by rw [List.take_zero, List.drop_zero]; rfl) hm fc_rf
end TB1
section TB2
variable {S0 S : GS} {T0 : List ND} {Ds : List (List ND)} {pg pp : List Int} {r : Int} {L : List Nat} {Q : List (List Int)} {C : List (Int × Int)} {d : Nat}
theorem r_columns {a : Int} (hd : 10 ≤ d) (ha : inr a) (h : RfS S0 T0 Ds pg pp r L Q C S) : Ev (fun n => f_X12_columns n d 0 S [a]) (fun x S1 => if hasD Ds a then (if rk (atD' Ds a) = 4 ∧ (∀ x ∈ kids (atD' Ds a) 0, nk (atD' Ds a) x = 5) then (if pOK (clT (atD' Ds a)) ∧ Ds.length < 40 then x = (Ds.length : Int) ∧ S1.1 500 0 = 0 ∧ RfS S0 T0 (Ds ++ [clT (atD' Ds a)]) pg pp r L Q C S1 else S1.1 500 0 = 2 ∧ RfS S0 T0 Ds pg pp r L Q C S1) else S1.1 500 0 = 2 ∧ RfS S0 T0 Ds pg pp r L Q C S1) else S1.1 500 0 = 1 ∧ RfS S0 T0 Ds pg pp r L Q C S1) := by
  have n4 := h.1.2.1
  refine ev_up (fun n => e_X12_columns_0) ?_
  unfold b_X12_columns_0
  refine ev_gg (by first | omega | (constructor <;> omega)) ?_
  refine ev_gcr (r_isDoc (d := d - 1) (by omega) ha h) ?_
  refine fa_c (p := hasD Ds a) rfl h (fun c S1 t1 f1 h1 => ?_) (fun c S1 t1 f1 h1 => ?_)
  · refine ev_gg (by decide) ?_
    refine ev_ite (fun z => by omega) (fun _ => ?_)
    simp only [if_pos c]
    obtain ⟨e1, e2, e3, e4⟩ := r_at h1 c
    have lb := e4.1.1.1.2.1
    have l100 := e4.2.2.1
    have nr := e3.2.2.2 _ (nd_mem (i := 0) (by omega))
    have nr1 : 0 ≤ nk (atD' Ds a) 0 ∧ nk (atD' Ds a) 0 ≤ 5 := ⟨nr.1, nr.2.1⟩
    have rk0 : rk (atD' Ds a) = nk (atD' Ds a) 0 := rfl
    have kl := kids_100 e4.1.1.1.1 (pz_l e4.1.1.2) l100 (g := 0) (by omega)
    have bad : Ev (fun n => f_X12_columns n d 38 S1 [a, 0]) (fun _ S1 => S1.1 500 0 = 2 ∧ RfS S0 T0 Ds pg pp r L Q C S1) := by
      refine ev_up (fun n => e_X12_columns_38) ?_
      unfold b_X12_columns_38
      refine ev_gg (by first | omega | (constructor <;> omega)) ?_
      refine fa_c (p := False) (by rw [if_neg (fun z => z)]) h1 (fun z => z.elim) (fun _ S3 t3 f3 h3 => ?_)
      refine ev_gg (by decide) ?_
      refine ev_ite (fun z => by omega) (fun _ => ?_)
      exact ev_ret ⟨t3, h3⟩
    refine ev_gcr (q_kindL (d := d - 1) (K := a.toNat) (I := 0) (V := atD' Ds a) (by omega) e1 (by omega) rfl e3 (by omega)) ?_
    refine ev_gg (by first | omega | (constructor <;> omega)) ?_
    refine ev_ite (fun z => ?_) (fun z => ?_)
    · simp only [if_neg (show ¬ (rk (atD' Ds a) = 4 ∧ (∀ x ∈ kids (atD' Ds a) 0, nk (atD' Ds a) x = 5)) from fun y => z y.1)]
      exact bad
    refine ev_gcr (q_areAll (d := d - 1) (A := a.toNat) (V := atD' Ds a) (by omega) e1 (by omega) (by decide) e3 e4.1.1) ?_
    by_cases c5 : ∀ x ∈ kids (atD' Ds a) 0, nk (atD' Ds a) x = 5
    · rw [if_pos c5]
      refine ev_gg (by decide) ?_
      refine ev_ite (fun y => absurd y (by decide)) (fun _ => ?_)
      simp only [if_pos (show rk (atD' Ds a) = 4 ∧ (∀ x ∈ kids (atD' Ds a) 0, nk (atD' Ds a) x = 5) from ⟨by omega, c5⟩)]
      obtain ⟨⟨ctr, crq, csd⟩, _, _⟩ := clT_ok e4 c5
      refine ev_up (fun n => e_X12_columns_38) ?_
      unfold b_X12_columns_38
      refine ev_gg (by first | omega | (constructor <;> omega)) ?_
      refine fa_c (p := True) (by rw [if_pos trivial]) h1 (fun _ S3 t3 f3 h3 => ?_) (fun z => absurd trivial z)
      refine ev_gg (by decide) ?_
      refine ev_ite (fun _ => ?_) (fun z => by omega)
      refine ev_gc (q_begin1 (d := d - 1) (k := 40) (K := 40) rfl (by decide)) (fun _ S4 q4 => ?_)
      obtain ⟨m4, f4⟩ := q4
      have h4 := rf_sc h3 f4 (fun c j z => by omega)
      refine ev_gc (q_added (d := d - 1) (K := 40) (by omega) rfl (by decide) (by decide) m4) (fun y S5 q5 => ?_)
      obtain ⟨m5, f5, ye⟩ := q5
      have z40 : S4.1 502 40 = 0 := m4.2.1
      rw [z40] at ye
      subst ye
      have h5 := rf_sc h4 f5 (fun c j z => by omega)
      have t5 : S5.1 500 0 = 0 := by rw [fc_i f5 (by omega), fc_i f4 (by omega)]; exact t3
      obtain ⟨g1, g2, g3, g4⟩ := r_at h5 c
      refine ev_gcr (q_manyL (d := d - 1) (K := a.toNat) (I := 0) (V := atD' Ds a) (by omega) g1 (by omega) rfl g3 (by omega)) ?_
      refine q_cols (d := d) (A := a.toNat) (V := atD' Ds a) (by omega) g1 g2 g4 c5 g3 (fun S6 m6 f6 => ?_) m5
      have h6 := rf_sc h5 f6 (fun c j z => by omega)
      have t6 : S6.1 500 0 = 0 := by rw [fc_i f6 (by omega)]; exact t5
      refine ev_up (fun n => e_X12_columns_72) ?_
      unfold b_X12_columns_72
      refine ev_gg (by first | omega | (constructor <;> omega)) ?_
      refine ev_gg (by first | omega | (constructor <;> omega)) ?_
      refine ev_ite (fun _ => ?_) (fun z => by omega)
      refine ev_gg (by first | omega | (constructor <;> omega)) ?_
      refine ev_gc (q_isWhole (d := d - 1) (K := 40) (T := clT (atD' Ds a)) (by omega) rfl (by decide) ctr (fun hl y hy => ((csd hl).2.1 y hy).1) m6) (fun x S7 q7 => ?_)
      obtain ⟨x7, l7, f7⟩ := q7
      have h7 := rf_sc h6 f7 (fun c j z => by omega)
      have t7 : S7.1 500 0 = 0 := by rw [fc_i f7 (by omega)]; exact t6
      have p280 : ∀ (s0 : Int) (P : Prop) [Decidable P], s0 = (if P then 1 else 0) → (P ↔ pOK (clT (atD' Ds a)) ∧ Ds.length < 40) → Ev (fun n => f_X12_columns n d 280 S7 [s0]) (fun x S1 => if pOK (clT (atD' Ds a)) ∧ Ds.length < 40 then x = (Ds.length : Int) ∧ S1.1 500 0 = 0 ∧ RfS S0 T0 (Ds ++ [clT (atD' Ds a)]) pg pp r L Q C S1 else S1.1 500 0 = 2 ∧ RfS S0 T0 Ds pg pp r L Q C S1) := by
        intro s0 P _ hs0 hp
        refine ev_up (fun n => e_X12_columns_280) ?_
        unfold b_X12_columns_280
        refine ev_gg (by first | omega | (constructor <;> omega)) ?_
        refine fa_c (p := P) hs0 h7 (fun c5 S8 t8 f8 h8 => ?_) (fun c5 S8 t8 f8 h8 => ?_)
        · have c6 := hp.mp c5
          refine ev_gg (by decide) ?_
          refine ev_ite (fun _ => ?_) (fun z => by omega)
          simp only [if_pos c6]
          refine ev_gc (r_keeps (d := d - 1) (K := 40) (by omega) rfl (by decide) h8 c6.2 (lk_fr (l7 c6.1) f8 (fun j _ _ => by omega) (by omega)) (doc_p (csd c6.1.1) c6.1 crq)) (fun y S9 q9 => ?_)
          exact ev_ret ⟨q9.1, by rw [q9.2.1]; exact t8, q9.2.2⟩
        · refine ev_gg (by decide) ?_
          refine ev_ite (fun z => by omega) (fun _ => ?_)
          simp only [if_neg (fun z => c5 (hp.mpr z))]
          exact ev_ret ⟨t8, h8⟩
      rw [x7]
      by_cases cp : pOK (clT (atD' Ds a))
      · rw [if_pos cp]
        refine ev_gg (by decide) ?_
        refine ev_ite (fun z => by omega) (fun _ => ?_)
        refine ev_gv ?_
        rw [h7.1.1]
        refine ev_gg (by first | omega | (constructor <;> omega)) ?_
        refine ev_ite (fun y => ?_) (fun y => ?_)
        · exact p280 0 False (by rw [if_neg (fun z => z)]) ⟨fun z => z.elim, fun z => by omega⟩
        · exact p280 1 True (by rw [if_pos trivial]) ⟨fun _ => ⟨cp, by omega⟩, fun _ => trivial⟩
      · rw [if_neg cp]
        refine ev_gg (by decide) ?_
        refine ev_ite (fun _ => ?_) (fun z => by omega)
        exact p280 0 False (by rw [if_neg (fun z => z)]) ⟨fun z => z.elim, fun z => cp z.1⟩
    · rw [if_neg c5]
      refine ev_gg (by decide) ?_
      refine ev_ite (fun _ => ?_) (fun y => absurd rfl y)
      simp only [if_neg (show ¬ (rk (atD' Ds a) = 4 ∧ (∀ x ∈ kids (atD' Ds a) 0, nk (atD' Ds a) x = 5)) from fun y => c5 y.2)]
      exact bad
  · refine ev_gg (by decide) ?_
    refine ev_ite (fun _ => ?_) (fun z => by omega)
    simp only [if_neg c]
    exact ev_ret ⟨t1, h1⟩
end TB2
