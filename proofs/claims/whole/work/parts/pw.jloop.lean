/-! THE REFERENCE joins: one row of VALUES after the other -/
theorem fdK_own {V : List ND} {e : Nat} : ∀ (K : List Nat), (K.map (nq V)).Nodup → e ∈ K → fdK V (nq V e) K = (e : Int)
  | [], _, h => by cases h
  | c :: K, hn, h => by
    have ef : fdK V (nq V e) (c :: K) = if nq V c = nq V e then (c : Int) else fdK V (nq V e) K := rfl
    rw [ef]
    rw [List.map_cons, List.nodup_cons] at hn
    rcases List.mem_cons.mp h with z | z
    · rw [z, if_pos rfl]
    · rw [if_neg (fun w => hn.1 (by rw [w]; exact List.mem_map.mpr ⟨e, z, rfl⟩))]
      exact fdK_own K hn.2 z
theorem vLk_o1 {V : List ND} {q : List Int} : vLk V (-1) q = -1 := by
  unfold vLk
  rw [if_neg (by omega)]
theorem stp_map {V : List ND} {m e : Nat} {K1 K2 : List Nat} (hV : TR V ∧ PZL V) (hm : m < V.length) (h5 : nk V m = 5) (h : kids V m = K1 ++ e :: K2) : stp V e = 47 :: (nq V e).flatMap esc := by
  have o := (kid_own hV.1.1 (pz_l hV.2) h).1
  unfold stp
  rw [o, kdI_n hm, if_pos h5]
  rfl
section RJ5
variable {S : GS} {d cO cA cB : Nat} {O A B : List ND}
theorem q_mapOf {t : Nat} {ph : Int} (ht : t < 16) (hp : inr ph) : Rd (fun n => f_X12_mapOf n d 0 S [(t : Int), ph]) (if ph = 0 then S.1 528 t else if ph = 1 then S.1 529 t else S.1 530 t) S := by
  refine ev_up (fun n => e_X12_mapOf_0) ?_
  unfold b_X12_mapOf_0
  refine ev_gg (hp) ?_
  refine ev_ite (fun z => ?_) (fun z => ?_)
  · rw [if_neg z]
    refine ev_ite (fun z2 => ?_) (fun z2 => ?_)
    · rw [if_neg z2]
      refine ev_gg (by first | omega | (constructor <;> omega)) ?_
      refine ev_gv ?_
      exact ev_ret ⟨rfl, rfl⟩
    · rw [if_pos (show ph = 1 by omega)]
      refine ev_gg (by first | omega | (constructor <;> omega)) ?_
      refine ev_gv ?_
      exact ev_ret ⟨rfl, rfl⟩
  · rw [if_pos (show ph = 0 by omega)]
    refine ev_gg (by first | omega | (constructor <;> omega)) ?_
    refine ev_gv ?_
    exact ev_ret ⟨rfl, rfl⟩
theorem q_docOf {ph : Int} (h : JDo cO cA cB S) (hp : inr ph) : Rd (fun n => f_X12_docOf n d 0 S [ph]) (if ph = 0 then (cO : Int) else if ph = 1 then (cA : Int) else (cB : Int)) S := by
  refine ev_up (fun n => e_X12_docOf_0) ?_
  unfold b_X12_docOf_0
  refine ev_gg (hp) ?_
  refine ev_ite (fun z => ?_) (fun z => ?_)
  · rw [if_neg z]
    refine ev_ite (fun z2 => ?_) (fun z2 => ?_)
    · rw [if_neg z2]
      refine ev_gv ?_
      rw [h.2.2]
      exact ev_ret ⟨rfl, rfl⟩
    · rw [if_pos (show ph = 1 by omega)]
      refine ev_gv ?_
      rw [h.2.1]
      exact ev_ret ⟨rfl, rfl⟩
  · rw [if_pos (show ph = 0 by omega)]
    refine ev_gv ?_
    rw [h.1]
    exact ev_ret ⟨rfl, rfl⟩
/-- which MAP is gone through -/
abbrev JW (O A B : List ND) (cO cA cB ph : Nat) (o : Int) (a b : Nat) (V : List ND) (cV m : Nat) : Prop := (ph = 0 ∧ V = O ∧ cV = cO ∧ o = (m : Int)) ∨ (ph = 1 ∧ V = A ∧ cV = cA ∧ a = m) ∨ (ph = 2 ∧ V = B ∧ cV = cB ∧ b = m)
theorem jw_at {ph a b m cV ix top : Nat} {o : Int} {V : List ND} {p : List Int} (hc : cO < 40 ∧ cA < 40 ∧ cB < 40) (hm : mpO O o) (ha : a < A.length ∧ nk A a = 5) (hb : b < B.length ∧ nk B b = 5) (hE : JE cO cA cB O A B S) (hF : JF S top o a b ix p) (h : JW O A B cO cA cB ph o a b V cV m) : (cV < 40 ∧ LK S cV V ∧ m < V.length ∧ nk V m = 5) ∧ (if (ph : Int) = 0 then S.1 528 top else if (ph : Int) = 1 then S.1 529 top else S.1 530 top) = (m : Int) ∧ (if (ph : Int) = 0 then (cO : Int) else if (ph : Int) = 1 then (cA : Int) else (cB : Int)) = (cV : Int) := by
  rcases h with ⟨z, e1, e2, e3⟩ | ⟨z, e1, e2, e3⟩ | ⟨z, e1, e2, e3⟩
  · subst e1 e2 z
    rcases hm with w | w
    · omega
    · rw [e3, Int.toNat_natCast] at w
      refine ⟨⟨hc.1, hE.2.1, by omega, w.2.2⟩, ?_, ?_⟩
      · rw [if_pos (by rfl), hF.1.1]
        exact e3
      · rw [if_pos (by rfl)]
  · subst e1 e2 z e3
    refine ⟨⟨hc.2.1, hE.2.2.1, ha.1, ha.2⟩, ?_, ?_⟩
    · rw [if_neg (by decide), if_pos (by rfl), hF.1.2.1]
    · rw [if_neg (by decide), if_pos (by rfl)]
  · subst e1 e2 z e3
    refine ⟨⟨hc.2.2, hE.2.2.2, hb.1, hb.2⟩, ?_, ?_⟩
    · rw [if_neg (by decide), if_neg (by decide), hF.1.2.2]
    · rw [if_neg (by decide), if_neg (by decide)]
theorem jn_take {ph a b m cV e ix top : Nat} {o : Int} {V : List ND} {p : List Int} {Qf : Int → GS → Prop} (hd : 6 ≤ d) (hc : cO < 40 ∧ cA < 40 ∧ cB < 40) (hO : DOC O) (hA : DOC A) (hB : DOC B) (hV : DOC V) (ht : top < 16) (hm : mpO O o) (ha : a < A.length ∧ nk A a = 5) (hb : b < B.length ∧ nk B b = 5) (hE : JE cO cA cB O A B S) (hF : JF S top o a b ix p) (h : JW O A B cO cA cB ph o a b V cV m) (h31 : S.1 531 top = (ph : Int)) (h32 : S.1 532 top = (e : Int)) (hme : e ≠ m + nz V m) (he : e < V.length) (go : (ph = 0 ∨ (vLk O o (nq V e) = -1 ∧ (ph = 1 ∨ vLk A (a : Int) (nq V e) = -1))) → ∀ S1, S1.1 532 top = ((e + nz V e : Nat) : Int) → FC (fun c j => c = 532 ∧ j = top) S S1 → Ev (fun n => f_X12_joins n d 260 S1 [((top + 1 : Nat) : Int), (top : Int), (e : Int), (cV : Int), vLk O o (nq V e), vLk A (a : Int) (nq V e), vLk B (b : Int) (nq V e)]) Qf) (skip : ¬ (ph = 0 ∨ (vLk O o (nq V e) = -1 ∧ (ph = 1 ∨ vLk A (a : Int) (nq V e) = -1))) → ∀ S1, S1.1 532 top = ((e + nz V e : Nat) : Int) → FC (fun c j => c = 532 ∧ j = top) S S1 → Ev (fun n => f_X12_joins n d 47 S1 [((top + 1 : Nat) : Int)]) Qf) : Ev (fun n => f_X12_joins n d 47 S [((top + 1 : Nat) : Int)]) Qf := by
  obtain ⟨⟨cV40, hL, ml, m5⟩, mo, dc⟩ := jw_at hc hm ha hb hE hF h
  have ph2 : ph ≤ 2 := by rcases h with z | z | z <;> omega
  have lO := hE.2.1.2.1
  have lA := hE.2.2.1.2.1
  have lB := hE.2.2.2.2.1
  have lV := hL.2.1
  have wm := hV.1.1.1.1.1 m ml
  have we := hV.1.1.1.1.1 e he
  have io : inr o := by
    rcases hm with w | w
    · rw [w]; decide
    · constructor <;> omega
  refine ev_up (fun n => e_X12_joins_47) ?_
  unfold b_X12_joins_47
  refine ev_gg (by first | omega | (constructor <;> omega)) ?_
  refine ev_ite (fun z => by omega) (fun _ => ?_)
  refine ev_gv ?_
  rw [show ((top + 1 : Nat) : Int) - 1 = (top : Int) by omega]
  refine ev_gg (by first | omega | (constructor <;> omega)) ?_
  refine ev_gv ?_
  rw [Int.toNat_natCast, h31]
  refine ev_gg (by first | omega | (constructor <;> omega)) ?_
  refine ev_gcr (q_mapOf (d := d - 1) (t := top) ht (by constructor <;> omega)) ?_
  rw [mo]
  refine ev_gg (by first | omega | (constructor <;> omega)) ?_
  refine ev_ite (fun z => by omega) (fun _ => ?_)
  refine ev_gv ?_
  rw [h32]
  refine ev_gcr (q_docOf (d := d - 1) hE.1 (by constructor <;> omega)) ?_
  rw [dc]
  refine ev_gcr (q_endL (d := d - 1) (K := cV) (I := m) (V := V) (by omega) rfl (by omega) rfl hL ml) ?_
  refine ev_gg (by first | omega | (constructor <;> omega)) ?_
  refine ev_gg (by first | omega | (constructor <;> omega)) ?_
  refine ev_ite (fun _ => ?_) (fun z => by omega)
  refine ev_gv ?_
  rw [h32]
  refine ev_gcr (q_docOf (d := d - 1) hE.1 (by constructor <;> omega)) ?_
  rw [dc]
  refine ev_gcr (q_endL (d := d - 1) (K := cV) (I := e) (V := V) (by omega) rfl (by omega) rfl hL he) ?_
  refine ev_gv ?_
  have f1 : FC (fun c j => c = 532 ∧ j = top) S (gI S 532 top ((e + nz V e : Nat) : Int)) := fc_gI ⟨rfl, rfl⟩
  have e1 : (gI S 532 top ((e + nz V e : Nat) : Int)).1 532 top = ((e + nz V e : Nat) : Int) := gI_a
  generalize gI S 532 top ((e + nz V e : Nat) : Int) = S1 at f1 e1 ⊢
  have E1 := je_fr hE f1 (by omega) (fun j _ => by omega) (by omega)
  have L1 := lk_fr hL f1 (fun j _ _ => by omega) (by omega)
  have p197 : ∀ x43 : Int, x43 = vLk O o (nq V e) → inr x43 → Ev (fun n => f_X12_joins n d 197 S1 [((top + 1 : Nat) : Int), (top : Int), (ph : Int), (e : Int), (cV : Int), x43]) Qf := by
    intro x43 hx hxi
    have iA : inr (vLk A (a : Int) (nq V e)) := vl_in hA.1.1 lA
    refine ev_up (fun n => e_X12_joins_197) ?_
    unfold b_X12_joins_197
    refine ev_gv ?_
    rw [E1.1.2.1]
    refine ev_gg (by first | omega | (constructor <;> omega)) ?_
    refine ev_gv ?_
    rw [Int.toNat_natCast, fc_i f1 (by omega), hF.1.2.1]
    refine ev_gg (by first | omega | (constructor <;> omega)) ?_
    refine ev_gcr (q_likeL (d := d - 1) (K := cA) (G := a) (F := cV) (J := e) (V := A) (W := V) (by omega) rfl (by omega) rfl rfl (by omega) rfl E1.2.2.1 hA.1.1 ha.1 L1 he) ?_
    rw [← vLk_c ha.1 ha.2]
    refine ev_gv ?_
    rw [E1.1.2.2]
    refine ev_gv ?_
    rw [fc_i f1 (by omega), hF.1.2.2]
    refine ev_gcr (q_likeL (d := d - 1) (K := cB) (G := b) (F := cV) (J := e) (V := B) (W := V) (by omega) rfl (by omega) rfl rfl (by omega) rfl E1.2.2.2 hB.1.1 hb.1 L1 he) ?_
    rw [← vLk_c hb.1 hb.2]
    refine ev_gg (by first | omega | (constructor <;> omega)) ?_
    subst hx
    refine ev_ite (fun z => ?_) (fun z => ?_)
    · exact go (Or.inl (by omega)) S1 e1 f1
    refine ev_gg (hxi) ?_
    refine ev_ite (fun z2 => ?_) (fun z2 => ?_)
    · exact skip (fun w => w.elim (fun y => z (by omega)) (fun y => z2 y.1)) S1 e1 f1
    have z2 : vLk O o (nq V e) = -1 := by omega
    refine ev_ite (fun z3 => ?_) (fun z3 => ?_)
    · exact go (Or.inr ⟨z2, Or.inl (by omega)⟩) S1 e1 f1
    refine ev_gg (iA) ?_
    refine ev_ite (fun z4 => ?_) (fun z4 => ?_)
    · exact skip (fun w => w.elim (fun y => z (by omega)) (fun y => y.2.elim (fun y => z3 (by omega)) z4)) S1 e1 f1
    · exact go (Or.inr ⟨z2, Or.inr (by omega)⟩) S1 e1 f1
  refine ev_gv ?_
  rw [fc_i f1 (by omega), hF.1.1]
  refine ev_gg (io) ?_
  refine ev_ite (fun z => ?_) (fun z => ?_)
  · obtain ⟨w1, w2, w3⟩ : 0 ≤ o ∧ o < (O.length : Int) ∧ nk O o.toNat = 5 := hm.elim (fun w => absurd w z) id
    obtain ⟨o', rfl⟩ : ∃ o' : Nat, o = (o' : Int) := ⟨o.toNat, by omega⟩
    rw [Int.toNat_natCast] at w3
    have ol : o' < O.length := by omega
    refine ev_gv ?_
    rw [E1.1.1]
    refine ev_gv ?_
    refine ev_gcr (q_likeL (d := d - 1) (K := cO) (G := o') (F := cV) (J := e) (V := O) (W := V) (by omega) rfl (by omega) rfl rfl (by omega) rfl E1.2.1 hO.1.1 ol L1 he) ?_
    rw [← vLk_c ol w3]
    exact p197 _ rfl (vl_in hO.1.1 lO)
  · have z' : o = -1 := by omega
    exact p197 (-1) (by rw [z', vLk_o1]) (by decide)
theorem jn_96 {ph top : Nat} {Qf : Int → GS → Prop} (hd : 1 ≤ d) (ht : top < 16) (hph : ph ≤ 2) (h31 : S.1 531 top = (ph : Int)) (last : ph = 2 → ∀ S1, FC (fun c j => (c = 531 ∨ c = 532) ∧ j = top) S S1 → Ev (fun n => f_X12_joins n d 47 S1 [(top : Int)]) Qf) (more : ph ≠ 2 → ∀ S1, FC (fun c j => (c = 531 ∨ c = 532) ∧ j = top) S S1 → S1.1 531 top = ((ph + 1 : Nat) : Int) → S1.1 532 top = (if ph = 0 then S.1 529 top else S.1 530 top) + 1 → Ev (fun n => f_X12_joins n d 47 S1 [((top + 1 : Nat) : Int)]) Qf) : Ev (fun n => f_X12_joins n d 96 S [((top + 1 : Nat) : Int), (top : Int), (ph : Int)]) Qf := by
  refine ev_up (fun n => e_X12_joins_96) ?_
  unfold b_X12_joins_96
  refine ev_gg (by first | omega | (constructor <;> omega)) ?_
  refine ev_gv ?_
  rw [Int.toNat_natCast, h31]
  refine ev_gv ?_
  refine ev_gv ?_
  have f1 : FC (fun c j => (c = 531 ∨ c = 532) ∧ j = top) S (gI S 531 top ((ph : Int) + 1)) := fc_gI ⟨Or.inl rfl, rfl⟩
  have e1 : (gI S 531 top ((ph : Int) + 1)).1 531 top = (ph : Int) + 1 := gI_a
  have e2 : ∀ c, c ≠ 531 → (gI S 531 top ((ph : Int) + 1)).1 c top = S.1 c top := fun c h => gI_c h
  generalize gI S 531 top ((ph : Int) + 1) = S1 at f1 e1 e2 ⊢
  refine ev_gg (by first | omega | (constructor <;> omega)) ?_
  refine ev_ite (fun z => ?_) (fun z => ?_)
  · refine ev_gv ?_
    refine ev_gg (by first | omega | (constructor <;> omega)) ?_
    refine ev_gcr (q_mapOf (d := d - 1) (t := top) ht (by constructor <;> omega)) ?_
    refine ev_gv ?_
    refine ev_gv ?_
    refine more (by omega) _ (fc_tr f1 (fc_gI ⟨Or.inr rfl, rfl⟩)) ?_ ?_
    · rw [gI_c (by decide), e1]
      rfl
    · rw [gI_a, if_neg (by omega)]
      by_cases c : ph = 0
      · rw [if_pos c, if_pos (by omega), e2 _ (by decide)]
      · rw [if_neg c, if_neg (by omega), e2 _ (by decide)]
  · refine ev_gv ?_
    rw [show ((top + 1 : Nat) : Int) + (-1) = (top : Int) by omega]
    exact last (by omega) S1 f1
theorem jn_end {ph a b m cV e ix top : Nat} {o : Int} {V : List ND} {p : List Int} {Qf : Int → GS → Prop} (hd : 6 ≤ d) (hc : cO < 40 ∧ cA < 40 ∧ cB < 40) (hV : DOC V) (ht : top < 16) (hm : mpO O o) (ha : a < A.length ∧ nk A a = 5) (hb : b < B.length ∧ nk B b = 5) (hE : JE cO cA cB O A B S) (hF : JF S top o a b ix p) (h : JW O A B cO cA cB ph o a b V cV m) (h31 : S.1 531 top = (ph : Int)) (h32 : S.1 532 top = (e : Int)) (hme : e = m + nz V m) (last : ph = 2 → ∀ S1, FC (fun c j => (c = 531 ∨ c = 532) ∧ j = top) S S1 → Ev (fun n => f_X12_joins n d 47 S1 [(top : Int)]) Qf) (more : ph ≠ 2 → ∀ S1, FC (fun c j => (c = 531 ∨ c = 532) ∧ j = top) S S1 → S1.1 531 top = ((ph + 1 : Nat) : Int) → S1.1 532 top = (if ph = 0 then S.1 529 top else S.1 530 top) + 1 → Ev (fun n => f_X12_joins n d 47 S1 [((top + 1 : Nat) : Int)]) Qf) : Ev (fun n => f_X12_joins n d 47 S [((top + 1 : Nat) : Int)]) Qf := by
  obtain ⟨⟨cV40, hL, ml, m5⟩, mo, dc⟩ := jw_at hc hm ha hb hE hF h
  have ph2 : ph ≤ 2 := by rcases h with z | z | z <;> omega
  have lV := hL.2.1
  have wm := hV.1.1.1.1.1 m ml
  refine ev_up (fun n => e_X12_joins_47) ?_
  unfold b_X12_joins_47
  refine ev_gg (by first | omega | (constructor <;> omega)) ?_
  refine ev_ite (fun z => by omega) (fun _ => ?_)
  refine ev_gv ?_
  rw [show ((top + 1 : Nat) : Int) - 1 = (top : Int) by omega]
  refine ev_gg (by first | omega | (constructor <;> omega)) ?_
  refine ev_gv ?_
  rw [Int.toNat_natCast, h31]
  refine ev_gg (by first | omega | (constructor <;> omega)) ?_
  refine ev_gcr (q_mapOf (d := d - 1) (t := top) ht (by constructor <;> omega)) ?_
  rw [mo]
  refine ev_gg (by first | omega | (constructor <;> omega)) ?_
  refine ev_ite (fun z => by omega) (fun _ => ?_)
  refine ev_gv ?_
  rw [h32]
  refine ev_gcr (q_docOf (d := d - 1) hE.1 (by constructor <;> omega)) ?_
  rw [dc]
  refine ev_gcr (q_endL (d := d - 1) (K := cV) (I := m) (V := V) (by omega) rfl (by omega) rfl hL ml) ?_
  refine ev_gg (by first | omega | (constructor <;> omega)) ?_
  refine ev_gg (by first | omega | (constructor <;> omega)) ?_
  refine ev_ite (fun z => absurd (by rw [hme]) z) (fun _ => ?_)
  exact jn_96 (by omega) ht ph2 h31 last more
theorem jn_none {top : Nat} {Qf : Int → GS → Prop} (hd : 6 ≤ d) (ht : top < 16) (h28 : S.1 528 top = -1) (h31 : S.1 531 top = 0) (more : ∀ S1, FC (fun c j => (c = 531 ∨ c = 532) ∧ j = top) S S1 → S1.1 531 top = 1 → S1.1 532 top = S.1 529 top + 1 → Ev (fun n => f_X12_joins n d 47 S1 [((top + 1 : Nat) : Int)]) Qf) : Ev (fun n => f_X12_joins n d 47 S [((top + 1 : Nat) : Int)]) Qf := by
  refine ev_up (fun n => e_X12_joins_47) ?_
  unfold b_X12_joins_47
  refine ev_gg (by first | omega | (constructor <;> omega)) ?_
  refine ev_ite (fun z => by omega) (fun _ => ?_)
  refine ev_gv ?_
  rw [show ((top + 1 : Nat) : Int) - 1 = (top : Int) by omega]
  refine ev_gg (by first | omega | (constructor <;> omega)) ?_
  refine ev_gv ?_
  rw [Int.toNat_natCast, h31]
  refine ev_gg (by first | omega | (constructor <;> omega)) ?_
  refine ev_gcr (q_mapOf (d := d - 1) (t := top) ht (by decide)) ?_
  rw [if_pos rfl, h28]
  refine ev_gg (by decide) ?_
  refine ev_ite (fun _ => ?_) (fun z => by omega)
  exact jn_96 (ph := 0) (by omega) ht (by decide) h31 (fun z => by cases z) (fun _ S1 f e1 e2 => more S1 f e1 (by rw [if_pos rfl] at e2; exact e2))
end RJ5
