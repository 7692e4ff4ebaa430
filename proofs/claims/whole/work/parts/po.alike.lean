/-! THE REFERENCE joins: what is alike, QUARRELS met -/
section RJ0
variable {S : GS} {d K F : Nat} {V U : List ND}
theorem q_areAlike {k i f j : Int} (hd : 9 ≤ d) (hk : k = (K : Int)) (hK : K < 48) (hf : f = (F : Int)) (hF : F < 48) (hi : nOK V i) (hj : nOK U j) (hL : LK S K V) (hM : LK S F U) (hV : DOC V) (hU : DOC U) : Ev (fun n => f_X12_areAlike n d 0 S [k, i, f, j]) (fun x S1 => x = (if alk V i U j then 1 else 0) ∧ FC eqP S S1) := by
  have l1 := hL.2.1
  have l2 := hM.2.1
  have ii : inr i := by constructor <;> omega
  have ij : inr j := by constructor <;> omega
  have p11 : (i = -1 ∨ j = -1) → Ev (fun n => f_X12_areAlike n d 11 S [i, j]) (fun x S1 => x = (if alk V i U j then 1 else 0) ∧ FC eqP S S1) := by
    intro h
    have e : alk V i U j ↔ i = j := by
      show (if i = -1 ∨ j = -1 then i = j else smJ 13 V i.toNat U j = true) ↔ i = j
      rw [if_pos h]
    refine ev_up (fun n => e_X12_areAlike_11) ?_
    unfold b_X12_areAlike_11
    refine ev_gg (ii) ?_
    refine ev_gg (ij) ?_
    refine ev_ite (fun z => ?_) (fun z => ?_)
    · refine ev_ret ⟨?_, fc_rf⟩
      rw [if_neg (fun w => z (e.mp w))]
    · refine ev_ret ⟨?_, fc_rf⟩
      rw [if_pos (e.mpr (by omega))]
  refine ev_up (fun n => e_X12_areAlike_0) ?_
  unfold b_X12_areAlike_0
  refine ev_gg (ii) ?_
  refine ev_ite (fun z => p11 (Or.inl z)) (fun z => ?_)
  refine ev_gg (ij) ?_
  refine ev_ite (fun z2 => ?_) (fun z2 => p11 (Or.inr (by omega)))
  obtain ⟨I, rfl⟩ : ∃ I : Nat, i = (I : Int) := ⟨i.toNat, by omega⟩
  obtain ⟨J, rfl⟩ : ∃ J : Nat, j = (J : Int) := ⟨j.toNat, by omega⟩
  have hI : I < V.length := by omega
  have hJ : J < U.length := by omega
  refine ev_gg (by first | omega | (constructor <;> omega)) ?_
  refine ev_gc (q_areEqual (d := d - 1) (I := I) (J := J) (by omega) hk hK rfl hf hF rfl hL hM hV.1 hU.1 hI hJ (doc_sg hV hI).2.1 (doc_sg hU hJ).2.1) (fun x S1 q => ?_)
  obtain ⟨xe, f1⟩ := q
  have e : alk V (I : Int) U (J : Int) ↔ smF 13 (sg V I) (sg U J) = true := by
    show (if (I : Int) = -1 ∨ (J : Int) = -1 then (I : Int) = J else smJ 13 V (I : Int).toNat U (J : Int) = true) ↔ _
    rw [if_neg (by omega), Int.toNat_natCast]
    unfold smJ
    rw [if_pos (show 0 ≤ (J : Int) ∧ (J : Int) < (U.length : Int) by omega), Int.toNat_natCast]
  have x01 : x = 0 ∨ x = 1 := by
    rw [xe]
    split
    · exact Or.inr rfl
    · exact Or.inl rfl
  refine ev_gg (x01) ?_
  refine ev_ret ⟨?_, f1⟩
  rw [xe]
  by_cases c : smF 13 (sg V I) (sg U J) = true
  · rw [if_pos c, if_pos (e.mpr c)]
  · rw [if_neg c, if_neg (fun z => c (e.mp z))]
/-- EQUAL to one is EQUAL to the other -/
theorem alk_tr {O A B : List ND} {o a b : Int} (hO : DOC O) (hA : DOC A) (hB : DOC B) (ho : nOK O o) (ha : nOK A a) (hb : nOK B b) (h1 : alk A a O o) (h2 : alk B b O o) : alk A a B b := by
  have wr : ∀ (V U : List ND) (I J : Nat), DOC V → DOC U → I < V.length → J < U.length → (alk V (I : Int) U (J : Int) ↔ wrF 12 1 0 (sg V I) = wrF 12 1 0 (sg U J)) := fun V U I J hV hU hI hJ => by
    have e : alk V (I : Int) U (J : Int) ↔ smF 13 (sg V I) (sg U J) = true := by
      show (if (I : Int) = -1 ∨ (J : Int) = -1 then (I : Int) = J else smJ 13 V (I : Int).toNat U (J : Int) = true) ↔ _
      rw [if_neg (by omega), Int.toNat_natCast]
      unfold smJ
      rw [if_pos (show 0 ≤ (J : Int) ∧ (J : Int) < (U.length : Int) by omega), Int.toNat_natCast]
    rw [e]
    obtain ⟨s1, s2, s3⟩ := doc_sg hV hI
    obtain ⟨t1, t2, t3⟩ := doc_sg hU hJ
    exact eq_wr s1 t1 s3 t3 s2 t2
  have no : ∀ (V U : List ND) (i j : Int), alk V i U j → (i = -1 ∨ j = -1) → i = j := fun V U i j h z => by
    have h' : (if i = -1 ∨ j = -1 then i = j else smJ 13 V i.toNat U j = true) := h
    rw [if_pos z] at h'
    exact h'
  by_cases c : o = -1
  · have e1 := no _ _ _ _ h1 (Or.inr c)
    have e2 := no _ _ _ _ h2 (Or.inr c)
    show (if a = -1 ∨ b = -1 then a = b else smJ 13 A a.toNat B b = true)
    rw [if_pos (by omega)]
    omega
  · have c1 : a ≠ -1 := fun z => c (by have := no _ _ _ _ h1 (Or.inl z); omega)
    have c2 : b ≠ -1 := fun z => c (by have := no _ _ _ _ h2 (Or.inl z); omega)
    obtain ⟨I, rfl⟩ : ∃ I : Nat, a = (I : Int) := ⟨a.toNat, by omega⟩
    obtain ⟨J, rfl⟩ : ∃ J : Nat, b = (J : Int) := ⟨b.toNat, by omega⟩
    obtain ⟨M, rfl⟩ : ∃ M : Nat, o = (M : Int) := ⟨o.toNat, by omega⟩
    rw [wr A O I M hA hO (by omega) (by omega)] at h1
    rw [wr B O J M hB hO (by omega) (by omega)] at h2
    exact (wr A B I J hA hB (by omega) (by omega)).mpr (h1.trans h2.symm)
/-- QUARRELS met so far -/
def QmS (Q : List (List Int)) (S : GS) : Prop := S.1 500 57 = (Q.length : Int) ∧ Q.length ≤ 200 ∧ (∀ q ∈ Q, q.length ≤ 300 ∧ ∀ x ∈ q, 0 ≤ x ∧ x < 256) ∧ (∀ k, k ≤ Q.length → S.1 537 k = ((Q.take k).flatten.length : Int)) ∧ ∀ j, j < Q.flatten.length → S.1 538 j = Q.flatten.getD j 0
abbrev qmP : Nat → Nat → Prop := fun c j => (c = 500 ∧ j = 57) ∨ c = 537 ∨ c = 538
theorem qm_fr {P : Nat → Nat → Prop} {S1 : GS} {Q : List (List Int)} (h : QmS Q S) (hf : FC P S S1) (h1 : ¬ P 500 57) (h2 : ∀ j, ¬ P 537 j) (h3 : ∀ j, ¬ P 538 j) : QmS Q S1 := ⟨by rw [fc_i hf h1]; exact h.1, h.2.1, h.2.2.1, fun k hk => by rw [fc_i hf (h2 k)]; exact h.2.2.2.1 k hk, fun j hj => by rw [fc_i hf (h3 j)]; exact h.2.2.2.2 j hj⟩
theorem fl_300 : ∀ (Q : List (List Int)), (∀ q ∈ Q, q.length ≤ 300) → Q.flatten.length ≤ 300 * Q.length
  | [], _ => by decide
  | q :: Q, h => by
    rw [List.flatten_cons, List.length_append, List.length_cons]
    have := h q List.mem_cons_self
    have := fl_300 Q (fun q hq => h q (List.mem_cons_of_mem _ hq))
    omega
/-- a QUARREL is met -/
theorem q_met {p : List Int} {Q : List (List Int)} (hp : PaS S p) (hl : p.length ≤ 300) (h : QmS Q S) (hQ : Q.length < 200) : Ev (fun n => f_X12_joinsOne n d 221 S [0]) (fun x S1 => x = 0 ∧ QmS (Q ++ [p]) S1 ∧ FC qmP S S1) := by
  obtain ⟨a1, a2, a3, a4, a5⟩ := h
  have fl := fl_300 Q (fun q hq => (a3 q hq).1)
  have tk : Q.take Q.length = Q := List.take_length
  have at0 := a4 Q.length (Nat.le_refl _)
  rw [tk] at at0
  have lp : ∀ (u i : Nat) (S1 : GS), i + u = p.length → FC (fun c j => c = 538 ∧ Q.flatten.length ≤ j) S S1 → (∀ j, j < i → S1.1 538 (Q.flatten.length + j) = p.getD j 0) → Ev (fun n => f_X12_joinsOne n d 221 S1 [(i : Int)]) (fun x S1 => x = 0 ∧ QmS (Q ++ [p]) S1 ∧ FC qmP S S1) := by
    intro u
    induction u with
    | zero =>
      intro i S1 hi f1 c
      refine ev_up (fun n => e_X12_joinsOne_221) ?_
      unfold b_X12_joinsOne_221
      refine ev_gv ?_
      rw [fc_i f1 (by omega), hp.1]
      refine ev_gg (by first | omega | (constructor <;> omega)) ?_
      refine ev_gg (by first | omega | (constructor <;> omega)) ?_
      refine ev_ite (fun _ => ?_) (fun z => by omega)
      refine ev_gv ?_
      rw [fc_i f1 (by omega), a1]
      refine ev_gv ?_
      refine ev_gv ?_
      refine ev_gg (by first | omega | (constructor <;> omega)) ?_
      refine ev_gv ?_
      rw [Int.toNat_natCast, fc_i f1 (by omega), at0]
      refine ev_gv ?_
      refine ev_gv ?_
      refine ev_gg (by first | omega | (constructor <;> omega)) ?_
      refine ev_gv ?_
      rw [show ((Q.length : Int) + 1).toNat = Q.length + 1 by omega]
      refine ev_gv ?_
      rw [gI_c (by decide), fc_i f1 (by omega), a1]
      refine ev_gv ?_
      refine ev_gv ?_
      have f2 : FC qmP S1 (gI (gI S1 537 (Q.length + 1) ((Q.flatten.length : Int) + (p.length : Int))) 500 57 ((Q.length : Int) + 1)) := fc_tr (fc_gI (Or.inr (Or.inl rfl))) (fc_gI (Or.inl ⟨rfl, rfl⟩))
      have c8 : ∀ j, (gI (gI S1 537 (Q.length + 1) ((Q.flatten.length : Int) + (p.length : Int))) 500 57 ((Q.length : Int) + 1)).1 538 j = S1.1 538 j := fun j => by rw [gI_c (by decide), gI_c (by decide)]
      refine ev_ret ⟨rfl, ⟨by rw [gI_a, List.length_append, List.length_singleton]; omega, by rw [List.length_append, List.length_singleton]; omega, fun q hq => ?_, fun k hk => ?_, fun j hj => ?_⟩, fc_tr (fc_mono f1 (fun c j z => Or.inr (Or.inr z.1))) f2⟩
      · rcases List.mem_append.mp hq with z | z
        · exact a3 q z
        · rw [List.mem_singleton] at z
          subst z
          exact ⟨hl, hp.2.2.2⟩
      · rw [List.length_append, List.length_singleton] at hk
        rw [gI_c (by decide)]
        by_cases e : k = Q.length + 1
        · subst e
          rw [gI_a, List.take_of_length_le (by rw [List.length_append]; exact Nat.le_refl _), List.flatten_append, List.length_append, List.flatten_cons, List.flatten_nil, List.append_nil]
          omega
        · rw [gI_k e, fc_i f1 (by omega), a4 k (by omega), List.take_append_of_le_length (by omega)]
      · rw [c8]
        rw [List.flatten_append, List.flatten_cons, List.flatten_nil, List.append_nil] at hj ⊢
        rw [List.length_append] at hj
        by_cases e : j < Q.flatten.length
        · rw [fc_i f1 (by omega), a5 j e, List.getD_eq_getElem?_getD, List.getD_eq_getElem?_getD, List.getElem?_append_left e]
        · obtain ⟨k, rfl⟩ : ∃ k, j = Q.flatten.length + k := ⟨j - Q.flatten.length, by omega⟩
          rw [c k (by omega), List.getD_eq_getElem?_getD, List.getD_eq_getElem?_getD, List.getElem?_append_right (by omega), Nat.add_sub_cancel_left]
    | succ u ih =>
      intro i S1 hi f1 c
      have pi := pa_at hp (i := i) (by omega)
      refine ev_up (fun n => e_X12_joinsOne_221) ?_
      unfold b_X12_joinsOne_221
      refine ev_gv ?_
      rw [fc_i f1 (by omega), hp.1]
      refine ev_gg (by first | omega | (constructor <;> omega)) ?_
      refine ev_gg (by first | omega | (constructor <;> omega)) ?_
      refine ev_ite (fun z => by omega) (fun _ => ?_)
      refine ev_gv ?_
      rw [fc_i f1 (by omega), a1]
      refine ev_gg (by first | omega | (constructor <;> omega)) ?_
      refine ev_gv ?_
      rw [Int.toNat_natCast, fc_i f1 (by omega), at0]
      refine ev_gv ?_
      refine ev_gg (by first | omega | (constructor <;> omega)) ?_
      refine ev_gv ?_
      rw [Int.toNat_natCast, fc_i f1 (by omega), pi.1]
      refine ev_gg (by first | omega | (constructor <;> omega)) ?_
      refine ev_gv ?_
      rw [show ((Q.flatten.length : Int) + (i : Int)).toNat = Q.flatten.length + i by omega]
      refine ev_gv ?_
      rw [show (i : Int) + 1 = ((i + 1 : Nat) : Int) by omega]
      have f2 : FC (fun c j => c = 538 ∧ Q.flatten.length ≤ j) S1 (gI S1 538 (Q.flatten.length + i) (p.getD i 0)) := fc_gI ⟨rfl, by omega⟩
      refine ih (i + 1) _ (by omega) (fc_tr f1 f2) (fun j hj => ?_)
      by_cases e : j = i
      · subst e; rw [gI_a]
      · rw [gI_k (by omega)]; exact c j (by omega)
  exact lp p.length 0 S (by omega) fc_rf (fun j hj => absurd hj (Nat.not_lt_zero j))
abbrev paQ (pl : Nat) : Nat → Nat → Prop := fun c j => (c = 500 ∧ j = 29) ∨ (c = 518 ∧ pl ≤ j)
/-- a WORD comes behind the path -/
theorem q_addsWord {p w : List Int} (hp : PaS S p) (hw : WD S w) (hl : p.length + 2 * w.length + 1 ≤ 890) : Ev (fun n => f_X12_addsWord n d 0 S []) (fun _ S1 => PaS S1 (p ++ (47 :: w.flatMap esc)) ∧ FC (paQ p.length) S S1) := by
  have push : ∀ (S1 : GS) (l : List Int) (x : Int), PaS S1 l → (0 ≤ x ∧ x < 256) → l.length < 890 → p.length ≤ l.length → PaS (gI (gI S1 518 l.length x) 500 29 ((l.length : Int) + 1)) (l ++ [x]) ∧ FC (paQ p.length) S1 (gI (gI S1 518 l.length x) 500 29 ((l.length : Int) + 1)) := fun S1 l x h1 hx h2 h3 => ⟨pa_push h1 hx (by omega), fc_tr (fc_gI (Or.inr ⟨rfl, h3⟩)) (fc_gI (Or.inl ⟨rfl, rfl⟩))⟩
  have el : ∀ (k : Nat), k ≤ w.length → ((w.take k).flatMap esc).length ≤ 2 * k := fun k hk => by
    have := escs_len (w.take k)
    rw [List.length_take] at this
    omega
  have lp : ∀ (u i : Nat) (S1 : GS), i + u = w.length → FC (paQ p.length) S S1 → PaS S1 (p ++ 47 :: (w.take i).flatMap esc) → Ev (fun n => f_X12_addsWord n d 23 S1 [(i : Int)]) (fun _ S1 => PaS S1 (p ++ (47 :: w.flatMap esc)) ∧ FC (paQ p.length) S S1) := by
    intro u
    induction u with
    | zero =>
      intro i S1 hi f1 pa
      have hi' : i = w.length := by omega
      rw [hi', List.take_length] at pa
      refine ev_up (fun n => e_X12_addsWord_23) ?_
      unfold b_X12_addsWord_23
      refine ev_gv ?_
      rw [fc_i f1 (by omega), hw.1]
      refine ev_gg (by first | omega | (constructor <;> omega)) ?_
      refine ev_gg (by first | omega | (constructor <;> omega)) ?_
      refine ev_ite (fun _ => ?_) (fun z => by omega)
      exact ev_ret ⟨pa, f1⟩
    | succ u ih =>
      intro i S1 hi f1 pa
      have hil : i < w.length := by omega
      have wi := hw.2.2.2 _ (getD_in (q := w) (t := i) hil)
      have ci : S1.1 507 i = w.getD i 0 := by rw [fc_i f1 (by omega)]; exact hw.2.2.1 i hil
      have e2 := el i (by omega)
      have ts : (w.take (i + 1)).flatMap esc = (w.take i).flatMap esc ++ esc (w.getD i 0) := by
        rw [List.take_add_one, List.flatMap_append, List.getD_eq_getElem?_getD, List.getElem?_eq_getElem hil]
        simp
      have ll : (p ++ 47 :: (w.take i).flatMap esc).length ≤ p.length + 1 + 2 * i := by
        rw [List.length_append, List.length_cons]
        omega
      have go : ∀ S2, FC (paQ p.length) S1 S2 → PaS S2 ((p ++ 47 :: (w.take i).flatMap esc) ++ esc (w.getD i 0)) → Ev (fun n => f_X12_addsWord n d 23 S2 [((i + 1 : Nat) : Int)]) (fun _ S1 => PaS S1 (p ++ (47 :: w.flatMap esc)) ∧ FC (paQ p.length) S S1) := by
        intro S2 f2 pa2
        refine ih (i + 1) S2 (by omega) (fc_tr f1 f2) ?_
        rw [ts]
        rw [List.append_assoc, List.cons_append] at pa2
        exact pa2
      have p58 : ∀ s : Int, s = (if w.getD i 0 = 126 ∨ w.getD i 0 = 47 then 1 else 0) → Ev (fun n => f_X12_addsWord n d 58 S1 [(i : Int), s]) (fun _ S1 => PaS S1 (p ++ (47 :: w.flatMap esc)) ∧ FC (paQ p.length) S S1) := by
        intro s hs
        refine ev_up (fun n => e_X12_addsWord_58) ?_
        unfold b_X12_addsWord_58
        refine ev_gv ?_
        rw [pa.1]
        by_cases c : w.getD i 0 = 126 ∨ w.getD i 0 = 47
        · rw [if_pos c] at hs
          subst hs
          refine ev_gg (by decide) ?_
          refine ev_ite (fun z => by omega) (fun _ => ?_)
          obtain ⟨pa1, fa1⟩ := push S1 _ 126 pa (by decide) (by omega) (by rw [List.length_append]; omega)
          have pl1 : ((p ++ 47 :: (w.take i).flatMap esc) ++ [126]).length = (p ++ 47 :: (w.take i).flatMap esc).length + 1 := by rw [List.length_append]; rfl
          refine ev_up (fun n => e_X12_addsWord_82) ?_
          unfold b_X12_addsWord_82
          refine ev_gg (by first | omega | (constructor <;> omega)) ?_
          refine ev_gv ?_
          rw [Int.toNat_natCast]
          refine ev_gv ?_
          rw [gI_c (by decide), pa.1]
          refine ev_gv ?_
          refine ev_gv ?_
          refine ev_gg (by decide) ?_
          refine ev_ite (fun z => by omega) (fun _ => ?_)
          refine ev_gv ?_
          rw [pa1.1, pl1]
          refine ev_gg (by first | omega | (constructor <;> omega)) ?_
          refine ev_gv ?_
          rw [Int.toNat_natCast, gI_c (by decide), gI_c (by decide), ci]
          refine ev_gg (by first | omega | (constructor <;> omega)) ?_
          have p123 : ∀ y : Int, y = (if w.getD i 0 = 126 then 48 else 49) → Ev (fun n => f_X12_addsWord n d 123 (gI (gI S1 518 (p ++ 47 :: (w.take i).flatMap esc).length 126) 500 29 (((p ++ 47 :: (w.take i).flatMap esc).length : Int) + 1)) [(i : Int), y, (((p ++ 47 :: (w.take i).flatMap esc).length + 1 : Nat) : Int)]) (fun _ S1 => PaS S1 (p ++ (47 :: w.flatMap esc)) ∧ FC (paQ p.length) S S1) := by
            intro y hy
            have yr : 0 ≤ y ∧ y < 256 := by
              rw [hy]
              split <;> decide
            obtain ⟨pa2, fa2⟩ := push _ _ y pa1 yr (by omega) (by rw [pl1, List.length_append]; omega)
            rw [pl1] at pa2 fa2
            refine ev_up (fun n => e_X12_addsWord_123) ?_
            unfold b_X12_addsWord_123
            refine ev_gg (by first | omega | (constructor <;> omega)) ?_
            refine ev_gv ?_
            rw [Int.toNat_natCast]
            refine ev_gv ?_
            rw [gI_c (by decide), pa1.1, pl1]
            refine ev_gv ?_
            refine ev_gv ?_
            refine ev_gv ?_
            rw [show (i : Int) + 1 = ((i + 1 : Nat) : Int) by omega]
            refine go _ (fc_tr fa1 fa2) ?_
            have ee : esc (w.getD i 0) = [126, y] := by
              unfold esc
              rw [hy]
              rcases c with z | z
              · rw [if_pos z, if_pos z]
              · rw [if_neg (by omega), if_pos z, if_neg (by omega)]
            rw [ee]
            rw [List.append_assoc] at pa2
            exact pa2
          refine ev_ite (fun z => ?_) (fun z => ?_)
          · exact p123 49 (by rw [if_neg z])
          · exact p123 48 (by rw [if_pos (by omega)])
        · rw [if_neg c] at hs
          subst hs
          refine ev_gg (by decide) ?_
          refine ev_ite (fun _ => ?_) (fun z => by omega)
          refine ev_gg (by first | omega | (constructor <;> omega)) ?_
          refine ev_gv ?_
          rw [Int.toNat_natCast, ci]
          obtain ⟨pa1, fa1⟩ := push S1 _ (w.getD i 0) pa wi (by omega) (by rw [List.length_append]; omega)
          refine ev_up (fun n => e_X12_addsWord_82) ?_
          unfold b_X12_addsWord_82
          refine ev_gg (by first | omega | (constructor <;> omega)) ?_
          refine ev_gv ?_
          rw [Int.toNat_natCast]
          refine ev_gv ?_
          rw [gI_c (by decide), pa.1]
          refine ev_gv ?_
          refine ev_gv ?_
          refine ev_gg (by decide) ?_
          refine ev_ite (fun _ => ?_) (fun z => by omega)
          refine ev_gv ?_
          rw [show (i : Int) + 1 = ((i + 1 : Nat) : Int) by omega]
          refine go _ fa1 ?_
          have ee : esc (w.getD i 0) = [w.getD i 0] := by
            unfold esc
            rw [if_neg (fun z => c (Or.inl z)), if_neg (fun z => c (Or.inr z))]
          rw [ee]
          exact pa1
      refine ev_up (fun n => e_X12_addsWord_23) ?_
      unfold b_X12_addsWord_23
      refine ev_gv ?_
      rw [fc_i f1 (by omega), hw.1]
      refine ev_gg (by first | omega | (constructor <;> omega)) ?_
      refine ev_gg (by first | omega | (constructor <;> omega)) ?_
      refine ev_ite (fun z => by omega) (fun _ => ?_)
      refine ev_gg (by first | omega | (constructor <;> omega)) ?_
      refine ev_gv ?_
      rw [Int.toNat_natCast, ci]
      refine ev_gg (by first | omega | (constructor <;> omega)) ?_
      refine ev_ite (fun z => p58 1 (by rw [if_pos (Or.inl z)])) (fun z => ?_)
      refine ev_gv ?_
      refine ev_gg (by first | omega | (constructor <;> omega)) ?_
      refine ev_ite (fun z2 => p58 0 (by rw [if_neg (fun w => w.elim z z2)])) (fun z2 => p58 1 (by rw [if_pos (Or.inr (by omega))]))
  obtain ⟨pa1, fa1⟩ := push S p 47 hp (by decide) (by omega) (Nat.le_refl _)
  refine ev_up (fun n => e_X12_addsWord_0) ?_
  unfold b_X12_addsWord_0
  refine ev_gv ?_
  rw [hp.1]
  refine ev_gg (by first | omega | (constructor <;> omega)) ?_
  refine ev_gv ?_
  rw [Int.toNat_natCast]
  refine ev_gv ?_
  rw [gI_c (by decide), hp.1]
  refine ev_gv ?_
  refine ev_gv ?_
  exact lp w.length 0 _ (by omega) fa1 pa1
end RJ0
