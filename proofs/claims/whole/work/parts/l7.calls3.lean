/-! THE REFERENCE's calls: tell, write, sum -/
abbrev tlO (V : List ND) (i : Nat) (w : Int) : Prop := w = 3 ∨ (w = 0 ∧ nk V i = 3) ∨ (w = 1 ∧ nk V i = 2) ∨ (w = 2 ∧ 1 ≤ i ∧ nk V (owI V i).toNat = 5)
def tlT (V : List ND) (i : Nat) (w : Int) : List Int := if w = 3 then pth V i else if w = 2 then nq V i else nt V i
theorem sgN_nt {V : List ND} {i : Nat} : nt V i = (if nk V i = 2 ∧ hdI (nt V i) = 45 then [45] else []) ++ sgN (V.getD i nd0) := by
  unfold sgN
  by_cases c : nk V i = 2 ∧ hdI (nt V i) = 45
  · rw [if_pos c, if_pos (show (V.getD i nd0).1 = 2 ∧ hdI (V.getD i nd0).2.2.2.1 = 45 from c)]
    exact hd_cons c.2
  · rw [if_neg c, if_neg (show ¬ ((V.getD i nd0).1 = 2 ∧ hdI (V.getD i nd0).2.2.2.1 = 45) from c)]
    rfl
/-- the last letters are of the alphabet -/
theorem alS_all {a : Int} : ∀ (f t : Nat), alS a f t = 1 ↔ ∀ j, t ≤ j → j < t + f → okS (ltr a j)
  | 0, t => ⟨fun _ j h1 h2 => by omega, fun _ => rfl⟩
  | f + 1, t => by
    have ih := alS_all (a := a) f (t + 1)
    show (if okS (ltr a t) then alS a f (t + 1) else 0) = 1 ↔ _
    by_cases c : okS (ltr a t)
    · rw [if_pos c, ih]
      refine ⟨fun h j h1 h2 => ?_, fun h j h1 h2 => h j (by omega) (by omega)⟩
      by_cases e : j = t
      · rw [e]; exact c
      · exact h j (by omega) (by omega)
    · rw [if_neg c]
      exact ⟨(fun h => (by cases h)), fun h => absurd (h t (Nat.le_refl t) (by omega)) c⟩
theorem asL_iff {a : Int} {n : Nat} (ha : inl a) (h1 : 1 ≤ n) (h8 : n ≤ 8) : asL n a = 1 ↔ 0 ≤ a ∧ (n < 8 → a / ((2 ^ (8 * n) : Nat) : Int) = 0) ∧ ∀ j, j < n → okS (ltr a j) := by
  unfold asL
  have al := alS_all (a := a) n 0
  by_cases h0 : 0 ≤ a
  · have em : a % 18446744073709551616 = a := by omega
    rw [em]
    by_cases c : n < 8 ∧ a / ((2 ^ (8 * n) : Nat) : Int) ≠ 0
    · rw [if_pos c]
      exact ⟨fun h => (by cases h), fun h => absurd (h.2.1 c.1) c.2⟩
    · rw [if_neg c, al]
      refine ⟨fun h => ⟨h0, fun q => ?_, fun j hj => h j (Nat.zero_le j) (by omega)⟩, fun h j _ hj => h.2.2 j (by omega)⟩
      by_cases e : a / ((2 ^ (8 * n) : Nat) : Int) = 0
      · exact e
      · exact absurd ⟨q, e⟩ c
  · refine ⟨fun h => ?_, fun h => absurd h.1 h0⟩
    exfalso
    have rg : 9223372036854775808 ≤ a % 18446744073709551616 := by omega
    by_cases n8 : n < 8
    · have nz : a % 18446744073709551616 / ((2 ^ (8 * n) : Nat) : Int) ≠ 0 := by
        rcases (show n = 1 ∨ n = 2 ∨ n = 3 ∨ n = 4 ∨ n = 5 ∨ n = 6 ∨ n = 7 by omega) with rfl | rfl | rfl | rfl | rfl | rfl | rfl
        · rw [show ((2 ^ (8 * 1) : Nat) : Int) = 256 from rfl]; omega
        · rw [show ((2 ^ (8 * 2) : Nat) : Int) = 65536 from rfl]; omega
        · rw [show ((2 ^ (8 * 3) : Nat) : Int) = 16777216 from rfl]; omega
        · rw [show ((2 ^ (8 * 4) : Nat) : Int) = 4294967296 from rfl]; omega
        · rw [show ((2 ^ (8 * 5) : Nat) : Int) = 1099511627776 from rfl]; omega
        · rw [show ((2 ^ (8 * 6) : Nat) : Int) = 281474976710656 from rfl]; omega
        · rw [show ((2 ^ (8 * 7) : Nat) : Int) = 72057594037927936 from rfl]; omega
      rw [if_pos ⟨n8, nz⟩] at h
      cases h
    · have e8 : n = 8 := by omega
      subst e8
      rw [if_neg (fun z => n8 z.1), al] at h
      have := h 7 (by decide) (by decide)
      unfold ltr okS at this
      rw [show ((2 ^ (8 * 7) : Nat) : Int) = 72057594037927936 from rfl] at this
      omega
theorem wrD_ok {a : Int} : ∀ (k : Nat), ∀ x ∈ wrD a k, 0 ≤ x ∧ x < 256
  | 0 => fun x hx => by cases hx
  | k + 1 => fun x hx => by
    rcases List.mem_cons.mp hx with z | z
    · rw [z]; exact ltr_r a k
    · exact wrD_ok k x z
theorem tk_snoc {q : List Int} {u : Nat} {y : Int} (lu : u < q.length) (g1 : q.getD u 0 = y) : q.take (u + 1) = q.take u ++ [y] := by
  rw [List.take_add_one, List.getElem?_eq_getElem lu]
  rw [List.getD_eq_getElem?_getD, List.getElem?_eq_getElem lu] at g1
  have : q[u] = y := g1
  rw [this]
  rfl
def szs : List (List ND) → Nat
  | [] => 0
  | V :: D => V.length + szs D
section CA3
variable {S0 S S1 : GS} {T0 : List ND} {Ds : List (List ND)} {pg pp : List Int} {r : Int} {L : List Nat} {Q : List (List Int)} {C : List (Int × Int)} {d : Nat}
theorem r_tell {a i w : Int} (hd : 6 ≤ d) (ha : inr a) (hi : inr i) (hw : inr w) (h : RfS S0 T0 Ds pg pp r L Q C S) : Ev (fun n => f_X12_tell n d 0 S [a, i, w]) (fun x S1 => if hasD Ds a ∧ 0 ≤ i ∧ i < ((atD' Ds a).length : Int) then (if 0 ≤ w ∧ w ≤ 3 then (if tlO (atD' Ds a) i.toNat w then x = ((tlT (atD' Ds a) i.toNat w).length : Int) ∧ S1.1 500 0 = 0 ∧ RfS S0 T0 Ds pg (tlT (atD' Ds a) i.toNat w) r L Q C S1 else S1.1 500 0 = 3 ∧ RfS S0 T0 Ds pg pp r L Q C S1) else S1.1 500 0 = 2 ∧ RfS S0 T0 Ds pg pp r L Q C S1) else S1.1 500 0 = 1 ∧ RfS S0 T0 Ds pg pp r L Q C S1) := by
  refine ev_up (fun n => e_X12_tell_0) ?_
  unfold b_X12_tell_0
  refine ev_gg (by first | omega | (constructor <;> omega)) ?_
  refine ev_gcr (r_isNode (d := d - 1) (by omega) ha hi h) ?_
  refine fa_c rfl h (fun c S1 t1 f1 h1 => ?_) (fun c S1 t1 f1 h1 => ?_)
  · obtain ⟨i, rfl⟩ : ∃ j : Nat, i = (j : Int) := ⟨i.toNat, by omega⟩
    refine ev_gg (by decide) ?_
    refine ev_ite (fun z => by omega) (fun _ => ?_)
    refine ev_gcr (q_in (d := d - 1) ⟨hw, by decide, by decide⟩) ?_
    refine fa_c (p := 0 ≤ w ∧ w ≤ 3) rfl h1 (fun c2 S2 t2 f2 h2 => ?_) (fun c2 S2 t2 f2 h2 => ?_)
    · refine ev_gg (by decide) ?_
      refine ev_ite (fun _ => ?_) (fun z => by omega)
      obtain ⟨e1, e2, e3, e4⟩ := r_at h2 c.1
      simp only [if_pos c, if_pos c2, Int.toNat_natCast]
      have lk : ∀ S3, RfS S0 T0 Ds pg pp r L Q C S3 → LK S3 a.toNat (atD' Ds a) := fun S3 g => (r_at g c.1).2.2.1
      generalize atD' Ds a = V at c e3 e4 lk ⊢
      have il : i < V.length := by omega
      have hK : a.toNat < 48 := by omega
      have V1 := e4.1.1
      have nr := e3.2.2.2 _ (nd_mem il)
      have kr : 0 ≤ nk V i ∧ nk V i ≤ 5 := ⟨nr.1, nr.2.1⟩
      have lq : (nq V i).length ≤ 12 ∧ ∀ y ∈ nq V i, 0 ≤ y ∧ y < 256 := nr.2.2.2.2.2.2.2.2
      have lt := lk_txt e3 il
      have p107 : ∀ s, s = (if tlO V i w then 1 else 0) → Ev (fun n => f_X12_tell n d 107 S2 [a, (i : Int), w, s]) (fun x S1 => if tlO V i w then x = ((tlT V i w).length : Int) ∧ S1.1 500 0 = 0 ∧ RfS S0 T0 Ds pg (tlT V i w) r L Q C S1 else S1.1 500 0 = 3 ∧ RfS S0 T0 Ds pg pp r L Q C S1) := by
        intro s hs
        refine ev_up (fun n => e_X12_tell_107) ?_
        unfold b_X12_tell_107
        refine ev_gg (by first | omega | (constructor <;> omega)) ?_
        refine fa_c hs h2 (fun c3 S3 t3 f3 h3 => ?_) (fun c3 S3 t3 f3 h3 => ?_)
        · refine ev_gg (by decide) ?_
          refine ev_ite (fun _ => ?_) (fun z => by omega)
          refine ev_gg (by decide) ?_
          refine ev_gv ?_
          refine ev_gg (by first | omega | (constructor <;> omega)) ?_
          simp only [if_pos c3]
          have o0 : OuS (gI S3 517 (0 : Int).toNat 0) 0 [] := ⟨gI_a, by decide, fun i hi => absurd hi (Nat.not_lt_zero i), fun x hx => by cases hx⟩
          have f0 : FC (ouP 0) S3 (gI S3 517 (0 : Int).toNat 0) := fc_gI (Or.inl ⟨rfl, rfl⟩)
          generalize gI S3 517 (0 : Int).toNat 0 = S4 at o0 f0 ⊢
          have g4 := rf_sc h3 f0 (fun c j z => by omega)
          have l145 : ∀ (w1 : List Int) (u : Nat) (v : List Int) (S5 : GS), (nq V i).drop u = w1 → u ≤ (nq V i).length → v = (nq V i).take u → OuS S5 0 v → FC (ouP 0) S3 S5 → nq V i = tlT V i w → Ev (fun n => f_X12_tell n d 145 S5 [a, (i : Int), (u : Int)]) (fun x S1 => x = ((tlT V i w).length : Int) ∧ S1.1 500 0 = 0 ∧ RfS S0 T0 Ds pg (tlT V i w) r L Q C S1) := by
            intro w1
            induction w1 with
            | nil =>
              intro u v S5 hu hul hv ho hf eT
              have := drop_nl hu
              have hvq : v = tlT V i w := by rw [hv, List.take_of_length_le (by omega), eT]
              have g5 := rf_sc h3 hf (fun c j z => by omega)
              refine ev_up (fun n => e_X12_tell_145) ?_
              unfold b_X12_tell_145
              refine ev_gg (by first | omega | (constructor <;> omega)) ?_
              refine ev_gcr (q_keysL (d := d - 1) (K := a.toNat) (I := i) (by omega) e1 hK rfl (lk S5 g5) il) ?_
              refine ev_gg (by first | omega | (constructor <;> omega)) ?_
              refine ev_gg (by first | omega | (constructor <;> omega)) ?_
              refine ev_ite (fun _ => ?_) (fun z => by omega)
              rw [hvq] at ho
              refine ev_gc (r_onPaper (d := d - 1) g5 ho) (fun x S6 q6 => ?_)
              exact ev_ret ⟨q6.1, by rw [q6.2.1, fc_i hf (by omega)]; exact t3, q6.2.2⟩
            | cons y w1 ih =>
              intro u v S5 hu hul hv ho hf eT
              obtain ⟨lu, g1, r1⟩ := drop_hd hu
              have yr := lq.2 y (by rw [← g1]; exact getD_in lu)
              have vl : v.length = u := by rw [hv, List.length_take]; omega
              have g5 := rf_sc h3 hf (fun c j z => by omega)
              refine ev_up (fun n => e_X12_tell_145) ?_
              unfold b_X12_tell_145
              refine ev_gg (by first | omega | (constructor <;> omega)) ?_
              refine ev_gcr (q_keysL (d := d - 1) (K := a.toNat) (I := i) (by omega) e1 hK rfl (lk S5 g5) il) ?_
              refine ev_gg (by first | omega | (constructor <;> omega)) ?_
              refine ev_gg (by first | omega | (constructor <;> omega)) ?_
              refine ev_ite (fun z => by omega) (fun _ => ?_)
              refine ev_gv ?_
              refine ev_gcr (q_keyL (d := d - 1) (K := a.toNat) (I := i) (J := u) (by omega) e1 hK rfl rfl (lk S5 g5) il lu) ?_
              rw [g1]
              refine pu_c rfl (by decide) ho yr (by omega) (fun z S6 h6 f6 => ?_)
              refine ev_gv ?_
              rw [show (u : Int) + 1 = ((u + 1 : Nat) : Int) by omega]
              refine ih (u + 1) _ S6 r1 (by omega) ?_ h6 (fc_tr hf f6) eT
              rw [hv, tk_snoc lu g1]
          have l208 : ∀ (pre w1 : List Int) (u : Nat) (v : List Int) (S5 : GS), pre.length ≤ 1 → (sgN (V.getD i nd0)).drop u = w1 → u ≤ (sgN (V.getD i nd0)).length → v = pre ++ (sgN (V.getD i nd0)).take u → OuS S5 0 v → FC (ouP 0) S3 S5 → pre ++ sgN (V.getD i nd0) = tlT V i w → Ev (fun n => f_X12_tell n d 208 S5 [a, (i : Int), (u : Int)]) (fun x S1 => x = ((tlT V i w).length : Int) ∧ S1.1 500 0 = 0 ∧ RfS S0 T0 Ds pg (tlT V i w) r L Q C S1) := by
            intro pre w1
            induction w1 with
            | nil =>
              intro u v S5 hp hu hul hv ho hf eT
              have := drop_nl hu
              have hvq : v = tlT V i w := by rw [hv, List.take_of_length_le (by omega), eT]
              have g5 := rf_sc h3 hf (fun c j z => by omega)
              refine ev_up (fun n => e_X12_tell_208) ?_
              unfold b_X12_tell_208
              refine ev_gg (by first | omega | (constructor <;> omega)) ?_
              refine ev_gcr (q_longL (d := d - 1) (K := a.toNat) (I := i) (by omega) e1 hK rfl (lk S5 g5) il) ?_
              refine ev_gg (by first | omega | (constructor <;> omega)) ?_
              refine ev_gg (by first | omega | (constructor <;> omega)) ?_
              refine ev_ite (fun _ => ?_) (fun z => by omega)
              rw [hvq] at ho
              refine ev_gc (r_onPaper (d := d - 1) g5 ho) (fun x S6 q6 => ?_)
              exact ev_ret ⟨q6.1, by rw [q6.2.1, fc_i hf (by omega)]; exact t3, q6.2.2⟩
            | cons y w1 ih =>
              intro u v S5 hp hu hul hv ho hf eT
              obtain ⟨lu, g1, r1⟩ := drop_hd hu
              have yr := lt.2 y (by rw [← g1]; exact getD_in lu)
              have vl : v.length = pre.length + u := by rw [hv, List.length_append, List.length_take]; omega
              have g5 := rf_sc h3 hf (fun c j z => by omega)
              refine ev_up (fun n => e_X12_tell_208) ?_
              unfold b_X12_tell_208
              refine ev_gg (by first | omega | (constructor <;> omega)) ?_
              refine ev_gcr (q_longL (d := d - 1) (K := a.toNat) (I := i) (by omega) e1 hK rfl (lk S5 g5) il) ?_
              refine ev_gg (by first | omega | (constructor <;> omega)) ?_
              refine ev_gg (by first | omega | (constructor <;> omega)) ?_
              refine ev_ite (fun z => by omega) (fun _ => ?_)
              refine ev_gv ?_
              refine ev_gcr (q_signL (d := d - 1) (K := a.toNat) (I := i) (J := u) (by omega) e1 hK rfl rfl (lk S5 g5) il lu) ?_
              rw [g1]
              refine pu_c rfl (by decide) ho yr (by omega) (fun z S6 h6 f6 => ?_)
              refine ev_gv ?_
              rw [show (u : Int) + 1 = ((u + 1 : Nat) : Int) by omega]
              refine ih (u + 1) _ S6 hp r1 (by omega) ?_ h6 (fc_tr hf f6) eT
              rw [hv, tk_snoc lu g1, List.append_assoc]
          refine ev_ite (fun z => ?_) (fun z => ?_)
          · refine ev_ite (fun z2 => ?_) (fun z2 => ?_)
            · have eT : tlT V i w = nt V i := by unfold tlT; rw [if_neg (by omega), if_neg (by omega)]
              refine ev_ite (fun z1 => ?_) (fun z1 => ?_)
              · have k3 : nk V i = 3 := by unfold tlO at c3; omega
                refine l208 [] _ 0 [] S4 (by decide) rfl (Nat.zero_le _) rfl o0 f0 ?_
                rw [eT, List.nil_append, sgN_t (by show (V.getD i nd0).1 ≠ 2; have : (V.getD i nd0).1 = 3 := k3; omega)]
                rfl
              · have k2 : (V.getD i nd0).1 = 2 := by have : nk V i = 2 := by unfold tlO at c3; omega
                                                     exact this
                have et := sgN_nt (V := V) (i := i)
                refine ev_gcr (q_isL (d := d - 1) (K := a.toNat) (I := i) (by omega) e1 hK rfl (lk S4 g4) il) ?_
                have ei : isN (V.getD i nd0) = if hdI (nt V i) = 45 then -1 else if hdI (nt V i) = 48 ∨ nt V i = [] then 0 else 1 := by unfold isN; rw [if_pos k2]; rfl
                rw [ei]
                by_cases c45 : hdI (nt V i) = 45
                · rw [if_pos (show nk V i = 2 ∧ hdI (nt V i) = 45 from ⟨k2, c45⟩)] at et
                  rw [if_pos c45]
                  refine ev_gg (by decide) ?_
                  refine ev_ite (fun z => by omega) (fun _ => ?_)
                  refine pu_c rfl (by decide) o0 (by decide) (by decide) (fun z S6 h6 f6 => ?_)
                  exact l208 [45] _ 0 [45] S6 (by decide) rfl (Nat.zero_le _) rfl h6 (fc_tr f0 f6) (by rw [eT, ← et])
                · rw [if_neg (show ¬ (nk V i = 2 ∧ hdI (nt V i) = 45) from fun y => c45 y.2)] at et
                  rw [if_neg c45]
                  by_cases c48 : hdI (nt V i) = 48 ∨ nt V i = []
                  · rw [if_pos c48]
                    refine ev_gg (by decide) ?_
                    refine ev_ite (fun _ => ?_) (fun z => by omega)
                    exact l208 [] _ 0 [] S4 (by decide) rfl (Nat.zero_le _) rfl o0 f0 (by rw [eT, ← et])
                  · rw [if_neg c48]
                    refine ev_gg (by decide) ?_
                    refine ev_ite (fun _ => ?_) (fun z => by omega)
                    exact l208 [] _ 0 [] S4 (by decide) rfl (Nat.zero_le _) rfl o0 f0 (by rw [eT, ← et])
            · have eT : tlT V i w = nq V i := by unfold tlT; rw [if_neg (by omega), if_pos (by omega)]
              exact l145 _ 0 [] S4 rfl (Nat.zero_le _) rfl o0 f0 eT.symm
          · have eT : tlT V i w = pth V i := by unfold tlT; rw [if_pos (by omega)]
            refine ev_gc (q_putsPath (d := d - 1) (K := a.toNat) (I := i) (by omega) e1 hK rfl (lk S4 g4) V1 e4.2.1 il o0 (by decide)) (fun _ S5 q5 => ?_)
            have g5 := rf_sc g4 q5.2 (fun c j z => by omega)
            have o5 := q5.1
            rw [List.nil_append, ← eT] at o5
            refine ev_gc (r_onPaper (d := d - 1) g5 o5) (fun x S6 q6 => ?_)
            exact ev_ret ⟨q6.1, by rw [q6.2.1, fc_i q5.2 (by omega), fc_i f0 (by omega)]; exact t3, q6.2.2⟩
        · refine ev_gg (by decide) ?_
          refine ev_ite (fun z => by omega) (fun _ => ?_)
          refine ev_ret ?_
          rw [if_neg c3]
          exact ⟨t3, h3⟩
      have p92 : ∀ s0 : Int, (s0 = 0 ∨ s0 = 1) → (s0 = 1 ↔ (1 ≤ i ∧ nk V (owI V i).toNat = 5)) → w ≠ 3 → ¬ (w = 0 ∧ nk V i = 3) → ¬ (w = 1 ∧ nk V i = 2) → Ev (fun n => f_X12_tell n d 92 S2 [a, (i : Int), w, s0]) (fun x S1 => if tlO V i w then x = ((tlT V i w).length : Int) ∧ S1.1 500 0 = 0 ∧ RfS S0 T0 Ds pg (tlT V i w) r L Q C S1 else S1.1 500 0 = 3 ∧ RfS S0 T0 Ds pg pp r L Q C S1) := by
        intro s0 h01 hs w3 w0 w1
        refine ev_up (fun n => e_X12_tell_92) ?_
        unfold b_X12_tell_92
        refine ev_gg (by first | omega | (constructor <;> omega)) ?_
        refine ev_ite (fun z => ?_) (fun z => ?_)
        · exact p107 0 (by rw [if_neg (by unfold tlO; omega)])
        · refine ev_gg (by first | omega | (constructor <;> omega)) ?_
          refine ev_ite (fun z1 => ?_) (fun z1 => ?_)
          · exact p107 0 (by rw [if_neg (by unfold tlO; omega)])
          · exact p107 1 (by rw [if_pos (Or.inr (Or.inr (Or.inr ⟨by omega, hs.mp (by omega)⟩)))])
      have p81 : ∀ s0 : Int, (s0 = 0 ∨ s0 = 1) → (s0 = 1 ↔ (1 ≤ i ∧ nk V (owI V i).toNat = 5)) → w ≠ 3 → ¬ (w = 0 ∧ nk V i = 3) → Ev (fun n => f_X12_tell n d 81 S2 [a, (i : Int), w, nk V i, s0]) (fun x S1 => if tlO V i w then x = ((tlT V i w).length : Int) ∧ S1.1 500 0 = 0 ∧ RfS S0 T0 Ds pg (tlT V i w) r L Q C S1 else S1.1 500 0 = 3 ∧ RfS S0 T0 Ds pg pp r L Q C S1) := by
        intro s0 h01 hs w3 w0
        refine ev_up (fun n => e_X12_tell_81) ?_
        unfold b_X12_tell_81
        refine ev_gg (by first | omega | (constructor <;> omega)) ?_
        refine ev_ite (fun z => ?_) (fun z => ?_)
        · exact p92 s0 h01 hs w3 w0 (by omega)
        · refine ev_gg (by first | omega | (constructor <;> omega)) ?_
          refine ev_ite (fun z1 => ?_) (fun z1 => ?_)
          · exact p107 1 (by rw [if_pos (Or.inr (Or.inr (Or.inl ⟨by omega, z1⟩)))])
          · exact p92 s0 h01 hs w3 w0 (by omega)
      have p63 : ∀ s0 : Int, (s0 = 0 ∨ s0 = 1) → (s0 = 1 ↔ (1 ≤ i ∧ nk V (owI V i).toNat = 5)) → Ev (fun n => f_X12_tell n d 63 S2 [a, (i : Int), w, nk V i, s0]) (fun x S1 => if tlO V i w then x = ((tlT V i w).length : Int) ∧ S1.1 500 0 = 0 ∧ RfS S0 T0 Ds pg (tlT V i w) r L Q C S1 else S1.1 500 0 = 3 ∧ RfS S0 T0 Ds pg pp r L Q C S1) := by
        intro s0 h01 hs
        refine ev_up (fun n => e_X12_tell_63) ?_
        unfold b_X12_tell_63
        refine ev_gg (by first | omega | (constructor <;> omega)) ?_
        refine ev_ite (fun z => ?_) (fun z => ?_)
        · exact p107 1 (by rw [if_pos (Or.inl z)])
        · refine ev_ite (fun z1 => ?_) (fun z1 => ?_)
          · exact p81 s0 h01 hs z (by omega)
          · refine ev_gg (by first | omega | (constructor <;> omega)) ?_
            refine ev_ite (fun z2 => ?_) (fun z2 => ?_)
            · exact p107 1 (by rw [if_pos (Or.inr (Or.inl ⟨by omega, z2⟩))])
            · exact p81 s0 h01 hs z (by omega)
      refine ev_gcr (q_kindL (d := d - 1) (K := a.toNat) (I := i) (by omega) e1 hK rfl e3 il) ?_
      refine ev_gg (by first | omega | (constructor <;> omega)) ?_
      refine ev_ite (fun z => ?_) (fun z => ?_)
      · exact p63 0 (Or.inl rfl) ⟨fun y => by omega, fun y => by omega⟩
      · obtain ⟨o, eo, o1, o2, o3, o4⟩ := own_kid V1 (by omega : 1 ≤ i) il
        refine ev_gcr (q_parentL (d := d - 1) (K := a.toNat) (I := i) (by omega) e1 hK rfl e3 il) ?_
        have e63 : (owI V i).toNat = o := by omega
        refine ev_gcr (q_kindL (d := d - 1) (K := a.toNat) (I := o) (by omega) e1 hK eo e3 (by omega)) ?_
        have nro := e3.2.2.2 _ (nd_mem (show o < V.length by omega))
        have kro : 0 ≤ nk V o ∧ nk V o ≤ 5 := ⟨nro.1, nro.2.1⟩
        refine ev_gg (by first | omega | (constructor <;> omega)) ?_
        refine ev_ite (fun z1 => ?_) (fun z1 => ?_)
        · exact p63 0 (Or.inl rfl) (by rw [e63]; exact ⟨fun y => by omega, fun y => by omega⟩)
        · exact p63 1 (Or.inr rfl) (by rw [e63]; exact ⟨fun _ => ⟨by omega, by omega⟩, fun _ => rfl⟩)
    · refine ev_gg (by decide) ?_
      refine ev_ite (fun z => by omega) (fun _ => ?_)
      refine ev_ret ?_
      rw [if_pos c, if_neg c2]
      exact ⟨t2, h2⟩
  · refine ev_gg (by decide) ?_
    refine ev_ite (fun _ => ?_) (fun z => by omega)
    refine ev_ret ?_
    rw [if_neg c]
    exact ⟨t1, h1⟩
theorem r_sum {w : Int} (hd : 1 ≤ d) (hw : inr w) (h : RfS S0 T0 Ds pg pp r L Q C S) : Ev (fun n => f_X12_sum n d 0 S [w]) (fun x S1 => (if 0 ≤ w ∧ w ≤ 6 then x = (if w = 0 then (Ds.length : Int) else if w = 1 then (pg.length : Int) else if w = 2 then (pp.length : Int) else if w = 3 then r else if w = 4 then (L.length : Int) else if w = 5 then (C.length : Int) else (szs Ds : Int)) ∧ S1.1 500 0 = 0 else S1.1 500 0 = 1) ∧ RfS S0 T0 Ds pg pp r L Q C S1) := by
  refine ev_up (fun n => e_X12_sum_0) ?_
  unfold b_X12_sum_0
  refine ev_gg (by first | omega | (constructor <;> omega)) ?_
  refine ev_gcr (q_in (d := d - 1) ⟨hw, by decide, by decide⟩) ?_
  refine fa_c (p := 0 ≤ w ∧ w ≤ 6) rfl h (fun c S1 t1 f1 h1 => ?_) (fun c S1 t1 f1 h1 => ?_)
  · refine ev_gg (by decide) ?_
    refine ev_ite (fun _ => ?_) (fun z => by omega)
    simp only [if_pos c]
    have n4 := h1.1.2.1
    have lp : ∀ (D : List (List ND)) (u : Nat) (x : Int), Ds.drop u = D → u ≤ Ds.length → x + (szs D : Int) = (szs Ds : Int) → Ev (fun n => f_X12_sum n d 21 S1 [w, x, (u : Int)]) (fun x S1 => (x = (if w = 0 then (Ds.length : Int) else if w = 1 then (pg.length : Int) else if w = 2 then (pp.length : Int) else if w = 3 then r else if w = 4 then (L.length : Int) else if w = 5 then (C.length : Int) else (szs Ds : Int)) ∧ S1.1 500 0 = 0) ∧ RfS S0 T0 Ds pg pp r L Q C S1) := by
      intro D
      induction D with
      | nil =>
        intro u x hu hul hx
        have := List.drop_eq_nil_iff.mp hu
        have ex : x = (szs Ds : Int) := by show x = _; have : szs [] = 0 := rfl; omega
        refine ev_up (fun n => e_X12_sum_21) ?_
        unfold b_X12_sum_21
        refine ev_gv ?_
        rw [h1.1.1]
        refine ev_gg (by first | omega | (constructor <;> omega)) ?_
        refine ev_gg (by first | omega | (constructor <;> omega)) ?_
        refine ev_ite (fun _ => ?_) (fun z => by omega)
        refine ev_gg (by first | omega | (constructor <;> omega)) ?_
        refine ev_ite (fun z => ?_) (fun z => ?_)
        · refine ev_gv ?_
          exact ev_ret ⟨⟨by rw [if_pos z], t1⟩, h1⟩
        refine ev_ite (fun z1 => ?_) (fun z1 => ?_)
        · refine ev_gv ?_
          rw [h1.2.1.1]
          exact ev_ret ⟨⟨by rw [if_neg z, if_pos z1], t1⟩, h1⟩
        refine ev_ite (fun z2 => ?_) (fun z2 => ?_)
        · refine ev_gv ?_
          rw [h1.2.2.1.1]
          exact ev_ret ⟨⟨by rw [if_neg z, if_neg z1, if_pos z2], t1⟩, h1⟩
        refine ev_ite (fun z3 => ?_) (fun z3 => ?_)
        · refine ev_gv ?_
          rw [h1.2.2.2.1.1]
          exact ev_ret ⟨⟨by rw [if_neg z, if_neg z1, if_neg z2, if_pos z3], t1⟩, h1⟩
        refine ev_ite (fun z4 => ?_) (fun z4 => ?_)
        · refine ev_gv ?_
          rw [h1.2.2.2.2.1.1]
          exact ev_ret ⟨⟨by rw [if_neg z, if_neg z1, if_neg z2, if_neg z3, if_pos z4], t1⟩, h1⟩
        refine ev_ite (fun z5 => ?_) (fun z5 => ?_)
        · refine ev_gv ?_
          rw [h1.2.2.2.2.2.2.1.1]
          exact ev_ret ⟨⟨by rw [if_neg z, if_neg z1, if_neg z2, if_neg z3, if_neg z4, if_pos z5], t1⟩, h1⟩
        · exact ev_ret ⟨⟨by rw [if_neg z, if_neg z1, if_neg z2, if_neg z3, if_neg z4, if_neg z5, ex], t1⟩, h1⟩
      | cons V D ih =>
        intro u x hu hul hx
        have lu : u < Ds.length := by
          by_cases y : u < Ds.length
          · exact y
          · rw [List.drop_eq_nil_of_le (by omega)] at hu; cases hu
        have eD := List.drop_eq_getElem_cons lu
        rw [hu] at eD
        obtain ⟨ev, ed⟩ := List.cons.inj eD
        have eg : Ds.getD u [] = V := by rw [List.getD_eq_getElem?_getD, List.getElem?_eq_getElem lu, ev]; rfl
        have cell := (h1.1.2.2 u lu).1.1
        rw [eg] at cell
        refine ev_up (fun n => e_X12_sum_21) ?_
        unfold b_X12_sum_21
        refine ev_gv ?_
        rw [h1.1.1]
        refine ev_gg (by first | omega | (constructor <;> omega)) ?_
        refine ev_gg (by first | omega | (constructor <;> omega)) ?_
        refine ev_ite (fun z => by omega) (fun _ => ?_)
        refine ev_gg (by first | omega | (constructor <;> omega)) ?_
        refine ev_gv ?_
        rw [Int.toNat_natCast, cell]
        refine ev_gv ?_
        refine ev_gv ?_
        rw [show (u : Int) + 1 = ((u + 1 : Nat) : Int) by omega]
        have es : szs (V :: D) = V.length + szs D := rfl
        exact ih (u + 1) _ ed.symm (by omega) (by omega)
    exact lp Ds 0 0 rfl (Nat.zero_le _) (by omega)
  · refine ev_gg (by decide) ?_
    refine ev_ite (fun z => by omega) (fun _ => ?_)
    refine ev_ret ⟨?_, h1⟩
    rw [if_neg c]
    exact t1
theorem r_write {n a : Int} (hd : 1 ≤ d) (hn : inr n) (ha : inl a) (h : RfS S0 T0 Ds pg pp r L Q C S) : Ev (fun m => f_X12_write m d 0 S [n, a]) (fun x S1 => if 1 ≤ n ∧ n ≤ 8 ∧ asL n.toNat a = 1 then (if (pg.length : Int) + n ≤ 400 then x = (pg.length : Int) + n ∧ S1.1 500 0 = 0 ∧ RfS S0 T0 Ds (pg ++ wrD a n.toNat) pp r L Q C S1 else S1.1 500 0 = 2 ∧ RfS S0 T0 Ds pg pp r L Q C S1) else S1.1 500 0 = 1 ∧ RfS S0 T0 Ds pg pp r L Q C S1) := by
  have ll := h.2.1.2.1
  have p144 : ∀ (k : Nat) (S2 : GS) (g : List Int), (k : Int) ≤ n → n ≤ 8 → asL n.toNat a = 1 → (pg.length : Int) + n ≤ 400 → g ++ wrD a k = pg ++ wrD a n.toNat → S2.1 500 0 = 0 → RfS S0 T0 Ds g pp r L Q C S2 → 0 ≤ a → Ev (fun m => f_X12_write m d 144 S2 [n, a, n - (k : Int)]) (fun x S1 => x = (pg.length : Int) + n ∧ S1.1 500 0 = 0 ∧ RfS S0 T0 Ds (pg ++ wrD a n.toNat) pp r L Q C S1) := by
    intro k
    induction k with
    | zero =>
      intro S2 g k1 n8 as lp e t2 h2 a0
      have el := congrArg List.length e
      simp only [List.length_append, wrD_len] at el
      refine ev_up (fun n => e_X12_write_144) ?_
      unfold b_X12_write_144
      refine ev_gg (by first | omega | (constructor <;> omega)) ?_
      refine ev_gg (by first | omega | (constructor <;> omega)) ?_
      refine ev_ite (fun _ => ?_) (fun z => by omega)
      refine ev_gv ?_
      rw [h2.2.1.1]
      refine ev_ret ⟨by omega, t2, ?_⟩
      rw [← e]
      show RfS S0 T0 Ds (g ++ []) pp r L Q C S2
      rw [List.append_nil]
      exact h2
    | succ k ih =>
      intro S2 g k1 n8 as lp e t2 h2 a0
      have el := congrArg List.length e
      simp only [List.length_append, wrD_len] at el
      have em : a % 18446744073709551616 = a := by omega
      have lr : a / ((2 ^ (8 * k) : Nat) : Int) % 256 = ltr a k := by unfold ltr; rw [em]
      have rr := ltr_r a k
      have g3 := h2.2.1.2.2.1
      refine ev_up (fun n => e_X12_write_144) ?_
      unfold b_X12_write_144
      refine ev_gg (by first | omega | (constructor <;> omega)) ?_
      refine ev_gg (by first | omega | (constructor <;> omega)) ?_
      refine ev_ite (fun z => by omega) (fun _ => ?_)
      refine ev_gv ?_
      rw [h2.2.1.1]
      refine ev_gv ?_
      refine ev_gv ?_
      refine ev_gv ?_
      refine ev_gg (by first | omega | (constructor <;> omega)) ?_
      refine ev_gg (by first | omega | (constructor <;> omega)) ?_
      refine ev_gv ?_
      refine ev_gv ?_
      rw [show (8 * (n - 1 - (n - ((k + 1 : Nat) : Int)))).toNat = 8 * k by omega, lr]
      refine ev_gg (by first | omega | (constructor <;> omega)) ?_
      refine ev_gv ?_
      refine ev_gv ?_
      rw [Int.toNat_natCast, gI_c (show (500 : Nat) ≠ 503 by decide), h2.2.1.1]
      refine ev_gv ?_
      refine ev_gv ?_
      refine ev_gv ?_
      rw [show n - ((k + 1 : Nat) : Int) + 1 = n - (k : Int) by omega]
      have hf : FC (fun c j => (c = 500 ∧ j = 7) ∨ c = 503) S2 (gI (gI S2 503 g.length (ltr a k)) 500 7 ((g.length : Int) + 1)) := fc_tr (fc_gI (Or.inr rfl)) (fc_gI (Or.inl ⟨rfl, rfl⟩))
      refine ih _ (g ++ [ltr a k]) (by omega) n8 as lp (by rw [List.append_assoc]; exact e) (by rw [fc_i hf (by omega)]; exact t2) (rf_page h2 hf ⟨by rw [gI_a, List.length_append, List.length_singleton]; omega, by rw [List.length_append, List.length_singleton]; omega, fun i hi => ?_, fun y hy => ?_⟩) a0
      · rw [List.length_append, List.length_singleton] at hi
        rw [gI_c (by decide), getD_snoc hi]
        by_cases e : i = g.length
        · subst e
          rw [if_pos rfl, gI_a]
        · rw [if_neg e, gI_k (by omega)]
          exact g3 i (by omega)
      · rcases List.mem_append.mp hy with z | z
        · exact h2.2.1.2.2.2 y z
        · rw [List.mem_singleton] at z
          subst z
          exact rr
  have p104 : ∀ s : Int, s = (if 1 ≤ n ∧ n ≤ 8 ∧ asL n.toNat a = 1 then 1 else 0) → Ev (fun m => f_X12_write m d 104 S [n, a, s]) (fun x S1 => if 1 ≤ n ∧ n ≤ 8 ∧ asL n.toNat a = 1 then (if (pg.length : Int) + n ≤ 400 then x = (pg.length : Int) + n ∧ S1.1 500 0 = 0 ∧ RfS S0 T0 Ds (pg ++ wrD a n.toNat) pp r L Q C S1 else S1.1 500 0 = 2 ∧ RfS S0 T0 Ds pg pp r L Q C S1) else S1.1 500 0 = 1 ∧ RfS S0 T0 Ds pg pp r L Q C S1) := by
    intro s hs
    refine ev_up (fun n => e_X12_write_104) ?_
    unfold b_X12_write_104
    refine ev_gg (by first | omega | (constructor <;> omega)) ?_
    refine fa_c hs h (fun c S1 t1 f1 h1 => ?_) (fun c S1 t1 f1 h1 => ?_)
    · refine ev_gg (by decide) ?_
      refine ev_ite (fun z => by omega) (fun _ => ?_)
      refine ev_gv ?_
      simp only [if_pos c]
      rw [h1.2.1.1]
      refine ev_gv ?_
      refine ev_gg (by first | omega | (constructor <;> omega)) ?_
      refine ev_ite (fun z => ?_) (fun z => ?_)
      · refine fa_c (p := (pg.length : Int) + n ≤ 400) (by rw [if_neg (by omega)]) h1 (fun c2 S2 t2 f2 h2 => absurd c2 (by omega)) (fun c2 S2 t2 f2 h2 => ?_)
        refine ev_gg (by decide) ?_
        refine ev_ite (fun z => by omega) (fun _ => ?_)
        refine ev_ret ?_
        rw [if_neg c2]
        exact ⟨t2, h2⟩
      · refine fa_c (p := (pg.length : Int) + n ≤ 400) (by rw [if_pos (by omega)]) h1 (fun c2 S2 t2 f2 h2 => ?_) (fun c2 S2 t2 f2 h2 => absurd (by omega) c2)
        refine ev_gg (by decide) ?_
        refine ev_ite (fun _ => ?_) (fun z => by omega)
        simp only [if_pos c2]
        have := p144 n.toNat S2 pg (by omega) c.2.1 c.2.2 c2 rfl t2 h2 ((asL_iff ha (by omega) (by omega)).mp c.2.2).1
        rw [show n - ((n.toNat : Nat) : Int) = 0 by omega] at this
        exact this
    · refine ev_gg (by decide) ?_
      refine ev_ite (fun _ => ?_) (fun z => by omega)
      refine ev_ret ?_
      rw [if_neg c]
      exact ⟨t1, h1⟩
  have p43 : ∀ (k : Nat), (k : Int) ≤ n → n ≤ 8 → 1 ≤ n → 0 ≤ a → (n < 8 → a / ((2 ^ (8 * n.toNat) : Nat) : Int) = 0) → (∀ j, k ≤ j → j < n.toNat → okS (ltr a j)) → Ev (fun m => f_X12_write m d 43 S [n, a, 1, n - (k : Int)]) (fun x S1 => if 1 ≤ n ∧ n ≤ 8 ∧ asL n.toNat a = 1 then (if (pg.length : Int) + n ≤ 400 then x = (pg.length : Int) + n ∧ S1.1 500 0 = 0 ∧ RfS S0 T0 Ds (pg ++ wrD a n.toNat) pp r L Q C S1 else S1.1 500 0 = 2 ∧ RfS S0 T0 Ds pg pp r L Q C S1) else S1.1 500 0 = 1 ∧ RfS S0 T0 Ds pg pp r L Q C S1) := by
    intro k
    induction k with
    | zero =>
      intro k1 n8 n1 a0 hz hk
      have as := (asL_iff ha (show 1 ≤ n.toNat by omega) (by omega)).mpr ⟨a0, fun q => hz (by omega), fun j hj => hk j (Nat.zero_le j) hj⟩
      refine ev_up (fun n => e_X12_write_43) ?_
      unfold b_X12_write_43
      refine ev_gg (by first | omega | (constructor <;> omega)) ?_
      refine ev_gg (by first | omega | (constructor <;> omega)) ?_
      refine ev_ite (fun _ => ?_) (fun z => by omega)
      exact p104 1 (by rw [if_pos ⟨n1, n8, as⟩])
    | succ k ih =>
      intro k1 n8 n1 a0 hz hk
      have em : a % 18446744073709551616 = a := by omega
      have lr : a / ((2 ^ (8 * k) : Nat) : Int) % 256 = ltr a k := by unfold ltr; rw [em]
      have rr := ltr_r a k
      refine ev_up (fun n => e_X12_write_43) ?_
      unfold b_X12_write_43
      refine ev_gg (by first | omega | (constructor <;> omega)) ?_
      refine ev_gg (by first | omega | (constructor <;> omega)) ?_
      refine ev_ite (fun z => by omega) (fun _ => ?_)
      refine ev_gg (by first | omega | (constructor <;> omega)) ?_
      refine ev_ite (fun z => by omega) (fun _ => ?_)
      refine ev_gv ?_
      refine ev_gv ?_
      refine ev_gv ?_
      refine ev_gg (by first | omega | (constructor <;> omega)) ?_
      refine ev_gg (by first | omega | (constructor <;> omega)) ?_
      refine ev_gv ?_
      refine ev_gv ?_
      rw [show (8 * (n - 1 - (n - ((k + 1 : Nat) : Int)))).toNat = 8 * k by omega, lr]
      refine ev_gg (by first | omega | (constructor <;> omega)) ?_
      have up : okS (ltr a k) → ∀ j, k ≤ j → j < n.toNat → okS (ltr a j) := fun q j j1 j2 => by
        by_cases e : j = k
        · rw [e]; exact q
        · exact hk j (by omega) j2
      refine ev_ite (fun z => ?_) (fun z => ?_)
      · refine ev_gv ?_
        rw [show n - ((k + 1 : Nat) : Int) + 1 = n - (k : Int) by omega]
        exact ih (by omega) n8 n1 a0 hz (up (Or.inl z))
      · refine ev_gg (by first | omega | (constructor <;> omega)) ?_
        refine ev_gcr (q_in (d := d - 1) ⟨by constructor <;> omega, by decide, by decide⟩) ?_
        by_cases c : 32 ≤ ltr a k ∧ ltr a k ≤ 126
        · rw [if_pos c]
          refine ev_gg (by decide) ?_
          refine ev_ite (fun z => by omega) (fun _ => ?_)
          refine ev_gv ?_
          rw [show n - ((k + 1 : Nat) : Int) + 1 = n - (k : Int) by omega]
          exact ih (by omega) n8 n1 a0 hz (up (Or.inr c))
        · rw [if_neg c]
          refine ev_gg (by decide) ?_
          refine ev_ite (fun _ => ?_) (fun z => by omega)
          refine ev_gv ?_
          rw [show n - ((k + 1 : Nat) : Int) + 1 = n - (k : Int) by omega]
          have no : ¬ (1 ≤ n ∧ n ≤ 8 ∧ asL n.toNat a = 1) := fun q => by
            have := ((asL_iff ha (show 1 ≤ n.toNat by omega) (by omega)).mp q.2.2).2.2 k (by omega)
            unfold okS at this
            omega
          refine ev_up (fun n => e_X12_write_43) ?_
          unfold b_X12_write_43
          refine ev_gg (by first | omega | (constructor <;> omega)) ?_
          refine ev_gg (by first | omega | (constructor <;> omega)) ?_
          refine ev_ite (fun _ => ?_) (fun _ => ?_)
          · exact p104 0 (by rw [if_neg no])
          · refine ev_gg (by decide) ?_
            refine ev_ite (fun _ => ?_) (fun z => by omega)
            exact p104 0 (by rw [if_neg no])
  have p0 : ¬ (1 ≤ n ∧ n ≤ 8 ∧ asL n.toNat a = 1) → Ev (fun m => f_X12_write m d 43 S [n, a, 0, 0]) (fun x S1 => if 1 ≤ n ∧ n ≤ 8 ∧ asL n.toNat a = 1 then (if (pg.length : Int) + n ≤ 400 then x = (pg.length : Int) + n ∧ S1.1 500 0 = 0 ∧ RfS S0 T0 Ds (pg ++ wrD a n.toNat) pp r L Q C S1 else S1.1 500 0 = 2 ∧ RfS S0 T0 Ds pg pp r L Q C S1) else S1.1 500 0 = 1 ∧ RfS S0 T0 Ds pg pp r L Q C S1) := by
    intro no
    refine ev_up (fun n => e_X12_write_43) ?_
    unfold b_X12_write_43
    refine ev_gg (by decide) ?_
    refine ev_gg (by first | omega | (constructor <;> omega)) ?_
    refine ev_ite (fun _ => ?_) (fun _ => ?_)
    · exact p104 0 (by rw [if_neg no])
    · refine ev_gg (by decide) ?_
      refine ev_ite (fun _ => ?_) (fun z => by omega)
      exact p104 0 (by rw [if_neg no])
  refine ev_up (fun n => e_X12_write_0) ?_
  unfold b_X12_write_0
  refine ev_gg (by first | omega | (constructor <;> omega)) ?_
  refine ev_gcr (q_in (d := d - 1) ⟨hn, by decide, by decide⟩) ?_
  by_cases c : 1 ≤ n ∧ n ≤ 8
  · rw [if_pos c]
    have iff := asL_iff (a := a) (n := n.toNat) ha (by omega) (by omega)
    refine ev_gg (by decide) ?_
    refine ev_ite (fun z => by omega) (fun _ => ?_)
    refine ev_gg (ha) ?_
    refine ev_gv ?_
    have z0 := c
    unfold lsg
    by_cases a0 : a < 0
    · rw [if_neg (show ¬ (0 : Int) < a by omega), if_neg (show ¬ a = 0 by omega)]
      refine ev_gg (by decide) ?_
      refine ev_ite (fun _ => ?_) (fun z => by omega)
      exact p0 (fun q => by have := (iff.mp q.2.2).1; omega)
    · have : ∀ x : Int, x = (if (0 : Int) < a then 1 else if a = 0 then 0 else -1) → 0 ≤ x ∧ x ≤ 1 := fun x hx => by
        by_cases y : (0 : Int) < a
        · rw [if_pos y] at hx; omega
        · rw [if_neg y, if_pos (by omega)] at hx; omega
      have rx := this _ rfl
      refine ev_gg (by first | omega | (constructor <;> omega)) ?_
      refine ev_ite (fun z => by omega) (fun _ => ?_)
      refine ev_gg (by first | omega | (constructor <;> omega)) ?_
      have eN : (n.toNat : Int) = n := by omega
      have fin := fun (hz : n < 8 → a / ((2 ^ (8 * n.toNat) : Nat) : Int) = 0) => p43 n.toNat (by omega) c.2 c.1 (by omega) hz (fun j j1 j2 => by omega)
      rw [show n - ((n.toNat : Nat) : Int) = 0 by omega] at fin
      refine ev_ite (fun z => ?_) (fun z => ?_)
      · exact fin (fun q => by omega)
      · refine ev_gv ?_
        refine ev_gg (by first | omega | (constructor <;> omega)) ?_
        refine ev_gv ?_
        rw [show (8 * n).toNat = 8 * n.toNat by omega]
        have q0 : 0 ≤ a / ((2 ^ (8 * n.toNat) : Nat) : Int) := Int.ediv_nonneg (by omega) (Int.natCast_nonneg _)
        have q1 : a / ((2 ^ (8 * n.toNat) : Nat) : Int) ≤ a := Int.ediv_le_self _ (by omega)
        generalize a / ((2 ^ (8 * n.toNat) : Nat) : Int) = b at fin iff q0 q1 ⊢
        refine ev_gg (by first | omega | (constructor <;> omega)) ?_
        refine ev_gv ?_
        by_cases b0 : b = 0
        · rw [if_neg (show ¬ (0 : Int) < b by omega), if_pos b0]
          refine ev_gg (by decide) ?_
          refine ev_ite (fun z => by omega) (fun _ => ?_)
          exact fin (fun _ => b0)
        · rw [if_pos (show (0 : Int) < b by omega)]
          refine ev_gg (by decide) ?_
          refine ev_ite (fun _ => ?_) (fun z => by omega)
          exact p0 (fun q => b0 ((iff.mp q.2.2).2.1 (by omega)))
  · rw [if_neg c]
    refine ev_gg (by decide) ?_
    refine ev_ite (fun _ => ?_) (fun z => by omega)
    exact p0 (fun q => c ⟨q.1, q.2.1⟩)
end CA3
