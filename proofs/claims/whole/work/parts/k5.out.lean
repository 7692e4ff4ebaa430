/-! THE REFERENCE: writing, sign by sign -/
def OuS (S : GS) (t : Nat) (l : List Int) : Prop := S.1 517 t = (l.length : Int) ∧ l.length ≤ 39000 ∧ (∀ i, i < l.length → S.1 516 (40000 * t + i) = l.getD i 0) ∧ ∀ x ∈ l, 0 ≤ x ∧ x < 256
abbrev ouP (t : Nat) : Nat → Nat → Prop := fun c j => (c = 517 ∧ j = t) ∨ (c = 516 ∧ 40000 * t ≤ j ∧ j < 40000 * t + 40000)
theorem ou_fr {P : Nat → Nat → Prop} {S S1 : GS} {t : Nat} {l : List Int} (h : OuS S t l) (hf : FC P S S1) (h1 : ¬ P 517 t) (h2 : ∀ j, 40000 * t ≤ j → j < 40000 * t + 40000 → ¬ P 516 j) : OuS S1 t l := ⟨(fc_i hf h1).trans h.1, h.2.1, fun i hi => (fc_i hf (h2 _ (by omega) (by have := h.2.1; omega))).trans (h.2.2.1 i hi), h.2.2.2⟩
section ROU
variable {S : GS} {d t : Nat} {l : List Int}
theorem q_puts {a x : Int} (ha : a = (t : Int)) (ht : t < 2) (h : OuS S t l) (hx : 0 ≤ x ∧ x < 256) (hl : l.length < 39000) : Ev (fun n => f_X12_puts n d 0 S [a, x]) (fun _ S1 => OuS S1 t (l ++ [x]) ∧ FC (ouP t) S S1) := by
  subst ha
  obtain ⟨p1, p2, p3, p4⟩ := h
  refine ev_up (fun n => e_X12_puts_0) ?_
  unfold b_X12_puts_0
  refine ev_gv ?_
  refine ev_gg (by first | omega | (constructor <;> omega)) ?_
  refine ev_gv ?_
  rw [Int.toNat_natCast, p1]
  refine ev_gv ?_
  refine ev_gg (by first | omega | (constructor <;> omega)) ?_
  refine ev_gv ?_
  refine ev_gv ?_
  refine ev_gv ?_
  refine ev_gv ?_
  rw [show (40000 * (t : Int) + (l.length : Int)).toNat = 40000 * t + l.length by omega, gI_c (show (517 : Nat) ≠ 516 by decide), p1]
  refine ev_ret ⟨⟨by rw [gI_a, List.length_append, List.length_singleton]; omega, by rw [List.length_append, List.length_singleton]; omega, fun i hi => ?_, fun y hy => ?_⟩, fc_tr (fc_gI (Or.inr ⟨rfl, by omega, by omega⟩)) (fc_gI (Or.inl ⟨rfl, rfl⟩))⟩
  · rw [List.length_append, List.length_singleton] at hi
    rw [gI_c (by decide), getD_snoc hi]
    by_cases e : i = l.length
    · subst e
      rw [if_pos rfl, gI_a]
    · rw [if_neg e, gI_k (by omega)]
      exact p3 i (by omega)
  · rcases List.mem_append.mp hy with z | z
    · exact p4 y z
    · rw [List.mem_singleton] at z
      subst z
      exact hx
/-- one sign, and on -/
theorem pu_c {a x : Int} {k : Nat → Int → GS → Option (Int × GS)} {Q : Int → GS → Prop} (ha : a = (t : Int)) (ht : t < 2) (h : OuS S t l) (hx : 0 ≤ x ∧ x < 256) (hl : l.length < 39000) (nx : ∀ y S1, OuS S1 t (l ++ [x]) → FC (ouP t) S S1 → Ev (fun n => k n y S1) Q) : Ev (fun n => gc (f_X12_puts n d 0 S [a, x]) (k n)) Q := ev_gc (q_puts ha ht h hx hl) (fun y S1 q => nx y S1 q.1 q.2)
theorem q_putsLetters {a c : Int} (hd : 1 ≤ d) (ha : a = (t : Int)) (ht : t < 2) (hc : inl c) (h : OuS S t l) (hl : l.length + 8 ≤ 39000) : Ev (fun n => f_X12_putsLetters n d 0 S [a, c]) (fun _ S1 => OuS S1 t (l ++ lw c) ∧ FC (ouP t) S S1) := by
  subst ha
  have lp : ∀ (k : Nat) (w : List Int) (S1 : GS), k ≤ 8 → OuS S1 t w → w.length + k ≤ 39000 → FC (ouP t) S S1 → Ev (fun n => f_X12_putsLetters n d 4 S1 [(t : Int), c, (k : Int) - 1]) (fun _ S2 => OuS S2 t (w ++ lwF c k) ∧ FC (ouP t) S S2) := by
    intro k
    induction k with
    | zero =>
      intro w S1 hk h1 hl hf
      refine ev_up (fun n => e_X12_putsLetters_4) ?_
      unfold b_X12_putsLetters_4
      refine ev_gg (by first | omega | (constructor <;> omega)) ?_
      refine ev_ite (fun _ => ?_) (fun z => by omega)
      refine ev_ret ⟨?_, hf⟩
      unfold lwF
      rw [List.append_nil]
      exact h1
    | succ k ih =>
      intro w S1 hk h1 hl hf
      refine ev_up (fun n => e_X12_putsLetters_4) ?_
      unfold b_X12_putsLetters_4
      refine ev_gg (by first | omega | (constructor <;> omega)) ?_
      refine ev_ite (fun z => by omega) (fun _ => ?_)
      refine ev_gv ?_
      refine ev_gg (by first | omega | (constructor <;> omega)) ?_
      refine ev_gg (hc) ?_
      refine ev_gv ?_
      refine ev_gv ?_
      rw [show (8 * (((k + 1 : Nat) : Int) - 1)).toNat = 8 * k by omega]
      have r := Int.emod_nonneg (c / ((2 ^ (8 * k) : Nat) : Int)) (show (256 : Int) ≠ 0 by decide)
      have r2 := Int.emod_lt_of_pos (c / ((2 ^ (8 * k) : Nat) : Int)) (show (0 : Int) < 256 by decide)
      refine ev_gg (by first | omega | (constructor <;> omega)) ?_
      refine ev_ite (fun z => ?_) (fun z => ?_)
      · refine ev_gv ?_
        rw [show ((k + 1 : Nat) : Int) - 1 + (-1) = (k : Int) - 1 by omega]
        have := ih w S1 (by omega) h1 (by omega) hf
        unfold lwF
        rw [if_pos z, List.nil_append]
        exact this
      · refine ev_gg (by first | omega | (constructor <;> omega)) ?_
        refine pu_c rfl ht h1 ⟨r, r2⟩ (by omega) (fun y S2 h2 f2 => ?_)
        refine ev_gv ?_
        rw [show ((k + 1 : Nat) : Int) - 1 + (-1) = (k : Int) - 1 by omega]
        have := ih _ _ (by omega) h2 (by rw [List.length_append, List.length_singleton]; omega) (fc_tr hf f2)
        unfold lwF
        rw [if_neg z, ← List.append_assoc]
        exact this
  refine ev_up (fun n => e_X12_putsLetters_0) ?_
  unfold b_X12_putsLetters_0
  exact lp 8 l S (Nat.le_refl _) h (by omega) fc_rf
theorem q_hexSign {v : Int} (hv : 0 ≤ v ∧ v < 16) : Rd (fun n => f_X12_hexSign n d 0 S [v]) (hexS v) S := by
  refine ev_up (fun n => e_X12_hexSign_0) ?_
  unfold b_X12_hexSign_0
  refine ev_gg (by first | omega | (constructor <;> omega)) ?_
  unfold hexS
  refine ev_ite (fun z => ?_) (fun z => ?_)
  · refine ev_gv ?_
    refine ev_gv ?_
    exact ev_ret ⟨by rw [if_neg (by omega)]; omega, rfl⟩
  · refine ev_gv ?_
    exact ev_ret ⟨by rw [if_pos (by omega)], rfl⟩
theorem hexS_r2 {v : Int} (hv : 0 ≤ v ∧ v < 16) : 0 ≤ hexS v ∧ hexS v < 256 := by unfold hexS; split <;> omega
theorem q_putsQuoted {a b m : Int} {A : Nat} {q : List Int} (hd : 2 ≤ d) (ha : a = (t : Int)) (ht : t < 2) (hb : b = (A : Int)) (hm : m = (q.length : Int)) (hA : A + q.length ≤ 295728) (hq : ∀ j, j < q.length → S.1 501 (A + j) = q.getD j 0) (hr : ∀ x ∈ q, 0 ≤ x ∧ x < 256) (h : OuS S t l) (hl : l.length + (wq q).length ≤ 39000) : Ev (fun n => f_X12_putsQuoted n d 0 S [a, b, m]) (fun _ S1 => OuS S1 t (l ++ wq q) ∧ FC (ouP t) S S1) := by
  subst ha hb hm
  have lp : ∀ (r : List Int) (u : Nat) (w : List Int) (S1 : GS), q.drop u = r → u ≤ q.length → OuS S1 t w → w.length + (wtx r).length + 1 ≤ 39000 → FC (ouP t) S S1 → Ev (fun n => f_X12_putsQuoted n d 10 S1 [(t : Int), (A : Int), (q.length : Int), ((A + u : Nat) : Int)]) (fun _ S2 => OuS S2 t (w ++ wtx r ++ [34]) ∧ FC (ouP t) S S2) := by
    intro r
    induction r with
    | nil =>
      intro u w S1 hu hul h1 hl hf
      have := drop_nl hu
      refine ev_up (fun n => e_X12_putsQuoted_10) ?_
      unfold b_X12_putsQuoted_10
      refine ev_gv ?_
      refine ev_gg (by first | omega | (constructor <;> omega)) ?_
      refine ev_gg (by first | omega | (constructor <;> omega)) ?_
      refine ev_ite (fun _ => ?_) (fun z => by omega)
      refine ev_gg (by first | omega | (constructor <;> omega)) ?_
      refine pu_c rfl ht h1 (by decide) (by omega) (fun y S2 h2 f2 => ?_)
      refine ev_ret ⟨?_, fc_tr hf f2⟩
      rw [show wtx ([] : List Int) = [] from rfl, List.append_nil]
      exact h2
    | cons x r ih =>
      intro u w S1 hu hul h1 hl hf
      obtain ⟨l1, g1, r1⟩ := drop_hd hu
      have l3 := drop_ln hu hul
      have xr := hr x (by rw [← g1]; exact getD_in l1)
      rw [wtx_cons, List.length_append] at hl
      have e1 : S1.1 501 (A + u) = x := by rw [fc_i hf (by omega), hq u l1, g1]
      rw [wtx_cons, ← List.append_assoc]
      have step : ∀ S2, OuS S2 t (w ++ wsign x) → FC (ouP t) S S2 → Ev (fun n => f_X12_putsQuoted n d 10 S2 [(t : Int), (A : Int), (q.length : Int), ((A + u : Nat) : Int) + 1]) (fun _ S2 => OuS S2 t (w ++ wsign x ++ wtx r ++ [34]) ∧ FC (ouP t) S S2) := fun S2 h2 f2 => by
        rw [show ((A + u : Nat) : Int) + 1 = ((A + (u + 1) : Nat) : Int) by omega]
        exact ih (u + 1) (w ++ wsign x) S2 r1 (by omega) h2 (by rw [List.length_append]; omega) f2
      have w41 : (x < 32 ∨ 126 < x) → Ev (fun n => f_X12_putsQuoted n d 41 S1 [(t : Int), (A : Int), (q.length : Int), ((A + u : Nat) : Int), x]) (fun _ S2 => OuS S2 t (w ++ wsign x ++ wtx r ++ [34]) ∧ FC (ouP t) S S2) := fun c => by
        have ew : wsign x = [92, 117, 48, 48, hexS (x / 16), hexS (x % 16)] := by
          unfold wsign
          rw [if_neg (by omega), show x / 16 % 16 = x / 16 by omega]
        rw [ew] at hl step ⊢
        simp only [List.length_cons, List.length_nil] at hl
        have h16 := hexS_r2 (v := x / 16) (by omega)
        have h17 := hexS_r2 (v := x % 16) (by omega)
        refine ev_up (fun n => e_X12_putsQuoted_41) ?_
        unfold b_X12_putsQuoted_41
        refine ev_gg (by first | omega | (constructor <;> omega)) ?_
        refine pu_c rfl ht h1 (by decide) (by omega) (fun y S2 h2 f2 => ?_)
        refine pu_c rfl ht h2 (by decide) (by simp only [List.length_append, List.length_cons, List.length_nil]; omega) (fun y S3 h3 f3 => ?_)
        refine pu_c rfl ht h3 (by decide) (by simp only [List.length_append, List.length_cons, List.length_nil]; omega) (fun y S4 h4 f4 => ?_)
        refine pu_c rfl ht h4 (by decide) (by simp only [List.length_append, List.length_cons, List.length_nil]; omega) (fun y S5 h5 f5 => ?_)
        refine ev_gg (by first | omega | (constructor <;> omega)) ?_
        refine ev_gv ?_
        refine ev_gcr (q_hexSign (d := d - 1) (v := x / 16) (by omega)) ?_
        refine pu_c rfl ht h5 h16 (by simp only [List.length_append, List.length_cons, List.length_nil]; omega) (fun y S6 h6 f6 => ?_)
        refine ev_gg (by first | omega | (constructor <;> omega)) ?_
        refine ev_gv ?_
        refine ev_gcr (q_hexSign (d := d - 1) (v := x % 16) (by omega)) ?_
        refine pu_c rfl ht h6 h17 (by simp only [List.length_append, List.length_cons, List.length_nil]; omega) (fun y S7 h7 f7 => ?_)
        refine ev_gv ?_
        refine step S7 ?_ (fc_tr hf (fc_tr f2 (fc_tr f3 (fc_tr f4 (fc_tr f5 (fc_tr f6 f7))))))
        simp only [List.append_assoc, List.cons_append, List.nil_append] at h7
        exact h7
      have w112 : (x = 34 ∨ x = 92) → Ev (fun n => f_X12_putsQuoted n d 112 S1 [(t : Int), (A : Int), (q.length : Int), ((A + u : Nat) : Int), x]) (fun _ S2 => OuS S2 t (w ++ wsign x ++ wtx r ++ [34]) ∧ FC (ouP t) S S2) := fun c => by
        have ew : wsign x = [92, x] := by
          unfold wsign
          rw [if_pos (by omega), if_pos c]
        rw [ew] at hl step ⊢
        simp only [List.length_cons, List.length_nil] at hl
        refine ev_up (fun n => e_X12_putsQuoted_112) ?_
        unfold b_X12_putsQuoted_112
        refine ev_gg (by first | omega | (constructor <;> omega)) ?_
        refine pu_c rfl ht h1 (by decide) (by omega) (fun y S2 h2 f2 => ?_)
        refine pu_c rfl ht h2 xr (by simp only [List.length_append, List.length_cons, List.length_nil]; omega) (fun y S3 h3 f3 => ?_)
        refine ev_gv ?_
        refine step S3 ?_ (fc_tr hf (fc_tr f2 f3))
        simp only [List.append_assoc, List.cons_append, List.nil_append] at h3
        exact h3
      refine ev_up (fun n => e_X12_putsQuoted_10) ?_
      unfold b_X12_putsQuoted_10
      refine ev_gv ?_
      refine ev_gg (by first | omega | (constructor <;> omega)) ?_
      refine ev_gg (by first | omega | (constructor <;> omega)) ?_
      refine ev_ite (fun z => by omega) (fun _ => ?_)
      refine ev_gg (by first | omega | (constructor <;> omega)) ?_
      refine ev_gv ?_
      rw [Int.toNat_natCast, e1]
      refine ev_gg (by first | omega | (constructor <;> omega)) ?_
      refine ev_ite (fun z => ?_) (fun z => ?_)
      · exact w41 (Or.inl z)
      refine ev_ite (fun z2 => ?_) (fun z2 => ?_)
      · refine ev_ite (fun z3 => ?_) (fun z3 => ?_)
        · exact w112 (Or.inl z3)
        refine ev_ite (fun z4 => ?_) (fun z4 => ?_)
        · have ew : wsign x = [x] := by
            unfold wsign
            rw [if_pos (by omega), if_neg (by omega)]
          rw [ew] at hl step ⊢
          simp only [List.length_cons, List.length_nil] at hl
          refine ev_gg (by first | omega | (constructor <;> omega)) ?_
          refine pu_c rfl ht h1 xr (by omega) (fun y S2 h2 f2 => ?_)
          refine ev_gv ?_
          exact step S2 h2 (fc_tr hf f2)
        · exact w112 (by omega)
      · exact w41 (by omega)
  refine ev_up (fun n => e_X12_putsQuoted_0) ?_
  unfold b_X12_putsQuoted_0
  have wl : (wq q).length = (wtx q).length + 2 := by
    unfold wq
    simp only [List.length_append, List.length_cons, List.length_nil]
    omega
  refine ev_gg (by first | omega | (constructor <;> omega)) ?_
  refine pu_c rfl ht h (by decide) (by omega) (fun y S2 h2 f2 => ?_)
  have := lp q 0 (l ++ [34]) S2 rfl (Nat.zero_le _) h2 (by simp only [List.length_append, List.length_cons, List.length_nil]; omega) f2
  rw [Nat.add_zero] at this
  unfold wq
  rw [List.append_assoc, List.append_assoc] at this
  exact this
theorem wnum_99 {v : Int} (hv : -99 ≤ v ∧ v ≤ 99) : wnum v = (if v < 0 then [45] else []) ++ ((if 9 < max v (-v) then [48 + max v (-v) / 10] else []) ++ [48 + max v (-v) % 10]) := by
  unfold wnum
  rw [if_neg (show ¬ 99 < max v (-v) by omega), List.append_nil]
  by_cases c : 9 < max v (-v)
  · rw [if_pos c, if_pos c, show max v (-v) / 10 % 10 = max v (-v) / 10 by omega, List.append_assoc]
  · rw [if_neg c, if_neg c, List.append_assoc]
theorem q_putsInt {a v : Int} (hd : 1 ≤ d) (ha : a = (t : Int)) (ht : t < 2) (hv : -99 ≤ v ∧ v ≤ 99) (h : OuS S t l) (hl : l.length + 4 ≤ 39000) : Ev (fun n => f_X12_putsInt n d 0 S [a, v]) (fun _ S1 => OuS S1 t (l ++ wnum v) ∧ FC (ouP t) S S1) := by
  subst ha
  rw [wnum_99 hv]
  have p40 : ∀ (s : Int) (w : List Int) (S1 : GS), 0 ≤ s ∧ s ≤ 99 → OuS S1 t w → w.length + 1 ≤ 39000 → FC (ouP t) S S1 → Ev (fun n => f_X12_putsInt n d 40 S1 [(t : Int), s]) (fun _ S2 => OuS S2 t (w ++ [48 + s % 10]) ∧ FC (ouP t) S S2) := by
    intro s w S1 hs h1 hw hf
    refine ev_up (fun n => e_X12_putsInt_40) ?_
    unfold b_X12_putsInt_40
    refine ev_gg (by first | omega | (constructor <;> omega)) ?_
    refine ev_gv ?_
    refine ev_gv ?_
    refine ev_gg (by first | omega | (constructor <;> omega)) ?_
    refine pu_c rfl ht h1 (by omega) (by omega) (fun y S2 h2 f2 => ?_)
    exact ev_ret ⟨h2, fc_tr hf f2⟩
  have p21 : ∀ (s : Int) (w : List Int) (S1 : GS), 0 ≤ s ∧ s ≤ 99 → OuS S1 t w → w.length + 2 ≤ 39000 → FC (ouP t) S S1 → Ev (fun n => f_X12_putsInt n d 21 S1 [(t : Int), s]) (fun _ S2 => OuS S2 t (w ++ ((if 9 < s then [48 + s / 10] else []) ++ [48 + s % 10])) ∧ FC (ouP t) S S2) := by
    intro s w S1 hs h1 hw hf
    refine ev_up (fun n => e_X12_putsInt_21) ?_
    unfold b_X12_putsInt_21
    refine ev_gg (by first | omega | (constructor <;> omega)) ?_
    refine ev_ite (fun z => ?_) (fun z => ?_)
    · rw [if_neg (by omega), List.nil_append]
      exact p40 s w S1 hs h1 (by omega) hf
    · rw [if_pos (by omega)]
      refine ev_gg (by first | omega | (constructor <;> omega)) ?_
      refine ev_gv ?_
      refine ev_gv ?_
      refine ev_gg (by first | omega | (constructor <;> omega)) ?_
      refine pu_c rfl ht h1 (by omega) (by omega) (fun y S2 h2 f2 => ?_)
      rw [← List.append_assoc]
      exact p40 s _ S2 hs h2 (by simp only [List.length_append, List.length_cons, List.length_nil]; omega) (fc_tr hf f2)
  refine ev_up (fun n => e_X12_putsInt_0) ?_
  unfold b_X12_putsInt_0
  refine ev_gg (by first | omega | (constructor <;> omega)) ?_
  refine ev_ite (fun z => ?_) (fun z => ?_)
  · refine ev_ite (fun _ => ?_) (fun z => by omega)
    rw [if_neg (by omega), List.nil_append, show max v (-v) = v by omega]
    exact p21 v l S (by omega) h (by omega) fc_rf
  · refine ev_gg (by first | omega | (constructor <;> omega)) ?_
    refine pu_c rfl ht h (by decide) (by omega) (fun y S2 h2 f2 => ?_)
    refine ev_ite (fun z => by omega) (fun _ => ?_)
    refine ev_gv ?_
    rw [if_pos (by omega), show max v (-v) = -v by omega, ← List.append_assoc]
    exact p21 (-v) _ S2 (by omega) h2 (by simp only [List.length_append, List.length_cons, List.length_nil]; omega) f2
theorem q_putsLine {a k : Int} {K : Nat} (hd : 1 ≤ d) (ha : a = (t : Int)) (ht : t < 2) (hk : k = (K : Int)) (hK : K ≤ 100) (h : OuS S t l) (hl : l.length + 2 * K + 1 ≤ 39000) : Ev (fun n => f_X12_putsLine n d 0 S [a, k]) (fun _ S1 => OuS S1 t (l ++ wln K) ∧ FC (ouP t) S S1) := by
  subst ha hk
  have lp : ∀ (r u : Nat) (w : List Int) (S1 : GS), u + r = 2 * K → OuS S1 t w → w.length + r ≤ 39000 → FC (ouP t) S S1 → Ev (fun n => f_X12_putsLine n d 9 S1 [(t : Int), (K : Int), (u : Int)]) (fun _ S2 => OuS S2 t (w ++ List.replicate r 32) ∧ FC (ouP t) S S2) := by
    intro r
    induction r with
    | zero =>
      intro u w S1 hu h1 hw hf
      refine ev_up (fun n => e_X12_putsLine_9) ?_
      unfold b_X12_putsLine_9
      refine ev_gv ?_
      refine ev_gg (by first | omega | (constructor <;> omega)) ?_
      refine ev_gg (by first | omega | (constructor <;> omega)) ?_
      refine ev_ite (fun _ => ?_) (fun z => by omega)
      refine ev_ret ⟨?_, hf⟩
      rw [List.replicate_zero, List.append_nil]
      exact h1
    | succ r ih =>
      intro u w S1 hu h1 hw hf
      refine ev_up (fun n => e_X12_putsLine_9) ?_
      unfold b_X12_putsLine_9
      refine ev_gv ?_
      refine ev_gg (by first | omega | (constructor <;> omega)) ?_
      refine ev_gg (by first | omega | (constructor <;> omega)) ?_
      refine ev_ite (fun z => by omega) (fun _ => ?_)
      refine ev_gg (by first | omega | (constructor <;> omega)) ?_
      refine pu_c rfl ht h1 (by decide) (by omega) (fun y S2 h2 f2 => ?_)
      refine ev_gv ?_
      rw [show (u : Int) + 1 = ((u + 1 : Nat) : Int) by omega]
      have := ih (u + 1) _ S2 (by omega) h2 (by simp only [List.length_append, List.length_cons, List.length_nil]; omega) (fc_tr hf f2)
      rw [List.append_assoc] at this
      exact this
  refine ev_up (fun n => e_X12_putsLine_0) ?_
  unfold b_X12_putsLine_0
  refine ev_gg (by first | omega | (constructor <;> omega)) ?_
  refine pu_c rfl ht h (by decide) (by omega) (fun y S2 h2 f2 => ?_)
  have := lp (2 * K) 0 _ S2 (by omega) h2 (by simp only [List.length_append, List.length_cons, List.length_nil]; omega) f2
  rw [List.append_assoc] at this
  exact this
end ROU
theorem lw_null : lw 7959387127559487488 = sx 12 := by decide +kernel
theorem lw_true : lw 8390898132396802048 = sx 13 := by decide +kernel
theorem lw_false : lw 7377296907481120768 = sx 14 := by decide +kernel
