/-! THE REFERENCE: records, loose documents (the second of a node: how many VALUES it has) -/
def sgN (x : ND) : List Int := if x.1 = 2 ∧ hdI x.2.2.2.1 = 45 then x.2.2.2.1.tail else x.2.2.2.1
def isN (x : ND) : Int := if x.1 = 2 then (if hdI x.2.2.2.1 = 45 then -1 else if hdI x.2.2.2.1 = 48 ∨ x.2.2.2.1 = [] then 0 else 1) else if x.1 = 1 then x.2.2.1 else 0
def pwN (x : ND) : Int := if x.1 = 2 then x.2.2.1 else 0
/-- a record tells a node, but for its place -/
def CR (S : GS) (a : Nat) (x : ND) : Prop := S.1 501 a = x.1 ∧ S.1 501 (a + 5) = (x.2.2.2.2.length : Int) ∧ (∀ j, j < x.2.2.2.2.length → S.1 501 (a + 6 + j) = x.2.2.2.2.getD j 0) ∧ S.1 501 (a + 18) = ((sgN x).length : Int) ∧ S.1 501 (a + 19) = isN x ∧ S.1 501 (a + 20) = pwN x ∧ ∀ j, j < (sgN x).length → S.1 501 (a + 21 + j) = (sgN x).getD j 0
/-- what a loose node may be -/
def NW (x : ND) : Prop := (0 ≤ x.1 ∧ x.1 ≤ 5) ∧ x.2.1 ≤ 1000 ∧ (x.2.2.2.1.length ≤ 40 ∧ ∀ y ∈ x.2.2.2.1, 0 ≤ y ∧ y < 256) ∧ (x.2.2.2.2.length ≤ 12 ∧ ∀ y ∈ x.2.2.2.2, 0 ≤ y ∧ y < 256) ∧ -200 ≤ x.2.2.1 ∧ x.2.2.1 ≤ 200
theorem sgN_len {x : ND} : (sgN x).length ≤ x.2.2.2.1.length := by
  unfold sgN
  split
  · rw [List.length_tail]; omega
  · exact Nat.le_refl _
theorem cr_cp {S S1 : GS} {a a1 : Nat} {x : ND} (h : CR S a x) (hn : x.2.2.2.1.length ≤ 40 ∧ x.2.2.2.2.length ≤ 12) (hc : ∀ w, w < 61 → ¬ (1 ≤ w ∧ w ≤ 4) → S1.1 501 (a1 + w) = S.1 501 (a + w)) : CR S1 a1 x := by
  obtain ⟨h0, h1, h2, h3, h4, h5, h6⟩ := h
  have sl := sgN_len (x := x)
  have z : S1.1 501 a1 = S.1 501 a := hc 0 (by omega) (by omega)
  refine ⟨z.trans h0, (hc 5 (by omega) (by omega)).trans h1, fun j hj => ?_, (hc 18 (by omega) (by omega)).trans h3, (hc 19 (by omega) (by omega)).trans h4, (hc 20 (by omega) (by omega)).trans h5, fun j hj => ?_⟩
  · have e := hc (6 + j) (by omega) (by omega)
    rw [← Nat.add_assoc, ← Nat.add_assoc] at e
    exact e.trans (h2 j hj)
  · have e := hc (21 + j) (by omega) (by omega)
    rw [← Nat.add_assoc, ← Nat.add_assoc] at e
    exact e.trans (h6 j hj)
theorem cr_z {S : GS} {a : Nat} {x : ND} {z : Nat} : CR S a (wZ x z) ↔ CR S a x := Iff.rfl
/-- a loose document -/
def MR (S : GS) (K : Nat) (W : List ND) : Prop := S.1 502 K = (W.length : Int) ∧ W.length ≤ 100 ∧ (∀ i, i < W.length → CR S (6161 * K + 61 * i) (W.getD i nd0) ∧ S.1 501 (6161 * K + 61 * i + 3) = ((W.getD i nd0).2.1 : Int)) ∧ ∀ x ∈ W, NW x
abbrev doP (K : Nat) : Nat → Nat → Prop := fun c j => (c = 501 ∧ 6161 * K ≤ j ∧ j < 6161 * K + 6161) ∨ (c = 502 ∧ j = K) ∨ (c = 500 ∧ j = 5)
/-- what is being made: loose, or too much -/
def MD (S : GS) (K : Nat) (o : Option (List ND)) : Prop := match o with
  | none => S.2.1 500 5 = true ∧ ∃ m : Nat, m ≤ 100 ∧ S.1 502 K = (m : Int)
  | some W => S.2.1 500 5 = false ∧ MR S K W
theorem mr_fr {P : Nat → Nat → Prop} {S S1 : GS} {K : Nat} {W : List ND} (h : MR S K W) (hf : FC P S S1) (h1 : ∀ j, 6161 * K ≤ j → j < 6161 * K + 6161 → ¬ P 501 j) (h2 : ¬ P 502 K) : MR S1 K W := by
  obtain ⟨e1, e2, e3, e4⟩ := h
  refine ⟨(fc_i hf h2).trans e1, e2, fun i hi => ⟨?_, ?_⟩, e4⟩
  · have nw := e4 _ (nd_mem hi)
    exact cr_cp (e3 i hi).1 ⟨nw.2.2.1.1, nw.2.2.2.1.1⟩ (fun w hw _ => fc_i hf (h1 _ (by omega) (by omega)))
  · exact (fc_i hf (h1 _ (by omega) (by omega))).trans (e3 i hi).2
theorem mdr_fr {P : Nat → Nat → Prop} {S S1 : GS} {K : Nat} {o : Option (List ND)} (h : MD S K o) (hf : FC P S S1) (h1 : ∀ j, 6161 * K ≤ j → j < 6161 * K + 6161 → ¬ P 501 j) (h2 : ¬ P 502 K) (h3 : ¬ P 500 5) : MD S1 K o := by
  cases o with
  | none => exact ⟨(fc_b hf h3).trans h.1, by obtain ⟨m, a, b⟩ := h.2; exact ⟨m, a, (fc_i hf h2).trans b⟩⟩
  | some W => exact ⟨(fc_b hf h3).trans h.1, mr_fr h.2 hf h1 h2⟩
/-- how many nodes there are -/
theorem md_n {S : GS} {K : Nat} {o : Option (List ND)} (h : MD S K o) : ∃ m : Nat, m ≤ 100 ∧ S.1 502 K = (m : Int) ∧ (∀ W, o = some W → W.length = m) := by
  cases o with
  | none => obtain ⟨m, a, b⟩ := h.2; exact ⟨m, a, b, fun W e => by cases e⟩
  | some W => exact ⟨W.length, h.2.2.1, h.2.1, fun W' e => by cases e; rfl⟩
theorem md_len {S : GS} {K : Nat} {W : List ND} (h : MD S K (some W)) : W.length ≤ 100 := h.2.2.1
theorem apM_app {o : Option (List ND)} {a b : List ND} : apM (apM o a) b = apM o (a ++ b) := by
  cases o with
  | none => rfl
  | some W =>
    unfold apM
    dsimp only
    by_cases h : W.length + a.length ≤ 100
    · rw [if_pos h]
      dsimp only
      rw [List.append_assoc, List.length_append, List.length_append, Nat.add_assoc]
    · rw [if_neg h, if_neg (by rw [List.length_append]; omega)]
theorem apM_nil {o : Option (List ND)} (h : ∀ W, o = some W → W.length ≤ 100) : apM o [] = o := by
  cases o with
  | none => rfl
  | some W =>
    unfold apM
    dsimp only
    rw [List.length_nil, if_pos (by have := h W rfl; omega), List.append_nil]
theorem md_apn {S : GS} {K : Nat} {o : Option (List ND)} (h : MD S K o) : apM o [] = o := apM_nil (fun W e => by subst e; exact md_len h)
theorem nd_getD_app {W : List ND} {x : ND} {i : Nat} : (W ++ [x]).getD i nd0 = if i < W.length then W.getD i nd0 else if i = W.length then x else nd0 := getD_push
/-- a record has come behind all others -/
theorem md_push {S S1 : GS} {K m : Nat} {o : Option (List ND)} {x : ND} (h : MD S K o) (hn : S.1 502 K = (m : Int)) (hl : m ≤ 100) (hx : NW x) (hc : CR S1 (6161 * K + 61 * m) x ∧ S1.1 501 (6161 * K + 61 * m + 3) = (x.2.1 : Int)) (h1 : S1.1 502 K = ((if m = 100 then 100 else m + 1 : Nat) : Int)) (h2 : S1.2.1 500 5 = (S.2.1 500 5 || decide (m = 100))) (hf : FC (fun c j => (c = 501 ∧ 6161 * K + 61 * m ≤ j ∧ j < 6161 * K + 61 * m + 61) ∨ (c = 502 ∧ j = K) ∨ (c = 500 ∧ j = 5)) S S1) : MD S1 K (apM o [x]) := by
  cases o with
  | none =>
    refine ⟨by rw [h2, h.1]; rfl, _, ?_, h1⟩
    split <;> omega
  | some W =>
    have e : W.length = m := by have := h.2.1; omega
    subst e
    unfold apM
    dsimp only
    rw [List.length_singleton]
    by_cases c : W.length = 100
    · rw [if_neg (by omega)]
      refine ⟨by rw [h2, decide_eq_true c, Bool.or_true], 100, by omega, ?_⟩
      rw [h1, if_pos c]
    · rw [if_pos (by omega)]
      obtain ⟨g1, g2, g3, g4, g5⟩ := h
      refine ⟨by rw [h2, g1, decide_eq_false c]; rfl, ?_, by rw [List.length_append, List.length_singleton]; omega, fun i hi => ?_, fun y hy => ?_⟩
      · rw [h1, if_neg c, List.length_append, List.length_singleton]
      · rw [List.length_append, List.length_singleton] at hi
        rw [getD_push]
        by_cases e : i < W.length
        · rw [if_pos e]
          have nw := g5 _ (nd_mem e)
          exact ⟨cr_cp (g4 i e).1 ⟨nw.2.2.1.1, nw.2.2.2.1.1⟩ (fun w hw _ => fc_i hf (by omega)), (fc_i hf (by omega)).trans (g4 i e).2⟩
        · have e2 : i = W.length := by omega
          subst e2
          rw [if_neg e, if_pos rfl]
          exact hc
      · rcases List.mem_append.mp hy with z | z
        · exact g5 y z
        · rw [List.mem_singleton] at z
          subst z
          exact hx
/-- a fresh node -/
def ndM (k : Int) : ND := (k, 0, 0, [], [])
section RF1
variable {S : GS} {d : Nat}
theorem q_begin1 {k : Int} {K : Nat} (hk : k = (K : Int)) (hK : K < 48) : Ev (fun n => f_X12_begin n d 0 S [k]) (fun _ S1 => MD S1 K (some []) ∧ FC (fun c j => (c = 502 ∧ j = K) ∨ (c = 500 ∧ j = 5)) S S1) :=
  ev_mono (q_begin hk hK) (fun _ S1 q => ⟨⟨q.2.1, q.1, by decide, fun i hi => absurd hi (Nat.not_lt_zero i), fun x hx => by cases hx⟩, q.2.2⟩)
theorem nw_M {k : Int} (h : 0 ≤ k ∧ k ≤ 5) : NW (ndM k) := ⟨h, by show (0 : Nat) ≤ 1000; decide, ⟨by show (0 : Nat) ≤ 40; decide, fun y hy => by cases hy⟩, ⟨by show (0 : Nat) ≤ 12; decide, fun y hy => by cases hy⟩, by show (-200 : Int) ≤ 0; decide, by show (0 : Int) ≤ 200; decide⟩
theorem cr_M {S : GS} {a : Nat} {k : Int} (h : ∀ w, w < 61 → S.1 501 (a + w) = if w = 0 then k else 0) : CR S a (ndM k) := by
  have e0 : isN (ndM k) = 0 := by
    unfold isN ndM
    dsimp only
    split
    · rw [if_neg (by decide), if_pos (Or.inr rfl)]
    · split <;> rfl
  have e1 : pwN (ndM k) = 0 := by
    unfold pwN ndM
    dsimp only
    split <;> rfl
  have e2 : sgN (ndM k) = [] := by
    unfold sgN ndM
    dsimp only
    split <;> rfl
  refine ⟨h 0 (by omega), h 5 (by omega), fun j hj => absurd hj (Nat.not_lt_zero j), ?_, ?_, ?_, fun j hj => ?_⟩
  · rw [e2]; exact h 18 (by omega)
  · rw [e0]; exact h 19 (by omega)
  · rw [e1]; exact h 20 (by omega)
  · rw [e2] at hj
    exact absurd hj (Nat.not_lt_zero j)
theorem q_added {k kd : Int} {K : Nat} {o : Option (List ND)} (hd : 1 ≤ d) (hk : k = (K : Int)) (hK : K < 48) (hx : 0 ≤ kd ∧ kd ≤ 5) (h : MD S K o) : Ev (fun n => f_X12_added n d 0 S [k, kd]) (fun x S1 => MD S1 K (apM o [ndM kd]) ∧ FC (doP K) S S1 ∧ x = S.1 502 K) := by
  obtain ⟨m, m1, m2, m3⟩ := md_n h
  refine ev_mono (q_added0 (d := d) hd hk hK m2 m1) (fun x S1 q => ?_)
  obtain ⟨rfl, q1, q2, q3, q4⟩ := q
  refine ⟨md_push h m2 m1 (nw_M hx) ⟨cr_M q1, q1 3 (by omega)⟩ q2 q3 q4, fc_mono q4 (fun c j z => ?_), m2.symm⟩
  rcases z with z | z | z
  · exact Or.inl ⟨z.1, by omega, by omega⟩
  · exact Or.inr (Or.inl z)
  · exact Or.inr (Or.inr z)
theorem q_like {k f i : Int} {K F I : Nat} {o : Option (List ND)} {x : ND} (hd : 2 ≤ d) (hk : k = (K : Int)) (hK : K < 48) (hf : f = (F : Int)) (hF : F < 48) (hi : i = (I : Int)) (hI : I ≤ 100) (hne : F ≠ K) (hx : NW x) (hc : CR S (6161 * F + 61 * I) x) (h : MD S K o) : Ev (fun n => f_X12_like n d 0 S [k, f, i]) (fun y S1 => MD S1 K (apM o [wZ x 0]) ∧ FC (doP K) S S1 ∧ y = S.1 502 K) := by
  obtain ⟨m, m1, m2, m3⟩ := md_n h
  refine ev_mono (q_like0 (d := d) hd hk hK hf hF hi hI (Or.inl hne) m2 m1) (fun y S1 q => ?_)
  obtain ⟨rfl, q1, q2, q3, q4⟩ := q
  have nw : NW (wZ x 0) := ⟨hx.1, by show (0 : Nat) ≤ 1000; decide, hx.2.2⟩
  refine ⟨md_push h m2 m1 nw ⟨cr_z.mpr (cr_cp hc ⟨hx.2.2.1.1, hx.2.2.2.1.1⟩ (fun w hw hn => ?_)), ?_⟩ q2 q3 q4, fc_mono q4 (fun c j z => ?_), m2.symm⟩
  · rw [q1 w hw, if_neg (by omega)]
  · rw [q1 3 (by omega), if_pos rfl]
    rfl
  rcases z with z | z | z
  · exact Or.inl ⟨z.1, by omega, by omega⟩
  · exact Or.inr (Or.inl z)
  · exact Or.inr (Or.inr z)
/-- how many VALUES a node has is told -/
theorem md_set3 {K i v : Nat} {o : Option (List ND)} (h : MD S K o) (hv : v ≤ 1000) (hi : i ≤ 100) : MD (gI S 501 (6161 * K + 61 * i + 3) (v : Int)) K (o.map fun W => W.set i (wZ (W.getD i nd0) v)) := by
  cases o with
  | none => exact ⟨h.1, by obtain ⟨m, a, b⟩ := h.2; exact ⟨m, a, by rw [gI_c (by decide)]; exact b⟩⟩
  | some W =>
    obtain ⟨g1, g2, g3, g4, g5⟩ := h
    refine ⟨g1, by rw [gI_c (by decide), List.length_set]; exact g2, by rw [List.length_set]; exact g3, fun j hj => ?_, fun y hy => ?_⟩
    · rw [List.length_set] at hj
      have nw := g5 _ (nd_mem hj)
      have cp : CR (gI S 501 (6161 * K + 61 * i + 3) (v : Int)) (6161 * K + 61 * j) (W.getD j nd0) := cr_cp (g4 j hj).1 ⟨nw.2.2.1.1, nw.2.2.2.1.1⟩ (fun w hw hn => gI_k (by omega))
      by_cases e : j = i
      · subst e
        rw [getD_set hj, if_pos rfl]
        exact ⟨cr_z.mpr cp, gI_a⟩
      · by_cases e2 : i < W.length
        · rw [getD_set e2, if_neg e]
          exact ⟨cp, by rw [gI_k (by omega)]; exact (g4 j hj).2⟩
        · dsimp only
          rw [List.set_eq_of_length_le (by omega)]
          exact ⟨cp, by rw [gI_k (by omega)]; exact (g4 j hj).2⟩
    · by_cases e2 : i < W.length
      · rcases List.mem_or_eq_of_mem_set hy with z | z
        · exact g5 y z
        · subst z
          have nw := g5 _ (nd_mem e2)
          exact ⟨nw.1, hv, nw.2.2⟩
      · dsimp only at hy
        rw [List.set_eq_of_length_le (by omega)] at hy
        exact g5 y hy
end RF1
