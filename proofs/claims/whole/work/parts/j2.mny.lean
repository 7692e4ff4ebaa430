/-! THE REFERENCE: copies; a linked document told loosely -/
def mny (V : List ND) : List ND := (List.range V.length).map (fun i => wZ (V.getD i nd0) (kd (sg V i)).length)
theorem mny_len {V : List ND} : (mny V).length = V.length := by unfold mny; rw [List.length_map, List.length_range]
theorem mny_at {V : List ND} {i : Nat} (h : i < V.length) : (mny V).getD i nd0 = wZ (V.getD i nd0) (kd (sg V i)).length := by
  unfold mny
  rw [List.getD_eq_getElem?_getD, List.getElem?_map, List.getElem?_range h]
  rfl
theorem sg_cons1 {x : ND} {L : List ND} {i : Nat} : sg (x :: L) (i + 1) = sg L i := by
  unfold sg
  rw [nz_cons]
  rfl
theorem sg_l {A B : List ND} {i : Nat} (hA : WF A) (h : i < A.length) : sg (A ++ B) i = sg A i := by
  have w := hA.1 i h
  unfold sg seg
  rw [nz_l h, List.drop_append_of_le_length (by omega), List.take_append_of_le_length (by rw [List.length_drop]; omega)]
theorem sg_r {A B : List ND} {i : Nat} : sg (A ++ B) (A.length + i) = sg B i := by
  unfold sg seg
  rw [nz_r (by omega), Nat.add_sub_cancel_left, List.drop_append]
  rw [List.drop_eq_nil_of_le (by omega), List.nil_append, Nat.add_sub_cancel_left]
theorem nd_ext {A B : List ND} (h1 : A.length = B.length) (h2 : ∀ i, i < A.length → A.getD i nd0 = B.getD i nd0) : A = B := by
  refine List.ext_getElem h1 (fun i a b => ?_)
  have := h2 i a
  rw [List.getD_eq_getElem?_getD, List.getD_eq_getElem?_getD, List.getElem?_eq_getElem a, List.getElem?_eq_getElem b] at this
  exact this
theorem mny_app {A B : List ND} (hA : WF A) : mny (A ++ B) = mny A ++ mny B := by
  refine nd_ext (by rw [mny_len, List.length_append, List.length_append, mny_len, mny_len]) (fun i hi => ?_)
  rw [mny_len, List.length_append] at hi
  rw [mny_at (by rw [List.length_append]; omega), getD_append, getD_append, mny_len]
  by_cases c : i < A.length
  · rw [if_pos c, if_pos c, mny_at c, sg_l hA c]
  · rw [if_neg c, if_neg c, mny_at (by omega)]
    obtain ⟨j, rfl⟩ : ∃ j, i = A.length + j := ⟨i - A.length, by omega⟩
    rw [sg_r, Nat.add_sub_cancel_left]
theorem mny_cons {x : ND} {L : List ND} : mny (x :: L) = wZ x (kd (sg (x :: L) 0)).length :: mny L := by
  refine nd_ext (by rw [mny_len, List.length_cons, List.length_cons, mny_len]) (fun i hi => ?_)
  rw [mny_len] at hi
  rw [mny_at hi]
  cases i with
  | zero => rfl
  | succ i =>
    rw [List.length_cons] at hi
    rw [sg_cons1]
    show wZ (L.getD i nd0) _ = (mny L).getD i nd0
    rw [mny_at (by omega)]
theorem mny_flat : ∀ {E : List (List ND)}, (∀ t ∈ E, TR t) → mny E.flatten = (E.map mny).flatten
  | [], _ => rfl
  | t :: E, h => by
    rw [List.flatten_cons, mny_app (h t List.mem_cons_self).1, mny_flat (fun u hu => h u (List.mem_cons_of_mem _ hu))]
    rfl
theorem sg_selT {T : List ND} (h : TR T) : sg T 0 = T := by
  unfold sg seg
  have : nz T 0 = T.length := h.2.2
  rw [this, List.drop_zero, List.take_length]
theorem mny_gp {x : ND} {E : List (List ND)} (hx : 4 ≤ x.1) (h : ∀ t ∈ E, TR t ∧ PZL t) : mny (gpN x E E.length) = wZ x E.length :: (E.map mny).flatten := by
  have t1 : TR (gpN x E E.length) := tr_gp hx (fun t ht => (h t ht).1)
  have e1 := sg_selT t1
  have e2 := kd_gp (x := x) (m := E.length) h
  unfold gpN at e1 e2 ⊢
  rw [mny_cons, e1, e2, mny_flat (fun t ht => (h t ht).1)]
  rfl
theorem mny_leaf {x : ND} (hz : x.2.1 = 1) : mny [x] = [wZ x 0] := by
  have e1 := sg_selT (tr_leaf hz)
  rw [mny_cons, e1]
  rfl
theorem sg_sg {V : List ND} (hw : WF V) {i j : Nat} (hi : i < V.length) (hj : j < nz V i) : sg (sg V i) j = sg V (i + j) := by
  have w := hw.1 i hi
  have ew : (sg V i).getD j nd0 = V.getD (i + j) nd0 := seg_at hj
  have e1 : nz (sg V i) j = nz V (i + j) := by unfold nz; rw [ew]
  have w2 : j + nz V (i + j) ≤ nz V i := by
    cases j with
    | zero => show 0 + nz V i ≤ _; omega
    | succ j => have := hw.2.1 i (i + (j + 1)) (by omega) (by omega); omega
  unfold sg at e1 ⊢
  rw [e1, seg_seg w2]
theorem mny_sg {V : List ND} (hw : WF V) {i : Nat} (hi : i < V.length) : seg (mny V) i (nz V i) = mny (sg V i) := by
  have w := hw.1 i hi
  have sl := sg_len hw hi
  refine nd_ext (by rw [seg_len (by rw [mny_len]; exact w), mny_len, sl]) (fun j hj => ?_)
  rw [seg_len (by rw [mny_len]; exact w)] at hj
  rw [seg_at hj, mny_at (by omega), mny_at (by omega), sg_sg hw hi hj]
  have ew : (sg V i).getD j nd0 = V.getD (i + j) nd0 := seg_at hj
  rw [ew]
theorem mny_root {T : List ND} (h : TR T) : mny T = wZ (T.getD 0 nd0) (kd T).length :: (mny T).tail := by
  have l := h.2.1
  have e := mny_at (V := T) (i := 0) (by omega)
  rw [sg_selT h] at e
  cases hm : mny T with
  | nil => have := mny_len (V := T); rw [hm] at this; simp at this; omega
  | cons y L =>
    rw [hm] at e
    show y :: L = _ :: L
    rw [show y = wZ (T.getD 0 nd0) (kd T).length from e]
theorem mny_ky {T : List ND} (h : TR T) {q : List Int} : mny (kyT T q) = wQ (wZ (T.getD 0 nd0) (kd T).length) q :: (mny T).tail := by
  have e := mny_root h
  have l := h.2.1
  cases T with
  | nil => simp at l
  | cons x L =>
    have t2 : TR (kyT (x :: L) q) := tr_ky h
    unfold kyT at t2 ⊢
    rw [mny_cons, mny_cons]
    have s1 := sg_selT t2
    rw [show ((x :: L).getD 0 nd0) = x from rfl, show (x :: L).tail = L from rfl] at s1 ⊢
    rw [s1]
    rfl
theorem take_3 {X Y Z : List ND} {i : Nat} (h1 : X.length ≤ i) (h2 : i - X.length ≤ Y.length) : (X ++ (Y ++ Z)).take i = X ++ Y.take (i - X.length) := by
  rw [List.take_append, List.take_of_length_le h1, List.take_append_of_le_length h2]
theorem drop_3 {X Y Z : List ND} {i : Nat} (h1 : X.length ≤ i) (h2 : i - X.length ≤ Y.length) : (X ++ (Y ++ Z)).drop i = Y.drop (i - X.length) ++ Z := by
  rw [List.drop_append, List.drop_eq_nil_of_le h1, List.nil_append, List.drop_append_of_le_length h2]
/-- a NODE and what is its own give way to something else -/
theorem upd_mny {h : List ND → List ND} : ∀ (f : Nat) (T : List ND) (o : Nat), T.length ≤ f → TR T ∧ PZL T → o < T.length → TR (h (sg T o)) ∧ PZL (h (sg T o)) → mny (updF h f T o) = (mny T).take o ++ mny (h (sg T o)) ++ (mny T).drop (o + (sg T o).length)
  | 0, T, o, hf, hT, ho, _ => by omega
  | f + 1, T, o, hf, hT, ho, hh => by
    cases o with
    | zero =>
      rw [updF_0, sg_selT hT.1] at *
      rw [List.take_zero, List.nil_append, List.drop_eq_nil_of_le (by rw [mny_len]; omega), List.append_nil]
    | succ i =>
      obtain ⟨A, c, B, e1, e2, e3, e4, e5, -, -⟩ := upd_step (h := h) (f := f) hT ho
      have h4 : 4 ≤ rk T := by
        rcases tr_cases hT with z | z
        · rw [z.2.1] at ho; simp at ho
        · exact z.1
      have eT : T = gpN (T.getD 0 nd0) (kd T) (kd T).length := by
        rcases tr_cases hT with z | z
        · omega
        · exact z.2
      have kT : ∀ t ∈ A ++ c :: B, TR t ∧ PZL t := fun t ht => kd_tr hT.1 hT.2 t (by rw [e1]; exact ht)
      have hc := kT c (List.mem_append_right _ List.mem_cons_self)
      have lc : c.length ≤ f := by
        have l1 : T.length = 1 + (kd T).flatten.length := by
          have := congrArg List.length eT
          unfold gpN at this
          rw [List.length_cons] at this
          omega
        rw [e1, List.flatten_append, List.flatten_cons, List.length_append, List.length_append] at l1
        omega
      rw [e4] at hh ⊢
      have ih := upd_mny f c (i - A.flatten.length) lc hc (by omega) hh
      have ut := upd_tr f c (i - A.flatten.length) lc hc (by omega) hh
      have kU : ∀ t ∈ A ++ updF h f c (i - A.flatten.length) :: B, TR t ∧ PZL t := fun t ht => by
        rcases List.mem_append.mp ht with z | z
        · exact kT t (List.mem_append_left _ z)
        · rcases List.mem_cons.mp z with z | z
          · subst z; exact ut.1
          · exact kT t (List.mem_append_right _ (List.mem_cons_of_mem _ z))
      have sl : (sg c (i - A.flatten.length)).length = nz c (i - A.flatten.length) := sg_len hc.1.1 (by omega)
      have wc := hc.1.1.1 (i - A.flatten.length) (by omega)
      have nl : A.length + 1 + B.length = (A ++ c :: B).length := by rw [List.length_append, List.length_cons]; omega
      have mT : mny T = wZ (T.getD 0 nd0) (A ++ c :: B).length :: ((A.map mny).flatten ++ (mny c ++ (B.map mny).flatten)) := by
        have := mny_gp (x := T.getD 0 nd0) (E := A ++ c :: B) h4 kT
        rw [← e1, ← eT] at this
        rw [this, e1]
        simp
      have mU := mny_gp (x := T.getD 0 nd0) (E := A ++ updF h f c (i - A.flatten.length) :: B) h4 kU
      have ll : (A ++ updF h f c (i - A.flatten.length) :: B).length = (A ++ c :: B).length := by rw [List.length_append, List.length_append, List.length_cons, List.length_cons]
      have lA : ((A.map mny).flatten).length = A.flatten.length := by
        rw [← mny_flat (fun t ht => (kT t (List.mem_append_left _ ht)).1), mny_len]
      rw [e5, mU, ll, mT, List.map_append, List.map_cons, List.flatten_append, List.flatten_cons, ih]
      have l2 := mny_len (V := c)
      rw [List.take_succ_cons, take_3 (by omega) (by omega), show i + 1 + (sg c (i - A.flatten.length)).length = (i + (sg c (i - A.flatten.length)).length) + 1 by omega, List.drop_succ_cons, drop_3 (by omega) (by omega), lA]
      rw [show i + (sg c (i - A.flatten.length)).length - A.flatten.length = i - A.flatten.length + (sg c (i - A.flatten.length)).length by omega]
      simp
/-- what is like another one, and has a number of VALUES then -/
theorem apM_set {o : Option (List ND)} {m v : Nat} {x : ND} (h : ∀ W, o = some W → W.length = m) : (apM o [x]).map (fun W => W.set m (wZ (W.getD m nd0) v)) = apM o [wZ x v] := by
  cases o with
  | none => rfl
  | some W =>
    have e := h W rfl
    subst e
    unfold apM
    dsimp only
    rw [List.length_singleton, List.length_singleton]
    by_cases c : W.length + 1 ≤ 100
    · rw [if_pos c, if_pos c]
      dsimp only [Option.map]
      rw [getD_push, if_neg (by omega), if_pos rfl, List.set_append_right _ _ (Nat.le_refl _), Nat.sub_self]
      rfl
    · rw [if_neg c, if_neg c]
      rfl
section RF2
variable {S : GS} {d : Nat}
theorem q_copies {k f a e : Int} {K F A E : Nat} {o : Option (List ND)} {W0 : List ND} (hd : 3 ≤ d) (hk : k = (K : Int)) (hK : K < 48) (hf : f = (F : Int)) (hF : F < 48) (ha : a = (A : Int)) (he : e = (E : Int)) (hA : A ≤ 1000) (hE : E ≤ W0.length) (hne : F ≠ K) (h0 : MR S F W0) (h : MD S K o) : Ev (fun n => f_X12_copies n d 0 S [k, f, a, e]) (fun _ S1 => MD S1 K (apM o (seg W0 A (E - A))) ∧ FC (doP K) S S1) := by
  subst hk hf ha he
  refine ev_up (fun n => e_X12_copies_0) ?_
  unfold b_X12_copies_0
  have l0 := h0.2.1
  have lp : ∀ (t A : Nat) (S1 : GS) (o1 : Option (List ND)), E - A = t → MD S1 K o1 → FC (doP K) S S1 → A ≤ 1000000 → Ev (fun n => f_X12_copies n d 3 S1 [(K : Int), (F : Int), (E : Int), (A : Int)]) (fun _ S2 => MD S2 K (apM o1 (seg W0 A t)) ∧ FC (doP K) S S2) := by
    intro t
    induction t with
    | zero =>
      intro A S1 o1 ht h1 hf hA
      refine ev_up (fun n => e_X12_copies_3) ?_
      unfold b_X12_copies_3
      refine ev_gg (by first | omega | (constructor <;> omega)) ?_
      refine ev_gg (by first | omega | (constructor <;> omega)) ?_
      refine ev_ite (fun _ => ?_) (fun z => by omega)
      refine ev_ret ⟨?_, hf⟩
      rw [seg_nil, md_apn h1]
      exact h1
    | succ t ih =>
      intro A S1 o1 ht h1 hf hA
      have h2 : MR S1 F W0 := mr_fr h0 hf (fun j a b => by omega) (by omega)
      have hAl : A < W0.length := by omega
      have r2 := h2.2.2.1 A hAl
      have nw := h2.2.2.2 _ (nd_mem hAl)
      refine ev_up (fun n => e_X12_copies_3) ?_
      unfold b_X12_copies_3
      refine ev_gg (by first | omega | (constructor <;> omega)) ?_
      refine ev_gg (by first | omega | (constructor <;> omega)) ?_
      refine ev_ite (fun z => by omega) (fun _ => ?_)
      refine ev_gg (by first | omega | (constructor <;> omega)) ?_
      refine ev_gcr (q_part (d := d - 1) (6161 * F + 61 * A + 3) (by omega) (by omega) (by omega)) ?_
      refine ev_gc (q_like (d := d - 1) (K := K) (F := F) (I := A) (x := W0.getD A nd0) (by omega) rfl hK rfl hF rfl (by omega) hne nw r2.1 h1) (fun y S2 q => ?_)
      obtain ⟨q1, q2, rfl⟩ := q
      obtain ⟨m, m1, m2, m3⟩ := md_n h1
      rw [m2, r2.2]
      refine ev_gcr (q_at) ?_
      refine ev_gv ?_
      refine ev_gg (by first | omega | (constructor <;> omega)) ?_
      refine ev_gv ?_
      refine ev_gv ?_
      rw [show ((101 * (K : Int) + (m : Int)) * 61 + 3).toNat = 6161 * K + 61 * m + 3 by omega]
      have s3 := md_set3 (i := m) (v := (W0.getD A nd0).2.1) q1 nw.2.1 m1
      rw [apM_set m3, show wZ (wZ (W0.getD A nd0) 0) (W0.getD A nd0).2.1 = W0.getD A nd0 from rfl] at s3
      rw [show (A : Int) + 1 = ((A + 1 : Nat) : Int) by omega]
      refine ev_mono (ih (A + 1) _ _ (by omega) s3 (fc_tr hf (fc_tr q2 (fc_gI (Or.inl ⟨rfl, by omega, by omega⟩)))) (by omega)) (fun _ S4 q4 => ⟨?_, q4.2⟩)
      have := q4.1
      rw [apM_app] at this
      rw [seg_cons hAl]
      exact this
  exact lp (E - A) A S o rfl h fc_rf (by omega)
end RF2
