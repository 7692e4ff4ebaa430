/-! TABLES by COLUMNS: what is made -/
/-- what a MAP has with a KEY, or NOTHING -/
def ceT (V : List ND) (q : List Int) (x : Nat) : List ND := if vLk V (x : Int) q = -1 then [ndK 0] else kyT (sg V (vLk V (x : Int) q).toNat) []
def coT (V : List ND) (R : List Nat) (q : List Int) : List ND := gpN (wQ (ndK 4) q) (R.map (ceT V q)) (R.map (ceT V q)).length
/-- no MAP of these has that KEY -/
abbrev nwK (V : List ND) (D : List Nat) (q : List Int) : Prop := ∀ y ∈ D, fdK V q (kids V y) = -1
def fkF (V : List ND) (D : List Nat) : List Nat → List Nat
  | [] => []
  | c :: K => if nwK V D (nq V c) then c :: fkF V D K else fkF V D K
def clR (V : List ND) (R : List Nat) : List Nat → List Nat → List (List ND)
  | _, [] => []
  | D, x :: X => (fkF V D (kids V x)).map (fun c => coT V R (nq V c)) ++ clR V R (D ++ [x]) X
def clT (V : List ND) : List ND := gpN (ndK 5) (clR V (kids V 0) [] (kids V 0)) (clR V (kids V 0) [] (kids V 0)).length
section TB0
variable {V : List ND}
theorem fk_sub {D : List Nat} : ∀ (K : List Nat), (fkF V D K).Sublist K
  | [] => List.Sublist.refl _
  | c :: K => by
    have e : fkF V D (c :: K) = if nwK V D (nq V c) then c :: fkF V D K else fkF V D K := rfl
    rw [e]
    by_cases h : nwK V D (nq V c)
    · rw [if_pos h]
      exact List.Sublist.cons_cons _ (fk_sub K)
    · rw [if_neg h]
      exact List.Sublist.cons _ (fk_sub K)
theorem fk_new {D : List Nat} : ∀ (K : List Nat), ∀ c ∈ fkF V D K, nwK V D (nq V c)
  | [] => fun c h => by cases h
  | c :: K => by
    have e : fkF V D (c :: K) = if nwK V D (nq V c) then c :: fkF V D K else fkF V D K := rfl
    rw [e]
    by_cases h : nwK V D (nq V c)
    · rw [if_pos h]
      intro x hx
      rcases List.mem_cons.mp hx with z | z
      · rw [z]; exact h
      · exact fk_new K x z
    · rw [if_neg h]
      exact fk_new K
theorem ce_ok (hV : SDC V) {q : List Int} {x : Nat} : SDC (ceT V q x) ∧ rq (ceT V q x) = [] := by
  unfold ceT
  by_cases c : vLk V (x : Int) q = -1
  · rw [if_pos c]
    refine ⟨?_, rfl⟩
    have s : SDC [((0, 1, 0, [], []) : ND)] := sdc_leaf (show (0 : Int) < 4 by decide) rfl ⟨nr_mk (by decide) (by decide) (by decide) (fun y hy => by cases hy), Or.inl ⟨rfl, rfl, rfl⟩⟩
    exact s
  · rw [if_neg c]
    have v : (vLk V (x : Int) q).toNat < V.length := by
      rcases vLk_r hV.1.1.1 (pz_l hV.1.2) (x : Int) q with z | z
      · exact absurd z c
      · omega
    have sv := sdc_sg V.length V (Nat.le_refl _) hV _ v
    exact ⟨sdc_ky sv (fun y hy => by cases hy) (Nat.zero_le _), rq_ky⟩
theorem ce_all (hV : SDC V) {q : List Int} {R : List Nat} : ∀ t ∈ R.map (ceT V q), SDC t ∧ rq t = [] := fun t ht => by
  obtain ⟨x, _, rfl⟩ := List.mem_map.mp ht
  exact ce_ok hV
theorem co_tr (hV : SDC V) {q : List Int} {R : List Nat} : (TR (coT V R q) ∧ PZL (coT V R q)) ∧ rq (coT V R q) = q := ⟨⟨tr_gp (show (4 : Int) ≤ 4 by decide) (fun t ht => (ce_all hV t ht).1.1.1), pzl_gp (fun t ht => (ce_all hV t ht).1.1.2)⟩, rfl⟩
theorem co_sdc (hV : SDC V) {q : List Int} {R : List Nat} (hq : q.length ≤ 12 ∧ rng q) (hl : (coT V R q).length ≤ 100) : SDC (coT V R q) := by
  have hl2 : (R.map (ceT V q)).flatten.length < 100 := by
    unfold coT gpN at hl
    rw [List.length_cons] at hl
    omega
  exact sdc_gp (show (4 : Int) ≤ 4 by decide) ⟨⟨show (0 : Int) ≤ 4 by decide, show (4 : Int) ≤ 5 by decide, Nat.le_refl 1, show 1 ≤ 100 by decide, show (-200 : Int) ≤ 0 by decide, show (0 : Int) ≤ 200 by decide, Nat.zero_le _, (fun y hy => by cases hy), hq.1, hq.2⟩, Or.inr (Or.inr (Or.inr (Or.inr ⟨show (4 : Int) ≤ 4 by decide, rfl, rfl⟩)))⟩ (fun t ht => (ce_all hV t ht).1) (fun z => absurd (show (4 : Int) = 5 from z) (by decide)) (fun _ t ht => (ce_all hV t ht).2) hl2
/-- COLUMNS are sound, their KEYS none twice, and not too many -/
theorem cl_ok (hV : SDC V) {R : List Nat} : ∀ (X D : List Nat), (∀ x ∈ X, x < V.length ∧ nk V x = 5) → (∀ t ∈ clR V R D X, ((TR t ∧ PZL t) ∧ (t.length ≤ 100 → SDC t)) ∧ nwK V D (rq t)) ∧ ((clR V R D X).map rq).Nodup ∧ (clR V R D X).length ≤ suF (nz V) X
  | [], D, _ => ⟨fun t ht => (by cases ht), List.nodup_nil, Nat.le_refl _⟩
  | x :: X, D, hX => by
    obtain ⟨i1, i2, i3⟩ := cl_ok hV (R := R) X (D ++ [x]) (fun y hy => hX y (List.mem_cons_of_mem _ hy))
    obtain ⟨xl, x5⟩ := hX x List.mem_cons_self
    have zV := pz_l hV.1.2
    have e : clR V R D (x :: X) = (fkF V D (kids V x)).map (fun c => coT V R (nq V c)) ++ clR V R (D ++ [x]) X := rfl
    have sb := fk_sub (V := V) (D := D) (kids V x)
    have nw := fk_new (V := V) (D := D) (kids V x)
    have ku := kuv_sdc hV x xl x5
    have er : ((fkF V D (kids V x)).map (fun c => coT V R (nq V c))).map rq = (fkF V D (kids V x)).map (nq V) := by
      rw [List.map_map]
      rfl
    rw [e]
    refine ⟨fun t ht => ?_, ?_, ?_⟩
    · rcases List.mem_append.mp ht with z | z
      · obtain ⟨c, hc, rfl⟩ := List.mem_map.mp z
        have cl := (kid_in3 hV.1.1.1 zV xl (sb.subset hc)).2.1
        have nr := (hV.2.1 _ (nd_mem cl)).1
        exact ⟨⟨(co_tr hV).1, co_sdc hV ⟨nr.2.2.2.2.2.2.2.2.1, nr.2.2.2.2.2.2.2.2.2⟩⟩, nw c hc⟩
      · exact ⟨(i1 t z).1, fun y hy => (i1 t z).2 y (List.mem_append.mpr (Or.inl hy))⟩
    · rw [List.map_append, er, List.nodup_append]
      refine ⟨List.Sublist.nodup (sb.map _) ku, i2, fun q hq q2 hq2 eq => ?_⟩
      subst eq
      obtain ⟨t, ht, rfl⟩ := List.mem_map.mp hq2
      have := (i1 t ht).2 x (List.mem_append.mpr (Or.inr List.mem_cons_self))
      exact fdK_m1 _ this ((sb.map (nq V)).subset hq)
    · rw [List.length_append, List.length_map]
      have l1 := sb.length_le
      have l2 := kids_le hV.1.1.1 zV (g := x)
      have es : suF (nz V) (x :: X) = nz V x + suF (nz V) X := rfl
      omega
theorem clT_ok (hV : DOC V) (h : ∀ x ∈ kids V 0, nk V x = 5) : ((TR (clT V) ∧ PZL (clT V)) ∧ rq (clT V) = [] ∧ ((clT V).length ≤ 100 → SDC (clT V))) ∧ (∀ t ∈ clR V (kids V 0) [] (kids V 0), TR t ∧ PZL t) ∧ (clR V (kids V 0) [] (kids V 0)).length ≤ 100 := by
  have zV := pz_l hV.1.1.2
  have l1 := hV.1.1.1.2.1
  have l100 := hV.2.2.1
  obtain ⟨i1, i2, i3⟩ := cl_ok hV.1 (R := kids V 0) (kids V 0) [] (fun x hx => ⟨kids_lt hV x hx, h x hx⟩)
  have ks := kids_sum hV.1.1.1.1 zV (g := 0)
  have w0 := hV.1.1.1.1.1 0 (by omega)
  refine ⟨⟨⟨tr_gp (show (4 : Int) ≤ 5 by decide) (fun t ht => (i1 t ht).1.1.1), pzl_gp (fun t ht => (i1 t ht).1.1.2)⟩, rfl, fun hl => ?_⟩, fun t ht => (i1 t ht).1.1, by omega⟩
  have hl2 : (clR V (kids V 0) [] (kids V 0)).flatten.length < 100 := by
    unfold clT gpN at hl
    rw [List.length_cons] at hl
    omega
  refine sdc_gp (show (4 : Int) ≤ 5 by decide) ⟨nr_mk (by decide) (by decide) (by decide) (fun y hy => by cases hy), Or.inr (Or.inr (Or.inr (Or.inr ⟨show (4 : Int) ≤ 5 by decide, rfl, rfl⟩)))⟩ (fun t ht => ?_) (fun _ => i2) (fun z => absurd (show (5 : Int) = 4 from z) (by decide)) hl2
  have : t.length ≤ (clR V (kids V 0) [] (kids V 0)).flatten.length := List.Sublist.length_le (List.sublist_flatten_of_mem ht)
  exact (i1 t ht).1.2 (by omega)
end TB0
