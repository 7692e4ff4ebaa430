/-! THE STANDARD says yes to SCHEMAS alone -/
def stY (T : List ND) (P : Int) (X g : Nat) : Prop := ∃ (f : Nat) (refs : List (Int × Int)) (n n1 : Int) (cs : List (Int × Int)), (∀ p ∈ refs, p.2 < (g : Int)) ∧ askR stT T P f refs (X : Int) (g : Int) (n, cs) = some (n1, cs)
def stZ (T : List ND) (P : Int) (X g : Nat) : Prop := ∃ (f : Nat) (refs : List (Int × Int)) (n n1 : Int) (cs : List (Int × Int)), (∀ p ∈ refs, p.2 ≤ (g : Int)) ∧ askR stT T P f refs (X : Int) (g : Int) (n, cs) = some (n1, cs)
section STO
variable {T : List ND} {P : Int} {g X : Nat}
theorem st_yz (h : stY T P X g) : stZ T P X g := by
  obtain ⟨f, refs, n, n1, cs, h1, h2⟩ := h
  exact ⟨f, refs, n, n1, cs, fun p hp => by have := h1 p hp; omega, h2⟩
theorem ask_pos {f : Nat} {refs : List (Int × Int)} {sub nd n n1 : Int} {cs cs1 : List (Int × Int)} (h : askR stT T P f refs sub nd (n, cs) = some (n1, cs1)) : ∃ f1, f = f1 + 1 ∧ n + 1 ≤ P := by
  cases f with
  | zero => cases h
  | succ f =>
    refine ⟨f, rfl, ?_⟩
    have e : askR stT T P (f + 1) refs sub nd (n, cs) = if P < n + 1 then none else if kdI stT sub = 5 then wdsR stT T (askR stT T P f) refs sub.toNat nd.toNat 15 (n + 1, cs) else if kdI stT sub = 1 ∧ np stT sub.toNat = 1 then some (n + 1, cs) else some (n + 1, cs ++ [(nd, 0)]) := rfl
    rw [e] at h
    by_cases c : P < n + 1
    · rw [if_pos c] at h; cases h
    · omega
theorem app_nil {cs es : List (Int × Int)} (h : cs ++ es = cs) : es = [] := List.length_eq_zero_iff.mp (by
  have := congrArg List.length h
  rw [List.length_append] at this
  omega)
theorem z_ref (hX : X < 67) (h0 : stX X ≠ 0) (h : stY T P X g) : stZ T P (stX X) g := by
  obtain ⟨f, refs, n, n1, cs, h1, h2⟩ := h
  obtain ⟨f1, rfl, hP⟩ := ask_pos h2
  rw [e_ref hX h0 hP] at h2
  by_cases c1 : ((stX X : Int), (g : Int)) ∈ refs
  · have := h1 _ c1
    have : (g : Int) < (g : Int) := this
    omega
  · rw [if_neg c1] at h2
    by_cases c2 : 13 ≤ refs.length
    · rw [if_pos c2] at h2
      have := app_nil (Prod.mk.inj (Option.some.inj h2)).2
      cases this
    · rw [if_neg c2] at h2
      refine ⟨f1, _, n + 1, n1, cs, fun p hp => ?_, h2⟩
      rcases List.mem_append.mp hp with z | z
      · have := h1 p z; omega
      · rw [List.mem_singleton] at z
        rw [z]
        exact Int.le_refl _
theorem z_kind (hX : X ∈ [4, 17, 19, 21, 23, 27, 35, 45]) (hr : 0 ≤ nk T g ∧ nk T g ≤ 5) (h : stZ T P X g) : nk T g = (stK1 X : Int) := by
  obtain ⟨f, refs, n, n1, cs, h1, h2⟩ := h
  obtain ⟨f1, rfl, hP⟩ := ask_pos h2
  rw [e_kind hX hr hP] at h2
  have := app_nil (Prod.mk.inj (Option.some.inj h2)).2
  by_cases c : nk T g = (stK1 X : Int)
  · exact c
  · rw [if_neg c] at this
    cases this
theorem ask_exG {f : Nat} {refs : List (Int × Int)} : exG (fun sub nd K => askR stT T P f refs sub nd K) := fun sub nd K K1 h => ask_ext h
theorem z_two (hX : X ∈ [6, 13, 25, 58, 62]) (hr : 0 ≤ nk T g ∧ nk T g ≤ 5) (h : stZ T P X g) : nk T g = (stK1 X : Int) ∧ ∀ sub q : Nat, g < q → (∀ refs, ((sub : Int), (q : Int)) ∈ qsL stT T refs (stW X) X (stS2 X) g) → stY T P sub q := by
  obtain ⟨f, refs, n, n1, cs, h1, h2⟩ := h
  obtain ⟨f1, rfl, hP⟩ := ask_pos h2
  rw [e_two hX hr hP] at h2
  cases e : lqR (fun sub nd K => askR stT T P f1 refs sub nd K) false (qsL stT T refs (stW X) X (stS2 X) g) 0 (n + 1, cs ++ if nk T g = (stK1 X : Int) then [] else [((g : Int), 1)]) with
  | none => rw [e] at h2; cases h2
  | some r =>
    rw [e] at h2
    obtain ⟨a1, n2, cs2⟩ := r
    have e2 : (n2, cs2) = (n1, cs) := Option.some.inj h2
    obtain ⟨rfl, rfl⟩ := Prod.mk.inj e2
    obtain ⟨⟨es, q1⟩, q2⟩ := lq_yes ask_exG _ _ _ _ _ _ _ e
    have k0 : (if nk T g = (stK1 X : Int) then [] else [((g : Int), (1 : Int))]) ++ es = [] := app_nil (by rw [← List.append_assoc]; exact q1.symm)
    have k1 := (List.append_eq_nil_iff.mp k0).1
    refine ⟨?_, fun sub q hq hm => ?_⟩
    · by_cases c : nk T g = (stK1 X : Int)
      · exact c
      · rw [if_neg c] at k1
        cases k1
    · rw [k1, List.append_nil] at q2
      obtain ⟨n3, n4, q3⟩ := q2 rfl _ (hm refs) (by show (sub : Int) ≠ -1; omega)
      exact ⟨f1, refs, n3, n4, cs2, fun p hp => by have := h1 p hp; omega, q3⟩
theorem z_some (h : stZ T P 2 g) : stZ T P 4 g ∨ stZ T P 6 g := by
  obtain ⟨f, refs, n, n1, cs, h1, h2⟩ := h
  obtain ⟨f1, rfl, hP⟩ := ask_pos h2
  obtain ⟨⟨ab2, _, _⟩, ⟨e3, k3⟩, _, _, ⟨k5, _, _⟩, _⟩ := st_some
  have h2' : askR stT T P (f1 + 1) refs ((2 : Nat) : Int) (g : Int) (n, cs) = some (n1, cs) := h2
  rw [e_some (X := 2) (a := 4) (b := 6) (said := 3) (by decide) k5 ab2 e3 k3 hP] at h2'
  cases e : lqR (fun sub nd K => askR stT T P f1 refs sub nd K) true [(((4 : Nat) : Int), (g : Int)), (((6 : Nat) : Int), (g : Int))] 0 (n + 1, cs) with
  | none => rw [e] at h2'; cases h2'
  | some r =>
    rw [e] at h2'
    obtain ⟨a1, n2, cs2⟩ := r
    obtain ⟨q1, q2⟩ := lq_some ask_exG _ _ _ _ _ _ _ e
    have e2 := (Prod.mk.inj (Option.some.inj h2')).2
    have e2' : cs2 ++ (if 0 < a1 then [] else [((g : Int), (12 : Int))]) = cs := e2
    rw [q1] at e2'
    have e3 := app_nil e2'
    have a0 : 0 < a1 := by
      by_cases c : 0 < a1
      · exact c
      · rw [if_neg c] at e3
        cases e3
    obtain ⟨x, hx, _, n3, n4, hy⟩ := q2 a0
    rcases List.mem_cons.mp hx with z | z
    · subst z
      exact Or.inl ⟨f1, refs, n3, n4, cs, h1, hy⟩
    · rw [List.mem_singleton] at z
      subst z
      exact Or.inr ⟨f1, refs, n3, n4, cs, h1, hy⟩
def k8F (w : Nat) : Nat := [0, 9, 17, 19, 21, 23, 25, 29, 31, 33, 35, 37, 39, 41, 43, 45].getD w 0
set_option maxRecDepth 100000 in
theorem k8_ok : (∀ w, w < 16 → 1 ≤ w → vLk stT ((8 : Nat) : Int) (sx (30 + w)) = (k8F w : Int)) ∧ vLk stT ((8 : Nat) : Int) (sx 53) = 47 := by decide +kernel
theorem std_yes {n : Int} (dT : DOC T) (h : askR stT T 2000 151 [] 0 0 (0, []) = some (n, [])) : ∃ ok, OkS T ok ∧ ok 0 := by
  have sT := dT.1
  have wT := sT.1.1.1
  have zT := pz_l sT.1.2
  have l1 := sT.1.1.2.1
  have nr : ∀ i, i < T.length → 0 ≤ nk T i ∧ nk T i ≤ 5 := fun i hi => ⟨(sT.2.1 _ (nd_mem hi)).1.1, (sT.2.1 _ (nd_mem hi)).1.2.1⟩
  have r0 : stZ T 2000 2 0 := z_ref (X := 0) (by decide) (by decide) ⟨151, [], 0, n, [], (fun p hp => by cases hp), h⟩
  -- a SCHEMA: what it is, and what its KEYS are asked
  have sch : ∀ i, i < T.length → stZ T 2000 2 i → nk T i = 1 ∨ (nk T i = 5 ∧ ∀ c ∈ kids T i, ∀ sub : Nat, vLk stT ((8 : Nat) : Int) (nq T c) = (sub : Int) → stY T 2000 sub c) := by
    intro i hi hz
    rcases z_some hz with z | z
    · exact Or.inl (z_kind (X := 4) (by decide) (nr i hi) z)
    · obtain ⟨k5, hk⟩ := z_two (X := 6) (by decide) (nr i hi) z
      refine Or.inr ⟨k5, fun c hc sub hs => hk sub c (mem_kids zT hc).1 (fun refs => ?_)⟩
      have eq : qsL stT T refs (stW 6) 6 (stS2 6) i = (kidsM T i).map (fun (q : Nat) => (vLk stT ((8 : Nat) : Int) (nq T q), (q : Int))) := rfl
      rw [eq]
      refine List.mem_map.mpr ⟨c, ?_, by rw [hs]⟩
      unfold kidsM
      rw [if_pos (show nk T i = 5 from k5)]
      exact hc
  have mp : ∀ i, i < T.length → stZ T 2000 58 i → nk T i = 5 ∧ ∀ c ∈ kids T i, stZ T 2000 2 c := by
    intro i hi z
    obtain ⟨k5, hk⟩ := z_two (X := 58) (by decide) (nr i hi) z
    refine ⟨k5, fun c hc => z_ref (X := 60) (by decide) (by decide) (hk 60 c (mem_kids zT hc).1 (fun refs => ?_))⟩
    have eq : qsL stT T refs (stW 58) 58 (stS2 58) i = (kidsM T i).map (fun (q : Nat) => (if vLk stT (vLk stT ((58 : Nat) : Int) (sx 37)) (nq T q) = -1 then ((60 : Nat) : Int) else -1, (q : Int))) := rfl
    rw [eq]
    refine List.mem_map.mpr ⟨c, ?_, ?_⟩
    · unfold kidsM
      rw [if_pos (show nk T i = 5 from k5)]
      exact hc
    · have e1 : vLk stT (vLk stT ((58 : Nat) : Int) (sx 37)) (nq T c) = -1 := by
        have : vLk stT ((58 : Nat) : Int) (sx 37) = -1 := st_some.2.2.2.2.2
        rw [this]
        exact vl_neg
      rw [if_pos e1]
  have rowOf : ∀ (X2 : Nat), (X2 = 25 ∨ X2 = 62) → ∀ i, i < T.length → stZ T 2000 X2 i → nk T i = 4 ∧ ∀ c ∈ kids T i, stY T 2000 (stS2 X2) c := by
    intro X2 h2 i hi z
    have hm : X2 ∈ [6, 13, 25, 58, 62] := by rcases h2 with y | y <;> subst y <;> decide
    have w9 : stW X2 = 9 := by rcases h2 with y | y <;> subst y <;> rfl
    have k14 : stK1 X2 = 4 := by rcases h2 with y | y <;> subst y <;> rfl
    obtain ⟨k4, hk⟩ := z_two (X := X2) hm (nr i hi) z
    rw [k14] at k4
    refine ⟨k4, fun c hc => hk (stS2 X2) c (mem_kids zT hc).1 (fun refs => ?_)⟩
    have eq : qsL stT T refs (stW X2) X2 (stS2 X2) i = (if nk T i = 4 then kids T i else []).map (fun (q : Nat) => ((stS2 X2 : Int), (q : Int))) := by
      rw [w9]
      rfl
    rw [eq, if_pos (show nk T i = 4 from k4)]
    exact List.mem_map.mpr ⟨c, hc, rfl⟩
  have keyOf : ∀ (i said : Nat) (q : List Int), vLk T (i : Int) q = (said : Int) → nq T said = q := by
    intro i said q hs
    have := vLk_key (V := T) (n := (i : Int)) (q := q) (by rw [hs]; omega)
    rw [hs, Int.toNat_natCast] at this
    exact this
  refine ⟨fun i => i < T.length ∧ stZ T 2000 2 i, ⟨fun i hi => ?_, fun q t ht => ?_⟩, by omega, r0⟩
  · obtain ⟨il, iz⟩ := hi
    have hs := sch i il iz
    refine ⟨il, hs.elim Or.inr (fun y => Or.inl y.1), fun w said w1 w15 es => ?_⟩
    have sk : said ∈ kids T i := vl_kid es
    have sl := (kid_in3 wT zT il sk).2.1
    have k5 : nk T i = 5 := by
      by_cases z : nk T i = 5
      · exact z
      · rw [vl_kM il z] at es
        omega
    have hk : stY T 2000 (k8F w) said := by
      rcases hs with z | z
      · omega
      · refine z.2 said sk (k8F w) ?_
        rw [keyOf i said _ es]
        exact k8_ok.1 w (by omega) w1
    have kin : ∀ c ∈ kids T said, c < T.length := fun c hc => (kid_in3 wT zT sl hc).2.1
    have num : (2 ≤ w ∧ w ≤ 5) → nk T said = 2 := fun z => by
      have hm : k8F w ∈ [4, 17, 19, 21, 23, 27, 35, 45] ∧ stK1 (k8F w) = 2 := by
        rcases (show w = 2 ∨ w = 3 ∨ w = 4 ∨ w = 5 by omega) with y | y | y | y <;> subst y <;> decide
      have := z_kind hm.1 (nr said sl) (st_yz hk)
      rw [hm.2] at this
      exact this
    have toS : (w = 8 ∨ w = 9 ∨ w = 14) → stZ T 2000 2 said := fun z => by
      have hm : k8F w < 67 ∧ stX (k8F w) = 2 := by
        rcases z with y | y | y <;> subst y <;> decide
      have := z_ref hm.1 (by rw [hm.2]; decide) hk
      rw [hm.2] at this
      exact this
    have toM : w = 7 → nk T said = 5 ∧ ∀ c ∈ kids T said, stZ T 2000 2 c := fun z => by
      subst z
      have := z_ref (X := 29) (by decide) (by decide) hk
      exact mp said sl this
    have toR : (w = 11 ∨ w = 12 ∨ w = 13) → ∀ c ∈ kids T said, stZ T 2000 2 c := fun z c hc => by
      have hm : k8F w < 67 ∧ stX (k8F w) = 62 := by
        rcases z with y | y | y <;> subst y <;> decide
      have := z_ref hm.1 (by rw [hm.2]; decide) hk
      rw [hm.2] at this
      have h64 := (rowOf 62 (Or.inr rfl) said sl this).2 c hc
      exact z_ref (X := 64) (by decide) (by decide) h64
    refine ⟨⟨⟨num, fun z c hc => ?_⟩, fun z => (toM z).1, fun z => ?_⟩, fun z c hc => ?_, fun z => ⟨sl, toS z⟩⟩
    · subst z
      have h27 := (rowOf 25 (Or.inl rfl) said sl (st_yz hk)).2 c hc
      exact z_kind (X := 27) (by decide) (nr c (kin c hc)) (st_yz h27)
    · subst z
      exact z_kind (X := 45) (by decide) (nr said sl) (st_yz hk)
    · rcases z with z | z
      · exact ⟨kin c hc, (toM z).2 c hc⟩
      · exact ⟨kin c hc, toR z c hc⟩
  · rcases vLk_r wT zT 0 (sx 53) with y | y
    · rw [y, vl_neg] at ht
      omega
    · obtain ⟨t0, e0⟩ : ∃ t0 : Nat, vLk T 0 (sx 53) = (t0 : Int) := ⟨(vLk T 0 (sx 53)).toNat, by omega⟩
      rw [e0] at ht
      have k0 : t0 ∈ kids T 0 := vl_kid (i := 0) e0
      have l0 := (kid_in3 wT zT (show 0 < T.length by omega) k0).2.1
      have k1 : t ∈ kids T t0 := vl_kid ht
      have tl := (kid_in3 wT zT l0 k1).2.1
      have k5 : nk T 0 = 5 := by
        by_cases z : nk T 0 = 5
        · exact z
        · have := vl_kM (Sc := T) (g := 0) (q := sx 53) (by omega) z
          have e0' : vLk T ((0 : Nat) : Int) (sx 53) = (t0 : Int) := e0
          rw [this] at e0'
          omega
      have h47 : stY T 2000 47 t0 := by
        rcases sch 0 (by omega) r0 with z | z
        · omega
        · refine z.2 t0 k0 47 ?_
          rw [keyOf 0 t0 (sx 53) e0]
          exact k8_ok.2
      have h58 := z_ref (X := 47) (by decide) (by decide) h47
      exact ⟨tl, (mp t0 l0 h58).2 t k1⟩
end STO
