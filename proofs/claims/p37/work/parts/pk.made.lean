/-! PATCHES are sound -/
theorem sx_rngB {i : Nat} (h : i < 54) : rng (sx i) := fun x hx => by
  unfold sx at hx
  obtain ⟨j, hj, rfl⟩ := List.mem_map.mp hx
  have := xch_rng i h j (List.mem_range.mp hj)
  omega
theorem esc_rng {x : Int} (hx : 0 ≤ x ∧ x < 256) : rng (esc x) := by
  intro y hy
  unfold esc at hy
  split at hy
  · simp only [List.mem_cons, List.not_mem_nil, or_false] at hy
    rcases hy with z | z <;> omega
  · split at hy
    · simp only [List.mem_cons, List.not_mem_nil, or_false] at hy
      rcases hy with z | z <;> omega
    · rw [List.mem_singleton] at hy
      omega
theorem rng_app {a b : List Int} (ha : rng a) (hb : rng b) : rng (a ++ b) := fun y hy => (List.mem_append.mp hy).elim (ha y) (hb y)
theorem rng_cons {x : Int} {b : List Int} (hx : 0 ≤ x ∧ x < 256) (hb : rng b) : rng (x :: b) := fun y hy => (List.mem_cons.mp hy).elim (fun e => e ▸ hx) (hb y)
theorem stp_rng {V : List ND} (h : ∀ x ∈ V, NR x) (i : Nat) : rng (stp V i) := by
  unfold stp
  refine rng_cons (by decide) ?_
  split
  · intro y hy
    obtain ⟨x, hx, hy⟩ := List.mem_flatMap.mp hy
    by_cases c : i < V.length
    · exact esc_rng ((h _ (nd_mem c)).2.2.2.2.2.2.2.2.2 x hx) y hy
    · have e : nq V i = [] := by
        unfold nq
        rw [List.getD_eq_getElem?_getD, List.getElem?_eq_none (by omega)]
        rfl
      rw [e] at hx
      cases hx
  · exact wnum_r (by omega)
theorem ord_sdc {op : Nat} {p : List Int} {v : List (List ND)} (hop : 21 ≤ op ∧ op ≤ 30) (hp : p.length ≤ 40 ∧ rng p) (hv : ∀ t ∈ v, SDC t) (hl : 3 + v.flatten.length ≤ 100) (h1 : v.length ≤ 1) : SDC (ordP op p v) ∧ rq (ordP op p v) = [] := by
  have so := sx_ops op hop.1 hop.2
  have k22 := (sx_ops 22 (by decide) (by decide)).2
  have k23 := (sx_ops 23 (by decide) (by decide)).2
  have k24 := (sx_ops 24 (by decide) (by decide)).2
  have tx : ∀ (t k : List Int), t.length ≤ 40 → rng t → k.length ≤ 12 → rng k → SDC [((3, 1, 0, t, k) : ND)] := fun t k a b c e => sdc_leaf (show (3 : Int) < 4 by decide) rfl ⟨⟨show (0 : Int) ≤ 3 by decide, show (3 : Int) ≤ 5 by decide, Nat.le_refl _, show 1 ≤ 100 by decide, show (-200 : Int) ≤ 0 by decide, show (0 : Int) ≤ 200 by decide, a, b, c, e⟩, Or.inr (Or.inr (Or.inr (Or.inl ⟨rfl, rfl⟩)))⟩
  have e : ordP op p v = gpN (ndK 5) ([[(3, 1, 0, sx op, sx 22)], [(3, 1, 0, p, sx 23)]] ++ v.map (fun t => kyT t (sx 24))) ([[(3, 1, 0, sx op, sx 22)], [(3, 1, 0, p, sx 23)]] ++ v.map (fun t => kyT t (sx 24))).length := by
    unfold ordP
    rw [List.length_append, List.length_map]
    rfl
  refine ⟨?_, rfl⟩
  rw [e]
  refine sdc_gp (by decide) ⟨nr_mk (by decide) (by decide) (by decide) (fun y hy => by cases hy), Or.inr (Or.inr (Or.inr (Or.inr ⟨by decide, rfl, rfl⟩)))⟩ (fun t ht => ?_) (fun _ => ?_) (fun z => absurd z (by decide)) ?_
  · rcases List.mem_append.mp ht with z | z
    · rcases List.mem_cons.mp z with y | y
      · subst y
        exact tx _ _ (by omega) (sx_rngB (by omega)) k22 (sx_rngB (by decide))
      · rw [List.mem_singleton] at y
        subst y
        exact tx _ _ hp.1 hp.2 k23 (sx_rngB (by decide))
    · obtain ⟨u, hu, rfl⟩ := List.mem_map.mp z
      exact sdc_ky (hv u hu) (sx_rngB (by decide)) k24
  · have kd : ∀ w : List (List Int), w = [] ∨ w = [sx 24] → ([sx 22, sx 23] ++ w).Nodup := by
      intro w hw
      rcases hw with z | z
      · subst z; decide +kernel
      · subst z; decide +kernel
    have em : ([[((3, 1, 0, sx op, sx 22) : ND)], [(3, 1, 0, p, sx 23)]] ++ v.map (fun t => kyT t (sx 24))).map rq = [sx 22, sx 23] ++ (v.map (fun t => kyT t (sx 24))).map rq := by
      rw [List.map_append]
      rfl
    rw [em]
    refine kd _ ?_
    match v, h1 with
    | [], _ => exact Or.inl rfl
    | [u], _ => exact Or.inr rfl
    | _ :: _ :: _, h => simp at h
  · have : ∀ w : List (List ND), (∀ t ∈ w, 1 ≤ t.length) → (w.map (fun t => kyT t (sx 24))).flatten.length = w.flatten.length := by
      intro w hw
      induction w with
      | nil => rfl
      | cons u w ih =>
        rw [List.map_cons, List.flatten_cons, List.flatten_cons, List.length_append, List.length_append, ky_len (hw u List.mem_cons_self), ih (fun t ht => hw t (List.mem_cons_of_mem _ ht))]
    rw [List.flatten_append, List.length_append, this v (fun t ht => (hv t ht).1.1.2.1)]
    show 2 + v.flatten.length < 100
    omega
/-- all ORDERS are sound -/
def OsK (os : Option (List (List ND))) : Prop := ∀ Os, os = some Os → Os.flatten.length + 1 ≤ 100 ∧ ∀ t ∈ Os, SDC t ∧ rq t = []
theorem osk_add {os : Option (List (List ND))} {op : Nat} {p : List Int} {v : List (List ND)} (h : OsK os) (hop : 21 ≤ op ∧ op ≤ 30) (hp : rng p) (hv : ∀ t ∈ v, SDC t) (h1 : v.length ≤ 1) : OsK (addS os op p v) := by
  intro Os e
  cases os with
  | none => cases e
  | some Os0 =>
    unfold addS at e
    dsimp only at e
    by_cases c : p.length ≤ 40 ∧ Os0.flatten.length + 1 + (3 + v.flatten.length) ≤ 100
    · rw [if_pos c] at e
      have e := Option.some.inj e
      subst e
      obtain ⟨h2, h3⟩ := h Os0 rfl
      have os1 := ord_sdc hop ⟨c.1, hp⟩ hv (by omega) h1
      have ol := ordP_len (op := op) (p := p) (v := v) (fun u hu => (hv u hu).1.1.2.1)
      refine ⟨?_, snoc_all h3 os1⟩
      rw [List.flatten_append, List.length_append, List.flatten_cons, List.flatten_nil, List.append_nil, ol]
      omega
    · rw [if_neg c] at e
      cases e
section OSK
variable {V U : List ND}
theorem sgn_sdc (hU : SDC U) {j : Nat} (hj : j < U.length) : ∀ t ∈ [sg U j], SDC t := fun t ht => by
  rw [List.mem_singleton] at ht
  subst ht
  exact sdc_sg U.length U (Nat.le_refl _) hU j hj
theorem osk_rv {p : List Int} {M : List Nat} (hp : rng p) : ∀ (k : Nat) (os : Option (List (List ND))), OsK os → OsK (rvF p M k os)
  | 0, os, h => h
  | k + 1, os, h => by
    refine osk_rv hp k _ ?_
    split
    · exact h
    · exact osk_add h (by decide) (rng_app hp (rng_cons (by decide) (wnum_r (by omega)))) (fun t ht => by cases ht) (by decide)
theorem osk_ad {p : List Int} {M K2 : List Nat} (hp : rng p) (hU : SDC U) (hK : ∀ k ∈ K2, k < U.length) (h1 : 1 ≤ U.length) : ∀ (f k : Nat) (os : Option (List (List ND))), OsK os → OsK (adF U K2 p M f k os)
  | 0, k, os, h => h
  | f + 1, k, os, h => by
    refine osk_ad hp hU hK h1 f (k + 1) _ ?_
    split
    · exact h
    · refine osk_add h (by decide) (rng_app hp (rng_cons (by decide) (wnum_r (by omega)))) (sgn_sdc hU ?_) (Nat.le_refl 1)
      by_cases c : k < K2.length
      · refine hK _ ?_
        rw [List.getD_eq_getElem?_getD, List.getElem?_eq_getElem c]
        exact List.getElem_mem c
      · rw [List.getD_eq_getElem?_getD, List.getElem?_eq_none (by omega)]
        exact h1
theorem osk_rm {p : List Int} {j : Nat} (hp : rng p) (hV : ∀ x ∈ V, NR x) : ∀ (K : List Nat) (os : Option (List (List ND))), OsK os → OsK (rmF V U p j K os)
  | [], os, h => h
  | c :: K, os, h => by
    refine osk_rm hp hV K _ ?_
    split
    · exact osk_add h (by decide) (rng_app hp (stp_rng hV c)) (fun t ht => by cases ht) (by decide)
    · exact h
theorem osk_an {p : List Int} {i : Nat} (hp : rng p) (hU : SDC U) : ∀ (K : List Nat) (os : Option (List (List ND))), (∀ c ∈ K, c < U.length) → OsK os → OsK (anF V U p i K os)
  | [], os, _, h => h
  | c :: K, os, hK, h => by
    refine osk_an hp hU K _ (fun c hc => hK c (List.mem_cons_of_mem _ hc)) ?_
    split
    · exact osk_add h (by decide) (rng_app hp (stp_rng (fun x hx => (hU.2.1 x hx).1) c)) (sgn_sdc hU (hK c List.mem_cons_self)) (Nat.le_refl 1)
    · exact h
theorem osk_bt (hV : SDC V) (hU : SDC U) : ∀ (f : Nat) (p : List Int) (i j : Nat) (os : Option (List (List ND))), rng p → i < V.length → j < U.length → OsK os → OsK (btF V U f p i j os)
  | 0, p, i, j, os, _, _, _, h => h
  | f + 1, p, i, j, os, hp, hi, hj, h => by
    have nV : ∀ x ∈ V, NR x := fun x hx => (hV.2.1 x hx).1
    have kV := fun c hc => kids_in (k := c) hV.1.1.1 (pz_l hV.1.2) hi hc
    have kU := fun c hc => kids_in (k := c) hU.1.1.1 (pz_l hU.1.2) hj hc
    rw [btF_s]
    split
    · exact h
    · split
      · refine osk_an hp hU _ _ kU ?_
        have gn : ∀ (K : List Nat) (os : Option (List (List ND))), (∀ c ∈ K, c < V.length) → OsK os → OsK (gnF (btF V U f) V U p j K os) := by
          intro K
          induction K with
          | nil => intro os _ h; exact h
          | cons c K ih =>
            intro os hK h
            refine ih _ (fun c hc => hK c (List.mem_cons_of_mem _ hc)) ?_
            split
            · exact h
            · rename_i z
              have lt := vLk_lt hU.1.1.1 (pz_l hU.1.2) z
              exact osk_bt hV hU f _ _ _ _ (rng_app hp (stp_rng nV c)) (hK c List.mem_cons_self) (by omega) h
        exact gn _ _ kV (osk_rm hp nV _ _ h)
      · split
        · unfold btR
          exact osk_ad hp hU kU hU.1.1.2.1 _ _ _ (osk_rv hp _ _ h)
        · exact osk_add h (by decide) hp (sgn_sdc hU hj) (Nat.le_refl 1)
theorem osk_pt (hV : SDC V) (hU : SDC U) : OsK (ptS V U) := osk_bt hV hU 13 [] 0 0 (some []) (fun y hy => by cases hy) hV.1.1.2.1 hU.1.1.2.1 (fun Os e => by
  have e := Option.some.inj e
  subst e
  exact ⟨show 0 + 1 ≤ 100 by decide, fun t ht => by cases ht⟩)
end OSK
