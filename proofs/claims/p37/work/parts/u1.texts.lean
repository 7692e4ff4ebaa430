/-! p37: WORDS out of a text -/
def wds (l : List Int) : List (List Int) := (List.range (nW l)).map (wdA l)
theorem slP_app : ∀ (A B : List Int) (i : Nat), slP (A ++ B) i = slP A i ++ slP B (i + A.length)
  | [], B, i => rfl
  | x :: A, B, i => by
    rw [List.cons_append, slP_c, slP_c, slP_app A B (i + 1), List.length_cons, show i + 1 + A.length = i + (A.length + 1) by omega]
    split <;> rfl
theorem slP_no : ∀ (r : List Int) (i : Nat), (∀ x ∈ r, x ≠ 47) → slP r i = []
  | [], _, _ => rfl
  | x :: r, i, h => by
    rw [slP_c, if_neg (h x List.mem_cons_self)]
    exact slP_no r (i + 1) (fun y hy => h y (List.mem_cons_of_mem _ hy))
theorem slP_snoc2 {p r : List Int} (hr : ∀ x ∈ r, x ≠ 47) : slP (p ++ 47 :: r) 0 = slP p 0 ++ [p.length + 1] := by
  rw [slP_app, slP_c, if_pos rfl, slP_no r _ hr, Nat.zero_add]
theorem nW_snoc {p r : List Int} (hr : ∀ x ∈ r, x ≠ 47) : nW (p ++ 47 :: r) = nW p + 1 := by
  unfold nW
  rw [slP_snoc2 hr, List.length_append]
  rfl
theorem stA_snoc {p r : List Int} (hr : ∀ x ∈ r, x ≠ 47) {k : Nat} (hk : k ≤ nW p) : stA (p ++ 47 :: r) (k : Int) = stA p (k : Int) := by
  have n := nW_snoc (p := p) hr
  rw [stA_k (l := p ++ 47 :: r) (by omega), slP_snoc2 hr]
  by_cases c : k < nW p
  · rw [stA_k c]
    rw [List.getD_eq_getElem?_getD, List.getElem?_append_left c, List.getD_eq_getElem?_getD]
  · have e : k = (slP p 0).length := by
      have : nW p = (slP p 0).length := rfl
      omega
    rw [stA_hi (l := p) (k := (k : Int)) (by omega)]
    rw [List.getD_eq_getElem?_getD, e, List.getElem?_append_right (Nat.le_refl _)]
    simp
theorem wds_snoc {p r : List Int} (hr : ∀ x ∈ r, x ≠ 47) : wds (p ++ 47 :: r) = wds p ++ [une r] := by
  unfold wds
  rw [nW_snoc hr, List.range_succ, List.map_append]
  have ln : (p ++ 47 :: r).length = p.length + 1 + r.length := by rw [List.length_append, List.length_cons]; omega
  congr 1
  · refine List.map_congr_left (fun k hk => ?_)
    have hk := List.mem_range.mp hk
    unfold wdA
    have a1 : stA (p ++ 47 :: r) ((k : Int) + 1) = stA p ((k : Int) + 1) := by
      have := stA_snoc (p := p) hr (k := k + 1) (by omega)
      rw [show ((k + 1 : Nat) : Int) = (k : Int) + 1 by omega] at this
      exact this
    rw [a1, stA_snoc hr (by omega)]
    have b1 := stA_r (l := p) ((k : Int) + 1)
    rw [List.take_append_of_le_length (by omega)]
  · show [wdA (p ++ 47 :: r) (nW p)] = [une r]
    unfold wdA
    have a0 := stA_snoc (p := p) hr (k := nW p) (Nat.le_refl _)
    rw [stA_hi (l := p) (Int.le_refl _)] at a0
    have n := nW_snoc (p := p) hr
    rw [a0, stA_hi (l := p ++ 47 :: r) (k := ((nW p : Nat) : Int) + 1) (by omega)]
    rw [show (((p ++ 47 :: r).length : Int) + 1 - 1).toNat = (p ++ 47 :: r).length by omega, List.take_length]
    rw [show ((p.length : Int) + 1).toNat = p.length + 1 by omega]
    congr 2
    rw [List.drop_append, List.drop_eq_nil_of_le (by omega), List.nil_append, show p.length + 1 - p.length = 1 by omega]
    rfl
theorem ptOK_app : ∀ (A B : List Int), ptOK A = true → ptOK B = true → ptOK (A ++ B) = true
  | [], B, _, h => h
  | [x], B, h1, h2 => by
    show ((decide (x ≠ 126 ∨ hdI B = 48 ∨ hdI B = 49)) && ptOK B) = true
    have h1 : ((decide (x ≠ 126 ∨ hdI ([] : List Int) = 48 ∨ hdI ([] : List Int) = 49)) && ptOK []) = true := h1
    rw [Bool.and_eq_true, decide_eq_true_eq] at h1 ⊢
    refine ⟨h1.1.imp id (fun z => ?_), h2⟩
    exact absurd z (by decide)
  | x :: y :: A, B, h1, h2 => by
    have h1 : ((decide (x ≠ 126 ∨ hdI (y :: A) = 48 ∨ hdI (y :: A) = 49)) && ptOK (y :: A)) = true := h1
    show ((decide (x ≠ 126 ∨ hdI (y :: (A ++ B)) = 48 ∨ hdI (y :: (A ++ B)) = 49)) && ptOK ((y :: A) ++ B)) = true
    rw [Bool.and_eq_true] at h1 ⊢
    exact ⟨h1.1, ptOK_app (y :: A) B h1.2 h2⟩
theorem isP_snoc {p r : List Int} (hp : isP p) (hr : ptOK r = true) : isP (p ++ 47 :: r) := by
  refine ⟨Or.inr ?_, ptOK_app p (47 :: r) hp.2 ?_⟩
  · rcases hp.1 with z | z
    · rw [z]; rfl
    · cases p with
      | nil => rfl
      | cons x p => exact z
  · show ((decide ((47 : Int) ≠ 126 ∨ hdI r = 48 ∨ hdI r = 49)) && ptOK r) = true
    rw [hr, Bool.and_true]
    exact decide_eq_true (Or.inl (by decide))
/-- a KEY as it is written in a PATH -/
theorem esc_no (q : List Int) : ∀ x ∈ q.flatMap esc, x ≠ 47 := fun x hx => by
  obtain ⟨y, _, h⟩ := List.mem_flatMap.mp hx
  unfold esc at h
  by_cases c : y = 126
  · rw [if_pos c] at h
    simp only [List.mem_cons, List.not_mem_nil, or_false] at h
    omega
  · rw [if_neg c] at h
    by_cases c2 : y = 47
    · rw [if_pos c2] at h
      simp only [List.mem_cons, List.not_mem_nil, or_false] at h
      omega
    · rw [if_neg c2] at h
      simp only [List.mem_cons, List.not_mem_nil, or_false] at h
      omega
theorem esc_ok : ∀ (q : List Int), ptOK (q.flatMap esc) = true
  | [] => rfl
  | y :: q => by
    rw [List.flatMap_cons]
    refine ptOK_app _ _ ?_ (esc_ok q)
    unfold esc
    by_cases c : y = 126
    · rw [if_pos c]; decide
    · rw [if_neg c]
      by_cases c2 : y = 47
      · rw [if_pos c2]; decide
      · rw [if_neg c2]
        show ((decide (y ≠ 126 ∨ hdI ([] : List Int) = 48 ∨ hdI ([] : List Int) = 49)) && ptOK []) = true
        rw [Bool.and_eq_true, decide_eq_true_eq]
        exact ⟨Or.inl c, rfl⟩
theorem une_esc : ∀ (q : List Int), une (q.flatMap esc) = q
  | [] => rfl
  | y :: q => by
    rw [List.flatMap_cons]
    unfold esc
    by_cases c : y = 126
    · rw [if_pos c]
      show une (126 :: 48 :: q.flatMap esc) = _
      rw [une_126, if_pos rfl, une_esc q, c]
    · rw [if_neg c]
      by_cases c2 : y = 47
      · rw [if_pos c2]
        show une (126 :: 49 :: q.flatMap esc) = _
        rw [une_126, if_neg (by decide), une_esc q, c2]
      · rw [if_neg c2]
        show une (y :: q.flatMap esc) = _
        rw [une_ne c, une_esc q]
/-- figures as they are written in a PATH -/
theorem fg_no {r : List Int} (h : fgR r) : ∀ x ∈ r, x ≠ 47 := fun x hx => by have := h x hx; omega
theorem fg_ok : ∀ {r : List Int}, fgR r → ptOK r = true
  | [], _ => rfl
  | x :: r, h => by
    show ((decide (x ≠ 126 ∨ hdI r = 48 ∨ hdI r = 49)) && ptOK r) = true
    rw [Bool.and_eq_true, decide_eq_true_eq]
    have := h x List.mem_cons_self
    exact ⟨Or.inl (by omega), fg_ok (fun y hy => h y (List.mem_cons_of_mem _ hy))⟩
theorem une_fg : ∀ {r : List Int}, fgR r → une r = r
  | [], _ => rfl
  | x :: r, h => by
    have := h x List.mem_cons_self
    rw [une_ne (by omega), une_fg (fun y hy => h y (List.mem_cons_of_mem _ hy))]
/-- a PATH by its parts -/
def txt (ss : List (List Int)) : List Int := ss.flatMap (fun s => 47 :: s)
/-- a part of a PATH -/
abbrev sgOK (s : List Int) : Prop := (∀ x ∈ s, x ≠ 47) ∧ ptOK s = true
theorem txt_snoc {ss : List (List Int)} {s : List Int} : txt (ss ++ [s]) = txt ss ++ 47 :: s := by
  unfold txt
  rw [List.flatMap_append]
  simp
theorem txt_ok : ∀ (n : Nat) (ss : List (List Int)), ss.length = n → (∀ s ∈ ss, sgOK s) → isP (txt ss) ∧ wds (txt ss) = ss.map une
  | 0, ss, hn, h => by
    have : ss = [] := List.eq_nil_of_length_eq_zero hn
    subst this
    exact ⟨⟨Or.inl rfl, rfl⟩, rfl⟩
  | n + 1, ss, hn, h => by
    have ne : ss ≠ [] := fun z => by rw [z] at hn; simp at hn
    have e := List.dropLast_concat_getLast ne
    have hl : ss.dropLast.length = n := by rw [List.length_dropLast, hn]; rfl
    obtain ⟨a, b⟩ := txt_ok n ss.dropLast hl (fun s hs => h s (List.dropLast_subset _ hs))
    have hs := h _ (List.getLast_mem ne)
    rw [← e, txt_snoc]
    exact ⟨isP_snoc a hs.2, by rw [wds_snoc hs.1, b, List.map_append]; rfl⟩
/-- PATHS lead by WORDS -/
theorem ldF_nw {l : List Int} {V : List ND} : ∀ (f i : Nat) (n : Int), ldF l V f i n = nwF V ((List.range f).map (fun k => wdA l (i + k))) n
  | 0, i, n => rfl
  | f + 1, i, n => by
    rw [List.range_succ_eq_map, List.map_cons, List.map_map]
    show (if n = -1 then -1 else ldF l V f (i + 1) (stpT V n (wdA l i))) = (if n = -1 then -1 else nwF V _ (stpT V n (wdA l (i + 0))))
    rw [ldF_nw f (i + 1), Nat.add_zero]
    have : (List.range f).map (fun k => wdA l (i + 1 + k)) = (List.range f).map ((fun k => wdA l (i + k)) ∘ Nat.succ) := List.map_congr_left (fun k _ => by
      show wdA l (i + 1 + k) = wdA l (i + (k + 1))
      rw [show i + 1 + k = i + (k + 1) by omega])
    rw [this]
    rfl
theorem ldT_nw {l : List Int} {V : List ND} : ldT l V (nW l) = nwF V (wds l) 0 := by
  unfold ldT wds
  rw [Nat.min_self, ldF_nw]
  simp only [Nat.zero_add]
theorem ldT_up {l : List Int} {V : List ND} {ws : List (List Int)} {w : List Int} (h : wds l = ws ++ [w]) : nW l = ws.length + 1 ∧ wdA l (nW l - 1) = w ∧ ldT l V (nW l - 1) = nwF V ws 0 := by
  have hn : nW l = ws.length + 1 := by
    have := congrArg List.length h
    unfold wds at this
    rw [List.length_map, List.length_range, List.length_append] at this
    exact this
  unfold wds at h
  rw [hn, List.range_succ, List.map_append] at h
  obtain ⟨a, b⟩ := List.append_inj h (by rw [List.length_map, List.length_range])
  refine ⟨hn, ?_, ?_⟩
  · rw [hn]
    exact (List.cons.inj b).1
  · unfold ldT
    rw [hn, show min (ws.length + 1 - 1) (ws.length + 1) = ws.length by omega, ldF_nw]
    simp only [Nat.zero_add]
    rw [a]
