/-! GROWING: what grows, like KEYS and all, is sound -/
def F3 (v : Int) : List Int := [48 + v / 100, 48 + v / 10 % 10, 48 + v % 10]
set_option maxRecDepth 100000 in
theorem num3_all : ∀ v, v < 1000 → nmSg 0 (F3 ((v : Nat) : Int)) = nmSg 0 (wnum (v : Int)) ∧ (nmF (F3 (v : Int)) = nmT (F3 (v : Int)) ↔ nmF (wnum (v : Int)) = nmT (wnum (v : Int))) ∧ ((F3 (v : Int)).length : Int) - nmT (F3 (v : Int)) = ((wnum (v : Int)).length : Int) - nmT (wnum (v : Int)) := by decide +kernel
theorem num3 {v p : Int} (h : 0 ≤ v ∧ v < 1000) : nmSg 0 (F3 v) = nmSg 0 (wnum v) ∧ nmPw (F3 v) p = nmPw (wnum v) p := by
  obtain ⟨w, rfl⟩ : ∃ w : Nat, v = (w : Int) := ⟨v.toNat, by omega⟩
  obtain ⟨h1, h2, h3⟩ := num3_all w (by omega)
  refine ⟨h1, ?_⟩
  unfold nmPw
  by_cases c : nmF (F3 (w : Int)) = nmT (F3 (w : Int))
  · rw [if_pos c, if_pos (h2.mp c)]
  · rw [if_neg c, if_neg (fun z => c (h2.mpr z))]
    omega
theorem F3_fg {v : Int} (h : 0 ≤ v ∧ v < 1000) : fgR (F3 v) ∧ (F3 v).length = 3 := by
  refine ⟨fun x hx => ?_, rfl⟩
  unfold F3 at hx
  simp only [List.mem_cons, List.not_mem_nil, or_false] at hx
  rcases hx with z | z | z <;> omega
theorem num3_ok {v p : Int} (h : 0 ≤ v ∧ v < 1000) (hp : -50 ≤ p ∧ p ≤ 50) : nmOk (F3 v) p = 1 := by
  have e : (F3 v).length = 3 := rfl
  have h0 : nmF (F3 v) ≤ nmT (F3 v) ∧ nmT (F3 v) ≤ (F3 v).length := tzF_r (F3 v) (lzF (F3 v)) (F3 v).length (lzF_le (F3 v))
  unfold nmOk
  refine if_pos ?_
  by_cases c : nmF (F3 v) = nmT (F3 v)
  · exact Or.inl c
  · right
    unfold nmPw
    rw [if_neg c]
    omega
theorem grT_ok : ∀ (n : Nat) (st : Int), n ≤ 40 → (0 ≤ st ∧ st < 65536) → (grT n st).1.length = n ∧ (∀ x ∈ (grT n st).1, 0 ≤ x ∧ x < 256) ∧ 0 ≤ (grT n st).2 ∧ (grT n st).2 < 65536
  | 0, st, _, h => ⟨rfl, (fun x hx => by cases hx), h.1, h.2⟩
  | n + 1, st, hn, h => by
    have ih := grT_ok n (dr st) (by omega) dr_r
    have d3 := dv_r (st := st) (n := 3) (by decide)
    refine ⟨by show ((97 + dv st 3) :: (grT n (dr st)).1).length = n + 1; rw [List.length_cons, ih.1], fun x hx => ?_, ih.2.2⟩
    rcases List.mem_cons.mp hx with z | z
    · omega
    · exact ih.2.1 x z
def GfOK (f : Nat) (z : List ND × Int) : Prop := RW z.1 ∧ (∀ g, dpS g z.1 ≤ (f : Int) - 1) ∧ z.1.length ≤ bz f ∧ rq z.1 = [] ∧ 0 ≤ z.2 ∧ z.2 < 65536
theorem grL_ok {g : Int → List ND × Int} {f : Nat} (hg : ∀ st, (0 ≤ st ∧ st < 65536) → GfOK f (g st)) (mp : Bool) : ∀ (n : Nat) (st : Int), (0 ≤ st ∧ st < 65536) → (∀ T ∈ (grL g mp n st).1, RW T ∧ (∀ r, dpS r T ≤ (f : Int) - 1) ∧ (mp = false → rq T = [])) ∧ (grL g mp n st).1.flatten.length ≤ n * bz f ∧ 0 ≤ (grL g mp n st).2 ∧ (grL g mp n st).2 < 65536
  | 0, st, h => ⟨(fun T hT => by cases hT), Nat.zero_le _, h.1, h.2⟩
  | n + 1, st, h => by
    have d5 := dv_r (st := st) (n := 5) (by decide)
    cases mp with
    | true =>
      rw [grL_t]
      have k := hg (dr st) dr_r
      have ih := grL_ok hg true n (g (dr st)).2 k.2.2.2.2
      have l1 : (kyT (g (dr st)).1 [97 + dv st 5]).length = (g (dr st)).1.length := ky_len k.1.1.1.2.1
      refine ⟨fun T hT => ?_, ?_, ih.2.2⟩
      · rcases List.mem_cons.mp hT with z | z
        · subst z
          refine ⟨rw_ky k.1 (fun x hx => ?_) (show 1 ≤ 12 by decide), fun r => by rw [dp_ky]; exact k.2.1 r, fun z => absurd z (by decide)⟩
          rw [List.mem_singleton] at hx
          omega
        · exact ih.1 T z
      · show (kyT (g (dr st)).1 [97 + dv st 5] :: (grL g true n (g (dr st)).2).1).flatten.length ≤ _
        rw [List.flatten_cons, List.length_append, l1, Nat.add_mul]
        have := k.2.2.1
        have := ih.2.1
        omega
    | false =>
      rw [grL_f]
      have k := hg st h
      have ih := grL_ok hg false n (g st).2 k.2.2.2.2
      refine ⟨fun T hT => ?_, ?_, ih.2.2⟩
      · rcases List.mem_cons.mp hT with z | z
        · subst z
          exact ⟨k.1, k.2.1, fun _ => k.2.2.2.1⟩
        · exact ih.1 T z
      · show ((g st).1 :: (grL g false n (g st).2).1).flatten.length ≤ _
        rw [List.flatten_cons, List.length_append, Nat.add_mul]
        have := k.2.2.1
        have := ih.2.1
        omega
theorem grK_r {lv st : Int} : 0 ≤ grK lv st ∧ grK lv st < 8 ∧ (1 ≤ lv → 3 ≤ lv → grK lv st < 4) := by
  unfold grK
  by_cases c : lv = 0
  · rw [if_pos (Or.inl c), if_pos c]
    have := dv_r (st := st) (n := 4) (by decide)
    exact ⟨by omega, by omega, fun z => by omega⟩
  · rw [if_neg c]
    by_cases c2 : 3 ≤ lv
    · rw [if_pos (Or.inr c2)]
      have := dv_r (st := st) (n := 4) (by decide)
      exact ⟨by omega, by omega, fun _ _ => by omega⟩
    · rw [if_neg (by omega)]
      have := dv_r (st := st) (n := 8) (by decide)
      exact ⟨by omega, by omega, fun _ z => absurd z c2⟩
/-- what a VALUE begins with: the NODE, how many VALUES come, the draws behind it -/
def gX (lv sz st : Int) : ND × Nat × Int :=
  if grK lv st = 0 then (ndK 0, 0, dr st)
  else if grK lv st = 1 then ((1, 1, if dv (dr st) 2 = 1 then 1 else 0, [], []), 0, dr (dr st))
  else if grK lv st = 2 then ((2, 1, nmPw (wnum (dv (dr st) 1000)) (dv (dr (dr st)) 5 - 2), nmSg 0 (wnum (dv (dr st) 1000)), []), 0, dr (dr (dr st)))
  else if grK lv st = 3 then ((3, 1, 0, (grT (dv (dr st) 4).toNat (dr (dr st))).1, []), 0, (grT (dv (dr st) 4).toNat (dr (dr st))).2)
  else (ndK (if grK lv st < 6 then 4 else 5), (dv (dr st) (sz + 1)).toNat, dr (dr st))
theorem grF_X {f : Nat} {lv sz st : Int} : grF (f + 1) lv sz st = if grK lv st < 4 then ([(gX lv sz st).1], (gX lv sz st).2.2) else (gpN (gX lv sz st).1 (grL (grF f (lv + 1) sz) (decide (6 ≤ grK lv st)) (gX lv sz st).2.1 (gX lv sz st).2.2).1 (gX lv sz st).2.1, (grL (grF f (lv + 1) sz) (decide (6 ≤ grK lv st)) (gX lv sz st).2.1 (gX lv sz st).2.2).2) := by
  have k := grK_r (lv := lv) (st := st)
  have e : grF (f + 1) lv sz st = if grK lv st = 0 then ([ndK 0], dr st)
    else if grK lv st = 1 then ([(1, 1, if dv (dr st) 2 = 1 then 1 else 0, [], [])], dr (dr st))
    else if grK lv st = 2 then ([(2, 1, nmPw (wnum (dv (dr st) 1000)) (dv (dr (dr st)) 5 - 2), nmSg 0 (wnum (dv (dr st) 1000)), [])], dr (dr (dr st)))
    else if grK lv st = 3 then ([(3, 1, 0, (grT (dv (dr st) 4).toNat (dr (dr st))).1, [])], (grT (dv (dr st) 4).toNat (dr (dr st))).2)
    else (gpN (ndK (if grK lv st < 6 then 4 else 5)) (grL (grF f (lv + 1) sz) (decide (6 ≤ grK lv st)) (dv (dr st) (sz + 1)).toNat (dr (dr st))).1 (dv (dr st) (sz + 1)).toNat, (grL (grF f (lv + 1) sz) (decide (6 ≤ grK lv st)) (dv (dr st) (sz + 1)).toNat (dr (dr st))).2) := rfl
  rw [e]
  unfold gX
  by_cases c0 : grK lv st = 0
  · rw [if_pos c0, if_pos (show grK lv st < 4 by omega), if_pos c0]
  rw [if_neg c0, if_neg c0]
  by_cases c1 : grK lv st = 1
  · rw [if_pos c1, if_pos (show grK lv st < 4 by omega), if_pos c1]
  rw [if_neg c1, if_neg c1]
  by_cases c2 : grK lv st = 2
  · rw [if_pos c2, if_pos (show grK lv st < 4 by omega), if_pos c2]
  rw [if_neg c2, if_neg c2]
  by_cases c3 : grK lv st = 3
  · rw [if_pos c3, if_pos (show grK lv st < 4 by omega), if_pos c3]
  rw [if_neg c3, if_neg c3, if_neg (show ¬ grK lv st < 4 by omega)]
theorem gX_ok {lv sz st : Int} (hsz : 1 ≤ sz ∧ sz ≤ 3) : (NR (gX lv sz st).1 ∧ VN (gX lv sz st).1) ∧ ((gX lv sz st).1.2.1 = 1 ∧ (gX lv sz st).1.2.2.2.2 = []) ∧ (gX lv sz st).1.1 = (if grK lv st < 4 then grK lv st else if grK lv st < 6 then 4 else 5) ∧ (gX lv sz st).2.1 ≤ 3 ∧ (grK lv st < 4 → (gX lv sz st).2.1 = 0) ∧ 0 ≤ (gX lv sz st).2.2 ∧ (gX lv sz st).2.2 < 65536 := by
  have k := grK_r (lv := lv) (st := st)
  have d1 := dr_r (st := st)
  have d2 := dr_r (st := dr st)
  have d3 := dr_r (st := dr (dr st))
  unfold gX
  by_cases c0 : grK lv st = 0
  · rw [if_pos c0, if_pos (show grK lv st < 4 by omega), c0]
    exact ⟨⟨nr_mk (by decide) (by decide) (by decide) (fun y hy => by cases hy), Or.inl ⟨rfl, rfl, rfl⟩⟩, ⟨rfl, rfl⟩, rfl, Nat.zero_le _, fun _ => rfl, d1⟩
  rw [if_neg c0]
  by_cases c1 : grK lv st = 1
  · rw [if_pos c1, if_pos (show grK lv st < 4 by omega), c1]
    have e : (if dv (dr st) 2 = 1 then (1 : Int) else 0) = 0 ∨ (if dv (dr st) 2 = 1 then (1 : Int) else 0) = 1 := by
      split
      · exact Or.inr rfl
      · exact Or.inl rfl
    exact ⟨⟨nr_mk (by decide) (by omega) (by decide) (fun y hy => by cases hy), Or.inr (Or.inl ⟨rfl, e, rfl⟩)⟩, ⟨rfl, rfl⟩, rfl, Nat.zero_le _, fun _ => rfl, d2⟩
  rw [if_neg c1]
  by_cases c2 : grK lv st = 2
  · rw [if_pos c2, if_pos (show grK lv st < 4 by omega), c2]
    have v1 := dv_r (st := dr st) (n := 1000) (by decide)
    have v2 := dv_r (st := dr (dr st)) (n := 5) (by decide)
    have n3 := num3 (p := dv (dr (dr st)) 5 - 2) v1
    have ok := num3_ok (p := dv (dr (dr st)) 5 - 2) v1 (by omega)
    have fg := F3_fg v1
    have nb := nb_nm (g := 0) fg.1 (by rw [fg.2]; decide) ok
    have r1 := nmSg_r (g := 0) fg.1 (by rw [fg.2]; decide)
    have r2 := nmPw_r ok
    rw [n3.1, n3.2] at nb
    rw [n3.1] at r1
    rw [n3.2] at r2
    exact ⟨⟨nr_mk (by decide) (by omega) r1.1 r1.2, Or.inr (Or.inr (Or.inl ⟨rfl, nb⟩))⟩, ⟨rfl, rfl⟩, rfl, Nat.zero_le _, fun _ => rfl, d3⟩
  rw [if_neg c2]
  by_cases c3 : grK lv st = 3
  · rw [if_pos c3, if_pos (show grK lv st < 4 by omega), c3]
    have v1 := dv_r (st := dr st) (n := 4) (by decide)
    have g := grT_ok (dv (dr st) 4).toNat (dr (dr st)) (by omega) d2
    exact ⟨⟨nr_mk (by decide) (by decide) (by omega) g.2.1, Or.inr (Or.inr (Or.inr (Or.inl ⟨rfl, rfl⟩)))⟩, ⟨rfl, rfl⟩, rfl, Nat.zero_le _, fun _ => rfl, g.2.2⟩
  rw [if_neg c3, if_neg (show ¬ grK lv st < 4 by omega)]
  have v1 := dv_r (st := dr st) (n := sz + 1) (by omega)
  refine ⟨⟨nr_mk ?_ (by decide) (by decide) (fun y hy => by cases hy), Or.inr (Or.inr (Or.inr (Or.inr ⟨?_, rfl, rfl⟩)))⟩, ⟨rfl, rfl⟩, rfl, by show (dv (dr st) (sz + 1)).toNat ≤ 3; omega, fun z => by omega, d2⟩
  · split <;> decide
  · show (4 : Int) ≤ if grK lv st < 6 then 4 else 5
    split <;> decide
theorem grF_ok {sz : Int} (hsz : 1 ≤ sz ∧ sz ≤ 3) : ∀ (f : Nat) (lv st : Int), 0 ≤ lv → lv + f = 4 → 1 ≤ f → (0 ≤ st ∧ st < 65536) → GfOK f (grF f lv sz st)
  | 0, _, _, _, _, h, _ => by omega
  | f + 1, lv, st, h0, hl, _, hst => by
    have x := gX_ok (lv := lv) (sz := sz) (st := st) hsz
    have k := grK_r (lv := lv) (st := st)
    rw [grF_X]
    by_cases c : grK lv st < 4
    · rw [if_pos c]
      have x1 : (gX lv sz st).1.1 < 4 := by rw [x.2.2.1, if_pos c]; exact c
      refine ⟨rw_leaf x1 x.2.1.1 x.1, fun g => by rw [dp_leaf x1]; omega, bz_1 _, x.2.1.2, x.2.2.2.2.2⟩
    · rw [if_neg c]
      have f1 : 1 ≤ f := by
        by_cases z : f = 0
        · have := k.2.2 (by omega) (by omega)
          omega
        · omega
      have lo := grL_ok (g := grF f (lv + 1) sz) (f := f) (fun st2 h2 => grF_ok hsz f (lv + 1) st2 (by omega) (by omega) f1 h2) (decide (6 ≤ grK lv st)) (gX lv sz st).2.1 (gX lv sz st).2.2 x.2.2.2.2.2
      have ll := grL_len (grF f (lv + 1) sz) (decide (6 ≤ grK lv st)) (gX lv sz st).2.1 (gX lv sz st).2.2
      have x1 : (gX lv sz st).1.1 = if grK lv st < 6 then 4 else 5 := by rw [x.2.2.1, if_neg c]
      have x4 : 4 ≤ (gX lv sz st).1.1 := by rw [x1]; split <;> decide
      have bs := bz_s f1 (by omega)
      have b3 : (gX lv sz st).2.1 * bz f ≤ 3 * bz f := Nat.mul_le_mul_right _ x.2.2.2.1
      have b40 : bz (f + 1) ≤ 40 := by
        have : f ≤ 3 := by omega
        match f, this with
        | 0, _ => decide
        | 1, _ => decide
        | 2, _ => decide
        | 3, _ => decide
      have hw := rw_gp (x := (gX lv sz st).1) x4 x.1 (fun t ht => (lo.1 t ht).1) (fun z t ht => (lo.1 t ht).2.2 (by
        rw [x1] at z
        by_cases c6 : grK lv st < 6
        · exact decide_eq_false (by omega)
        · rw [if_neg c6] at z; exact absurd z (by decide))) (by omega)
      rw [ll] at hw
      refine ⟨hw, fun g => ?_, ?_, x.2.1.2, lo.2.2⟩
      · have := dp_gp (x := (gX lv sz st).1) (m := (gX lv sz st).2.1) (b := (f : Int) - 1) (by omega) (fun T hT => (lo.1 T hT).1.1) (fun T hT => (lo.1 T hT).2.1) g
        have e : ((f + 1 : Nat) : Int) - 1 = (f : Int) - 1 + 1 := by omega
        rw [e]
        exact this
      · show (gpN (gX lv sz st).1 (grL (grF f (lv + 1) sz) (decide (6 ≤ grK lv st)) (gX lv sz st).2.1 (gX lv sz st).2.2).1 (gX lv sz st).2.1).length ≤ _
        unfold gpN
        rw [List.length_cons]
        omega
/-- what grows is a DOCUMENT, like KEYS made one -/
theorem gr_sdc {sz st : Int} {f : Nat} {lv : Int} (hsz : 1 ≤ sz ∧ sz ≤ 3) (h0 : 0 ≤ lv) (hl : lv + f = 4) (hf : 1 ≤ f) (hst : 0 ≤ st ∧ st < 65536) : SDC (nr3 f (grF f lv sz st).1) ∧ (∀ g, dpS g (nr3 f (grF f lv sz st).1) ≤ 3) ∧ (nr3 f (grF f lv sz st).1).length ≤ 40 ∧ rq (nr3 f (grF f lv sz st).1) = [] := by
  obtain ⟨g1, g2, g3, g4, _⟩ := grF_ok hsz f lv st h0 hl hf hst
  have b40 : bz f ≤ 40 := by
    have : f ≤ 4 := by omega
    match f, this with
    | 0, _ => decide
    | 1, _ => decide
    | 2, _ => decide
    | 3, _ => decide
    | 4, _ => decide
  rw [← nrH_3]
  refine ⟨nrH_sdc f _ g1 (fun g => by have := g2 g; omega) (by omega), fun g => ?_, ?_, ?_⟩
  · have := nrH_dp (h := true) f g _ g1.1
    have := g2 g
    omega
  · have := nrH_len (h := true) f _ g1.1
    omega
  · rw [(nrH_tr f _ g1.1).2]
    exact g4
