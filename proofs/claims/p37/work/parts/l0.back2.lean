/-! What was written is read as it was: VALUES -/
theorem ky_self {T : List ND} (h : 1 ≤ T.length) : kyT T (rq T) = T := by
  cases T with
  | nil => simp at h
  | cons x L => rfl
theorem rdV_ne {f : Nat} {how : Int} {b : Nat} {x : Int} {r : List Int} (hx : x ≠ 32 ∧ x ≠ 10) (hb : b < 100) (hn : x ≠ 91 ∧ x ≠ 123) : rdV (f + 1) how b (x :: r) = bd (if x = 34 then rdTx (x :: r) else if x = 45 ∨ fgC x then rdNb (x :: r) else rdC (x :: r)) (fun z => .inr (z.1, b + 1, z.2)) := by
  unfold rdV
  rw [skB_ne hx, if_neg (show ¬ (x :: r = [] ∨ 100 ≤ b) from fun z => z.elim (fun q => by cases q) (fun q => by omega)), if_neg (show ¬ (hdI (x :: r) = 91 ∨ hdI (x :: r) = 123) from fun z => z.elim hn.1 hn.2)]
  rfl
theorem one_leaf {T : List ND} (h : SDC T) (hk : rk T < 4) : T = [T.getD 0 nd0] ∧ (T.getD 0 nd0).2.1 = 1 := by
  rcases tr_cases h.1 with z | z
  · exact z.2
  · omega
/-- a VALUE without VALUES of its own is read back -/
theorem leaf_back {T : List ND} {f b : Nat} {how : Int} {R : List Int} (h : SDC T) (hk : rk T < 4) (hR : bkR R) (hb : b < 100) : rdV (f + 1) how b (wsc T ++ R) = .inr (kyT T [], b + 1, R) ∧ ∃ x r, wsc T = x :: r ∧ x ≠ 32 ∧ x ≠ 10 := by
  obtain ⟨eT, z1⟩ := one_leaf h hk
  obtain ⟨nr, vn⟩ := root_nr h
  generalize hx : T.getD 0 nd0 = x at *
  have rk_ : rk T = x.1 := by rw [← hx]; rfl
  have rp_ : rp T = x.2.2.1 := by rw [← hx]; rfl
  have rt_ : rt T = x.2.2.2.1 := by rw [← hx]; rfl
  have k0 : 0 ≤ x.1 := nr.1
  have ky : kyT T [] = [wQ x []] := by rw [eT]; rfl
  rw [ky]
  unfold wsc
  rw [rk_, rp_, rt_]
  rcases vn with v | v | v | v | v
  · rw [if_pos v.1, sx_12]
    refine ⟨?_, 110, _, rfl, by decide, by decide⟩
    rw [show ([110, 117, 108, 108] : List Int) ++ R = 110 :: ([117, 108, 108] ++ R) from rfl, rdV_ne (by decide) hb (by decide), if_neg (by decide), if_neg (show ¬ ((110 : Int) = 45 ∨ fgC 110) by decide)]
    have e : rdC (110 :: ([117, 108, 108] ++ R)) = .inr ([ndK 0], R) := by
      unfold rdC
      rw [if_pos (show hdI (110 :: ([117, 108, 108] ++ R)) = 110 from rfl), sx_12]
      have := rdW_back [110, 117, 108, 108] R
      rw [show 110 :: ([117, 108, 108] ++ R) = [110, 117, 108, 108] ++ R from rfl, this]
      rfl
    rw [e]
    have ex : wQ x [] = ndK 0 := by
      obtain ⟨k, z, p, t, q⟩ := x
      obtain ⟨v1, v2, v3⟩ := v
      dsimp only at v1 v2 v3 z1
      subst v1 v2 v3 z1
      rfl
    rw [ex]
    rfl
  · rw [if_neg (by omega), if_pos v.1]
    have p01 := v.2.1
    by_cases c : x.2.2.1 = 1
    · rw [if_pos c, sx_13]
      refine ⟨?_, 116, _, rfl, by decide, by decide⟩
      rw [show ([116, 114, 117, 101] : List Int) ++ R = 116 :: ([114, 117, 101] ++ R) from rfl, rdV_ne (by decide) hb (by decide), if_neg (by decide), if_neg (show ¬ ((116 : Int) = 45 ∨ fgC 116) by decide)]
      have e : rdC (116 :: ([114, 117, 101] ++ R)) = .inr ([(1, 1, 1, [], [])], R) := by
        unfold rdC
        rw [if_neg (show ¬ hdI (116 :: ([114, 117, 101] ++ R)) = 110 by show ¬ (116 : Int) = 110; decide), if_pos (show hdI (116 :: ([114, 117, 101] ++ R)) = 116 from rfl), sx_13]
        have := rdW_back [116, 114, 117, 101] R
        rw [show 116 :: ([114, 117, 101] ++ R) = [116, 114, 117, 101] ++ R from rfl, this]
        rfl
      rw [e]
      have ex : wQ x [] = (1, 1, 1, [], []) := by
        obtain ⟨k, z, p, t, q⟩ := x
        obtain ⟨v1, v2, v3⟩ := v
        dsimp only at v1 v3 z1 c
        subst v1 v3 z1 c
        rfl
      rw [ex]
      rfl
    · rw [if_neg c, sx_14]
      refine ⟨?_, 102, _, rfl, by decide, by decide⟩
      rw [show ([102, 97, 108, 115, 101] : List Int) ++ R = 102 :: ([97, 108, 115, 101] ++ R) from rfl, rdV_ne (by decide) hb (by decide), if_neg (by decide), if_neg (show ¬ ((102 : Int) = 45 ∨ fgC 102) by decide)]
      have e : rdC (102 :: ([97, 108, 115, 101] ++ R)) = .inr ([(1, 1, 0, [], [])], R) := by
        unfold rdC
        rw [if_neg (show ¬ hdI (102 :: ([97, 108, 115, 101] ++ R)) = 110 by show ¬ (102 : Int) = 110; decide), if_neg (show ¬ hdI (102 :: ([97, 108, 115, 101] ++ R)) = 116 by show ¬ (102 : Int) = 116; decide), if_pos (show hdI (102 :: ([97, 108, 115, 101] ++ R)) = 102 from rfl), sx_14]
        have := rdW_back [102, 97, 108, 115, 101] R
        rw [show 102 :: ([97, 108, 115, 101] ++ R) = [102, 97, 108, 115, 101] ++ R from rfl, this]
        rfl
      rw [e]
      have c0 : x.2.2.1 = 0 := by omega
      have ex : wQ x [] = (1, 1, 0, [], []) := by
        obtain ⟨k, z, p, t, q⟩ := x
        obtain ⟨v1, v2, v3⟩ := v
        dsimp only at v1 v3 z1 c0
        subst v1 v3 z1 c0
        rfl
      rw [ex]
      rfl
  · rw [if_neg (by omega), if_neg (by omega), if_pos v.1]
    have nb := rdNb_back v.2 hR
    have ne : ∃ y r, wnb x.2.2.2.1 x.2.2.1 = y :: r := by
      unfold wnb
      rcases v.2 with ⟨a, _⟩ | ⟨g, F, a, _, l1, _⟩
      · rw [a]; exact ⟨48, _, rfl⟩
      · rw [a]
        by_cases c : g = 0
        · rw [if_pos c]
          cases F with
          | nil => simp at l1
          | cons y F => exact ⟨y, _, rfl⟩
        · rw [if_neg c]; exact ⟨45, _, rfl⟩
    obtain ⟨y, r, er⟩ := ne
    rw [er] at nb ⊢
    have hy : y = 45 ∨ fgC y := nb.2
    refine ⟨?_, y, r, rfl, by omega, by omega⟩
    rw [List.cons_append] at nb ⊢
    rw [rdV_ne (by omega) hb (by omega), if_neg (by omega), if_pos hy, nb.1]
    have ex : wQ x [] = (2, 1, x.2.2.1, x.2.2.2.1, []) := by
      obtain ⟨k, z, p, t, q⟩ := x
      obtain ⟨v1, v2⟩ := v
      dsimp only at v1 z1
      subst v1 z1
      rfl
    rw [ex]
    rfl
  · rw [if_neg (by omega), if_neg (by omega), if_neg (by omega)]
    have rt40 := rt_ok h
    rw [rt_] at rt40
    unfold wq
    refine ⟨?_, 34, _, rfl, by decide, by decide⟩
    rw [show [34] ++ wtx x.2.2.2.1 ++ [34] ++ R = 34 :: (wtx x.2.2.2.1 ++ 34 :: R) by simp, rdV_ne (by decide) hb (by decide), if_pos rfl]
    have e : rdTx (34 :: (wtx x.2.2.2.1 ++ 34 :: R)) = .inr ([(3, 1, 0, x.2.2.2.1, [])], R) := by
      unfold rdTx
      have := rdT_back (m := 40) x.2.2.2.1 [] R 40000 rt40.2 (by simp; omega) (by omega)
      rw [List.nil_append] at this
      rw [show (34 :: (wtx x.2.2.2.1 ++ 34 :: R)).tail = wtx x.2.2.2.1 ++ 34 :: R from rfl, this]
      rfl
    rw [e]
    have ex : wQ x [] = (3, 1, 0, x.2.2.2.1, []) := by
      obtain ⟨k, z, p, t, q⟩ := x
      obtain ⟨v1, v2⟩ := v
      dsimp only at v1 v2 z1
      subst v1 v2 z1
      rfl
    rw [ex]
    rfl
  · omega
theorem wo_rq {w : Int} : ∀ (f : Nat) (T : List ND), rq (woF w f T) = rq T ∧ rk (woF w f T) = rk T
  | 0, T => ⟨rfl, rfl⟩
  | f + 1, T => by
    unfold woF
    split
    · exact ⟨rfl, rfl⟩
    · exact ⟨rfl, rfl⟩
section RDB
variable {w how : Int} {g : List ND → List Int} {G : Nat → List Int → Rs RV} {wo : List ND → List ND} {mp ln : Bool} {ind : Nat}
/-- how a VALUE begins, with its KEY -/
def stV (g : List ND → List Int) (mp ln : Bool) (t : List ND) : List Int := (if mp then wq (rq t) ++ (if ln then sx 16 else sx 17) else []) ++ g t
theorem wpr_eq {b : Bool} {t : List ND} : wpr b ln mp ind (rq t) ++ g t = (if b then [] else [44]) ++ ((if ln then wln (ind + 1) else []) ++ stV g mp ln t) := by
  unfold wpr stV
  simp only [List.append_assoc]
theorem skB_pre {X : List Int} : skB ((if ln then wln (ind + 1) else []) ++ X) = skB X := by
  cases ln with
  | true => rw [if_pos rfl]; exact skB_ln _ _
  | false => rw [if_neg (by decide), List.nil_append]
/-- one VALUE of a group -/
theorem it_back {t : List ND} {E : List (List ND)} {b : Nat} {r R : List Int} (hsk : ∀ b r, G b r = G b (skB r)) (hq : rng (rq t) ∧ (rq t).length ≤ 12) (hgt : ∃ x r, g t = x :: r ∧ x ≠ 32 ∧ x ≠ 10) (hG : G b (g t ++ R) = .inr (kyT (wo t) [], b + t.length, R)) (hwo : rq (wo t) = rq t ∧ 1 ≤ (wo t).length) (hne : mp = true → ∀ u ∈ E, rq u ≠ rq t) (hrow : mp = false → rq t = []) (hr : skB r = stV g mp ln t ++ R) : rdIt G mp how E b r = .inr (wo t, b + t.length, R) := by
  have kself := ky_self hwo.2
  rw [hwo.1] at kself
  cases mp with
  | false =>
    have e : stV g false ln t = g t := by unfold stV; rw [if_neg (by decide), List.nil_append]
    rw [e] at hr
    show G b r = _
    rw [hsk b r, hr, hG]
    rw [hrow rfl] at kself
    rw [kself]
  | true =>
    have hne := hne rfl
    obtain ⟨x, rr, ex, nx⟩ := hgt
    have skg : skB (g t ++ R) = g t ++ R := by rw [ex, List.cons_append]; exact skB_ne nx
    generalize hX : (if ln then sx 16 else sx 17) ++ g t ++ R = X
    have eX : hdI X = 58 ∧ skB X = X ∧ skB X.tail = g t ++ R := by
      rw [← hX]
      cases ln with
      | true =>
        rw [if_pos rfl, sx_16]
        refine ⟨rfl, skB_ne (by decide), ?_⟩
        show skB (32 :: (g t ++ R)) = _
        rw [show skB (32 :: (g t ++ R)) = skB (g t ++ R) from if_pos (Or.inl rfl), skg]
      | false =>
        rw [if_neg (by decide), sx_17]
        exact ⟨rfl, skB_ne (by decide), skg⟩
    have er : skB r = 34 :: (wtx (rq t) ++ 34 :: X) := by
      rw [hr, ← hX]
      unfold stV wq
      rw [if_pos rfl]
      simp
    have ek : rdKy how E r = .inr (rq t, X.tail) := by
      unfold rdKy
      rw [er, if_neg (show ¬ hdI (34 :: (wtx (rq t) ++ 34 :: X)) ≠ 34 from fun z => z rfl)]
      have := rdT_back (m := 12) (rq t) [] X 40000 hq.1 (by simp; omega) (by omega)
      rw [List.nil_append] at this
      rw [show (34 :: (wtx (rq t) ++ 34 :: X)).tail = wtx (rq t) ++ 34 :: X from rfl, this]
      show (if how = 0 ∧ ∃ u ∈ E, rq u = rq t then (Sum.inl (34 :: X) : Rs (List Int × List Int)) else if hdI (skB X) = 58 then Sum.inr (rq t, (skB X).tail) else Sum.inl (skB X)) = _
      rw [if_neg (fun z => by obtain ⟨_, u, u1, u2⟩ := z; exact hne u u1 u2), eX.2.1, if_pos eX.1]
    unfold rdIt
    rw [if_pos rfl, ek]
    show bd (G b X.tail) (fun v => .inr (kyT v.1 (rq t), v.2)) = _
    rw [hsk b X.tail, eX.2.2, hG]
    show Sum.inr (kyT (kyT (wo t) []) (rq t), b + t.length, R) = _
    rw [ky_ky, kself]
/-- all VALUES of a group, from one on -/
theorem L_back (hsk : ∀ b r, G b r = G b (skB r)) {R0 : List Int} {L0 : List (List ND)} (hL : ∀ t ∈ L0, (rng (rq t) ∧ (rq t).length ≤ 12) ∧ (∃ x r, g t = x :: r ∧ x ≠ 32 ∧ x ≠ 10) ∧ (∀ b R, b + t.length ≤ 100 → bkR R → G b (g t ++ R) = .inr (kyT (wo t) [], b + t.length, R)) ∧ (rq (wo t) = rq t ∧ 1 ≤ (wo t).length) ∧ (mp = false → rq t = []) ∧ 1 ≤ t.length) (hnd : mp = true → (L0.map rq).Nodup) : ∀ (L : List (List ND)) (t : List ND) (E : List (List ND)) (b n : Nat) (r : List Int), (∀ u ∈ t :: L, u ∈ L0) → (mp = true → ((E.map rq) ++ ((t :: L).map rq)).Nodup) → L.length < n → b + (t :: L).flatten.length ≤ 100 → skB r = stV g mp ln t ++ (wbd ln mp ind g false L ++ (wend ln mp ind ++ R0)) → rdL G mp how n E b r = .inr (E ++ (t :: L).map wo, b + (t :: L).flatten.length, R0) := by
  intro L
  induction L with
  | nil =>
    intro t E b n r hm hk hn hb hr
    obtain ⟨a1, a2, a3, a4, a5, a6⟩ := hL t (hm t List.mem_cons_self)
    obtain ⟨n, rfl⟩ : ∃ m, n = m + 1 := ⟨n - 1, by omega⟩
    have ew : wbd ln mp ind g false [] = [] := rfl
    rw [ew, List.nil_append] at hr
    have fl : ([t] : List (List ND)).flatten.length = t.length := by simp
    rw [fl] at hb ⊢
    have we : bkR (wend ln mp ind ++ R0) ∧ hdI (skB (wend ln mp ind ++ R0)) = enD mp ∧ (skB (wend ln mp ind ++ R0)).tail = R0 := by
      unfold wend enD
      cases ln with
      | true =>
        rw [if_pos rfl, List.append_assoc, skB_ln]
        cases mp with
        | true => exact ⟨Or.inr (Or.inr (Or.inr (Or.inr rfl))), rfl, rfl⟩
        | false => exact ⟨Or.inr (Or.inr (Or.inr (Or.inr rfl))), rfl, rfl⟩
      | false =>
        rw [if_neg (by decide), List.nil_append]
        cases mp with
        | true => exact ⟨Or.inr (Or.inr (Or.inr (Or.inl rfl))), rfl, rfl⟩
        | false => exact ⟨Or.inr (Or.inr (Or.inl rfl)), rfl, rfl⟩
    have it := it_back (how := how) (E := E) (b := b) hsk a1 a2 (a3 b _ hb we.1) a4 (fun m u hu => by
      have nd := hk m
      rw [List.map_cons, List.map_nil] at nd
      have := (List.nodup_append.mp nd).2.2 (rq u) (List.mem_map.mpr ⟨u, hu, rfl⟩) (rq t) List.mem_cons_self
      exact this) a5 hr
    unfold rdL
    rw [it]
    show (if hdI (skB (wend ln mp ind ++ R0)) = enD mp then (Sum.inr (E ++ [wo t], b + t.length, (skB (wend ln mp ind ++ R0)).tail) : Rs (List (List ND) × Nat × List Int)) else _) = _
    rw [if_pos we.2.1, we.2.2]
    rfl
  | cons t2 L ih =>
    intro t E b n r hm hk hn hb hr
    obtain ⟨a1, a2, a3, a4, a5, a6⟩ := hL t (hm t List.mem_cons_self)
    obtain ⟨n, rfl⟩ : ∃ m, n = m + 1 := ⟨n - 1, by omega⟩
    rw [List.length_cons] at hn
    have fl : (t :: t2 :: L).flatten.length = t.length + (t2 :: L).flatten.length := by rw [List.flatten_cons, List.length_append]
    rw [fl] at hb ⊢
    have ew : wbd ln mp ind g false (t2 :: L) ++ (wend ln mp ind ++ R0) = 44 :: ((if ln then wln (ind + 1) else []) ++ (stV g mp ln t2 ++ (wbd ln mp ind g false L ++ (wend ln mp ind ++ R0)))) := by
      show wpr false ln mp ind (rq t2) ++ g t2 ++ wbd ln mp ind g false L ++ (wend ln mp ind ++ R0) = _
      rw [wpr_eq, if_neg (by decide)]
      simp
    rw [ew] at hr
    generalize hX : (if ln then wln (ind + 1) else []) ++ (stV g mp ln t2 ++ (wbd ln mp ind g false L ++ (wend ln mp ind ++ R0))) = X at hr
    have skX : skB X = stV g mp ln t2 ++ (wbd ln mp ind g false L ++ (wend ln mp ind ++ R0)) := by
      rw [← hX, skB_pre]
      obtain ⟨c1, c2, c3, c4, c5, c6⟩ := hL t2 (hm t2 (List.mem_cons_of_mem _ List.mem_cons_self))
      unfold stV
      cases mp with
      | true =>
        rw [if_pos rfl]
        unfold wq
        simp only [List.append_assoc, List.singleton_append]
        exact skB_ne (by decide)
      | false =>
        rw [if_neg (by decide), List.nil_append]
        obtain ⟨x, r, e, nx⟩ := c2
        rw [e, List.cons_append]
        exact skB_ne nx
    have it := it_back (how := how) (E := E) (b := b) hsk a1 a2 (a3 b (44 :: X) (by omega) (Or.inr (Or.inl rfl))) a4 (fun m u hu => by
      have nd := hk m
      exact (List.nodup_append.mp nd).2.2 (rq u) (List.mem_map.mpr ⟨u, hu, rfl⟩) (rq t) List.mem_cons_self) a5 hr
    have i2 := ih t2 (E ++ [wo t]) (b + t.length) n X (fun u hu => hm u (List.mem_cons_of_mem _ hu)) (fun m => by
      have nd := hk m
      rw [List.map_append, List.map_cons, List.map_nil, a4.1, List.append_assoc]
      exact nd) (by omega) (by omega) skX
    unfold rdL
    rw [it]
    have e44 : skB (44 :: X) = 44 :: X := skB_ne (by decide)
    show (if hdI (skB (44 :: X)) = enD mp then _ else if hdI (skB (44 :: X)) = 44 then rdL G mp how n (E ++ [wo t]) (b + t.length) (skB (44 :: X)).tail else _) = _
    rw [e44, if_neg (show ¬ hdI (44 :: X) = enD mp by unfold enD; show ¬ (44 : Int) = _; split <;> decide), if_pos (show hdI (44 :: X) = 44 from rfl)]
    show rdL G mp how n (E ++ [wo t]) (b + t.length) X = _
    rw [i2, List.append_assoc, Nat.add_assoc]
    rfl
end RDB
