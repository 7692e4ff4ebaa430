/-! THE STANDARD asks: it comes to an end, and what it says yes to is a SCHEMA -/
/-- no WORD but these is said -/
def noW (X : Nat) (ws : List Nat) : Bool := (List.range 16).all (fun w => decide (w = 0) || ws.contains w || decide (vLk stT (X : Int) (sx (30 + w)) = -1))
theorem noW_ok {X : Nat} {ws : List Nat} (h : noW X ws = true) {w : Nat} (hw : w < 16) (h1 : 1 ≤ w) (hn : w ∉ ws) : vLk stT (X : Int) (sx (30 + w)) = -1 := by
  have a := List.all_eq_true.mp h w (List.mem_range.mpr hw)
  rw [Bool.or_eq_true, Bool.or_eq_true, decide_eq_true_eq, decide_eq_true_eq, List.contains_iff_mem] at a
  rcases a with (z | z) | z
  · omega
  · exact absurd z hn
  · exact z
/-- whom a SCHEMA of THE STANDARD that is but a ref asks -/
def stX (X : Nat) : Nat := if X ∈ [0, 31, 33, 43, 60, 64] then 2 else if X ∈ [29, 47] then 58 else if X ∈ [37, 39, 41] then 62 else if X ∈ [11, 15] then 49 else 0
set_option maxRecDepth 100000 in
theorem st_ref : ∀ X, X < 67 → stX X ≠ 0 → (nk stT X = 5 ∧ 0 ≤ vLk stT (X : Int) (sx 45)) ∧ noW X [15] = true ∧ vLk stT (vLk stT 0 (sx 53)) (tI stT (vLk stT (X : Int) (sx 45))) = (stX X : Int) := by decide +kernel
/-- the kind that a SCHEMA of THE STANDARD wants -/
def stK1 (X : Nat) : Nat := if X = 4 then 1 else if X ∈ [17, 19, 21, 23] then 2 else if X ∈ [27, 45] then 3 else if X ∈ [13, 25, 35, 62] then 4 else if X ∈ [6, 58] then 5 else 0
set_option maxRecDepth 100000 in
theorem st_kind : ∀ X, X < 67 → stK1 X ≠ 0 → (nk stT X = 5 ∧ 0 ≤ vLk stT (X : Int) (sx 31)) ∧ kids stT (vLk stT (X : Int) (sx 31)).toNat = [] ∧ ¬ saysP stT (vLk stT (X : Int) (sx 31)) 46 ∧ ∀ j, j < 6 → (saysP stT (vLk stT (X : Int) (sx 31)) (47 + j) ↔ j = stK1 X) := by decide +kernel
set_option maxRecDepth 100000 in
theorem st_one : ∀ X : Nat, X < 67 → X ∈ [4, 17, 19, 21, 23, 27, 35, 45] → noW X [1] = true := by decide +kernel
/-- its other WORD -/
def stW (X : Nat) : Nat := if X = 6 then 7 else if X = 58 then 8 else 9
def stS2 (X : Nat) : Nat := if X = 6 then 8 else if X = 13 then 15 else if X = 25 then 27 else if X = 58 then 60 else 64
set_option maxRecDepth 100000 in
theorem st_two : ∀ X : Nat, X < 67 → X ∈ [6, 13, 25, 58, 62] → noW X [1, stW X] = true ∧ vLk stT (X : Int) (sx (30 + stW X)) = (stS2 X : Int) := by decide +kernel
set_option maxRecDepth 100000 in
theorem st_some : ((∀ w, w < 16 → 1 ≤ w → w ≠ 12 → vLk stT 2 (sx (30 + w)) = -1) ∧ (∀ w, w < 16 → 1 ≤ w → w ≠ 12 → vLk stT 9 (sx (30 + w)) = -1) ∧ (∀ w, w < 16 → 1 ≤ w → w ≠ 10 → vLk stT 49 (sx (30 + w)) = -1)) ∧ (vLk stT 2 (sx 42) = 3 ∧ kids stT 3 = [4, 6]) ∧ (vLk stT 9 (sx 42) = 10 ∧ kids stT 10 = [11, 13]) ∧ vLk stT 49 (sx 40) = 50 ∧ (nk stT 2 = 5 ∧ nk stT 9 = 5 ∧ nk stT 49 = 5) ∧ vLk stT 58 (sx 37) = -1 := by decide +kernel
abbrev stXS : List Nat := [0, 9, 17, 19, 21, 23, 25, 29, 31, 33, 35, 37, 39, 41, 43, 45, 47, 60, 64]
set_option maxRecDepth 100000 in
theorem st_keys : (∀ c ∈ kids stT 8, c ∈ stXS) ∧ stT.length = 67 := by decide +kernel
section STE
variable {T : List ND} {P : Int} {refs : List (Int × Int)} {g f : Nat} {n : Int} {cs : List (Int × Int)}
theorem e_ref {X : Nat} (hX : X < 67) (h0 : stX X ≠ 0) (hP : n + 1 ≤ P) : askR stT T P (f + 1) refs (X : Int) (g : Int) (n, cs) = if ((stX X : Int), (g : Int)) ∈ refs then some (n + 1, cs) else if 13 ≤ refs.length then some (n + 1, cs ++ [((g : Int), 15)]) else askR stT T P f (refs ++ [((stX X : Int), (g : Int))]) (stX X : Int) (g : Int) (n + 1, cs) := by
  obtain ⟨⟨k5, v0⟩, ab, tg⟩ := st_ref X hX h0
  have lS := st_keys.2
  obtain ⟨said, es⟩ : ∃ said : Nat, vLk stT (X : Int) (sx 45) = (said : Int) := ⟨(vLk stT (X : Int) (sx 45)).toNat, by omega⟩
  rw [es] at tg
  rw [ask_map (by omega) k5 hP, wds_one (w0 := 15) (by decide) (fun w a b c => noW_ok ab a b (fun y => c (List.mem_singleton.mp y))) 15 _ (by decide) (by decide), wdR_as (w := 15) (said := said) es (by decide)]
  have et : tgF stT refs said g = if ((stX X : Int), (g : Int)) ∈ refs then -1 else if 13 ≤ refs.length then -2 else (stX X : Int) := by
    unfold tgF
    rw [tg, if_neg (by omega)]
  have eq : qsL stT T refs 15 X said g = if tgF stT refs said g < 0 then [] else [(tgF stT refs said g, (g : Int))] := rfl
  rw [eq, et]
  by_cases c1 : ((stX X : Int), (g : Int)) ∈ refs
  · rw [if_pos c1, if_pos c1]
    show some (n + 1, cs ++ []) = _
    rw [List.append_nil]
  · rw [if_neg c1, if_neg c1]
    by_cases c2 : 13 ≤ refs.length
    · rw [if_pos c2, if_pos c2]
      rfl
    · rw [if_neg c2, if_neg c2, if_neg (show ¬ (stX X : Int) < 0 by omega)]
      have eL : lqR (fun sub nd K => askR stT T P f (if (15 : Nat) = 15 then refs ++ [(sub, (g : Int))] else refs) sub nd K) (decide (12 ≤ 15 ∧ 15 ≤ 14)) [((stX X : Int), (g : Int))] 0 (n + 1, cs) = if (stX X : Int) = -1 then (some ((0 : Int), ((n + 1, cs) : RK)) : Option (Int × RK)) else match askR stT T P f (refs ++ [((stX X : Int), (g : Int))]) (stX X : Int) (g : Int) (n + 1, cs) with
        | none => none
        | some K1 => (some ((0 : Int), K1) : Option (Int × RK)) := rfl
      rw [eL, if_neg (by omega)]
      cases askR stT T P f (refs ++ [((stX X : Int), (g : Int))]) (stX X : Int) (g : Int) (n + 1, cs) with
      | none => rfl
      | some K1 =>
        show some (K1.1, K1.2 ++ if hsB 15 0 0 (decide (15 = 15 ∧ (stX X : Int) = -2)) = true then [] else [((g : Int), ((15 : Nat) : Int))]) = _
        rw [decide_eq_false (fun y : 15 = 15 ∧ (stX X : Int) = -2 => by have := y.2; omega)]
        show some (K1.1, K1.2 ++ []) = _
        rw [List.append_nil]
theorem pl_kind {X said : Nat} (hX : X < 67) (h0 : stK1 X ≠ 0) (es : vLk stT (X : Int) (sx 31) = (said : Int)) (hr : 0 ≤ nk T g ∧ nk T g ≤ 5) : plR stT T 1 said g = if nk T g = (stK1 X : Int) then [] else [((g : Int), 1)] := by
  obtain ⟨_, k0, n46, hj⟩ := st_kind X hX h0
  rw [es] at n46 hj k0
  rw [Int.toNat_natCast] at k0
  have e1 : plB stT T 1 said g = okK stT T g said := by
    unfold plB
    rw [if_pos rfl, k0]
    show (okK stT T g said || false) = _
    rw [Bool.or_false]
  unfold plR
  rw [if_neg (by decide), e1]
  unfold okK
  rw [if_neg n46]
  have ek : ∀ j : Nat, j < 6 → nk T g = (j : Int) → kdW (nk T g) = 47 + j := fun j hj e => by
    rw [e]
    unfold kdW
    rcases (show j = 0 ∨ j = 1 ∨ j = 2 ∨ j = 3 ∨ j = 4 ∨ j = 5 by omega) with z | z | z | z | z | z <;> subst z <;> rfl
  obtain ⟨j, hj0⟩ : ∃ j : Nat, nk T g = (j : Int) := ⟨(nk T g).toNat, by omega⟩
  have j6 : j < 6 := by omega
  rw [ek j j6 hj0]
  by_cases c : j = stK1 X
  · rw [if_pos (show decide (saysP stT (said : Int) (47 + j)) = true from decide_eq_true ((hj j j6).mpr c)), if_pos (by omega)]
  · rw [if_neg (fun z => c ((hj j j6).mp (of_decide_eq_true z))), if_neg (by omega)]
    rfl
theorem e_kind {X : Nat} (hX : X ∈ [4, 17, 19, 21, 23, 27, 35, 45]) (hr : 0 ≤ nk T g ∧ nk T g ≤ 5) (hP : n + 1 ≤ P) : askR stT T P (f + 1) refs (X : Int) (g : Int) (n, cs) = some (n + 1, cs ++ if nk T g = (stK1 X : Int) then [] else [((g : Int), 1)]) := by
  have hall : ∀ X ∈ [4, 17, 19, 21, 23, 27, 35, 45], X < 67 ∧ stK1 X ≠ 0 := by decide
  obtain ⟨hl, h0⟩ := hall X hX
  obtain ⟨⟨k5, v0⟩, _⟩ := st_kind X hl h0
  have lS := st_keys.2
  obtain ⟨said, es⟩ : ∃ said : Nat, vLk stT (X : Int) (sx 31) = (said : Int) := ⟨(vLk stT (X : Int) (sx 31)).toNat, by omega⟩
  rw [ask_map (by omega) k5 hP, wds_one (w0 := 1) (by decide) (fun w a b c => noW_ok (st_one X hl hX) a b (fun y => c (List.mem_singleton.mp y))) 15 _ (by decide) (by decide), wdR_pl (w := 1) (said := said) es (by decide), pl_kind hl h0 es hr]
theorem e_two {X : Nat} (hX : X ∈ [6, 13, 25, 58, 62]) (hr : 0 ≤ nk T g ∧ nk T g ≤ 5) (hP : n + 1 ≤ P) : askR stT T P (f + 1) refs (X : Int) (g : Int) (n, cs) = match lqR (fun sub nd K => askR stT T P f refs sub nd K) false (qsL stT T refs (stW X) X (stS2 X) g) 0 (n + 1, cs ++ if nk T g = (stK1 X : Int) then [] else [((g : Int), 1)]) with
    | none => none
    | some r => some r.2 := by
  have hall : ∀ X ∈ [6, 13, 25, 58, 62], X < 67 ∧ stK1 X ≠ 0 ∧ 1 < stW X ∧ 7 ≤ stW X ∧ stW X ≤ 9 := by decide
  obtain ⟨hl, h0, w1, w7, w9⟩ := hall X hX
  obtain ⟨⟨k5, v0⟩, _⟩ := st_kind X hl h0
  obtain ⟨ab, e2⟩ := st_two X hl hX
  have lS := st_keys.2
  obtain ⟨said, es⟩ : ∃ said : Nat, vLk stT (X : Int) (sx 31) = (said : Int) := ⟨(vLk stT (X : Int) (sx 31)).toNat, by omega⟩
  rw [ask_map (by omega) k5 hP, wds_two (w0 := 1) (w1 := stW X) w1 (by omega) (fun w a b c c2 => noW_ok ab a b (fun y => (List.mem_cons.mp y).elim c (fun y => c2 (List.mem_singleton.mp y)))) 15 _ (by decide) (by decide), wdR_pl (w := 1) (said := said) es (by decide), pl_kind hl h0 es hr]
  show wdR stT T (askR stT T P f) refs X g (stW X) (n + 1, cs ++ if nk T g = (stK1 X : Int) then [] else [((g : Int), 1)]) = _
  rw [wdR_as (w := stW X) (said := stS2 X) e2 (by omega)]
  generalize stW X = w at *
  have eg : (fun (sub nd : Int) (K : RK) => askR stT T P f (if w = 15 then refs ++ [(sub, (g : Int))] else refs) sub nd K) = fun sub nd K => askR stT T P f refs sub nd K := by
    funext sub nd K
    rw [if_neg (by omega)]
  rw [eg, decide_eq_false (show ¬ (12 ≤ w ∧ w ≤ 14) by omega)]
  cases lqR (fun sub nd K => askR stT T P f refs sub nd K) false (qsL stT T refs w X (stS2 X) g) 0 (n + 1, cs ++ if nk T g = (stK1 X : Int) then [] else [((g : Int), 1)]) with
  | none => rfl
  | some r =>
    have eh : ∀ b, hsB w 0 r.1 b = true := fun b => by
      unfold hsB
      rw [if_pos (by omega)]
    show some (r.2.1, r.2.2 ++ if hsB w 0 r.1 _ = true then [] else [((g : Int), (w : Int))]) = some r.2
    rw [eh, if_pos rfl, List.append_nil]
theorem e_some {X a b said : Nat} (hX : X < 67) (k5 : nk stT X = 5) (ab : ∀ w, w < 16 → 1 ≤ w → w ≠ 12 → vLk stT (X : Int) (sx (30 + w)) = -1) (es : vLk stT (X : Int) (sx 42) = (said : Int)) (ek : kids stT said = [a, b]) (hP : n + 1 ≤ P) : askR stT T P (f + 1) refs (X : Int) (g : Int) (n, cs) = match lqR (fun sub nd K => askR stT T P f refs sub nd K) true [((a : Int), (g : Int)), ((b : Int), (g : Int))] 0 (n + 1, cs) with
    | none => none
    | some r => some (r.2.1, r.2.2 ++ if 0 < r.1 then [] else [((g : Int), 12)]) := by
  have lS := st_keys.2
  rw [ask_map (by omega) k5 hP, wds_one (w0 := 12) (by decide) ab 15 _ (by decide) (by decide), wdR_as (w := 12) (said := said) es (by decide)]
  have eq : qsL stT T refs 12 X said g = (kids stT said).map (fun (q : Nat) => ((q : Int), (g : Int))) := rfl
  rw [eq, ek]
  show (match lqR (fun sub nd K => askR stT T P f refs sub nd K) true [((a : Int), (g : Int)), ((b : Int), (g : Int))] 0 (n + 1, cs) with
    | none => none
    | some r => some (r.2.1, r.2.2 ++ if hsB 12 0 r.1 (decide ((12 : Nat) = 15 ∧ tgF stT refs said g = -2)) = true then [] else [((g : Int), ((12 : Nat) : Int))])) = _
  cases lqR (fun sub nd K => askR stT T P f refs sub nd K) true [((a : Int), (g : Int)), ((b : Int), (g : Int))] 0 (n + 1, cs) with
  | none => rfl
  | some r =>
    have eh : hsB 12 0 r.1 (decide ((12 : Nat) = 15 ∧ tgF stT refs said g = -2)) = decide (0 < r.1) := rfl
    show some (r.2.1, r.2.2 ++ if hsB 12 0 r.1 (decide ((12 : Nat) = 15 ∧ tgF stT refs said g = -2)) = true then [] else [((g : Int), ((12 : Nat) : Int))]) = _
    rw [eh]
    show _ = some (r.2.1, r.2.2 ++ if 0 < r.1 then [] else [((g : Int), 12)])
    by_cases c : 0 < r.1
    · rw [if_pos c, if_pos (decide_eq_true c)]
    · rw [if_neg c, if_neg (fun z => c (of_decide_eq_true z))]
      rfl
theorem e_only (hP : n + 1 ≤ P) : askR stT T P (f + 1) refs ((49 : Nat) : Int) (g : Int) (n, cs) = some (n + 1, cs ++ plR stT T 10 50 g) := by
  obtain ⟨⟨_, _, ab⟩, _, _, e10, ⟨_, _, k5⟩, _⟩ := st_some
  have lS := st_keys.2
  rw [ask_map (by omega) k5 hP, wds_one (w0 := 10) (by decide) ab 15 _ (by decide) (by decide), wdR_pl (w := 10) (said := 50) e10 (by decide)]
theorem two_tot {X : Nat} {cc : Int × Int → Nat} (hX : X ∈ [6, 13, 25, 58, 62]) (hr : 0 ≤ nk T g ∧ nk T g ≤ 5) (hsub : ∀ x ∈ qsL stT T refs (stW X) X (stS2 X) g, x.1 ≠ -1 → ∀ n cs, n + cc x ≤ P → ∃ n1 cs1, askR stT T P f refs x.1 x.2 (n, cs) = some (n1, cs1) ∧ n1 ≤ n + cc x) (hP : n + 1 + cstL cc (qsL stT T refs (stW X) X (stS2 X) g) ≤ P) : ∃ n1 cs1, askR stT T P (f + 1) refs (X : Int) (g : Int) (n, cs) = some (n1, cs1) ∧ n1 ≤ n + 1 + cstL cc (qsL stT T refs (stW X) X (stS2 X) g) := by
  obtain ⟨a1, n1, cs1, q1, q2⟩ := lq_tot (P := P) (g1 := fun sub nd K => askR stT T P f refs sub nd K) (cut := false) (c := cc) _ hsub 0 (n + 1) (cs ++ if nk T g = (stK1 X : Int) then [] else [((g : Int), 1)]) hP
  exact ⟨n1, cs1, by rw [e_two hX hr (by omega), q1], q2⟩
theorem some_tot {X a b said : Nat} {ca cb : Nat} (hX : X < 67) (k5 : nk stT X = 5) (ab : ∀ w, w < 16 → 1 ≤ w → w ≠ 12 → vLk stT (X : Int) (sx (30 + w)) = -1) (es : vLk stT (X : Int) (sx 42) = (said : Int)) (ek : kids stT said = [a, b]) (hab : a ≠ b) (ha : ∀ n cs, n + ca ≤ P → ∃ n1 cs1, askR stT T P f refs (a : Int) (g : Int) (n, cs) = some (n1, cs1) ∧ n1 ≤ n + ca) (hb : ∀ n cs, n + cb ≤ P → ∃ n1 cs1, askR stT T P f refs (b : Int) (g : Int) (n, cs) = some (n1, cs1) ∧ n1 ≤ n + cb) (hP : n + 1 + ca + cb ≤ P) : ∃ n1 cs1, askR stT T P (f + 1) refs (X : Int) (g : Int) (n, cs) = some (n1, cs1) ∧ n1 ≤ n + 1 + ca + cb := by
  have ec : cstL (fun x => if x.1 = (a : Int) then ca else cb) [((a : Int), (g : Int)), ((b : Int), (g : Int))] = ca + (cb + 0) := by
    show (if (a : Int) = (a : Int) then ca else cb) + ((if (b : Int) = (a : Int) then ca else cb) + 0) = _
    rw [if_pos rfl, if_neg (by omega)]
  obtain ⟨a1, n1, cs1, q1, q2⟩ := lq_tot (P := P) (g1 := fun sub nd K => askR stT T P f refs sub nd K) (cut := true) (c := fun x => if x.1 = (a : Int) then ca else cb) [((a : Int), (g : Int)), ((b : Int), (g : Int))] (fun x hx _ n cs hn => by
    rcases List.mem_cons.mp hx with z | z
    · subst z
      dsimp only at hn ⊢
      rw [if_pos rfl] at hn ⊢
      exact ha n cs hn
    · rw [List.mem_singleton] at z
      subst z
      dsimp only at hn ⊢
      rw [if_neg (by omega)] at hn ⊢
      exact hb n cs hn) 0 (n + 1) cs (by rw [ec]; omega)
  rw [ec] at q2
  exact ⟨n1, _, by rw [e_some hX k5 ab es ek (by omega), q1], by omega⟩
theorem st_tot (sT : SDC T) (lT : T.length ≤ 100) : ∀ (m g X f : Nat) (b n : Int) (refs cs : List (Int × Int)), nz T g ≤ m → X ∈ stXS → g < T.length → (∀ r, dpS r (sg T g) ≤ b) → 3 * b + 4 ≤ (f : Int) → n + 4 * nz T g ≤ P → ∃ n1 cs1, askR stT T P f refs (X : Int) (g : Int) (n, cs) = some (n1, cs1) ∧ n1 ≤ n + 4 * nz T g := by
  have wT := sT.1.1.1
  have zT := pz_l sT.1.2
  intro m
  induction m with
  | zero =>
    intro g X f b n refs cs hm
    have := zT g
    omega
  | succ m ih =>
    intro g X f b n refs cs hm hX hg hb hf hP
    have z1 := zT g
    have nr := (sT.2.1 _ (nd_mem hg)).1
    have nr1 : 0 ≤ nk T g ∧ nk T g ≤ 5 := ⟨nr.1, nr.2.1⟩
    have b0 := dp_0 (g := 0) (T := sg T g)
    have b1 := hb 0
    have kl := kids_le wT zT (g := g)
    have ks := kids_sum wT zT (g := g)
    have kin : ∀ q ∈ kids T g, q < T.length ∧ nz T q ≤ m ∧ ∀ r, dpS r (sg T q) ≤ b - 1 := fun q hq => by
      have := kid_in3 wT zT hg hq
      exact ⟨this.2.1, by omega, hgt_kid sT.1 hg hq hb⟩
    -- a VALUE of it, by a SCHEMA of these
    have sub : ∀ (X2 q f2 : Nat) (refs : List (Int × Int)), X2 ∈ stXS → q ∈ kids T g → 3 * b + 1 ≤ (f2 : Int) → ∀ n cs, n + ((4 * nz T q : Nat) : Int) ≤ P → ∃ n1 cs1, askR stT T P f2 refs (X2 : Int) (q : Int) (n, cs) = some (n1, cs1) ∧ n1 ≤ n + ((4 * nz T q : Nat) : Int) := fun X2 q f2 refs h2 hq h3 n cs hn => by
      obtain ⟨k1, k2, k3⟩ := kin q hq
      obtain ⟨n1, cs1, q1, q2⟩ := ih q X2 f2 (b - 1) n refs cs k2 h2 k1 k3 (by omega) (by omega)
      exact ⟨n1, cs1, q1, by omega⟩
    have s4 : suF (fun q => 4 * nz T q) (kids T g) ≤ 4 * (nz T g - 1) := by
      have e : ∀ K : List Nat, suF (fun q => 4 * nz T q) K = 4 * suF (nz T) K := by
        intro K
        induction K with
        | nil => rfl
        | cons k K ih2 =>
          show 4 * nz T k + suF (fun q => 4 * nz T q) K = 4 * (nz T k + suF (nz T) K)
          rw [ih2]
          omega
      rw [e]
      omega
    have s1 : ∀ c : Nat, suF (fun _ => c) (kids T g) = c * (kids T g).length := by
      intro c
      generalize kids T g = K
      induction K with
      | nil => rfl
      | cons k K ih2 =>
        show c + suF (fun _ => c) K = c * (K.length + 1)
        rw [ih2, Nat.mul_succ]
        omega
    -- the three that are asked by refs
    have t58 : ∀ (f2 : Nat) (refs cs : List (Int × Int)) (n : Int), 3 * b + 2 ≤ (f2 : Int) → n + 1 + 4 * ((nz T g : Int) - 1) ≤ P → ∃ n1 cs1, askR stT T P f2 refs ((58 : Nat) : Int) (g : Int) (n, cs) = some (n1, cs1) ∧ n1 ≤ n + 1 + 4 * ((nz T g : Int) - 1) := by
      intro f2 refs cs n hf2 hn
      obtain ⟨f3, rfl⟩ : ∃ f3, f2 = f3 + 1 := ⟨f2 - 1, by omega⟩
      have eq : qsL stT T refs (stW 58) 58 (stS2 58) g = (kidsM T g).map (fun (q : Nat) => (if vLk stT (vLk stT ((58 : Nat) : Int) (sx 37)) (nq T q) = -1 then ((60 : Nat) : Int) else -1, (q : Int))) := rfl
      have hc : cstL (fun x => 4 * nz T x.2.toNat) (qsL stT T refs (stW 58) 58 (stS2 58) g) ≤ 4 * (nz T g - 1) := by
        rw [eq]
        have := cst_map (c := fun x => 4 * nz T x.2.toNat) (f := fun (q : Nat) => (if vLk stT (vLk stT ((58 : Nat) : Int) (sx 37)) (nq T q) = -1 then ((60 : Nat) : Int) else -1, (q : Int))) (h := fun q => 4 * nz T q) (kidsM T g) (fun k _ => Nat.le_refl _)
        have : suF (fun q => 4 * nz T q) (kidsM T g) ≤ 4 * (nz T g - 1) := by
          unfold kidsM
          split
          · exact s4
          · exact Nat.zero_le _
        omega
      obtain ⟨n1, cs1, q1, q2⟩ := two_tot (T := T) (P := P) (refs := refs) (g := g) (f := f3) (n := n) (cs := cs) (X := 58) (cc := fun x => 4 * nz T x.2.toNat) (by decide) nr1 (fun x hx hne n cs hn => by
        rw [eq] at hx
        obtain ⟨q, hq, rfl⟩ := List.mem_map.mp hx
        have hq2 : q ∈ kids T g := by
          unfold kidsM at hq
          split at hq
          · exact hq
          · cases hq
        have e1 : vLk stT (vLk stT ((58 : Nat) : Int) (sx 37)) (nq T q) = -1 := by
          have : vLk stT ((58 : Nat) : Int) (sx 37) = -1 := st_some.2.2.2.2.2
          rw [this]
          exact vl_neg
        dsimp only at hn ⊢
        rw [if_pos e1]
        exact sub 60 q f3 refs (by decide) hq2 (by omega) n cs hn) (by omega)
      exact ⟨n1, cs1, q1, by omega⟩
    have t9 : ∀ (X2 : Nat), (X2 = 13 ∨ X2 = 25 ∨ X2 = 62) → ∀ (f2 : Nat) (refs cs : List (Int × Int)) (n : Int) (c : Nat → Nat), (∀ q ∈ kids T g, ∀ n cs, n + c q ≤ P → ∃ n1 cs1, askR stT T P f2 refs (stS2 X2 : Int) (q : Int) (n, cs) = some (n1, cs1) ∧ n1 ≤ n + c q) → n + 1 + suF c (kids T g) ≤ P → ∃ n1 cs1, askR stT T P (f2 + 1) refs (X2 : Int) (g : Int) (n, cs) = some (n1, cs1) ∧ n1 ≤ n + 1 + suF c (kids T g) := by
      intro X2 h2 f2 refs cs n c hc hn
      have w9 : stW X2 = 9 := by rcases h2 with z | z | z <;> subst z <;> rfl
      have eq : qsL stT T refs (stW X2) X2 (stS2 X2) g = (if nk T g = 4 then kids T g else []).map (fun (q : Nat) => ((stS2 X2 : Int), (q : Int))) := by
        rw [w9]
        rfl
      have hcc : cstL (fun x => c x.2.toNat) (qsL stT T refs (stW X2) X2 (stS2 X2) g) ≤ suF c (kids T g) := by
        rw [eq]
        have := cst_map (c := fun x => c x.2.toNat) (f := fun (q : Nat) => ((stS2 X2 : Int), (q : Int))) (h := c) (if nk T g = 4 then kids T g else []) (fun k _ => Nat.le_refl _)
        have : suF c (if nk T g = 4 then kids T g else []) ≤ suF c (kids T g) := by
          split
          · exact Nat.le_refl _
          · exact Nat.zero_le _
        omega
      obtain ⟨n1, cs1, q1, q2⟩ := two_tot (T := T) (P := P) (refs := refs) (g := g) (f := f2) (n := n) (cs := cs) (X := X2) (cc := fun x => c x.2.toNat) (by rcases h2 with z | z | z <;> subst z <;> decide) nr1 (fun x hx hne n cs hn => by
        rw [eq] at hx
        obtain ⟨q, hq, rfl⟩ := List.mem_map.mp hx
        have hq2 : q ∈ kids T g := by
          split at hq
          · exact hq
          · cases hq
        exact hc q hq2 n cs hn) (by omega)
      exact ⟨n1, cs1, q1, by omega⟩
    have t62 : ∀ (f2 : Nat) (refs cs : List (Int × Int)) (n : Int), 3 * b + 2 ≤ (f2 : Int) → n + 1 + 4 * ((nz T g : Int) - 1) ≤ P → ∃ n1 cs1, askR stT T P f2 refs ((62 : Nat) : Int) (g : Int) (n, cs) = some (n1, cs1) ∧ n1 ≤ n + 1 + 4 * ((nz T g : Int) - 1) := by
      intro f2 refs cs n hf2 hn
      obtain ⟨f3, rfl⟩ : ∃ f3, f2 = f3 + 1 := ⟨f2 - 1, by omega⟩
      obtain ⟨n1, cs1, q1, q2⟩ := t9 62 (by decide) f3 refs cs n (fun q => 4 * nz T q) (fun q hq n cs hn => sub 64 q f3 refs (by decide) hq (by omega) n cs hn) (by omega)
      exact ⟨n1, cs1, q1, by omega⟩
    have t6 : ∀ (f2 : Nat) (refs cs : List (Int × Int)) (n : Int), 3 * b + 2 ≤ (f2 : Int) → n + 1 + 4 * ((nz T g : Int) - 1) ≤ P → ∃ n1 cs1, askR stT T P f2 refs ((6 : Nat) : Int) (g : Int) (n, cs) = some (n1, cs1) ∧ n1 ≤ n + 1 + 4 * ((nz T g : Int) - 1) := by
      intro f2 refs cs n hf2 hn
      obtain ⟨f3, rfl⟩ : ∃ f3, f2 = f3 + 1 := ⟨f2 - 1, by omega⟩
      have eq : qsL stT T refs (stW 6) 6 (stS2 6) g = (kidsM T g).map (fun (q : Nat) => (vLk stT ((8 : Nat) : Int) (nq T q), (q : Int))) := rfl
      have hc : cstL (fun x => 4 * nz T x.2.toNat) (qsL stT T refs (stW 6) 6 (stS2 6) g) ≤ 4 * (nz T g - 1) := by
        rw [eq]
        have := cst_map (c := fun x => 4 * nz T x.2.toNat) (f := fun (q : Nat) => (vLk stT ((8 : Nat) : Int) (nq T q), (q : Int))) (h := fun q => 4 * nz T q) (kidsM T g) (fun k _ => Nat.le_refl _)
        have : suF (fun q => 4 * nz T q) (kidsM T g) ≤ 4 * (nz T g - 1) := by
          unfold kidsM
          split
          · exact s4
          · exact Nat.zero_le _
        omega
      obtain ⟨n1, cs1, q1, q2⟩ := two_tot (T := T) (P := P) (refs := refs) (g := g) (f := f3) (n := n) (cs := cs) (X := 6) (cc := fun x => 4 * nz T x.2.toNat) (by decide) nr1 (fun x hx hne n cs hn => by
        rw [eq] at hx
        obtain ⟨q, hq, rfl⟩ := List.mem_map.mp hx
        have hq2 : q ∈ kids T g := by
          unfold kidsM at hq
          split at hq
          · exact hq
          · cases hq
        dsimp only at hn hne ⊢
        have hv : ∃ v : Nat, vLk stT ((8 : Nat) : Int) (nq T q) = (v : Int) := by
          have e : ∀ x : Int, x = vLk stT ((8 : Nat) : Int) (nq T q) → x = -1 ∨ 0 ≤ x := fun x hx => by
            rw [hx]
            unfold vLk
            split
            · rcases fdK_mem (V := stT) (key := nq T q) (kidsM stT ((8 : Nat) : Int).toNat) with z | ⟨k, _, z, _⟩
              · exact Or.inl z
              · right
                rw [z]
                omega
            · exact Or.inl rfl
          rcases e _ rfl with z | z
          · exact absurd z hne
          · exact ⟨_, (Int.toNat_of_nonneg z).symm⟩
        obtain ⟨v, ev⟩ := hv
        rw [ev]
        exact sub v q f3 refs (st_keys.1 v (vl_kid ev)) hq2 (by omega) n cs hn) (by omega)
      exact ⟨n1, cs1, q1, by omega⟩
    have t2 : ∀ (f2 : Nat) (refs cs : List (Int × Int)) (n : Int), 3 * b + 3 ≤ (f2 : Int) → n + 3 + 4 * ((nz T g : Int) - 1) ≤ P → ∃ n1 cs1, askR stT T P f2 refs ((2 : Nat) : Int) (g : Int) (n, cs) = some (n1, cs1) ∧ n1 ≤ n + 3 + 4 * ((nz T g : Int) - 1) := by
      intro f2 refs cs n hf2 hn
      obtain ⟨f3, rfl⟩ : ∃ f3, f2 = f3 + 1 := ⟨f2 - 1, by omega⟩
      obtain ⟨⟨ab2, _, _⟩, ⟨e3, k3⟩, _, _, ⟨k5, _, _⟩, _⟩ := st_some
      obtain ⟨n1, cs1, q1, q2⟩ := some_tot (T := T) (P := P) (refs := refs) (g := g) (f := f3) (n := n) (cs := cs) (X := 2) (a := 4) (b := 6) (said := 3) (ca := 1) (cb := 1 + 4 * (nz T g - 1)) (by decide) k5 ab2 e3 k3 (by decide) (fun n cs hn => by
        obtain ⟨f4, rfl⟩ : ∃ f4, f3 = f4 + 1 := ⟨f3 - 1, by omega⟩
        exact ⟨n + 1, _, e_kind (X := 4) (by decide) nr1 (by omega), by omega⟩) (fun n cs hn => by
        obtain ⟨n1, cs1, q1, q2⟩ := t6 f3 refs cs n (by omega) (by omega)
        exact ⟨n1, cs1, q1, by omega⟩) (by omega)
      exact ⟨n1, cs1, q1, by omega⟩
    obtain ⟨f1, rfl⟩ : ∃ f1, f = f1 + 1 := ⟨f - 1, by omega⟩
    have hall : ∀ X ∈ stXS, X < 67 ∧ (stX X = 2 ∨ stX X = 58 ∨ stX X = 62 ∨ X ∈ [17, 19, 21, 23, 35, 45] ∨ X = 9 ∨ X = 25) := by decide
    obtain ⟨hl, hx⟩ := hall X hX
    -- a ref
    have viaRef : stX X ≠ 0 → (∀ refs, ∃ n1 cs1, askR stT T P f1 refs (stX X : Int) (g : Int) (n + 1, cs) = some (n1, cs1) ∧ n1 ≤ n + 4 * nz T g) → ∃ n1 cs1, askR stT T P (f1 + 1) refs (X : Int) (g : Int) (n, cs) = some (n1, cs1) ∧ n1 ≤ n + 4 * nz T g := by
      intro h0 h
      rw [e_ref hl h0 (by omega)]
      split
      · exact ⟨n + 1, _, rfl, by omega⟩
      · split
        · exact ⟨n + 1, _, rfl, by omega⟩
        · exact h _
    rcases hx with z | z | z | z | z | z
    · refine viaRef (by omega) (fun refs => ?_)
      rw [z]
      obtain ⟨n1, cs1, q1, q2⟩ := t2 f1 refs cs (n + 1) (by omega) (by omega)
      exact ⟨n1, cs1, q1, by omega⟩
    · refine viaRef (by omega) (fun refs => ?_)
      rw [z]
      obtain ⟨n1, cs1, q1, q2⟩ := t58 f1 refs cs (n + 1) (by omega) (by omega)
      exact ⟨n1, cs1, q1, by omega⟩
    · refine viaRef (by omega) (fun refs => ?_)
      rw [z]
      obtain ⟨n1, cs1, q1, q2⟩ := t62 f1 refs cs (n + 1) (by omega) (by omega)
      exact ⟨n1, cs1, q1, by omega⟩
    · have h8 : ∀ X ∈ [17, 19, 21, 23, 35, 45], X ∈ [4, 17, 19, 21, 23, 27, 35, 45] := by decide
      exact ⟨n + 1, _, e_kind (h8 X z) nr1 (by omega), by omega⟩
    · -- kind
      subst z
      obtain ⟨⟨_, ab9, _⟩, _, ⟨e3, k3⟩, _, ⟨_, k5, _⟩, _⟩ := st_some
      have rk : ∀ (X3 : Nat), (X3 = 11 ∨ X3 = 15) → ∀ (f2 q : Nat) (refs cs : List (Int × Int)) (n : Int), 2 ≤ f2 → n + ((2 : Nat) : Int) ≤ P → ∃ n1 cs1, askR stT T P f2 refs (X3 : Int) (q : Int) (n, cs) = some (n1, cs1) ∧ n1 ≤ n + ((2 : Nat) : Int) := by
        intro X3 h3 f2 q refs cs n hf2 hn
        obtain ⟨f3, rfl⟩ : ∃ f3, f2 = f3 + 1 + 1 := ⟨f2 - 2, by omega⟩
        have e49 : stX X3 = 49 := by rcases h3 with z | z <;> subst z <;> rfl
        rw [e_ref (f := f3 + 1) (by omega) (by omega) (by omega), e49]
        split
        · exact ⟨n + 1, _, rfl, by omega⟩
        · split
          · exact ⟨n + 1, _, rfl, by omega⟩
          · exact ⟨n + 1 + 1, _, e_only (by omega), by omega⟩
      obtain ⟨f2, rfl⟩ : ∃ f2, f1 = f2 + 1 := ⟨f1 - 1, by omega⟩
      have s2 := s1 2
      obtain ⟨n1, cs1, q1, q2⟩ := some_tot (T := T) (P := P) (refs := refs) (g := g) (f := f2 + 1) (n := n) (cs := cs) (X := 9) (a := 11) (b := 13) (said := 10) (ca := 2) (cb := 1 + 2 * (kids T g).length) (by decide) k5 ab9 e3 k3 (by decide) (fun n cs hn => rk 11 (Or.inl rfl) (f2 + 1) g refs cs n (by omega) hn) (fun n cs hn => by
        obtain ⟨n1, cs1, q1, q2⟩ := t9 13 (Or.inl rfl) f2 refs cs n (fun _ => 2) (fun q _ n cs hn => rk 15 (Or.inr rfl) f2 q refs cs n (by omega) hn) (by rw [s2]; omega)
        rw [s2] at q2
        exact ⟨n1, cs1, q1, by omega⟩) (by omega)
      exact ⟨n1, cs1, q1, by omega⟩
    · -- needs
      subst z
      have s2 := s1 1
      obtain ⟨n1, cs1, q1, q2⟩ := t9 25 (by decide) f1 refs cs n (fun _ => 1) (fun q hq n cs hn => by
        obtain ⟨f4, rfl⟩ : ∃ f4, f1 = f4 + 1 := ⟨f1 - 1, by omega⟩
        have nrq := (sT.2.1 _ (nd_mem (kin q hq).1)).1
        exact ⟨n + 1, _, e_kind (X := 27) (by decide) ⟨nrq.1, nrq.2.1⟩ (by omega), by omega⟩) (by rw [s2]; omega)
      rw [s2] at q2
      exact ⟨n1, cs1, q1, by omega⟩
theorem std_some (dT : DOC T) : askR stT T 2000 151 [] 0 0 (0, []) ≠ none := by
  have l1 := dT.1.1.1.2.1
  have l100 := dT.2.2.1
  have w0 := dT.1.1.1.1.1 0 (by omega)
  obtain ⟨n1, cs1, q1, _⟩ := st_tot (P := 2000) dT.1 l100 (nz T 0) 0 0 151 12 0 [] [] (Nat.le_refl _) (by decide) (by omega) (dp_sg T.length T (Nat.le_refl _) dT.1.1 dT.2.1 0 (by omega)) (by decide) (by omega)
  intro h
  have q1' : askR stT T 2000 151 [] 0 0 (0, []) = some (n1, cs1) := q1
  rw [h] at q1'
  cases q1'
end STE
