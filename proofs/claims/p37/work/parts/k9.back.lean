/-! What was written is read as it was -/
def woF (w : Int) : Nat → List ND → List ND
  | 0, T => T
  | f + 1, T => if 4 ≤ rk T then gpN (T.getD 0 nd0) ((koS w T).map (woF w f)) ((koS w T).map (woF w f)).length else T
theorem skB_ne {x : Int} {r : List Int} (h : x ≠ 32 ∧ x ≠ 10) : skB (x :: r) = x :: r := by
  unfold skB
  rw [if_neg (fun z => z.elim h.1 h.2)]
theorem skB_idem : ∀ (r : List Int), skB (skB r) = skB r
  | [] => rfl
  | x :: r => by
    by_cases c : x = 32 ∨ x = 10
    · have : skB (x :: r) = skB r := if_pos c
      rw [this, skB_idem r]
    · have e : skB (x :: r) = x :: r := if_neg c
      rw [e, e]
theorem rdV_sk {f : Nat} {how : Int} {b : Nat} {r : List Int} : rdV f how b r = rdV f how b (skB r) := by
  cases f with
  | zero => unfold rdV; rw [skB_idem]
  | succ f => unfold rdV; rw [skB_idem]
theorem skB_rep : ∀ (k : Nat) (r : List Int), skB (List.replicate k 32 ++ r) = skB r
  | 0, r => rfl
  | k + 1, r => by
    rw [List.replicate_succ, List.cons_append]
    have : skB (32 :: (List.replicate k 32 ++ r)) = skB (List.replicate k 32 ++ r) := if_pos (Or.inl rfl)
    rw [this, skB_rep k r]
theorem skB_ln (k : Nat) (r : List Int) : skB (wln k ++ r) = skB r := by
  unfold wln
  rw [List.append_assoc, List.singleton_append]
  have : skB (10 :: (List.replicate (2 * k) 32 ++ r)) = skB (List.replicate (2 * k) 32 ++ r) := if_pos (Or.inr rfl)
  rw [this, skB_rep]
/-- what may stand behind a VALUE that was written -/
def bkR (R : List Int) : Prop := R = [] ∨ hdI R = 44 ∨ hdI R = 93 ∨ hdI R = 125 ∨ hdI R = 10
theorem bkR_hd {R : List Int} (h : bkR R) : hdI R = -1 ∨ hdI R = 44 ∨ hdI R = 93 ∨ hdI R = 125 ∨ hdI R = 10 := by
  rcases h with h | h
  · left; rw [h]; rfl
  · exact Or.inr h
theorem hexV_S {v : Int} (h : 0 ≤ v ∧ v < 16) : hexV (hexS v) = v := by
  unfold hexS
  by_cases c : v < 10
  · rw [if_pos c]
    unfold hexV
    rw [if_pos (by omega)]
    omega
  · rw [if_neg c]
    unfold hexV
    rw [if_neg (by omega), if_pos (by omega)]
    omega
theorem rdT_c {f m : Nat} {a r : List Int} {x : Int} : rdT (f + 1) m a (x :: r) = if x = 34 then .inr (a, r) else if m ≤ a.length ∨ x < 32 then .inl (x :: r) else if x = 92 then bd (rdE r) (fun z => rdT f m (a ++ [z.1]) z.2) else rdT f m (a ++ [x]) r := by
  show (if (x :: r) = [] then _ else _) = _
  rw [if_neg (by simp)]
  rfl
theorem rdT_back {m : Nat} : ∀ (q a R : List Int) (f : Nat), rng q → a.length + q.length ≤ m → q.length < f → rdT f m a (wtx q ++ 34 :: R) = .inr (a ++ q, R)
  | _, _, _, 0, _, _, hf => absurd hf (Nat.not_lt_zero _)
  | [], a, R, f + 1, _, _, _ => by
    rw [show wtx [] ++ 34 :: R = 34 :: R from rfl, rdT_c, if_pos rfl, List.append_nil]
  | x :: q, a, R, f + 1, hr, hl, hf => by
    have hx := hr x List.mem_cons_self
    have hq : rng q := fun y hy => hr y (List.mem_cons_of_mem _ hy)
    rw [List.length_cons] at hl hf
    have ih := rdT_back (m := m) q (a ++ [x]) R f hq (by rw [List.length_append, List.length_singleton]; omega) (by omega)
    rw [List.append_assoc, List.singleton_append] at ih
    rw [wtx_cons, List.append_assoc]
    by_cases c : 32 ≤ x ∧ x ≤ 126
    · by_cases c2 : x = 34 ∨ x = 92
      · have ew : wsign x = [92, x] := by unfold wsign; rw [if_pos c, if_pos c2]
        have e1 : rdE (x :: (wtx q ++ 34 :: R)) = .inr (x, wtx q ++ 34 :: R) := by
          unfold rdE
          rw [show hdI (x :: (wtx q ++ 34 :: R)) = x from rfl, if_neg (by omega)]
          have : esC x = x := by unfold esC; rw [if_pos (by omega)]
          rw [this, if_neg (by omega)]
          rfl
        rw [ew, show ([92, x] : List Int) ++ (wtx q ++ 34 :: R) = 92 :: x :: (wtx q ++ 34 :: R) from rfl, rdT_c, if_neg (by decide), if_neg (by omega), if_pos rfl, e1]
        exact ih
      · have ew : wsign x = [x] := by unfold wsign; rw [if_pos c, if_neg c2]
        rw [ew, show [x] ++ (wtx q ++ 34 :: R) = x :: (wtx q ++ 34 :: R) from rfl, rdT_c, if_neg (by omega), if_neg (by omega), if_neg (by omega)]
        exact ih
    · have ew : wsign x = [92, 117, 48, 48, hexS (x / 16 % 16), hexS (x % 16)] := by unfold wsign; rw [if_neg c]
      have e1 : rdE (117 :: 48 :: 48 :: hexS (x / 16 % 16) :: hexS (x % 16) :: (wtx q ++ 34 :: R)) = .inr (x, wtx q ++ 34 :: R) := by
        unfold rdE
        rw [if_pos (show hdI (117 :: 48 :: 48 :: hexS (x / 16 % 16) :: hexS (x % 16) :: (wtx q ++ 34 :: R)) = 117 from rfl)]
        show (if (48 : Int) ≠ 48 then _ else if (48 : Int) ≠ 48 then _ else if hexV (hexS (x / 16 % 16)) = -1 then _ else if hexV (hexS (x % 16)) = -1 then _ else (Sum.inr (16 * hexV (hexS (x / 16 % 16)) + hexV (hexS (x % 16)), wtx q ++ 34 :: R) : Rs (Int × List Int))) = _
        rw [hexV_S (show 0 ≤ x / 16 % 16 ∧ x / 16 % 16 < 16 by omega), hexV_S (show 0 ≤ x % 16 ∧ x % 16 < 16 by omega), if_neg (by decide), if_neg (by decide), if_neg (by omega), if_neg (by omega), show 16 * (x / 16 % 16) + x % 16 = x by omega]
      rw [ew, show ([92, 117, 48, 48, hexS (x / 16 % 16), hexS (x % 16)] : List Int) ++ (wtx q ++ 34 :: R) = 92 :: 117 :: 48 :: 48 :: hexS (x / 16 % 16) :: hexS (x % 16) :: (wtx q ++ 34 :: R) from rfl, rdT_c, if_neg (by decide), if_neg (by omega), if_pos rfl, e1]
      exact ih
theorem rdF_back : ∀ (F a X : List Int), fgR F → a.length + F.length ≤ 24 → ¬ fgC (hdI X) → rdF a (F ++ X) = .inr (a ++ F, X)
  | [], a, X, _, _, hx => by
    rw [List.nil_append, List.append_nil]
    cases X with
    | nil => rfl
    | cons y X =>
      show (if fgC y then _ else _) = _
      exact if_neg hx
  | x :: F, a, X, hF, hl, hx => by
    rw [List.length_cons] at hl
    rw [List.cons_append]
    unfold rdF
    rw [if_pos (hF x List.mem_cons_self), if_neg (by omega), rdF_back F (a ++ [x]) X (fun y hy => hF y (List.mem_cons_of_mem _ hy)) (by rw [List.length_append, List.length_singleton]; omega) hx, List.append_assoc]
    rfl
theorem rdW_back : ∀ (w R : List Int), rdW w (w ++ R) = .inr R
  | [], R => rfl
  | c :: w, R => by
    rw [List.cons_append]
    show (if c = c then rdW w (w ++ R) else _) = _
    rw [if_pos rfl]
    exact rdW_back w R
theorem rdX_back {p : Int} {R : List Int} (hp : -99 ≤ p ∧ p ≤ 99) (hR : ¬ fgC (hdI R)) : rdX (wnum p ++ R) = .inr (p, R) := by
  rw [wnum_99 hp]
  have hm : 0 ≤ max p (-p) ∧ max p (-p) ≤ 99 := by omega
  have core : ∀ (s : Int), s = max p (-p) → ∀ (g : List Int), g = ((if 9 < s then [48 + s / 10] else []) ++ [48 + s % 10]) ++ R → fgC (hdI g) ∧ exV g = s ∧ exR g = R ∧ hdI g ≠ 45 ∧ hdI g ≠ 43 := by
    intro s hs g hg
    subst hg
    have s9 : 0 ≤ s ∧ s ≤ 99 := by omega
    by_cases c : 9 < s
    · rw [if_pos c]
      show fgC (48 + s / 10) ∧ exV ((48 + s / 10) :: (48 + s % 10) :: R) = s ∧ exR ((48 + s / 10) :: (48 + s % 10) :: R) = R ∧ 48 + s / 10 ≠ 45 ∧ 48 + s / 10 ≠ 43
      have f2 : fgC (hdI ((48 + s / 10) :: (48 + s % 10) :: R).tail) := by show 48 ≤ 48 + s % 10 ∧ 48 + s % 10 ≤ 57; omega
      refine ⟨by constructor <;> omega, ?_, ?_, by omega, by omega⟩
      · unfold exV
        rw [if_pos f2]
        show 10 * (48 + s / 10 - 48) + (48 + s % 10 - 48) = s
        omega
      · unfold exR
        rw [if_pos f2]
        rfl
    · rw [if_neg c]
      show fgC (48 + s % 10) ∧ exV ((48 + s % 10) :: R) = s ∧ exR ((48 + s % 10) :: R) = R ∧ 48 + s % 10 ≠ 45 ∧ 48 + s % 10 ≠ 43
      refine ⟨by constructor <;> omega, ?_, ?_, by omega, by omega⟩
      · unfold exV
        rw [if_neg (show ¬ fgC (hdI ((48 + s % 10) :: R).tail) from hR)]
        show 48 + s % 10 - 48 = s
        omega
      · unfold exR
        rw [if_neg (show ¬ fgC (hdI ((48 + s % 10) :: R).tail) from hR)]
        rfl
  have k := core _ rfl _ rfl
  generalize hg : ((if 9 < max p (-p) then [48 + max p (-p) / 10] else []) ++ [48 + max p (-p) % 10]) ++ R = g at k
  rw [List.append_assoc, hg]
  obtain ⟨k1, k2, k3, k4, k5⟩ := k
  unfold rdX
  by_cases c : p < 0
  · rw [if_pos c]
    have e : exS ([45] ++ g) = g := by unfold exS; rw [if_pos (Or.inl (show hdI ([45] ++ g) = 45 from rfl))]; rfl
    rw [e, if_pos k1, if_pos (show hdI ([45] ++ g) = 45 from rfl), k2, k3, show -(max p (-p)) = p by omega]
  · rw [if_neg c, List.nil_append]
    have e : exS g = g := by unfold exS; rw [if_neg (fun z => z.elim k4 k5)]
    rw [e, if_pos k1, if_neg k4, k2, k3, show max p (-p) = p by omega]
theorem lz_0 {F : List Int} (h : F.getD 0 0 ≠ 48) : nmF F = 0 := by
  unfold nmF
  cases F with
  | nil => rfl
  | cons x F =>
    show (if x = 48 then _ else _) = _
    exact if_neg h
theorem tz_l {F : List Int} (h1 : 1 ≤ F.length) (h : F.getD 0 0 ≠ 48) (h2 : F.getD (F.length - 1) 0 ≠ 48) : nmT F = F.length := by
  have z := lz_0 h
  unfold nmF at z
  unfold nmT
  rw [z]
  obtain ⟨n, hn⟩ : ∃ n, F.length = n + 1 := ⟨F.length - 1, by omega⟩
  rw [hn]
  unfold tzF
  rw [hn, Nat.add_sub_cancel] at h2
  rw [if_neg (fun z => h2 z.2)]
/-- a NUMBER is read back -/
theorem rdNb_back {t : List Int} {p : Int} {R : List Int} (h : NbOK t p) (hR : bkR R) : rdNb (wnb t p ++ R) = .inr ([(2, 1, p, t, [])], R) ∧ (hdI (wnb t p ++ R) = 45 ∨ fgC (hdI (wnb t p ++ R))) := by
  have hh := bkR_hd hR
  have nf : ¬ fgC (hdI R) := by intro z; omega
  rcases h with ⟨rfl, rfl⟩ | ⟨g, F, rfl, fr, l1, l2, h0, hl, p1, p2⟩
  · have e : wnb [48] 0 ++ R = 48 :: R := by unfold wnb; rw [if_pos rfl]; rfl
    rw [e]
    refine ⟨?_, Or.inr (by show 48 ≤ (48 : Int) ∧ (48 : Int) ≤ 57; decide)⟩
    unfold rdNb
    have e0 : ngS (48 :: R) = 48 :: R := by unfold ngS; exact if_neg (show ¬ hdI (48 :: R) = 45 by show ¬ (48 : Int) = 45; decide)
    have e1 : rdN1 (48 :: R) = .inr ([48], R) := by unfold rdN1; exact if_pos (show hdI (48 :: R) = 48 from rfl)
    rw [e0, e1]
    have e2 : rdN2 (([48] : List Int), R) = .inr ([48], R) := by unfold rdN2; rw [if_neg (by show ¬ hdI R = 46; omega)]
    show bd (rdN2 (([48] : List Int), R)) _ = _
    rw [e2]
    have e3 : rdN3 R = .inr (0, R) := by unfold rdN3; rw [if_neg (by omega)]
    show bd (rdN3 R) _ = _
    rw [e3]
    show (if nmOk [48] (((([48] : List Int)).length : Int) - (([48] : List Int)).length + 0) = 1 then (Sum.inr (nbT (48 :: R) [48] (((([48] : List Int)).length : Int) - (([48] : List Int)).length + 0), R) : Rs (List ND × List Int)) else Sum.inl (48 :: R)) = _
    rw [if_pos (by decide)]
    unfold nbT
    rw [if_neg (show ¬ hdI (48 :: R) = 45 by show ¬ (48 : Int) = 45; decide)]
    rfl
  · generalize hE : (if p = 0 then [] else [101] ++ wnum p : List Int) = E
    have eW : wnb ((if g = 0 then [] else [45]) ++ F) p ++ R = (if g = 0 then [] else [45]) ++ (F ++ (E ++ R)) := by
      unfold wnb
      rw [hE]
      simp only [List.append_assoc]
    have fh : fgC (hdI (F ++ (E ++ R))) := by
      cases F with
      | nil => simp at l1
      | cons x F => exact fr x List.mem_cons_self
    have h48 : hdI (F ++ (E ++ R)) ≠ 48 := by
      cases F with
      | nil => simp at l1
      | cons x F => exact h0
    have n45 : hdI (F ++ (E ++ R)) ≠ 45 := by intro z; omega
    have hER : hdI (E ++ R) = hdI R ∨ hdI (E ++ R) = 101 := by
      rw [← hE]
      by_cases c : p = 0
      · rw [if_pos c]; left; rfl
      · rw [if_neg c]; right; rfl
    rw [eW]
    have ng : ngS ((if g = 0 then [] else [45]) ++ (F ++ (E ++ R))) = F ++ (E ++ R) := by
      unfold ngS
      by_cases c : g = 0
      · rw [if_pos c, List.nil_append, if_neg n45]
      · rw [if_neg c, if_pos (show hdI ([45] ++ (F ++ (E ++ R))) = 45 from rfl)]
        rfl
    refine ⟨?_, ?_⟩
    · unfold rdNb
      rw [ng]
      have e1 : rdN1 (F ++ (E ++ R)) = .inr (F, E ++ R) := by
        unfold rdN1
        rw [if_neg h48]
        unfold rdF1
        rw [if_pos fh]
        have := rdF_back F [] (E ++ R) fr (by simp; omega) (by intro z; omega)
        rw [List.nil_append] at this
        exact this
      rw [e1]
      have e2 : rdN2 (F, E ++ R) = .inr (F, E ++ R) := by unfold rdN2; rw [if_neg (by show ¬ hdI (E ++ R) = 46; omega)]
      show bd (rdN2 (F, E ++ R)) _ = _
      rw [e2]
      have e3 : rdN3 (E ++ R) = .inr (p, R) := by
        unfold rdN3
        rw [← hE]
        by_cases c : p = 0
        · rw [if_pos c, List.nil_append, if_neg (by omega), c]
        · rw [if_neg c, if_pos (show hdI (([101] ++ wnum p) ++ R) = 101 ∨ _ from Or.inl rfl)]
          exact rdX_back ⟨p1, p2⟩ nf
      show bd (rdN3 (E ++ R)) _ = _
      rw [e3]
      show (if nmOk F ((F.length : Int) - F.length + p) = 1 then (Sum.inr (nbT ((if g = 0 then [] else [45]) ++ (F ++ (E ++ R))) F ((F.length : Int) - F.length + p), R) : Rs (List ND × List Int)) else Sum.inl _) = _
      rw [show (F.length : Int) - F.length + p = p by omega]
      have z1 := lz_0 h0
      have z2 := tz_l l1 h0 hl
      have np_ : nmPw F p = p := by unfold nmPw; rw [if_neg (by omega), z2]; omega
      have ok : nmOk F p = 1 := by unfold nmOk; rw [np_, if_pos (Or.inr ⟨p1, p2⟩)]
      rw [if_pos ok]
      unfold nbT
      rw [np_]
      have sg_ : nmSg (if hdI ((if g = 0 then [] else [45]) ++ (F ++ (E ++ R))) = 45 then 1 else 0) F = (if g = 0 then [] else [45]) ++ F := by
        unfold nmSg
        rw [if_neg (show ¬ nmF F = nmT F by omega), z1, z2, List.take_length, List.drop_zero]
        by_cases c : g = 0
        · rw [if_pos c, List.nil_append, if_neg n45, if_pos rfl]
        · rw [if_neg c, if_pos (show hdI ([45] ++ (F ++ (E ++ R))) = 45 from rfl), if_neg (by decide)]
      rw [sg_]
    · by_cases c : g = 0
      · rw [if_pos c, List.nil_append]; exact Or.inr fh
      · rw [if_neg c]; exact Or.inl rfl
