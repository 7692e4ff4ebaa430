/-! READING: what a text is -/
def hdI (r : List Int) : Int := r.headD (-1)
/-- a fault, by what is left of the text there; or what was read -/
abbrev Rs (α : Type) : Type := List Int ⊕ α
def bd {α β : Type} (o : Rs α) (g : α → Rs β) : Rs β := match o with
  | .inl q => .inl q
  | .inr a => g a
def RQ {α : Type} (o : Rs α) (F : List Int → Prop) (K : α → Prop) : Prop := match o with
  | .inl q => F q
  | .inr a => K a
def skB : List Int → List Int
  | [] => []
  | x :: r => if x = 32 ∨ x = 10 then skB r else x :: r
abbrev fgC (x : Int) : Prop := 48 ≤ x ∧ x ≤ 57
def hexV (x : Int) : Int := if 48 ≤ x ∧ x ≤ 57 then x - 48 else if 97 ≤ x ∧ x ≤ 102 then x - 87 else if 65 ≤ x ∧ x ≤ 70 then x - 55 else -1
def esC (x : Int) : Int := if x = 34 ∨ x = 47 ∨ x = 92 then x else if x = 98 then 8 else if x = 102 then 12 else if x = 110 then 10 else if x = 114 then 13 else if x = 116 then 9 else -1
def rdH (r : List Int) : Rs (Int × List Int) :=
  if hdI r ≠ 48 then .inl r else if hdI r.tail ≠ 48 then .inl r.tail else if hexV (hdI r.tail.tail) = -1 then .inl r.tail.tail else if hexV (hdI r.tail.tail.tail) = -1 then .inl r.tail.tail.tail else .inr (16 * hexV (hdI r.tail.tail) + hexV (hdI r.tail.tail.tail), r.tail.tail.tail.tail)
def rdE (r : List Int) : Rs (Int × List Int) := if hdI r = 117 then rdH r.tail else if esC (hdI r) = -1 then .inl r else .inr (esC (hdI r), r.tail)
/-- signs up to the one behind them -/
def rdT : Nat → Nat → List Int → List Int → Rs (List Int × List Int)
  | 0, _, _, r => .inl r
  | f + 1, m, a, r => if r = [] then .inl [] else if hdI r = 34 then .inr (a, r.tail) else if m ≤ a.length ∨ hdI r < 32 then .inl r else if hdI r = 92 then bd (rdE r.tail) (fun z => rdT f m (a ++ [z.1]) z.2) else rdT f m (a ++ [hdI r]) r.tail
def rdF : List Int → List Int → Rs (List Int × List Int)
  | a, [] => .inr (a, [])
  | a, x :: r => if fgC x then (if 24 ≤ a.length then .inl (x :: r) else rdF (a ++ [x]) r) else .inr (a, x :: r)
def rdF1 (a r : List Int) : Rs (List Int × List Int) := if fgC (hdI r) then rdF a r else .inl r
def exS (r : List Int) : List Int := if hdI r = 45 ∨ hdI r = 43 then r.tail else r
def exV (r : List Int) : Int := if fgC (hdI r.tail) then 10 * (hdI r - 48) + (hdI r.tail - 48) else hdI r - 48
def exR (r : List Int) : List Int := if fgC (hdI r.tail) then r.tail.tail else r.tail
def rdX (r : List Int) : Rs (Int × List Int) := if fgC (hdI (exS r)) then .inr (if hdI r = 45 then -exV (exS r) else exV (exS r), exR (exS r)) else .inl (exS r)
def ngS (r : List Int) : List Int := if hdI r = 45 then r.tail else r
def rdN1 (r : List Int) : Rs (List Int × List Int) := if hdI r = 48 then .inr ([48], r.tail) else rdF1 [] r
def rdN2 (z : List Int × List Int) : Rs (List Int × List Int) := if hdI z.2 = 46 then rdF1 z.1 z.2.tail else .inr z
def rdN3 (r : List Int) : Rs (Int × List Int) := if hdI r = 101 ∨ hdI r = 69 then rdX r.tail else .inr (0, r)
def nbT (r F : List Int) (p : Int) : List ND := [(2, 1, nmPw F p, nmSg (if hdI r = 45 then 1 else 0) F, [])]
def rdNb (r : List Int) : Rs (List ND × List Int) := bd (rdN1 (ngS r)) (fun z1 => bd (rdN2 z1) (fun z2 => bd (rdN3 z2.2) (fun z3 => if nmOk z2.1 ((z1.1.length : Int) - z2.1.length + z3.1) = 1 then .inr (nbT r z2.1 ((z1.1.length : Int) - z2.1.length + z3.1), z3.2) else .inl r)))
def rdW : List Int → List Int → Rs (List Int)
  | [], r => .inr r
  | c :: w, r => if hdI r = c then rdW w r.tail else .inl r
def rdC (r : List Int) : Rs (List ND × List Int) := if hdI r = 110 then bd (rdW (sx 12) r) (fun r1 => .inr ([ndK 0], r1)) else if hdI r = 116 then bd (rdW (sx 13) r) (fun r1 => .inr ([(1, 1, 1, [], [])], r1)) else if hdI r = 102 then bd (rdW (sx 14) r) (fun r1 => .inr ([(1, 1, 0, [], [])], r1)) else .inl r
def rdTx (r : List Int) : Rs (List ND × List Int) := bd (rdT 40000 40 [] r.tail) (fun z => .inr ([(3, 1, 0, z.1, [])], z.2))
/-- what a VALUE read comes to: the VALUE, how many began, what is left -/
abbrev RV : Type := List ND × Nat × List Int
def rdKy (how : Int) (E : List (List ND)) (r : List Int) : Rs (List Int × List Int) :=
  if hdI (skB r) ≠ 34 then .inl (skB r) else bd (rdT 40000 12 [] (skB r).tail) (fun z => if how = 0 ∧ ∃ u ∈ E, rq u = z.1 then .inl (34 :: z.2) else if hdI (skB z.2) = 58 then .inr (z.1, (skB z.2).tail) else .inl (skB z.2))
def rdIt (g : Nat → List Int → Rs RV) (mp : Bool) (how : Int) (E : List (List ND)) (b : Nat) (r : List Int) : Rs RV :=
  if mp then bd (rdKy how E r) (fun z => bd (g b z.2) (fun v => .inr (kyT v.1 z.1, v.2))) else g b r
def enD (mp : Bool) : Int := if mp then 125 else 93
def rdL (g : Nat → List Int → Rs RV) (mp : Bool) (how : Int) : Nat → List (List ND) → Nat → List Int → Rs (List (List ND) × Nat × List Int)
  | 0, _, _, r => .inl r
  | n + 1, E, b, r => bd (rdIt g mp how E b r) (fun v => if hdI (skB v.2.2) = enD mp then .inr (E ++ [v.1], v.2.1, (skB v.2.2).tail) else if hdI (skB v.2.2) = 44 then rdL g mp how n (E ++ [v.1]) v.2.1 (skB v.2.2).tail else .inl (skB v.2.2))
def rdG (g : Nat → List Int → Rs RV) (mp : Bool) (how : Int) (b : Nat) (r : List Int) : Rs RV :=
  bd (if hdI (skB r) = enD mp then .inr ([], b, (skB r).tail) else rdL g mp how 101 [] b (skB r)) (fun z => .inr (gpN (ndK (if mp then 5 else 4)) z.1 z.1.length, z.2))
def rdV : Nat → Int → Nat → List Int → Rs RV
  | 0, _, _, r => .inl (skB r)
  | f + 1, how, b, r =>
    if skB r = [] ∨ 100 ≤ b then .inl (skB r)
    else if hdI (skB r) = 91 ∨ hdI (skB r) = 123 then (if f = 0 then .inl (skB r) else rdG (rdV f how) (decide (hdI (skB r) = 123)) how (b + 1) (skB r).tail)
    else bd (if hdI (skB r) = 34 then rdTx (skB r) else if hdI (skB r) = 45 ∨ fgC (hdI (skB r)) then rdNb (skB r) else rdC (skB r)) (fun z => .inr (z.1, b + 1, z.2))
/-- a whole text -/
def rdA (how : Int) (s : List Int) : Rs (List ND) := bd (rdV 13 how 0 s) (fun z => if skB z.2.2 = [] then .inr z.1 else .inl (skB z.2.2))
/-- a VALUE of a KEY that is there already stays -/
def kpK (t : List ND) (q : List Int) : List (List ND) → List (List ND)
  | [] => [kyT t q]
  | u :: E => if rq u = q then u :: E else u :: kpK t q E
/-- by THE RULE: the last one takes the place, or the first one stays -/
def inH (h : Bool) (t : List ND) (q : List Int) (E : List (List ND)) : List (List ND) := if h then insK t q E else kpK t q E
def nrH (h : Bool) : Nat → List ND → List ND
  | 0, T => T
  | f + 1, T => if rk T = 5 then gpN (T.getD 0 nd0) ((kd T).foldl (fun E t => inH h (nrH h f t) (rq t) E) []) ((kd T).foldl (fun E t => inH h (nrH h f t) (rq t) E) []).length else if rk T = 4 then gpN (T.getD 0 nd0) ((kd T).map (nrH h f)) ((kd T).map (nrH h f)).length else T
theorem nrH_3 : ∀ f T, nrH true f T = nr3 f T
  | 0, T => rfl
  | f + 1, T => by
    have e : nrH true f = nr3 f := funext (nrH_3 f)
    unfold nrH nr3
    rw [e]
    rfl
theorem nrH_s {h : Bool} {f : Nat} {T : List ND} : nrH h (f + 1) T = if rk T = 5 then gpN (T.getD 0 nd0) ((kd T).foldl (fun E t => inH h (nrH h f t) (rq t) E) []) ((kd T).foldl (fun E t => inH h (nrH h f t) (rq t) E) []).length else if rk T = 4 then gpN (T.getD 0 nd0) ((kd T).map (nrH h f)) ((kd T).map (nrH h f)).length else T := rfl
theorem inH_mem {h : Bool} {t : List ND} {key : List Int} : ∀ {E : List (List ND)} {T : List ND}, T ∈ inH h t key E → T = kyT t key ∨ T ∈ E := by
  intro E T hT
  unfold inH at hT
  cases h with
  | true => exact insK_mem hT
  | false =>
    simp only [Bool.false_eq_true, if_false] at hT
    induction E with
    | nil =>
      unfold kpK at hT
      simp only [List.mem_cons, List.not_mem_nil, or_false] at hT
      exact Or.inl hT
    | cons u E ih =>
      unfold kpK at hT
      by_cases q : rq u = key
      · rw [if_pos q] at hT; exact Or.inr hT
      · rw [if_neg q] at hT
        rcases List.mem_cons.mp hT with z | z
        · exact Or.inr (z ▸ List.mem_cons_self)
        · exact (ih z).imp id (List.mem_cons_of_mem _)
theorem nrH_ky {h : Bool} : ∀ (f : Nat) (T : List ND) (q : List Int), nrH h f (kyT T q) = kyT (nrH h f T) q
  | 0, T, q => rfl
  | f + 1, T, q => by
    have e1 : rk (kyT T q) = rk T := rfl
    have e2 : kd (kyT T q) = kd T := rfl
    rw [nrH_s, nrH_s, e1, e2]
    by_cases h5 : rk T = 5
    · rw [if_pos h5, if_pos h5]; rfl
    · rw [if_neg h5, if_neg h5]
      by_cases h4 : rk T = 4
      · rw [if_pos h4, if_pos h4]; rfl
      · rw [if_neg h4, if_neg h4]
theorem foldH_all {h : Bool} {p r : List ND → Prop} {g : List ND → List ND} (hg : ∀ t q, p t → r (kyT (g t) q)) : ∀ (L E : List (List ND)), (∀ T ∈ E, r T) → (∀ T ∈ L, p T) → ∀ T ∈ L.foldl (fun E t => inH h (g t) (rq t) E) E, r T
  | [], E, hE, _ => hE
  | t :: L, E, hE, hL => by
    refine foldH_all hg L _ (fun T hT => ?_) (fun T hT => hL T (List.mem_cons_of_mem _ hT))
    rcases inH_mem hT with q | q
    · rw [q]; exact hg _ _ (hL t List.mem_cons_self)
    · exact hE T q
theorem nrH_tr {h : Bool} : ∀ (f : Nat) (T : List ND), TR T ∧ PZL T → (TR (nrH h f T) ∧ PZL (nrH h f T)) ∧ rq (nrH h f T) = rq T
  | 0, T, hT => ⟨hT, rfl⟩
  | f + 1, T, hT => by
    rw [nrH_s]
    have hk := kd_tr hT.1 hT.2
    by_cases h5 : rk T = 5
    · rw [if_pos h5]
      have hE := foldH_all (h := h) (p := fun t => TR t ∧ PZL t) (r := fun t => TR t ∧ PZL t) (g := nrH h f) (fun t q ht => ⟨tr_ky (nrH_tr f t ht).1.1, pzl_ky (nrH_tr f t ht).1.1.2.1 (nrH_tr f t ht).1.2⟩) (kd T) [] (fun T hT => by cases hT) hk
      refine ⟨⟨tr_gp (by show 4 ≤ rk T; omega) (fun t ht => (hE t ht).1), pzl_gp (fun t ht => (hE t ht).2)⟩, rfl⟩
    · rw [if_neg h5]
      by_cases h4 : rk T = 4
      · rw [if_pos h4]
        have hE : ∀ U ∈ (kd T).map (nrH h f), TR U ∧ PZL U := by
          intro U hU
          obtain ⟨t, ht, rfl⟩ := List.mem_map.mp hU
          exact (nrH_tr f t (hk t ht)).1
        refine ⟨⟨tr_gp (by show 4 ≤ rk T; omega) (fun t ht => (hE t ht).1), pzl_gp (fun t ht => (hE t ht).2)⟩, rfl⟩
      · rw [if_neg h4]
        exact ⟨hT, rfl⟩
theorem inH_len {h : Bool} {t : List ND} {key : List Int} (h1 : 1 ≤ t.length) : ∀ (E : List (List ND)), (inH h t key E).flatten.length ≤ E.flatten.length + t.length := by
  intro E
  cases h with
  | true => exact insK_len h1 E
  | false =>
    show (kpK t key E).flatten.length ≤ _
    induction E with
    | nil =>
      show ([kyT t key]).flatten.length ≤ _
      have := ky_len (q := key) h1
      simp [this]
    | cons u E ih =>
      unfold kpK
      split
      · omega
      · simp only [List.flatten_cons, List.length_append]
        omega
theorem fdE_kp {t : List ND} {key : List Int} : ∀ (E : List (List ND)) (i : Nat), (fdE key E i = -1 ∧ kpK t key E = E ++ [kyT t key]) ∨ (0 ≤ fdE key E i ∧ kpK t key E = E)
  | [], i => Or.inl ⟨rfl, rfl⟩
  | u :: E, i => by
    unfold fdE kpK
    by_cases q : rq u = key
    · rw [if_pos q, if_pos q]
      exact Or.inr ⟨by omega, rfl⟩
    · rw [if_neg q, if_neg q]
      rcases fdE_kp (t := t) (key := key) E (i + u.length) with ⟨a, b⟩ | ⟨a, b⟩
      · exact Or.inl ⟨a, by rw [b]; rfl⟩
      · exact Or.inr ⟨a, by rw [b]⟩
theorem fdE_ex {key : List Int} : ∀ (E : List (List ND)) (i : Nat), fdE key E i = -1 ↔ ¬ ∃ u ∈ E, rq u = key
  | [], i => by unfold fdE; simp
  | u :: E, i => by
    unfold fdE
    by_cases q : rq u = key
    · rw [if_pos q]
      refine ⟨fun z => by omega, fun z => absurd ⟨u, List.mem_cons_self, q⟩ z⟩
    · rw [if_neg q, fdE_ex E (i + u.length)]
      refine ⟨fun z => fun ⟨v, hv, hq⟩ => ?_, fun z => fun ⟨v, hv, hq⟩ => z ⟨v, List.mem_cons_of_mem _ hv, hq⟩⟩
      rcases List.mem_cons.mp hv with e | e
      · exact q (e ▸ hq)
      · exact z ⟨v, e, hq⟩
