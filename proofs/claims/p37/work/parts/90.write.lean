/-! WRITING: VALUES -/
def lsS (lk : Option (List Int)) : Option (List ND) → List (List ND) → Option (List ND)
  | b, [] => b
  | b, t :: r => if (∀ q, lk = some q → 0 < oK (rq t) q) ∧ (∀ u, b = some u → oK (rq t) (rq u) < 0) then lsS lk (some t) r else lsS lk b r
/-- by KEYS, from behind a KEY on -/
def obS : Nat → Option (List Int) → List (List ND) → List (List ND)
  | 0, _, _ => []
  | f + 1, lk, L => match lsS lk none L with
    | none => []
    | some t => t :: obS f (some (rq t)) L
def obK : Nat → List ND → Int → List Nat → List Nat
  | 0, _, _, _ => []
  | f + 1, V, last, K => if nbK V last (-1) K = -1 then [] else (nbK V last (-1) K).toNat :: obK f V (nbK V last (-1) K) K
/-- a number, or none, as a piece -/
def asP (V : List ND) (x : Int) (b : Option (List ND)) : Prop := (x = -1 ∧ b = none) ∨ ∃ k : Nat, k < V.length ∧ x = (k : Int) ∧ b = some (sg V k)
theorem nbK_S {V : List ND} (hz : PZL V) {last : Int} {lk : Option (List Int)} (hl : (last = -1 ∧ lk = none) ∨ ∃ k : Nat, k < V.length ∧ last = (k : Int) ∧ lk = some (nq V k)) : ∀ (K : List Nat) (x : Int) (b : Option (List ND)), (∀ k ∈ K, k < V.length) → asP V x b → asP V (nbK V last x K) (lsS lk b (K.map (sg V))) := by
  intro K
  induction K with
  | nil => intro x b _ h; exact h
  | cons k K ih =>
    intro x b hK h
    have hk := hK k List.mem_cons_self
    have hK' : ∀ y ∈ K, y < V.length := fun y hy => hK y (List.mem_cons_of_mem _ hy)
    have e := rq_sg hk (pz_l hz k)
    rw [List.map_cons]
    unfold nbK lsS
    have c1 : (last = -1 ∨ 0 < oK (nq V k) (nq V last.toNat)) ↔ (∀ q, lk = some q → 0 < oK (rq (sg V k)) q) := by
      rw [e]
      rcases hl with ⟨h1, h2⟩ | ⟨j, _, h1, h2⟩
      · subst h1 h2
        exact ⟨(fun _ q hq => by cases hq), fun _ => Or.inl rfl⟩
      · subst h1 h2
        rw [Int.toNat_natCast]
        constructor
        · intro z q hq
          cases hq
          rcases z with z | z
          · omega
          · exact z
        · intro z
          exact Or.inr (z _ rfl)
    have c2 : (x = -1 ∨ oK (nq V k) (nq V x.toNat) < 0) ↔ (∀ u, b = some u → oK (rq (sg V k)) (rq u) < 0) := by
      rw [e]
      rcases h with ⟨h1, h2⟩ | ⟨j, hj, h1, h2⟩
      · subst h1 h2
        exact ⟨(fun _ q hq => by cases hq), fun _ => Or.inl rfl⟩
      · subst h1 h2
        have e2 := rq_sg hj (pz_l hz j)
        rw [Int.toNat_natCast]
        constructor
        · intro z q hq
          cases hq
          rw [e2]
          rcases z with z | z
          · omega
          · exact z
        · intro z
          have := z _ rfl
          rw [e2] at this
          exact Or.inr this
    by_cases q : (last = -1 ∨ 0 < oK (nq V k) (nq V last.toNat)) ∧ (x = -1 ∨ oK (nq V k) (nq V x.toNat) < 0)
    · rw [if_pos q, if_pos ⟨c1.1 q.1, c2.1 q.2⟩]
      exact ih _ _ hK' (Or.inr ⟨k, hk, rfl, rfl⟩)
    · rw [if_neg q, if_neg (fun z => q ⟨c1.2 z.1, c2.2 z.2⟩)]
      exact ih _ _ hK' h
theorem obK_S {V : List ND} (hz : PZL V) {K : List Nat} (hK : ∀ k ∈ K, k < V.length) : ∀ (f : Nat) (last : Int) (lk : Option (List Int)), ((last = -1 ∧ lk = none) ∨ ∃ k : Nat, k < V.length ∧ last = (k : Int) ∧ lk = some (nq V k)) → (obK f V last K).map (sg V) = obS f lk (K.map (sg V)) ∧ ∀ k ∈ obK f V last K, k < V.length := by
  intro f
  induction f with
  | zero => intro last lk _; exact ⟨rfl, fun k hk => by cases hk⟩
  | succ f ih =>
    intro last lk hl
    have h := nbK_S hz hl K (-1) none hK (Or.inl ⟨rfl, rfl⟩)
    unfold obK obS
    rcases h with ⟨h1, h2⟩ | ⟨k, hk, h1, h2⟩
    · rw [if_pos h1, h2]
      exact ⟨rfl, fun k hk => by cases hk⟩
    · rw [if_neg (by omega), h2, h1, Int.toNat_natCast]
      have e := rq_sg hk (pz_l hz k)
      have := ih (k : Int) (some (nq V k)) (Or.inr ⟨k, hk, rfl, rfl⟩)
      refine ⟨?_, fun y hy => ?_⟩
      · show sg V k :: _ = sg V k :: obS f (some (rq (sg V k))) _
        rw [e, this.1]
      · rcases List.mem_cons.mp hy with z | z
        · omega
        · exact this.2 y z
def wsc (T : List ND) : List Int := if rk T = 0 then sx 12 else if rk T = 1 then (if rp T = 1 then sx 13 else sx 14) else if rk T = 2 then wnb (rt T) (rp T) else wq (rt T)
def wpr (first lines map : Bool) (ind : Nat) (key : List Int) : List Int := (if first then [] else [44]) ++ (if lines then wln (ind + 1) else []) ++ (if map then wq key ++ (if lines then sx 16 else sx 17) else [])
def wbd (lines map : Bool) (ind : Nat) (g : List ND → List Int) : Bool → List (List ND) → List Int
  | _, [] => []
  | b, t :: r => wpr b lines map ind (rq t) ++ g t ++ wbd lines map ind g false r
def koS (w : Int) (T : List ND) : List (List ND) := if rk T = 5 ∧ w = 1 then obS 100 none (kd T) else kd T
def wli (w : Int) (T : List ND) : Bool := decide (w = 2) && !(kd T).isEmpty
def wend (lines map : Bool) (ind : Nat) : List Int := (if lines then wln ind else []) ++ [if map then 125 else 93]
def wrF : Nat → Int → Nat → List ND → List Int
  | 0, _, _, T => wsc T
  | f + 1, w, ind, T => if rk T < 4 then wsc T else [if rk T = 5 then 123 else 91] ++ wbd (wli w T) (decide (rk T = 5)) ind (wrF f w (ind + 1)) true (koS w T) ++ wend (wli w T) (decide (rk T = 5)) ind
theorem foldl_max {g : List ND → Int} : ∀ (L : List (List ND)) (a : Int), a ≤ L.foldl (fun a k => max a (g k)) a ∧ ∀ t ∈ L, g t ≤ L.foldl (fun a k => max a (g k)) a
  | [], a => ⟨Int.le_refl _, fun t ht => by cases ht⟩
  | x :: L, a => by
    have h := foldl_max (g := g) L (max a (g x))
    rw [List.foldl_cons]
    refine ⟨by omega, fun t ht => ?_⟩
    rcases List.mem_cons.mp ht with q | q
    · subst q; omega
    · exact h.2 t q
theorem dpS_kd {T : List ND} {g : Nat} {f : Int} (h : dpS (g + 1) T ≤ f + 1) (hg : 4 ≤ rk T) : ∀ t ∈ kd T, dpS g t ≤ f := by
  intro t ht
  unfold dpS at h
  rw [if_pos hg] at h
  have := (foldl_max (g := dpS g) (kd T) 0).2 t ht
  omega
section WRI
variable {S S0 : GS} {c s d : Nat} {V : List ND} {l : List Int}
theorem grp_214 {mp : Bool} {a5 : Int} (hs : gSh s) (hd : 1 ≤ d) (hm : a5 = if mp then 1 else 0) (h : SX s S0 l S) (hr : l.length + 1 ≤ g_room (s + 1)) : Ev (fun n => f_X8_group n d 214 S [((s : Nat) : Int), a5]) (fun _ S1 => SX s S0 (l ++ [if mp then 125 else 93]) S1) := by
  cases mp
  · simp only [Bool.false_eq_true, if_false] at hm ⊢
    refine ev_up (fun n => e_X8_group_214) ?_
    unfold b_X8_group_214
    repeat' (first
      | with_reducible refine ev_gv ?_
      | with_reducible refine ev_gg ?_ ?_
      | with_reducible refine ev_ite (fun _ => ?_) (fun _ => ?_)
      | omega
      | assumption)
    refine ev_gc (sx_add hs h (by decide) (by omega)) (fun _ S1 h1 => ?_)
    exact ev_ret h1
  · simp only [if_true] at hm ⊢
    refine ev_up (fun n => e_X8_group_214) ?_
    unfold b_X8_group_214
    repeat' (first
      | with_reducible refine ev_gv ?_
      | with_reducible refine ev_gg ?_ ?_
      | with_reducible refine ev_ite (fun _ => ?_) (fun _ => ?_)
      | omega
      | assumption)
    refine ev_gc (sx_add hs h (by decide) (by omega)) (fun _ S1 h1 => ?_)
    exact ev_ret h1
/-- the end of a group -/
theorem grp_end {mp ln : Bool} {i w a5 a6 a7 k n : Int} {ind : Nat} (hs : gSh s) (hd : 7 ≤ d) (hm : a5 = if mp then 1 else 0) (hl : a7 = if ln then 1 else 0) (hind : ind ≤ 12) (hkn : inr k ∧ inr n) (hk : k = -1 ∨ 100 ≤ n) (h : SX s S0 l S) (hr : l.length + (wend ln mp ind).length ≤ g_room (s + 1)) : Ev (fun m => f_X8_group m d 87 S [((c : Nat) : Int), i, w, (ind : Int), ((s : Nat) : Int), a5, a6, a7, k, n]) (fun _ S1 => SX s S0 (l ++ wend ln mp ind) S1) := by
  unfold wend at hr ⊢
  simp only [List.length_append, List.length_cons, List.length_nil] at hr
  cases ln
  · simp only [Bool.false_eq_true, if_false, List.length_nil, List.nil_append] at hl hr ⊢
    have kk := grp_214 (d := d) (mp := mp) hs (by omega) hm h (by omega)
    refine ev_up (fun n => e_X8_group_87) ?_
    unfold b_X8_group_87
    repeat' (first
      | with_reducible refine ev_gv ?_
      | with_reducible refine ev_gg ?_ ?_
      | with_reducible refine ev_ite (fun _ => ?_) (fun _ => ?_)
      | omega
      | assumption)
    all_goals exact kk
  · simp only [if_true] at hl hr ⊢
    have key : Ev (fun m => gc (f_X8_line m (d - 1) 0 S [(ind : Int), ((s : Nat) : Int)]) fun _ S_7 => f_X8_group m d 214 S_7 [((s : Nat) : Int), a5]) (fun _ S1 => SX s S0 (l ++ (wln ind ++ [if mp then 125 else 93])) S1) := by
      refine ev_gc (s8_line hs (by omega) (by omega) h (by omega)) (fun _ S1 h1 => ?_)
      have kk := grp_214 (d := d) (mp := mp) hs (by omega) hm h1 (by rw [List.length_append]; omega)
      simpa using kk
    refine ev_up (fun n => e_X8_group_87) ?_
    unfold b_X8_group_87
    repeat' (first
      | with_reducible refine ev_gv ?_
      | with_reducible refine ev_gg ?_ ?_
      | with_reducible refine ev_ite (fun _ => ?_) (fun _ => ?_)
      | omega
      | assumption)
    all_goals exact key
/-- one VALUE of a group -/
theorem grp_step {mp ln : Bool} {i k ind : Nat} {w a5 a6 a7 n nx : Int} {val : List Int} {Q : Int → GS → Prop} (hc : gT c) (hs : gSh s) (hd : 8 ≤ d) (hv0 : TV S0 c V) (hk : k < V.length) (hm : a5 = if mp then 1 else 0) (hl : a7 = if ln then 1 else 0) (hind : ind ≤ 12) (hn : 0 ≤ n ∧ n < 100) (h : SX s S0 l S) (hr : l.length + (wpr (decide (n = 0)) ln mp ind (nq V k)).length + val.length + 4 ≤ g_room (s + 1))
    (hval : ∀ S l, SX s S0 l S → l.length + val.length + 4 ≤ g_room (s + 1) → Ev (fun m => f_X8_group m (d - 1) 10000 S [((c : Nat) : Int), (k : Int), w, (ind : Int) + 1, ((s : Nat) : Int)]) (fun _ S1 => SX s S0 (l ++ val) S1))
    (hnx : (a6 = 0 ∧ ∀ S1, TV S1 c V → Rd (fun m => f_X10_next m (d - 1) 0 S1 [((c : Nat) : Int), (i : Int), (k : Int)]) nx S1) ∨ (a6 = 1 ∧ ∀ S1, TV S1 c V → Rd (fun m => f_X10_nextByKey m (d - 1) 0 S1 [((c : Nat) : Int), (i : Int), (k : Int)]) nx S1))
    (hk2 : ∀ S1, SX s S0 (l ++ wpr (decide (n = 0)) ln mp ind (nq V k) ++ val) S1 → Ev (fun m => f_X8_group m d 87 S1 [((c : Nat) : Int), (i : Int), w, (ind : Int), ((s : Nat) : Int), a5, a6, a7, nx, n + 1]) Q) :
    Ev (fun m => f_X8_group m d 87 S [((c : Nat) : Int), (i : Int), w, (ind : Int), ((s : Nat) : Int), a5, a6, a7, (k : Int), n]) Q := by
  have l1 := tv_l hv0
  have hkI := kI_nat hk
  unfold wpr at hr hk2
  simp only [List.length_append] at hr
  -- the VALUE itself, and the next one
  have k161 : ∀ S l', SX s S0 l' S → l'.length + val.length + 4 ≤ g_room (s + 1) → (∀ S1, SX s S0 (l' ++ val) S1 → Ev (fun m => f_X8_group m d 87 S1 [((c : Nat) : Int), (i : Int), w, (ind : Int), ((s : Nat) : Int), a5, a6, a7, nx, n + 1]) Q) → Ev (fun m => f_X8_group m d 161 S [((c : Nat) : Int), (i : Int), w, (ind : Int), ((s : Nat) : Int), a5, a6, a7, (k : Int), n]) Q := by
    intro S l' h' hr' hk'
    refine ev_up (fun n => e_X8_group_161) ?_
    unfold b_X8_group_161
    refine ev_gv ?_
    refine ev_gg (by omega) ?_
    refine ev_gc (hval S l' h' hr') (fun _ S1 h1 => ?_)
    have hv1 := tv_sx hc hs hv0 h1
    have kk := hk' S1 h1
    rcases hnx with ⟨q1, q2⟩ | ⟨q1, q2⟩
    · repeat' (first
        | with_reducible refine ev_gv ?_
        | with_reducible refine ev_gg ?_ ?_
        | with_reducible refine ev_ite (fun _ => ?_) (fun _ => ?_)
        | refine ev_gcr (q2 S1 hv1) ?_
        | omega
        | assumption)
      all_goals exact kk
    · repeat' (first
        | with_reducible refine ev_gv ?_
        | with_reducible refine ev_gg ?_ ?_
        | with_reducible refine ev_ite (fun _ => ?_) (fun _ => ?_)
        | refine ev_gcr (q2 S1 hv1) ?_
        | omega
        | assumption)
      all_goals exact kk
  -- the KEY
  have k131 : ∀ S l', SX s S0 l' S → l'.length + (if mp then wq (nq V k) ++ (if ln then sx 16 else sx 17) else []).length + val.length + 4 ≤ g_room (s + 1) → (∀ S1, SX s S0 (l' ++ (if mp then wq (nq V k) ++ (if ln then sx 16 else sx 17) else []) ++ val) S1 → Ev (fun m => f_X8_group m d 87 S1 [((c : Nat) : Int), (i : Int), w, (ind : Int), ((s : Nat) : Int), a5, a6, a7, nx, n + 1]) Q) → Ev (fun m => f_X8_group m d 131 S [((c : Nat) : Int), (i : Int), w, (ind : Int), ((s : Nat) : Int), a5, a6, a7, (k : Int), n]) Q := by
    intro S l' h' hr' hk'
    cases mp
    · simp only [Bool.false_eq_true, if_false, List.append_nil, List.length_nil] at hm hr' hk'
      have kk := k161 S l' h' (by omega) hk'
      refine ev_up (fun n => e_X8_group_131) ?_
      unfold b_X8_group_131
      repeat' (first
        | with_reducible refine ev_gv ?_
        | with_reducible refine ev_gg ?_ ?_
        | with_reducible refine ev_ite (fun _ => ?_) (fun _ => ?_)
        | omega
        | assumption)
      all_goals exact kk
    · simp only [if_true, List.length_append] at hm hr' hk'
      have hkey := s8_key (d := d - 1) (i := (k : Int)) hc hs (by omega) hv0 (by constructor <;> omega) h' (by rw [hkI]; omega)
      rw [hkI] at hkey
      cases ln
      · simp only [Bool.false_eq_true, if_false] at hl hr' hk'
        refine ev_up (fun n => e_X8_group_131) ?_
        unfold b_X8_group_131
        repeat' (first
          | with_reducible refine ev_gv ?_
          | with_reducible refine ev_gg ?_ ?_
          | with_reducible refine ev_ite (fun _ => ?_) (fun _ => ?_)
          | omega
          | assumption)
        refine ev_gc hkey (fun _ S1 h1 => ?_)
        repeat' (first
          | with_reducible refine ev_gv ?_
          | with_reducible refine ev_gg ?_ ?_
          | with_reducible refine ev_ite (fun _ => ?_) (fun _ => ?_)
          | omega
          | assumption)
        refine ev_gc (sx_addAll (t := 17) hs (by decide) (by omega) h1 (by rw [List.length_append]; omega)) (fun _ S2 h2 => ?_)
        exact k161 S2 _ h2 (by simp only [List.length_append]; omega) (fun S3 h3 => hk' S3 (by simpa using h3))
      · simp only [if_true] at hl hr' hk'
        refine ev_up (fun n => e_X8_group_131) ?_
        unfold b_X8_group_131
        repeat' (first
          | with_reducible refine ev_gv ?_
          | with_reducible refine ev_gg ?_ ?_
          | with_reducible refine ev_ite (fun _ => ?_) (fun _ => ?_)
          | omega
          | assumption)
        refine ev_gc hkey (fun _ S1 h1 => ?_)
        repeat' (first
          | with_reducible refine ev_gv ?_
          | with_reducible refine ev_gg ?_ ?_
          | with_reducible refine ev_ite (fun _ => ?_) (fun _ => ?_)
          | omega
          | assumption)
        refine ev_gc (sx_addAll (t := 16) hs (by decide) (by omega) h1 (by rw [List.length_append]; omega)) (fun _ S2 h2 => ?_)
        exact k161 S2 _ h2 (by simp only [List.length_append]; omega) (fun S3 h3 => hk' S3 (by simpa using h3))
  by_cases hn0 : n = 0
  · simp only [hn0, decide_true, if_true, List.nil_append, List.length_nil] at hr hk2
    cases ln
    · simp only [Bool.false_eq_true, if_false, List.nil_append, List.length_nil] at hl hr hk2 k131
      have kk := k131 S l h (by omega) (fun S1 h1 => by rw [hn0]; exact hk2 S1 (by simpa using h1))
      refine ev_up (fun n => e_X8_group_87) ?_
      unfold b_X8_group_87
      repeat' (first
        | with_reducible refine ev_gv ?_
        | with_reducible refine ev_gg ?_ ?_
        | with_reducible refine ev_ite (fun _ => ?_) (fun _ => ?_)
        | omega
        | assumption)
      all_goals exact kk
    · simp only [if_true] at hl hr hk2 k131
      have hline := s8_line (d := d - 1) (k := ind + 1) hs (by omega) (by omega) h (by omega)
      rw [show ((ind + 1 : Nat) : Int) = (ind : Int) + 1 by omega] at hline
      refine ev_up (fun n => e_X8_group_87) ?_
      unfold b_X8_group_87
      repeat' (first
        | with_reducible refine ev_gv ?_
        | with_reducible refine ev_gg ?_ ?_
        | with_reducible refine ev_ite (fun _ => ?_) (fun _ => ?_)
        | omega
        | assumption)
      refine ev_gc hline (fun _ S1 h1 => ?_)
      exact k131 S1 _ h1 (by simp only [List.length_append]; omega) (fun S2 h2 => by rw [hn0]; exact hk2 S2 (by simpa using h2))
  · simp only [hn0, decide_false, Bool.false_eq_true, if_false, List.length_cons, List.length_nil] at hr hk2
    cases ln
    · simp only [Bool.false_eq_true, if_false, List.append_nil, List.length_nil] at hl hr hk2 k131
      refine ev_up (fun n => e_X8_group_87) ?_
      unfold b_X8_group_87
      repeat' (first
        | with_reducible refine ev_gv ?_
        | with_reducible refine ev_gg ?_ ?_
        | with_reducible refine ev_ite (fun _ => ?_) (fun _ => ?_)
        | omega
        | assumption)
      refine ev_gc (sx_add hs h (by decide) (by omega)) (fun _ S1 h1 => ?_)
      repeat' (first
        | with_reducible refine ev_gv ?_
        | with_reducible refine ev_gg ?_ ?_
        | with_reducible refine ev_ite (fun _ => ?_) (fun _ => ?_)
        | omega
        | assumption)
      exact k131 S1 _ h1 (by simp only [List.length_append, List.length_cons, List.length_nil]; omega) (fun S2 h2 => hk2 S2 (by simpa using h2))
    · simp only [if_true] at hl hr hk2 k131
      refine ev_up (fun n => e_X8_group_87) ?_
      unfold b_X8_group_87
      repeat' (first
        | with_reducible refine ev_gv ?_
        | with_reducible refine ev_gg ?_ ?_
        | with_reducible refine ev_ite (fun _ => ?_) (fun _ => ?_)
        | omega
        | assumption)
      refine ev_gc (sx_add hs h (by decide) (by omega)) (fun _ S1 h1 => ?_)
      have hline := s8_line (d := d - 1) (k := ind + 1) hs (by omega) (by omega) h1 (by simp only [List.length_append, List.length_cons, List.length_nil]; omega)
      rw [show ((ind + 1 : Nat) : Int) = (ind : Int) + 1 by omega] at hline
      repeat' (first
        | with_reducible refine ev_gv ?_
        | with_reducible refine ev_gg ?_ ?_
        | with_reducible refine ev_ite (fun _ => ?_) (fun _ => ?_)
        | omega
        | assumption)
      refine ev_gc hline (fun _ S2 h2 => ?_)
      exact k131 S2 _ h2 (by simp only [List.length_append, List.length_cons, List.length_nil]; omega) (fun S3 h3 => hk2 S3 (by simpa using h3))
end WRI
