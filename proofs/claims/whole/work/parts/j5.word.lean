/-! THE REFERENCE: words out of longs, KEYS and texts; records changed -/
def lwF (a : Int) : Nat → List Int
  | 0 => []
  | k + 1 => (if a / ((2 ^ (8 * k) : Nat) : Int) % 256 = 0 then [] else [a / ((2 ^ (8 * k) : Nat) : Int) % 256]) ++ lwF a k
def lw (a : Int) : List Int := lwF a 8
abbrev wdP : Nat → Nat → Prop := fun c j => (c = 500 ∧ j = 13) ∨ c = 507
theorem wd_push {S : GS} {w : List Int} {x : Int} (h : WD S w) (hx : 0 ≤ x ∧ x < 256) (hl : w.length < 900) : WD (gI (gI S 507 w.length x) 500 13 ((w.length : Int) + 1)) (w ++ [x]) := by
  refine ⟨by rw [gI_a, List.length_append, List.length_singleton]; omega, by rw [List.length_append, List.length_singleton]; omega, fun i hi => ?_, fun y hy => ?_⟩
  · rw [List.length_append, List.length_singleton] at hi
    rw [gI_c (by decide), getD_snoc hi]
    by_cases e : i = w.length
    · subst e
      rw [if_pos rfl, gI_a]
    · rw [if_neg e, gI_k e]
      exact h.2.2.1 i (by omega)
  · rcases List.mem_append.mp hy with z | z
    · exact h.2.2.2 y z
    · rw [List.mem_singleton] at z
      subst z
      exact hx
theorem wd_nil {S : GS} : WD (gI S 500 13 0) [] := ⟨gI_a, by decide, fun i hi => absurd hi (Nat.not_lt_zero i), fun x hx => by cases hx⟩
section RW1
variable {S : GS} {d : Nat}
theorem q_says {a : Int} (ha : inl a) : Ev (fun n => f_X12_says n d 0 S [a]) (fun _ S1 => WD S1 (lw a) ∧ FC wdP S S1) := by
  have lp : ∀ (k : Nat) (w : List Int) (S1 : GS), WD S1 w → w.length + k ≤ 8 → FC wdP S S1 → Ev (fun n => f_X12_says n d 8 S1 [a, (k : Int) - 1]) (fun _ S2 => WD S2 (w ++ lwF a k) ∧ FC wdP S S2) := by
    intro k
    induction k with
    | zero =>
      intro w S1 h1 hl hf
      refine ev_up (fun n => e_X12_says_8) ?_
      unfold b_X12_says_8
      refine ev_gg (by first | omega | (constructor <;> omega)) ?_
      refine ev_ite (fun _ => ?_) (fun z => by omega)
      refine ev_ret ⟨?_, hf⟩
      unfold lwF
      rw [List.append_nil]
      exact h1
    | succ k ih =>
      intro w S1 h1 hl hf
      refine ev_up (fun n => e_X12_says_8) ?_
      unfold b_X12_says_8
      refine ev_gg (by first | omega | (constructor <;> omega)) ?_
      refine ev_ite (fun z => by omega) (fun _ => ?_)
      refine ev_gv ?_
      refine ev_gg (by first | omega | (constructor <;> omega)) ?_
      refine ev_gg (ha) ?_
      refine ev_gv ?_
      refine ev_gv ?_
      rw [show (8 * (((k + 1 : Nat) : Int) - 1)).toNat = 8 * k by omega]
      have r := Int.emod_nonneg (a / ((2 ^ (8 * k) : Nat) : Int)) (show (256 : Int) ≠ 0 by decide)
      have r2 := Int.emod_lt_of_pos (a / ((2 ^ (8 * k) : Nat) : Int)) (show (0 : Int) < 256 by decide)
      refine ev_gg (by first | omega | (constructor <;> omega)) ?_
      refine ev_ite (fun z => ?_) (fun z => ?_)
      · refine ev_gv ?_
        rw [show ((k + 1 : Nat) : Int) - 1 + (-1) = (k : Int) - 1 by omega]
        have := ih w S1 h1 (by omega) hf
        unfold lwF
        rw [if_pos z, List.nil_append]
        exact this
      · refine ev_gv ?_
        rw [h1.1]
        refine ev_gg (by first | omega | (constructor <;> omega)) ?_
        refine ev_gv ?_
        refine ev_gv ?_
        refine ev_gv ?_
        refine ev_gv ?_
        refine ev_gv ?_
        rw [show ((k + 1 : Nat) : Int) - 1 + (-1) = (k : Int) - 1 by omega, Int.toNat_natCast, gI_c (show (500 : Nat) ≠ 507 by decide), h1.1]
        have := ih _ _ (wd_push h1 ⟨r, r2⟩ (by omega)) (by rw [List.length_append, List.length_singleton]; omega) (fc_tr hf (fc_tr (fc_gI (Or.inr rfl)) (fc_gI (Or.inl ⟨rfl, rfl⟩))))
        unfold lwF
        rw [if_neg z, ← List.append_assoc]
        exact this
  refine ev_up (fun n => e_X12_says_0) ?_
  unfold b_X12_says_0
  refine ev_gv ?_
  exact lp 8 [] _ wd_nil (by decide) (fc_gI (Or.inl ⟨rfl, rfl⟩))
variable {K : Nat} {V : List ND}
theorem q_childNamed {k g a : Int} {G : Nat} (hd : 4 ≤ d) (ha : inl a) (hk : k = (K : Int)) (hK : K < 48) (hg : g = (G : Int)) (h : LK S K V) (hw : WF V) (hz : PZL V) (hG : G < V.length) : Ev (fun n => f_X12_childNamed n d 0 S [k, g, a]) (fun x S1 => x = fdK V (lw a) (kids V G) ∧ WD S1 (lw a) ∧ FC wdP S S1) := by
  refine ev_up (fun n => e_X12_childNamed_0) ?_
  unfold b_X12_childNamed_0
  refine ev_gg (by first | omega | (constructor <;> omega)) ?_
  refine ev_gc (q_says (d := d - 1) ha) (fun _ S1 q => ?_)
  refine ev_gcr (q_childByWord (d := d - 1) (K := K) (G := G) (by omega) hk hK hg (lk_fr h q.2 (fun j _ _ => by omega) (by omega)) hw hz hG q.1) ?_
  exact ev_ret ⟨rfl, q.1, q.2⟩
theorem sgN_m {x : ND} {y : Int} (h : y ∈ sgN x) : y ∈ x.2.2.2.1 := by
  unfold sgN at h
  split at h
  · exact List.mem_of_mem_tail h
  · exact h
theorem q_longL {k i : Int} {I : Nat} (hd : 1 ≤ d) (hk : k = (K : Int)) (hK : K < 48) (hi : i = (I : Int)) (h : LK S K V) (hI : I < V.length) : Rd (fun n => f_X12_part n d 0 S [k, i, 18]) ((sgN (V.getD I nd0)).length : Int) S := by
  have l := h.2.1
  have := q_part (S := S) (d := d) (k := k) (i := i) (w := 18) (6161 * K + 61 * I + 18) hd (by omega) (by omega)
  rw [(h.2.2.1 I hI).1.2.2.2.1] at this
  exact this
theorem q_isL {k i : Int} {I : Nat} (hd : 1 ≤ d) (hk : k = (K : Int)) (hK : K < 48) (hi : i = (I : Int)) (h : LK S K V) (hI : I < V.length) : Rd (fun n => f_X12_part n d 0 S [k, i, 19]) (isN (V.getD I nd0)) S := by
  have l := h.2.1
  have := q_part (S := S) (d := d) (k := k) (i := i) (w := 19) (6161 * K + 61 * I + 19) hd (by omega) (by omega)
  rw [(h.2.2.1 I hI).1.2.2.2.2.1] at this
  exact this
theorem q_powL {k i : Int} {I : Nat} (hd : 1 ≤ d) (hk : k = (K : Int)) (hK : K < 48) (hi : i = (I : Int)) (h : LK S K V) (hI : I < V.length) : Rd (fun n => f_X12_part n d 0 S [k, i, 20]) (pwN (V.getD I nd0)) S := by
  have l := h.2.1
  have := q_part (S := S) (d := d) (k := k) (i := i) (w := 20) (6161 * K + 61 * I + 20) hd (by omega) (by omega)
  rw [(h.2.2.1 I hI).1.2.2.2.2.2.1] at this
  exact this
theorem lk_txt {i : Nat} (h : LK S K V) (hi : i < V.length) : (sgN (V.getD i nd0)).length ≤ 40 ∧ ∀ z ∈ sgN (V.getD i nd0), 0 ≤ z ∧ z < 256 := by
  have := h.2.2.2 _ (nd_mem hi)
  have l := sgN_len (x := V.getD i nd0)
  exact ⟨Nat.le_trans l this.2.2.2.2.2.2.1, fun z hz => this.2.2.2.2.2.2.2.1 z (sgN_m hz)⟩
theorem q_signL {k i w : Int} {I J : Nat} (hd : 1 ≤ d) (hk : k = (K : Int)) (hK : K < 48) (hi : i = (I : Int)) (hw : w = 21 + (J : Int)) (h : LK S K V) (hI : I < V.length) (hJ : J < (sgN (V.getD I nd0)).length) : Rd (fun n => f_X12_part n d 0 S [k, i, w]) ((sgN (V.getD I nd0)).getD J 0) S := by
  have l := h.2.1
  have l2 := (lk_txt h hI).1
  have := q_part (S := S) (d := d) (k := k) (i := i) (w := w) (6161 * K + 61 * I + 21 + J) hd (by omega) (by omega)
  rw [(h.2.2.1 I hI).1.2.2.2.2.2.2 J hJ] at this
  exact this
theorem sgN_t {x : ND} (h : x.1 ≠ 2) : sgN x = x.2.2.2.1 := if_neg (fun z => h z.1)
/-- whether a node is such a TEXT -/
theorem q_isText {k i a : Int} {I : Nat} (hd : 3 ≤ d) (ha : inl a) (hk : k = (K : Int)) (hK : K < 48) (hi : i = (I : Int)) (h : LK S K V) (hI : I < V.length) : Ev (fun n => f_X12_isText n d 0 S [k, i, a]) (fun x S1 => x = (if nk V I = 3 ∧ nt V I = lw a then 1 else 0) ∧ WD S1 (lw a) ∧ FC wdP S S1) := by
  subst hk hi
  refine ev_up (fun n => e_X12_isText_0) ?_
  unfold b_X12_isText_0
  refine ev_gg (by first | omega | (constructor <;> omega)) ?_
  refine ev_gc (q_says (d := d - 1) ha) (fun _ S1 q => ?_)
  have h1 : LK S1 K V := lk_fr h q.2 (fun j _ _ => by omega) (by omega)
  have w1 := q.1.1
  have wl := q.1.2.1
  have nr := h.2.2.2 _ (nd_mem hI)
  have ex : Rd (fun n => f_X12_isText n d 40 S1 [(K : Int), (I : Int), 0, 0]) 0 S1 := by
    refine ev_up (fun n => e_X12_isText_40) ?_
    unfold b_X12_isText_40
    refine ev_gv ?_
    rw [w1]
    refine ev_gg (by first | omega | (constructor <;> omega)) ?_
    refine ev_gg (by first | omega | (constructor <;> omega)) ?_
    refine ev_ite (fun _ => ?_) (fun _ => ?_)
    · refine ev_gg (by first | omega | (constructor <;> omega)) ?_
      exact ev_ret ⟨rfl, rfl⟩
    · refine ev_gg (by first | omega | (constructor <;> omega)) ?_
      refine ev_ite (fun _ => ?_) (fun z => by omega)
      refine ev_gg (by first | omega | (constructor <;> omega)) ?_
      exact ev_ret ⟨rfl, rfl⟩
  refine ev_gcr (q_kindL (d := d - 1) (K := K) (I := I) (by omega) rfl hK rfl h1 hI) ?_
  have kr : 0 ≤ nk V I ∧ nk V I ≤ 5 := ⟨nr.1, nr.2.1⟩
  refine ev_gg (by first | omega | (constructor <;> omega)) ?_
  refine ev_ite (fun z => ?_) (fun z => ?_)
  · rw [if_neg (fun e => z e.1)]
    exact ev_mono ex (fun x S2 e => ⟨e.1, by rw [e.2]; exact q.1, by rw [e.2]; exact q.2⟩)
  refine ev_gcr (q_longL (d := d - 1) (K := K) (I := I) (by omega) rfl hK rfl h1 hI) ?_
  have k3 : nk V I = 3 := by omega
  have es : sgN (V.getD I nd0) = nt V I := sgN_t (fun e => by have : nk V I = 2 := e; omega)
  have tl := lk_txt h1 hI
  rw [es] at tl ⊢
  refine ev_gv ?_
  rw [w1]
  refine ev_gg (by first | omega | (constructor <;> omega)) ?_
  refine ev_gg (by first | omega | (constructor <;> omega)) ?_
  refine ev_ite (fun z2 => ?_) (fun z2 => ?_)
  · rw [if_neg (fun e => z2 (by rw [e.2]))]
    exact ev_mono ex (fun x S2 e => ⟨e.1, by rw [e.2]; exact q.1, by rw [e.2]; exact q.2⟩)
  have lp : ∀ (t u : Nat), u + t = (lw a).length → (∀ j, j < u → (nt V I).getD j 0 = (lw a).getD j 0) → Rd (fun n => f_X12_isText n d 40 S1 [(K : Int), (I : Int), 1, (u : Int)]) (if nk V I = 3 ∧ nt V I = lw a then 1 else 0) S1 := by
    intro t
    induction t with
    | zero =>
      intro u hu hj
      refine ev_up (fun n => e_X12_isText_40) ?_
      unfold b_X12_isText_40
      refine ev_gv ?_
      rw [w1]
      refine ev_gg (by first | omega | (constructor <;> omega)) ?_
      refine ev_gg (by first | omega | (constructor <;> omega)) ?_
      refine ev_ite (fun _ => ?_) (fun z => by omega)
      refine ev_gg (by first | omega | (constructor <;> omega)) ?_
      rw [if_pos ⟨k3, ext_gD (by omega) (fun j j1 => hj j (by omega))⟩]
      exact ev_ret ⟨rfl, rfl⟩
    | succ t ih =>
      intro u hu hj
      have r1 := tl.2 _ (getD_in (q := nt V I) (t := u) (by omega))
      have r2 := q.1.2.2.2 _ (getD_in (q := lw a) (t := u) (by omega))
      refine ev_up (fun n => e_X12_isText_40) ?_
      unfold b_X12_isText_40
      refine ev_gv ?_
      rw [w1]
      refine ev_gg (by first | omega | (constructor <;> omega)) ?_
      refine ev_gg (by first | omega | (constructor <;> omega)) ?_
      refine ev_ite (fun z => by omega) (fun _ => ?_)
      refine ev_gg (by first | omega | (constructor <;> omega)) ?_
      refine ev_ite (fun z => by omega) (fun _ => ?_)
      refine ev_gv ?_
      refine ev_gg (by first | omega | (constructor <;> omega)) ?_
      refine ev_gcr (q_signL (d := d - 1) (K := K) (I := I) (J := u) (by omega) rfl hK rfl rfl h1 hI (by rw [es]; omega)) ?_
      rw [es]
      refine ev_gg (by first | omega | (constructor <;> omega)) ?_
      refine ev_gv ?_
      rw [Int.toNat_natCast, q.1.2.2.1 u (by omega)]
      refine ev_gg (by first | omega | (constructor <;> omega)) ?_
      refine ev_gg (by first | omega | (constructor <;> omega)) ?_
      refine ev_ite (fun z => ?_) (fun z => ?_)
      · refine ev_gv ?_
        rw [if_neg (fun e => z (by rw [e.2]))]
        refine ev_up (fun n => e_X12_isText_40) ?_
        unfold b_X12_isText_40
        refine ev_gv ?_
        rw [w1]
        refine ev_gg (by first | omega | (constructor <;> omega)) ?_
        refine ev_gg (by first | omega | (constructor <;> omega)) ?_
        refine ev_ite (fun _ => ?_) (fun _ => ?_)
        · refine ev_gg (by first | omega | (constructor <;> omega)) ?_
          exact ev_ret ⟨rfl, rfl⟩
        · refine ev_gg (by first | omega | (constructor <;> omega)) ?_
          refine ev_ite (fun _ => ?_) (fun z => by omega)
          refine ev_gg (by first | omega | (constructor <;> omega)) ?_
          exact ev_ret ⟨rfl, rfl⟩
      · refine ev_gv ?_
        rw [show (u : Int) + 1 = ((u + 1 : Nat) : Int) by omega]
        refine ih (u + 1) (by omega) (fun j j1 => ?_)
        by_cases c : j = u
        · subst c; omega
        · exact hj j (by omega)
  exact ev_mono (lp (lw a).length 0 (by omega) (fun j j1 => by omega)) (fun x S2 e => ⟨e.1, by rw [e.2]; exact q.1, by rw [e.2]; exact q.2⟩)
/-- the KEY of a node becomes the word -/
theorem q_wordOfKey {k i : Int} {I : Nat} (hd : 2 ≤ d) (hk : k = (K : Int)) (hK : K < 48) (hi : i = (I : Int)) (h : LK S K V) (hI : I < V.length) : Ev (fun n => f_X12_wordOfKey n d 0 S [k, i]) (fun _ S1 => WD S1 (nq V I) ∧ FC wdP S S1) := by
  subst hk hi
  have ky := lk_key h hI
  have l12 : (nq V I).length ≤ 12 := ky.1
  have lp : ∀ (t u : Nat) (S1 : GS), u + t = (nq V I).length → S1.1 500 13 = ((nq V I).length : Int) → (∀ j, j < u → S1.1 507 j = (nq V I).getD j 0) → FC wdP S S1 → Ev (fun n => f_X12_wordOfKey n d 13 S1 [(K : Int), (I : Int), (u : Int)]) (fun _ S2 => WD S2 (nq V I) ∧ FC wdP S S2) := by
    intro t
    induction t with
    | zero =>
      intro u S1 hu h1 hj hf
      refine ev_up (fun n => e_X12_wordOfKey_13) ?_
      unfold b_X12_wordOfKey_13
      refine ev_gv ?_
      rw [h1]
      refine ev_gg (by first | omega | (constructor <;> omega)) ?_
      refine ev_gg (by first | omega | (constructor <;> omega)) ?_
      refine ev_ite (fun _ => ?_) (fun z => by omega)
      exact ev_ret ⟨⟨h1, by omega, fun j j1 => hj j (by omega), ky.2⟩, hf⟩
    | succ t ih =>
      intro u S1 hu h1 hj hf
      have h2 : LK S1 K V := lk_fr h hf (fun j _ _ => by omega) (by omega)
      refine ev_up (fun n => e_X12_wordOfKey_13) ?_
      unfold b_X12_wordOfKey_13
      refine ev_gv ?_
      rw [h1]
      refine ev_gg (by first | omega | (constructor <;> omega)) ?_
      refine ev_gg (by first | omega | (constructor <;> omega)) ?_
      refine ev_ite (fun z => by omega) (fun _ => ?_)
      refine ev_gv ?_
      refine ev_gg (by first | omega | (constructor <;> omega)) ?_
      refine ev_gcr (q_keyL (d := d - 1) (K := K) (I := I) (J := u) (by omega) rfl hK rfl rfl h2 hI (by omega)) ?_
      refine ev_gg (by first | omega | (constructor <;> omega)) ?_
      refine ev_gv ?_
      refine ev_gv ?_
      rw [Int.toNat_natCast, show (u : Int) + 1 = ((u + 1 : Nat) : Int) by omega]
      refine ih (u + 1) _ (by omega) (by rw [gI_c (by decide)]; exact h1) (fun j j1 => ?_) (fc_tr hf (fc_gI (Or.inr rfl)))
      by_cases c : j = u
      · subst c; exact gI_a
      · rw [gI_k c]; exact hj j (by omega)
  refine ev_up (fun n => e_X12_wordOfKey_0) ?_
  unfold b_X12_wordOfKey_0
  refine ev_gg (by first | omega | (constructor <;> omega)) ?_
  refine ev_gcr (q_keysL (d := d - 1) (K := K) (I := I) (by omega) rfl hK rfl h hI) ?_
  refine ev_gv ?_
  exact lp (nq V I).length 0 _ (by omega) gI_a (fun j j1 => by omega) (fc_gI (Or.inl ⟨rfl, rfl⟩))
/-- the signs of a node become the word -/
theorem q_wordOfText {k i : Int} {I : Nat} (hd : 2 ≤ d) (hk : k = (K : Int)) (hK : K < 48) (hi : i = (I : Int)) (h : LK S K V) (hI : I < V.length) : Ev (fun n => f_X12_wordOfText n d 0 S [k, i]) (fun _ S1 => WD S1 (sgN (V.getD I nd0)) ∧ FC wdP S S1) := by
  subst hk hi
  have ky := lk_txt h hI
  have l12 : (sgN (V.getD I nd0)).length ≤ 40 := ky.1
  have lp : ∀ (t u : Nat) (S1 : GS), u + t = (sgN (V.getD I nd0)).length → S1.1 500 13 = ((sgN (V.getD I nd0)).length : Int) → (∀ j, j < u → S1.1 507 j = (sgN (V.getD I nd0)).getD j 0) → FC wdP S S1 → Ev (fun n => f_X12_wordOfText n d 14 S1 [(K : Int), (I : Int), (u : Int)]) (fun _ S2 => WD S2 (sgN (V.getD I nd0)) ∧ FC wdP S S2) := by
    intro t
    induction t with
    | zero =>
      intro u S1 hu h1 hj hf
      refine ev_up (fun n => e_X12_wordOfText_14) ?_
      unfold b_X12_wordOfText_14
      refine ev_gv ?_
      rw [h1]
      refine ev_gg (by first | omega | (constructor <;> omega)) ?_
      refine ev_gg (by first | omega | (constructor <;> omega)) ?_
      refine ev_ite (fun _ => ?_) (fun z => by omega)
      exact ev_ret ⟨⟨h1, by omega, fun j j1 => hj j (by omega), ky.2⟩, hf⟩
    | succ t ih =>
      intro u S1 hu h1 hj hf
      have h2 : LK S1 K V := lk_fr h hf (fun j _ _ => by omega) (by omega)
      refine ev_up (fun n => e_X12_wordOfText_14) ?_
      unfold b_X12_wordOfText_14
      refine ev_gv ?_
      rw [h1]
      refine ev_gg (by first | omega | (constructor <;> omega)) ?_
      refine ev_gg (by first | omega | (constructor <;> omega)) ?_
      refine ev_ite (fun z => by omega) (fun _ => ?_)
      refine ev_gv ?_
      refine ev_gg (by first | omega | (constructor <;> omega)) ?_
      refine ev_gcr (q_signL (d := d - 1) (K := K) (I := I) (J := u) (by omega) rfl hK rfl rfl h2 hI (by omega)) ?_
      refine ev_gg (by first | omega | (constructor <;> omega)) ?_
      refine ev_gv ?_
      refine ev_gv ?_
      rw [Int.toNat_natCast, show (u : Int) + 1 = ((u + 1 : Nat) : Int) by omega]
      refine ih (u + 1) _ (by omega) (by rw [gI_c (by decide)]; exact h1) (fun j j1 => ?_) (fc_tr hf (fc_gI (Or.inr rfl)))
      by_cases c : j = u
      · subst c; exact gI_a
      · rw [gI_k c]; exact hj j (by omega)
  refine ev_up (fun n => e_X12_wordOfText_0) ?_
  unfold b_X12_wordOfText_0
  refine ev_gg (by first | omega | (constructor <;> omega)) ?_
  refine ev_gcr (q_longL (d := d - 1) (K := K) (I := I) (by omega) rfl hK rfl h hI) ?_
  refine ev_gv ?_
  exact lp (sgN (V.getD I nd0)).length 0 _ (by omega) gI_a (fun j j1 => by omega) (fc_gI (Or.inl ⟨rfl, rfl⟩))
abbrev reP (K i : Nat) : Nat → Nat → Prop := fun c j => c = 501 ∧ 6161 * K + 61 * i ≤ j ∧ j < 6161 * K + 61 * i + 61
/-- one record changes -/
theorem md_upd {S1 : GS} {i : Nat} {o : Option (List ND)} {g : ND → ND} (h : MD S K o) (hf : FC (reP K i) S S1) (hx : ∀ W, o = some W → i < W.length → NW (g (W.getD i nd0)) ∧ CR S1 (6161 * K + 61 * i) (g (W.getD i nd0)) ∧ S1.1 501 (6161 * K + 61 * i + 3) = ((g (W.getD i nd0)).2.1 : Int)) : MD S1 K (o.map fun W => W.set i (g (W.getD i nd0))) := by
  cases o with
  | none => exact ⟨(fc_b hf (by omega)).trans h.1, by obtain ⟨m, a, b⟩ := h.2; exact ⟨m, a, by rw [fc_i hf (by omega)]; exact b⟩⟩
  | some W =>
    obtain ⟨g1, g2, g3, g4, g5⟩ := h
    refine ⟨(fc_b hf (by omega)).trans g1, by rw [fc_i hf (by omega), List.length_set]; exact g2, by rw [List.length_set]; exact g3, fun j hj => ?_, fun y hy => ?_⟩
    · rw [List.length_set] at hj
      have nw := g5 _ (nd_mem hj)
      by_cases e : j = i
      · subst e
        rw [getD_set hj, if_pos rfl]
        exact (hx W rfl hj).2
      · have cp : CR S1 (6161 * K + 61 * j) (W.getD j nd0) := cr_cp (g4 j hj).1 ⟨nw.2.2.1.1, nw.2.2.2.1.1⟩ (fun w hw hn => fc_i hf (by omega))
        have mp : S1.1 501 (6161 * K + 61 * j + 3) = ((W.getD j nd0).2.1 : Int) := by rw [fc_i hf (by omega)]; exact (g4 j hj).2
        by_cases e2 : i < W.length
        · rw [getD_set e2, if_neg e]
          exact ⟨cp, mp⟩
        · dsimp only
          rw [List.set_eq_of_length_le (by omega)]
          exact ⟨cp, mp⟩
    · by_cases e2 : i < W.length
      · rcases List.mem_or_eq_of_mem_set hy with z | z
        · exact g5 y z
        · subst z
          exact (hx W rfl e2).1
      · dsimp only at hy
        rw [List.set_eq_of_length_le (by omega)] at hy
        exact g5 y hy
theorem q_noKeyM {k i : Int} {I : Nat} {o : Option (List ND)} (hd : 1 ≤ d) (hk : k = (K : Int)) (hK : K < 48) (hi : i = (I : Int)) (hI : I ≤ 100) (h : MD S K o) : Ev (fun n => f_X12_noKey n d 0 S [k, i]) (fun _ S1 => MD S1 K (o.map fun W => W.set I (wQ (W.getD I nd0) [])) ∧ FC (reP K I) S S1) := by
  refine ev_mono (q_noKey (d := d) (6161 * K + 61 * I + 5) hd (by omega) (by omega)) (fun _ S1 q => ?_)
  subst q
  have hf : FC (reP K I) S (gI S 501 (6161 * K + 61 * I + 5) 0) := fc_gI ⟨rfl, by omega, by omega⟩
  refine ⟨md_upd (g := fun x => wQ x []) h hf (fun W e hW => ?_), hf⟩
  subst e
  have g4 := h.2.2.2.1 I hW
  have nw := h.2.2.2.2 _ (nd_mem hW)
  obtain ⟨c0, c1, c2, c3, c4, c5, c6⟩ := g4.1
  have sl := sgN_len (x := W.getD I nd0)
  have s40 := nw.2.2.1.1
  refine ⟨⟨nw.1, nw.2.1, nw.2.2.1, ⟨by show (0 : Nat) ≤ 12; decide, fun y hy => by cases hy⟩, nw.2.2.2.2⟩, ⟨?_, gI_a, fun j hj => absurd hj (Nat.not_lt_zero j), ?_, ?_, ?_, fun j hj => ?_⟩, ?_⟩
  · rw [gI_k (by omega)]; exact c0
  · rw [gI_k (by omega)]; exact c3
  · rw [gI_k (by omega)]; exact c4
  · rw [gI_k (by omega)]; exact c5
  · rw [gI_k (by omega)]; exact c6 j hj
  · rw [gI_k (by omega)]; exact g4.2
/-- the word becomes the KEY of a node -/
theorem q_keyIs {k i : Int} {I : Nat} {o : Option (List ND)} {w : List Int} (hd : 2 ≤ d) (hk : k = (K : Int)) (hK : K < 48) (hi : i = (I : Int)) (hI : I ≤ 100) (hW : WD S w) (hl : w.length ≤ 12) (h : MD S K o) : Ev (fun n => f_X12_keyIs n d 0 S [k, i]) (fun _ S1 => MD S1 K (o.map fun W => W.set I (wQ (W.getD I nd0) w)) ∧ FC (reP K I) S S1) := by
  subst hk hi
  have w1 := hW.1
  have lp : ∀ (t u : Nat) (S1 : GS), u + t = w.length → S1.1 501 (6161 * K + 61 * I + 5) = (w.length : Int) → (∀ j, j < u → S1.1 501 (6161 * K + 61 * I + 6 + j) = w.getD j 0) → FC (fun c j => c = 501 ∧ 6161 * K + 61 * I + 5 ≤ j ∧ j < 6161 * K + 61 * I + 18) S S1 → Ev (fun n => f_X12_keyIs n d 18 S1 [(K : Int), (I : Int), (u : Int)]) (fun _ S2 => S2.1 501 (6161 * K + 61 * I + 5) = (w.length : Int) ∧ (∀ j, j < w.length → S2.1 501 (6161 * K + 61 * I + 6 + j) = w.getD j 0) ∧ FC (fun c j => c = 501 ∧ 6161 * K + 61 * I + 5 ≤ j ∧ j < 6161 * K + 61 * I + 18) S S2) := by
    intro t
    induction t with
    | zero =>
      intro u S1 hu h5 hj hf
      refine ev_up (fun n => e_X12_keyIs_18) ?_
      unfold b_X12_keyIs_18
      refine ev_gv ?_
      rw [fc_i hf (by omega), w1]
      refine ev_gg (by first | omega | (constructor <;> omega)) ?_
      refine ev_gg (by first | omega | (constructor <;> omega)) ?_
      refine ev_ite (fun _ => ?_) (fun z => by omega)
      exact ev_ret ⟨h5, fun j j1 => hj j (by omega), hf⟩
    | succ t ih =>
      intro u S1 hu h5 hj hf
      refine ev_up (fun n => e_X12_keyIs_18) ?_
      unfold b_X12_keyIs_18
      refine ev_gv ?_
      rw [fc_i hf (by omega), w1]
      refine ev_gg (by first | omega | (constructor <;> omega)) ?_
      refine ev_gg (by first | omega | (constructor <;> omega)) ?_
      refine ev_ite (fun z => by omega) (fun _ => ?_)
      refine ev_ite (fun z => by omega) (fun _ => ?_)
      refine ev_gg (by first | omega | (constructor <;> omega)) ?_
      refine ev_gcr (q_at) ?_
      refine ev_gv ?_
      refine ev_gv ?_
      refine ev_gg (by first | omega | (constructor <;> omega)) ?_
      refine ev_gv ?_
      rw [Int.toNat_natCast, fc_i hf (by omega), hW.2.2.1 u (by omega)]
      refine ev_gg (by first | omega | (constructor <;> omega)) ?_
      refine ev_gv ?_
      refine ev_gv ?_
      rw [show ((101 * (K : Int) + (I : Int)) * 61 + 6 + (u : Int)).toNat = 6161 * K + 61 * I + 6 + u by omega, show (u : Int) + 1 = ((u + 1 : Nat) : Int) by omega]
      refine ih (u + 1) _ (by omega) (by rw [gI_k (by omega)]; exact h5) (fun j j1 => ?_) (fc_tr hf (fc_gI ⟨rfl, by omega, by omega⟩))
      by_cases c : j = u
      · subst c; exact gI_a
      · rw [gI_k (by omega)]; exact hj j (by omega)
  refine ev_up (fun n => e_X12_keyIs_0) ?_
  unfold b_X12_keyIs_0
  refine ev_gg (by first | omega | (constructor <;> omega)) ?_
  refine ev_gcr (q_at) ?_
  refine ev_gv ?_
  refine ev_gv ?_
  rw [w1]
  refine ev_gg (by first | omega | (constructor <;> omega)) ?_
  refine ev_gv ?_
  rw [show ((101 * (K : Int) + (I : Int)) * 61 + 5).toNat = 6161 * K + 61 * I + 5 by omega]
  refine ev_mono (lp w.length 0 _ (by omega) gI_a (fun j j1 => by omega) (fc_gI ⟨rfl, by omega, by omega⟩)) (fun _ S1 q => ?_)
  obtain ⟨q1, q2, q3⟩ := q
  have hf : FC (reP K I) S S1 := fc_mono q3 (fun c j z => ⟨z.1, by omega, by omega⟩)
  refine ⟨md_upd (g := fun x => wQ x w) h hf (fun W e hL => ?_), hf⟩
  subst e
  have g4 := h.2.2.2.1 I hL
  have nw := h.2.2.2.2 _ (nd_mem hL)
  obtain ⟨c0, c1, c2, c3, c4, c5, c6⟩ := g4.1
  have sl := sgN_len (x := W.getD I nd0)
  have s40 := nw.2.2.1.1
  refine ⟨⟨nw.1, nw.2.1, nw.2.2.1, ⟨hl, hW.2.2.2⟩, nw.2.2.2.2⟩, ⟨?_, q1, q2, ?_, ?_, ?_, fun j hj => ?_⟩, ?_⟩
  · rw [fc_i q3 (by omega)]; exact c0
  · rw [fc_i q3 (by omega)]; exact c3
  · rw [fc_i q3 (by omega)]; exact c4
  · rw [fc_i q3 (by omega)]; exact c5
  · rw [fc_i q3 (by omega)]; exact c6 j hj
  · rw [fc_i q3 (by omega)]; exact g4.2
end RW1
