/-! READING: the Reader's state; leaves -/
def SF (s r : List Int) (p : Int) : Prop := ∃ A, s = A ++ r ∧ p = (A.length : Int)
theorem sf_at {s r : List Int} {p : Int} (h : SF s r p) : atD s p = hdI r := by
  obtain ⟨A, rfl, rfl⟩ := h
  cases r with
  | nil => rw [atD_no (Or.inr (by simp))]; rfl
  | cons x r =>
    rw [atD_nat (by simp), List.getD_eq_getElem?_getD, List.getElem?_append_right (Nat.le_refl _)]
    simp [hdI]
def plI2 (s q : List Int) : Int := (s.length : Int) - q.length
theorem sf_le {s r : List Int} {p : Int} (h : SF s r p) : 0 ≤ p ∧ p ≤ s.length ∧ p = plI2 s r ∧ (r.length : Int) = s.length - p := by
  obtain ⟨A, rfl, rfl⟩ := h
  unfold plI2
  simp
  omega
theorem sf_tl {s r : List Int} {p : Int} (h : SF s r p) (hr : r ≠ []) : SF s r.tail (p + 1) := by
  obtain ⟨A, rfl, rfl⟩ := h
  cases r with
  | nil => exact absurd rfl hr
  | cons x r => exact ⟨A ++ [x], by simp, by simp⟩
theorem hdI_ne {r : List Int} {x : Int} (h : hdI r = x) (hx : x ≠ -1) : r ≠ [] := fun e => by
  rw [e] at h
  exact hx h.symm
theorem hdI_mem {r : List Int} (h : r ≠ []) : hdI r ∈ r := by
  cases r with
  | nil => exact absurd rfl h
  | cons x r => exact List.mem_cons_self
/-- the places that the Reader works at -/
def rdM : Nat → Prop := fun k => (336 ≤ k ∧ k < 352) ∨ (430 ≤ k ∧ k < 436) ∨ k = 470
abbrev F470 (S S1 : GS) : Prop := Fr (fun k => k = 470) S S1
def RC (c2 : Nat) (s : List Int) (S0 S : GS) : Prop := S.2.2 470 5 = c2 ∧ SV S c2 s ∧ (∃ k, SV S 430 k ∧ ∀ x ∈ k, x < 256) ∧ Fr rdM S0 S ∧ Good S
def RdC (c2 : Nat) (s : List Int) (how : Int) (S0 : GS) (r : List Int) (b : Nat) (V : List ND) (S : GS) : Prop := RC c2 s S0 S ∧ S.1 470 6 = how ∧ SF s r (S.1 470 7) ∧ S.1 470 8 = -1 ∧ S.1 470 9 = (b : Int) ∧ TO 336 (V, false) S
def FlC (c2 : Nat) (s : List Int) (S0 : GS) (q : Int) (S : GS) : Prop := RC c2 s S0 S ∧ (0 ≤ S.1 470 7 ∧ S.1 470 7 ≤ (s.length : Int) + 1) ∧ S.1 470 8 = q ∧ (0 ≤ q ∧ q ≤ s.length) ∧ ∃ W, TO 336 W S
/-- a sheet that is read from -/
def SrcOK (c2 : Nat) (s : List Int) : Prop := gSh c2 ∧ c2 ≠ 430 ∧ c2 ≠ 432 ∧ c2 ≠ 434 ∧ (∀ x ∈ s, 0 ≤ x ∧ x < 256) ∧ s.length ≤ 36000
theorem src_m {c2 : Nat} {s : List Int} (h : SrcOK c2 s) : ∀ x ∈ s, 0 ≤ x ∧ x < 256 := h.2.2.2.2.1
theorem src_l {c2 : Nat} {s : List Int} (h : SrcOK c2 s) : s.length ≤ 36000 := h.2.2.2.2.2
section RL
variable {S S0 : GS} {c2 d b : Nat} {s r : List Int} {how q : Int} {V : List ND}
theorem rc_len (h : RC c2 s S0 S) : s.length ≤ 60000 := sv_le h.2.1
theorem rc_470 (hs : SrcOK c2 s) (h : RC c2 s S0 S) {k : Nat} {x : Int} (hx : inr x) : RC c2 s S0 (gI S 470 k x) ∧ F470 S (gI S 470 k x) := by
  obtain ⟨h1, h2, ⟨ky, h3, h4⟩, h5, h6⟩ := h
  have f : F470 S (gI S 470 k x) := fr_gI rfl
  have g := hs.1
  refine ⟨⟨h1, sv_fr h2 f (by omega) (by omega), ⟨ky, sv_fr h3 f (by omega) (by omega), h4⟩, fr_tr h5 (fr_gI (Or.inr (Or.inr rfl))), good_gI h6 hx (fun q => by unfold isC at q; omega)⟩, f⟩
theorem to_470 {W : TW} (h : TO 336 W S) {k : Nat} {x : Int} : TO 336 W (gI S 470 k x) := to_fr (M := fun k => k = 470) h (fr_gI rfl) (fun k a b => by omega)
theorem f4_sv {S1 : GS} {t : Nat} {l : List Int} (h : SV S t l) (hf : F470 S S1) (ht : gSh t) : SV S1 t l := sv_fr h hf (by omega) (by omega)
theorem f4_tr {S1 S2 : GS} (h : F470 S S1) (g : F470 S1 S2) : F470 S S2 := fr_tr h g
theorem f4_rf : F470 S S := fr_rf
theorem hdI_r (hs : SrcOK c2 s) (h : SF s r q) : -1 ≤ hdI r ∧ hdI r < 256 := by
  obtain ⟨A, rfl, -⟩ := h
  cases r with
  | nil => unfold hdI; simp
  | cons x r =>
    have := src_m hs x (by simp)
    unfold hdI
    simp
    omega
theorem atD_s (hs : SrcOK c2 s) (i : Int) : -1 ≤ atD s i ∧ atD s i < 256 := by
  unfold atD
  split
  · rename_i h
    have := src_m hs _ (gD_mem (l := s) (j := i.toNat) (by omega))
    omega
  · omega
theorem rd_place (h : RdC c2 s how S0 r b V S) (hs : SrcOK c2 s) {r' : List Int} {p : Int} (hp : SF s r' p) : RdC c2 s how S0 r' b V (gI S 470 7 p) ∧ F470 S (gI S 470 7 p) := by
  obtain ⟨h1, h2, h3, h4, h5, h6⟩ := h
  have l := rc_len h1
  have e := sf_le hp
  have c := rc_470 hs h1 (k := 7) (x := p) (by constructor <;> omega)
  refine ⟨⟨c.1, ?_, ?_, ?_, ?_, to_470 h6⟩, c.2⟩
  · rw [gI_k (by decide)]; exact h2
  · rw [gI_a]; exact hp
  · rw [gI_k (by decide)]; exact h4
  · rw [gI_k (by decide)]; exact h5
theorem fl_place (h : FlC c2 s S0 q S) (hs : SrcOK c2 s) {p : Int} (hp : 0 ≤ p ∧ p ≤ (s.length : Int) + 1) : FlC c2 s S0 q (gI S 470 7 p) ∧ F470 S (gI S 470 7 p) := by
  obtain ⟨h1, h2, h3, h4, W, h5⟩ := h
  have l := rc_len h1
  have c := rc_470 hs h1 (k := 7) (x := p) (by constructor <;> omega)
  refine ⟨⟨c.1, ?_, ?_, h4, W, to_470 h5⟩, c.2⟩
  · rw [gI_a]; exact hp
  · rw [gI_k (by decide)]; exact h3
theorem rd_here (h : RdC c2 s how S0 r b V S) (hs : SrcOK c2 s) (hd : 1 ≤ d) : Rd (fun n => f_X6_here n d 0 S []) (hdI r) S := by
  obtain ⟨h1, h2, h3, h4, h5, h6⟩ := h
  have l := rc_len h1
  have e := sf_le h3
  have k := rd_as (s9_at (d := d - 1) hs.1 h1.2.1 (show inr (S.1 470 7) by constructor <;> omega)) (sf_at h3)
  have g := hs.1
  refine ev_up (fun n => e_X6_here_0) ?_
  unfold b_X6_here_0
  rw [h1.1]
  repeat' (first
    | with_reducible refine ev_gv ?_
    | with_reducible refine ev_gg ?_ ?_
    | with_reducible refine ev_ite (fun _ => ?_) (fun _ => ?_)
    | refine ev_gcr (k) ?_
    | omega
    | assumption)
  exact ev_ret ⟨rfl, rfl⟩
theorem fl_here (h : FlC c2 s S0 q S) (hs : SrcOK c2 s) (hd : 1 ≤ d) : Rd (fun n => f_X6_here n d 0 S []) (atD s (S.1 470 7)) S := by
  obtain ⟨h1, h2, h3, h4, h5⟩ := h
  have l := rc_len h1
  have k := s9_at (d := d - 1) hs.1 h1.2.1 (show inr (S.1 470 7) by constructor <;> omega)
  have g := hs.1
  refine ev_up (fun n => e_X6_here_0) ?_
  unfold b_X6_here_0
  rw [h1.1]
  repeat' (first
    | with_reducible refine ev_gv ?_
    | with_reducible refine ev_gg ?_ ?_
    | with_reducible refine ev_ite (fun _ => ?_) (fun _ => ?_)
    | refine ev_gcr (k) ?_
    | omega
    | assumption)
  exact ev_ret ⟨rfl, rfl⟩
theorem rd_goes (h : RdC c2 s how S0 r b V S) : Rd (fun n => f_X6_goesOn n d 0 S []) 1 S := by
  obtain ⟨h1, h2, h3, h4, h5, h6⟩ := h
  refine ev_up (fun n => e_X6_goesOn_0) ?_
  unfold b_X6_goesOn_0
  rw [h4]
  repeat' (first
    | with_reducible refine ev_gv ?_
    | with_reducible refine ev_gg ?_ ?_
    | with_reducible refine ev_ite (fun _ => ?_) (fun _ => ?_)
    | omega
    | assumption)
  exact ev_ret ⟨rfl, rfl⟩
theorem fl_goes (h : FlC c2 s S0 q S) : Rd (fun n => f_X6_goesOn n d 0 S []) 0 S := by
  obtain ⟨h1, h2, h3, h4, h5⟩ := h
  have l := rc_len h1
  refine ev_up (fun n => e_X6_goesOn_0) ?_
  unfold b_X6_goesOn_0
  rw [h3]
  repeat' (first
    | with_reducible refine ev_gv ?_
    | with_reducible refine ev_gg ?_ ?_
    | with_reducible refine ev_ite (fun _ => ?_) (fun _ => ?_)
    | omega
    | assumption)
  exact ev_ret ⟨rfl, rfl⟩
theorem rd_fail (h : RdC c2 s how S0 r b V S) (hs : SrcOK c2 s) {p : Int} (hp : 0 ≤ p ∧ p ≤ s.length) : Ev (fun n => f_X6_fail n d 0 S [p]) (fun x S1 => x = -1 ∧ FlC c2 s S0 p S1 ∧ F470 S S1) := by
  obtain ⟨h1, h2, h3, h4, h5, h6⟩ := h
  have l := rc_len h1
  have e := sf_le h3
  have c := rc_470 hs h1 (k := 8) (x := p) (by constructor <;> omega)
  refine ev_up (fun n => e_X6_fail_0) ?_
  unfold b_X6_fail_0
  rw [h4]
  repeat' (first
    | with_reducible refine ev_gv ?_
    | with_reducible refine ev_gg ?_ ?_
    | with_reducible refine ev_ite (fun _ => ?_) (fun _ => ?_)
    | omega
    | assumption)
  refine ev_ret ⟨rfl, ⟨c.1, ?_, gI_a, hp, _, to_470 h6⟩, c.2⟩
  rw [gI_k (by decide)]
  omega
theorem fl_fail (h : FlC c2 s S0 q S) {p : Int} : Ev (fun n => f_X6_fail n d 0 S [p]) (fun x S1 => x = -1 ∧ FlC c2 s S0 q S1 ∧ F470 S S1) := by
  have h' := h
  obtain ⟨h1, h2, h3, h4, h5⟩ := h
  have l := rc_len h1
  refine ev_up (fun n => e_X6_fail_0) ?_
  unfold b_X6_fail_0
  rw [h3]
  repeat' (first
    | with_reducible refine ev_gv ?_
    | with_reducible refine ev_gg ?_ ?_
    | with_reducible refine ev_ite (fun _ => ?_) (fun _ => ?_)
    | omega
    | assumption)
  exact ev_ret ⟨rfl, h', f4_rf⟩
theorem rd_pass (h : RdC c2 s how S0 r b V S) (hs : SrcOK c2 s) (hd : 1 ≤ d) {c : Int} (hc : 0 ≤ c ∧ c < 256) : Ev (fun n => f_X6_pass n d 0 S [c]) (fun _ S1 => (if hdI r = c then RdC c2 s how S0 r.tail b V S1 else FlC c2 s S0 (plI2 s r) S1) ∧ F470 S S1) := by
  have h' := h
  obtain ⟨h1, h2, h3, h4, h5, h6⟩ := h
  have l := rc_len h1
  have e := sf_le h3
  have k := rd_as (s9_at (d := d - 1) hs.1 h1.2.1 (show inr (S.1 470 7) by constructor <;> omega)) (sf_at h3)
  have g := hs.1
  have hr := hdI_r hs h3
  refine ev_up (fun n => e_X6_pass_0) ?_
  unfold b_X6_pass_0
  rw [h1.1]
  by_cases hq : hdI r = c
  · simp only [if_pos hq]
    have t := rd_place h' hs (sf_tl h3 (hdI_ne hq (by omega)))
    repeat' (first
      | with_reducible refine ev_gv ?_
      | with_reducible refine ev_gg ?_ ?_
      | with_reducible refine ev_ite (fun _ => ?_) (fun _ => ?_)
      | refine ev_gcr (k) ?_
      | omega
      | assumption)
    exact ev_ret t
  · simp only [if_neg hq]
    repeat' (first
      | with_reducible refine ev_gv ?_
      | with_reducible refine ev_gg ?_ ?_
      | with_reducible refine ev_ite (fun _ => ?_) (fun _ => ?_)
      | refine ev_gcr (k) ?_
      | omega
      | assumption)
    refine ev_gc (rd_fail (d := d - 1) h' hs (p := S.1 470 7) (by omega)) (fun x S1 q1 => ?_)
    obtain ⟨-, a, b⟩ := q1
    rw [e.2.2.1] at a
    exact ev_ret ⟨a, b⟩
theorem fl_pass (h : FlC c2 s S0 q S) (hs : SrcOK c2 s) (hd : 1 ≤ d) {c : Int} (hc : 0 ≤ c ∧ c < 256) : Ev (fun n => f_X6_pass n d 0 S [c]) (fun _ S1 => FlC c2 s S0 q S1 ∧ F470 S S1) := by
  have h' := h
  obtain ⟨h1, h2, h3, h4, h5⟩ := h
  have l := rc_len h1
  have k := s9_at (d := d - 1) hs.1 h1.2.1 (show inr (S.1 470 7) by constructor <;> omega)
  have g := hs.1
  have hr := atD_s hs (S.1 470 7)
  refine ev_up (fun n => e_X6_pass_0) ?_
  unfold b_X6_pass_0
  rw [h1.1]
  by_cases hq : atD s (S.1 470 7) = c
  · have hl : S.1 470 7 < s.length := by
      by_cases z : S.1 470 7 < s.length
      · exact z
      · rw [atD_no (Or.inr (by omega))] at hq
        omega
    have t := fl_place h' hs (p := S.1 470 7 + 1) (by omega)
    repeat' (first
      | with_reducible refine ev_gv ?_
      | with_reducible refine ev_gg ?_ ?_
      | with_reducible refine ev_ite (fun _ => ?_) (fun _ => ?_)
      | refine ev_gcr (k) ?_
      | omega
      | assumption)
    exact ev_ret t
  · repeat' (first
      | with_reducible refine ev_gv ?_
      | with_reducible refine ev_gg ?_ ?_
      | with_reducible refine ev_ite (fun _ => ?_) (fun _ => ?_)
      | refine ev_gcr (k) ?_
      | omega
      | assumption)
    refine ev_gc (fl_fail (d := d - 1) h') (fun x S1 q1 => ?_)
    exact ev_ret q1.2
theorem x6_isFigure {a : Int} (ha : inr a) : Rd (fun n => f_X6_isFigure n d 0 S [a]) (if fgC a then 1 else 0) S := by
  by_cases h : fgC a
  · rw [if_pos h]
    refine ev_up (fun n => e_X6_isFigure_0) ?_
    unfold b_X6_isFigure_0
    repeat' (first
      | with_reducible refine ev_gv ?_
      | with_reducible refine ev_gg ?_ ?_
      | with_reducible refine ev_ite (fun _ => ?_) (fun _ => ?_)
      | omega
      | assumption)
    all_goals exact ev_ret ⟨rfl, rfl⟩
  · rw [if_neg h]
    refine ev_up (fun n => e_X6_isFigure_0) ?_
    unfold b_X6_isFigure_0
    repeat' (first
      | with_reducible refine ev_gv ?_
      | with_reducible refine ev_gg ?_ ?_
      | with_reducible refine ev_ite (fun _ => ?_) (fun _ => ?_)
      | omega
      | assumption)
    all_goals exact ev_ret ⟨rfl, rfl⟩
theorem rd_skip (hs : SrcOK c2 s) (hd : 2 ≤ d) : ∀ (r : List Int) (S : GS), RdC c2 s how S0 r b V S → Ev (fun n => f_X6_skipBlanks n d 0 S []) (fun _ S1 => RdC c2 s how S0 (skB r) b V S1 ∧ F470 S S1) := by
  intro r
  induction r with
  | nil =>
    intro S h
    have h' := h
    obtain ⟨h1, h2, h3, h4, h5, h6⟩ := h
    have l := rc_len h1
    have e := sf_le h3
    simp only [List.length_nil] at e
    have g := hs.1
    refine ev_up (fun n => e_X6_skipBlanks_0) ?_
    unfold b_X6_skipBlanks_0
    rw [h1.1]
    repeat' (first
      | with_reducible refine ev_gv ?_
      | with_reducible refine ev_gg ?_ ?_
      | with_reducible refine ev_ite (fun _ => ?_) (fun _ => ?_)
      | refine ev_gcr (s9_length hs.1 h1.2.1) ?_
      | omega
      | assumption)
    exact ev_ret ⟨h', f4_rf⟩
  | cons x r ih =>
    intro S h
    have h' := h
    obtain ⟨h1, h2, h3, h4, h5, h6⟩ := h
    have l := rc_len h1
    have e := sf_le h3
    simp only [List.length_cons] at e
    have g := hs.1
    have t := rd_place h' hs (sf_tl h3 (by simp))
    have k := rd_here (d := d - 1) h' hs (by omega)
    have hx : hdI (x :: r) = x := rfl
    have hr := hdI_r hs h3
    rw [hx] at k hr
    by_cases hb : x = 32 ∨ x = 10
    · have es : skB (x :: r) = skB r := if_pos hb
      rw [es]
      have kk := ev_mono (ih _ t.1) (fun y S1 q => show RdC c2 s how S0 (skB r) b V S1 ∧ F470 S S1 from ⟨q.1, f4_tr t.2 q.2⟩)
      refine ev_up (fun n => e_X6_skipBlanks_0) ?_
      unfold b_X6_skipBlanks_0
      rw [h1.1]
      repeat' (first
        | with_reducible refine ev_gv ?_
        | with_reducible refine ev_gg ?_ ?_
        | with_reducible refine ev_ite (fun _ => ?_) (fun _ => ?_)
        | refine ev_gcr (s9_length hs.1 h1.2.1) ?_
        | refine ev_gcr (k) ?_
        | omega
        | assumption)
      all_goals exact kk
    · have es : skB (x :: r) = x :: r := if_neg hb
      rw [es]
      refine ev_up (fun n => e_X6_skipBlanks_0) ?_
      unfold b_X6_skipBlanks_0
      rw [h1.1]
      repeat' (first
        | with_reducible refine ev_gv ?_
        | with_reducible refine ev_gg ?_ ?_
        | with_reducible refine ev_ite (fun _ => ?_) (fun _ => ?_)
        | refine ev_gcr (s9_length hs.1 h1.2.1) ?_
        | refine ev_gcr (k) ?_
        | omega
        | assumption)
      exact ev_ret ⟨h', f4_rf⟩
theorem fl_skip (hs : SrcOK c2 s) (hd : 2 ≤ d) : ∀ (m : Nat) (S : GS), (s.length : Int) - S.1 470 7 < m → FlC c2 s S0 q S → Ev (fun n => f_X6_skipBlanks n d 0 S []) (fun _ S1 => FlC c2 s S0 q S1 ∧ F470 S S1) := by
  intro m
  induction m with
  | zero =>
    intro S hm h
    have h' := h
    obtain ⟨h1, h2, h3, h4, h5⟩ := h
    have l := rc_len h1
    have g := hs.1
    refine ev_up (fun n => e_X6_skipBlanks_0) ?_
    unfold b_X6_skipBlanks_0
    rw [h1.1]
    repeat' (first
      | with_reducible refine ev_gv ?_
      | with_reducible refine ev_gg ?_ ?_
      | with_reducible refine ev_ite (fun _ => ?_) (fun _ => ?_)
      | refine ev_gcr (s9_length hs.1 h1.2.1) ?_
      | omega
      | assumption)
    exact ev_ret ⟨h', f4_rf⟩
  | succ m ih =>
    intro S hm h
    have h' := h
    obtain ⟨h1, h2, h3, h4, h5⟩ := h
    have l := rc_len h1
    have g := hs.1
    have k := fl_here (d := d - 1) h' hs (by omega)
    have hr := atD_s hs (S.1 470 7)
    by_cases hl : S.1 470 7 < s.length
    · have t := fl_place h' hs (p := S.1 470 7 + 1) (by omega)
      have kk := ev_mono (ih _ (by rw [gI_a]; omega) t.1) (fun y S1 z => show FlC c2 s S0 q S1 ∧ F470 S S1 from ⟨z.1, f4_tr t.2 z.2⟩)
      refine ev_up (fun n => e_X6_skipBlanks_0) ?_
      unfold b_X6_skipBlanks_0
      rw [h1.1]
      by_cases hb : atD s (S.1 470 7) = 32 ∨ atD s (S.1 470 7) = 10
      · repeat' (first
          | with_reducible refine ev_gv ?_
          | with_reducible refine ev_gg ?_ ?_
          | with_reducible refine ev_ite (fun _ => ?_) (fun _ => ?_)
          | refine ev_gcr (s9_length hs.1 h1.2.1) ?_
          | refine ev_gcr (k) ?_
          | omega
          | assumption)
        all_goals exact kk
      · repeat' (first
          | with_reducible refine ev_gv ?_
          | with_reducible refine ev_gg ?_ ?_
          | with_reducible refine ev_ite (fun _ => ?_) (fun _ => ?_)
          | refine ev_gcr (s9_length hs.1 h1.2.1) ?_
          | refine ev_gcr (k) ?_
          | omega
          | assumption)
        exact ev_ret ⟨h', f4_rf⟩
    · refine ev_up (fun n => e_X6_skipBlanks_0) ?_
      unfold b_X6_skipBlanks_0
      rw [h1.1]
      repeat' (first
        | with_reducible refine ev_gv ?_
        | with_reducible refine ev_gg ?_ ?_
        | with_reducible refine ev_ite (fun _ => ?_) (fun _ => ?_)
        | refine ev_gcr (s9_length hs.1 h1.2.1) ?_
        | omega
        | assumption)
      exact ev_ret ⟨h', f4_rf⟩
theorem fl_skips (hs : SrcOK c2 s) (hd : 2 ≤ d) (h : FlC c2 s S0 q S) : Ev (fun n => f_X6_skipBlanks n d 0 S []) (fun _ S1 => FlC c2 s S0 q S1 ∧ F470 S S1) := fl_skip hs hd ((s.length : Int) - S.1 470 7 + 1).toNat S (by omega) h
end RL
