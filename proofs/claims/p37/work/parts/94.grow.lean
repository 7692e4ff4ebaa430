/-! GROWING: what the draws give, like KEYS and all -/
def dr (st : Int) : Int := (25173 * st + 13849) % 65536
def dv (st n : Int) : Int := dr st / 16 % n
theorem dr_r {st : Int} : 0 ≤ dr st ∧ dr st < 65536 := by unfold dr; omega
theorem dv_r {st n : Int} (h : 0 < n) : 0 ≤ dv st n ∧ dv st n < n := by
  unfold dv
  exact ⟨Int.emod_nonneg _ (by omega), Int.emod_lt_of_pos _ h⟩
/-- signs by draws -/
def grT : Nat → Int → List Int × Int
  | 0, st => ([], st)
  | n + 1, st => ((97 + dv st 3) :: (grT n (dr st)).1, (grT n (dr st)).2)
def grL (g : Int → List ND × Int) (mp : Bool) : Nat → Int → List (List ND) × Int
  | 0, st => ([], st)
  | n + 1, st => if mp then (kyT (g (dr st)).1 [97 + dv st 5] :: (grL g mp n (g (dr st)).2).1, (grL g mp n (g (dr st)).2).2) else ((g st).1 :: (grL g mp n (g st).2).1, (grL g mp n (g st).2).2)
def grK (lv st : Int) : Int := dv st (if lv = 0 ∨ 3 ≤ lv then 4 else 8) + (if lv = 0 then 4 else 0)
/-- a VALUE from a level on, by a size; what the draws are at behind it -/
def grF : Nat → Int → Int → Int → List ND × Int
  | 0, _, _, st => ([ndK 0], st)
  | f + 1, lv, sz, st =>
    if grK lv st = 0 then ([ndK 0], dr st)
    else if grK lv st = 1 then ([(1, 1, if dv (dr st) 2 = 1 then 1 else 0, [], [])], dr (dr st))
    else if grK lv st = 2 then ([(2, 1, nmPw (wnum (dv (dr st) 1000)) (dv (dr (dr st)) 5 - 2), nmSg 0 (wnum (dv (dr st) 1000)), [])], dr (dr (dr st)))
    else if grK lv st = 3 then ([(3, 1, 0, (grT (dv (dr st) 4).toNat (dr (dr st))).1, [])], (grT (dv (dr st) 4).toNat (dr (dr st))).2)
    else (gpN (ndK (if grK lv st < 6 then 4 else 5)) (grL (grF f (lv + 1) sz) (decide (6 ≤ grK lv st)) (dv (dr st) (sz + 1)).toNat (dr (dr st))).1 (dv (dr st) (sz + 1)).toNat, (grL (grF f (lv + 1) sz) (decide (6 ≤ grK lv st)) (dv (dr st) (sz + 1)).toNat (dr (dr st))).2)
/-- a VALUE of a KEY comes: behind all, or in the place of the one of that KEY -/
def insK (t : List ND) (q : List Int) : List (List ND) → List (List ND)
  | [] => [kyT t q]
  | u :: E => if rq u = q then kyT t q :: E else u :: insK t q E
/-- like KEYS are one: the last VALUE in the first place -/
def nr3 : Nat → List ND → List ND
  | 0, T => T
  | f + 1, T => if rk T = 5 then gpN (T.getD 0 nd0) ((kd T).foldl (fun E t => insK (nr3 f t) (rq t) E) []) ((kd T).foldl (fun E t => insK (nr3 f t) (rq t) E) []).length else if rk T = 4 then gpN (T.getD 0 nd0) ((kd T).map (nr3 f)) ((kd T).map (nr3 f)).length else T
/-- the places that the Grower works at -/
def grM : Nat → Prop := fun k => (408 ≤ k ∧ k < 424) ∨ (464 ≤ k ∧ k < 468) ∨ k = 494
section GRW
variable {S S0 : GS} {d : Nat}
/-- the Grower since a state: its tree so far, the draws -/
def GrS (S0 : GS) (V : List ND) (st : Int) (S : GS) : Prop := TO 408 (V, false) S ∧ S.1 494 4 = st ∧ Fr grM S0 S ∧ Good S
theorem gr_draw {V : List ND} {st a : Int} (h : GrS S0 V st S) (hst : 0 ≤ st ∧ st < 65536) (ha : 0 < a ∧ a ≤ 1000) : Ev (fun n => f_X3_draw n d 0 S [a]) (fun x S1 => x = dv st a ∧ GrS S0 V (dr st) S1) := by
  obtain ⟨h1, h2, h3, h4⟩ := h
  have e := dr_r (st := st)
  unfold dr at e
  refine ev_up (fun n => e_X3_draw_0) ?_
  unfold b_X3_draw_0
  repeat' (first
    | with_reducible refine ev_gv ?_
    | with_reducible refine ev_gg ?_ ?_
    | with_reducible refine ev_ite (fun _ => ?_) (fun _ => ?_)
    | omega
    | assumption
    | simp (disch := omega) only [gI_a, gI_k, gI_c, gI_b, gB_i, gB_a, gB_k, gB_c, gB_r, gR_i, gR_b, gR_a, gR_k, gR_c, gIs_a, gIs_c, gIs_b, Int.toNat_natCast, h2])
  refine ev_ret ⟨?_, ?_, ?_, ?_, ?_⟩
  · unfold dv dr
    simp (disch := omega) only [gI_a, h2]
  · exact to_fr (M := fun k => k = 494) h1 (fr_gI rfl) (fun k a b => by omega)
  · rw [gI_a]
    rfl
  · exact fr_tr h3 (fr_gI (Or.inr (Or.inr rfl)))
  · exact good_gI h4 (by constructor <;> omega) (fun q => by unfold isC at q; omega)
theorem gr_tree {V V1 : List ND} {st : Int} {S1 : GS} (h : GrS S0 V st S) (h1 : TY 408 S (V1, false) S1) : GrS S0 V1 st S1 := by
  obtain ⟨a1, a2, a3, a4⟩ := h
  refine ⟨to_ty h1, by rw [(h1.2.2.1 494 (by unfold trM; omega)).1]; exact a2, fr_tr a3 (fr_mono h1.2.2.1 (fun c hc => Or.inl (by unfold trM at hc; omega))), h1.2.2.2⟩
theorem gr_ty {V : List ND} {st : Int} (h : GrS S0 V st S) : TY 408 S (V, false) S := ty_to h.1 h.2.2.2
theorem gr_sheet {V : List ND} {st : Int} {S1 : GS} {s : Nat} {l : List Int} (hs : s = 464 ∨ s = 466) (h : GrS S0 V st S) (h1 : SX s S l S1) : GrS S0 V st S1 := by
  obtain ⟨a1, a2, a3, a4⟩ := h
  have e : ∀ k, shM s k → grM k := fun k hk => by unfold shM at hk; unfold grM; omega
  exact ⟨to_fr a1 h1.2.1 (fun k a b => by unfold shM; omega), by rw [(h1.2.1 494 (by unfold shM; omega)).1]; exact a2, fr_tr a3 (fr_mono h1.2.1 e), h1.2.2⟩
theorem fr_draw {V : List ND} {st a : Int} (h : GrS S0 V st S) (hst : 0 ≤ st ∧ st < 65536) (ha : 0 < a ∧ a ≤ 1000) : Ev (fun n => f_X3_draw n d 0 S [a]) (fun x S1 => x = dv st a ∧ GrS S0 V (dr st) S1 ∧ Fr (fun k => k = 494) S S1) := by
  obtain ⟨h1, h2, h3, h4⟩ := h
  have e := dr_r (st := st)
  unfold dr at e
  refine ev_up (fun n => e_X3_draw_0) ?_
  unfold b_X3_draw_0
  repeat' (first
    | with_reducible refine ev_gv ?_
    | with_reducible refine ev_gg ?_ ?_
    | with_reducible refine ev_ite (fun _ => ?_) (fun _ => ?_)
    | omega
    | assumption
    | simp (disch := omega) only [gI_a, gI_k, gI_c, gI_b, gB_i, gB_a, gB_k, gB_c, gB_r, gR_i, gR_b, gR_a, gR_k, gR_c, gIs_a, gIs_c, gIs_b, Int.toNat_natCast, h2])
  refine ev_ret ⟨?_, ⟨?_, ?_, ?_, ?_⟩, fr_gI rfl⟩
  · unfold dv dr
    simp (disch := omega) only [gI_a, h2]
  · exact to_fr (M := fun k => k = 494) h1 (fr_gI rfl) (fun k a b => by omega)
  · rw [gI_a]
    rfl
  · exact fr_tr h3 (fr_gI (Or.inr (Or.inr rfl)))
  · exact good_gI h4 (by constructor <;> omega) (fun q => by unfold isC at q; omega)
end GRW
