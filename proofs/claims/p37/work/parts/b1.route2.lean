/-! PATHS: WORDS, where a PLAIN PATH leads -/
theorem sx_then {c : Nat} {S0 S S1 : GS} {l l1 : List Int} (h : SX c S0 l S) (h1 : SX c S l1 S1) : SX c S0 l1 S1 := ⟨h1.1, fr_tr h.2.1 h1.2.1, h1.2.2⟩
theorem ptOK_drop : ∀ {l : List Int} {i : Nat}, ptOK l = true → ptOK (l.drop i) = true
  | l, 0, h => h
  | [], i + 1, h => by simpa using h
  | x :: r, i + 1, h => by
    unfold ptOK at h
    rw [Bool.and_eq_true] at h
    exact ptOK_drop (l := r) (i := i) h.2
theorem drop_take_s {l : List Int} {i e : Nat} (hi : i < e) (he : e ≤ l.length) : (l.take e).drop i = l.getD i 0 :: (l.take e).drop (i + 1) := by
  have h : i < (l.take e).length := by simp; omega
  rw [drop_one h]
  congr 1
  rw [List.getD_eq_getElem?_getD, List.getD_eq_getElem?_getD, List.getElem?_take, if_pos hi]
/-- the place that a WORD tells, if it is written plainly -/
def dgF : List Int → Int → Int
  | [], p => p
  | x :: r, p => if fgC x then dgF r (p * 10 + x - 48) else -1
def plN (w : List Int) : Int := if w.length < 1 ∨ 3 < w.length ∨ (1 < w.length ∧ hdI w = 48) then -1 else dgF w 0
theorem dgF_r : ∀ (w : List Int) (p : Int) (m : Nat), 0 ≤ p → w.length ≤ m → p < 10 ^ (3 - m) → m ≤ 3 → dgF w p = -1 ∨ (0 ≤ dgF w p ∧ dgF w p < 1000)
  | [], p, m, h0, _, hp, _ => by
    right
    unfold dgF
    have : (10 : Int) ^ (3 - m) ≤ 1000 := by
      have : ∀ k, k ≤ 3 → (10 : Int) ^ k ≤ 1000 := by
        intro k hk
        rcases (show k = 0 ∨ k = 1 ∨ k = 2 ∨ k = 3 by omega) with rfl | rfl | rfl | rfl <;> decide
      exact this _ (by omega)
    omega
  | x :: r, p, m, h0, hl, hp, hm => by
    unfold dgF
    simp only [List.length_cons] at hl
    split
    · rename_i c
      refine dgF_r r _ (m - 1) (by omega) (by omega) ?_ (by omega)
      have e : 3 - (m - 1) = (3 - m) + 1 := by omega
      rw [e, Int.pow_succ]
      omega
    · exact Or.inl rfl
theorem plN_r (w : List Int) : plN w = -1 ∨ (0 ≤ plN w ∧ plN w < 1000) := by
  unfold plN
  split
  · exact Or.inl rfl
  · exact dgF_r w 0 3 (Int.le_refl _) (by omega) (by decide) (by decide)
def stpT (V : List ND) (n : Int) (w : List Int) : Int := if kdI V n = 4 then atK (kids V n.toNat) (plN w) else vLk V n w
def ldF (l : List Int) (V : List ND) : Nat → Nat → Int → Int
  | 0, _, n => n
  | f + 1, i, n => if n = -1 then -1 else ldF l V f (i + 1) (stpT V n (wdA l i))
theorem atK_mem : ∀ (L : List Nat) (p : Int), atK L p = -1 ∨ ∃ k ∈ L, atK L p = (k : Int)
  | [], p => Or.inl rfl
  | k :: L, p => by
    unfold atK
    split
    · exact Or.inr ⟨k, List.mem_cons_self, rfl⟩
    · rcases atK_mem L (p - 1) with h | ⟨j, h1, h2⟩
      · exact Or.inl h
      · exact Or.inr ⟨j, List.mem_cons_of_mem _ h1, h2⟩
theorem fdK_mem {V : List ND} {key : List Int} : ∀ (L : List Nat), fdK V key L = -1 ∨ ∃ k ∈ L, fdK V key L = (k : Int) ∧ nq V k = key
  | [] => Or.inl rfl
  | k :: L => by
    unfold fdK
    by_cases c : nq V k = key
    · rw [if_pos c]; exact Or.inr ⟨k, List.mem_cons_self, rfl, c⟩
    · rw [if_neg c]
      rcases fdK_mem (V := V) (key := key) L with h | ⟨j, h1, h2⟩
      · exact Or.inl h
      · exact Or.inr ⟨j, List.mem_cons_of_mem _ h1, h2⟩
/-- nowhere, or at a NODE -/
abbrev nOK (V : List ND) (n : Int) : Prop := n = -1 ∨ (0 ≤ n ∧ n < (V.length : Int))
theorem kids_in {V : List ND} (hw : WF V) (hz : PZ V) {g k : Nat} (hg : g < V.length) (h : k ∈ kids V g) : k < V.length := by
  have := mem_kids hz h
  have := hw.1 g hg
  omega
theorem vLk_r {V : List ND} (hw : WF V) (hz : PZ V) (n : Int) (w : List Int) : nOK V (vLk V n w) := by
  unfold vLk
  split
  · rename_i c
    rcases fdK_mem (V := V) (key := w) (kidsM V n.toNat) with h | ⟨k, h1, h2, -⟩
    · exact Or.inl h
    · right
      rw [h2]
      unfold kidsM at h1
      split at h1
      · have := kids_in hw hz (by omega) h1
        omega
      · cases h1
  · exact Or.inl rfl
theorem stpT_r {V : List ND} (hw : WF V) (hz : PZ V) {n : Int} (hn : nOK V n) (w : List Int) : nOK V (stpT V n w) := by
  unfold stpT
  split
  · rename_i c
    rcases atK_mem (kids V n.toNat) (plN w) with h | ⟨k, h1, h2⟩
    · exact Or.inl h
    · right
      rw [h2]
      rcases hn with e | e
      · rw [e] at c; unfold kdI at c; rw [if_neg (by omega)] at c; omega
      · have := kids_in hw hz (by omega) h1
        omega
  · exact vLk_r hw hz n w
section RT
variable {S S0 : GS} {a d : Nat} {l : List Int}
theorem word_21 {s e : Nat} (ha : gRo a) (hs : gSh s) (hne : s ≠ rS a) (hrm : g_room (s + 1) = 400) (hd : 1 ≤ d) (h0 : RoS a l S0) (hpt : ptOK l = true) (he : e ≤ l.length) (hee : e = l.length ∨ l.getD e 0 = 47) : ∀ (m i : Nat) (S : GS) (w : List Int), e - i < m → i ≤ l.length + 1 → SX s S0 w S → w.length + (e - i) ≤ 400 → Ev (fun n => f_X7_wordTo n d 21 S [((a : Nat) : Int), ((s : Nat) : Int), (e : Int), (i : Int)]) (fun _ S1 => SX s S0 (w ++ une ((l.take e).drop i)) S1) := by
  have g1 := rS_g ha
  have g2 := rS_r ha
  have ll := ro_len h0 ha
  intro m
  induction m with
  | zero => intros; omega
  | succ m ih =>
    intro i S w h1 h2 h hr
    have hv := sv_sx hs g1.1 (Ne.symm hne) h0.1 h
    by_cases hi : i < e
    · have c0 := sv_at hv (i := i) (by omega)
      have e0 := rd_as (s9_at (d := d - 1) (i := (i : Int)) g1.1 hv (by constructor <;> omega)) (atD_nat (show i < l.length by omega))
      rw [drop_take_s hi he]
      by_cases c1 : l.getD i 0 = 126
      · have po := ptOK_drop (i := i) hpt
        rw [drop_one (by omega)] at po
        have po' : decide (l.getD i 0 ≠ 126 ∨ hdI (l.drop (i + 1)) = 48 ∨ hdI (l.drop (i + 1)) = 49) = true := by
          unfold ptOK at po
          rw [Bool.and_eq_true] at po
          exact po.1
        have po2 : hdI (l.drop (i + 1)) = 48 ∨ hdI (l.drop (i + 1)) = 49 := by
          have := of_decide_eq_true po'
          rcases this with z | z
          · exact absurd c1 z
          · exact z
        have hi2 : i + 1 < l.length := by
          by_cases q : i + 1 < l.length
          · exact q
          · rw [List.drop_eq_nil_of_le (by omega)] at po2
            rcases po2 with z | z <;> exact absurd z (by decide)
        have hh : hdI (l.drop (i + 1)) = l.getD (i + 1) 0 := by rw [drop_one hi2]; rfl
        have hie : i + 1 < e := by
          rcases hee with q | q
          · omega
          · by_cases z : i + 1 = e
            · rw [hh, z, q] at po2; omega
            · omega
        have e1 := rd_as (s9_at (d := d - 1) (i := (i : Int) + 1) g1.1 hv (by constructor <;> omega)) (show atD l ((i : Int) + 1) = l.getD (i + 1) 0 from atD_nat hi2)
        rw [drop_take_s hie he, c1, une_126]
        have nx : ∀ z : Int, 0 ≤ z ∧ z < 256 → Ev (fun n => gc (f_X9_add n (d - 1) 0 S [((s : Nat) : Int), z]) fun _ S_29 => gv ((i : Int) + 1 + 1) fun x31 => f_X7_wordTo n d 21 S_29 [((a : Nat) : Int), ((s : Nat) : Int), (e : Int), x31]) (fun _ S1 => SX s S0 (w ++ z :: une ((l.take e).drop (i + 1 + 1))) S1) := by
          intro z hz
          refine ev_gc (sx_add hs h (by omega) (by omega)) (fun _ S1 s1 => ?_)
          refine ev_gv ?_
          have k := ih (i + 1 + 1) S1 _ (by omega) (by omega) s1 (by simp; omega)
          simpa using k
        by_cases c2 : l.getD (i + 1) 0 = 48
        · rw [if_pos c2]
          have k := nx 126 (by decide)
          refine ev_up (fun n => e_X7_wordTo_21) ?_
          unfold b_X7_wordTo_21
          repeat' (first
            | with_reducible refine ev_gv ?_
            | with_reducible refine ev_gg ?_ ?_
            | with_reducible refine ev_ite (fun _ => ?_) (fun _ => ?_)
            | refine ev_gcr (e0) ?_
            | refine ev_gcr (e1) ?_
            | omega
            | assumption)
          all_goals exact k
        · rw [if_neg c2]
          have k := nx 47 (by decide)
          refine ev_up (fun n => e_X7_wordTo_21) ?_
          unfold b_X7_wordTo_21
          repeat' (first
            | with_reducible refine ev_gv ?_
            | with_reducible refine ev_gg ?_ ?_
            | with_reducible refine ev_ite (fun _ => ?_) (fun _ => ?_)
            | refine ev_gcr (e0) ?_
            | refine ev_gcr (e1) ?_
            | omega
            | assumption)
          all_goals exact k
      · rw [une_ne c1]
        refine ev_up (fun n => e_X7_wordTo_21) ?_
        unfold b_X7_wordTo_21
        repeat' (first
          | with_reducible refine ev_gv ?_
          | with_reducible refine ev_gg ?_ ?_
          | with_reducible refine ev_ite (fun _ => ?_) (fun _ => ?_)
          | refine ev_gcr (e0) ?_
          | omega
          | assumption)
        refine ev_gc (sx_add hs h (by omega) (by omega)) (fun _ S1 s1 => ?_)
        refine ev_gv ?_
        have k := ih (i + 1) S1 _ (by omega) (by omega) s1 (by simp; omega)
        simpa using k
    · rw [List.drop_eq_nil_of_le (by simp; omega)]
      refine ev_up (fun n => e_X7_wordTo_21) ?_
      unfold b_X7_wordTo_21
      repeat' (first
        | with_reducible refine ev_gv ?_
        | with_reducible refine ev_gg ?_ ?_
        | with_reducible refine ev_ite (fun _ => ?_) (fun _ => ?_)
        | omega
        | assumption)
      have e9 : w ++ une [] = w := List.append_nil w
      rw [e9]
      exact ev_ret h
theorem stA_end {k : Nat} : (stA l ((k : Int) + 1) - 1).toNat ≤ l.length ∧ ((stA l ((k : Int) + 1) - 1).toNat = l.length ∨ l.getD (stA l ((k : Int) + 1) - 1).toNat 0 = 47) := by
  have r := stA_r (l := l) ((k : Int) + 1)
  refine ⟨by omega, ?_⟩
  unfold stA
  split
  · rename_i c
    right
    have key : ∀ (A : List Int) (i : Nat), ∀ p ∈ slP A i, A.getD (p - i - 1) 0 = 47 := by
      intro A
      induction A with
      | nil => intro i p hp; cases hp
      | cons x A ih =>
        intro i p hp
        have rr := slP_r A (i + 1)
        unfold slP at hp
        have step : p ∈ slP A (i + 1) → (x :: A).getD (p - i - 1) 0 = 47 := by
          intro hp'
          have := rr p hp'
          have k := ih (i + 1) p hp'
          rw [show p - i - 1 = (p - (i + 1) - 1) + 1 by omega, List.getD_cons_succ]
          exact k
        split at hp
        · rename_i hx
          rcases List.mem_cons.mp hp with e | e
          · rw [e, show i + 1 - i - 1 = 0 by omega]
            exact hx
          · exact step e
        · exact step hp
    have := key l 0 _ (gDn_mem (l := slP l 0) (j := ((k : Int) + 1).toNat) (by omega))
    rw [show (((slP l 0).getD ((k : Int) + 1).toNat 0 : Int) - 1).toNat = (slP l 0).getD ((k : Int) + 1).toNat 0 - 0 - 1 by omega]
    exact this
  · left; omega
theorem ro_wordTo {s k : Nat} (ha : gRo a) (hs : gSh s) (hne : s ≠ rS a) (hrm : g_room (s + 1) = 400) (hd : 3 ≤ d) (h : RoS a l S) (hpt : ptOK l = true) (hk : k ≤ 1000) (hG : Good S) : Ev (fun n => f_X7_wordTo n d 0 S [((a : Nat) : Int), (k : Int), ((s : Nat) : Int)]) (fun _ S1 => SX s S (wdA l k) S1) := by
  have g1 := rS_g ha
  have g2 := rS_r ha
  have ll := ro_len h ha
  have r0 := stA_r (l := l) (k : Int)
  have r1 := stA_r (l := l) ((k : Int) + 1)
  have en := stA_end (l := l) (k := k)
  have rW2 := g1.2.2.2.2
  refine ev_up (fun n => e_X7_wordTo_0) ?_
  unfold b_X7_wordTo_0
  refine ev_gg (by omega) ?_
  refine ev_gg hs ?_
  refine ev_gc (sx_clear hs hG) (fun _ S1 s1 => ?_)
  have h1 : RoS a l S1 := ro_fr h s1.2.1 (by unfold shM; omega) (by unfold shM; omega) (by unfold shM; omega) (by unfold shM; omega)
  refine ev_gv ?_
  refine ev_gg ha ?_
  refine ev_gcr (ro_startOf (d := d - 1) (k := (k : Int) + 1) ha h1 (by omega) (by constructor <;> omega)) ?_
  refine ev_gv ?_
  refine ev_gcr (ro_startOf (d := d - 1) (k := (k : Int)) ha h1 (by omega) (by constructor <;> omega)) ?_
  have e1 : stA l ((k : Int) + 1) - 1 = (((stA l ((k : Int) + 1) - 1).toNat : Nat) : Int) := by omega
  have e2 : stA l (k : Int) = (((stA l (k : Int)).toNat : Nat) : Int) := by omega
  unfold wdA
  rw [e1, e2]
  simp only [Int.toNat_natCast]
  have kk := word_21 (d := d) (S0 := S1) ha hs hne hrm (by omega) h1 hpt en.1 en.2 _ (stA l (k : Int)).toNat S1 [] (Nat.lt_succ_self _) (by omega) (sx_rf s1.2.2 s1.1) (by simp; omega)
  refine ev_mono kk (fun _ S2 s2 => ?_)
  rw [List.nil_append] at s2
  exact sx_then s1 s2
theorem ro_textTo {s : Nat} (ha : gRo a) (hs : gSh s) (hne : s ≠ rS a) (hrm : 400 ≤ g_room (s + 1)) (hd : 2 ≤ d) (h : RoS a l S) (hG : Good S) : Ev (fun n => f_X7_textTo n d 0 S [((a : Nat) : Int), ((s : Nat) : Int)]) (fun _ S1 => SX s S l S1) := by
  have g1 := rS_g ha
  have g2 := rS_r ha
  have ll := ro_len h ha
  refine ev_up (fun n => e_X7_textTo_0) ?_
  unfold b_X7_textTo_0
  refine ev_gg (by omega) ?_
  refine ev_gg hs ?_
  refine ev_gc (sx_clear hs hG) (fun _ S1 s1 => ?_)
  have v1 := sv_sx hs g1.1 (Ne.symm hne) h.1 s1
  refine ev_gg ha ?_
  refine ev_gcr (s9_length g1.1 v1) ?_
  have ap := s9_addPart (d := d - 1) (c := s) (c2 := rS a) (i := 0) (t := l.length) hs g1.1 (Ne.symm hne) (by omega) (Nat.le_refl _) (by decide) v1 (sx_rf s1.2.2 s1.1) (by simp; omega)
  rw [List.take_length, List.drop_zero, List.nil_append] at ap
  refine ev_gc ap (fun _ S2 s2 => ?_)
  exact ev_ret (sx_then s1 s2)
theorem ro_textWithPlace {s : Nat} {p : Int} (ha : gRo a) (hs : gSh s) (hne : s ≠ rS a) (hrm : g_room (s + 1) = 400) (hd : 3 ≤ d) (h : RoS a l S) (hG : Good S) (hp : 0 ≤ p ∧ p < 1000) (hl : l.length ≤ 390) (hn : 1 ≤ nW l) : Ev (fun n => f_X7_textWithPlace n d 0 S [((a : Nat) : Int), p, ((s : Nat) : Int)]) (fun _ S1 => SX s S (l.take (stA l ((nW l : Int) - 1)).toNat ++ wnum p) S1) := by
  have g1 := rS_g ha
  have g2 := rS_r ha
  have sl := slP_len l 0
  have r0 := stA_r (l := l) ((nW l : Int) - 1)
  refine ev_up (fun n => e_X7_textWithPlace_0) ?_
  unfold b_X7_textWithPlace_0
  refine ev_gg (by omega) ?_
  refine ev_gg hs ?_
  refine ev_gc (sx_clear hs hG) (fun _ S1 s1 => ?_)
  have h1 : RoS a l S1 := ro_fr h s1.2.1 (by unfold shM; omega) (by unfold shM; omega) (by unfold shM; omega) (by unfold shM; omega)
  refine ev_gg ha ?_
  rw [h1.2.1]
  refine ev_gv ?_
  refine ev_gv ?_
  refine ev_gcr (ro_startOf (d := d - 1) (k := ((slP l 0).length : Int) - 1) ha h1 (by omega) (by constructor <;> omega)) ?_
  have e2 : stA l (((slP l 0).length : Int) - 1) = (((stA l ((nW l : Int) - 1)).toNat : Nat) : Int) := by
    show stA l ((nW l : Int) - 1) = _
    omega
  rw [e2]
  generalize hq : (stA l ((nW l : Int) - 1)).toNat = q at *
  have v1 := h1.1
  have ql : q ≤ l.length := by
    have e3 : stA l ((nW l : Int) - 1) = ((slP l 0).getD ((nW l : Int) - 1).toNat 0 : Int) := by
      unfold stA
      rw [if_pos (by unfold nW at hn ⊢; omega)]
    have := slP_r l 0 _ (gDn_mem (l := slP l 0) (j := ((nW l : Int) - 1).toNat) (by unfold nW at hn ⊢; omega))
    omega
  have ap := s9_addPart (d := d - 1) (c := s) (c2 := rS a) (i := 0) (t := q) hs g1.1 (Ne.symm hne) (by omega) ql (by decide) v1 (sx_rf s1.2.2 s1.1) (by rw [hrm]; simp; omega)
  rw [List.drop_zero] at ap
  rw [List.nil_append] at ap
  refine ev_gc ap (fun _ S2 s2 => ?_)
  refine ev_gc (s9_addNumber (d := d - 1) (x := p) hs (by omega) (sx_then s1 s2) (by omega) (by rw [hrm]; simp; omega)) (fun _ S3 s3 => ?_)
  exact ev_ret s3
theorem place_39 {s : Nat} {w : List Int} (hs : gSh s) (hd : 1 ≤ d) (hv : SV S s w) (hw : ∀ x ∈ w, x < 256) : ∀ (m i : Nat) (p : Int), w.length - i < m → i ≤ w.length → 0 ≤ p → p < 10 ^ (3 - (w.length - i)) → w.length - i ≤ 3 → Rd (fun n => f_X7_placeIn n d 39 S [((s : Nat) : Int), p, (i : Int)]) (dgF (w.drop i) p) S := by
  have ll := sv_le hv
  intro m
  induction m with
  | zero => intros; omega
  | succ m ih =>
    intro i p h1 h2 hp0 hp h3
    have p3 : p < 1000 := by
      have : ∀ k, k ≤ 3 → (10 : Int) ^ k ≤ 1000 := by
        intro k hk
        rcases (show k = 0 ∨ k = 1 ∨ k = 2 ∨ k = 3 by omega) with rfl | rfl | rfl | rfl <;> decide
      have := this (3 - (w.length - i)) (by omega)
      omega
    by_cases hi : i < w.length
    · have r := sv_at hv hi
      have e0 := rd_as (s9_at (d := d - 1) (i := (i : Int)) hs hv (by constructor <;> omega)) (atD_nat hi)
      rw [drop_one hi]
      unfold dgF
      by_cases c : fgC (w.getD i 0)
      · rw [if_pos c]
        have k := ih (i + 1) (p * 10 + w.getD i 0 - 48) (by omega) (by omega) (by omega) (by
          have e : 3 - (w.length - (i + 1)) = (3 - (w.length - i)) + 1 := by omega
          rw [e, Int.pow_succ]
          omega) (by omega)
        refine ev_up (fun n => e_X7_placeIn_39) ?_
        unfold b_X7_placeIn_39
        repeat' (first
          | with_reducible refine ev_gv ?_
          | with_reducible refine ev_gg ?_ ?_
          | with_reducible refine ev_ite (fun _ => ?_) (fun _ => ?_)
          | refine ev_gcr (s9_length hs hv) ?_
          | refine ev_gcr (e0) ?_
          | omega
          | assumption)
        all_goals exact k
      · rw [if_neg c]
        refine ev_up (fun n => e_X7_placeIn_39) ?_
        unfold b_X7_placeIn_39
        repeat' (first
          | with_reducible refine ev_gv ?_
          | with_reducible refine ev_gg ?_ ?_
          | with_reducible refine ev_ite (fun _ => ?_) (fun _ => ?_)
          | refine ev_gcr (s9_length hs hv) ?_
          | refine ev_gcr (e0) ?_
          | omega
          | assumption)
        all_goals exact ev_ret ⟨rfl, rfl⟩
    · rw [List.drop_eq_nil_of_le (by omega)]
      refine ev_up (fun n => e_X7_placeIn_39) ?_
      unfold b_X7_placeIn_39
      repeat' (first
        | with_reducible refine ev_gv ?_
        | with_reducible refine ev_gg ?_ ?_
        | with_reducible refine ev_ite (fun _ => ?_) (fun _ => ?_)
        | refine ev_gcr (s9_length hs hv) ?_
        | omega
        | assumption)
      exact ev_ret ⟨rfl, rfl⟩
theorem x7_placeIn {s f : Nat} {w : List Int} (hs : gSh s) (hd : 2 ≤ d) (hv : SV S s w) (hw : ∀ x ∈ w, x < 256) (hf : f ≤ 1) : Rd (fun n => f_X7_placeIn n d 0 S [((s : Nat) : Int), (f : Int)]) (plN (w.drop f)) S := by
  have ll := sv_le hv
  have el : (w.drop f).length = w.length - f := by simp
  have e0 : Rd (fun n => f_X9_at n (d - 1) 0 S [((s : Nat) : Int), (f : Int)]) (hdI (w.drop f)) S := rd_as (s9_at (d := d - 1) (i := (f : Int)) hs hv (by constructor <;> omega)) atD_drop
  have rb : -1 ≤ hdI (w.drop f) ∧ hdI (w.drop f) < 65536 := by
    rw [← atD_drop]
    exact sv_wb hv
  unfold plN
  rw [el]
  by_cases c1 : w.length - f < 1 ∨ 3 < w.length - f
  · rw [if_pos (by omega)]
    refine ev_up (fun n => e_X7_placeIn_0) ?_
    unfold b_X7_placeIn_0
    repeat' (first
      | with_reducible refine ev_gv ?_
      | with_reducible refine ev_gg ?_ ?_
      | with_reducible refine ev_ite (fun _ => ?_) (fun _ => ?_)
      | refine ev_gcr (s9_length hs hv) ?_
      | omega
      | assumption)
    all_goals exact ev_ret ⟨rfl, rfl⟩
  · have k := place_39 (d := d) hs (by omega) hv hw _ f 0 (Nat.lt_succ_self _) (by omega) (Int.le_refl _) (by
      rcases (show w.length - f = 1 ∨ w.length - f = 2 ∨ w.length - f = 3 by omega) with e | e | e <;> rw [e] <;> decide) (by omega)
    by_cases c2 : 1 < w.length - f ∧ hdI (w.drop f) = 48
    · rw [if_pos (Or.inr (Or.inr c2))]
      refine ev_up (fun n => e_X7_placeIn_0) ?_
      unfold b_X7_placeIn_0
      repeat' (first
        | with_reducible refine ev_gv ?_
        | with_reducible refine ev_gg ?_ ?_
        | with_reducible refine ev_ite (fun _ => ?_) (fun _ => ?_)
        | refine ev_gcr (s9_length hs hv) ?_
        | refine ev_gcr (e0) ?_
        | omega
        | assumption)
      all_goals exact ev_ret ⟨rfl, rfl⟩
    · rw [if_neg (by omega)]
      refine ev_up (fun n => e_X7_placeIn_0) ?_
      unfold b_X7_placeIn_0
      repeat' (first
        | with_reducible refine ev_gv ?_
        | with_reducible refine ev_gg ?_ ?_
        | with_reducible refine ev_ite (fun _ => ?_) (fun _ => ?_)
        | refine ev_gcr (s9_length hs hv) ?_
        | refine ev_gcr (e0) ?_
        | omega
        | assumption)
      all_goals exact k
theorem ldF_no {V : List ND} : ∀ f i, ldF l V f i (-1) = -1
  | 0, _ => rfl
  | f + 1, i => by
    show (if (-1 : Int) = -1 then _ else _) = _
    rw [if_pos rfl]
theorem leads_5 {c : Nat} {V : List ND} {u : Int} (ha : gRo a) (hc : gT c) (hd : 6 ≤ d) (hw : WF V) (h0 : RoS a l S0) (hv0 : TV S0 c V) (hpt : ptOK l = true) (hl : ∀ x ∈ l, x < 256) (hu : -10 ≤ u ∧ u ≤ 1000) : ∀ (f i : Nat) (n : Int) (S : GS), (f : Int) = max 0 (min u (nW l) - i) → i ≤ 1000 → nOK V n → RoS a l S → TV S c V → Fr (shM (rW a)) S0 S → Good S → Ev (fun m => f_X7_leadsTo m d 5 S [((a : Nat) : Int), ((c : Nat) : Int), u, n, (i : Int)]) (fun x S1 => x = ldF l V f i n ∧ Fr (shM (rW a)) S0 S1 ∧ Good S1) := by
  have g1 := rS_g ha
  have g2 := rS_r ha
  have hz := pz_l (nr_pzl hv0.2.2.2)
  have lV := tv_l hv0
  have sl := slP_len l 0
  have ll := ro_len h0 ha
  have nw : nW l = (slP l 0).length := rfl
  intro f
  induction f with
  | zero =>
    intro i n S hf hi hn h hv m hG
    have e3 := h.2.1
    refine ev_up (fun n => e_X7_leadsTo_5) ?_
    unfold b_X7_leadsTo_5
    repeat' (first
      | with_reducible refine ev_gv ?_
      | with_reducible refine ev_gg ?_ ?_
      | with_reducible refine ev_ite (fun _ => ?_) (fun _ => ?_)
      | omega
      | assumption)
    all_goals exact ev_ret ⟨rfl, m, hG⟩
  | succ f ih =>
    intro i n S hf hi hn h hv m hG
    have e3 := h.2.1
    have hin : inr n := by rcases hn with z | z <;> constructor <;> omega
    by_cases c1 : n = -1
    · subst c1
      rw [ldF_no]
      refine ev_up (fun n => e_X7_leadsTo_5) ?_
      unfold b_X7_leadsTo_5
      repeat' (first
        | with_reducible refine ev_gv ?_
        | with_reducible refine ev_gg ?_ ?_
        | with_reducible refine ev_ite (fun _ => ?_) (fun _ => ?_)
        | omega
        | assumption)
      exact ev_ret ⟨rfl, m, hG⟩
    · have es : ldF l V (f + 1) i n = ldF l V f (i + 1) (stpT V n (wdA l i)) := if_neg c1
      rw [es]
      have wt := ro_wordTo (d := d - 1) (s := rW a) (k := i) ha g1.2.1 (Ne.symm g1.2.2.1) g1.2.2.2.2 (by omega) h hpt hi hG
      have hn' : 0 ≤ n ∧ n < (V.length : Int) := by rcases hn with z | z <;> omega
      obtain ⟨g, rfl⟩ : ∃ g : Nat, n = (g : Int) := ⟨n.toNat, by omega⟩
      refine ev_up (fun n => e_X7_leadsTo_5) ?_
      unfold b_X7_leadsTo_5
      repeat' (first
        | with_reducible refine ev_gv ?_
        | with_reducible refine ev_gg ?_ ?_
        | with_reducible refine ev_ite (fun _ => ?_) (fun _ => ?_)
        | omega
        | assumption)
      refine ev_gc wt (fun _ S1 s1 => ?_)
      have h1 : RoS a l S1 := ro_fr h s1.2.1 (by unfold shM; omega) (by unfold shM; omega) (by unfold shM; omega) (by unfold shM; omega)
      have v1 : TV S1 c V := tv_fr hv s1.2.1 (fun k z1 z2 => by unfold shM; omega)
      have m1 := fr_tr m s1.2.1
      have wl : ∀ x ∈ wdA l i, x < 256 := fun x hx => by
        have hv1 := h1.1
        have := une_r (b := 256) (by decide) (l := (l.take (stA l ((i : Int) + 1) - 1).toNat).drop (stA l (i : Int)).toNat) (fun y hy => by
          have my := List.mem_of_mem_take (List.mem_of_mem_drop hy)
          exact ⟨(hv1.2.2.2 y my).1, hl y my⟩) x hx
        exact this.2
      refine ev_gg hc ?_
      have ek : kdI V (g : Int) = nk V g := kd_nat (by omega)
      have ei : isI V (g : Int) 4 = if nk V g = 4 then 1 else 0 := by
        unfold isI
        by_cases q : nk V g = 4
        · rw [if_pos q, if_pos ⟨by omega, by rw [Int.toNat_natCast]; exact q⟩]
        · rw [if_neg q, if_neg (fun z => q (by have := z.2; rwa [Int.toNat_natCast] at this))]
      by_cases c4 : nk V g = 4
      · rw [if_pos c4] at ei
        have e5 : stpT V (g : Int) (wdA l i) = atK (kids V g) (plN (wdA l i)) := by
          unfold stpT
          rw [ek, if_pos c4, Int.toNat_natCast]
        have pr := plN_r (wdA l i)
        have pi := x7_placeIn (d := d - 1) (f := 0) g1.2.1 (by omega) s1.1 wl (by decide)
        rw [List.drop_zero] at pi
        have nx := stpT_r hw hz (n := (g : Int)) (Or.inr (by omega)) (wdA l i)
        rw [e5] at nx ⊢
        refine ev_gcr (rd_as (t_is (d := d - 1) hc v1 hin (by decide)) ei) ?_
        refine ev_gg (by decide) ?_
        refine ev_ite (fun z => absurd z (by decide)) (fun _ => ?_)
        refine ev_gcr pi ?_
        refine ev_gcr (t_valueAt (d := d - 1) (p := plN (wdA l i)) hc v1 hw (by omega) (by omega) (by constructor <;> omega)) ?_
        refine ev_gv ?_
        exact ih (i + 1) _ S1 (by omega) (by omega) nx h1 v1 m1 s1.2.2
      · rw [if_neg c4] at ei
        have e5 : stpT V (g : Int) (wdA l i) = vLk V (g : Int) (wdA l i) := by
          unfold stpT
          rw [ek, if_neg c4]
        have nx := stpT_r hw hz (n := (g : Int)) (Or.inr (by omega)) (wdA l i)
        rw [e5] at nx ⊢
        refine ev_gcr (rd_as (t_is (d := d - 1) hc v1 hin (by decide)) ei) ?_
        refine ev_gg (by decide) ?_
        refine ev_ite (fun _ => ?_) (fun z => absurd rfl z)
        refine ev_gcr (t_valueOf (d := d - 1) (g := (g : Int)) hc v1 hw hin (by omega) g1.2.1 s1.1) ?_
        refine ev_gv ?_
        exact ih (i + 1) _ S1 (by omega) (by omega) nx h1 v1 m1 s1.2.2
/-- where a PLAIN PATH leads by its first steps -/
def ldT (l : List Int) (V : List ND) (u : Nat) : Int := ldF l V (min u (nW l)) 0 0
theorem ldF_r {V : List ND} (hw : WF V) (hz : PZ V) : ∀ f i n, nOK V n → nOK V (ldF l V f i n)
  | 0, _, n, h => h
  | f + 1, i, n, h => by
    unfold ldF
    split
    · exact Or.inl rfl
    · exact ldF_r hw hz f (i + 1) _ (stpT_r hw hz h _)
theorem ro_leadsTo {c : Nat} {V : List ND} {u : Int} (ha : gRo a) (hc : gT c) (hd : 6 ≤ d) (hw : WF V) (h : RoS a l S) (hv : TV S c V) (hpt : ptOK l = true) (hl : ∀ x ∈ l, x < 256) (hu : -10 ≤ u ∧ u ≤ 1000) (hV : 1 ≤ V.length) (hG : Good S) : Ev (fun m => f_X7_leadsTo m d 0 S [((a : Nat) : Int), ((c : Nat) : Int), u]) (fun x S1 => x = ldT l V u.toNat ∧ Fr (shM (rW a)) S S1 ∧ Good S1) := by
  refine ev_up (fun n => e_X7_leadsTo_0) ?_
  unfold b_X7_leadsTo_0
  have k := leads_5 (d := d) (u := u) ha hc hd hw h hv hpt hl hu (min u.toNat (nW l)) 0 0 S (by omega) (by decide) (Or.inr (by omega)) h hv fr_rf hG
  exact k
end RT
