/-! GROWING: the class, whole -/
theorem grL_t {g : Int → List ND × Int} {n : Nat} {st : Int} : grL g true (n + 1) st = (kyT (g (dr st)).1 [97 + dv st 5] :: (grL g true n (g (dr st)).2).1, (grL g true n (g (dr st)).2).2) := rfl
theorem grL_f {g : Int → List ND × Int} {n : Nat} {st : Int} : grL g false (n + 1) st = ((g st).1 :: (grL g false n (g st).2).1, (grL g false n (g st).2).2) := rfl
theorem nr3_s {f : Nat} {T : List ND} : nr3 (f + 1) T = if rk T = 5 then gpN (T.getD 0 nd0) ((kd T).foldl (fun E t => insK (nr3 f t) (rq t) E) []) ((kd T).foldl (fun E t => insK (nr3 f t) (rq t) E) []).length else if rk T = 4 then gpN (T.getD 0 nd0) ((kd T).map (nr3 f)) ((kd T).map (nr3 f)).length else T := rfl
section GR4
variable {S S0 : GS} {P : List ND}
theorem gr_mapL {f n : Nat} {lv sz : Int} {d : Nat} (ih : ∀ (P : List ND) (S : GS) (st : Int), P.length + bz f ≤ 100 → WF P → 0 ≤ st ∧ st < 65536 → GrS S0 P st S → Ev (fun n => f_X3_entry n (d - 1 - 1) 20000 S [lv + 1, sz]) (GrQ S0 f P (grF f (lv + 1) sz st).1 (grF f (lv + 1) sz st).2)) (hd : 14 ≤ d) (hlv : 0 ≤ lv ∧ lv ≤ 2) (hP : WF P) (hn : n ≤ 3) : ∀ (k i m : Nat) (S : GS) (st : Int) (E : List (List ND)), i + k = n → 0 ≤ st ∧ st < 65536 → (∀ T ∈ E, TR T ∧ PZL T) → P.length + 1 + E.flatten.length + k * bz f ≤ 100 → GrS S0 (P ++ gpN (ndK 5) E m) st S → Ev (fun q => f_X3_entry q d 10022 S [5, lv, sz, (P.length : Int), (n : Int), (i : Int)]) (fun x S1 => x = (P.length : Int) ∧ GrS S0 (P ++ gpN (ndK 5) ((grL (grF f (lv + 1) sz) true k st).1.foldl (fun E t => insK (nr3 f t) (rq t) E) E) ((grL (grF f (lv + 1) sz) true k st).1.foldl (fun E t => insK (nr3 f t) (rq t) E) E).length) (grL (grF f (lv + 1) sz) true k st).2 S1 ∧ (0 ≤ (grL (grF f (lv + 1) sz) true k st).2 ∧ (grL (grF f (lv + 1) sz) true k st).2 < 65536) ∧ ((grL (grF f (lv + 1) sz) true k st).1.foldl (fun E t => insK (nr3 f t) (rq t) E) E).flatten.length ≤ E.flatten.length + k * bz f) := by
  intro k
  induction k with
  | zero =>
    intro i m S st E hi hst hE hroom h
    refine ev_up (fun n => e_X3_group_22) ?_
    unfold b_X3_group_22
    refine ev_gg (by constructor <;> omega) ?_
    refine ev_gg (by constructor <;> omega) ?_
    refine ev_ite (fun _ => ?_) (fun z => by omega)
    refine ev_gg (by omega) ?_
    refine ev_gc (ty_close (i := (P.length : Int)) gT408 (by omega) (gr_ty h) (by constructor <;> omega)) (fun _ S1 q1 => ?_)
    rw [clo_gp] at q1
    exact ev_ret ⟨rfl, gr_tree h q1, hst, by show E.flatten.length ≤ _; omega⟩
  | succ k ihk =>
    intro i m S st E hi hst hE hroom h
    have hmul : (k + 1) * bz f = k * bz f + bz f := Nat.succ_mul _ _
    have en := gr_entry (d := d - 1) ih (by omega) (by omega) hst hP hE (by omega) h
    rw [grL_t]
    have e1 : nr3 f (kyT (grF f (lv + 1) sz (dr st)).1 [97 + dv st 5]) = kyT (nr3 f (grF f (lv + 1) sz (dr st)).1) [97 + dv st 5] := nr3_ky f _ _
    simp only [List.foldl_cons, e1, rq_ky, insK_ky]
    have ht := (nr3_tr f _ (grF_tr f (lv + 1) sz (dr st))).1
    refine ev_up (fun n => e_X3_group_22) ?_
    unfold b_X3_group_22
    refine ev_gg (by constructor <;> omega) ?_
    refine ev_gg (by constructor <;> omega) ?_
    refine ev_ite (fun z => by omega) (fun _ => ?_)
    refine ev_gg (by constructor <;> omega) ?_
    refine ev_ite (fun z => by omega) (fun _ => ?_)
    refine ev_gg (by decide) ?_
    refine ev_ite (fun _ => ?_) (fun z => absurd (by decide) z)
    refine ev_gg (by omega) ?_
    refine ev_gc en (fun _ S1 q1 => ?_)
    obtain ⟨m', g1, r1, l1⟩ := q1
    refine ev_gv ?_
    have il := insK_len (t := nr3 f (grF f (lv + 1) sz (dr st)).1) (key := [97 + dv st 5]) ht.1.2.1 E
    have hE' : ∀ T ∈ insK (nr3 f (grF f (lv + 1) sz (dr st)).1) [97 + dv st 5] E, TR T ∧ PZL T := by
      intro T hT
      rcases insK_mem hT with q | q
      · rw [q]; exact ⟨tr_ky ht.1, pzl_ky ht.1.2.1 ht.2⟩
      · exact hE T q
    have kk := ihk (i + 1) m' S1 _ _ (by omega) r1 hE' (by omega) g1
    refine ev_mono kk (fun x S2 q => ⟨q.1, q.2.1, q.2.2.1, ?_⟩)
    have := q.2.2.2
    omega
theorem gr_rowL {f n : Nat} {lv sz : Int} {d : Nat} (ih : ∀ (P : List ND) (S : GS) (st : Int), P.length + bz f ≤ 100 → WF P → 0 ≤ st ∧ st < 65536 → GrS S0 P st S → Ev (fun n => f_X3_entry n (d - 1) 20000 S [lv + 1, sz]) (GrQ S0 f P (grF f (lv + 1) sz st).1 (grF f (lv + 1) sz st).2)) (hd : 14 ≤ d) (hlv : 0 ≤ lv ∧ lv ≤ 2) (hP : WF P) (hn : n ≤ 3) : ∀ (k i : Nat) (S : GS) (st : Int) (E : List (List ND)), i + k = n → 0 ≤ st ∧ st < 65536 → (∀ T ∈ E, TR T ∧ PZL T) → P.length + 1 + E.flatten.length + k * bz f ≤ 100 → GrS S0 (P ++ gpN (ndK 4) E 0) st S → Ev (fun q => f_X3_entry q d 10022 S [4, lv, sz, (P.length : Int), (n : Int), (i : Int)]) (fun x S1 => x = (P.length : Int) ∧ GrS S0 (P ++ gpN (ndK 4) (E ++ (grL (grF f (lv + 1) sz) false k st).1.map (nr3 f)) (E ++ (grL (grF f (lv + 1) sz) false k st).1.map (nr3 f)).length) (grL (grF f (lv + 1) sz) false k st).2 S1 ∧ (0 ≤ (grL (grF f (lv + 1) sz) false k st).2 ∧ (grL (grF f (lv + 1) sz) false k st).2 < 65536) ∧ (E ++ (grL (grF f (lv + 1) sz) false k st).1.map (nr3 f)).flatten.length ≤ E.flatten.length + k * bz f) := by
  intro k
  induction k with
  | zero =>
    intro i S st E hi hst hE hroom h
    have e : E ++ (grL (grF f (lv + 1) sz) false 0 st).1.map (nr3 f) = E := List.append_nil _
    rw [e]
    refine ev_up (fun n => e_X3_group_22) ?_
    unfold b_X3_group_22
    refine ev_gg (by constructor <;> omega) ?_
    refine ev_gg (by constructor <;> omega) ?_
    refine ev_ite (fun _ => ?_) (fun z => by omega)
    refine ev_gg (by omega) ?_
    refine ev_gc (ty_close (i := (P.length : Int)) gT408 (by omega) (gr_ty h) (by constructor <;> omega)) (fun _ S1 q1 => ?_)
    rw [clo_gp] at q1
    exact ev_ret ⟨rfl, gr_tree h q1, hst, by omega⟩
  | succ k ihk =>
    intro i S st E hi hst hE hroom h
    have hmul : (k + 1) * bz f = k * bz f + bz f := Nat.succ_mul _ _
    have hwf : WF (P ++ gpN (ndK 4) E 0) := wf_app hP (wf_gp (by decide) (fun T hT => (hE T hT).1))
    have hVl : (P ++ gpN (ndK 4) E 0).length = P.length + 1 + E.flatten.length := by rw [List.length_append, gp_len]; omega
    have en := ih (P ++ gpN (ndK 4) E 0) S st (by omega) hwf hst h
    have ht := (nr3_tr f _ (grF_tr f (lv + 1) sz st)).1
    rw [grL_f]
    refine ev_up (fun n => e_X3_group_22) ?_
    unfold b_X3_group_22
    refine ev_gg (by constructor <;> omega) ?_
    refine ev_gg (by constructor <;> omega) ?_
    refine ev_ite (fun z => by omega) (fun _ => ?_)
    refine ev_gg (by constructor <;> omega) ?_
    refine ev_ite (fun z => by omega) (fun _ => ?_)
    refine ev_gg (by decide) ?_
    refine ev_ite (fun z => absurd rfl z) (fun _ => ?_)
    refine ev_gv ?_
    refine ev_gg (by omega) ?_
    refine ev_gc en (fun x S1 q1 => ?_)
    obtain ⟨rfl, g1, r1, l1⟩ := q1
    refine ev_gv ?_
    have eg : P ++ gpN (ndK 4) E 0 ++ nr3 f (grF f (lv + 1) sz st).1 = P ++ gpN (ndK 4) (E ++ [nr3 f (grF f (lv + 1) sz st).1]) 0 := by
      unfold gpN
      simp
    rw [eg] at g1
    have hfl : (E ++ [nr3 f (grF f (lv + 1) sz st).1]).flatten.length = E.flatten.length + (nr3 f (grF f (lv + 1) sz st).1).length := by simp
    have kk := ihk (i + 1) S1 _ (E ++ [nr3 f (grF f (lv + 1) sz st).1]) (by omega) r1 (fun T hT => by
      rcases List.mem_append.mp hT with q | q
      · exact hE T q
      · simp only [List.mem_cons, List.not_mem_nil, or_false] at q
        rw [q]; exact ht) (by omega) g1
    have e2 : E ++ ((grF f (lv + 1) sz st).1 :: (grL (grF f (lv + 1) sz) false k (grF f (lv + 1) sz st).2).1).map (nr3 f) = E ++ [nr3 f (grF f (lv + 1) sz st).1] ++ ((grL (grF f (lv + 1) sz) false k (grF f (lv + 1) sz st).2).1).map (nr3 f) := by simp
    simp only [e2]
    refine ev_mono kk (fun x S2 q => ⟨q.1, q.2.1, q.2.2.1, ?_⟩)
    have := q.2.2.2
    omega
theorem bz_s {f : Nat} (h1 : 1 ≤ f) (h3 : f ≤ 3) : 1 + 3 * bz f ≤ bz (f + 1) := by
  rcases (show f = 1 ∨ f = 2 ∨ f = 3 by omega) with rfl | rfl | rfl <;> decide
theorem bz_1 (f : Nat) : 1 ≤ bz f := by
  unfold bz
  split <;> decide
theorem gr_sprout {sz : Int} (hsz : 1 ≤ sz ∧ sz ≤ 3) : ∀ (f lv d : Nat) (P : List ND) (S : GS) (st : Int), lv + f = 4 → 1 ≤ f → 14 * f + 14 ≤ d → P.length + bz f ≤ 100 → WF P → 0 ≤ st ∧ st < 65536 → GrS S0 P st S → Ev (fun n => f_X3_entry n d 20000 S [(lv : Int), sz]) (GrQ S0 f P (grF f (lv : Int) sz st).1 (grF f (lv : Int) sz st).2) := by
  intro f
  induction f with
  | zero => intros; omega
  | succ f ih =>
    intro lv d P S st hlv hf hd hroom hP hst h
    have b1 := bz_1 (f + 1)
    have hl : P.length < 100 := by omega
    have hgk : 0 ≤ grK lv st ∧ grK lv st < 8 ∧ (3 ≤ lv → grK lv st < 4) := by
      unfold grK
      have r4 := dv_r (st := st) (n := 4) (by decide)
      have r8 := dv_r (st := st) (n := 8) (by decide)
      by_cases q : (lv : Int) = 0 ∨ 3 ≤ (lv : Int)
      · rw [if_pos q]
        split <;> omega
      · rw [if_neg q, if_neg (by omega)]
        omega
    have k28 : ∀ (S : GS) (s0 x : Int), x + s0 = grK lv st → GrS S0 P (dr st) S → Ev (fun n => f_X3_entry n d 20028 S [(lv : Int), sz, s0, x]) (GrQ S0 (f + 1) P (grF (f + 1) (lv : Int) sz st).1 (grF (f + 1) (lv : Int) sz st).2) := by
      intro S s0 x hx h
      have leaf : ∀ y : ND, y.1 < 4 → nr3 (f + 1) [y] = [y] := by
        intro y hy
        have e : rk [y] = y.1 := rfl
        unfold nr3
        rw [e, if_neg (by omega), if_neg (by omega)]
      unfold GrQ grF
      generalize hg : grK lv st = g at *
      refine ev_up (fun n => e_X3_sprout_28) ?_
      unfold b_X3_sprout_28
      refine ev_gv ?_
      rw [hx]
      refine ev_gg (by constructor <;> omega) ?_
      refine ev_ite (fun h0 => ?_) (fun h0 => ?_)
      · simp only [if_pos h0, leaf (ndK 0) (by decide)]
        refine ev_gg (by omega) ?_
        refine ev_gc (grw_add h hl (by decide)) (fun x S1 q => ?_)
        exact ev_ret ⟨q.1, q.2, dr_r, b1⟩
      simp only [if_neg h0]
      refine ev_ite (fun h1 => ?_) (fun h1 => ?_)
      · simp only [if_pos h1]
        rw [leaf _ (by show (1 : Int) < 4; decide)]
        have r2 := dv_r (st := dr st) (n := 2) (by decide)
        refine ev_gg (by omega) ?_
        refine ev_gc (gr_draw h dr_r (by decide)) (fun x S1 q => ?_)
        obtain ⟨rfl, g1⟩ := q
        have fin : ∀ b : Int, (b = 0 ∨ b = 1) → Ev (fun n => gc (f_X10_addTruth n (d - 1) 0 S1 [((408 : Nat) : Int), b]) fun x16 S_17 => some (x16, S_17)) (fun x S1 => x = (P.length : Int) ∧ GrS S0 (P ++ [(1, 1, b, [], [])]) (dr (dr st)) S1 ∧ (0 ≤ dr (dr st) ∧ dr (dr st) < 65536) ∧ [((1, 1, b, [], []) : ND)].length ≤ bz (f + 1)) := by
          intro b hb
          refine ev_gc (ty_addTruth (b := b) gT408 (by omega) (gr_ty g1) (by rcases hb with rfl | rfl <;> decide)) (fun x S2 q => ?_)
          obtain ⟨q1, q2⟩ := q
          refine ev_ret ⟨by rw [q1]; exact addA_ok hl, gr_tree g1 ?_, dr_r, b1⟩
          unfold aTr at q2
          rw [if_pos hl] at q2
          rcases hb with rfl | rfl
          · exact q2
          · exact q2
        refine ev_gg (by constructor <;> omega) ?_
        refine ev_ite (fun z => ?_) (fun z => ?_)
        · rw [if_neg z]
          exact fin 0 (Or.inl rfl)
        · rw [if_pos (by omega)]
          exact fin 1 (Or.inr rfl)
      simp only [if_neg h1]
      refine ev_ite (fun h2 => ?_) (fun h2 => ?_)
      · simp only [if_pos h2]
        rw [leaf _ (by show (2 : Int) < 4; decide)]
        refine ev_gg (by omega) ?_
        refine ev_gc (gr_number (d := d - 1) h dr_r hl (by omega)) (fun x S1 q => ?_)
        exact ev_ret ⟨q.1, q.2, dr_r, b1⟩
      simp only [if_neg h2]
      refine ev_ite (fun h3 => ?_) (fun h3 => ?_)
      · simp only [if_pos h3]
        rw [leaf _ (by show (3 : Int) < 4; decide)]
        have rT : ∀ n s, 0 ≤ s ∧ s < 65536 → 0 ≤ (grT n s).2 ∧ (grT n s).2 < 65536 := by
          intro n
          induction n with
          | zero => intro s hs; exact hs
          | succ n ihn => intro s hs; exact ihn _ dr_r
        refine ev_gg (by omega) ?_
        refine ev_gc (gr_text (d := d - 1) h dr_r hl (by omega)) (fun x S1 q => ?_)
        exact ev_ret ⟨q.1, q.2, rT _ _ dr_r, b1⟩
      simp only [if_neg h3]
      have hlv2 : lv ≤ 2 := by omega
      have hf1 : 1 ≤ f := by omega
      have bs := bz_s hf1 (by omega)
      have rn := dv_r (st := dr st) (n := sz + 1) (by omega)
      have ihc : ∀ d', 14 * f + 14 ≤ d' → ∀ (P : List ND) (S : GS) (st : Int), P.length + bz f ≤ 100 → WF P → 0 ≤ st ∧ st < 65536 → GrS S0 P st S → Ev (fun n => f_X3_entry n d' 20000 S [(lv : Int) + 1, sz]) (GrQ S0 f P (grF f ((lv : Int) + 1) sz st).1 (grF f ((lv : Int) + 1) sz st).2) := by
        intro d' hd' P S st a1 a2 a3 a4
        exact ih (lv + 1) d' P S st (by omega) hf1 hd' a1 a2 a3 a4
      generalize hn : (dv (dr st) (sz + 1)).toNat = n at *
      have en : dv (dr st) (sz + 1) = (n : Int) := by omega
      have hn3 : n ≤ 3 := by omega
      have hnm : n * bz f ≤ 3 * bz f := Nat.mul_le_mul_right _ hn3
      have hall := fun mp => grL_all (g := grF f ((lv : Int) + 1) sz) (mp := mp) (p := fun T => TR T ∧ PZL T) (fun st => grF_tr f _ _ st) (fun T q h => ⟨tr_ky h.1, pzl_ky h.1.2.1 h.2⟩) n (dr (dr st))
      refine ev_ite (fun h6 => ?_) (fun h6 => ?_)
      · simp only [decide_eq_true h6, if_neg (show ¬ g < 6 by omega)]
        have loop := fun S1 g1 => gr_mapL (n := n) (d := d - 1) (ihc (d - 1 - 1 - 1) (by omega)) (by omega) (by omega) hP hn3 n 0 0 S1 (dr (dr st)) [] (by omega) dr_r (fun T hT => by cases hT) (by simp; omega) g1
        have enr : nr3 (f + 1) (gpN (ndK 5) (grL (grF f ((lv : Int) + 1) sz) true n (dr (dr st))).1 n) = gpN (ndK 5) ((grL (grF f ((lv : Int) + 1) sz) true n (dr (dr st))).1.foldl (fun E t => insK (nr3 f t) (rq t) E) []) ((grL (grF f ((lv : Int) + 1) sz) true n (dr (dr st))).1.foldl (fun E t => insK (nr3 f t) (rq t) E) []).length := by
          have e1 : rk (gpN (ndK 5) (grL (grF f ((lv : Int) + 1) sz) true n (dr (dr st))).1 n) = 5 := rfl
          have e2 := kd_gp (x := ndK 5) (m := n) (hall true)
          rw [nr3_s, e1, if_pos rfl, e2]
          rfl
        rw [enr]
        refine ev_gg (by omega) ?_
        have grp : Ev (fun q => f_X3_entry q (d - 1) 10000 S [5, (lv : Int), sz]) (fun x S1 => x = (P.length : Int) ∧ GrS S0 (P ++ gpN (ndK 5) ((grL (grF f ((lv : Int) + 1) sz) true n (dr (dr st))).1.foldl (fun E t => insK (nr3 f t) (rq t) E) []) ((grL (grF f ((lv : Int) + 1) sz) true n (dr (dr st))).1.foldl (fun E t => insK (nr3 f t) (rq t) E) []).length) (grL (grF f ((lv : Int) + 1) sz) true n (dr (dr st))).2 S1 ∧ (0 ≤ (grL (grF f ((lv : Int) + 1) sz) true n (dr (dr st))).2 ∧ (grL (grF f ((lv : Int) + 1) sz) true n (dr (dr st))).2 < 65536) ∧ ((grL (grF f ((lv : Int) + 1) sz) true n (dr (dr st))).1.foldl (fun E t => insK (nr3 f t) (rq t) E) []).flatten.length ≤ 0 + n * bz f) := by
          refine ev_up (fun n => e_X3_group_0) ?_
          unfold b_X3_group_0
          refine ev_gg (by omega) ?_
          refine ev_gc (grw_add h hl (by decide)) (fun x S1 q1 => ?_)
          obtain ⟨rfl, g1⟩ := q1
          refine ev_gv ?_
          refine ev_gc (gr_draw g1 dr_r (by omega)) (fun x S2 q2 => ?_)
          obtain ⟨rfl, g2⟩ := q2
          rw [en]
          exact loop S2 g2
        refine ev_gc grp (fun x S1 q => ?_)
        obtain ⟨q1, q2, q3, q4⟩ := q
        refine ev_ret ⟨q1, q2, q3, ?_⟩
        rw [gp_len]
        omega
      · simp only [decide_eq_false h6, if_pos (show g < 6 by omega)]
        have loop := fun S1 g1 => gr_rowL (n := n) (d := d - 1) (ihc (d - 1 - 1) (by omega)) (by omega) (by omega) hP hn3 n 0 S1 (dr (dr st)) [] (by omega) dr_r (fun T hT => by cases hT) (by simp; omega) g1
        simp only [List.nil_append] at loop
        have enr : nr3 (f + 1) (gpN (ndK 4) (grL (grF f ((lv : Int) + 1) sz) false n (dr (dr st))).1 n) = gpN (ndK 4) ((grL (grF f ((lv : Int) + 1) sz) false n (dr (dr st))).1.map (nr3 f)) ((grL (grF f ((lv : Int) + 1) sz) false n (dr (dr st))).1.map (nr3 f)).length := by
          have e1 : rk (gpN (ndK 4) (grL (grF f ((lv : Int) + 1) sz) false n (dr (dr st))).1 n) = 4 := rfl
          have e2 := kd_gp (x := ndK 4) (m := n) (hall false)
          rw [nr3_s, e1, if_neg (by decide), if_pos rfl, e2]
          rfl
        rw [enr]
        refine ev_gg (by omega) ?_
        have grp : Ev (fun q => f_X3_entry q (d - 1) 10000 S [4, (lv : Int), sz]) (fun x S1 => x = (P.length : Int) ∧ GrS S0 (P ++ gpN (ndK 4) ((grL (grF f ((lv : Int) + 1) sz) false n (dr (dr st))).1.map (nr3 f)) ((grL (grF f ((lv : Int) + 1) sz) false n (dr (dr st))).1.map (nr3 f)).length) (grL (grF f ((lv : Int) + 1) sz) false n (dr (dr st))).2 S1 ∧ (0 ≤ (grL (grF f ((lv : Int) + 1) sz) false n (dr (dr st))).2 ∧ (grL (grF f ((lv : Int) + 1) sz) false n (dr (dr st))).2 < 65536) ∧ ((grL (grF f ((lv : Int) + 1) sz) false n (dr (dr st))).1.map (nr3 f)).flatten.length ≤ 0 + n * bz f) := by
          refine ev_up (fun n => e_X3_group_0) ?_
          unfold b_X3_group_0
          refine ev_gg (by omega) ?_
          refine ev_gc (grw_add h hl (by decide)) (fun x S1 q1 => ?_)
          obtain ⟨rfl, g1⟩ := q1
          refine ev_gv ?_
          refine ev_gc (gr_draw g1 dr_r (by omega)) (fun x S2 q2 => ?_)
          obtain ⟨rfl, g2⟩ := q2
          rw [en]
          exact loop S2 g2
        refine ev_gc grp (fun x S1 q => ?_)
        obtain ⟨q1, q2, q3, q4⟩ := q
        refine ev_ret ⟨q1, q2, q3, ?_⟩
        rw [gp_len]
        omega
    have k10 : (lv = 0 ∨ 3 ≤ lv) → Ev (fun n => f_X3_entry n d 20010 S [(lv : Int), sz]) (GrQ S0 (f + 1) P (grF (f + 1) (lv : Int) sz st).1 (grF (f + 1) (lv : Int) sz st).2) := by
      intro hq
      have ek : grK lv st = dv st 4 + (if (lv : Int) = 0 then 4 else 0) := by
        unfold grK
        rw [if_pos (by omega)]
      refine ev_up (fun n => e_X3_sprout_10) ?_
      unfold b_X3_sprout_10
      refine ev_gg (by omega) ?_
      refine ev_gc (gr_draw h hst (by decide)) (fun x S1 q => ?_)
      obtain ⟨rfl, g1⟩ := q
      refine ev_gg (by constructor <;> omega) ?_
      refine ev_ite (fun z => ?_) (fun z => ?_)
      · rw [if_neg z] at ek
        exact k28 S1 0 _ ek.symm g1
      · rw [if_pos (by omega)] at ek
        exact k28 S1 4 _ ek.symm g1
    refine ev_up (fun n => e_X3_sprout_0) ?_
    unfold b_X3_sprout_0
    refine ev_gg (by constructor <;> omega) ?_
    refine ev_ite (fun z => ?_) (fun z => ?_)
    · exact k10 (Or.inl (by omega))
    refine ev_ite (fun z2 => ?_) (fun z2 => ?_)
    · have ek : grK lv st = dv st 8 + 0 := by
        unfold grK
        rw [if_neg (by omega), if_neg z]
      refine ev_gg (by omega) ?_
      refine ev_gc (gr_draw h hst (by decide)) (fun x S1 q => ?_)
      obtain ⟨rfl, g1⟩ := q
      refine ev_ite (fun _ => ?_) (fun y => absurd z y)
      exact k28 S1 0 _ ek.symm g1
    · exact k10 (Or.inr (by omega))
end GR4
