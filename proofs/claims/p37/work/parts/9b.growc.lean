/-! grow, of the class -/
theorem fold_two {p r : List ND → Prop} {g : List ND → List ND} (hg : ∀ t q, p t → r (kyT (g t) q)) : ∀ (L E : List (List ND)), (∀ T ∈ E, r T) → (∀ T ∈ L, p T) → ∀ T ∈ L.foldl (fun E t => insK (g t) (rq t) E) E, r T
  | [], E, hE, _ => hE
  | t :: L, E, hE, hL => by
    refine fold_two hg L _ (fun T hT => ?_) (fun T hT => hL T (List.mem_cons_of_mem _ hT))
    rcases insK_mem hT with q | q
    · rw [q]; exact hg _ _ (hL t List.mem_cons_self)
    · exact hE T q
theorem dp_ky (g : Nat) (T : List ND) (q : List Int) : dpS g (kyT T q) = dpS g T := by
  cases g with
  | zero => rfl
  | succ g => rfl
theorem foldl_le {g : List ND → Int} {b : Int} : ∀ (L : List (List ND)) (a : Int), a ≤ b → (∀ t ∈ L, g t ≤ b) → L.foldl (fun a k => max a (g k)) a ≤ b
  | [], a, h, _ => h
  | t :: L, a, h, hL => by
    rw [List.foldl_cons]
    have := hL t List.mem_cons_self
    exact foldl_le L _ (by omega) (fun u hu => hL u (List.mem_cons_of_mem _ hu))
theorem dp_gp {x : ND} {E : List (List ND)} {m : Nat} {b : Int} (hb : 0 ≤ b) (hE : ∀ T ∈ E, TR T ∧ PZL T) (hd : ∀ T ∈ E, ∀ g, dpS g T ≤ b) (g : Nat) : dpS g (gpN x E m) ≤ b + 1 := by
  cases g with
  | zero =>
    unfold dpS
    split <;> omega
  | succ g =>
    unfold dpS
    rw [kd_gp hE]
    have := foldl_le (g := dpS g) (b := b) E 0 hb (fun t ht => hd t ht g)
    split <;> omega
theorem dp_leaf {y : ND} (h : y.1 < 4) (g : Nat) : dpS g [y] = 0 := by
  have e : rk [y] = y.1 := rfl
  cases g with
  | zero =>
    unfold dpS
    rw [e, if_neg (by omega)]
  | succ g =>
    unfold dpS
    rw [e, if_neg (by omega)]
theorem nr3_leaf {f : Nat} {y : ND} (h : y.1 < 4) : nr3 (f + 1) [y] = [y] := by
  have e : rk [y] = y.1 := rfl
  rw [nr3_s, e, if_neg (by omega), if_neg (by omega)]
/-- what grows is not deep -/
theorem gr_deep (sz : Int) : ∀ (f lv : Nat) (st : Int), lv + f = 4 → 1 ≤ f → ∀ g, dpS g (nr3 f (grF f (lv : Int) sz st).1) ≤ (f : Int) - 1 := by
  intro f
  induction f with
  | zero => intros; omega
  | succ f ih =>
    intro lv st hlv hf g
    unfold grF
    by_cases h0 : grK lv st = 0
    · rw [if_pos h0, nr3_leaf (by decide), dp_leaf (by decide)]
      omega
    rw [if_neg h0]
    by_cases h1 : grK lv st = 1
    · rw [if_pos h1, nr3_leaf (show (1 : Int) < 4 by decide), dp_leaf (show (1 : Int) < 4 by decide)]
      omega
    rw [if_neg h1]
    by_cases h2 : grK lv st = 2
    · rw [if_pos h2, nr3_leaf (show (2 : Int) < 4 by decide), dp_leaf (show (2 : Int) < 4 by decide)]
      omega
    rw [if_neg h2]
    by_cases h3 : grK lv st = 3
    · rw [if_pos h3, nr3_leaf (show (3 : Int) < 4 by decide), dp_leaf (show (3 : Int) < 4 by decide)]
      omega
    rw [if_neg h3]
    have hgk : 3 ≤ lv → grK lv st < 4 := by
      intro q
      unfold grK
      have r4 := dv_r (st := st) (n := 4) (by decide)
      rw [if_pos (by omega), if_neg (by omega)]
      omega
    have hgk0 : 0 ≤ grK lv st := by
      unfold grK
      have r4 := dv_r (st := st) (n := 4) (by decide)
      have r8 := dv_r (st := st) (n := 8) (by decide)
      split <;> split <;> omega
    have hf1 : 1 ≤ f := by
      by_cases q : 3 ≤ lv
      · have := hgk q; omega
      · omega
    generalize hn : (dv (dr st) (sz + 1)).toNat = n
    have hall := fun mp => grL_all (g := grF f ((lv : Int) + 1) sz) (mp := mp) (p := fun T => (TR T ∧ PZL T) ∧ ∀ g, dpS g (nr3 f T) ≤ (f : Int) - 1) (fun st => ⟨grF_tr f _ _ st, fun g => ih (lv + 1) st (by omega) hf1 g⟩) (fun T q h => ⟨⟨tr_ky h.1.1, pzl_ky h.1.1.2.1 h.1.2⟩, fun g => by rw [nr3_ky, dp_ky]; exact h.2 g⟩) n (dr (dr st))
    have e : ((f + 1 : Nat) : Int) - 1 = ((f : Int) - 1) + 1 := by omega
    rw [e]
    by_cases h6 : 6 ≤ grK lv st
    · simp only [decide_eq_true h6, if_neg (show ¬ grK lv st < 6 by omega)]
      have e1 : rk (gpN (ndK 5) (grL (grF f ((lv : Int) + 1) sz) true n (dr (dr st))).1 n) = 5 := rfl
      have e2 := kd_gp (x := ndK 5) (m := n) (fun T hT => (hall true T hT).1)
      rw [nr3_s, e1, if_pos rfl, e2]
      have hE := fold_two (p := fun T => (TR T ∧ PZL T) ∧ ∀ g, dpS g (nr3 f T) ≤ (f : Int) - 1) (r := fun T => (TR T ∧ PZL T) ∧ ∀ g, dpS g T ≤ (f : Int) - 1) (g := nr3 f) (fun t q ht => ⟨⟨tr_ky (nr3_tr f t ht.1).1.1, pzl_ky (nr3_tr f t ht.1).1.1.2.1 (nr3_tr f t ht.1).1.2⟩, fun g => by rw [dp_ky]; exact ht.2 g⟩) _ [] (fun T hT => by cases hT) (hall true)
      exact dp_gp (by omega) (fun T hT => (hE T hT).1) (fun T hT => (hE T hT).2) g
    · simp only [decide_eq_false h6, if_pos (show grK lv st < 6 by omega)]
      have e1 : rk (gpN (ndK 4) (grL (grF f ((lv : Int) + 1) sz) false n (dr (dr st))).1 n) = 4 := rfl
      have e2 := kd_gp (x := ndK 4) (m := n) (fun T hT => (hall false T hT).1)
      rw [nr3_s, e1, if_neg (by decide), if_pos rfl, e2]
      have hE : ∀ U ∈ (grL (grF f ((lv : Int) + 1) sz) false n (dr (dr st))).1.map (nr3 f), (TR U ∧ PZL U) ∧ ∀ g, dpS g U ≤ (f : Int) - 1 := by
        intro U hU
        obtain ⟨t, ht, rfl⟩ := List.mem_map.mp hU
        exact ⟨(nr3_tr f t (hall false t ht).1).1, (hall false t ht).2⟩
      exact dp_gp (by omega) (fun T hT => (hE T hT).1) (fun T hT => (hE T hT).2) g
section GRC
variable {S : GS} {d : Nat}
/-- the VALUE that a seed and a size give -/
def grw (seed sz : Int) : List ND := nr3 4 (grF 4 0 sz seed).1
theorem grw_doc {seed sz : Int} (hl : (grw seed sz).length ≤ 40) : dOK (grw seed sz, false) ∧ TR (grw seed sz) ∧ PZL (grw seed sz) ∧ kyT (grw seed sz) [] = grw seed sz := by
  have ht := nr3_tr 4 _ (grF_tr 4 0 sz seed)
  have hq : rq (grw seed sz) = [] := by
    show rq (nr3 4 (grF 4 0 sz seed).1) = []
    rw [ht.2, grF_rq]
  have h1 := ht.1.1.2.1
  have hs := sg_self ht.1.1
  have hdd := gr_deep sz 4 0 seed rfl (by decide) 13
  refine ⟨⟨rfl, h1, ht.1.1.2.2, ?_⟩, ht.1.1, ht.1.2, ?_⟩
  · have := dpF_S ht.1.2 ht.1.1.1 13 0 h1
    rw [hs] at this
    show dpF 13 (nr3 4 (grF 4 0 sz seed).1) 0 ≤ 12
    rw [this]
    have h' : dpS 13 (nr3 4 (grF 4 0 sz seed).1) ≤ 3 := hdd
    omega
  · have e : ∀ T : List ND, 1 ≤ T.length → rq T = [] → kyT T [] = T := by
      intro T h1 hq
      cases T with
      | nil => simp at h1
      | cons a b =>
        have hq' : a.2.2.2.2 = [] := hq
        show wQ a [] :: b = a :: b
        rw [← hq']
        rfl
    exact e _ h1 hq
theorem gr_begin {seed : Int} (hG : Good S) (hs : 0 ≤ seed ∧ seed < 65536) (hd : 1 ≤ d) : Ev (fun n => f_X3_begin n d 0 S [seed]) (fun _ S1 => GrS S [] seed S1) := by
  refine ev_up (fun n => e_X3_begin_0) ?_
  unfold b_X3_begin_0
  refine ev_gv ?_
  refine ev_gg hd ?_
  have hG1 : Good (gI S 494 4 seed) := good_gI hG (by constructor <;> omega) (fun q => by unfold isC at q; omega)
  refine ev_gc (ty_clear gT408 hG1) (fun _ S1 q => ?_)
  refine ev_ret ⟨to_ty q, ?_, ?_, q.2.2.2⟩
  · rw [(q.2.2.1 494 (by unfold trM; omega)).1, gI_a]
  · exact fr_tr (fr_gI (Or.inr (Or.inr rfl))) (fr_mono q.2.2.1 (fun k hk => Or.inl (by unfold trM at hk; omega)))
theorem t_grow {n : Nat} {seed sz : Int} (hG : Good S) (hd : 90 ≤ d) (hn : S.1 468 14 = (n : Int)) (h40 : n ≤ 40) (h1 : inr seed) (h2 : inr sz) : Ev (fun m => f_X11_grow m d 0 S [seed, sz]) (fun x S1 => (¬ ((0 ≤ seed ∧ seed < 65536) ∧ 1 ≤ sz ∧ sz ≤ 3) ∧ x = exB + 1 ∧ S1 = S) ∨ (((0 ≤ seed ∧ seed < 65536) ∧ 1 ≤ sz ∧ sz ≤ 3) ∧ n < 40 ∧ x = (n : Int) ∧ TO (8 * n) (grw seed sz, false) S1 ∧ S1.1 468 14 = (n : Int) + 1 ∧ (∀ k, k ≠ 14 → S1.1 468 k = S.1 468 k) ∧ Fr (fun k => grM k ∨ adM n k) S S1 ∧ Good S1) ∨ (((0 ≤ seed ∧ seed < 65536) ∧ 1 ≤ sz ∧ sz ≤ 3) ∧ ¬ n < 40 ∧ x = exB + 2 ∧ Fr grM S S1 ∧ Good S1)) := by
  have ex : exB = 18446744073709551616 := rfl
  by_cases hin : (0 ≤ seed ∧ seed < 65536) ∧ 1 ≤ sz ∧ sz ≤ 3
  · have key : Ev (fun m => gc (f_X3_begin m (d - 1) 0 S [seed]) fun x8 S_9 => gc (f_X3_entry m (d - 1) 20000 S_9 [0, sz]) fun x11 S_12 => gc (f_X3_result m (d - 1) 0 S_12 []) fun x14 S_15 => gc (f_X11_admit m (d - 1) 0 S_15 [((x14.toNat : Nat) : Int)]) fun x17 S_18 => if x17 < exB then (gg (x17 < exB) <| some (x17, S_18)) else some (x17, S_18)) (fun x S1 => (n < 40 ∧ x = (n : Int) ∧ TO (8 * n) (grw seed sz, false) S1 ∧ S1.1 468 14 = (n : Int) + 1 ∧ (∀ k, k ≠ 14 → S1.1 468 k = S.1 468 k) ∧ Fr (fun k => grM k ∨ adM n k) S S1 ∧ Good S1) ∨ (¬ n < 40 ∧ x = exB + 2 ∧ Fr grM S S1 ∧ Good S1)) := by
      refine ev_gc (gr_begin hG hin.1 (by omega)) (fun _ S1 g1 => ?_)
      have sp := gr_sprout (sz := sz) hin.2 4 0 (d - 1) [] S1 seed rfl (by decide) (by omega) (by decide) wf_nil hin.1 g1
      refine ev_gc sp (fun x S2 q => ?_)
      obtain ⟨_, g2, _, l2⟩ := q
      have g2' : GrS S (grw seed sz) _ S2 := g2
      have doc := grw_doc (seed := seed) (sz := sz) l2
      have hr : Rd (fun m => f_X3_result m (d - 1) 0 S2 []) 408 S2 := by
        refine ev_up (fun n => e_X3_result_0) ?_
        unfold b_X3_result_0
        exact ev_ret ⟨rfl, rfl⟩
      refine ev_gcr hr ?_
      have e408 : (((408 : Int).toNat : Nat) : Int) = ((408 : Nat) : Int) := rfl
      rw [e408]
      have f468 := (g2'.2.2.1 468 (by unfold grM; omega)).1
      have ad := t_admit (d := d - 1) gT408 (by decide) (by omega) g2'.1 (fun _ _ => doc.2.1.1) g2'.2.2.2 (by rw [f468]; exact hn) h40
      refine ev_gc ad (fun x S3 q => ?_)
      rcases q with ⟨q1, _, q3, q4, q5, q6, q7, q8⟩ | ⟨q1, q2, q3⟩
      · refine ev_ite (fun _ => ?_) (fun z => by omega)
        refine ev_gg (by omega) ?_
        refine ev_ret (Or.inl ⟨q1, q3, ?_, q5, fun k hk => by rw [q6 k hk, f468], fr_tr (fr_mono g2'.2.2.1 (fun _ z => Or.inl z)) (fr_mono q7 (fun _ z => Or.inr z)), q8⟩)
        have e := doc.2.2.2
        rw [show kyT (grw seed sz, false).1 [] = grw seed sz from e] at q4
        exact q4
      · subst q3
        refine ev_ite (fun z => by omega) (fun _ => ?_)
        exact ev_ret (Or.inr ⟨fun z => q1 ⟨z, doc.1⟩, q2, g2'.2.2.1, g2'.2.2.2⟩)
    have fin := ev_mono key (fun x S1 q => show (¬ ((0 ≤ seed ∧ seed < 65536) ∧ 1 ≤ sz ∧ sz ≤ 3) ∧ x = exB + 1 ∧ S1 = S) ∨ (((0 ≤ seed ∧ seed < 65536) ∧ 1 ≤ sz ∧ sz ≤ 3) ∧ n < 40 ∧ x = (n : Int) ∧ TO (8 * n) (grw seed sz, false) S1 ∧ S1.1 468 14 = (n : Int) + 1 ∧ (∀ k, k ≠ 14 → S1.1 468 k = S.1 468 k) ∧ Fr (fun k => grM k ∨ adM n k) S S1 ∧ Good S1) ∨ (((0 ≤ seed ∧ seed < 65536) ∧ 1 ≤ sz ∧ sz ≤ 3) ∧ ¬ n < 40 ∧ x = exB + 2 ∧ Fr grM S S1 ∧ Good S1) from by
      rcases q with q | q
      · exact Or.inr (Or.inl ⟨hin, q⟩)
      · exact Or.inr (Or.inr ⟨hin, q⟩))
    refine ev_up (fun n => e_X11_grow_0) ?_
    unfold b_X11_grow_0
    refine ev_gg h1 ?_
    refine ev_ite (fun z => by omega) (fun _ => ?_)
    refine ev_ite (fun z => by omega) (fun _ => ?_)
    refine ev_gg h2 ?_
    refine ev_ite (fun z => by omega) (fun _ => ?_)
    refine ev_ite (fun _ => ?_) (fun z => by omega)
    refine ev_gg (by omega) ?_
    exact fin
  · refine ev_up (fun n => e_X11_grow_0) ?_
    unfold b_X11_grow_0
    repeat' (first
      | with_reducible refine ev_gv ?_
      | with_reducible refine ev_gg ?_ ?_
      | with_reducible refine ev_ite (fun _ => ?_) (fun _ => ?_)
      | omega
      | assumption)
    all_goals exact ev_ret (Or.inl ⟨hin, rfl, rfl⟩)
end GRC
