/-! READING: VALUES, a whole text, of the class -/
section RW
variable {S S0 : GS} {c2 d b : Nat} {s r : List Int} {how q : Int} {V : List ND}
theorem enD_r (mp : Bool) : enD mp = 93 ∨ enD mp = 125 := by cases mp <;> simp [enD]
/-- a ROW or MAP comes to its end -/
theorem rd_136 {P : List ND} {x : ND} {En : List (List ND)} {m : Nat} {mp : Bool} (h : RdC c2 s how S0 r b (P ++ gpN x En m) S) (hs : SrcOK c2 s) (hd : 3 ≤ d) (hr : hdI r = enD mp) : Ev (fun n => f_X6_entry n d 10136 S [(P.length : Int), enD mp]) (fun y S1 => y = (P.length : Int) ∧ RdC c2 s how S0 r.tail b (P ++ gpN x En En.length) S1) := by
  have e := enD_r mp
  have l := tv_l h.2.2.2.2.2.1
  have l' : (P ++ gpN x En m).length ≤ 100 := l
  rw [List.length_append] at l'
  refine ev_up (fun n => e_X6_group_136) ?_
  unfold b_X6_group_136
  refine ev_gg (by omega) ?_
  refine ev_gc (rd_pass (d := d - 1) h hs (by omega) (c := enD mp) (by omega)) (fun _ S1 q1 => ?_)
  rw [if_pos hr] at q1
  refine ev_gc (ty_close (d := d - 1) (i := (P.length : Int)) gT336 (by omega) (rd_ty q1.1) (by constructor <;> omega)) (fun _ S2 q2 => ?_)
  rw [clo_gp] at q2
  exact ev_ret ⟨rfl, rd_tree hs q1.1 q2⟩
theorem rd_53e {P : List ND} {x : ND} {En : List (List ND)} {m : Nat} {mp : Bool} {a1 a2 a6 : Int} (h : RdC c2 s how S0 r b (P ++ gpN x En m) S) (hs : SrcOK c2 s) (hd : 3 ≤ d) (hr : hdI r = enD mp) (h6 : inr a6) : Ev (fun n => f_X6_entry n d 10053 S [a1, a2, (P.length : Int), enD mp, 1, a6]) (fun y S1 => y = (P.length : Int) ∧ RdC c2 s how S0 r.tail b (P ++ gpN x En En.length) S1) := by
  have k := rd_136 (d := d) h hs hd hr
  refine ev_up (fun n => e_X6_group_53) ?_
  unfold b_X6_group_53
  repeat' (first
    | with_reducible refine ev_gv ?_
    | with_reducible refine ev_gg ?_ ?_
    | with_reducible refine ev_ite (fun _ => ?_) (fun _ => ?_)
    | omega
    | assumption)
  all_goals exact k
/-- the VALUES so far, by THE RULE -/
def fdH (how : Int) (f : Nat) (mp : Bool) (E : List (List ND)) : List (List ND) := if mp then E.foldl (fun E t => inH (decide (how = 2)) (nrH (decide (how = 2)) f t) (rq t) E) [] else E.map (nrH (decide (how = 2)) f)
theorem fdH_snoc {f : Nat} {mp : Bool} {E : List (List ND)} {t : List ND} : fdH how f mp (E ++ [t]) = if mp then inH (decide (how = 2)) (nrH (decide (how = 2)) f t) (rq t) (fdH how f mp E) else fdH how f mp E ++ [nrH (decide (how = 2)) f t] := by
  unfold fdH
  cases mp with
  | true => simp
  | false => simp
theorem fdH_ok {f : Nat} {mp : Bool} {E : List (List ND)} (hE : ∀ T ∈ E, TR T ∧ PZL T) : (∀ T ∈ fdH how f mp E, TR T ∧ PZL T) ∧ (fdH how f mp E).flatten.length ≤ E.flatten.length := by
  unfold fdH
  cases mp with
  | true =>
    refine ⟨foldH_all (p := fun t => TR t ∧ PZL t) (fun t q ht => ⟨tr_ky (nrH_tr f t ht).1.1, pzl_ky (nrH_tr f t ht).1.1.2.1 (nrH_tr f t ht).1.2⟩) E [] (fun T hT => by cases hT) hE, ?_⟩
    have := foldH_len (h := decide (how = 2)) (g := nrH (decide (how = 2)) f) E [] (fun t ht => ⟨(nrH_tr f t (hE t ht)).1.1.2.1, nrH_len f t (hE t ht)⟩)
    simpa using this
  | false =>
    refine ⟨fun U hU => ?_, ?_⟩
    · obtain ⟨t, ht, rfl⟩ := List.mem_map.mp hU
      exact (nrH_tr f t (hE t ht)).1
    · induction E with
      | nil => exact Nat.le_refl _
      | cons t L ih =>
        have a := nrH_len (h := decide (how = 2)) f t (hE t List.mem_cons_self)
        have b := ih (fun u hu => hE u (List.mem_cons_of_mem _ hu))
        simp only [Bool.false_eq_true, if_false] at b ⊢
        simp only [List.map_cons, List.flatten_cons, List.length_append]
        omega
/-- through the VALUES of a ROW or MAP -/
theorem rd_loop {f : Nat} {P : List ND} {k0 : List Int} {mp : Bool} (hs : SrcOK c2 s) (hw : 0 ≤ how ∧ how ≤ 2) (ih : VC c2 s how S0 f (d - 1)) (ihe : VC c2 s how S0 f (d - 1 - 1)) (hd : 9 ≤ d) (hf : f ≤ 13) (hP : WF P) : ∀ (n : Nat) (E : List (List ND)) (m b : Nat) (r : List Int) (a6 : Int) (S : GS), 101 ≤ n + b → (∀ T ∈ E, TOK f T) → P.length + 1 + E.flatten.length ≤ b → b ≤ 100 → 0 ≤ a6 → a6 + 1 ≤ b → (mp = false → m = 0) → RdC c2 s how S0 r b (P ++ gpN (if mp then 5 else 4, 1, 0, [], k0) (fdH how f mp E) m) S → Ev (fun q => f_X6_entry q d 10053 S [if mp then 5 else 4, 13 - (f : Int), (P.length : Int), enD mp, 0, a6]) (fun y S1 => RQ (rdL (rdV f how) mp how n E b r) (fun q => FlC c2 s S0 (plI2 s q) S1) (fun z => y = (P.length : Int) ∧ RdC c2 s how S0 z.2.2 z.2.1 (P ++ gpN (if mp then 5 else 4, 1, 0, [], k0) (fdH how f mp z.1) (fdH how f mp z.1).length) S1)) := by
  have en := enD_r mp
  intro n
  induction n with
  | zero => intros; omega
  | succ n ihn =>
    intro E m b r a6 S hn hE hroom hb h6 h6b hm h
    have hEt : ∀ T ∈ E, TR T ∧ PZL T := fun T hT => (hE T hT).1
    have fo := fdH_ok (how := how) (f := f) (mp := mp) hEt
    have l := tv_l h.2.2.2.2.2.1
    rw [rdL_s]
    -- what comes behind one
    have nx : ∀ (v : RV) (m' : Nat) (S2 : GS), rdIt (rdV f how) mp how E b r = .inr v → (mp = false → m' = 0) → RdC c2 s how S0 v.2.2 v.2.1 (P ++ gpN (if mp then 5 else 4, 1, 0, [], k0) (fdH how f mp (E ++ [v.1])) m') S2 → Ev (fun q => f_X6_entry q d 10099 S2 [if mp then 5 else 4, 13 - (f : Int), (P.length : Int), enD mp, a6]) (fun y S1 => RQ (if hdI (skB v.2.2) = enD mp then .inr (E ++ [v.1], v.2.1, (skB v.2.2).tail) else if hdI (skB v.2.2) = 44 then rdL (rdV f how) mp how n (E ++ [v.1]) v.2.1 (skB v.2.2).tail else .inl (skB v.2.2)) (fun q => FlC c2 s S0 (plI2 s q) S1) (fun z => y = (P.length : Int) ∧ RdC c2 s how S0 z.2.2 z.2.1 (P ++ gpN (if mp then 5 else 4, 1, 0, [], k0) (fdH how f mp z.1) (fdH how f mp z.1).length) S1)) := by
      intro v m' S2 hv hm' h2
      have vok := rdIt_ok (rdV_ok f) hv (src_rng hs h.2.2.1)
      have vl := vok.1.1.1.2.1
      have hl : (E ++ [v.1]).flatten.length = E.flatten.length + v.1.length := by simp
      have hE' := snoc_all (p := TOK f) hE vok.1
      refine ev_up (fun n => e_X6_group_99) ?_
      unfold b_X6_group_99
      refine ev_gg (by omega) ?_
      refine ev_gc (rd_skip (d := d - 1) hs (by omega) _ S2 h2) (fun _ S3 q3 => ?_)
      have hr3 := hdI_r hs q3.1.2.2.1
      refine ev_gcr (rd_here (d := d - 1) q3.1 hs (by omega)) ?_
      refine ev_gg (by constructor <;> omega) ?_
      refine ev_gg (by constructor <;> omega) ?_
      by_cases c : hdI (skB v.2.2) = enD mp
      · rw [if_pos c]
        refine ev_ite (fun z => absurd c z) (fun _ => ?_)
        refine ev_up (fun n => e_X6_group_117) ?_
        unfold b_X6_group_117
        repeat' (first
          | with_reducible refine ev_gv ?_
          | with_reducible refine ev_gg ?_ ?_
          | with_reducible refine ev_ite (fun _ => ?_) (fun _ => ?_)
          | omega
          | assumption)
        exact rd_53e q3.1 hs (by omega) c (by constructor <;> omega)
      · rw [if_neg c]
        refine ev_ite (fun _ => ?_) (fun z => absurd (fun w => c w) z)
        refine ev_up (fun n => e_X6_group_117) ?_
        unfold b_X6_group_117
        repeat' (first
          | with_reducible refine ev_gv ?_
          | with_reducible refine ev_gg ?_ ?_
          | with_reducible refine ev_ite (fun _ => ?_) (fun _ => ?_)
          | omega
          | assumption)
        refine ev_gc (rd_pass (d := d - 1) q3.1 hs (by omega) (c := 44) (by decide)) (fun _ S4 q4 => ?_)
        refine ev_gv ?_
        by_cases c4 : hdI (skB v.2.2) = 44
        · rw [if_pos c4] at q4 ⊢
          exact ihn (E ++ [v.1]) m' v.2.1 _ (a6 + 1) S4 (by omega) hE' (by rw [hl]; omega) vok.2.2.1 (by omega) (by omega) hm' q4.1
        · rw [if_neg c4] at q4 ⊢
          exact fl_g53 q4.1 hs (by omega) (by constructor <;> omega) en (by decide) (by constructor <;> omega)
    have fin : ∀ {x : Int} {S1 : GS}, RQ (rdIt (rdV f how) mp how E b r) (fun q => FlC c2 s S0 (plI2 s q) S1) (fun v => ∃ m', (mp = false → m' = 0) ∧ RdC c2 s how S0 v.2.2 v.2.1 (P ++ gpN (if mp then 5 else 4, 1, 0, [], k0) (fdH how f mp (E ++ [v.1])) m') S1) → Ev (fun q => f_X6_entry q d 10099 S1 [if mp then 5 else 4, 13 - (f : Int), (P.length : Int), enD mp, a6]) (fun y S1 => RQ (bd (rdIt (rdV f how) mp how E b r) (fun v => if hdI (skB v.2.2) = enD mp then .inr (E ++ [v.1], v.2.1, (skB v.2.2).tail) else if hdI (skB v.2.2) = 44 then rdL (rdV f how) mp how n (E ++ [v.1]) v.2.1 (skB v.2.2).tail else .inl (skB v.2.2))) (fun q => FlC c2 s S0 (plI2 s q) S1) (fun z => y = (P.length : Int) ∧ RdC c2 s how S0 z.2.2 z.2.1 (P ++ gpN (if mp then 5 else 4, 1, 0, [], k0) (fdH how f mp z.1) (fdH how f mp z.1).length) S1)) := by
      intro x S1 hq
      cases ho : rdIt (rdV f how) mp how E b r with
      | inl q =>
        rw [ho] at hq
        exact fl_g99 hq hs (by omega) (by constructor <;> omega) en (by omega)
      | inr v =>
        rw [ho] at hq
        obtain ⟨m', hm', h2⟩ := hq
        exact nx v m' S1 ho hm' h2
    cases mp with
    | true =>
      have ent := rd_entry (d := d - 1) (k0 := k0) (E := E) (En := fdH how f true E) (m := m) (P := P) hs hw ihe (by omega) hf hP (fun key => by
        show (∃ u ∈ E.foldl (fun E t => inH (decide (how = 2)) (nrH (decide (how = 2)) f t) (rq t) E) [], rq u = key) ↔ _
        rw [foldH_key]
        simp) fo.1 (by have := fo.2; omega) hb h
      refine ev_up (fun n => e_X6_group_53) ?_
      unfold b_X6_group_53
      refine ev_gg (by constructor <;> omega) ?_
      refine ev_ite (fun z => by omega) (fun _ => ?_)
      refine ev_gg (by decide) ?_
      refine ev_ite (fun z => absurd rfl z) (fun _ => ?_)
      refine ev_gg (by omega) ?_
      refine ev_gcr (rd_goes h) ?_
      refine ev_gg (by decide) ?_
      refine ev_ite (fun z => absurd z (by decide)) (fun _ => ?_)
      refine ev_gg (by decide) ?_
      refine ev_ite (fun _ => ?_) (fun z => absurd (by decide) z)
      refine ev_gc ent (fun _ S1 q1 => ?_)
      refine fin (x := 0) ?_
      cases ho : rdIt (rdV f how) true how E b r with
      | inl q => rw [ho] at q1; exact q1
      | inr v =>
        rw [ho] at q1
        obtain ⟨m', h2⟩ := q1
        refine ⟨m', fun z => absurd z (by decide), ?_⟩
        rw [fdH_snoc]
        exact h2
    | false =>
      refine ev_up (fun n => e_X6_group_53) ?_
      unfold b_X6_group_53
      refine ev_gg (by constructor <;> omega) ?_
      refine ev_ite (fun z => by omega) (fun _ => ?_)
      refine ev_gg (by decide) ?_
      refine ev_ite (fun z => absurd rfl z) (fun _ => ?_)
      refine ev_gg (by omega) ?_
      refine ev_gcr (rd_goes h) ?_
      refine ev_gg (by decide) ?_
      refine ev_ite (fun z => absurd z (by decide)) (fun _ => ?_)
      refine ev_gg (by decide) ?_
      refine ev_ite (fun z => absurd rfl z) (fun _ => ?_)
      refine ev_gc (sx_clear gSh430 h.1.2.2.2.2) (fun _ S1 s1 => ?_)
      have h1 := rd_sheet hs (Or.inl rfl) (fun x hx => by cases hx) h s1
      have hwf : WF (P ++ gpN (if false = true then 5 else 4, 1, 0, [], k0) (fdH how f false E) m) := wf_app hP (wf_gp (show (4 : Int) ≤ 4 by decide) (fun T hT => (fo.1 T hT).1))
      have hVl : (P ++ gpN (if false = true then 5 else 4, 1, 0, [], k0) (fdH how f false E) m).length = P.length + 1 + (fdH how f false E).flatten.length := by rw [List.length_append, gp_len]; omega
      have call := ih _ S1 r [] b h1 s1.1 (fun x hx => by cases hx) hwf (by rw [hVl]; have := fo.2; omega) hb
      refine ev_gc call (fun x S2 q2 => ?_)
      unfold VQ at q2
      refine fin (x := 0) ?_
      show RQ (rdV f how b r) _ _
      cases ho : rdV f how b r with
      | inl q => rw [ho] at q2; exact q2
      | inr v =>
        rw [ho] at q2
        obtain ⟨-, h2⟩ := q2
        have vok := rdV_ok f _ _ _ ho (src_rng hs h.2.2.1)
        have ek : kyT v.1 [] = v.1 := by
          have hq := vok.1.2.1
          have h1 := vok.1.1.1.1.2.1
          cases hv : v.1 with
          | nil => rw [hv] at h1; simp at h1
          | cons y t =>
            rw [hv] at hq
            have hq' : y.2.2.2.2 = [] := hq
            show wQ y [] :: t = y :: t
            rw [← hq']
            rfl
        rw [ek] at h2
        have m0 := hm rfl
        subst m0
        refine ⟨0, fun _ => rfl, ?_⟩
        rw [fdH_snoc]
        have eg : ∀ (x : ND) (En : List (List ND)) (t : List ND), P ++ gpN x En 0 ++ t = P ++ gpN x (En ++ [t]) 0 := by
          intro x En t
          unfold gpN
          simp
        rw [eg] at h2
        exact h2
/-- a ROW or MAP from its first sign -/
theorem rd_group {f : Nat} {P : List ND} {k0 : List Int} {mp : Bool} (hs : SrcOK c2 s) (hw : 0 ≤ how ∧ how ≤ 2) (ih : VC c2 s how S0 f (d - 1)) (ihe : VC c2 s how S0 f (d - 1 - 1)) (hd : 9 ≤ d) (hf : 1 ≤ f ∧ f ≤ 13) (hP : WF P) (hl : P.length + 1 ≤ b) (hb : b ≤ 100) (hb1 : 1 ≤ b) (hk : SV S 430 k0) (hk2 : ∀ x ∈ k0, x < 256) (hr : r ≠ []) (h : RdC c2 s how S0 r b P S) : Ev (fun q => f_X6_entry q d 10000 S [if mp then 5 else 4, 13 - (f : Int)]) (VQ c2 s how S0 (f + 1) P k0 (rdG (rdV f how) mp how b r.tail)) := by
  have en := enD_r mp
  have e430 := gSh430
  -- behind its beginning
  have body : ∀ S1, RdC c2 s how S0 r b (P ++ [(if mp then 5 else 4, 1, 0, [], k0)]) S1 → Ev (fun q => f_X6_entry q d 10018 S1 [if mp then 5 else 4, 13 - (f : Int), (P.length : Int), enD mp]) (VQ c2 s how S0 (f + 1) P k0 (rdG (rdV f how) mp how b r.tail)) := by
    intro S1 h1
    have t := rd_place h1 hs (sf_tl h1.2.2.1 hr)
    refine ev_up (fun n => e_X6_group_18) ?_
    unfold b_X6_group_18
    repeat' (first
      | with_reducible refine ev_gv ?_
      | with_reducible refine ev_gg ?_ ?_
      | with_reducible refine ev_ite (fun _ => ?_) (fun _ => ?_)
      | omega
      | assumption)
    refine ev_gc (rd_skip (d := d - 1) hs (by omega) _ _ t.1) (fun _ S2 q2 => ?_)
    have hr2 := hdI_r hs q2.1.2.2.1
    refine ev_gcr (rd_here (d := d - 1) q2.1 hs (by omega)) ?_
    refine ev_gg (by constructor <;> omega) ?_
    refine ev_gg (by constructor <;> omega) ?_
    have g0 : P ++ [((if mp then 5 else 4 : Int), 1, (0 : Int), ([] : List Int), k0)] = P ++ gpN (if mp then 5 else 4, 1, 0, [], k0) (fdH how f mp []) 0 := by
      unfold fdH gpN
      cases mp <;> rfl
    have q2' := q2.1
    rw [g0] at q2'
    -- what the VALUE is in the end
    have val : ∀ E : List (List ND), (∀ T ∈ E, TR T ∧ PZL T) → nrH (decide (how = 2)) (f + 1) (kyT (gpN (ndK (if mp then 5 else 4)) E E.length) k0) = gpN (if mp then 5 else 4, 1, 0, [], k0) (fdH how f mp E) (fdH how f mp E).length := by
      intro E hE
      rw [nrH_ky, nrH_s, kd_gp hE]
      unfold fdH
      cases mp with
      | true => rfl
      | false => rfl
    unfold VQ rdG
    by_cases c : hdI (skB r.tail) = enD mp
    · rw [if_pos c]
      refine ev_ite (fun z => absurd c z) (fun _ => ?_)
      have kk := rd_53e (d := d) (a1 := if mp then 5 else 4) (a2 := 13 - (f : Int)) (a6 := 0) q2' hs (by omega) c (by decide)
      refine ev_mono kk (fun y S3 q3 => ⟨q3.1, ?_⟩)
      have := val [] (fun T hT => by cases hT)
      show RdC c2 s how S0 (skB r.tail).tail b (P ++ nrH (decide (how = 2)) (f + 1) (kyT (gpN (ndK (if mp then 5 else 4)) [] 0) k0)) S3
      rw [show (0 : Nat) = ([] : List (List ND)).length from rfl, this]
      exact q3.2
    · rw [if_neg c]
      refine ev_ite (fun _ => ?_) (fun z => absurd (fun w => c w) z)
      have kk := rd_loop (d := d) (k0 := k0) (mp := mp) hs hw ih ihe hd hf.2 hP 101 [] 0 b _ 0 S2 (by omega) (fun T hT => by cases hT) (by simpa using hl) hb (by decide) (by omega) (fun _ => rfl) q2'
      refine ev_mono kk (fun y S3 q3 => ?_)
      cases ho : rdL (rdV f how) mp how 101 [] b (skB r.tail) with
      | inl q => rw [ho] at q3; exact q3
      | inr z =>
        rw [ho] at q3
        have lo := rdL_ok (b0 := b) (rdV_ok (how := how) f) 101 [] b _ z ho (rng_skB (rng_tl (src_rng hs h.2.2.1))) (fun T hT => by cases hT) (by simp)
        refine ⟨q3.1, ?_⟩
        have := val z.1 (fun T hT => (lo.1 T hT).1)
        show RdC c2 s how S0 z.2.2 z.2.1 (P ++ nrH (decide (how = 2)) (f + 1) (kyT (gpN (ndK (if mp then 5 else 4)) z.1 z.1.length) k0)) S3
        rw [this]
        exact q3.2
  refine ev_up (fun n => e_X6_group_0) ?_
  unfold b_X6_group_0
  refine ev_gg (by omega) ?_
  refine ev_gc (rd_begin (d := d - 1) (k := k0) (kd := if mp then 5 else 4) h hs (by omega) hk hk2 (by omega) (by split <;> decide)) (fun x S1 q1 => ?_)
  obtain ⟨rfl, q1, -⟩ := q1
  have kb := body S1 q1
  cases mp with
  | true =>
    refine ev_gg (by decide) ?_
    refine ev_ite (fun _ => ?_) (fun z => absurd (by decide) z)
    exact kb
  | false =>
    refine ev_gg (by decide) ?_
    refine ev_ite (fun z => absurd rfl z) (fun _ => ?_)
    exact kb
theorem rd_begun (hs : SrcOK c2 s) (h : RdC c2 s how S0 r b V S) (hb : b ≤ 100) : RdC c2 s how S0 r (b + 1) V (gI S 470 9 ((b : Int) + 1)) ∧ F470 S (gI S 470 9 ((b : Int) + 1)) := by
  obtain ⟨h1, h2, h3, h4, h5, h6⟩ := h
  have c := rc_470 hs h1 (k := 9) (x := (b : Int) + 1) (by constructor <;> omega)
  refine ⟨⟨c.1, ?_, ?_, ?_, ?_, to_470 h6⟩, c.2⟩
  · rw [gI_k (by decide)]; exact h2
  · rw [gI_k (by decide)]; exact h3
  · rw [gI_k (by decide)]; exact h4
  · rw [gI_a]; omega
theorem nrH_leaf {h : Bool} {f : Nat} {y : ND} (hy : y.1 < 4) : nrH h (f + 1) [y] = [y] := by
  have e : rk [y] = y.1 := rfl
  rw [nrH_s, e, if_neg (by omega), if_neg (by omega)]
theorem rd_valueF {f : Nat} (hs : SrcOK c2 s) (hw : 0 ≤ how ∧ how ≤ 2) (hf : f ≤ 12) (hd : 3 * f + 14 ≤ d) (ih : f ≠ 0 → VC c2 s how S0 f (d - 1 - 1)) (ihe : f ≠ 0 → VC c2 s how S0 f (d - 1 - 1 - 1)) : VC c2 s how S0 (f + 1) d := by
  intro P S r k b h hk hk2 hP hPb hb
  rw [rdV_s]
  refine ev_up (fun n => e_X6_value_0) ?_
  unfold b_X6_value_0
  refine ev_gg (by omega) ?_
  refine ev_gc (rd_skip (d := d - 1) hs (by omega) r S h) (fun _ S1 q1 => ?_)
  obtain ⟨h1, m1⟩ := q1
  have hr := hdI_r hs h1.2.2.1
  have e1 := sf_le h1.2.2.1
  have rg := src_rng hs h1.2.2.1
  have hk1 := f4_sv hk m1 gSh430
  refine ev_gcr (rd_here (d := d - 1) h1 hs (by omega)) ?_
  refine ev_gg (by constructor <;> omega) ?_
  have bad : Ev (fun n => gv (S1.1 470 7) fun x10 => gc (f_X6_fail n (d - 1) 0 S1 [x10]) fun x12 S_13 => some (x12, S_13)) (fun x S2 => FlC c2 s S0 (plI2 s (skB r)) S2) := by
    refine ev_gv ?_
    refine ev_gc (rd_fail (d := d - 1) h1 hs (p := S1.1 470 7) (by omega)) (fun _ S2 q2 => ?_)
    obtain ⟨-, u, v⟩ := q2
    rw [e1.2.2.1] at u
    exact ev_ret u
  by_cases c0 : skB r = []
  · rw [if_pos (Or.inl c0)]
    refine ev_ite (fun _ => ?_) (fun z => absurd (show hdI (skB r) = -1 by rw [c0]; rfl) z)
    exact bad
  have hge := rg _ (hdI_mem c0)
  refine ev_ite (fun z => by omega) (fun _ => ?_)
  rw [h1.2.2.2.2.1]
  refine ev_gv ?_
  refine ev_gg (by constructor <;> omega) ?_
  by_cases cb : 100 ≤ b
  · rw [if_pos (Or.inr cb)]
    refine ev_ite (fun z => by omega) (fun _ => ?_)
    exact bad
  rw [if_neg (fun z => z.elim c0 cb)]
  refine ev_ite (fun _ => ?_) (fun z => by omega)
  have bg := rd_begun hs h1 hb
  have hk2' := f4_sv hk1 bg.2 gSh430
  refine ev_gv ?_
  refine ev_gv ?_
  refine ev_gv ?_
  generalize hS2 : gI S1 470 9 ((b : Int) + 1) = S2 at *
  have e54 : (13 : Int) - ((f + 1 : Nat) : Int) + 1 = 13 - (f : Int) := by omega
  have v54 : (hdI (skB r) = 91 ∨ hdI (skB r) = 123) → Ev (fun n => f_X6_entry n d 20054 S2 [13 - ((f + 1 : Nat) : Int), hdI (skB r)]) (VQ c2 s how S0 (f + 1) P k (if f = 0 then .inl (skB r) else rdG (rdV f how) (decide (hdI (skB r) = 123)) how (b + 1) (skB r).tail)) := by
    intro c
    refine ev_up (fun n => e_X6_value_54) ?_
    unfold b_X6_value_54
    refine ev_gg (by constructor <;> omega) ?_
    by_cases f0 : f = 0
    · rw [if_pos f0]
      refine ev_ite (fun z => by omega) (fun _ => ?_)
      have e2 := sf_le bg.1.2.2.1
      refine ev_gv ?_
      refine ev_gg (by omega) ?_
      refine ev_gc (rd_fail (d := d - 1) bg.1 hs (p := S2.1 470 7) (by omega)) (fun _ S3 q2 => ?_)
      obtain ⟨-, u, v⟩ := q2
      rw [e2.2.2.1] at u
      exact ev_ret u
    · rw [if_neg f0]
      refine ev_ite (fun _ => ?_) (fun z => by omega)
      refine ev_gg (by constructor <;> omega) ?_
      by_cases c9 : hdI (skB r) = 91
      · have gr := rd_group (d := d - 1) (mp := false) (k0 := k) hs hw (ih f0) (ihe f0) (by omega) (by omega) hP (by omega) (by omega) (by omega) hk2' hk2 c0 bg.1
        rw [decide_eq_false (show ¬ hdI (skB r) = 123 by omega)]
        refine ev_ite (fun z => absurd c9 z) (fun _ => ?_)
        refine ev_gv ?_
        rw [e54]
        refine ev_gg (by omega) ?_
        refine ev_gc gr (fun x S3 q3 => ?_)
        exact ev_ret q3
      · have gr := rd_group (d := d - 1) (mp := true) (k0 := k) hs hw (ih f0) (ihe f0) (by omega) (by omega) hP (by omega) (by omega) (by omega) hk2' hk2 c0 bg.1
        rw [decide_eq_true (show hdI (skB r) = 123 by omega)]
        refine ev_ite (fun _ => ?_) (fun z => absurd (fun w => c9 w) z)
        refine ev_gv ?_
        rw [e54]
        refine ev_gg (by omega) ?_
        refine ev_gc gr (fun x S3 q3 => ?_)
        exact ev_ret q3
  -- a leaf
  have leaf : ∀ {o : Rs (List ND × List Int)} {m : Nat → Option (Int × GS)}, LfOK o → Ev m (LfQ c2 s how S0 S2 (b + 1) P k o) → Ev (fun n => gc (m n) fun x S_3 => some (x, S_3)) (VQ c2 s how S0 (f + 1) P k (bd o (fun z => .inr (z.1, b + 1, z.2)))) := by
    intro o m hL hm
    refine ev_gc hm (fun x S3 q3 => ?_)
    refine ev_ret ?_
    cases o with
    | inl q => exact q3.1
    | inr z =>
      obtain ⟨y, e1, e2, e3, e4, e5, e6⟩ := hL z rfl
      refine ⟨q3.1.1, ?_⟩
      have := q3.1.2
      show RdC c2 s how S0 z.2 (b + 1) (P ++ nrH (decide (how = 2)) (f + 1) (kyT z.1 k)) S3
      rw [e1] at this ⊢
      rw [nrH_ky, nrH_leaf e2]
      exact this
  by_cases c3 : hdI (skB r) = 91
  · rw [if_pos (Or.inl c3)]
    refine ev_ite (fun _ => ?_) (fun z => absurd c3 z)
    have := v54 (Or.inl c3)
    exact this
  refine ev_ite (fun z => absurd z c3) (fun _ => ?_)
  by_cases c4 : hdI (skB r) = 123
  · rw [if_pos (Or.inr c4)]
    refine ev_ite (fun z => absurd c4 z) (fun _ => ?_)
    have := v54 (Or.inr c4)
    exact this
  refine ev_ite (fun _ => ?_) (fun z => absurd (fun w => c4 w) z)
  rw [if_neg (fun z => z.elim c3 c4)]
  by_cases c5 : hdI (skB r) = 34
  · rw [if_pos c5]
    refine ev_ite (fun z => absurd c5 z) (fun _ => ?_)
    exact leaf (rdTx_ok rg) (rd_text (d := d - 1) bg.1 hs (by omega) hk2' hk2 (by omega) c5)
  refine ev_ite (fun _ => ?_) (fun z => absurd (fun w => c5 w) z)
  rw [if_neg c5]
  by_cases c6 : hdI (skB r) = 45
  · rw [if_pos (Or.inl c6)]
    refine ev_ite (fun _ => ?_) (fun z => absurd c6 z)
    exact leaf (rdNb_ok rg) (rd_number (d := d - 1) bg.1 hs (by omega) hk2' hk2 (by omega))
  refine ev_ite (fun z => absurd z c6) (fun _ => ?_)
  by_cases c7 : fgC (hdI (skB r))
  · rw [if_pos (Or.inr c7)]
    refine ev_gcr (rd_as (x6_isFigure (d := d - 1) (by constructor <;> omega)) (if_pos c7)) ?_
    refine ev_gg (by decide) ?_
    refine ev_ite (fun z => absurd z (by decide)) (fun _ => ?_)
    exact leaf (rdNb_ok rg) (rd_number (d := d - 1) bg.1 hs (by omega) hk2' hk2 (by omega))
  · rw [if_neg (fun z => z.elim c6 c7)]
    refine ev_gcr (rd_as (x6_isFigure (d := d - 1) (by constructor <;> omega)) (if_neg c7)) ?_
    refine ev_gg (by decide) ?_
    refine ev_ite (fun _ => ?_) (fun z => absurd rfl z)
    exact leaf (rdC_ok rg) (rd_const (d := d - 1) bg.1 hs (by omega) hk2' hk2 (by omega))
theorem rd_value (hs : SrcOK c2 s) (hw : 0 ≤ how ∧ how ≤ 2) : ∀ (f d : Nat), f ≤ 12 → 3 * f + 14 ≤ d → VC c2 s how S0 (f + 1) d := by
  intro f
  induction f with
  | zero =>
    intro d hf hd
    exact rd_valueF hs hw (by omega) hd (fun z => absurd rfl z) (fun z => absurd rfl z)
  | succ f ih =>
    intro d hf hd
    exact rd_valueF hs hw hf hd (fun _ => ih (d - 1 - 1) (by omega) (by omega)) (fun _ => ih (d - 1 - 1 - 1) (by omega) (by omega))
theorem rd_parse (hG : Good S) (hs : SrcOK c2 s) (hv : SV S c2 s) (hw : 0 ≤ how ∧ how ≤ 2) (hd : 60 ≤ d) : Ev (fun n => f_X6_parse n d 0 S [((c2 : Nat) : Int), how]) (fun x S1 => Fr rdM S S1 ∧ Good S1 ∧ RQ (rdA how s) (fun q => x = plI2 s q) (fun T => x = -1 ∧ TO 336 (nrH (decide (how = 2)) 13 T, false) S1)) := by
  have g := hs.1
  have n1 := hs.2.1
  have n2 := hs.2.2.1
  have n3 := hs.2.2.2.1
  refine ev_up (fun n => e_X6_parse_0) ?_
  unfold b_X6_parse_0
  refine ev_gv ?_
  refine ev_gv ?_
  refine ev_gv ?_
  refine ev_gv ?_
  refine ev_gv ?_
  generalize hS : gI (gI (gI (gI (gR S 470 5 c2) 470 6 how) 470 7 0) 470 8 (-1)) 470 9 0 = S1
  have f1 : F470 S S1 := by
    rw [← hS]
    exact fr_tr (fr_gR rfl) (fr_tr (fr_gI rfl) (fr_tr (fr_gI rfl) (fr_tr (fr_gI rfl) (fr_gI rfl))))
  have G1 : Good S1 := by
    rw [← hS]
    exact good_gI (good_gI (good_gI (good_gI (good_gR hG (by omega)) (by constructor <;> omega) (fun q => by unfold isC at q; omega)) (by decide) (fun q => by unfold isC at q; omega)) (by decide) (fun q => by unfold isC at q; omega)) (by decide) (fun q => by unfold isC at q; omega)
  have v5 : S1.2.2 470 5 = c2 := by rw [← hS]; show (gR S 470 5 c2).2.2 470 5 = c2; exact gR_a
  have v6 : S1.1 470 6 = how := by rw [← hS, gI_k (by decide), gI_k (by decide), gI_k (by decide), gI_a]
  have v7 : S1.1 470 7 = 0 := by rw [← hS, gI_k (by decide), gI_k (by decide), gI_a]
  have v8 : S1.1 470 8 = -1 := by rw [← hS, gI_k (by decide), gI_a]
  have v9 : S1.1 470 9 = 0 := by rw [← hS, gI_a]
  refine ev_gg (by omega) ?_
  refine ev_gc (ty_clear gT336 G1) (fun _ S2 q2 => ?_)
  refine ev_gc (sx_clear gSh430 q2.2.2.2) (fun _ S3 s3 => ?_)
  have f3 : Fr rdM S S3 := fr_tr (fr_mono f1 (fun k hk => Or.inr (Or.inr hk))) (fr_tr (fr_mono q2.2.2.1 (fun k hk => Or.inl (by unfold trM at hk; omega))) (fr_mono s3.2.1 (fun k hk => Or.inr (Or.inl (by unfold shM at hk; omega)))))
  have e3 : S3.1 470 = S1.1 470 := by rw [(s3.2.1 470 (by unfold shM; omega)).1, (q2.2.2.1 470 (by unfold trM; omega)).1]
  have e3' : S3.2.2 470 = S1.2.2 470 := by rw [(s3.2.1 470 (by unfold shM; omega)).2.2, (q2.2.2.1 470 (by unfold trM; omega)).2.2]
  have v3 : SV S3 c2 s := sv_fr hv f3 (by unfold rdM; omega) (by unfold rdM; omega)
  have h3 : RdC c2 s how S s 0 [] S3 := by
    refine ⟨⟨by rw [e3']; exact v5, v3, ⟨[], s3.1, fun x hx => by cases hx⟩, f3, s3.2.2⟩, by rw [e3]; exact v6, ⟨[], rfl, by rw [e3]; exact v7⟩, by rw [e3]; exact v8, by rw [e3]; exact v9, to_fr (to_ty q2) s3.2.1 (fun k a b => by unfold shM; omega)⟩
  have call := rd_value (S0 := S) hs hw 12 (d - 1) (by decide) (by omega) [] S3 s [] 0 h3 s3.1 (fun x hx => by cases hx) wf_nil (Nat.le_refl _) (by decide)
  have e13 : (13 : Int) - ((12 + 1 : Nat) : Int) = 0 := by decide
  rw [e13] at call
  refine ev_gc call (fun x S4 q4 => ?_)
  unfold VQ at q4
  unfold rdA
  have tailF : ∀ {q : Int} {S4 : GS}, FlC c2 s S q S4 → Ev (fun n => gc (f_X6_skipBlanks n (d - 1) 0 S4 []) fun _ S_22 => gc (f_X6_here n (d - 1) 0 S_22 []) fun x24 S_25 => gg (inr x24) <| if x24 = (-1) then (gv (S_25.1 470 8) fun x29 => some (x29, S_25)) else (gv (S_25.1 470 7) fun x31 => gc (f_X6_fail n (d - 1) 0 S_25 [x31]) fun _ S_34 => gv (S_34.1 470 8) fun x36 => some (x36, S_34))) (fun x S1 => x = q ∧ FlC c2 s S q S1) := by
    intro q S4 fl
    refine ev_gc (fl_skips (d := d - 1) hs (by omega) fl) (fun _ S5 q5 => ?_)
    have hr := atD_s hs (S5.1 470 7)
    refine ev_gcr (fl_here (d := d - 1) q5.1 hs (by omega)) ?_
    refine ev_gg (by constructor <;> omega) ?_
    refine ev_ite (fun _ => ?_) (fun _ => ?_)
    · refine ev_gv ?_
      exact ev_ret ⟨q5.1.2.2.1, q5.1⟩
    · refine ev_gv ?_
      refine ev_gc (fl_fail (d := d - 1) q5.1) (fun _ S6 q6 => ?_)
      refine ev_gv ?_
      exact ev_ret ⟨q6.2.1.2.2.1, q6.2.1⟩
  cases ho : rdV (12 + 1) how 0 s with
  | inl q =>
    rw [ho] at q4
    exact ev_mono (tailF q4) (fun x S5 q5 => ⟨q5.2.1.2.2.2.1, q5.2.1.2.2.2.2, q5.1⟩)
  | inr z =>
    rw [ho] at q4
    obtain ⟨-, q4⟩ := q4
    refine ev_gc (rd_skip (d := d - 1) hs (by omega) _ S4 q4) (fun _ S5 q5 => ?_)
    have hr := hdI_r hs q5.1.2.2.1
    refine ev_gcr (rd_here (d := d - 1) q5.1 hs (by omega)) ?_
    refine ev_gg (by constructor <;> omega) ?_
    have vok := rdV_ok (12 + 1) _ _ _ ho (fun y hy => src_m hs y hy)
    have ek : kyT z.1 [] = z.1 := by
      have hq := vok.1.2.1
      have h1 := vok.1.1.1.1.2.1
      cases hv : z.1 with
      | nil => rw [hv] at h1; simp at h1
      | cons y t =>
        rw [hv] at hq
        have hq' : y.2.2.2.2 = [] := hq
        show wQ y [] :: t = y :: t
        rw [← hq']
        rfl
    show Ev _ (fun x S1 => _ ∧ _ ∧ RQ (if skB z.2.2 = [] then .inr z.1 else .inl (skB z.2.2)) _ _)
    by_cases c : skB z.2.2 = []
    · rw [if_pos c]
      refine ev_ite (fun _ => ?_) (fun w => absurd (show hdI (skB z.2.2) = -1 by rw [c]; rfl) w)
      refine ev_gv ?_
      refine ev_ret ⟨q5.1.1.2.2.2.1, q5.1.1.2.2.2.2, q5.1.2.2.2.1, ?_⟩
      have := q5.1.2.2.2.2.2
      rw [ek, List.nil_append] at this
      exact this
    · rw [if_neg c]
      have ne : hdI (skB z.2.2) ≠ -1 := by
        have m := hdI_mem c
        have := rng_skB (vok.2) _ m
        omega
      refine ev_ite (fun w => absurd w ne) (fun _ => ?_)
      refine ev_gv ?_
      have l5 := sf_le q5.1.2.2.1
      refine ev_gc (rd_fail (d := d - 1) q5.1 hs (p := S5.1 470 7) (by omega)) (fun _ S6 q6 => ?_)
      refine ev_gv ?_
      exact ev_ret ⟨q6.2.1.1.2.2.2.1, q6.2.1.1.2.2.2.2, by rw [q6.2.1.2.2.1]; exact l5.2.2.1⟩
theorem x6_result : Rd (fun n => f_X6_result n d 0 S []) ((336 : Nat) : Int) S := by
  refine ev_up (fun n => e_X6_result_0) ?_
  unfold b_X6_result_0
  exact ev_ret ⟨rfl, rfl⟩
end RW
