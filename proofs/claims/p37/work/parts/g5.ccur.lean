/-! SCHEMAS: one question after another -/
/-- what is asked often enough -/
def AkI (most : Int) (K : CK) : Prop := 0 ≤ K.1 ∧ K.1 ≤ most + 1 ∧ (K.2.1 = false → K.1 ≤ most)
theorem ak_ckC {most : Int} {K : CK} {muted : Bool} {node w : Int} (h : AkI most K) : AkI most (ckC K muted node w) := by
  unfold ckC
  by_cases c : muted = true
  · rw [if_pos c]; exact h
  · rw [if_neg c]
    by_cases c2 : K.2.2.length < 1000
    · rw [if_pos c2]; exact h
    · rw [if_neg c2]; exact ⟨h.1, h.2.1, fun z => by cases z⟩
theorem ak_ckH {most : Int} {Sc T : List ND} {node : Nat} {muted : Bool} : ∀ (L : List Nat) (y : Bool × CK), AkI most y.2 → AkI most (ckH Sc T node muted L y).2
  | [], y, h => h
  | c :: L, y, h => by
    refine ak_ckH L _ ?_
    by_cases e : nk T node = 5 ∧ vLk T (node : Int) (tI Sc (c : Int)) = -1
    · rw [if_pos e]; exact ak_ckC h
    · rw [if_neg e]; exact h
theorem ak_plyF {most : Int} {Sc T : List ND} {w said node : Nat} {muted : Bool} {K : CK} (h : AkI most K) : AkI most (plyF Sc T w said node muted K).2 := by
  unfold plyF
  by_cases c : w = 6
  · rw [if_pos c]; exact ak_ckH _ _ h
  · rw [if_neg c]
    show AkI most (if plB Sc T w said node = true then K else ckC K muted (node : Int) (w : Int))
    by_cases e : plB Sc T w said node = true
    · rw [if_pos e]; exact h
    · rw [if_neg e]; exact ak_ckC h
section CKU
variable {S S0 : GS} {cS cT d : Nat} {Sc T : List ND} {most : Int} {refs : List (Int × Int)} {K : CK}
/-- where asking stands: a question, and those that are left -/
def CuQ (cS cT : Nat) (Sc T : List ND) (most : Int) (S0 : GS) (refs : List (Int × Int)) (w by_ said node : Nat) (no : Bool) : Int → List (Int × Int) → Prop
  | q, [] => q = if no = true then -2 else -1
  | q, x :: L => no = false ∧ (0 ≤ q ∧ q < 100) ∧ (x.2 = if w < 10 then q else (node : Int)) ∧ (x.1 = -1 ∨ (0 ≤ x.1 ∧ x.1 < (Sc.length : Int))) ∧ (0 ≤ x.2 ∧ x.2 < (T.length : Int)) ∧ (w = 15 → refs.length < 13) ∧ ∃ q', (∀ (d : Nat) (S : GS) (refs : List (Int × Int)) (K : CK), 12 ≤ d → CkS cS cT Sc T most refs K S0 S → Rd (fun n => f_X0_schemaOf n d 0 S [(w : Int), (by_ : Int), (said : Int), q]) x.1 S ∧ Rd (fun n => f_X0_nextQuestion n d 0 S [(w : Int), (said : Int), (node : Int), q]) q' S) ∧ CuQ cS cT Sc T most S0 refs w by_ said node no q' L
theorem cu_T {w by_ said node : Nat} {φ : Nat → Int} (h2 : dkc cS ∧ dkc cT) (hw : 7 ≤ w ∧ w < 10) (wT : WF T) (zT : PZ T) (lT : T.length ≤ 100) (hn : node < T.length) (hφ : ∀ q, q < T.length → (φ q = -1 ∨ (0 ≤ φ q ∧ φ q < (Sc.length : Int))) ∧ ∀ (d : Nat) (S : GS) (refs : List (Int × Int)) (K : CK), 12 ≤ d → CkS cS cT Sc T most refs K S0 S → Rd (fun n => f_X0_schemaOf n d 0 S [(w : Int), (by_ : Int), (said : Int), (q : Int)]) (φ q) S) : ∀ (m e : Nat), node + nz T node - e < m → node < e → CuQ cS cT Sc T most S0 refs w by_ said node false (cur e (node + nz T node)) ((ks T e (node + nz T node)).map (fun (q : Nat) => (φ q, (q : Int)))) := by
  intro m
  induction m with
  | zero => intros; omega
  | succ m ih =>
    intro e h1 h2'
    have wn := wT.1 node hn
    by_cases he : e < node + nz T node
    · have we := wT.2.1 node e h2' he
      have ze := zT e
      have eT : e < T.length := by omega
      rw [ks_cons zT he, show cur e (node + nz T node) = (e : Int) from if_pos he, List.map_cons]
      have f := hφ e eT
      refine ⟨rfl, by omega, by rw [if_pos hw.2], f.1, by omega, fun z => by omega, cur (e + nz T e) (node + nz T node), fun d S refs K hd hk => ⟨f.2 d S refs K hd hk, ?_⟩, ih (e + nz T e) (by omega) (by omega)⟩
      refine ev_up (fun n => e_X0_nextQuestion_0) ?_
      unfold b_X0_nextQuestion_0
      refine ev_gg (by constructor <;> omega) ?_
      refine ev_ite (fun z => by omega) (fun _ => ?_)
      rw [hk.1.2]
      refine ev_gv ?_
      refine ev_gg (by omega) ?_
      refine ev_gg h2.2.1 ?_
      refine ev_gcr (t_next (V := T) (d := d - 1) h2.2.1 hk.2.1.2.1 wT h2' he hn) ?_
      exact ev_ret ⟨rfl, rfl⟩
    · rw [ks_nil (by omega), show cur e (node + nz T node) = -1 from if_neg he]
      rfl
theorem cu_S {w by_ said node : Nat} (h2 : dkc cS ∧ dkc cT) (hw : 11 ≤ w ∧ w < 14) (wS : WF Sc) (zS : PZ Sc) (lS : Sc.length ≤ 100) (hs : said < Sc.length) (hn : node < T.length) : ∀ (m e : Nat), said + nz Sc said - e < m → said < e → CuQ cS cT Sc T most S0 refs w by_ said node false (cur e (said + nz Sc said)) ((ks Sc e (said + nz Sc said)).map (fun (q : Nat) => ((q : Int), (node : Int)))) := by
  intro m
  induction m with
  | zero => intros; omega
  | succ m ih =>
    intro e h1 h2'
    have wn := wS.1 said hs
    by_cases he : e < said + nz Sc said
    · have we := wS.2.1 said e h2' he
      have ze := zS e
      have eT : e < Sc.length := by omega
      rw [ks_cons zS he, show cur e (said + nz Sc said) = (e : Int) from if_pos he, List.map_cons]
      refine ⟨rfl, by omega, by rw [if_neg (by omega)], Or.inr (by show 0 ≤ (e : Int) ∧ (e : Int) < _; omega), by show 0 ≤ (node : Int) ∧ (node : Int) < _; omega, fun z => by omega, cur (e + nz Sc e) (said + nz Sc said), fun d S refs K hd hk => ⟨?_, ?_⟩, ih (e + nz Sc e) (by omega) (by omega)⟩
      · refine ev_up (fun n => e_X0_schemaOf_0) ?_
        unfold b_X0_schemaOf_0
        refine ev_gg (by constructor <;> omega) ?_
        refine ev_ite (fun z => by omega) (fun _ => ?_)
        refine ev_ite (fun z => by omega) (fun _ => ?_)
        refine ev_ite (fun z => by omega) (fun _ => ?_)
        exact ev_ret ⟨rfl, rfl⟩
      · refine ev_up (fun n => e_X0_nextQuestion_0) ?_
        unfold b_X0_nextQuestion_0
        refine ev_gg (by constructor <;> omega) ?_
        refine ev_ite (fun _ => ?_) (fun z => by omega)
        refine ev_ite (fun z => by omega) (fun _ => ?_)
        rw [hk.1.1]
        refine ev_gv ?_
        refine ev_gg (by omega) ?_
        refine ev_gg h2.1.1 ?_
        refine ev_gcr (t_next (V := Sc) (d := d - 1) h2.1.1 hk.2.1.1.1 wS h2' he hs) ?_
        exact ev_ret ⟨rfl, rfl⟩
    · rw [ks_nil (by omega), show cur e (said + nz Sc said) = -1 from if_neg he]
      rfl
/-- one question, by 14 and 15 -/
theorem cu_1 {w by_ said node : Nat} {q : Int} (hw : w = 14 ∨ w = 15) (hq : 0 ≤ q ∧ q < (Sc.length : Int)) (lS : Sc.length ≤ 100) (hn : node < T.length) (hr : w = 15 → refs.length < 13) : CuQ cS cT Sc T most S0 refs w by_ said node false q [(q, (node : Int))] := by
  refine ⟨rfl, by omega, by rw [if_neg (by omega)], Or.inr hq, by show 0 ≤ (node : Int) ∧ (node : Int) < _; omega, hr, -1, fun d S refs K hd hk => ⟨?_, ?_⟩, rfl⟩
  · refine ev_up (fun n => e_X0_schemaOf_0) ?_
    unfold b_X0_schemaOf_0
    refine ev_gg (by constructor <;> omega) ?_
    refine ev_ite (fun z => by omega) (fun _ => ?_)
    refine ev_ite (fun z => by omega) (fun _ => ?_)
    refine ev_ite (fun z => by omega) (fun _ => ?_)
    exact ev_ret ⟨rfl, rfl⟩
  · refine ev_up (fun n => e_X0_nextQuestion_0) ?_
    unfold b_X0_nextQuestion_0
    refine ev_gg (by constructor <;> omega) ?_
    refine ev_ite (fun _ => ?_) (fun z => by omega)
    refine ev_ite (fun _ => ?_) (fun z => by omega)
    exact ev_ret ⟨rfl, rfl⟩
/-- what is asked first -/
theorem ck_firstQuestion {w by_ said node : Nat} (h2 : dkc cS ∧ dkc cT) (hd : 14 ≤ d) (wS : WF Sc) (wT : WF T) (hw : 7 ≤ w ∧ w ≤ 15 ∧ w ≠ 10) (hb : by_ < Sc.length) (hs : said < Sc.length) (hn : node < T.length) (h : CkS cS cT Sc T most refs K S0 S) : Ev (fun n => f_X0_firstQuestion n d 0 S [(w : Int), (said : Int), (node : Int)]) (fun q S1 => CuQ cS cT Sc T most S0 refs w by_ said node (decide (w = 15 ∧ tgF Sc refs said node = -2)) q (qsL Sc T refs w by_ said node) ∧ CkS cS cT Sc T most refs K S0 S1) := by
  have lS : Sc.length ≤ 100 := tv_l h.2.1.1.1
  have lT : T.length ≤ 100 := tv_l h.2.1.2.1
  have zS : PZ Sc := pz_l (nr_pzl h.2.1.1.1.2.2.2)
  have zT : PZ T := pz_l (nr_pzl h.2.1.2.1.2.2.2)
  have kn : kdI T (node : Int) = nk T node := kd_nat hn
  have n15 : w ≠ 15 → decide (w = 15 ∧ tgF Sc refs said node = -2) = false := fun z => decide_eq_false (fun y => z y.1)
  have vS : ∀ (g : Int) (q : List Int), vLk Sc g q = -1 ∨ (0 ≤ vLk Sc g q ∧ vLk Sc g q < (Sc.length : Int)) := fun g q => vLk_r wS zS g q
  -- VALUES of a MAP
  have mp : ∀ {φ : Nat → Int}, 7 ≤ w ∧ w < 10 → (∀ q, q < T.length → (φ q = -1 ∨ (0 ≤ φ q ∧ φ q < (Sc.length : Int))) ∧ ∀ (d : Nat) (S : GS) (refs : List (Int × Int)) (K : CK), 12 ≤ d → CkS cS cT Sc T most refs K S0 S → Rd (fun n => f_X0_schemaOf n d 0 S [(w : Int), (by_ : Int), (said : Int), (q : Int)]) (φ q) S) → CuQ cS cT Sc T most S0 refs w by_ said node false (if nk T node = 5 then cur (node + 1) (node + nz T node) else -1) ((kidsM T node).map (fun (q : Nat) => (φ q, (q : Int)))) := by
    intro φ hw' hφ
    unfold kidsM
    by_cases c : nk T node = 5
    · rw [if_pos c, if_pos c]
      exact cu_T h2 hw' wT zT lT hn hφ _ (node + 1) (Nat.lt_succ_self _) (by omega)
    · rw [if_neg c, if_neg c]
      rfl
  refine ev_up (fun n => e_X0_firstQuestion_0) ?_
  unfold b_X0_firstQuestion_0
  refine ev_gg (by constructor <;> omega) ?_
  by_cases c7 : w = 7
  · refine ev_ite (fun _ => ?_) (fun z => by omega)
    rw [h.1.2]
    refine ev_gv ?_
    refine ev_gg (by omega) ?_
    refine ev_gg h2.2.1 ?_
    refine ev_gcr (t_firstOfMap (V := T) (d := d - 1) h2.2.1 h.2.1.2.1 wT hn) ?_
    refine ev_ret ⟨?_, h⟩
    rw [n15 (by omega)]
    have e : qsL Sc T refs w by_ said node = (kidsM T node).map (fun (q : Nat) => (vLk Sc (said : Int) (nq T q), (q : Int))) := if_pos c7
    rw [e]
    refine mp (by omega) (fun q hq => ⟨vS _ _, fun d S refs K hd hk => ?_⟩)
    subst c7
    refine ev_up (fun n => e_X0_schemaOf_0) ?_
    unfold b_X0_schemaOf_0
    refine ev_gg (by decide) ?_
    refine ev_ite (fun _ => ?_) (fun z => absurd rfl z)
    rw [hk.1.1, hk.1.2]
    refine ev_gv ?_
    refine ev_gv ?_
    refine ev_gg (by omega) ?_
    refine ev_gg h2.1.1 ?_
    refine ev_gcr (t_valueLike (V := Sc) (U := T) (d := d - 1) (g := (said : Int)) (j := q) h2.1.1 hk.2.1.1.1 wS (by constructor <;> omega) (by omega) h2.2.1 hk.2.1.2.1 hq) ?_
    exact ev_ret ⟨rfl, rfl⟩
  refine ev_ite (fun z => by omega) (fun _ => ?_)
  by_cases c8 : w = 8
  · refine ev_ite (fun _ => ?_) (fun z => by omega)
    rw [h.1.2]
    refine ev_gv ?_
    refine ev_gg (by omega) ?_
    refine ev_gg h2.2.1 ?_
    refine ev_gcr (t_firstOfMap (V := T) (d := d - 1) h2.2.1 h.2.1.2.1 wT hn) ?_
    refine ev_ret ⟨?_, h⟩
    rw [n15 (by omega)]
    have e : qsL Sc T refs w by_ said node = (kidsM T node).map (fun (q : Nat) => (if vLk Sc (vLk Sc (by_ : Int) (sx 37)) (nq T q) = -1 then (said : Int) else -1, (q : Int))) := by
      unfold qsL
      rw [if_neg (by omega), if_pos c8]
    rw [e]
    refine mp (φ := fun q => if vLk Sc (vLk Sc (by_ : Int) (sx 37)) (nq T q) = -1 then (said : Int) else -1) (by omega) (fun q hq => ⟨?_, fun d S refs K hd hk => ?_⟩)
    · by_cases y : vLk Sc (vLk Sc (by_ : Int) (sx 37)) (nq T q) = -1
      · exact Or.inr (by simp only [if_pos y]; omega)
      · exact Or.inl (by simp only [if_neg y])
    subst c8
    have v1 := vS (by_ : Int) (sx 37)
    have v2 := vS (vLk Sc (by_ : Int) (sx 37)) (nq T q)
    refine ev_up (fun n => e_X0_schemaOf_0) ?_
    unfold b_X0_schemaOf_0
    refine ev_gg (by decide) ?_
    refine ev_ite (fun z => absurd z (by decide)) (fun _ => ?_)
    refine ev_ite (fun _ => ?_) (fun z => absurd rfl z)
    rw [hk.1.1]
    refine ev_gv ?_
    refine ev_gv ?_
    refine ev_gg (by omega) ?_
    refine ev_gg h2.1.1 ?_
    refine ev_gcr (t_valueNamed (V := Sc) (d := d - 1) (g := (by_ : Int)) (t := 37) h2.1.1 hk.2.1.1.1 wS (by constructor <;> omega) (by omega) (by decide)) ?_
    rw [hk.1.2]
    refine ev_gv ?_
    refine ev_gg h2.1.1 ?_
    refine ev_gcr (t_valueLike (V := Sc) (U := T) (d := d - 1) (g := vLk Sc (by_ : Int) (sx 37)) (j := q) h2.1.1 hk.2.1.1.1 wS (by rcases v1 with z | z <;> constructor <;> omega) (by omega) h2.2.1 hk.2.1.2.1 hq) ?_
    refine ev_gg (by rcases v2 with z | z <;> constructor <;> omega) ?_
    refine ev_ite (fun z => ?_) (fun z => ?_)
    · exact ev_ret ⟨(if_neg z).symm, rfl⟩
    · exact ev_ret ⟨(if_pos (by omega)).symm, rfl⟩
  refine ev_ite (fun z => by omega) (fun _ => ?_)
  by_cases c9 : w = 9
  · refine ev_ite (fun _ => ?_) (fun z => by omega)
    rw [h.1.2]
    refine ev_gv ?_
    refine ev_gg (by omega) ?_
    refine ev_gg h2.2.1 ?_
    refine ev_gcr (rd_as (t_is (S := S) (V := T) (d := d - 1) (i := (node : Int)) (k := 4) h2.2.1 h.2.1.2.1 (by constructor <;> omega) (by decide)) (is_kd (by decide))) ?_
    rw [kn, n15 (by omega)]
    have e : qsL Sc T refs w by_ said node = (if nk T node = 4 then kids T node else []).map (fun (q : Nat) => ((said : Int), (q : Int))) := by
      unfold qsL
      rw [if_neg (by omega), if_neg (by omega), if_pos c9]
    rw [e]
    by_cases c : nk T node = 4
    · rw [if_pos c, if_pos c]
      refine ev_gg (by decide) ?_
      refine ev_ite (fun z => absurd z (by decide)) (fun _ => ?_)
      rw [h.1.2]
      refine ev_gv ?_
      refine ev_gg h2.2.1 ?_
      refine ev_gcr (t_first (V := T) (d := d - 1) h2.2.1 h.2.1.2.1 wT hn) ?_
      refine ev_ret ⟨?_, h⟩
      refine cu_T (φ := fun _ => (said : Int)) h2 (by omega) wT zT lT hn (fun q hq => ⟨Or.inr (by omega), fun d S refs K hd hk => ?_⟩) _ (node + 1) (Nat.lt_succ_self _) (by omega)
      subst c9
      refine ev_up (fun n => e_X0_schemaOf_0) ?_
      unfold b_X0_schemaOf_0
      refine ev_gg (by decide) ?_
      refine ev_ite (fun z => absurd z (by decide)) (fun _ => ?_)
      refine ev_ite (fun z => absurd z (by decide)) (fun _ => ?_)
      refine ev_ite (fun _ => ?_) (fun z => absurd rfl z)
      exact ev_ret ⟨rfl, rfl⟩
    · rw [if_neg c, if_neg c]
      refine ev_gg (by decide) ?_
      refine ev_ite (fun _ => ?_) (fun z => absurd rfl z)
      exact ev_ret ⟨rfl, h⟩
  refine ev_ite (fun z => by omega) (fun _ => ?_)
  refine ev_ite (fun z => by omega) (fun _ => ?_)
  have rowE : w ≠ 14 → w ≠ 15 → qsL Sc T refs w by_ said node = (kids Sc said).map (fun (q : Nat) => ((q : Int), (node : Int))) := by
    intro y1 y2
    unfold qsL
    rw [if_neg (by omega), if_neg (by omega), if_neg (by omega), if_neg y1, if_neg y2]
  have row : 11 ≤ w ∧ w < 14 → Ev (fun n => gv (S.2.2 487 9) fun z43 => gg (1 ≤ d) <| gg (gT z43) <| gc (f_X10_first n (d - 1) 0 S [((z43 : Nat) : Int), (said : Int)]) fun x47 S_48 => some (x47, S_48)) (fun q S1 => CuQ cS cT Sc T most S0 refs w by_ said node (decide (w = 15 ∧ tgF Sc refs said node = -2)) q (qsL Sc T refs w by_ said node) ∧ CkS cS cT Sc T most refs K S0 S1) := by
    intro hw'
    rw [h.1.1, n15 (by omega), rowE (by omega) (by omega)]
    refine ev_gv ?_
    refine ev_gg (by omega) ?_
    refine ev_gg h2.1.1 ?_
    refine ev_gcr (t_first (V := Sc) (d := d - 1) h2.1.1 h.2.1.1.1 wS hs) ?_
    exact ev_ret ⟨cu_S h2 hw' wS zS lS hs hn _ (said + 1) (Nat.lt_succ_self _) (by omega), h⟩
  refine ev_ite (fun z => row (by omega)) (fun _ => ?_)
  refine ev_ite (fun z => row (by omega)) (fun _ => ?_)
  refine ev_ite (fun z => row (by omega)) (fun _ => ?_)
  by_cases c14 : w = 14
  · refine ev_ite (fun _ => ?_) (fun z => by omega)
    refine ev_ret ⟨?_, h⟩
    have e : qsL Sc T refs w by_ said node = [((said : Int), (node : Int))] := by
      unfold qsL
      rw [if_neg (by omega), if_neg (by omega), if_neg (by omega), if_pos c14]
    rw [n15 (by omega), e]
    exact cu_1 (Or.inl c14) (by omega) lS hn (fun z => by omega)
  refine ev_ite (fun z => by omega) (fun _ => ?_)
  have c15 : w = 15 := by omega
  refine ev_ite (fun _ => ?_) (fun z => by omega)
  refine ev_gg (by omega) ?_
  refine ev_gc (ck_target (d := d - 1) h2 (by omega) wS h hs hn) (fun x S1 q1 => ?_)
  obtain ⟨rfl, q1⟩ := q1
  refine ev_ret ⟨?_, q1⟩
  have e : qsL Sc T refs w by_ said node = if tgF Sc refs said node < 0 then [] else [(tgF Sc refs said node, (node : Int))] := by
    unfold qsL
    rw [if_neg (by omega), if_neg (by omega), if_neg (by omega), if_neg (by omega), if_pos c15]
  have tr : tgF Sc refs said node = -2 ∨ tgF Sc refs said node = -1 ∨ ((0 ≤ tgF Sc refs said node ∧ tgF Sc refs said node < (Sc.length : Int)) ∧ refs.length < 13) := by
    have v := vS (vLk Sc 0 (sx 53)) (tI Sc (said : Int))
    unfold tgF
    by_cases y1 : vLk Sc (vLk Sc 0 (sx 53)) (tI Sc (said : Int)) = -1
    · exact Or.inl (if_pos y1)
    · rw [if_neg y1]
      by_cases y2 : (vLk Sc (vLk Sc 0 (sx 53)) (tI Sc (said : Int)), (node : Int)) ∈ refs
      · exact Or.inr (Or.inl (if_pos y2))
      · rw [if_neg y2]
        by_cases y3 : 13 ≤ refs.length
        · exact Or.inl (if_pos y3)
        · rw [if_neg y3]
          exact Or.inr (Or.inr ⟨by rcases v with z | z; exact absurd z y1; exact z, by omega⟩)
  rw [e]
  rcases tr with t | t | t
  · rw [decide_eq_true ⟨c15, t⟩, if_pos (by omega)]
    exact t
  · rw [decide_eq_false (fun y => by have := y.2; omega), if_pos (by omega)]
    exact t
  · rw [decide_eq_false (fun y => by have := y.2; omega), if_neg (by omega)]
    exact cu_1 (Or.inr c15) t.1 lS hn (fun _ => t.2)
theorem qs_len {w by_ said node : Nat} (zS : PZ Sc) (zT : PZ T) (wS : WF Sc) (wT : WF T) (lS : Sc.length ≤ 100) (lT : T.length ≤ 100) (hs : said < Sc.length) (hn : node < T.length) : (qsL Sc T refs w by_ said node).length ≤ 99 := by
  have w1 := wS.1 said hs
  have w2 := wT.1 node hn
  have k1 : (kids Sc said).length ≤ 99 := by
    have := ks_len zS _ (said + 1) (said + nz Sc said) (Nat.lt_succ_self _)
    unfold kids; omega
  have k2 : (kids T node).length ≤ 99 := by
    have := ks_len zT _ (node + 1) (node + nz T node) (Nat.lt_succ_self _)
    unfold kids; omega
  have k3 : (kidsM T node).length ≤ 99 := by
    unfold kidsM
    split
    · exact k2
    · decide
  unfold qsL
  split
  · rw [List.length_map]; exact k3
  · split
    · rw [List.length_map]; exact k3
    · split
      · rw [List.length_map]
        split
        · exact k2
        · decide
      · split
        · show 1 ≤ 99; decide
        · split
          · split
            · decide
            · show 1 ≤ 99; decide
          · rw [List.length_map]; exact k1
end CKU
