/-! SCHEMAS: WORDS that ask nothing -/
section CKT
variable {S S0 : GS} {cS cT d : Nat} {Sc T : List ND} {most : Int} {refs : List (Int × Int)} {K : CK}
theorem bo_01 (b : Bool) : bo b = 0 ∨ bo b = 1 := by cases b; exact Or.inl rfl; exact Or.inr rfl
theorem bo_in (b : Bool) : inr (bo b) := by cases b <;> decide
theorem lnI_r {S : GS} {c : Nat} {V : List ND} (hv : TV S c V) (hw : WF V) (i : Int) : -1 ≤ lnI V i ∧ lnI V i ≤ 100 := by
  have lV := tv_l hv
  unfold lnI
  by_cases c : 0 ≤ i ∧ i < (V.length : Int)
  · rw [if_pos c]
    have nr := tv_r (V := V) hv (i := i.toNat) (by omega)
    have l1 : (nt V i.toNat).length ≤ 40 := nr.2.2.2.2.2.2.1
    have l2 := ks_len (pz_l (nr_pzl hv.2.2.2)) _ (i.toNat + 1) (i.toNat + nz V i.toNat) (Nat.lt_succ_self _)
    have wi := hw.1 i.toNat (by omega)
    have l3 : (kids V i.toNat).length ≤ 100 := by unfold kids; omega
    split
    · omega
    · split <;> omega
  · rw [if_neg c]
    omega
theorem ck_20 {said node : Nat} (h2 : dkc cS ∧ dkc cT) (hd : 8 ≤ d) (wS : WF Sc) (h : CkS cS cT Sc T most refs K S0 S) (hs : said < Sc.length) (hn : node < T.length) : ∀ (m e : Nat) (n0 : Int) (b : Bool), said + nz Sc said - e < m → said < e → 0 ≤ n0 → n0 + ((said + nz Sc said - e : Nat) : Int) ≤ 99 → Rd (fun q => f_X0_isOfKinds q d 20 S [(said : Int), (node : Int), bo b, cur e (said + nz Sc said), n0]) (bo (b || (ks Sc e (said + nz Sc said)).any (okK Sc T node))) S := by
  intro m
  induction m with
  | zero => intros; omega
  | succ m ih =>
    intro e n0 b h1 h2' h3 h4
    have zS : PZ Sc := pz_l (nr_pzl h.2.1.1.1.2.2.2)
    have lS : Sc.length ≤ 100 := tv_l h.2.1.1.1
    have ws := wS.1 said hs
    by_cases he : e < said + nz Sc said
    · have we := wS.2.1 said e h2' he
      have ze := zS e
      have eS : e < Sc.length := by omega
      rw [ks_cons zS he, show cur e (said + nz Sc said) = (e : Int) from if_pos he, List.any_cons, ← Bool.or_assoc]
      have nx : ∀ b' : Bool, Rd (fun q => f_X0_isOfKinds q d 52 S [(said : Int), (node : Int), (e : Int), n0, bo b']) (bo (b' || (ks Sc (e + nz Sc e) (said + nz Sc said)).any (okK Sc T node))) S := by
        intro b'
        refine ev_up (fun n => e_X0_isOfKinds_52) ?_
        unfold b_X0_isOfKinds_52
        rw [h.1.1]
        refine ev_gv ?_
        refine ev_gg (by omega) ?_
        refine ev_gg h2.1.1 ?_
        refine ev_gcr (t_next (V := Sc) (d := d - 1) h2.1.1 h.2.1.1.1 wS h2' he hs) ?_
        refine ev_gv ?_
        exact ih (e + nz Sc e) (n0 + 1) b' (by omega) (by omega) (by omega) (by omega)
      refine ev_up (fun n => e_X0_isOfKinds_20) ?_
      unfold b_X0_isOfKinds_20
      refine ev_gg (by constructor <;> omega) ?_
      refine ev_ite (fun z => by omega) (fun _ => ?_)
      refine ev_gg (by constructor <;> omega) ?_
      refine ev_ite (fun z => by omega) (fun _ => ?_)
      refine ev_gg (bo_in b) ?_
      cases b with
      | true =>
        refine ev_ite (fun _ => ?_) (fun z => absurd (by decide) z)
        exact nx true
      | false =>
        refine ev_ite (fun z => absurd rfl z) (fun _ => ?_)
        refine ev_gg (by omega) ?_
        refine ev_gcr (ck_isOfKind (d := d - 1) (c := (e : Int)) h2 (by omega) h (by omega) hn) ?_
        refine ev_gg (bo_in _) ?_
        rw [Int.toNat_natCast, Bool.false_or]
        cases okK Sc T node e with
        | true =>
          refine ev_ite (fun z => absurd z (by decide)) (fun _ => ?_)
          exact nx true
        | false =>
          refine ev_ite (fun _ => ?_) (fun z => absurd rfl z)
          exact nx false
    · rw [ks_nil (by omega), show cur e (said + nz Sc said) = -1 from if_neg he, List.any_nil, Bool.or_false]
      refine ev_up (fun n => e_X0_isOfKinds_20) ?_
      unfold b_X0_isOfKinds_20
      refine ev_gg (by decide) ?_
      refine ev_ite (fun _ => ?_) (fun z => absurd rfl z)
      refine ev_gg (bo_01 b) ?_
      exact ev_ret ⟨rfl, rfl⟩
theorem ck_isOfKinds {said node : Nat} (h2 : dkc cS ∧ dkc cT) (hd : 10 ≤ d) (wS : WF Sc) (h : CkS cS cT Sc T most refs K S0 S) (hs : said < Sc.length) (hn : node < T.length) : Rd (fun n => f_X0_isOfKinds n d 0 S [(said : Int), (node : Int)]) (bo (okK Sc T node said || (kids Sc said).any (okK Sc T node))) S := by
  have lS : Sc.length ≤ 100 := tv_l h.2.1.1.1
  have ws := wS.1 said hs
  have zs := (pz_l (nr_pzl h.2.1.1.1.2.2.2) : PZ Sc) said
  refine ev_up (fun n => e_X0_isOfKinds_0) ?_
  unfold b_X0_isOfKinds_0
  refine ev_gg (by omega) ?_
  refine ev_gcr (ck_isOfKind (d := d - 1) (c := (said : Int)) h2 (by omega) h (by omega) hn) ?_
  rw [h.1.1, Int.toNat_natCast]
  refine ev_gv ?_
  refine ev_gg h2.1.1 ?_
  refine ev_gcr (t_first (V := Sc) (d := d - 1) h2.1.1 h.2.1.1.1 wS hs) ?_
  exact ck_20 (d := d) h2 (by omega) wS h hs hn _ (said + 1) 0 _ (Nat.lt_succ_self _) (by omega) (by decide) (by omega)
theorem ck_15 {said node : Nat} (h2 : dkc cS ∧ dkc cT) (hd : 40 ≤ d) (wS : WF Sc) (wT : WF T) (h : CkS cS cT Sc T most refs K S0 S) (hs : said < Sc.length) (hn : node < T.length) : ∀ (m e : Nat) (n0 : Int) (b : Bool), said + nz Sc said - e < m → said < e → 0 ≤ n0 → n0 + ((said + nz Sc said - e : Nat) : Int) ≤ 99 → Rd (fun q => f_X0_isOneOf q d 15 S [(said : Int), (node : Int), bo b, cur e (said + nz Sc said), n0]) (bo (b || (ks Sc e (said + nz Sc said)).any (fun c => smJ 13 Sc c T (node : Int)))) S := by
  intro m
  induction m with
  | zero => intros; omega
  | succ m ih =>
    intro e n0 b h1 h2' h3 h4
    have zS : PZ Sc := pz_l (nr_pzl h.2.1.1.1.2.2.2)
    have lS : Sc.length ≤ 100 := tv_l h.2.1.1.1
    have lT : T.length ≤ 100 := tv_l h.2.1.2.1
    have ws := wS.1 said hs
    by_cases he : e < said + nz Sc said
    · have we := wS.2.1 said e h2' he
      have ze := zS e
      have eS : e < Sc.length := by omega
      rw [ks_cons zS he, show cur e (said + nz Sc said) = (e : Int) from if_pos he, List.any_cons, ← Bool.or_assoc]
      have nx : ∀ b' : Bool, Rd (fun q => f_X0_isOneOf q d 55 S [(said : Int), (node : Int), (e : Int), n0, bo b']) (bo (b' || (ks Sc (e + nz Sc e) (said + nz Sc said)).any (fun c => smJ 13 Sc c T (node : Int)))) S := by
        intro b'
        refine ev_up (fun n => e_X0_isOneOf_55) ?_
        unfold b_X0_isOneOf_55
        rw [h.1.1]
        refine ev_gv ?_
        refine ev_gg (by omega) ?_
        refine ev_gg h2.1.1 ?_
        refine ev_gcr (t_next (V := Sc) (d := d - 1) h2.1.1 h.2.1.1.1 wS h2' he hs) ?_
        refine ev_gv ?_
        exact ih (e + nz Sc e) (n0 + 1) b' (by omega) (by omega) (by omega) (by omega)
      have sm := t_same (S := S) (c := cS) (c2 := cT) (V := Sc) (U := T) h2.1.1 h2.2.1 h.2.1.1.1 h.2.1.2.1 wS wT 13 e (d - 1) (node : Int) (Nat.le_refl _) eS (by constructor <;> omega) (by omega)
      rw [show (13 : Int) - ((13 : Nat) : Int) = 0 by decide] at sm
      refine ev_up (fun n => e_X0_isOneOf_15) ?_
      unfold b_X0_isOneOf_15
      refine ev_gg (by constructor <;> omega) ?_
      refine ev_ite (fun z => by omega) (fun _ => ?_)
      refine ev_gg (by constructor <;> omega) ?_
      refine ev_ite (fun z => by omega) (fun _ => ?_)
      refine ev_gg (bo_in b) ?_
      cases b with
      | true =>
        refine ev_ite (fun _ => ?_) (fun z => absurd (by decide) z)
        exact nx true
      | false =>
        refine ev_ite (fun z => absurd rfl z) (fun _ => ?_)
        rw [h.1.1, h.1.2]
        refine ev_gv ?_
        refine ev_gv ?_
        refine ev_gg (by omega) ?_
        refine ev_gg h2.1.1 ?_
        refine ev_gcr sm ?_
        rw [Bool.false_or]
        cases smJ 13 Sc e T (node : Int) with
        | true =>
          refine ev_gg (by decide) ?_
          refine ev_ite (fun z => absurd z (by decide)) (fun _ => ?_)
          exact nx true
        | false =>
          refine ev_gg (by decide) ?_
          refine ev_ite (fun _ => ?_) (fun z => absurd rfl z)
          exact nx false
    · rw [ks_nil (by omega), show cur e (said + nz Sc said) = -1 from if_neg he, List.any_nil, Bool.or_false]
      refine ev_up (fun n => e_X0_isOneOf_15) ?_
      unfold b_X0_isOneOf_15
      refine ev_gg (by decide) ?_
      refine ev_ite (fun _ => ?_) (fun z => absurd rfl z)
      refine ev_gg (bo_01 b) ?_
      exact ev_ret ⟨rfl, rfl⟩
theorem ck_isOneOf {said node : Nat} (h2 : dkc cS ∧ dkc cT) (hd : 40 ≤ d) (wS : WF Sc) (wT : WF T) (h : CkS cS cT Sc T most refs K S0 S) (hs : said < Sc.length) (hn : node < T.length) : Rd (fun n => f_X0_isOneOf n d 0 S [(said : Int), (node : Int)]) (bo ((kids Sc said).any (fun c => smJ 13 Sc c T (node : Int)))) S := by
  have lS : Sc.length ≤ 100 := tv_l h.2.1.1.1
  have ws := wS.1 said hs
  have zs := (pz_l (nr_pzl h.2.1.1.1.2.2.2) : PZ Sc) said
  have k := ck_15 (d := d) h2 (by omega) wS wT h hs hn _ (said + 1) 0 false (Nat.lt_succ_self _) (by omega) (by decide) (by omega)
  rw [Bool.false_or] at k
  refine ev_up (fun n => e_X0_isOneOf_0) ?_
  unfold b_X0_isOneOf_0
  rw [h.1.1]
  refine ev_gv ?_
  refine ev_gg (by omega) ?_
  refine ev_gg h2.1.1 ?_
  refine ev_gcr (t_first (V := Sc) (d := d - 1) h2.1.1 h.2.1.1.1 wS hs) ?_
  exact k
theorem ck_orderOfLength {said node : Nat} (h2 : dkc cS ∧ dkc cT) (hd : 10 ≤ d) (wT : WF T) (h : CkS cS cT Sc T most refs K S0 S) (hs : said < Sc.length) (hn : node < T.length) (h0 : lnI T (node : Int) ≠ -1) : Ev (fun n => f_X0_orderOfLength n d 0 S [(node : Int), (said : Int)]) (fun x S1 => x = onI (lnN T node) 0 Sc (said : Int) ∧ CkS cS cT Sc T most refs K S0 S1) := by
  have lS : Sc.length ≤ 100 := tv_l h.2.1.1.1
  have lT : T.length ≤ 100 := tv_l h.2.1.2.1
  have lr := lnI_r (V := T) h.2.1.2.1 wT (node : Int)
  have wl := wnum_len (lnI T (node : Int))
  have wr := wnum_r (v := lnI T (node : Int)) (by omega)
  refine ev_up (fun n => e_X0_orderOfLength_0) ?_
  unfold b_X0_orderOfLength_0
  refine ev_gg (by omega) ?_
  refine ev_gc (sx_clear (d := d - 1) gSh462 h.2.2.2.2.2.2) (fun _ S1 q1 => ?_)
  have h1 := ck_fr h2 h q1.2.1 (fun k z => by unfold shM at z; omega) q1.2.2
  rw [h1.1.2]
  refine ev_gv ?_
  refine ev_gg h2.2.1 ?_
  refine ev_gcr (t_length (V := T) (d := d - 1) (i := (node : Int)) h2.2.1 h1.2.1.2.1 wT (by omega) (by constructor <;> omega)) ?_
  refine ev_gc (s9_addNumber (d := d - 1) gSh462 (by omega) q1 (by omega) (by show 0 + 4 ≤ 24; decide)) (fun _ S2 q2 => ?_)
  rw [List.nil_append] at q2
  have h3 := ck_fr h2 h q2.2.1 (fun k z => by unfold shM at z; omega) q2.2.2
  refine ev_gc (ty_clear (d := d - 1) gT400 q2.2.2) (fun _ S3 q3 => ?_)
  refine ev_gc (ty_add (d := d - 1) (k := 2) gT400 q3 (by decide)) (fun x S4 q4 => ?_)
  obtain ⟨rfl, q4⟩ := q4
  have q4' : TY 400 S2 ([ndK 2], false) S4 := q4
  rw [show addA (([] : List ND), false).1 = ((0 : Nat) : Int) from rfl]
  refine ev_gc (ty_setNumber (d := d - 1) (i := 0) (neg := 0) (p := 0) gT400 gSh462 (by omega) q2.1 (fun x hx => (wr x hx).2) (by omega) (by decide) (by decide) (by decide) q4') (fun _ S5 q5 => ?_)
  have h5 := ck_fr h2 h3 q5.2.2.2.1 (fun k z => Or.inl z) q5.2.2.2.2
  rw [h5.1.1]
  refine ev_gv ?_
  have tv : TV S5 400 (lnN T node) := q5.2.1
  refine ev_gcr (t_orderOfNumbers (d := d - 1) (i := 0) (j := (said : Int)) gT400 h2.1.1 tv h5.2.1.1.1 (by omega) (by decide) (by constructor <;> omega)) ?_
  exact ev_ret ⟨rfl, h5⟩
end CKT
