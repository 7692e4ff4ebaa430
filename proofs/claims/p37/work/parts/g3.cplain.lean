/-! SCHEMAS: WORDS that ask nothing, all of them -/
theorem onI_r (V : List ND) (i : Int) (U : List ND) (j : Int) : onI V i U j = -1 ∨ onI V i U j = 0 ∨ onI V i U j = 1 := by
  have r1 := sgI_r V i
  have r3 := oD_r (V := V) (U := U) (i := i) (j := j) 24 0 (ord3 (fgI V i + pwI V i) (fgI U j + pwI U j)) (ord3_r _ _)
  unfold onI
  by_cases c : sgI V i ≠ sgI U j ∨ sgI V i = 0
  · rw [if_pos c]
    exact ord3_r _ _
  · rw [if_neg c]
    rcases r1 with e | e | e <;> rcases r3 with g | g | g <;> rw [e, g] <;> decide
section CKP
variable {S S0 : GS} {cS cT d : Nat} {Sc T : List ND} {most : Int} {refs : List (Int × Int)} {K : CK}
theorem ck_16 {said node : Nat} {muted : Bool} (h2 : dkc cS ∧ dkc cT) (hd : 8 ≤ d) (wS : WF Sc) (wT : WF T) (hs : said < Sc.length) (hn : node < T.length) : ∀ (m e : Nat) (n0 : Int) (b : Bool) (K : CK) (S : GS), said + nz Sc said - e < m → said < e → 0 ≤ n0 → n0 + ((said + nz Sc said - e : Nat) : Int) ≤ 99 → CkS cS cT Sc T most refs K S0 S → Ev (fun q => f_X0_hasAll q d 16 S [(said : Int), (node : Int), bo muted, bo b, cur e (said + nz Sc said), n0]) (fun x S1 => x = bo (ckH Sc T node muted (ks Sc e (said + nz Sc said)) (b, K)).1 ∧ CkS cS cT Sc T most refs (ckH Sc T node muted (ks Sc e (said + nz Sc said)) (b, K)).2 S0 S1) := by
  intro m
  induction m with
  | zero => intros; omega
  | succ m ih =>
    intro e n0 b K S h1 h2' h3 h4 h
    have zS : PZ Sc := pz_l (nr_pzl h.2.1.1.1.2.2.2)
    have zT : PZ T := pz_l (nr_pzl h.2.1.2.1.2.2.2)
    have lS : Sc.length ≤ 100 := tv_l h.2.1.1.1
    have lT : T.length ≤ 100 := tv_l h.2.1.2.1
    have ws := wS.1 said hs
    by_cases he : e < said + nz Sc said
    · have we := wS.2.1 said e h2' he
      have ze := zS e
      have eS : e < Sc.length := by omega
      rw [ks_cons zS he, show cur e (said + nz Sc said) = (e : Int) from if_pos he]
      have nx : ∀ (b' : Bool) (K' : CK) (S2 : GS), CkS cS cT Sc T most refs K' S0 S2 → Ev (fun q => f_X0_hasAll q d 88 S2 [(said : Int), (node : Int), bo muted, bo b', (e : Int), n0]) (fun x S1 => x = bo (ckH Sc T node muted (ks Sc (e + nz Sc e) (said + nz Sc said)) (b', K')).1 ∧ CkS cS cT Sc T most refs (ckH Sc T node muted (ks Sc (e + nz Sc e) (said + nz Sc said)) (b', K')).2 S0 S1) := by
        intro b' K' S2 q2
        refine ev_up (fun n => e_X0_hasAll_88) ?_
        unfold b_X0_hasAll_88
        rw [q2.1.1]
        refine ev_gv ?_
        refine ev_gg (by omega) ?_
        refine ev_gg h2.1.1 ?_
        refine ev_gcr (t_next (V := Sc) (d := d - 1) h2.1.1 q2.2.1.1.1 wS h2' he hs) ?_
        refine ev_gv ?_
        exact ih (e + nz Sc e) (n0 + 1) b' K' S2 (by omega) (by omega) (by omega) (by omega) q2
      show Ev _ (fun x S1 => x = bo (ckH Sc T node muted (ks Sc (e + nz Sc e) (said + nz Sc said)) (if nk T node = 5 ∧ vLk T (node : Int) (tI Sc (e : Int)) = -1 then (false, ckC K muted (node : Int) 6) else (b, K))).1 ∧ CkS cS cT Sc T most refs (ckH Sc T node muted (ks Sc (e + nz Sc e) (said + nz Sc said)) (if nk T node = 5 ∧ vLk T (node : Int) (tI Sc (e : Int)) = -1 then (false, ckC K muted (node : Int) 6) else (b, K))).2 S0 S1)
      have tl : (tI Sc (e : Int)).length ≤ 40 := by
        rw [tI_p (by omega), Int.toNat_natCast]
        exact (tv_r (V := Sc) h.2.1.1.1 eS).2.2.2.2.2.2.1
      have kn : kdI T (node : Int) = nk T node := kd_nat hn
      refine ev_up (fun n => e_X0_hasAll_16) ?_
      unfold b_X0_hasAll_16
      refine ev_gg (by constructor <;> omega) ?_
      refine ev_ite (fun z => by omega) (fun _ => ?_)
      refine ev_gg (by constructor <;> omega) ?_
      refine ev_ite (fun z => by omega) (fun _ => ?_)
      refine ev_gg (by omega) ?_
      refine ev_gc (sx_clear (d := d - 1) gSh460 h.2.2.2.2.2.2) (fun _ S1 q1 => ?_)
      have k1 := ck_fr h2 h q1.2.1 (fun k z => by unfold shM at z; omega) q1.2.2
      rw [k1.1.1]
      refine ev_gv ?_
      refine ev_gg h2.1.1 ?_
      refine ev_gc (t_signsTo (V := Sc) (d := d - 1) (i := (e : Int)) h2.1.1 gSh460 (by omega) k1.2.1.1.1 (by constructor <;> omega) (sx_rf q1.2.2 q1.1) (by show 0 + _ ≤ 40; omega)) (fun _ S2 q2 => ?_)
      rw [List.nil_append] at q2
      have k2 := ck_fr h2 k1 q2.2.1 (fun k z => by unfold shM at z; omega) q2.2.2
      rw [k2.1.2]
      refine ev_gv ?_
      refine ev_gg h2.2.1 ?_
      refine ev_gcr (rd_as (t_is (V := T) (d := d - 1) (i := (node : Int)) (k := 5) h2.2.1 k2.2.1.2.1 (by constructor <;> omega) (by decide)) (is_kd (by decide))) ?_
      rw [kn]
      by_cases c5 : nk T node = 5
      · rw [if_pos c5]
        refine ev_gg (by decide) ?_
        refine ev_ite (fun z => absurd z (by decide)) (fun _ => ?_)
        rw [k2.1.2]
        refine ev_gv ?_
        refine ev_gg h2.2.1 ?_
        refine ev_gcr (t_valueOf (V := T) (d := d - 1) (g := (node : Int)) h2.2.1 k2.2.1.2.1 wT (by constructor <;> omega) (by omega) gSh460 q2.1) ?_
        have vr := vLk_r wT zT (node : Int) (tI Sc (e : Int))
        refine ev_gg (by rcases vr with z | z <;> constructor <;> omega) ?_
        by_cases cv : vLk T (node : Int) (tI Sc (e : Int)) = -1
        · rw [if_pos ⟨c5, cv⟩]
          refine ev_ite (fun z => absurd cv z) (fun _ => ?_)
          refine ev_gc (ck_complain (d := d - 1) (node := (node : Int)) (w := 6) h2 (by constructor <;> omega) (by decide) k2) (fun _ S3 q3 => ?_)
          exact nx false _ S3 q3
        · rw [if_neg (fun z => cv z.2)]
          refine ev_ite (fun _ => ?_) (fun z => absurd (fun w => cv w) z)
          exact nx b K S2 k2
      · rw [if_neg c5, if_neg (fun z => c5 z.1)]
        refine ev_gg (by decide) ?_
        refine ev_ite (fun _ => ?_) (fun z => absurd rfl z)
        exact nx b K S2 k2
    · rw [ks_nil (by omega), show cur e (said + nz Sc said) = -1 from if_neg he]
      refine ev_up (fun n => e_X0_hasAll_16) ?_
      unfold b_X0_hasAll_16
      refine ev_gg (by decide) ?_
      refine ev_ite (fun _ => ?_) (fun z => absurd rfl z)
      refine ev_gg (bo_01 b) ?_
      exact ev_ret ⟨rfl, h⟩
theorem ck_hasAll {said node : Nat} {muted : Bool} (h2 : dkc cS ∧ dkc cT) (hd : 8 ≤ d) (wS : WF Sc) (wT : WF T) (h : CkS cS cT Sc T most refs K S0 S) (hs : said < Sc.length) (hn : node < T.length) : Ev (fun q => f_X0_hasAll q d 0 S [(said : Int), (node : Int), bo muted]) (fun x S1 => x = bo (ckH Sc T node muted (kids Sc said) (true, K)).1 ∧ CkS cS cT Sc T most refs (ckH Sc T node muted (kids Sc said) (true, K)).2 S0 S1) := by
  have lS : Sc.length ≤ 100 := tv_l h.2.1.1.1
  have ws := wS.1 said hs
  have zs := (pz_l (nr_pzl h.2.1.1.1.2.2.2) : PZ Sc) said
  refine ev_up (fun n => e_X0_hasAll_0) ?_
  unfold b_X0_hasAll_0
  rw [h.1.1]
  refine ev_gv ?_
  refine ev_gg (by omega) ?_
  refine ev_gg h2.1.1 ?_
  refine ev_gcr (t_first (V := Sc) (d := d - 1) h2.1.1 h.2.1.1.1 wS hs) ?_
  exact ck_16 (d := d) h2 hd wS wT hs hn _ (said + 1) 0 true K S (Nat.lt_succ_self _) (by omega) (by decide) (by omega) h
theorem ck_209 {w node : Nat} {muted b : Bool} (h2 : dkc cS ∧ dkc cT) (hd : 3 ≤ d) (hw : w < 100) (h : CkS cS cT Sc T most refs K S0 S) (hn : node < T.length) : Ev (fun q => f_X0_plainly q d 209 S [(w : Int), (node : Int), bo muted, bo b]) (fun x S1 => x = bo b ∧ CkS cS cT Sc T most refs (if b = true then K else ckC K muted (node : Int) (w : Int)) S0 S1) := by
  have lT : T.length ≤ 100 := tv_l h.2.1.2.1
  refine ev_up (fun n => e_X0_plainly_209) ?_
  unfold b_X0_plainly_209
  refine ev_gg (bo_in b) ?_
  cases b with
  | true =>
    refine ev_ite (fun _ => ?_) (fun z => absurd (by decide) z)
    refine ev_gg (by decide) ?_
    exact ev_ret ⟨rfl, h⟩
  | false =>
    refine ev_ite (fun z => absurd rfl z) (fun _ => ?_)
    refine ev_gg (by omega) ?_
    refine ev_gc (ck_complain (d := d - 1) (node := (node : Int)) (w := (w : Int)) h2 (by constructor <;> omega) (by constructor <;> omega) h) (fun _ S3 q3 => ?_)
    refine ev_gg (by decide) ?_
    exact ev_ret ⟨rfl, q3⟩
theorem ck_plainly {w said node : Nat} {muted : Bool} (h2 : dkc cS ∧ dkc cT) (hd : 50 ≤ d) (wS : WF Sc) (wT : WF T) (hw : 1 ≤ w ∧ (w ≤ 6 ∨ w = 10)) (h : CkS cS cT Sc T most refs K S0 S) (hs : said < Sc.length) (hn : node < T.length) : Ev (fun q => f_X0_plainly q d 0 S [(w : Int), (said : Int), (node : Int), bo muted]) (fun x S1 => x = bo (plyF Sc T w said node muted K).1 ∧ CkS cS cT Sc T most refs (plyF Sc T w said node muted K).2 S0 S1) := by
  have lS : Sc.length ≤ 100 := tv_l h.2.1.1.1
  have lT : T.length ≤ 100 := tv_l h.2.1.2.1
  have kn : kdI T (node : Int) = nk T node := kd_nat hn
  have lr := lnI_r (V := T) h.2.1.2.1 wT (node : Int)
  have isN := rd_as (t_is (S := S) (V := T) (d := d - 1) (i := (node : Int)) (k := 2) h2.2.1 h.2.1.2.1 (by constructor <;> omega) (by decide)) (is_kd (by decide))
  rw [kn] at isN
  have on := t_orderOfNumbers (S := S) (V := T) (U := Sc) (d := d - 1) (i := (node : Int)) (j := (said : Int)) h2.2.1 h2.1.1 h.2.1.2.1 h.2.1.1.1 (by omega) (by constructor <;> omega) (by constructor <;> omega)
  have ln := t_length (S := S) (V := T) (d := d - 1) (i := (node : Int)) h2.2.1 h.2.1.2.1 wT (by omega) (by constructor <;> omega)
  have oir : ∀ (V : List ND) (i j : Int), onI V i Sc j = -1 ∨ onI V i Sc j = 0 ∨ onI V i Sc j = 1 := fun V i j => onI_r V i Sc j
  unfold plyF
  refine ev_up (fun n => e_X0_plainly_0) ?_
  unfold b_X0_plainly_0
  refine ev_gg (by constructor <;> omega) ?_
  by_cases c6 : w = 6
  · subst c6
    refine ev_ite (fun z => absurd rfl z) (fun _ => ?_)
    refine ev_gg (by omega) ?_
    rw [if_pos rfl]
    refine ev_gc (ck_hasAll (d := d - 1) h2 (by omega) wS wT h hs hn) (fun x S1 q1 => ?_)
    rw [q1.1]
    refine ev_gg (bo_01 _) ?_
    exact ev_ret ⟨rfl, q1.2⟩
  rw [if_neg c6]
  refine ev_ite (fun _ => ?_) (fun z => by omega)
  have fin : ∀ (b : Bool) (S1 : GS), CkS cS cT Sc T most refs K S0 S1 → plB Sc T w said node = b → Ev (fun q => f_X0_plainly q d 209 S1 [(w : Int), (node : Int), bo muted, bo b]) (fun x S1 => x = bo (plB Sc T w said node) ∧ CkS cS cT Sc T most refs (if plB Sc T w said node = true then K else ckC K muted (node : Int) (w : Int)) S0 S1) := by
    intro b S1 q1 hb
    rw [hb]
    exact ck_209 (d := d) h2 (by omega) (by omega) q1 hn
  by_cases c1 : w = 1
  · subst c1
    refine ev_ite (fun _ => ?_) (fun z => absurd rfl z)
    refine ev_gg (by omega) ?_
    refine ev_gcr (ck_isOfKinds (d := d - 1) h2 (by omega) wS h hs hn) ?_
    exact fin _ S h rfl
  refine ev_ite (fun z => by omega) (fun _ => ?_)
  by_cases c2 : w = 2
  · subst c2
    have pe : plB Sc T 2 said node = decide (nk T node ≠ 2 ∨ 0 ≤ onI T (node : Int) Sc (said : Int)) := rfl
    refine ev_ite (fun _ => ?_) (fun z => absurd rfl z)
    rw [h.1.2]
    refine ev_gv ?_
    refine ev_gg (by omega) ?_
    refine ev_gg h2.2.1 ?_
    refine ev_gcr isN ?_
    by_cases k2 : nk T node = 2
    · rw [if_pos k2]
      refine ev_gg (by decide) ?_
      refine ev_ite (fun z => absurd z (by decide)) (fun _ => ?_)
      rw [h.1.2, h.1.1]
      refine ev_gv ?_
      refine ev_gv ?_
      refine ev_gg h2.2.1 ?_
      refine ev_gcr on ?_
      have r := oir T (node : Int) (said : Int)
      refine ev_gg (by rcases r with z | z | z <;> rw [z] <;> decide) ?_
      refine ev_ite (fun z => ?_) (fun z => ?_)
      · exact fin false S h (by rw [pe]; exact decide_eq_false (fun q => by rcases q with q | q; exact q k2; omega))
      · exact fin true S h (by rw [pe]; exact decide_eq_true (Or.inr (by omega)))
    · rw [if_neg k2]
      refine ev_gg (by decide) ?_
      refine ev_ite (fun _ => ?_) (fun z => absurd rfl z)
      exact fin true S h (by rw [pe]; exact decide_eq_true (Or.inl k2))
  refine ev_ite (fun z => by omega) (fun _ => ?_)
  by_cases c3 : w = 3
  · subst c3
    have pe : plB Sc T 3 said node = decide (nk T node ≠ 2 ∨ onI T (node : Int) Sc (said : Int) ≤ 0) := rfl
    refine ev_ite (fun _ => ?_) (fun z => absurd rfl z)
    rw [h.1.2]
    refine ev_gv ?_
    refine ev_gg (by omega) ?_
    refine ev_gg h2.2.1 ?_
    refine ev_gcr isN ?_
    by_cases k2 : nk T node = 2
    · rw [if_pos k2]
      refine ev_gg (by decide) ?_
      refine ev_ite (fun z => absurd z (by decide)) (fun _ => ?_)
      rw [h.1.2, h.1.1]
      refine ev_gv ?_
      refine ev_gv ?_
      refine ev_gg h2.2.1 ?_
      refine ev_gcr on ?_
      have r := oir T (node : Int) (said : Int)
      refine ev_gg (by rcases r with z | z | z <;> rw [z] <;> decide) ?_
      refine ev_ite (fun z => ?_) (fun z => ?_)
      · exact fin false S h (by rw [pe]; exact decide_eq_false (fun q => by rcases q with q | q; exact q k2; omega))
      · exact fin true S h (by rw [pe]; exact decide_eq_true (Or.inr (by omega)))
    · rw [if_neg k2]
      refine ev_gg (by decide) ?_
      refine ev_ite (fun _ => ?_) (fun z => absurd rfl z)
      exact fin true S h (by rw [pe]; exact decide_eq_true (Or.inl k2))
  refine ev_ite (fun z => by omega) (fun _ => ?_)
  by_cases c4 : w = 4
  · subst c4
    have pe : plB Sc T 4 said node = decide (lnI T (node : Int) = -1 ∨ 0 ≤ onI (lnN T node) 0 Sc (said : Int)) := rfl
    refine ev_ite (fun _ => ?_) (fun z => absurd rfl z)
    rw [h.1.2]
    refine ev_gv ?_
    refine ev_gg (by omega) ?_
    refine ev_gg h2.2.1 ?_
    refine ev_gcr ln ?_
    refine ev_gg (by constructor <;> omega) ?_
    refine ev_ite (fun z => ?_) (fun z => ?_)
    · exact fin true S h (by rw [pe]; exact decide_eq_true (Or.inl z))
    refine ev_gc (ck_orderOfLength (d := d - 1) h2 (by omega) wT h hs hn z) (fun x S1 q1 => ?_)
    obtain ⟨rfl, q1⟩ := q1
    have r := oir (lnN T node) 0 (said : Int)
    refine ev_gg (by rcases r with z | z | z <;> rw [z] <;> decide) ?_
    refine ev_ite (fun z1 => ?_) (fun z1 => ?_)
    · exact fin false S1 q1 (by rw [pe]; exact decide_eq_false (fun q => by rcases q with q | q; exact z q; omega))
    · exact fin true S1 q1 (by rw [pe]; exact decide_eq_true (Or.inr (by omega)))
  refine ev_ite (fun z => by omega) (fun _ => ?_)
  by_cases c5 : w = 5
  · subst c5
    have pe : plB Sc T 5 said node = decide (lnI T (node : Int) = -1 ∨ onI (lnN T node) 0 Sc (said : Int) ≤ 0) := rfl
    refine ev_ite (fun _ => ?_) (fun z => absurd rfl z)
    rw [h.1.2]
    refine ev_gv ?_
    refine ev_gg (by omega) ?_
    refine ev_gg h2.2.1 ?_
    refine ev_gcr ln ?_
    refine ev_gg (by constructor <;> omega) ?_
    refine ev_ite (fun z => ?_) (fun z => ?_)
    · exact fin true S h (by rw [pe]; exact decide_eq_true (Or.inl z))
    refine ev_gc (ck_orderOfLength (d := d - 1) h2 (by omega) wT h hs hn z) (fun x S1 q1 => ?_)
    obtain ⟨rfl, q1⟩ := q1
    have r := oir (lnN T node) 0 (said : Int)
    refine ev_gg (by rcases r with z | z | z <;> rw [z] <;> decide) ?_
    refine ev_ite (fun z1 => ?_) (fun z1 => ?_)
    · exact fin false S1 q1 (by rw [pe]; exact decide_eq_false (fun q => by rcases q with q | q; exact z q; omega))
    · exact fin true S1 q1 (by rw [pe]; exact decide_eq_true (Or.inr (by omega)))
  refine ev_ite (fun z => by omega) (fun _ => ?_)
  have e10 : w = 10 := by omega
  subst e10
  refine ev_gg (by omega) ?_
  refine ev_gcr (ck_isOneOf (d := d - 1) h2 (by omega) wS wT h hs hn) ?_
  exact fin _ S h rfl
end CKP
