/-! SCHEMAS: asking -/
/-- what asking a SCHEMA comes to -/
def AskC (cS cT : Nat) (Sc T : List ND) (most : Int) (S0 : GS) (f d : Nat) : Prop := ∀ (S : GS) (refs : List (Int × Int)) (b i : Int) (muted : Bool) (K : CK), (0 ≤ b ∧ b < (Sc.length : Int)) → (0 ≤ i ∧ i < (T.length : Int)) → AkI most K → K.2.1 = false → CkS cS cT Sc T most refs K S0 S → Ev (fun n => f_X0_ask n d 0 S [b, i, bo muted, 151 - (f : Int)]) (fun x S1 => x = bo (askF Sc T most f refs b i muted K).1 ∧ CkS cS cT Sc T most refs (askF Sc T most f refs b i muted K).2 S0 S1 ∧ AkI most (askF Sc T most f refs b i muted K).2)
section CKA
variable {S S0 : GS} {cS cT d : Nat} {Sc T : List ND} {most : Int} {refs : List (Int × Int)} {K : CK}
abbrev lpG (Sc T : List ND) (most : Int) (f : Nat) (refs : List (Int × Int)) (w node : Nat) (muted : Bool) : Int → Int → CK → Bool × CK := fun sub nd K => askF Sc T most f (if w = 15 then refs ++ [(sub, (node : Int))] else refs) sub nd (qtB w muted) K
theorem ck_193 {f w by_ said node : Nat} {muted no y : Bool} {Q : Int → GS → Prop} (ihf : AskC cS cT Sc T most S0 f (d - 1)) (h2 : dkc cS ∧ dkc cT) (hd : 20 ≤ d) (hw : 7 ≤ w ∧ w ≤ 15) (hn : node < 100) (hf : f ≤ 150) : ∀ (L : List (Int × Int)) (q n0 s a : Int) (K : CK) (S : GS), CuQ cS cT Sc T most S0 refs w by_ said node no q L → 0 ≤ n0 → n0 + (L.length : Int) ≤ 99 → 0 ≤ a ∧ a ≤ s ∧ s ≤ n0 → AkI most K → CkS cS cT Sc T most refs K S0 S →
    (∀ (q' : Int) (S1 : GS), inr q' → (q' = -2 ↔ no = true) → (0 ≤ (lpF (lpG Sc T most f refs w node muted) L s a K).2.1 ∧ (lpF (lpG Sc T most f refs w node muted) L s a K).2.1 ≤ (lpF (lpG Sc T most f refs w node muted) L s a K).1 ∧ (lpF (lpG Sc T most f refs w node muted) L s a K).1 ≤ 100) → AkI most (lpF (lpG Sc T most f refs w node muted) L s a K).2.2 → CkS cS cT Sc T most refs (lpF (lpG Sc T most f refs w node muted) L s a K).2.2 S0 S1 → Ev (fun n => f_X0_ask n d 331 S1 [(by_ : Int), (node : Int), bo muted, 150 - (f : Int), bo y, (w : Int), (lpF (lpG Sc T most f refs w node muted) L s a K).1, (lpF (lpG Sc T most f refs w node muted) L s a K).2.1, q']) Q) →
    Ev (fun n => f_X0_ask n d 193 S [(by_ : Int), (node : Int), bo muted, 150 - (f : Int), bo y, (w : Int), (said : Int), s, a, q, n0]) Q := by
  intro L
  induction L with
  | nil =>
    intro q n0 s a K S hc h0 h1 hr hk h nx
    have hc' : q = if no = true then -2 else -1 := hc
    have q2 : (q = -2 ∨ q = -1) ∧ (q = -2 ↔ no = true) := by
      cases no with
      | true => rw [if_pos rfl] at hc'; exact ⟨Or.inl hc', fun _ => rfl, fun _ => hc'⟩
      | false => rw [if_neg (by decide)] at hc'; exact ⟨Or.inr hc', fun z => by omega, fun z => by cases z⟩
    have n2 := nx q S (by constructor <;> omega) q2.2 ⟨hr.1, hr.2.1, by show s ≤ 100; have : ((([] : List (Int × Int)).length : Nat) : Int) = 0 := rfl; omega⟩ hk h
    have l0 : ((([] : List (Int × Int)).length : Nat) : Int) = 0 := rfl
    refine ev_up (fun n => e_X0_ask_193) ?_
    unfold b_X0_ask_193
    refine ev_gg (by constructor <;> omega) ?_
    refine ev_ite (fun z => by omega) (fun _ => ?_)
    refine ev_gg (by constructor <;> omega) ?_
    refine ev_ite (fun z => ?_) (fun z => by omega)
    exact n2
  | cons x L ih =>
    intro q n0 s a K S hc h0 h1 hr hk h nx
    obtain ⟨sub, nd⟩ := x
    obtain ⟨c1, c2, c3, c4, c5, c6, q', c7, c8⟩ := hc
    subst c1
    have l1 : ((((sub, nd) :: L : List (Int × Int)).length : Nat) : Int) = (L.length : Int) + 1 := by rw [List.length_cons]; rfl
    have st := c7 (d - 1) S refs K (by omega) h
    refine ev_up (fun n => e_X0_ask_193) ?_
    unfold b_X0_ask_193
    refine ev_gg (by constructor <;> omega) ?_
    refine ev_ite (fun z => by omega) (fun _ => ?_)
    refine ev_gg (by constructor <;> omega) ?_
    refine ev_ite (fun z => by omega) (fun _ => ?_)
    refine ev_gv ?_
    rw [h.2.2.2.1.2.2.1]
    by_cases ct : K.2.1 = true
    · have e : lpF (lpG Sc T most f refs w node muted) ((sub, nd) :: L) s a K = (s, a, K) := if_pos ct
      rw [e] at nx
      rw [ct]
      refine ev_gg (by decide) ?_
      refine ev_ite (fun _ => ?_) (fun z => absurd (by decide) z)
      exact nx q S (by constructor <;> omega) ⟨fun z => by omega, fun z => by cases z⟩ ⟨hr.1, hr.2.1, by show s ≤ 100; omega⟩ hk h
    have cf : K.2.1 = false := by cases e : K.2.1; rfl; exact absurd e ct
    rw [cf]
    refine ev_gg (by decide) ?_
    refine ev_ite (fun z => absurd rfl z) (fun _ => ?_)
    refine ev_gg (by omega) ?_
    refine ev_gcr st.1 ?_
    -- from what is asked on
    have go : Ev (fun n => f_X0_ask n d 248 S [(by_ : Int), (node : Int), bo muted, 150 - (f : Int), bo y, (w : Int), (said : Int), s, a, q, n0, sub, bo (qtB w muted)]) Q := by
      have n312 : ∀ (s' a' : Int) (K' : CK) (S2 : GS), lpF (lpG Sc T most f refs w node muted) ((sub, nd) :: L) s a K = lpF (lpG Sc T most f refs w node muted) L s' a' K' → 0 ≤ a' ∧ a' ≤ s' ∧ s' ≤ n0 + 1 → AkI most K' → CkS cS cT Sc T most refs K' S0 S2 → Ev (fun n => f_X0_ask n d 312 S2 [(by_ : Int), (node : Int), bo muted, 150 - (f : Int), bo y, (w : Int), (said : Int), s', a', q, n0]) Q := by
        intro s' a' K' S2 e hr' hk' q2
        rw [e] at nx
        refine ev_up (fun n => e_X0_ask_312) ?_
        unfold b_X0_ask_312
        refine ev_gg (by omega) ?_
        refine ev_gcr (c7 (d - 1) S2 refs K' (by omega) q2).2 ?_
        refine ev_gv ?_
        exact ih q' (n0 + 1) s' a' K' S2 c8 (by omega) (by omega) hr' hk' q2 nx
      refine ev_up (fun n => e_X0_ask_248) ?_
      unfold b_X0_ask_248
      have c4' : sub = -1 ∨ (0 ≤ sub ∧ sub < (Sc.length : Int)) := c4
      have lS : Sc.length ≤ 100 := tv_l h.2.1.1.1
      have lT : T.length ≤ 100 := tv_l h.2.1.2.1
      have isub : inr sub := by rcases c4' with z | z <;> constructor <;> omega
      refine ev_gg isub ?_
      refine ev_ite (fun z => ?_) (fun z => ?_)
      · refine n312 s a K S ?_ ⟨hr.1, hr.2.1, by omega⟩ hk h
        show (if K.2.1 = true then _ else if sub = -1 then _ else _) = _
        rw [if_neg ct, if_pos z]
      refine ev_gv ?_
      refine ev_gg (by omega) ?_
      refine ev_gc (ck_openRef (d := d - 1) (w := w) (node := node) (sub := sub) h2 (by omega) hn isub h c6) (fun _ S2 q2 => ?_)
      refine ev_gg (by constructor <;> omega) ?_
      have elp : lpF (lpG Sc T most f refs w node muted) ((sub, nd) :: L) s a K = lpF (lpG Sc T most f refs w node muted) L (s + 1) (a + if (lpG Sc T most f refs w node muted sub nd K).1 = true then 1 else 0) (lpG Sc T most f refs w node muted sub nd K).2 := by
        show (if K.2.1 = true then _ else if sub = -1 then _ else _) = _
        rw [if_neg ct, if_neg z]
      have sb : 0 ≤ sub ∧ sub < (Sc.length : Int) := by rcases c4' with w | w; exact absurd w z; exact w
      have g286 : Ev (fun n => f_X0_ask n d 286 S2 [(by_ : Int), (node : Int), bo muted, 150 - (f : Int), bo y, (w : Int), (said : Int), s + 1, q, n0, bo (qtB w muted), nd, sub, a]) Q := by
        refine ev_up (fun n => e_X0_ask_286) ?_
        unfold b_X0_ask_286
        refine ev_gv ?_
        refine ev_gg (by omega) ?_
        rw [show 150 - (f : Int) + 1 = 151 - (f : Int) by omega]
        refine ev_gc (ihf S2 _ sub nd (qtB w muted) K sb c5 hk cf q2) (fun x S3 q3 => ?_)
        obtain ⟨rfl, q3, k3⟩ := q3
        refine ev_gg (bo_in _) ?_
        have e1 : askF Sc T most f (if w = 15 then refs ++ [(sub, (node : Int))] else refs) sub nd (qtB w muted) K = lpG Sc T most f refs w node muted sub nd K := rfl
        rw [e1] at q3 k3 ⊢
        cases er : (lpG Sc T most f refs w node muted sub nd K).1 with
        | false =>
          rw [er, if_neg (by decide)] at elp
          refine ev_ite (fun _ => ?_) (fun z => absurd rfl z)
          refine ev_gv ?_
          refine ev_gc (ck_closeRef (d := d - 1) (w := w) h2 (by omega) q3) (fun _ S4 q4 => ?_)
          exact n312 (s + 1) (a + 0) _ S4 elp (by omega) k3 q4
        | true =>
          rw [er, if_pos rfl] at elp
          refine ev_ite (fun z => absurd z (by decide)) (fun _ => ?_)
          refine ev_gv ?_
          refine ev_gc (ck_closeRef (d := d - 1) (w := w) h2 (by omega) q3) (fun _ S4 q4 => ?_)
          exact n312 (s + 1) (a + 1) _ S4 elp (by omega) k3 q4
      have c3' : nd = if w < 10 then q else (node : Int) := c3
      refine ev_ite (fun z2 => ?_) (fun z2 => ?_)
      · rw [if_neg (by omega)] at c3'
        rw [c3'] at g286
        exact g286
      · rw [if_pos (by omega)] at c3'
        rw [c3'] at g286
        exact g286
    refine ev_gg (bo_in muted) ?_
    cases muted with
    | true =>
      refine ev_ite (fun _ => ?_) (fun z => absurd (by decide) z)
      exact go
    | false =>
      refine ev_ite (fun z => absurd rfl z) (fun _ => ?_)
      refine ev_gg (by constructor <;> omega) ?_
      have b0 : ¬ (12 ≤ w ∧ w ≤ 14) → bo (qtB w false) = 0 := fun z => by
        show bo (false || decide (12 ≤ w ∧ w ≤ 14)) = 0
        rw [decide_eq_false z]; rfl
      have b1 : (12 ≤ w ∧ w ≤ 14) → bo (qtB w false) = 1 := fun z => by
        show bo (false || decide (12 ≤ w ∧ w ≤ 14)) = 1
        rw [decide_eq_true z]; rfl
      refine ev_ite (fun z => ?_) (fun z => ?_)
      · rw [b0 (by omega)] at go
        exact go
      refine ev_ite (fun z2 => ?_) (fun z2 => ?_)
      · rw [b0 (by omega)] at go
        exact go
      · rw [b1 (by omega)] at go
        exact go
theorem ck_97 {f by_ node : Nat} {muted : Bool} (ihf : AskC cS cT Sc T most S0 f (d - 1)) (h2 : dkc cS ∧ dkc cT) (hd : 60 ≤ d) (wS : WF Sc) (wT : WF T) (hb : by_ < Sc.length) (hn : node < T.length) (hf : f ≤ 150) : ∀ (m : Nat), m ≤ 15 → ∀ (y : Bool) (K : CK) (S : GS), AkI most K → CkS cS cT Sc T most refs K S0 S → Ev (fun n => f_X0_ask n d 97 S [(by_ : Int), (node : Int), bo muted, 150 - (f : Int), bo y, ((16 - m : Nat) : Int)]) (fun x S1 => x = bo (wdsF Sc T (askF Sc T most f) refs by_ node muted m (y, K)).1 ∧ CkS cS cT Sc T most refs (wdsF Sc T (askF Sc T most f) refs by_ node muted m (y, K)).2 S0 S1 ∧ AkI most (wdsF Sc T (askF Sc T most f) refs by_ node muted m (y, K)).2) := by
  intro m
  induction m with
  | zero =>
    intro hm y K S hk h
    refine ev_up (fun n => e_X0_ask_97) ?_
    unfold b_X0_ask_97
    refine ev_gg (by decide) ?_
    refine ev_ite (fun _ => ?_) (fun z => absurd (by decide) z)
    refine ev_gg (bo_01 y) ?_
    exact ev_ret ⟨rfl, h, hk⟩
  | succ m ih =>
    intro hm y K S hk h
    have lS : Sc.length ≤ 100 := tv_l h.2.1.1.1
    have lT : T.length ≤ 100 := tv_l h.2.1.2.1
    have zS : PZ Sc := pz_l (nr_pzl h.2.1.1.1.2.2.2)
    have zT : PZ T := pz_l (nr_pzl h.2.1.2.1.2.2.2)
    obtain ⟨w, hw⟩ : ∃ w : Nat, w = 15 - m := ⟨_, rfl⟩
    have ew : 16 - (m + 1) = w := by omega
    have ew2 : ((w : Nat) : Int) + 1 = ((16 - m : Nat) : Int) := by omega
    rw [ew]
    show Ev _ (fun x S1 => x = bo (wdsF Sc T (askF Sc T most f) refs by_ node muted m (wdF Sc T (askF Sc T most f) refs by_ node muted (15 - m) (y, K))).1 ∧ CkS cS cT Sc T most refs (wdsF Sc T (askF Sc T most f) refs by_ node muted m (wdF Sc T (askF Sc T most f) refs by_ node muted (15 - m) (y, K))).2 S0 S1 ∧ AkI most (wdsF Sc T (askF Sc T most f) refs by_ node muted m (wdF Sc T (askF Sc T most f) refs by_ node muted (15 - m) (y, K))).2)
    rw [← hw]
    -- the next WORD
    have nx : ∀ (r : Bool × CK) (S2 : GS), wdF Sc T (askF Sc T most f) refs by_ node muted w (y, K) = r → AkI most r.2 → CkS cS cT Sc T most refs r.2 S0 S2 → Ev (fun n => f_X0_ask n d 97 S2 [(by_ : Int), (node : Int), bo muted, 150 - (f : Int), bo r.1, (w : Int) + 1]) (fun x S1 => x = bo (wdsF Sc T (askF Sc T most f) refs by_ node muted m (wdF Sc T (askF Sc T most f) refs by_ node muted w (y, K))).1 ∧ CkS cS cT Sc T most refs (wdsF Sc T (askF Sc T most f) refs by_ node muted m (wdF Sc T (askF Sc T most f) refs by_ node muted w (y, K))).2 S0 S1 ∧ AkI most (wdsF Sc T (askF Sc T most f) refs by_ node muted m (wdF Sc T (askF Sc T most f) refs by_ node muted w (y, K))).2) := by
      intro r S2 e hk2 q2
      rw [e, ew2]
      exact ih (by omega) r.1 r.2 S2 hk2 q2
    have vr := vLk_r wS zS (by_ : Int) (sx (30 + w))
    generalize hV : vLk Sc (by_ : Int) (sx (30 + w)) = v at *
    have e1 : v = -1 → wdF Sc T (askF Sc T most f) refs by_ node muted w (y, K) = (y, K) := fun z => if_pos (hV.trans z)
    refine ev_up (fun n => e_X0_ask_97) ?_
    unfold b_X0_ask_97
    refine ev_gg (by constructor <;> omega) ?_
    refine ev_ite (fun z => by omega) (fun _ => ?_)
    rw [h.1.1]
    refine ev_gv ?_
    refine ev_gg (by omega) ?_
    refine ev_gcr (ck_wordOf (d := d - 1) (w := w) (by omega)) ?_
    refine ev_gg h2.1.1 ?_
    rw [Int.toNat_natCast]
    refine ev_gcr (rd_as (t_valueNamed (V := Sc) (d := d - 1) (g := (by_ : Int)) (t := 30 + w) h2.1.1 h.2.1.1.1 wS (by constructor <;> omega) (by omega) (by omega)) hV) ?_
    refine ev_gg (by rcases vr with z | z <;> constructor <;> omega) ?_
    refine ev_ite (fun z => ?_) (fun z => ?_)
    · refine ev_up (fun n => e_X0_ask_167) ?_
      unfold b_X0_ask_167
      refine ev_gg (by rcases vr with z | z <;> constructor <;> omega) ?_
      refine ev_ite (fun _ => ?_) (fun y => absurd z y)
      refine ev_gv ?_
      exact nx (y, K) S (e1 z) hk h
    have v0 : 0 ≤ v ∧ v < (Sc.length : Int) := by rcases vr with q | q; exact absurd q z; exact q
    obtain ⟨said, rfl⟩ : ∃ s : Nat, v = (s : Int) := ⟨v.toNat, by omega⟩
    have sl : said < Sc.length := by omega
    have e2 : (w ≤ 6 ∨ w = 10) → wdF Sc T (askF Sc T most f) refs by_ node muted w (y, K) = ((plyF Sc T w said node muted K).1 && y, (plyF Sc T w said node muted K).2) := fun c => by
      unfold wdF
      rw [hV, if_neg z, if_pos c, Int.toNat_natCast]
    have plain : (w ≤ 6 ∨ w = 10) → Ev (fun n => f_X0_ask n d 139 S [(by_ : Int), (node : Int), bo muted, 150 - (f : Int), bo y, (w : Int), (said : Int)]) (fun x S1 => x = bo (wdsF Sc T (askF Sc T most f) refs by_ node muted m (wdF Sc T (askF Sc T most f) refs by_ node muted w (y, K))).1 ∧ CkS cS cT Sc T most refs (wdsF Sc T (askF Sc T most f) refs by_ node muted m (wdF Sc T (askF Sc T most f) refs by_ node muted w (y, K))).2 S0 S1 ∧ AkI most (wdsF Sc T (askF Sc T most f) refs by_ node muted m (wdF Sc T (askF Sc T most f) refs by_ node muted w (y, K))).2) := by
      intro c
      refine ev_up (fun n => e_X0_ask_139) ?_
      unfold b_X0_ask_139
      refine ev_gg (by omega) ?_
      refine ev_gc (ck_plainly (d := d - 1) (w := w) (said := said) (node := node) (muted := muted) h2 (by omega) wS wT ⟨by omega, c⟩ h sl hn) (fun x S2 q2 => ?_)
      obtain ⟨rfl, q2⟩ := q2
      have k2 : AkI most (plyF Sc T w said node muted K).2 := ak_plyF hk
      have n2 := nx _ S2 (e2 c) k2 q2
      refine ev_gg (bo_in _) ?_
      cases er : (plyF Sc T w said node muted K).1 with
      | false =>
        rw [er, Bool.false_and] at n2
        refine ev_ite (fun _ => ?_) (fun z => absurd rfl z)
        refine ev_gv ?_
        exact n2
      | true =>
        rw [er, Bool.true_and] at n2
        refine ev_ite (fun z => absurd z (by decide)) (fun _ => ?_)
        refine ev_gg (bo_in y) ?_
        cases y with
        | false =>
          refine ev_ite (fun _ => ?_) (fun z => absurd rfl z)
          refine ev_gv ?_
          exact n2
        | true =>
          refine ev_ite (fun z => absurd z (by decide)) (fun _ => ?_)
          refine ev_gv ?_
          exact n2
    refine ev_ite (fun z6 => plain (Or.inl (by omega))) (fun z6 => ?_)
    refine ev_ite (fun z10 => ?_) (fun z10 => plain (Or.inr (by omega)))
    refine ev_up (fun n => e_X0_ask_167) ?_
    unfold b_X0_ask_167
    refine ev_gg (by constructor <;> omega) ?_
    refine ev_ite (fun y => by omega) (fun _ => ?_)
    refine ev_gg (by omega) ?_
    refine ev_gc (ck_firstQuestion (d := d - 1) (w := w) (by_ := by_) (said := said) (node := node) h2 (by omega) wS wT ⟨by omega, by omega, by omega⟩ hb sl hn h) (fun q S2 q2 => ?_)
    have ql := qs_len (refs := refs) (w := w) (by_ := by_) zS zT wS wT lS lT sl hn
    generalize hno : decide (w = 15 ∧ tgF Sc refs said node = -2) = no at *
    refine ck_193 (y := y) (no := no) ihf h2 (by omega) ⟨by omega, by omega⟩ (by omega) hf _ q 0 0 0 K S2 q2.1 (by decide) (by omega) (by decide) hk q2.2 (fun q' S3 iq hq hr hk3 q3 => ?_)
    generalize hL : lpF (lpG Sc T most f refs w node muted) (qsL Sc T refs w by_ said node) 0 0 K = r at *
    have e3 : wdF Sc T (askF Sc T most f) refs by_ node muted w (y, K) = (hdB w r.1 r.2.1 no && y, if hsB w r.1 r.2.1 no = true then r.2.2 else ckC r.2.2 muted (node : Int) (w : Int)) := by
      unfold wdF
      rw [hV, if_neg z, if_neg (by omega), Int.toNat_natCast]
      simp only [hno]
      rw [hL]
    have h355 : ∀ b : Bool, (hdB w r.1 r.2.1 no && y) = b → Ev (fun n => f_X0_ask n d 355 S3 [(by_ : Int), (node : Int), bo muted, 150 - (f : Int), (w : Int), r.1, r.2.1, q', bo b]) (fun x S1 => x = bo (wdsF Sc T (askF Sc T most f) refs by_ node muted m (wdF Sc T (askF Sc T most f) refs by_ node muted w (y, K))).1 ∧ CkS cS cT Sc T most refs (wdsF Sc T (askF Sc T most f) refs by_ node muted m (wdF Sc T (askF Sc T most f) refs by_ node muted w (y, K))).2 S0 S1 ∧ AkI most (wdsF Sc T (askF Sc T most f) refs by_ node muted m (wdF Sc T (askF Sc T most f) refs by_ node muted w (y, K))).2) := by
      intro b hb
      rw [hb] at e3
      refine ev_up (fun n => e_X0_ask_355) ?_
      unfold b_X0_ask_355
      refine ev_gg (by omega) ?_
      refine ev_gcr (ck_holdsItself (d := d - 1) (w := w) (by omega) (by omega) (by constructor <;> omega) (by constructor <;> omega) iq hq) ?_
      refine ev_gg (bo_in _) ?_
      cases eh : hsB w r.1 r.2.1 no with
      | true =>
        rw [eh, if_pos rfl] at e3
        refine ev_ite (fun _ => ?_) (fun z => absurd (by decide) z)
        refine ev_gv ?_
        exact nx _ S3 e3 hk3 q3
      | false =>
        rw [eh, if_neg (by decide)] at e3
        refine ev_ite (fun z => absurd rfl z) (fun _ => ?_)
        refine ev_gc (ck_complain (d := d - 1) (node := (node : Int)) (w := (w : Int)) h2 (by constructor <;> omega) (by constructor <;> omega) q3) (fun _ S4 q4 => ?_)
        refine ev_gv ?_
        exact nx _ S4 e3 (ak_ckC hk3) q4
    refine ev_up (fun n => e_X0_ask_331) ?_
    unfold b_X0_ask_331
    refine ev_gg (by omega) ?_
    refine ev_gcr (ck_holds (d := d - 1) (w := w) (by omega) (by constructor <;> omega) (by constructor <;> omega) iq hq) ?_
    refine ev_gg (bo_in _) ?_
    cases eh : hdB w r.1 r.2.1 no with
    | false =>
      refine ev_ite (fun _ => ?_) (fun z => absurd rfl z)
      exact h355 false (by rw [eh]; rfl)
    | true =>
      refine ev_ite (fun z => absurd z (by decide)) (fun _ => ?_)
      refine ev_gg (bo_in y) ?_
      cases y with
      | false =>
        refine ev_ite (fun _ => ?_) (fun z => absurd rfl z)
        exact h355 false (by rw [eh]; rfl)
      | true =>
        refine ev_ite (fun z => absurd z (by decide)) (fun _ => ?_)
        exact h355 true (by rw [eh]; rfl)
end CKA
