/-! SCHEMAS: what is asked by a WORD -/
section CKQ
variable {S S0 : GS} {cS cT d : Nat} {Sc T : List ND} {most : Int} {refs : List (Int × Int)} {K : CK}
theorem ck_52 {t : Int} {node : Nat} (ht : inr t) (hn : node < 100) (h : CkS cS cT Sc T most refs K S0 S) : ∀ (m i : Nat), refs.length - i < m → i ≤ refs.length → Rd (fun q => f_X0_target q d 52 S [(node : Int), t, (i : Int)]) (if (t, (node : Int)) ∈ refs.drop i then -1 else if 13 ≤ refs.length then -2 else t) S := by
  obtain ⟨-, -, ⟨r1, r2, r3⟩, -, -, -, g⟩ := h
  have e98 : Rd (fun q => f_X0_target q d 98 S [t]) (if 13 ≤ refs.length then -2 else t) S := by
    refine ev_up (fun n => e_X0_target_98) ?_
    unfold b_X0_target_98
    refine ev_gv ?_
    rw [r1]
    refine ev_gg (by constructor <;> omega) ?_
    refine ev_ite (fun z => ?_) (fun z => ?_)
    · rw [if_neg (by omega)]
      exact ev_ret ⟨rfl, rfl⟩
    · rw [if_pos (by omega)]
      exact ev_ret ⟨rfl, rfl⟩
  intro m
  induction m with
  | zero => intros; omega
  | succ m ih =>
    intro i h1 h2
    refine ev_up (fun n => e_X0_target_52) ?_
    unfold b_X0_target_52
    refine ev_gv ?_
    rw [r1]
    refine ev_gg (by constructor <;> omega) ?_
    refine ev_gg (by constructor <;> omega) ?_
    by_cases c : i < refs.length
    · have dr : refs.drop i = prA refs i :: refs.drop (i + 1) := by
        rw [List.drop_eq_getElem_cons c]
        unfold prA
        rw [List.getD_eq_getElem?_getD, List.getElem?_eq_getElem c]
        rfl
      refine ev_ite (fun z => by omega) (fun _ => ?_)
      refine ev_ite (fun z => by omega) (fun _ => ?_)
      refine ev_gg (by omega) ?_
      refine ev_gv ?_
      rw [Int.toNat_natCast]
      have i8 := g.1 488 i (by decide)
      have i9 := g.1 489 i (by decide)
      refine ev_gg i8 ?_
      refine ev_gg ht ?_
      have r := r3 i c
      have nx : (t, (node : Int)) ≠ prA refs i → Ev (fun n => gv ((i : Int) + 1) fun x13 => f_X0_target n d 52 S [(node : Int), t, x13]) (fun x S1 => x = (if (t, (node : Int)) ∈ refs.drop i then -1 else if 13 ≤ refs.length then -2 else t) ∧ S1 = S) := by
        intro ne
        refine ev_gv ?_
        have k := ih (i + 1) (by omega) (by omega)
        have e : ((t, (node : Int)) ∈ refs.drop i) = ((t, (node : Int)) ∈ refs.drop (i + 1)) := by
          rw [dr]
          exact propext ⟨fun w => by rcases List.mem_cons.mp w with y | y; exact absurd y ne; exact y, fun w => List.mem_cons_of_mem _ w⟩
        simp only [e]
        exact k
      by_cases c1 : S.1 488 i = t
      · refine ev_ite (fun z => absurd c1 z) (fun _ => ?_)
        refine ev_gv ?_
        refine ev_gg i9 ?_
        refine ev_gg (by constructor <;> omega) ?_
        by_cases c2 : S.1 489 i = (node : Int)
        · refine ev_ite (fun z => absurd c2 z) (fun _ => ?_)
          have e : (t, (node : Int)) = prA refs i := Prod.ext (by rw [← r.1]; exact c1.symm) (by rw [← r.2]; exact c2.symm)
          rw [if_pos (by rw [dr, ← e]; exact List.mem_cons_self)]
          exact ev_ret ⟨rfl, rfl⟩
        · refine ev_ite (fun _ => ?_) (fun z => absurd c2 z)
          exact nx (fun e => c2 (by rw [r.2, ← e]))
      · refine ev_ite (fun _ => ?_) (fun z => absurd c1 z)
        exact nx (fun e => c1 (by rw [r.1, ← e]))
    · have dr : refs.drop i = [] := List.drop_eq_nil_of_le (by omega)
      refine ev_ite (fun _ => ?_) (fun z => by omega)
      rw [dr, if_neg (by simp)]
      exact e98
theorem ck_target {said node : Nat} (h2 : dkc cS ∧ dkc cT) (hd : 10 ≤ d) (wS : WF Sc) (h : CkS cS cT Sc T most refs K S0 S) (hs : said < Sc.length) (hn : node < T.length) : Ev (fun n => f_X0_target n d 0 S [(said : Int), (node : Int)]) (fun x S1 => x = tgF Sc refs said node ∧ CkS cS cT Sc T most refs K S0 S1) := by
  have lS : Sc.length ≤ 100 := tv_l h.2.1.1.1
  have lT : T.length ≤ 100 := tv_l h.2.1.2.1
  have zS : PZ Sc := pz_l (nr_pzl h.2.1.1.1.2.2.2)
  have tl : (tI Sc (said : Int)).length ≤ 40 := by
    rw [tI_p (by omega), Int.toNat_natCast]
    exact (tv_r (V := Sc) h.2.1.1.1 hs).2.2.2.2.2.2.1
  have vr := vLk_r wS zS 0 (sx 53)
  have vr2 := vLk_r wS zS (vLk Sc 0 (sx 53)) (tI Sc (said : Int))
  refine ev_up (fun n => e_X0_target_0) ?_
  unfold b_X0_target_0
  refine ev_gg (by omega) ?_
  refine ev_gc (sx_clear (d := d - 1) gSh460 h.2.2.2.2.2.2) (fun _ S1 q1 => ?_)
  have k1 := ck_fr h2 h q1.2.1 (fun k z => by unfold shM at z; omega) q1.2.2
  rw [k1.1.1]
  refine ev_gv ?_
  refine ev_gg h2.1.1 ?_
  refine ev_gc (t_signsTo (V := Sc) (d := d - 1) (i := (said : Int)) h2.1.1 gSh460 (by omega) k1.2.1.1.1 (by constructor <;> omega) (sx_rf q1.2.2 q1.1) (by show 0 + _ ≤ 40; omega)) (fun _ S2 q2 => ?_)
  rw [List.nil_append] at q2
  have k2 := ck_fr h2 k1 q2.2.1 (fun k z => by unfold shM at z; omega) q2.2.2
  rw [k2.1.1]
  refine ev_gv ?_
  refine ev_gv ?_
  refine ev_gg h2.1.1 ?_
  refine ev_gcr (t_valueNamed (V := Sc) (d := d - 1) (g := 0) (t := 53) h2.1.1 k2.2.1.1.1 wS (by decide) (by omega) (by decide)) ?_
  refine ev_gg h2.1.1 ?_
  refine ev_gcr (t_valueOf (V := Sc) (d := d - 1) (g := vLk Sc 0 (sx 53)) h2.1.1 k2.2.1.1.1 wS (by rcases vr with z | z <;> constructor <;> omega) (by omega) gSh460 q2.1) ?_
  refine ev_gg (by rcases vr2 with z | z <;> constructor <;> omega) ?_
  unfold tgF
  refine ev_ite (fun z => ?_) (fun z => ?_)
  · rw [if_neg z]
    refine ev_mono (ck_52 (d := d) (by rcases vr2 with z | z <;> constructor <;> omega) (by omega) k2 _ 0 (Nat.lt_succ_self _) (Nat.zero_le _)) (fun x S3 q => ⟨?_, by rw [q.2]; exact k2⟩)
    rw [q.1, List.drop_zero]
  · rw [if_pos (by omega)]
    exact ev_ret ⟨rfl, k2⟩
theorem ck_openRef {w node : Nat} {sub : Int} (h2 : dkc cS ∧ dkc cT) (hw : w < 100) (hn : node < 100) (hs : inr sub) (h : CkS cS cT Sc T most refs K S0 S) (hr : w = 15 → refs.length < 13) : Ev (fun n => f_X0_openRef n d 0 S [(w : Int), sub, (node : Int)]) (fun _ S1 => CkS cS cT Sc T most (if w = 15 then refs ++ [(sub, (node : Int))] else refs) K S0 S1) := by
  obtain ⟨⟨e1, e2⟩, ⟨t1, t2⟩, ⟨r1, r2, r3⟩, ⟨k1, k2, k3, k4, k5, k6⟩, o, f, g⟩ := id h
  have nS : ∀ k, cS ≤ k → k < cS + 8 → k < 424 := fun k a b => by have q := h2.1; omega
  have nT : ∀ k, cT ≤ k → k < cT + 8 → k < 424 := fun k a b => by have q := h2.2; omega
  refine ev_up (fun n => e_X0_openRef_0) ?_
  unfold b_X0_openRef_0
  refine ev_gg (by constructor <;> omega) ?_
  by_cases c : w = 15
  · have hr' := hr c
    rw [if_pos c]
    refine ev_ite (fun z => by omega) (fun _ => ?_)
    refine ev_gv ?_
    rw [r1]
    refine ev_gg (by constructor <;> omega) ?_
    refine ev_ite (fun z => by omega) (fun _ => ?_)
    refine ev_gv ?_
    refine ev_gg (by constructor <;> omega) ?_
    refine ev_ite (fun z => by omega) (fun _ => ?_)
    refine ev_gv ?_
    refine ev_gg (by omega) ?_
    refine ev_gv ?_
    refine ev_gv ?_
    rw [Int.toNat_natCast]
    rw [show (gI S 488 refs.length sub).1 487 13 = (refs.length : Int) by rw [gI_c (by decide), r1]]
    refine ev_gg (by omega) ?_
    refine ev_gv ?_
    refine ev_gv ?_
    rw [Int.toNat_natCast]
    rw [show (gI (gI S 488 refs.length sub) 489 refs.length (node : Int)).1 487 13 = (refs.length : Int) by rw [gI_c (by decide), gI_c (by decide), r1]]
    refine ev_gv ?_
    refine ev_gv ?_
    have fr : Fr (fun k => k = 487 ∨ k = 488 ∨ k = 489) S (gI (gI (gI S 488 refs.length sub) 489 refs.length (node : Int)) 487 13 ((refs.length : Int) + 1)) := fr_tr (fr_gI (Or.inr (Or.inl rfl))) (fr_tr (fr_gI (Or.inr (Or.inr rfl))) (fr_gI (Or.inl rfl)))
    have no : ∀ k, k ≠ 13 → (gI (gI (gI S 488 refs.length sub) 489 refs.length (node : Int)) 487 13 ((refs.length : Int) + 1)).1 487 k = S.1 487 k := fun k hk => by rw [gI_k hk, gI_c (by decide), gI_c (by decide)]
    refine ev_ret ⟨⟨e1, e2⟩, ⟨to_fr t1 fr (fun k a b => by have := nS k a b; omega), to_fr t2 fr (fun k a b => by have := nT k a b; omega)⟩, ⟨?_, ?_, fun k hk => ?_⟩, ⟨?_, ?_, k3, ?_, k5, fun k hk => ?_⟩, ?_, fr_tr f (fr_mono fr (fun k z => by unfold ckM; omega)), good_gI (good_gI (good_gI g hs (fun q => by unfold isC at q; omega)) (by constructor <;> omega) (fun q => by unfold isC at q; omega)) (by constructor <;> omega) (fun q => by unfold isC at q; omega)⟩
    · rw [gI_a, List.length_append]; rfl
    · rw [List.length_append, List.length_singleton]; omega
    · rw [List.length_append, List.length_singleton] at hk
      have a0 : (gI (gI (gI S 488 refs.length sub) 489 refs.length (node : Int)) 487 13 ((refs.length : Int) + 1)).1 488 k = (gI S 488 refs.length sub).1 488 k := by rw [gI_c (by decide), gI_c (by decide)]
      have a1 : (gI (gI (gI S 488 refs.length sub) 489 refs.length (node : Int)) 487 13 ((refs.length : Int) + 1)).1 489 k = (gI (gI S 488 refs.length sub) 489 refs.length (node : Int)).1 489 k := by rw [gI_c (by decide)]
      rw [prA_snoc, a0, a1]
      by_cases e : k = refs.length
      · rw [if_pos e, e, gI_a, gI_a]
        exact ⟨rfl, rfl⟩
      · rw [if_neg e, gI_k e, gI_k e, gI_c (by decide)]
        exact r3 k (by omega)
    · rw [no _ (by decide)]; exact k1
    · rw [no _ (by decide)]; exact k2
    · rw [no _ (by decide)]; exact k4
    · rw [gI_c (by decide), gI_c (by decide), gI_c (by decide), gI_c (by decide), gI_c (by decide), gI_c (by decide)]; exact k6 k hk
    · rw [no _ (by decide)]; exact o
  · rw [if_neg c]
    refine ev_ite (fun _ => ?_) (fun z => absurd (fun w => by omega) z)
    exact ev_ret h
theorem ck_closeRef {w : Nat} {x : Int × Int} (h2 : dkc cS ∧ dkc cT) (hw : w < 100) (h : CkS cS cT Sc T most (if w = 15 then refs ++ [x] else refs) K S0 S) : Ev (fun n => f_X0_closeRef n d 0 S [(w : Int)]) (fun _ S1 => CkS cS cT Sc T most refs K S0 S1) := by
  have nS : ∀ k, cS ≤ k → k < cS + 8 → k < 424 := fun k a b => by have q := h2.1; omega
  have nT : ∀ k, cT ≤ k → k < cT + 8 → k < 424 := fun k a b => by have q := h2.2; omega
  refine ev_up (fun n => e_X0_closeRef_0) ?_
  unfold b_X0_closeRef_0
  refine ev_gg (by constructor <;> omega) ?_
  by_cases c : w = 15
  · rw [if_pos c] at h
    obtain ⟨⟨e1, e2⟩, ⟨t1, t2⟩, ⟨r1, r2, r3⟩, ⟨k1, k2, k3, k4, k5, k6⟩, o, f, g⟩ := h
    rw [List.length_append, List.length_singleton] at r1 r2 r3
    refine ev_ite (fun z => by omega) (fun _ => ?_)
    refine ev_gv ?_
    rw [r1]
    refine ev_gg (by constructor <;> omega) ?_
    refine ev_ite (fun z => by omega) (fun _ => ?_)
    refine ev_gv ?_
    refine ev_gv ?_
    refine ev_gv ?_
    have fr : Fr (fun k => k = 487) S (gI S 487 13 (((refs.length + 1 : Nat) : Int) - 1)) := fr_gI rfl
    have no : ∀ k, k ≠ 13 → (gI S 487 13 (((refs.length + 1 : Nat) : Int) - 1)).1 487 k = S.1 487 k := fun k hk => by rw [gI_k hk]
    refine ev_ret ⟨⟨e1, e2⟩, ⟨to_fr t1 fr (fun k a b => by have := nS k a b; omega), to_fr t2 fr (fun k a b => by have := nT k a b; omega)⟩, ⟨?_, by omega, fun k hk => ?_⟩, ⟨?_, ?_, k3, ?_, k5, fun k hk => ?_⟩, ?_, fr_tr f (fr_mono fr (fun k z => by unfold ckM; omega)), good_gI g (by constructor <;> omega) (fun q => by unfold isC at q; omega)⟩
    · rw [gI_a]; omega
    · rw [gI_c (by decide), gI_c (by decide)]
      have := r3 k (by omega)
      rw [prA_snoc, if_neg (by omega)] at this
      exact this
    · rw [no _ (by decide)]; exact k1
    · rw [no _ (by decide)]; exact k2
    · rw [no _ (by decide)]; exact k4
    · rw [gI_c (by decide), gI_c (by decide)]; exact k6 k hk
    · rw [no _ (by decide)]; exact o
  · rw [if_neg c] at h
    refine ev_ite (fun _ => ?_) (fun z => absurd (fun w => by omega) z)
    exact ev_ret h
theorem ck_holds {w : Nat} {s a q : Int} {no : Bool} (hw : w < 100) (hs : inr s) (ha : inr a) (hq : inr q) (hn : q = -2 ↔ no = true) : Rd (fun n => f_X0_holds n d 0 S [(w : Int), s, a, q]) (bo (hdB w s a no)) S := by
  refine ev_up (fun n => e_X0_holds_0) ?_
  unfold b_X0_holds_0
  refine ev_gg (by constructor <;> omega) ?_
  unfold hdB
  by_cases c1 : w = 12
  · rw [if_pos c1]
    refine ev_ite (fun _ => ?_) (fun z => by omega)
    refine ev_gg ha ?_
    refine ev_ite (fun z => ?_) (fun z => ?_)
    · rw [decide_eq_false (by omega)]; exact ev_ret ⟨rfl, rfl⟩
    · rw [decide_eq_true (by omega)]; exact ev_ret ⟨rfl, rfl⟩
  rw [if_neg c1]
  refine ev_ite (fun z => by omega) (fun _ => ?_)
  by_cases c2 : w = 13
  · rw [if_pos c2]
    refine ev_ite (fun _ => ?_) (fun z => by omega)
    refine ev_gg ha ?_
    refine ev_ite (fun z => ?_) (fun z => ?_)
    · rw [decide_eq_false z]; exact ev_ret ⟨rfl, rfl⟩
    · rw [decide_eq_true (by omega)]; exact ev_ret ⟨rfl, rfl⟩
  rw [if_neg c2]
  refine ev_ite (fun z => by omega) (fun _ => ?_)
  by_cases c3 : w = 14
  · rw [if_pos c3]
    refine ev_ite (fun _ => ?_) (fun z => by omega)
    refine ev_gg ha ?_
    refine ev_ite (fun z => ?_) (fun z => ?_)
    · rw [decide_eq_false z]; exact ev_ret ⟨rfl, rfl⟩
    · rw [decide_eq_true (by omega)]; exact ev_ret ⟨rfl, rfl⟩
  rw [if_neg c3]
  refine ev_ite (fun z => by omega) (fun _ => ?_)
  refine ev_gg ha ?_
  refine ev_gg hs ?_
  refine ev_ite (fun z => ?_) (fun z => ?_)
  · rw [decide_eq_false (fun y => z y.1)]; exact ev_ret ⟨rfl, rfl⟩
  refine ev_gg hq ?_
  refine ev_ite (fun z2 => ?_) (fun z2 => ?_)
  · rw [decide_eq_false (fun y => by have := hn.mp z2; rw [y.2] at this; cases this)]; exact ev_ret ⟨rfl, rfl⟩
  · rw [decide_eq_true (⟨by omega, by cases no with | false => rfl | true => exact absurd (hn.mpr rfl) z2⟩ : a = s ∧ no = false)]; exact ev_ret ⟨rfl, rfl⟩
theorem ck_holdsItself {w : Nat} {s a q : Int} {no : Bool} (hd : 2 ≤ d) (hw : w < 100) (hs : inr s) (ha : inr a) (hq : inr q) (hn : q = -2 ↔ no = true) : Rd (fun n => f_X0_holdsItself n d 0 S [(w : Int), s, a, q]) (bo (hsB w s a no)) S := by
  refine ev_up (fun n => e_X0_holdsItself_0) ?_
  unfold b_X0_holdsItself_0
  refine ev_gg (by constructor <;> omega) ?_
  unfold hsB
  by_cases c1 : w < 12
  · rw [if_pos c1]
    refine ev_ite (fun z => by omega) (fun _ => ?_)
    exact ev_ret ⟨rfl, rfl⟩
  rw [if_neg c1]
  refine ev_ite (fun _ => ?_) (fun z => by omega)
  by_cases c2 : w = 15
  · rw [if_pos c2]
    refine ev_ite (fun z => by omega) (fun _ => ?_)
    refine ev_gg hq ?_
    refine ev_ite (fun z => ?_) (fun z => ?_)
    · rw [hn.mp z]; exact ev_ret ⟨rfl, rfl⟩
    · cases no with
      | false => exact ev_ret ⟨rfl, rfl⟩
      | true => exact absurd (hn.mpr rfl) z
  rw [if_neg c2]
  refine ev_ite (fun _ => ?_) (fun z => absurd (fun y => by omega) z)
  refine ev_gg (by omega) ?_
  refine ev_gcr (ck_holds (d := d - 1) hw hs ha hq hn) ?_
  refine ev_gg (bo_01 _) ?_
  exact ev_ret ⟨rfl, rfl⟩
end CKQ
