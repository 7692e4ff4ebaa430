/-! SCHEMAS: from the top -/
section CKX
variable {S S0 : GS} {cS cT d : Nat} {Sc T : List ND} {most : Int} {refs : List (Int × Int)} {K : CK}
theorem ck_flag {b : Bool} (h2 : dkc cS ∧ dkc cT) (hi : inr (K.1 + 1)) (h : CkS cS cT Sc T most refs K S0 S) : CkS cS cT Sc T most refs (K.1 + 1, b, K.2.2) S0 (gB (gI S 487 14 (K.1 + 1)) 487 16 b) := by
  obtain ⟨⟨e1, e2⟩, ⟨t1, t2⟩, ⟨r1, r2, r3⟩, ⟨k1, k2, k3, k4, k5, k6⟩, o, f, g⟩ := h
  have nS : ∀ k, cS ≤ k → k < cS + 8 → k < 424 := fun k a b => by have q := h2.1; omega
  have nT : ∀ k, cT ≤ k → k < cT + 8 → k < 424 := fun k a b => by have q := h2.2; omega
  have fr : Fr (fun k => k = 487) S (gB (gI S 487 14 (K.1 + 1)) 487 16 b) := fr_tr (fr_gI rfl) (fr_gB rfl)
  have no : ∀ k, k ≠ 14 → (gI S 487 14 (K.1 + 1)).1 487 k = S.1 487 k := fun k hk => gI_k hk
  have nc : ∀ c k, c ≠ 487 → (gI S 487 14 (K.1 + 1)).1 c k = S.1 c k := fun c k hk => gI_c hk
  refine ⟨⟨e1, e2⟩, ⟨to_fr t1 fr (fun k a b => by have := nS k a b; omega), to_fr t2 fr (fun k a b => by have := nT k a b; omega)⟩, ⟨?_, r2, fun k hk => ?_⟩, ⟨?_, ?_, ?_, ?_, k5, fun k hk => ?_⟩, ?_, fr_tr f (fr_mono fr (fun k z => by unfold ckM; omega)), good_gI g hi (fun q => by unfold isC at q; omega)⟩
  · show (gI S 487 14 (K.1 + 1)).1 487 13 = _; rw [no _ (by decide)]; exact r1
  · show (gI S 487 14 (K.1 + 1)).1 488 k = _ ∧ (gI S 487 14 (K.1 + 1)).1 489 k = _; rw [nc _ _ (by decide), nc _ _ (by decide)]; exact r3 k hk
  · show (gI S 487 14 (K.1 + 1)).1 487 15 = _; rw [no _ (by decide)]; exact k1
  · show (gI S 487 14 (K.1 + 1)).1 487 14 = _; rw [gI_a]
  · rw [gB_a]
  · show (gI S 487 14 (K.1 + 1)).1 487 12 = _; rw [no _ (by decide)]; exact k4
  · show (gI S 487 14 (K.1 + 1)).1 490 k = _ ∧ (gI S 487 14 (K.1 + 1)).1 491 k = _; rw [nc _ _ (by decide), nc _ _ (by decide)]; exact k6 k hk
  · show (gI S 487 14 (K.1 + 1)).1 487 11 = _; rw [no _ (by decide)]; exact o
theorem askF_s {f : Nat} {b i : Int} {muted : Bool} : askF Sc T most (f + 1) refs b i muted K = if K.2.1 = true ∨ most < K.1 + 1 then (false, (K.1 + 1, true, K.2.2))
    else if kdI Sc b = 5 then wdsF Sc T (askF Sc T most f) refs b.toNat i.toNat muted 15 (true, (K.1 + 1, false, K.2.2))
    else if kdI Sc b = 1 ∧ np Sc b.toNat = 1 then (true, (K.1 + 1, false, K.2.2))
    else (false, ckC (K.1 + 1, false, K.2.2) muted i 0) := rfl
theorem ck_ask (h2 : dkc cS ∧ dkc cT) (wS : WF Sc) (wT : WF T) (hm : 0 ≤ most ∧ most ≤ 1000000) : ∀ (f d : Nat), f ≤ 151 → f + 70 ≤ d → AskC cS cT Sc T most S0 f d := by
  intro f
  induction f with
  | zero =>
    intro d hf hd S refs b i muted K hb hi hk ht h
    have kr : inr (K.1 + 1) := by have := hk.1; have := hk.2.1; constructor <;> omega
    have fin : Ev (fun n => f_X0_ask n d 42 (gI S 487 14 (K.1 + 1)) [b, i, bo muted, 151 - ((0 : Nat) : Int), 1]) (fun x S1 => x = bo (askF Sc T most 0 refs b i muted K).1 ∧ CkS cS cT Sc T most refs (askF Sc T most 0 refs b i muted K).2 S0 S1 ∧ AkI most (askF Sc T most 0 refs b i muted K).2) := by
      refine ev_up (fun n => e_X0_ask_42) ?_
      unfold b_X0_ask_42
      refine ev_gg (by decide) ?_
      refine ev_gv ?_
      refine ev_gv ?_
      rw [show bi ((gB (gI S 487 14 (K.1 + 1)) 487 16 (decide ((1 : Int) = 1))).2.1 487 16) = 1 by rw [gB_a]; rfl]
      refine ev_gg (by decide) ?_
      refine ev_ite (fun z => absurd z (by decide)) (fun _ => ?_)
      exact ev_ret ⟨rfl, ck_flag (b := true) h2 kr h, by show 0 ≤ K.1 + 1; have := hk.1; omega, by show K.1 + 1 ≤ most + 1; have := hk.2.2 ht; omega, fun z => by cases z⟩
    refine ev_up (fun n => e_X0_ask_0) ?_
    unfold b_X0_ask_0
    refine ev_gv ?_
    rw [h.2.2.2.1.2.1]
    refine ev_gv ?_
    refine ev_gv ?_
    refine ev_gv ?_
    rw [show (gI S 487 14 (K.1 + 1)).2.1 487 16 = false by show S.2.1 487 16 = false; rw [h.2.2.2.1.2.2.1]; exact ht]
    refine ev_gg (by decide) ?_
    refine ev_ite (fun z => absurd rfl z) (fun _ => ?_)
    refine ev_gv ?_
    refine ev_gv ?_
    rw [gI_a, gI_k (by decide), h.2.2.2.1.1]
    refine ev_gg kr ?_
    refine ev_gg (by constructor <;> omega) ?_
    refine ev_ite (fun z => fin) (fun z => ?_)
    refine ev_gg (by decide) ?_
    refine ev_ite (fun z => absurd z (by decide)) (fun _ => fin)
  | succ f ih =>
    intro d hf hd S refs b i muted K hb hi hk ht h
    have lS : Sc.length ≤ 100 := tv_l h.2.1.1.1
    have lT : T.length ≤ 100 := tv_l h.2.1.2.1
    have k1 := hk.1
    have k2 := hk.2.2 ht
    have kr : inr (K.1 + 1) := by constructor <;> omega
    rw [askF_s]
    refine ev_up (fun n => e_X0_ask_0) ?_
    unfold b_X0_ask_0
    refine ev_gv ?_
    rw [h.2.2.2.1.2.1]
    refine ev_gv ?_
    refine ev_gv ?_
    refine ev_gv ?_
    rw [show (gI S 487 14 (K.1 + 1)).2.1 487 16 = false by show S.2.1 487 16 = false; rw [h.2.2.2.1.2.2.1]; exact ht]
    refine ev_gg (by decide) ?_
    refine ev_ite (fun z => absurd rfl z) (fun _ => ?_)
    refine ev_gv ?_
    refine ev_gv ?_
    rw [gI_a, gI_k (by decide), h.2.2.2.1.1]
    refine ev_gg kr ?_
    refine ev_gg (by constructor <;> omega) ?_
    refine ev_ite (fun z => ?_) (fun z => ?_)
    · rw [if_pos (Or.inr z)]
      refine ev_up (fun n => e_X0_ask_42) ?_
      unfold b_X0_ask_42
      refine ev_gg (by decide) ?_
      refine ev_gv ?_
      refine ev_gv ?_
      rw [show bi ((gB (gI S 487 14 (K.1 + 1)) 487 16 (decide ((1 : Int) = 1))).2.1 487 16) = 1 by rw [gB_a]; rfl]
      refine ev_gg (by decide) ?_
      refine ev_ite (fun z => absurd z (by decide)) (fun _ => ?_)
      exact ev_ret ⟨rfl, ck_flag (b := true) h2 kr h, by show 0 ≤ K.1 + 1; omega, by show K.1 + 1 ≤ most + 1; omega, fun z => by cases z⟩
    rw [if_neg (fun y => by rcases y with y | y; rw [ht] at y; cases y; exact z y)]
    refine ev_gg (by constructor <;> omega) ?_
    refine ev_ite (fun _ => ?_) (fun z => by omega)
    have h' := ck_flag (b := false) h2 kr h
    have ak : AkI most (K.1 + 1, false, K.2.2) := ⟨by show 0 ≤ K.1 + 1; omega, by show K.1 + 1 ≤ most + 1; omega, fun _ => by show K.1 + 1 ≤ most; omega⟩
    obtain ⟨b, rfl⟩ : ∃ k : Nat, b = (k : Int) := ⟨b.toNat, by omega⟩
    obtain ⟨i, rfl⟩ : ∃ k : Nat, i = (k : Int) := ⟨i.toNat, by omega⟩
    have bl : b < Sc.length := by omega
    have il : i < T.length := by omega
    have kb : kdI Sc (b : Int) = nk Sc b := kd_nat bl
    refine ev_up (fun n => e_X0_ask_42) ?_
    unfold b_X0_ask_42
    refine ev_gg (by decide) ?_
    refine ev_gv ?_
    refine ev_gv ?_
    rw [show decide ((0 : Int) = 1) = false from rfl]
    generalize gB (gI S 487 14 (K.1 + 1)) 487 16 false = S2 at h' ⊢
    rw [show S2.2.1 487 16 = false from h'.2.2.2.1.2.2.1]
    refine ev_gg (by decide) ?_
    refine ev_ite (fun _ => ?_) (fun z => absurd rfl z)
    rw [h'.1.1]
    refine ev_gv ?_
    refine ev_gg (by omega) ?_
    refine ev_gg h2.1.1 ?_
    refine ev_gcr (rd_as (t_is (S := S2) (V := Sc) (d := d - 1) (i := (b : Int)) (k := 5) h2.1.1 h'.2.1.1.1 (by constructor <;> omega) (by decide)) (is_kd (by decide))) ?_
    by_cases c5 : kdI Sc (b : Int) = 5
    · rw [if_pos c5, if_pos c5]
      refine ev_gg (by decide) ?_
      refine ev_ite (fun _ => ?_) (fun z => absurd (by decide) z)
      have k := ck_97 (d := d) (f := f) (by_ := b) (node := i) (muted := muted) (refs := refs) (ih (d - 1) (by omega) (by omega)) h2 (by omega) wS wT bl il (by omega) 15 (Nat.le_refl _) true (K.1 + 1, false, K.2.2) S2 ak h'
      rw [show ((16 - 15 : Nat) : Int) = 1 from rfl, show bo true = 1 from rfl, show 150 - (f : Int) = 151 - ((f + 1 : Nat) : Int) by omega] at k
      rw [Int.toNat_natCast, Int.toNat_natCast]
      exact k
    · rw [if_neg c5, if_neg c5]
      refine ev_gg (by decide) ?_
      refine ev_ite (fun z => absurd rfl z) (fun _ => ?_)
      rw [h'.1.1]
      refine ev_gv ?_
      refine ev_gg h2.1.1 ?_
      refine ev_gcr (t_isTrue (S := S2) (V := Sc) (d := d - 1) (i := (b : Int)) h2.1.1 h'.2.1.1.1 (by omega) (by constructor <;> omega)) ?_
      rw [Int.toNat_natCast]
      by_cases c1 : kdI Sc (b : Int) = 1 ∧ np Sc b = 1
      · rw [if_pos c1, if_pos ⟨⟨by omega, by rw [← kb]; exact c1.1⟩, c1.2⟩]
        refine ev_gg (by decide) ?_
        refine ev_ite (fun _ => ?_) (fun z => absurd (by decide) z)
        refine ev_gg (by decide) ?_
        exact ev_ret ⟨rfl, h', ak⟩
      · rw [if_neg c1, if_neg (fun y => c1 ⟨by rw [kb]; exact y.1.2, y.2⟩)]
        refine ev_gg (by decide) ?_
        refine ev_ite (fun z => absurd rfl z) (fun _ => ?_)
        refine ev_gc (ck_complain (d := d - 1) (node := (i : Int)) (w := 0) h2 (by constructor <;> omega) (by decide) h') (fun _ S4 q4 => ?_)
        refine ev_gg (by decide) ?_
        exact ev_ret ⟨rfl, q4, ak_ckC ak⟩
theorem ck_begin (h2 : dkc cS ∧ dkc cT) (hm : 0 ≤ most ∧ most ≤ 1000000) (hS : TO cS (Sc, false) S) (hT : TO cT (T, false) S) (hG : Good S) : Ev (fun n => f_X0_begin n d 0 S [((cS : Nat) : Int), ((cT : Nat) : Int), most]) (fun _ S1 => CkS cS cT Sc T most [] (0, false, []) S S1) := by
  have q1 := h2.1
  have q2 := h2.2
  refine ev_up (fun n => e_X0_begin_0) ?_
  unfold b_X0_begin_0
  refine ev_gv ?_
  refine ev_gv ?_
  refine ev_gv ?_
  refine ev_gv ?_
  refine ev_gv ?_
  refine ev_gv ?_
  refine ev_gv ?_
  have fr : Fr (fun k => k = 487) S (gB (gI (gI (gI (gI (gR (gR S 487 9 cS) 487 10 cT) 487 15 most) 487 14 0) 487 13 0) 487 12 0) 487 16 (decide ((0 : Int) = 1))) := fr_tr (fr_gR rfl) (fr_tr (fr_gR rfl) (fr_tr (fr_gI rfl) (fr_tr (fr_gI rfl) (fr_tr (fr_gI rfl) (fr_tr (fr_gI rfl) (fr_gB rfl))))))
  refine ev_ret ⟨⟨?_, ?_⟩, ⟨to_fr hS fr (fun k a b => by omega), to_fr hT fr (fun k a b => by omega)⟩, ⟨?_, by decide, fun k hk => absurd hk (Nat.not_lt_zero _)⟩, ⟨?_, ?_, ?_, ?_, by decide, fun k hk => absurd hk (Nat.not_lt_zero _)⟩, ?_, fr_mono fr (fun k z => by unfold ckM; omega), ?_⟩
  · show (gR (gR S 487 9 cS) 487 10 cT).2.2 487 9 = _; rw [gR_k (by decide), gR_a]
  · show (gR (gR S 487 9 cS) 487 10 cT).2.2 487 10 = _; rw [gR_a]
  · show (gI (gI (gI (gI (gR (gR S 487 9 cS) 487 10 cT) 487 15 most) 487 14 0) 487 13 0) 487 12 0).1 487 13 = _; rw [gI_k (by decide), gI_a]; rfl
  · show (gI (gI (gI (gI (gR (gR S 487 9 cS) 487 10 cT) 487 15 most) 487 14 0) 487 13 0) 487 12 0).1 487 15 = _; rw [gI_k (by decide), gI_k (by decide), gI_k (by decide), gI_a]
  · show (gI (gI (gI (gI (gR (gR S 487 9 cS) 487 10 cT) 487 15 most) 487 14 0) 487 13 0) 487 12 0).1 487 14 = _; rw [gI_k (by decide), gI_k (by decide), gI_a]
  · rw [gB_a]; rfl
  · show (gI (gI (gI (gI (gR (gR S 487 9 cS) 487 10 cT) 487 15 most) 487 14 0) 487 13 0) 487 12 0).1 487 12 = _; rw [gI_a]; rfl
  · show (gI (gI (gI (gI (gR (gR S 487 9 cS) 487 10 cT) 487 15 most) 487 14 0) 487 13 0) 487 12 0).1 487 11 = _; rw [gI_k (by decide), gI_k (by decide), gI_k (by decide), gI_k (by decide)]; rfl
  · exact good_gI (good_gI (good_gI (good_gI (good_gR (good_gR hG (by omega)) (by omega)) (by constructor <;> omega) (fun q => by unfold isC at q; omega)) (by decide) (fun q => by unfold isC at q; omega)) (by decide) (fun q => by unfold isC at q; omega)) (by decide) (fun q => by unfold isC at q; omega)
/-- a SCHEMA asked with no COMPLAINTS, as often as it takes -/
def agB (Sc T : List ND) : Bool := (askF Sc T 1000000 151 [] 0 0 true (0, false, [])).1 && !(askF Sc T 1000000 151 [] 0 0 true (0, false, [])).2.2.1
theorem ck_agrees (h2 : dkc cS ∧ dkc cT) (hd : 230 ≤ d) (wS : WF Sc) (wT : WF T) (lS : 1 ≤ Sc.length) (lT : 1 ≤ T.length) (hS : TO cS (Sc, false) S) (hT : TO cT (T, false) S) (hG : Good S) : Ev (fun n => f_X0_agrees n d 0 S [((cS : Nat) : Int), ((cT : Nat) : Int)]) (fun x S1 => x = bo (agB Sc T) ∧ S1.1 487 11 = S.1 487 11 ∧ Fr ckM S S1 ∧ Good S1) := by
  refine ev_up (fun n => e_X0_agrees_0) ?_
  unfold b_X0_agrees_0
  refine ev_gg (by omega) ?_
  refine ev_gc (ck_begin (d := d - 1) (most := 1000000) h2 (by decide) hS hT hG) (fun _ S1 q1 => ?_)
  have ak := ck_ask (S0 := S) (most := 1000000) h2 wS wT (by decide) 151 (d - 1) (Nat.le_refl _) (by omega) S1 [] 0 0 true (0, false, []) (by omega) (by omega) ⟨by decide, by decide, fun _ => by decide⟩ rfl q1
  refine ev_gc ak (fun x S2 q2 => ?_)
  obtain ⟨rfl, q2, -⟩ := q2
  unfold agB
  generalize askF Sc T 1000000 151 [] 0 0 true (0, false, []) = r at q2 ⊢
  have tail : S2.1 487 11 = S.1 487 11 ∧ Fr ckM S S2 ∧ Good S2 := ⟨q2.2.2.2.2.1, q2.2.2.2.2.2.1, q2.2.2.2.2.2.2⟩
  refine ev_gg (bo_in _) ?_
  cases e1 : r.1 with
  | false =>
    refine ev_ite (fun _ => ?_) (fun z => absurd rfl z)
    exact ev_ret ⟨rfl, tail⟩
  | true =>
    refine ev_ite (fun z => absurd z (by decide)) (fun _ => ?_)
    refine ev_gv ?_
    rw [q2.2.2.2.1.2.2.1]
    cases e2 : r.2.2.1 with
    | false =>
      refine ev_gg (by decide) ?_
      refine ev_ite (fun z => absurd rfl z) (fun _ => ?_)
      exact ev_ret ⟨rfl, tail⟩
    | true =>
      refine ev_gg (by decide) ?_
      refine ev_ite (fun _ => ?_) (fun z => absurd (by decide) z)
      exact ev_ret ⟨rfl, tail⟩
end CKX
