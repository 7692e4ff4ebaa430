/-! SCHEMAS: COMPLAINTS that are kept -/
/-- COMPLAINTS that are kept: VALUES and WORDS -/
def CpS (Q : List (Int × Int)) (S : GS) : Prop := S.1 487 11 = (Q.length : Int) ∧ Q.length ≤ 1000 ∧ ∀ k, k < Q.length → S.1 492 k = (prA Q k).1 ∧ S.1 493 k = (prA Q k).2
abbrev exM : Nat → Prop := fun k => ckM k ∨ k = 492 ∨ k = 493
/-- a SCHEMA asked for its COMPLAINTS -/
def exaR (Sc T : List ND) : CK := (askF Sc T 2000 151 [] 0 0 false (0, false, [])).2
section CKE
variable {S S0 : GS} {cS cT d : Nat} {Sc T : List ND} {Qo F : List (Int × Int)}
theorem ck_79 {tm : Bool} (hf : S.1 487 12 = (F.length : Int)) (hl : F.length ≤ 1000) (ht : S.2.1 487 16 = tm) (hG : Good S) : Ev (fun n => f_X0_examine n d 79 S []) (fun x S1 => x = bo (!tm) ∧ S1 = (if F = [] ∧ tm = false then gI S 487 11 0 else S)) := by
  refine ev_up (fun n => e_X0_examine_79) ?_
  unfold b_X0_examine_79
  refine ev_gv ?_
  rw [hf]
  refine ev_gg (by constructor <;> omega) ?_
  have fl : F.length = 0 ↔ F = [] := List.length_eq_zero_iff
  refine ev_ite (fun z => ?_) (fun z => ?_)
  · rw [if_neg (fun w => z (by rw [w.1]; rfl))]
    refine ev_gv ?_
    rw [ht]
    cases tm with
    | true =>
      refine ev_gg (by decide) ?_
      refine ev_ite (fun _ => ?_) (fun z => absurd (by decide) z)
      exact ev_ret ⟨rfl, rfl⟩
    | false =>
      refine ev_gg (by decide) ?_
      refine ev_ite (fun z => absurd rfl z) (fun _ => ?_)
      exact ev_ret ⟨rfl, rfl⟩
  · have fn : F = [] := fl.mp (by omega)
    refine ev_gv ?_
    rw [ht]
    cases tm with
    | true =>
      refine ev_gg (by decide) ?_
      refine ev_ite (fun _ => ?_) (fun z => absurd (by decide) z)
      refine ev_gv ?_
      refine ev_gg (by decide) ?_
      refine ev_ite (fun _ => ?_) (fun z => absurd (by decide) z)
      rw [if_neg (fun w => by have := w.2; cases this)]
      exact ev_ret ⟨rfl, rfl⟩
    | false =>
      refine ev_gg (by decide) ?_
      refine ev_ite (fun z => absurd rfl z) (fun _ => ?_)
      refine ev_gv ?_
      refine ev_gv ?_
      rw [show (gI S 487 11 0).2.1 487 16 = false from ht]
      refine ev_gg (by decide) ?_
      refine ev_ite (fun z => absurd rfl z) (fun _ => ?_)
      rw [if_pos ⟨fn, rfl⟩]
      exact ev_ret ⟨rfl, rfl⟩
theorem ck_20e (hl : F.length ≤ 1000) (hr : ∀ k, k < F.length → inr (prA F k).1 ∧ inr (prA F k).2) : ∀ (m i : Nat) (S : GS), F.length - i < m → i ≤ F.length → S.1 487 12 = (F.length : Int) → S.2.1 487 16 = false → (∀ k, k < F.length → S.1 490 k = (prA F k).1 ∧ S.1 491 k = (prA F k).2) → (∀ k, k < i → S.1 492 k = (prA F k).1 ∧ S.1 493 k = (prA F k).2) → (0 < i → S.1 487 11 = (i : Int)) → Fr exM S0 S → Good S → Ev (fun n => f_X0_examine n d 20 S [(i : Int)]) (fun x S1 => x = 1 ∧ CpS F S1 ∧ Fr exM S0 S1 ∧ Good S1) := by
  intro m
  induction m with
  | zero => intros; omega
  | succ m ih =>
    intro i S h1 h2 hf ht hv hd hc hfr hG
    refine ev_up (fun n => e_X0_examine_20) ?_
    unfold b_X0_examine_20
    refine ev_gv ?_
    rw [hf]
    refine ev_gg (by constructor <;> omega) ?_
    refine ev_gg (by constructor <;> omega) ?_
    by_cases c : i < F.length
    · refine ev_ite (fun z => by omega) (fun _ => ?_)
      refine ev_ite (fun z => by omega) (fun _ => ?_)
      refine ev_gv ?_
      rw [ht]
      refine ev_gg (by decide) ?_
      refine ev_ite (fun z => absurd rfl z) (fun _ => ?_)
      refine ev_gg (by omega) ?_
      refine ev_gv ?_
      rw [Int.toNat_natCast, (hv i c).1]
      refine ev_gv ?_
      refine ev_gv ?_
      rw [gI_c (by decide), (hv i c).2]
      refine ev_gv ?_
      refine ev_gv ?_
      refine ev_gv ?_
      refine ev_gv ?_
      have fr : Fr (fun k => k = 492 ∨ k = 493 ∨ k = 487) S (gI (gI (gI S 492 i (prA F i).1) 493 i (prA F i).2) 487 11 ((i : Int) + 1)) := fr_tr (fr_gI (Or.inl rfl)) (fr_tr (fr_gI (Or.inr (Or.inl rfl))) (fr_gI (Or.inr (Or.inr rfl))))
      refine ih (i + 1) (gI (gI (gI S 492 i (prA F i).1) 493 i (prA F i).2) 487 11 ((i : Int) + 1)) (by omega) (by omega) ?_ ht (fun k hk => ?_) (fun k hk => ?_) (fun _ => ?_) (fr_tr hfr (fr_mono fr (fun k z => by rcases z with z | z | z; exact Or.inr (Or.inl z); exact Or.inr (Or.inr z); exact Or.inl (Or.inr (Or.inr (by omega)))))) (good_gI (good_gI (good_gI hG (hr i c).1 (fun q => by unfold isC at q; omega)) (hr i c).2 (fun q => by unfold isC at q; omega)) (by constructor <;> omega) (fun q => by unfold isC at q; omega))
      · rw [gI_k (by decide), gI_c (by decide), gI_c (by decide)]; exact hf
      · have a0 : (gI (gI (gI S 492 i (prA F i).1) 493 i (prA F i).2) 487 11 ((i : Int) + 1)).1 490 k = S.1 490 k := by rw [gI_c (by decide), gI_c (by decide), gI_c (by decide)]
        have a1 : (gI (gI (gI S 492 i (prA F i).1) 493 i (prA F i).2) 487 11 ((i : Int) + 1)).1 491 k = S.1 491 k := by rw [gI_c (by decide), gI_c (by decide), gI_c (by decide)]
        rw [a0, a1]
        exact hv k hk
      · have a0 : (gI (gI (gI S 492 i (prA F i).1) 493 i (prA F i).2) 487 11 ((i : Int) + 1)).1 492 k = (gI S 492 i (prA F i).1).1 492 k := by rw [gI_c (by decide), gI_c (by decide)]
        have a1 : (gI (gI (gI S 492 i (prA F i).1) 493 i (prA F i).2) 487 11 ((i : Int) + 1)).1 493 k = (gI (gI S 492 i (prA F i).1) 493 i (prA F i).2).1 493 k := by rw [gI_c (by decide)]
        rw [a0, a1]
        by_cases e : k = i
        · rw [e, gI_a, gI_a]
          exact ⟨rfl, rfl⟩
        · rw [gI_k e, gI_k e, gI_c (by decide)]
          exact hd k (by omega)
      · rw [gI_a]; omega
    · refine ev_ite (fun _ => ?_) (fun z => by omega)
      refine ev_mono (ck_79 (F := F) (tm := false) hf hl ht hG) (fun x S1 q => ?_)
      obtain ⟨rfl, rfl⟩ := q
      by_cases e : F = []
      · rw [if_pos ⟨e, rfl⟩]
        subst e
        exact ⟨rfl, ⟨gI_a, by decide, fun k hk => absurd hk (Nat.not_lt_zero _)⟩, fr_tr hfr (fr_gI (Or.inl (Or.inr (Or.inr (by omega))))), good_gI hG (by decide) (fun q => by unfold isC at q; omega)⟩
      · rw [if_neg (fun w => e w.1)]
        have fl : F.length ≠ 0 := fun w => e (List.length_eq_zero_iff.mp w)
        have ei : i = F.length := by omega
        subst ei
        exact ⟨rfl, ⟨hc (by omega), hl, hd⟩, hfr, hG⟩
theorem ck_examine (h2 : dkc cS ∧ dkc cT) (hd : 230 ≤ d) (wS : WF Sc) (wT : WF T) (lS : 1 ≤ Sc.length) (lT : 1 ≤ T.length) (hS : TO cS (Sc, false) S) (hT : TO cT (T, false) S) (hQ : CpS Qo S) (hG : Good S) : Ev (fun n => f_X0_examine n d 0 S [((cS : Nat) : Int), ((cT : Nat) : Int)]) (fun x S1 => x = bo (!(exaR Sc T).2.1) ∧ CpS (if (exaR Sc T).2.1 = true then Qo else (exaR Sc T).2.2) S1 ∧ Fr exM S S1 ∧ Good S1) := by
  refine ev_up (fun n => e_X0_examine_0) ?_
  unfold b_X0_examine_0
  refine ev_gg (by omega) ?_
  refine ev_gc (ck_begin (d := d - 1) (most := 2000) h2 (by decide) hS hT hG) (fun _ S1 q1 => ?_)
  have ak := ck_ask (S0 := S) (most := 2000) h2 wS wT (by decide) 151 (d - 1) (Nat.le_refl _) (by omega) S1 [] 0 0 false (0, false, []) (by omega) (by omega) ⟨by decide, by decide, fun _ => by decide⟩ rfl q1
  refine ev_gc ak (fun x S2 q2 => ?_)
  obtain ⟨-, q2, -⟩ := q2
  have er : (askF Sc T 2000 151 [] 0 0 false (0, false, [])).2 = exaR Sc T := rfl
  rw [er] at q2
  generalize exaR Sc T = r at q2 ⊢
  obtain ⟨-, -, -, ⟨k1, k2, k3, k4, k5, k6⟩, o, f, g⟩ := q2
  have fx : Fr exM S S2 := fr_mono f (fun k z => Or.inl z)
  cases ht : r.2.1 with
  | false =>
    rw [if_neg (by decide)]
    rw [ht] at k3
    exact ck_20e (S0 := S) k5 (fun k hk => by have := k6 k hk; rw [← this.1, ← this.2]; exact ⟨g.1 490 k (by decide), g.1 491 k (by decide)⟩) _ 0 S2 (Nat.lt_succ_self _) (Nat.zero_le _) k4 k3 k6 (fun k hk => absurd hk (Nat.not_lt_zero _)) (fun z => absurd z (by decide)) fx g
  | true =>
    rw [if_pos rfl]
    rw [ht] at k3
    have n2 := f 492 (fun z => by unfold ckM trM at z; omega)
    have n3 := f 493 (fun z => by unfold ckM trM at z; omega)
    have keep : CpS Qo S2 := ⟨by rw [o]; exact hQ.1, hQ.2.1, fun k hk => by rw [n2.1, n3.1]; exact hQ.2.2 k hk⟩
    have e79 : Ev (fun n => f_X0_examine n d 79 S2 []) (fun x S1 => x = bo (!true) ∧ CpS Qo S1 ∧ Fr exM S S1 ∧ Good S1) := by
      refine ev_mono (ck_79 (F := r.2.2) (tm := true) k4 k5 k3 g) (fun x S3 q => ?_)
      rw [if_neg (fun w => by have := w.2; cases this)] at q
      obtain ⟨rfl, rfl⟩ := q
      exact ⟨rfl, keep, fx, g⟩
    refine ev_up (fun n => e_X0_examine_20) ?_
    unfold b_X0_examine_20
    refine ev_gv ?_
    rw [k4]
    refine ev_gg (by decide) ?_
    refine ev_gg (by constructor <;> omega) ?_
    refine ev_ite (fun _ => e79) (fun _ => ?_)
    refine ev_ite (fun _ => e79) (fun _ => ?_)
    refine ev_gv ?_
    rw [k3]
    refine ev_gg (by decide) ?_
    refine ev_ite (fun _ => e79) (fun z => absurd (by decide) z)
theorem ck_count (hQ : CpS Qo S) : Rd (fun n => f_X0_count n d 0 S []) (Qo.length : Int) S := by
  refine ev_up (fun n => e_X0_count_0) ?_
  unfold b_X0_count_0
  refine ev_gv ?_
  rw [hQ.1]
  exact ev_ret ⟨rfl, rfl⟩
end CKE
