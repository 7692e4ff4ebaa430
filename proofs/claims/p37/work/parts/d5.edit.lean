/-! the Editor of the class: PUT, CUT, what is held -/
theorem aimS_own {l : List Int} {V : List ND} (h : TR V ∧ PZL V) {z : Bool × Nat × Nat × Nat} (hz : aimS l V = some z) : ldT l V (nW l - 1) = (z.2.1 : Int) := by
  have l1 := h.1.2.1
  unfold aimS at hz
  by_cases c0 : nW l = 0
  · rw [if_pos c0] at hz
    cases hz
    unfold ldT
    rw [c0]
    rfl
  rw [if_neg c0] at hz
  generalize hO : ldT l V (nW l - 1) = o at *
  by_cases c5 : kdI V o = 5
  · have o0 : 0 ≤ o ∧ o < (V.length : Int) := by
      unfold kdI at c5
      by_cases q : 0 ≤ o ∧ o < (V.length : Int)
      · exact q
      · rw [if_neg q] at c5; omega
    rw [if_pos c5] at hz
    split at hz
    · split at hz
      · cases hz
        show o = ((o.toNat : Nat) : Int); omega
      · cases hz
    · cases hz
      show o = ((o.toNat : Nat) : Int); omega
  · rw [if_neg c5] at hz
    by_cases c4 : kdI V o = 4
    · have o0 : 0 ≤ o ∧ o < (V.length : Int) := by
        unfold kdI at c4
        by_cases q : 0 ≤ o ∧ o < (V.length : Int)
        · exact q
        · rw [if_neg q] at c4; omega
      rw [if_pos c4] at hz
      by_cases cp : 0 ≤ pRow l V o.toNat ∧ pRow l V o.toNat ≤ ((kids V o.toNat).length : Int)
      · rw [if_pos cp] at hz
        cases hz
        show o = ((o.toNat : Nat) : Int); omega
      · rw [if_neg cp] at hz; cases hz
    · rw [if_neg c4] at hz; cases hz
theorem recM_ed : ∀ k, recM k → edP k := fun k z => z.elim (fun y => Or.inr (Or.inl y)) (fun y => Or.inr (Or.inr (Or.inl y)))
section ED5
variable {S S0 : GS} {a c2 d : Nat} {l : List Int} {V U : List ND} {tn : Bool} {bk : Option (List (List ND))}
def PutQ (tn : Bool) (bk : Option (List (List ND))) (l : List Int) (V t : List ND) (S0 : GS) (x : Int) (S1 : GS) : Prop := match aimS l V with
  | none => x = 0 ∧ Fr edP S0 S1 ∧ Good S1
  | some z => if pOK (putT l V z t) then x = 1 ∧ EdS tn (putT l V z t) (putR tn bk l V z) S0 S1 else x = 0 ∧ Fr edP S0 S1 ∧ Good S1
theorem rS_ed {a : Nat} (ha : gRo a) : (∀ k, edP k → k ≠ a ∧ k ≠ a + 1 ∧ k ≠ rS a ∧ k ≠ rS a + 1) ∧ (∀ k, shM (rW a) k → edP k) := by
  rcases ha with rfl | rfl
  · refine ⟨fun k hk => ?_, fun k hk => ?_⟩
    · unfold edP trM at hk
      rw [show rS 471 = 436 from rfl]
      omega
    · rw [show rW 471 = 438 from rfl] at hk
      unfold shM at hk
      unfold edP trM
      omega
  · refine ⟨fun k hk => ?_, fun k hk => ?_⟩
    · unfold edP trM at hk
      rw [show rS 483 = 448 from rfl]
      omega
    · rw [show rW 483 = 450 from rfl] at hk
      unfold shM at hk
      unfold edP trM
      omega
theorem ro_ed {S1 : GS} {M : Nat → Prop} (ha : gRo a) (h : RoS a l S) (hf : Fr M S S1) (hM : ∀ k, M k → edP k) : RoS a l S1 := by
  have r := (rS_ed ha).1
  exact ro_fr h hf (fun z => (r _ (hM _ z)).1 rfl) (fun z => (r _ (hM _ z)).2.1 rfl) (fun z => (r _ (hM _ z)).2.2.1 rfl) (fun z => (r _ (hM _ z)).2.2.2 rfl)
theorem ed_put {j : Nat} (ha : gRo a) (hd : 25 ≤ d) (h : TR V ∧ PZL V) (hp : isP l) (hl : rng l) (hr : RoS a l S) (hE : EdS tn V bk S0 S) (htn : tn = true → l.length ≤ 390) (hc2 : gT c2) (hne : c2 ≠ 360 ∧ c2 ≠ 376 ∧ c2 ≠ 384) (hu : TO c2 (U, false) S) (hU : WF U) (hj : j < U.length) : Ev (fun n => f_X1_putIn n d 0 S [((a : Nat) : Int), ((c2 : Nat) : Int), (j : Int)]) (PutQ tn bk l V (sg U j) S0) := by
  obtain ⟨hT, h7, hB, hF, hG⟩ := hE
  have lV : V.length ≤ 100 := tv_l hT.1
  have pz := pz_l h.2
  have ll := ro_len hr ha
  have sl := slP_len l 0
  have nw : nW l = (slP l 0).length := rfl
  have re := rS_ed ha
  have l1 := h.1.2.1
  refine ev_up (fun n => e_X1_putIn_0) ?_
  unfold b_X1_putIn_0
  refine ev_gg (by omega) ?_
  refine ev_gg ha ?_
  refine ev_gcr (ro_steps ha hr) ?_
  refine ev_gv ?_
  have ld := ro_leadsTo (d := d - 1) (u := (nW l : Int) - 1) ha gT360 (by omega) h.1.1 hr hT.1 hp.2 (fun x hx => (hl x hx).2) (by omega) l1 hG
  rw [show ((nW l : Int) - 1).toNat = nW l - 1 by omega] at ld
  refine ev_gc ld (fun x S1 q1 => ?_)
  obtain ⟨rfl, m1, G1⟩ := q1
  have no : nOK V (ldT l V (nW l - 1)) := ldF_r h.1.1 pz _ _ _ (Or.inr (by omega))
  refine ev_gv ?_
  generalize hS2 : gI S1 482 8 (ldT l V (nW l - 1)) = S2
  have f2 : Fr edP S S2 := by rw [← hS2]; exact fr_tr (fr_mono m1 re.2) (fr_gI (by omega))
  have G2 : Good S2 := by rw [← hS2]; exact good_gI G1 (by rcases no with z | z <;> constructor <;> omega) (fun q => by unfold isC at q; omega)
  have e8 : S2.1 482 8 = ldT l V (nW l - 1) := by rw [← hS2, gI_a]
  have n482 : ¬ shM (rW a) 482 := fun z => by have := (rS_r ha).2; unfold shM at z; omega
  have e7 : S2.2.1 482 7 = tn := by
    rw [← hS2]
    show S1.2.1 482 7 = tn
    rw [(m1 482 n482).2.1]
    exact h7
  have t360 : ∀ k, 360 ≤ k → k < 392 → ¬ (shM (rW a) k ∨ k = 482) := fun k z1 z2 z => by have := (rS_r ha).2; unfold shM at z; omega
  have f2' : Fr (fun k => shM (rW a) k ∨ k = 482) S S2 := by rw [← hS2]; exact fr_tr (fr_mono m1 (fun _ z => Or.inl z)) (fr_gI (Or.inr rfl))
  have T2 : TO 360 (V, false) S2 := to_fr hT f2' (fun k z1 z2 => t360 k (by omega) (by omega))
  have B2 : BkR bk S2 := bk_fr hB f2' (fun k z1 z2 => t360 k (by omega) (by omega))
  have r2 := ro_ed ha hr f2 (fun _ z => z)
  have u2 : TO c2 (U, false) S2 := to_fr hu f2' (fun k z1 z2 z => by have := (rS_r ha).2; unfold shM at z; omega)
  refine ev_gc (ed_aim (d := d - 1) ha (by omega) h.1.1 hp.2 hl r2 T2.1 e8 l1 G2) (fun x S3 q3 => ?_)
  obtain ⟨q3, k8, k7, f3, G3⟩ := q3
  have f3' : Fr edP S S3 := fr_tr f2 (fr_mono f3 (fun k z => by omega))
  have T3 : TO 360 (V, false) S3 := to_fr T2 f3 (fun k z1 z2 => by omega)
  have B3 : BkR bk S3 := bk_fr B2 f3 (fun k z1 z2 => by omega)
  have r3 := ro_ed ha hr f3' (fun _ z => z)
  have u3 : TO c2 (U, false) S3 := to_fr u2 f3 (fun k z1 z2 => by omega)
  rw [e7] at k7
  unfold PutQ
  cases hz : aimS l V with
  | none =>
    rw [hz] at q3
    have q3' : x = 0 := q3
    subst q3'
    refine ev_gg (by decide) ?_
    refine ev_ite (fun z => absurd rfl z) (fun _ => ?_)
    exact ev_ret ⟨rfl, fr_tr hF f3', G3⟩
  | some z =>
    rw [hz] at q3
    obtain ⟨e1, e10, e11, ew⟩ := q3
    subst e1
    have ok := aimS_ok h hz
    have k8' : S3.1 482 8 = (z.2.1 : Int) := by
      rw [k8, e8]
      exact aimS_own h hz
    refine ev_gg (by decide) ?_
    refine ev_ite (fun _ => ?_) (fun y => absurd (by decide) y)
    -- behind what is told
    have fin : ∀ (S4 : GS) (bk' : Option (List (List ND))), bk' = putR tn bk l V z → Fr edP S3 S4 → Good S4 → TO 360 (V, false) S4 → S4.1 482 = S3.1 482 → S4.2.1 482 = S3.2.1 482 → (z.1 = false → SV S4 452 (wdA l (nW l - 1))) → TO c2 (U, false) S4 → BkR bk' S4 → Ev (fun n => f_X1_putIn n d 90 S4 [((c2 : Nat) : Int), (j : Int)]) (fun x S1 => if pOK (putT l V z (sg U j)) then x = 1 ∧ EdS tn (putT l V z (sg U j)) (putR tn bk l V z) S0 S1 else x = 0 ∧ Fr edP S0 S1 ∧ Good S1) := by
      intro S4 bk' hbk m4 G4 T4 i4 b4 w4 u4 B4
      refine ev_mono (ed_90 (d := d) (l := l) (by omega) h hz hl T4 (by rw [i4]; exact k8') (by rw [i4]; exact e10) (by rw [b4]; exact e11) w4 hc2 hne.1 u4 hU hj G4) (fun x S5 q5 => ?_)
      obtain ⟨q5, m5, G5⟩ := q5
      have m5' : Fr edP S0 S5 := fr_tr hF (fr_tr f3' (fr_tr m4 (fr_mono m5 (fun k y => Or.inl y))))
      by_cases c : pOK (putT l V z (sg U j))
      · rw [if_pos c] at q5 ⊢
        refine ⟨q5.1, q5.2, ?_, ?_, m5', G5⟩
        · rw [(m5 482 (by unfold trM; omega)).2.1, b4]
          exact k7
        · rw [← hbk]
          exact bk_fr B4 m5 (fun k y1 y2 => by unfold trM; omega)
      · rw [if_neg c] at q5 ⊢
        exact ⟨q5, m5', G5⟩
    rw [k7]
    cases htn' : tn with
    | false =>
      refine ev_gv ?_
      refine ev_gg (by decide) ?_
      refine ev_ite (fun _ => ?_) (fun y => absurd rfl y)
      refine ev_up (fun n => e_X1_putIn_67) ?_
      unfold b_X1_putIn_67
      rw [k7, htn']
      refine ev_gv ?_
      refine ev_gg (by decide) ?_
      refine ev_ite (fun _ => ?_) (fun y => absurd rfl y)
      have kk := fin S3 bk (by unfold putR; rw [htn', if_neg (by decide)]) fr_rf G3 T3 rfl rfl (fun y => (ew y).1) u3 B3
      rw [htn'] at kk
      exact kk
    | true =>
      have lt := htn htn'
      refine ev_gv ?_
      refine ev_gg (by decide) ?_
      refine ev_ite (fun y => absurd y (by decide)) (fun _ => ?_)
      rw [e11]
      cases hb : z.1 with
      | true =>
        refine ev_gv ?_
        refine ev_gg (by decide) ?_
        refine ev_ite (fun y => absurd y (by decide)) (fun _ => ?_)
        refine ev_gc (ro_textTo (d := d - 1) (s := 454) ha gSh454 (by have := (rS_r ha).1; omega) (by decide) (by omega) r3 G3) (fun _ S4 s4 => ?_)
        have i4 : S4.1 482 = S3.1 482 := (s4.2.1 482 (by unfold shM; omega)).1
        rw [i4, e10]
        refine ev_gv ?_
        have T4 : TO 360 (V, false) S4 := to_fr T3 s4.2.1 (fun k y1 y2 => by unfold shM; omega)
        have B4 : BkR bk S4 := bk_fr B3 s4.2.1 (fun k y1 y2 => by unfold shM; omega)
        refine ev_gc (ed_record (d := d - 1) (op := 21) (c2 := 360) (p := l) (v := (z.2.2.1 : Int)) (by decide) gT360 (by decide) (by decide) (by omega) T4 h.1.1 (Or.inr (by have := ok.2.1 hb; omega)) s4.1 (fun x hx => (hl x hx).2) B4 s4.2.2) (fun _ S5 q5 => ?_)
        obtain ⟨B5, m5, G5⟩ := q5
        have e21 : recS bk 21 l (vL V (z.2.2.1 : Int)) = putR tn bk l V z := by
          unfold putR vL
          rw [htn', if_pos rfl, hb, if_pos rfl, if_neg (by omega), Int.toNat_natCast]
        have kk := fin S5 _ e21 (fr_tr (fr_mono s4.2.1 (fun k y => by unfold shM at y; omega)) (fr_mono m5 recM_ed)) G5 (to_fr T4 m5 (fun k y1 y2 => by unfold recM trM; omega)) (by rw [(m5 482 (by unfold recM trM; omega)).1, i4]) (by rw [(m5 482 (by unfold recM trM; omega)).2.1, (s4.2.1 482 (by unfold shM; omega)).2.1]) (fun y => by rw [hb] at y; cases y) (to_fr (to_fr u3 s4.2.1 (fun k y1 y2 => by unfold shM; omega)) m5 (fun k y1 y2 => by unfold recM trM; omega)) B5
        rw [htn'] at kk
        exact kk
      | false =>
        refine ev_gv ?_
        refine ev_gg (by decide) ?_
        refine ev_ite (fun _ => ?_) (fun y => absurd rfl y)
        have o2 := ok.2.2 hb
        have klen : (kids V z.2.1).length ≤ 100 := by
          have := ks_len pz _ (z.2.1 + 1) (z.2.1 + nz V z.2.1) (Nat.lt_succ_self _)
          have := h.1.1.1 z.2.1 ok.1
          unfold kids
          omega
        refine ev_up (fun n => e_X1_putIn_67) ?_
        unfold b_X1_putIn_67
        rw [k7, htn']
        refine ev_gv ?_
        refine ev_gg (by decide) ?_
        refine ev_ite (fun y => absurd y (by decide)) (fun _ => ?_)
        refine ev_gg (by omega) ?_
        refine ev_gc (ed_aimedPath (d := d - 1) (z := z) ha (by omega) r3 T3.1 k8' ok.1 (fun y => ⟨(ew hb).2 y, by omega⟩) lt o2.2.2.2.2.2.1 G3) (fun _ S4 s4 => ?_)
        have i4 : S4.1 482 = S3.1 482 := (s4.2.1 482 (by unfold shM; omega)).1
        have T4 : TO 360 (V, false) S4 := to_fr T3 s4.2.1 (fun k y1 y2 => by unfold shM; omega)
        have B4 : BkR bk S4 := bk_fr B3 s4.2.1 (fun k y1 y2 => by unfold shM; omega)
        have apr : ∀ x ∈ apT l V z, x < 256 := by
          intro x hx
          unfold apT at hx
          split at hx
          · rcases List.mem_append.mp hx with y | y
            · exact (hl x (List.mem_of_mem_take y)).2
            · exact (wnum_r (by omega) x y).2
          · exact (hl x hx).2
        refine ev_gc (ed_record (d := d - 1) (op := 25) (c2 := 360) (p := apT l V z) (v := -1) (by decide) gT360 (by decide) (by decide) (by omega) T4 h.1.1 (Or.inl rfl) s4.1 apr B4 s4.2.2) (fun _ S5 q5 => ?_)
        obtain ⟨B5, m5, G5⟩ := q5
        have e25 : recS bk 25 (apT l V z) (vL V (-1)) = putR tn bk l V z := by
          simp [putR, vL, htn', hb]
        have kk := fin S5 _ e25 (fr_tr (fr_mono s4.2.1 (fun k y => by unfold shM at y; omega)) (fr_mono m5 recM_ed)) G5 (to_fr T4 m5 (fun k y1 y2 => by unfold recM trM; omega)) (by rw [(m5 482 (by unfold recM trM; omega)).1, i4]) (by rw [(m5 482 (by unfold recM trM; omega)).2.1, (s4.2.1 482 (by unfold shM; omega)).2.1]) (fun y => sv_fr (sv_fr (ew y).1 s4.2.1 (by unfold shM; omega) (by unfold shM; omega)) m5 (by unfold recM trM; omega) (by unfold recM trM; omega)) (to_fr (to_fr u3 s4.2.1 (fun k y1 y2 => by unfold shM; omega)) m5 (fun k y1 y2 => by unfold recM trM; omega)) B5
        rw [htn'] at kk
        exact kk
end ED5
