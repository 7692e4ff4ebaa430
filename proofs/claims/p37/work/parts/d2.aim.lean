/-! the Editor of the class: where a VALUE is PUT -/
def pRow (l : List Int) (V : List ND) (o : Nat) : Int := if wdA l (nW l - 1) = sx 20 then ((kids V o).length : Int) else plN (wdA l (nW l - 1))
/-- whether in the place of a VALUE, the owner, the NODE, the place -/
def aimS (l : List Int) (V : List ND) : Option (Bool × Nat × Nat × Nat) :=
  if nW l = 0 then some (true, 0, 0, 0)
  else if kdI V (ldT l V (nW l - 1)) = 5 then (if vLk V (ldT l V (nW l - 1)) (wdA l (nW l - 1)) = -1 then (if (wdA l (nW l - 1)).length ≤ 12 then some (false, (ldT l V (nW l - 1)).toNat, (ldT l V (nW l - 1)).toNat + nz V (ldT l V (nW l - 1)).toNat, (kids V (ldT l V (nW l - 1)).toNat).length) else none) else some (true, (ldT l V (nW l - 1)).toNat, (vLk V (ldT l V (nW l - 1)) (wdA l (nW l - 1))).toNat, 0))
  else if kdI V (ldT l V (nW l - 1)) = 4 then (if 0 ≤ pRow l V (ldT l V (nW l - 1)).toNat ∧ pRow l V (ldT l V (nW l - 1)).toNat ≤ ((kids V (ldT l V (nW l - 1)).toNat).length : Int) then some (false, (ldT l V (nW l - 1)).toNat, if pRow l V (ldT l V (nW l - 1)).toNat < ((kids V (ldT l V (nW l - 1)).toNat).length : Int) then (atK (kids V (ldT l V (nW l - 1)).toNat) (pRow l V (ldT l V (nW l - 1)).toNat)).toNat else (ldT l V (nW l - 1)).toNat + nz V (ldT l V (nW l - 1)).toNat, (pRow l V (ldT l V (nW l - 1)).toNat).toNat) else none)
  else none
abbrev aimM : Nat → Prop := fun k => k = 482 ∨ k = 452 ∨ k = 453
/-- what aiming comes to -/
def AimQ (l : List Int) (V : List ND) (S : GS) (x : Int) (S1 : GS) : Prop := (match aimS l V with
  | none => x = 0
  | some z => x = 1 ∧ S1.1 482 10 = (z.2.2.1 : Int) ∧ S1.2.1 482 11 = z.1 ∧ (z.1 = false → SV S1 452 (wdA l (nW l - 1)) ∧ (nk V z.2.1 = 4 → S1.1 482 9 = (z.2.2.2 : Int)))) ∧ S1.1 482 8 = S.1 482 8 ∧ S1.2.1 482 7 = S.2.1 482 7 ∧ Fr aimM S S1 ∧ Good S1
theorem atK_at : ∀ (K : List Nat) (p : Int), 0 ≤ p → p < (K.length : Int) → ∃ (K1 : List Nat) (k : Nat) (K2 : List Nat), K = K1 ++ k :: K2 ∧ (K1.length : Int) = p ∧ atK K p = (k : Int)
  | [], p, h1, h2 => by simp at h2; omega
  | k :: K, p, h1, h2 => by
    unfold atK
    by_cases c : p = 0
    · rw [if_pos c]
      exact ⟨[], k, K, rfl, by rw [c]; rfl, rfl⟩
    · rw [if_neg c]
      simp only [List.length_cons] at h2
      obtain ⟨K1, j, K2, a, b, d⟩ := atK_at K (p - 1) (by omega) (by omega)
      exact ⟨k :: K1, j, K2, by rw [a]; rfl, by simp only [List.length_cons]; omega, d⟩
section AIM
variable {S S0 : GS} {a d : Nat} {l : List Int} {V : List ND}
theorem sx_20 : sx 20 = [45] := by decide +kernel
theorem dec01 (b : Bool) : (decide ((if b then (1 : Int) else 0) = 1)) = b := by cases b <;> decide
theorem ed_aim (ha : gRo a) (hd : 5 ≤ d) (hw : WF V) (hpt : ptOK l = true) (hl : rng l) (hr : RoS a l S) (hv : TV S 360 V) (ho : S.1 482 8 = ldT l V (nW l - 1)) (hV : 1 ≤ V.length) (hG : Good S) : Ev (fun n => f_X1_aim n d 0 S [((a : Nat) : Int)]) (AimQ l V S) := by
  have g2 := rS_r ha
  have hz := pz_l (nr_pzl hv.2.2.2)
  have lV := tv_l hv
  have ll := ro_len hr ha
  have sl := slP_len l 0
  have nw : nW l = (slP l 0).length := rfl
  have no : nOK V (ldT l V (nW l - 1)) := ldF_r hw hz _ _ _ (Or.inr (by omega))
  -- the first writes
  have f1 : Fr aimM S (gI S 482 10 0) := fr_gI (Or.inl rfl)
  have G1 : Good (gI S 482 10 0) := good_gI hG (by decide) (fun q => by unfold isC at q; omega)
  have r1 : RoS a l (gI S 482 10 0) := ro_fr hr f1 (by omega) (by omega) (by omega) (by omega)
  refine ev_up (fun n => e_X1_aim_0) ?_
  unfold b_X1_aim_0
  refine ev_gv ?_
  refine ev_gg (by omega) ?_
  refine ev_gg ha ?_
  refine ev_gcr (ro_steps ha r1) ?_
  refine ev_gg (by constructor <;> omega) ?_
  by_cases c0 : nW l = 0
  · refine ev_ite (fun z => by omega) (fun _ => ?_)
    refine ev_up (fun n => e_X1_aim_18) ?_
    unfold b_X1_aim_18
    refine ev_gg (by omega) ?_
    refine ev_gv ?_
    have e11 : (gB (gI S 482 10 0) 482 11 (decide ((1 : Int) = 1))).2.1 482 11 = true := by rw [gB_a]; rfl
    rw [e11]
    refine ev_gv ?_
    refine ev_gg (by decide) ?_
    refine ev_ite (fun z => absurd z (by decide)) (fun _ => ?_)
    refine ev_ret ⟨?_, ?_, ?_, fr_tr f1 (fr_gB (Or.inl rfl)), good_gB G1⟩
    · have e : aimS l V = some (true, 0, 0, 0) := if_pos c0
      rw [e]
      exact ⟨rfl, (show (gI S 482 10 0).1 482 10 = 0 from gI_a), e11, fun z => absurd z (by show ¬ true = false; decide)⟩
    · show (gI S 482 10 0).1 482 8 = _
      exact gI_k (by decide)
    · rw [gB_k (by decide)]; rfl
  refine ev_ite (fun _ => ?_) (fun z => absurd (by omega) z)
  refine ev_up (fun n => e_X1_aim_18) ?_
  unfold b_X1_aim_18
  refine ev_gg (by omega) ?_
  refine ev_gv ?_
  generalize hS2 : gB (gI S 482 10 0) 482 11 (decide ((0 : Int) = 1)) = S2
  have f2 : Fr aimM S S2 := by rw [← hS2]; exact fr_tr f1 (fr_gB (Or.inl rfl))
  have G2 : Good S2 := by rw [← hS2]; exact good_gB G1
  have e11 : S2.2.1 482 11 = false := by rw [← hS2, gB_a]; rfl
  have e7 : S2.2.1 482 7 = S.2.1 482 7 := by rw [← hS2, gB_k (by decide)]; rfl
  have e8 : S2.1 482 8 = S.1 482 8 := by rw [← hS2]; show (gI S 482 10 0).1 482 8 = _; exact gI_k (by decide)
  have r2 : RoS a l S2 := ro_fr hr f2 (by omega) (by omega) (by omega) (by omega)
  have v2 : TV S2 360 V := tv_fr hv f2 (fun k z1 z2 => by omega)
  rw [e11]
  refine ev_gv ?_
  refine ev_gg (by decide) ?_
  refine ev_ite (fun _ => ?_) (fun z => absurd rfl z)
  refine ev_gg (by omega) ?_
  refine ev_gg ha ?_
  refine ev_gcr (ro_steps ha r2) ?_
  refine ev_gv ?_
  rw [show (nW l : Int) - 1 = ((nW l - 1 : Nat) : Int) by omega]
  refine ev_gc (ro_wordTo (d := d - 1) (s := 452) (k := nW l - 1) ha gSh452 (by omega) rfl (by omega) r2 hpt (by omega) G2) (fun _ S3 s3 => ?_)
  have f3 : Fr aimM S S3 := fr_tr f2 (fr_mono s3.2.1 (fun k z => by unfold shM at z; omega))
  have G3 : Good S3 := s3.2.2
  have e482 : S3.1 482 = S2.1 482 := (s3.2.1 482 (by unfold shM; omega)).1
  have b482 : S3.2.1 482 = S2.2.1 482 := (s3.2.1 482 (by unfold shM; omega)).2.1
  have v3 : TV S3 360 V := tv_fr hv f3 (fun k z1 z2 => by omega)
  have e83 : S3.1 482 8 = ldT l V (nW l - 1) := by rw [e482, e8, ho]
  have wlen := wdA_len (l := l) (k := nW l - 1)
  have wr := wdA_r (l := l) (k := nW l - 1) hl
  generalize hW : wdA l (nW l - 1) = w at *
  rw [e83]
  refine ev_gv ?_
  unfold AimQ aimS
  rw [if_neg c0, hW]
  generalize hO : ldT l V (nW l - 1) = o at *
  have oin : inr o := by rcases no with z | z <;> constructor <;> omega
  have ei : ∀ k, isI V o k = if kdI V o = k ∧ 0 ≤ o then 1 else 0 := by
    intro k
    unfold isI kdI
    by_cases q : 0 ≤ o ∧ o < (V.length : Int)
    · rw [if_pos q]
      by_cases q2 : nk V o.toNat = k
      · rw [if_pos ⟨q, q2⟩, if_pos ⟨q2, q.1⟩]
      · rw [if_neg (fun z => q2 z.2), if_neg (fun z => q2 z.1)]
    · rw [if_neg (fun z => q z.1), if_neg (fun z => q (by rcases no with y | y <;> omega))]
  -- the last write, and its answer
  have put10 : ∀ (S4 : GS) (at' : Int) (b : Bool) (y : Int) (z : Bool × Nat × Nat × Nat), Fr aimM S S4 → Good S4 → inr at' → S4.1 482 8 = S.1 482 8 → S4.2.1 482 7 = S.2.1 482 7 → S4.2.1 482 11 = z.1 → at' = (z.2.2.1 : Int) → y = 1 → (z.1 = false → SV S4 452 w ∧ (nk V z.2.1 = 4 → S4.1 482 9 = (z.2.2.2 : Int))) → (y = 1 ∧ (gI S4 482 10 at').1 482 10 = (z.2.2.1 : Int) ∧ (gI S4 482 10 at').2.1 482 11 = z.1 ∧ (z.1 = false → SV (gI S4 482 10 at') 452 w ∧ (nk V z.2.1 = 4 → (gI S4 482 10 at').1 482 9 = (z.2.2.2 : Int)))) ∧ (gI S4 482 10 at').1 482 8 = S.1 482 8 ∧ (gI S4 482 10 at').2.1 482 7 = S.2.1 482 7 ∧ Fr aimM S (gI S4 482 10 at') ∧ Good (gI S4 482 10 at') := by
    intro S4 at' b y z h1 h2 h3 h4 h5 h6 h7 h8 h9
    refine ⟨⟨h8, by rw [gI_a]; exact h7, h6, fun q => ⟨sv_fr (h9 q).1 (fr_gI (M := fun k => k = 482) rfl) (by omega) (by omega), fun q2 => by rw [gI_k (by decide)]; exact (h9 q).2 q2⟩⟩, by rw [gI_k (by decide)]; exact h4, h5, fr_tr h1 (fr_gI (Or.inl rfl)), good_gI h2 h3 (fun q => by unfold isC at q; omega)⟩
  have bad : ∀ (S4 : GS) (at' : Int), Fr aimM S S4 → Good S4 → inr at' → S4.1 482 8 = S.1 482 8 → S4.2.1 482 7 = S.2.1 482 7 → (gI S4 482 10 at').1 482 8 = S.1 482 8 ∧ (gI S4 482 10 at').2.1 482 7 = S.2.1 482 7 ∧ Fr aimM S (gI S4 482 10 at') ∧ Good (gI S4 482 10 at') := fun S4 at' h1 h2 h3 h4 h5 => ⟨by rw [gI_k (by decide)]; exact h4, h5, fr_tr h1 (fr_gI (Or.inl rfl)), good_gI h2 h3 (fun q => by unfold isC at q; omega)⟩
  have k8 : S3.1 482 8 = S.1 482 8 := by rw [e482]; exact e8
  have k7 : S3.2.1 482 7 = S.2.1 482 7 := by rw [b482]; exact e7
  have k11 : S3.2.1 482 11 = false := by rw [b482]; exact e11
  by_cases c5 : kdI V o = 5
  · have o0 : 0 ≤ o ∧ o < (V.length : Int) := by
      unfold kdI at c5
      by_cases q : 0 ≤ o ∧ o < (V.length : Int)
      · exact q
      · rw [if_neg q] at c5; omega
    have wo := hw.1 o.toNat (by omega)
    refine ev_gcr (rd_as (t_is (d := d - 1) (i := o) (k := 5) gT360 v3 oin (by decide)) (ei 5)) ?_
    rw [if_pos ⟨c5, o0.1⟩]
    refine ev_gg (by decide) ?_
    refine ev_ite (fun z => absurd z (by decide)) (fun _ => ?_)
    refine ev_gv ?_
    rw [e83]
    refine ev_gcr (t_valueOf (d := d - 1) (g := o) gT360 v3 hw oin (by omega) gSh452 s3.1) ?_
    have vr := vLk_r hw hz o w
    generalize hL : vLk V o w = v at *
    have vin : inr v := by rcases vr with z | z <;> constructor <;> omega
    refine ev_gv ?_
    have e10 : (gI S3 482 10 v).1 482 10 = v := gI_a
    rw [e10]
    refine ev_gv ?_
    refine ev_gg vin ?_
    rw [if_pos c5]
    have G4 : Good (gI S3 482 10 v) := good_gI G3 vin (fun q => by unfold isC at q; omega)
    have f4 : Fr aimM S (gI S3 482 10 v) := fr_tr f3 (fr_gI (Or.inl rfl))
    have v4 : TV (gI S3 482 10 v) 360 V := tv_fr hv f4 (fun k z1 z2 => by omega)
    have w4 : SV (gI S3 482 10 v) 452 w := sv_fr s3.1 (fr_gI (M := fun k => k = 482) rfl) (by omega) (by omega)
    by_cases cv : v = -1
    · rw [if_pos cv]
      refine ev_ite (fun _ => ?_) (fun z => absurd cv z)
      refine ev_up (fun n => e_X1_aim_92) ?_
      unfold b_X1_aim_92
      refine ev_gg (by omega) ?_
      refine ev_gv ?_
      have b11 : (gB (gI S3 482 10 v) 482 11 (decide ((0 : Int) = 1))).2.1 482 11 = false := by rw [gB_a]; rfl
      rw [b11]
      refine ev_gv ?_
      refine ev_gg (by decide) ?_
      refine ev_ite (fun _ => ?_) (fun z => absurd rfl z)
      have b8 : (gB (gI S3 482 10 v) 482 11 (decide ((0 : Int) = 1))).1 482 8 = o := by show (gI S3 482 10 v).1 482 8 = o; rw [gI_k (by decide)]; exact e83
      rw [b8]
      refine ev_gv ?_
      refine ev_gg (by omega) ?_
      have v5 : TV (gB (gI S3 482 10 v) 482 11 (decide ((0 : Int) = 1))) 360 V := v4
      refine ev_gcr (rd_as (t_after (d := d - 1) (i := o) gT360 v5 oin) (show afI V o = o + (nz V o.toNat : Int) from if_pos o0)) ?_
      refine ev_up (fun n => e_X1_aim_121) ?_
      unfold b_X1_aim_121
      refine ev_gv ?_
      refine ev_gg (by omega) ?_
      have pf : Fr aimM S (gB (gI S3 482 10 v) 482 11 (decide ((0 : Int) = 1))) := fr_tr f4 (fr_gB (Or.inl rfl))
      have w6 : SV (gI (gB (gI S3 482 10 v) 482 11 (decide ((0 : Int) = 1))) 482 10 (o + (nz V o.toNat : Int))) 452 w := sv_fr w4 (fr_tr (fr_gB (M := fun k => k = 482) rfl) (fr_gI (M := fun k => k = 482) rfl)) (by omega) (by omega)
      refine ev_gcr (s9_length gSh452 w6) ?_
      refine ev_gg (by constructor <;> omega) ?_
      have p8 : (gB (gI S3 482 10 v) 482 11 (decide ((0 : Int) = 1))).1 482 8 = S.1 482 8 := by show (gI S3 482 10 v).1 482 8 = _; rw [gI_k (by decide)]; exact k8
      have p7 : (gB (gI S3 482 10 v) 482 11 (decide ((0 : Int) = 1))).2.1 482 7 = S.2.1 482 7 := by rw [gB_k (by decide)]; exact k7
      by_cases c12 : w.length ≤ 12
      · rw [if_pos c12]
        refine ev_ite (fun z => by omega) (fun _ => ?_)
        refine ev_ret ?_
        exact put10 _ _ false 1 (false, o.toNat, o.toNat + nz V o.toNat, (kids V o.toNat).length) pf (good_gB G4) (by constructor <;> omega) p8 p7 b11 (by show o + (nz V o.toNat : Int) = ((o.toNat + nz V o.toNat : Nat) : Int); omega) rfl (fun _ => ⟨sv_fr w4 (fr_gB (M := fun k => k = 482) rfl) (by omega) (by omega), fun q => by
          have : kdI V o = nk V o.toNat := if_pos o0
          rw [← this] at q
          omega⟩)
      · rw [if_neg c12]
        refine ev_ite (fun _ => ?_) (fun z => by omega)
        refine ev_ret ⟨rfl, ?_⟩
        exact bad _ _ pf (good_gB G4) (by constructor <;> omega) p8 p7
    · rw [if_neg cv]
      refine ev_ite (fun z => absurd z cv) (fun _ => ?_)
      have vv : 0 ≤ v ∧ v < (V.length : Int) := by rcases vr with z | z; exact absurd z cv; exact z
      have w12 : w.length ≤ 12 := by
        have c := o0
        unfold vLk at hL
        rw [if_pos c] at hL
        rcases fdK_mem (V := V) (key := w) (kidsM V o.toNat) with z | ⟨k, z1, z2, z3⟩
        · omega
        · have : k < V.length := by omega
          have := (tv_r hv this).2.2.2.2.2.2.2.2.1
          rw [show (V.getD k nd0).2.2.2.2 = nq V k from rfl, z3] at this
          exact this
      refine ev_up (fun n => e_X1_aim_92) ?_
      unfold b_X1_aim_92
      refine ev_gg (by omega) ?_
      refine ev_gv ?_
      have b11 : (gB (gI S3 482 10 v) 482 11 (decide ((1 : Int) = 1))).2.1 482 11 = true := by rw [gB_a]; rfl
      rw [b11]
      refine ev_gv ?_
      refine ev_gg (by decide) ?_
      refine ev_ite (fun z => absurd z (by decide)) (fun _ => ?_)
      have b10 : (gB (gI S3 482 10 v) 482 11 (decide ((1 : Int) = 1))).1 482 10 = v := (show (gI S3 482 10 v).1 482 10 = v from gI_a)
      rw [b10]
      refine ev_gv ?_
      refine ev_up (fun n => e_X1_aim_121) ?_
      unfold b_X1_aim_121
      refine ev_gv ?_
      refine ev_gg (by omega) ?_
      have pf : Fr aimM S (gB (gI S3 482 10 v) 482 11 (decide ((1 : Int) = 1))) := fr_tr f4 (fr_gB (Or.inl rfl))
      have w6 : SV (gI (gB (gI S3 482 10 v) 482 11 (decide ((1 : Int) = 1))) 482 10 v) 452 w := sv_fr w4 (fr_tr (fr_gB (M := fun k => k = 482) rfl) (fr_gI (M := fun k => k = 482) rfl)) (by omega) (by omega)
      refine ev_gcr (s9_length gSh452 w6) ?_
      refine ev_gg (by constructor <;> omega) ?_
      refine ev_ite (fun z => by omega) (fun _ => ?_)
      refine ev_ret ?_
      exact put10 _ _ true 1 (true, o.toNat, v.toNat, 0) pf (good_gB G4) vin (by show (gI S3 482 10 v).1 482 8 = _; rw [gI_k (by decide)]; exact k8) (by rw [gB_k (by decide)]; exact k7) b11 (by show v = ((v.toNat : Nat) : Int); omega) rfl (fun z => absurd z (by show ¬ true = false; decide))
  · refine ev_gcr (rd_as (t_is (d := d - 1) (i := o) (k := 5) gT360 v3 oin (by decide)) (ei 5)) ?_
    rw [if_neg (fun z => c5 z.1)]
    refine ev_gg (by decide) ?_
    refine ev_ite (fun _ => ?_) (fun z => absurd rfl z)
    refine ev_gv ?_
    rw [e83]
    refine ev_gcr (rd_as (t_is (d := d - 1) (i := o) (k := 4) gT360 v3 oin (by decide)) (ei 4)) ?_
    rw [if_neg c5]
    by_cases c4 : kdI V o = 4
    · have o0 : 0 ≤ o ∧ o < (V.length : Int) := by
        unfold kdI at c4
        by_cases q : 0 ≤ o ∧ o < (V.length : Int)
        · exact q
        · rw [if_neg q] at c4; omega
      have wo := hw.1 o.toNat (by omega)
      rw [if_pos ⟨c4, o0.1⟩, if_pos c4]
      refine ev_gg (by decide) ?_
      refine ev_ite (fun _ => ?_) (fun z => absurd (by decide) z)
      refine ev_gv ?_
      rw [e83]
      obtain ⟨g, rfl⟩ : ∃ g : Nat, o = (g : Int) := ⟨o.toNat, by omega⟩
      rw [Int.toNat_natCast] at *
      have gl : g < V.length := by omega
      have klen : (kids V g).length ≤ 100 := by
        have := ks_len hz _ (g + 1) (g + nz V g) (Nat.lt_succ_self _)
        unfold kids
        omega
      refine ev_gcr (t_values (d := d - 1) (g := g) gT360 v3 hw gl (by omega)) ?_
      refine ev_gcr (s9_says (d := d - 1) (t := 20) gSh452 (by decide) (by omega) s3.1) ?_
      -- behind the place
      have rest : ∀ p : Int, inr p → p = pRow l V g → Ev (fun n => f_X1_aim n d 196 S3 [((kids V g).length : Int), p]) (fun x S1 => (match (if 0 ≤ pRow l V g ∧ pRow l V g ≤ ((kids V g).length : Int) then some (false, g, if pRow l V g < ((kids V g).length : Int) then (atK (kids V g) (pRow l V g)).toNat else g + nz V g, (pRow l V g).toNat) else none : Option (Bool × Nat × Nat × Nat)) with
          | none => x = 0
          | some z => x = 1 ∧ S1.1 482 10 = (z.2.2.1 : Int) ∧ S1.2.1 482 11 = z.1 ∧ (z.1 = false → SV S1 452 w ∧ (nk V z.2.1 = 4 → S1.1 482 9 = (z.2.2.2 : Int)))) ∧ S1.1 482 8 = S.1 482 8 ∧ S1.2.1 482 7 = S.2.1 482 7 ∧ Fr aimM S S1 ∧ Good S1) := by
        intro p pin hp
        rw [← hp]
        have e9 : (gI S3 482 9 p).1 482 9 = p := gI_a
        have e8' : (gI S3 482 9 p).1 482 8 = (g : Int) := by rw [gI_k (by decide)]; exact e83
        have G9 : Good (gI S3 482 9 p) := good_gI G3 pin (fun q => by unfold isC at q; omega)
        have f9 : Fr aimM S (gI S3 482 9 p) := fr_tr f3 (fr_gI (Or.inl rfl))
        have v9 : TV (gI S3 482 9 p) 360 V := tv_fr hv f9 (fun k z1 z2 => by omega)
        have w9 : SV (gI S3 482 9 p) 452 w := sv_fr s3.1 (fr_gI (M := fun k => k = 482) rfl) (by omega) (by omega)
        have k89 : (gI S3 482 9 p).1 482 8 = S.1 482 8 := by rw [gI_k (by decide)]; exact k8
        -- the answer
        have ans : ∀ at' : Int, inr at' → (0 ≤ p ∧ p ≤ ((kids V g).length : Int) → at' = ((if p < ((kids V g).length : Int) then (atK (kids V g) p).toNat else g + nz V g : Nat) : Int)) → Ev (fun n => f_X1_aim n d 237 (gI S3 482 9 p) [((kids V g).length : Int), at']) (fun x S1 => (match (if 0 ≤ p ∧ p ≤ ((kids V g).length : Int) then some (false, g, if p < ((kids V g).length : Int) then (atK (kids V g) p).toNat else g + nz V g, p.toNat) else none : Option (Bool × Nat × Nat × Nat)) with
            | none => x = 0
            | some z => x = 1 ∧ S1.1 482 10 = (z.2.2.1 : Int) ∧ S1.2.1 482 11 = z.1 ∧ (z.1 = false → SV S1 452 w ∧ (nk V z.2.1 = 4 → S1.1 482 9 = (z.2.2.2 : Int)))) ∧ S1.1 482 8 = S.1 482 8 ∧ S1.2.1 482 7 = S.2.1 482 7 ∧ Fr aimM S S1 ∧ Good S1) := by
          intro at' ain hat
          have e9' : (gI (gI S3 482 9 p) 482 10 at').1 482 9 = p := by rw [gI_k (by decide)]; exact e9
          refine ev_up (fun n => e_X1_aim_237) ?_
          unfold b_X1_aim_237
          refine ev_gv ?_
          rw [e9']
          refine ev_gv ?_
          refine ev_gg pin ?_
          by_cases cp : 0 ≤ p ∧ p ≤ ((kids V g).length : Int)
          · rw [if_pos cp]
            refine ev_ite (fun z => by omega) (fun _ => ?_)
            refine ev_gv ?_
            refine ev_gg pin ?_
            refine ev_gg (by constructor <;> omega) ?_
            refine ev_ite (fun z => by omega) (fun _ => ?_)
            refine ev_ret ?_
            exact put10 _ _ false 1 (false, g, if p < ((kids V g).length : Int) then (atK (kids V g) p).toNat else g + nz V g, p.toNat) f9 G9 ain k89 k7 k11 (hat cp) rfl (fun _ => ⟨w9, fun _ => by rw [e9]; show p = ((p.toNat : Nat) : Int); omega⟩)
          · rw [if_neg cp]
            have fin := bad _ at' f9 G9 ain k89 k7
            refine ev_ite (fun _ => ?_) (fun _ => ?_)
            · exact ev_ret ⟨rfl, fin⟩
            · refine ev_gv ?_
              refine ev_gg pin ?_
              refine ev_gg (by constructor <;> omega) ?_
              refine ev_ite (fun _ => ?_) (fun z => by omega)
              exact ev_ret ⟨rfl, fin⟩
        refine ev_up (fun n => e_X1_aim_196) ?_
        unfold b_X1_aim_196
        refine ev_gv ?_
        rw [e9]
        refine ev_gv ?_
        refine ev_gg pin ?_
        refine ev_gg (by constructor <;> omega) ?_
        by_cases cl : p < ((kids V g).length : Int)
        · refine ev_ite (fun z => by omega) (fun _ => ?_)
          rw [e8']
          refine ev_gv ?_
          refine ev_gv ?_
          refine ev_gg (by omega) ?_
          refine ev_gcr (t_valueAt (d := d - 1) (g := g) (p := p) gT360 v9 hw gl (by omega) pin) ?_
          have am := atK_mem (kids V g) p
          refine ans _ (by rcases am with z | ⟨k, z1, z2⟩; rw [z]; decide; rw [z2]; have := kids_in hw hz gl z1; constructor <;> omega) (fun cp => ?_)
          rw [if_pos cl]
          obtain ⟨K1, k, K2, q1, q2, q3⟩ := atK_at (kids V g) p cp.1 cl
          rw [q3]
          omega
        · refine ev_ite (fun _ => ?_) (fun z => by omega)
          rw [e8']
          refine ev_gv ?_
          refine ev_gg (by omega) ?_
          refine ev_gcr (rd_as (t_after (d := d - 1) (i := (g : Int)) gT360 v9 oin) (show afI V (g : Int) = (g : Int) + (nz V g : Int) from by unfold afI; rw [if_pos o0, Int.toNat_natCast])) ?_
          refine ans _ (by constructor <;> omega) (fun cp => ?_)
          rw [if_neg cl]
          omega
      have prow : pRow l V g = if w = sx 20 then ((kids V g).length : Int) else plN w := by unfold pRow; rw [hW]
      by_cases cs : w = sx 20
      · rw [if_pos cs]
        refine ev_gg (by decide) ?_
        refine ev_ite (fun z => absurd z (by decide)) (fun _ => ?_)
        exact rest _ (by constructor <;> omega) (by rw [prow, if_pos cs])
      · rw [if_neg cs]
        refine ev_gg (by decide) ?_
        refine ev_ite (fun _ => ?_) (fun z => absurd rfl z)
        have pr := plN_r w
        have pi := x7_placeIn (d := d - 1) (f := 0) gSh452 (by omega) s3.1 (fun x hx => (wr x hx).2) (by decide)
        rw [List.drop_zero] at pi
        refine ev_gcr pi ?_
        exact rest _ (by constructor <;> omega) (by rw [prow, if_neg cs])
    · rw [if_neg (fun z => c4 z.1), if_neg c4]
      refine ev_gg (by decide) ?_
      refine ev_ite (fun z => absurd rfl z) (fun _ => ?_)
      exact ev_ret ⟨rfl, k8, k7, f3, G3⟩
end AIM
