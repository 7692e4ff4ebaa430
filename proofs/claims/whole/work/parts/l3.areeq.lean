/-! THE REFERENCE: EQUAL; PLAIN PATHS written -/
section REQ
variable {S : GS} {d K F : Nat} {V U : List ND}
abbrev eqP : Nat → Nat → Prop := fun c _ => c = 513 ∨ c = 515 ∨ c = 516 ∨ c = 517
theorem q_areEqual {k i f j : Int} {I J : Nat} (hd : 8 ≤ d) (hk : k = (K : Int)) (hK : K < 48) (hi : i = (I : Int)) (hf : f = (F : Int)) (hF : F < 48) (hj : j = (J : Int)) (hL : LK S K V) (hM : LK S F U) (hv : SDC V) (hu : SDC U) (hI : I < V.length) (hJ : J < U.length) (dv : ∀ r, dpS r (sg V I) ≤ 12) (du : ∀ r, dpS r (sg U J) ≤ 12) : Ev (fun n => f_X12_areEqual n d 0 S [k, i, f, j]) (fun x S1 => x = (if smF 13 (sg V I) (sg U J) = true then 1 else 0) ∧ FC eqP S S1) := by
  subst hk hi hf hj
  have sT := sdc_sg V.length V (Nat.le_refl _) hv I hI
  have sU := sdc_sg U.length U (Nat.le_refl _) hu J hJ
  have lT := sg_len hv.1.1.1 hI
  have lU := sg_len hu.1.1.1 hJ
  have l1 := hL.2.1
  have l2 := hM.2.1
  have wi := hv.1.1.1.1 I hI
  have wj := hu.1.1.1.1 J hJ
  have key := eq_wr sT sU (by omega) (by omega) dv du
  have rkT := rk_sg hI (pz_l hv.1.2 I)
  have rkU := rk_sg hJ (pz_l hu.1.2 J)
  have rzT := rz_sg hI (pz_l hv.1.2 I)
  have rzU := rz_sg hJ (pz_l hu.1.2 J)
  have nr1 := hL.2.2.2 _ (nd_mem hI)
  have nr2 := hM.2.2.2 _ (nd_mem hJ)
  have kr1 : 0 ≤ nk V I ∧ nk V I ≤ 5 := ⟨nr1.1, nr1.2.1⟩
  have kr2 : 0 ≤ nk U J ∧ nk U J ≤ 5 := ⟨nr2.1, nr2.2.1⟩
  have no : (rk (sg V I) ≠ rk (sg U J) ∨ rz (sg V I) ≠ rz (sg U J)) → ¬ smF 13 (sg V I) (sg U J) = true := fun h e => by
    unfold smF at e
    simp only [Bool.and_eq_true, decide_eq_true_eq] at e
    rcases h with h | h
    · exact h e.1
    · exact h e.2.1
  refine ev_up (fun n => e_X12_areEqual_0) ?_
  unfold b_X12_areEqual_0
  refine ev_gg (by first | omega | (constructor <;> omega)) ?_
  refine ev_gcr (q_kindL (d := d - 1) (K := K) (I := I) (by omega) rfl hK rfl hL hI) ?_
  refine ev_gcr (q_kindL (d := d - 1) (K := F) (I := J) (by omega) rfl hF rfl hM hJ) ?_
  refine ev_gg (by first | omega | (constructor <;> omega)) ?_
  refine ev_gg (by first | omega | (constructor <;> omega)) ?_
  refine ev_ite (fun z => ?_) (fun z => ?_)
  · rw [if_neg (no (Or.inl (by rw [rkT, rkU]; exact z)))]
    exact ev_ret ⟨rfl, fc_rf⟩
  refine ev_gcr (q_sizeL (d := d - 1) (K := K) (I := I) (by omega) rfl hK rfl hL hI) ?_
  refine ev_gcr (q_sizeL (d := d - 1) (K := F) (I := J) (by omega) rfl hF rfl hM hJ) ?_
  refine ev_gg (by first | omega | (constructor <;> omega)) ?_
  refine ev_gg (by first | omega | (constructor <;> omega)) ?_
  refine ev_ite (fun z2 => ?_) (fun z2 => ?_)
  · refine ev_gc (q_writes (d := d - 1) (t := 0) (K := K) (I := I) (by omega) rfl (by decide) rfl hK rfl (by decide) hL hv hI dv) (fun _ S1 q1 => ?_)
    obtain ⟨o1, f1⟩ := q1
    have f1' : FC eqP S S1 := fc_mono f1 (fun c j z => by omega)
    refine ev_gc (q_writes (d := d - 1) (t := 1) (K := F) (I := J) (by omega) rfl (by decide) rfl hF rfl (by decide) (lk_fr hM f1' (fun j _ _ => by omega) (by omega)) hu hJ du) (fun _ S2 q2 => ?_)
    obtain ⟨o2, f2⟩ := q2
    have f2' : FC eqP S S2 := fc_tr f1' (fc_mono f2 (fun c j z => by omega))
    have o1' : OuS S2 0 (wrF 12 1 0 (sg V I)) := ou_fr o1 f2 (by omega) (fun j _ _ => by omega)
    generalize wrF 12 1 0 (sg V I) = A at o1' key
    generalize wrF 12 1 0 (sg U J) = B at o2 key
    obtain ⟨a1, a2, a3, a4⟩ := o1'
    obtain ⟨b1, b2, b3, b4⟩ := o2
    have z0 : ∀ u : Nat, u ≤ A.length → Rd (fun n => f_X12_areEqual n d 78 S2 [0, (u : Int)]) 0 S2 := by
      intro u hu
      refine ev_up (fun n => e_X12_areEqual_78) ?_
      unfold b_X12_areEqual_78
      refine ev_gg (by decide) ?_
      refine ev_gv ?_
      rw [show (0 : Int).toNat = 0 from rfl, a1]
      refine ev_gg (by first | omega | (constructor <;> omega)) ?_
      refine ev_gg (by first | omega | (constructor <;> omega)) ?_
      refine ev_ite (fun _ => ?_) (fun _ => ?_)
      · refine ev_gg (by decide) ?_
        exact ev_ret ⟨rfl, rfl⟩
      · refine ev_gg (by decide) ?_
        refine ev_ite (fun _ => ?_) (fun z => by omega)
        refine ev_gg (by decide) ?_
        exact ev_ret ⟨rfl, rfl⟩
    have z1 : ∀ (t u : Nat), u + t = A.length → A.length = B.length → (∀ j, j < u → A.getD j 0 = B.getD j 0) → Rd (fun n => f_X12_areEqual n d 78 S2 [1, (u : Int)]) (if A = B then 1 else 0) S2 := by
      intro t
      induction t with
      | zero =>
        intro u hu hl hj
        refine ev_up (fun n => e_X12_areEqual_78) ?_
        unfold b_X12_areEqual_78
        refine ev_gg (by decide) ?_
        refine ev_gv ?_
        rw [show (0 : Int).toNat = 0 from rfl, a1]
        refine ev_gg (by first | omega | (constructor <;> omega)) ?_
        refine ev_gg (by first | omega | (constructor <;> omega)) ?_
        refine ev_ite (fun _ => ?_) (fun z => by omega)
        refine ev_gg (by decide) ?_
        rw [if_pos (ext_gD hl (fun j j1 => hj j (by omega)))]
        exact ev_ret ⟨rfl, rfl⟩
      | succ t ih =>
        intro u hu hl hj
        have r1 := a4 _ (getD_in (q := A) (t := u) (by omega))
        have r2 := b4 _ (getD_in (q := B) (t := u) (by omega))
        have c3 := a3 u (by omega)
        rw [Nat.mul_zero, Nat.zero_add] at c3
        have d3 := b3 u (by omega)
        rw [Nat.mul_one] at d3
        refine ev_up (fun n => e_X12_areEqual_78) ?_
        unfold b_X12_areEqual_78
        refine ev_gg (by decide) ?_
        refine ev_gv ?_
        rw [show (0 : Int).toNat = 0 from rfl, a1]
        refine ev_gg (by first | omega | (constructor <;> omega)) ?_
        refine ev_gg (by first | omega | (constructor <;> omega)) ?_
        refine ev_ite (fun z => by omega) (fun _ => ?_)
        refine ev_gg (by decide) ?_
        refine ev_ite (fun z => by omega) (fun _ => ?_)
        refine ev_gg (by first | omega | (constructor <;> omega)) ?_
        refine ev_gv ?_
        refine ev_gv ?_
        refine ev_gg (by first | omega | (constructor <;> omega)) ?_
        refine ev_gv ?_
        rw [Int.toNat_natCast, c3, show (40000 + (u : Int)).toNat = 40000 + u by omega, d3]
        refine ev_gg (by first | omega | (constructor <;> omega)) ?_
        refine ev_gg (by first | omega | (constructor <;> omega)) ?_
        refine ev_ite (fun z => ?_) (fun z => ?_)
        · refine ev_gv ?_
          rw [if_neg (fun e => z (by rw [e])), show (u : Int) + 1 = ((u + 1 : Nat) : Int) by omega]
          exact z0 (u + 1) (by omega)
        · refine ev_gv ?_
          rw [show (u : Int) + 1 = ((u + 1 : Nat) : Int) by omega]
          refine ih (u + 1) (by omega) hl (fun j j1 => ?_)
          by_cases c : j = u
          · subst c; omega
          · exact hj j (by omega)
    have ke : (if smF 13 (sg V I) (sg U J) = true then (1 : Int) else 0) = if A = B then 1 else 0 := by
      by_cases e : A = B
      · rw [if_pos e, if_pos (key.mpr e)]
      · rw [if_neg e, if_neg (fun q => e (key.mp q))]
    rw [ke]
    refine ev_gg (by decide) ?_
    refine ev_gv ?_
    refine ev_gg (by decide) ?_
    refine ev_gv ?_
    rw [show (0 : Int).toNat = 0 from rfl, show (1 : Int).toNat = 1 from rfl, a1, b1]
    refine ev_gg (by first | omega | (constructor <;> omega)) ?_
    refine ev_gg (by first | omega | (constructor <;> omega)) ?_
    refine ev_ite (fun z => ?_) (fun z => ?_)
    · rw [if_neg (fun e => z (by rw [e]))]
      exact ev_mono (z0 0 (Nat.zero_le _)) (fun x S3 q => ⟨q.1, by rw [q.2]; exact f2'⟩)
    · exact ev_mono (z1 A.length 0 (by omega) (by omega) (fun j j1 => by omega)) (fun x S3 q => ⟨q.1, by rw [q.2]; exact f2'⟩)
  · rw [if_neg (no (Or.inr (by rw [rzT, rzU]; omega)))]
    exact ev_ret ⟨rfl, fc_rf⟩
variable {l : List Int}
theorem escs_len (q : List Int) : (q.flatMap esc).length ≤ 2 * q.length := by
  induction q with
  | nil => exact Nat.le_refl _
  | cons x q ih =>
    rw [List.flatMap_cons, List.length_append, List.length_cons]
    have : (esc x).length ≤ 2 := by
      unfold esc
      split
      · simp
      · split <;> simp
    omega
/-- a STEP is written -/
theorem q_putsStep {k i : Int} {I : Nat} (hd : 4 ≤ d) (hk : k = (K : Int)) (hK : K < 48) (hi : i = (I : Int)) (hL : LK S K V) (hV : TR V ∧ PZL V) (h1 : 1 ≤ I) (hI : I < V.length) (h : OuS S 0 l) (hl : l.length + 30 ≤ 39000) : Ev (fun n => f_X12_putsStep n d 0 S [k, i]) (fun _ S1 => OuS S1 0 (l ++ stp V I) ∧ FC (ouP 0) S S1) := by
  subst hk hi
  have hz := pz_l hV.2
  have l1 := hL.2.1
  obtain ⟨o, p, e1, e2, e3, e4, e5, e6, e7, e8⟩ := cut_parts hV h1 hI
  have ho : o < V.length := by omega
  have kl := kids_le hV.1.1 hz (g := o)
  have wo := hV.1.1.1 o ho
  have nr := hL.2.2.2 _ (nd_mem ho)
  have kr : 0 ≤ nk V o ∧ nk V o ≤ 5 := ⟨nr.1, nr.2.1⟩
  have ek := kdI_n ho
  refine ev_up (fun n => e_X12_putsStep_0) ?_
  unfold b_X12_putsStep_0
  refine ev_gg (by first | omega | (constructor <;> omega)) ?_
  refine pu_c rfl (by decide) h (by decide) (by omega) (fun y S1 h1' f1 => ?_)
  have hL1 : LK S1 K V := lk_fr hL f1 (fun j _ _ => by omega) (by omega)
  refine ev_gcr (q_parentL (d := d - 1) (K := K) (I := I) (by omega) rfl hK rfl hL1 hI) ?_
  rw [e1]
  refine ev_gcr (q_kindL (d := d - 1) (K := K) (I := o) (by omega) rfl hK rfl hL1 ho) ?_
  refine ev_gg (by first | omega | (constructor <;> omega)) ?_
  unfold stp
  rw [e1, ek]
  refine ev_ite (fun z => ?_) (fun z => ?_)
  · have k5 : nk V o = 5 := by omega
    rw [if_pos k5]
    have ky := lk_key hL1 hI
    have k12 : (nq V I).length ≤ 12 := ky.1
    have lp : ∀ (r : List Int) (u : Nat) (w : List Int) (S2 : GS), (nq V I).drop u = r → u ≤ (nq V I).length → OuS S2 0 w → w.length + 2 * r.length ≤ 39000 → FC (ouP 0) S S2 → Ev (fun n => f_X12_putsStep n d 38 S2 [(K : Int), (I : Int), (u : Int)]) (fun _ S3 => OuS S3 0 (w ++ r.flatMap esc) ∧ FC (ouP 0) S S3) := by
      intro r
      induction r with
      | nil =>
        intro u w S2 hu hul h2 hw hf
        have := drop_nl hu
        have hL2 : LK S2 K V := lk_fr hL hf (fun j _ _ => by omega) (by omega)
        refine ev_up (fun n => e_X12_putsStep_38) ?_
        unfold b_X12_putsStep_38
        refine ev_gg (by first | omega | (constructor <;> omega)) ?_
        refine ev_gcr (q_keysL (d := d - 1) (K := K) (I := I) (by omega) rfl hK rfl hL2 hI) ?_
        refine ev_gg (by first | omega | (constructor <;> omega)) ?_
        refine ev_gg (by first | omega | (constructor <;> omega)) ?_
        refine ev_ite (fun _ => ?_) (fun z => by omega)
        refine ev_ret ⟨?_, hf⟩
        rw [List.flatMap_nil, List.append_nil]
        exact h2
      | cons x r ih =>
        intro u w S2 hu hul h2 hw hf
        obtain ⟨lu, g1, r1⟩ := drop_hd hu
        have l3 := drop_ln hu hul
        have hL2 : LK S2 K V := lk_fr hL hf (fun j _ _ => by omega) (by omega)
        have xr := ky.2 x (by rw [← g1]; exact getD_in lu)
        rw [List.length_cons] at hw
        rw [List.flatMap_cons, ← List.append_assoc]
        have nx : ∀ S4, OuS S4 0 (w ++ esc x) → FC (ouP 0) S S4 → Ev (fun n => f_X12_putsStep n d 38 S4 [(K : Int), (I : Int), (u : Int) + 1]) (fun _ S3 => OuS S3 0 (w ++ esc x ++ r.flatMap esc) ∧ FC (ouP 0) S S3) := fun S4 h4 f4 => by
          rw [show (u : Int) + 1 = ((u + 1 : Nat) : Int) by omega]
          have el : (esc x).length ≤ 2 := by
            unfold esc
            split
            · simp
            · split <;> simp
          exact ih (u + 1) _ S4 r1 (by omega) h4 (by rw [List.length_append]; omega) f4
        refine ev_up (fun n => e_X12_putsStep_38) ?_
        unfold b_X12_putsStep_38
        refine ev_gg (by first | omega | (constructor <;> omega)) ?_
        refine ev_gcr (q_keysL (d := d - 1) (K := K) (I := I) (by omega) rfl hK rfl hL2 hI) ?_
        refine ev_gg (by first | omega | (constructor <;> omega)) ?_
        refine ev_gg (by first | omega | (constructor <;> omega)) ?_
        refine ev_ite (fun z => by omega) (fun _ => ?_)
        refine ev_gv ?_
        refine ev_gcr (q_keyL (d := d - 1) (K := K) (I := I) (J := u) (by omega) rfl hK rfl rfl hL2 hI lu) ?_
        rw [g1]
        refine ev_gg (by first | omega | (constructor <;> omega)) ?_
        refine ev_ite (fun c => ?_) (fun c => ?_)
        · have ee : esc x = [126, 48] := by unfold esc; rw [if_pos c]
          rw [ee] at nx ⊢
          refine ev_up (fun n => e_X12_putsStep_84) ?_
          unfold b_X12_putsStep_84
          refine ev_gg (by first | omega | (constructor <;> omega)) ?_
          refine pu_c rfl (by decide) h2 (by decide) (by omega) (fun y S4 h4 f4 => ?_)
          refine ev_gg (by first | omega | (constructor <;> omega)) ?_
          refine ev_ite (fun _ => ?_) (fun z => by omega)
          refine ev_up (fun n => e_X12_putsStep_101) ?_
          unfold b_X12_putsStep_101
          refine ev_gg (by first | omega | (constructor <;> omega)) ?_
          refine ev_ite (fun z => by omega) (fun _ => ?_)
          refine ev_gg (by first | omega | (constructor <;> omega)) ?_
          refine pu_c rfl (by decide) h4 (by decide) (by rw [List.length_append, List.length_singleton]; omega) (fun y S5 h5 f5 => ?_)
          refine ev_gv ?_
          rw [List.append_assoc] at h5
          exact nx S5 h5 (fc_tr hf (fc_tr f4 f5))
        · refine ev_ite (fun c2 => ?_) (fun c2 => ?_)
          · have ee : esc x = [x] := by unfold esc; rw [if_neg c, if_neg (by omega)]
            rw [ee] at nx ⊢
            refine ev_up (fun n => e_X12_putsStep_84) ?_
            unfold b_X12_putsStep_84
            refine ev_gg (by first | omega | (constructor <;> omega)) ?_
            refine pu_c rfl (by decide) h2 xr (by omega) (fun y S4 h4 f4 => ?_)
            refine ev_gg (by first | omega | (constructor <;> omega)) ?_
            refine ev_ite (fun z => by omega) (fun _ => ?_)
            refine ev_ite (fun _ => ?_) (fun z => by omega)
            refine ev_gv ?_
            exact nx S4 h4 (fc_tr hf f4)
          · have c47 : x = 47 := by omega
            have ee : esc x = [126, 49] := by unfold esc; rw [if_neg c, if_pos c47]
            rw [ee] at nx ⊢
            refine ev_up (fun n => e_X12_putsStep_84) ?_
            unfold b_X12_putsStep_84
            refine ev_gg (by first | omega | (constructor <;> omega)) ?_
            refine pu_c rfl (by decide) h2 (by decide) (by omega) (fun y S4 h4 f4 => ?_)
            refine ev_gg (by first | omega | (constructor <;> omega)) ?_
            refine ev_ite (fun z => by omega) (fun _ => ?_)
            refine ev_ite (fun z => by omega) (fun _ => ?_)
            refine ev_up (fun n => e_X12_putsStep_101) ?_
            unfold b_X12_putsStep_101
            refine ev_gg (by first | omega | (constructor <;> omega)) ?_
            refine ev_ite (fun _ => ?_) (fun z => by omega)
            refine ev_gg (by first | omega | (constructor <;> omega)) ?_
            refine pu_c rfl (by decide) h4 (by decide) (by rw [List.length_append, List.length_singleton]; omega) (fun y S5 h5 f5 => ?_)
            refine ev_gv ?_
            rw [List.append_assoc] at h5
            exact nx S5 h5 (fc_tr hf (fc_tr f4 f5))
    have := lp (nq V I) 0 _ S1 rfl (Nat.zero_le _) h1' (by rw [List.length_append, List.length_singleton]; omega) f1
    rw [List.append_assoc] at this
    exact this
  · have k4 : nk V o = 4 := by omega
    rw [if_neg (by omega), e2, show max 0 (p : Int) = (p : Int) by omega]
    refine ev_gcr (q_placeL (d := d - 1) (K := K) (I := I) (by omega) rfl hK rfl hL1 hI) ?_
    rw [e2]
    refine ev_gc (q_putsInt (d := d - 1) (t := 0) (by omega) rfl (by decide) (by omega) h1' (by rw [List.length_append, List.length_singleton]; omega)) (fun _ S2 q2 => ?_)
    rw [List.append_assoc] at q2
    exact ev_ret ⟨q2.1, fc_tr f1 q2.2⟩
theorem stp_le25 {I : Nat} (hL : LK S K V) (hI : I < V.length) : (stp V I).length ≤ 25 := by
  have k12 : (nq V I).length ≤ 12 := (lk_key hL hI).1
  have a := escs_len (nq V I)
  have b := wnum_len (max 0 (plI V I))
  unfold stp
  rw [List.length_append, List.length_singleton]
  split <;> omega
/-- those above a NODE, and it -/
def upL (V : List ND) : Nat → Nat → List Nat
  | 0, _ => []
  | f + 1, i => if i = 0 then [] else i :: upL V f (owI V i).toNat
theorem pth_up (hV : TR V ∧ PZL V) {i o : Nat} (h1 : 1 ≤ i) (hi : i < V.length) (ho : owI V i = (o : Int)) : pth V i = pth V o ++ stp V i := by
  have hz := pz_l hV.2
  have near : o < i ∧ i < o + nz V o ∧ ∀ q, o < q → q < i → ¬ i < q + nz V q := by
    unfold owI at ho
    rcases ow_ok (V := V) (i := i) i with ⟨a, b⟩ | ⟨o', a, b, c, e⟩
    · omega
    · have : o' = o := by omega
      subst this
      exact ⟨b, c, e⟩
  have zi := hz i
  have split_ : ∀ (a b p k : Nat), ptF V k (a + b) p = ptF V k a p ++ ptF V k b (p + a) := by
    intro a
    induction a with
    | zero => intro b p k; rw [Nat.zero_add, Nat.add_zero]; rfl
    | succ a ih =>
      intro b p k
      rw [show a + 1 + b = (a + b) + 1 by omega]
      show (if k < p + nz V p then stp V p else []) ++ ptF V k (a + b) (p + 1) = ((if k < p + nz V p then stp V p else []) ++ ptF V k a (p + 1)) ++ ptF V k b (p + (a + 1))
      rw [ih b (p + 1) k, List.append_assoc, show p + 1 + a = p + (a + 1) by omega]
  have same : ∀ (t p : Nat), p + t ≤ o + 1 → 1 ≤ p → ptF V i t p = ptF V o t p := by
    intro t
    induction t with
    | zero => intro p _ _; rfl
    | succ t ih =>
      intro p hp hp1
      show (if i < p + nz V p then stp V p else []) ++ ptF V i t (p + 1) = (if o < p + nz V p then stp V p else []) ++ ptF V o t (p + 1)
      rw [ih (p + 1) (by omega) (by omega)]
      have : (i < p + nz V p) ↔ (o < p + nz V p) := by
        constructor
        · intro q; omega
        · intro q
          by_cases c : p = o
          · rw [c]; exact near.2.1
          · have := hV.1.1.2.1 p o (by omega) q
            omega
      by_cases c : i < p + nz V p
      · rw [if_pos c, if_pos (this.mp c)]
      · rw [if_neg c, if_neg (fun z => c (this.mpr z))]
  have none_ : ∀ (t p : Nat), p + t ≤ i → o < p → ptF V i t p = [] := by
    intro t
    induction t with
    | zero => intro p _ _; rfl
    | succ t ih =>
      intro p hp hp1
      show (if i < p + nz V p then stp V p else []) ++ ptF V i t (p + 1) = []
      rw [ih (p + 1) (by omega) (by omega), if_neg (near.2.2 p hp1 (by omega))]
      rfl
  unfold pth
  rw [show i = o + ((i - o - 1) + 1) by omega, show o + (i - o - 1 + 1) = i by omega]
  have e := split_ o ((i - o - 1) + 1) 1 i
  rw [show o + (i - o - 1 + 1) = i by omega] at e
  rw [e, same o 1 (by omega) (by omega), split_ (i - o - 1) 1 (1 + o) i, none_ (i - o - 1) (1 + o) (by omega) (by omega), List.nil_append]
  congr 1
  show (if i < 1 + o + (i - o - 1) + nz V (1 + o + (i - o - 1)) then stp V (1 + o + (i - o - 1)) else []) ++ [] = stp V i
  rw [show 1 + o + (i - o - 1) = i by omega, if_pos (by omega), List.append_nil]
theorem mx_ge {i : Nat} : ∀ (t k j : Nat), k ≤ j → j < k + t → ukN V i j ≤ mxN V i t k
  | 0, k, j, h1, h2 => by omega
  | t + 1, k, j, h1, h2 => by
    show ukN V i j ≤ max (ukN V i k) (mxN V i t (k + 1))
    by_cases c : j = k
    · rw [c]; omega
    · have := mx_ge (i := i) t (k + 1) j (by omega) (by omega)
      omega
theorem up_12 (hV : TR V ∧ PZL V) (hl : V.length ≤ 100) (hd : ∀ r, dpS r V ≤ 12) {i : Nat} (h1 : 1 ≤ i) (hi : i < V.length) : upN V 0 100 i ≤ 13 := by
  have z0 : nz V 0 = V.length := hV.1.2.2
  obtain ⟨o, o1, o2, o3, o4, o5⟩ := own_kid hV h1 hi
  have m := mx_dp hV hl 100 0 (by omega) (by omega)
  rw [sg_selT hV.1] at m
  have g := mx_ge (V := V) (i := 0) (nz V 0) 0 o (by omega) (by omega)
  have d100 := hd 100
  have u : ukN V 0 o = upN V 0 100 o := by unfold ukN; rw [if_pos o5]
  have st := upN_st hV (i := 0) 99 100 o (by omega) (by omega) (by omega) (by omega) (by omega)
  have e : upN V 0 100 i = upN V 0 99 o + 1 := by
    show (if i = 0 then (1 : Int) else upN V 0 99 (owI V i).toNat + 1) = _
    rw [if_neg (by omega), o1, Int.toNat_natCast]
  omega
theorem upL_len (hV : TR V ∧ PZL V) : ∀ (f i : Nat), i < V.length → i ≤ f → ((upL V f i).length : Int) + 1 = upN V 0 f i
  | 0, i, hi, hf => by
    have : i = 0 := by omega
    subst this
    rfl
  | f + 1, i, hi, hf => by
    unfold upL upN
    by_cases c : i = 0
    · rw [if_pos c, if_pos c]; rfl
    · rw [if_neg c, if_neg c, List.length_cons]
      obtain ⟨o, o1, o2, o3, o4, o5⟩ := own_kid hV (i := i) (by omega) hi
      rw [o1, Int.toNat_natCast]
      have := upL_len hV f o (by omega) (by omega)
      omega
theorem pth_len (hL : LK S K V) (hV : TR V ∧ PZL V) : ∀ (f i : Nat), i < V.length → i ≤ f → (pth V i).length ≤ 25 * (upL V f i).length
  | 0, i, hi, hf => by
    have : i = 0 := by omega
    subst this
    exact Nat.le_refl _
  | f + 1, i, hi, hf => by
    unfold upL
    by_cases c : i = 0
    · subst c; exact Nat.le_refl _
    · rw [if_neg c, List.length_cons]
      obtain ⟨o, o1, o2, o3, o4, o5⟩ := own_kid hV (i := i) (by omega) hi
      rw [o1, Int.toNat_natCast, pth_up hV (by omega) hi o1, List.length_append]
      have a := pth_len hL hV f o (by omega) (by omega)
      have b := stp_le25 hL hi
      omega
/-- the PLAIN PATH of a NODE is written -/
theorem q_putsPath {k i : Int} {I : Nat} (hd : 5 ≤ d) (hk : k = (K : Int)) (hK : K < 48) (hi : i = (I : Int)) (hL : LK S K V) (hV : TR V ∧ PZL V) (hdp : ∀ r, dpS r V ≤ 12) (hI : I < V.length) (h : OuS S 0 l) (hl : l.length + 450 ≤ 39000) : Ev (fun n => f_X12_putsPath n d 0 S [k, i]) (fun _ S1 => OuS S1 0 (l ++ pth V I) ∧ FC (fun c j => ouP 0 c j ∨ c = 513) S S1) := by
  subst hk hi
  have l1 := hL.2.1
  have ul : (upL V 100 I).length ≤ 12 := by
    have := upL_len hV 100 I hI (by omega)
    by_cases c : I = 0
    · subst c
      have e : upL V 100 0 = [] := rfl
      rw [e]
      decide
    · have := up_12 hV l1 hdp (i := I) (by omega) hI
      omega
  have lp : ∀ (f i m : Nat) (S1 : GS) (Q : Int → GS → Prop), i < V.length → i ≤ f → m + (upL V f i).length ≤ 16 → OuS S1 0 l → FC (fun c j => ouP 0 c j ∨ c = 513) S S1 → (∀ S2, OuS S2 0 (l ++ pth V i) → FC (fun c j => ouP 0 c j ∨ c = 513) S S2 → (∀ j, j < m → S2.1 513 j = S1.1 513 j) → Ev (fun n => f_X12_putsPath n d 39 S2 [(K : Int), (m : Int) - 1]) Q) → Ev (fun n => f_X12_putsPath n d 5 S1 [(K : Int), (m : Int), (i : Int)]) Q := by
    intro f
    induction f with
    | zero =>
      intro i m S1 Q hi hf hm h1 f1 nx
      have : i = 0 := by omega
      subst this
      refine ev_up (fun n => e_X12_putsPath_5) ?_
      unfold b_X12_putsPath_5
      refine ev_gg (by first | omega | (constructor <;> omega)) ?_
      refine ev_ite (fun _ => ?_) (fun z => by omega)
      refine ev_gv ?_
      refine nx S1 ?_ f1 (fun j _ => rfl)
      rw [show pth V 0 = [] from rfl, List.append_nil]
      exact h1
    | succ f ih =>
      intro i m S1 Q hi hf hm h1 f1 nx
      by_cases c : i = 0
      · subst c
        refine ev_up (fun n => e_X12_putsPath_5) ?_
        unfold b_X12_putsPath_5
        refine ev_gg (by first | omega | (constructor <;> omega)) ?_
        refine ev_ite (fun _ => ?_) (fun z => by omega)
        refine ev_gv ?_
        refine nx S1 ?_ f1 (fun j _ => rfl)
        rw [show pth V 0 = [] from rfl, List.append_nil]
        exact h1
      · obtain ⟨o, o1, o2, o3, o4, o5⟩ := own_kid hV (i := i) (by omega) hi
        have eu : upL V (f + 1) i = i :: upL V f o := by
          show (if i = 0 then [] else i :: upL V f (owI V i).toNat) = _
          rw [if_neg c, o1, Int.toNat_natCast]
        rw [eu, List.length_cons] at hm
        have f2 : FC (fun c j => ouP 0 c j ∨ c = 513) S (gI S1 513 m i) := fc_tr f1 (fc_gI (Or.inr rfl))
        have h2 : OuS (gI S1 513 m i) 0 l := ou_fr h1 (fc_gI (P := fun c j => c = 513) rfl) (by decide) (fun j _ _ => by decide)
        refine ev_up (fun n => e_X12_putsPath_5) ?_
        unfold b_X12_putsPath_5
        refine ev_gg (by first | omega | (constructor <;> omega)) ?_
        refine ev_ite (fun z => by omega) (fun _ => ?_)
        refine ev_gg (by first | omega | (constructor <;> omega)) ?_
        refine ev_gv ?_
        refine ev_gv ?_
        refine ev_gg (by first | omega | (constructor <;> omega)) ?_
        rw [Int.toNat_natCast]
        refine ev_gcr (q_parentL (d := d - 1) (K := K) (I := i) (by omega) rfl hK rfl (lk_fr hL f2 (fun j _ _ => by omega) (by omega)) hi) ?_
        rw [o1, show (m : Int) + 1 = ((m + 1 : Nat) : Int) by omega]
        refine ih o (m + 1) _ Q (by omega) (by omega) (by omega) h2 f2 (fun S3 h3 f3 k3 => ?_)
        have g3 : S3.1 513 m = (i : Int) := by rw [k3 m (by omega)]; exact gI_a
        have po := pth_len hL hV f o (by omega) (by omega)
        rw [show ((m + 1 : Nat) : Int) - 1 = (m : Int) by omega]
        refine ev_up (fun n => e_X12_putsPath_39) ?_
        unfold b_X12_putsPath_39
        refine ev_gg (by first | omega | (constructor <;> omega)) ?_
        refine ev_ite (fun z => by omega) (fun _ => ?_)
        refine ev_gg (by first | omega | (constructor <;> omega)) ?_
        refine ev_gv ?_
        rw [Int.toNat_natCast, g3]
        refine ev_gg (by first | omega | (constructor <;> omega)) ?_
        refine ev_gc (q_putsStep (d := d - 1) (K := K) (I := i) (by omega) rfl hK rfl (lk_fr hL f3 (fun j _ _ => by omega) (by omega)) hV (by omega) hi h3 (by rw [List.length_append]; omega)) (fun _ S4 q4 => ?_)
        refine ev_gv ?_
        rw [List.append_assoc, ← pth_up hV (by omega) hi o1] at q4
        refine nx S4 q4.1 (fc_tr f3 (fc_mono q4.2 (fun c j z => Or.inl z))) (fun j hj => ?_)
        rw [fc_i q4.2 (by omega), k3 j (by omega), gI_k (by omega)]
  refine ev_up (fun n => e_X12_putsPath_0) ?_
  unfold b_X12_putsPath_0
  refine lp 100 I 0 S _ hI (by omega) (by omega) h fc_rf (fun S2 h2 f2 _ => ?_)
  refine ev_up (fun n => e_X12_putsPath_39) ?_
  unfold b_X12_putsPath_39
  refine ev_gg (by first | omega | (constructor <;> omega)) ?_
  refine ev_ite (fun _ => ?_) (fun z => by omega)
  exact ev_ret ⟨h2, f2⟩
end REQ
