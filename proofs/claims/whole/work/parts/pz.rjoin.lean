/-! THE REFERENCE's join: the call -/
section RJ8
variable {S0 S : GS} {T0 : List ND} {Ds : List (List ND)} {pg pp : List Int} {r : Int} {L : List Nat} {Q : List (List Int)} {C : List (Int × Int)} {d : Nat}
/-- QUARRELS that were met are the ones to be told -/
theorem q_told {Qn : List (List Int)} {Qf : Int → GS → Prop} (hq : QmS Qn S) (nx : ∀ S1, FC (fun c _ => c = 535 ∨ c = 536) S S1 → (∀ k, k ≤ Qn.length → S1.1 535 k = ((Qn.take k).flatten.length : Int)) → (∀ j, j < Qn.flatten.length → S1.1 536 j = Qn.flatten.getD j 0) → Ev (fun n => if Qn.length = 0 then gg (1 ≤ d) (gc (f_X12_keeps n (d - 1) 0 S1 [40]) fun x14 S_15 => some (x14, S_15)) else some ((-1), S1)) Qf) : Ev (fun n => f_X12_join n d 109 S [0]) Qf := by
  obtain ⟨a1, a2, a3, a4, a5⟩ := hq
  have fl := fl_300 Qn (fun q hq => (a3 q hq).1)
  have p141 : ∀ (u i : Nat) (S1 : GS), i + u = Qn.flatten.length → FC (fun c _ => c = 535 ∨ c = 536) S S1 → (∀ k, k ≤ Qn.length → S1.1 535 k = ((Qn.take k).flatten.length : Int)) → (∀ j, j < i → S1.1 536 j = Qn.flatten.getD j 0) → Ev (fun n => f_X12_join n d 141 S1 [(i : Int)]) Qf := by
    intro u
    have e37 : ∀ S1, FC (fun c _ => c = 535 ∨ c = 536) S S1 → S1.1 537 Qn.length = (Qn.flatten.length : Int) := fun S1 f1 => by
      rw [fc_i f1 (by omega), a4 _ (Nat.le_refl _), List.take_length]
    induction u with
    | zero =>
      intro i S1 hi f1 c35 c36
      have ii : i = Qn.flatten.length := by omega
      subst ii
      have k := nx S1 f1 c35 c36
      refine ev_up (fun n => e_X12_join_141) ?_
      unfold b_X12_join_141
      refine ev_gv ?_
      rw [fc_i f1 (by omega), a1]
      refine ev_gg (by first | omega | (constructor <;> omega)) ?_
      refine ev_gv ?_
      rw [Int.toNat_natCast, e37 S1 f1]
      refine ev_gg (by first | omega | (constructor <;> omega)) ?_
      refine ev_gg (by first | omega | (constructor <;> omega)) ?_
      refine ev_ite (fun _ => ?_) (fun z => by omega)
      refine ev_gv ?_
      refine ev_gg (by first | omega | (constructor <;> omega)) ?_
      refine ev_ite (fun z => ?_) (fun z => ?_)
      · have z0 : Qn.length = 0 := by omega
        simp only [if_pos z0] at k
        exact k
      · have z0 : ¬ Qn.length = 0 := by omega
        simp only [if_neg z0] at k
        exact k
    | succ u ih =>
      intro i S1 hi f1 c35 c36
      refine ev_up (fun n => e_X12_join_141) ?_
      unfold b_X12_join_141
      refine ev_gv ?_
      rw [fc_i f1 (by omega), a1]
      refine ev_gg (by first | omega | (constructor <;> omega)) ?_
      refine ev_gv ?_
      rw [Int.toNat_natCast, e37 S1 f1]
      refine ev_gg (by first | omega | (constructor <;> omega)) ?_
      refine ev_gg (by first | omega | (constructor <;> omega)) ?_
      refine ev_ite (fun z => by omega) (fun _ => ?_)
      refine ev_gg (by first | omega | (constructor <;> omega)) ?_
      refine ev_gv ?_
      rw [Int.toNat_natCast, fc_i f1 (by omega), a5 i (by omega)]
      refine ev_gv ?_
      refine ev_gv ?_
      rw [show (i : Int) + 1 = ((i + 1 : Nat) : Int) by omega]
      refine ih (i + 1) _ (by omega) (fc_tr f1 (fc_gI (Or.inr rfl))) (fun k hk => by rw [gI_c (by decide)]; exact c35 k hk) (fun j hj => ?_)
      by_cases e : j = i
      · subst e; rw [gI_a]
      · rw [gI_k e]; exact c36 j (by omega)
  have p109 : ∀ (u i : Nat) (S1 : GS), i + u = Qn.length + 1 → FC (fun c _ => c = 535 ∨ c = 536) S S1 → (∀ k, k < i → S1.1 535 k = ((Qn.take k).flatten.length : Int)) → Ev (fun n => f_X12_join n d 109 S1 [(i : Int)]) Qf := by
    intro u
    induction u with
    | zero =>
      intro i S1 hi f1 c35
      refine ev_up (fun n => e_X12_join_109) ?_
      unfold b_X12_join_109
      refine ev_gv ?_
      rw [fc_i f1 (by omega), a1]
      refine ev_gg (by first | omega | (constructor <;> omega)) ?_
      refine ev_gg (by first | omega | (constructor <;> omega)) ?_
      refine ev_ite (fun _ => ?_) (fun z => by omega)
      exact p141 Qn.flatten.length 0 S1 (by omega) f1 (fun k hk => c35 k (by omega)) (fun j hj => absurd hj (Nat.not_lt_zero j))
    | succ u ih =>
      intro i S1 hi f1 c35
      refine ev_up (fun n => e_X12_join_109) ?_
      unfold b_X12_join_109
      refine ev_gv ?_
      rw [fc_i f1 (by omega), a1]
      refine ev_gg (by first | omega | (constructor <;> omega)) ?_
      refine ev_gg (by first | omega | (constructor <;> omega)) ?_
      refine ev_ite (fun z => by omega) (fun _ => ?_)
      refine ev_gg (by first | omega | (constructor <;> omega)) ?_
      refine ev_gv ?_
      rw [Int.toNat_natCast, fc_i f1 (by omega), a4 i (by omega)]
      refine ev_gv ?_
      refine ev_gv ?_
      rw [show (i : Int) + 1 = ((i + 1 : Nat) : Int) by omega]
      refine ih (i + 1) _ (by omega) (fc_tr f1 (fc_gI (Or.inl rfl))) (fun j hj => ?_)
      by_cases e : j = i
      · subst e; rw [gI_a]
      · rw [gI_k e]; exact c35 j (by omega)
  exact p109 (Qn.length + 1) 0 S (by omega) fc_rf (fun k hk => absurd hk (Nat.not_lt_zero k))
theorem r_join {a b c : Int} (hd : 17 ≤ d) (ha : inr a) (hb : inr b) (hc : inr c) (h : RfS S0 T0 Ds pg pp r L Q C S) : Ev (fun n => f_X12_join n d 0 S [a, b, c]) (fun x S1 => if hasD Ds a ∧ hasD Ds b ∧ hasD Ds c then (if (jnD (atD' Ds a) (atD' Ds b) (atD' Ds c)).2 = [] then (if pOK (jnD (atD' Ds a) (atD' Ds b) (atD' Ds c)).1.flatten ∧ Ds.length < 40 then x = (Ds.length : Int) ∧ S1.1 500 0 = 0 ∧ RfS S0 T0 (Ds ++ [(jnD (atD' Ds a) (atD' Ds b) (atD' Ds c)).1.flatten]) pg pp r L [] C S1 else S1.1 500 0 = 2 ∧ RfS S0 T0 Ds pg pp r L Q C S1) else x = -1 ∧ S1.1 500 0 = 0 ∧ RfS S0 T0 Ds pg pp r L (jnD (atD' Ds a) (atD' Ds b) (atD' Ds c)).2 C S1) else S1.1 500 0 = 1 ∧ RfS S0 T0 Ds pg pp r L Q C S1) := by
  have n4 := h.1.2.1
  have p30 : ∀ s : Int, s = (if hasD Ds a ∧ hasD Ds b ∧ hasD Ds c then 1 else 0) → Ev (fun n => f_X12_join n d 30 S [a, b, c, s]) (fun x S1 => if hasD Ds a ∧ hasD Ds b ∧ hasD Ds c then (if (jnD (atD' Ds a) (atD' Ds b) (atD' Ds c)).2 = [] then (if pOK (jnD (atD' Ds a) (atD' Ds b) (atD' Ds c)).1.flatten ∧ Ds.length < 40 then x = (Ds.length : Int) ∧ S1.1 500 0 = 0 ∧ RfS S0 T0 (Ds ++ [(jnD (atD' Ds a) (atD' Ds b) (atD' Ds c)).1.flatten]) pg pp r L [] C S1 else S1.1 500 0 = 2 ∧ RfS S0 T0 Ds pg pp r L Q C S1) else x = -1 ∧ S1.1 500 0 = 0 ∧ RfS S0 T0 Ds pg pp r L (jnD (atD' Ds a) (atD' Ds b) (atD' Ds c)).2 C S1) else S1.1 500 0 = 1 ∧ RfS S0 T0 Ds pg pp r L Q C S1) := by
    intro s hs
    refine ev_up (fun n => e_X12_join_30) ?_
    unfold b_X12_join_30
    refine ev_gg (by first | omega | (constructor <;> omega)) ?_
    refine fa_c hs h (fun k S1 t1 f1 h1 => ?_) (fun k S1 t1 f1 h1 => ?_)
    · refine ev_gg (by decide) ?_
      refine ev_ite (fun _ => ?_) (fun z => by omega)
      simp only [if_pos k]
      refine ev_gv ?_
      refine ev_gv ?_
      refine ev_gv ?_
      have f2 : FC (fun c j => c = 500 ∧ (j = 44 ∨ j = 45 ∨ j = 46)) S1 (gI (gI (gI S1 500 44 a) 500 45 b) 500 46 c) := fc_tr (fc_gI ⟨rfl, Or.inl rfl⟩) (fc_tr (fc_gI ⟨rfl, Or.inr (Or.inl rfl)⟩) (fc_gI ⟨rfl, Or.inr (Or.inr rfl)⟩))
      have e44 : (gI (gI (gI S1 500 44 a) 500 45 b) 500 46 c).1 500 44 = a := by rw [gI_k (by decide), gI_k (by decide), gI_a]
      have e45 : (gI (gI (gI S1 500 44 a) 500 45 b) 500 46 c).1 500 45 = b := by rw [gI_k (by decide), gI_a]
      have e46 : (gI (gI (gI S1 500 44 a) 500 45 b) 500 46 c).1 500 46 = c := gI_a
      generalize gI (gI (gI S1 500 44 a) 500 45 b) 500 46 c = S2 at f2 e44 e45 e46 ⊢
      have h2 := rf_sc h1 f2 (fun c j z => by omega)
      have t2 : S2.1 500 0 = 0 := by rw [fc_i f2 (by omega)]; exact t1
      obtain ⟨a1, a2, a3, a4⟩ := r_at h2 k.1
      obtain ⟨b1, b2, b3, b4⟩ := r_at h2 k.2.1
      obtain ⟨c1, c2, c3, c4⟩ := r_at h2 k.2.2
      have one := jnD_one a4 b4 c4
      refine ev_gc (q_joins (d := d - 1) (cO := a.toNat) (cA := b.toNat) (cB := c.toNat) (O := atD' Ds a) (A := atD' Ds b) (B := atD' Ds c) (by omega) ⟨a2, b2, c2⟩ a4 b4 c4 ⟨⟨e44.trans a1, e45.trans b1, e46.trans c1⟩, a3, b3, c3⟩) (fun _ S3 q3 => ?_)
      obtain ⟨m3, qm3, f3⟩ := q3
      have h3 := rf_sc h2 f3 (fun c j z => by omega)
      have t3 : S3.1 500 0 = 0 := by rw [fc_i f3 (by omega)]; exact t2
      generalize jnD (atD' Ds a) (atD' Ds b) (atD' Ds c) = J at *
      have l200 := qm3.2.1
      refine ev_gv ?_
      rw [qm3.1]
      refine ev_gg (by first | omega | (constructor <;> omega)) ?_
      refine ev_ite (fun z => ?_) (fun z => ?_)
      · -- QUARRELS
        have zn : J.2 ≠ [] := fun e => by rw [e] at z; exact z rfl
        have zl : ¬ J.2.length = 0 := by omega
        simp only [if_neg zn]
        refine ev_gv ?_
        refine ev_gv ?_
        have f4 : FC (fun c j => c = 500 ∧ j = 54) S3 (gI S3 500 54 (J.2.length : Int)) := fc_gI ⟨rfl, rfl⟩
        have e4 : (gI S3 500 54 (J.2.length : Int)).1 500 54 = (J.2.length : Int) := gI_a
        generalize gI S3 500 54 (J.2.length : Int) = S4 at f4 e4 ⊢
        refine q_told (d := d) (qm_fr qm3 f4 (by omega) (fun j => by omega) (fun j => by omega)) (fun S5 f5 c35 c36 => ?_)
        simp only [if_neg zl]
        refine ev_ret ⟨rfl, by rw [fc_i f5 (by omega), fc_i f4 (by omega)]; exact t3, rf_quarrels h3 (fc_tr (fc_mono f4 (fun c j z => Or.inl z)) (fc_mono f5 (fun c j z => Or.inr z))) ⟨by rw [fc_i f5 (by omega)]; exact e4, l200, qm3.2.2.1, fun k hk _ => c35 k hk, c36⟩⟩
      · have zn : J.2 = [] := List.length_eq_zero_iff.mp (by omega)
        simp only [if_pos zn]
        obtain ⟨T, eT, tr, sd, rqT⟩ := one zn
        have eF : J.1.flatten = T := by rw [eT]; simp
        have eM : (J.1.map mny).flatten = mny T := by rw [eT]; simp
        rw [eM] at m3
        rw [eF]
        refine ev_gc (q_isWhole (d := d - 1) (K := 40) (T := T) (by omega) rfl (by decide) tr (fun hl y hy => ((sd hl).2.1 y hy).1) m3) (fun x S4 q4 => ?_)
        obtain ⟨x4, l4, f4⟩ := q4
        have h4 := rf_sc h3 f4 (fun c j z => by omega)
        have t4 : S4.1 500 0 = 0 := by rw [fc_i f4 (by omega)]; exact t3
        have qm4 := qm_fr qm3 f4 (by omega) (fun j => by omega) (fun j => by omega)
        have p89 : ∀ (s0 : Int) (P : Prop) [Decidable P], s0 = (if P then 1 else 0) → (P ↔ pOK T ∧ Ds.length < 40) → Ev (fun n => f_X12_join n d 89 S4 [s0]) (fun x S1 => if pOK T ∧ Ds.length < 40 then x = (Ds.length : Int) ∧ S1.1 500 0 = 0 ∧ RfS S0 T0 (Ds ++ [T]) pg pp r L [] C S1 else S1.1 500 0 = 2 ∧ RfS S0 T0 Ds pg pp r L Q C S1) := by
          intro s0 P _ hs0 hp
          refine ev_up (fun n => e_X12_join_89) ?_
          unfold b_X12_join_89
          refine ev_gg (by first | omega | (constructor <;> omega)) ?_
          refine fa_c (p := P) hs0 h4 (fun c5 S5 t5 f5 h5 => ?_) (fun c5 S5 t5 f5 h5 => ?_)
          · have c6 := hp.mp c5
            refine ev_gg (by decide) ?_
            refine ev_ite (fun _ => ?_) (fun z => by omega)
            refine ev_gv ?_
            simp only [if_pos c6]
            have qm5 := qm_fr qm4 f5 (by omega) (fun j => by omega) (fun j => by omega)
            rw [qm5.1]
            refine ev_gv ?_
            have f6 : FC (fun c j => c = 500 ∧ j = 54) S5 (gI S5 500 54 (J.2.length : Int)) := fc_gI ⟨rfl, rfl⟩
            have e6 : (gI S5 500 54 (J.2.length : Int)).1 500 54 = (J.2.length : Int) := gI_a
            generalize gI S5 500 54 (J.2.length : Int) = S6 at f6 e6 ⊢
            have zl : J.2.length = 0 := by rw [zn]; rfl
            refine q_told (d := d) (qm_fr qm5 f6 (by omega) (fun j => by omega) (fun j => by omega)) (fun S7 f7 c35 c36 => ?_)
            simp only [if_pos zl]
            have h7 : RfS S0 T0 Ds pg pp r L [] C S7 := rf_quarrels h5 (fc_tr (fc_mono f6 (fun c j z => Or.inl z)) (fc_mono f7 (fun c j z => Or.inr z))) ⟨by rw [fc_i f7 (by omega), e6, zl]; rfl, by decide, (fun q hq => by cases hq), (fun k _ z => absurd z (by decide)), fun j hj => absurd hj (Nat.not_lt_zero j)⟩
            have t7 : S7.1 500 0 = 0 := by rw [fc_i f7 (by omega), fc_i f6 (by omega)]; exact t5
            refine ev_gg (by first | omega | (constructor <;> omega)) ?_
            refine ev_gc (r_keeps (d := d - 1) (K := 40) (by omega) rfl (by decide) h7 c6.2 (lk_fr (lk_fr (lk_fr (l4 c6.1) f5 (fun j _ _ => by omega) (by omega)) f6 (fun j _ _ => by omega) (by omega)) f7 (fun j _ _ => by omega) (by omega)) (doc_p (sd c6.1.1) c6.1 rqT)) (fun y S8 q8 => ?_)
            exact ev_ret ⟨q8.1, by rw [q8.2.1]; exact t7, q8.2.2⟩
          · refine ev_gg (by decide) ?_
            refine ev_ite (fun z => by omega) (fun _ => ?_)
            simp only [if_neg (fun z => c5 (hp.mpr z))]
            exact ev_ret ⟨t5, h5⟩
        rw [x4]
        by_cases cp : pOK T
        · rw [if_pos cp]
          refine ev_gg (by decide) ?_
          refine ev_ite (fun z => by omega) (fun _ => ?_)
          refine ev_gv ?_
          rw [h4.1.1]
          refine ev_gg (by first | omega | (constructor <;> omega)) ?_
          refine ev_ite (fun y => ?_) (fun y => ?_)
          · exact p89 0 False (by rw [if_neg (fun z => z)]) ⟨fun z => z.elim, fun z => by omega⟩
          · exact p89 1 True (by rw [if_pos trivial]) ⟨fun _ => ⟨cp, by omega⟩, fun _ => trivial⟩
        · rw [if_neg cp]
          refine ev_gg (by decide) ?_
          refine ev_ite (fun _ => ?_) (fun z => by omega)
          exact p89 0 False (by rw [if_neg (fun z => z)]) ⟨fun z => z.elim, fun z => cp z.1⟩
    · refine ev_gg (by decide) ?_
      refine ev_ite (fun z => by omega) (fun _ => ?_)
      simp only [if_neg k]
      exact ev_ret ⟨t1, h1⟩
  refine ev_up (fun n => e_X12_join_0) ?_
  unfold b_X12_join_0
  refine ev_gg (by first | omega | (constructor <;> omega)) ?_
  refine ev_gcr (r_isDoc (d := d - 1) (by omega) ha h) ?_
  by_cases k1 : hasD Ds a
  · rw [if_pos k1]
    refine ev_gg (by decide) ?_
    refine ev_ite (fun z => by omega) (fun _ => ?_)
    refine ev_gcr (r_isDoc (d := d - 1) (by omega) hb h) ?_
    by_cases k2 : hasD Ds b
    · rw [if_pos k2]
      refine ev_gg (by decide) ?_
      refine ev_ite (fun z => by omega) (fun _ => ?_)
      refine ev_gcr (r_isDoc (d := d - 1) (by omega) hc h) ?_
      by_cases k3 : hasD Ds c
      · rw [if_pos k3]
        refine ev_gg (by decide) ?_
        refine ev_ite (fun z => by omega) (fun _ => ?_)
        exact p30 1 (by rw [if_pos ⟨k1, k2, k3⟩])
      · rw [if_neg k3]
        refine ev_gg (by decide) ?_
        refine ev_ite (fun _ => ?_) (fun z => by omega)
        exact p30 0 (by rw [if_neg (fun z => k3 z.2.2)])
    · rw [if_neg k2]
      refine ev_gg (by decide) ?_
      refine ev_ite (fun _ => ?_) (fun z => by omega)
      exact p30 0 (by rw [if_neg (fun z => k2 z.2.1)])
  · rw [if_neg k1]
    refine ev_gg (by decide) ?_
    refine ev_ite (fun _ => ?_) (fun z => by omega)
    exact p30 0 (by rw [if_neg (fun z => k1 z.1)])
end RJ8
