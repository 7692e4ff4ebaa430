/-! THE CLASS's isSound: the call -/
section CIS
variable {S S1 : GS} {T0 : List ND} {Ds : List (List ND)} {pg pp : List Int} {r : Int} {L : List Nat} {Q : List (List Int)} {C : List (Int × Int)} {d : Nat}
theorem c_isSound {a : Int} (h : ClS T0 Ds pg pp r L Q C S) (hd : 90 ≤ d) (ha : inr a) : Ev (fun m => f_X11_isSound m d 0 S [a]) (fun x S1 => (if hasD Ds a then x = 1 else x = exB + 3) ∧ ClS T0 Ds pg pp r L Q C S1) := by
  have ex := ex_e
  have n4 := h.1.2.1
  have g28 : gSh 428 := by decide
  have rm : g_room (428 + 1) = 36000 := rfl
  refine ev_up (fun n => e_X11_isSound_0) ?_
  unfold b_X11_isSound_0
  refine ev_gg (by first | omega | (constructor <;> omega)) ?_
  refine ev_gcr (cl_doc (d := d - 1) h ha) ?_
  by_cases c : hasD Ds a
  · have at_ := cl_at h c
    rw [if_pos c]
    simp only [if_pos c]
    refine ev_ite (fun _ => ?_) (fun z => by omega)
    rw [Int.toNat_natCast]
    have dA : DOC (atD' Ds a) := at_.2.2
    have tAA : ∀ S2, ClS T0 Ds pg pp r L Q C S2 → TO (8 * a.toNat) (atD' Ds a, false) S2 := fun S2 h2 => (cl_at h2 c).2.1
    have gA := at_.1
    generalize atD' Ds a = A at *
    have l1 := dA.1.1.1.2.1
    have l100 := dA.2.2.1
    have wA := dA.1.1.1.1
    have sA : sg A 0 = A := sg_self dA.1.1.1
    have dk : dOK (A, false) := (dOK_p dA.1.1 l100).mpr (doc_ok dA)
    have dk' : (A, false).2 = false ∧ 1 ≤ (A, false).1.length ∧ nz (A, false).1 0 = (A, false).1.length ∧ dpF 13 (A, false).1 0 ≤ 12 := dk
    have lp : ∀ (u i : Nat) (S2 : GS), i + u = 3 → ClS T0 Ds pg pp r L Q C S2 → Ev (fun n => f_X11_isSound n d 29 S2 [((8 * a.toNat : Nat) : Int), 1, (i : Int)]) (fun x S1 => x = 1 ∧ ClS T0 Ds pg pp r L Q C S1) := by
      intro u
      induction u with
      | zero =>
        intro i S2 hi h2
        have e : i = 3 := by omega
        subst e
        refine ev_up (fun n => e_X11_isSound_29) ?_
        unfold b_X11_isSound_29
        refine ev_gg (by decide) ?_
        refine ev_ite (fun _ => ?_) (fun z => absurd (by decide) z)
        refine ev_gg (by first | omega | (constructor <;> omega)) ?_
        refine ev_gg (by decide) ?_
        exact ev_ret ⟨rfl, h2⟩
      | succ u ih =>
        intro i S2 hi h2
        refine ev_up (fun n => e_X11_isSound_29) ?_
        unfold b_X11_isSound_29
        refine ev_gg (by first | omega | (constructor <;> omega)) ?_
        refine ev_ite (fun z => by omega) (fun _ => ?_)
        refine ev_gg (by decide) ?_
        refine ev_ite (fun z => absurd z (by decide)) (fun _ => ?_)
        refine ev_gg (by first | omega | (constructor <;> omega)) ?_
        refine ev_gc (sx_clear (d := d - 1) g28 h2.2.2.2.2.2.2.2.2) (fun _ S3 q3 => ?_)
        have sM : ∀ k, shM 428 k → wkM k := fun k z => by
          unfold shM at z
          unfold wkM
          omega
        have h3 := cl_fr h2 q3.2.1 sM q3.2.2
        have t3 : TV S3 (8 * a.toNat) A := (tAA S3 h3).1
        have wl := wr_len 12 A (i : Int) 0 dA.1 l100 dA.2.1 (by decide)
        refine ev_gc (s8_value (S0 := S3) (V := A) (w := (i : Int)) gA.1 g28 t3 wA ⟨by omega, by omega⟩ 12 13 0 (d - 1) 0 S3 [] l1 (by rw [sA]; exact dA.2.1 13) (by decide) (by decide) (by omega) (sx_rf q3.2.2 q3.1) (by rw [rm, sA, List.length_nil]; omega)) (fun _ S4 q4 => ?_)
        rw [sA, List.nil_append] at q4
        have h4 := cl_fr h3 q4.2.1 sM q4.2.2
        refine ev_gc (rd_parse (d := d - 1) (c2 := 428) (s := wrF 12 (i : Int) 0 A) (how := 0) h4.2.2.2.2.2.2.2.2 ⟨g28, by decide, by decide, by decide, wr_rng 12 0 A dA.1, by omega⟩ q4.1 ⟨by decide, by decide⟩ (by omega)) (fun x S5 q5 => ?_)
        obtain ⟨f5, G5, q5⟩ := q5
        have h5 := cl_fr h4 f5 (fun k z => by
          have z' : (336 ≤ k ∧ k < 352) ∨ (430 ≤ k ∧ k < 436) ∨ k = 470 := z
          unfold wkM
          omega) G5
        rw [rdA_back dA.1 l100 dA.2.1] at q5
        obtain ⟨xe, t5⟩ := q5
        have wo := wo_sdc (w := (i : Int)) 12 A dA.1 l100
        have rqw : rq (woF (i : Int) 12 A) = [] := ((wo_rq 12 A).1).trans dA.2.2.2
        have ekw : kyT (woF (i : Int) 12 A) [] = woF (i : Int) 12 A := by
          have := ky_self wo.1.1.1.2.1
          rw [rqw] at this
          exact this
        rw [ekw, nrH_id 13 _ wo.1] at t5
        subst xe
        refine ev_gg (by decide) ?_
        refine ev_ite (fun z => absurd rfl z) (fun _ => ?_)
        refine ev_gcr (x6_result (d := d - 1)) ?_
        rw [Int.toNat_natCast]
        refine ev_gg (by decide) ?_
        have sm := t_same (S := S5) (c := 336) (c2 := 8 * a.toNat) (V := woF (i : Int) 12 A) (U := A) (by decide) gA.1 t5.1 (tAA S5 h5).1 wo.1.1.1.1 wA 13 0 (d - 1) 0 (Nat.le_refl _) (by rw [wo.2]; omega) (by decide) (by omega)
        have s0 : smJ 13 (woF (i : Int) 12 A) 0 A 0 = true := by
          unfold smJ
          rw [if_pos (by omega), sg_self wo.1.1.1]
          show smF 13 (woF (i : Int) 12 A) (sg A 0) = true
          rw [sA]
          exact sm_w 12 A dA.1 l100 dA.2.1
        rw [if_pos s0] at sm
        refine ev_gcr sm ?_
        refine ev_gg (by decide) ?_
        refine ev_ite (fun z => absurd z (by decide)) (fun _ => ?_)
        refine ev_gv ?_
        rw [show (i : Int) + 1 = ((i + 1 : Nat) : Int) by omega]
        exact ih (i + 1) S5 (by omega) h5
    refine ev_gg (gA.1) ?_
    refine ev_gcr (t_isDocument (d := d - 1) gA.1 (by omega) (tAA S h) (fun _ _ => wA)) ?_
    rw [if_pos dk']
    refine ev_gg (by decide) ?_
    refine ev_ite (fun z => absurd z (by decide)) (fun _ => ?_)
    have nb : ∀ i, i < A.length → nk A i = 2 → NbOK (nt A i) (np A i) := fun i hi hk => by
      have vn := (dA.1.2.1 _ (nd_mem hi)).2
      have hk' : (A.getD i nd0).1 = 2 := hk
      rcases vn with v | v | v | v | v
      · omega
      · omega
      · exact v.2
      · omega
      · omega
    refine ev_gcr (t_isWithinBounds (d := d - 1) gA.1 (by omega) (tAA S h).1 wA (kuv_sdc dA.1) nb) ?_
    refine ev_gg (by decide) ?_
    refine ev_ite (fun z => absurd z (by decide)) (fun _ => ?_)
    exact lp 3 0 S (by omega) h
  · rw [if_neg c]
    simp only [if_neg c]
    refine ev_ite (fun z => by omega) (fun _ => ?_)
    exact ev_ret ⟨rfl, h⟩
end CIS
