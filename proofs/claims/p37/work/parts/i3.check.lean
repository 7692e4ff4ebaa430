/-! THE CLASS's check -/
section CHK
variable {S S1 : GS} {T0 : List ND} {Ds : List (List ND)} {pg pp : List Int} {r : Int} {L : List Nat} {Q : List (List Int)} {C C1 : List (Int × Int)} {d : Nat}
/-- COMPLAINTS change -/
theorem cl_ck (h : ClS T0 Ds pg pp r L Q C S) (hf : Fr exM S S1) (hC : CpS C1 S1) (hG : Good S1) : ClS T0 Ds pg pp r L Q C1 S1 := by
  obtain ⟨⟨n1, n2, n3⟩, ⟨p1, p2⟩, q1, ⟨r1, r2⟩, f1, u1, c1, t1, g⟩ := h
  have no : ∀ k, (k < 400 ∨ (408 ≤ k ∧ k < 460) ∨ (464 ≤ k ∧ k < 487) ∨ 494 ≤ k) → ¬ exM k := fun k hk z => by
    unfold exM ckM trM at z
    omega
  have n468 := hf 468 (no _ (by omega))
  exact ⟨⟨by rw [n468.1]; exact n1, n2, fun i hi => ⟨to_fr (n3 i hi).1 hf (fun k a b => no _ (by omega)), (n3 i hi).2⟩⟩, ⟨sv_fr p1 hf (no _ (by omega)) (no _ (by omega)), p2⟩, sv_fr q1 hf (no _ (by omega)) (no _ (by omega)), ⟨by rw [n468.1]; exact r1, r2⟩, fsl_fr f1 hf (no _ (by omega)) (no _ (by omega)) (no _ (by omega)), qu_fr u1 hf (no _ (by omega)) (no _ (by omega)) (no _ (by omega)) (no _ (by omega)), hC, to_fr t1 hf (fun k a b => no _ (by omega)), hG⟩
theorem c_check {s a : Int} (h : ClS T0 Ds pg pp r L Q C S) (hd : 240 ≤ d) (hs : inr s) (ha : inr a) (hT : DOC T0) : Ev (fun m => f_X11_check m d 0 S [s, a]) (fun x S1 => if hasD Ds s ∧ hasD Ds a then (if agB T0 (atD' Ds s) = true ∧ (exaR (atD' Ds s) (atD' Ds a)).2.1 = false then x = ((exaR (atD' Ds s) (atD' Ds a)).2.2.length : Int) ∧ ClS T0 Ds pg pp r L Q (exaR (atD' Ds s) (atD' Ds a)).2.2 S1 else x = exB + 2 ∧ ClS T0 Ds pg pp r L Q C S1) else x = exB + 3 ∧ S1 = S) := by
  have ex := ex_e
  have n4 := h.1.2.1
  refine ev_up (fun n => e_X11_check_0) ?_
  unfold b_X11_check_0
  refine ev_gg (by omega) ?_
  refine ev_gcr (cl_doc (d := d - 1) h hs) ?_
  by_cases c : hasD Ds s
  · have st := cl_at h c
    rw [if_pos c]
    refine ev_ite (fun _ => ?_) (fun z => by omega)
    refine ev_gcr (cl_doc (d := d - 1) h ha) ?_
    by_cases c2 : hasD Ds a
    · have at_ := cl_at h c2
      have c12 : hasD Ds s ∧ hasD Ds a := ⟨c, c2⟩
      rw [if_pos c2]
      simp only [if_pos c12]
      refine ev_ite (fun _ => ?_) (fun z => by omega)
      rw [Int.toNat_natCast, Int.toNat_natCast]
      have dS : dkc (8 * s.toNat) := ⟨st.1.1, by have := st.1.2; omega⟩
      have dA : dkc (8 * a.toNat) := ⟨at_.1.1, by have := at_.1.2; omega⟩
      have d0 : dkc 328 := ⟨by decide, by decide⟩
      refine ev_gc (ck_agrees (d := d - 1) (cS := 328) (cT := 8 * s.toNat) (Sc := T0) (T := atD' Ds s) ⟨d0, dS⟩ (by omega) hT.1.1.1.1 st.2.2.1.1.1.1 hT.1.1.1.2.1 st.2.2.1.1.1.2.1 h.2.2.2.2.2.2.2.1 st.2.1 h.2.2.2.2.2.2.2.2) (fun x S2 q2 => ?_)
      obtain ⟨rfl, o2, f2, g2⟩ := q2
      have fx : Fr exM S S2 := fr_mono f2 (fun k z => Or.inl z)
      have h2 := cl_ck h fx (cp_fr h.2.2.2.2.2.2.1 f2 o2 (fun z => by unfold ckM trM at z; omega) (fun z => by unfold ckM trM at z; omega)) g2
      refine ev_gg (bo_in _) ?_
      cases ag : agB T0 (atD' Ds s) with
      | false =>
        refine ev_ite (fun _ => ?_) (fun z => absurd rfl z)
        refine ev_ret ?_
        rw [if_neg (fun z => by have := z.1; cases this)]
        exact ⟨rfl, h2⟩
      | true =>
        refine ev_ite (fun z => absurd z (by decide)) (fun _ => ?_)
        have st2 := cl_at h2 c
        have at2 := cl_at h2 c2
        refine ev_gc (ck_examine (d := d - 1) (cS := 8 * s.toNat) (cT := 8 * a.toNat) (Sc := atD' Ds s) (T := atD' Ds a) ⟨dS, dA⟩ (by omega) st.2.2.1.1.1.1 at_.2.2.1.1.1.1 st.2.2.1.1.1.2.1 at_.2.2.1.1.1.2.1 st2.2.1 at2.2.1 h2.2.2.2.2.2.2.1 h2.2.2.2.2.2.2.2.2) (fun x S3 q3 => ?_)
        obtain ⟨rfl, c3, f3, g3⟩ := q3
        have h3 := cl_ck h2 f3 c3 g3
        refine ev_gg (bo_in _) ?_
        cases et : (exaR (atD' Ds s) (atD' Ds a)).2.1 with
        | true =>
          rw [et] at h3
          rw [if_pos rfl] at h3
          refine ev_ite (fun z => absurd rfl z) (fun _ => ?_)
          refine ev_ret ?_
          rw [if_neg (fun z => by have := z.2; cases this)]
          exact ⟨rfl, h3⟩
        | false =>
          rw [et] at h3
          rw [if_neg (by decide)] at h3
          refine ev_ite (fun _ => ?_) (fun z => absurd (by decide) z)
          have lc := h3.2.2.2.2.2.2.1.2.1
          refine ev_gcr (ck_count (d := d - 1) h3.2.2.2.2.2.2.1) ?_
          refine ev_gg (by omega) ?_
          refine ev_ret ?_
          rw [if_pos ⟨rfl, rfl⟩]
          exact ⟨rfl, h3⟩
    · rw [if_neg c2]
      refine ev_ite (fun z => by omega) (fun _ => ?_)
      refine ev_ret ?_
      rw [if_neg (fun z => c2 z.2)]
      exact ⟨rfl, rfl⟩
  · rw [if_neg c]
    refine ev_ite (fun z => by omega) (fun _ => ?_)
    refine ev_ret ?_
    rw [if_neg (fun z => c z.1)]
    exact ⟨rfl, rfl⟩
end CHK
