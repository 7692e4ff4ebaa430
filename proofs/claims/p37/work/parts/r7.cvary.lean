/-! THE CLASS's vary -/
section CVA
variable {S S1 : GS} {T0 : List ND} {Ds : List (List ND)} {pg pp : List Int} {r : Int} {L : List Nat} {Q : List (List Int)} {C : List (Int × Int)} {d : Nat}
theorem gr_wk {k : Nat} (z : grM k) : wkM k := by
  unfold grM at z
  unfold wkM
  omega
theorem c_vary {a z : Int} (h : ClS T0 Ds pg pp r L Q C S) (hd : 90 ≤ d) (ha : inr a) (hz : inr z) : Ev (fun m => f_X11_vary m d 0 S [a, z]) (fun x S1 => if hasD Ds a then (if 0 ≤ z ∧ z < 65536 then (if pOK (vrW (atD' Ds a) z) ∧ Ds.length < 40 then x = (Ds.length : Int) ∧ ClS T0 (Ds ++ [vrW (atD' Ds a) z]) pg pp r L Q C S1 else x = exB + 2 ∧ ClS T0 Ds pg pp r L Q C S1) else x = exB + 1 ∧ ClS T0 Ds pg pp r L Q C S1) else x = exB + 3 ∧ ClS T0 Ds pg pp r L Q C S1) := by
  have ex := ex_e
  have n4 := h.1.2.1
  have g320 : gT 320 := by decide
  refine ev_up (fun n => e_X11_vary_0) ?_
  unfold b_X11_vary_0
  refine ev_gg (by first | omega | (constructor <;> omega)) ?_
  refine ev_gcr (cl_doc (d := d - 1) h ha) ?_
  by_cases c : hasD Ds a
  · have at_ := cl_at h c
    rw [if_pos c]
    simp only [if_pos c]
    refine ev_ite (fun _ => ?_) (fun z => by omega)
    rw [Int.toNat_natCast]
    have dA : DOC (atD' Ds a) := at_.2.2
    have tA : TO (8 * a.toNat) (atD' Ds a, false) S := at_.2.1
    have gA := at_.1
    generalize atD' Ds a = A at *
    have l1 := dA.1.1.1.2.1
    have l100 := dA.2.2.1
    refine ev_gg (hz) ?_
    refine ev_ite (fun y => ?_) (fun y => ?_)
    · simp only [if_neg (show ¬ (0 ≤ z ∧ z < 65536) by omega)]
      exact ev_ret ⟨rfl, h⟩
    refine ev_ite (fun y2 => ?_) (fun y2 => ?_)
    · have zr : 0 ≤ z ∧ z < 65536 := by omega
      simp only [if_pos zr]
      refine ev_gc (gr_begin (d := d - 1) h.2.2.2.2.2.2.2.2 zr (by omega)) (fun _ S2 g2 => ?_)
      have tA2 : TO (8 * a.toNat) (A, false) S2 := to_fr tA g2.2.2.1 (fun k h1 h2 w => by unfold grM at w; omega)
      refine ev_gg (gA.1) ?_
      refine ev_gcr (t_count (d := d - 1) gA.1 tA2.1) ?_
      refine ev_gc (gr_draw (d := d - 1) (a := (A.length : Int)) g2 zr (by omega)) (fun x S3 q3 => ?_)
      obtain ⟨xe, g3⟩ := q3
      obtain ⟨il, ei⟩ := vr_at (seed := z) l1
      rw [ei] at xe
      subst xe
      have sp := gr_sprout (S0 := S) (sz := 2) (by decide) 2 2 (d - 1) [] S3 (dr z) rfl (by decide) (by omega) (by decide) wf_nil dr_r g3
      refine ev_gc sp (fun _ S4 q4 => ?_)
      obtain ⟨_, g4, _, _⟩ := q4
      have g4' : GrS S (vrT z) _ S4 := g4
      have vo := vrT_ok (seed := z)
      have h4 := cl_fr h g4'.2.2.1 (fun k w => gr_wk w) g4'.2.2.2
      have tA4 : TO (8 * a.toNat) (A, false) S4 := to_fr tA g4'.2.2.1 (fun k h1 h2 w => by unfold grM at w; omega)
      have zA : nz A 0 = A.length := dA.1.1.1.2.2
      have szA : szI A 0 = (nz A 0 : Int) := szI_c (i := 0) (by omega)
      have co := ty_copyOf (S := S4) (c := 320) (c2 := 8 * a.toNat) (U := A) (o := false) (f := 0) (d := d - 1) g320 gA.1 (by omega) (by omega) tA4.1 tA4.2 (by decide) (Or.inl (by omega)) g4'.2.2.2
      have ec : cpW A false 0 = (A, false) := by
        rw [cpW_doc l1 zA l100, doc_k dA]
      rw [ec] at co
      refine ev_gc co (fun _ S5 q5 => ?_)
      have hr : Rd (fun m => f_X3_result m (d - 1) 0 S5 []) 408 S5 := by
        refine ev_up (fun n => e_X3_result_0) ?_
        unfold b_X3_result_0
        exact ev_ret ⟨rfl, rfl⟩
      refine ev_gcr hr ?_
      rw [show ((408 : Int)).toNat = 408 from rfl]
      have t408 : TO 408 (vrT z, false) S5 := to_fr g4'.1 q5.2.2.1 (fun k h1 h2 w => by unfold trM at w; omega)
      have sU : sg (vrT z) 0 = vrT z := sg_self vo.1.1.1
      have l0 := vo.1.1.1.2.1
      have zU : nz (vrT z) 0 = (vrT z).length := vo.1.1.1.2.2
      have eR : rpl A (dv z A.length).toNat (vrT z) 0 = vrW A z := by
        rw [rpl_upd dA.1.1 il vo.1.1.1.1 vo.1.1.2 (by omega), sU]
        rfl
      have q5' : TY 320 S5 (A, false) S5 := ⟨q5.1, q5.2.1, fr_rf, q5.2.2.2⟩
      have wA := dA.1.1.1.1
      have rp := ty_replace (d := d - 1) (c := 320) (c2 := 408) (W := (A, false)) (U := vrT z) (ob := false) (i := (dv z A.length).toNat) (j := 0) (S0 := S5) g320 (by decide) (by decide) (by omega) t408.1 t408.2 il (by omega) (by omega) (fun p hp hq => by
        by_cases e : p = (dv z A.length).toNat
        · rw [e]
          exact ⟨Nat.le_refl _, wA.1 _ il⟩
        · exact ⟨wA.2.1 p _ (by omega) hq, wA.1 p (by omega)⟩) q5'
      refine ev_gc rp (fun _ S6 q6 => ?_)
      obtain ⟨vt, vd, vs⟩ := vrW_ok (seed := z) dA
      have vl : (vrW A z).length + nz A (dv z A.length).toNat = A.length + (vrT z).length := by
        have := (upd_tr (h := fun c => kyT (vrT z) (rq c)) A.length A _ (Nat.le_refl _) dA.1.1 il ⟨tr_ky vo.1.1.1, pzl_ky l0 vo.1.1.2⟩).2
        have e : (vrW A z).length + (sg A (dv z A.length).toNat).length = A.length + (kyT (vrT z) (rq (sg A (dv z A.length).toNat))).length := this
        rw [sg_len wA il, ky_len l0] at e
        exact e
      by_cases cl : A.length + nz (vrT z) 0 ≤ 100 + nz A (dv z A.length).toNat
      · rw [if_pos ⟨rfl, cl⟩] at q6
        have q6' : TY 320 S5 (rpl A (dv z A.length).toNat (vrT z) 0, false) S6 := q6
        rw [eR] at q6'
        have h6 := cl_fr h4 (fr_tr q5.2.2.1 q6'.2.2.1) (fun k w => by unfold trM at w; unfold wkM; omega) q6'.2.2.2
        have vl100 : (vrW A z).length ≤ 100 := by omega
        refine ev_gc (cl_admitK (d := d - 1) (c := 320) (T := vrW A z) g320 (by decide) (by omega) h6 (to_ty q6') (vs vl100).1 vl100 (vs vl100).2) (fun y S7 q7 => ?_)
        by_cases cc : pOK (vrW A z) ∧ Ds.length < 40
        · rw [if_pos cc] at q7
          obtain ⟨ye, q7⟩ := q7
          subst ye
          refine ev_ite (fun _ => ?_) (fun w => by omega)
          refine ev_gg (by first | omega | (constructor <;> omega)) ?_
          refine ev_ret ?_
          rw [if_pos cc]
          exact ⟨rfl, q7⟩
        · rw [if_neg cc] at q7
          obtain ⟨ye, e7⟩ := q7
          subst ye
          subst e7
          refine ev_ite (fun w => by omega) (fun _ => ?_)
          refine ev_ret ?_
          rw [if_neg cc]
          exact ⟨rfl, h6⟩
      · rw [if_neg (fun w => cl w.2)] at q6
        have q6' : TY 320 S5 (A, true) S6 := q6
        have h6 := cl_fr h4 (fr_tr q5.2.2.1 q6'.2.2.1) (fun k w => by unfold trM at w; unfold wkM; omega) q6'.2.2.2
        refine ev_gc (cl_admitN (d := d - 1) (c := 320) (W := (A, true)) g320 (by decide) (by omega) h6 (to_ty q6') rfl) (fun y S7 q7 => ?_)
        obtain ⟨ye, e7⟩ := q7
        subst ye
        subst e7
        refine ev_ite (fun w => by omega) (fun _ => ?_)
        refine ev_ret ?_
        rw [if_neg (fun w => by have := w.1.1; omega)]
        exact ⟨rfl, h6⟩
    · simp only [if_neg (show ¬ (0 ≤ z ∧ z < 65536) by omega)]
      exact ev_ret ⟨rfl, h⟩
  · rw [if_neg c]
    simp only [if_neg c]
    refine ev_ite (fun w => by omega) (fun _ => ?_)
    exact ev_ret ⟨rfl, h⟩
end CVA
