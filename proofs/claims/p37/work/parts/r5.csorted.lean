/-! THE CLASS's sorted -/
theorem so_wo : ∀ (f : Nat) (T : List ND), SDC T → T.length ≤ 100 → (∀ g, dpS g T ≤ (f : Int)) → soF f T = woF 1 f T := by
  have leaf : ∀ (T : List ND), SDC T → rk T < 4 → gpN (T.getD 0 nd0) [] 0 = T ∧ kd T = [] := fun T hT h => by
    rcases tr_cases hT.1 with ⟨_, e1, e2⟩ | ⟨c, _⟩
    · constructor
      · have : gpN (T.getD 0 nd0) [] 0 = [wZ (T.getD 0 nd0) 1] := rfl
        rw [this]
        conv => rhs; rw [e1]
        have e3 : wZ (T.getD 0 nd0) 1 = T.getD 0 nd0 := by
          rw [← e2]
          rfl
        rw [e3]
      · have l := kd_flat hT.1.2 hT.1.1.2.1
        have l2 := congrArg List.length l
        have l1 : T.length = 1 := by rw [e1]; rfl
        rw [List.length_cons, l1] at l2
        cases hk : kd T with
        | nil => rfl
        | cons t K =>
          rw [hk, List.flatten_cons, List.length_append] at l2
          have := (sdc_kd hT (show t ∈ kd T by rw [hk]; exact List.mem_cons_self)).1.1.2.1
          omega
    · omega
  intro f
  induction f with
  | zero =>
    intro T hT hl hd
    have c : rk T < 4 := by
      have := hd 0
      unfold dpS at this
      by_cases z : 4 ≤ rk T
      · rw [if_pos z] at this
        omega
      · omega
    exact (leaf T hT c).1
  | succ f ih =>
    intro T hT hl hd
    have ew : woF 1 (f + 1) T = if 4 ≤ rk T then gpN (T.getD 0 nd0) ((koS 1 T).map (woF 1 f)) ((koS 1 T).map (woF 1 f)).length else T := rfl
    rw [soF_s, ew]
    by_cases c : 4 ≤ rk T
    · rw [if_pos c]
      have em : (koS 1 T).map (soF f) = (koS 1 T).map (woF 1 f) := List.map_congr_left (fun t ht => by
        have hk := koS_mem t ht
        have := mem_len hk
        have := len_kd hT.1
        exact ih t (sdc_kd hT hk) (by omega) (dp_kd (fun g => by have := hd g; omega) c hk))
      rw [em]
    · rw [if_neg c]
      have lf := leaf T hT (by omega)
      have ek : koS 1 T = [] := by
        have := (koS_perm (w := 1) hT hl)
        rw [lf.2] at this
        exact this.eq_nil
      rw [ek]
      exact lf.1
section CSO
variable {S S1 : GS} {T0 : List ND} {Ds : List (List ND)} {pg pp : List Int} {r : Int} {L : List Nat} {Q : List (List Int)} {C : List (Int × Int)} {d : Nat}
theorem c_sorted {a : Int} (h : ClS T0 Ds pg pp r L Q C S) (hd : 60 ≤ d) (ha : inr a) : Ev (fun m => f_X11_sorted m d 0 S [a]) (fun x S1 => if hasD Ds a then (if Ds.length < 40 then x = (Ds.length : Int) ∧ ClS T0 (Ds ++ [kyT (woF 1 12 (atD' Ds a)) []]) pg pp r L Q C S1 else x = exB + 2 ∧ ClS T0 Ds pg pp r L Q C S1) else x = exB + 3 ∧ ClS T0 Ds pg pp r L Q C S1) := by
  have ex := ex_e
  have n4 := h.1.2.1
  have g320 : gT 320 := by decide
  refine ev_up (fun n => e_X11_sorted_0) ?_
  unfold b_X11_sorted_0
  refine ev_gg (by first | omega | (constructor <;> omega)) ?_
  refine ev_gcr (cl_doc (d := d - 1) h ha) ?_
  by_cases c : hasD Ds a
  · have at_ := cl_at h c
    rw [if_pos c]
    simp only [if_pos c]
    refine ev_ite (fun _ => ?_) (fun z => by omega)
    rw [Int.toNat_natCast]
    have dA : DOC (atD' Ds a) := at_.2.2
    have tA : TO (8 * a.toNat) (atD' Ds a, false) S := at_.2.1
    have gA := at_.1
    generalize atD' Ds a = A at *
    have l1 := dA.1.1.1.2.1
    have sA : sg A 0 = A := sg_self dA.1.1.1
    have so := so_wo 12 A dA.1 dA.2.2.1 (fun g => dA.2.1 g)
    have wo := wo_sdc (w := 1) 12 A dA.1 dA.2.2.1
    refine ev_gc (ty_clear (d := d - 1) g320 h.2.2.2.2.2.2.2.2) (fun _ S2 q2 => ?_)
    have tA2 : TO (8 * a.toNat) (A, false) S2 := to_fr tA q2.2.2.1 (fun k h1 h2 => by unfold trM; omega)
    have q2' : TY 320 S2 ([], false) S2 := ⟨q2.1, q2.2.1, fr_rf, q2.2.2.2⟩
    refine ev_gc (ty_inOrder (c := 320) (c2 := 8 * a.toNat) g320 gA.1 (by omega) tA2.1 dA.1.1.1.1 12 13 0 (d - 1) S2 [] l1 (by rw [sA]; exact dA.2.1 13) (by decide) (by decide) (by omega) (by rw [sA, so, wo.2, List.length_nil, Nat.zero_add]; exact dA.2.2.1) q2') (fun _ S3 q3 => ?_)
    rw [sA, so, List.nil_append] at q3
    have h3 := cl_fr h (fr_tr q2.2.2.1 q3.2.2.1) (fun k z => by unfold trM at z; unfold wkM; omega) q3.2.2.2
    have rqw : rq (woF 1 12 A) = [] := ((wo_rq 12 A).1).trans dA.2.2.2
    have pw : pOK (woF 1 12 A) := ⟨by rw [wo.2]; exact dA.2.2.1, wo_dp 12 A 12 dA.1 dA.2.2.1 (fun g => dA.2.1 g) 13⟩
    have ekw : kyT (woF 1 12 A) [] = woF 1 12 A := by
      have := ky_self wo.1.1.1.2.1
      rw [rqw] at this
      exact this
    rw [ekw]
    refine ev_gc (cl_admitK (d := d - 1) (c := 320) (T := woF 1 12 A) g320 (by decide) (by omega) h3 (to_ty q3) wo.1 pw.1 rqw) (fun y S4 q4 => ?_)
    by_cases c40 : Ds.length < 40
    · rw [if_pos ⟨pw, c40⟩] at q4
      obtain ⟨ye, q4⟩ := q4
      subst ye
      refine ev_ite (fun _ => ?_) (fun z => by omega)
      refine ev_gg (by first | omega | (constructor <;> omega)) ?_
      refine ev_ret ?_
      rw [if_pos c40]
      exact ⟨rfl, q4⟩
    · rw [if_neg (fun z => c40 z.2)] at q4
      obtain ⟨ye, e4⟩ := q4
      subst ye
      subst e4
      refine ev_ite (fun z => by omega) (fun _ => ?_)
      refine ev_ret ?_
      rw [if_neg c40]
      exact ⟨rfl, h3⟩
  · rw [if_neg c]
    simp only [if_neg c]
    refine ev_ite (fun z => by omega) (fun _ => ?_)
    exact ev_ret ⟨rfl, h⟩
end CSO
