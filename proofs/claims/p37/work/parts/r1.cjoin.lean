/-! THE CLASS's patch and join -/
section CJO
variable {S S1 : GS} {T0 : List ND} {Ds : List (List ND)} {pg pp : List Int} {r : Int} {L : List Nat} {Q : List (List Int)} {C : List (Int × Int)} {d : Nat}
/-- what is too much is not taken in -/
theorem cl_admitN {c : Nat} {W : TW} (hc : gT c) (hc2 : 320 ≤ c) (hd : 18 ≤ d) (h : ClS T0 Ds pg pp r L Q C S) (hW : TO c W S) (hw : W.2 = true) : Ev (fun m => f_X11_admit m d 0 S [((c : Nat) : Int)]) (fun x S1 => x = exB + 2 ∧ S1 = S) := by
  refine ev_mono (cl_admit hc hc2 hd h hW (fun z => by rw [hw] at z; cases z) (fun z => by have := z.1; rw [hw] at this; cases this)) (fun x S1 q => ?_)
  rcases q with ⟨_, q, _⟩ | ⟨_, q⟩
  · have := q.1
    rw [hw] at this
    cases this
  · exact q
theorem c_patch {a b : Int} (h : ClS T0 Ds pg pp r L Q C S) (hd : 80 ≤ d) (ha : inr a) (hb : inr b) : Ev (fun m => f_X11_patch m d 0 S [a, b]) (fun x S1 => if hasD Ds a ∧ hasD Ds b then (match ptT (atD' Ds a) (atD' Ds b) with
    | none => x = exB + 2 ∧ ClS T0 Ds pg pp r L Q C S1
    | some T => if Ds.length < 40 then x = (Ds.length : Int) ∧ ClS T0 (Ds ++ [T]) pg pp r L Q C S1 else x = exB + 2 ∧ ClS T0 Ds pg pp r L Q C S1) else x = exB + 3 ∧ ClS T0 Ds pg pp r L Q C S1) := by
  have ex := ex_e
  have n4 := h.1.2.1
  refine ev_up (fun n => e_X11_patch_0) ?_
  unfold b_X11_patch_0
  refine ev_gg (by first | omega | (constructor <;> omega)) ?_
  refine ev_gcr (cl_doc (d := d - 1) h ha) ?_
  by_cases c : hasD Ds a
  · have at_ := cl_at h c
    rw [if_pos c]
    refine ev_ite (fun _ => ?_) (fun z => by omega)
    refine ev_gcr (cl_doc (d := d - 1) h hb) ?_
    by_cases c2 : hasD Ds b
    · have bt := cl_at h c2
      have c12 : hasD Ds a ∧ hasD Ds b := ⟨c, c2⟩
      rw [if_pos c2]
      simp only [if_pos c12]
      refine ev_ite (fun _ => ?_) (fun z => by omega)
      rw [Int.toNat_natCast, Int.toNat_natCast]
      have dA : DOC (atD' Ds a) := at_.2.2
      have dB : DOC (atD' Ds b) := bt.2.2
      have tA : TO (8 * a.toNat) (atD' Ds a, false) S := at_.2.1
      have tB : TO (8 * b.toNat) (atD' Ds b, false) S := bt.2.1
      have gA := at_.1
      have gB := bt.1
      generalize atD' Ds a = A at *
      generalize atD' Ds b = B at *
      have lA := dA.1.1.1.2.1
      have lB := dB.1.1.1.2.1
      refine ev_gc (or_listTo (d := d - 1) gA gB (by omega) dA.1.1.1.1 dB.1.1.1.1 lA lB tA tB h.2.2.2.2.2.2.2.2) (fun _ S2 q2 => ?_)
      obtain ⟨q2, f2, G2⟩ := q2
      have h2 := cl_fr h f2 (fun k z => by
        have z' : trM 320 k ∨ k = 446 ∨ k = 447 ∨ (477 ≤ k ∧ k ≤ 481) := z
        unfold trM at z'
        unfold wkM
        omega) G2
      have osk := osk_pt dA.1 dB.1
      unfold ptT
      cases hP : ptS A B with
      | none =>
        rw [hP] at q2
        obtain ⟨W, w1, w2⟩ := q2
        refine ev_gc (cl_admitN (d := d - 1) (c := 320) (by decide) (by decide) (by omega) h2 w2 w1) (fun y S3 q3 => ?_)
        obtain ⟨ye, e3⟩ := q3
        subst ye
        subst e3
        refine ev_ite (fun z => by omega) (fun _ => ?_)
        exact ev_ret ⟨rfl, h2⟩
      | some Os =>
        rw [hP] at q2
        obtain ⟨b1, b2⟩ := q2
        obtain ⟨o1, o2⟩ := osk Os hP
        have gl : (gpN (ndK 4) Os Os.length).length ≤ 100 := by
          unfold gpN
          rw [List.length_cons]
          omega
        have sd : SDC (gpN (ndK 4) Os Os.length) := sdc_gp (by decide) ⟨nr_mk (by decide) (by decide) (by decide) (fun y hy => by cases hy), Or.inr (Or.inr (Or.inr (Or.inr ⟨by decide, rfl, rfl⟩)))⟩ (fun t ht => (o2 t ht).1) (fun z => absurd z (by decide)) (fun _ t ht => (o2 t ht).2) (by omega)
        refine ev_gc (cl_admitK (d := d - 1) (c := 320) (T := gpN (ndK 4) Os Os.length) (by decide) (by decide) (by omega) h2 b1 sd gl rfl) (fun y S3 q3 => ?_)
        by_cases cc : pOK (gpN (ndK 4) Os Os.length) ∧ Ds.length < 40
        · rw [if_pos cc] at q3
          obtain ⟨ye, q3⟩ := q3
          subst ye
          refine ev_ite (fun _ => ?_) (fun z => by omega)
          refine ev_gg (by first | omega | (constructor <;> omega)) ?_
          refine ev_ret ?_
          dsimp only
          rw [if_pos cc.1]
          dsimp only
          rw [if_pos cc.2]
          exact ⟨rfl, q3⟩
        · rw [if_neg cc] at q3
          obtain ⟨ye, e3⟩ := q3
          subst ye
          subst e3
          refine ev_ite (fun z => by omega) (fun _ => ?_)
          refine ev_ret ?_
          dsimp only
          by_cases cp : pOK (gpN (ndK 4) Os Os.length)
          · rw [if_pos cp]
            dsimp only
            rw [if_neg (fun z => cc ⟨cp, z⟩)]
            exact ⟨rfl, h2⟩
          · rw [if_neg cp]
            exact ⟨rfl, h2⟩
    · rw [if_neg c2]
      simp only [if_neg (show ¬ (hasD Ds a ∧ hasD Ds b) from fun z => c2 z.2)]
      refine ev_ite (fun z => by omega) (fun _ => ?_)
      exact ev_ret ⟨rfl, h⟩
  · rw [if_neg c]
    simp only [if_neg (show ¬ (hasD Ds a ∧ hasD Ds b) from fun z => c z.1)]
    refine ev_ite (fun z => by omega) (fun _ => ?_)
    exact ev_ret ⟨rfl, h⟩
theorem c_join {a b c : Int} (h : ClS T0 Ds pg pp r L Q C S) (hd : 80 ≤ d) (ha : inr a) (hb : inr b) (hc : inr c) : Ev (fun m => f_X11_join m d 0 S [a, b, c]) (fun x S1 => if hasD Ds a ∧ hasD Ds b ∧ hasD Ds c then (if (jnD (atD' Ds a) (atD' Ds b) (atD' Ds c)).2 = [] then (if pOK (jnD (atD' Ds a) (atD' Ds b) (atD' Ds c)).1.flatten ∧ Ds.length < 40 then x = (Ds.length : Int) ∧ ClS T0 (Ds ++ [(jnD (atD' Ds a) (atD' Ds b) (atD' Ds c)).1.flatten]) pg pp r L [] C S1 else x = exB + 2 ∧ ClS T0 Ds pg pp r L Q C S1) else x = -1 ∧ ClS T0 Ds pg pp r L (jnD (atD' Ds a) (atD' Ds b) (atD' Ds c)).2 C S1) else x = exB + 3 ∧ ClS T0 Ds pg pp r L Q C S1) := by
  have ex := ex_e
  have n4 := h.1.2.1
  refine ev_up (fun n => e_X11_join_0) ?_
  unfold b_X11_join_0
  refine ev_gg (by first | omega | (constructor <;> omega)) ?_
  refine ev_gcr (cl_doc (d := d - 1) h ha) ?_
  by_cases k1 : hasD Ds a
  · have at_ := cl_at h k1
    rw [if_pos k1]
    refine ev_ite (fun _ => ?_) (fun z => by omega)
    refine ev_gcr (cl_doc (d := d - 1) h hb) ?_
    by_cases k2 : hasD Ds b
    · have bt := cl_at h k2
      rw [if_pos k2]
      refine ev_ite (fun _ => ?_) (fun z => by omega)
      refine ev_gcr (cl_doc (d := d - 1) h hc) ?_
      by_cases k3 : hasD Ds c
      · have ct := cl_at h k3
        rw [if_pos k3]
        simp only [if_pos (show hasD Ds a ∧ hasD Ds b ∧ hasD Ds c from ⟨k1, k2, k3⟩)]
        refine ev_ite (fun _ => ?_) (fun z => by omega)
        rw [Int.toNat_natCast, Int.toNat_natCast, Int.toNat_natCast]
        have dO : DOC (atD' Ds a) := at_.2.2
        have dA : DOC (atD' Ds b) := bt.2.2
        have dB : DOC (atD' Ds c) := ct.2.2
        have tO : TO (8 * a.toNat) (atD' Ds a, false) S := at_.2.1
        have tA : TO (8 * b.toNat) (atD' Ds b, false) S := bt.2.1
        have tB : TO (8 * c.toNat) (atD' Ds c, false) S := ct.2.1
        have gO := at_.1
        have gA := bt.1
        have gB := ct.1
        generalize atD' Ds a = O at *
        generalize atD' Ds b = A at *
        generalize atD' Ds c = B at *
        have one := jnD_one dO dA dB
        refine ev_gc (jn_top (d := d - 1) ⟨gO, gA, gB⟩ (by omega) dO dA dB tO tA tB h.2.2.2.2.2.1 h.2.2.2.2.2.2.2.2) (fun x S2 q2 => ?_)
        obtain ⟨xe, m2, qu2, f2, G2⟩ := q2
        generalize jnD O A B = J at *
        by_cases zn : J.2 = []
        · rw [if_pos zn] at xe qu2
          simp only [if_pos zn]
          subst xe
          have h2 := cl_qu h f2 (fun k z => z) qu2 G2
          obtain ⟨T, eT, tr, sd, rqT⟩ := one zn
          have eF : J.1.flatten = T := by rw [eT]; simp
          rw [eF] at m2 ⊢
          refine ev_gg (by decide) ?_
          refine ev_ite (fun _ => ?_) (fun z => absurd (by decide) z)
          refine ev_gcr (jn_result (d := d - 1)) ?_
          rw [show ((392 : Int)).toNat = 392 from rfl]
          by_cases tl : T.length ≤ 100
          · have e : apM (some []) T = some T := apM_some tl
            rw [e] at m2
            refine ev_gc (cl_admitK (d := d - 1) (c := 392) (T := T) (by decide) (by decide) (by omega) h2 m2 (sd tl) tl rqT) (fun y S3 q3 => ?_)
            by_cases cc : pOK T ∧ Ds.length < 40
            · rw [if_pos cc] at q3
              obtain ⟨ye, q3⟩ := q3
              subst ye
              refine ev_ite (fun _ => ?_) (fun z => by omega)
              refine ev_gc (jn_forget (d := d - 1) (by omega) q3.2.2.2.2.2.2.2.2) (fun _ S4 q4 => ?_)
              obtain ⟨qu4, f4, _, G4⟩ := q4
              have h4 := cl_qu q3 f4 (fun k z => by omega) qu4 G4
              refine ev_gg (by first | omega | (constructor <;> omega)) ?_
              refine ev_ret ?_
              rw [if_pos cc]
              exact ⟨rfl, h4⟩
            · rw [if_neg cc] at q3
              obtain ⟨ye, e3⟩ := q3
              subst ye
              subst e3
              refine ev_ite (fun z => by omega) (fun _ => ?_)
              refine ev_ret ?_
              rw [if_neg cc]
              exact ⟨rfl, h2⟩
          · have e : apM (some []) T = none := apM_none (by omega)
            rw [e] at m2
            obtain ⟨W, w1, w2⟩ := m2
            refine ev_gc (cl_admitN (d := d - 1) (c := 392) (by decide) (by decide) (by omega) h2 w2 w1) (fun y S3 q3 => ?_)
            obtain ⟨ye, e3⟩ := q3
            subst ye
            subst e3
            refine ev_ite (fun z => by omega) (fun _ => ?_)
            refine ev_ret ?_
            rw [if_neg (fun z => tl z.1.1)]
            exact ⟨rfl, h2⟩
        · rw [if_neg zn] at xe qu2
          subst xe
          have h2 := cl_qu h f2 (fun k z => z) qu2 G2
          refine ev_gg (by decide) ?_
          refine ev_ite (fun z => absurd rfl z) (fun _ => ?_)
          simp only [if_neg zn]
          exact ev_ret ⟨rfl, h2⟩
      · rw [if_neg k3]
        simp only [if_neg (show ¬ (hasD Ds a ∧ hasD Ds b ∧ hasD Ds c) from fun z => k3 z.2.2)]
        refine ev_ite (fun z => by omega) (fun _ => ?_)
        exact ev_ret ⟨rfl, h⟩
    · rw [if_neg k2]
      simp only [if_neg (show ¬ (hasD Ds a ∧ hasD Ds b ∧ hasD Ds c) from fun z => k2 z.2.1)]
      refine ev_ite (fun z => by omega) (fun _ => ?_)
      exact ev_ret ⟨rfl, h⟩
  · rw [if_neg k1]
    simp only [if_neg (show ¬ (hasD Ds a ∧ hasD Ds b ∧ hasD Ds c) from fun z => k1 z.1)]
    refine ev_ite (fun z => by omega) (fun _ => ?_)
    exact ev_ret ⟨rfl, h⟩
end CJO
