/-! THE CLASS's put, cut, select -/
section CPU
variable {S S1 : GS} {T0 : List ND} {Ds : List (List ND)} {pg pp : List Int} {r : Int} {L : List Nat} {Q : List (List Int)} {C : List (Int × Int)} {d : Nat}
theorem rl_wk {k : Nat} (z : rlM 471 k) : wkM k := by
  have z' : roM 471 k ∨ shM (rS 471) k := z
  have e : rS 471 = 436 := rfl
  rw [e] at z'
  unfold roM shM at z'
  unfold wkM
  omega
theorem c_loadPage (h : ClS T0 Ds pg pp r L Q C S) (hd : 5 ≤ d) : Ev (fun m => f_X11_loadPage m d 0 S []) (fun x S1 => ((isP pg ∧ x = 0 ∧ RoS 471 pg S1) ∨ (¬ isP pg ∧ x = exB + 2)) ∧ ClS T0 Ds pg pp r L Q C S1) := by
  refine ev_up (fun n => e_X11_loadPage_0) ?_
  unfold b_X11_loadPage_0
  refine ev_gg (by first | omega | (constructor <;> omega)) ?_
  refine ev_gc (ro_load (d := d - 1) (a := 471) (c := 424) (by decide) (by decide) (by decide) (by omega) h.2.1.1 h.2.2.2.2.2.2.2.2 h.2.1.2) (fun x S2 q2 => ?_)
  obtain ⟨q2, f2, G2⟩ := q2
  have h2 := cl_fr h f2 (fun k z => rl_wk z) G2
  rcases q2 with ⟨p, xe, ro⟩ | ⟨p, xe⟩
  · subst xe
    refine ev_gg (by decide) ?_
    refine ev_ite (fun _ => ?_) (fun z => absurd (by decide) z)
    exact ev_ret ⟨Or.inl ⟨p, rfl, ro⟩, h2⟩
  · subst xe
    refine ev_gg (by decide) ?_
    refine ev_ite (fun z => absurd rfl z) (fun _ => ?_)
    exact ev_ret ⟨Or.inr ⟨p, rfl⟩, h2⟩
theorem cl_admitW {c : Nat} {T : List ND} (hc : gT c) (hc2 : 320 ≤ c) (hd : 20 ≤ d) (h : ClS T0 Ds pg pp r L Q C S) (hW : TO c (T, false) S) (hT : DOC T) : Ev (fun m => f_X11_admitAndWipe m d 0 S [((c : Nat) : Int)]) (fun x S1 => if Ds.length < 40 then x = (Ds.length : Int) ∧ ClS T0 (Ds ++ [T]) [] pp r L Q C S1 else x = exB + 2 ∧ ClS T0 Ds pg pp r L Q C S1) := by
  have ex := ex_e
  have n4 := h.1.2.1
  have pT := doc_ok hT
  refine ev_up (fun n => e_X11_admitAndWipe_0) ?_
  unfold b_X11_admitAndWipe_0
  refine ev_gg (by first | omega | (constructor <;> omega)) ?_
  refine ev_gc (cl_admitK (d := d - 1) (c := c) (T := T) hc hc2 (by omega) h hW hT.1 hT.2.2.1 hT.2.2.2) (fun y S3 q3 => ?_)
  by_cases c40 : Ds.length < 40
  · rw [if_pos ⟨pT, c40⟩] at q3
    obtain ⟨ye, q3⟩ := q3
    subst ye
    refine ev_ite (fun _ => ?_) (fun z => by omega)
    refine ev_gc (sx_clear (d := d - 1) (c := 424) (by decide) q3.2.2.2.2.2.2.2.2) (fun _ S4 q4 => ?_)
    refine ev_gg (by first | omega | (constructor <;> omega)) ?_
    refine ev_ret ?_
    rw [if_pos c40]
    exact ⟨rfl, cl_page q3 q4 (by decide)⟩
  · rw [if_neg (fun z => c40 z.2)] at q3
    obtain ⟨ye, e3⟩ := q3
    subst ye
    subst e3
    refine ev_ite (fun z => by omega) (fun _ => ?_)
    refine ev_ret ?_
    rw [if_neg c40]
    exact ⟨rfl, h⟩
theorem ro_edL {l : List Int} {S S1 : GS} (h : RoS 471 l S) (hf : Fr edL S S1) : RoS 471 l S1 := by
  have e : rS 471 = 436 := rfl
  refine ro_fr h hf (by omega) (by omega) ?_ ?_
  · rw [e]; omega
  · rw [e]; omega
theorem c_put {a b : Int} (h : ClS T0 Ds pg pp r L Q C S) (hd : 60 ≤ d) (ha : inr a) (hb : inr b) (hpg : rng pg) : Ev (fun m => f_X11_put m d 0 S [a, b]) (fun x S1 => if hasD Ds a ∧ hasD Ds b then (if Ds.length < 40 ∧ isP pg ∧ (lyP pg (atD' Ds a) (atD' Ds b)).isSome = true then x = (Ds.length : Int) ∧ ClS T0 (Ds ++ [(lyP pg (atD' Ds a) (atD' Ds b)).getD []]) [] pp r L Q C S1 else x = exB + 2 ∧ ClS T0 Ds pg pp r L Q C S1) else x = exB + 3 ∧ ClS T0 Ds pg pp r L Q C S1) := by
  have ex := ex_e
  have n4 := h.1.2.1
  refine ev_up (fun n => e_X11_put_0) ?_
  unfold b_X11_put_0
  refine ev_gg (by first | omega | (constructor <;> omega)) ?_
  refine ev_gcr (cl_doc (d := d - 1) h ha) ?_
  by_cases c : hasD Ds a
  · have at_ := cl_at h c
    rw [if_pos c]
    refine ev_ite (fun _ => ?_) (fun z => by omega)
    refine ev_gcr (cl_doc (d := d - 1) h hb) ?_
    by_cases c2 : hasD Ds b
    · have bt := cl_at h c2
      rw [if_pos c2]
      simp only [if_pos (show hasD Ds a ∧ hasD Ds b from ⟨c, c2⟩)]
      refine ev_ite (fun _ => ?_) (fun z => by omega)
      rw [Int.toNat_natCast, Int.toNat_natCast]
      have dA : DOC (atD' Ds a) := at_.2.2
      have dB : DOC (atD' Ds b) := bt.2.2
      refine ev_gc (c_loadPage (d := d - 1) h (by omega)) (fun y S2 q2 => ?_)
      obtain ⟨q2, h2⟩ := q2
      have tA : TO (8 * a.toNat) (atD' Ds a, false) S2 := (cl_at h2 c).2.1
      have tB : TO (8 * b.toNat) (atD' Ds b, false) S2 := (cl_at h2 c2).2.1
      have gA := at_.1
      have gB := bt.1
      generalize atD' Ds a = A at *
      generalize atD' Ds b = B at *
      have lB := dB.1.1.1.2.1
      rcases q2 with ⟨ip, ye, ro⟩ | ⟨ip, ye⟩
      · subst ye
        refine ev_ite (fun _ => ?_) (fun z => by omega)
        refine ev_gc (ed_begin (d := d - 1) (t := 0) (by omega) gA.1 gA.2 tA dA.1.1 dA.2.2.2 (Or.inl rfl) h2.2.2.2.2.2.2.2.2) (fun _ S3 q3 => ?_)
        obtain ⟨e3, f3⟩ := q3
        have h3 := cl_fr h2 f3 (fun k z => ed_wk z) e3.2.2.2
        have tB3 : TO (8 * b.toNat) (B, false) S3 := to_fr tB f3 (fun k h1 h2 => by omega)
        have ro3 := ro_edL ro f3
        refine ev_gc (ed_put (d := d - 1) (a := 471) (l := pg) (V := A) (U := B) (j := 0) (tn := decide ((0 : Int) = 1)) (bk := some []) (by decide) (by omega) dA.1.1 ip hpg ro3 (ev_eds e3) (fun z => absurd z (by decide)) gB.1 ⟨by omega, by omega, by omega⟩ tB3 dB.1.1.1.1 (by omega)) (fun x S4 q4 => ?_)
        unfold PutQ at q4
        have sB : sg B 0 = B := sg_self dB.1.1.1
        rw [sB] at q4
        cases hz : aimS pg A with
        | none =>
          have eL : lyP pg A B = none := by
            unfold lyP
            rw [hz]
          simp only [eL]
          rw [hz] at q4
          obtain ⟨xe, f4, G4⟩ := q4
          subst xe
          have h4 := cl_fr h3 f4 (fun k z => ed_wk (edP_L z)) G4
          refine ev_gg (by decide) ?_
          refine ev_ite (fun z => absurd rfl z) (fun _ => ?_)
          refine ev_ret ?_
          rw [if_neg (fun z => by have := z.2.2; simp at this)]
          exact ⟨rfl, h4⟩
        | some z =>
          rw [hz] at q4
          have q4' : if pOK (putT pg A z B) then x = 1 ∧ EdS (decide ((0 : Int) = 1)) (putT pg A z B) (putR (decide ((0 : Int) = 1)) (some []) pg A z) S3 S4 else x = 0 ∧ Fr edP S3 S4 ∧ Good S4 := q4
          have dP := fun T => lyP_doc (T := T) (t := B) dA hpg dB.1
          by_cases cp : pOK (putT pg A z B)
          · have eL : lyP pg A B = some (putT pg A z B) := by
              unfold lyP
              rw [hz]
              dsimp only
              rw [if_pos cp]
            simp only [eL]
            rw [if_pos cp] at q4'
            obtain ⟨xe, e4⟩ := q4'
            subst xe
            have h4 := cl_fr h3 e4.2.2.2.1 (fun k z => ed_wk (edP_L z)) e4.2.2.2.2
            refine ev_gg (by decide) ?_
            refine ev_ite (fun _ => ?_) (fun w => absurd (by decide) w)
            refine ev_gcr (ed_result (d := d - 1)) ?_
            rw [show ((360 : Int)).toNat = 360 from rfl]
            refine ev_gc (cl_admitW (d := d - 1) (c := 360) (T := putT pg A z B) (by decide) (by decide) (by omega) h4 e4.1 (dP _ eL)) (fun y S5 q5 => ?_)
            by_cases c40 : Ds.length < 40
            · rw [if_pos c40] at q5
              obtain ⟨ye, q5⟩ := q5
              subst ye
              refine ev_ite (fun _ => ?_) (fun w => by omega)
              refine ev_gg (by first | omega | (constructor <;> omega)) ?_
              refine ev_ret ?_
              rw [if_pos ⟨c40, ip, rfl⟩]
              exact ⟨rfl, q5⟩
            · rw [if_neg c40] at q5
              obtain ⟨ye, q5⟩ := q5
              subst ye
              refine ev_ite (fun w => by omega) (fun _ => ?_)
              refine ev_ret ?_
              rw [if_neg (fun w => c40 w.1)]
              exact ⟨rfl, q5⟩
          · have eL : lyP pg A B = none := by
              unfold lyP
              rw [hz]
              dsimp only
              rw [if_neg cp]
            simp only [eL]
            rw [if_neg cp] at q4'
            obtain ⟨xe, f4, G4⟩ := q4'
            subst xe
            have h4 := cl_fr h3 f4 (fun k z => ed_wk (edP_L z)) G4
            refine ev_gg (by decide) ?_
            refine ev_ite (fun w => absurd rfl w) (fun _ => ?_)
            refine ev_ret ?_
            rw [if_neg (fun w => by have := w.2.2; simp at this)]
            exact ⟨rfl, h4⟩
      · subst ye
        refine ev_ite (fun z => by omega) (fun _ => ?_)
        refine ev_ret ?_
        rw [if_neg (fun w => ip w.2.1)]
        exact ⟨rfl, h2⟩
    · rw [if_neg c2]
      simp only [if_neg (show ¬ (hasD Ds a ∧ hasD Ds b) from fun z => c2 z.2)]
      refine ev_ite (fun z => by omega) (fun _ => ?_)
      exact ev_ret ⟨rfl, h⟩
  · rw [if_neg c]
    simp only [if_neg (show ¬ (hasD Ds a ∧ hasD Ds b) from fun z => c z.1)]
    refine ev_ite (fun z => by omega) (fun _ => ?_)
    exact ev_ret ⟨rfl, h⟩
theorem c_cut {a : Int} (h : ClS T0 Ds pg pp r L Q C S) (hd : 60 ≤ d) (ha : inr a) (hpg : rng pg) : Ev (fun m => f_X11_cut m d 0 S [a]) (fun x S1 => if hasD Ds a then (if Ds.length < 40 ∧ isP pg ∧ (lyC pg (atD' Ds a)).isSome = true then x = (Ds.length : Int) ∧ ClS T0 (Ds ++ [(lyC pg (atD' Ds a)).getD []]) [] pp r L Q C S1 else x = exB + 2 ∧ ClS T0 Ds pg pp r L Q C S1) else x = exB + 3 ∧ ClS T0 Ds pg pp r L Q C S1) := by
  have ex := ex_e
  have n4 := h.1.2.1
  refine ev_up (fun n => e_X11_cut_0) ?_
  unfold b_X11_cut_0
  refine ev_gg (by first | omega | (constructor <;> omega)) ?_
  refine ev_gcr (cl_doc (d := d - 1) h ha) ?_
  by_cases c : hasD Ds a
  · have at_ := cl_at h c
    rw [if_pos c]
    simp only [if_pos c]
    refine ev_ite (fun _ => ?_) (fun z => by omega)
    rw [Int.toNat_natCast]
    have dA : DOC (atD' Ds a) := at_.2.2
    refine ev_gc (c_loadPage (d := d - 1) h (by omega)) (fun y S2 q2 => ?_)
    obtain ⟨q2, h2⟩ := q2
    have tA : TO (8 * a.toNat) (atD' Ds a, false) S2 := (cl_at h2 c).2.1
    have gA := at_.1
    generalize atD' Ds a = A at *
    rcases q2 with ⟨ip, ye, ro⟩ | ⟨ip, ye⟩
    · subst ye
      refine ev_ite (fun _ => ?_) (fun z => by omega)
      refine ev_gc (ed_begin (d := d - 1) (t := 0) (by omega) gA.1 gA.2 tA dA.1.1 dA.2.2.2 (Or.inl rfl) h2.2.2.2.2.2.2.2.2) (fun _ S3 q3 => ?_)
      obtain ⟨e3, f3⟩ := q3
      have h3 := cl_fr h2 f3 (fun k z => ed_wk z) e3.2.2.2
      have ro3 := ro_edL ro f3
      refine ev_gc (ed_cut (d := d - 1) (a := 471) (l := pg) (V := A) (tn := decide ((0 : Int) = 1)) (bk := some []) (by decide) (by omega) dA.1.1 ip hpg ro3 (ev_eds e3)) (fun x S4 q4 => ?_)
      have q4 := q4.1
      unfold CutQ at q4
      have dP := fun T => lyC_doc (T := T) (l := pg) dA
      unfold lyC at dP ⊢
      by_cases cz : ldT pg A (nW pg) = -1 ∨ nW pg = 0
      · rw [if_pos cz] at q4 ⊢
        obtain ⟨xe, f4, G4⟩ := q4
        subst xe
        have h4 := cl_fr h3 f4 (fun k z => ed_wk (edP_L z)) G4
        refine ev_gg (by decide) ?_
        refine ev_ite (fun z => absurd rfl z) (fun _ => ?_)
        refine ev_ret ?_
        rw [if_neg (fun z => by have := z.2.2; simp at this)]
        exact ⟨rfl, h4⟩
      · rw [if_neg cz] at q4 dP ⊢
        obtain ⟨xe, e4⟩ := q4
        subst xe
        have h4 := cl_fr h3 e4.2.2.2.1 (fun k z => ed_wk (edP_L z)) e4.2.2.2.2
        refine ev_gg (by decide) ?_
        refine ev_ite (fun _ => ?_) (fun w => absurd (by decide) w)
        refine ev_gcr (ed_result (d := d - 1)) ?_
        rw [show ((360 : Int)).toNat = 360 from rfl]
        refine ev_gc (cl_admitW (d := d - 1) (c := 360) (T := cutT A (ldT pg A (nW pg)).toNat) (by decide) (by decide) (by omega) h4 e4.1 (dP _ rfl)) (fun y S5 q5 => ?_)
        by_cases c40 : Ds.length < 40
        · rw [if_pos c40] at q5
          obtain ⟨ye, q5⟩ := q5
          subst ye
          refine ev_ite (fun _ => ?_) (fun w => by omega)
          refine ev_gg (by first | omega | (constructor <;> omega)) ?_
          refine ev_ret ?_
          rw [if_pos ⟨c40, ip, rfl⟩]
          exact ⟨rfl, q5⟩
        · rw [if_neg c40] at q5
          obtain ⟨ye, q5⟩ := q5
          subst ye
          refine ev_ite (fun w => by omega) (fun _ => ?_)
          refine ev_ret ?_
          rw [if_neg (fun w => c40 w.1)]
          exact ⟨rfl, q5⟩
    · subst ye
      refine ev_ite (fun z => by omega) (fun _ => ?_)
      refine ev_ret ?_
      rw [if_neg (fun w => ip w.2.1)]
      exact ⟨rfl, h2⟩
  · rw [if_neg c]
    simp only [if_neg c]
    refine ev_ite (fun z => by omega) (fun _ => ?_)
    exact ev_ret ⟨rfl, h⟩
end CPU
