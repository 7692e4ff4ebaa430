/-! THE CLASS's lay and turn -/
theorem laF_doc {U : List ND} (hU : DOC U) : ∀ (K : List Nat) (n : Nat) (V T : List ND), (∀ c ∈ K, c < U.length) → DOC V → laF U K n V = .inr T → DOC T
  | [], _, V, T, _, hV, h => by
    have e : V = T := Sum.inr.inj h
    rw [← e]
    exact hV
  | c :: K, n, V, T, hK, hV, h => by
    rw [laF_c] at h
    cases hS : loS U c V with
    | none => rw [hS] at h; cases h
    | some W =>
      rw [hS] at h
      exact laF_doc hU K (n + 1) W T (fun c hc => hK c (List.mem_cons_of_mem _ hc)) (loS_doc hU hV (hK c List.mem_cons_self) hS) h
theorem laF_len {U : List ND} : ∀ (K : List Nat) (n : Nat) (V : List ND) (m : Nat), laF U K n V = .inl m → m < n + K.length
  | [], n, V, m, h => by cases h
  | c :: K, n, V, m, h => by
    rw [laF_c] at h
    cases hS : loS U c V with
    | none =>
      rw [hS] at h
      have e : n = m := Sum.inl.inj h
      rw [List.length_cons]
      omega
    | some W =>
      rw [hS] at h
      have := laF_len K (n + 1) W m h
      rw [List.length_cons]
      omega
section CLA
variable {S S1 : GS} {T0 : List ND} {Ds : List (List ND)} {pg pp : List Int} {r : Int} {L : List Nat} {Q : List (List Int)} {C : List (Int × Int)} {d : Nat}
theorem ed_wk {k : Nat} (z : edL k) : wkM k := by
  unfold wkM
  omega
theorem doc_k {V : List ND} (h : DOC V) : kyT V [] = V := by
  have := ky_self h.1.1.1.2.1
  rw [h.2.2.2] at this
  exact this
theorem ed_result : Rd (fun n => f_X1_result n d 0 S []) 360 S := by
  refine ev_up (fun n => e_X1_result_0) ?_
  unfold b_X1_result_0
  exact ev_ret ⟨rfl, rfl⟩
theorem ed_wayBack : Rd (fun n => f_X1_wayBack n d 0 S []) 384 S := by
  refine ev_up (fun n => e_X1_wayBack_0) ?_
  unfold b_X1_wayBack_0
  exact ev_ret ⟨rfl, rfl⟩
/-- a DOCUMENT is taken in, if there is room -/
theorem cl_admitK {c : Nat} {T : List ND} (hc : gT c) (hc2 : 320 ≤ c) (hd : 18 ≤ d) (h : ClS T0 Ds pg pp r L Q C S) (hW : TO c (T, false) S) (hT : SDC T) (hl : T.length ≤ 100) (hq : rq T = []) : Ev (fun m => f_X11_admit m d 0 S [((c : Nat) : Int)]) (fun x S1 => if pOK T ∧ Ds.length < 40 then x = (Ds.length : Int) ∧ ClS T0 (Ds ++ [T]) pg pp r L Q C S1 else x = exB + 2 ∧ S1 = S) := by
  refine ev_mono (cl_admitD hc hc2 hd h hW hT hl) (fun x S1 q => ?_)
  have e : kyT T [] = T := by
    have := ky_self hT.1.1.2.1
    rw [hq] at this
    exact this
  rw [e] at q
  by_cases c : pOK T ∧ Ds.length < 40
  · rw [if_pos ⟨c.2, c.1⟩] at q
    rw [if_pos c]
    exact q
  · rw [if_neg (fun z => c ⟨z.2, z.1⟩)] at q
    rw [if_neg c]
    exact q
theorem c_lay {a b : Int} (h : ClS T0 Ds pg pp r L Q C S) (hd : 60 ≤ d) (ha : inr a) (hb : inr b) : Ev (fun m => f_X11_lay m d 0 S [a, b]) (fun x S1 => if hasD Ds a ∧ hasD Ds b then (if rk (atD' Ds b) = 4 then (match laF (atD' Ds b) (kids (atD' Ds b) 0) 0 (atD' Ds a) with
    | .inl n => x = -2 - (n : Int) ∧ n ≤ 100 ∧ ClS T0 Ds pg pp r L Q C S1
    | .inr T => if Ds.length < 40 then x = (Ds.length : Int) ∧ ClS T0 (Ds ++ [T]) pg pp r L Q C S1 else x = exB + 2 ∧ ClS T0 Ds pg pp r L Q C S1) else x = -1 ∧ ClS T0 Ds pg pp r L Q C S1) else x = exB + 3 ∧ ClS T0 Ds pg pp r L Q C S1) := by
  have ex := ex_e
  have n4 := h.1.2.1
  refine ev_up (fun n => e_X11_lay_0) ?_
  unfold b_X11_lay_0
  refine ev_gg (by first | omega | (constructor <;> omega)) ?_
  refine ev_gcr (cl_doc (d := d - 1) h ha) ?_
  by_cases c : hasD Ds a
  · have at_ := cl_at h c
    rw [if_pos c]
    refine ev_ite (fun _ => ?_) (fun z => by omega)
    refine ev_gcr (cl_doc (d := d - 1) h hb) ?_
    by_cases c2 : hasD Ds b
    · have bt := cl_at h c2
      have c12 : hasD Ds a ∧ hasD Ds b := ⟨c, c2⟩
      rw [if_pos c2]
      simp only [if_pos c12]
      refine ev_ite (fun _ => ?_) (fun z => by omega)
      rw [Int.toNat_natCast, Int.toNat_natCast]
      have dA : DOC (atD' Ds a) := at_.2.2
      have dB : DOC (atD' Ds b) := bt.2.2
      have tA : TO (8 * a.toNat) (atD' Ds a, false) S := at_.2.1
      have tB : TO (8 * b.toNat) (atD' Ds b, false) S := bt.2.1
      have gA := at_.1
      have gB := bt.1
      generalize atD' Ds a = A at *
      generalize atD' Ds b = B at *
      have lB := dB.1.1.1.2.1
      refine ev_gg (gB.1) ?_
      refine ev_gcr (t_is (d := d - 1) gB.1 tB.1 (by decide) (by decide)) ?_
      have ei : isI B 0 4 = if rk B = 4 then 1 else 0 := by
        rw [is_kd (by decide)]
        have e : kdI B 0 = nk B 0 := kdI_n (g := 0) (by omega)
        rw [e]
        rfl
      rw [ei]
      by_cases c4 : rk B = 4
      · rw [if_pos c4]
        simp only [if_pos c4]
        refine ev_gg (by decide) ?_
        refine ev_ite (fun _ => ?_) (fun z => absurd (by decide) z)
        refine ev_gc (ed_begin (d := d - 1) (t := 0) (by omega) gA.1 gA.2 tA dA.1.1 dA.2.2.2 (Or.inl rfl) h.2.2.2.2.2.2.2.2) (fun _ S2 q2 => ?_)
        obtain ⟨e2, f2⟩ := q2
        have h2 := cl_fr h f2 (fun k z => ed_wk z) e2.2.2.2
        have tB2 : TO (8 * b.toNat) (B, false) S2 := to_fr tB f2 (fun k h1 h2 => by omega)
        refine ev_gc (ed_layAll (d := d - 1) (by omega) gB.1 gB.2 dB.1.1 dA.1.1 e2 tB2) (fun x S3 q3 => ?_)
        obtain ⟨q3, f3, G3⟩ := q3
        have h3 := cl_fr h2 f3 (fun k z => ed_wk z) G3
        rw [show decide ((0 : Int) = 1) = false by decide, lyF_la] at q3
        have lKs : (kids B 0).length ≤ 100 := kids_100 dB.1.1.1.1 (pz_l dB.1.1.2) dB.2.2.1 (g := 0) (by omega)
        cases hL : laF B (kids B 0) 0 A with
        | inl n =>
          rw [hL] at q3
          have xe : x = (n : Int) := q3
          subst xe
          have nl := laF_len (U := B) (kids B 0) 0 A n hL
          refine ev_gg (by first | omega | (constructor <;> omega)) ?_
          refine ev_ite (fun z => by omega) (fun _ => ?_)
          refine ev_gv ?_
          refine ev_gg (by first | omega | (constructor <;> omega)) ?_
          exact ev_ret ⟨rfl, by omega, h3⟩
        | inr T =>
          rw [hL] at q3
          obtain ⟨xe, trT, eT⟩ := q3
          subst xe
          have dT := laF_doc dB (kids B 0) 0 A T (kids_lt dB) dA hL
          have pT := doc_ok dT
          refine ev_gg (by decide) ?_
          refine ev_ite (fun _ => ?_) (fun z => absurd rfl z)
          refine ev_gcr (ed_result (d := d - 1)) ?_
          rw [show ((360 : Int)).toNat = 360 from rfl]
          refine ev_gc (cl_admitK (d := d - 1) (c := 360) (T := T) (by decide) (by decide) (by omega) h3 eT.1 dT.1 dT.2.2.1 dT.2.2.2) (fun y S4 q4 => ?_)
          by_cases c40 : Ds.length < 40
          · rw [if_pos ⟨pT, c40⟩] at q4
            obtain ⟨ye, q4⟩ := q4
            subst ye
            refine ev_ite (fun _ => ?_) (fun z => by omega)
            refine ev_gg (by first | omega | (constructor <;> omega)) ?_
            refine ev_ret ?_
            dsimp only
            rw [if_pos c40]
            exact ⟨rfl, q4⟩
          · rw [if_neg (fun z => c40 z.2)] at q4
            obtain ⟨ye, e4⟩ := q4
            subst ye
            subst e4
            refine ev_ite (fun z => by omega) (fun _ => ?_)
            refine ev_ret ?_
            dsimp only
            rw [if_neg c40]
            exact ⟨rfl, h3⟩
      · rw [if_neg c4]
        simp only [if_neg c4]
        refine ev_gg (by decide) ?_
        refine ev_ite (fun z => absurd rfl z) (fun _ => ?_)
        exact ev_ret ⟨rfl, h⟩
    · rw [if_neg c2]
      simp only [if_neg (show ¬ (hasD Ds a ∧ hasD Ds b) from fun z => c2 z.2)]
      refine ev_ite (fun z => by omega) (fun _ => ?_)
      exact ev_ret ⟨rfl, h⟩
  · rw [if_neg c]
    simp only [if_neg (show ¬ (hasD Ds a ∧ hasD Ds b) from fun z => c z.1)]
    refine ev_ite (fun z => by omega) (fun _ => ?_)
    exact ev_ret ⟨rfl, h⟩
theorem c_turn {a b : Int} (h : ClS T0 Ds pg pp r L Q C S) (hd : 60 ≤ d) (ha : inr a) (hb : inr b) : Ev (fun m => f_X11_turn m d 0 S [a, b]) (fun x S1 => if hasD Ds a ∧ hasD Ds b then (if Ds.length < 40 ∧ rk (atD' Ds b) = 4 then (match tuT (atD' Ds b) (atD' Ds a) with
    | none => x = exB + 2 ∧ ClS T0 Ds pg pp r L Q C S1
    | some T => x = (Ds.length : Int) ∧ ClS T0 (Ds ++ [T]) pg pp r L Q C S1) else x = exB + 2 ∧ ClS T0 Ds pg pp r L Q C S1) else x = exB + 3 ∧ ClS T0 Ds pg pp r L Q C S1) := by
  have ex := ex_e
  have n4 := h.1.2.1
  refine ev_up (fun n => e_X11_turn_0) ?_
  unfold b_X11_turn_0
  refine ev_gg (by first | omega | (constructor <;> omega)) ?_
  refine ev_gcr (cl_doc (d := d - 1) h ha) ?_
  by_cases c : hasD Ds a
  · have at_ := cl_at h c
    rw [if_pos c]
    refine ev_ite (fun _ => ?_) (fun z => by omega)
    refine ev_gcr (cl_doc (d := d - 1) h hb) ?_
    by_cases c2 : hasD Ds b
    · have bt := cl_at h c2
      have c12 : hasD Ds a ∧ hasD Ds b := ⟨c, c2⟩
      rw [if_pos c2]
      simp only [if_pos c12]
      refine ev_ite (fun _ => ?_) (fun z => by omega)
      rw [Int.toNat_natCast, Int.toNat_natCast]
      have dA : DOC (atD' Ds a) := at_.2.2
      have dB : DOC (atD' Ds b) := bt.2.2
      have tA : TO (8 * a.toNat) (atD' Ds a, false) S := at_.2.1
      have tB : TO (8 * b.toNat) (atD' Ds b, false) S := bt.2.1
      have gA := at_.1
      have gB := bt.1
      generalize atD' Ds a = A at *
      generalize atD' Ds b = B at *
      have lB := dB.1.1.1.2.1
      refine ev_gg (gB.1) ?_
      refine ev_gcr (t_is (d := d - 1) gB.1 tB.1 (by decide) (by decide)) ?_
      have ei : isI B 0 4 = if rk B = 4 then 1 else 0 := by
        rw [is_kd (by decide)]
        have e : kdI B 0 = nk B 0 := kdI_n (g := 0) (by omega)
        rw [e]
        rfl
      rw [ei]
      by_cases c4 : rk B = 4
      · rw [if_pos c4]
        refine ev_gg (by decide) ?_
        refine ev_ite (fun _ => ?_) (fun z => absurd (by decide) z)
        refine ev_gc (ed_begin (d := d - 1) (t := 1) (by omega) gA.1 gA.2 tA dA.1.1 dA.2.2.2 (Or.inr rfl) h.2.2.2.2.2.2.2.2) (fun _ S2 q2 => ?_)
        obtain ⟨e2, f2⟩ := q2
        have h2 := cl_fr h f2 (fun k z => ed_wk z) e2.2.2.2
        have tB2 : TO (8 * b.toNat) (B, false) S2 := to_fr tB f2 (fun k h1 h2 => by omega)
        refine ev_gc (ed_layAll (d := d - 1) (by omega) gB.1 gB.2 dB.1.1 dA.1.1 e2 tB2) (fun x S3 q3 => ?_)
        obtain ⟨q3, f3, G3⟩ := q3
        have h3 := cl_fr h2 f3 (fun k z => ed_wk z) G3
        rw [show decide ((1 : Int) = 1) = true by decide, lyF_un] at q3
        have lKs : (kids B 0).length ≤ 100 := kids_100 dB.1.1.1.1 (pz_l dB.1.1.2) dB.2.2.1 (g := 0) (by omega)
        have osk := osk_un dB dA
        have eAR := adL_rcL (unF_ok dB (kids B 0) A (kids_lt dB) dA)
        unfold tuT
        cases hL : laF B (kids B 0) 0 A with
        | inl n =>
          rw [hL] at q3
          have xe : x = (n : Int) := q3
          subst xe
          have nl := laF_len (U := B) (kids B 0) 0 A n hL
          refine ev_gg (by first | omega | (constructor <;> omega)) ?_
          refine ev_ite (fun z => by omega) (fun _ => ?_)
          refine ev_ret ?_
          dsimp only
          split <;> exact ⟨rfl, h3⟩
        | inr T =>
          rw [hL] at q3
          obtain ⟨xe, trT, eT⟩ := q3
          subst xe
          refine ev_gg (by decide) ?_
          refine ev_ite (fun _ => ?_) (fun z => absurd rfl z)
          refine ev_gcr (ed_wayBack (d := d - 1)) ?_
          rw [show ((384 : Int)).toNat = 384 from rfl]
          have bk := eT.2.2.1
          dsimp only at bk ⊢
          rw [← eAR] at bk
          generalize adL (unF B (kids B 0) A) (some []) = R at bk osk ⊢
          cases R with
          | none =>
            obtain ⟨Os, b1, b2⟩ := bk
            refine ev_gc (cl_admit (d := d - 1) (c := 384) (W := (gpN (ndK 4) Os Os.length, true)) (by decide) (by decide) (by omega) h3 b1 (fun z => by cases z) (fun z => by cases z.1)) (fun y S4 q4 => ?_)
            rcases q4 with ⟨_, q, _⟩ | ⟨_, ye, e4⟩
            · cases q.1
            · subst ye
              subst e4
              refine ev_ite (fun z => by omega) (fun _ => ?_)
              refine ev_ret ?_
              dsimp only
              split <;> exact ⟨rfl, h3⟩
          | some Os =>
            obtain ⟨b1, b2⟩ := bk
            obtain ⟨o1, o2⟩ := osk Os rfl
            have gl : (gpN (ndK 4) Os Os.length).length ≤ 100 := by
              unfold gpN
              rw [List.length_cons]
              omega
            have sd : SDC (gpN (ndK 4) Os Os.length) := sdc_gp (by decide) ⟨nr_mk (by decide) (by decide) (by decide) (fun y hy => by cases hy), Or.inr (Or.inr (Or.inr (Or.inr ⟨by decide, rfl, rfl⟩)))⟩ (fun t ht => (o2 t ht).1) (fun z => absurd z (by decide)) (fun _ t ht => (o2 t ht).2) (by omega)
            refine ev_gc (cl_admitK (d := d - 1) (c := 384) (T := gpN (ndK 4) Os Os.length) (by decide) (by decide) (by omega) h3 b1 sd gl rfl) (fun y S4 q4 => ?_)
            by_cases cc : pOK (gpN (ndK 4) Os Os.length) ∧ Ds.length < 40
            · rw [if_pos cc] at q4
              obtain ⟨ye, q4⟩ := q4
              subst ye
              refine ev_ite (fun _ => ?_) (fun z => by omega)
              refine ev_gg (by first | omega | (constructor <;> omega)) ?_
              refine ev_ret ?_
              dsimp only
              rw [if_pos ⟨cc.2, c4⟩, if_pos cc.1]
              exact ⟨rfl, q4⟩
            · rw [if_neg cc] at q4
              obtain ⟨ye, e4⟩ := q4
              subst ye
              subst e4
              refine ev_ite (fun z => by omega) (fun _ => ?_)
              refine ev_ret ?_
              dsimp only
              by_cases c40 : Ds.length < 40
              · rw [if_pos ⟨c40, c4⟩, if_neg (fun z => cc ⟨z, c40⟩)]
                exact ⟨rfl, h3⟩
              · rw [if_neg (fun z => c40 z.1)]
                exact ⟨rfl, h3⟩
      · rw [if_neg c4]
        refine ev_gg (by decide) ?_
        refine ev_ite (fun z => absurd rfl z) (fun _ => ?_)
        simp only [if_neg (show ¬ (Ds.length < 40 ∧ rk B = 4) from fun z => c4 z.2)]
        exact ev_ret ⟨rfl, h⟩
    · rw [if_neg c2]
      simp only [if_neg (show ¬ (hasD Ds a ∧ hasD Ds b) from fun z => c2 z.2)]
      refine ev_ite (fun z => by omega) (fun _ => ?_)
      exact ev_ret ⟨rfl, h⟩
  · rw [if_neg c]
    simp only [if_neg (show ¬ (hasD Ds a ∧ hasD Ds b) from fun z => c z.1)]
    refine ev_ite (fun z => by omega) (fun _ => ?_)
    exact ev_ret ⟨rfl, h⟩
end CLA
