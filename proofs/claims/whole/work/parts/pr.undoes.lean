/-! THE REFERENCE turns one ORDER of a PATCH round -/
theorem opN_t {U : List ND} {c k : Nat} (hk : k < 6) (h : opN U c = (k : Int)) : tI U (opI U c) = sx (opsX k) := by
  unfold opN at h
  by_cases c1 : (nk U c = 5 ∧ kdI U (wyI U c) = 3 ∧ isP (tI U (wyI U c))) ∧ kdI U (opI U c) = 3 ∧ tlQ U c (opK (tI U (opI U c)))
  · rw [if_pos c1] at h
    unfold opK at h
    by_cases e0 : tI U (opI U c) = sx 26
    · rw [if_pos e0] at h
      have k0 : k = 0 := by omega
      subst k0; exact e0
    rw [if_neg e0] at h
    by_cases e1 : tI U (opI U c) = sx 25
    · rw [if_pos e1] at h
      have k0 : k = 1 := by omega
      subst k0; exact e1
    rw [if_neg e1] at h
    by_cases e2 : tI U (opI U c) = sx 21
    · rw [if_pos e2] at h
      have k0 : k = 2 := by omega
      subst k0; exact e2
    rw [if_neg e2] at h
    by_cases e3 : tI U (opI U c) = sx 28
    · rw [if_pos e3] at h
      have k0 : k = 3 := by omega
      subst k0; exact e3
    rw [if_neg e3] at h
    by_cases e4 : tI U (opI U c) = sx 29
    · rw [if_pos e4] at h
      have k0 : k = 4 := by omega
      subst k0; exact e4
    rw [if_neg e4] at h
    by_cases e5 : tI U (opI U c) = sx 30
    · rw [if_pos e5] at h
      have k0 : k = 5 := by omega
      subst k0; exact e5
    rw [if_neg e5] at h
    omega
  · rw [if_neg c1] at h
    omega
/-- what turns an ORDER round, by its number -/
theorem unL_op {U V : List ND} {c k : Nat} (hk : k < 6) (h : opN U c = (k : Int)) : unL U c V =
    if k = 1 then [(26, tI U (wyI U c), [sg V (ldT (tI U (wyI U c)) V (nW (tI U (wyI U c)))).toNat])]
    else if k = 3 then puL (tI U (wyI U c)) (cutT V (ldT (tI U (frI U c)) V (nW (tI U (frI U c)))).toNat) ++ [(26, tI U (frI U c), [sg V (ldT (tI U (frI U c)) V (nW (tI U (frI U c)))).toNat])]
    else if k = 4 ∨ k = 0 then puL (tI U (wyI U c)) V
    else if k = 2 then [(21, tI U (wyI U c), [sg V (ldT (tI U (wyI U c)) V (nW (tI U (wyI U c)))).toNat])]
    else [(30, tI U (wyI U c), [sg U (vaI U c).toNat])] := by
  have e := opN_t hk h
  unfold unL
  rw [e]
  have k6 : k = 0 ∨ k = 1 ∨ k = 2 ∨ k = 3 ∨ k = 4 ∨ k = 5 := by omega
  rcases k6 with z | z | z | z | z | z <;> subst z
  · rw [if_neg (show ¬ sx (opsX 0) = sx 25 by decide), if_neg (show ¬ sx (opsX 0) = sx 28 by decide), if_pos (show sx (opsX 0) = sx 29 ∨ sx (opsX 0) = sx 26 by decide)]
    rfl
  · rw [if_pos (show sx (opsX 1) = sx 25 by decide)]
    rfl
  · rw [if_neg (show ¬ sx (opsX 2) = sx 25 by decide), if_neg (show ¬ sx (opsX 2) = sx 28 by decide), if_neg (show ¬ (sx (opsX 2) = sx 29 ∨ sx (opsX 2) = sx 26) by decide), if_pos (show sx (opsX 2) = sx 21 by decide)]
    rfl
  · rw [if_neg (show ¬ sx (opsX 3) = sx 25 by decide), if_pos (show sx (opsX 3) = sx 28 by decide)]
    rfl
  · rw [if_neg (show ¬ sx (opsX 4) = sx 25 by decide), if_neg (show ¬ sx (opsX 4) = sx 28 by decide), if_pos (show sx (opsX 4) = sx 29 ∨ sx (opsX 4) = sx 26 by decide)]
    rfl
  · rw [if_neg (show ¬ sx (opsX 5) = sx 25 by decide), if_neg (show ¬ sx (opsX 5) = sx 28 by decide), if_neg (show ¬ (sx (opsX 5) = sx 29 ∨ sx (opsX 5) = sx 26) by decide), if_neg (show ¬ sx (opsX 5) = sx 21 by decide)]
    rfl
theorem lyP_aim {l : List Int} {V t T : List ND} (h : lyP l V t = some T) : ∃ z, aimS l V = some z := by
  unfold lyP at h
  cases e : aimS l V with
  | none => rw [e] at h; cases h
  | some z => exact ⟨z, rfl⟩
theorem tI_40 {S : GS} {K : Nat} {U : List ND} (h : LK S K U) (i : Int) : (tI U i).length ≤ 40 := by
  unfold tI
  by_cases c : 0 ≤ i ∧ i < (U.length : Int)
  · rw [if_pos c]
    have : i.toNat < U.length := by omega
    exact (h.2.2.2 _ (nd_mem this)).2.2.2.2.2.2.1
  · rw [if_neg c]
    exact Nat.zero_le _
section RUO
variable {S : GS} {d K : Nat} {U V T : List ND} {c : Nat} {os : Option (List (List ND))}
theorem q_undoes {k' : Int} (hd : 12 ≤ d) (hk' : k' = (K : Int)) (hK : K < 41) (h : LK S K U) (hU : DOC U) (hc : c < U.length) (hv : LK S 42 V) (hV : DOC V) (ho : loS U c V = some T) (hos : ∃ Os, os = some Os) (hl : LsQ 41 os S) : Ev (fun n => f_X12_undoes n d 0 S [k', (c : Int)]) (fun _ S1 => LsQ 41 (adL (unL U c V) os) S1 ∧ FC tuP S S1) := by
  subst hk'
  have hU0 := hU.1.1
  have hV0 := hV.1.1
  have l100 := h.2.1
  have lv100 := hv.2.1
  rw [lyS_op hU0 hV] at ho
  have c0 : opN U c ≠ -1 := fun z => by
    rw [if_pos z] at ho
    cases ho
  rw [if_neg c0] at ho
  obtain ⟨⟨h5, k3, pw⟩, tl, o0, o5⟩ := opN_ok c0
  obtain ⟨k, ek⟩ : ∃ k : Nat, opN U c = (k : Int) := ⟨(opN U c).toNat, by omega⟩
  have k6 : k < 6 := by omega
  have un := unL_op (V := V) k6 ek
  rw [ek] at ho tl
  have lq : ∀ {P : Nat → Nat → Prop} {S1 S2 : GS} {o2 : Option (List (List ND))}, LsQ 41 o2 S1 → FC P S1 S2 → (∀ j, 6161 * 41 ≤ j → j < 6161 * 41 + 6161 → ¬ P 501 j) → ¬ P 502 41 → ¬ P 500 5 → ¬ P 500 38 → LsQ 41 o2 S2 := fun a b c1 c2 c3 c4 => lsq_fr a b c1 c2 c3 c4
  have lqo : ∀ {S1 S2 : GS} {o2 : Option (List (List ND))}, FC oiP S1 S2 → LsQ 41 o2 S1 → LsQ 41 o2 S2 := fun b a => lq a b (fun j _ _ => by omega) (by omega) (by omega) (by omega)
  have lqp : ∀ {S1 S2 : GS} {o2 : Option (List (List ND))}, FC plP S1 S2 → LsQ 41 o2 S1 → LsQ 41 o2 S2 := fun b a => lq a b (fun j _ _ => by omega) (by omega) (by omega) (by omega)
  have lfr : ∀ {S1 S2 : GS}, FC oiP S1 S2 → (LK S1 K U → LK S2 K U) ∧ (LK S1 42 V → LK S2 42 V) := fun hf => ⟨fun z => lk_fr z hf (fun j _ _ => by omega) (by omega), fun z => lk_fr z hf (fun j _ _ => by omega) (by omega)⟩
  have pN := fun (S1 : GS) (h1 : LK S1 K U) => q_pathNamed (S := S1) (d := d - 1) (K := K) (q := sx 23) (by omega) (by decide) lw_path (by omega) h1 hU0 hc h5 k3
  have pF := fun (S1 : GS) (h1 : LK S1 K U) (kf : kdI U (frI U c) = 3) => q_pathNamed (S := S1) (d := d - 1) (K := K) (q := sx 27) (by omega) (by decide) lw_from (by omega) h1 hU0 hc h5 kf
  have wy : tI U (vLk U (c : Int) (sx 23)) = tI U (wyI U c) := rfl
  have fe : tI U (vLk U (c : Int) (sx 27)) = tI U (frI U c) := rfl
  have io : ∀ c j, oiP c j → tuP c j := fun c j z => tu_ds (ds_oi z)
  have iu : ∀ c j, upP c j → tuP c j := fun c j z => up_tu z
  have ip : ∀ c j, plP c j → tuP c j := fun c j z => tu_pl z
  have ir : ∀ c j, orP 41 c j → tuP c j := fun c j z => tu_or z
  have ldv : ∀ l : List Int, ldT l V (nW l) ≠ -1 → 0 ≤ ldT l V (nW l) ∧ ldT l V (nW l) < (V.length : Int) := fun l a => by
    rcases ld_ok (l := l) hV0 (nW l) with z | z
    · exact absurd z a
    · omega
  have evl : ∀ {W : List ND} {x : Int}, x ≠ -1 → vL W x = [sg W x.toNat] := fun a => by
    unfold vL
    rw [if_neg a]
  -- a VALUE that was taken
  have p147 : ∀ (S1 : GS) (t : Nat), t < 6 → LK S1 42 V → PaS S1 (tI U (wyI U c)) → LsQ 41 os S1 → FC tuP S S1 → ldT (tI U (wyI U c)) V (nW (tI U (wyI U c))) ≠ -1 → adL (unL U c V) os = addS os (opsX t) (tI U (wyI U c)) [sg V (ldT (tI U (wyI U c)) V (nW (tI U (wyI U c)))).toNat] → Ev (fun n => f_X12_undoes n d 147 S1 [(t : Int), 41]) (fun _ S1 => LsQ 41 (adL (unL U c V) os) S1 ∧ FC tuP S S1) := by
    intro S1 t ht v1 pa ls f1 ln e
    refine ev_up (fun n => e_X12_undoes_147) ?_
    unfold b_X12_undoes_147
    refine ev_gv ?_
    rw [pa.1]
    refine ev_gg (by first | omega | (constructor <;> omega)) ?_
    refine ev_gc (q_plainAll (d := d - 1) (K := 42) (V := V) (by omega) rfl (by decide) pa pw v1 hV0) (fun y S2 q2 => ?_)
    obtain ⟨ye, f2⟩ := q2
    have pa2 := pa_fr pa f2 (by omega) (fun j => by omega)
    subst ye
    refine ev_gc (q_ordered (d := d - 1) (K := 41) (F := 42) (V := V) (by omega) rfl (by decide) rfl (by decide) (by decide) ht pa2 (lk_fr v1 f2 (fun j _ _ => by omega) (by omega)) hV0 (Or.inr (ldv _ ln)) (lqp f2 ls)) (fun _ S3 q3 => ?_)
    rw [e, ← evl ln]
    exact ev_ret ⟨q3.1, fc_tr f1 (fc_tr (fc_mono f2 ip) (fc_mono q3.2.2 ir))⟩
  refine ev_up (fun n => e_X12_undoes_0) ?_
  unfold b_X12_undoes_0
  refine ev_gg (by first | omega | (constructor <;> omega)) ?_
  refine ev_gc (q_opOf (d := d - 1) (by omega) (by omega) h hU0 hc) (fun y S3 q3 => ?_)
  obtain ⟨ye, f3⟩ := q3
  rw [ek] at ye
  subst ye
  have h3 := (lfr f3).1 h
  have v3 := (lfr f3).2 hv
  have ls3 := lqo f3 hl
  have f03 : FC tuP S S3 := fc_mono f3 io
  refine ev_gg (by first | omega | (constructor <;> omega)) ?_
  refine ev_ite (fun z5 => ?_) (fun z5 => ?_)
  · refine ev_ite (fun z3 => ?_) (fun z3 => ?_)
    · rw [if_neg (show ¬ k = 3 by omega)] at un
      refine ev_gc (pN S3 h3) (fun _ S9 q9 => ?_)
      obtain ⟨pa, f9⟩ := q9
      rw [wy] at pa
      have v9 := (lfr f9).2 v3
      have ls9 := lqo f9 ls3
      have f09 : FC tuP S S9 := fc_tr f03 (fc_mono f9 io)
      have upw : ∀ z, aimS (tI U (wyI U c)) V = some z → unL U c V = puL (tI U (wyI U c)) V → Ev (fun n => gc (f_X12_undoesPut n (d - 1) 0 S9 [42]) fun _ S_13 => some (0, S_13)) (fun _ S1 => LsQ 41 (adL (unL U c V) os) S1 ∧ FC tuP S S1) := by
        intro z hz e
        rw [e]
        refine ev_gc (q_undoesPut (d := d - 1) (K := 42) (V := V) (by omega) rfl (by decide) (by decide) v9 hV pa (tI_40 h _) pw hz ls9) (fun _ S10 q10 => ?_)
        exact ev_ret ⟨q10.1, fc_tr f09 (fc_mono q10.2 iu)⟩
      refine ev_ite (fun z0 => ?_) (fun z0 => ?_)
      · have k0 : k = 0 := by omega
        rw [if_pos (show (k : Int) = 0 by omega)] at ho
        obtain ⟨z, hz⟩ := lyP_aim ho
        rw [if_neg (show ¬ k = 1 by omega), if_pos (Or.inr k0)] at un
        exact upw z hz un
      · rw [if_neg (show ¬ (k : Int) = 0 by omega)] at ho
        refine ev_ite (fun z4 => ?_) (fun z4 => ?_)
        · rw [if_neg (show ¬ (k = 4 ∨ k = 0) by omega)] at un
          refine ev_ite (fun z1 => ?_) (fun z1 => ?_)
          · have k2 : k = 2 := by omega
            rw [if_neg (show ¬ k = 1 by omega), if_pos k2] at un
            rw [if_neg (show ¬ (k : Int) = 1 by omega), if_pos (show (k : Int) = 2 by omega)] at ho
            have ln : ldT (tI U (wyI U c)) V (nW (tI U (wyI U c))) ≠ -1 := fun z => by
              rw [if_pos z] at ho
              cases ho
            refine p147 S9 2 (by decide) v9 pa ls9 f09 ln ?_
            rw [un]
            rfl
          · have k1 : k = 1 := by omega
            rw [if_pos k1] at un
            rw [if_pos (show (k : Int) = 1 by omega)] at ho
            have ln : ldT (tI U (wyI U c)) V (nW (tI U (wyI U c))) ≠ -1 := fun z => by
              unfold lyC at ho
              rw [if_pos (Or.inl z)] at ho
              cases ho
            refine p147 S9 0 (by decide) v9 pa ls9 f09 ln ?_
            rw [un]
            rfl
        · have k4 : k = 4 := by omega
          rw [if_neg (show ¬ k = 1 by omega), if_pos (Or.inl k4)] at un
          rw [if_neg (show ¬ (k : Int) = 1 by omega), if_neg (show ¬ (k : Int) = 2 by omega), if_neg (show ¬ (k : Int) = 3 by omega), if_pos (show (k : Int) = 4 by omega)] at ho
          have ln : ldT (tI U (frI U c)) V (nW (tI U (frI U c))) ≠ -1 := fun z => by
            rw [if_pos z] at ho
            cases ho
          rw [if_neg ln] at ho
          obtain ⟨z, hz⟩ := lyP_aim ho
          exact upw z hz un
    · have k3' : k = 3 := by omega
      rw [if_neg (show ¬ k = 1 by omega), if_pos k3'] at un
      rw [if_neg (show ¬ (k : Int) = 0 by omega), if_neg (show ¬ (k : Int) = 1 by omega), if_neg (show ¬ (k : Int) = 2 by omega), if_pos (show (k : Int) = 3 by omega)] at ho
      have ln : ldT (tI U (frI U c)) V (nW (tI U (frI U c))) ≠ -1 := fun z => by
        rw [if_pos z] at ho
        cases ho
      rw [if_neg ln] at ho
      have et : tlQ U c (k : Int) = (kdI U (frI U c) = 3 ∧ isP (tI U (frI U c))) := if_pos (Or.inl (by omega))
      rw [et] at tl
      obtain ⟨kf, pf⟩ := tl
      obtain ⟨V1, eC⟩ : ∃ V1, lyC (tI U (frI U c)) V = some V1 := by
        cases e : lyC (tI U (frI U c)) V with
        | none => rw [e] at ho; cases ho
        | some V1 => exact ⟨V1, rfl⟩
      rw [eC] at ho
      obtain ⟨z, hz⟩ := lyP_aim ho
      have eV1 : V1 = cutT V (ldT (tI U (frI U c)) V (nW (tI U (frI U c)))).toNat := by
        unfold lyC at eC
        split at eC
        · cases eC
        · exact (Option.some.inj eC).symm
      refine ev_gc (pF S3 h3 kf) (fun _ S21 q21 => ?_)
      obtain ⟨pa, f21⟩ := q21
      rw [fe] at pa
      have h21 := (lfr f21).1 h3
      have v21 := (lfr f21).2 v3
      have ls21 := lqo f21 ls3
      have f021 : FC tuP S S21 := fc_tr f03 (fc_mono f21 io)
      refine ev_gc (ev_and (q_canCut (d := d - 1) (K := 44) (F := 42) (V := V) (by omega) rfl (by decide) rfl (by decide) (by decide) hV.1 hV.2.2.2 v21 pa pf) (q_canCut5 (d := d - 1) (K := 44) (F := 42) (V := V) (by omega) rfl (by decide) rfl (by decide) (by decide) hV.1 hV.2.2.2 v21 pa pf)) (fun x S24 q24 => ?_)
      obtain ⟨⟨x24, l24, f24⟩, b24⟩ := q24
      have b24 := b24 V1 eC
      have w24 := l24 V1 eC
      have dV1 := lyC_doc hV eC
      have h24 := lk_fr h21 f24 (fun j _ _ => by omega) (by omega)
      have v24 := lk_fr v21 f24 (fun j _ _ => by omega) (by omega)
      have ls24 : LsQ 41 os S24 := by
        obtain ⟨Os, eos⟩ := hos
        rw [eos] at ls21 ⊢
        exact ⟨by rw [fc_b f24 (by omega)]; exact ls21.1, ⟨b24, mr_fr ls21.2.1.2 f24 (fun j _ _ => by omega) (by omega)⟩, ls21.2.2⟩
      have f024 : FC tuP S S24 := fc_tr f021 (fc_mono f24 (fun c j z => tu_ds (ds_c44 z)))
      refine ev_gc (pN S24 h24) (fun _ S27 q27 => ?_)
      obtain ⟨pa27, f27⟩ := q27
      rw [wy] at pa27
      have h27 := (lfr f27).1 h24
      have v27 := (lfr f27).2 v24
      have w27 := lk_fr w24 f27 (fun j _ _ => by omega) (by omega)
      have ls27 := lqo f27 ls24
      have f027 : FC tuP S S27 := fc_tr f024 (fc_mono f27 io)
      refine ev_gc (q_undoesPut (d := d - 1) (K := 44) (V := V1) (by omega) rfl (by decide) (by decide) w27 dV1 pa27 (tI_40 h _) pw hz ls27) (fun _ S30 q30 => ?_)
      obtain ⟨ls30, f30⟩ := q30
      have h30 := lk_fr h27 f30 (fun j _ _ => by omega) (by omega)
      have v30 := lk_fr v27 f30 (fun j _ _ => by omega) (by omega)
      have f030 : FC tuP S S30 := fc_tr f027 (fc_mono f30 iu)
      refine ev_gc (pF S30 h30 kf) (fun _ S33 q33 => ?_)
      obtain ⟨pa33, f33⟩ := q33
      rw [fe] at pa33
      have v33 := (lfr f33).2 v30
      have ls33 := lqo f33 ls30
      have f033 : FC tuP S S33 := fc_tr f030 (fc_mono f33 io)
      refine ev_gv ?_
      rw [pa33.1]
      refine ev_gc (q_plainAll (d := d - 1) (K := 42) (V := V) (by omega) rfl (by decide) pa33 pf v33 hV0) (fun y S38 q38 => ?_)
      obtain ⟨ye, f38⟩ := q38
      have pa38 := pa_fr pa33 f38 (by omega) (fun j => by omega)
      subst ye
      refine ev_gc (q_ordered (d := d - 1) (K := 41) (F := 42) (t := 0) (V := V) (by omega) rfl (by decide) rfl (by decide) (by decide) (by decide) pa38 (lk_fr v33 f38 (fun j _ _ => by omega) (by omega)) hV0 (Or.inr (ldv _ ln)) (lqp f38 ls33)) (fun _ S41 q41 => ?_)
      rw [un, ← eV1, adL_app, adL_1, ← evl ln]
      exact ev_ret ⟨q41.1, fc_tr f033 (fc_tr (fc_mono f38 ip) (fc_mono q41.2.2 ir))⟩
  · have k5 : k = 5 := by omega
    have et : tlQ U c (k : Int) = ((k : Int) = 1 ∨ vaI U c ≠ -1) := if_neg (by omega)
    rw [et] at tl
    have vn : vaI U c ≠ -1 := by
      rcases tl with z | z
      · omega
      · exact z
    obtain ⟨v, ev, vl⟩ := vl_at hU0 vn
    rw [if_neg (show ¬ k = 1 by omega), if_neg (show ¬ k = 3 by omega), if_neg (show ¬ (k = 4 ∨ k = 0) by omega), if_neg (show ¬ k = 2 by omega)] at un
    refine ev_gc (pN S3 h3) (fun _ S44 q44 => ?_)
    obtain ⟨pa, f44⟩ := q44
    rw [wy] at pa
    have h44 := (lfr f44).1 h3
    have ls44 := lqo f44 ls3
    refine ev_gc (q_orNamed (d := d - 1) (q := sx 24) (by omega) (by decide) lw_value (by omega) h44 hU0 hc h5) (fun y S47 q47 => ?_)
    obtain ⟨ye, f47⟩ := q47
    have ye' : y = vaI U c := ye
    subst ye'
    have h47 := lk_fr h44 f47 (fun j _ _ => by omega) (by omega)
    have ls47 := lq ls44 f47 (fun j _ _ => by omega) (by omega) (by omega) (by omega)
    have pa47 := pa_fr pa f47 (by omega) (fun j => by omega)
    refine ev_gc (q_ordered (d := d - 1) (K := 41) (F := K) (t := 5) (V := U) (by omega) rfl (by decide) rfl (by omega) (by omega) (by decide) pa47 h47 hU0 (Or.inr ⟨by omega, by omega⟩) ls47) (fun _ S49 q49 => ?_)
    rw [un, adL_1, ← evl vn]
    exact ev_ret ⟨q49.1, fc_tr (fc_tr f03 (fc_mono f44 io)) (fc_tr (fc_mono f47 (fun c j z => tu_ds (ds_wd z))) (fc_mono q49.2.2 ir))⟩
end RUO
