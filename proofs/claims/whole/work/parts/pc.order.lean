/-! THE REFERENCE: ORDERS as they are told -/
theorem lw_op : lw 8029918135601594368 = sx 22 := by decide +kernel
theorem lw_path : lw 8097881595014283264 = sx 23 := by decide +kernel
theorem lw_value : lw 8530218420677902336 = sx 24 := by decide +kernel
theorem lw_from : lw 7382085253155782656 = sx 27 := by decide +kernel
/-- what an ORDER's TEXT tells -/
def opsX (k : Nat) : Nat := if k = 0 then 26 else if k = 1 then 25 else if k = 2 then 21 else if k = 3 then 28 else if k = 4 then 29 else 30
theorem lw_ops : ∀ k, k < 6 → lw ((gl_ops.getD k 0).toInt) = sx (opsX k) ∧ inl ((gl_ops.getD k 0).toInt) := by decide +kernel
def opK (t : List Int) : Int := if t = sx 26 then 0 else if t = sx 25 then 1 else if t = sx 21 then 2 else if t = sx 28 then 3 else if t = sx 29 then 4 else if t = sx 30 then 5 else -1
theorem opK_at : ∀ k, k < 6 → opK (sx (opsX k)) = ((k : Nat) : Int) := by decide +kernel
theorem opK_r (t : List Int) : -1 ≤ opK t ∧ opK t ≤ 5 := by
  unfold opK
  repeat' split
  all_goals decide
theorem opK_no {t : List Int} (h : ∀ k, k < 6 → t ≠ sx (opsX k)) : opK t = -1 := by
  unfold opK
  rw [if_neg (show ¬ t = sx 26 from h 0 (by decide)), if_neg (show ¬ t = sx 25 from h 1 (by decide)), if_neg (show ¬ t = sx 21 from h 2 (by decide)), if_neg (show ¬ t = sx 28 from h 3 (by decide)), if_neg (show ¬ t = sx 29 from h 4 (by decide)), if_neg (show ¬ t = sx 30 from h 5 (by decide))]
/-- whether there is what an ORDER needs besides -/
abbrev tlQ (U : List ND) (c : Nat) (k : Int) : Prop := if k = 3 ∨ k = 4 then (kdI U (frI U c) = 3 ∧ isP (tI U (frI U c))) else (k = 1 ∨ vaI U c ≠ -1)
def opN (U : List ND) (c : Nat) : Int := if (nk U c = 5 ∧ kdI U (wyI U c) = 3 ∧ isP (tI U (wyI U c))) ∧ kdI U (opI U c) = 3 ∧ tlQ U c (opK (tI U (opI U c))) then opK (tI U (opI U c)) else -1
abbrev oiP : Nat → Nat → Prop := fun c j => paP c j ∨ wdP c j
section ROO
variable {S : GS} {d K : Nat} {U : List ND} {c : Nat}
theorem vl_n {q : List Int} (hc : c < U.length) (h5 : nk U c = 5) : vLk U (c : Int) q = fdK U q (kids U c) := by rw [vLk_n hc, if_pos h5]
theorem vl_at {q : List Int} (hU : TR U ∧ PZL U) (h : vLk U (c : Int) q ≠ -1) : ∃ v : Nat, vLk U (c : Int) q = (v : Int) ∧ v < U.length := by
  have := vLk_lt hU.1.1 (pz_l hU.2) h
  exact ⟨(vLk U (c : Int) q).toNat, by omega, by omega⟩
theorem vl_in {q : List Int} (hU : TR U ∧ PZL U) (hl : U.length ≤ 100) : inr (vLk U (c : Int) q) := by
  rcases vLk_r hU.1.1 (pz_l hU.2) (c : Int) q with z | z
  · rw [z]; decide
  · constructor <;> omega
theorem kdI_m {i : Int} (h : kdI U i = 3) : 0 ≤ i ∧ i < (U.length : Int) := by
  unfold kdI at h
  by_cases c : 0 ≤ i ∧ i < (U.length : Int)
  · exact c
  · rw [if_neg c] at h
    exact absurd h (by decide)
/-- a VALUE of an ORDER, by its KEY -/
theorem q_orNamed {a : Int} {q : List Int} (hd : 4 ≤ d) (ha : inl a) (e : lw a = q) (hK : K < 48) (h : LK S K U) (hU : TR U ∧ PZL U) (hc : c < U.length) (h5 : nk U c = 5) : Ev (fun n => f_X12_childNamed n d 0 S [(K : Int), (c : Int), a]) (fun x S1 => x = vLk U (c : Int) q ∧ FC wdP S S1) :=
  ev_mono (q_childNamed hd ha rfl hK rfl h hU.1.1 hU.2 hc) (fun x S1 q => ⟨by rw [q.1, e, vl_n hc h5], q.2.2⟩)
theorem q_isTold {k : Nat} (hd : 6 ≤ d) (hk : k < 6) (hK : K < 48) (h : LK S K U) (hU : TR U ∧ PZL U) (hc : c < U.length) (h5 : nk U c = 5) : Ev (fun n => f_X12_isTold n d 0 S [(K : Int), (c : Int), (k : Int)]) (fun x S1 => x = (if tlQ U c (k : Int) then 1 else 0) ∧ FC oiP S S1) := by
  have l100 := h.2.1
  have p10 : (k = 3 ∨ k = 4) → Ev (fun n => f_X12_isTold n d 10 S [(K : Int), (c : Int)]) (fun x S1 => x = (if tlQ U c (k : Int) then 1 else 0) ∧ FC oiP S S1) := by
    intro hk34
    have e : tlQ U c (k : Int) = (kdI U (frI U c) = 3 ∧ isP (tI U (frI U c))) := by
      unfold tlQ
      rw [if_pos (by omega)]
    simp only [e]
    refine ev_up (fun n => e_X12_isTold_10) ?_
    unfold b_X12_isTold_10
    refine ev_gg (by first | omega | (constructor <;> omega)) ?_
    refine ev_gc (q_orNamed (d := d - 1) (q := sx 27) (by omega) (by decide) lw_from hK h hU hc h5) (fun y S1 q => ?_)
    obtain ⟨ye, f1⟩ := q
    have ye' : y = frI U c := ye
    subst ye'
    have fi : inr (frI U c) := vl_in hU l100
    refine ev_gg (fi) ?_
    refine ev_ite (fun z => ?_) (fun z => ?_)
    · refine ev_ret ⟨?_, fc_mono f1 (fun c j z => Or.inr z)⟩
      rw [if_neg (fun w => by have := kdI_m w.1; omega)]
    · obtain ⟨v, ev, vl⟩ := vl_at hU z
      have ev' : frI U c = (v : Int) := ev
      rw [ev'] at *
      have h1 := lk_fr h f1 (fun j _ _ => by omega) (by omega)
      rw [kdI_n vl]
      refine ev_gcr (q_kindL (d := d - 1) (by omega) rfl hK rfl h1 vl) ?_
      have nr := h.2.2.2 _ (nd_mem vl)
      have nr1 : 0 ≤ nk U v ∧ nk U v ≤ 5 := ⟨nr.1, nr.2.1⟩
      refine ev_gg (by first | omega | (constructor <;> omega)) ?_
      refine ev_ite (fun y3 => ?_) (fun y3 => ?_)
      · refine ev_gc (q_pathOf (d := d - 1) (by omega) rfl hK rfl h1 vl) (fun _ S2 q2 => ?_)
        obtain ⟨pa, f2⟩ := q2
        have et : sgN (U.getD v nd0) = tI U (v : Int) := by
          rw [tI_n vl]
          exact sgN_t (by show nk U v ≠ 2; omega)
        rw [et] at pa
        refine ev_gcr (q_isPath (d := d - 1) pa) ?_
        have i01 : (if isP (tI U (v : Int)) then (1 : Int) else 0) = 0 ∨ (if isP (tI U (v : Int)) then (1 : Int) else 0) = 1 := by
          split
          · exact Or.inr rfl
          · exact Or.inl rfl
        refine ev_gg (i01) ?_
        refine ev_ret ⟨?_, fc_tr (fc_mono f1 (fun c j z => Or.inr z)) (fc_mono f2 (fun c j z => Or.inl z))⟩
        by_cases cp : isP (tI U (v : Int))
        · rw [if_pos cp, if_pos ⟨y3, cp⟩]
        · rw [if_neg cp, if_neg (fun w => cp w.2)]
      · refine ev_ret ⟨?_, fc_mono f1 (fun c j z => Or.inr z)⟩
        rw [if_neg (fun w => y3 w.1)]
  refine ev_up (fun n => e_X12_isTold_0) ?_
  unfold b_X12_isTold_0
  refine ev_gg (by first | omega | (constructor <;> omega)) ?_
  refine ev_ite (fun z => ?_) (fun z => ?_)
  · exact p10 (by omega)
  refine ev_ite (fun z2 => ?_) (fun z2 => ?_)
  · have e : tlQ U c (k : Int) = ((k : Int) = 1 ∨ vaI U c ≠ -1) := by
      unfold tlQ
      rw [if_neg (by omega)]
    simp only [e]
    refine ev_ite (fun z3 => ?_) (fun z3 => ?_)
    · refine ev_ret ⟨?_, fc_rf⟩
      rw [if_pos (Or.inl z3)]
    · refine ev_gg (by first | omega | (constructor <;> omega)) ?_
      refine ev_gc (q_orNamed (d := d - 1) (q := sx 24) (by omega) (by decide) lw_value hK h hU hc h5) (fun y S1 q => ?_)
      obtain ⟨ye, f1⟩ := q
      have ye' : y = vaI U c := ye
      subst ye'
      have fi : inr (vaI U c) := vl_in hU l100
      refine ev_gg (fi) ?_
      refine ev_ite (fun z4 => ?_) (fun z4 => ?_)
      · refine ev_ret ⟨?_, fc_mono f1 (fun c j z => Or.inr z)⟩
        rw [if_neg (fun w => w.elim z3 (fun y => y z4))]
      · refine ev_ret ⟨?_, fc_mono f1 (fun c j z => Or.inr z)⟩
        rw [if_pos (Or.inr z4)]
  · exact p10 (by omega)
theorem q_opOf (hd : 7 ≤ d) (hK : K < 48) (h : LK S K U) (hU : TR U ∧ PZL U) (hc : c < U.length) : Ev (fun n => f_X12_opOf n d 0 S [(K : Int), (c : Int)]) (fun x S1 => x = opN U c ∧ FC oiP S S1) := by
  have l100 := h.2.1
  have no : ∀ S1, FC oiP S S1 → ¬ ((nk U c = 5 ∧ kdI U (wyI U c) = 3 ∧ isP (tI U (wyI U c))) ∧ kdI U (opI U c) = 3 ∧ tlQ U c (opK (tI U (opI U c)))) → Ev (fun _ => some ((-1 : Int), S1)) (fun x S1 => x = opN U c ∧ FC oiP S S1) := by
    intro S1 f1 nn
    refine ev_ret ⟨?_, f1⟩
    unfold opN
    rw [if_neg nn]
  have nrc := h.2.2.2 _ (nd_mem hc)
  have nrc1 : 0 ≤ nk U c ∧ nk U c ≤ 5 := ⟨nrc.1, nrc.2.1⟩
  refine ev_up (fun n => e_X12_opOf_0) ?_
  unfold b_X12_opOf_0
  refine ev_gg (by first | omega | (constructor <;> omega)) ?_
  refine ev_gcr (q_kindL (d := d - 1) (by omega) rfl hK rfl h hc) ?_
  refine ev_gg (by first | omega | (constructor <;> omega)) ?_
  refine ev_ite (fun h5 => ?_) (fun h5 => no S fc_rf (fun z => h5 z.1.1))
  refine ev_gc (q_orNamed (d := d - 1) (q := sx 22) (by omega) (by decide) lw_op hK h hU hc h5) (fun y S1 q => ?_)
  obtain ⟨ye, f1⟩ := q
  have ye' : y = opI U c := ye
  subst ye'
  have h1 := lk_fr h f1 (fun j _ _ => by omega) (by omega)
  refine ev_gc (q_orNamed (d := d - 1) (q := sx 23) (by omega) (by decide) lw_path hK h1 hU hc h5) (fun y S2 q => ?_)
  obtain ⟨ye, f2⟩ := q
  have ye' : y = wyI U c := ye
  subst ye'
  have h2 := lk_fr h1 f2 (fun j _ _ => by omega) (by omega)
  have f02 : FC oiP S S2 := fc_tr (fc_mono f1 (fun c j z => Or.inr z)) (fc_mono f2 (fun c j z => Or.inr z))
  have fi1 : inr (opI U c) := vl_in hU l100
  have fi2 : inr (wyI U c) := vl_in hU l100
  refine ev_gg (fi1) ?_
  refine ev_ite (fun z => no S2 f02 (fun w => by have := kdI_m w.2.1; omega)) (fun z => ?_)
  refine ev_gg (fi2) ?_
  refine ev_ite (fun z2 => no S2 f02 (fun w => by have := kdI_m w.1.2.1; omega)) (fun z2 => ?_)
  obtain ⟨v1, ev1, vl1⟩ := vl_at hU z
  obtain ⟨v2, ev2, vl2⟩ := vl_at hU z2
  have ev1' : opI U c = (v1 : Int) := ev1
  have ev2' : wyI U c = (v2 : Int) := ev2
  have nr1 := h.2.2.2 _ (nd_mem vl1)
  have nr2 := h.2.2.2 _ (nd_mem vl2)
  have nk1 : 0 ≤ nk U v1 ∧ nk U v1 ≤ 5 := ⟨nr1.1, nr1.2.1⟩
  have nk2 : 0 ≤ nk U v2 ∧ nk U v2 ≤ 5 := ⟨nr2.1, nr2.2.1⟩
  rw [ev1', ev2', kdI_n vl1, kdI_n vl2] at no
  rw [ev1', ev2']
  refine ev_gcr (q_kindL (d := d - 1) (by omega) rfl hK rfl h2 vl2) ?_
  refine ev_gg (by first | omega | (constructor <;> omega)) ?_
  refine ev_ite (fun k3 => ?_) (fun k3 => no S2 f02 (fun w => k3 w.1.2.1))
  refine ev_gc (q_pathOf (d := d - 1) (by omega) rfl hK rfl h2 vl2) (fun _ S3 q3 => ?_)
  obtain ⟨pa, f3⟩ := q3
  have h3 := lk_fr h2 f3 (fun j _ _ => by omega) (by omega)
  have f03 : FC oiP S S3 := fc_tr f02 (fc_mono f3 (fun c j z => Or.inl z))
  have et : sgN (U.getD v2 nd0) = tI U (v2 : Int) := by
    rw [tI_n vl2]
    exact sgN_t (by show nk U v2 ≠ 2; omega)
  rw [et] at pa
  refine ev_gcr (q_isPath (d := d - 1) pa) ?_
  by_cases cp : isP (tI U (v2 : Int))
  · rw [if_pos cp]
    refine ev_gg (by decide) ?_
    refine ev_ite (fun _ => ?_) (fun z => absurd (by decide) z)
    have p76 : ∀ (v k : Nat) (S4 : GS), k + v = 6 → (∀ j, j < k → ¬ (nk U v1 = 3 ∧ nt U v1 = sx (opsX j))) → FC oiP S S4 → LK S4 K U → Ev (fun n => f_X12_opOf n d 76 S4 [(K : Int), (c : Int), (v1 : Int), (k : Int)]) (fun x S1 => x = opN U c ∧ FC oiP S S1) := by
      intro v
      induction v with
      | zero =>
        intro k S4 hk nm f4 h4
        refine ev_up (fun n => e_X12_opOf_76) ?_
        unfold b_X12_opOf_76
        refine ev_gg (by first | omega | (constructor <;> omega)) ?_
        refine ev_ite (fun _ => ?_) (fun z => by omega)
        refine ev_ret ⟨?_, f4⟩
        unfold opN
        rw [ev1', ev2']
        split
        · rename_i w
          rw [kdI_n vl1] at w
          rw [tI_n vl1, opK_no (fun j hj e => nm j (by omega) ⟨w.2.1, e⟩)]
        · rfl
      | succ v ih =>
        intro k S4 hk nm f4 h4
        have ko := lw_ops k (by omega)
        refine ev_up (fun n => e_X12_opOf_76) ?_
        unfold b_X12_opOf_76
        refine ev_gg (by first | omega | (constructor <;> omega)) ?_
        refine ev_ite (fun z => by omega) (fun _ => ?_)
        refine ev_gg (by first | omega | (constructor <;> omega)) ?_
        refine ev_gv ?_
        rw [Int.toNat_natCast]
        refine ev_gg (by first | omega | (constructor <;> omega)) ?_
        refine ev_gc (q_isText (d := d - 1) (by omega) ko.2 rfl hK rfl h4 vl1) (fun y S5 q5 => ?_)
        obtain ⟨ye, _, f5⟩ := q5
        rw [ko.1] at ye
        have h5' := lk_fr h4 f5 (fun j _ _ => by omega) (by omega)
        have f05 : FC oiP S S5 := fc_tr f4 (fc_mono f5 (fun c j z => Or.inr z))
        by_cases cm : nk U v1 = 3 ∧ nt U v1 = sx (opsX k)
        · rw [if_pos cm] at ye
          subst ye
          refine ev_gg (by decide) ?_
          refine ev_ite (fun z => by omega) (fun _ => ?_)
          refine ev_gc (q_isTold (d := d - 1) (k := k) (by omega) (by omega) hK h5' hU hc h5) (fun y S6 q6 => ?_)
          obtain ⟨ye, f6⟩ := q6
          have f06 : FC oiP S S6 := fc_tr f05 f6
          have eo : opK (tI U (v1 : Int)) = (k : Int) := by rw [tI_n vl1, cm.2, opK_at k (by omega)]
          by_cases ct : tlQ U c (k : Int)
          · rw [if_pos ct] at ye
            subst ye
            refine ev_gg (by decide) ?_
            refine ev_ite (fun z => by omega) (fun _ => ?_)
            refine ev_ret ⟨?_, f06⟩
            unfold opN
            rw [ev1', ev2', eo, kdI_n vl1, kdI_n vl2, if_pos ⟨⟨h5, k3, cp⟩, cm.1, ct⟩]
          · rw [if_neg ct] at ye
            subst ye
            refine ev_gg (by decide) ?_
            refine ev_ite (fun _ => ?_) (fun z => by omega)
            exact no S6 f06 (fun w => ct (by have := w.2.2; rw [eo] at this; exact this))
        · rw [if_neg cm] at ye
          subst ye
          refine ev_gg (by decide) ?_
          refine ev_ite (fun _ => ?_) (fun z => by omega)
          refine ev_gv ?_
          rw [show (k : Int) + 1 = ((k + 1 : Nat) : Int) by omega]
          refine ih (k + 1) S5 (by omega) (fun j hj => ?_) f05 h5'
          by_cases e : j = k
          · rw [e]; exact cm
          · exact nm j (by omega)
    exact p76 6 0 S3 (by omega) (fun j hj => by omega) f03 h3
  · rw [if_neg cp]
    refine ev_gg (by decide) ?_
    refine ev_ite (fun z => by omega) (fun _ => ?_)
    exact no S3 f03 (fun w => cp w.1.2.2)
end ROO
