/-! the Editor of the class: PATCHES are laid -/
section ED8
variable {S S0 : GS} {c2 d : Nat} {l : List Int} {V U : List ND} {tn : Bool} {bk : Option (List (List ND))}
theorem puR_f {l : List Int} {V : List ND} : puR false bk l V = bk := by
  unfold puR putR
  split <;> rfl
theorem ed_putL {c3 j : Nat} {U : List ND} (hd : 25 ≤ d) (h : TR V ∧ PZL V) (hp : isP l) (hl : rng l) (hll : l.length ≤ 40) (hr : RoS 483 l S) (hE : EdV tn V bk S) (hc2 : gT c3) (hne : c3 ≠ 360 ∧ c3 ≠ 376 ∧ c3 ≠ 384) (hu : TO c3 (U, false) S) (hU : WF U) (hj : j < U.length) : Ev (fun n => f_X1_putIn n d 0 S [((483 : Nat) : Int), ((c3 : Nat) : Int), (j : Int)]) (LoQ tn (puR tn bk l V) (lyP l V (sg U j)) S) := by
  have hzU : PZL U := nr_pzl hu.1.2.2.2
  have tt := tr_sg hU hzU hj
  refine ev_mono (ed_put (d := d) gRo483 hd h hp hl hr (ev_eds hE) (fun _ => by omega) hc2 hne hu hU hj) (fun x S1 q => ?_)
  unfold PutQ at q
  unfold LoQ lyP puR
  cases hz : aimS l V with
  | none =>
    rw [hz] at q
    exact ⟨q.1, fr_mono q.2.1 (fun _ z => edP_L z), q.2.2⟩
  | some z =>
    rw [hz] at q
    have q' : if pOK (putT l V z (sg U j)) then x = 1 ∧ EdS tn (putT l V z (sg U j)) (putR tn bk l V z) S S1 else x = 0 ∧ Fr edP S S1 ∧ Good S1 := q
    by_cases c : pOK (putT l V z (sg U j))
    · rw [if_pos c] at q'
      simp only [if_pos c]
      exact ⟨⟨q'.1, putT_tr h hz tt, Or.inl ⟨c.1, eds_ev q'.2⟩⟩, fr_mono q'.2.2.2.2.1 (fun _ z => edP_L z), q'.2.2.2.2.2⟩
    · rw [if_neg c] at q'
      simp only [if_neg c]
      exact ⟨q'.1, fr_mono q'.2.1 (fun _ z => edP_L z), q'.2.2⟩
/-- cutting out, on the editor's own Route -/
theorem ed_cutL (hd : 20 ≤ d) (h : TR V ∧ PZL V) (hp : isP l) (hl : rng l) (hr : RoS 483 l S) (hE : EdV tn V bk S) : Ev (fun n => f_X1_cutOut n d 0 S [((483 : Nat) : Int)]) (fun x S1 => LoQ tn (if tn then recS bk 26 l [sg V (ldT l V (nW l)).toNat] else bk) (lyC l V) S x S1 ∧ (∀ k, (k < 360 ∨ (368 ≤ k ∧ k < 376)) → S1.1 k = S.1 k ∧ S1.2.1 k = S.2.1 k)) := by
  have pz := pz_l h.2
  have lV : V.length ≤ 100 := tv_l hE.1.1
  have no : nOK V (ldT l V (nW l)) := ldF_r h.1.1 pz _ _ _ (Or.inr (by have := h.1.2.1; omega))
  refine ev_mono (ed_cut (d := d) gRo483 hd h hp hl hr (ev_eds hE)) (fun x S1 q => ⟨?_, q.2⟩)
  have q1 := q.1
  unfold CutQ at q1
  unfold LoQ lyC
  by_cases c : ldT l V (nW l) = -1 ∨ nW l = 0
  · rw [if_pos c] at q1
    simp only [if_pos c]
    exact ⟨q1.1, fr_mono q1.2.1 (fun _ z => edP_L z), q1.2.2⟩
  · rw [if_neg c] at q1
    simp only [if_neg c]
    have pos := ldT_pos h.1.1 pz h.1.2.1 (fun z => c (Or.inr z))
    have c1 : ldT l V (nW l) ≠ -1 := fun z => c (Or.inl z)
    have il : (ldT l V (nW l)).toNat < V.length := by rcases no with z | z; exact absurd z c1; omega
    have i1 : 1 ≤ (ldT l V (nW l)).toNat := by omega
    obtain ⟨o, p, e1, -⟩ := cut_parts h i1 il
    have cs := cut_spl h i1 il e1
    have zz := pz (ldT l V (nW l)).toNat
    refine ⟨⟨q1.1, cs.2.1, Or.inl ⟨by omega, ?_⟩⟩, fr_mono q1.2.2.2.2.1 (fun _ z => edP_L z), q1.2.2.2.2.2⟩
    have := eds_ev q1.2
    unfold cutR at this
    exact this
theorem vLk_lt {U : List ND} (hw : WF U) (hz : PZ U) {i : Int} {k : List Int} (h : vLk U i k ≠ -1) : 0 ≤ vLk U i k ∧ vLk U i k < (U.length : Int) := by
  rcases vLk_r hw hz i k with z | z
  · exact absurd z h
  · exact z
/-- one ORDER -/
theorem ed_layOne {c : Nat} (hd : 50 ≤ d) (hc2 : gT c2) (hn : c2 < 320) (h : TR V ∧ PZL V) (hE : EdV tn V bk S) (hu : TO c2 (U, false) S) (hU : WF U) (hc : c < U.length) : Ev (fun n => f_X1_layOne n d 0 S [((c2 : Nat) : Int), (c : Int)]) (LoQ tn (if tn then lyR U c V bk else bk) (lyS U c V) S) := by
  have hzU : PZL U := nr_pzl hu.1.2.2.2
  have zU := pz_l hzU
  have lU : U.length ≤ 100 := tv_l hu.1
  have lV : V.length ≤ 100 := tv_l hE.1.1
  have named : ∀ (t : Nat), t < 54 → Rd (fun n => f_X10_valueNamed n (d - 1) 0 S [((c2 : Nat) : Int), (c : Int), ((t : Nat) : Int)]) (vLk U (c : Int) (sx t)) S := fun t ht => t_valueNamed (d := d - 1) (g := (c : Int)) hc2 hu.1 hU (by constructor <;> omega) (by omega) ht
  have rng_v : ∀ k, inr (vLk U (c : Int) k) := fun k => by rcases vLk_r hU zU (c : Int) k with z | z <;> constructor <;> omega
  refine ev_up (fun n => e_X1_layOne_0) ?_
  unfold b_X1_layOne_0
  refine ev_gg (by omega) ?_
  refine ev_gg hc2 ?_
  refine ev_gcr (named 22 (by decide)) ?_
  refine ev_gcr (named 23 (by decide)) ?_
  refine ev_gcr (named 27 (by decide)) ?_
  refine ev_gcr (named 24 (by decide)) ?_
  have e22 : vLk U (c : Int) (sx 22) = opI U c := rfl
  have e23 : vLk U (c : Int) (sx 23) = wyI U c := rfl
  have e27 : vLk U (c : Int) (sx 27) = frI U c := rfl
  have e24 : vLk U (c : Int) (sx 24) = vaI U c := rfl
  have r22 := rng_v (sx 22)
  have r23 := rng_v (sx 23)
  have r27 := rng_v (sx 27)
  have r24 := rng_v (sx 24)
  have vlt := vLk_lt (U := U) (i := (c : Int)) (k := sx 24) hU zU
  rw [e22] at r22 ⊢
  rw [e23] at r23 ⊢
  rw [e27] at r27 ⊢
  rw [e24] at r24 vlt ⊢
  have is3 : isI U (opI U c) 3 = if kdI U (opI U c) = 3 then 1 else 0 := by
    unfold isI kdI
    by_cases q : 0 ≤ opI U c ∧ opI U c < (U.length : Int)
    · rw [if_pos q]
      by_cases q2 : nk U (opI U c).toNat = 3
      · rw [if_pos ⟨q, q2⟩, if_pos q2]
      · rw [if_neg (fun z => q2 z.2), if_neg q2]
    · rw [if_neg (fun z => q z.1), if_neg q, if_neg (by decide)]
  refine ev_gcr (rd_as (t_is (d := d - 1) (i := opI U c) (k := 3) hc2 hu.1 r22 (by decide)) is3) ?_
  by_cases c3 : kdI U (opI U c) = 3
  case neg =>
    have e0 : lyS U c V = none := if_pos (Or.inl c3)
    rw [if_neg c3, e0]
    refine ev_gg (by decide) ?_
    refine ev_ite (fun _ => ?_) (fun z => absurd (by decide) z)
    exact ev_ret ⟨rfl, fr_rf, hE.2.2.2⟩
  rw [if_pos c3]
  refine ev_gg (by decide) ?_
  refine ev_ite (fun z => absurd z (by decide)) (fun _ => ?_)
  refine ev_gc (ed_text (d := d - 1) (i := wyI U c) (by omega) hc2 hn hE hu r23) (fun x S1 q1 => ?_)
  obtain ⟨q1, E1, u1, -, m1⟩ := q1
  have tw := tI_rng hu.1 (wyI U c)
  have tf := tI_rng hu.1 (frI U c)
  rcases q1 with ⟨p1, rfl, r1⟩ | ⟨p1, rfl⟩
  case inr =>
    have e0 : lyS U c V = none := if_pos (Or.inr p1)
    rw [e0]
    refine ev_gg (by decide) ?_
    refine ev_ite (fun z => absurd rfl z) (fun _ => ?_)
    exact ev_ret ⟨rfl, m1, E1.2.2.2⟩
  refine ev_gg (by decide) ?_
  refine ev_ite (fun _ => ?_) (fun z => absurd (by decide) z)
  have e1 : lyS U c V = if tI U (opI U c) = sx 25 then lyC (tI U (wyI U c)) V
    else if tI U (opI U c) = sx 28 then (if hdOK U V c then (match lyC (tI U (frI U c)) V with
      | none => none
      | some V1 => lyP (tI U (wyI U c)) V1 (hdT U V c)) else none)
    else if tI U (opI U c) = sx 29 then (if hdOK U V c then lyP (tI U (wyI U c)) V (hdT U V c) else none)
    else if vaI U c = -1 then none
    else if tI U (opI U c) = sx 26 then lyP (tI U (wyI U c)) V (sg U (vaI U c).toNat)
    else if tI U (opI U c) = sx 21 then (if ldT (tI U (wyI U c)) V (nW (tI U (wyI U c))) = -1 then none else some (updF (fun t => kyT (sg U (vaI U c).toNat) (rq t)) V.length V (ldT (tI U (wyI U c)) V (nW (tI U (wyI U c)))).toNat))
    else if tI U (opI U c) = sx 30 then (if ldT (tI U (wyI U c)) V (nW (tI U (wyI U c))) = -1 then none else if smJ 13 V (ldT (tI U (wyI U c)) V (nW (tI U (wyI U c)))).toNat U (vaI U c) then some V else none)
    else none := if_neg (fun z => z.elim (fun y => y c3) (fun y => y p1))
  rw [e1]
  unfold lyR
  have says : ∀ {S' : GS} (t : Nat), t < 54 → TO c2 (U, false) S' → Rd (fun n => f_X10_says n (d - 1) 0 S' [((c2 : Nat) : Int), opI U c, ((t : Nat) : Int)]) (if tI U (opI U c) = sx t then 1 else 0) S' := fun t ht hu' => by
    refine rd_as (t_says (d := d - 1) hc2 ht (by omega) hu'.1 r22) ?_
    by_cases q : tI U (opI U c) = sx t
    · rw [if_pos ⟨c3, q⟩, if_pos q]
    · rw [if_neg (fun z => q z.2), if_neg q]
  -- what is answered is told on
  have since : ∀ {x : Int} {S2 S3 : GS} {b' : Option (List (List ND))} {r : Option (List ND)}, Fr edL S S2 → LoQ tn b' r S2 x S3 → LoQ tn b' r S x S3 := fun m q => ⟨q.1, fr_tr m q.2.1, q.2.2⟩
  have ans : ∀ {m : Nat → Option (Int × GS)} {b' : Option (List (List ND))} {r : Option (List ND)} {S2 : GS}, Fr edL S S2 → Ev m (LoQ tn b' r S2) → Ev (fun n => gc (m n) fun x S_106 => gg (x = 0 ∨ x = 1) <| some (x, S_106)) (LoQ tn b' r S) := by
    intro m b' r S2 m2 hm
    refine ev_gc hm (fun x S3 q3 => ?_)
    have hx : x = 0 ∨ x = 1 := by
      have := q3.1
      cases r with
      | none => exact Or.inl this
      | some T => exact Or.inr this.1
    refine ev_gg hx ?_
    exact ev_ret (since m2 q3)
  have ans2 : ∀ {m : Nat → Option (Int × GS)} {b' : Option (List (List ND))} {r : Option (List ND)} {S2 : GS}, Fr edL S S2 → Ev m (LoQ tn b' r S2) → Ev (fun n => gc (m n) fun x S_106 => gg (inr x) <| if x = 0 then some (0, S_106) else some (1, S_106)) (LoQ tn b' r S) := by
    intro m b' r S2 m2 hm
    refine ev_gc hm (fun x S3 q3 => ?_)
    have hx : x = 0 ∨ x = 1 := by
      have := q3.1
      cases r with
      | none => exact Or.inl this
      | some T => exact Or.inr this.1
    refine ev_gg (by rcases hx with z | z <;> rw [z] <;> decide) ?_
    rcases hx with z | z
    · subst z
      refine ev_ite (fun _ => ?_) (fun y => absurd rfl y)
      exact ev_ret (since m2 q3)
    · subst z
      refine ev_ite (fun y => absurd y (by decide)) (fun _ => ?_)
      exact ev_ret (since m2 q3)
  -- remove
  refine ev_gcr (says 25 (by decide) u1) ?_
  by_cases k25 : tI U (opI U c) = sx 25
  · simp only [if_pos k25]
    refine ev_gg (by decide) ?_
    refine ev_ite (fun z => absurd z (by decide)) (fun _ => ?_)
    exact ans m1 (ev_mono (ed_cutL (d := d - 1) (by omega) h p1.2 tw.1 r1 E1) (fun _ _ q => q.1))
  simp only [if_neg k25]
  refine ev_gg (by decide) ?_
  refine ev_ite (fun _ => ?_) (fun z => absurd (by decide) z)
  -- held
  have hold := ed_hold (d := d - 1) (i := frI U c) (by omega) hc2 hn h E1 u1 r27
  have hsg : ∀ {T : List ND}, TR T → sg T 0 = T := fun h => sg_self h
  -- PUT of what is held
  have putH : ∀ {V1 : List ND} {bk1 : Option (List (List ND))} {S2 : GS}, Fr edL S S2 → (TR V1 ∧ PZL V1) → EdV tn V1 bk1 S2 → TO c2 (U, false) S2 → TO 368 (hdT U V c, false) S2 → (TR (hdT U V c) ∧ PZL (hdT U V c)) → Ev (fun n => gc (f_X7_loadText n (d - 1) 0 S2 [((483 : Nat) : Int), ((c2 : Nat) : Int), wyI U c]) fun x75 S_76 => gg (inr x75) <| if x75 = 0 then some (0, S_76) else (gc (f_X1_putIn n (d - 1) 0 S_76 [((483 : Nat) : Int), ((368 : Nat) : Int), 0]) fun x80 S_81 => gg (inr x80) <| if x80 = 0 then some (0, S_81) else some (1, S_81))) (LoQ tn (puR tn bk1 (tI U (wyI U c)) V1) (lyP (tI U (wyI U c)) V1 (hdT U V c)) S) := by
    intro V1 bk1 S2 m2 hV1 E2 u2 t2 ht2
    refine ev_gc (ed_text (d := d - 1) (i := wyI U c) (by omega) hc2 hn E2 u2 r23) (fun x S3 q3 => ?_)
    obtain ⟨q3, E3, u3, l3, m3⟩ := q3
    rcases q3 with ⟨p3, rfl, r3⟩ | ⟨p3, rfl⟩
    · refine ev_gg (by decide) ?_
      refine ev_ite (fun z => absurd z (by decide)) (fun _ => ?_)
      have pl := ed_putL (d := d - 1) (c3 := 368) (j := 0) (by omega) hV1 p3.2 tw.1 tw.2 r3 E3 gT368 (by decide) (l3 _ t2) ht2.1.1 ht2.1.2.1
      rw [hsg ht2.1] at pl
      exact ans2 (fr_tr m2 m3) pl
    · exact absurd p1 p3
  refine ev_gcr (says 28 (by decide) u1) ?_
  by_cases k28 : tI U (opI U c) = sx 28
  · simp only [if_pos k28]
    refine ev_gg (by decide) ?_
    refine ev_ite (fun z => absurd z (by decide)) (fun _ => ?_)
    refine ev_gc hold (fun x S2 q2 => ?_)
    obtain ⟨q2, E2, u2, m2⟩ := q2
    rcases q2 with ⟨p2, rfl, r2, t2⟩ | ⟨p2, rfl⟩
    · refine ev_gg (by decide) ?_
      refine ev_ite (fun z => absurd z (by decide)) (fun _ => ?_)
      rw [if_pos (show hdOK U V c from p2)]
      have nin : (ldT (tI U (frI U c)) V (nW (tI U (frI U c)))).toNat < V.length := by
        have no : nOK V (ldT (tI U (frI U c)) V (nW (tI U (frI U c)))) := ldF_r h.1.1 (pz_l h.2) _ _ _ (Or.inr (by have := h.1.2.1; omega))
        rcases no with z | z
        · exact absurd z p2.2
        · omega
      have tsg := tr_sg h.1.1 h.2 nin
      have ht2 : TR (hdT U V c) ∧ PZL (hdT U V c) := ⟨tr_ky tsg.1, pzl_ky tsg.1.2.1 tsg.2⟩
      refine ev_gc (ed_cutL (d := d - 1) (by omega) h p2.1.2 tf.1 r2 E2) (fun x S3 q3 => ?_)
      obtain ⟨q3, low⟩ := q3
      have u3 := low_to hc2 (Or.inl hn) u2 low
      have t3 := low_to gT368 (Or.inr rfl) t2 low
      have m3 := q3.2.1
      have q31 := q3.1
      cases hC : lyC (tI U (frI U c)) V with
      | none =>
        rw [hC] at q31
        have q31' : x = 0 := q31
        subst q31'
        refine ev_gg (by decide) ?_
        refine ev_ite (fun _ => ?_) (fun z => absurd (by decide) z)
        exact ev_ret ⟨rfl, fr_tr m1 (fr_tr m2 m3), q3.2.2⟩
      | some V1 =>
        rw [hC] at q31
        obtain ⟨hx, hV1, q32⟩ := q31
        subst hx
        refine ev_gg (by decide) ?_
        refine ev_ite (fun z => absurd z (by decide)) (fun _ => ?_)
        have eV1 : V1 = cutT V (ldT (tI U (frI U c)) V (nW (tI U (frI U c)))).toNat := by
          unfold lyC at hC
          split at hC
          · cases hC
          · exact (Option.some.inj hC).symm
        have l1 : V1.length ≤ 100 := by
          have pos := ldT_pos h.1.1 (pz_l h.2) h.1.2.1 (fun z => by
            unfold lyC at hC
            rw [if_pos (Or.inr z)] at hC
            cases hC)
          have i1 : 1 ≤ (ldT (tI U (frI U c)) V (nW (tI U (frI U c)))).toNat := by have := p2.2; omega
          obtain ⟨o, p, e1', -⟩ := cut_parts h i1 nin
          have cs := (cut_spl h i1 nin e1').2.2
          rw [eV1]
          omega
        rcases q32 with ⟨_, E3⟩ | ⟨z, _⟩
        · have k := putH (fr_tr m1 (fr_tr m2 m3)) hV1 E3 u3 t3 ht2
          rw [eV1] at k ⊢
          have eb : puR tn (if tn then recS bk 26 (tI U (frI U c)) [sg V (ldT (tI U (frI U c)) V (nW (tI U (frI U c)))).toNat] else bk) (tI U (wyI U c)) (cutT V (ldT (tI U (frI U c)) V (nW (tI U (frI U c)))).toNat) = if tn then puR true (recS bk 26 (tI U (frI U c)) [sg V (ldT (tI U (frI U c)) V (nW (tI U (frI U c)))).toNat]) (tI U (wyI U c)) (cutT V (ldT (tI U (frI U c)) V (nW (tI U (frI U c)))).toNat) else bk := by
            cases tn with
            | true => rfl
            | false => exact puR_f
          rw [eb] at k
          exact k
        · exact absurd l1 z
    · refine ev_gg (by decide) ?_
      refine ev_ite (fun _ => ?_) (fun z => absurd (by decide) z)
      rw [if_neg (show ¬ hdOK U V c from p2)]
      exact ev_ret ⟨rfl, fr_tr m1 m2, E2.2.2.2⟩
  simp only [if_neg k28]
  refine ev_gg (by decide) ?_
  refine ev_ite (fun _ => ?_) (fun z => absurd (by decide) z)
  refine ev_gcr (says 29 (by decide) u1) ?_
  by_cases k29 : tI U (opI U c) = sx 29
  · simp only [if_pos k29, if_pos (Or.inl k29 : tI U (opI U c) = sx 29 ∨ tI U (opI U c) = sx 26)]
    refine ev_gg (by decide) ?_
    refine ev_ite (fun z => absurd z (by decide)) (fun _ => ?_)
    refine ev_gc hold (fun x S2 q2 => ?_)
    obtain ⟨q2, E2, u2, m2⟩ := q2
    rcases q2 with ⟨p2, rfl, r2, t2⟩ | ⟨p2, rfl⟩
    · refine ev_gg (by decide) ?_
      refine ev_ite (fun z => absurd z (by decide)) (fun _ => ?_)
      rw [if_pos (show hdOK U V c from p2)]
      have nin : (ldT (tI U (frI U c)) V (nW (tI U (frI U c)))).toNat < V.length := by
        have no : nOK V (ldT (tI U (frI U c)) V (nW (tI U (frI U c)))) := ldF_r h.1.1 (pz_l h.2) _ _ _ (Or.inr (by have := h.1.2.1; omega))
        rcases no with z | z
        · exact absurd z p2.2
        · omega
      have tsg := tr_sg h.1.1 h.2 nin
      have ht2 : TR (hdT U V c) ∧ PZL (hdT U V c) := ⟨tr_ky tsg.1, pzl_ky tsg.1.2.1 tsg.2⟩
      have k := putH (fr_tr m1 m2) h E2 u2 t2 ht2
      have eb : puR tn bk (tI U (wyI U c)) V = if tn then puR true bk (tI U (wyI U c)) V else bk := by
        cases tn with
        | true => rfl
        | false => exact puR_f
      rw [eb] at k
      exact k
    · refine ev_gg (by decide) ?_
      refine ev_ite (fun _ => ?_) (fun z => absurd (by decide) z)
      rw [if_neg (show ¬ hdOK U V c from p2)]
      exact ev_ret ⟨rfl, fr_tr m1 m2, E2.2.2.2⟩
  simp only [if_neg k29]
  refine ev_gg (by decide) ?_
  refine ev_ite (fun _ => ?_) (fun z => absurd (by decide) z)
  refine ev_gg r24 ?_
  by_cases kv : vaI U c = -1
  · simp only [if_pos kv]
    refine ev_ite (fun z => absurd kv z) (fun _ => ?_)
    exact ev_ret ⟨rfl, m1, E1.2.2.2⟩
  simp only [if_neg kv]
  refine ev_ite (fun _ => ?_) (fun z => absurd (fun w => kv w) z)
  have vl := vlt kv
  obtain ⟨v, hv⟩ : ∃ v : Nat, vaI U c = (v : Int) := ⟨(vaI U c).toNat, by omega⟩
  have vin : v < U.length := by omega
  rw [hv, Int.toNat_natCast]
  refine ev_gcr (says 26 (by decide) u1) ?_
  by_cases k26 : tI U (opI U c) = sx 26
  · simp only [if_pos k26, if_pos (Or.inr k26 : tI U (opI U c) = sx 29 ∨ tI U (opI U c) = sx 26)]
    refine ev_gg (by decide) ?_
    refine ev_ite (fun z => absurd z (by decide)) (fun _ => ?_)
    have pl := ed_putL (d := d - 1) (c3 := c2) (j := v) (by omega) h p1.2 tw.1 tw.2 r1 E1 hc2 (by omega) u1 hU vin
    have eb : puR tn bk (tI U (wyI U c)) V = if tn then puR true bk (tI U (wyI U c)) V else bk := by
      cases tn with
      | true => rfl
      | false => exact puR_f
    rw [eb] at pl
    exact ans m1 pl
  have n29 : ¬ (tI U (opI U c) = sx 29 ∨ tI U (opI U c) = sx 26) := fun z => z.elim k29 k26
  simp only [if_neg k26, if_neg n29]
  refine ev_gg (by decide) ?_
  refine ev_ite (fun _ => ?_) (fun z => absurd (by decide) z)
  refine ev_gcr (says 21 (by decide) u1) ?_
  by_cases k21 : tI U (opI U c) = sx 21
  · simp only [if_pos k21]
    refine ev_gg (by decide) ?_
    refine ev_ite (fun z => absurd z (by decide)) (fun _ => ?_)
    exact ans m1 (ed_exch (d := d - 1) (by omega) hc2 hn h p1.2 tw.1 r1 E1 u1 hU vin)
  simp only [if_neg k21]
  refine ev_gg (by decide) ?_
  refine ev_ite (fun _ => ?_) (fun z => absurd (by decide) z)
  refine ev_gcr (says 30 (by decide) u1) ?_
  by_cases k30 : tI U (opI U c) = sx 30
  · simp only [if_pos k30]
    refine ev_gg (by decide) ?_
    refine ev_ite (fun z => absurd z (by decide)) (fun _ => ?_)
    exact ans2 m1 (ed_there (d := d - 1) (by omega) hc2 hn h p1.2 tw.1 r1 E1 u1 hU vin)
  · simp only [if_neg k30]
    refine ev_gg (by decide) ?_
    refine ev_ite (fun _ => ?_) (fun z => absurd (by decide) z)
    exact ev_ret ⟨rfl, m1, E1.2.2.2⟩
end ED8
