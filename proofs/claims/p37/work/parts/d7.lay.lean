/-! the Editor of the class: ORDERS are laid -/
def opI (U : List ND) (c : Nat) : Int := vLk U (c : Int) (sx 22)
def wyI (U : List ND) (c : Nat) : Int := vLk U (c : Int) (sx 23)
def frI (U : List ND) (c : Nat) : Int := vLk U (c : Int) (sx 27)
def vaI (U : List ND) (c : Nat) : Int := vLk U (c : Int) (sx 24)
/-- PUT, if it leaves a DOCUMENT -/
def lyP (l : List Int) (V t : List ND) : Option (List ND) := match aimS l V with
  | none => none
  | some z => if pOK (putT l V z t) then some (putT l V z t) else none
def lyC (l : List Int) (V : List ND) : Option (List ND) := if ldT l V (nW l) = -1 ∨ nW l = 0 then none else some (cutT V (ldT l V (nW l)).toNat)
abbrev hdOK (U V : List ND) (c : Nat) : Prop := (kdI U (frI U c) = 3 ∧ isP (tI U (frI U c))) ∧ ldT (tI U (frI U c)) V (nW (tI U (frI U c))) ≠ -1
/-- a copy of what is held -/
def hdT (U V : List ND) (c : Nat) : List ND := kyT (sg V (ldT (tI U (frI U c)) V (nW (tI U (frI U c)))).toNat) []
/-- an ORDER laid -/
def lyS (U : List ND) (c : Nat) (V : List ND) : Option (List ND) :=
  if kdI U (opI U c) ≠ 3 ∨ ¬ (kdI U (wyI U c) = 3 ∧ isP (tI U (wyI U c))) then none
  else if tI U (opI U c) = sx 25 then lyC (tI U (wyI U c)) V
  else if tI U (opI U c) = sx 28 then (if hdOK U V c then (match lyC (tI U (frI U c)) V with
    | none => none
    | some V1 => lyP (tI U (wyI U c)) V1 (hdT U V c)) else none)
  else if tI U (opI U c) = sx 29 then (if hdOK U V c then lyP (tI U (wyI U c)) V (hdT U V c) else none)
  else if vaI U c = -1 then none
  else if tI U (opI U c) = sx 26 then lyP (tI U (wyI U c)) V (sg U (vaI U c).toNat)
  else if tI U (opI U c) = sx 21 then (if ldT (tI U (wyI U c)) V (nW (tI U (wyI U c))) = -1 then none else some (updF (fun t => kyT (sg U (vaI U c).toNat) (rq t)) V.length V (ldT (tI U (wyI U c)) V (nW (tI U (wyI U c)))).toNat))
  else if tI U (opI U c) = sx 30 then (if ldT (tI U (wyI U c)) V (nW (tI U (wyI U c))) = -1 then none else if smJ 13 V (ldT (tI U (wyI U c)) V (nW (tI U (wyI U c)))).toNat U (vaI U c) then some V else none)
  else none
def puR (tn : Bool) (bk : Option (List (List ND))) (l : List Int) (V : List ND) : Option (List (List ND)) := match aimS l V with
  | none => bk
  | some z => putR tn bk l V z
/-- its way back -/
def lyR (U : List ND) (c : Nat) (V : List ND) (bk : Option (List (List ND))) : Option (List (List ND)) :=
  if tI U (opI U c) = sx 25 then recS bk 26 (tI U (wyI U c)) [sg V (ldT (tI U (wyI U c)) V (nW (tI U (wyI U c)))).toNat]
  else if tI U (opI U c) = sx 28 then puR true (recS bk 26 (tI U (frI U c)) [sg V (ldT (tI U (frI U c)) V (nW (tI U (frI U c)))).toNat]) (tI U (wyI U c)) (cutT V (ldT (tI U (frI U c)) V (nW (tI U (frI U c)))).toNat)
  else if tI U (opI U c) = sx 29 ∨ tI U (opI U c) = sx 26 then puR true bk (tI U (wyI U c)) V
  else if tI U (opI U c) = sx 21 then recS bk 21 (tI U (wyI U c)) [sg V (ldT (tI U (wyI U c)) V (nW (tI U (wyI U c)))).toNat]
  else recS bk 30 (tI U (wyI U c)) [sg U (vaI U c).toNat]
def EdV (tn : Bool) (V : List ND) (bk : Option (List (List ND))) (S : GS) : Prop := TO 360 (V, false) S ∧ S.2.1 482 7 = tn ∧ BkR bk S ∧ Good S
abbrev edL : Nat → Prop := fun k => (360 ≤ k ∧ k < 392) ∨ k = 438 ∨ k = 439 ∨ (448 ≤ k ∧ k < 456) ∨ k = 482 ∨ k = 483 ∨ k = 484
theorem edP_L {k : Nat} (h : edP k) : edL k := by unfold edP trM at h; unfold edL; omega
section ED7
variable {S S0 : GS} {c2 d : Nat} {l : List Int} {V U : List ND} {tn : Bool} {bk : Option (List (List ND))}
theorem ev_eds (h : EdV tn V bk S) : EdS tn V bk S S := ⟨h.1, h.2.1, h.2.2.1, fr_rf, h.2.2.2⟩
theorem eds_ev (h : EdS tn V bk S0 S) : EdV tn V bk S := ⟨h.1, h.2.1, h.2.2.1, h.2.2.2.2⟩
theorem edv_fr {S1 : GS} {M : Nat → Prop} (h : EdV tn V bk S) (hf : Fr M S S1) (h1 : ∀ k, 360 ≤ k → k < 392 → k < 368 ∨ 384 ≤ k → ¬ M k) (h2 : ¬ M 482) (hG : Good S1) : EdV tn V bk S1 := ⟨to_fr h.1 hf (fun k a b => h1 k (by omega) (by omega) (by omega)), by rw [(hf _ h2).2.1]; exact h.2.1, bk_fr h.2.2.1 hf (fun k a b => h1 k (by omega) (by omega) (by omega)), hG⟩
/-- what an ORDER comes to, ahead of asking whether it is a DOCUMENT -/
def LoQ (tn : Bool) (bk : Option (List (List ND))) (r : Option (List ND)) (S : GS) (x : Int) (S1 : GS) : Prop := (match r with
  | none => x = 0
  | some T => x = 1 ∧ (TR T ∧ PZL T) ∧ ((T.length ≤ 100 ∧ EdV tn T bk S1) ∨ (¬ T.length ≤ 100 ∧ ∃ V', TO 360 (V', true) S1))) ∧ Fr edL S S1 ∧ Good S1
theorem gRo483 : gRo 483 := Or.inr rfl
theorem rlM_L : ∀ k, rlM 483 k → edL k := fun k h => by
  unfold rlM roM shM at h
  rw [show rS 483 = 448 from rfl] at h
  unfold edL
  omega
theorem low_to {c2 : Nat} {W : TW} {S S1 : GS} (hc : gT c2) (hn : c2 < 320 ∨ c2 = 368) (h : TO c2 W S) (hl : ∀ k, (k < 360 ∨ (368 ≤ k ∧ k < 376)) → S1.1 k = S.1 k ∧ S1.2.1 k = S.2.1 k) : TO c2 W S1 := by
  refine ⟨?_, by rw [(hl c2 (by omega)).2]; exact h.2⟩
  obtain ⟨e1, e2, e3, e4⟩ := h.1
  have f : ∀ j, j < 8 → S1.1 (c2 + j) = S.1 (c2 + j) := fun j hj => (hl _ (by omega)).1
  refine ⟨by rw [show S1.1 c2 = S.1 c2 from f 0 (by omega)]; exact e1, e2, fun i hi => ?_, e4⟩
  obtain ⟨n1, n2, n3, n4, n5, n6, n7⟩ := e3 i hi
  unfold NV
  rw [f 1 (by omega), f 2 (by omega), f 3 (by omega), f 4 (by omega), f 5 (by omega), f 6 (by omega), f 7 (by omega)]
  exact ⟨n1, n2, n3, n4, n5, n6, n7⟩
theorem tI_rng {U : List ND} (h : TV S c2 U) (i : Int) : rng (tI U i) ∧ (tI U i).length ≤ 40 := ⟨(tI_r h i).2, (tI_r h i).1⟩
/-- a TEXT is loaded as a PATH -/
theorem ed_text {i : Int} (hd : 3 ≤ d) (hc2 : gT c2) (hn : c2 < 320) (hE : EdV tn V bk S) (hu : TO c2 (U, false) S) (hi : inr i) : Ev (fun n => f_X7_loadText n d 0 S [((483 : Nat) : Int), ((c2 : Nat) : Int), i]) (fun x S1 => (((kdI U i = 3 ∧ isP (tI U i)) ∧ x = 1 ∧ RoS 483 (tI U i) S1) ∨ (¬ (kdI U i = 3 ∧ isP (tI U i)) ∧ x = 0)) ∧ EdV tn V bk S1 ∧ TO c2 (U, false) S1 ∧ (∀ W, TO 368 W S → TO 368 W S1) ∧ Fr edL S S1) := by
  refine ev_mono (ro_loadText (d := d) gRo483 hc2 hd hu.1 hE.2.2.2 hi) (fun x S1 q => ?_)
  obtain ⟨q1, q2, q3⟩ := q
  have nm : ∀ k, rlM 483 k → k = 483 ∨ k = 484 ∨ k = 448 ∨ k = 449 := fun k h => by
    unfold rlM roM shM at h
    rw [show rS 483 = 448 from rfl] at h
    omega
  refine ⟨q1, edv_fr hE q2 (fun k a b _ z => by have := nm k z; omega) (fun z => by have := nm _ z; omega) q3, to_fr hu q2 (fun k a b z => by have := nm k z; omega), fun W h => to_fr h q2 (fun k a b z => by have := nm k z; omega), fr_mono q2 rlM_L⟩
theorem ed_hold {i : Int} (hd : 20 ≤ d) (hc2 : gT c2) (hn : c2 < 320) (h : TR V ∧ PZL V) (hE : EdV tn V bk S) (hu : TO c2 (U, false) S) (hi : inr i) : Ev (fun n => f_X1_holdAt n d 0 S [((c2 : Nat) : Int), i]) (fun x S1 => ((((kdI U i = 3 ∧ isP (tI U i)) ∧ ldT (tI U i) V (nW (tI U i)) ≠ -1) ∧ x = 1 ∧ RoS 483 (tI U i) S1 ∧ TO 368 (kyT (sg V (ldT (tI U i) V (nW (tI U i))).toNat) [], false) S1) ∨ (¬ ((kdI U i = 3 ∧ isP (tI U i)) ∧ ldT (tI U i) V (nW (tI U i)) ≠ -1) ∧ x = 0)) ∧ EdV tn V bk S1 ∧ TO c2 (U, false) S1 ∧ Fr edL S S1) := by
  have pz := pz_l h.2
  have lV : V.length ≤ 100 := tv_l hE.1.1
  have tr := tI_rng hu.1 i
  generalize hl : tI U i = l at *
  refine ev_up (fun n => e_X1_holdAt_0) ?_
  unfold b_X1_holdAt_0
  refine ev_gg (by omega) ?_
  have et := ed_text (d := d - 1) (i := i) (by omega) hc2 hn hE hu hi
  rw [hl] at et
  refine ev_gc et (fun x S1 q1 => ?_)
  obtain ⟨q1, E1, u1, -, m1⟩ := q1
  rcases q1 with ⟨p1, rfl, r1⟩ | ⟨p1, rfl⟩
  · refine ev_gg (by decide) ?_
    refine ev_ite (fun _ => ?_) (fun z => absurd (by decide) z)
    refine ev_gcr (ro_steps gRo483 r1) ?_
    refine ev_gc (ed_leads (d := d - 1) gRo483 (by omega) h p1.2 tr.1 r1 (ev_eds E1)) (fun x S2 q2 => ?_)
    obtain ⟨rfl, E2, m2, r2⟩ := q2
    have no : nOK V (ldT l V (nW l)) := ldF_r h.1.1 pz _ _ _ (Or.inr (by have := h.1.2.1; omega))
    have m2' : Fr edL S1 S2 := fr_mono E2.2.2.2.1 (fun _ z => edP_L z)
    have u2 : TO c2 (U, false) S2 := to_fr u1 m2 (fun k a b => by rw [show rW 483 = 450 from rfl]; unfold shM; omega)
    have sz : szI V (ldT l V (nW l)) = if ldT l V (nW l) = -1 then 0 else (nz V (ldT l V (nW l)).toNat : Int) := by
      unfold szI
      rcases no with z | z
      · rw [if_neg (by omega), if_pos z]
      · rw [if_pos z, if_neg (by omega)]
    have cp := ty_copyOf (d := d - 1) (S := S2) (c := 368) (c2 := 360) (U := V) (o := false) (f := ldT l V (nW l)) gT368 gT360 (by decide) (by omega) E2.1.1 E2.1.2 (by rcases no with z | z <;> constructor <;> omega) (by
      rw [sz]
      rcases no with z | z
      · right; rw [if_pos z]; decide
      · left; rw [if_neg (by omega)]; have := h.1.1.1 (ldT l V (nW l)).toNat (by omega); omega) E2.2.2.2.2
    refine ev_gc cp (fun _ S3 q3 => ?_)
    have E3 : EdV tn V bk S3 := edv_fr (eds_ev E2) q3.2.2.1 (fun k a b c => by unfold trM; omega) (by unfold trM; omega) q3.2.2.2
    have u3 : TO c2 (U, false) S3 := to_fr u2 q3.2.2.1 (fun k a b => by unfold trM; omega)
    have m3 : Fr edL S S3 := fr_tr m1 (fr_tr m2' (fr_mono q3.2.2.1 (fun k z => by unfold trM at z; unfold edL; omega)))
    have r3 : RoS 483 l S3 := ro_fr r2 q3.2.2.1 (by unfold trM; omega) (by unfold trM; omega) (by rw [show rS 483 = 448 from rfl]; unfold trM; omega) (by rw [show rS 483 = 448 from rfl]; unfold trM; omega)
    refine ev_gg (by rcases no with z | z <;> constructor <;> omega) ?_
    by_cases c : ldT l V (nW l) = -1
    · refine ev_ite (fun _ => ?_) (fun z => absurd c z)
      exact ev_ret ⟨Or.inr ⟨fun z => z.2 c, rfl⟩, E3, u3, m3⟩
    · refine ev_ite (fun z => absurd z c) (fun _ => ?_)
      refine ev_ret ⟨Or.inl ⟨⟨p1, c⟩, rfl, r3, ?_⟩, E3, u3, m3⟩
      have nv : 0 ≤ ldT l V (nW l) ∧ ldT l V (nW l) < (V.length : Int) := by rcases no with z | z; exact absurd z c; exact z
      have hin : (ldT l V (nW l)).toNat < V.length := by omega
      have hw := h.1.1.1 _ hin
      have hzn := pz (ldT l V (nW l)).toNat
      have es : seg V (ldT l V (nW l)).toNat (nz V (ldT l V (nW l)).toNat) = sg V (ldT l V (nW l)).toNat := rfl
      have ls := sg_len h.1.1 hin
      have ec : cpW V false (ldT l V (nW l)) = (kyT (sg V (ldT l V (nW l)).toNat) [], false) := by
        unfold cpW apW
        rw [sz, if_neg c, if_pos ⟨rfl, by omega, by show (0 : Int) + _ ≤ 100; omega⟩, Int.toNat_natCast, es, List.nil_append]
        unfold cKy
        rw [if_pos ⟨Int.le_refl _, by show (0 : Int) < ((sg V (ldT l V (nW l)).toNat).length : Int); omega⟩]
        show ((sg V (ldT l V (nW l)).toNat).set 0 _, false) = _
        rw [show (0 : Int).toNat = 0 from rfl, e_ky (by omega)]
      rw [← ec]
      exact to_ty q3
  · refine ev_gg (by decide) ?_
    refine ev_ite (fun z => absurd rfl z) (fun _ => ?_)
    exact ev_ret ⟨Or.inr ⟨fun z => p1 z.1, rfl⟩, E1, u1, m1⟩
theorem ed_exch {j : Nat} (hd : 20 ≤ d) (hc2 : gT c2) (hn : c2 < 320) (h : TR V ∧ PZL V) (hp : isP l) (hl : rng l) (hr : RoS 483 l S) (hE : EdV tn V bk S) (hu : TO c2 (U, false) S) (hU : WF U) (hj : j < U.length) : Ev (fun n => f_X1_exchange n d 0 S [((c2 : Nat) : Int), (j : Int)]) (LoQ tn (if tn then recS bk 21 l [sg V (ldT l V (nW l)).toNat] else bk) (if ldT l V (nW l) = -1 then none else some (updF (fun t => kyT (sg U j) (rq t)) V.length V (ldT l V (nW l)).toNat)) S) := by
  have pz := pz_l h.2
  have lV : V.length ≤ 100 := tv_l hE.1.1
  have no : nOK V (ldT l V (nW l)) := ldF_r h.1.1 pz _ _ _ (Or.inr (by have := h.1.2.1; omega))
  have hzU : PZL U := nr_pzl hu.1.2.2.2
  have zj : 1 ≤ nz U j := pz_l hzU j
  have wj := hU.1 j hj
  have tt := tr_sg hU hzU hj
  refine ev_up (fun n => e_X1_exchange_0) ?_
  unfold b_X1_exchange_0
  refine ev_gg (by omega) ?_
  refine ev_gcr (ro_steps gRo483 hr) ?_
  refine ev_gc (ed_leads (d := d - 1) gRo483 (by omega) h hp hl hr (ev_eds hE)) (fun x S1 q1 => ?_)
  obtain ⟨rfl, E1, m1, r1⟩ := q1
  have u1 : TO c2 (U, false) S1 := to_fr hu m1 (fun k a b => by rw [show rW 483 = 450 from rfl]; unfold shM; omega)
  refine ev_gg (by rcases no with z | z <;> constructor <;> omega) ?_
  unfold LoQ
  by_cases c : ldT l V (nW l) = -1
  · rw [if_pos c]
    refine ev_ite (fun z => absurd c z) (fun _ => ?_)
    exact ev_ret ⟨rfl, fr_mono E1.2.2.2.1 (fun _ z => edP_L z), E1.2.2.2.2⟩
  rw [if_neg c]
  refine ev_ite (fun _ => ?_) (fun z => absurd (fun w => c w) z)
  obtain ⟨i, hi⟩ : ∃ i : Nat, ldT l V (nW l) = (i : Int) := ⟨(ldT l V (nW l)).toNat, by rcases no with z | z <;> omega⟩
  rw [hi] at no ⊢
  rw [Int.toNat_natCast]
  have il : i < V.length := by rcases no with z | z <;> omega
  have lt := (upd_tr (h := fun c => kyT (sg U j) (rq c)) V.length V i (Nat.le_refl _) h il ⟨tr_ky tt.1, pzl_ky tt.1.2.1 tt.2⟩)
  have lsU := sg_len hU hj
  have lsV := sg_len h.1.1 il
  have ll := lt.2
  rw [ky_len tt.1.2.1, lsU, lsV] at ll
  have ru := rpl_upd h il hU hzU hj
  have fin : ∀ (S3 : GS) (bk' : Option (List (List ND))), EdS tn V bk' S S3 → TO c2 (U, false) S3 → Ev (fun n => f_X1_exchange n d 55 S3 [((c2 : Nat) : Int), (j : Int), (i : Int)]) (fun x S4 => (x = 1 ∧ (TR (updF (fun t => kyT (sg U j) (rq t)) V.length V i) ∧ PZL (updF (fun t => kyT (sg U j) (rq t)) V.length V i)) ∧ (((updF (fun t => kyT (sg U j) (rq t)) V.length V i).length ≤ 100 ∧ EdV tn (updF (fun t => kyT (sg U j) (rq t)) V.length V i) bk' S4) ∨ (¬ (updF (fun t => kyT (sg U j) (rq t)) V.length V i).length ≤ 100 ∧ ∃ V', TO 360 (V', true) S4))) ∧ Fr edL S S4 ∧ Good S4) := by
    intro S3 bk' E3 u3
    have rp := ty_replace (d := d - 1) (S0 := S3) (c := 360) (c2 := c2) (i := i) (j := j) (W := (V, false)) gT360 hc2 (by omega) (by omega) u3.1 u3.2 il hj wj (fun p h1 h2 => by
      refine ⟨?_, h.1.1.1 p (by omega)⟩
      by_cases q : p = i
      · subst q; exact Nat.le_refl _
      · exact h.1.1.2.1 p _ (by omega) h2) (ty_to E3.1 E3.2.2.2.2)
    refine ev_up (fun n => e_X1_exchange_55) ?_
    unfold b_X1_exchange_55
    refine ev_gg (by omega) ?_
    refine ev_gc rp (fun _ S4 q4 => ?_)
    by_cases cf : false = false ∧ (V, false).1.length + nz U j ≤ 100 + nz V i
    · rw [if_pos cf] at q4
      have cf' : V.length + nz U j ≤ 100 + nz V i := cf.2
      have q4' : TY 360 S3 (updF (fun t => kyT (sg U j) (rq t)) V.length V i, false) S4 := by rw [← ru]; exact q4
      refine ev_ret ⟨⟨rfl, lt.1, Or.inl ⟨by omega, to_ty q4', ?_, bk_fr E3.2.2.1 q4'.2.2.1 (fun k a b => by unfold trM; omega), q4'.2.2.2⟩⟩, fr_tr (fr_mono E3.2.2.2.1 (fun _ z => edP_L z)) (fr_mono q4'.2.2.1 (fun k z => by unfold trM at z; unfold edL; omega)), q4'.2.2.2⟩
      rw [(q4'.2.2.1 482 (by unfold trM; omega)).2.1]
      exact E3.2.1
    · rw [if_neg cf] at q4
      have cf' : ¬ (V.length + nz U j ≤ 100 + nz V i) := fun y => cf ⟨rfl, y⟩
      exact ev_ret ⟨⟨rfl, lt.1, Or.inr ⟨by omega, V, to_ty q4⟩⟩, fr_tr (fr_mono E3.2.2.2.1 (fun _ z => edP_L z)) (fr_mono q4.2.2.1 (fun k z => by unfold trM at z; unfold edL; omega)), q4.2.2.2⟩
  rw [E1.2.1]
  refine ev_gv ?_
  cases htn : tn with
  | false =>
    refine ev_gg (by decide) ?_
    refine ev_ite (fun _ => ?_) (fun y => absurd rfl y)
    have k := fin S1 bk E1 u1
    rw [htn] at k
    exact k
  | true =>
    refine ev_gg (by decide) ?_
    refine ev_ite (fun y => absurd y (by decide)) (fun _ => ?_)
    rw [htn] at E1
    refine ed_back (d := d) (op := 21) (c2 := 360) (j := i) (m := fun n S_18 => f_X1_exchange n d 55 S_18 [((c2 : Nat) : Int), (j : Int), (i : Int)]) (by decide) gRo483 (by omega) h hl r1 E1 gT360 (by decide) E1.1 h.1.1 il (fun S3 E3 _ low => ?_)
    have k := fin S3 (recS bk 21 l [sg V i]) (by rw [htn]; exact E3) (low_to hc2 (Or.inl hn) u1 low)
    rw [htn] at k
    exact k
theorem ed_there {j : Nat} (hd : 40 ≤ d) (hc2 : gT c2) (hn : c2 < 320) (h : TR V ∧ PZL V) (hp : isP l) (hl : rng l) (hr : RoS 483 l S) (hE : EdV tn V bk S) (hu : TO c2 (U, false) S) (hU : WF U) (hj : j < U.length) : Ev (fun n => f_X1_isThere n d 0 S [((c2 : Nat) : Int), (j : Int)]) (LoQ tn (if tn then recS bk 30 l [sg U j] else bk) (if ldT l V (nW l) = -1 then none else if smJ 13 V (ldT l V (nW l)).toNat U (j : Int) then some V else none) S) := by
  have pz := pz_l h.2
  have lV : V.length ≤ 100 := tv_l hE.1.1
  have lU : U.length ≤ 100 := tv_l hu.1
  have no : nOK V (ldT l V (nW l)) := ldF_r h.1.1 pz _ _ _ (Or.inr (by have := h.1.2.1; omega))
  refine ev_up (fun n => e_X1_isThere_0) ?_
  unfold b_X1_isThere_0
  refine ev_gg (by omega) ?_
  refine ev_gcr (ro_steps gRo483 hr) ?_
  refine ev_gc (ed_leads (d := d - 1) gRo483 (by omega) h hp hl hr (ev_eds hE)) (fun x S1 q1 => ?_)
  obtain ⟨rfl, E1, m1, r1⟩ := q1
  have u1 : TO c2 (U, false) S1 := to_fr hu m1 (fun k a b => by rw [show rW 483 = 450 from rfl]; unfold shM; omega)
  have L1 : Fr edL S S1 := fr_mono E1.2.2.2.1 (fun _ z => edP_L z)
  refine ev_gg (by rcases no with z | z <;> constructor <;> omega) ?_
  unfold LoQ
  by_cases c : ldT l V (nW l) = -1
  · rw [if_pos c]
    refine ev_ite (fun _ => ?_) (fun z => absurd c z)
    exact ev_ret ⟨rfl, L1, E1.2.2.2.2⟩
  rw [if_neg c]
  refine ev_ite (fun z => absurd z c) (fun _ => ?_)
  obtain ⟨i, hi⟩ : ∃ i : Nat, ldT l V (nW l) = (i : Int) := ⟨(ldT l V (nW l)).toNat, by rcases no with z | z <;> omega⟩
  rw [hi] at no ⊢
  rw [Int.toNat_natCast]
  have il : i < V.length := by rcases no with z | z <;> omega
  have sm := t_same (S := S1) (c := 360) (c2 := c2) (V := V) (U := U) gT360 hc2 E1.1.1 u1.1 h.1.1 hU 13 i (d - 1) (j : Int) (Nat.le_refl _) il (by constructor <;> omega) (by omega)
  rw [show (13 : Int) - ((13 : Nat) : Int) = 0 by decide] at sm
  refine ev_gcr sm ?_
  by_cases cs : smJ 13 V i U (j : Int) = true
  · rw [if_pos cs, if_pos cs]
    refine ev_gg (by decide) ?_
    refine ev_ite (fun _ => ?_) (fun z => absurd (by decide) z)
    rw [E1.2.1]
    refine ev_gv ?_
    cases htn : tn with
    | false =>
      rw [htn] at E1
      refine ev_gg (by decide) ?_
      refine ev_ite (fun _ => ?_) (fun y => absurd rfl y)
      exact ev_ret ⟨⟨rfl, h, Or.inl ⟨lV, eds_ev E1⟩⟩, L1, E1.2.2.2.2⟩
    | true =>
      refine ev_gg (by decide) ?_
      refine ev_ite (fun y => absurd y (by decide)) (fun _ => ?_)
      rw [htn] at E1
      refine ed_back (d := d) (op := 30) (c2 := c2) (j := j) (m := fun n S_23 => some (1, S_23)) (by decide) gRo483 (by omega) h hl r1 E1 hc2 (by omega) u1 hU hj (fun S3 E3 _ low => ?_)
      exact ev_ret ⟨⟨rfl, h, Or.inl ⟨lV, eds_ev E3⟩⟩, fr_mono E3.2.2.2.1 (fun _ z => edP_L z), E3.2.2.2.2⟩
  · rw [if_neg cs, if_neg cs]
    refine ev_gg (by decide) ?_
    refine ev_ite (fun z => absurd rfl z) (fun _ => ?_)
    exact ev_ret ⟨rfl, L1, E1.2.2.2.2⟩
end ED7
